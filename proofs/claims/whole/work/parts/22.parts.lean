theorem hj_new_b (N : Nat) : ∀ cA : ClassId, vp_cell cA (N, .inl (hj_B (fun _ => 0))) = arrV cA N (fun _ => defaultValue .byte) := by
  intro cA
  rw [vp_cell_i]
  have h : sb_b 0 = 0 := by decide
  show arrV cA N (fun _ => .int (sb_b 0)) = _
  rw [h]
  rfl
theorem hj_dec_le {du : Int32} (h : du ≤ 0) : hj_dec du = du := if_neg (fun q => Int32.lt_irrefl (Int32.lt_of_lt_of_le q h))
theorem hj_dec_gt {du : Int32} (h : ¬ du ≤ 0) : hj_dec du = du - 1 := if_pos (Int32.not_le.mp h)
theorem hj_up_same {f : Nat → Int32} {i : Nat} {x : Int32} (h : f i = x) : f = va_up f i x := by
  funext q
  unfold va_up
  by_cases z : q = i
  · rw [if_pos z, z, h]
  · rw [if_neg z]
abbrev rm_D_init : Room := { frames := 8, cells := 1, slots := 32768, locals := 100 }
set_option maxHeartbeats 4000000 in
set_option maxRecDepth 100000 in
theorem c_D_init (l : Launch) (dC : Nat → ClassId) (dI : Nat → Nat → Nat) (h0 : Nat) : hj_Mv l y_D_init b_D_init 1 rm_D_init hj_EX (dC, dI) vwCl [] [(h0, .inr (0, [.null, .int 0, .int 0]))] [.ref h0] (fun _ => True) (fun u : Nat × ClassId => [(h0, .inr (0, [.ref u.1, .int (-1), .int (nI 0)])), (u.1, .inl (u.2, 32768, .inl (hj_B (fun _ => 0))))]) (fun u => [(u.2, .byte)]) 1 32768 := by
  refine hj_bodyV (by decide +kernel) (Nat.le_of_ble_eq_true rfl) ?_
  intro p e s m args below meth c A Q ls hx hb hts hown hml hin hA hP hK hD hE hl hret
  have hS : va_S A s.heap s.heap [] := va_S.rf
  have hown : s.vm.findClass "HalfJournal$Disk" = some m.cls := hown
  have hl : lv_has ls 1 [(0, .ref h0)] := hl
  have hP : va_P (dC, dI) vwCl [(h0, .inr (0, [.null, .int 0, .int 0]))] s.heap := hP
  have hD : va_D A [(h0, .inr (0, [.null, .int 0, .int 0]))] := hD
  refine lv_aload_n hx hb d_D_init_0 rfl (lv_at hl 0 rfl) ?_
  refine W.objInit hx hb hown (hts _ m_35) (hts _ m_28) (hts _ m_29) rfl (by rw [hml]; exact hl.1) rfl d_D_init_1 (Nat.le_of_ble_eq_true rfl) (Nat.le_of_ble_eq_true rfl) ?_
  refine W.eq (g2 := F0 m 4 ls []) rfl ?_
  refine lv_aload_n hx hb d_D_init_4 rfl (lv_at hl 0 rfl) ?_
  refine lv_ldc (own := "HalfJournal$Disk") (v := (32768)) hx hb hown (hts _ m_36) d_D_init_5 ?_
  refine hj_topv (y := nI 32768) (by decide +kernel) ?_
  refine va_newa (a0 := (32768, .inl (hj_B (fun _ => 0)))) (N' := 32768) (atype := .byte) (ty := .byte) hx hb (hts _ m_50) rfl hK hP hD hS hA (hj_new_b _) (nI_pos (by decide)) (nI_clamp (by decide)) (by decide) (Nat.le_of_ble_eq_true rfl) (Nat.le_of_ble_eq_true rfl) d_D_init_7 (fun q cA H hK hP hD hS => ?_)
  have hP : va_P (dC, dI) vwCl [(h0, .inr (0, [.null, .int 0, .int 0])), (q, .inl (cA, 32768, .inl (hj_B (fun _ => 0))))] H := hP
  have hD : va_D A [(h0, .inr (0, [.null, .int 0, .int 0])), (q, .inl (cA, 32768, .inl (hj_B (fun _ => 0))))] := hD
  have hK : va_K (dC, dI) vwCl [(cA, .byte)] s := hK
  refine va_putF (D := (dC, dI)) (ci := 0) (v := .ref q) (ty := (.array .byte)) (C := "HalfJournal$Disk") (T := F_D) (N := 3) hx hb hts i_D t_D t_D_ok n_D hown hK hP hD hS 0 rfl rfl 0 (by decide) (hts _ m_37) (fun _ h9 => h9) rfl hin rfl (by decide +kernel) rfl rfl (Nat.le_of_ble_eq_true rfl) d_D_init_9 (fun H locs hP hD hS => ?_)
  have hP : va_P (dC, dI) vwCl [(h0, .inr (0, [.ref q, .int 0, .int 0])), (q, .inl (cA, 32768, .inl (hj_B (fun _ => 0))))] H := hP
  have hD : va_D A [(h0, .inr (0, [.ref q, .int 0, .int 0])), (q, .inl (cA, 32768, .inl (hj_B (fun _ => 0))))] := hD
  refine lv_aload_n hx hb d_D_init_12 rfl (lv_at hl 0 rfl) ?_
  refine lv_iconst (v := (-1)) hx hb d_D_init_13 (by decide) ?_
  refine va_put (D := (dC, dI)) (ci := 0) (v := .int (-1)) (ty := (.int)) (C := "HalfJournal$Disk") (T := F_D) (N := 3) hx hb hts i_D t_D t_D_ok n_D hown hK hP hD hS 0 rfl rfl 1 (by decide) (hts _ m_39) (fun _ h9 => h9) rfl (by decide +kernel) rfl rfl (Nat.le_of_ble_eq_true rfl) d_D_init_14 (fun H locs hP hD hS => ?_)
  have hP : va_P (dC, dI) vwCl [(h0, .inr (0, [.ref q, .int (-1), .int 0])), (q, .inl (cA, 32768, .inl (hj_B (fun _ => 0))))] H := hP
  have hD : va_D A [(h0, .inr (0, [.ref q, .int (-1), .int 0])), (q, .inl (cA, 32768, .inl (hj_B (fun _ => 0))))] := hD
  refine lv_aload_n hx hb d_D_init_17 rfl (lv_at hl 0 rfl) ?_
  refine lv_iconst (v := nI 0) hx hb d_D_init_18 (by decide) ?_
  refine va_put (D := (dC, dI)) (ci := 0) (v := .int (nI 0)) (ty := (.int)) (C := "HalfJournal$Disk") (T := F_D) (N := 3) hx hb hts i_D t_D t_D_ok n_D hown hK hP hD hS 0 rfl rfl 2 (by decide) (hts _ m_41) (fun _ h9 => h9) rfl (by decide +kernel) rfl rfl (Nat.le_of_ble_eq_true rfl) d_D_init_19 (fun H locs hP hD hS => ?_)
  have hP : va_P (dC, dI) vwCl [(h0, .inr (0, [.ref q, .int (-1), .int (nI 0)])), (q, .inl (cA, 32768, .inl (hj_B (fun _ => 0))))] H := hP
  have hD : va_D A [(h0, .inr (0, [.ref q, .int (-1), .int (nI 0)])), (q, .inl (cA, 32768, .inl (hj_B (fun _ => 0))))] := hD
  exact hret (q, cA) _ _ _ _ d_D_init_22 (trivial) hP hK hD hS
abbrev rm_D_write : Room := { frames := 24, cells := 0, slots := 0, locals := 300 }
set_option maxHeartbeats 4000000 in
set_option maxRecDepth 100000 in
theorem c_D_write (l : Launch) (dC : Nat → ClassId) (dI : Nat → Nat → Nat) (h0 a : Nat) (cA : ClassId) (d : Nat → Nat) (du wr : Int32) (a2 : Nat) (cA2 : ClassId) (n2 : Nat) (r9 : Nat → Nat) (b f : Nat) (hn2 : n2 < 2 ^ 31) (hb9 : b < 64) (hf : f + 512 ≤ n2) : hj_Mi l y_D_write b_D_write 4 .boolean rm_D_write hj_EX (dC, dI) vwCl [(cA, .byte), (cA2, .byte)] [(h0, .inr (0, [.ref a, .int du, .int wr])), (a, .inl (cA, 32768, .inl (hj_B d))), (a2, .inl (cA2, n2, .inl (hj_B r9)))] [.ref h0, .int (nI b), .ref a2, .int (nI f)] (fun r u => (du = 0 ∧ r = nI 0 ∧ u.1 = d ∧ u.2.1 = -1 ∧ u.2.2 = wr) ∨ (¬ du = 0 ∧ r = nI 1 ∧ u.1 = hj_blk d b r9 f ∧ u.2.1 = hj_dec du ∧ u.2.2 = wr + 1)) (fun u : (Nat → Nat) × Int32 × Int32 => [(h0, .inr (0, [.ref a, .int u.2.1, .int u.2.2])), (a, .inl (cA, 32768, .inl (hj_B u.1))), (a2, .inl (cA2, n2, .inl (hj_B r9)))]) (fun _ => [(cA, .byte), (cA2, .byte)]) 0 0 := by
  refine hj_bodyI (by decide +kernel) (Nat.le_of_ble_eq_true rfl) ?_
  intro p e s m args below meth c A Q ls hx hb hts hown hml hA hP hK hD hE hl hret
  have hS : va_S A s.heap s.heap [] := va_S.rf
  have hown : s.vm.findClass "HalfJournal$Disk" = some m.cls := hown
  have hl : lv_has ls 4 [(0, .ref h0), (1, .int (nI b)), (2, .ref a2), (3, .int (nI f))] := hl
  have hP : va_P (dC, dI) vwCl [(h0, .inr (0, [.ref a, .int du, .int wr])), (a, .inl (cA, 32768, .inl (hj_B d))), (a2, .inl (cA2, n2, .inl (hj_B r9)))] s.heap := hP
  have hD : va_D A [(h0, .inr (0, [.ref a, .int du, .int wr])), (a, .inl (cA, 32768, .inl (hj_B d))), (a2, .inl (cA2, n2, .inl (hj_B r9)))] := hD
  refine lv_aload_n hx hb d_D_write_0 rfl (lv_at hl 0 rfl) ?_
  refine va_get (D := (dC, dI)) (ci := 0) (v := .int du) (C := "HalfJournal$Disk") (T := F_D) (N := 3) hx hb hts i_D hown hK hP 0 rfl rfl 1 (by decide) (hts _ m_39) (fun _ h9 => h9) rfl d_D_write_1 ?_
  refine lv_if_ne (tgt := 14) hx hb d_D_write_4 (by decide) (fun c_1 => ?_) (fun c_1 => ?_)
  · refine lv_aload_n hx hb d_D_write_14 rfl (lv_at hl 0 rfl) ?_
    refine va_get (D := (dC, dI)) (ci := 0) (v := .int du) (C := "HalfJournal$Disk") (T := F_D) (N := 3) hx hb hts i_D hown hK hP 0 rfl rfl 1 (by decide) (hts _ m_39) (fun _ h9 => h9) rfl d_D_write_15 ?_
    refine lv_if_le (tgt := 31) hx hb d_D_write_18 (by decide) (fun c_2 => ?_) (fun c_2 => ?_)
    · refine lv_aload_n hx hb d_D_write_31 rfl (lv_at hl 2 rfl) ?_
      refine lv_iload_n hx hb d_D_write_32 rfl (lv_at hl 3 rfl) ?_
      refine lv_aload_n hx hb d_D_write_33 rfl (lv_at hl 0 rfl) ?_
      refine va_get (D := (dC, dI)) (ci := 0) (v := .ref a) (C := "HalfJournal$Disk") (T := F_D) (N := 3) hx hb hts i_D hown hK hP 0 rfl rfl 0 (by decide) (hts _ m_37) (fun _ h9 => h9) rfl d_D_write_34 ?_
      refine lv_iload_n hx hb d_D_write_37 rfl (lv_at hl 1 rfl) ?_
      refine lv_sipush (v := nI 512) hx hb d_D_write_38 (by decide) ?_
      refine hj_imul hx hb d_D_write_41 ?_
      refine lv_sipush (v := nI 512) hx hb d_D_write_42 (by decide) ?_
      refine hj_callv (wc := [(a2, .inl (cA2, n2, .inl (hj_B r9))), (a, .inl (cA, 32768, .inl (hj_B d)))]) (wr := [(h0, .inr (0, [.ref a, .int du, .int wr]))]) [2, 1] [0] hP hD hS hA rfl rfl rfl (by decide) (va_runSN (As := [.ref a2, .int (nI f), .ref a, .int (nI (b * 512)), .int (nI 512)]) (rest := []) ⟨hx, hb, hml, hown, hts⟩ (c_J_copyBytes l dC dI a2 cA2 n2 r9 a cA 32768 d f (b * 512) 512 hn2 (by omega) hf (by omega) s.heap.size) ⟨va_cnB 5 hts (hj_gC m_606) rfl rfl rfl (hE.1 _ m_616) (hts _ m_1) (by decide +kernel) ⟨Nat.le_of_ble_eq_true rfl, Nat.le_of_ble_eq_true rfl⟩, hts _ m_605, trivial⟩ (hj_preS hj_EXok hE hP hD hK hS hA [2, 1] rfl rfl [1, 0] rfl) rfl rfl hl.1 rfl (lv_room (Nat.le_of_ble_eq_true rfl)) d_D_write_45 ⟨Nat.le_of_ble_eq_true rfl, Nat.le_of_ble_eq_true rfl⟩) (fun u_2 H locs hw hP hD hK1 hS => ?_)
      have hP : va_P (dC, dI) vwCl [(h0, .inr (0, [.ref a, .int du, .int wr])), (a, .inl (cA, 32768, .inl (hj_B (va_cpy r9 d f (b * 512) 512)))), (a2, .inl (cA2, n2, .inl (hj_B r9)))] H := hP.sub [0, 2, 1] rfl
      have hD : va_D A [(h0, .inr (0, [.ref a, .int du, .int wr])), (a, .inl (cA, 32768, .inl (hj_B (va_cpy r9 d f (b * 512) 512)))), (a2, .inl (cA2, n2, .inl (hj_B r9)))] := hD.sub [0, 2, 1] (by decide) rfl
      have h9 : (va_cpy r9 d f (b * 512) 512 : Nat → Nat) = hj_blk d b r9 f := by rw [Nat.mul_comm b 512]; rfl
      rw [h9] at hP hD
      have hP : va_P (dC, dI) vwCl [(h0, .inr (0, [.ref a, .int du, .int wr])), (a, .inl (cA, 32768, .inl (hj_B (hj_blk d b r9 f)))), (a2, .inl (cA2, n2, .inl (hj_B r9)))] H := hP
      have hD : va_D A [(h0, .inr (0, [.ref a, .int du, .int wr])), (a, .inl (cA, 32768, .inl (hj_B (hj_blk d b r9 f)))), (a2, .inl (cA2, n2, .inl (hj_B r9)))] := hD
      refine lv_aload_n hx hb d_D_write_48 rfl (lv_at hl 0 rfl) ?_
      refine lv_dup hx hb d_D_write_49 rfl ?_
      refine va_get (D := (dC, dI)) (ci := 0) (v := .int wr) (C := "HalfJournal$Disk") (T := F_D) (N := 3) hx hb hts i_D hown hK hP 0 rfl rfl 2 (by decide) (hts _ m_41) (fun _ h9 => h9) rfl d_D_write_50 ?_
      refine lv_iconst (v := nI 1) hx hb d_D_write_53 (by decide) ?_
      refine lv_iadd hx hb d_D_write_54 ?_
      refine va_put (D := (dC, dI)) (ci := 0) (v := .int (wr + (nI 1))) (ty := (.int)) (C := "HalfJournal$Disk") (T := F_D) (N := 3) hx hb hts i_D t_D t_D_ok n_D hown hK hP hD hS 0 rfl rfl 2 (by decide) (hts _ m_41) (fun _ h9 => h9) rfl (by decide +kernel) rfl rfl (Nat.le_of_ble_eq_true rfl) d_D_write_55 (fun H locs hP hD hS => ?_)
      have hP : va_P (dC, dI) vwCl [(h0, .inr (0, [.ref a, .int du, .int (wr + (nI 1))])), (a, .inl (cA, 32768, .inl (hj_B (hj_blk d b r9 f)))), (a2, .inl (cA2, n2, .inl (hj_B r9)))] H := hP
      have hD : va_D A [(h0, .inr (0, [.ref a, .int du, .int (wr + (nI 1))])), (a, .inl (cA, 32768, .inl (hj_B (hj_blk d b r9 f)))), (a2, .inl (cA2, n2, .inl (hj_B r9)))] := hD
      refine lv_iconst (v := nI 1) hx hb d_D_write_58 (by decide) ?_
      exact hret (nI 1) (hj_blk d b r9 f, du, wr + nI 1) _ _ _ _ d_D_write_59 rfl (Or.inr ⟨c_1, rfl, rfl, (hj_dec_le c_2).symm, rfl⟩) hP hK hD hS
    · refine lv_aload_n hx hb d_D_write_21 rfl (lv_at hl 0 rfl) ?_
      refine lv_dup hx hb d_D_write_22 rfl ?_
      refine va_get (D := (dC, dI)) (ci := 0) (v := .int du) (C := "HalfJournal$Disk") (T := F_D) (N := 3) hx hb hts i_D hown hK hP 0 rfl rfl 1 (by decide) (hts _ m_39) (fun _ h9 => h9) rfl d_D_write_23 ?_
      refine lv_iconst (v := nI 1) hx hb d_D_write_26 (by decide) ?_
      refine lv_isub hx hb d_D_write_27 ?_
      refine va_put (D := (dC, dI)) (ci := 0) (v := .int (du - (nI 1))) (ty := (.int)) (C := "HalfJournal$Disk") (T := F_D) (N := 3) hx hb hts i_D t_D t_D_ok n_D hown hK hP hD hS 0 rfl rfl 1 (by decide) (hts _ m_39) (fun _ h9 => h9) rfl (by decide +kernel) rfl rfl (Nat.le_of_ble_eq_true rfl) d_D_write_28 (fun H locs hP hD hS => ?_)
      have hP : va_P (dC, dI) vwCl [(h0, .inr (0, [.ref a, .int (du - (nI 1)), .int wr])), (a, .inl (cA, 32768, .inl (hj_B d))), (a2, .inl (cA2, n2, .inl (hj_B r9)))] H := hP
      have hD : va_D A [(h0, .inr (0, [.ref a, .int (du - (nI 1)), .int wr])), (a, .inl (cA, 32768, .inl (hj_B d))), (a2, .inl (cA2, n2, .inl (hj_B r9)))] := hD
      refine lv_aload_n hx hb d_D_write_31 rfl (lv_at hl 2 rfl) ?_
      refine lv_iload_n hx hb d_D_write_32 rfl (lv_at hl 3 rfl) ?_
      refine lv_aload_n hx hb d_D_write_33 rfl (lv_at hl 0 rfl) ?_
      refine va_get (D := (dC, dI)) (ci := 0) (v := .ref a) (C := "HalfJournal$Disk") (T := F_D) (N := 3) hx hb hts i_D hown hK hP 0 rfl rfl 0 (by decide) (hts _ m_37) (fun _ h9 => h9) rfl d_D_write_34 ?_
      refine lv_iload_n hx hb d_D_write_37 rfl (lv_at hl 1 rfl) ?_
      refine lv_sipush (v := nI 512) hx hb d_D_write_38 (by decide) ?_
      refine hj_imul hx hb d_D_write_41 ?_
      refine lv_sipush (v := nI 512) hx hb d_D_write_42 (by decide) ?_
      refine hj_callv (wc := [(a2, .inl (cA2, n2, .inl (hj_B r9))), (a, .inl (cA, 32768, .inl (hj_B d)))]) (wr := [(h0, .inr (0, [.ref a, .int (du - (nI 1)), .int wr]))]) [2, 1] [0] hP hD hS hA rfl rfl rfl (by decide) (va_runSN (As := [.ref a2, .int (nI f), .ref a, .int (nI (b * 512)), .int (nI 512)]) (rest := []) ⟨hx, hb, hml, hown, hts⟩ (c_J_copyBytes l dC dI a2 cA2 n2 r9 a cA 32768 d f (b * 512) 512 hn2 (by omega) hf (by omega) H.size) ⟨va_cnB 5 hts (hj_gC m_606) rfl rfl rfl (hE.1 _ m_616) (hts _ m_1) (by decide +kernel) ⟨Nat.le_of_ble_eq_true rfl, Nat.le_of_ble_eq_true rfl⟩, hts _ m_605, trivial⟩ (hj_preS hj_EXok hE hP hD hK hS hA [2, 1] rfl rfl [1, 0] rfl) rfl rfl hl.1 rfl (lv_room (Nat.le_of_ble_eq_true rfl)) d_D_write_45 ⟨Nat.le_of_ble_eq_true rfl, Nat.le_of_ble_eq_true rfl⟩) (fun u_4 H locs hw hP hD hK1 hS => ?_)
      have hP : va_P (dC, dI) vwCl [(h0, .inr (0, [.ref a, .int (du - (nI 1)), .int wr])), (a, .inl (cA, 32768, .inl (hj_B (va_cpy r9 d f (b * 512) 512)))), (a2, .inl (cA2, n2, .inl (hj_B r9)))] H := hP.sub [0, 2, 1] rfl
      have hD : va_D A [(h0, .inr (0, [.ref a, .int (du - (nI 1)), .int wr])), (a, .inl (cA, 32768, .inl (hj_B (va_cpy r9 d f (b * 512) 512)))), (a2, .inl (cA2, n2, .inl (hj_B r9)))] := hD.sub [0, 2, 1] (by decide) rfl
      have h9 : (va_cpy r9 d f (b * 512) 512 : Nat → Nat) = hj_blk d b r9 f := by rw [Nat.mul_comm b 512]; rfl
      rw [h9] at hP hD
      have hP : va_P (dC, dI) vwCl [(h0, .inr (0, [.ref a, .int (du - (nI 1)), .int wr])), (a, .inl (cA, 32768, .inl (hj_B (hj_blk d b r9 f)))), (a2, .inl (cA2, n2, .inl (hj_B r9)))] H := hP
      have hD : va_D A [(h0, .inr (0, [.ref a, .int (du - (nI 1)), .int wr])), (a, .inl (cA, 32768, .inl (hj_B (hj_blk d b r9 f)))), (a2, .inl (cA2, n2, .inl (hj_B r9)))] := hD
      refine lv_aload_n hx hb d_D_write_48 rfl (lv_at hl 0 rfl) ?_
      refine lv_dup hx hb d_D_write_49 rfl ?_
      refine va_get (D := (dC, dI)) (ci := 0) (v := .int wr) (C := "HalfJournal$Disk") (T := F_D) (N := 3) hx hb hts i_D hown hK hP 0 rfl rfl 2 (by decide) (hts _ m_41) (fun _ h9 => h9) rfl d_D_write_50 ?_
      refine lv_iconst (v := nI 1) hx hb d_D_write_53 (by decide) ?_
      refine lv_iadd hx hb d_D_write_54 ?_
      refine va_put (D := (dC, dI)) (ci := 0) (v := .int (wr + (nI 1))) (ty := (.int)) (C := "HalfJournal$Disk") (T := F_D) (N := 3) hx hb hts i_D t_D t_D_ok n_D hown hK hP hD hS 0 rfl rfl 2 (by decide) (hts _ m_41) (fun _ h9 => h9) rfl (by decide +kernel) rfl rfl (Nat.le_of_ble_eq_true rfl) d_D_write_55 (fun H locs hP hD hS => ?_)
      have hP : va_P (dC, dI) vwCl [(h0, .inr (0, [.ref a, .int (du - (nI 1)), .int (wr + (nI 1))])), (a, .inl (cA, 32768, .inl (hj_B (hj_blk d b r9 f)))), (a2, .inl (cA2, n2, .inl (hj_B r9)))] H := hP
      have hD : va_D A [(h0, .inr (0, [.ref a, .int (du - (nI 1)), .int (wr + (nI 1))])), (a, .inl (cA, 32768, .inl (hj_B (hj_blk d b r9 f)))), (a2, .inl (cA2, n2, .inl (hj_B r9)))] := hD
      refine lv_iconst (v := nI 1) hx hb d_D_write_58 (by decide) ?_
      exact hret (nI 1) (hj_blk d b r9 f, du - nI 1, wr + nI 1) _ _ _ _ d_D_write_59 rfl (Or.inr ⟨c_1, rfl, rfl, (hj_dec_gt c_2).symm, rfl⟩) hP hK hD hS
  · refine lv_aload_n hx hb d_D_write_7 rfl (lv_at hl 0 rfl) ?_
    refine lv_iconst (v := (-1)) hx hb d_D_write_8 (by decide) ?_
    refine va_put (D := (dC, dI)) (ci := 0) (v := .int (-1)) (ty := (.int)) (C := "HalfJournal$Disk") (T := F_D) (N := 3) hx hb hts i_D t_D t_D_ok n_D hown hK hP hD hS 0 rfl rfl 1 (by decide) (hts _ m_39) (fun _ h9 => h9) rfl (by decide +kernel) rfl rfl (Nat.le_of_ble_eq_true rfl) d_D_write_9 (fun H locs hP hD hS => ?_)
    have hP : va_P (dC, dI) vwCl [(h0, .inr (0, [.ref a, .int (-1), .int wr])), (a, .inl (cA, 32768, .inl (hj_B d))), (a2, .inl (cA2, n2, .inl (hj_B r9)))] H := hP
    have hD : va_D A [(h0, .inr (0, [.ref a, .int (-1), .int wr])), (a, .inl (cA, 32768, .inl (hj_B d))), (a2, .inl (cA2, n2, .inl (hj_B r9)))] := hD
    refine lv_iconst (v := nI 0) hx hb d_D_write_12 (by decide) ?_
    exact hret (nI 0) (d, -1, wr) _ _ _ _ d_D_write_13 rfl (Or.inl ⟨c_1, rfl, rfl, rfl, rfl⟩) hP hK hD hS
abbrev rm_R_init : Room := { frames := 8, cells := 3, slots := 5952, locals := 100 }
set_option maxHeartbeats 4000000 in
set_option maxRecDepth 100000 in
theorem c_R_init (l : Launch) (dC : Nat → ClassId) (dI : Nat → Nat → Nat) (h0 : Nat) : hj_Mv l y_R_init b_R_init 1 rm_R_init hj_EX (dC, dI) vwCl [] [(h0, .inr (1, [.null, .null, .null, .int 0, .int 0, .int 0]))] [.ref h0] (fun _ => True) (fun u : (Nat × ClassId) × (Nat × ClassId) × (Nat × ClassId) => [(h0, .inr (1, [.ref u.1.1, .ref u.2.1.1, .ref u.2.2.1, .int (nI 0), .int (nI 0), .int (nI 0)])), (u.1.1, .inl (u.1.2, 1984, .inl (fun _ => 0))), (u.2.1.1, .inl (u.2.1.2, 1984, .inl (fun _ => 0))), (u.2.2.1, .inl (u.2.2.2, 1984, .inl (fun _ => 0)))]) (fun u => [(u.1.2, .int), (u.2.1.2, .int), (u.2.2.2, .boolean)]) 3 5952 := by
  refine hj_bodyV (by decide +kernel) (Nat.le_of_ble_eq_true rfl) ?_
  intro p e s m args below meth c A Q ls hx hb hts hown hml hin hA hP hK hD hE hl hret
  have hS : va_S A s.heap s.heap [] := va_S.rf
  have hown : s.vm.findClass "HalfJournal$Records" = some m.cls := hown
  have hl : lv_has ls 1 [(0, .ref h0)] := hl
  have hP : va_P (dC, dI) vwCl [(h0, .inr (1, [.null, .null, .null, .int 0, .int 0, .int 0]))] s.heap := hP
  have hD : va_D A [(h0, .inr (1, [.null, .null, .null, .int 0, .int 0, .int 0]))] := hD
  refine lv_aload_n hx hb d_R_init_0 rfl (lv_at hl 0 rfl) ?_
  refine W.objInit hx hb hown (hts _ m_56) (hts _ m_28) (hts _ m_29) rfl (by rw [hml]; exact hl.1) rfl d_R_init_1 (Nat.le_of_ble_eq_true rfl) (Nat.le_of_ble_eq_true rfl) ?_
  refine W.eq (g2 := F0 m 4 ls []) rfl ?_
  refine lv_aload_n hx hb d_R_init_4 rfl (lv_at hl 0 rfl) ?_
  refine lv_sipush (v := nI 1984) hx hb d_R_init_5 (by decide) ?_
  refine va_newa (a0 := (1984, .inl (fun _ => 0))) (N' := 1984) (atype := .int) (ty := .int) hx hb (hts _ m_82) rfl hK hP hD hS hA (fun _ => rfl) (nI_pos (by decide)) (nI_clamp (by decide)) (by decide) (Nat.le_of_ble_eq_true rfl) (Nat.le_of_ble_eq_true rfl) d_R_init_8 (fun q1 k1 H hK hP hD hS => ?_)
  have hP : va_P (dC, dI) vwCl [(h0, .inr (1, [.null, .null, .null, .int 0, .int 0, .int 0])), (q1, .inl (k1, 1984, .inl (fun _ => 0)))] H := hP
  have hD : va_D A [(h0, .inr (1, [.null, .null, .null, .int 0, .int 0, .int 0])), (q1, .inl (k1, 1984, .inl (fun _ => 0)))] := hD
  have hK : va_K (dC, dI) vwCl [(k1, .int)] s := hK
  refine va_putF (D := (dC, dI)) (ci := 1) (v := .ref q1) (ty := (.array .int)) (C := "HalfJournal$Records") (T := F_R) (N := 6) hx hb hts i_R t_R t_R_ok n_R hown hK hP hD hS 0 rfl rfl 0 (by decide) (hts _ m_57) (fun _ h9 => h9) rfl hin rfl (by decide +kernel) rfl rfl (Nat.le_of_ble_eq_true rfl) d_R_init_10 (fun H locs hP hD hS => ?_)
  have hP : va_P (dC, dI) vwCl [(h0, .inr (1, [.ref q1, .null, .null, .int 0, .int 0, .int 0])), (q1, .inl (k1, 1984, .inl (fun _ => 0)))] H := hP
  have hD : va_D A [(h0, .inr (1, [.ref q1, .null, .null, .int 0, .int 0, .int 0])), (q1, .inl (k1, 1984, .inl (fun _ => 0)))] := hD
  refine lv_aload_n hx hb d_R_init_13 rfl (lv_at hl 0 rfl) ?_
  refine lv_sipush (v := nI 1984) hx hb d_R_init_14 (by decide) ?_
  refine va_newa (a0 := (1984, .inl (fun _ => 0))) (N' := 1984) (atype := .int) (ty := .int) hx hb (hts _ m_82) rfl hK hP hD hS hA (fun _ => rfl) (nI_pos (by decide)) (nI_clamp (by decide)) (by decide) (Nat.le_of_ble_eq_true rfl) (Nat.le_of_ble_eq_true rfl) d_R_init_17 (fun q2 k2 H hK hP hD hS => ?_)
  have hP : va_P (dC, dI) vwCl [(h0, .inr (1, [.ref q1, .null, .null, .int 0, .int 0, .int 0])), (q1, .inl (k1, 1984, .inl (fun _ => 0))), (q2, .inl (k2, 1984, .inl (fun _ => 0)))] H := hP
  have hD : va_D A [(h0, .inr (1, [.ref q1, .null, .null, .int 0, .int 0, .int 0])), (q1, .inl (k1, 1984, .inl (fun _ => 0))), (q2, .inl (k2, 1984, .inl (fun _ => 0)))] := hD
  have hK : va_K (dC, dI) vwCl [(k1, .int), (k2, .int)] s := hK
  refine va_putF (D := (dC, dI)) (ci := 1) (v := .ref q2) (ty := (.array .int)) (C := "HalfJournal$Records") (T := F_R) (N := 6) hx hb hts i_R t_R t_R_ok n_R hown hK hP hD hS 0 rfl rfl 1 (by decide) (hts _ m_59) (fun _ h9 => h9) rfl hin rfl (by decide +kernel) rfl rfl (Nat.le_of_ble_eq_true rfl) d_R_init_19 (fun H locs hP hD hS => ?_)
  have hP : va_P (dC, dI) vwCl [(h0, .inr (1, [.ref q1, .ref q2, .null, .int 0, .int 0, .int 0])), (q1, .inl (k1, 1984, .inl (fun _ => 0))), (q2, .inl (k2, 1984, .inl (fun _ => 0)))] H := hP
  have hD : va_D A [(h0, .inr (1, [.ref q1, .ref q2, .null, .int 0, .int 0, .int 0])), (q1, .inl (k1, 1984, .inl (fun _ => 0))), (q2, .inl (k2, 1984, .inl (fun _ => 0)))] := hD
  refine lv_aload_n hx hb d_R_init_22 rfl (lv_at hl 0 rfl) ?_
  refine lv_sipush (v := nI 1984) hx hb d_R_init_23 (by decide) ?_
  refine va_newa (a0 := (1984, .inl (fun _ => 0))) (N' := 1984) (atype := .boolean) (ty := .boolean) hx hb (hts _ m_83) rfl hK hP hD hS hA (fun _ => rfl) (nI_pos (by decide)) (nI_clamp (by decide)) (by decide) (Nat.le_of_ble_eq_true rfl) (Nat.le_of_ble_eq_true rfl) d_R_init_26 (fun q3 k3 H hK hP hD hS => ?_)
  have hP : va_P (dC, dI) vwCl [(h0, .inr (1, [.ref q1, .ref q2, .null, .int 0, .int 0, .int 0])), (q1, .inl (k1, 1984, .inl (fun _ => 0))), (q2, .inl (k2, 1984, .inl (fun _ => 0))), (q3, .inl (k3, 1984, .inl (fun _ => 0)))] H := hP
  have hD : va_D A [(h0, .inr (1, [.ref q1, .ref q2, .null, .int 0, .int 0, .int 0])), (q1, .inl (k1, 1984, .inl (fun _ => 0))), (q2, .inl (k2, 1984, .inl (fun _ => 0))), (q3, .inl (k3, 1984, .inl (fun _ => 0)))] := hD
  have hK : va_K (dC, dI) vwCl [(k1, .int), (k2, .int), (k3, .boolean)] s := hK
  refine va_putF (D := (dC, dI)) (ci := 1) (v := .ref q3) (ty := (.array .boolean)) (C := "HalfJournal$Records") (T := F_R) (N := 6) hx hb hts i_R t_R t_R_ok n_R hown hK hP hD hS 0 rfl rfl 2 (by decide) (hts _ m_61) (fun _ h9 => h9) rfl hin rfl (by decide +kernel) rfl rfl (Nat.le_of_ble_eq_true rfl) d_R_init_28 (fun H locs hP hD hS => ?_)
  have hP : va_P (dC, dI) vwCl [(h0, .inr (1, [.ref q1, .ref q2, .ref q3, .int 0, .int 0, .int 0])), (q1, .inl (k1, 1984, .inl (fun _ => 0))), (q2, .inl (k2, 1984, .inl (fun _ => 0))), (q3, .inl (k3, 1984, .inl (fun _ => 0)))] H := hP
  have hD : va_D A [(h0, .inr (1, [.ref q1, .ref q2, .ref q3, .int 0, .int 0, .int 0])), (q1, .inl (k1, 1984, .inl (fun _ => 0))), (q2, .inl (k2, 1984, .inl (fun _ => 0))), (q3, .inl (k3, 1984, .inl (fun _ => 0)))] := hD
  refine lv_aload_n hx hb d_R_init_31 rfl (lv_at hl 0 rfl) ?_
  refine lv_iconst (v := nI 0) hx hb d_R_init_32 (by decide) ?_
  refine va_put (D := (dC, dI)) (ci := 1) (v := .int (nI 0)) (ty := (.int)) (C := "HalfJournal$Records") (T := F_R) (N := 6) hx hb hts i_R t_R t_R_ok n_R hown hK hP hD hS 0 rfl rfl 3 (by decide) (hts _ m_63) (fun _ h9 => h9) rfl (by decide +kernel) rfl rfl (Nat.le_of_ble_eq_true rfl) d_R_init_33 (fun H locs hP hD hS => ?_)
  have hP : va_P (dC, dI) vwCl [(h0, .inr (1, [.ref q1, .ref q2, .ref q3, .int (nI 0), .int 0, .int 0])), (q1, .inl (k1, 1984, .inl (fun _ => 0))), (q2, .inl (k2, 1984, .inl (fun _ => 0))), (q3, .inl (k3, 1984, .inl (fun _ => 0)))] H := hP
  have hD : va_D A [(h0, .inr (1, [.ref q1, .ref q2, .ref q3, .int (nI 0), .int 0, .int 0])), (q1, .inl (k1, 1984, .inl (fun _ => 0))), (q2, .inl (k2, 1984, .inl (fun _ => 0))), (q3, .inl (k3, 1984, .inl (fun _ => 0)))] := hD
  refine lv_aload_n hx hb d_R_init_36 rfl (lv_at hl 0 rfl) ?_
  refine lv_iconst (v := nI 0) hx hb d_R_init_37 (by decide) ?_
  refine va_put (D := (dC, dI)) (ci := 1) (v := .int (nI 0)) (ty := (.int)) (C := "HalfJournal$Records") (T := F_R) (N := 6) hx hb hts i_R t_R t_R_ok n_R hown hK hP hD hS 0 rfl rfl 4 (by decide) (hts _ m_65) (fun _ h9 => h9) rfl (by decide +kernel) rfl rfl (Nat.le_of_ble_eq_true rfl) d_R_init_38 (fun H locs hP hD hS => ?_)
  have hP : va_P (dC, dI) vwCl [(h0, .inr (1, [.ref q1, .ref q2, .ref q3, .int (nI 0), .int (nI 0), .int 0])), (q1, .inl (k1, 1984, .inl (fun _ => 0))), (q2, .inl (k2, 1984, .inl (fun _ => 0))), (q3, .inl (k3, 1984, .inl (fun _ => 0)))] H := hP
  have hD : va_D A [(h0, .inr (1, [.ref q1, .ref q2, .ref q3, .int (nI 0), .int (nI 0), .int 0])), (q1, .inl (k1, 1984, .inl (fun _ => 0))), (q2, .inl (k2, 1984, .inl (fun _ => 0))), (q3, .inl (k3, 1984, .inl (fun _ => 0)))] := hD
  refine lv_aload_n hx hb d_R_init_41 rfl (lv_at hl 0 rfl) ?_
  refine lv_iconst (v := nI 0) hx hb d_R_init_42 (by decide) ?_
  refine va_put (D := (dC, dI)) (ci := 1) (v := .int (nI 0)) (ty := (.int)) (C := "HalfJournal$Records") (T := F_R) (N := 6) hx hb hts i_R t_R t_R_ok n_R hown hK hP hD hS 0 rfl rfl 5 (by decide) (hts _ m_67) (fun _ h9 => h9) rfl (by decide +kernel) rfl rfl (Nat.le_of_ble_eq_true rfl) d_R_init_43 (fun H locs hP hD hS => ?_)
  have hP : va_P (dC, dI) vwCl [(h0, .inr (1, [.ref q1, .ref q2, .ref q3, .int (nI 0), .int (nI 0), .int (nI 0)])), (q1, .inl (k1, 1984, .inl (fun _ => 0))), (q2, .inl (k2, 1984, .inl (fun _ => 0))), (q3, .inl (k3, 1984, .inl (fun _ => 0)))] H := hP
  have hD : va_D A [(h0, .inr (1, [.ref q1, .ref q2, .ref q3, .int (nI 0), .int (nI 0), .int (nI 0)])), (q1, .inl (k1, 1984, .inl (fun _ => 0))), (q2, .inl (k2, 1984, .inl (fun _ => 0))), (q3, .inl (k3, 1984, .inl (fun _ => 0)))] := hD
  exact hret ((q1, k1), (q2, k2), (q3, k3)) _ _ _ _ d_R_init_46 (trivial) hP hK hD hS
abbrev rm_R_has : Room := { frames := 8, cells := 0, slots := 0, locals := 100 }
set_option maxHeartbeats 4000000 in
set_option maxRecDepth 100000 in
theorem c_R_has (l : Launch) (dC : Nat → ClassId) (dI : Nat → Nat → Nat) (h0 sa la ma : Nat) (n us mm : Nat) (x : Int32) (hn : n < 2 ^ 31) : hj_Mi l y_R_has b_R_has 2 .boolean rm_R_has hj_EX (dC, dI) vwCl [] [(h0, .inr (1, [.ref sa, .ref la, .ref ma, .int (nI n), .int (nI us), .int (nI mm)]))] [.ref h0, .int x] (fun r _ => (vp_in x n ∧ r = nI 1) ∨ (¬ vp_in x n ∧ r = nI 0)) (fun _ : Unit => [(h0, .inr (1, [.ref sa, .ref la, .ref ma, .int (nI n), .int (nI us), .int (nI mm)]))]) (fun _ => []) 0 0 := by
  refine hj_bodyI (by decide +kernel) (Nat.le_of_ble_eq_true rfl) ?_
  intro p e s m args below meth c A Q ls hx hb hts hown hml hA hP hK hD hE hl hret
  have hS : va_S A s.heap s.heap [] := va_S.rf
  have hown : s.vm.findClass "HalfJournal$Records" = some m.cls := hown
  have hl : lv_has ls 2 [(0, .ref h0), (1, .int x)] := hl
  have hP : va_P (dC, dI) vwCl [(h0, .inr (1, [.ref sa, .ref la, .ref ma, .int (nI n), .int (nI us), .int (nI mm)]))] s.heap := hP
  have hD : va_D A [(h0, .inr (1, [.ref sa, .ref la, .ref ma, .int (nI n), .int (nI us), .int (nI mm)]))] := hD
  refine lv_iload_n hx hb d_R_has_0 rfl (lv_at hl 1 rfl) ?_
  refine lv_if_lt (tgt := 16) hx hb d_R_has_1 (by decide) (fun c_1 => ?_) (fun c_1 => ?_)
  · refine lv_iconst (v := nI 0) hx hb d_R_has_16 (by decide) ?_
    exact hret (nI 0) () _ _ _ _ d_R_has_17 rfl (Or.inr ⟨fun q => q (Or.inl c_1), rfl⟩) hP hK hD hS
  · obtain ⟨j, hj, rfl⟩ := nI_of c_1
    refine lv_iload_n hx hb d_R_has_4 rfl (lv_at hl 1 rfl) ?_
    refine lv_aload_n hx hb d_R_has_5 rfl (lv_at hl 0 rfl) ?_
    refine va_get (D := (dC, dI)) (ci := 1) (v := .int (nI n)) (C := "HalfJournal$Records") (T := F_R) (N := 6) hx hb hts i_R hown hK hP 0 rfl rfl 3 (by decide) (hts _ m_63) (fun _ h9 => h9) rfl d_R_has_6 ?_
    refine hj_icmp_ge (tgt := 16) hx hb (by omega) (by omega) d_R_has_9 (by decide) (fun c_2 => ?_) (fun c_2 => ?_)
    · refine lv_iconst (v := nI 0) hx hb d_R_has_16 (by decide) ?_
      exact hret (nI 0) () _ _ _ _ d_R_has_17 rfl (Or.inr ⟨fun q => q (Or.inr (by rw [nI_clamp hj]; exact c_2)), rfl⟩) hP hK hD hS
    · refine lv_iconst (v := nI 1) hx hb d_R_has_12 (by decide) ?_
      refine lv_goto (tgt := 17) hx hb d_R_has_13 (by decide) ?_
      exact hret (nI 1) () _ _ _ _ d_R_has_17 rfl (Or.inl ⟨vp_in_nI c_2 (by omega), rfl⟩) hP hK hD hS
abbrev rm_R_clear : Room := { frames := 8, cells := 0, slots := 0, locals := 100 }
set_option maxHeartbeats 4000000 in
set_option maxRecDepth 100000 in
theorem c_R_clear (l : Launch) (dC : Nat → ClassId) (dI : Nat → Nat → Nat) (h0 sa la ma : Nat) (n us mm : Nat) : hj_Mv l y_R_clear b_R_clear 1 rm_R_clear hj_EX (dC, dI) vwCl [] [(h0, .inr (1, [.ref sa, .ref la, .ref ma, .int (nI n), .int (nI us), .int (nI mm)]))] [.ref h0] (fun _ => True) (fun _ : Unit => [(h0, .inr (1, [.ref sa, .ref la, .ref ma, .int (nI 0), .int (nI 0), .int (nI 0)]))]) (fun _ => []) 0 0 := by
  refine hj_bodyV (by decide +kernel) (Nat.le_of_ble_eq_true rfl) ?_
  intro p e s m args below meth c A Q ls hx hb hts hown hml hin hA hP hK hD hE hl hret
  have hS : va_S A s.heap s.heap [] := va_S.rf
  have hown : s.vm.findClass "HalfJournal$Records" = some m.cls := hown
  have hl : lv_has ls 1 [(0, .ref h0)] := hl
  have hP : va_P (dC, dI) vwCl [(h0, .inr (1, [.ref sa, .ref la, .ref ma, .int (nI n), .int (nI us), .int (nI mm)]))] s.heap := hP
  have hD : va_D A [(h0, .inr (1, [.ref sa, .ref la, .ref ma, .int (nI n), .int (nI us), .int (nI mm)]))] := hD
  refine lv_aload_n hx hb d_R_clear_0 rfl (lv_at hl 0 rfl) ?_
  refine lv_iconst (v := nI 0) hx hb d_R_clear_1 (by decide) ?_
  refine va_put (D := (dC, dI)) (ci := 1) (v := .int (nI 0)) (ty := (.int)) (C := "HalfJournal$Records") (T := F_R) (N := 6) hx hb hts i_R t_R t_R_ok n_R hown hK hP hD hS 0 rfl rfl 3 (by decide) (hts _ m_63) (fun _ h9 => h9) rfl (by decide +kernel) rfl rfl (Nat.le_of_ble_eq_true rfl) d_R_clear_2 (fun H locs hP hD hS => ?_)
  have hP : va_P (dC, dI) vwCl [(h0, .inr (1, [.ref sa, .ref la, .ref ma, .int (nI 0), .int (nI us), .int (nI mm)]))] H := hP
  have hD : va_D A [(h0, .inr (1, [.ref sa, .ref la, .ref ma, .int (nI 0), .int (nI us), .int (nI mm)]))] := hD
  refine lv_aload_n hx hb d_R_clear_5 rfl (lv_at hl 0 rfl) ?_
  refine lv_iconst (v := nI 0) hx hb d_R_clear_6 (by decide) ?_
  refine va_put (D := (dC, dI)) (ci := 1) (v := .int (nI 0)) (ty := (.int)) (C := "HalfJournal$Records") (T := F_R) (N := 6) hx hb hts i_R t_R t_R_ok n_R hown hK hP hD hS 0 rfl rfl 4 (by decide) (hts _ m_65) (fun _ h9 => h9) rfl (by decide +kernel) rfl rfl (Nat.le_of_ble_eq_true rfl) d_R_clear_7 (fun H locs hP hD hS => ?_)
  have hP : va_P (dC, dI) vwCl [(h0, .inr (1, [.ref sa, .ref la, .ref ma, .int (nI 0), .int (nI 0), .int (nI mm)]))] H := hP
  have hD : va_D A [(h0, .inr (1, [.ref sa, .ref la, .ref ma, .int (nI 0), .int (nI 0), .int (nI mm)]))] := hD
  refine lv_aload_n hx hb d_R_clear_10 rfl (lv_at hl 0 rfl) ?_
  refine lv_iconst (v := nI 0) hx hb d_R_clear_11 (by decide) ?_
  refine va_put (D := (dC, dI)) (ci := 1) (v := .int (nI 0)) (ty := (.int)) (C := "HalfJournal$Records") (T := F_R) (N := 6) hx hb hts i_R t_R t_R_ok n_R hown hK hP hD hS 0 rfl rfl 5 (by decide) (hts _ m_67) (fun _ h9 => h9) rfl (by decide +kernel) rfl rfl (Nat.le_of_ble_eq_true rfl) d_R_clear_12 (fun H locs hP hD hS => ?_)
  have hP : va_P (dC, dI) vwCl [(h0, .inr (1, [.ref sa, .ref la, .ref ma, .int (nI 0), .int (nI 0), .int (nI 0)]))] H := hP
  have hD : va_D A [(h0, .inr (1, [.ref sa, .ref la, .ref ma, .int (nI 0), .int (nI 0), .int (nI 0)]))] := hD
  exact hret () _ _ _ _ d_R_clear_15 (trivial) hP hK hD hS
abbrev rm_R_add : Room := { frames := 16, cells := 0, slots := 0, locals := 200 }
set_option maxHeartbeats 4000000 in
set_option maxRecDepth 100000 in
theorem c_R_add (l : Launch) (dC : Nat → ClassId) (dI : Nat → Nat → Nat) (h0 sa la ma : Nat) (n us mm : Nat) (cS cL cM : ClassId) (fs fl fm : Nat → Int32) (w : Nat) (hn : n < 1984) (hw : w < 2 ^ 30) : hj_Mv l y_R_add b_R_add 2 rm_R_add hj_EX (dC, dI) vwCl [(cS, .int), (cL, .int), (cM, .boolean)] [(h0, .inr (1, [.ref sa, .ref la, .ref ma, .int (nI n), .int (nI us), .int (nI mm)])), (sa, .inl (cS, 1984, .inl fs)), (la, .inl (cL, 1984, .inl fl)), (ma, .inl (cM, 1984, .inl fm))] [.ref h0, .int (nI w)] (fun _ => True) (fun _ : Unit => [(h0, .inr (1, [.ref sa, .ref la, .ref ma, .int (nI (n + 1)), .int (nI (us + hj_sz w)), .int (nI mm)])), (sa, .inl (cS, 1984, .inl (va_up fs n (nI us)))), (la, .inl (cL, 1984, .inl (va_up fl n (nI w)))), (ma, .inl (cM, 1984, .inl (va_up fm n (nI 0))))]) (fun _ => [(cS, .int), (cL, .int), (cM, .boolean)]) 0 0 := by
  refine hj_bodyV (by decide +kernel) (Nat.le_of_ble_eq_true rfl) ?_
  intro p e s m args below meth c A Q ls hx hb hts hown hml hin hA hP hK hD hE hl hret
  have hS : va_S A s.heap s.heap [] := va_S.rf
  have hown : s.vm.findClass "HalfJournal$Records" = some m.cls := hown
  have hl : lv_has ls 2 [(0, .ref h0), (1, .int (nI w))] := hl
  have hP : va_P (dC, dI) vwCl [(h0, .inr (1, [.ref sa, .ref la, .ref ma, .int (nI n), .int (nI us), .int (nI mm)])), (sa, .inl (cS, 1984, .inl fs)), (la, .inl (cL, 1984, .inl fl)), (ma, .inl (cM, 1984, .inl fm))] s.heap := hP
  have hD : va_D A [(h0, .inr (1, [.ref sa, .ref la, .ref ma, .int (nI n), .int (nI us), .int (nI mm)])), (sa, .inl (cS, 1984, .inl fs)), (la, .inl (cL, 1984, .inl fl)), (ma, .inl (cM, 1984, .inl fm))] := hD
  refine lv_aload_n hx hb d_R_add_0 rfl (lv_at hl 0 rfl) ?_
  refine va_get (D := (dC, dI)) (ci := 1) (v := .int (nI n)) (C := "HalfJournal$Records") (T := F_R) (N := 6) hx hb hts i_R hown hK hP 0 rfl rfl 3 (by decide) (hts _ m_63) (fun _ h9 => h9) rfl d_R_add_1 ?_
  refine lv_sipush (v := nI 1984) hx hb d_R_add_4 (by decide) ?_
  refine hj_icmp_lt (tgt := 11) hx hb (by omega) (by omega) d_R_add_7 (by decide) (fun c_1 => ?_) (fun c_1 => ?_)
  · refine lv_aload_n hx hb d_R_add_11 rfl (lv_at hl 0 rfl) ?_
    refine va_get (D := (dC, dI)) (ci := 1) (v := .ref sa) (C := "HalfJournal$Records") (T := F_R) (N := 6) hx hb hts i_R hown hK hP 0 rfl rfl 0 (by decide) (hts _ m_57) (fun _ h9 => h9) rfl d_R_add_12 ?_
    refine lv_aload_n hx hb d_R_add_15 rfl (lv_at hl 0 rfl) ?_
    refine va_get (D := (dC, dI)) (ci := 1) (v := .int (nI n)) (C := "HalfJournal$Records") (T := F_R) (N := 6) hx hb hts i_R hown hK hP 0 rfl rfl 3 (by decide) (hts _ m_63) (fun _ h9 => h9) rfl d_R_add_16 ?_
    refine lv_aload_n hx hb d_R_add_19 rfl (lv_at hl 0 rfl) ?_
    refine va_get (D := (dC, dI)) (ci := 1) (v := .int (nI us)) (C := "HalfJournal$Records") (T := F_R) (N := 6) hx hb hts i_R hown hK hP 0 rfl rfl 4 (by decide) (hts _ m_65) (fun _ h9 => h9) rfl d_R_add_20 ?_
    refine hj_iast hx hb hK hP hD hS 1 0 rfl rfl (by omega) (by decide) d_R_add_23 (fun H locs hP hD hS => ?_)
    have hP : va_P (dC, dI) vwCl [(h0, .inr (1, [.ref sa, .ref la, .ref ma, .int (nI n), .int (nI us), .int (nI mm)])), (sa, .inl (cS, 1984, .inl (va_up fs n (nI us)))), (la, .inl (cL, 1984, .inl fl)), (ma, .inl (cM, 1984, .inl fm))] H := hP
    have hD : va_D A [(h0, .inr (1, [.ref sa, .ref la, .ref ma, .int (nI n), .int (nI us), .int (nI mm)])), (sa, .inl (cS, 1984, .inl (va_up fs n (nI us)))), (la, .inl (cL, 1984, .inl fl)), (ma, .inl (cM, 1984, .inl fm))] := hD
    refine lv_aload_n hx hb d_R_add_24 rfl (lv_at hl 0 rfl) ?_
    refine va_get (D := (dC, dI)) (ci := 1) (v := .ref la) (C := "HalfJournal$Records") (T := F_R) (N := 6) hx hb hts i_R hown hK hP 0 rfl rfl 1 (by decide) (hts _ m_59) (fun _ h9 => h9) rfl d_R_add_25 ?_
    refine lv_aload_n hx hb d_R_add_28 rfl (lv_at hl 0 rfl) ?_
    refine va_get (D := (dC, dI)) (ci := 1) (v := .int (nI n)) (C := "HalfJournal$Records") (T := F_R) (N := 6) hx hb hts i_R hown hK hP 0 rfl rfl 3 (by decide) (hts _ m_63) (fun _ h9 => h9) rfl d_R_add_29 ?_
    refine lv_iload_n hx hb d_R_add_32 rfl (lv_at hl 1 rfl) ?_
    refine hj_iast hx hb hK hP hD hS 2 1 rfl rfl (by omega) (by decide) d_R_add_33 (fun H locs hP hD hS => ?_)
    have hP : va_P (dC, dI) vwCl [(h0, .inr (1, [.ref sa, .ref la, .ref ma, .int (nI n), .int (nI us), .int (nI mm)])), (sa, .inl (cS, 1984, .inl (va_up fs n (nI us)))), (la, .inl (cL, 1984, .inl (va_up fl n (nI w)))), (ma, .inl (cM, 1984, .inl fm))] H := hP
    have hD : va_D A [(h0, .inr (1, [.ref sa, .ref la, .ref ma, .int (nI n), .int (nI us), .int (nI mm)])), (sa, .inl (cS, 1984, .inl (va_up fs n (nI us)))), (la, .inl (cL, 1984, .inl (va_up fl n (nI w)))), (ma, .inl (cM, 1984, .inl fm))] := hD
    refine lv_aload_n hx hb d_R_add_34 rfl (lv_at hl 0 rfl) ?_
    refine va_get (D := (dC, dI)) (ci := 1) (v := .ref ma) (C := "HalfJournal$Records") (T := F_R) (N := 6) hx hb hts i_R hown hK hP 0 rfl rfl 2 (by decide) (hts _ m_61) (fun _ h9 => h9) rfl d_R_add_35 ?_
    refine lv_aload_n hx hb d_R_add_38 rfl (lv_at hl 0 rfl) ?_
    refine va_get (D := (dC, dI)) (ci := 1) (v := .int (nI n)) (C := "HalfJournal$Records") (T := F_R) (N := 6) hx hb hts i_R hown hK hP 0 rfl rfl 3 (by decide) (hts _ m_63) (fun _ h9 => h9) rfl d_R_add_39 ?_
    refine lv_iconst (v := nI 0) hx hb d_R_add_42 (by decide) ?_
    refine hj_zast hx hb hK hP hD hS 3 2 rfl rfl (by omega) (by omega) (by decide) d_R_add_43 (fun H locs hP hD hS => ?_)
    have hP : va_P (dC, dI) vwCl [(h0, .inr (1, [.ref sa, .ref la, .ref ma, .int (nI n), .int (nI us), .int (nI mm)])), (sa, .inl (cS, 1984, .inl (va_up fs n (nI us)))), (la, .inl (cL, 1984, .inl (va_up fl n (nI w)))), (ma, .inl (cM, 1984, .inl (va_up fm n (nI 0))))] H := hP
    have hD : va_D A [(h0, .inr (1, [.ref sa, .ref la, .ref ma, .int (nI n), .int (nI us), .int (nI mm)])), (sa, .inl (cS, 1984, .inl (va_up fs n (nI us)))), (la, .inl (cL, 1984, .inl (va_up fl n (nI w)))), (ma, .inl (cM, 1984, .inl (va_up fm n (nI 0))))] := hD
    refine lv_aload_n hx hb d_R_add_44 rfl (lv_at hl 0 rfl) ?_
    refine lv_dup hx hb d_R_add_45 rfl ?_
    refine va_get (D := (dC, dI)) (ci := 1) (v := .int (nI n)) (C := "HalfJournal$Records") (T := F_R) (N := 6) hx hb hts i_R hown hK hP 0 rfl rfl 3 (by decide) (hts _ m_63) (fun _ h9 => h9) rfl d_R_add_46 ?_
    refine lv_iconst (v := nI 1) hx hb d_R_add_49 (by decide) ?_
    refine hj_iadd hx hb d_R_add_50 ?_
    refine va_put (D := (dC, dI)) (ci := 1) (v := .int (nI (n + 1))) (ty := (.int)) (C := "HalfJournal$Records") (T := F_R) (N := 6) hx hb hts i_R t_R t_R_ok n_R hown hK hP hD hS 0 rfl rfl 3 (by decide) (hts _ m_63) (fun _ h9 => h9) rfl (by decide +kernel) rfl rfl (Nat.le_of_ble_eq_true rfl) d_R_add_51 (fun H locs hP hD hS => ?_)
    have hP : va_P (dC, dI) vwCl [(h0, .inr (1, [.ref sa, .ref la, .ref ma, .int (nI (n + 1)), .int (nI us), .int (nI mm)])), (sa, .inl (cS, 1984, .inl (va_up fs n (nI us)))), (la, .inl (cL, 1984, .inl (va_up fl n (nI w)))), (ma, .inl (cM, 1984, .inl (va_up fm n (nI 0))))] H := hP
    have hD : va_D A [(h0, .inr (1, [.ref sa, .ref la, .ref ma, .int (nI (n + 1)), .int (nI us), .int (nI mm)])), (sa, .inl (cS, 1984, .inl (va_up fs n (nI us)))), (la, .inl (cL, 1984, .inl (va_up fl n (nI w)))), (ma, .inl (cM, 1984, .inl (va_up fm n (nI 0))))] := hD
    refine lv_aload_n hx hb d_R_add_54 rfl (lv_at hl 0 rfl) ?_
    refine lv_dup hx hb d_R_add_55 rfl ?_
    refine va_get (D := (dC, dI)) (ci := 1) (v := .int (nI us)) (C := "HalfJournal$Records") (T := F_R) (N := 6) hx hb hts i_R hown hK hP 0 rfl rfl 4 (by decide) (hts _ m_65) (fun _ h9 => h9) rfl d_R_add_56 ?_
    refine lv_iload_n hx hb d_R_add_59 rfl (lv_at hl 1 rfl) ?_
    refine hj_calli (wc := []) (wr := [(h0, .inr (1, [.ref sa, .ref la, .ref ma, .int (nI (n + 1)), .int (nI us), .int (nI mm)])), (sa, .inl (cS, 1984, .inl (va_up fs n (nI us)))), (la, .inl (cL, 1984, .inl (va_up fl n (nI w)))), (ma, .inl (cM, 1984, .inl (va_up fm n (nI 0))))]) [] [0, 1, 2, 3] hP hD hS hA rfl rfl rfl (by decide) (va_runSN (As := [.int (nI w)]) (rest := [.int (nI us), .ref h0]) ⟨hx, hb, hml, hown, hts⟩ (c_J_sizeOf l dC dI w hw H.size) ⟨va_cnB 1 hts (hj_gC m_473) rfl rfl rfl (hE.1 _ m_478) (hts _ m_1) (by decide +kernel) ⟨Nat.le_of_ble_eq_true rfl, Nat.le_of_ble_eq_true rfl⟩, hts _ m_472, trivial⟩ (hj_preS hj_EXok hE hP hD hK hS hA [] rfl rfl [] rfl) rfl rfl hl.1 rfl (lv_room (Nat.le_of_ble_eq_true rfl)) d_R_add_60 ⟨Nat.le_of_ble_eq_true rfl, Nat.le_of_ble_eq_true rfl⟩) (fun r_1 u_2 H locs hw hP hD hK1 hS => ?_)
    subst hw
    have hP : va_P (dC, dI) vwCl [(h0, .inr (1, [.ref sa, .ref la, .ref ma, .int (nI (n + 1)), .int (nI us), .int (nI mm)])), (sa, .inl (cS, 1984, .inl (va_up fs n (nI us)))), (la, .inl (cL, 1984, .inl (va_up fl n (nI w)))), (ma, .inl (cM, 1984, .inl (va_up fm n (nI 0))))] H := hP.sub [0, 1, 2, 3] rfl
    have hD : va_D A [(h0, .inr (1, [.ref sa, .ref la, .ref ma, .int (nI (n + 1)), .int (nI us), .int (nI mm)])), (sa, .inl (cS, 1984, .inl (va_up fs n (nI us)))), (la, .inl (cL, 1984, .inl (va_up fl n (nI w)))), (ma, .inl (cM, 1984, .inl (va_up fm n (nI 0))))] := hD.sub [0, 1, 2, 3] (by decide) rfl
    refine hj_iadd hx hb d_R_add_63 ?_
    refine va_put (D := (dC, dI)) (ci := 1) (v := .int (nI (us + (hj_sz w)))) (ty := (.int)) (C := "HalfJournal$Records") (T := F_R) (N := 6) hx hb hts i_R t_R t_R_ok n_R hown hK hP hD hS 0 rfl rfl 4 (by decide) (hts _ m_65) (fun _ h9 => h9) rfl (by decide +kernel) rfl rfl (Nat.le_of_ble_eq_true rfl) d_R_add_64 (fun H locs hP hD hS => ?_)
    have hP : va_P (dC, dI) vwCl [(h0, .inr (1, [.ref sa, .ref la, .ref ma, .int (nI (n + 1)), .int (nI (us + (hj_sz w))), .int (nI mm)])), (sa, .inl (cS, 1984, .inl (va_up fs n (nI us)))), (la, .inl (cL, 1984, .inl (va_up fl n (nI w)))), (ma, .inl (cM, 1984, .inl (va_up fm n (nI 0))))] H := hP
    have hD : va_D A [(h0, .inr (1, [.ref sa, .ref la, .ref ma, .int (nI (n + 1)), .int (nI (us + (hj_sz w))), .int (nI mm)])), (sa, .inl (cS, 1984, .inl (va_up fs n (nI us)))), (la, .inl (cL, 1984, .inl (va_up fl n (nI w)))), (ma, .inl (cM, 1984, .inl (va_up fm n (nI 0))))] := hD
    exact hret () _ _ _ _ d_R_add_67 (trivial) hP hK hD hS
  · omega
abbrev rm_R_setMark : Room := { frames := 16, cells := 0, slots := 0, locals := 200 }
set_option maxHeartbeats 4000000 in
set_option maxRecDepth 100000 in
theorem c_R_setMark (l : Launch) (dC : Nat → ClassId) (dI : Nat → Nat → Nat) (h0 sa la ma : Nat) (n us mm : Nat) (cM : ClassId) (fm : Nat → Int32) (i b z : Nat) (hn : n ≤ 1984) (hi : i < n) (hb9 : b < 2) (hz : z < 2) (hfm : fm i = nI z) (hm : z ≤ mm) : hj_Mv l y_R_setMark b_R_setMark 3 rm_R_setMark hj_EX (dC, dI) vwCl [(cM, .boolean)] [(h0, .inr (1, [.ref sa, .ref la, .ref ma, .int (nI n), .int (nI us), .int (nI mm)])), (ma, .inl (cM, 1984, .inl fm))] [.ref h0, .int (nI i), .int (nI b)] (fun y => y = mm + b - z) (fun y : Nat => [(h0, .inr (1, [.ref sa, .ref la, .ref ma, .int (nI n), .int (nI us), .int (nI y)])), (ma, .inl (cM, 1984, .inl (va_up fm i (nI b))))]) (fun _ => [(cM, .boolean)]) 0 0 := by
  refine hj_bodyV (by decide +kernel) (Nat.le_of_ble_eq_true rfl) ?_
  intro p e s m args below meth c A Q ls hx hb hts hown hml hin hA hP hK hD hE hl hret
  have hS : va_S A s.heap s.heap [] := va_S.rf
  have hown : s.vm.findClass "HalfJournal$Records" = some m.cls := hown
  have hl : lv_has ls 3 [(0, .ref h0), (1, .int (nI i)), (2, .int (nI b))] := hl
  have hP : va_P (dC, dI) vwCl [(h0, .inr (1, [.ref sa, .ref la, .ref ma, .int (nI n), .int (nI us), .int (nI mm)])), (ma, .inl (cM, 1984, .inl fm))] s.heap := hP
  have hD : va_D A [(h0, .inr (1, [.ref sa, .ref la, .ref ma, .int (nI n), .int (nI us), .int (nI mm)])), (ma, .inl (cM, 1984, .inl fm))] := hD
  refine lv_aload_n hx hb d_R_setMark_0 rfl (lv_at hl 0 rfl) ?_
  refine lv_iload_n hx hb d_R_setMark_1 rfl (lv_at hl 1 rfl) ?_
  refine hj_calli (wc := [(h0, .inr (1, [.ref sa, .ref la, .ref ma, .int (nI n), .int (nI us), .int (nI mm)]))]) (wr := [(ma, .inl (cM, 1984, .inl fm))]) [0] [1] hP hD hS hA rfl rfl rfl (by decide) (va_runV (As := [.int (nI i)]) (rest := []) ⟨hx, hb, hml, hown, hts⟩ (c_R_has l dC dI h0 sa la ma n us mm (nI i) (by omega) s.heap.size) (cwV 1 hts (hj_gV m_499 m_493 s_R_has m_3 m_494) rfl rfl rfl (by decide +kernel) ⟨Nat.le_of_ble_eq_true rfl, Nat.le_of_ble_eq_true rfl⟩) (hj_preV (ci := 1) (q0 := 0) hj_EXok hE hP hD hK hS hA [0] rfl rfl [] rfl rfl rfl) rfl rfl hl.1 rfl (lv_room (Nat.le_of_ble_eq_true rfl)) d_R_setMark_2 ⟨Nat.le_of_ble_eq_true rfl, Nat.le_of_ble_eq_true rfl⟩) (fun r_1 u_2 H locs hw hP hD hK1 hS => ?_)
  have hP : va_P (dC, dI) vwCl [(h0, .inr (1, [.ref sa, .ref la, .ref ma, .int (nI n), .int (nI us), .int (nI mm)])), (ma, .inl (cM, 1984, .inl fm))] H := hP.sub [1, 0] rfl
  have hD : va_D A [(h0, .inr (1, [.ref sa, .ref la, .ref ma, .int (nI n), .int (nI us), .int (nI mm)])), (ma, .inl (cM, 1984, .inl fm))] := hD.sub [1, 0] (by decide) rfl
  obtain rfl : r_1 = nI 1 := by
    rcases hw with ⟨_, q⟩ | ⟨q, _⟩
    · exact q
    · exact absurd (vp_in_nI hi (by omega)) q
  refine hj_if_eq (tgt := 43) hx hb (by omega) d_R_setMark_5 (by decide) (fun c_1 => ?_) (fun c_1 => ?_)
  · omega
  · refine lv_aload_n hx hb d_R_setMark_8 rfl (lv_at hl 0 rfl) ?_
    refine va_get (D := (dC, dI)) (ci := 1) (v := .ref ma) (C := "HalfJournal$Records") (T := F_R) (N := 6) hx hb hts i_R hown hK hP 0 rfl rfl 2 (by decide) (hts _ m_61) (fun _ h9 => h9) rfl d_R_setMark_9 ?_
    refine lv_iload_n hx hb d_R_setMark_12 rfl (lv_at hl 1 rfl) ?_
    refine hj_zald (v := fm i) hx hb hK hP 1 0 rfl rfl (by omega) (by decide) rfl d_R_setMark_13 ?_
    refine hj_topv (y := nI z) (hfm) ?_
    refine lv_iload_n hx hb d_R_setMark_14 rfl (lv_at hl 2 rfl) ?_
    refine hj_icmp_eq (tgt := 43) hx hb (by omega) (by omega) d_R_setMark_15 (by decide) (fun c_2 => ?_) (fun c_2 => ?_)
    · have h9 : (fm : Nat → Int32) = va_up fm i (nI b) := hj_up_same (by rw [hfm, c_2])
      rw [h9] at hP hD
      have hP : va_P (dC, dI) vwCl [(h0, .inr (1, [.ref sa, .ref la, .ref ma, .int (nI n), .int (nI us), .int (nI mm)])), (ma, .inl (cM, 1984, .inl (va_up fm i (nI b))))] H := hP
      have hD : va_D A [(h0, .inr (1, [.ref sa, .ref la, .ref ma, .int (nI n), .int (nI us), .int (nI mm)])), (ma, .inl (cM, 1984, .inl (va_up fm i (nI b))))] := hD
      exact hret mm _ _ _ _ d_R_setMark_43 (by omega) hP hK hD hS
    · refine lv_aload_n hx hb d_R_setMark_18 rfl (lv_at hl 0 rfl) ?_
      refine va_get (D := (dC, dI)) (ci := 1) (v := .ref ma) (C := "HalfJournal$Records") (T := F_R) (N := 6) hx hb hts i_R hown hK hP 0 rfl rfl 2 (by decide) (hts _ m_61) (fun _ h9 => h9) rfl d_R_setMark_19 ?_
      refine lv_iload_n hx hb d_R_setMark_22 rfl (lv_at hl 1 rfl) ?_
      refine lv_iload_n hx hb d_R_setMark_23 rfl (lv_at hl 2 rfl) ?_
      refine hj_zast hx hb hK hP hD hS 1 0 rfl rfl (by omega) (by omega) (by decide) d_R_setMark_24 (fun H locs hP hD hS => ?_)
      have hP : va_P (dC, dI) vwCl [(h0, .inr (1, [.ref sa, .ref la, .ref ma, .int (nI n), .int (nI us), .int (nI mm)])), (ma, .inl (cM, 1984, .inl (va_up fm i (nI b))))] H := hP
      have hD : va_D A [(h0, .inr (1, [.ref sa, .ref la, .ref ma, .int (nI n), .int (nI us), .int (nI mm)])), (ma, .inl (cM, 1984, .inl (va_up fm i (nI b))))] := hD
      refine lv_aload_n hx hb d_R_setMark_25 rfl (lv_at hl 0 rfl) ?_
      refine lv_dup hx hb d_R_setMark_26 rfl ?_
      refine va_get (D := (dC, dI)) (ci := 1) (v := .int (nI mm)) (C := "HalfJournal$Records") (T := F_R) (N := 6) hx hb hts i_R hown hK hP 0 rfl rfl 5 (by decide) (hts _ m_67) (fun _ h9 => h9) rfl d_R_setMark_27 ?_
      refine lv_iload_n hx hb d_R_setMark_30 rfl (lv_at hl 2 rfl) ?_
      refine hj_if_eq (tgt := 38) hx hb (by omega) d_R_setMark_31 (by decide) (fun c_3 => ?_) (fun c_3 => ?_)
      · refine lv_iconst (v := (-1)) hx hb d_R_setMark_38 (by decide) ?_
        refine lv_iadd hx hb d_R_setMark_39 ?_
        refine hj_topv (y := nI (mm - 1)) (sb_m1 (by omega)) ?_
        refine va_put (D := (dC, dI)) (ci := 1) (v := .int (nI (mm - 1))) (ty := (.int)) (C := "HalfJournal$Records") (T := F_R) (N := 6) hx hb hts i_R t_R t_R_ok n_R hown hK hP hD hS 0 rfl rfl 5 (by decide) (hts _ m_67) (fun _ h9 => h9) rfl (by decide +kernel) rfl rfl (Nat.le_of_ble_eq_true rfl) d_R_setMark_40 (fun H locs hP hD hS => ?_)
        have hP : va_P (dC, dI) vwCl [(h0, .inr (1, [.ref sa, .ref la, .ref ma, .int (nI n), .int (nI us), .int (nI (mm - 1))])), (ma, .inl (cM, 1984, .inl (va_up fm i (nI b))))] H := hP
        have hD : va_D A [(h0, .inr (1, [.ref sa, .ref la, .ref ma, .int (nI n), .int (nI us), .int (nI (mm - 1))])), (ma, .inl (cM, 1984, .inl (va_up fm i (nI b))))] := hD
        exact hret (mm - 1) _ _ _ _ d_R_setMark_43 (by omega) hP hK hD hS
      · refine lv_iconst (v := nI 1) hx hb d_R_setMark_34 (by decide) ?_
        refine lv_goto (tgt := 39) hx hb d_R_setMark_35 (by decide) ?_
        refine hj_iadd hx hb d_R_setMark_39 ?_
        refine va_put (D := (dC, dI)) (ci := 1) (v := .int (nI (mm + 1))) (ty := (.int)) (C := "HalfJournal$Records") (T := F_R) (N := 6) hx hb hts i_R t_R t_R_ok n_R hown hK hP hD hS 0 rfl rfl 5 (by decide) (hts _ m_67) (fun _ h9 => h9) rfl (by decide +kernel) rfl rfl (Nat.le_of_ble_eq_true rfl) d_R_setMark_40 (fun H locs hP hD hS => ?_)
        have hP : va_P (dC, dI) vwCl [(h0, .inr (1, [.ref sa, .ref la, .ref ma, .int (nI n), .int (nI us), .int (nI (mm + 1))])), (ma, .inl (cM, 1984, .inl (va_up fm i (nI b))))] H := hP
        have hD : va_D A [(h0, .inr (1, [.ref sa, .ref la, .ref ma, .int (nI n), .int (nI us), .int (nI (mm + 1))])), (ma, .inl (cM, 1984, .inl (va_up fm i (nI b))))] := hD
        exact hret (mm + 1) _ _ _ _ d_R_setMark_43 (by omega) hP hK hD hS
