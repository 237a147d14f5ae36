theorem hj_ge1 {x : Int32} (h : ¬ x < nI 1) : ∃ k : Nat, 1 ≤ k ∧ k < 2 ^ 31 ∧ x = nI k := by
  have h0 : ¬ x < 0 := fun q => h (Int32.lt_trans q (by decide))
  obtain ⟨k, hk, rfl⟩ := nI_of h0
  refine ⟨k, ?_, hk, rfl⟩
  rcases Nat.eq_zero_or_pos k with q | q
  · subst q; exact absurd (by decide) h
  · exact q
theorem hj_out9 {x : Int32} (h : ¬ ∃ i, i < 9 ∧ x = nI i) : x.toInt < 0 ∨ 8 < x.toInt := by
  rcases pk_ix x (n := 9) (by omega) with q | q | q
  · left; have := Int32.lt_iff_toInt_lt.mp q; simpa using this
  · right; have := Int32.le_iff_toInt_le.mp q; rw [nI_toInt (by omega)] at this; omega
  · exact absurd q h
theorem hj_fd_of (d : Nat → Nat) : ∀ j, j < 32768 → hj_ph (hj_clr d 0 32768) 512 0 1 j = hj_fd j := by
  intro j hj
  unfold hj_fd hj_blk hj_ph
  by_cases q : 512 ≤ j ∧ j < 524
  · rw [if_pos (by omega), if_pos (by omega), show 0 + (j - 512 * 1) = j - 512 by omega]
  · rw [if_neg (by omega)]
    unfold hj_clr
    rw [if_pos (by omega)]
    by_cases z : 512 * 1 ≤ j ∧ j < 512 * 1 + 512
    · rw [if_pos z]
      unfold hj_hd hj_hd0
      rw [if_neg (by omega), if_neg (by omega), if_neg (by omega), if_neg (by omega), if_neg (by omega), if_neg (by omega)]
    · rw [if_neg z]
theorem hj_narb {b : Nat} (h : b < 2) : narrow .boolean (.int (nI b)) = .int (nI b) := by
  rcases (show b = 0 ∨ b = 1 by omega) with rfl | rfl <;> rfl
abbrev rm_J_init : Room := { frames := 16, cells := 8, slots := 55601, locals := 200 }
set_option maxHeartbeats 4000000 in
set_option maxRecDepth 100000 in
theorem c_J_init (l : Launch) (dC : Nat → ClassId) (dI : Nat → Nat → Nat) (j : Nat) : hj_Mv l y_J_init b_J_init 1 rm_J_init hj_EX (dC, dI) vwCl [] [(j, .inr (2, [.null, .null, .null, .null, .int 0, .int 0, .int 0, .int 0]))] [.ref j] (fun _ => True) (fun (((dk, a, rc, ta, pa), (sa, la, ma), (cA, cS, cL), (cM, cT, cP)) : (Nat × Nat × Nat × Nat × Nat) × (Nat × Nat × Nat) × (ClassId × ClassId × ClassId) × (ClassId × ClassId × ClassId)) => [(j, .inr (2, [.ref dk, .ref rc, .ref ta, .ref pa, .int (nI 0), .int (nI 1), .int (nI 0), .int (nI 0)])), (dk, .inr (0, [.ref a, .int (-1), .int (nI 0)])), (a, .inl (cA, 32768, .inl (hj_B (fun _ => 0)))), (rc, .inr (1, [.ref sa, .ref la, .ref ma, .int (nI 0), .int (nI 0), .int (nI 0)])), (sa, .inl (cS, 1984, .inl (fun _ => 0))), (la, .inl (cL, 1984, .inl (fun _ => 0))), (ma, .inl (cM, 1984, .inl (fun _ => 0))), (ta, .inl (cT, 1000, .inl (hj_B (fun _ => 0)))), (pa, .inl (cP, 15872, .inl (hj_B (fun _ => 0))))]) (fun (((dk, a, rc, ta, pa), (sa, la, ma), (cA, cS, cL), (cM, cT, cP)) : (Nat × Nat × Nat × Nat × Nat) × (Nat × Nat × Nat) × (ClassId × ClassId × ClassId) × (ClassId × ClassId × ClassId)) => [(cA, .byte), (cS, .int), (cL, .int), (cM, .boolean), (cT, .byte), (cP, .byte)]) 8 55601 := by
  refine hj_bodyV (by decide +kernel) (Nat.le_of_ble_eq_true rfl) ?_
  intro p e s m args below meth c A Q ls hx hb hts hown hml hin hA hP hK hD hE hl hret
  have hS : va_S A s.heap s.heap [] := va_S.rf
  have hown : s.vm.findClass "HalfJournal" = some m.cls := hown
  have hl : lv_has ls 1 [(0, .ref j)] := hl
  have hP : va_P (dC, dI) vwCl [(j, .inr (2, [.null, .null, .null, .null, .int 0, .int 0, .int 0, .int 0]))] s.heap := hP
  have hD : va_D A [(j, .inr (2, [.null, .null, .null, .null, .int 0, .int 0, .int 0, .int 0]))] := hD
  refine lv_aload_n hx hb d_J_init_0 rfl (lv_at hl 0 rfl) ?_
  refine W.objInit hx hb hown (hts _ m_27) (hts _ m_28) (hts _ m_29) rfl (by rw [hml]; exact hl.1) rfl d_J_init_1 (Nat.le_of_ble_eq_true rfl) (Nat.le_of_ble_eq_true rfl) ?_
  refine W.eq (g2 := F0 m 4 ls []) rfl ?_
  refine lv_aload_n hx hb d_J_init_4 rfl (lv_at hl 0 rfl) ?_
  refine va_new (ci := 0) (fs := [.null, .int 0, .int 0]) (C := "HalfJournal$Disk") (T := F_D) (N := 3) hx hb hts i_D t_D t_D_ok hown (hts _ m_30) (hts _ m_31) (hts _ m_2) hK hP hD hS hA rfl (fun j hj => by rcases (show j = 0 ∨ j = 1 ∨ j = 2 by omega) with rfl | rfl | rfl <;> rfl) (Nat.le_of_ble_eq_true rfl) (Nat.le_of_ble_eq_true rfl) d_J_init_5 (fun dk H hP hD hS => ?_)
  have hP : va_P (dC, dI) vwCl [(j, .inr (2, [.null, .null, .null, .null, .int 0, .int 0, .int 0, .int 0])), (dk, .inr (0, [.null, .int 0, .int 0]))] H := hP
  have hD : va_D A [(j, .inr (2, [.null, .null, .null, .null, .int 0, .int 0, .int 0, .int 0])), (dk, .inr (0, [.null, .int 0, .int 0]))] := hD
  refine lv_dup hx hb d_J_init_8 rfl ?_
  refine hj_callv (wc := [(dk, .inr (0, [.null, .int 0, .int 0]))]) (wr := [(j, .inr (2, [.null, .null, .null, .null, .int 0, .int 0, .int 0, .int 0]))]) [1] [0] hP hD hS hA rfl rfl rfl (by decide) (va_runIN (As := []) (rest := [.ref dk, .ref j]) ⟨hx, hb, hml, hown, hts⟩ (c_D_init l dC dI dk H.size) ⟨va_cnB 0 hts (hj_gC m_34) rfl rfl rfl (hE.1 _ m_32) (hts _ m_2) (by decide +kernel) ⟨Nat.le_of_ble_eq_true rfl, Nat.le_of_ble_eq_true rfl⟩, rfl, hts _ m_33⟩ (hj_preS hj_EXok hE hP hD hK hS hA [1] rfl rfl [] rfl) rfl rfl hl.1 rfl (lv_room (Nat.le_of_ble_eq_true rfl)) d_J_init_9 ⟨Nat.le_of_ble_eq_true rfl, Nat.le_of_ble_eq_true rfl⟩) (fun u_2 H locs hw hP hD hK1 hS => ?_)
  obtain ⟨a, cA⟩ := u_2
  have hK : va_K (dC, dI) vwCl [(cA, .byte)] s := hK.app hK1
  have hP : va_P (dC, dI) vwCl [(j, .inr (2, [.null, .null, .null, .null, .int 0, .int 0, .int 0, .int 0])), (dk, .inr (0, [.ref a, .int (-1), .int (nI 0)])), (a, .inl (cA, 32768, .inl (hj_B (fun _ => 0))))] H := hP.sub [0, 1, 2] rfl
  have hD : va_D A [(j, .inr (2, [.null, .null, .null, .null, .int 0, .int 0, .int 0, .int 0])), (dk, .inr (0, [.ref a, .int (-1), .int (nI 0)])), (a, .inl (cA, 32768, .inl (hj_B (fun _ => 0))))] := hD.sub [0, 1, 2] (by decide) rfl
  refine va_putF (D := (dC, dI)) (ci := 2) (v := .ref dk) (ty := (.object "HalfJournal$Disk")) (C := "HalfJournal") (T := F_J) (N := 8) hx hb hts i_J t_J t_J_ok n_J hown hK hP hD hS 0 rfl rfl 0 (by decide) (hts _ m_84) (fun _ h9 => h9) rfl hin rfl (by decide +kernel) rfl rfl (Nat.le_of_ble_eq_true rfl) d_J_init_12 (fun H locs hP hD hS => ?_)
  have hP : va_P (dC, dI) vwCl [(j, .inr (2, [.ref dk, .null, .null, .null, .int 0, .int 0, .int 0, .int 0])), (dk, .inr (0, [.ref a, .int (-1), .int (nI 0)])), (a, .inl (cA, 32768, .inl (hj_B (fun _ => 0))))] H := hP
  have hD : va_D A [(j, .inr (2, [.ref dk, .null, .null, .null, .int 0, .int 0, .int 0, .int 0])), (dk, .inr (0, [.ref a, .int (-1), .int (nI 0)])), (a, .inl (cA, 32768, .inl (hj_B (fun _ => 0))))] := hD
  refine lv_aload_n hx hb d_J_init_15 rfl (lv_at hl 0 rfl) ?_
  refine va_new (ci := 1) (fs := [.null, .null, .null, .int 0, .int 0, .int 0]) (C := "HalfJournal$Records") (T := F_R) (N := 6) hx hb hts i_R t_R t_R_ok hown (hts _ m_51) (hts _ m_52) (hts _ m_3) hK hP hD hS hA rfl (fun j hj => by rcases (show j = 0 ∨ j = 1 ∨ j = 2 ∨ j = 3 ∨ j = 4 ∨ j = 5 by omega) with rfl | rfl | rfl | rfl | rfl | rfl <;> rfl) (Nat.le_of_ble_eq_true rfl) (Nat.le_of_ble_eq_true rfl) d_J_init_16 (fun rc H hP hD hS => ?_)
  have hP : va_P (dC, dI) vwCl [(j, .inr (2, [.ref dk, .null, .null, .null, .int 0, .int 0, .int 0, .int 0])), (dk, .inr (0, [.ref a, .int (-1), .int (nI 0)])), (a, .inl (cA, 32768, .inl (hj_B (fun _ => 0)))), (rc, .inr (1, [.null, .null, .null, .int 0, .int 0, .int 0]))] H := hP
  have hD : va_D A [(j, .inr (2, [.ref dk, .null, .null, .null, .int 0, .int 0, .int 0, .int 0])), (dk, .inr (0, [.ref a, .int (-1), .int (nI 0)])), (a, .inl (cA, 32768, .inl (hj_B (fun _ => 0)))), (rc, .inr (1, [.null, .null, .null, .int 0, .int 0, .int 0]))] := hD
  refine lv_dup hx hb d_J_init_19 rfl ?_
  refine hj_callv (wc := [(rc, .inr (1, [.null, .null, .null, .int 0, .int 0, .int 0]))]) (wr := [(j, .inr (2, [.ref dk, .null, .null, .null, .int 0, .int 0, .int 0, .int 0])), (dk, .inr (0, [.ref a, .int (-1), .int (nI 0)])), (a, .inl (cA, 32768, .inl (hj_B (fun _ => 0))))]) [3] [0, 1, 2] hP hD hS hA rfl rfl rfl (by decide) (va_runIN (As := []) (rest := [.ref rc, .ref j]) ⟨hx, hb, hml, hown, hts⟩ (c_R_init l dC dI rc H.size) ⟨va_cnB 0 hts (hj_gC m_55) rfl rfl rfl (hE.1 _ m_53) (hts _ m_3) (by decide +kernel) ⟨Nat.le_of_ble_eq_true rfl, Nat.le_of_ble_eq_true rfl⟩, rfl, hts _ m_54⟩ (hj_preS hj_EXok hE hP hD hK hS hA [3] rfl rfl [] rfl) rfl rfl hl.1 rfl (lv_room (Nat.le_of_ble_eq_true rfl)) d_J_init_20 ⟨Nat.le_of_ble_eq_true rfl, Nat.le_of_ble_eq_true rfl⟩) (fun u_4 H locs hw hP hD hK1 hS => ?_)
  obtain ⟨⟨sa, cS⟩, ⟨la, cL⟩, ⟨ma, cM⟩⟩ := u_4
  have hK : va_K (dC, dI) vwCl [(cA, .byte), (cS, .int), (cL, .int), (cM, .boolean)] s := hK.app hK1
  have hP : va_P (dC, dI) vwCl [(j, .inr (2, [.ref dk, .null, .null, .null, .int 0, .int 0, .int 0, .int 0])), (dk, .inr (0, [.ref a, .int (-1), .int (nI 0)])), (a, .inl (cA, 32768, .inl (hj_B (fun _ => 0)))), (rc, .inr (1, [.ref sa, .ref la, .ref ma, .int (nI 0), .int (nI 0), .int (nI 0)])), (sa, .inl (cS, 1984, .inl (fun _ => 0))), (la, .inl (cL, 1984, .inl (fun _ => 0))), (ma, .inl (cM, 1984, .inl (fun _ => 0)))] H := hP.sub [0, 1, 2, 3, 4, 5, 6] rfl
  have hD : va_D A [(j, .inr (2, [.ref dk, .null, .null, .null, .int 0, .int 0, .int 0, .int 0])), (dk, .inr (0, [.ref a, .int (-1), .int (nI 0)])), (a, .inl (cA, 32768, .inl (hj_B (fun _ => 0)))), (rc, .inr (1, [.ref sa, .ref la, .ref ma, .int (nI 0), .int (nI 0), .int (nI 0)])), (sa, .inl (cS, 1984, .inl (fun _ => 0))), (la, .inl (cL, 1984, .inl (fun _ => 0))), (ma, .inl (cM, 1984, .inl (fun _ => 0)))] := hD.sub [0, 1, 2, 3, 4, 5, 6] (by decide) rfl
  refine va_putF (D := (dC, dI)) (ci := 2) (v := .ref rc) (ty := (.object "HalfJournal$Records")) (C := "HalfJournal") (T := F_J) (N := 8) hx hb hts i_J t_J t_J_ok n_J hown hK hP hD hS 0 rfl rfl 1 (by decide) (hts _ m_85) (fun _ h9 => h9) rfl hin rfl (by decide +kernel) rfl rfl (Nat.le_of_ble_eq_true rfl) d_J_init_23 (fun H locs hP hD hS => ?_)
  have hP : va_P (dC, dI) vwCl [(j, .inr (2, [.ref dk, .ref rc, .null, .null, .int 0, .int 0, .int 0, .int 0])), (dk, .inr (0, [.ref a, .int (-1), .int (nI 0)])), (a, .inl (cA, 32768, .inl (hj_B (fun _ => 0)))), (rc, .inr (1, [.ref sa, .ref la, .ref ma, .int (nI 0), .int (nI 0), .int (nI 0)])), (sa, .inl (cS, 1984, .inl (fun _ => 0))), (la, .inl (cL, 1984, .inl (fun _ => 0))), (ma, .inl (cM, 1984, .inl (fun _ => 0)))] H := hP
  have hD : va_D A [(j, .inr (2, [.ref dk, .ref rc, .null, .null, .int 0, .int 0, .int 0, .int 0])), (dk, .inr (0, [.ref a, .int (-1), .int (nI 0)])), (a, .inl (cA, 32768, .inl (hj_B (fun _ => 0)))), (rc, .inr (1, [.ref sa, .ref la, .ref ma, .int (nI 0), .int (nI 0), .int (nI 0)])), (sa, .inl (cS, 1984, .inl (fun _ => 0))), (la, .inl (cL, 1984, .inl (fun _ => 0))), (ma, .inl (cM, 1984, .inl (fun _ => 0)))] := hD
  refine lv_aload_n hx hb d_J_init_26 rfl (lv_at hl 0 rfl) ?_
  refine lv_sipush (v := nI 1000) hx hb d_J_init_27 (by decide) ?_
  refine va_newa (a0 := (1000, .inl (hj_B (fun _ => 0)))) (N' := 1000) (atype := .byte) (ty := .byte) hx hb (hts _ m_50) rfl hK hP hD hS hA (hj_new_b _) (nI_pos (by decide)) (nI_clamp (by decide)) (by decide) (Nat.le_of_ble_eq_true rfl) (Nat.le_of_ble_eq_true rfl) d_J_init_30 (fun ta cT H hK hP hD hS => ?_)
  have hP : va_P (dC, dI) vwCl [(j, .inr (2, [.ref dk, .ref rc, .null, .null, .int 0, .int 0, .int 0, .int 0])), (dk, .inr (0, [.ref a, .int (-1), .int (nI 0)])), (a, .inl (cA, 32768, .inl (hj_B (fun _ => 0)))), (rc, .inr (1, [.ref sa, .ref la, .ref ma, .int (nI 0), .int (nI 0), .int (nI 0)])), (sa, .inl (cS, 1984, .inl (fun _ => 0))), (la, .inl (cL, 1984, .inl (fun _ => 0))), (ma, .inl (cM, 1984, .inl (fun _ => 0))), (ta, .inl (cT, 1000, .inl (hj_B (fun _ => 0))))] H := hP
  have hD : va_D A [(j, .inr (2, [.ref dk, .ref rc, .null, .null, .int 0, .int 0, .int 0, .int 0])), (dk, .inr (0, [.ref a, .int (-1), .int (nI 0)])), (a, .inl (cA, 32768, .inl (hj_B (fun _ => 0)))), (rc, .inr (1, [.ref sa, .ref la, .ref ma, .int (nI 0), .int (nI 0), .int (nI 0)])), (sa, .inl (cS, 1984, .inl (fun _ => 0))), (la, .inl (cL, 1984, .inl (fun _ => 0))), (ma, .inl (cM, 1984, .inl (fun _ => 0))), (ta, .inl (cT, 1000, .inl (hj_B (fun _ => 0))))] := hD
  have hK : va_K (dC, dI) vwCl [(cA, .byte), (cS, .int), (cL, .int), (cM, .boolean), (cT, .byte)] s := hK
  refine va_putF (D := (dC, dI)) (ci := 2) (v := .ref ta) (ty := (.array .byte)) (C := "HalfJournal") (T := F_J) (N := 8) hx hb hts i_J t_J t_J_ok n_J hown hK hP hD hS 0 rfl rfl 2 (by decide) (hts _ m_86) (fun _ h9 => h9) rfl hin rfl (by decide +kernel) rfl rfl (Nat.le_of_ble_eq_true rfl) d_J_init_32 (fun H locs hP hD hS => ?_)
  have hP : va_P (dC, dI) vwCl [(j, .inr (2, [.ref dk, .ref rc, .ref ta, .null, .int 0, .int 0, .int 0, .int 0])), (dk, .inr (0, [.ref a, .int (-1), .int (nI 0)])), (a, .inl (cA, 32768, .inl (hj_B (fun _ => 0)))), (rc, .inr (1, [.ref sa, .ref la, .ref ma, .int (nI 0), .int (nI 0), .int (nI 0)])), (sa, .inl (cS, 1984, .inl (fun _ => 0))), (la, .inl (cL, 1984, .inl (fun _ => 0))), (ma, .inl (cM, 1984, .inl (fun _ => 0))), (ta, .inl (cT, 1000, .inl (hj_B (fun _ => 0))))] H := hP
  have hD : va_D A [(j, .inr (2, [.ref dk, .ref rc, .ref ta, .null, .int 0, .int 0, .int 0, .int 0])), (dk, .inr (0, [.ref a, .int (-1), .int (nI 0)])), (a, .inl (cA, 32768, .inl (hj_B (fun _ => 0)))), (rc, .inr (1, [.ref sa, .ref la, .ref ma, .int (nI 0), .int (nI 0), .int (nI 0)])), (sa, .inl (cS, 1984, .inl (fun _ => 0))), (la, .inl (cL, 1984, .inl (fun _ => 0))), (ma, .inl (cM, 1984, .inl (fun _ => 0))), (ta, .inl (cT, 1000, .inl (hj_B (fun _ => 0))))] := hD
  refine lv_aload_n hx hb d_J_init_35 rfl (lv_at hl 0 rfl) ?_
  refine lv_sipush (v := nI 15872) hx hb d_J_init_36 (by decide) ?_
  refine va_newa (a0 := (15872, .inl (hj_B (fun _ => 0)))) (N' := 15872) (atype := .byte) (ty := .byte) hx hb (hts _ m_50) rfl hK hP hD hS hA (hj_new_b _) (nI_pos (by decide)) (nI_clamp (by decide)) (by decide) (Nat.le_of_ble_eq_true rfl) (Nat.le_of_ble_eq_true rfl) d_J_init_39 (fun pa cP H hK hP hD hS => ?_)
  have hP : va_P (dC, dI) vwCl [(j, .inr (2, [.ref dk, .ref rc, .ref ta, .null, .int 0, .int 0, .int 0, .int 0])), (dk, .inr (0, [.ref a, .int (-1), .int (nI 0)])), (a, .inl (cA, 32768, .inl (hj_B (fun _ => 0)))), (rc, .inr (1, [.ref sa, .ref la, .ref ma, .int (nI 0), .int (nI 0), .int (nI 0)])), (sa, .inl (cS, 1984, .inl (fun _ => 0))), (la, .inl (cL, 1984, .inl (fun _ => 0))), (ma, .inl (cM, 1984, .inl (fun _ => 0))), (ta, .inl (cT, 1000, .inl (hj_B (fun _ => 0)))), (pa, .inl (cP, 15872, .inl (hj_B (fun _ => 0))))] H := hP
  have hD : va_D A [(j, .inr (2, [.ref dk, .ref rc, .ref ta, .null, .int 0, .int 0, .int 0, .int 0])), (dk, .inr (0, [.ref a, .int (-1), .int (nI 0)])), (a, .inl (cA, 32768, .inl (hj_B (fun _ => 0)))), (rc, .inr (1, [.ref sa, .ref la, .ref ma, .int (nI 0), .int (nI 0), .int (nI 0)])), (sa, .inl (cS, 1984, .inl (fun _ => 0))), (la, .inl (cL, 1984, .inl (fun _ => 0))), (ma, .inl (cM, 1984, .inl (fun _ => 0))), (ta, .inl (cT, 1000, .inl (hj_B (fun _ => 0)))), (pa, .inl (cP, 15872, .inl (hj_B (fun _ => 0))))] := hD
  have hK : va_K (dC, dI) vwCl [(cA, .byte), (cS, .int), (cL, .int), (cM, .boolean), (cT, .byte), (cP, .byte)] s := hK
  refine va_putF (D := (dC, dI)) (ci := 2) (v := .ref pa) (ty := (.array .byte)) (C := "HalfJournal") (T := F_J) (N := 8) hx hb hts i_J t_J t_J_ok n_J hown hK hP hD hS 0 rfl rfl 3 (by decide) (hts _ m_87) (fun _ h9 => h9) rfl hin rfl (by decide +kernel) rfl rfl (Nat.le_of_ble_eq_true rfl) d_J_init_41 (fun H locs hP hD hS => ?_)
  have hP : va_P (dC, dI) vwCl [(j, .inr (2, [.ref dk, .ref rc, .ref ta, .ref pa, .int 0, .int 0, .int 0, .int 0])), (dk, .inr (0, [.ref a, .int (-1), .int (nI 0)])), (a, .inl (cA, 32768, .inl (hj_B (fun _ => 0)))), (rc, .inr (1, [.ref sa, .ref la, .ref ma, .int (nI 0), .int (nI 0), .int (nI 0)])), (sa, .inl (cS, 1984, .inl (fun _ => 0))), (la, .inl (cL, 1984, .inl (fun _ => 0))), (ma, .inl (cM, 1984, .inl (fun _ => 0))), (ta, .inl (cT, 1000, .inl (hj_B (fun _ => 0)))), (pa, .inl (cP, 15872, .inl (hj_B (fun _ => 0))))] H := hP
  have hD : va_D A [(j, .inr (2, [.ref dk, .ref rc, .ref ta, .ref pa, .int 0, .int 0, .int 0, .int 0])), (dk, .inr (0, [.ref a, .int (-1), .int (nI 0)])), (a, .inl (cA, 32768, .inl (hj_B (fun _ => 0)))), (rc, .inr (1, [.ref sa, .ref la, .ref ma, .int (nI 0), .int (nI 0), .int (nI 0)])), (sa, .inl (cS, 1984, .inl (fun _ => 0))), (la, .inl (cL, 1984, .inl (fun _ => 0))), (ma, .inl (cM, 1984, .inl (fun _ => 0))), (ta, .inl (cT, 1000, .inl (hj_B (fun _ => 0)))), (pa, .inl (cP, 15872, .inl (hj_B (fun _ => 0))))] := hD
  refine lv_aload_n hx hb d_J_init_44 rfl (lv_at hl 0 rfl) ?_
  refine lv_iconst (v := nI 0) hx hb d_J_init_45 (by decide) ?_
  refine va_put (D := (dC, dI)) (ci := 2) (v := .int (nI 0)) (ty := (.int)) (C := "HalfJournal") (T := F_J) (N := 8) hx hb hts i_J t_J t_J_ok n_J hown hK hP hD hS 0 rfl rfl 4 (by decide) (hts _ m_88) (fun _ h9 => h9) rfl (by decide +kernel) rfl rfl (Nat.le_of_ble_eq_true rfl) d_J_init_46 (fun H locs hP hD hS => ?_)
  have hP : va_P (dC, dI) vwCl [(j, .inr (2, [.ref dk, .ref rc, .ref ta, .ref pa, .int (nI 0), .int 0, .int 0, .int 0])), (dk, .inr (0, [.ref a, .int (-1), .int (nI 0)])), (a, .inl (cA, 32768, .inl (hj_B (fun _ => 0)))), (rc, .inr (1, [.ref sa, .ref la, .ref ma, .int (nI 0), .int (nI 0), .int (nI 0)])), (sa, .inl (cS, 1984, .inl (fun _ => 0))), (la, .inl (cL, 1984, .inl (fun _ => 0))), (ma, .inl (cM, 1984, .inl (fun _ => 0))), (ta, .inl (cT, 1000, .inl (hj_B (fun _ => 0)))), (pa, .inl (cP, 15872, .inl (hj_B (fun _ => 0))))] H := hP
  have hD : va_D A [(j, .inr (2, [.ref dk, .ref rc, .ref ta, .ref pa, .int (nI 0), .int 0, .int 0, .int 0])), (dk, .inr (0, [.ref a, .int (-1), .int (nI 0)])), (a, .inl (cA, 32768, .inl (hj_B (fun _ => 0)))), (rc, .inr (1, [.ref sa, .ref la, .ref ma, .int (nI 0), .int (nI 0), .int (nI 0)])), (sa, .inl (cS, 1984, .inl (fun _ => 0))), (la, .inl (cL, 1984, .inl (fun _ => 0))), (ma, .inl (cM, 1984, .inl (fun _ => 0))), (ta, .inl (cT, 1000, .inl (hj_B (fun _ => 0)))), (pa, .inl (cP, 15872, .inl (hj_B (fun _ => 0))))] := hD
  refine lv_aload_n hx hb d_J_init_49 rfl (lv_at hl 0 rfl) ?_
  refine lv_iconst (v := nI 1) hx hb d_J_init_50 (by decide) ?_
  refine va_put (D := (dC, dI)) (ci := 2) (v := .int (nI 1)) (ty := (.int)) (C := "HalfJournal") (T := F_J) (N := 8) hx hb hts i_J t_J t_J_ok n_J hown hK hP hD hS 0 rfl rfl 5 (by decide) (hts _ m_89) (fun _ h9 => h9) rfl (by decide +kernel) rfl rfl (Nat.le_of_ble_eq_true rfl) d_J_init_51 (fun H locs hP hD hS => ?_)
  have hP : va_P (dC, dI) vwCl [(j, .inr (2, [.ref dk, .ref rc, .ref ta, .ref pa, .int (nI 0), .int (nI 1), .int 0, .int 0])), (dk, .inr (0, [.ref a, .int (-1), .int (nI 0)])), (a, .inl (cA, 32768, .inl (hj_B (fun _ => 0)))), (rc, .inr (1, [.ref sa, .ref la, .ref ma, .int (nI 0), .int (nI 0), .int (nI 0)])), (sa, .inl (cS, 1984, .inl (fun _ => 0))), (la, .inl (cL, 1984, .inl (fun _ => 0))), (ma, .inl (cM, 1984, .inl (fun _ => 0))), (ta, .inl (cT, 1000, .inl (hj_B (fun _ => 0)))), (pa, .inl (cP, 15872, .inl (hj_B (fun _ => 0))))] H := hP
  have hD : va_D A [(j, .inr (2, [.ref dk, .ref rc, .ref ta, .ref pa, .int (nI 0), .int (nI 1), .int 0, .int 0])), (dk, .inr (0, [.ref a, .int (-1), .int (nI 0)])), (a, .inl (cA, 32768, .inl (hj_B (fun _ => 0)))), (rc, .inr (1, [.ref sa, .ref la, .ref ma, .int (nI 0), .int (nI 0), .int (nI 0)])), (sa, .inl (cS, 1984, .inl (fun _ => 0))), (la, .inl (cL, 1984, .inl (fun _ => 0))), (ma, .inl (cM, 1984, .inl (fun _ => 0))), (ta, .inl (cT, 1000, .inl (hj_B (fun _ => 0)))), (pa, .inl (cP, 15872, .inl (hj_B (fun _ => 0))))] := hD
  refine lv_aload_n hx hb d_J_init_54 rfl (lv_at hl 0 rfl) ?_
  refine lv_iconst (v := nI 0) hx hb d_J_init_55 (by decide) ?_
  refine va_put (D := (dC, dI)) (ci := 2) (v := .int (nI 0)) (ty := (.int)) (C := "HalfJournal") (T := F_J) (N := 8) hx hb hts i_J t_J t_J_ok n_J hown hK hP hD hS 0 rfl rfl 6 (by decide) (hts _ m_90) (fun _ h9 => h9) rfl (by decide +kernel) rfl rfl (Nat.le_of_ble_eq_true rfl) d_J_init_56 (fun H locs hP hD hS => ?_)
  have hP : va_P (dC, dI) vwCl [(j, .inr (2, [.ref dk, .ref rc, .ref ta, .ref pa, .int (nI 0), .int (nI 1), .int (nI 0), .int 0])), (dk, .inr (0, [.ref a, .int (-1), .int (nI 0)])), (a, .inl (cA, 32768, .inl (hj_B (fun _ => 0)))), (rc, .inr (1, [.ref sa, .ref la, .ref ma, .int (nI 0), .int (nI 0), .int (nI 0)])), (sa, .inl (cS, 1984, .inl (fun _ => 0))), (la, .inl (cL, 1984, .inl (fun _ => 0))), (ma, .inl (cM, 1984, .inl (fun _ => 0))), (ta, .inl (cT, 1000, .inl (hj_B (fun _ => 0)))), (pa, .inl (cP, 15872, .inl (hj_B (fun _ => 0))))] H := hP
  have hD : va_D A [(j, .inr (2, [.ref dk, .ref rc, .ref ta, .ref pa, .int (nI 0), .int (nI 1), .int (nI 0), .int 0])), (dk, .inr (0, [.ref a, .int (-1), .int (nI 0)])), (a, .inl (cA, 32768, .inl (hj_B (fun _ => 0)))), (rc, .inr (1, [.ref sa, .ref la, .ref ma, .int (nI 0), .int (nI 0), .int (nI 0)])), (sa, .inl (cS, 1984, .inl (fun _ => 0))), (la, .inl (cL, 1984, .inl (fun _ => 0))), (ma, .inl (cM, 1984, .inl (fun _ => 0))), (ta, .inl (cT, 1000, .inl (hj_B (fun _ => 0)))), (pa, .inl (cP, 15872, .inl (hj_B (fun _ => 0))))] := hD
  refine lv_aload_n hx hb d_J_init_59 rfl (lv_at hl 0 rfl) ?_
  refine lv_iconst (v := nI 0) hx hb d_J_init_60 (by decide) ?_
  refine va_put (D := (dC, dI)) (ci := 2) (v := .int (nI 0)) (ty := (.int)) (C := "HalfJournal") (T := F_J) (N := 8) hx hb hts i_J t_J t_J_ok n_J hown hK hP hD hS 0 rfl rfl 7 (by decide) (hts _ m_91) (fun _ h9 => h9) rfl (by decide +kernel) rfl rfl (Nat.le_of_ble_eq_true rfl) d_J_init_61 (fun H locs hP hD hS => ?_)
  have hP : va_P (dC, dI) vwCl [(j, .inr (2, [.ref dk, .ref rc, .ref ta, .ref pa, .int (nI 0), .int (nI 1), .int (nI 0), .int (nI 0)])), (dk, .inr (0, [.ref a, .int (-1), .int (nI 0)])), (a, .inl (cA, 32768, .inl (hj_B (fun _ => 0)))), (rc, .inr (1, [.ref sa, .ref la, .ref ma, .int (nI 0), .int (nI 0), .int (nI 0)])), (sa, .inl (cS, 1984, .inl (fun _ => 0))), (la, .inl (cL, 1984, .inl (fun _ => 0))), (ma, .inl (cM, 1984, .inl (fun _ => 0))), (ta, .inl (cT, 1000, .inl (hj_B (fun _ => 0)))), (pa, .inl (cP, 15872, .inl (hj_B (fun _ => 0))))] H := hP
  have hD : va_D A [(j, .inr (2, [.ref dk, .ref rc, .ref ta, .ref pa, .int (nI 0), .int (nI 1), .int (nI 0), .int (nI 0)])), (dk, .inr (0, [.ref a, .int (-1), .int (nI 0)])), (a, .inl (cA, 32768, .inl (hj_B (fun _ => 0)))), (rc, .inr (1, [.ref sa, .ref la, .ref ma, .int (nI 0), .int (nI 0), .int (nI 0)])), (sa, .inl (cS, 1984, .inl (fun _ => 0))), (la, .inl (cL, 1984, .inl (fun _ => 0))), (ma, .inl (cM, 1984, .inl (fun _ => 0))), (ta, .inl (cT, 1000, .inl (hj_B (fun _ => 0)))), (pa, .inl (cP, 15872, .inl (hj_B (fun _ => 0))))] := hD
  have hP : va_P (dC, dI) vwCl [(j, .inr (2, [.ref dk, .ref rc, .ref ta, .ref pa, .int (nI 0), .int (nI 1), .int (nI 0), .int (nI 0)])), (dk, .inr (0, [.ref a, .int (-1), .int (nI 0)])), (a, .inl (cA, 32768, .inl (hj_B (fun _ => 0)))), (rc, .inr (1, [.ref sa, .ref la, .ref ma, .int (nI 0), .int (nI 0), .int (nI 0)])), (sa, .inl (cS, 1984, .inl (fun _ => 0))), (la, .inl (cL, 1984, .inl (fun _ => 0))), (ma, .inl (cM, 1984, .inl (fun _ => 0))), (ta, .inl (cT, 1000, .inl (hj_B (fun _ => 0)))), (pa, .inl (cP, 15872, .inl (hj_B (fun _ => 0))))] H := hP.sub [0, 1, 2, 3, 4, 5, 6, 7, 8] rfl
  have hD : va_D A [(j, .inr (2, [.ref dk, .ref rc, .ref ta, .ref pa, .int (nI 0), .int (nI 1), .int (nI 0), .int (nI 0)])), (dk, .inr (0, [.ref a, .int (-1), .int (nI 0)])), (a, .inl (cA, 32768, .inl (hj_B (fun _ => 0)))), (rc, .inr (1, [.ref sa, .ref la, .ref ma, .int (nI 0), .int (nI 0), .int (nI 0)])), (sa, .inl (cS, 1984, .inl (fun _ => 0))), (la, .inl (cL, 1984, .inl (fun _ => 0))), (ma, .inl (cM, 1984, .inl (fun _ => 0))), (ta, .inl (cT, 1000, .inl (hj_B (fun _ => 0)))), (pa, .inl (cP, 15872, .inl (hj_B (fun _ => 0))))] := hD.sub [0, 1, 2, 3, 4, 5, 6, 7, 8] (by decide) rfl
  exact hret ((dk, a, rc, ta, pa), (sa, la, ma), (cA, cS, cL), (cM, cT, cP)) _ _ _ _ d_J_init_64 (trivial) hP hK hD hS
abbrev rm_J_wipe : Room := { frames := 8, cells := 0, slots := 0, locals := 100 }
set_option maxHeartbeats 4000000 in
set_option maxRecDepth 100000 in
theorem c_J_wipe (l : Launch) (dC : Nat → ClassId) (dI : Nat → Nat → Nat) (j dk rc ta pa : Nat) (tl st g h : Nat) : hj_Mv l y_J_wipe b_J_wipe 1 rm_J_wipe hj_EX (dC, dI) vwCl [] [(j, .inr (2, [.ref dk, .ref rc, .ref ta, .ref pa, .int (nI tl), .int (nI st), .int (nI g), .int (nI h)]))] [.ref j] (fun _ => True) (fun _ : Unit => [(j, .inr (2, [.ref dk, .ref rc, .ref ta, .ref pa, .int (nI 0), .int (nI st), .int (nI g), .int (nI h)]))]) (fun _ => []) 0 0 := by
  refine hj_bodyV (by decide +kernel) (Nat.le_of_ble_eq_true rfl) ?_
  intro p e s m args below meth c A Q ls hx hb hts hown hml hin hA hP hK hD hE hl hret
  have hS : va_S A s.heap s.heap [] := va_S.rf
  have hown : s.vm.findClass "HalfJournal" = some m.cls := hown
  have hl : lv_has ls 1 [(0, .ref j)] := hl
  have hP : va_P (dC, dI) vwCl [(j, .inr (2, [.ref dk, .ref rc, .ref ta, .ref pa, .int (nI tl), .int (nI st), .int (nI g), .int (nI h)]))] s.heap := hP
  have hD : va_D A [(j, .inr (2, [.ref dk, .ref rc, .ref ta, .ref pa, .int (nI tl), .int (nI st), .int (nI g), .int (nI h)]))] := hD
  refine lv_aload_n hx hb d_J_wipe_0 rfl (lv_at hl 0 rfl) ?_
  refine lv_iconst (v := nI 0) hx hb d_J_wipe_1 (by decide) ?_
  refine va_put (D := (dC, dI)) (ci := 2) (v := .int (nI 0)) (ty := (.int)) (C := "HalfJournal") (T := F_J) (N := 8) hx hb hts i_J t_J t_J_ok n_J hown hK hP hD hS 0 rfl rfl 4 (by decide) (hts _ m_88) (fun _ h9 => h9) rfl (by decide +kernel) rfl rfl (Nat.le_of_ble_eq_true rfl) d_J_wipe_2 (fun H locs hP hD hS => ?_)
  have hP : va_P (dC, dI) vwCl [(j, .inr (2, [.ref dk, .ref rc, .ref ta, .ref pa, .int (nI 0), .int (nI st), .int (nI g), .int (nI h)]))] H := hP
  have hD : va_D A [(j, .inr (2, [.ref dk, .ref rc, .ref ta, .ref pa, .int (nI 0), .int (nI st), .int (nI g), .int (nI h)]))] := hD
  exact hret () _ _ _ _ d_J_wipe_5 (trivial) hP hK hD hS
abbrev rm_J_crash : Room := { frames := 24, cells := 0, slots := 0, locals := 300 }
set_option maxHeartbeats 4000000 in
set_option maxRecDepth 100000 in
theorem c_J_crash (l : Launch) (dC : Nat → ClassId) (dI : Nat → Nat → Nat) (j dk rc ta pa : Nat) (tl st g h : Nat) (sa la ma : Nat) (n us mm : Nat) : hj_Mv l y_J_crash b_J_crash 1 rm_J_crash hj_EX (dC, dI) vwCl [] [(j, .inr (2, [.ref dk, .ref rc, .ref ta, .ref pa, .int (nI tl), .int (nI st), .int (nI g), .int (nI h)])), (rc, .inr (1, [.ref sa, .ref la, .ref ma, .int (nI n), .int (nI us), .int (nI mm)]))] [.ref j] (fun _ => True) (fun _ : Unit => [(j, .inr (2, [.ref dk, .ref rc, .ref ta, .ref pa, .int (nI tl), .int (nI 0), .int (nI 0), .int (nI 0)])), (rc, .inr (1, [.ref sa, .ref la, .ref ma, .int (nI 0), .int (nI 0), .int (nI 0)]))]) (fun _ => []) 0 0 := by
  refine hj_bodyV (by decide +kernel) (Nat.le_of_ble_eq_true rfl) ?_
  intro p e s m args below meth c A Q ls hx hb hts hown hml hin hA hP hK hD hE hl hret
  have hS : va_S A s.heap s.heap [] := va_S.rf
  have hown : s.vm.findClass "HalfJournal" = some m.cls := hown
  have hl : lv_has ls 1 [(0, .ref j)] := hl
  have hP : va_P (dC, dI) vwCl [(j, .inr (2, [.ref dk, .ref rc, .ref ta, .ref pa, .int (nI tl), .int (nI st), .int (nI g), .int (nI h)])), (rc, .inr (1, [.ref sa, .ref la, .ref ma, .int (nI n), .int (nI us), .int (nI mm)]))] s.heap := hP
  have hD : va_D A [(j, .inr (2, [.ref dk, .ref rc, .ref ta, .ref pa, .int (nI tl), .int (nI st), .int (nI g), .int (nI h)])), (rc, .inr (1, [.ref sa, .ref la, .ref ma, .int (nI n), .int (nI us), .int (nI mm)]))] := hD
  refine lv_aload_n hx hb d_J_crash_0 rfl (lv_at hl 0 rfl) ?_
  refine lv_iconst (v := nI 0) hx hb d_J_crash_1 (by decide) ?_
  refine hj_callv (wc := [(j, .inr (2, [.ref dk, .ref rc, .ref ta, .ref pa, .int (nI tl), .int (nI st), .int (nI g), .int (nI h)])), (rc, .inr (1, [.ref sa, .ref la, .ref ma, .int (nI n), .int (nI us), .int (nI mm)]))]) (wr := []) [0, 1] [] hP hD hS hA rfl rfl rfl (by decide) (va_runV (As := [.int (nI 0)]) (rest := []) ⟨hx, hb, hml, hown, hts⟩ (c_J_leave l dC dI j dk rc ta pa tl st g h sa la ma n us mm 0 s.heap.size) (cwV 1 hts (hj_gV m_508 m_510 s_J_leave m_1 m_511) rfl rfl rfl (by decide +kernel) ⟨Nat.le_of_ble_eq_true rfl, Nat.le_of_ble_eq_true rfl⟩) (hj_preV (ci := 2) (q0 := 0) hj_EXok hE hP hD hK hS hA [0, 1] rfl rfl [] rfl rfl rfl) rfl rfl hl.1 rfl (lv_room (Nat.le_of_ble_eq_true rfl)) d_J_crash_2 ⟨Nat.le_of_ble_eq_true rfl, Nat.le_of_ble_eq_true rfl⟩) (fun u_2 H locs hw hP hD hK1 hS => ?_)
  have hP : va_P (dC, dI) vwCl [(j, .inr (2, [.ref dk, .ref rc, .ref ta, .ref pa, .int (nI tl), .int (nI 0), .int (nI 0), .int (nI 0)])), (rc, .inr (1, [.ref sa, .ref la, .ref ma, .int (nI 0), .int (nI 0), .int (nI 0)]))] H := hP.sub [0, 1] rfl
  have hD : va_D A [(j, .inr (2, [.ref dk, .ref rc, .ref ta, .ref pa, .int (nI tl), .int (nI 0), .int (nI 0), .int (nI 0)])), (rc, .inr (1, [.ref sa, .ref la, .ref ma, .int (nI 0), .int (nI 0), .int (nI 0)]))] := hD.sub [0, 1] (by decide) rfl
  exact hret () _ _ _ _ d_J_crash_5 (trivial) hP hK hD hS
abbrev rm_J_crashIn : Room := { frames := 8, cells := 0, slots := 0, locals := 100 }
set_option maxHeartbeats 4000000 in
set_option maxRecDepth 100000 in
theorem c_J_crashIn (l : Launch) (dC : Nat → ClassId) (dI : Nat → Nat → Nat) (j dk rc ta pa : Nat) (tl st g h : Nat) (a : Nat) (du wr : Int32) (x : Int32) : hj_Mi l y_J_crashIn b_J_crashIn 2 .boolean rm_J_crashIn hj_EX (dC, dI) vwCl [] [(j, .inr (2, [.ref dk, .ref rc, .ref ta, .ref pa, .int (nI tl), .int (nI st), .int (nI g), .int (nI h)])), (dk, .inr (0, [.ref a, .int du, .int wr]))] [.ref j, .int x] (fun r y => hj_cin du x r y) (fun y : Int32 => [(j, .inr (2, [.ref dk, .ref rc, .ref ta, .ref pa, .int (nI tl), .int (nI st), .int (nI g), .int (nI h)])), (dk, .inr (0, [.ref a, .int y, .int wr]))]) (fun _ => []) 0 0 := by
  refine hj_bodyI (by decide +kernel) (Nat.le_of_ble_eq_true rfl) ?_
  intro p e s m args below meth c A Q ls hx hb hts hown hml hA hP hK hD hE hl hret
  have hS : va_S A s.heap s.heap [] := va_S.rf
  have hown : s.vm.findClass "HalfJournal" = some m.cls := hown
  have hl : lv_has ls 2 [(0, .ref j), (1, .int x)] := hl
  have hP : va_P (dC, dI) vwCl [(j, .inr (2, [.ref dk, .ref rc, .ref ta, .ref pa, .int (nI tl), .int (nI st), .int (nI g), .int (nI h)])), (dk, .inr (0, [.ref a, .int du, .int wr]))] s.heap := hP
  have hD : va_D A [(j, .inr (2, [.ref dk, .ref rc, .ref ta, .ref pa, .int (nI tl), .int (nI st), .int (nI g), .int (nI h)])), (dk, .inr (0, [.ref a, .int du, .int wr]))] := hD
  refine lv_iload_n hx hb d_J_crashIn_0 rfl (lv_at hl 1 rfl) ?_
  refine lv_sipush (v := nI 1000) hx hb d_J_crashIn_1 (by decide) ?_
  refine lv_icmp_le (tgt := 9) hx hb d_J_crashIn_4 (by decide) (fun c_1 => ?_) (fun c_1 => ?_)
  · refine lv_aload_n hx hb d_J_crashIn_9 rfl (lv_at hl 0 rfl) ?_
    refine va_get (D := (dC, dI)) (ci := 2) (v := .ref dk) (C := "HalfJournal") (T := F_J) (N := 8) hx hb hts i_J hown hK hP 0 rfl rfl 0 (by decide) (hts _ m_84) (fun _ h9 => h9) rfl d_J_crashIn_10 ?_
    refine lv_iload_n hx hb d_J_crashIn_13 rfl (lv_at hl 1 rfl) ?_
    refine lv_if_ge (tgt := 21) hx hb d_J_crashIn_14 (by decide) (fun c_2 => ?_) (fun c_2 => ?_)
    · refine lv_iload_n hx hb d_J_crashIn_21 rfl (lv_at hl 1 rfl) ?_
      refine va_putN (D := (dC, dI)) (ci := 0) (v := .int x) (ty := (.int)) (C := "HalfJournal$Disk") (T := F_D) (N := 3) hx hb hts i_D t_D t_D_ok n_D hown hK hP hD hS 1 rfl rfl 1 (by decide) (va_Nw.use rfl (hE.1 _ m_40)) (fun _ h9 => h9) rfl (by decide +kernel) rfl rfl (Nat.le_of_ble_eq_true rfl) d_J_crashIn_22 (fun H locs hP hD hS => ?_)
      have hP : va_P (dC, dI) vwCl [(j, .inr (2, [.ref dk, .ref rc, .ref ta, .ref pa, .int (nI tl), .int (nI st), .int (nI g), .int (nI h)])), (dk, .inr (0, [.ref a, .int x, .int wr]))] H := hP
      have hD : va_D A [(j, .inr (2, [.ref dk, .ref rc, .ref ta, .ref pa, .int (nI tl), .int (nI st), .int (nI g), .int (nI h)])), (dk, .inr (0, [.ref a, .int x, .int wr]))] := hD
      refine lv_iconst (v := nI 1) hx hb d_J_crashIn_25 (by decide) ?_
      exact hret (nI 1) x _ _ _ _ d_J_crashIn_26 rfl (Or.inr ⟨Int32.not_lt.mpr c_1, rfl, Or.inr ⟨Int32.not_lt.mpr c_2, rfl⟩⟩) hP hK hD hS
    · refine lv_iconst (v := (-1)) hx hb d_J_crashIn_17 (by decide) ?_
      refine lv_goto (tgt := 22) hx hb d_J_crashIn_18 (by decide) ?_
      refine va_putN (D := (dC, dI)) (ci := 0) (v := .int (-1)) (ty := (.int)) (C := "HalfJournal$Disk") (T := F_D) (N := 3) hx hb hts i_D t_D t_D_ok n_D hown hK hP hD hS 1 rfl rfl 1 (by decide) (va_Nw.use rfl (hE.1 _ m_40)) (fun _ h9 => h9) rfl (by decide +kernel) rfl rfl (Nat.le_of_ble_eq_true rfl) d_J_crashIn_22 (fun H locs hP hD hS => ?_)
      have hP : va_P (dC, dI) vwCl [(j, .inr (2, [.ref dk, .ref rc, .ref ta, .ref pa, .int (nI tl), .int (nI st), .int (nI g), .int (nI h)])), (dk, .inr (0, [.ref a, .int (-1), .int wr]))] H := hP
      have hD : va_D A [(j, .inr (2, [.ref dk, .ref rc, .ref ta, .ref pa, .int (nI tl), .int (nI st), .int (nI g), .int (nI h)])), (dk, .inr (0, [.ref a, .int (-1), .int wr]))] := hD
      refine lv_iconst (v := nI 1) hx hb d_J_crashIn_25 (by decide) ?_
      exact hret (nI 1) (-1) _ _ _ _ d_J_crashIn_26 rfl (Or.inr ⟨Int32.not_lt.mpr c_1, rfl, Or.inl ⟨Int32.not_le.mp c_2, rfl⟩⟩) hP hK hD hS
  · refine lv_iconst (v := nI 0) hx hb d_J_crashIn_7 (by decide) ?_
    exact hret (nI 0) du _ _ _ _ d_J_crashIn_8 rfl (Or.inl ⟨Int32.not_le.mp c_1, rfl, rfl⟩) hP hK hD hS
abbrev rm_J_give : Room := { frames := 8, cells := 0, slots := 0, locals := 100 }
set_option maxHeartbeats 4000000 in
set_option maxRecDepth 100000 in
theorem c_J_give (l : Launch) (dC : Nat → ClassId) (dI : Nat → Nat → Nat) (j dk rc ta pa : Nat) (tl st g h : Nat) (cT : ClassId) (tp : Nat → Nat) (v : Int64) (x : Int32) (htl : tl ≤ 1000) : hj_Mi l y_J_give b_J_give 5 .boolean rm_J_give hj_EX (dC, dI) vwCl [(cT, .byte)] [(j, .inr (2, [.ref dk, .ref rc, .ref ta, .ref pa, .int (nI tl), .int (nI st), .int (nI g), .int (nI h)])), (ta, .inl (cT, 1000, .inl (hj_B tp)))] [.ref j, .long v, .int x] (fun r u => hj_give tp tl v x r u.1 u.2) (fun u : (Nat → Nat) × Nat => [(j, .inr (2, [.ref dk, .ref rc, .ref ta, .ref pa, .int (nI u.2), .int (nI st), .int (nI g), .int (nI h)])), (ta, .inl (cT, 1000, .inl (hj_B u.1)))]) (fun _ => [(cT, .byte)]) 0 0 := by
  refine hj_bodyI (by decide +kernel) (Nat.le_of_ble_eq_true rfl) ?_
  intro p e s m args below meth c A Q ls hx hb hts hown hml hA hP hK hD hE hl hret
  have hS : va_S A s.heap s.heap [] := va_S.rf
  have hown : s.vm.findClass "HalfJournal" = some m.cls := hown
  have hl : lv_has ls 5 [(0, .ref j), (1, .long v), (3, .int x)] := hl
  have hP : va_P (dC, dI) vwCl [(j, .inr (2, [.ref dk, .ref rc, .ref ta, .ref pa, .int (nI tl), .int (nI st), .int (nI g), .int (nI h)])), (ta, .inl (cT, 1000, .inl (hj_B tp)))] s.heap := hP
  have hD : va_D A [(j, .inr (2, [.ref dk, .ref rc, .ref ta, .ref pa, .int (nI tl), .int (nI st), .int (nI g), .int (nI h)])), (ta, .inl (cT, 1000, .inl (hj_B tp)))] := hD
  refine lv_iload_n hx hb d_J_give_0 rfl (lv_at hl 2 rfl) ?_
  refine lv_iconst (v := nI 1) hx hb d_J_give_1 (by decide) ?_
  refine lv_icmp_lt (tgt := 25) hx hb d_J_give_2 (by decide) (fun c_1 => ?_) (fun c_1 => ?_)
  · refine lv_iconst (v := nI 0) hx hb d_J_give_25 (by decide) ?_
    exact hret (nI 0) (tp, tl) _ _ _ _ d_J_give_26 rfl (Or.inr ⟨fun ⟨k9, h1, h2, h3, h4⟩ => by rw [h1] at c_1; have h5 := (nI_ltI (by omega) (by omega)).mp c_1; omega, rfl, rfl, rfl⟩) hP hK hD hS
  · obtain ⟨k, hk1, hk2, rfl⟩ := hj_ge1 c_1
    refine lv_iload_n hx hb d_J_give_5 rfl (lv_at hl 2 rfl) ?_
    refine lv_bipush (v := nI 8) hx hb d_J_give_6 (by decide) ?_
    refine hj_icmp_gt (tgt := 25) hx hb (by omega) (by omega) d_J_give_8 (by decide) (fun c_2 => ?_) (fun c_2 => ?_)
    · refine lv_iconst (v := nI 0) hx hb d_J_give_25 (by decide) ?_
      exact hret (nI 0) (tp, tl) _ _ _ _ d_J_give_26 rfl (Or.inr ⟨fun ⟨k9, h1, h2, h3, h4⟩ => by have h5 := (nI_eq (by omega) (by omega)).mp h1; omega, rfl, rfl, rfl⟩) hP hK hD hS
    · refine lv_iload_n hx hb d_J_give_11 rfl (lv_at hl 2 rfl) ?_
      refine lv_aload_n hx hb d_J_give_12 rfl (lv_at hl 0 rfl) ?_
      refine va_get (D := (dC, dI)) (ci := 2) (v := .ref ta) (C := "HalfJournal") (T := F_J) (N := 8) hx hb hts i_J hown hK hP 0 rfl rfl 2 (by decide) (hts _ m_86) (fun _ h9 => h9) rfl d_J_give_13 ?_
      refine va_alen (v := nI 1000) hx hb hK hP 1 0 rfl rfl rfl d_J_give_16 ?_
      refine lv_aload_n hx hb d_J_give_17 rfl (lv_at hl 0 rfl) ?_
      refine va_get (D := (dC, dI)) (ci := 2) (v := .int (nI tl)) (C := "HalfJournal") (T := F_J) (N := 8) hx hb hts i_J hown hK hP 0 rfl rfl 4 (by decide) (hts _ m_88) (fun _ h9 => h9) rfl d_J_give_18 ?_
      refine hj_isub hx hb (by omega) d_J_give_21 ?_
      refine hj_icmp_le (tgt := 27) hx hb (by omega) (by omega) d_J_give_22 (by decide) (fun c_3 => ?_) (fun c_3 => ?_)
      · refine lv_iload_n hx hb d_J_give_27 rfl (lv_at hl 2 rfl) ?_
        refine lv_iconst (v := nI 1) hx hb d_J_give_28 (by decide) ?_
        refine lv_isub hx hb d_J_give_29 ?_
        refine hj_topv (y := nI k - 1) (rfl) ?_
        refine lv_istore (lv' := [(4, .int (nI k - 1)), (0, .ref j), (1, .long v), (3, .int (nI k))]) hx hb d_J_give_30 hl (by decide) rfl (fun ls hl => ?_)
        have h9 : (tp : Nat → Nat) = hj_gvt tp tl v k (k - k) := by rw [Nat.sub_self, hj_gvt0]
        rw [h9] at hP hD
        have hP : va_P (dC, dI) vwCl [(j, .inr (2, [.ref dk, .ref rc, .ref ta, .ref pa, .int (nI tl), .int (nI st), .int (nI g), .int (nI h)])), (ta, .inl (cT, 1000, .inl (hj_B (hj_gvt tp tl v k (k - k)))))] s.heap := hP
        have hD : va_D A [(j, .inr (2, [.ref dk, .ref rc, .ref ta, .ref pa, .int (nI tl), .int (nI st), .int (nI g), .int (nI h)])), (ta, .inl (cT, 1000, .inl (hj_B (hj_gvt tp tl v k (k - k)))))] := hD
        have h7 : tl = tl + (k - k) := by omega
        have hP : va_P (dC, dI) vwCl [(j, .inr (2, [.ref dk, .ref rc, .ref ta, .ref pa, .int (nI (tl + (k - k))), .int (nI st), .int (nI g), .int (nI h)])), (ta, .inl (cT, 1000, .inl (hj_B (hj_gvt tp tl v k (k - k)))))] s.heap := by rw [← h7]; exact hP
        have hD : va_D A [(j, .inr (2, [.ref dk, .ref rc, .ref ta, .ref pa, .int (nI (tl + (k - k))), .int (nI st), .int (nI g), .int (nI h)])), (ta, .inl (cT, 1000, .inl (hj_B (hj_gvt tp tl v k (k - k)))))] := by rw [← h7]; exact hD
        have lp : ∀ (n9_lp : Nat) (y : Nat), (y ≤ k) → y < n9_lp → ∀ (H : Heap) (locs : List Loc), va_P (dC, dI) vwCl [(j, .inr (2, [.ref dk, .ref rc, .ref ta, .ref pa, .int (nI (tl + (k - y))), .int (nI st), .int (nI g), .int (nI h)])), (ta, .inl (cT, 1000, .inl (hj_B (hj_gvt tp tl v k (k - y)))))] H → va_D A [(j, .inr (2, [.ref dk, .ref rc, .ref ta, .ref pa, .int (nI (tl + (k - y))), .int (nI st), .int (nI g), .int (nI h)])), (ta, .inl (cT, 1000, .inl (hj_B (hj_gvt tp tl v k (k - y)))))] → va_S A s.heap H locs → ∀ (ls : Array Slot), lv_has ls 5 [(0, .ref j), (1, .long v), (4, .int (nI y - 1))] → W p l e rm_J_give s m args below meth c H locs 0 0 Q (F0 m 32 ls []) := by
          intro n9_lp
          induction n9_lp with
          | zero =>
            intro y hy hm_lp
            exact absurd hm_lp (Nat.not_lt_zero _)
          | succ n9_lp ih_lp =>
            intro y hy hm_lp H locs hP hD hS ls hl
            rcases y with _ | y
            · refine lv_iload hx hb d_J_give_32 (lv_at hl 2 rfl) ?_
              refine lv_if_lt (tgt := 71) hx hb d_J_give_34 (by decide) (fun c_9 => ?_) (fun c_9 => ?_)
              · refine lv_iconst (v := nI 1) hx hb d_J_give_71 (by decide) ?_
                exact hret (nI 1) (hj_gvt tp tl v k k, tl + k) _ _ _ _ d_J_give_72 rfl (Or.inl ⟨k, ⟨rfl, hk1, by omega, by omega⟩, rfl, rfl, rfl⟩) hP hK hD hS
              · exact absurd hj_m1_neg c_9
            · rw [nI_pred] at hl
              refine lv_iload hx hb d_J_give_32 (lv_at hl 2 rfl) ?_
              refine hj_if_lt (tgt := 71) hx hb (by omega) d_J_give_34 ?_ (by decide)
              refine lv_aload_n hx hb d_J_give_37 rfl (lv_at hl 0 rfl) ?_
              refine va_get (D := (dC, dI)) (ci := 2) (v := .ref ta) (C := "HalfJournal") (T := F_J) (N := 8) hx hb hts i_J hown hK hP 0 rfl rfl 2 (by decide) (hts _ m_86) (fun _ h9 => h9) rfl d_J_give_38 ?_
              refine lv_aload_n hx hb d_J_give_41 rfl (lv_at hl 0 rfl) ?_
              refine va_get (D := (dC, dI)) (ci := 2) (v := .int (nI (tl + (k - (y + 1))))) (C := "HalfJournal") (T := F_J) (N := 8) hx hb hts i_J hown hK hP 0 rfl rfl 4 (by decide) (hts _ m_88) (fun _ h9 => h9) rfl d_J_give_42 ?_
              refine lv_lload_n hx hb d_J_give_45 rfl (lv_at hl 1 rfl) ?_
              refine lv_bipush (v := nI 8) hx hb d_J_give_46 (by decide) ?_
              refine lv_iload hx hb d_J_give_48 (lv_at hl 2 rfl) ?_
              refine hj_imul hx hb d_J_give_50 ?_
              refine lv_lushr hx hb d_J_give_51 rfl ?_
              refine lv_l2i hx hb d_J_give_52 rfl ?_
              refine lv_i2b (v := sb_b (hj_vb v y)) hx hb d_J_give_53 (hj_give_u v (by omega)) ?_
              refine hj_bast hx hb hK hP hD hS 1 0 rfl rfl (by omega) (by decide) d_J_give_54 (fun H locs hP hD hS => ?_)
              have hP : va_P (dC, dI) vwCl [(j, .inr (2, [.ref dk, .ref rc, .ref ta, .ref pa, .int (nI (tl + (k - (y + 1)))), .int (nI st), .int (nI g), .int (nI h)])), (ta, .inl (cT, 1000, .inl (hj_B (va_up (hj_gvt tp tl v k (k - (y + 1))) (tl + (k - (y + 1))) (hj_vb v y)))))] H := hP
              have hD : va_D A [(j, .inr (2, [.ref dk, .ref rc, .ref ta, .ref pa, .int (nI (tl + (k - (y + 1)))), .int (nI st), .int (nI g), .int (nI h)])), (ta, .inl (cT, 1000, .inl (hj_B (va_up (hj_gvt tp tl v k (k - (y + 1))) (tl + (k - (y + 1))) (hj_vb v y)))))] := hD
              have h9 : (va_up (hj_gvt tp tl v k (k - (y + 1))) (tl + (k - (y + 1))) (hj_vb v y) : Nat → Nat) = hj_gvt tp tl v k (k - y) := by
                have h8 := hj_gvtS tp tl v k (k - (y + 1))
                rw [show k - 1 - (k - (y + 1)) = y by omega, show k - (y + 1) + 1 = k - y by omega] at h8
                exact h8
              rw [h9] at hP hD
              have hP : va_P (dC, dI) vwCl [(j, .inr (2, [.ref dk, .ref rc, .ref ta, .ref pa, .int (nI (tl + (k - (y + 1)))), .int (nI st), .int (nI g), .int (nI h)])), (ta, .inl (cT, 1000, .inl (hj_B (hj_gvt tp tl v k (k - y)))))] H := hP
              have hD : va_D A [(j, .inr (2, [.ref dk, .ref rc, .ref ta, .ref pa, .int (nI (tl + (k - (y + 1)))), .int (nI st), .int (nI g), .int (nI h)])), (ta, .inl (cT, 1000, .inl (hj_B (hj_gvt tp tl v k (k - y)))))] := hD
              refine lv_aload_n hx hb d_J_give_55 rfl (lv_at hl 0 rfl) ?_
              refine lv_dup hx hb d_J_give_56 rfl ?_
              refine va_get (D := (dC, dI)) (ci := 2) (v := .int (nI (tl + (k - (y + 1))))) (C := "HalfJournal") (T := F_J) (N := 8) hx hb hts i_J hown hK hP 0 rfl rfl 4 (by decide) (hts _ m_88) (fun _ h9 => h9) rfl d_J_give_57 ?_
              refine lv_iconst (v := nI 1) hx hb d_J_give_60 (by decide) ?_
              refine hj_iadd hx hb d_J_give_61 ?_
              refine hj_topn (b := tl + (k - y)) (by omega) ?_
              refine va_put (D := (dC, dI)) (ci := 2) (v := .int (nI (tl + (k - y)))) (ty := (.int)) (C := "HalfJournal") (T := F_J) (N := 8) hx hb hts i_J t_J t_J_ok n_J hown hK hP hD hS 0 rfl rfl 4 (by decide) (hts _ m_88) (fun _ h9 => h9) rfl (by decide +kernel) rfl rfl (Nat.le_of_ble_eq_true rfl) d_J_give_62 (fun H locs hP hD hS => ?_)
              have hP : va_P (dC, dI) vwCl [(j, .inr (2, [.ref dk, .ref rc, .ref ta, .ref pa, .int (nI (tl + (k - y))), .int (nI st), .int (nI g), .int (nI h)])), (ta, .inl (cT, 1000, .inl (hj_B (hj_gvt tp tl v k (k - y)))))] H := hP
              have hD : va_D A [(j, .inr (2, [.ref dk, .ref rc, .ref ta, .ref pa, .int (nI (tl + (k - y))), .int (nI st), .int (nI g), .int (nI h)])), (ta, .inl (cT, 1000, .inl (hj_B (hj_gvt tp tl v k (k - y)))))] := hD
              refine lv_iinc (v := nI y - 1) (lv' := [(4, .int (nI y - 1)), (0, .ref j), (1, .long v)]) hx hb d_J_give_65 hl (k := 2) rfl (hj_addm1 _) (by decide) rfl (fun ls hl => ?_)
              refine lv_goto (tgt := 32) hx hb d_J_give_68 (by decide) ?_
              exact ih_lp y (by omega) (by omega) _ _ hP hD hS _ (lv_sub hl [1, 2, 0] rfl)
        exact lp _ k (Nat.le_refl _) (Nat.lt_succ_self _) _ _ hP hD hS _ (lv_sub hl [1, 2, 0] rfl)
      · refine lv_iconst (v := nI 0) hx hb d_J_give_25 (by decide) ?_
        exact hret (nI 0) (tp, tl) _ _ _ _ d_J_give_26 rfl (Or.inr ⟨fun ⟨k9, h1, h2, h3, h4⟩ => by have h5 := (nI_eq (by omega) (by omega)).mp h1; omega, rfl, rfl, rfl⟩) hP hK hD hS
abbrev rm_J_mark : Room := { frames := 24, cells := 0, slots := 0, locals := 300 }
set_option maxHeartbeats 4000000 in
set_option maxRecDepth 100000 in
theorem c_J_mark (l : Launch) (dC : Nat → ClassId) (dI : Nat → Nat → Nat) (j dk rc ta pa : Nat) (tl st g h : Nat) (sa la ma : Nat) (n us mm : Nat) (cM : ClassId) (fm : Nat → Int32) (mk : Nat → Nat) (x : Int32) (b : Nat) (hb9 : b < 2) (hn : n ≤ 1984) (hfm : ∀ i, i < n → fm i = nI (mk i)) (hm2 : ∀ i, mk i < 2) (hmm : mm = hj_ms mk n) : hj_Mi l y_J_mark b_J_mark 3 .boolean rm_J_mark hj_EX (dC, dI) vwCl [(cM, .boolean)] [(j, .inr (2, [.ref dk, .ref rc, .ref ta, .ref pa, .int (nI tl), .int (nI st), .int (nI g), .int (nI h)])), (rc, .inr (1, [.ref sa, .ref la, .ref ma, .int (nI n), .int (nI us), .int (nI mm)])), (ma, .inl (cM, 1984, .inl fm))] [.ref j, .int x, .int (nI b)] (fun r u => hj_mark mk n x b r u.2.2 ∧ (∀ i, i < n → u.1 i = nI (u.2.2 i)) ∧ u.2.1 = hj_ms u.2.2 n) (fun u : (Nat → Int32) × Nat × (Nat → Nat) => [(j, .inr (2, [.ref dk, .ref rc, .ref ta, .ref pa, .int (nI tl), .int (nI st), .int (nI g), .int (nI h)])), (rc, .inr (1, [.ref sa, .ref la, .ref ma, .int (nI n), .int (nI us), .int (nI u.2.1)])), (ma, .inl (cM, 1984, .inl u.1))]) (fun _ => [(cM, .boolean)]) 0 0 := by
  refine hj_bodyI (by decide +kernel) (Nat.le_of_ble_eq_true rfl) ?_
  intro p e s m args below meth c A Q ls hx hb hts hown hml hA hP hK hD hE hl hret
  have hS : va_S A s.heap s.heap [] := va_S.rf
  have hown : s.vm.findClass "HalfJournal" = some m.cls := hown
  have hl : lv_has ls 3 [(0, .ref j), (1, .int x), (2, .int (nI b))] := hl
  have hP : va_P (dC, dI) vwCl [(j, .inr (2, [.ref dk, .ref rc, .ref ta, .ref pa, .int (nI tl), .int (nI st), .int (nI g), .int (nI h)])), (rc, .inr (1, [.ref sa, .ref la, .ref ma, .int (nI n), .int (nI us), .int (nI mm)])), (ma, .inl (cM, 1984, .inl fm))] s.heap := hP
  have hD : va_D A [(j, .inr (2, [.ref dk, .ref rc, .ref ta, .ref pa, .int (nI tl), .int (nI st), .int (nI g), .int (nI h)])), (rc, .inr (1, [.ref sa, .ref la, .ref ma, .int (nI n), .int (nI us), .int (nI mm)])), (ma, .inl (cM, 1984, .inl fm))] := hD
  refine lv_aload_n hx hb d_J_mark_0 rfl (lv_at hl 0 rfl) ?_
  refine va_get (D := (dC, dI)) (ci := 2) (v := .ref rc) (C := "HalfJournal") (T := F_J) (N := 8) hx hb hts i_J hown hK hP 0 rfl rfl 1 (by decide) (hts _ m_85) (fun _ h9 => h9) rfl d_J_mark_1 ?_
  refine lv_iload_n hx hb d_J_mark_4 rfl (lv_at hl 1 rfl) ?_
  refine hj_calli (wc := [(rc, .inr (1, [.ref sa, .ref la, .ref ma, .int (nI n), .int (nI us), .int (nI mm)]))]) (wr := [(j, .inr (2, [.ref dk, .ref rc, .ref ta, .ref pa, .int (nI tl), .int (nI st), .int (nI g), .int (nI h)])), (ma, .inl (cM, 1984, .inl fm))]) [1] [0, 2] hP hD hS hA rfl rfl rfl (by decide) (va_runVN (As := [.int x]) (rest := []) ⟨hx, hb, hml, hown, hts⟩ (c_R_has l dC dI rc sa la ma n us mm x (by omega) s.heap.size) ⟨va_cnB 1 hts (hj_gC m_494) rfl rfl rfl (hE.1 _ m_491) (hts _ m_3) (by decide +kernel) ⟨Nat.le_of_ble_eq_true rfl, Nat.le_of_ble_eq_true rfl⟩, hts _ m_493, hts _ s_R_has⟩ (hj_preV (ci := 1) (q0 := 1) hj_EXok hE hP hD hK hS hA [1] rfl rfl [] rfl rfl rfl) rfl rfl hl.1 rfl (lv_room (Nat.le_of_ble_eq_true rfl)) d_J_mark_5 ⟨Nat.le_of_ble_eq_true rfl, Nat.le_of_ble_eq_true rfl⟩) (fun r_1 u_2 H locs hw hP hD hK1 hS => ?_)
  have hP : va_P (dC, dI) vwCl [(j, .inr (2, [.ref dk, .ref rc, .ref ta, .ref pa, .int (nI tl), .int (nI st), .int (nI g), .int (nI h)])), (rc, .inr (1, [.ref sa, .ref la, .ref ma, .int (nI n), .int (nI us), .int (nI mm)])), (ma, .inl (cM, 1984, .inl fm))] H := hP.sub [0, 2, 1] rfl
  have hD : va_D A [(j, .inr (2, [.ref dk, .ref rc, .ref ta, .ref pa, .int (nI tl), .int (nI st), .int (nI g), .int (nI h)])), (rc, .inr (1, [.ref sa, .ref la, .ref ma, .int (nI n), .int (nI us), .int (nI mm)])), (ma, .inl (cM, 1984, .inl fm))] := hD.sub [0, 2, 1] (by decide) rfl
  rcases hw with ⟨h7, rfl⟩ | ⟨h7, rfl⟩
  · obtain ⟨i, hi, rfl⟩ := vp_in_of h7 (by omega)
    refine hj_if_ne (tgt := 13) hx hb (by omega) d_J_mark_8 (by decide) (fun c_1 => ?_) (fun c_1 => ?_)
    · have h8 := hj_ms_up (mk := mk) (k := i) (b := b) n hi
      have h9 := hm2 i
      have h10 : mk i ≤ hj_ms mk n := by have := hj_ms_up (mk := mk) (k := i) (b := 0) n hi; omega
      refine lv_aload_n hx hb d_J_mark_13 rfl (lv_at hl 0 rfl) ?_
      refine va_get (D := (dC, dI)) (ci := 2) (v := .ref rc) (C := "HalfJournal") (T := F_J) (N := 8) hx hb hts i_J hown hK hP 0 rfl rfl 1 (by decide) (hts _ m_85) (fun _ h9 => h9) rfl d_J_mark_14 ?_
      refine lv_iload_n hx hb d_J_mark_17 rfl (lv_at hl 1 rfl) ?_
      refine lv_iload_n hx hb d_J_mark_18 rfl (lv_at hl 2 rfl) ?_
      refine hj_callv (wc := [(rc, .inr (1, [.ref sa, .ref la, .ref ma, .int (nI n), .int (nI us), .int (nI mm)])), (ma, .inl (cM, 1984, .inl fm))]) (wr := [(j, .inr (2, [.ref dk, .ref rc, .ref ta, .ref pa, .int (nI tl), .int (nI st), .int (nI g), .int (nI h)]))]) [1, 2] [0] hP hD hS hA rfl rfl rfl (by decide) (va_runVN (As := [.int (nI i), .int (nI b)]) (rest := []) ⟨hx, hb, hml, hown, hts⟩ (c_R_setMark l dC dI rc sa la ma n us mm cM fm i b (mk i) hn hi hb9 (hm2 i) (hfm i hi) (by omega) H.size) ⟨va_cnB 2 hts (hj_gC m_498) rfl rfl rfl (hE.1 _ m_495) (hts _ m_3) (by decide +kernel) ⟨Nat.le_of_ble_eq_true rfl, Nat.le_of_ble_eq_true rfl⟩, hts _ m_497, hts _ s_R_setMark⟩ (hj_preV (ci := 1) (q0 := 1) hj_EXok hE hP hD hK hS hA [1, 2] rfl rfl [0] rfl rfl rfl) rfl rfl hl.1 rfl (lv_room (Nat.le_of_ble_eq_true rfl)) d_J_mark_19 ⟨Nat.le_of_ble_eq_true rfl, Nat.le_of_ble_eq_true rfl⟩) (fun u_4 H locs hw hP hD hK1 hS => ?_)
      obtain y9 := u_4
      obtain rfl := hw
      have hP : va_P (dC, dI) vwCl [(j, .inr (2, [.ref dk, .ref rc, .ref ta, .ref pa, .int (nI tl), .int (nI st), .int (nI g), .int (nI h)])), (rc, .inr (1, [.ref sa, .ref la, .ref ma, .int (nI n), .int (nI us), .int (nI (mm + b - mk i))])), (ma, .inl (cM, 1984, .inl (va_up fm i (nI b))))] H := hP.sub [0, 1, 2] rfl
      have hD : va_D A [(j, .inr (2, [.ref dk, .ref rc, .ref ta, .ref pa, .int (nI tl), .int (nI st), .int (nI g), .int (nI h)])), (rc, .inr (1, [.ref sa, .ref la, .ref ma, .int (nI n), .int (nI us), .int (nI (mm + b - mk i))])), (ma, .inl (cM, 1984, .inl (va_up fm i (nI b))))] := hD.sub [0, 1, 2] (by decide) rfl
      refine lv_iconst (v := nI 1) hx hb d_J_mark_22 (by decide) ?_
      exact hret (nI 1) (va_up fm i (nI b), mm + b - mk i, va_up mk i b) _ _ _ _ d_J_mark_23 rfl (⟨Or.inl ⟨i, hi, rfl, rfl, rfl⟩, fun k hk => by
        by_cases z : k = i
        · subst z; exact (va_up_self fm k (nI b)).trans (by show nI b = nI (va_up mk k b k); rw [va_up_self])
        · exact (va_up_ne fm (nI b) z).trans ((hfm k hk).trans (by show nI (mk k) = nI (va_up mk i b k); rw [va_up_ne mk b z])), by show mm + b - mk i = hj_ms (va_up mk i b) n; omega⟩) hP hK hD hS
    · omega
  · refine hj_if_ne (tgt := 13) hx hb (by omega) d_J_mark_8 (by decide) (fun c_1 => ?_) (fun c_1 => ?_)
    · omega
    · refine lv_iconst (v := nI 0) hx hb d_J_mark_11 (by decide) ?_
      exact hret (nI 0) (fm, mm, mk) _ _ _ _ d_J_mark_12 rfl (⟨Or.inr ⟨h7, rfl, rfl⟩, hfm, hmm⟩) hP hK hD hS
abbrev rm_J_spoil : Room := { frames := 16, cells := 0, slots := 0, locals := 200 }
set_option maxHeartbeats 4000000 in
set_option maxRecDepth 100000 in
theorem c_J_spoil (l : Launch) (dC : Nat → ClassId) (dI : Nat → Nat → Nat) (j dk rc ta pa : Nat) (tl st g h : Nat) (a : Nat) (cA : ClassId) (d : Nat → Nat) (du wr : Int32) (x y z : Int32) (hst : st ≤ 2) : hj_Mi l y_J_spoil b_J_spoil 4 .boolean rm_J_spoil hj_EX (dC, dI) vwCl [(cA, .byte)] [(j, .inr (2, [.ref dk, .ref rc, .ref ta, .ref pa, .int (nI tl), .int (nI st), .int (nI g), .int (nI h)])), (dk, .inr (0, [.ref a, .int du, .int wr])), (a, .inl (cA, 32768, .inl (hj_B d)))] [.ref j, .int x, .int y, .int z] (fun r u => hj_spo d st x y z r u) (fun u : Nat → Nat => [(j, .inr (2, [.ref dk, .ref rc, .ref ta, .ref pa, .int (nI tl), .int (nI st), .int (nI g), .int (nI h)])), (dk, .inr (0, [.ref a, .int du, .int wr])), (a, .inl (cA, 32768, .inl (hj_B u)))]) (fun _ => [(cA, .byte)]) 0 0 := by
  refine hj_bodyI (by decide +kernel) (Nat.le_of_ble_eq_true rfl) ?_
  intro p e s m args below meth c A Q ls hx hb hts hown hml hA hP hK hD hE hl hret
  have hS : va_S A s.heap s.heap [] := va_S.rf
  have hown : s.vm.findClass "HalfJournal" = some m.cls := hown
  have hl : lv_has ls 4 [(0, .ref j), (1, .int x), (2, .int y), (3, .int z)] := hl
  have hP : va_P (dC, dI) vwCl [(j, .inr (2, [.ref dk, .ref rc, .ref ta, .ref pa, .int (nI tl), .int (nI st), .int (nI g), .int (nI h)])), (dk, .inr (0, [.ref a, .int du, .int wr])), (a, .inl (cA, 32768, .inl (hj_B d)))] s.heap := hP
  have hD : va_D A [(j, .inr (2, [.ref dk, .ref rc, .ref ta, .ref pa, .int (nI tl), .int (nI st), .int (nI g), .int (nI h)])), (dk, .inr (0, [.ref a, .int du, .int wr])), (a, .inl (cA, 32768, .inl (hj_B d)))] := hD
  refine lv_aload_n hx hb d_J_spoil_0 rfl (lv_at hl 0 rfl) ?_
  refine va_get (D := (dC, dI)) (ci := 2) (v := .int (nI st)) (C := "HalfJournal") (T := F_J) (N := 8) hx hb hts i_J hown hK hP 0 rfl rfl 5 (by decide) (hts _ m_89) (fun _ h9 => h9) rfl d_J_spoil_1 ?_
  refine lv_iconst (v := nI 2) hx hb d_J_spoil_4 (by decide) ?_
  refine hj_icmp_eq (tgt := 26) hx hb (by omega) (by omega) d_J_spoil_5 (by decide) (fun c_1 => ?_) (fun c_1 => ?_)
  · refine lv_iconst (v := nI 0) hx hb d_J_spoil_26 (by decide) ?_
    exact hret (nI 0) d _ _ _ _ d_J_spoil_27 rfl (Or.inr ⟨fun ⟨q1, q2, q3⟩ => q1 c_1, rfl, rfl⟩) hP hK hD hS
  · refine lv_iload_n hx hb d_J_spoil_8 rfl (lv_at hl 1 rfl) ?_
    refine hj_calli (wc := []) (wr := [(j, .inr (2, [.ref dk, .ref rc, .ref ta, .ref pa, .int (nI tl), .int (nI st), .int (nI g), .int (nI h)])), (dk, .inr (0, [.ref a, .int du, .int wr])), (a, .inl (cA, 32768, .inl (hj_B d)))]) [] [0, 1, 2] hP hD hS hA rfl rfl rfl (by decide) (va_runS (As := [.int x]) (rest := []) ⟨hx, hb, hml, hown, hts⟩ (c_J_isBlock l dC dI x s.heap.size) (cwS 1 hts (hj_gS m_529 m_530 m_1 m_531) rfl rfl rfl (by decide +kernel) ⟨Nat.le_of_ble_eq_true rfl, Nat.le_of_ble_eq_true rfl⟩) (hj_preS hj_EXok hE hP hD hK hS hA [] rfl rfl [] rfl) rfl rfl hl.1 rfl (lv_room (Nat.le_of_ble_eq_true rfl)) d_J_spoil_9 ⟨Nat.le_of_ble_eq_true rfl, Nat.le_of_ble_eq_true rfl⟩) (fun r_1 u_2 H locs hw hP hD hK1 hS => ?_)
    have hP : va_P (dC, dI) vwCl [(j, .inr (2, [.ref dk, .ref rc, .ref ta, .ref pa, .int (nI tl), .int (nI st), .int (nI g), .int (nI h)])), (dk, .inr (0, [.ref a, .int du, .int wr])), (a, .inl (cA, 32768, .inl (hj_B d)))] H := hP.sub [0, 1, 2] rfl
    have hD : va_D A [(j, .inr (2, [.ref dk, .ref rc, .ref ta, .ref pa, .int (nI tl), .int (nI st), .int (nI g), .int (nI h)])), (dk, .inr (0, [.ref a, .int du, .int wr])), (a, .inl (cA, 32768, .inl (hj_B d)))] := hD.sub [0, 1, 2] (by decide) rfl
    rcases hw with ⟨h7, rfl⟩ | ⟨h7, rfl⟩
    · obtain ⟨b, hb9, rfl⟩ := vp_in_of h7 (by omega)
      refine hj_if_eq (tgt := 26) hx hb (by omega) d_J_spoil_12 (by decide) (fun c_2 => ?_) (fun c_2 => ?_)
      · omega
      · refine lv_iload_n hx hb d_J_spoil_15 rfl (lv_at hl 2 rfl) ?_
        refine lv_if_lt (tgt := 26) hx hb d_J_spoil_16 (by decide) (fun c_3 => ?_) (fun c_3 => ?_)
        · refine lv_iconst (v := nI 0) hx hb d_J_spoil_26 (by decide) ?_
          exact hret (nI 0) d _ _ _ _ d_J_spoil_27 rfl (Or.inr ⟨fun ⟨q1, q2, q3⟩ => q3 (Or.inl c_3), rfl, rfl⟩) hP hK hD hS
        · obtain ⟨k, hk, rfl⟩ := nI_of c_3
          refine lv_iload_n hx hb d_J_spoil_19 rfl (lv_at hl 2 rfl) ?_
          refine lv_sipush (v := nI 512) hx hb d_J_spoil_20 (by decide) ?_
          refine hj_icmp_lt (tgt := 28) hx hb (by omega) (by omega) d_J_spoil_23 (by decide) (fun c_4 => ?_) (fun c_4 => ?_)
          · refine lv_aload_n hx hb d_J_spoil_28 rfl (lv_at hl 0 rfl) ?_
            refine va_get (D := (dC, dI)) (ci := 2) (v := .ref dk) (C := "HalfJournal") (T := F_J) (N := 8) hx hb hts i_J hown hK hP 0 rfl rfl 0 (by decide) (hts _ m_84) (fun _ h9 => h9) rfl d_J_spoil_29 ?_
            refine va_getN (D := (dC, dI)) (ci := 0) (v := .ref a) (C := "HalfJournal$Disk") (T := F_D) (N := 3) hx hb hts i_D hown hK hP 1 rfl rfl 0 (by decide) (va_Nw.use rfl (hE.1 _ m_38)) (fun _ h9 => h9) rfl d_J_spoil_32 ?_
            refine lv_iload_n hx hb d_J_spoil_35 rfl (lv_at hl 1 rfl) ?_
            refine lv_sipush (v := nI 512) hx hb d_J_spoil_36 (by decide) ?_
            refine hj_imul hx hb d_J_spoil_39 ?_
            refine lv_iload_n hx hb d_J_spoil_40 rfl (lv_at hl 2 rfl) ?_
            refine hj_iadd hx hb d_J_spoil_41 ?_
            refine lv_iload_n hx hb d_J_spoil_42 rfl (lv_at hl 3 rfl) ?_
            refine lv_i2b (v := sb_b (z.toBitVec.toNat % 256)) hx hb d_J_spoil_43 (hj_i8 z) ?_
            refine hj_bast hx hb hK hP hD hS 2 0 rfl rfl (by omega) (by decide) d_J_spoil_44 (fun H locs hP hD hS => ?_)
            have hP : va_P (dC, dI) vwCl [(j, .inr (2, [.ref dk, .ref rc, .ref ta, .ref pa, .int (nI tl), .int (nI st), .int (nI g), .int (nI h)])), (dk, .inr (0, [.ref a, .int du, .int wr])), (a, .inl (cA, 32768, .inl (hj_B (va_up d ((b * 512) + k) (z.toBitVec.toNat % 256)))))] H := hP
            have hD : va_D A [(j, .inr (2, [.ref dk, .ref rc, .ref ta, .ref pa, .int (nI tl), .int (nI st), .int (nI g), .int (nI h)])), (dk, .inr (0, [.ref a, .int du, .int wr])), (a, .inl (cA, 32768, .inl (hj_B (va_up d ((b * 512) + k) (z.toBitVec.toNat % 256)))))] := hD
            refine lv_iconst (v := nI 1) hx hb d_J_spoil_45 (by decide) ?_
            exact hret (nI 1) (va_up d (b * 512 + k) (z.toBitVec.toNat % 256)) _ _ _ _ d_J_spoil_46 rfl (Or.inl ⟨b, k, c_1, hb9, c_4, rfl, rfl, rfl, by rw [Nat.mul_comm b 512]⟩) hP hK hD hS
          · refine lv_iconst (v := nI 0) hx hb d_J_spoil_26 (by decide) ?_
            exact hret (nI 0) d _ _ _ _ d_J_spoil_27 rfl (Or.inr ⟨fun ⟨q1, q2, q3⟩ => q3 (Or.inr (by rw [nI_clamp hk]; exact c_4)), rfl, rfl⟩) hP hK hD hS
    · refine hj_if_eq (tgt := 26) hx hb (by omega) d_J_spoil_12 (by decide) (fun c_2 => ?_) (fun c_2 => ?_)
      · refine lv_iconst (v := nI 0) hx hb d_J_spoil_26 (by decide) ?_
        exact hret (nI 0) d _ _ _ _ d_J_spoil_27 rfl (Or.inr ⟨fun ⟨q1, q2, q3⟩ => h7 q2, rfl, rfl⟩) hP hK hD hS
      · omega
abbrev rm_J_length : Room := { frames := 16, cells := 0, slots := 0, locals := 200 }
set_option maxHeartbeats 4000000 in
set_option maxRecDepth 100000 in
theorem c_J_length (l : Launch) (dC : Nat → ClassId) (dI : Nat → Nat → Nat) (j dk rc ta pa : Nat) (tl st g h : Nat) (sa la ma : Nat) (n us mm : Nat) (cL : ClassId) (fl : Nat → Int32) (d : Nat → Nat) (x : Int32) (hn : n ≤ 1984) (hl9 : ∀ i, i < n → fl i = nI (hj_rl d h (hj_pos d h i))) : hj_Mi l y_J_length b_J_length 2 .int rm_J_length hj_EX (dC, dI) vwCl [(cL, .int)] [(j, .inr (2, [.ref dk, .ref rc, .ref ta, .ref pa, .int (nI tl), .int (nI st), .int (nI g), .int (nI h)])), (rc, .inr (1, [.ref sa, .ref la, .ref ma, .int (nI n), .int (nI us), .int (nI mm)])), (la, .inl (cL, 1984, .inl fl))] [.ref j, .int x] (fun r _ => hj_lenr d h n x r) (fun _ : Unit => [(j, .inr (2, [.ref dk, .ref rc, .ref ta, .ref pa, .int (nI tl), .int (nI st), .int (nI g), .int (nI h)])), (rc, .inr (1, [.ref sa, .ref la, .ref ma, .int (nI n), .int (nI us), .int (nI mm)])), (la, .inl (cL, 1984, .inl fl))]) (fun _ => [(cL, .int)]) 0 0 := by
  refine hj_bodyI (by decide +kernel) (Nat.le_of_ble_eq_true rfl) ?_
  intro p e s m args below meth c A Q ls hx hb hts hown hml hA hP hK hD hE hl hret
  have hS : va_S A s.heap s.heap [] := va_S.rf
  have hown : s.vm.findClass "HalfJournal" = some m.cls := hown
  have hl : lv_has ls 2 [(0, .ref j), (1, .int x)] := hl
  have hP : va_P (dC, dI) vwCl [(j, .inr (2, [.ref dk, .ref rc, .ref ta, .ref pa, .int (nI tl), .int (nI st), .int (nI g), .int (nI h)])), (rc, .inr (1, [.ref sa, .ref la, .ref ma, .int (nI n), .int (nI us), .int (nI mm)])), (la, .inl (cL, 1984, .inl fl))] s.heap := hP
  have hD : va_D A [(j, .inr (2, [.ref dk, .ref rc, .ref ta, .ref pa, .int (nI tl), .int (nI st), .int (nI g), .int (nI h)])), (rc, .inr (1, [.ref sa, .ref la, .ref ma, .int (nI n), .int (nI us), .int (nI mm)])), (la, .inl (cL, 1984, .inl fl))] := hD
  refine lv_aload_n hx hb d_J_length_0 rfl (lv_at hl 0 rfl) ?_
  refine va_get (D := (dC, dI)) (ci := 2) (v := .ref rc) (C := "HalfJournal") (T := F_J) (N := 8) hx hb hts i_J hown hK hP 0 rfl rfl 1 (by decide) (hts _ m_85) (fun _ h9 => h9) rfl d_J_length_1 ?_
  refine lv_iload_n hx hb d_J_length_4 rfl (lv_at hl 1 rfl) ?_
  refine hj_calli (wc := [(rc, .inr (1, [.ref sa, .ref la, .ref ma, .int (nI n), .int (nI us), .int (nI mm)]))]) (wr := [(j, .inr (2, [.ref dk, .ref rc, .ref ta, .ref pa, .int (nI tl), .int (nI st), .int (nI g), .int (nI h)])), (la, .inl (cL, 1984, .inl fl))]) [1] [0, 2] hP hD hS hA rfl rfl rfl (by decide) (va_runVN (As := [.int x]) (rest := []) ⟨hx, hb, hml, hown, hts⟩ (c_R_has l dC dI rc sa la ma n us mm x (by omega) s.heap.size) ⟨va_cnB 1 hts (hj_gC m_494) rfl rfl rfl (hE.1 _ m_491) (hts _ m_3) (by decide +kernel) ⟨Nat.le_of_ble_eq_true rfl, Nat.le_of_ble_eq_true rfl⟩, hts _ m_493, hts _ s_R_has⟩ (hj_preV (ci := 1) (q0 := 1) hj_EXok hE hP hD hK hS hA [1] rfl rfl [] rfl rfl rfl) rfl rfl hl.1 rfl (lv_room (Nat.le_of_ble_eq_true rfl)) d_J_length_5 ⟨Nat.le_of_ble_eq_true rfl, Nat.le_of_ble_eq_true rfl⟩) (fun r_1 u_2 H locs hw hP hD hK1 hS => ?_)
  have hP : va_P (dC, dI) vwCl [(j, .inr (2, [.ref dk, .ref rc, .ref ta, .ref pa, .int (nI tl), .int (nI st), .int (nI g), .int (nI h)])), (rc, .inr (1, [.ref sa, .ref la, .ref ma, .int (nI n), .int (nI us), .int (nI mm)])), (la, .inl (cL, 1984, .inl fl))] H := hP.sub [0, 2, 1] rfl
  have hD : va_D A [(j, .inr (2, [.ref dk, .ref rc, .ref ta, .ref pa, .int (nI tl), .int (nI st), .int (nI g), .int (nI h)])), (rc, .inr (1, [.ref sa, .ref la, .ref ma, .int (nI n), .int (nI us), .int (nI mm)])), (la, .inl (cL, 1984, .inl fl))] := hD.sub [0, 2, 1] (by decide) rfl
  rcases hw with ⟨h7, rfl⟩ | ⟨h7, rfl⟩
  · obtain ⟨i, hi, rfl⟩ := vp_in_of h7 (by omega)
    refine hj_if_eq (tgt := 23) hx hb (by omega) d_J_length_8 (by decide) (fun c_1 => ?_) (fun c_1 => ?_)
    · omega
    · refine lv_aload_n hx hb d_J_length_11 rfl (lv_at hl 0 rfl) ?_
      refine va_get (D := (dC, dI)) (ci := 2) (v := .ref rc) (C := "HalfJournal") (T := F_J) (N := 8) hx hb hts i_J hown hK hP 0 rfl rfl 1 (by decide) (hts _ m_85) (fun _ h9 => h9) rfl d_J_length_12 ?_
      refine va_getN (D := (dC, dI)) (ci := 1) (v := .ref la) (C := "HalfJournal$Records") (T := F_R) (N := 6) hx hb hts i_R hown hK hP 1 rfl rfl 1 (by decide) (va_Nw.use rfl (hE.1 _ m_60)) (fun _ h9 => h9) rfl d_J_length_15 ?_
      refine lv_iload_n hx hb d_J_length_18 rfl (lv_at hl 1 rfl) ?_
      refine hj_iald (v := fl i) hx hb hK hP 2 0 rfl rfl (by omega) (by decide) rfl d_J_length_19 ?_
      refine lv_goto (tgt := 24) hx hb d_J_length_20 (by decide) ?_
      exact hret (fl i) () _ _ _ _ d_J_length_24 rfl (Or.inl ⟨i, hi, rfl, hl9 i hi⟩) hP hK hD hS
  · refine hj_if_eq (tgt := 23) hx hb (by omega) d_J_length_8 (by decide) (fun c_1 => ?_) (fun c_1 => ?_)
    · refine lv_iconst (v := (-1)) hx hb d_J_length_23 (by decide) ?_
      exact hret (-1) () _ _ _ _ d_J_length_24 rfl (Or.inr ⟨h7, rfl⟩) hP hK hD hS
    · omega
abbrev rm_J_record : Room := { frames := 24, cells := 0, slots := 0, locals := 300 }
set_option maxHeartbeats 4000000 in
set_option maxRecDepth 100000 in
theorem c_J_record (l : Launch) (dC : Nat → ClassId) (dI : Nat → Nat → Nat) (j dk rc ta pa : Nat) (tl st g h : Nat) (a : Nat) (cA : ClassId) (d : Nat → Nat) (du wr : Int32) (sa la ma : Nat) (n us mm : Nat) (cS cL : ClassId) (fs fl : Nat → Int32) (x y : Int32) (hh : h < 2) (hd : hj_bs d) (hn : n ≤ 1984) (hv : ∀ i, i < n → 0 < hj_rl d h (hj_pos d h i)) (hs : ∀ i, i < n → fs i = nI (hj_pos d h i)) (hl9 : ∀ i, i < n → fl i = nI (hj_rl d h (hj_pos d h i))) : hj_Ml l y_J_record b_J_record 4 rm_J_record hj_EX (dC, dI) vwCl [(cA, .byte), (cS, .int), (cL, .int)] [(j, .inr (2, [.ref dk, .ref rc, .ref ta, .ref pa, .int (nI tl), .int (nI st), .int (nI g), .int (nI h)])), (dk, .inr (0, [.ref a, .int du, .int wr])), (a, .inl (cA, 32768, .inl (hj_B d))), (rc, .inr (1, [.ref sa, .ref la, .ref ma, .int (nI n), .int (nI us), .int (nI mm)])), (sa, .inl (cS, 1984, .inl fs)), (la, .inl (cL, 1984, .inl fl))] [.ref j, .int x, .int y] (fun r _ => hj_recr d h n x y r) (fun _ : Unit => [(j, .inr (2, [.ref dk, .ref rc, .ref ta, .ref pa, .int (nI tl), .int (nI st), .int (nI g), .int (nI h)])), (dk, .inr (0, [.ref a, .int du, .int wr])), (a, .inl (cA, 32768, .inl (hj_B d))), (rc, .inr (1, [.ref sa, .ref la, .ref ma, .int (nI n), .int (nI us), .int (nI mm)])), (sa, .inl (cS, 1984, .inl fs)), (la, .inl (cL, 1984, .inl fl))]) (fun _ => [(cA, .byte), (cS, .int), (cL, .int)]) 0 0 := by
  refine hj_bodyL (by decide +kernel) (Nat.le_of_ble_eq_true rfl) ?_
  intro p e s m args below meth c A Q ls hx hb hts hown hml hA hP hK hD hE hl hret
  have hS : va_S A s.heap s.heap [] := va_S.rf
  have hown : s.vm.findClass "HalfJournal" = some m.cls := hown
  have hl : lv_has ls 4 [(0, .ref j), (1, .int x), (2, .int y)] := hl
  have hP : va_P (dC, dI) vwCl [(j, .inr (2, [.ref dk, .ref rc, .ref ta, .ref pa, .int (nI tl), .int (nI st), .int (nI g), .int (nI h)])), (dk, .inr (0, [.ref a, .int du, .int wr])), (a, .inl (cA, 32768, .inl (hj_B d))), (rc, .inr (1, [.ref sa, .ref la, .ref ma, .int (nI n), .int (nI us), .int (nI mm)])), (sa, .inl (cS, 1984, .inl fs)), (la, .inl (cL, 1984, .inl fl))] s.heap := hP
  have hD : va_D A [(j, .inr (2, [.ref dk, .ref rc, .ref ta, .ref pa, .int (nI tl), .int (nI st), .int (nI g), .int (nI h)])), (dk, .inr (0, [.ref a, .int du, .int wr])), (a, .inl (cA, 32768, .inl (hj_B d))), (rc, .inr (1, [.ref sa, .ref la, .ref ma, .int (nI n), .int (nI us), .int (nI mm)])), (sa, .inl (cS, 1984, .inl fs)), (la, .inl (cL, 1984, .inl fl))] := hD
  have hhb := hj_hb_le hh
  refine lv_aload_n hx hb d_J_record_0 rfl (lv_at hl 0 rfl) ?_
  refine va_get (D := (dC, dI)) (ci := 2) (v := .ref rc) (C := "HalfJournal") (T := F_J) (N := 8) hx hb hts i_J hown hK hP 0 rfl rfl 1 (by decide) (hts _ m_85) (fun _ h9 => h9) rfl d_J_record_1 ?_
  refine lv_iload_n hx hb d_J_record_4 rfl (lv_at hl 1 rfl) ?_
  refine hj_calli (wc := [(rc, .inr (1, [.ref sa, .ref la, .ref ma, .int (nI n), .int (nI us), .int (nI mm)]))]) (wr := [(j, .inr (2, [.ref dk, .ref rc, .ref ta, .ref pa, .int (nI tl), .int (nI st), .int (nI g), .int (nI h)])), (dk, .inr (0, [.ref a, .int du, .int wr])), (a, .inl (cA, 32768, .inl (hj_B d))), (sa, .inl (cS, 1984, .inl fs)), (la, .inl (cL, 1984, .inl fl))]) [3] [0, 1, 2, 4, 5] hP hD hS hA rfl rfl rfl (by decide) (va_runVN (As := [.int x]) (rest := []) ⟨hx, hb, hml, hown, hts⟩ (c_R_has l dC dI rc sa la ma n us mm x (by omega) s.heap.size) ⟨va_cnB 1 hts (hj_gC m_494) rfl rfl rfl (hE.1 _ m_491) (hts _ m_3) (by decide +kernel) ⟨Nat.le_of_ble_eq_true rfl, Nat.le_of_ble_eq_true rfl⟩, hts _ m_493, hts _ s_R_has⟩ (hj_preV (ci := 1) (q0 := 3) hj_EXok hE hP hD hK hS hA [3] rfl rfl [] rfl rfl rfl) rfl rfl hl.1 rfl (lv_room (Nat.le_of_ble_eq_true rfl)) d_J_record_5 ⟨Nat.le_of_ble_eq_true rfl, Nat.le_of_ble_eq_true rfl⟩) (fun r_1 u_2 H locs hw hP hD hK1 hS => ?_)
  have hP : va_P (dC, dI) vwCl [(j, .inr (2, [.ref dk, .ref rc, .ref ta, .ref pa, .int (nI tl), .int (nI st), .int (nI g), .int (nI h)])), (dk, .inr (0, [.ref a, .int du, .int wr])), (a, .inl (cA, 32768, .inl (hj_B d))), (rc, .inr (1, [.ref sa, .ref la, .ref ma, .int (nI n), .int (nI us), .int (nI mm)])), (sa, .inl (cS, 1984, .inl fs)), (la, .inl (cL, 1984, .inl fl))] H := hP.sub [0, 1, 2, 5, 3, 4] rfl
  have hD : va_D A [(j, .inr (2, [.ref dk, .ref rc, .ref ta, .ref pa, .int (nI tl), .int (nI st), .int (nI g), .int (nI h)])), (dk, .inr (0, [.ref a, .int du, .int wr])), (a, .inl (cA, 32768, .inl (hj_B d))), (rc, .inr (1, [.ref sa, .ref la, .ref ma, .int (nI n), .int (nI us), .int (nI mm)])), (sa, .inl (cS, 1984, .inl fs)), (la, .inl (cL, 1984, .inl fl))] := hD.sub [0, 1, 2, 5, 3, 4] (by decide) rfl
  rcases hw with ⟨h7, rfl⟩ | ⟨h7, rfl⟩
  · obtain ⟨i, hi, rfl⟩ := vp_in_of h7 (by omega)
    refine hj_if_eq (tgt := 21) hx hb (by omega) d_J_record_8 (by decide) (fun c_2 => ?_) (fun c_2 => ?_)
    · omega
    · refine lv_iload_n hx hb d_J_record_11 rfl (lv_at hl 2 rfl) ?_
      refine lv_if_lt (tgt := 21) hx hb d_J_record_12 (by decide) (fun c_3 => ?_) (fun c_3 => ?_)
      · refine lv_lconst (v := lN 0) hx hb d_J_record_21 (by decide) ?_
        exact hret (lN 0) () _ _ _ _ d_J_record_22 (Or.inr ⟨fun ⟨q1, q2⟩ => q2 (Or.inl c_3), rfl⟩) hP hK hD hS
      · obtain ⟨k, hk, rfl⟩ := nI_of c_3
        refine lv_iload_n hx hb d_J_record_15 rfl (lv_at hl 2 rfl) ?_
        refine lv_bipush (v := nI 125) hx hb d_J_record_16 (by decide) ?_
        refine hj_icmp_lt (tgt := 23) hx hb (by omega) (by omega) d_J_record_18 (by decide) (fun c_4 => ?_) (fun c_4 => ?_)
        · have hr0 := hv i hi
          obtain ⟨hr1, hr2, -⟩ := hj_rl_in hr0
          have hsz6 : hj_sz (hj_rl d h (hj_pos d h i)) = 6 + hj_rl d h (hj_pos d h i) + hj_rl d h (hj_pos d h i) % 2 := rfl
          obtain ⟨-, hp2, -⟩ := hj_pos_in i (fun k hk => hv k (by omega))
          refine lv_aload_n hx hb d_J_record_23 rfl (lv_at hl 0 rfl) ?_
          refine va_get (D := (dC, dI)) (ci := 2) (v := .int (nI h)) (C := "HalfJournal") (T := F_J) (N := 8) hx hb hts i_J hown hK hP 0 rfl rfl 7 (by decide) (hts _ m_91) (fun _ h9 => h9) rfl d_J_record_24 ?_
          refine hj_calli (wc := []) (wr := [(j, .inr (2, [.ref dk, .ref rc, .ref ta, .ref pa, .int (nI tl), .int (nI st), .int (nI g), .int (nI h)])), (dk, .inr (0, [.ref a, .int du, .int wr])), (a, .inl (cA, 32768, .inl (hj_B d))), (rc, .inr (1, [.ref sa, .ref la, .ref ma, .int (nI n), .int (nI us), .int (nI mm)])), (sa, .inl (cS, 1984, .inl fs)), (la, .inl (cL, 1984, .inl fl))]) [] [0, 1, 2, 3, 4, 5] hP hD hS hA rfl rfl rfl (by decide) (va_runS (As := [.int (nI h)]) (rest := []) ⟨hx, hb, hml, hown, hts⟩ (c_J_firstByteOf l dC dI h H.size) (cwS 1 hts (hj_gS m_462 m_463 m_1 m_464) rfl rfl rfl (by decide +kernel) ⟨Nat.le_of_ble_eq_true rfl, Nat.le_of_ble_eq_true rfl⟩) (hj_preS hj_EXok hE hP hD hK hS hA [] rfl rfl [] rfl) rfl rfl hl.1 rfl (lv_room (Nat.le_of_ble_eq_true rfl)) d_J_record_27 ⟨Nat.le_of_ble_eq_true rfl, Nat.le_of_ble_eq_true rfl⟩) (fun r_3 u_4 H locs hw hP hD hK1 hS => ?_)
          subst hw
          have hP : va_P (dC, dI) vwCl [(j, .inr (2, [.ref dk, .ref rc, .ref ta, .ref pa, .int (nI tl), .int (nI st), .int (nI g), .int (nI h)])), (dk, .inr (0, [.ref a, .int du, .int wr])), (a, .inl (cA, 32768, .inl (hj_B d))), (rc, .inr (1, [.ref sa, .ref la, .ref ma, .int (nI n), .int (nI us), .int (nI mm)])), (sa, .inl (cS, 1984, .inl fs)), (la, .inl (cL, 1984, .inl fl))] H := hP.sub [0, 1, 2, 3, 4, 5] rfl
          have hD : va_D A [(j, .inr (2, [.ref dk, .ref rc, .ref ta, .ref pa, .int (nI tl), .int (nI st), .int (nI g), .int (nI h)])), (dk, .inr (0, [.ref a, .int du, .int wr])), (a, .inl (cA, 32768, .inl (hj_B d))), (rc, .inr (1, [.ref sa, .ref la, .ref ma, .int (nI n), .int (nI us), .int (nI mm)])), (sa, .inl (cS, 1984, .inl fs)), (la, .inl (cL, 1984, .inl fl))] := hD.sub [0, 1, 2, 3, 4, 5] (by decide) rfl
          refine lv_aload_n hx hb d_J_record_30 rfl (lv_at hl 0 rfl) ?_
          refine va_get (D := (dC, dI)) (ci := 2) (v := .ref rc) (C := "HalfJournal") (T := F_J) (N := 8) hx hb hts i_J hown hK hP 0 rfl rfl 1 (by decide) (hts _ m_85) (fun _ h9 => h9) rfl d_J_record_31 ?_
          refine va_getN (D := (dC, dI)) (ci := 1) (v := .ref sa) (C := "HalfJournal$Records") (T := F_R) (N := 6) hx hb hts i_R hown hK hP 3 rfl rfl 0 (by decide) (va_Nw.use rfl (hE.1 _ m_58)) (fun _ h9 => h9) rfl d_J_record_34 ?_
          refine lv_iload_n hx hb d_J_record_37 rfl (lv_at hl 1 rfl) ?_
          refine hj_iald (v := fs i) hx hb hK hP 4 1 rfl rfl (by omega) (by decide) rfl d_J_record_38 ?_
          refine hj_topv (y := nI (hj_pos d h i)) (hs i hi) ?_
          refine hj_iadd hx hb d_J_record_39 ?_
          refine lv_iconst (v := nI 2) hx hb d_J_record_40 (by decide) ?_
          refine hj_iadd hx hb d_J_record_41 ?_
          refine lv_istore_n (lv' := [(3, .int (nI (((hj_hb h) + (hj_pos d h i)) + 2))), (0, .ref j), (1, .int (nI i)), (2, .int (nI k))]) hx hb d_J_record_42 rfl hl (by decide) rfl (fun ls hl => ?_)
          refine lv_aload_n hx hb d_J_record_43 rfl (lv_at hl 1 rfl) ?_
          refine va_get (D := (dC, dI)) (ci := 2) (v := .ref dk) (C := "HalfJournal") (T := F_J) (N := 8) hx hb hts i_J hown hK hP 0 rfl rfl 0 (by decide) (hts _ m_84) (fun _ h9 => h9) rfl d_J_record_44 ?_
          refine va_getN (D := (dC, dI)) (ci := 0) (v := .ref a) (C := "HalfJournal$Disk") (T := F_D) (N := 3) hx hb hts i_D hown hK hP 1 rfl rfl 0 (by decide) (va_Nw.use rfl (hE.1 _ m_38)) (fun _ h9 => h9) rfl d_J_record_47 ?_
          refine lv_iload_n hx hb d_J_record_50 rfl (lv_at hl 0 rfl) ?_
          refine lv_bipush (v := nI 8) hx hb d_J_record_51 (by decide) ?_
          refine lv_iload_n hx hb d_J_record_53 rfl (lv_at hl 3 rfl) ?_
          refine hj_imul hx hb d_J_record_54 ?_
          refine hj_iadd hx hb d_J_record_55 ?_
          refine lv_iload_n hx hb d_J_record_56 rfl (lv_at hl 0 rfl) ?_
          refine lv_aload_n hx hb d_J_record_57 rfl (lv_at hl 1 rfl) ?_
          refine va_get (D := (dC, dI)) (ci := 2) (v := .ref rc) (C := "HalfJournal") (T := F_J) (N := 8) hx hb hts i_J hown hK hP 0 rfl rfl 1 (by decide) (hts _ m_85) (fun _ h9 => h9) rfl d_J_record_58 ?_
          refine va_getN (D := (dC, dI)) (ci := 1) (v := .ref la) (C := "HalfJournal$Records") (T := F_R) (N := 6) hx hb hts i_R hown hK hP 3 rfl rfl 1 (by decide) (va_Nw.use rfl (hE.1 _ m_60)) (fun _ h9 => h9) rfl d_J_record_61 ?_
          refine lv_iload_n hx hb d_J_record_64 rfl (lv_at hl 2 rfl) ?_
          refine hj_iald (v := fl i) hx hb hK hP 5 2 rfl rfl (by omega) (by decide) rfl d_J_record_65 ?_
          refine hj_topv (y := nI (hj_rl d h (hj_pos d h i))) (hl9 i hi) ?_
          refine hj_iadd hx hb d_J_record_66 ?_
          refine hj_calll (wc := [(a, .inl (cA, 32768, .inl (hj_B d)))]) (wr := [(j, .inr (2, [.ref dk, .ref rc, .ref ta, .ref pa, .int (nI tl), .int (nI st), .int (nI g), .int (nI h)])), (dk, .inr (0, [.ref a, .int du, .int wr])), (rc, .inr (1, [.ref sa, .ref la, .ref ma, .int (nI n), .int (nI us), .int (nI mm)])), (sa, .inl (cS, 1984, .inl fs)), (la, .inl (cL, 1984, .inl fl))]) [2] [0, 1, 3, 4, 5] hP hD hS hA rfl rfl rfl (by decide) (va_runS (As := [.ref a, .int (nI ((((hj_hb h) + (hj_pos d h i)) + 2) + (8 * k))), .int (nI ((((hj_hb h) + (hj_pos d h i)) + 2) + (hj_rl d h (hj_pos d h i))))]) (rest := []) ⟨hx, hb, hml, hown, hts⟩ (c_J_word l dC dI a cA 32768 d (hj_hb h + hj_pos d h i + 2 + 8 * k) (hj_hb h + hj_pos d h i + 2 + hj_rl d h (hj_pos d h i)) (by omega) (by omega) (by omega) hd H.size) (cwS 3 hts (hj_gS m_540 m_541 m_1 m_542) rfl rfl rfl (by decide +kernel) ⟨Nat.le_of_ble_eq_true rfl, Nat.le_of_ble_eq_true rfl⟩) (hj_preS hj_EXok hE hP hD hK hS hA [2] rfl rfl [0] rfl) rfl rfl hl.1 rfl (lv_room (Nat.le_of_ble_eq_true rfl)) d_J_record_67 ⟨Nat.le_of_ble_eq_true rfl, Nat.le_of_ble_eq_true rfl⟩) (fun r_5 u_6 H locs hw hP hD hK1 hS => ?_)
          subst hw
          have hP : va_P (dC, dI) vwCl [(j, .inr (2, [.ref dk, .ref rc, .ref ta, .ref pa, .int (nI tl), .int (nI st), .int (nI g), .int (nI h)])), (dk, .inr (0, [.ref a, .int du, .int wr])), (a, .inl (cA, 32768, .inl (hj_B d))), (rc, .inr (1, [.ref sa, .ref la, .ref ma, .int (nI n), .int (nI us), .int (nI mm)])), (sa, .inl (cS, 1984, .inl fs)), (la, .inl (cL, 1984, .inl fl))] H := hP.sub [0, 1, 5, 2, 3, 4] rfl
          have hD : va_D A [(j, .inr (2, [.ref dk, .ref rc, .ref ta, .ref pa, .int (nI tl), .int (nI st), .int (nI g), .int (nI h)])), (dk, .inr (0, [.ref a, .int du, .int wr])), (a, .inl (cA, 32768, .inl (hj_B d))), (rc, .inr (1, [.ref sa, .ref la, .ref ma, .int (nI n), .int (nI us), .int (nI mm)])), (sa, .inl (cS, 1984, .inl fs)), (la, .inl (cL, 1984, .inl fl))] := hD.sub [0, 1, 5, 2, 3, 4] (by decide) rfl
          exact hret (hj_w (fun j => if hj_hb h + hj_pos d h i + 2 + 8 * k + j < hj_hb h + hj_pos d h i + 2 + hj_rl d h (hj_pos d h i) then d (hj_hb h + hj_pos d h i + 2 + 8 * k + j) else 0) 8) () _ _ _ _ d_J_record_70 (Or.inl ⟨i, k, hi, c_4, rfl, rfl, hj_w_congr 8 (fun j hj => by
            by_cases q : 8 * k + j < hj_rl d h (hj_pos d h i)
            · rw [if_pos q, if_pos (by omega), show hj_hb h + hj_pos d h i + 2 + 8 * k + j = hj_hb h + hj_pos d h i + 2 + (8 * k + j) by omega]
            · rw [if_neg q, if_neg (by omega)])⟩) hP hK hD hS
        · refine lv_lconst (v := lN 0) hx hb d_J_record_21 (by decide) ?_
          exact hret (lN 0) () _ _ _ _ d_J_record_22 (Or.inr ⟨fun ⟨q1, q2⟩ => q2 (Or.inr (by rw [nI_clamp hk]; exact c_4)), rfl⟩) hP hK hD hS
  · refine hj_if_eq (tgt := 21) hx hb (by omega) d_J_record_8 (by decide) (fun c_2 => ?_) (fun c_2 => ?_)
    · refine lv_lconst (v := lN 0) hx hb d_J_record_21 (by decide) ?_
      exact hret (lN 0) () _ _ _ _ d_J_record_22 (Or.inr ⟨fun ⟨q1, q2⟩ => h7 q1, rfl⟩) hP hK hD hS
    · omega
abbrev rm_J_block : Room := { frames := 16, cells := 0, slots := 0, locals := 200 }
set_option maxHeartbeats 4000000 in
set_option maxRecDepth 100000 in
theorem c_J_block (l : Launch) (dC : Nat → ClassId) (dI : Nat → Nat → Nat) (j dk rc ta pa : Nat) (tl st g h : Nat) (a : Nat) (cA : ClassId) (d : Nat → Nat) (du wr : Int32) (x y : Int32) (hd : hj_bs d) : hj_Ml l y_J_block b_J_block 3 rm_J_block hj_EX (dC, dI) vwCl [(cA, .byte)] [(j, .inr (2, [.ref dk, .ref rc, .ref ta, .ref pa, .int (nI tl), .int (nI st), .int (nI g), .int (nI h)])), (dk, .inr (0, [.ref a, .int du, .int wr])), (a, .inl (cA, 32768, .inl (hj_B d)))] [.ref j, .int x, .int y] (fun r _ => hj_blkr d x y r) (fun _ : Unit => [(j, .inr (2, [.ref dk, .ref rc, .ref ta, .ref pa, .int (nI tl), .int (nI st), .int (nI g), .int (nI h)])), (dk, .inr (0, [.ref a, .int du, .int wr])), (a, .inl (cA, 32768, .inl (hj_B d)))]) (fun _ => [(cA, .byte)]) 0 0 := by
  refine hj_bodyL (by decide +kernel) (Nat.le_of_ble_eq_true rfl) ?_
  intro p e s m args below meth c A Q ls hx hb hts hown hml hA hP hK hD hE hl hret
  have hS : va_S A s.heap s.heap [] := va_S.rf
  have hown : s.vm.findClass "HalfJournal" = some m.cls := hown
  have hl : lv_has ls 3 [(0, .ref j), (1, .int x), (2, .int y)] := hl
  have hP : va_P (dC, dI) vwCl [(j, .inr (2, [.ref dk, .ref rc, .ref ta, .ref pa, .int (nI tl), .int (nI st), .int (nI g), .int (nI h)])), (dk, .inr (0, [.ref a, .int du, .int wr])), (a, .inl (cA, 32768, .inl (hj_B d)))] s.heap := hP
  have hD : va_D A [(j, .inr (2, [.ref dk, .ref rc, .ref ta, .ref pa, .int (nI tl), .int (nI st), .int (nI g), .int (nI h)])), (dk, .inr (0, [.ref a, .int du, .int wr])), (a, .inl (cA, 32768, .inl (hj_B d)))] := hD
  refine lv_iload_n hx hb d_J_block_0 rfl (lv_at hl 1 rfl) ?_
  refine hj_calli (wc := []) (wr := [(j, .inr (2, [.ref dk, .ref rc, .ref ta, .ref pa, .int (nI tl), .int (nI st), .int (nI g), .int (nI h)])), (dk, .inr (0, [.ref a, .int du, .int wr])), (a, .inl (cA, 32768, .inl (hj_B d)))]) [] [0, 1, 2] hP hD hS hA rfl rfl rfl (by decide) (va_runS (As := [.int x]) (rest := []) ⟨hx, hb, hml, hown, hts⟩ (c_J_isBlock l dC dI x s.heap.size) (cwS 1 hts (hj_gS m_529 m_530 m_1 m_531) rfl rfl rfl (by decide +kernel) ⟨Nat.le_of_ble_eq_true rfl, Nat.le_of_ble_eq_true rfl⟩) (hj_preS hj_EXok hE hP hD hK hS hA [] rfl rfl [] rfl) rfl rfl hl.1 rfl (lv_room (Nat.le_of_ble_eq_true rfl)) d_J_block_1 ⟨Nat.le_of_ble_eq_true rfl, Nat.le_of_ble_eq_true rfl⟩) (fun r_1 u_2 H locs hw hP hD hK1 hS => ?_)
  have hP : va_P (dC, dI) vwCl [(j, .inr (2, [.ref dk, .ref rc, .ref ta, .ref pa, .int (nI tl), .int (nI st), .int (nI g), .int (nI h)])), (dk, .inr (0, [.ref a, .int du, .int wr])), (a, .inl (cA, 32768, .inl (hj_B d)))] H := hP.sub [0, 1, 2] rfl
  have hD : va_D A [(j, .inr (2, [.ref dk, .ref rc, .ref ta, .ref pa, .int (nI tl), .int (nI st), .int (nI g), .int (nI h)])), (dk, .inr (0, [.ref a, .int du, .int wr])), (a, .inl (cA, 32768, .inl (hj_B d)))] := hD.sub [0, 1, 2] (by decide) rfl
  rcases hw with ⟨h7, rfl⟩ | ⟨h7, rfl⟩
  · obtain ⟨b, hb9, rfl⟩ := vp_in_of h7 (by omega)
    refine hj_if_eq (tgt := 17) hx hb (by omega) d_J_block_4 (by decide) (fun c_2 => ?_) (fun c_2 => ?_)
    · omega
    · refine lv_iload_n hx hb d_J_block_7 rfl (lv_at hl 2 rfl) ?_
      refine lv_if_lt (tgt := 17) hx hb d_J_block_8 (by decide) (fun c_3 => ?_) (fun c_3 => ?_)
      · refine lv_lconst (v := lN 0) hx hb d_J_block_17 (by decide) ?_
        exact hret (lN 0) () _ _ _ _ d_J_block_18 (Or.inr ⟨fun ⟨q1, q2⟩ => q2 (Or.inl c_3), rfl⟩) hP hK hD hS
      · obtain ⟨k, hk, rfl⟩ := nI_of c_3
        refine lv_iload_n hx hb d_J_block_11 rfl (lv_at hl 2 rfl) ?_
        refine lv_bipush (v := nI 64) hx hb d_J_block_12 (by decide) ?_
        refine hj_icmp_lt (tgt := 19) hx hb (by omega) (by omega) d_J_block_14 (by decide) (fun c_4 => ?_) (fun c_4 => ?_)
        · refine lv_aload_n hx hb d_J_block_19 rfl (lv_at hl 0 rfl) ?_
          refine va_get (D := (dC, dI)) (ci := 2) (v := .ref dk) (C := "HalfJournal") (T := F_J) (N := 8) hx hb hts i_J hown hK hP 0 rfl rfl 0 (by decide) (hts _ m_84) (fun _ h9 => h9) rfl d_J_block_20 ?_
          refine va_getN (D := (dC, dI)) (ci := 0) (v := .ref a) (C := "HalfJournal$Disk") (T := F_D) (N := 3) hx hb hts i_D hown hK hP 1 rfl rfl 0 (by decide) (va_Nw.use rfl (hE.1 _ m_38)) (fun _ h9 => h9) rfl d_J_block_23 ?_
          refine lv_iload_n hx hb d_J_block_26 rfl (lv_at hl 1 rfl) ?_
          refine lv_sipush (v := nI 512) hx hb d_J_block_27 (by decide) ?_
          refine hj_imul hx hb d_J_block_30 ?_
          refine lv_bipush (v := nI 8) hx hb d_J_block_31 (by decide) ?_
          refine lv_iload_n hx hb d_J_block_33 rfl (lv_at hl 2 rfl) ?_
          refine hj_imul hx hb d_J_block_34 ?_
          refine hj_iadd hx hb d_J_block_35 ?_
          refine lv_ldc (own := "HalfJournal") (v := (32768)) hx hb hown (hts _ m_113) d_J_block_36 ?_
          refine hj_topv (y := nI 32768) (by decide +kernel) ?_
          refine hj_calll (wc := [(a, .inl (cA, 32768, .inl (hj_B d)))]) (wr := [(j, .inr (2, [.ref dk, .ref rc, .ref ta, .ref pa, .int (nI tl), .int (nI st), .int (nI g), .int (nI h)])), (dk, .inr (0, [.ref a, .int du, .int wr]))]) [2] [0, 1] hP hD hS hA rfl rfl rfl (by decide) (va_runS (As := [.ref a, .int (nI ((b * 512) + (8 * k))), .int (nI 32768)]) (rest := []) ⟨hx, hb, hml, hown, hts⟩ (c_J_word l dC dI a cA 32768 d (b * 512 + 8 * k) 32768 (by omega) (by omega) (by omega) hd H.size) (cwS 3 hts (hj_gS m_540 m_541 m_1 m_542) rfl rfl rfl (by decide +kernel) ⟨Nat.le_of_ble_eq_true rfl, Nat.le_of_ble_eq_true rfl⟩) (hj_preS hj_EXok hE hP hD hK hS hA [2] rfl rfl [0] rfl) rfl rfl hl.1 rfl (lv_room (Nat.le_of_ble_eq_true rfl)) d_J_block_38 ⟨Nat.le_of_ble_eq_true rfl, Nat.le_of_ble_eq_true rfl⟩) (fun r_3 u_4 H locs hw hP hD hK1 hS => ?_)
          subst hw
          have hP : va_P (dC, dI) vwCl [(j, .inr (2, [.ref dk, .ref rc, .ref ta, .ref pa, .int (nI tl), .int (nI st), .int (nI g), .int (nI h)])), (dk, .inr (0, [.ref a, .int du, .int wr])), (a, .inl (cA, 32768, .inl (hj_B d)))] H := hP.sub [0, 1, 2] rfl
          have hD : va_D A [(j, .inr (2, [.ref dk, .ref rc, .ref ta, .ref pa, .int (nI tl), .int (nI st), .int (nI g), .int (nI h)])), (dk, .inr (0, [.ref a, .int du, .int wr])), (a, .inl (cA, 32768, .inl (hj_B d)))] := hD.sub [0, 1, 2] (by decide) rfl
          exact hret (hj_w (fun j => if b * 512 + 8 * k + j < 32768 then d (b * 512 + 8 * k + j) else 0) 8) () _ _ _ _ d_J_block_41 (Or.inl ⟨b, k, hb9, c_4, rfl, rfl, hj_w_congr 8 (fun j hj => by rw [if_pos (by omega), Nat.mul_comm b 512])⟩) hP hK hD hS
        · refine lv_lconst (v := lN 0) hx hb d_J_block_17 (by decide) ?_
          exact hret (lN 0) () _ _ _ _ d_J_block_18 (Or.inr ⟨fun ⟨q1, q2⟩ => q2 (Or.inr (by rw [nI_clamp hk]; exact c_4)), rfl⟩) hP hK hD hS
  · refine hj_if_eq (tgt := 17) hx hb (by omega) d_J_block_4 (by decide) (fun c_2 => ?_) (fun c_2 => ?_)
    · refine lv_lconst (v := lN 0) hx hb d_J_block_17 (by decide) ?_
      exact hret (lN 0) () _ _ _ _ d_J_block_18 (Or.inr ⟨fun ⟨q1, q2⟩ => h7 q1, rfl⟩) hP hK hD hS
    · omega
abbrev rm_J_look : Room := { frames := 8, cells := 0, slots := 0, locals := 100 }
set_option maxHeartbeats 4000000 in
set_option maxRecDepth 100000 in
theorem c_J_look (l : Launch) (dC : Nat → ClassId) (dI : Nat → Nat → Nat) (j dk rc ta pa : Nat) (tl st g h : Nat) (a : Nat) (du wr : Int32) (sa la ma : Nat) (n us mm : Nat) (x : Int32) : hj_Mi l y_J_look b_J_look 2 .int rm_J_look hj_EX (dC, dI) vwCl [] [(j, .inr (2, [.ref dk, .ref rc, .ref ta, .ref pa, .int (nI tl), .int (nI st), .int (nI g), .int (nI h)])), (dk, .inr (0, [.ref a, .int du, .int wr])), (rc, .inr (1, [.ref sa, .ref la, .ref ma, .int (nI n), .int (nI us), .int (nI mm)]))] [.ref j, .int x] (fun r _ => r = hj_look n us g h st wr tl du mm x) (fun _ : Unit => [(j, .inr (2, [.ref dk, .ref rc, .ref ta, .ref pa, .int (nI tl), .int (nI st), .int (nI g), .int (nI h)])), (dk, .inr (0, [.ref a, .int du, .int wr])), (rc, .inr (1, [.ref sa, .ref la, .ref ma, .int (nI n), .int (nI us), .int (nI mm)]))]) (fun _ => []) 0 0 := by
  refine hj_bodyI (by decide +kernel) (Nat.le_of_ble_eq_true rfl) ?_
  intro p e s m args below meth c A Q ls hx hb hts hown hml hA hP hK hD hE hl hret
  have hS : va_S A s.heap s.heap [] := va_S.rf
  have hown : s.vm.findClass "HalfJournal" = some m.cls := hown
  have hl : lv_has ls 2 [(0, .ref j), (1, .int x)] := hl
  have hP : va_P (dC, dI) vwCl [(j, .inr (2, [.ref dk, .ref rc, .ref ta, .ref pa, .int (nI tl), .int (nI st), .int (nI g), .int (nI h)])), (dk, .inr (0, [.ref a, .int du, .int wr])), (rc, .inr (1, [.ref sa, .ref la, .ref ma, .int (nI n), .int (nI us), .int (nI mm)]))] s.heap := hP
  have hD : va_D A [(j, .inr (2, [.ref dk, .ref rc, .ref ta, .ref pa, .int (nI tl), .int (nI st), .int (nI g), .int (nI h)])), (dk, .inr (0, [.ref a, .int du, .int wr])), (rc, .inr (1, [.ref sa, .ref la, .ref ma, .int (nI n), .int (nI us), .int (nI mm)]))] := hD
  refine lv_iload_n hx hb d_J_look_0 rfl (lv_at hl 1 rfl) ?_
  by_cases h0 : ∃ i, i < 9 ∧ x = nI i
  · obtain ⟨i, hi, rfl⟩ := h0
    rcases (show i = 0 ∨ i = 1 ∨ i = 2 ∨ i = 3 ∨ i = 4 ∨ i = 5 ∨ i = 6 ∨ i = 7 ∨ i = 8 by omega) with rfl | rfl | rfl | rfl | rfl | rfl | rfl | rfl | rfl
    · refine lv_tableIn (off := 51) (tgt := 52) hx hb d_J_look_1 (by decide) (by decide) (by decide) (by decide) ?_
      refine lv_aload_n hx hb d_J_look_52 rfl (lv_at hl 0 rfl) ?_
      refine va_get (D := (dC, dI)) (ci := 2) (v := .ref rc) (C := "HalfJournal") (T := F_J) (N := 8) hx hb hts i_J hown hK hP 0 rfl rfl 1 (by decide) (hts _ m_85) (fun _ h9 => h9) rfl d_J_look_53 ?_
      refine va_getN (D := (dC, dI)) (ci := 1) (v := .int (nI n)) (C := "HalfJournal$Records") (T := F_R) (N := 6) hx hb hts i_R hown hK hP 2 rfl rfl 3 (by decide) (va_Nw.use rfl (hE.1 _ m_64)) (fun _ h9 => h9) rfl d_J_look_56 ?_
      exact hret (nI n) () _ _ _ _ d_J_look_59 rfl (rfl) hP hK hD hS
    · refine lv_tableIn (off := 59) (tgt := 60) hx hb d_J_look_1 (by decide) (by decide) (by decide) (by decide) ?_
      refine lv_aload_n hx hb d_J_look_60 rfl (lv_at hl 0 rfl) ?_
      refine va_get (D := (dC, dI)) (ci := 2) (v := .ref rc) (C := "HalfJournal") (T := F_J) (N := 8) hx hb hts i_J hown hK hP 0 rfl rfl 1 (by decide) (hts _ m_85) (fun _ h9 => h9) rfl d_J_look_61 ?_
      refine va_getN (D := (dC, dI)) (ci := 1) (v := .int (nI us)) (C := "HalfJournal$Records") (T := F_R) (N := 6) hx hb hts i_R hown hK hP 2 rfl rfl 4 (by decide) (va_Nw.use rfl (hE.1 _ m_66)) (fun _ h9 => h9) rfl d_J_look_64 ?_
      exact hret (nI us) () _ _ _ _ d_J_look_67 rfl (rfl) hP hK hD hS
    · refine lv_tableIn (off := 67) (tgt := 68) hx hb d_J_look_1 (by decide) (by decide) (by decide) (by decide) ?_
      refine lv_aload_n hx hb d_J_look_68 rfl (lv_at hl 0 rfl) ?_
      refine va_get (D := (dC, dI)) (ci := 2) (v := .int (nI g)) (C := "HalfJournal") (T := F_J) (N := 8) hx hb hts i_J hown hK hP 0 rfl rfl 6 (by decide) (hts _ m_90) (fun _ h9 => h9) rfl d_J_look_69 ?_
      exact hret (nI g) () _ _ _ _ d_J_look_72 rfl (rfl) hP hK hD hS
    · refine lv_tableIn (off := 72) (tgt := 73) hx hb d_J_look_1 (by decide) (by decide) (by decide) (by decide) ?_
      refine lv_aload_n hx hb d_J_look_73 rfl (lv_at hl 0 rfl) ?_
      refine va_get (D := (dC, dI)) (ci := 2) (v := .int (nI h)) (C := "HalfJournal") (T := F_J) (N := 8) hx hb hts i_J hown hK hP 0 rfl rfl 7 (by decide) (hts _ m_91) (fun _ h9 => h9) rfl d_J_look_74 ?_
      exact hret (nI h) () _ _ _ _ d_J_look_77 rfl (rfl) hP hK hD hS
    · refine lv_tableIn (off := 77) (tgt := 78) hx hb d_J_look_1 (by decide) (by decide) (by decide) (by decide) ?_
      refine lv_aload_n hx hb d_J_look_78 rfl (lv_at hl 0 rfl) ?_
      refine va_get (D := (dC, dI)) (ci := 2) (v := .int (nI st)) (C := "HalfJournal") (T := F_J) (N := 8) hx hb hts i_J hown hK hP 0 rfl rfl 5 (by decide) (hts _ m_89) (fun _ h9 => h9) rfl d_J_look_79 ?_
      exact hret (nI st) () _ _ _ _ d_J_look_82 rfl (rfl) hP hK hD hS
    · refine lv_tableIn (off := 82) (tgt := 83) hx hb d_J_look_1 (by decide) (by decide) (by decide) (by decide) ?_
      refine lv_aload_n hx hb d_J_look_83 rfl (lv_at hl 0 rfl) ?_
      refine va_get (D := (dC, dI)) (ci := 2) (v := .ref dk) (C := "HalfJournal") (T := F_J) (N := 8) hx hb hts i_J hown hK hP 0 rfl rfl 0 (by decide) (hts _ m_84) (fun _ h9 => h9) rfl d_J_look_84 ?_
      refine va_getN (D := (dC, dI)) (ci := 0) (v := .int wr) (C := "HalfJournal$Disk") (T := F_D) (N := 3) hx hb hts i_D hown hK hP 1 rfl rfl 2 (by decide) (va_Nw.use rfl (hE.1 _ m_42)) (fun _ h9 => h9) rfl d_J_look_87 ?_
      exact hret wr () _ _ _ _ d_J_look_90 rfl (rfl) hP hK hD hS
    · refine lv_tableIn (off := 90) (tgt := 91) hx hb d_J_look_1 (by decide) (by decide) (by decide) (by decide) ?_
      refine lv_aload_n hx hb d_J_look_91 rfl (lv_at hl 0 rfl) ?_
      refine va_get (D := (dC, dI)) (ci := 2) (v := .int (nI tl)) (C := "HalfJournal") (T := F_J) (N := 8) hx hb hts i_J hown hK hP 0 rfl rfl 4 (by decide) (hts _ m_88) (fun _ h9 => h9) rfl d_J_look_92 ?_
      exact hret (nI tl) () _ _ _ _ d_J_look_95 rfl (rfl) hP hK hD hS
    · refine lv_tableIn (off := 95) (tgt := 96) hx hb d_J_look_1 (by decide) (by decide) (by decide) (by decide) ?_
      refine lv_aload_n hx hb d_J_look_96 rfl (lv_at hl 0 rfl) ?_
      refine va_get (D := (dC, dI)) (ci := 2) (v := .ref dk) (C := "HalfJournal") (T := F_J) (N := 8) hx hb hts i_J hown hK hP 0 rfl rfl 0 (by decide) (hts _ m_84) (fun _ h9 => h9) rfl d_J_look_97 ?_
      refine va_getN (D := (dC, dI)) (ci := 0) (v := .int du) (C := "HalfJournal$Disk") (T := F_D) (N := 3) hx hb hts i_D hown hK hP 1 rfl rfl 1 (by decide) (va_Nw.use rfl (hE.1 _ m_40)) (fun _ h9 => h9) rfl d_J_look_100 ?_
      exact hret du () _ _ _ _ d_J_look_103 rfl (rfl) hP hK hD hS
    · refine lv_tableIn (off := 103) (tgt := 104) hx hb d_J_look_1 (by decide) (by decide) (by decide) (by decide) ?_
      refine lv_aload_n hx hb d_J_look_104 rfl (lv_at hl 0 rfl) ?_
      refine va_get (D := (dC, dI)) (ci := 2) (v := .ref rc) (C := "HalfJournal") (T := F_J) (N := 8) hx hb hts i_J hown hK hP 0 rfl rfl 1 (by decide) (hts _ m_85) (fun _ h9 => h9) rfl d_J_look_105 ?_
      refine va_getN (D := (dC, dI)) (ci := 1) (v := .int (nI mm)) (C := "HalfJournal$Records") (T := F_R) (N := 6) hx hb hts i_R hown hK hP 2 rfl rfl 5 (by decide) (va_Nw.use rfl (hE.1 _ m_68)) (fun _ h9 => h9) rfl d_J_look_108 ?_
      exact hret (nI mm) () _ _ _ _ d_J_look_111 rfl (rfl) hP hK hD hS
  · refine lv_tableOut (tgt := 112) hx hb d_J_look_1 (hj_out9 h0) (by decide) ?_
    refine lv_iconst (v := (-1)) hx hb d_J_look_112 (by decide) ?_
    exact hret (-1) () _ _ _ _ d_J_look_113 rfl ((hj_w_look h0).symm) hP hK hD hS
abbrev rm_J_format : Room := { frames := 48, cells := 0, slots := 0, locals := 600 }
set_option maxHeartbeats 4000000 in
set_option maxRecDepth 100000 in
theorem c_J_format (l : Launch) (dC : Nat → ClassId) (dI : Nat → Nat → Nat) (j dk rc ta pa : Nat) (tl st g h : Nat) (a : Nat) (cA : ClassId) (d : Nat → Nat) (du wr : Int32) (sa la ma : Nat) (n us mm : Nat) (cS cL cM : ClassId) (fs fl fm : Nat → Int32) (hd : hj_bs d) : hj_Mv l y_J_format b_J_format 1 rm_J_format hj_EX (dC, dI) vwCl [(cA, .byte), (cS, .int), (cL, .int), (cM, .boolean)] [(j, .inr (2, [.ref dk, .ref rc, .ref ta, .ref pa, .int (nI tl), .int (nI st), .int (nI g), .int (nI h)])), (dk, .inr (0, [.ref a, .int du, .int wr])), (a, .inl (cA, 32768, .inl (hj_B d))), (rc, .inr (1, [.ref sa, .ref la, .ref ma, .int (nI n), .int (nI us), .int (nI mm)])), (sa, .inl (cS, 1984, .inl fs)), (la, .inl (cL, 1984, .inl fl)), (ma, .inl (cM, 1984, .inl fm))] [.ref j] (fun u => ∀ i, i < hj_N hj_fd 0 → u.1 i = nI (hj_pos hj_fd 0 i) ∧ u.2.1 i = nI (hj_rl hj_fd 0 (hj_pos hj_fd 0 i)) ∧ u.2.2 i = nI 0) (fun u : (Nat → Int32) × (Nat → Int32) × (Nat → Int32) => [(j, .inr (2, [.ref dk, .ref rc, .ref ta, .ref pa, .int (nI tl), .int (nI 2), .int (nI 1), .int (nI 0)])), (dk, .inr (0, [.ref a, .int (-1), .int wr])), (a, .inl (cA, 32768, .inl (hj_B hj_fd))), (rc, .inr (1, [.ref sa, .ref la, .ref ma, .int (nI (hj_N hj_fd 0)), .int (nI (hj_pos hj_fd 0 (hj_N hj_fd 0))), .int (nI 0)])), (sa, .inl (cS, 1984, .inl u.1)), (la, .inl (cL, 1984, .inl u.2.1)), (ma, .inl (cM, 1984, .inl u.2.2))]) (fun _ => [(cA, .byte), (cS, .int), (cL, .int), (cM, .boolean)]) 0 0 := by
  refine hj_bodyV (by decide +kernel) (Nat.le_of_ble_eq_true rfl) ?_
  intro p e s m args below meth c A Q ls hx hb hts hown hml hin hA hP hK hD hE hl hret
  have hS : va_S A s.heap s.heap [] := va_S.rf
  have hown : s.vm.findClass "HalfJournal" = some m.cls := hown
  have hl : lv_has ls 1 [(0, .ref j)] := hl
  have hP : va_P (dC, dI) vwCl [(j, .inr (2, [.ref dk, .ref rc, .ref ta, .ref pa, .int (nI tl), .int (nI st), .int (nI g), .int (nI h)])), (dk, .inr (0, [.ref a, .int du, .int wr])), (a, .inl (cA, 32768, .inl (hj_B d))), (rc, .inr (1, [.ref sa, .ref la, .ref ma, .int (nI n), .int (nI us), .int (nI mm)])), (sa, .inl (cS, 1984, .inl fs)), (la, .inl (cL, 1984, .inl fl)), (ma, .inl (cM, 1984, .inl fm))] s.heap := hP
  have hD : va_D A [(j, .inr (2, [.ref dk, .ref rc, .ref ta, .ref pa, .int (nI tl), .int (nI st), .int (nI g), .int (nI h)])), (dk, .inr (0, [.ref a, .int du, .int wr])), (a, .inl (cA, 32768, .inl (hj_B d))), (rc, .inr (1, [.ref sa, .ref la, .ref ma, .int (nI n), .int (nI us), .int (nI mm)])), (sa, .inl (cS, 1984, .inl fs)), (la, .inl (cL, 1984, .inl fl)), (ma, .inl (cM, 1984, .inl fm))] := hD
  refine lv_aload_n hx hb d_J_format_0 rfl (lv_at hl 0 rfl) ?_
  refine va_get (D := (dC, dI)) (ci := 2) (v := .ref dk) (C := "HalfJournal") (T := F_J) (N := 8) hx hb hts i_J hown hK hP 0 rfl rfl 0 (by decide) (hts _ m_84) (fun _ h9 => h9) rfl d_J_format_1 ?_
  refine va_getN (D := (dC, dI)) (ci := 0) (v := .ref a) (C := "HalfJournal$Disk") (T := F_D) (N := 3) hx hb hts i_D hown hK hP 1 rfl rfl 0 (by decide) (va_Nw.use rfl (hE.1 _ m_38)) (fun _ h9 => h9) rfl d_J_format_4 ?_
  refine lv_iconst (v := nI 0) hx hb d_J_format_7 (by decide) ?_
  refine lv_ldc (own := "HalfJournal") (v := (32768)) hx hb hown (hts _ m_113) d_J_format_8 ?_
  refine hj_topv (y := nI 32768) (by decide +kernel) ?_
  refine hj_callv (wc := [(a, .inl (cA, 32768, .inl (hj_B d)))]) (wr := [(j, .inr (2, [.ref dk, .ref rc, .ref ta, .ref pa, .int (nI tl), .int (nI st), .int (nI g), .int (nI h)])), (dk, .inr (0, [.ref a, .int du, .int wr])), (rc, .inr (1, [.ref sa, .ref la, .ref ma, .int (nI n), .int (nI us), .int (nI mm)])), (sa, .inl (cS, 1984, .inl fs)), (la, .inl (cL, 1984, .inl fl)), (ma, .inl (cM, 1984, .inl fm))]) [2] [0, 1, 3, 4, 5, 6] hP hD hS hA rfl rfl rfl (by decide) (va_runS (As := [.ref a, .int (nI 0), .int (nI 32768)]) (rest := []) ⟨hx, hb, hml, hown, hts⟩ (c_J_clearBytes l dC dI a cA 32768 d 0 32768 (by omega) (by omega) (by omega) s.heap.size) (cwS 3 hts (hj_gS m_114 m_115 m_1 m_116) rfl rfl rfl (by decide +kernel) ⟨Nat.le_of_ble_eq_true rfl, Nat.le_of_ble_eq_true rfl⟩) (hj_preS hj_EXok hE hP hD hK hS hA [2] rfl rfl [0] rfl) rfl rfl hl.1 rfl (lv_room (Nat.le_of_ble_eq_true rfl)) d_J_format_10 ⟨Nat.le_of_ble_eq_true rfl, Nat.le_of_ble_eq_true rfl⟩) (fun u_2 H locs hw hP hD hK1 hS => ?_)
  have hP : va_P (dC, dI) vwCl [(j, .inr (2, [.ref dk, .ref rc, .ref ta, .ref pa, .int (nI tl), .int (nI st), .int (nI g), .int (nI h)])), (dk, .inr (0, [.ref a, .int du, .int wr])), (a, .inl (cA, 32768, .inl (hj_B (hj_clr d 0 32768)))), (rc, .inr (1, [.ref sa, .ref la, .ref ma, .int (nI n), .int (nI us), .int (nI mm)])), (sa, .inl (cS, 1984, .inl fs)), (la, .inl (cL, 1984, .inl fl)), (ma, .inl (cM, 1984, .inl fm))] H := hP.sub [0, 1, 6, 2, 3, 4, 5] rfl
  have hD : va_D A [(j, .inr (2, [.ref dk, .ref rc, .ref ta, .ref pa, .int (nI tl), .int (nI st), .int (nI g), .int (nI h)])), (dk, .inr (0, [.ref a, .int du, .int wr])), (a, .inl (cA, 32768, .inl (hj_B (hj_clr d 0 32768)))), (rc, .inr (1, [.ref sa, .ref la, .ref ma, .int (nI n), .int (nI us), .int (nI mm)])), (sa, .inl (cS, 1984, .inl fs)), (la, .inl (cL, 1984, .inl fl)), (ma, .inl (cM, 1984, .inl fm))] := hD.sub [0, 1, 6, 2, 3, 4, 5] (by decide) rfl
  refine lv_aload_n hx hb d_J_format_13 rfl (lv_at hl 0 rfl) ?_
  refine va_get (D := (dC, dI)) (ci := 2) (v := .ref dk) (C := "HalfJournal") (T := F_J) (N := 8) hx hb hts i_J hown hK hP 0 rfl rfl 0 (by decide) (hts _ m_84) (fun _ h9 => h9) rfl d_J_format_14 ?_
  refine va_getN (D := (dC, dI)) (ci := 0) (v := .ref a) (C := "HalfJournal$Disk") (T := F_D) (N := 3) hx hb hts i_D hown hK hP 1 rfl rfl 0 (by decide) (va_Nw.use rfl (hE.1 _ m_38)) (fun _ h9 => h9) rfl d_J_format_17 ?_
  refine lv_sipush (v := nI 512) hx hb d_J_format_20 (by decide) ?_
  refine lv_iconst (v := nI 1) hx hb d_J_format_23 (by decide) ?_
  refine lv_iconst (v := nI 0) hx hb d_J_format_24 (by decide) ?_
  refine hj_callv (wc := [(a, .inl (cA, 32768, .inl (hj_B (hj_clr d 0 32768))))]) (wr := [(j, .inr (2, [.ref dk, .ref rc, .ref ta, .ref pa, .int (nI tl), .int (nI st), .int (nI g), .int (nI h)])), (dk, .inr (0, [.ref a, .int du, .int wr])), (rc, .inr (1, [.ref sa, .ref la, .ref ma, .int (nI n), .int (nI us), .int (nI mm)])), (sa, .inl (cS, 1984, .inl fs)), (la, .inl (cL, 1984, .inl fl)), (ma, .inl (cM, 1984, .inl fm))]) [2] [0, 1, 3, 4, 5, 6] hP hD hS hA rfl rfl rfl (by decide) (va_runS (As := [.ref a, .int (nI 512), .int (nI 1), .int (nI 0)]) (rest := []) ⟨hx, hb, hml, hown, hts⟩ (c_J_putHead l dC dI a cA 32768 (hj_clr d 0 32768) 512 1 0 (by omega) (by omega) (hj_clr_bs hd) (by omega) (by omega) H.size) (cwS 4 hts (hj_gS m_432 m_433 m_1 m_434) rfl rfl rfl (by decide +kernel) ⟨Nat.le_of_ble_eq_true rfl, Nat.le_of_ble_eq_true rfl⟩) (hj_preS hj_EXok hE hP hD hK hS hA [2] rfl rfl [0] rfl) rfl rfl hl.1 rfl (lv_room (Nat.le_of_ble_eq_true rfl)) d_J_format_25 ⟨Nat.le_of_ble_eq_true rfl, Nat.le_of_ble_eq_true rfl⟩) (fun u_4 H locs hw hP hD hK1 hS => ?_)
  have hP : va_P (dC, dI) vwCl [(j, .inr (2, [.ref dk, .ref rc, .ref ta, .ref pa, .int (nI tl), .int (nI st), .int (nI g), .int (nI h)])), (dk, .inr (0, [.ref a, .int du, .int wr])), (a, .inl (cA, 32768, .inl (hj_B (hj_ph (hj_clr d 0 32768) 512 0 1)))), (rc, .inr (1, [.ref sa, .ref la, .ref ma, .int (nI n), .int (nI us), .int (nI mm)])), (sa, .inl (cS, 1984, .inl fs)), (la, .inl (cL, 1984, .inl fl)), (ma, .inl (cM, 1984, .inl fm))] H := hP.sub [0, 1, 6, 2, 3, 4, 5] rfl
  have hD : va_D A [(j, .inr (2, [.ref dk, .ref rc, .ref ta, .ref pa, .int (nI tl), .int (nI st), .int (nI g), .int (nI h)])), (dk, .inr (0, [.ref a, .int du, .int wr])), (a, .inl (cA, 32768, .inl (hj_B (hj_ph (hj_clr d 0 32768) 512 0 1)))), (rc, .inr (1, [.ref sa, .ref la, .ref ma, .int (nI n), .int (nI us), .int (nI mm)])), (sa, .inl (cS, 1984, .inl fs)), (la, .inl (cL, 1984, .inl fl)), (ma, .inl (cM, 1984, .inl fm))] := hD.sub [0, 1, 6, 2, 3, 4, 5] (by decide) rfl
  have h9 : ∀ j, j < 32768 → ((hj_ph (hj_clr d 0 32768) 512 0 1)) j = (hj_fd) j := hj_fd_of d
  have hD := hD.set (p := 2) (e := .inl (cA, 32768, .inl (hj_B hj_fd))) rfl
  have hP := hj_arr hP 2 rfl (hj_B hj_fd) (fun j hj => congrArg sb_b (h9 j hj))
  have hP : va_P (dC, dI) vwCl [(j, .inr (2, [.ref dk, .ref rc, .ref ta, .ref pa, .int (nI tl), .int (nI st), .int (nI g), .int (nI h)])), (dk, .inr (0, [.ref a, .int du, .int wr])), (a, .inl (cA, 32768, .inl (hj_B hj_fd))), (rc, .inr (1, [.ref sa, .ref la, .ref ma, .int (nI n), .int (nI us), .int (nI mm)])), (sa, .inl (cS, 1984, .inl fs)), (la, .inl (cL, 1984, .inl fl)), (ma, .inl (cM, 1984, .inl fm))] H := hP
  have hD : va_D A [(j, .inr (2, [.ref dk, .ref rc, .ref ta, .ref pa, .int (nI tl), .int (nI st), .int (nI g), .int (nI h)])), (dk, .inr (0, [.ref a, .int du, .int wr])), (a, .inl (cA, 32768, .inl (hj_B hj_fd))), (rc, .inr (1, [.ref sa, .ref la, .ref ma, .int (nI n), .int (nI us), .int (nI mm)])), (sa, .inl (cS, 1984, .inl fs)), (la, .inl (cL, 1984, .inl fl)), (ma, .inl (cM, 1984, .inl fm))] := hD
  refine lv_aload_n hx hb d_J_format_28 rfl (lv_at hl 0 rfl) ?_
  refine va_get (D := (dC, dI)) (ci := 2) (v := .ref dk) (C := "HalfJournal") (T := F_J) (N := 8) hx hb hts i_J hown hK hP 0 rfl rfl 0 (by decide) (hts _ m_84) (fun _ h9 => h9) rfl d_J_format_29 ?_
  refine lv_iconst (v := (-1)) hx hb d_J_format_32 (by decide) ?_
  refine va_putN (D := (dC, dI)) (ci := 0) (v := .int (-1)) (ty := (.int)) (C := "HalfJournal$Disk") (T := F_D) (N := 3) hx hb hts i_D t_D t_D_ok n_D hown hK hP hD hS 1 rfl rfl 1 (by decide) (va_Nw.use rfl (hE.1 _ m_40)) (fun _ h9 => h9) rfl (by decide +kernel) rfl rfl (Nat.le_of_ble_eq_true rfl) d_J_format_33 (fun H locs hP hD hS => ?_)
  have hP : va_P (dC, dI) vwCl [(j, .inr (2, [.ref dk, .ref rc, .ref ta, .ref pa, .int (nI tl), .int (nI st), .int (nI g), .int (nI h)])), (dk, .inr (0, [.ref a, .int (-1), .int wr])), (a, .inl (cA, 32768, .inl (hj_B hj_fd))), (rc, .inr (1, [.ref sa, .ref la, .ref ma, .int (nI n), .int (nI us), .int (nI mm)])), (sa, .inl (cS, 1984, .inl fs)), (la, .inl (cL, 1984, .inl fl)), (ma, .inl (cM, 1984, .inl fm))] H := hP
  have hD : va_D A [(j, .inr (2, [.ref dk, .ref rc, .ref ta, .ref pa, .int (nI tl), .int (nI st), .int (nI g), .int (nI h)])), (dk, .inr (0, [.ref a, .int (-1), .int wr])), (a, .inl (cA, 32768, .inl (hj_B hj_fd))), (rc, .inr (1, [.ref sa, .ref la, .ref ma, .int (nI n), .int (nI us), .int (nI mm)])), (sa, .inl (cS, 1984, .inl fs)), (la, .inl (cL, 1984, .inl fl)), (ma, .inl (cM, 1984, .inl fm))] := hD
  refine lv_aload_n hx hb d_J_format_36 rfl (lv_at hl 0 rfl) ?_
  refine lv_iconst (v := nI 1) hx hb d_J_format_37 (by decide) ?_
  refine lv_iconst (v := nI 0) hx hb d_J_format_38 (by decide) ?_
  refine hj_callv (wc := [(j, .inr (2, [.ref dk, .ref rc, .ref ta, .ref pa, .int (nI tl), .int (nI st), .int (nI g), .int (nI h)])), (dk, .inr (0, [.ref a, .int (-1), .int wr])), (a, .inl (cA, 32768, .inl (hj_B hj_fd))), (rc, .inr (1, [.ref sa, .ref la, .ref ma, .int (nI n), .int (nI us), .int (nI mm)])), (sa, .inl (cS, 1984, .inl fs)), (la, .inl (cL, 1984, .inl fl)), (ma, .inl (cM, 1984, .inl fm))]) (wr := []) [0, 1, 2, 3, 4, 5, 6] [] hP hD hS hA rfl rfl rfl (by decide) (va_runV (As := [.int (nI 1), .int (nI 0)]) (rest := []) ⟨hx, hb, hml, hown, hts⟩ (c_J_goUp l dC dI j dk rc ta pa tl st g h a cA hj_fd (-1) wr sa la ma n us mm cS cL cM fs fl fm 1 0 (by omega) hj_fd_bs H.size) (cwV 2 hts (hj_gV m_446 m_448 s_J_goUp m_1 m_449) rfl rfl rfl (by decide +kernel) ⟨Nat.le_of_ble_eq_true rfl, Nat.le_of_ble_eq_true rfl⟩) (hj_preV (ci := 2) (q0 := 0) hj_EXok hE hP hD hK hS hA [0, 1, 2, 3, 4, 5, 6] rfl rfl [0, 1, 2, 3] rfl rfl rfl) rfl rfl hl.1 rfl (lv_room (Nat.le_of_ble_eq_true rfl)) d_J_format_39 ⟨Nat.le_of_ble_eq_true rfl, Nat.le_of_ble_eq_true rfl⟩) (fun u_6 H locs hw hP hD hK1 hS => ?_)
  obtain ⟨f1, f2, f3⟩ := u_6
  have hP : va_P (dC, dI) vwCl [(j, .inr (2, [.ref dk, .ref rc, .ref ta, .ref pa, .int (nI tl), .int (nI 2), .int (nI 1), .int (nI 0)])), (dk, .inr (0, [.ref a, .int (-1), .int wr])), (a, .inl (cA, 32768, .inl (hj_B hj_fd))), (rc, .inr (1, [.ref sa, .ref la, .ref ma, .int (nI (hj_N hj_fd 0)), .int (nI (hj_pos hj_fd 0 (hj_N hj_fd 0))), .int (nI 0)])), (sa, .inl (cS, 1984, .inl f1)), (la, .inl (cL, 1984, .inl f2)), (ma, .inl (cM, 1984, .inl f3))] H := hP.sub [0, 1, 2, 3, 4, 5, 6] rfl
  have hD : va_D A [(j, .inr (2, [.ref dk, .ref rc, .ref ta, .ref pa, .int (nI tl), .int (nI 2), .int (nI 1), .int (nI 0)])), (dk, .inr (0, [.ref a, .int (-1), .int wr])), (a, .inl (cA, 32768, .inl (hj_B hj_fd))), (rc, .inr (1, [.ref sa, .ref la, .ref ma, .int (nI (hj_N hj_fd 0)), .int (nI (hj_pos hj_fd 0 (hj_N hj_fd 0))), .int (nI 0)])), (sa, .inl (cS, 1984, .inl f1)), (la, .inl (cL, 1984, .inl f2)), (ma, .inl (cM, 1984, .inl f3))] := hD.sub [0, 1, 2, 3, 4, 5, 6] (by decide) rfl
  exact hret (f1, f2, f3) _ _ _ _ d_J_format_42 (hw) hP hK hD hS
abbrev rm_J_recover : Room := { frames := 48, cells := 0, slots := 0, locals := 600 }
set_option maxHeartbeats 4000000 in
set_option maxRecDepth 100000 in
theorem c_J_recover (l : Launch) (dC : Nat → ClassId) (dI : Nat → Nat → Nat) (j dk rc ta pa : Nat) (tl st g h : Nat) (a : Nat) (cA : ClassId) (d : Nat → Nat) (du wr : Int32) (sa la ma : Nat) (n us mm : Nat) (cS cL cM : ClassId) (fs fl fm : Nat → Int32) (hd : hj_bs d) : hj_Mi l y_J_recover b_J_recover 3 .int rm_J_recover hj_EX (dC, dI) vwCl [(cA, .byte), (cS, .int), (cL, .int), (cM, .boolean)] [(j, .inr (2, [.ref dk, .ref rc, .ref ta, .ref pa, .int (nI tl), .int (nI st), .int (nI g), .int (nI h)])), (dk, .inr (0, [.ref a, .int du, .int wr])), (a, .inl (cA, 32768, .inl (hj_B d))), (rc, .inr (1, [.ref sa, .ref la, .ref ma, .int (nI n), .int (nI us), .int (nI mm)])), (sa, .inl (cS, 1984, .inl fs)), (la, .inl (cL, 1984, .inl fl)), (ma, .inl (cM, 1984, .inl fm))] [.ref j] (fun r ((st1, g1, h1, n1, us1, f1, f2, f3) : Nat × Nat × Nat × Nat × Nat × (Nat → Int32) × (Nat → Int32) × (Nat → Int32)) => (hj_hg d 0 = 0 ∧ hj_hg d 1 = 0 ∧ r = -1 ∧ st1 = 1 ∧ g1 = 0 ∧ h1 = 0 ∧ n1 = 0 ∧ us1 = 0) ∨ (∃ b, hj_rcv d b ∧ st1 = 2 ∧ g1 = hj_hg d b ∧ h1 = d (512 * b + 2) ∧ n1 = hj_N d h1 ∧ us1 = hj_pos d h1 n1 ∧ r = nI n1 ∧ (∀ i, i < hj_N d h1 → f1 i = nI (hj_pos d h1 i) ∧ f2 i = nI (hj_rl d h1 (hj_pos d h1 i)) ∧ f3 i = nI 0))) (fun ((st1, g1, h1, n1, us1, f1, f2, f3) : Nat × Nat × Nat × Nat × Nat × (Nat → Int32) × (Nat → Int32) × (Nat → Int32)) => [(j, .inr (2, [.ref dk, .ref rc, .ref ta, .ref pa, .int (nI tl), .int (nI st1), .int (nI g1), .int (nI h1)])), (dk, .inr (0, [.ref a, .int (-1), .int wr])), (a, .inl (cA, 32768, .inl (hj_B d))), (rc, .inr (1, [.ref sa, .ref la, .ref ma, .int (nI n1), .int (nI us1), .int (nI 0)])), (sa, .inl (cS, 1984, .inl f1)), (la, .inl (cL, 1984, .inl f2)), (ma, .inl (cM, 1984, .inl f3))]) (fun _ => [(cA, .byte), (cS, .int), (cL, .int), (cM, .boolean)]) 0 0 := by
  refine hj_bodyI (by decide +kernel) (Nat.le_of_ble_eq_true rfl) ?_
  intro p e s m args below meth c A Q ls hx hb hts hown hml hA hP hK hD hE hl hret
  have hS : va_S A s.heap s.heap [] := va_S.rf
  have hown : s.vm.findClass "HalfJournal" = some m.cls := hown
  have hl : lv_has ls 3 [(0, .ref j)] := hl
  have hP : va_P (dC, dI) vwCl [(j, .inr (2, [.ref dk, .ref rc, .ref ta, .ref pa, .int (nI tl), .int (nI st), .int (nI g), .int (nI h)])), (dk, .inr (0, [.ref a, .int du, .int wr])), (a, .inl (cA, 32768, .inl (hj_B d))), (rc, .inr (1, [.ref sa, .ref la, .ref ma, .int (nI n), .int (nI us), .int (nI mm)])), (sa, .inl (cS, 1984, .inl fs)), (la, .inl (cL, 1984, .inl fl)), (ma, .inl (cM, 1984, .inl fm))] s.heap := hP
  have hD : va_D A [(j, .inr (2, [.ref dk, .ref rc, .ref ta, .ref pa, .int (nI tl), .int (nI st), .int (nI g), .int (nI h)])), (dk, .inr (0, [.ref a, .int du, .int wr])), (a, .inl (cA, 32768, .inl (hj_B d))), (rc, .inr (1, [.ref sa, .ref la, .ref ma, .int (nI n), .int (nI us), .int (nI mm)])), (sa, .inl (cS, 1984, .inl fs)), (la, .inl (cL, 1984, .inl fl)), (ma, .inl (cM, 1984, .inl fm))] := hD
  refine lv_aload_n hx hb d_J_recover_0 rfl (lv_at hl 0 rfl) ?_
  refine va_get (D := (dC, dI)) (ci := 2) (v := .ref dk) (C := "HalfJournal") (T := F_J) (N := 8) hx hb hts i_J hown hK hP 0 rfl rfl 0 (by decide) (hts _ m_84) (fun _ h9 => h9) rfl d_J_recover_1 ?_
  refine lv_iconst (v := (-1)) hx hb d_J_recover_4 (by decide) ?_
  refine va_putN (D := (dC, dI)) (ci := 0) (v := .int (-1)) (ty := (.int)) (C := "HalfJournal$Disk") (T := F_D) (N := 3) hx hb hts i_D t_D t_D_ok n_D hown hK hP hD hS 1 rfl rfl 1 (by decide) (va_Nw.use rfl (hE.1 _ m_40)) (fun _ h9 => h9) rfl (by decide +kernel) rfl rfl (Nat.le_of_ble_eq_true rfl) d_J_recover_5 (fun H locs hP hD hS => ?_)
  have hP : va_P (dC, dI) vwCl [(j, .inr (2, [.ref dk, .ref rc, .ref ta, .ref pa, .int (nI tl), .int (nI st), .int (nI g), .int (nI h)])), (dk, .inr (0, [.ref a, .int (-1), .int wr])), (a, .inl (cA, 32768, .inl (hj_B d))), (rc, .inr (1, [.ref sa, .ref la, .ref ma, .int (nI n), .int (nI us), .int (nI mm)])), (sa, .inl (cS, 1984, .inl fs)), (la, .inl (cL, 1984, .inl fl)), (ma, .inl (cM, 1984, .inl fm))] H := hP
  have hD : va_D A [(j, .inr (2, [.ref dk, .ref rc, .ref ta, .ref pa, .int (nI tl), .int (nI st), .int (nI g), .int (nI h)])), (dk, .inr (0, [.ref a, .int (-1), .int wr])), (a, .inl (cA, 32768, .inl (hj_B d))), (rc, .inr (1, [.ref sa, .ref la, .ref ma, .int (nI n), .int (nI us), .int (nI mm)])), (sa, .inl (cS, 1984, .inl fs)), (la, .inl (cL, 1984, .inl fl)), (ma, .inl (cM, 1984, .inl fm))] := hD
  refine lv_aload_n hx hb d_J_recover_8 rfl (lv_at hl 0 rfl) ?_
  refine lv_iconst (v := nI 0) hx hb d_J_recover_9 (by decide) ?_
  refine hj_calli (wc := [(j, .inr (2, [.ref dk, .ref rc, .ref ta, .ref pa, .int (nI tl), .int (nI st), .int (nI g), .int (nI h)])), (dk, .inr (0, [.ref a, .int (-1), .int wr])), (a, .inl (cA, 32768, .inl (hj_B d)))]) (wr := [(rc, .inr (1, [.ref sa, .ref la, .ref ma, .int (nI n), .int (nI us), .int (nI mm)])), (sa, .inl (cS, 1984, .inl fs)), (la, .inl (cL, 1984, .inl fl)), (ma, .inl (cM, 1984, .inl fm))]) [0, 1, 2] [3, 4, 5, 6] hP hD hS hA rfl rfl rfl (by decide) (va_runV (As := [.int (nI 0)]) (rest := []) ⟨hx, hb, hml, hown, hts⟩ (c_J_generationOfHead l dC dI j dk rc ta pa tl st g h a cA d (-1) wr 0 (by omega) hd H.size) (cwV 1 hts (hj_gV m_516 m_518 s_J_generationOfHead m_1 m_519) rfl rfl rfl (by decide +kernel) ⟨Nat.le_of_ble_eq_true rfl, Nat.le_of_ble_eq_true rfl⟩) (hj_preV (ci := 2) (q0 := 0) hj_EXok hE hP hD hK hS hA [0, 1, 2] rfl rfl [0] rfl rfl rfl) rfl rfl hl.1 rfl (lv_room (Nat.le_of_ble_eq_true rfl)) d_J_recover_10 ⟨Nat.le_of_ble_eq_true rfl, Nat.le_of_ble_eq_true rfl⟩) (fun r_1 u_2 H locs hw hP hD hK1 hS => ?_)
  subst hw
  have hP : va_P (dC, dI) vwCl [(j, .inr (2, [.ref dk, .ref rc, .ref ta, .ref pa, .int (nI tl), .int (nI st), .int (nI g), .int (nI h)])), (dk, .inr (0, [.ref a, .int (-1), .int wr])), (a, .inl (cA, 32768, .inl (hj_B d))), (rc, .inr (1, [.ref sa, .ref la, .ref ma, .int (nI n), .int (nI us), .int (nI mm)])), (sa, .inl (cS, 1984, .inl fs)), (la, .inl (cL, 1984, .inl fl)), (ma, .inl (cM, 1984, .inl fm))] H := hP.sub [4, 5, 6, 0, 1, 2, 3] rfl
  have hD : va_D A [(j, .inr (2, [.ref dk, .ref rc, .ref ta, .ref pa, .int (nI tl), .int (nI st), .int (nI g), .int (nI h)])), (dk, .inr (0, [.ref a, .int (-1), .int wr])), (a, .inl (cA, 32768, .inl (hj_B d))), (rc, .inr (1, [.ref sa, .ref la, .ref ma, .int (nI n), .int (nI us), .int (nI mm)])), (sa, .inl (cS, 1984, .inl fs)), (la, .inl (cL, 1984, .inl fl)), (ma, .inl (cM, 1984, .inl fm))] := hD.sub [4, 5, 6, 0, 1, 2, 3] (by decide) rfl
  refine lv_istore_n (lv' := [(1, .int (nI (hj_hg d 0))), (0, .ref j)]) hx hb d_J_recover_13 rfl hl (by decide) rfl (fun ls hl => ?_)
  refine lv_aload_n hx hb d_J_recover_14 rfl (lv_at hl 1 rfl) ?_
  refine lv_iconst (v := nI 1) hx hb d_J_recover_15 (by decide) ?_
  refine hj_calli (wc := [(j, .inr (2, [.ref dk, .ref rc, .ref ta, .ref pa, .int (nI tl), .int (nI st), .int (nI g), .int (nI h)])), (dk, .inr (0, [.ref a, .int (-1), .int wr])), (a, .inl (cA, 32768, .inl (hj_B d)))]) (wr := [(rc, .inr (1, [.ref sa, .ref la, .ref ma, .int (nI n), .int (nI us), .int (nI mm)])), (sa, .inl (cS, 1984, .inl fs)), (la, .inl (cL, 1984, .inl fl)), (ma, .inl (cM, 1984, .inl fm))]) [0, 1, 2] [3, 4, 5, 6] hP hD hS hA rfl rfl rfl (by decide) (va_runV (As := [.int (nI 1)]) (rest := []) ⟨hx, hb, hml, hown, hts⟩ (c_J_generationOfHead l dC dI j dk rc ta pa tl st g h a cA d (-1) wr 1 (by omega) hd H.size) (cwV 1 hts (hj_gV m_516 m_518 s_J_generationOfHead m_1 m_519) rfl rfl rfl (by decide +kernel) ⟨Nat.le_of_ble_eq_true rfl, Nat.le_of_ble_eq_true rfl⟩) (hj_preV (ci := 2) (q0 := 0) hj_EXok hE hP hD hK hS hA [0, 1, 2] rfl rfl [0] rfl rfl rfl) rfl rfl hl.1 rfl (lv_room (Nat.le_of_ble_eq_true rfl)) d_J_recover_16 ⟨Nat.le_of_ble_eq_true rfl, Nat.le_of_ble_eq_true rfl⟩) (fun r_3 u_4 H locs hw hP hD hK1 hS => ?_)
  subst hw
  have hP : va_P (dC, dI) vwCl [(j, .inr (2, [.ref dk, .ref rc, .ref ta, .ref pa, .int (nI tl), .int (nI st), .int (nI g), .int (nI h)])), (dk, .inr (0, [.ref a, .int (-1), .int wr])), (a, .inl (cA, 32768, .inl (hj_B d))), (rc, .inr (1, [.ref sa, .ref la, .ref ma, .int (nI n), .int (nI us), .int (nI mm)])), (sa, .inl (cS, 1984, .inl fs)), (la, .inl (cL, 1984, .inl fl)), (ma, .inl (cM, 1984, .inl fm))] H := hP.sub [4, 5, 6, 0, 1, 2, 3] rfl
  have hD : va_D A [(j, .inr (2, [.ref dk, .ref rc, .ref ta, .ref pa, .int (nI tl), .int (nI st), .int (nI g), .int (nI h)])), (dk, .inr (0, [.ref a, .int (-1), .int wr])), (a, .inl (cA, 32768, .inl (hj_B d))), (rc, .inr (1, [.ref sa, .ref la, .ref ma, .int (nI n), .int (nI us), .int (nI mm)])), (sa, .inl (cS, 1984, .inl fs)), (la, .inl (cL, 1984, .inl fl)), (ma, .inl (cM, 1984, .inl fm))] := hD.sub [4, 5, 6, 0, 1, 2, 3] (by decide) rfl
  refine lv_istore_n (lv' := [(2, .int (nI (hj_hg d 1))), (1, .int (nI (hj_hg d 0))), (0, .ref j)]) hx hb d_J_recover_19 rfl hl (by decide) rfl (fun ls hl => ?_)
  refine lv_iload_n hx hb d_J_recover_20 rfl (lv_at hl 1 rfl) ?_
  refine hj_if_ne (tgt := 35) hx hb (by first | exact hj_hg_lt d _ | exact Nat.lt_of_lt_of_le (hj_hg_lt d _) (by decide)) d_J_recover_21 (by decide) (fun c_1 => ?_) (fun c_1 => ?_)
  · refine lv_iload_n hx hb d_J_recover_35 rfl (lv_at hl 1 rfl) ?_
    refine lv_iload_n hx hb d_J_recover_36 rfl (lv_at hl 0 rfl) ?_
    refine hj_icmp_lt (tgt := 53) hx hb (by first | exact hj_hg_lt d _ | exact Nat.lt_of_lt_of_le (hj_hg_lt d _) (by decide)) (by first | exact hj_hg_lt d _ | exact Nat.lt_of_lt_of_le (hj_hg_lt d _) (by decide)) d_J_recover_37 (by decide) (fun c_3 => ?_) (fun c_3 => ?_)
    · have hr9 : hj_right d 1 := hj_hg_pos (by omega)
      have hh9 : d (512 * 1 + 2) < 2 := hr9.2.2.1
      refine lv_aload_n hx hb d_J_recover_53 rfl (lv_at hl 2 rfl) ?_
      refine lv_iload_n hx hb d_J_recover_54 rfl (lv_at hl 0 rfl) ?_
      refine lv_aload_n hx hb d_J_recover_55 rfl (lv_at hl 2 rfl) ?_
      refine lv_iconst (v := nI 1) hx hb d_J_recover_56 (by decide) ?_
      refine hj_calli (wc := [(j, .inr (2, [.ref dk, .ref rc, .ref ta, .ref pa, .int (nI tl), .int (nI st), .int (nI g), .int (nI h)])), (dk, .inr (0, [.ref a, .int (-1), .int wr])), (a, .inl (cA, 32768, .inl (hj_B d)))]) (wr := [(rc, .inr (1, [.ref sa, .ref la, .ref ma, .int (nI n), .int (nI us), .int (nI mm)])), (sa, .inl (cS, 1984, .inl fs)), (la, .inl (cL, 1984, .inl fl)), (ma, .inl (cM, 1984, .inl fm))]) [0, 1, 2] [3, 4, 5, 6] hP hD hS hA rfl rfl rfl (by decide) (va_runV (As := [.int (nI 1)]) (rest := [.int (nI (hj_hg d 1)), .ref j]) ⟨hx, hb, hml, hown, hts⟩ (c_J_halfOfHead l dC dI j dk rc ta pa tl st g h a cA d (-1) wr 1 (by omega) hd H.size) (cwV 1 hts (hj_gV m_521 m_523 s_J_halfOfHead m_1 m_524) rfl rfl rfl (by decide +kernel) ⟨Nat.le_of_ble_eq_true rfl, Nat.le_of_ble_eq_true rfl⟩) (hj_preV (ci := 2) (q0 := 0) hj_EXok hE hP hD hK hS hA [0, 1, 2] rfl rfl [0] rfl rfl rfl) rfl rfl hl.1 rfl (lv_room (Nat.le_of_ble_eq_true rfl)) d_J_recover_57 ⟨Nat.le_of_ble_eq_true rfl, Nat.le_of_ble_eq_true rfl⟩) (fun r_5 u_6 H locs hw hP hD hK1 hS => ?_)
      subst hw
      have hP : va_P (dC, dI) vwCl [(j, .inr (2, [.ref dk, .ref rc, .ref ta, .ref pa, .int (nI tl), .int (nI st), .int (nI g), .int (nI h)])), (dk, .inr (0, [.ref a, .int (-1), .int wr])), (a, .inl (cA, 32768, .inl (hj_B d))), (rc, .inr (1, [.ref sa, .ref la, .ref ma, .int (nI n), .int (nI us), .int (nI mm)])), (sa, .inl (cS, 1984, .inl fs)), (la, .inl (cL, 1984, .inl fl)), (ma, .inl (cM, 1984, .inl fm))] H := hP.sub [4, 5, 6, 0, 1, 2, 3] rfl
      have hD : va_D A [(j, .inr (2, [.ref dk, .ref rc, .ref ta, .ref pa, .int (nI tl), .int (nI st), .int (nI g), .int (nI h)])), (dk, .inr (0, [.ref a, .int (-1), .int wr])), (a, .inl (cA, 32768, .inl (hj_B d))), (rc, .inr (1, [.ref sa, .ref la, .ref ma, .int (nI n), .int (nI us), .int (nI mm)])), (sa, .inl (cS, 1984, .inl fs)), (la, .inl (cL, 1984, .inl fl)), (ma, .inl (cM, 1984, .inl fm))] := hD.sub [4, 5, 6, 0, 1, 2, 3] (by decide) rfl
      refine hj_callv (wc := [(j, .inr (2, [.ref dk, .ref rc, .ref ta, .ref pa, .int (nI tl), .int (nI st), .int (nI g), .int (nI h)])), (dk, .inr (0, [.ref a, .int (-1), .int wr])), (a, .inl (cA, 32768, .inl (hj_B d))), (rc, .inr (1, [.ref sa, .ref la, .ref ma, .int (nI n), .int (nI us), .int (nI mm)])), (sa, .inl (cS, 1984, .inl fs)), (la, .inl (cL, 1984, .inl fl)), (ma, .inl (cM, 1984, .inl fm))]) (wr := []) [0, 1, 2, 3, 4, 5, 6] [] hP hD hS hA rfl rfl rfl (by decide) (va_runV (As := [.int (nI (hj_hg d 1)), .int (nI (d (512 * 1 + 2)))]) (rest := []) ⟨hx, hb, hml, hown, hts⟩ (c_J_goUp l dC dI j dk rc ta pa tl st g h a cA d (-1) wr sa la ma n us mm cS cL cM fs fl fm (hj_hg d 1) (d (512 * 1 + 2)) hh9 hd H.size) (cwV 2 hts (hj_gV m_446 m_448 s_J_goUp m_1 m_449) rfl rfl rfl (by decide +kernel) ⟨Nat.le_of_ble_eq_true rfl, Nat.le_of_ble_eq_true rfl⟩) (hj_preV (ci := 2) (q0 := 0) hj_EXok hE hP hD hK hS hA [0, 1, 2, 3, 4, 5, 6] rfl rfl [0, 1, 2, 3] rfl rfl rfl) rfl rfl hl.1 rfl (lv_room (Nat.le_of_ble_eq_true rfl)) d_J_recover_60 ⟨Nat.le_of_ble_eq_true rfl, Nat.le_of_ble_eq_true rfl⟩) (fun u_8 H locs hw hP hD hK1 hS => ?_)
      obtain ⟨f1, f2, f3⟩ := u_8
      have hP : va_P (dC, dI) vwCl [(j, .inr (2, [.ref dk, .ref rc, .ref ta, .ref pa, .int (nI tl), .int (nI 2), .int (nI (hj_hg d 1)), .int (nI (d (512 * 1 + 2)))])), (dk, .inr (0, [.ref a, .int (-1), .int wr])), (a, .inl (cA, 32768, .inl (hj_B d))), (rc, .inr (1, [.ref sa, .ref la, .ref ma, .int (nI (hj_N d (d (512 * 1 + 2)))), .int (nI (hj_pos d (d (512 * 1 + 2)) (hj_N d (d (512 * 1 + 2))))), .int (nI 0)])), (sa, .inl (cS, 1984, .inl f1)), (la, .inl (cL, 1984, .inl f2)), (ma, .inl (cM, 1984, .inl f3))] H := hP.sub [0, 1, 2, 3, 4, 5, 6] rfl
      have hD : va_D A [(j, .inr (2, [.ref dk, .ref rc, .ref ta, .ref pa, .int (nI tl), .int (nI 2), .int (nI (hj_hg d 1)), .int (nI (d (512 * 1 + 2)))])), (dk, .inr (0, [.ref a, .int (-1), .int wr])), (a, .inl (cA, 32768, .inl (hj_B d))), (rc, .inr (1, [.ref sa, .ref la, .ref ma, .int (nI (hj_N d (d (512 * 1 + 2)))), .int (nI (hj_pos d (d (512 * 1 + 2)) (hj_N d (d (512 * 1 + 2))))), .int (nI 0)])), (sa, .inl (cS, 1984, .inl f1)), (la, .inl (cL, 1984, .inl f2)), (ma, .inl (cM, 1984, .inl f3))] := hD.sub [0, 1, 2, 3, 4, 5, 6] (by decide) rfl
      refine lv_aload_n hx hb d_J_recover_63 rfl (lv_at hl 2 rfl) ?_
      refine va_get (D := (dC, dI)) (ci := 2) (v := .ref rc) (C := "HalfJournal") (T := F_J) (N := 8) hx hb hts i_J hown hK hP 0 rfl rfl 1 (by decide) (hts _ m_85) (fun _ h9 => h9) rfl d_J_recover_64 ?_
      refine va_getN (D := (dC, dI)) (ci := 1) (v := .int (nI (hj_N d (d (512 * 1 + 2))))) (C := "HalfJournal$Records") (T := F_R) (N := 6) hx hb hts i_R hown hK hP 3 rfl rfl 3 (by decide) (va_Nw.use rfl (hE.1 _ m_64)) (fun _ h9 => h9) rfl d_J_recover_67 ?_
      exact hret (nI (hj_N d (d (512 * 1 + 2)))) (2, hj_hg d 1, d (512 * 1 + 2), hj_N d (d (512 * 1 + 2)), hj_pos d (d (512 * 1 + 2)) (hj_N d (d (512 * 1 + 2))), f1, f2, f3) _ _ _ _ d_J_recover_70 rfl (Or.inr ⟨1, ⟨by omega, hr9, fun q => absurd q (by decide), fun _ => c_3⟩, rfl, rfl, rfl, rfl, rfl, rfl, hw⟩) hP hK hD hS
    · have hr9 : hj_right d 0 := hj_hg_pos (by omega)
      have hh9 : d (512 * 0 + 2) < 2 := hr9.2.2.1
      refine lv_aload_n hx hb d_J_recover_40 rfl (lv_at hl 2 rfl) ?_
      refine lv_iload_n hx hb d_J_recover_41 rfl (lv_at hl 1 rfl) ?_
      refine lv_aload_n hx hb d_J_recover_42 rfl (lv_at hl 2 rfl) ?_
      refine lv_iconst (v := nI 0) hx hb d_J_recover_43 (by decide) ?_
      refine hj_calli (wc := [(j, .inr (2, [.ref dk, .ref rc, .ref ta, .ref pa, .int (nI tl), .int (nI st), .int (nI g), .int (nI h)])), (dk, .inr (0, [.ref a, .int (-1), .int wr])), (a, .inl (cA, 32768, .inl (hj_B d)))]) (wr := [(rc, .inr (1, [.ref sa, .ref la, .ref ma, .int (nI n), .int (nI us), .int (nI mm)])), (sa, .inl (cS, 1984, .inl fs)), (la, .inl (cL, 1984, .inl fl)), (ma, .inl (cM, 1984, .inl fm))]) [0, 1, 2] [3, 4, 5, 6] hP hD hS hA rfl rfl rfl (by decide) (va_runV (As := [.int (nI 0)]) (rest := [.int (nI (hj_hg d 0)), .ref j]) ⟨hx, hb, hml, hown, hts⟩ (c_J_halfOfHead l dC dI j dk rc ta pa tl st g h a cA d (-1) wr 0 (by omega) hd H.size) (cwV 1 hts (hj_gV m_521 m_523 s_J_halfOfHead m_1 m_524) rfl rfl rfl (by decide +kernel) ⟨Nat.le_of_ble_eq_true rfl, Nat.le_of_ble_eq_true rfl⟩) (hj_preV (ci := 2) (q0 := 0) hj_EXok hE hP hD hK hS hA [0, 1, 2] rfl rfl [0] rfl rfl rfl) rfl rfl hl.1 rfl (lv_room (Nat.le_of_ble_eq_true rfl)) d_J_recover_44 ⟨Nat.le_of_ble_eq_true rfl, Nat.le_of_ble_eq_true rfl⟩) (fun r_9 u_10 H locs hw hP hD hK1 hS => ?_)
      subst hw
      have hP : va_P (dC, dI) vwCl [(j, .inr (2, [.ref dk, .ref rc, .ref ta, .ref pa, .int (nI tl), .int (nI st), .int (nI g), .int (nI h)])), (dk, .inr (0, [.ref a, .int (-1), .int wr])), (a, .inl (cA, 32768, .inl (hj_B d))), (rc, .inr (1, [.ref sa, .ref la, .ref ma, .int (nI n), .int (nI us), .int (nI mm)])), (sa, .inl (cS, 1984, .inl fs)), (la, .inl (cL, 1984, .inl fl)), (ma, .inl (cM, 1984, .inl fm))] H := hP.sub [4, 5, 6, 0, 1, 2, 3] rfl
      have hD : va_D A [(j, .inr (2, [.ref dk, .ref rc, .ref ta, .ref pa, .int (nI tl), .int (nI st), .int (nI g), .int (nI h)])), (dk, .inr (0, [.ref a, .int (-1), .int wr])), (a, .inl (cA, 32768, .inl (hj_B d))), (rc, .inr (1, [.ref sa, .ref la, .ref ma, .int (nI n), .int (nI us), .int (nI mm)])), (sa, .inl (cS, 1984, .inl fs)), (la, .inl (cL, 1984, .inl fl)), (ma, .inl (cM, 1984, .inl fm))] := hD.sub [4, 5, 6, 0, 1, 2, 3] (by decide) rfl
      refine hj_callv (wc := [(j, .inr (2, [.ref dk, .ref rc, .ref ta, .ref pa, .int (nI tl), .int (nI st), .int (nI g), .int (nI h)])), (dk, .inr (0, [.ref a, .int (-1), .int wr])), (a, .inl (cA, 32768, .inl (hj_B d))), (rc, .inr (1, [.ref sa, .ref la, .ref ma, .int (nI n), .int (nI us), .int (nI mm)])), (sa, .inl (cS, 1984, .inl fs)), (la, .inl (cL, 1984, .inl fl)), (ma, .inl (cM, 1984, .inl fm))]) (wr := []) [0, 1, 2, 3, 4, 5, 6] [] hP hD hS hA rfl rfl rfl (by decide) (va_runV (As := [.int (nI (hj_hg d 0)), .int (nI (d (512 * 0 + 2)))]) (rest := []) ⟨hx, hb, hml, hown, hts⟩ (c_J_goUp l dC dI j dk rc ta pa tl st g h a cA d (-1) wr sa la ma n us mm cS cL cM fs fl fm (hj_hg d 0) (d (512 * 0 + 2)) hh9 hd H.size) (cwV 2 hts (hj_gV m_446 m_448 s_J_goUp m_1 m_449) rfl rfl rfl (by decide +kernel) ⟨Nat.le_of_ble_eq_true rfl, Nat.le_of_ble_eq_true rfl⟩) (hj_preV (ci := 2) (q0 := 0) hj_EXok hE hP hD hK hS hA [0, 1, 2, 3, 4, 5, 6] rfl rfl [0, 1, 2, 3] rfl rfl rfl) rfl rfl hl.1 rfl (lv_room (Nat.le_of_ble_eq_true rfl)) d_J_recover_47 ⟨Nat.le_of_ble_eq_true rfl, Nat.le_of_ble_eq_true rfl⟩) (fun u_12 H locs hw hP hD hK1 hS => ?_)
      obtain ⟨f1, f2, f3⟩ := u_12
      have hP : va_P (dC, dI) vwCl [(j, .inr (2, [.ref dk, .ref rc, .ref ta, .ref pa, .int (nI tl), .int (nI 2), .int (nI (hj_hg d 0)), .int (nI (d (512 * 0 + 2)))])), (dk, .inr (0, [.ref a, .int (-1), .int wr])), (a, .inl (cA, 32768, .inl (hj_B d))), (rc, .inr (1, [.ref sa, .ref la, .ref ma, .int (nI (hj_N d (d (512 * 0 + 2)))), .int (nI (hj_pos d (d (512 * 0 + 2)) (hj_N d (d (512 * 0 + 2))))), .int (nI 0)])), (sa, .inl (cS, 1984, .inl f1)), (la, .inl (cL, 1984, .inl f2)), (ma, .inl (cM, 1984, .inl f3))] H := hP.sub [0, 1, 2, 3, 4, 5, 6] rfl
      have hD : va_D A [(j, .inr (2, [.ref dk, .ref rc, .ref ta, .ref pa, .int (nI tl), .int (nI 2), .int (nI (hj_hg d 0)), .int (nI (d (512 * 0 + 2)))])), (dk, .inr (0, [.ref a, .int (-1), .int wr])), (a, .inl (cA, 32768, .inl (hj_B d))), (rc, .inr (1, [.ref sa, .ref la, .ref ma, .int (nI (hj_N d (d (512 * 0 + 2)))), .int (nI (hj_pos d (d (512 * 0 + 2)) (hj_N d (d (512 * 0 + 2))))), .int (nI 0)])), (sa, .inl (cS, 1984, .inl f1)), (la, .inl (cL, 1984, .inl f2)), (ma, .inl (cM, 1984, .inl f3))] := hD.sub [0, 1, 2, 3, 4, 5, 6] (by decide) rfl
      refine lv_goto (tgt := 63) hx hb d_J_recover_50 (by decide) ?_
      refine lv_aload_n hx hb d_J_recover_63 rfl (lv_at hl 2 rfl) ?_
      refine va_get (D := (dC, dI)) (ci := 2) (v := .ref rc) (C := "HalfJournal") (T := F_J) (N := 8) hx hb hts i_J hown hK hP 0 rfl rfl 1 (by decide) (hts _ m_85) (fun _ h9 => h9) rfl d_J_recover_64 ?_
      refine va_getN (D := (dC, dI)) (ci := 1) (v := .int (nI (hj_N d (d (512 * 0 + 2))))) (C := "HalfJournal$Records") (T := F_R) (N := 6) hx hb hts i_R hown hK hP 3 rfl rfl 3 (by decide) (va_Nw.use rfl (hE.1 _ m_64)) (fun _ h9 => h9) rfl d_J_recover_67 ?_
      exact hret (nI (hj_N d (d (512 * 0 + 2)))) (2, hj_hg d 0, d (512 * 0 + 2), hj_N d (d (512 * 0 + 2)), hj_pos d (d (512 * 0 + 2)) (hj_N d (d (512 * 0 + 2))), f1, f2, f3) _ _ _ _ d_J_recover_70 rfl (Or.inr ⟨0, ⟨by omega, hr9, fun _ => c_3, fun q => absurd q (by decide)⟩, rfl, rfl, rfl, rfl, rfl, rfl, hw⟩) hP hK hD hS
  · refine lv_iload_n hx hb d_J_recover_24 rfl (lv_at hl 0 rfl) ?_
    refine hj_if_ne (tgt := 35) hx hb (by first | exact hj_hg_lt d _ | exact Nat.lt_of_lt_of_le (hj_hg_lt d _) (by decide)) d_J_recover_25 (by decide) (fun c_2 => ?_) (fun c_2 => ?_)
    · refine lv_iload_n hx hb d_J_recover_35 rfl (lv_at hl 1 rfl) ?_
      refine lv_iload_n hx hb d_J_recover_36 rfl (lv_at hl 0 rfl) ?_
      refine hj_icmp_lt (tgt := 53) hx hb (by first | exact hj_hg_lt d _ | exact Nat.lt_of_lt_of_le (hj_hg_lt d _) (by decide)) (by first | exact hj_hg_lt d _ | exact Nat.lt_of_lt_of_le (hj_hg_lt d _) (by decide)) d_J_recover_37 (by decide) (fun c_3 => ?_) (fun c_3 => ?_)
      · have hr9 : hj_right d 1 := hj_hg_pos (by omega)
        have hh9 : d (512 * 1 + 2) < 2 := hr9.2.2.1
        refine lv_aload_n hx hb d_J_recover_53 rfl (lv_at hl 2 rfl) ?_
        refine lv_iload_n hx hb d_J_recover_54 rfl (lv_at hl 0 rfl) ?_
        refine lv_aload_n hx hb d_J_recover_55 rfl (lv_at hl 2 rfl) ?_
        refine lv_iconst (v := nI 1) hx hb d_J_recover_56 (by decide) ?_
        refine hj_calli (wc := [(j, .inr (2, [.ref dk, .ref rc, .ref ta, .ref pa, .int (nI tl), .int (nI st), .int (nI g), .int (nI h)])), (dk, .inr (0, [.ref a, .int (-1), .int wr])), (a, .inl (cA, 32768, .inl (hj_B d)))]) (wr := [(rc, .inr (1, [.ref sa, .ref la, .ref ma, .int (nI n), .int (nI us), .int (nI mm)])), (sa, .inl (cS, 1984, .inl fs)), (la, .inl (cL, 1984, .inl fl)), (ma, .inl (cM, 1984, .inl fm))]) [0, 1, 2] [3, 4, 5, 6] hP hD hS hA rfl rfl rfl (by decide) (va_runV (As := [.int (nI 1)]) (rest := [.int (nI (hj_hg d 1)), .ref j]) ⟨hx, hb, hml, hown, hts⟩ (c_J_halfOfHead l dC dI j dk rc ta pa tl st g h a cA d (-1) wr 1 (by omega) hd H.size) (cwV 1 hts (hj_gV m_521 m_523 s_J_halfOfHead m_1 m_524) rfl rfl rfl (by decide +kernel) ⟨Nat.le_of_ble_eq_true rfl, Nat.le_of_ble_eq_true rfl⟩) (hj_preV (ci := 2) (q0 := 0) hj_EXok hE hP hD hK hS hA [0, 1, 2] rfl rfl [0] rfl rfl rfl) rfl rfl hl.1 rfl (lv_room (Nat.le_of_ble_eq_true rfl)) d_J_recover_57 ⟨Nat.le_of_ble_eq_true rfl, Nat.le_of_ble_eq_true rfl⟩) (fun r_13 u_14 H locs hw hP hD hK1 hS => ?_)
        subst hw
        have hP : va_P (dC, dI) vwCl [(j, .inr (2, [.ref dk, .ref rc, .ref ta, .ref pa, .int (nI tl), .int (nI st), .int (nI g), .int (nI h)])), (dk, .inr (0, [.ref a, .int (-1), .int wr])), (a, .inl (cA, 32768, .inl (hj_B d))), (rc, .inr (1, [.ref sa, .ref la, .ref ma, .int (nI n), .int (nI us), .int (nI mm)])), (sa, .inl (cS, 1984, .inl fs)), (la, .inl (cL, 1984, .inl fl)), (ma, .inl (cM, 1984, .inl fm))] H := hP.sub [4, 5, 6, 0, 1, 2, 3] rfl
        have hD : va_D A [(j, .inr (2, [.ref dk, .ref rc, .ref ta, .ref pa, .int (nI tl), .int (nI st), .int (nI g), .int (nI h)])), (dk, .inr (0, [.ref a, .int (-1), .int wr])), (a, .inl (cA, 32768, .inl (hj_B d))), (rc, .inr (1, [.ref sa, .ref la, .ref ma, .int (nI n), .int (nI us), .int (nI mm)])), (sa, .inl (cS, 1984, .inl fs)), (la, .inl (cL, 1984, .inl fl)), (ma, .inl (cM, 1984, .inl fm))] := hD.sub [4, 5, 6, 0, 1, 2, 3] (by decide) rfl
        refine hj_callv (wc := [(j, .inr (2, [.ref dk, .ref rc, .ref ta, .ref pa, .int (nI tl), .int (nI st), .int (nI g), .int (nI h)])), (dk, .inr (0, [.ref a, .int (-1), .int wr])), (a, .inl (cA, 32768, .inl (hj_B d))), (rc, .inr (1, [.ref sa, .ref la, .ref ma, .int (nI n), .int (nI us), .int (nI mm)])), (sa, .inl (cS, 1984, .inl fs)), (la, .inl (cL, 1984, .inl fl)), (ma, .inl (cM, 1984, .inl fm))]) (wr := []) [0, 1, 2, 3, 4, 5, 6] [] hP hD hS hA rfl rfl rfl (by decide) (va_runV (As := [.int (nI (hj_hg d 1)), .int (nI (d (512 * 1 + 2)))]) (rest := []) ⟨hx, hb, hml, hown, hts⟩ (c_J_goUp l dC dI j dk rc ta pa tl st g h a cA d (-1) wr sa la ma n us mm cS cL cM fs fl fm (hj_hg d 1) (d (512 * 1 + 2)) hh9 hd H.size) (cwV 2 hts (hj_gV m_446 m_448 s_J_goUp m_1 m_449) rfl rfl rfl (by decide +kernel) ⟨Nat.le_of_ble_eq_true rfl, Nat.le_of_ble_eq_true rfl⟩) (hj_preV (ci := 2) (q0 := 0) hj_EXok hE hP hD hK hS hA [0, 1, 2, 3, 4, 5, 6] rfl rfl [0, 1, 2, 3] rfl rfl rfl) rfl rfl hl.1 rfl (lv_room (Nat.le_of_ble_eq_true rfl)) d_J_recover_60 ⟨Nat.le_of_ble_eq_true rfl, Nat.le_of_ble_eq_true rfl⟩) (fun u_16 H locs hw hP hD hK1 hS => ?_)
        obtain ⟨f1, f2, f3⟩ := u_16
        have hP : va_P (dC, dI) vwCl [(j, .inr (2, [.ref dk, .ref rc, .ref ta, .ref pa, .int (nI tl), .int (nI 2), .int (nI (hj_hg d 1)), .int (nI (d (512 * 1 + 2)))])), (dk, .inr (0, [.ref a, .int (-1), .int wr])), (a, .inl (cA, 32768, .inl (hj_B d))), (rc, .inr (1, [.ref sa, .ref la, .ref ma, .int (nI (hj_N d (d (512 * 1 + 2)))), .int (nI (hj_pos d (d (512 * 1 + 2)) (hj_N d (d (512 * 1 + 2))))), .int (nI 0)])), (sa, .inl (cS, 1984, .inl f1)), (la, .inl (cL, 1984, .inl f2)), (ma, .inl (cM, 1984, .inl f3))] H := hP.sub [0, 1, 2, 3, 4, 5, 6] rfl
        have hD : va_D A [(j, .inr (2, [.ref dk, .ref rc, .ref ta, .ref pa, .int (nI tl), .int (nI 2), .int (nI (hj_hg d 1)), .int (nI (d (512 * 1 + 2)))])), (dk, .inr (0, [.ref a, .int (-1), .int wr])), (a, .inl (cA, 32768, .inl (hj_B d))), (rc, .inr (1, [.ref sa, .ref la, .ref ma, .int (nI (hj_N d (d (512 * 1 + 2)))), .int (nI (hj_pos d (d (512 * 1 + 2)) (hj_N d (d (512 * 1 + 2))))), .int (nI 0)])), (sa, .inl (cS, 1984, .inl f1)), (la, .inl (cL, 1984, .inl f2)), (ma, .inl (cM, 1984, .inl f3))] := hD.sub [0, 1, 2, 3, 4, 5, 6] (by decide) rfl
        refine lv_aload_n hx hb d_J_recover_63 rfl (lv_at hl 2 rfl) ?_
        refine va_get (D := (dC, dI)) (ci := 2) (v := .ref rc) (C := "HalfJournal") (T := F_J) (N := 8) hx hb hts i_J hown hK hP 0 rfl rfl 1 (by decide) (hts _ m_85) (fun _ h9 => h9) rfl d_J_recover_64 ?_
        refine va_getN (D := (dC, dI)) (ci := 1) (v := .int (nI (hj_N d (d (512 * 1 + 2))))) (C := "HalfJournal$Records") (T := F_R) (N := 6) hx hb hts i_R hown hK hP 3 rfl rfl 3 (by decide) (va_Nw.use rfl (hE.1 _ m_64)) (fun _ h9 => h9) rfl d_J_recover_67 ?_
        exact hret (nI (hj_N d (d (512 * 1 + 2)))) (2, hj_hg d 1, d (512 * 1 + 2), hj_N d (d (512 * 1 + 2)), hj_pos d (d (512 * 1 + 2)) (hj_N d (d (512 * 1 + 2))), f1, f2, f3) _ _ _ _ d_J_recover_70 rfl (Or.inr ⟨1, ⟨by omega, hr9, fun q => absurd q (by decide), fun _ => c_3⟩, rfl, rfl, rfl, rfl, rfl, rfl, hw⟩) hP hK hD hS
      · have hr9 : hj_right d 0 := hj_hg_pos (by omega)
        have hh9 : d (512 * 0 + 2) < 2 := hr9.2.2.1
        refine lv_aload_n hx hb d_J_recover_40 rfl (lv_at hl 2 rfl) ?_
        refine lv_iload_n hx hb d_J_recover_41 rfl (lv_at hl 1 rfl) ?_
        refine lv_aload_n hx hb d_J_recover_42 rfl (lv_at hl 2 rfl) ?_
        refine lv_iconst (v := nI 0) hx hb d_J_recover_43 (by decide) ?_
        refine hj_calli (wc := [(j, .inr (2, [.ref dk, .ref rc, .ref ta, .ref pa, .int (nI tl), .int (nI st), .int (nI g), .int (nI h)])), (dk, .inr (0, [.ref a, .int (-1), .int wr])), (a, .inl (cA, 32768, .inl (hj_B d)))]) (wr := [(rc, .inr (1, [.ref sa, .ref la, .ref ma, .int (nI n), .int (nI us), .int (nI mm)])), (sa, .inl (cS, 1984, .inl fs)), (la, .inl (cL, 1984, .inl fl)), (ma, .inl (cM, 1984, .inl fm))]) [0, 1, 2] [3, 4, 5, 6] hP hD hS hA rfl rfl rfl (by decide) (va_runV (As := [.int (nI 0)]) (rest := [.int (nI (hj_hg d 0)), .ref j]) ⟨hx, hb, hml, hown, hts⟩ (c_J_halfOfHead l dC dI j dk rc ta pa tl st g h a cA d (-1) wr 0 (by omega) hd H.size) (cwV 1 hts (hj_gV m_521 m_523 s_J_halfOfHead m_1 m_524) rfl rfl rfl (by decide +kernel) ⟨Nat.le_of_ble_eq_true rfl, Nat.le_of_ble_eq_true rfl⟩) (hj_preV (ci := 2) (q0 := 0) hj_EXok hE hP hD hK hS hA [0, 1, 2] rfl rfl [0] rfl rfl rfl) rfl rfl hl.1 rfl (lv_room (Nat.le_of_ble_eq_true rfl)) d_J_recover_44 ⟨Nat.le_of_ble_eq_true rfl, Nat.le_of_ble_eq_true rfl⟩) (fun r_17 u_18 H locs hw hP hD hK1 hS => ?_)
        subst hw
        have hP : va_P (dC, dI) vwCl [(j, .inr (2, [.ref dk, .ref rc, .ref ta, .ref pa, .int (nI tl), .int (nI st), .int (nI g), .int (nI h)])), (dk, .inr (0, [.ref a, .int (-1), .int wr])), (a, .inl (cA, 32768, .inl (hj_B d))), (rc, .inr (1, [.ref sa, .ref la, .ref ma, .int (nI n), .int (nI us), .int (nI mm)])), (sa, .inl (cS, 1984, .inl fs)), (la, .inl (cL, 1984, .inl fl)), (ma, .inl (cM, 1984, .inl fm))] H := hP.sub [4, 5, 6, 0, 1, 2, 3] rfl
        have hD : va_D A [(j, .inr (2, [.ref dk, .ref rc, .ref ta, .ref pa, .int (nI tl), .int (nI st), .int (nI g), .int (nI h)])), (dk, .inr (0, [.ref a, .int (-1), .int wr])), (a, .inl (cA, 32768, .inl (hj_B d))), (rc, .inr (1, [.ref sa, .ref la, .ref ma, .int (nI n), .int (nI us), .int (nI mm)])), (sa, .inl (cS, 1984, .inl fs)), (la, .inl (cL, 1984, .inl fl)), (ma, .inl (cM, 1984, .inl fm))] := hD.sub [4, 5, 6, 0, 1, 2, 3] (by decide) rfl
        refine hj_callv (wc := [(j, .inr (2, [.ref dk, .ref rc, .ref ta, .ref pa, .int (nI tl), .int (nI st), .int (nI g), .int (nI h)])), (dk, .inr (0, [.ref a, .int (-1), .int wr])), (a, .inl (cA, 32768, .inl (hj_B d))), (rc, .inr (1, [.ref sa, .ref la, .ref ma, .int (nI n), .int (nI us), .int (nI mm)])), (sa, .inl (cS, 1984, .inl fs)), (la, .inl (cL, 1984, .inl fl)), (ma, .inl (cM, 1984, .inl fm))]) (wr := []) [0, 1, 2, 3, 4, 5, 6] [] hP hD hS hA rfl rfl rfl (by decide) (va_runV (As := [.int (nI (hj_hg d 0)), .int (nI (d (512 * 0 + 2)))]) (rest := []) ⟨hx, hb, hml, hown, hts⟩ (c_J_goUp l dC dI j dk rc ta pa tl st g h a cA d (-1) wr sa la ma n us mm cS cL cM fs fl fm (hj_hg d 0) (d (512 * 0 + 2)) hh9 hd H.size) (cwV 2 hts (hj_gV m_446 m_448 s_J_goUp m_1 m_449) rfl rfl rfl (by decide +kernel) ⟨Nat.le_of_ble_eq_true rfl, Nat.le_of_ble_eq_true rfl⟩) (hj_preV (ci := 2) (q0 := 0) hj_EXok hE hP hD hK hS hA [0, 1, 2, 3, 4, 5, 6] rfl rfl [0, 1, 2, 3] rfl rfl rfl) rfl rfl hl.1 rfl (lv_room (Nat.le_of_ble_eq_true rfl)) d_J_recover_47 ⟨Nat.le_of_ble_eq_true rfl, Nat.le_of_ble_eq_true rfl⟩) (fun u_20 H locs hw hP hD hK1 hS => ?_)
        obtain ⟨f1, f2, f3⟩ := u_20
        have hP : va_P (dC, dI) vwCl [(j, .inr (2, [.ref dk, .ref rc, .ref ta, .ref pa, .int (nI tl), .int (nI 2), .int (nI (hj_hg d 0)), .int (nI (d (512 * 0 + 2)))])), (dk, .inr (0, [.ref a, .int (-1), .int wr])), (a, .inl (cA, 32768, .inl (hj_B d))), (rc, .inr (1, [.ref sa, .ref la, .ref ma, .int (nI (hj_N d (d (512 * 0 + 2)))), .int (nI (hj_pos d (d (512 * 0 + 2)) (hj_N d (d (512 * 0 + 2))))), .int (nI 0)])), (sa, .inl (cS, 1984, .inl f1)), (la, .inl (cL, 1984, .inl f2)), (ma, .inl (cM, 1984, .inl f3))] H := hP.sub [0, 1, 2, 3, 4, 5, 6] rfl
        have hD : va_D A [(j, .inr (2, [.ref dk, .ref rc, .ref ta, .ref pa, .int (nI tl), .int (nI 2), .int (nI (hj_hg d 0)), .int (nI (d (512 * 0 + 2)))])), (dk, .inr (0, [.ref a, .int (-1), .int wr])), (a, .inl (cA, 32768, .inl (hj_B d))), (rc, .inr (1, [.ref sa, .ref la, .ref ma, .int (nI (hj_N d (d (512 * 0 + 2)))), .int (nI (hj_pos d (d (512 * 0 + 2)) (hj_N d (d (512 * 0 + 2))))), .int (nI 0)])), (sa, .inl (cS, 1984, .inl f1)), (la, .inl (cL, 1984, .inl f2)), (ma, .inl (cM, 1984, .inl f3))] := hD.sub [0, 1, 2, 3, 4, 5, 6] (by decide) rfl
        refine lv_goto (tgt := 63) hx hb d_J_recover_50 (by decide) ?_
        refine lv_aload_n hx hb d_J_recover_63 rfl (lv_at hl 2 rfl) ?_
        refine va_get (D := (dC, dI)) (ci := 2) (v := .ref rc) (C := "HalfJournal") (T := F_J) (N := 8) hx hb hts i_J hown hK hP 0 rfl rfl 1 (by decide) (hts _ m_85) (fun _ h9 => h9) rfl d_J_recover_64 ?_
        refine va_getN (D := (dC, dI)) (ci := 1) (v := .int (nI (hj_N d (d (512 * 0 + 2))))) (C := "HalfJournal$Records") (T := F_R) (N := 6) hx hb hts i_R hown hK hP 3 rfl rfl 3 (by decide) (va_Nw.use rfl (hE.1 _ m_64)) (fun _ h9 => h9) rfl d_J_recover_67 ?_
        exact hret (nI (hj_N d (d (512 * 0 + 2)))) (2, hj_hg d 0, d (512 * 0 + 2), hj_N d (d (512 * 0 + 2)), hj_pos d (d (512 * 0 + 2)) (hj_N d (d (512 * 0 + 2))), f1, f2, f3) _ _ _ _ d_J_recover_70 rfl (Or.inr ⟨0, ⟨by omega, hr9, fun _ => c_3, fun q => absurd q (by decide)⟩, rfl, rfl, rfl, rfl, rfl, rfl, hw⟩) hP hK hD hS
    · refine lv_aload_n hx hb d_J_recover_28 rfl (lv_at hl 2 rfl) ?_
      refine lv_iconst (v := nI 1) hx hb d_J_recover_29 (by decide) ?_
      refine hj_callv (wc := [(j, .inr (2, [.ref dk, .ref rc, .ref ta, .ref pa, .int (nI tl), .int (nI st), .int (nI g), .int (nI h)])), (rc, .inr (1, [.ref sa, .ref la, .ref ma, .int (nI n), .int (nI us), .int (nI mm)]))]) (wr := [(dk, .inr (0, [.ref a, .int (-1), .int wr])), (a, .inl (cA, 32768, .inl (hj_B d))), (sa, .inl (cS, 1984, .inl fs)), (la, .inl (cL, 1984, .inl fl)), (ma, .inl (cM, 1984, .inl fm))]) [0, 3] [1, 2, 4, 5, 6] hP hD hS hA rfl rfl rfl (by decide) (va_runV (As := [.int (nI 1)]) (rest := []) ⟨hx, hb, hml, hown, hts⟩ (c_J_leave l dC dI j dk rc ta pa tl st g h sa la ma n us mm 1 H.size) (cwV 1 hts (hj_gV m_508 m_510 s_J_leave m_1 m_511) rfl rfl rfl (by decide +kernel) ⟨Nat.le_of_ble_eq_true rfl, Nat.le_of_ble_eq_true rfl⟩) (hj_preV (ci := 2) (q0 := 0) hj_EXok hE hP hD hK hS hA [0, 3] rfl rfl [] rfl rfl rfl) rfl rfl hl.1 rfl (lv_room (Nat.le_of_ble_eq_true rfl)) d_J_recover_30 ⟨Nat.le_of_ble_eq_true rfl, Nat.le_of_ble_eq_true rfl⟩) (fun u_22 H locs hw hP hD hK1 hS => ?_)
      have hP : va_P (dC, dI) vwCl [(j, .inr (2, [.ref dk, .ref rc, .ref ta, .ref pa, .int (nI tl), .int (nI 1), .int (nI 0), .int (nI 0)])), (dk, .inr (0, [.ref a, .int (-1), .int wr])), (a, .inl (cA, 32768, .inl (hj_B d))), (rc, .inr (1, [.ref sa, .ref la, .ref ma, .int (nI 0), .int (nI 0), .int (nI 0)])), (sa, .inl (cS, 1984, .inl fs)), (la, .inl (cL, 1984, .inl fl)), (ma, .inl (cM, 1984, .inl fm))] H := hP.sub [5, 0, 1, 6, 2, 3, 4] rfl
      have hD : va_D A [(j, .inr (2, [.ref dk, .ref rc, .ref ta, .ref pa, .int (nI tl), .int (nI 1), .int (nI 0), .int (nI 0)])), (dk, .inr (0, [.ref a, .int (-1), .int wr])), (a, .inl (cA, 32768, .inl (hj_B d))), (rc, .inr (1, [.ref sa, .ref la, .ref ma, .int (nI 0), .int (nI 0), .int (nI 0)])), (sa, .inl (cS, 1984, .inl fs)), (la, .inl (cL, 1984, .inl fl)), (ma, .inl (cM, 1984, .inl fm))] := hD.sub [5, 0, 1, 6, 2, 3, 4] (by decide) rfl
      refine lv_iconst (v := (-1)) hx hb d_J_recover_33 (by decide) ?_
      exact hret (-1) (1, 0, 0, 0, 0, fs, fl, fm) _ _ _ _ d_J_recover_34 rfl (Or.inl ⟨c_1, c_2, rfl, rfl, rfl, rfl, rfl, rfl⟩) hP hK hD hS
