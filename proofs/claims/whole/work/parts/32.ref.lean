theorem hj_fd_of2 (d : Nat → Nat) (h : ∀ k, k < 32768 → d k = 0) : ∀ j, j < 32768 → va_cpy (hj_hd 0 1) d 0 512 12 j = hj_fd j := by
  intro j hj
  unfold hj_fd hj_blk va_cpy
  by_cases q : 512 ≤ j ∧ j < 512 + 12
  · rw [if_pos q, if_pos (by omega), show 0 + (j - 512 * 1) = 0 + (j - 512) by omega]
  · rw [if_neg q, h j hj]
    by_cases z : 512 * 1 ≤ j ∧ j < 512 * 1 + 512
    · rw [if_pos z]
      unfold hj_hd hj_hd0
      rw [if_neg (by omega), if_neg (by omega), if_neg (by omega), if_neg (by omega), if_neg (by omega), if_neg (by omega)]
    · rw [if_neg z]
theorem hj_fd_hg0 : hj_hg hj_fd 0 = 0 := hj_hg_no hj_fd_0
theorem hj_fd_hg1 : hj_hg hj_fd 1 = 1 := by rw [hj_hg_ok hj_fd_1.1]; exact hj_fd_1.2.1
theorem hj_fd_rcv {b : Nat} (h : hj_rcv hj_fd b) : b = 1 := by
  obtain ⟨h1, h2, -⟩ := h
  rcases (show b = 0 ∨ b = 1 by omega) with rfl | rfl
  · exact absurd h2 hj_fd_0
  · rfl
abbrev rm_M_mark : Room := { frames := 8, cells := 0, slots := 0, locals := 100 }
set_option maxHeartbeats 4000000 in
set_option maxRecDepth 100000 in
theorem c_M_mark (l : Launch) (dC : Nat → ClassId) (dI : Nat → Nat → Nat) (m0 da ba ka ta na ea : Nat) (th : Int32) (st g h us n tl : Nat) (du wr : Int32) (cK : ClassId) (fk : Nat → Int32) (x : Int32) (b : Nat) (hb9 : b < 2) (hn : n ≤ 1984) : hj_Mi l y_M_mark b_M_mark 3 .boolean rm_M_mark hj_E0 (dC, dI) vwCl [(cK, .boolean)] [(m0, .inr (3, [.int th, .ref da, .int (nI st), .int (nI g), .int (nI h), .int (nI us), .int (nI n), .ref ba, .ref ka, .ref ta, .int (nI tl), .int du, .int wr, .ref na, .ref ea])), (ka, .inl (cK, 2000, .inl fk))] [.ref m0, .int x, .int (nI b)] (fun r y => (∃ i, i < n ∧ x = nI i ∧ r = nI 1 ∧ y = va_up fk i (nI b)) ∨ (¬ vp_in x n ∧ r = nI 0 ∧ y = fk)) (fun y : Nat → Int32 => [(m0, .inr (3, [.int (nI 0), .ref da, .int (nI st), .int (nI g), .int (nI h), .int (nI us), .int (nI n), .ref ba, .ref ka, .ref ta, .int (nI tl), .int du, .int wr, .ref na, .ref ea])), (ka, .inl (cK, 2000, .inl y))]) (fun _ => [(cK, .boolean)]) 0 0 := by
  refine hj_bodyI (by decide +kernel) (Nat.le_of_ble_eq_true rfl) ?_
  intro p e s m args below meth c A Q ls hx hb hts hown hml hA hP hK hD hE hl hret
  have hS : va_S A s.heap s.heap [] := va_S.rf
  have hown : s.vm.findClass "HalfJournalModel" = some m.cls := hown
  have hl : lv_has ls 3 [(0, .ref m0), (1, .int x), (2, .int (nI b))] := hl
  have hP : va_P (dC, dI) vwCl [(m0, .inr (3, [.int th, .ref da, .int (nI st), .int (nI g), .int (nI h), .int (nI us), .int (nI n), .ref ba, .ref ka, .ref ta, .int (nI tl), .int du, .int wr, .ref na, .ref ea])), (ka, .inl (cK, 2000, .inl fk))] s.heap := hP
  have hD : va_D A [(m0, .inr (3, [.int th, .ref da, .int (nI st), .int (nI g), .int (nI h), .int (nI us), .int (nI n), .ref ba, .ref ka, .ref ta, .int (nI tl), .int du, .int wr, .ref na, .ref ea])), (ka, .inl (cK, 2000, .inl fk))] := hD
  refine lv_aload_n hx hb d_M_mark_0 rfl (lv_at hl 0 rfl) ?_
  refine lv_iconst (v := nI 0) hx hb d_M_mark_1 (by decide) ?_
  refine va_put (D := (dC, dI)) (ci := 3) (v := .int (nI 0)) (ty := (.int)) (C := "HalfJournalModel") (T := F_M) (N := 15) hx hb hts i_M t_M t_M_ok n_M hown hK hP hD hS 0 rfl rfl 0 (by decide) (hts _ m_645) (fun _ h9 => h9) rfl (by decide +kernel) rfl rfl (Nat.le_of_ble_eq_true rfl) d_M_mark_2 (fun H locs hP hD hS => ?_)
  have hP : va_P (dC, dI) vwCl [(m0, .inr (3, [.int (nI 0), .ref da, .int (nI st), .int (nI g), .int (nI h), .int (nI us), .int (nI n), .ref ba, .ref ka, .ref ta, .int (nI tl), .int du, .int wr, .ref na, .ref ea])), (ka, .inl (cK, 2000, .inl fk))] H := hP
  have hD : va_D A [(m0, .inr (3, [.int (nI 0), .ref da, .int (nI st), .int (nI g), .int (nI h), .int (nI us), .int (nI n), .ref ba, .ref ka, .ref ta, .int (nI tl), .int du, .int wr, .ref na, .ref ea])), (ka, .inl (cK, 2000, .inl fk))] := hD
  refine lv_iload_n hx hb d_M_mark_5 rfl (lv_at hl 1 rfl) ?_
  refine lv_if_lt (tgt := 17) hx hb d_M_mark_6 (by decide) (fun c_1 => ?_) (fun c_1 => ?_)
  · refine lv_iconst (v := nI 0) hx hb d_M_mark_17 (by decide) ?_
    exact hret (nI 0) fk _ _ _ _ d_M_mark_18 rfl (Or.inr ⟨fun q => q (Or.inl c_1), rfl, rfl⟩) hP hK hD hS
  · obtain ⟨i, hi, rfl⟩ := nI_of c_1
    refine lv_iload_n hx hb d_M_mark_9 rfl (lv_at hl 1 rfl) ?_
    refine lv_aload_n hx hb d_M_mark_10 rfl (lv_at hl 0 rfl) ?_
    refine va_get (D := (dC, dI)) (ci := 3) (v := .int (nI n)) (C := "HalfJournalModel") (T := F_M) (N := 15) hx hb hts i_M hown hK hP 0 rfl rfl 6 (by decide) (hts _ m_651) (fun _ h9 => h9) rfl d_M_mark_11 ?_
    refine hj_icmp_lt (tgt := 19) hx hb (by omega) (by omega) d_M_mark_14 (by decide) (fun c_2 => ?_) (fun c_2 => ?_)
    · refine lv_aload_n hx hb d_M_mark_19 rfl (lv_at hl 0 rfl) ?_
      refine va_get (D := (dC, dI)) (ci := 3) (v := .ref ka) (C := "HalfJournalModel") (T := F_M) (N := 15) hx hb hts i_M hown hK hP 0 rfl rfl 8 (by decide) (hts _ m_653) (fun _ h9 => h9) rfl d_M_mark_20 ?_
      refine lv_iload_n hx hb d_M_mark_23 rfl (lv_at hl 1 rfl) ?_
      refine lv_iload_n hx hb d_M_mark_24 rfl (lv_at hl 2 rfl) ?_
      refine hj_zast hx hb hK hP hD hS 1 0 rfl rfl (by omega) (by omega) (by decide) d_M_mark_25 (fun H locs hP hD hS => ?_)
      have hP : va_P (dC, dI) vwCl [(m0, .inr (3, [.int (nI 0), .ref da, .int (nI st), .int (nI g), .int (nI h), .int (nI us), .int (nI n), .ref ba, .ref ka, .ref ta, .int (nI tl), .int du, .int wr, .ref na, .ref ea])), (ka, .inl (cK, 2000, .inl (va_up fk i (nI b))))] H := hP
      have hD : va_D A [(m0, .inr (3, [.int (nI 0), .ref da, .int (nI st), .int (nI g), .int (nI h), .int (nI us), .int (nI n), .ref ba, .ref ka, .ref ta, .int (nI tl), .int du, .int wr, .ref na, .ref ea])), (ka, .inl (cK, 2000, .inl (va_up fk i (nI b))))] := hD
      refine lv_iconst (v := nI 1) hx hb d_M_mark_26 (by decide) ?_
      exact hret (nI 1) (va_up fk i (nI b)) _ _ _ _ d_M_mark_27 rfl (Or.inl ⟨i, c_2, rfl, rfl, rfl⟩) hP hK hD hS
    · refine lv_iconst (v := nI 0) hx hb d_M_mark_17 (by decide) ?_
      exact hret (nI 0) fk _ _ _ _ d_M_mark_18 rfl (Or.inr ⟨fun q => q (Or.inr (by rw [nI_clamp hi]; exact c_2)), rfl, rfl⟩) hP hK hD hS
abbrev rm_M_spoil : Room := { frames := 8, cells := 0, slots := 0, locals := 100 }
set_option maxHeartbeats 4000000 in
set_option maxRecDepth 100000 in
theorem c_M_spoil (l : Launch) (dC : Nat → ClassId) (dI : Nat → Nat → Nat) (m0 da ba ka ta na ea : Nat) (th : Int32) (st g h us n tl : Nat) (du wr : Int32) (cD : ClassId) (d : Nat → Nat) (x y z : Int32) (hst : st ≤ 2) : hj_Mi l y_M_spoil b_M_spoil 4 .boolean rm_M_spoil hj_E0 (dC, dI) vwCl [(cD, .byte)] [(m0, .inr (3, [.int th, .ref da, .int (nI st), .int (nI g), .int (nI h), .int (nI us), .int (nI n), .ref ba, .ref ka, .ref ta, .int (nI tl), .int du, .int wr, .ref na, .ref ea])), (da, .inl (cD, 32768, .inl (hj_B d)))] [.ref m0, .int x, .int y, .int z] (fun r u => hj_spo d st x y z r u) (fun u : Nat → Nat => [(m0, .inr (3, [.int (nI 0), .ref da, .int (nI st), .int (nI g), .int (nI h), .int (nI us), .int (nI n), .ref ba, .ref ka, .ref ta, .int (nI tl), .int du, .int wr, .ref na, .ref ea])), (da, .inl (cD, 32768, .inl (hj_B u)))]) (fun _ => [(cD, .byte)]) 0 0 := by
  refine hj_bodyI (by decide +kernel) (Nat.le_of_ble_eq_true rfl) ?_
  intro p e s m args below meth c A Q ls hx hb hts hown hml hA hP hK hD hE hl hret
  have hS : va_S A s.heap s.heap [] := va_S.rf
  have hown : s.vm.findClass "HalfJournalModel" = some m.cls := hown
  have hl : lv_has ls 4 [(0, .ref m0), (1, .int x), (2, .int y), (3, .int z)] := hl
  have hP : va_P (dC, dI) vwCl [(m0, .inr (3, [.int th, .ref da, .int (nI st), .int (nI g), .int (nI h), .int (nI us), .int (nI n), .ref ba, .ref ka, .ref ta, .int (nI tl), .int du, .int wr, .ref na, .ref ea])), (da, .inl (cD, 32768, .inl (hj_B d)))] s.heap := hP
  have hD : va_D A [(m0, .inr (3, [.int th, .ref da, .int (nI st), .int (nI g), .int (nI h), .int (nI us), .int (nI n), .ref ba, .ref ka, .ref ta, .int (nI tl), .int du, .int wr, .ref na, .ref ea])), (da, .inl (cD, 32768, .inl (hj_B d)))] := hD
  refine lv_aload_n hx hb d_M_spoil_0 rfl (lv_at hl 0 rfl) ?_
  refine lv_iconst (v := nI 0) hx hb d_M_spoil_1 (by decide) ?_
  refine va_put (D := (dC, dI)) (ci := 3) (v := .int (nI 0)) (ty := (.int)) (C := "HalfJournalModel") (T := F_M) (N := 15) hx hb hts i_M t_M t_M_ok n_M hown hK hP hD hS 0 rfl rfl 0 (by decide) (hts _ m_645) (fun _ h9 => h9) rfl (by decide +kernel) rfl rfl (Nat.le_of_ble_eq_true rfl) d_M_spoil_2 (fun H locs hP hD hS => ?_)
  have hP : va_P (dC, dI) vwCl [(m0, .inr (3, [.int (nI 0), .ref da, .int (nI st), .int (nI g), .int (nI h), .int (nI us), .int (nI n), .ref ba, .ref ka, .ref ta, .int (nI tl), .int du, .int wr, .ref na, .ref ea])), (da, .inl (cD, 32768, .inl (hj_B d)))] H := hP
  have hD : va_D A [(m0, .inr (3, [.int (nI 0), .ref da, .int (nI st), .int (nI g), .int (nI h), .int (nI us), .int (nI n), .ref ba, .ref ka, .ref ta, .int (nI tl), .int du, .int wr, .ref na, .ref ea])), (da, .inl (cD, 32768, .inl (hj_B d)))] := hD
  refine lv_iload_n hx hb d_M_spoil_5 rfl (lv_at hl 1 rfl) ?_
  refine lv_if_lt (tgt := 34) hx hb d_M_spoil_6 (by decide) (fun c_1 => ?_) (fun c_1 => ?_)
  · refine lv_iconst (v := nI 0) hx hb d_M_spoil_34 (by decide) ?_
    exact hret (nI 0) d _ _ _ _ d_M_spoil_35 rfl (Or.inr ⟨fun ⟨q1, q2, q3⟩ => q2 (Or.inl c_1), rfl, rfl⟩) hP hK hD hS
  · obtain ⟨b, hb9, rfl⟩ := nI_of c_1
    refine lv_iload_n hx hb d_M_spoil_9 rfl (lv_at hl 1 rfl) ?_
    refine lv_bipush (v := nI 63) hx hb d_M_spoil_10 (by decide) ?_
    refine hj_icmp_gt (tgt := 34) hx hb (by omega) (by omega) d_M_spoil_12 (by decide) (fun c_2 => ?_) (fun c_2 => ?_)
    · refine lv_iconst (v := nI 0) hx hb d_M_spoil_34 (by decide) ?_
      exact hret (nI 0) d _ _ _ _ d_M_spoil_35 rfl (Or.inr ⟨fun ⟨q1, q2, q3⟩ => q2 (Or.inr (by rw [nI_clamp hb9]; omega)), rfl, rfl⟩) hP hK hD hS
    · refine lv_iload_n hx hb d_M_spoil_15 rfl (lv_at hl 2 rfl) ?_
      refine lv_if_lt (tgt := 34) hx hb d_M_spoil_16 (by decide) (fun c_3 => ?_) (fun c_3 => ?_)
      · refine lv_iconst (v := nI 0) hx hb d_M_spoil_34 (by decide) ?_
        exact hret (nI 0) d _ _ _ _ d_M_spoil_35 rfl (Or.inr ⟨fun ⟨q1, q2, q3⟩ => q3 (Or.inl c_3), rfl, rfl⟩) hP hK hD hS
      · obtain ⟨k, hk, rfl⟩ := nI_of c_3
        refine lv_iload_n hx hb d_M_spoil_19 rfl (lv_at hl 2 rfl) ?_
        refine lv_sipush (v := nI 511) hx hb d_M_spoil_20 (by decide) ?_
        refine hj_icmp_gt (tgt := 34) hx hb (by omega) (by omega) d_M_spoil_23 (by decide) (fun c_4 => ?_) (fun c_4 => ?_)
        · refine lv_iconst (v := nI 0) hx hb d_M_spoil_34 (by decide) ?_
          exact hret (nI 0) d _ _ _ _ d_M_spoil_35 rfl (Or.inr ⟨fun ⟨q1, q2, q3⟩ => q3 (Or.inr (by rw [nI_clamp hk]; omega)), rfl, rfl⟩) hP hK hD hS
        · refine lv_aload_n hx hb d_M_spoil_26 rfl (lv_at hl 0 rfl) ?_
          refine va_get (D := (dC, dI)) (ci := 3) (v := .int (nI st)) (C := "HalfJournalModel") (T := F_M) (N := 15) hx hb hts i_M hown hK hP 0 rfl rfl 2 (by decide) (hts _ m_647) (fun _ h9 => h9) rfl d_M_spoil_27 ?_
          refine lv_iconst (v := nI 2) hx hb d_M_spoil_30 (by decide) ?_
          refine hj_icmp_ne (tgt := 36) hx hb (by omega) (by omega) d_M_spoil_31 (by decide) (fun c_5 => ?_) (fun c_5 => ?_)
          · refine lv_aload_n hx hb d_M_spoil_36 rfl (lv_at hl 0 rfl) ?_
            refine va_get (D := (dC, dI)) (ci := 3) (v := .ref da) (C := "HalfJournalModel") (T := F_M) (N := 15) hx hb hts i_M hown hK hP 0 rfl rfl 1 (by decide) (hts _ m_646) (fun _ h9 => h9) rfl d_M_spoil_37 ?_
            refine lv_sipush (v := nI 512) hx hb d_M_spoil_40 (by decide) ?_
            refine lv_iload_n hx hb d_M_spoil_43 rfl (lv_at hl 1 rfl) ?_
            refine hj_imul hx hb d_M_spoil_44 ?_
            refine lv_iload_n hx hb d_M_spoil_45 rfl (lv_at hl 2 rfl) ?_
            refine hj_iadd hx hb d_M_spoil_46 ?_
            refine lv_iload_n hx hb d_M_spoil_47 rfl (lv_at hl 3 rfl) ?_
            refine lv_i2b (v := sb_b (z.toBitVec.toNat % 256)) hx hb d_M_spoil_48 (hj_i8 z) ?_
            refine hj_bast hx hb hK hP hD hS 1 0 rfl rfl (by omega) (by decide) d_M_spoil_49 (fun H locs hP hD hS => ?_)
            have hP : va_P (dC, dI) vwCl [(m0, .inr (3, [.int (nI 0), .ref da, .int (nI st), .int (nI g), .int (nI h), .int (nI us), .int (nI n), .ref ba, .ref ka, .ref ta, .int (nI tl), .int du, .int wr, .ref na, .ref ea])), (da, .inl (cD, 32768, .inl (hj_B (va_up d ((512 * b) + k) (z.toBitVec.toNat % 256)))))] H := hP
            have hD : va_D A [(m0, .inr (3, [.int (nI 0), .ref da, .int (nI st), .int (nI g), .int (nI h), .int (nI us), .int (nI n), .ref ba, .ref ka, .ref ta, .int (nI tl), .int du, .int wr, .ref na, .ref ea])), (da, .inl (cD, 32768, .inl (hj_B (va_up d ((512 * b) + k) (z.toBitVec.toNat % 256)))))] := hD
            refine lv_iconst (v := nI 1) hx hb d_M_spoil_50 (by decide) ?_
            exact hret (nI 1) (va_up d (512 * b + k) (z.toBitVec.toNat % 256)) _ _ _ _ d_M_spoil_51 rfl (Or.inl ⟨b, k, c_5, by omega, by omega, rfl, rfl, rfl, rfl⟩) hP hK hD hS
          · refine lv_iconst (v := nI 0) hx hb d_M_spoil_34 (by decide) ?_
            exact hret (nI 0) d _ _ _ _ d_M_spoil_35 rfl (Or.inr ⟨fun ⟨q1, q2, q3⟩ => q1 c_5, rfl, rfl⟩) hP hK hD hS
abbrev rm_M_length : Room := { frames := 24, cells := 0, slots := 0, locals := 300 }
set_option maxHeartbeats 4000000 in
set_option maxRecDepth 100000 in
theorem c_M_length (l : Launch) (dC : Nat → ClassId) (dI : Nat → Nat → Nat) (m0 da ba ka ta na ea : Nat) (th : Int32) (st g h us n tl : Nat) (du wr : Int32) (cD : ClassId) (d : Nat → Nat) (cB : ClassId) (fb : Nat → Int32) (x : Int32) (hh : h < 2) (hd : hj_bs d) (hn : n ≤ 1984) (hv : ∀ i, i < n → 0 < hj_rl d h (hj_pos d h i)) (hs : ∀ i, i < n → fb i = nI (hj_pos d h i)) : hj_Mi l y_M_length b_M_length 2 .int rm_M_length hj_E0 (dC, dI) vwCl [(cD, .byte), (cB, .int)] [(m0, .inr (3, [.int th, .ref da, .int (nI st), .int (nI g), .int (nI h), .int (nI us), .int (nI n), .ref ba, .ref ka, .ref ta, .int (nI tl), .int du, .int wr, .ref na, .ref ea])), (da, .inl (cD, 32768, .inl (hj_B d))), (ba, .inl (cB, 2000, .inl fb))] [.ref m0, .int x] (fun r _ => hj_lenr d h n x r) (fun _ : Unit => [(m0, .inr (3, [.int (nI 0), .ref da, .int (nI st), .int (nI g), .int (nI h), .int (nI us), .int (nI n), .ref ba, .ref ka, .ref ta, .int (nI tl), .int du, .int wr, .ref na, .ref ea])), (da, .inl (cD, 32768, .inl (hj_B d))), (ba, .inl (cB, 2000, .inl fb))]) (fun _ => [(cD, .byte), (cB, .int)]) 0 0 := by
  refine hj_bodyI (by decide +kernel) (Nat.le_of_ble_eq_true rfl) ?_
  intro p e s m args below meth c A Q ls hx hb hts hown hml hA hP hK hD hE hl hret
  have hS : va_S A s.heap s.heap [] := va_S.rf
  have hown : s.vm.findClass "HalfJournalModel" = some m.cls := hown
  have hl : lv_has ls 2 [(0, .ref m0), (1, .int x)] := hl
  have hP : va_P (dC, dI) vwCl [(m0, .inr (3, [.int th, .ref da, .int (nI st), .int (nI g), .int (nI h), .int (nI us), .int (nI n), .ref ba, .ref ka, .ref ta, .int (nI tl), .int du, .int wr, .ref na, .ref ea])), (da, .inl (cD, 32768, .inl (hj_B d))), (ba, .inl (cB, 2000, .inl fb))] s.heap := hP
  have hD : va_D A [(m0, .inr (3, [.int th, .ref da, .int (nI st), .int (nI g), .int (nI h), .int (nI us), .int (nI n), .ref ba, .ref ka, .ref ta, .int (nI tl), .int du, .int wr, .ref na, .ref ea])), (da, .inl (cD, 32768, .inl (hj_B d))), (ba, .inl (cB, 2000, .inl fb))] := hD
  refine lv_aload_n hx hb d_M_length_0 rfl (lv_at hl 0 rfl) ?_
  refine lv_iconst (v := nI 0) hx hb d_M_length_1 (by decide) ?_
  refine va_put (D := (dC, dI)) (ci := 3) (v := .int (nI 0)) (ty := (.int)) (C := "HalfJournalModel") (T := F_M) (N := 15) hx hb hts i_M t_M t_M_ok n_M hown hK hP hD hS 0 rfl rfl 0 (by decide) (hts _ m_645) (fun _ h9 => h9) rfl (by decide +kernel) rfl rfl (Nat.le_of_ble_eq_true rfl) d_M_length_2 (fun H locs hP hD hS => ?_)
  have hP : va_P (dC, dI) vwCl [(m0, .inr (3, [.int (nI 0), .ref da, .int (nI st), .int (nI g), .int (nI h), .int (nI us), .int (nI n), .ref ba, .ref ka, .ref ta, .int (nI tl), .int du, .int wr, .ref na, .ref ea])), (da, .inl (cD, 32768, .inl (hj_B d))), (ba, .inl (cB, 2000, .inl fb))] H := hP
  have hD : va_D A [(m0, .inr (3, [.int (nI 0), .ref da, .int (nI st), .int (nI g), .int (nI h), .int (nI us), .int (nI n), .ref ba, .ref ka, .ref ta, .int (nI tl), .int du, .int wr, .ref na, .ref ea])), (da, .inl (cD, 32768, .inl (hj_B d))), (ba, .inl (cB, 2000, .inl fb))] := hD
  refine lv_iload_n hx hb d_M_length_5 rfl (lv_at hl 1 rfl) ?_
  refine lv_if_lt (tgt := 17) hx hb d_M_length_6 (by decide) (fun c_1 => ?_) (fun c_1 => ?_)
  · refine lv_iconst (v := (-1)) hx hb d_M_length_17 (by decide) ?_
    refine lv_goto (tgt := 26) hx hb d_M_length_18 (by decide) ?_
    exact hret (-1) () _ _ _ _ d_M_length_26 rfl (Or.inr ⟨fun q => q (Or.inl c_1), rfl⟩) hP hK hD hS
  · obtain ⟨i, hi, rfl⟩ := nI_of c_1
    refine lv_iload_n hx hb d_M_length_9 rfl (lv_at hl 1 rfl) ?_
    refine lv_aload_n hx hb d_M_length_10 rfl (lv_at hl 0 rfl) ?_
    refine va_get (D := (dC, dI)) (ci := 3) (v := .int (nI n)) (C := "HalfJournalModel") (T := F_M) (N := 15) hx hb hts i_M hown hK hP 0 rfl rfl 6 (by decide) (hts _ m_651) (fun _ h9 => h9) rfl d_M_length_11 ?_
    refine hj_icmp_lt (tgt := 21) hx hb (by omega) (by omega) d_M_length_14 (by decide) (fun c_2 => ?_) (fun c_2 => ?_)
    · refine lv_aload_n hx hb d_M_length_21 rfl (lv_at hl 0 rfl) ?_
      refine lv_iload_n hx hb d_M_length_22 rfl (lv_at hl 1 rfl) ?_
      refine hj_calli (wc := [(m0, .inr (3, [.int (nI 0), .ref da, .int (nI st), .int (nI g), .int (nI h), .int (nI us), .int (nI n), .ref ba, .ref ka, .ref ta, .int (nI tl), .int du, .int wr, .ref na, .ref ea])), (da, .inl (cD, 32768, .inl (hj_B d))), (ba, .inl (cB, 2000, .inl fb))]) (wr := []) [0, 1, 2] [] hP hD hS hA rfl rfl rfl (by decide) (va_runV (As := [.int (nI i)]) (rest := []) ⟨hx, hb, hml, hown, hts⟩ (c_M_lengthOf l dC dI m0 da ba ka ta na ea (nI 0) st g h us n tl du wr cD d cB fb i hh hd (by omega) (hv i c_2) (hs i c_2) H.size) (cwV 1 hts (hj_gV m_776 m_778 s_M_lengthOf m_4 m_779) rfl rfl rfl (by decide +kernel) ⟨Nat.le_of_ble_eq_true rfl, Nat.le_of_ble_eq_true rfl⟩) (hj_preV (ci := 3) (q0 := 0) hj_E0ok hE hP hD hK hS hA [0, 1, 2] rfl rfl [0, 1] rfl rfl rfl) rfl rfl hl.1 rfl (lv_room (Nat.le_of_ble_eq_true rfl)) d_M_length_23 ⟨Nat.le_of_ble_eq_true rfl, Nat.le_of_ble_eq_true rfl⟩) (fun r_1 u_2 H locs hw hP hD hK1 hS => ?_)
      subst hw
      have hP : va_P (dC, dI) vwCl [(m0, .inr (3, [.int (nI 0), .ref da, .int (nI st), .int (nI g), .int (nI h), .int (nI us), .int (nI n), .ref ba, .ref ka, .ref ta, .int (nI tl), .int du, .int wr, .ref na, .ref ea])), (da, .inl (cD, 32768, .inl (hj_B d))), (ba, .inl (cB, 2000, .inl fb))] H := hP.sub [0, 1, 2] rfl
      have hD : va_D A [(m0, .inr (3, [.int (nI 0), .ref da, .int (nI st), .int (nI g), .int (nI h), .int (nI us), .int (nI n), .ref ba, .ref ka, .ref ta, .int (nI tl), .int du, .int wr, .ref na, .ref ea])), (da, .inl (cD, 32768, .inl (hj_B d))), (ba, .inl (cB, 2000, .inl fb))] := hD.sub [0, 1, 2] (by decide) rfl
      exact hret (nI (hj_rl d h (hj_pos d h i))) () _ _ _ _ d_M_length_26 rfl (Or.inl ⟨i, c_2, rfl, rfl⟩) hP hK hD hS
    · refine lv_iconst (v := (-1)) hx hb d_M_length_17 (by decide) ?_
      refine lv_goto (tgt := 26) hx hb d_M_length_18 (by decide) ?_
      exact hret (-1) () _ _ _ _ d_M_length_26 rfl (Or.inr ⟨fun q => q (Or.inr (by rw [nI_clamp hi]; exact c_2)), rfl⟩) hP hK hD hS
abbrev rm_M_record : Room := { frames := 24, cells := 0, slots := 0, locals := 300 }
set_option maxHeartbeats 4000000 in
set_option maxRecDepth 100000 in
theorem c_M_record (l : Launch) (dC : Nat → ClassId) (dI : Nat → Nat → Nat) (m0 da ba ka ta na ea : Nat) (th : Int32) (st g h us n tl : Nat) (du wr : Int32) (cD : ClassId) (d : Nat → Nat) (cB : ClassId) (fb : Nat → Int32) (x y : Int32) (hh : h < 2) (hd : hj_bs d) (hn : n ≤ 1984) (hv : ∀ i, i < n → 0 < hj_rl d h (hj_pos d h i)) (hs : ∀ i, i < n → fb i = nI (hj_pos d h i)) : hj_Ml l y_M_record b_M_record 7 rm_M_record hj_E0 (dC, dI) vwCl [(cD, .byte), (cB, .int)] [(m0, .inr (3, [.int th, .ref da, .int (nI st), .int (nI g), .int (nI h), .int (nI us), .int (nI n), .ref ba, .ref ka, .ref ta, .int (nI tl), .int du, .int wr, .ref na, .ref ea])), (da, .inl (cD, 32768, .inl (hj_B d))), (ba, .inl (cB, 2000, .inl fb))] [.ref m0, .int x, .int y] (fun r _ => hj_recr d h n x y r) (fun _ : Unit => [(m0, .inr (3, [.int (nI 0), .ref da, .int (nI st), .int (nI g), .int (nI h), .int (nI us), .int (nI n), .ref ba, .ref ka, .ref ta, .int (nI tl), .int du, .int wr, .ref na, .ref ea])), (da, .inl (cD, 32768, .inl (hj_B d))), (ba, .inl (cB, 2000, .inl fb))]) (fun _ => [(cD, .byte), (cB, .int)]) 0 0 := by
  refine hj_bodyL (by decide +kernel) (Nat.le_of_ble_eq_true rfl) ?_
  intro p e s m args below meth c A Q ls hx hb hts hown hml hA hP hK hD hE hl hret
  have hS : va_S A s.heap s.heap [] := va_S.rf
  have hown : s.vm.findClass "HalfJournalModel" = some m.cls := hown
  have hl : lv_has ls 7 [(0, .ref m0), (1, .int x), (2, .int y)] := hl
  have hP : va_P (dC, dI) vwCl [(m0, .inr (3, [.int th, .ref da, .int (nI st), .int (nI g), .int (nI h), .int (nI us), .int (nI n), .ref ba, .ref ka, .ref ta, .int (nI tl), .int du, .int wr, .ref na, .ref ea])), (da, .inl (cD, 32768, .inl (hj_B d))), (ba, .inl (cB, 2000, .inl fb))] s.heap := hP
  have hD : va_D A [(m0, .inr (3, [.int th, .ref da, .int (nI st), .int (nI g), .int (nI h), .int (nI us), .int (nI n), .ref ba, .ref ka, .ref ta, .int (nI tl), .int du, .int wr, .ref na, .ref ea])), (da, .inl (cD, 32768, .inl (hj_B d))), (ba, .inl (cB, 2000, .inl fb))] := hD
  have hhb := hj_hb_le hh
  refine lv_aload_n hx hb d_M_record_0 rfl (lv_at hl 0 rfl) ?_
  refine lv_iconst (v := nI 0) hx hb d_M_record_1 (by decide) ?_
  refine va_put (D := (dC, dI)) (ci := 3) (v := .int (nI 0)) (ty := (.int)) (C := "HalfJournalModel") (T := F_M) (N := 15) hx hb hts i_M t_M t_M_ok n_M hown hK hP hD hS 0 rfl rfl 0 (by decide) (hts _ m_645) (fun _ h9 => h9) rfl (by decide +kernel) rfl rfl (Nat.le_of_ble_eq_true rfl) d_M_record_2 (fun H locs hP hD hS => ?_)
  have hP : va_P (dC, dI) vwCl [(m0, .inr (3, [.int (nI 0), .ref da, .int (nI st), .int (nI g), .int (nI h), .int (nI us), .int (nI n), .ref ba, .ref ka, .ref ta, .int (nI tl), .int du, .int wr, .ref na, .ref ea])), (da, .inl (cD, 32768, .inl (hj_B d))), (ba, .inl (cB, 2000, .inl fb))] H := hP
  have hD : va_D A [(m0, .inr (3, [.int (nI 0), .ref da, .int (nI st), .int (nI g), .int (nI h), .int (nI us), .int (nI n), .ref ba, .ref ka, .ref ta, .int (nI tl), .int du, .int wr, .ref na, .ref ea])), (da, .inl (cD, 32768, .inl (hj_B d))), (ba, .inl (cB, 2000, .inl fb))] := hD
  refine lv_iload_n hx hb d_M_record_5 rfl (lv_at hl 1 rfl) ?_
  refine lv_if_lt (tgt := 27) hx hb d_M_record_6 (by decide) (fun c_1 => ?_) (fun c_1 => ?_)
  · refine lv_lconst (v := lN 0) hx hb d_M_record_27 (by decide) ?_
    exact hret (lN 0) () _ _ _ _ d_M_record_28 (Or.inr ⟨fun ⟨q1, q2⟩ => q1 (Or.inl c_1), rfl⟩) hP hK hD hS
  · obtain ⟨i, hi, rfl⟩ := nI_of c_1
    refine lv_iload_n hx hb d_M_record_9 rfl (lv_at hl 1 rfl) ?_
    refine lv_aload_n hx hb d_M_record_10 rfl (lv_at hl 0 rfl) ?_
    refine va_get (D := (dC, dI)) (ci := 3) (v := .int (nI n)) (C := "HalfJournalModel") (T := F_M) (N := 15) hx hb hts i_M hown hK hP 0 rfl rfl 6 (by decide) (hts _ m_651) (fun _ h9 => h9) rfl d_M_record_11 ?_
    refine hj_icmp_ge (tgt := 27) hx hb (by omega) (by omega) d_M_record_14 (by decide) (fun c_2 => ?_) (fun c_2 => ?_)
    · refine lv_lconst (v := lN 0) hx hb d_M_record_27 (by decide) ?_
      exact hret (lN 0) () _ _ _ _ d_M_record_28 (Or.inr ⟨fun ⟨q1, q2⟩ => q1 (Or.inr (by rw [nI_clamp hi]; exact c_2)), rfl⟩) hP hK hD hS
    · refine lv_iload_n hx hb d_M_record_17 rfl (lv_at hl 2 rfl) ?_
      refine lv_if_lt (tgt := 27) hx hb d_M_record_18 (by decide) (fun c_3 => ?_) (fun c_3 => ?_)
      · refine lv_lconst (v := lN 0) hx hb d_M_record_27 (by decide) ?_
        exact hret (lN 0) () _ _ _ _ d_M_record_28 (Or.inr ⟨fun ⟨q1, q2⟩ => q2 (Or.inl c_3), rfl⟩) hP hK hD hS
      · obtain ⟨k, hk, rfl⟩ := nI_of c_3
        refine lv_iload_n hx hb d_M_record_21 rfl (lv_at hl 2 rfl) ?_
        refine lv_bipush (v := nI 125) hx hb d_M_record_22 (by decide) ?_
        refine hj_icmp_le (tgt := 29) hx hb (by omega) (by omega) d_M_record_24 (by decide) (fun c_4 => ?_) (fun c_4 => ?_)
        · have hr0 := hv i c_2
          obtain ⟨hr1, hr2, -⟩ := hj_rl_in hr0
          have hsz6 : hj_sz (hj_rl d h (hj_pos d h i)) = 6 + hj_rl d h (hj_pos d h i) + hj_rl d h (hj_pos d h i) % 2 := rfl
          obtain ⟨g9, hg9⟩ : ∃ g9 : Nat → Nat, g9 = (fun j => if 8 * k + j < hj_rl d h (hj_pos d h i) then d (hj_hb h + hj_pos d h i + 2 + (8 * k + j)) else 0) := ⟨_, rfl⟩
          refine lv_aload_n hx hb d_M_record_29 rfl (lv_at hl 0 rfl) ?_
          refine lv_iload_n hx hb d_M_record_30 rfl (lv_at hl 1 rfl) ?_
          refine hj_calli (wc := [(m0, .inr (3, [.int (nI 0), .ref da, .int (nI st), .int (nI g), .int (nI h), .int (nI us), .int (nI n), .ref ba, .ref ka, .ref ta, .int (nI tl), .int du, .int wr, .ref na, .ref ea])), (da, .inl (cD, 32768, .inl (hj_B d))), (ba, .inl (cB, 2000, .inl fb))]) (wr := []) [0, 1, 2] [] hP hD hS hA rfl rfl rfl (by decide) (va_runV (As := [.int (nI i)]) (rest := []) ⟨hx, hb, hml, hown, hts⟩ (c_M_lengthOf l dC dI m0 da ba ka ta na ea (nI 0) st g h us n tl du wr cD d cB fb i hh hd (by omega) hr0 (hs i c_2) H.size) (cwV 1 hts (hj_gV m_776 m_778 s_M_lengthOf m_4 m_779) rfl rfl rfl (by decide +kernel) ⟨Nat.le_of_ble_eq_true rfl, Nat.le_of_ble_eq_true rfl⟩) (hj_preV (ci := 3) (q0 := 0) hj_E0ok hE hP hD hK hS hA [0, 1, 2] rfl rfl [0, 1] rfl rfl rfl) rfl rfl hl.1 rfl (lv_room (Nat.le_of_ble_eq_true rfl)) d_M_record_31 ⟨Nat.le_of_ble_eq_true rfl, Nat.le_of_ble_eq_true rfl⟩) (fun r_1 u_2 H locs hw hP hD hK1 hS => ?_)
          subst hw
          have hP : va_P (dC, dI) vwCl [(m0, .inr (3, [.int (nI 0), .ref da, .int (nI st), .int (nI g), .int (nI h), .int (nI us), .int (nI n), .ref ba, .ref ka, .ref ta, .int (nI tl), .int du, .int wr, .ref na, .ref ea])), (da, .inl (cD, 32768, .inl (hj_B d))), (ba, .inl (cB, 2000, .inl fb))] H := hP.sub [0, 1, 2] rfl
          have hD : va_D A [(m0, .inr (3, [.int (nI 0), .ref da, .int (nI st), .int (nI g), .int (nI h), .int (nI us), .int (nI n), .ref ba, .ref ka, .ref ta, .int (nI tl), .int du, .int wr, .ref na, .ref ea])), (da, .inl (cD, 32768, .inl (hj_B d))), (ba, .inl (cB, 2000, .inl fb))] := hD.sub [0, 1, 2] (by decide) rfl
          refine lv_istore_n (lv' := [(3, .int (nI (hj_rl d h (hj_pos d h i)))), (0, .ref m0), (1, .int (nI i)), (2, .int (nI k))]) hx hb d_M_record_34 rfl hl (by decide) rfl (fun ls hl => ?_)
          refine lv_lconst (v := lN 0) hx hb d_M_record_35 (by decide) ?_
          refine hj_topl (y := hj_w g9 0) (rfl) ?_
          refine lv_lstore (lv' := [(4, .long (hj_w g9 0)), (3, .int (nI (hj_rl d h (hj_pos d h i)))), (0, .ref m0), (1, .int (nI i)), (2, .int (nI k))]) hx hb d_M_record_36 hl (by decide) rfl (fun ls hl => ?_)
          refine lv_bipush (v := nI 8) hx hb d_M_record_38 (by decide) ?_
          refine lv_iload_n hx hb d_M_record_40 rfl (lv_at hl 4 rfl) ?_
          refine hj_imul hx hb d_M_record_41 ?_
          refine hj_topn (b := 8 * k + 0) (rfl) ?_
          refine lv_istore (lv' := [(6, .int (nI (8 * k + 0))), (4, .long (hj_w g9 0)), (3, .int (nI (hj_rl d h (hj_pos d h i)))), (0, .ref m0), (1, .int (nI i)), (2, .int (nI k))]) hx hb d_M_record_42 hl (by decide) rfl (fun ls hl => ?_)
          have lp : ∀ (n9_lp : Nat) (t : Nat), (t ≤ 8) → (8 - t) < n9_lp → ∀ (H : Heap) (locs : List Loc), va_P (dC, dI) vwCl [(m0, .inr (3, [.int (nI 0), .ref da, .int (nI st), .int (nI g), .int (nI h), .int (nI us), .int (nI n), .ref ba, .ref ka, .ref ta, .int (nI tl), .int du, .int wr, .ref na, .ref ea])), (da, .inl (cD, 32768, .inl (hj_B d))), (ba, .inl (cB, 2000, .inl fb))] H → va_D A [(m0, .inr (3, [.int (nI 0), .ref da, .int (nI st), .int (nI g), .int (nI h), .int (nI us), .int (nI n), .ref ba, .ref ka, .ref ta, .int (nI tl), .int du, .int wr, .ref na, .ref ea])), (da, .inl (cD, 32768, .inl (hj_B d))), (ba, .inl (cB, 2000, .inl fb))] → va_S A s.heap H locs → ∀ (ls : Array Slot), lv_has ls 7 [(0, .ref m0), (1, .int (nI i)), (2, .int (nI k)), (3, .int (nI (hj_rl d h (hj_pos d h i)))), (4, .long (hj_w g9 t)), (6, .int (nI (8 * k + t)))] → W p l e rm_M_record s m args below meth c H locs 0 0 Q (F0 m 44 ls []) := by
            intro n9_lp
            induction n9_lp with
            | zero =>
              intro t ht hm_lp
              exact absurd hm_lp (Nat.not_lt_zero _)
            | succ n9_lp ih_lp =>
              intro t ht hm_lp H locs hP hD hS ls hl
              refine lv_iload hx hb d_M_record_44 (lv_at hl 5 rfl) ?_
              refine lv_bipush (v := nI 8) hx hb d_M_record_46 (by decide) ?_
              refine lv_iload_n hx hb d_M_record_48 rfl (lv_at hl 2 rfl) ?_
              refine hj_imul hx hb d_M_record_49 ?_
              refine lv_bipush (v := nI 8) hx hb d_M_record_50 (by decide) ?_
              refine hj_iadd hx hb d_M_record_52 ?_
              refine hj_icmp_ge (tgt := 109) hx hb (by omega) (by omega) d_M_record_53 (by decide) (fun c_5 => ?_) (fun c_5 => ?_)
              · obtain rfl : t = 8 := by omega
                have hl : lv_has ls 7 [(0, .ref m0), (1, .int (nI i)), (2, .int (nI k)), (3, .int (nI (hj_rl d h (hj_pos d h i)))), (4, .long (hj_w g9 8))] := lv_sub hl [0, 1, 2, 3, 4] rfl
                refine lv_lload hx hb d_M_record_109 (lv_at hl 4 rfl) ?_
                rcases Nat.lt_or_ge k 125 with h6 | h6
                · exact hret (hj_w g9 8) () _ _ _ _ d_M_record_111 (Or.inl ⟨i, k, c_2, h6, rfl, rfl, by rw [hg9]⟩) hP hK hD hS
                · exact hret (hj_w g9 8) () _ _ _ _ d_M_record_111 (Or.inr ⟨fun ⟨_, q2⟩ => q2 (Or.inr (by rw [nI_clamp hk]; exact h6)), by
                    rw [← hj_w0]
                    exact hj_w_congr 8 (fun j hj => by rw [hg9]; exact if_neg (by omega))⟩) hP hK hD hS
              · refine lv_lload hx hb d_M_record_56 (lv_at hl 4 rfl) ?_
                refine lv_bipush (v := nI 8) hx hb d_M_record_58 (by decide) ?_
                refine lv_lshl hx hb d_M_record_60 rfl ?_
                refine lv_iload hx hb d_M_record_61 (lv_at hl 5 rfl) ?_
                refine lv_iload_n hx hb d_M_record_63 rfl (lv_at hl 3 rfl) ?_
                refine hj_icmp_ge (tgt := 98) hx hb (by omega) (by omega) d_M_record_64 (by decide) (fun c_6 => ?_) (fun c_6 => ?_)
                · refine lv_iconst (v := nI 0) hx hb d_M_record_98 (by decide) ?_
                  refine hj_i2l hx hb (by omega) d_M_record_99 ?_
                  refine lv_lor hx hb d_M_record_100 ?_
                  refine hj_topl (y := hj_w g9 (t + 1)) (by show _ = (hj_w g9 t <<< ((nI 8).toInt64 &&& 63)) ||| lN (g9 t); rw [show g9 t = 0 by rw [hg9]; exact if_neg (by omega)]) ?_
                  refine lv_lstore (lv' := [(4, .long (hj_w g9 (t + 1))), (0, .ref m0), (1, .int (nI i)), (2, .int (nI k)), (3, .int (nI (hj_rl d h (hj_pos d h i)))), (6, .int (nI (8 * k + t)))]) hx hb d_M_record_101 hl (by decide) rfl (fun ls hl => ?_)
                  refine lv_iinc (v := nI ((8 * k + t) + 1)) (lv' := [(6, .int (nI ((8 * k + t) + 1))), (4, .long (hj_w g9 (t + 1))), (0, .ref m0), (1, .int (nI i)), (2, .int (nI k)), (3, .int (nI (hj_rl d h (hj_pos d h i))))]) hx hb d_M_record_103 hl (k := 5) rfl (nI_1 _) (by decide) rfl (fun ls hl => ?_)
                  refine lv_goto (tgt := 44) hx hb d_M_record_106 (by decide) ?_
                  exact ih_lp (t + 1) (by omega) (by omega) _ _ hP hD hS _ (lv_sub hl [2, 3, 4, 5, 1, 0] rfl)
                · have hdb := hd (hj_hb h + hj_pos d h i + 2 + (8 * k + t))
                  refine lv_aload_n hx hb d_M_record_67 rfl (lv_at hl 0 rfl) ?_
                  refine va_get (D := (dC, dI)) (ci := 3) (v := .ref da) (C := "HalfJournalModel") (T := F_M) (N := 15) hx hb hts i_M hown hK hP 0 rfl rfl 1 (by decide) (hts _ m_646) (fun _ h9 => h9) rfl d_M_record_68 ?_
                  refine lv_aload_n hx hb d_M_record_71 rfl (lv_at hl 0 rfl) ?_
                  refine va_get (D := (dC, dI)) (ci := 3) (v := .int (nI h)) (C := "HalfJournalModel") (T := F_M) (N := 15) hx hb hts i_M hown hK hP 0 rfl rfl 4 (by decide) (hts _ m_649) (fun _ h9 => h9) rfl d_M_record_72 ?_
                  refine hj_calli (wc := []) (wr := [(m0, .inr (3, [.int (nI 0), .ref da, .int (nI st), .int (nI g), .int (nI h), .int (nI us), .int (nI n), .ref ba, .ref ka, .ref ta, .int (nI tl), .int du, .int wr, .ref na, .ref ea])), (da, .inl (cD, 32768, .inl (hj_B d))), (ba, .inl (cB, 2000, .inl fb))]) [] [0, 1, 2] hP hD hS hA rfl rfl rfl (by decide) (va_runS (As := [.int (nI h)]) (rest := [.ref da, .long ((hj_w g9 t) <<< ((nI 8).toInt64 &&& 63))]) ⟨hx, hb, hml, hown, hts⟩ (c_M_begin l dC dI h hh H.size) (cwS 1 hts (hj_gS m_726 m_727 m_4 m_728) rfl rfl rfl (by decide +kernel) ⟨Nat.le_of_ble_eq_true rfl, Nat.le_of_ble_eq_true rfl⟩) (hj_preS hj_E0ok hE hP hD hK hS hA [] rfl rfl [] rfl) rfl rfl hl.1 rfl (lv_room (Nat.le_of_ble_eq_true rfl)) d_M_record_75 ⟨Nat.le_of_ble_eq_true rfl, Nat.le_of_ble_eq_true rfl⟩) (fun r_3 u_4 H locs hw hP hD hK1 hS => ?_)
                  subst hw
                  have hP : va_P (dC, dI) vwCl [(m0, .inr (3, [.int (nI 0), .ref da, .int (nI st), .int (nI g), .int (nI h), .int (nI us), .int (nI n), .ref ba, .ref ka, .ref ta, .int (nI tl), .int du, .int wr, .ref na, .ref ea])), (da, .inl (cD, 32768, .inl (hj_B d))), (ba, .inl (cB, 2000, .inl fb))] H := hP.sub [0, 1, 2] rfl
                  have hD : va_D A [(m0, .inr (3, [.int (nI 0), .ref da, .int (nI st), .int (nI g), .int (nI h), .int (nI us), .int (nI n), .ref ba, .ref ka, .ref ta, .int (nI tl), .int du, .int wr, .ref na, .ref ea])), (da, .inl (cD, 32768, .inl (hj_B d))), (ba, .inl (cB, 2000, .inl fb))] := hD.sub [0, 1, 2] (by decide) rfl
                  refine lv_aload_n hx hb d_M_record_78 rfl (lv_at hl 0 rfl) ?_
                  refine va_get (D := (dC, dI)) (ci := 3) (v := .ref ba) (C := "HalfJournalModel") (T := F_M) (N := 15) hx hb hts i_M hown hK hP 0 rfl rfl 7 (by decide) (hts _ m_652) (fun _ h9 => h9) rfl d_M_record_79 ?_
                  refine lv_iload_n hx hb d_M_record_82 rfl (lv_at hl 1 rfl) ?_
                  refine hj_iald (v := fb i) hx hb hK hP 2 1 rfl rfl (by omega) (by decide) rfl d_M_record_83 ?_
                  refine hj_topv (y := nI (hj_pos d h i)) (hs i c_2) ?_
                  refine hj_iadd hx hb d_M_record_84 ?_
                  refine lv_iconst (v := nI 2) hx hb d_M_record_85 (by decide) ?_
                  refine hj_iadd hx hb d_M_record_86 ?_
                  refine lv_iload hx hb d_M_record_87 (lv_at hl 5 rfl) ?_
                  refine hj_iadd hx hb d_M_record_89 ?_
                  refine hj_bald hx hb hK hP 1 0 rfl rfl (by omega) (by decide) d_M_record_90 ?_
                  refine lv_sipush (v := nI 255) hx hb d_M_record_91 (by decide) ?_
                  refine hj_band hx hb (by first | assumption | exact hd _ | omega) d_M_record_94 ?_
                  refine lv_goto (tgt := 99) hx hb d_M_record_95 (by decide) ?_
                  refine hj_i2l hx hb (by omega) d_M_record_99 ?_
                  refine lv_lor hx hb d_M_record_100 ?_
                  refine hj_topl (y := hj_w g9 (t + 1)) (by show _ = (hj_w g9 t <<< ((nI 8).toInt64 &&& 63)) ||| lN (g9 t); rw [show g9 t = d (hj_hb h + hj_pos d h i + 2 + (8 * k + t)) by rw [hg9]; exact if_pos (by omega)]) ?_
                  refine lv_lstore (lv' := [(4, .long (hj_w g9 (t + 1))), (0, .ref m0), (1, .int (nI i)), (2, .int (nI k)), (3, .int (nI (hj_rl d h (hj_pos d h i)))), (6, .int (nI (8 * k + t)))]) hx hb d_M_record_101 hl (by decide) rfl (fun ls hl => ?_)
                  refine lv_iinc (v := nI ((8 * k + t) + 1)) (lv' := [(6, .int (nI ((8 * k + t) + 1))), (4, .long (hj_w g9 (t + 1))), (0, .ref m0), (1, .int (nI i)), (2, .int (nI k)), (3, .int (nI (hj_rl d h (hj_pos d h i))))]) hx hb d_M_record_103 hl (k := 5) rfl (nI_1 _) (by decide) rfl (fun ls hl => ?_)
                  refine lv_goto (tgt := 44) hx hb d_M_record_106 (by decide) ?_
                  exact ih_lp (t + 1) (by omega) (by omega) _ _ hP hD hS _ (lv_sub hl [2, 3, 4, 5, 1, 0] rfl)
          exact lp _ 0 (by omega) (Nat.lt_succ_self _) _ _ hP hD hS _ (lv_sub hl [3, 4, 5, 2, 1, 0] rfl)
        · refine lv_lconst (v := lN 0) hx hb d_M_record_27 (by decide) ?_
          exact hret (lN 0) () _ _ _ _ d_M_record_28 (Or.inr ⟨fun ⟨q1, q2⟩ => q2 (Or.inr (by rw [nI_clamp hk]; omega)), rfl⟩) hP hK hD hS
abbrev rm_M_block : Room := { frames := 8, cells := 0, slots := 0, locals := 100 }
set_option maxHeartbeats 4000000 in
set_option maxRecDepth 100000 in
theorem c_M_block (l : Launch) (dC : Nat → ClassId) (dI : Nat → Nat → Nat) (m0 da ba ka ta na ea : Nat) (th : Int32) (st g h us n tl : Nat) (du wr : Int32) (cD : ClassId) (d : Nat → Nat) (x y : Int32) (hd : hj_bs d) : hj_Ml l y_M_block b_M_block 6 rm_M_block hj_E0 (dC, dI) vwCl [(cD, .byte)] [(m0, .inr (3, [.int th, .ref da, .int (nI st), .int (nI g), .int (nI h), .int (nI us), .int (nI n), .ref ba, .ref ka, .ref ta, .int (nI tl), .int du, .int wr, .ref na, .ref ea])), (da, .inl (cD, 32768, .inl (hj_B d)))] [.ref m0, .int x, .int y] (fun r _ => hj_blkr d x y r) (fun _ : Unit => [(m0, .inr (3, [.int (nI 0), .ref da, .int (nI st), .int (nI g), .int (nI h), .int (nI us), .int (nI n), .ref ba, .ref ka, .ref ta, .int (nI tl), .int du, .int wr, .ref na, .ref ea])), (da, .inl (cD, 32768, .inl (hj_B d)))]) (fun _ => [(cD, .byte)]) 0 0 := by
  refine hj_bodyL (by decide +kernel) (Nat.le_of_ble_eq_true rfl) ?_
  intro p e s m args below meth c A Q ls hx hb hts hown hml hA hP hK hD hE hl hret
  have hS : va_S A s.heap s.heap [] := va_S.rf
  have hown : s.vm.findClass "HalfJournalModel" = some m.cls := hown
  have hl : lv_has ls 6 [(0, .ref m0), (1, .int x), (2, .int y)] := hl
  have hP : va_P (dC, dI) vwCl [(m0, .inr (3, [.int th, .ref da, .int (nI st), .int (nI g), .int (nI h), .int (nI us), .int (nI n), .ref ba, .ref ka, .ref ta, .int (nI tl), .int du, .int wr, .ref na, .ref ea])), (da, .inl (cD, 32768, .inl (hj_B d)))] s.heap := hP
  have hD : va_D A [(m0, .inr (3, [.int th, .ref da, .int (nI st), .int (nI g), .int (nI h), .int (nI us), .int (nI n), .ref ba, .ref ka, .ref ta, .int (nI tl), .int du, .int wr, .ref na, .ref ea])), (da, .inl (cD, 32768, .inl (hj_B d)))] := hD
  refine lv_aload_n hx hb d_M_block_0 rfl (lv_at hl 0 rfl) ?_
  refine lv_iconst (v := nI 0) hx hb d_M_block_1 (by decide) ?_
  refine va_put (D := (dC, dI)) (ci := 3) (v := .int (nI 0)) (ty := (.int)) (C := "HalfJournalModel") (T := F_M) (N := 15) hx hb hts i_M t_M t_M_ok n_M hown hK hP hD hS 0 rfl rfl 0 (by decide) (hts _ m_645) (fun _ h9 => h9) rfl (by decide +kernel) rfl rfl (Nat.le_of_ble_eq_true rfl) d_M_block_2 (fun H locs hP hD hS => ?_)
  have hP : va_P (dC, dI) vwCl [(m0, .inr (3, [.int (nI 0), .ref da, .int (nI st), .int (nI g), .int (nI h), .int (nI us), .int (nI n), .ref ba, .ref ka, .ref ta, .int (nI tl), .int du, .int wr, .ref na, .ref ea])), (da, .inl (cD, 32768, .inl (hj_B d)))] H := hP
  have hD : va_D A [(m0, .inr (3, [.int (nI 0), .ref da, .int (nI st), .int (nI g), .int (nI h), .int (nI us), .int (nI n), .ref ba, .ref ka, .ref ta, .int (nI tl), .int du, .int wr, .ref na, .ref ea])), (da, .inl (cD, 32768, .inl (hj_B d)))] := hD
  refine lv_iload_n hx hb d_M_block_5 rfl (lv_at hl 1 rfl) ?_
  refine lv_if_lt (tgt := 25) hx hb d_M_block_6 (by decide) (fun c_1 => ?_) (fun c_1 => ?_)
  · refine lv_lconst (v := lN 0) hx hb d_M_block_25 (by decide) ?_
    exact hret (lN 0) () _ _ _ _ d_M_block_26 (Or.inr ⟨fun ⟨q1, q2⟩ => q1 (Or.inl c_1), rfl⟩) hP hK hD hS
  · obtain ⟨b, hb9, rfl⟩ := nI_of c_1
    refine lv_iload_n hx hb d_M_block_9 rfl (lv_at hl 1 rfl) ?_
    refine lv_bipush (v := nI 63) hx hb d_M_block_10 (by decide) ?_
    refine hj_icmp_gt (tgt := 25) hx hb (by omega) (by omega) d_M_block_12 (by decide) (fun c_2 => ?_) (fun c_2 => ?_)
    · refine lv_lconst (v := lN 0) hx hb d_M_block_25 (by decide) ?_
      exact hret (lN 0) () _ _ _ _ d_M_block_26 (Or.inr ⟨fun ⟨q1, q2⟩ => q1 (Or.inr (by rw [nI_clamp hb9]; omega)), rfl⟩) hP hK hD hS
    · refine lv_iload_n hx hb d_M_block_15 rfl (lv_at hl 2 rfl) ?_
      refine lv_if_lt (tgt := 25) hx hb d_M_block_16 (by decide) (fun c_3 => ?_) (fun c_3 => ?_)
      · refine lv_lconst (v := lN 0) hx hb d_M_block_25 (by decide) ?_
        exact hret (lN 0) () _ _ _ _ d_M_block_26 (Or.inr ⟨fun ⟨q1, q2⟩ => q2 (Or.inl c_3), rfl⟩) hP hK hD hS
      · obtain ⟨k, hk, rfl⟩ := nI_of c_3
        refine lv_iload_n hx hb d_M_block_19 rfl (lv_at hl 2 rfl) ?_
        refine lv_bipush (v := nI 63) hx hb d_M_block_20 (by decide) ?_
        refine hj_icmp_le (tgt := 27) hx hb (by omega) (by omega) d_M_block_22 (by decide) (fun c_4 => ?_) (fun c_4 => ?_)
        · refine lv_lconst (v := lN 0) hx hb d_M_block_27 (by decide) ?_
          refine hj_topl (y := hj_w (fun j => d (512 * b + 8 * k + j)) 0) (rfl) ?_
          refine lv_lstore_n (lv' := [(3, .long (hj_w (fun j => d (512 * b + 8 * k + j)) 0)), (0, .ref m0), (1, .int (nI b)), (2, .int (nI k))]) hx hb d_M_block_28 rfl hl (by decide) rfl (fun ls hl => ?_)
          refine lv_iconst (v := nI 0) hx hb d_M_block_29 (by decide) ?_
          refine lv_istore (lv' := [(5, .int (nI 0)), (3, .long (hj_w (fun j => d (512 * b + 8 * k + j)) 0)), (0, .ref m0), (1, .int (nI b)), (2, .int (nI k))]) hx hb d_M_block_30 hl (by decide) rfl (fun ls hl => ?_)
          have lp : ∀ (n9_lp : Nat) (t : Nat), (t ≤ 8) → (8 - t) < n9_lp → ∀ (H : Heap) (locs : List Loc), va_P (dC, dI) vwCl [(m0, .inr (3, [.int (nI 0), .ref da, .int (nI st), .int (nI g), .int (nI h), .int (nI us), .int (nI n), .ref ba, .ref ka, .ref ta, .int (nI tl), .int du, .int wr, .ref na, .ref ea])), (da, .inl (cD, 32768, .inl (hj_B d)))] H → va_D A [(m0, .inr (3, [.int (nI 0), .ref da, .int (nI st), .int (nI g), .int (nI h), .int (nI us), .int (nI n), .ref ba, .ref ka, .ref ta, .int (nI tl), .int du, .int wr, .ref na, .ref ea])), (da, .inl (cD, 32768, .inl (hj_B d)))] → va_S A s.heap H locs → ∀ (ls : Array Slot), lv_has ls 6 [(0, .ref m0), (1, .int (nI b)), (2, .int (nI k)), (3, .long (hj_w (fun j => d (512 * b + 8 * k + j)) t)), (5, .int (nI t))] → W p l e rm_M_block s m args below meth c H locs 0 0 Q (F0 m 32 ls []) := by
            intro n9_lp
            induction n9_lp with
            | zero =>
              intro t ht hm_lp
              exact absurd hm_lp (Nat.not_lt_zero _)
            | succ n9_lp ih_lp =>
              intro t ht hm_lp H locs hP hD hS ls hl
              refine lv_iload hx hb d_M_block_32 (lv_at hl 4 rfl) ?_
              refine lv_bipush (v := nI 8) hx hb d_M_block_34 (by decide) ?_
              refine hj_icmp_ge (tgt := 74) hx hb (by omega) (by omega) d_M_block_36 (by decide) (fun c_5 => ?_) (fun c_5 => ?_)
              · obtain rfl : t = 8 := by omega
                refine lv_lload_n hx hb d_M_block_74 rfl (lv_at hl 3 rfl) ?_
                exact hret (hj_w (fun j => d (512 * b + 8 * k + j)) 8) () _ _ _ _ d_M_block_75 (Or.inl ⟨b, k, by omega, by omega, rfl, rfl, rfl⟩) hP hK hD hS
              · have hdb := hd (512 * b + 8 * k + t)
                refine lv_lload_n hx hb d_M_block_39 rfl (lv_at hl 3 rfl) ?_
                refine lv_bipush (v := nI 8) hx hb d_M_block_40 (by decide) ?_
                refine lv_lshl hx hb d_M_block_42 rfl ?_
                refine lv_aload_n hx hb d_M_block_43 rfl (lv_at hl 0 rfl) ?_
                refine va_get (D := (dC, dI)) (ci := 3) (v := .ref da) (C := "HalfJournalModel") (T := F_M) (N := 15) hx hb hts i_M hown hK hP 0 rfl rfl 1 (by decide) (hts _ m_646) (fun _ h9 => h9) rfl d_M_block_44 ?_
                refine lv_sipush (v := nI 512) hx hb d_M_block_47 (by decide) ?_
                refine lv_iload_n hx hb d_M_block_50 rfl (lv_at hl 1 rfl) ?_
                refine hj_imul hx hb d_M_block_51 ?_
                refine lv_bipush (v := nI 8) hx hb d_M_block_52 (by decide) ?_
                refine lv_iload_n hx hb d_M_block_54 rfl (lv_at hl 2 rfl) ?_
                refine hj_imul hx hb d_M_block_55 ?_
                refine hj_iadd hx hb d_M_block_56 ?_
                refine lv_iload hx hb d_M_block_57 (lv_at hl 4 rfl) ?_
                refine hj_iadd hx hb d_M_block_59 ?_
                refine hj_bald hx hb hK hP 1 0 rfl rfl (by omega) (by decide) d_M_block_60 ?_
                refine lv_sipush (v := nI 255) hx hb d_M_block_61 (by decide) ?_
                refine hj_band hx hb (by first | assumption | exact hd _ | omega) d_M_block_64 ?_
                refine hj_i2l hx hb (by omega) d_M_block_65 ?_
                refine lv_lor hx hb d_M_block_66 ?_
                refine hj_topl (y := hj_w (fun j => d (512 * b + 8 * k + j)) (t + 1)) (rfl) ?_
                refine lv_lstore_n (lv' := [(3, .long (hj_w (fun j => d (512 * b + 8 * k + j)) (t + 1))), (0, .ref m0), (1, .int (nI b)), (2, .int (nI k)), (5, .int (nI t))]) hx hb d_M_block_67 rfl hl (by decide) rfl (fun ls hl => ?_)
                refine lv_iinc (v := nI (t + 1)) (lv' := [(5, .int (nI (t + 1))), (3, .long (hj_w (fun j => d (512 * b + 8 * k + j)) (t + 1))), (0, .ref m0), (1, .int (nI b)), (2, .int (nI k))]) hx hb d_M_block_68 hl (k := 4) rfl (nI_1 _) (by decide) rfl (fun ls hl => ?_)
                refine lv_goto (tgt := 32) hx hb d_M_block_71 (by decide) ?_
                exact ih_lp (t + 1) (by omega) (by omega) _ _ hP hD hS _ (lv_sub hl [2, 3, 4, 1, 0] rfl)
          exact lp _ 0 (by omega) (Nat.lt_succ_self _) _ _ hP hD hS _ (lv_sub hl [2, 3, 4, 1, 0] rfl)
        · refine lv_lconst (v := lN 0) hx hb d_M_block_25 (by decide) ?_
          exact hret (lN 0) () _ _ _ _ d_M_block_26 (Or.inr ⟨fun ⟨q1, q2⟩ => q2 (Or.inr (by rw [nI_clamp hk]; omega)), rfl⟩) hP hK hD hS
abbrev rm_M_look : Room := { frames := 8, cells := 0, slots := 0, locals := 100 }
set_option maxHeartbeats 4000000 in
set_option maxRecDepth 100000 in
theorem c_M_look (l : Launch) (dC : Nat → ClassId) (dI : Nat → Nat → Nat) (m0 da ba ka ta na ea : Nat) (th : Int32) (st g h us n tl : Nat) (du wr : Int32) (cK : ClassId) (fk : Nat → Int32) (mk : Nat → Nat) (x : Int32) (hn : n ≤ 1984) (hk : ∀ i, i < n → fk i = nI (mk i)) (hm2 : ∀ i, mk i < 2) : hj_Mi l y_M_look b_M_look 4 .int rm_M_look hj_E0 (dC, dI) vwCl [(cK, .boolean)] [(m0, .inr (3, [.int th, .ref da, .int (nI st), .int (nI g), .int (nI h), .int (nI us), .int (nI n), .ref ba, .ref ka, .ref ta, .int (nI tl), .int du, .int wr, .ref na, .ref ea])), (ka, .inl (cK, 2000, .inl fk))] [.ref m0, .int x] (fun r _ => r = hj_look n us g h st wr tl du (hj_ms mk n) x) (fun _ : Unit => [(m0, .inr (3, [.int (nI 0), .ref da, .int (nI st), .int (nI g), .int (nI h), .int (nI us), .int (nI n), .ref ba, .ref ka, .ref ta, .int (nI tl), .int du, .int wr, .ref na, .ref ea])), (ka, .inl (cK, 2000, .inl fk))]) (fun _ => [(cK, .boolean)]) 0 0 := by
  refine hj_bodyI (by decide +kernel) (Nat.le_of_ble_eq_true rfl) ?_
  intro p e s m args below meth c A Q ls hx hb hts hown hml hA hP hK hD hE hl hret
  have hS : va_S A s.heap s.heap [] := va_S.rf
  have hown : s.vm.findClass "HalfJournalModel" = some m.cls := hown
  have hl : lv_has ls 4 [(0, .ref m0), (1, .int x)] := hl
  have hP : va_P (dC, dI) vwCl [(m0, .inr (3, [.int th, .ref da, .int (nI st), .int (nI g), .int (nI h), .int (nI us), .int (nI n), .ref ba, .ref ka, .ref ta, .int (nI tl), .int du, .int wr, .ref na, .ref ea])), (ka, .inl (cK, 2000, .inl fk))] s.heap := hP
  have hD : va_D A [(m0, .inr (3, [.int th, .ref da, .int (nI st), .int (nI g), .int (nI h), .int (nI us), .int (nI n), .ref ba, .ref ka, .ref ta, .int (nI tl), .int du, .int wr, .ref na, .ref ea])), (ka, .inl (cK, 2000, .inl fk))] := hD
  refine lv_aload_n hx hb d_M_look_0 rfl (lv_at hl 0 rfl) ?_
  refine lv_iconst (v := nI 0) hx hb d_M_look_1 (by decide) ?_
  refine va_put (D := (dC, dI)) (ci := 3) (v := .int (nI 0)) (ty := (.int)) (C := "HalfJournalModel") (T := F_M) (N := 15) hx hb hts i_M t_M t_M_ok n_M hown hK hP hD hS 0 rfl rfl 0 (by decide) (hts _ m_645) (fun _ h9 => h9) rfl (by decide +kernel) rfl rfl (Nat.le_of_ble_eq_true rfl) d_M_look_2 (fun H locs hP hD hS => ?_)
  have hP : va_P (dC, dI) vwCl [(m0, .inr (3, [.int (nI 0), .ref da, .int (nI st), .int (nI g), .int (nI h), .int (nI us), .int (nI n), .ref ba, .ref ka, .ref ta, .int (nI tl), .int du, .int wr, .ref na, .ref ea])), (ka, .inl (cK, 2000, .inl fk))] H := hP
  have hD : va_D A [(m0, .inr (3, [.int (nI 0), .ref da, .int (nI st), .int (nI g), .int (nI h), .int (nI us), .int (nI n), .ref ba, .ref ka, .ref ta, .int (nI tl), .int du, .int wr, .ref na, .ref ea])), (ka, .inl (cK, 2000, .inl fk))] := hD
  refine lv_iconst (v := nI 0) hx hb d_M_look_5 (by decide) ?_
  refine hj_topn (b := hj_ms mk 0) (rfl) ?_
  refine lv_istore_n (lv' := [(2, .int (nI (hj_ms mk 0))), (0, .ref m0), (1, .int x)]) hx hb d_M_look_6 rfl hl (by decide) rfl (fun ls hl => ?_)
  refine lv_iconst (v := nI 0) hx hb d_M_look_7 (by decide) ?_
  refine lv_istore_n (lv' := [(3, .int (nI 0)), (2, .int (nI (hj_ms mk 0))), (0, .ref m0), (1, .int x)]) hx hb d_M_look_8 rfl hl (by decide) rfl (fun ls hl => ?_)
  have lp : ∀ (n9_lp : Nat) (i : Nat), (i ≤ n) → (n - i) < n9_lp → ∀ (H : Heap) (locs : List Loc), va_P (dC, dI) vwCl [(m0, .inr (3, [.int (nI 0), .ref da, .int (nI st), .int (nI g), .int (nI h), .int (nI us), .int (nI n), .ref ba, .ref ka, .ref ta, .int (nI tl), .int du, .int wr, .ref na, .ref ea])), (ka, .inl (cK, 2000, .inl fk))] H → va_D A [(m0, .inr (3, [.int (nI 0), .ref da, .int (nI st), .int (nI g), .int (nI h), .int (nI us), .int (nI n), .ref ba, .ref ka, .ref ta, .int (nI tl), .int du, .int wr, .ref na, .ref ea])), (ka, .inl (cK, 2000, .inl fk))] → va_S A s.heap H locs → ∀ (ls : Array Slot), lv_has ls 4 [(0, .ref m0), (1, .int x), (2, .int (nI (hj_ms mk i))), (3, .int (nI i))] → W p l e rm_M_look s m args below meth c H locs 0 0 Q (F0 m 9 ls []) := by
    intro n9_lp
    induction n9_lp with
    | zero =>
      intro i hi hm_lp
      exact absurd hm_lp (Nat.not_lt_zero _)
    | succ n9_lp ih_lp =>
      intro i hi hm_lp H locs hP hD hS ls hl
      refine lv_iload_n hx hb d_M_look_9 rfl (lv_at hl 3 rfl) ?_
      refine lv_aload_n hx hb d_M_look_10 rfl (lv_at hl 0 rfl) ?_
      refine va_get (D := (dC, dI)) (ci := 3) (v := .int (nI n)) (C := "HalfJournalModel") (T := F_M) (N := 15) hx hb hts i_M hown hK hP 0 rfl rfl 6 (by decide) (hts _ m_651) (fun _ h9 => h9) rfl d_M_look_11 ?_
      refine hj_icmp_ge (tgt := 40) hx hb (by omega) (by omega) d_M_look_14 (by decide) (fun c_1 => ?_) (fun c_1 => ?_)
      · obtain rfl : i = n := by omega
        refine lv_iload_n hx hb d_M_look_40 rfl (lv_at hl 1 rfl) ?_
        by_cases h0 : ∃ i, i < 9 ∧ x = nI i
        · obtain ⟨y, hy, rfl⟩ := h0
          rcases (show y = 0 ∨ y = 1 ∨ y = 2 ∨ y = 3 ∨ y = 4 ∨ y = 5 ∨ y = 6 ∨ y = 7 ∨ y = 8 by omega) with rfl | rfl | rfl | rfl | rfl | rfl | rfl | rfl | rfl
          · refine lv_tableIn (off := 51) (tgt := 92) hx hb d_M_look_41 (by decide) (by decide) (by decide) (by decide) ?_
            refine lv_aload_n hx hb d_M_look_92 rfl (lv_at hl 0 rfl) ?_
            refine va_get (D := (dC, dI)) (ci := 3) (v := .int (nI i)) (C := "HalfJournalModel") (T := F_M) (N := 15) hx hb hts i_M hown hK hP 0 rfl rfl 6 (by decide) (hts _ m_651) (fun _ h9 => h9) rfl d_M_look_93 ?_
            exact hret (nI i) () _ _ _ _ d_M_look_96 rfl (rfl) hP hK hD hS
          · refine lv_tableIn (off := 56) (tgt := 97) hx hb d_M_look_41 (by decide) (by decide) (by decide) (by decide) ?_
            refine lv_aload_n hx hb d_M_look_97 rfl (lv_at hl 0 rfl) ?_
            refine va_get (D := (dC, dI)) (ci := 3) (v := .int (nI us)) (C := "HalfJournalModel") (T := F_M) (N := 15) hx hb hts i_M hown hK hP 0 rfl rfl 5 (by decide) (hts _ m_650) (fun _ h9 => h9) rfl d_M_look_98 ?_
            exact hret (nI us) () _ _ _ _ d_M_look_101 rfl (rfl) hP hK hD hS
          · refine lv_tableIn (off := 61) (tgt := 102) hx hb d_M_look_41 (by decide) (by decide) (by decide) (by decide) ?_
            refine lv_aload_n hx hb d_M_look_102 rfl (lv_at hl 0 rfl) ?_
            refine va_get (D := (dC, dI)) (ci := 3) (v := .int (nI g)) (C := "HalfJournalModel") (T := F_M) (N := 15) hx hb hts i_M hown hK hP 0 rfl rfl 3 (by decide) (hts _ m_648) (fun _ h9 => h9) rfl d_M_look_103 ?_
            exact hret (nI g) () _ _ _ _ d_M_look_106 rfl (rfl) hP hK hD hS
          · refine lv_tableIn (off := 66) (tgt := 107) hx hb d_M_look_41 (by decide) (by decide) (by decide) (by decide) ?_
            refine lv_aload_n hx hb d_M_look_107 rfl (lv_at hl 0 rfl) ?_
            refine va_get (D := (dC, dI)) (ci := 3) (v := .int (nI h)) (C := "HalfJournalModel") (T := F_M) (N := 15) hx hb hts i_M hown hK hP 0 rfl rfl 4 (by decide) (hts _ m_649) (fun _ h9 => h9) rfl d_M_look_108 ?_
            exact hret (nI h) () _ _ _ _ d_M_look_111 rfl (rfl) hP hK hD hS
          · refine lv_tableIn (off := 71) (tgt := 112) hx hb d_M_look_41 (by decide) (by decide) (by decide) (by decide) ?_
            refine lv_aload_n hx hb d_M_look_112 rfl (lv_at hl 0 rfl) ?_
            refine va_get (D := (dC, dI)) (ci := 3) (v := .int (nI st)) (C := "HalfJournalModel") (T := F_M) (N := 15) hx hb hts i_M hown hK hP 0 rfl rfl 2 (by decide) (hts _ m_647) (fun _ h9 => h9) rfl d_M_look_113 ?_
            exact hret (nI st) () _ _ _ _ d_M_look_116 rfl (rfl) hP hK hD hS
          · refine lv_tableIn (off := 76) (tgt := 117) hx hb d_M_look_41 (by decide) (by decide) (by decide) (by decide) ?_
            refine lv_aload_n hx hb d_M_look_117 rfl (lv_at hl 0 rfl) ?_
            refine va_get (D := (dC, dI)) (ci := 3) (v := .int wr) (C := "HalfJournalModel") (T := F_M) (N := 15) hx hb hts i_M hown hK hP 0 rfl rfl 12 (by decide) (hts _ m_657) (fun _ h9 => h9) rfl d_M_look_118 ?_
            exact hret wr () _ _ _ _ d_M_look_121 rfl (rfl) hP hK hD hS
          · refine lv_tableIn (off := 81) (tgt := 122) hx hb d_M_look_41 (by decide) (by decide) (by decide) (by decide) ?_
            refine lv_aload_n hx hb d_M_look_122 rfl (lv_at hl 0 rfl) ?_
            refine va_get (D := (dC, dI)) (ci := 3) (v := .int (nI tl)) (C := "HalfJournalModel") (T := F_M) (N := 15) hx hb hts i_M hown hK hP 0 rfl rfl 10 (by decide) (hts _ m_655) (fun _ h9 => h9) rfl d_M_look_123 ?_
            exact hret (nI tl) () _ _ _ _ d_M_look_126 rfl (rfl) hP hK hD hS
          · refine lv_tableIn (off := 86) (tgt := 127) hx hb d_M_look_41 (by decide) (by decide) (by decide) (by decide) ?_
            refine lv_aload_n hx hb d_M_look_127 rfl (lv_at hl 0 rfl) ?_
            refine va_get (D := (dC, dI)) (ci := 3) (v := .int du) (C := "HalfJournalModel") (T := F_M) (N := 15) hx hb hts i_M hown hK hP 0 rfl rfl 11 (by decide) (hts _ m_656) (fun _ h9 => h9) rfl d_M_look_128 ?_
            exact hret du () _ _ _ _ d_M_look_131 rfl (rfl) hP hK hD hS
          · refine lv_tableIn (off := 91) (tgt := 132) hx hb d_M_look_41 (by decide) (by decide) (by decide) (by decide) ?_
            refine lv_iload_n hx hb d_M_look_132 rfl (lv_at hl 2 rfl) ?_
            exact hret (nI (hj_ms mk i)) () _ _ _ _ d_M_look_133 rfl (rfl) hP hK hD hS
        · refine lv_tableOut (tgt := 134) hx hb d_M_look_41 (hj_out9 h0) (by decide) ?_
          refine lv_iconst (v := (-1)) hx hb d_M_look_134 (by decide) ?_
          exact hret (-1) () _ _ _ _ d_M_look_135 rfl ((hj_w_look h0).symm) hP hK hD hS
      · have hmi := hm2 i
        refine lv_iload_n hx hb d_M_look_17 rfl (lv_at hl 2 rfl) ?_
        refine lv_aload_n hx hb d_M_look_18 rfl (lv_at hl 0 rfl) ?_
        refine va_get (D := (dC, dI)) (ci := 3) (v := .ref ka) (C := "HalfJournalModel") (T := F_M) (N := 15) hx hb hts i_M hown hK hP 0 rfl rfl 8 (by decide) (hts _ m_653) (fun _ h9 => h9) rfl d_M_look_19 ?_
        refine lv_iload_n hx hb d_M_look_22 rfl (lv_at hl 3 rfl) ?_
        refine hj_zald (v := fk i) hx hb hK hP 1 0 rfl rfl (by omega) (by decide) rfl d_M_look_23 ?_
        refine hj_topv (y := nI (mk i)) (hk i c_1) ?_
        refine hj_if_eq (tgt := 31) hx hb (by omega) d_M_look_24 (by decide) (fun c_2 => ?_) (fun c_2 => ?_)
        · refine lv_iconst (v := nI 0) hx hb d_M_look_31 (by decide) ?_
          refine hj_iadd hx hb d_M_look_32 ?_
          refine hj_topn (b := hj_ms mk (i + 1)) (by show _ = hj_ms mk i + mk i; omega) ?_
          refine lv_istore_n (lv' := [(2, .int (nI (hj_ms mk (i + 1)))), (0, .ref m0), (1, .int x), (3, .int (nI i))]) hx hb d_M_look_33 rfl hl (by decide) rfl (fun ls hl => ?_)
          refine lv_iinc (v := nI (i + 1)) (lv' := [(3, .int (nI (i + 1))), (2, .int (nI (hj_ms mk (i + 1)))), (0, .ref m0), (1, .int x)]) hx hb d_M_look_34 hl (k := 3) rfl (nI_1 _) (by decide) rfl (fun ls hl => ?_)
          refine lv_goto (tgt := 9) hx hb d_M_look_37 (by decide) ?_
          exact ih_lp (i + 1) (by omega) (by omega) _ _ hP hD hS _ (lv_sub hl [2, 3, 1, 0] rfl)
        · refine lv_iconst (v := nI 1) hx hb d_M_look_27 (by decide) ?_
          refine lv_goto (tgt := 32) hx hb d_M_look_28 (by decide) ?_
          refine hj_iadd hx hb d_M_look_32 ?_
          refine hj_topn (b := hj_ms mk (i + 1)) (by show _ = hj_ms mk i + mk i; omega) ?_
          refine lv_istore_n (lv' := [(2, .int (nI (hj_ms mk (i + 1)))), (0, .ref m0), (1, .int x), (3, .int (nI i))]) hx hb d_M_look_33 rfl hl (by decide) rfl (fun ls hl => ?_)
          refine lv_iinc (v := nI (i + 1)) (lv' := [(3, .int (nI (i + 1))), (2, .int (nI (hj_ms mk (i + 1)))), (0, .ref m0), (1, .int x)]) hx hb d_M_look_34 hl (k := 3) rfl (nI_1 _) (by decide) rfl (fun ls hl => ?_)
          refine lv_goto (tgt := 9) hx hb d_M_look_37 (by decide) ?_
          exact ih_lp (i + 1) (by omega) (by omega) _ _ hP hD hS _ (lv_sub hl [2, 3, 1, 0] rfl)
  exact lp _ 0 (Nat.zero_le _) (Nat.lt_succ_self _) _ _ hP hD hS _ (lv_sub hl [2, 3, 1, 0] rfl)
abbrev rm_M_recover : Room := { frames := 32, cells := 0, slots := 0, locals := 400 }
set_option maxHeartbeats 4000000 in
set_option maxRecDepth 100000 in
theorem c_M_recover (l : Launch) (dC : Nat → ClassId) (dI : Nat → Nat → Nat) (m0 da ba ka ta na ea : Nat) (th : Int32) (st g h us n tl : Nat) (du wr : Int32) (cD : ClassId) (d : Nat → Nat) (cB : ClassId) (fb : Nat → Int32) (cK : ClassId) (fk : Nat → Int32) (hd : hj_bs d) : hj_Mi l y_M_recover b_M_recover 4 .int rm_M_recover hj_E0 (dC, dI) vwCl [(cD, .byte), (cB, .int), (cK, .boolean)] [(m0, .inr (3, [.int th, .ref da, .int (nI st), .int (nI g), .int (nI h), .int (nI us), .int (nI n), .ref ba, .ref ka, .ref ta, .int (nI tl), .int du, .int wr, .ref na, .ref ea])), (da, .inl (cD, 32768, .inl (hj_B d))), (ba, .inl (cB, 2000, .inl fb)), (ka, .inl (cK, 2000, .inl fk))] [.ref m0] (fun r ((st1, g1, h1, us1, n1, fb1, fk1) : Nat × Nat × Nat × Nat × Nat × (Nat → Int32) × (Nat → Int32)) => (∀ i, i < 2000 → fk1 i = nI 0) ∧ ((hj_hg d 0 = 0 ∧ hj_hg d 1 = 0 ∧ r = -1 ∧ st1 = 1 ∧ g1 = 0 ∧ h1 = 0 ∧ n1 = 0 ∧ us1 = 0) ∨ (∃ b, hj_rcv d b ∧ st1 = 2 ∧ g1 = hj_hg d b ∧ h1 = d (512 * b + 2) ∧ n1 = hj_N d h1 ∧ us1 = hj_pos d h1 n1 ∧ r = nI n1 ∧ (∀ i, i < hj_N d h1 → fb1 i = nI (hj_pos d h1 i))))) (fun ((st1, g1, h1, us1, n1, fb1, fk1) : Nat × Nat × Nat × Nat × Nat × (Nat → Int32) × (Nat → Int32)) => [(m0, .inr (3, [.int (nI 0), .ref da, .int (nI st1), .int (nI g1), .int (nI h1), .int (nI us1), .int (nI n1), .ref ba, .ref ka, .ref ta, .int (nI tl), .int (-1), .int wr, .ref na, .ref ea])), (da, .inl (cD, 32768, .inl (hj_B d))), (ba, .inl (cB, 2000, .inl fb1)), (ka, .inl (cK, 2000, .inl fk1))]) (fun _ => [(cD, .byte), (cB, .int), (cK, .boolean)]) 0 0 := by
  refine hj_bodyI (by decide +kernel) (Nat.le_of_ble_eq_true rfl) ?_
  intro p e s m args below meth c A Q ls hx hb hts hown hml hA hP hK hD hE hl hret
  have hS : va_S A s.heap s.heap [] := va_S.rf
  have hown : s.vm.findClass "HalfJournalModel" = some m.cls := hown
  have hl : lv_has ls 4 [(0, .ref m0)] := hl
  have hP : va_P (dC, dI) vwCl [(m0, .inr (3, [.int th, .ref da, .int (nI st), .int (nI g), .int (nI h), .int (nI us), .int (nI n), .ref ba, .ref ka, .ref ta, .int (nI tl), .int du, .int wr, .ref na, .ref ea])), (da, .inl (cD, 32768, .inl (hj_B d))), (ba, .inl (cB, 2000, .inl fb)), (ka, .inl (cK, 2000, .inl fk))] s.heap := hP
  have hD : va_D A [(m0, .inr (3, [.int th, .ref da, .int (nI st), .int (nI g), .int (nI h), .int (nI us), .int (nI n), .ref ba, .ref ka, .ref ta, .int (nI tl), .int du, .int wr, .ref na, .ref ea])), (da, .inl (cD, 32768, .inl (hj_B d))), (ba, .inl (cB, 2000, .inl fb)), (ka, .inl (cK, 2000, .inl fk))] := hD
  refine lv_aload_n hx hb d_M_recover_0 rfl (lv_at hl 0 rfl) ?_
  refine lv_iconst (v := nI 0) hx hb d_M_recover_1 (by decide) ?_
  refine va_put (D := (dC, dI)) (ci := 3) (v := .int (nI 0)) (ty := (.int)) (C := "HalfJournalModel") (T := F_M) (N := 15) hx hb hts i_M t_M t_M_ok n_M hown hK hP hD hS 0 rfl rfl 0 (by decide) (hts _ m_645) (fun _ h9 => h9) rfl (by decide +kernel) rfl rfl (Nat.le_of_ble_eq_true rfl) d_M_recover_2 (fun H locs hP hD hS => ?_)
  have hP : va_P (dC, dI) vwCl [(m0, .inr (3, [.int (nI 0), .ref da, .int (nI st), .int (nI g), .int (nI h), .int (nI us), .int (nI n), .ref ba, .ref ka, .ref ta, .int (nI tl), .int du, .int wr, .ref na, .ref ea])), (da, .inl (cD, 32768, .inl (hj_B d))), (ba, .inl (cB, 2000, .inl fb)), (ka, .inl (cK, 2000, .inl fk))] H := hP
  have hD : va_D A [(m0, .inr (3, [.int (nI 0), .ref da, .int (nI st), .int (nI g), .int (nI h), .int (nI us), .int (nI n), .ref ba, .ref ka, .ref ta, .int (nI tl), .int du, .int wr, .ref na, .ref ea])), (da, .inl (cD, 32768, .inl (hj_B d))), (ba, .inl (cB, 2000, .inl fb)), (ka, .inl (cK, 2000, .inl fk))] := hD
  refine lv_aload_n hx hb d_M_recover_5 rfl (lv_at hl 0 rfl) ?_
  refine lv_iconst (v := (-1)) hx hb d_M_recover_6 (by decide) ?_
  refine va_put (D := (dC, dI)) (ci := 3) (v := .int (-1)) (ty := (.int)) (C := "HalfJournalModel") (T := F_M) (N := 15) hx hb hts i_M t_M t_M_ok n_M hown hK hP hD hS 0 rfl rfl 11 (by decide) (hts _ m_656) (fun _ h9 => h9) rfl (by decide +kernel) rfl rfl (Nat.le_of_ble_eq_true rfl) d_M_recover_7 (fun H locs hP hD hS => ?_)
  have hP : va_P (dC, dI) vwCl [(m0, .inr (3, [.int (nI 0), .ref da, .int (nI st), .int (nI g), .int (nI h), .int (nI us), .int (nI n), .ref ba, .ref ka, .ref ta, .int (nI tl), .int (-1), .int wr, .ref na, .ref ea])), (da, .inl (cD, 32768, .inl (hj_B d))), (ba, .inl (cB, 2000, .inl fb)), (ka, .inl (cK, 2000, .inl fk))] H := hP
  have hD : va_D A [(m0, .inr (3, [.int (nI 0), .ref da, .int (nI st), .int (nI g), .int (nI h), .int (nI us), .int (nI n), .ref ba, .ref ka, .ref ta, .int (nI tl), .int (-1), .int wr, .ref na, .ref ea])), (da, .inl (cD, 32768, .inl (hj_B d))), (ba, .inl (cB, 2000, .inl fb)), (ka, .inl (cK, 2000, .inl fk))] := hD
  refine lv_aload_n hx hb d_M_recover_10 rfl (lv_at hl 0 rfl) ?_
  refine hj_callv (wc := [(m0, .inr (3, [.int (nI 0), .ref da, .int (nI st), .int (nI g), .int (nI h), .int (nI us), .int (nI n), .ref ba, .ref ka, .ref ta, .int (nI tl), .int (-1), .int wr, .ref na, .ref ea])), (ka, .inl (cK, 2000, .inl fk))]) (wr := [(da, .inl (cD, 32768, .inl (hj_B d))), (ba, .inl (cB, 2000, .inl fb))]) [0, 3] [1, 2] hP hD hS hA rfl rfl rfl (by decide) (va_runV (As := []) (rest := []) ⟨hx, hb, hml, hown, hts⟩ (c_M_unmark l dC dI m0 da ba ka ta na ea (nI 0) st g h us n tl (-1) wr cK fk H.size) (cwV 0 hts (hj_gV m_699 m_701 s_M_unmark m_4 m_702) rfl rfl rfl (by decide +kernel) ⟨Nat.le_of_ble_eq_true rfl, Nat.le_of_ble_eq_true rfl⟩) (hj_preV (ci := 3) (q0 := 0) hj_E0ok hE hP hD hK hS hA [0, 3] rfl rfl [2] rfl rfl rfl) rfl rfl hl.1 rfl (lv_room (Nat.le_of_ble_eq_true rfl)) d_M_recover_11 ⟨Nat.le_of_ble_eq_true rfl, Nat.le_of_ble_eq_true rfl⟩) (fun u_2 H locs hw hP hD hK1 hS => ?_)
  obtain ⟨fk1, rfl⟩ : ∃ z9, z9 = u_2 := ⟨_, rfl⟩
  have hP : va_P (dC, dI) vwCl [(m0, .inr (3, [.int (nI 0), .ref da, .int (nI st), .int (nI g), .int (nI h), .int (nI us), .int (nI n), .ref ba, .ref ka, .ref ta, .int (nI tl), .int (-1), .int wr, .ref na, .ref ea])), (da, .inl (cD, 32768, .inl (hj_B d))), (ba, .inl (cB, 2000, .inl fb)), (ka, .inl (cK, 2000, .inl fk1))] H := hP.sub [2, 0, 1, 3] rfl
  have hD : va_D A [(m0, .inr (3, [.int (nI 0), .ref da, .int (nI st), .int (nI g), .int (nI h), .int (nI us), .int (nI n), .ref ba, .ref ka, .ref ta, .int (nI tl), .int (-1), .int wr, .ref na, .ref ea])), (da, .inl (cD, 32768, .inl (hj_B d))), (ba, .inl (cB, 2000, .inl fb)), (ka, .inl (cK, 2000, .inl fk1))] := hD.sub [2, 0, 1, 3] (by decide) rfl
  have hz := hw
  refine lv_aload_n hx hb d_M_recover_14 rfl (lv_at hl 0 rfl) ?_
  refine lv_iconst (v := nI 0) hx hb d_M_recover_15 (by decide) ?_
  refine hj_calli (wc := [(m0, .inr (3, [.int (nI 0), .ref da, .int (nI st), .int (nI g), .int (nI h), .int (nI us), .int (nI n), .ref ba, .ref ka, .ref ta, .int (nI tl), .int (-1), .int wr, .ref na, .ref ea])), (da, .inl (cD, 32768, .inl (hj_B d)))]) (wr := [(ba, .inl (cB, 2000, .inl fb)), (ka, .inl (cK, 2000, .inl fk1))]) [0, 1] [2, 3] hP hD hS hA rfl rfl rfl (by decide) (va_runV (As := [.int (nI 0)]) (rest := []) ⟨hx, hb, hml, hown, hts⟩ (c_M_isHead l dC dI m0 da ba ka ta na ea (nI 0) st g h us n tl (-1) wr cD d 0 (by omega) hd H.size) (cwV 1 hts (hj_gV m_703 m_705 s_M_isHead m_4 m_706) rfl rfl rfl (by decide +kernel) ⟨Nat.le_of_ble_eq_true rfl, Nat.le_of_ble_eq_true rfl⟩) (hj_preV (ci := 3) (q0 := 0) hj_E0ok hE hP hD hK hS hA [0, 1] rfl rfl [0] rfl rfl rfl) rfl rfl hl.1 rfl (lv_room (Nat.le_of_ble_eq_true rfl)) d_M_recover_16 ⟨Nat.le_of_ble_eq_true rfl, Nat.le_of_ble_eq_true rfl⟩) (fun r_3 u_4 H locs hw hP hD hK1 hS => ?_)
  have hP : va_P (dC, dI) vwCl [(m0, .inr (3, [.int (nI 0), .ref da, .int (nI st), .int (nI g), .int (nI h), .int (nI us), .int (nI n), .ref ba, .ref ka, .ref ta, .int (nI tl), .int (-1), .int wr, .ref na, .ref ea])), (da, .inl (cD, 32768, .inl (hj_B d))), (ba, .inl (cB, 2000, .inl fb)), (ka, .inl (cK, 2000, .inl fk1))] H := hP.sub [2, 3, 0, 1] rfl
  have hD : va_D A [(m0, .inr (3, [.int (nI 0), .ref da, .int (nI st), .int (nI g), .int (nI h), .int (nI us), .int (nI n), .ref ba, .ref ka, .ref ta, .int (nI tl), .int (-1), .int wr, .ref na, .ref ea])), (da, .inl (cD, 32768, .inl (hj_B d))), (ba, .inl (cB, 2000, .inl fb)), (ka, .inl (cK, 2000, .inl fk1))] := hD.sub [2, 3, 0, 1] (by decide) rfl
  have hw0 := hw
  refine lv_istore_n (lv' := [(1, .int r_3), (0, .ref m0)]) hx hb d_M_recover_19 rfl hl (by decide) rfl (fun ls hl => ?_)
  refine lv_aload_n hx hb d_M_recover_20 rfl (lv_at hl 1 rfl) ?_
  refine lv_iconst (v := nI 1) hx hb d_M_recover_21 (by decide) ?_
  refine hj_calli (wc := [(m0, .inr (3, [.int (nI 0), .ref da, .int (nI st), .int (nI g), .int (nI h), .int (nI us), .int (nI n), .ref ba, .ref ka, .ref ta, .int (nI tl), .int (-1), .int wr, .ref na, .ref ea])), (da, .inl (cD, 32768, .inl (hj_B d)))]) (wr := [(ba, .inl (cB, 2000, .inl fb)), (ka, .inl (cK, 2000, .inl fk1))]) [0, 1] [2, 3] hP hD hS hA rfl rfl rfl (by decide) (va_runV (As := [.int (nI 1)]) (rest := []) ⟨hx, hb, hml, hown, hts⟩ (c_M_isHead l dC dI m0 da ba ka ta na ea (nI 0) st g h us n tl (-1) wr cD d 1 (by omega) hd H.size) (cwV 1 hts (hj_gV m_703 m_705 s_M_isHead m_4 m_706) rfl rfl rfl (by decide +kernel) ⟨Nat.le_of_ble_eq_true rfl, Nat.le_of_ble_eq_true rfl⟩) (hj_preV (ci := 3) (q0 := 0) hj_E0ok hE hP hD hK hS hA [0, 1] rfl rfl [0] rfl rfl rfl) rfl rfl hl.1 rfl (lv_room (Nat.le_of_ble_eq_true rfl)) d_M_recover_22 ⟨Nat.le_of_ble_eq_true rfl, Nat.le_of_ble_eq_true rfl⟩) (fun r_5 u_6 H locs hw hP hD hK1 hS => ?_)
  have hP : va_P (dC, dI) vwCl [(m0, .inr (3, [.int (nI 0), .ref da, .int (nI st), .int (nI g), .int (nI h), .int (nI us), .int (nI n), .ref ba, .ref ka, .ref ta, .int (nI tl), .int (-1), .int wr, .ref na, .ref ea])), (da, .inl (cD, 32768, .inl (hj_B d))), (ba, .inl (cB, 2000, .inl fb)), (ka, .inl (cK, 2000, .inl fk1))] H := hP.sub [2, 3, 0, 1] rfl
  have hD : va_D A [(m0, .inr (3, [.int (nI 0), .ref da, .int (nI st), .int (nI g), .int (nI h), .int (nI us), .int (nI n), .ref ba, .ref ka, .ref ta, .int (nI tl), .int (-1), .int wr, .ref na, .ref ea])), (da, .inl (cD, 32768, .inl (hj_B d))), (ba, .inl (cB, 2000, .inl fb)), (ka, .inl (cK, 2000, .inl fk1))] := hD.sub [2, 3, 0, 1] (by decide) rfl
  have hw1 := hw
  rcases hw0 with ⟨a0, rfl⟩ | ⟨a0, rfl⟩ <;> rcases hw1 with ⟨a1, rfl⟩ | ⟨a1, rfl⟩
  · refine lv_istore_n (lv' := [(2, .int (nI 1)), (1, .int (nI 1)), (0, .ref m0)]) hx hb d_M_recover_25 rfl hl (by decide) rfl (fun ls hl => ?_)
    refine lv_iload_n hx hb d_M_recover_26 rfl (lv_at hl 1 rfl) ?_
    refine hj_if_ne (tgt := 45) hx hb (by omega) d_M_recover_27 (by decide) (fun c_1 => ?_) (fun c_1 => ?_)
    · refine lv_iload_n hx hb d_M_recover_45 rfl (lv_at hl 1 rfl) ?_
      refine hj_if_eq (tgt := 78) hx hb (by omega) d_M_recover_46 (by decide) (fun c_2 => ?_) (fun c_2 => ?_)
      · omega
      · refine lv_iload_n hx hb d_M_recover_49 rfl (lv_at hl 0 rfl) ?_
        refine hj_if_eq (tgt := 74) hx hb (by omega) d_M_recover_50 (by decide) (fun c_3 => ?_) (fun c_3 => ?_)
        · omega
        · refine lv_aload_n hx hb d_M_recover_53 rfl (lv_at hl 2 rfl) ?_
          refine va_get (D := (dC, dI)) (ci := 3) (v := .ref da) (C := "HalfJournalModel") (T := F_M) (N := 15) hx hb hts i_M hown hK hP 0 rfl rfl 1 (by decide) (hts _ m_646) (fun _ h9 => h9) rfl d_M_recover_54 ?_
          refine lv_iconst (v := nI 4) hx hb d_M_recover_57 (by decide) ?_
          refine hj_calli (wc := [(da, .inl (cD, 32768, .inl (hj_B d)))]) (wr := [(m0, .inr (3, [.int (nI 0), .ref da, .int (nI st), .int (nI g), .int (nI h), .int (nI us), .int (nI n), .ref ba, .ref ka, .ref ta, .int (nI tl), .int (-1), .int wr, .ref na, .ref ea])), (ba, .inl (cB, 2000, .inl fb)), (ka, .inl (cK, 2000, .inl fk1))]) [1] [0, 2, 3] hP hD hS hA rfl rfl rfl (by decide) (va_runS (As := [.ref da, .int (nI 4)]) (rest := []) ⟨hx, hb, hml, hown, hts⟩ (c_M_four l dC dI da cD 32768 d 4 (by omega) (by omega) hd H.size) (cwS 2 hts (hj_gS m_707 m_708 m_4 m_709) rfl rfl rfl (by decide +kernel) ⟨Nat.le_of_ble_eq_true rfl, Nat.le_of_ble_eq_true rfl⟩) (hj_preS hj_E0ok hE hP hD hK hS hA [1] rfl rfl [0] rfl) rfl rfl hl.1 rfl (lv_room (Nat.le_of_ble_eq_true rfl)) d_M_recover_58 ⟨Nat.le_of_ble_eq_true rfl, Nat.le_of_ble_eq_true rfl⟩) (fun r_7 u_8 H locs hw hP hD hK1 hS => ?_)
          subst hw
          have hP : va_P (dC, dI) vwCl [(m0, .inr (3, [.int (nI 0), .ref da, .int (nI st), .int (nI g), .int (nI h), .int (nI us), .int (nI n), .ref ba, .ref ka, .ref ta, .int (nI tl), .int (-1), .int wr, .ref na, .ref ea])), (da, .inl (cD, 32768, .inl (hj_B d))), (ba, .inl (cB, 2000, .inl fb)), (ka, .inl (cK, 2000, .inl fk1))] H := hP.sub [0, 3, 1, 2] rfl
          have hD : va_D A [(m0, .inr (3, [.int (nI 0), .ref da, .int (nI st), .int (nI g), .int (nI h), .int (nI us), .int (nI n), .ref ba, .ref ka, .ref ta, .int (nI tl), .int (-1), .int wr, .ref na, .ref ea])), (da, .inl (cD, 32768, .inl (hj_B d))), (ba, .inl (cB, 2000, .inl fb)), (ka, .inl (cK, 2000, .inl fk1))] := hD.sub [0, 3, 1, 2] (by decide) rfl
          refine hj_topn (b := hj_hg d 0) ((hj_hg_ok a0).symm) ?_
          refine lv_aload_n hx hb d_M_recover_61 rfl (lv_at hl 2 rfl) ?_
          refine va_get (D := (dC, dI)) (ci := 3) (v := .ref da) (C := "HalfJournalModel") (T := F_M) (N := 15) hx hb hts i_M hown hK hP 0 rfl rfl 1 (by decide) (hts _ m_646) (fun _ h9 => h9) rfl d_M_recover_62 ?_
          refine lv_sipush (v := nI 516) hx hb d_M_recover_65 (by decide) ?_
          refine hj_calli (wc := [(da, .inl (cD, 32768, .inl (hj_B d)))]) (wr := [(m0, .inr (3, [.int (nI 0), .ref da, .int (nI st), .int (nI g), .int (nI h), .int (nI us), .int (nI n), .ref ba, .ref ka, .ref ta, .int (nI tl), .int (-1), .int wr, .ref na, .ref ea])), (ba, .inl (cB, 2000, .inl fb)), (ka, .inl (cK, 2000, .inl fk1))]) [1] [0, 2, 3] hP hD hS hA rfl rfl rfl (by decide) (va_runS (As := [.ref da, .int (nI 516)]) (rest := [.int (nI (hj_hg d 0))]) ⟨hx, hb, hml, hown, hts⟩ (c_M_four l dC dI da cD 32768 d 516 (by omega) (by omega) hd H.size) (cwS 2 hts (hj_gS m_707 m_708 m_4 m_709) rfl rfl rfl (by decide +kernel) ⟨Nat.le_of_ble_eq_true rfl, Nat.le_of_ble_eq_true rfl⟩) (hj_preS hj_E0ok hE hP hD hK hS hA [1] rfl rfl [0] rfl) rfl rfl hl.1 rfl (lv_room (Nat.le_of_ble_eq_true rfl)) d_M_recover_68 ⟨Nat.le_of_ble_eq_true rfl, Nat.le_of_ble_eq_true rfl⟩) (fun r_9 u_10 H locs hw hP hD hK1 hS => ?_)
          subst hw
          have hP : va_P (dC, dI) vwCl [(m0, .inr (3, [.int (nI 0), .ref da, .int (nI st), .int (nI g), .int (nI h), .int (nI us), .int (nI n), .ref ba, .ref ka, .ref ta, .int (nI tl), .int (-1), .int wr, .ref na, .ref ea])), (da, .inl (cD, 32768, .inl (hj_B d))), (ba, .inl (cB, 2000, .inl fb)), (ka, .inl (cK, 2000, .inl fk1))] H := hP.sub [0, 3, 1, 2] rfl
          have hD : va_D A [(m0, .inr (3, [.int (nI 0), .ref da, .int (nI st), .int (nI g), .int (nI h), .int (nI us), .int (nI n), .ref ba, .ref ka, .ref ta, .int (nI tl), .int (-1), .int wr, .ref na, .ref ea])), (da, .inl (cD, 32768, .inl (hj_B d))), (ba, .inl (cB, 2000, .inl fb)), (ka, .inl (cK, 2000, .inl fk1))] := hD.sub [0, 3, 1, 2] (by decide) rfl
          refine hj_topn (b := hj_hg d 1) ((hj_hg_ok a1).symm) ?_
          refine hj_icmp_lt (tgt := 78) hx hb (hj_hg_lt d _) (hj_hg_lt d _) d_M_recover_71 (by decide) (fun c_4 => ?_) (fun c_4 => ?_)
          · have hh9 : d (512 * 1 + 2) < 2 := a1.2.2.1
            refine lv_iconst (v := nI 1) hx hb d_M_recover_78 (by decide) ?_
            refine lv_istore_n (lv' := [(3, .int (nI 1)), (2, .int (nI 1)), (1, .int (nI 1)), (0, .ref m0)]) hx hb d_M_recover_79 rfl hl (by decide) rfl (fun ls hl => ?_)
            refine lv_aload_n hx hb d_M_recover_80 rfl (lv_at hl 3 rfl) ?_
            refine lv_iconst (v := nI 2) hx hb d_M_recover_81 (by decide) ?_
            refine va_put (D := (dC, dI)) (ci := 3) (v := .int (nI 2)) (ty := (.int)) (C := "HalfJournalModel") (T := F_M) (N := 15) hx hb hts i_M t_M t_M_ok n_M hown hK hP hD hS 0 rfl rfl 2 (by decide) (hts _ m_647) (fun _ h9 => h9) rfl (by decide +kernel) rfl rfl (Nat.le_of_ble_eq_true rfl) d_M_recover_82 (fun H locs hP hD hS => ?_)
            have hP : va_P (dC, dI) vwCl [(m0, .inr (3, [.int (nI 0), .ref da, .int (nI 2), .int (nI g), .int (nI h), .int (nI us), .int (nI n), .ref ba, .ref ka, .ref ta, .int (nI tl), .int (-1), .int wr, .ref na, .ref ea])), (da, .inl (cD, 32768, .inl (hj_B d))), (ba, .inl (cB, 2000, .inl fb)), (ka, .inl (cK, 2000, .inl fk1))] H := hP
            have hD : va_D A [(m0, .inr (3, [.int (nI 0), .ref da, .int (nI 2), .int (nI g), .int (nI h), .int (nI us), .int (nI n), .ref ba, .ref ka, .ref ta, .int (nI tl), .int (-1), .int wr, .ref na, .ref ea])), (da, .inl (cD, 32768, .inl (hj_B d))), (ba, .inl (cB, 2000, .inl fb)), (ka, .inl (cK, 2000, .inl fk1))] := hD
            refine lv_aload_n hx hb d_M_recover_85 rfl (lv_at hl 3 rfl) ?_
            refine lv_aload_n hx hb d_M_recover_86 rfl (lv_at hl 3 rfl) ?_
            refine va_get (D := (dC, dI)) (ci := 3) (v := .ref da) (C := "HalfJournalModel") (T := F_M) (N := 15) hx hb hts i_M hown hK hP 0 rfl rfl 1 (by decide) (hts _ m_646) (fun _ h9 => h9) rfl d_M_recover_87 ?_
            refine lv_sipush (v := nI 512) hx hb d_M_recover_90 (by decide) ?_
            refine lv_iload_n hx hb d_M_recover_93 rfl (lv_at hl 0 rfl) ?_
            refine hj_imul hx hb d_M_recover_94 ?_
            refine lv_iconst (v := nI 4) hx hb d_M_recover_95 (by decide) ?_
            refine hj_iadd hx hb d_M_recover_96 ?_
            refine hj_calli (wc := [(da, .inl (cD, 32768, .inl (hj_B d)))]) (wr := [(m0, .inr (3, [.int (nI 0), .ref da, .int (nI 2), .int (nI g), .int (nI h), .int (nI us), .int (nI n), .ref ba, .ref ka, .ref ta, .int (nI tl), .int (-1), .int wr, .ref na, .ref ea])), (ba, .inl (cB, 2000, .inl fb)), (ka, .inl (cK, 2000, .inl fk1))]) [1] [0, 2, 3] hP hD hS hA rfl rfl rfl (by decide) (va_runS (As := [.ref da, .int (nI ((512 * 1) + 4))]) (rest := [.ref m0]) ⟨hx, hb, hml, hown, hts⟩ (c_M_four l dC dI da cD 32768 d (512 * 1 + 4) (by omega) (by omega) hd H.size) (cwS 2 hts (hj_gS m_707 m_708 m_4 m_709) rfl rfl rfl (by decide +kernel) ⟨Nat.le_of_ble_eq_true rfl, Nat.le_of_ble_eq_true rfl⟩) (hj_preS hj_E0ok hE hP hD hK hS hA [1] rfl rfl [0] rfl) rfl rfl hl.1 rfl (lv_room (Nat.le_of_ble_eq_true rfl)) d_M_recover_97 ⟨Nat.le_of_ble_eq_true rfl, Nat.le_of_ble_eq_true rfl⟩) (fun r_11 u_12 H locs hw hP hD hK1 hS => ?_)
            subst hw
            have hP : va_P (dC, dI) vwCl [(m0, .inr (3, [.int (nI 0), .ref da, .int (nI 2), .int (nI g), .int (nI h), .int (nI us), .int (nI n), .ref ba, .ref ka, .ref ta, .int (nI tl), .int (-1), .int wr, .ref na, .ref ea])), (da, .inl (cD, 32768, .inl (hj_B d))), (ba, .inl (cB, 2000, .inl fb)), (ka, .inl (cK, 2000, .inl fk1))] H := hP.sub [0, 3, 1, 2] rfl
            have hD : va_D A [(m0, .inr (3, [.int (nI 0), .ref da, .int (nI 2), .int (nI g), .int (nI h), .int (nI us), .int (nI n), .ref ba, .ref ka, .ref ta, .int (nI tl), .int (-1), .int wr, .ref na, .ref ea])), (da, .inl (cD, 32768, .inl (hj_B d))), (ba, .inl (cB, 2000, .inl fb)), (ka, .inl (cK, 2000, .inl fk1))] := hD.sub [0, 3, 1, 2] (by decide) rfl
            refine hj_topn (b := hj_hg d 1) ((hj_hg_ok a1).symm) ?_
            refine va_put (D := (dC, dI)) (ci := 3) (v := .int (nI (hj_hg d 1))) (ty := (.int)) (C := "HalfJournalModel") (T := F_M) (N := 15) hx hb hts i_M t_M t_M_ok n_M hown hK hP hD hS 0 rfl rfl 3 (by decide) (hts _ m_648) (fun _ h9 => h9) rfl (by decide +kernel) rfl rfl (Nat.le_of_ble_eq_true rfl) d_M_recover_100 (fun H locs hP hD hS => ?_)
            have hP : va_P (dC, dI) vwCl [(m0, .inr (3, [.int (nI 0), .ref da, .int (nI 2), .int (nI (hj_hg d 1)), .int (nI h), .int (nI us), .int (nI n), .ref ba, .ref ka, .ref ta, .int (nI tl), .int (-1), .int wr, .ref na, .ref ea])), (da, .inl (cD, 32768, .inl (hj_B d))), (ba, .inl (cB, 2000, .inl fb)), (ka, .inl (cK, 2000, .inl fk1))] H := hP
            have hD : va_D A [(m0, .inr (3, [.int (nI 0), .ref da, .int (nI 2), .int (nI (hj_hg d 1)), .int (nI h), .int (nI us), .int (nI n), .ref ba, .ref ka, .ref ta, .int (nI tl), .int (-1), .int wr, .ref na, .ref ea])), (da, .inl (cD, 32768, .inl (hj_B d))), (ba, .inl (cB, 2000, .inl fb)), (ka, .inl (cK, 2000, .inl fk1))] := hD
            refine lv_aload_n hx hb d_M_recover_103 rfl (lv_at hl 3 rfl) ?_
            refine lv_aload_n hx hb d_M_recover_104 rfl (lv_at hl 3 rfl) ?_
            refine va_get (D := (dC, dI)) (ci := 3) (v := .ref da) (C := "HalfJournalModel") (T := F_M) (N := 15) hx hb hts i_M hown hK hP 0 rfl rfl 1 (by decide) (hts _ m_646) (fun _ h9 => h9) rfl d_M_recover_105 ?_
            refine lv_sipush (v := nI 512) hx hb d_M_recover_108 (by decide) ?_
            refine lv_iload_n hx hb d_M_recover_111 rfl (lv_at hl 0 rfl) ?_
            refine hj_imul hx hb d_M_recover_112 ?_
            refine lv_iconst (v := nI 2) hx hb d_M_recover_113 (by decide) ?_
            refine hj_iadd hx hb d_M_recover_114 ?_
            refine hj_bald hx hb hK hP 1 0 rfl rfl (by omega) (by decide) d_M_recover_115 ?_
            refine hj_topv (y := nI (d (512 * 1 + 2))) (hj_sbs _ (by omega)) ?_
            refine va_put (D := (dC, dI)) (ci := 3) (v := .int (nI (d (512 * 1 + 2)))) (ty := (.int)) (C := "HalfJournalModel") (T := F_M) (N := 15) hx hb hts i_M t_M t_M_ok n_M hown hK hP hD hS 0 rfl rfl 4 (by decide) (hts _ m_649) (fun _ h9 => h9) rfl (by decide +kernel) rfl rfl (Nat.le_of_ble_eq_true rfl) d_M_recover_116 (fun H locs hP hD hS => ?_)
            have hP : va_P (dC, dI) vwCl [(m0, .inr (3, [.int (nI 0), .ref da, .int (nI 2), .int (nI (hj_hg d 1)), .int (nI (d (512 * 1 + 2))), .int (nI us), .int (nI n), .ref ba, .ref ka, .ref ta, .int (nI tl), .int (-1), .int wr, .ref na, .ref ea])), (da, .inl (cD, 32768, .inl (hj_B d))), (ba, .inl (cB, 2000, .inl fb)), (ka, .inl (cK, 2000, .inl fk1))] H := hP
            have hD : va_D A [(m0, .inr (3, [.int (nI 0), .ref da, .int (nI 2), .int (nI (hj_hg d 1)), .int (nI (d (512 * 1 + 2))), .int (nI us), .int (nI n), .ref ba, .ref ka, .ref ta, .int (nI tl), .int (-1), .int wr, .ref na, .ref ea])), (da, .inl (cD, 32768, .inl (hj_B d))), (ba, .inl (cB, 2000, .inl fb)), (ka, .inl (cK, 2000, .inl fk1))] := hD
            refine lv_aload_n hx hb d_M_recover_119 rfl (lv_at hl 3 rfl) ?_
            refine hj_callv (wc := [(m0, .inr (3, [.int (nI 0), .ref da, .int (nI 2), .int (nI (hj_hg d 1)), .int (nI (d (512 * 1 + 2))), .int (nI us), .int (nI n), .ref ba, .ref ka, .ref ta, .int (nI tl), .int (-1), .int wr, .ref na, .ref ea])), (da, .inl (cD, 32768, .inl (hj_B d))), (ba, .inl (cB, 2000, .inl fb))]) (wr := [(ka, .inl (cK, 2000, .inl fk1))]) [0, 1, 2] [3] hP hD hS hA rfl rfl rfl (by decide) (va_runV (As := []) (rest := []) ⟨hx, hb, hml, hown, hts⟩ (c_M_findRecords l dC dI m0 da ba ka ta na ea (nI 0) 2 (hj_hg d 1) (d (512 * 1 + 2)) us n tl (-1) wr cD d cB fb hh9 hd H.size) (cwV 0 hts (hj_gV m_718 m_720 s_M_findRecords m_4 m_721) rfl rfl rfl (by decide +kernel) ⟨Nat.le_of_ble_eq_true rfl, Nat.le_of_ble_eq_true rfl⟩) (hj_preV (ci := 3) (q0 := 0) hj_E0ok hE hP hD hK hS hA [0, 1, 2] rfl rfl [0, 1] rfl rfl rfl) rfl rfl hl.1 rfl (lv_room (Nat.le_of_ble_eq_true rfl)) d_M_recover_120 ⟨Nat.le_of_ble_eq_true rfl, Nat.le_of_ble_eq_true rfl⟩) (fun u_14 H locs hw hP hD hK1 hS => ?_)
            obtain ⟨fb1, rfl⟩ : ∃ z9, z9 = u_14 := ⟨_, rfl⟩
            have hP : va_P (dC, dI) vwCl [(m0, .inr (3, [.int (nI 0), .ref da, .int (nI 2), .int (nI (hj_hg d 1)), .int (nI (d (512 * 1 + 2))), .int (nI (hj_pos d (d (512 * 1 + 2)) (hj_N d (d (512 * 1 + 2))))), .int (nI (hj_N d (d (512 * 1 + 2)))), .ref ba, .ref ka, .ref ta, .int (nI tl), .int (-1), .int wr, .ref na, .ref ea])), (da, .inl (cD, 32768, .inl (hj_B d))), (ba, .inl (cB, 2000, .inl fb1)), (ka, .inl (cK, 2000, .inl fk1))] H := hP.sub [1, 2, 3, 0] rfl
            have hD : va_D A [(m0, .inr (3, [.int (nI 0), .ref da, .int (nI 2), .int (nI (hj_hg d 1)), .int (nI (d (512 * 1 + 2))), .int (nI (hj_pos d (d (512 * 1 + 2)) (hj_N d (d (512 * 1 + 2))))), .int (nI (hj_N d (d (512 * 1 + 2)))), .ref ba, .ref ka, .ref ta, .int (nI tl), .int (-1), .int wr, .ref na, .ref ea])), (da, .inl (cD, 32768, .inl (hj_B d))), (ba, .inl (cB, 2000, .inl fb1)), (ka, .inl (cK, 2000, .inl fk1))] := hD.sub [1, 2, 3, 0] (by decide) rfl
            refine lv_aload_n hx hb d_M_recover_123 rfl (lv_at hl 3 rfl) ?_
            refine va_get (D := (dC, dI)) (ci := 3) (v := .int (nI (hj_N d (d (512 * 1 + 2))))) (C := "HalfJournalModel") (T := F_M) (N := 15) hx hb hts i_M hown hK hP 0 rfl rfl 6 (by decide) (hts _ m_651) (fun _ h9 => h9) rfl d_M_recover_124 ?_
            exact hret (nI (hj_N d (d (512 * 1 + 2)))) (2, hj_hg d 1, d (512 * 1 + 2), hj_pos d (d (512 * 1 + 2)) (hj_N d (d (512 * 1 + 2))), hj_N d (d (512 * 1 + 2)), fb1, fk1) _ _ _ _ d_M_recover_127 rfl (⟨hz, Or.inr ⟨1, ⟨by omega, a1, fun q => absurd q (by decide), fun _ => c_4⟩, rfl, rfl, rfl, rfl, rfl, rfl, hw⟩⟩) hP hK hD hS
          · have hh9 : d (512 * 0 + 2) < 2 := a0.2.2.1
            refine lv_iconst (v := nI 0) hx hb d_M_recover_74 (by decide) ?_
            refine lv_goto (tgt := 79) hx hb d_M_recover_75 (by decide) ?_
            refine lv_istore_n (lv' := [(3, .int (nI 0)), (2, .int (nI 1)), (1, .int (nI 1)), (0, .ref m0)]) hx hb d_M_recover_79 rfl hl (by decide) rfl (fun ls hl => ?_)
            refine lv_aload_n hx hb d_M_recover_80 rfl (lv_at hl 3 rfl) ?_
            refine lv_iconst (v := nI 2) hx hb d_M_recover_81 (by decide) ?_
            refine va_put (D := (dC, dI)) (ci := 3) (v := .int (nI 2)) (ty := (.int)) (C := "HalfJournalModel") (T := F_M) (N := 15) hx hb hts i_M t_M t_M_ok n_M hown hK hP hD hS 0 rfl rfl 2 (by decide) (hts _ m_647) (fun _ h9 => h9) rfl (by decide +kernel) rfl rfl (Nat.le_of_ble_eq_true rfl) d_M_recover_82 (fun H locs hP hD hS => ?_)
            have hP : va_P (dC, dI) vwCl [(m0, .inr (3, [.int (nI 0), .ref da, .int (nI 2), .int (nI g), .int (nI h), .int (nI us), .int (nI n), .ref ba, .ref ka, .ref ta, .int (nI tl), .int (-1), .int wr, .ref na, .ref ea])), (da, .inl (cD, 32768, .inl (hj_B d))), (ba, .inl (cB, 2000, .inl fb)), (ka, .inl (cK, 2000, .inl fk1))] H := hP
            have hD : va_D A [(m0, .inr (3, [.int (nI 0), .ref da, .int (nI 2), .int (nI g), .int (nI h), .int (nI us), .int (nI n), .ref ba, .ref ka, .ref ta, .int (nI tl), .int (-1), .int wr, .ref na, .ref ea])), (da, .inl (cD, 32768, .inl (hj_B d))), (ba, .inl (cB, 2000, .inl fb)), (ka, .inl (cK, 2000, .inl fk1))] := hD
            refine lv_aload_n hx hb d_M_recover_85 rfl (lv_at hl 3 rfl) ?_
            refine lv_aload_n hx hb d_M_recover_86 rfl (lv_at hl 3 rfl) ?_
            refine va_get (D := (dC, dI)) (ci := 3) (v := .ref da) (C := "HalfJournalModel") (T := F_M) (N := 15) hx hb hts i_M hown hK hP 0 rfl rfl 1 (by decide) (hts _ m_646) (fun _ h9 => h9) rfl d_M_recover_87 ?_
            refine lv_sipush (v := nI 512) hx hb d_M_recover_90 (by decide) ?_
            refine lv_iload_n hx hb d_M_recover_93 rfl (lv_at hl 0 rfl) ?_
            refine hj_imul hx hb d_M_recover_94 ?_
            refine lv_iconst (v := nI 4) hx hb d_M_recover_95 (by decide) ?_
            refine hj_iadd hx hb d_M_recover_96 ?_
            refine hj_calli (wc := [(da, .inl (cD, 32768, .inl (hj_B d)))]) (wr := [(m0, .inr (3, [.int (nI 0), .ref da, .int (nI 2), .int (nI g), .int (nI h), .int (nI us), .int (nI n), .ref ba, .ref ka, .ref ta, .int (nI tl), .int (-1), .int wr, .ref na, .ref ea])), (ba, .inl (cB, 2000, .inl fb)), (ka, .inl (cK, 2000, .inl fk1))]) [1] [0, 2, 3] hP hD hS hA rfl rfl rfl (by decide) (va_runS (As := [.ref da, .int (nI ((512 * 0) + 4))]) (rest := [.ref m0]) ⟨hx, hb, hml, hown, hts⟩ (c_M_four l dC dI da cD 32768 d (512 * 0 + 4) (by omega) (by omega) hd H.size) (cwS 2 hts (hj_gS m_707 m_708 m_4 m_709) rfl rfl rfl (by decide +kernel) ⟨Nat.le_of_ble_eq_true rfl, Nat.le_of_ble_eq_true rfl⟩) (hj_preS hj_E0ok hE hP hD hK hS hA [1] rfl rfl [0] rfl) rfl rfl hl.1 rfl (lv_room (Nat.le_of_ble_eq_true rfl)) d_M_recover_97 ⟨Nat.le_of_ble_eq_true rfl, Nat.le_of_ble_eq_true rfl⟩) (fun r_15 u_16 H locs hw hP hD hK1 hS => ?_)
            subst hw
            have hP : va_P (dC, dI) vwCl [(m0, .inr (3, [.int (nI 0), .ref da, .int (nI 2), .int (nI g), .int (nI h), .int (nI us), .int (nI n), .ref ba, .ref ka, .ref ta, .int (nI tl), .int (-1), .int wr, .ref na, .ref ea])), (da, .inl (cD, 32768, .inl (hj_B d))), (ba, .inl (cB, 2000, .inl fb)), (ka, .inl (cK, 2000, .inl fk1))] H := hP.sub [0, 3, 1, 2] rfl
            have hD : va_D A [(m0, .inr (3, [.int (nI 0), .ref da, .int (nI 2), .int (nI g), .int (nI h), .int (nI us), .int (nI n), .ref ba, .ref ka, .ref ta, .int (nI tl), .int (-1), .int wr, .ref na, .ref ea])), (da, .inl (cD, 32768, .inl (hj_B d))), (ba, .inl (cB, 2000, .inl fb)), (ka, .inl (cK, 2000, .inl fk1))] := hD.sub [0, 3, 1, 2] (by decide) rfl
            refine hj_topn (b := hj_hg d 0) ((hj_hg_ok a0).symm) ?_
            refine va_put (D := (dC, dI)) (ci := 3) (v := .int (nI (hj_hg d 0))) (ty := (.int)) (C := "HalfJournalModel") (T := F_M) (N := 15) hx hb hts i_M t_M t_M_ok n_M hown hK hP hD hS 0 rfl rfl 3 (by decide) (hts _ m_648) (fun _ h9 => h9) rfl (by decide +kernel) rfl rfl (Nat.le_of_ble_eq_true rfl) d_M_recover_100 (fun H locs hP hD hS => ?_)
            have hP : va_P (dC, dI) vwCl [(m0, .inr (3, [.int (nI 0), .ref da, .int (nI 2), .int (nI (hj_hg d 0)), .int (nI h), .int (nI us), .int (nI n), .ref ba, .ref ka, .ref ta, .int (nI tl), .int (-1), .int wr, .ref na, .ref ea])), (da, .inl (cD, 32768, .inl (hj_B d))), (ba, .inl (cB, 2000, .inl fb)), (ka, .inl (cK, 2000, .inl fk1))] H := hP
            have hD : va_D A [(m0, .inr (3, [.int (nI 0), .ref da, .int (nI 2), .int (nI (hj_hg d 0)), .int (nI h), .int (nI us), .int (nI n), .ref ba, .ref ka, .ref ta, .int (nI tl), .int (-1), .int wr, .ref na, .ref ea])), (da, .inl (cD, 32768, .inl (hj_B d))), (ba, .inl (cB, 2000, .inl fb)), (ka, .inl (cK, 2000, .inl fk1))] := hD
            refine lv_aload_n hx hb d_M_recover_103 rfl (lv_at hl 3 rfl) ?_
            refine lv_aload_n hx hb d_M_recover_104 rfl (lv_at hl 3 rfl) ?_
            refine va_get (D := (dC, dI)) (ci := 3) (v := .ref da) (C := "HalfJournalModel") (T := F_M) (N := 15) hx hb hts i_M hown hK hP 0 rfl rfl 1 (by decide) (hts _ m_646) (fun _ h9 => h9) rfl d_M_recover_105 ?_
            refine lv_sipush (v := nI 512) hx hb d_M_recover_108 (by decide) ?_
            refine lv_iload_n hx hb d_M_recover_111 rfl (lv_at hl 0 rfl) ?_
            refine hj_imul hx hb d_M_recover_112 ?_
            refine lv_iconst (v := nI 2) hx hb d_M_recover_113 (by decide) ?_
            refine hj_iadd hx hb d_M_recover_114 ?_
            refine hj_bald hx hb hK hP 1 0 rfl rfl (by omega) (by decide) d_M_recover_115 ?_
            refine hj_topv (y := nI (d (512 * 0 + 2))) (hj_sbs _ (by omega)) ?_
            refine va_put (D := (dC, dI)) (ci := 3) (v := .int (nI (d (512 * 0 + 2)))) (ty := (.int)) (C := "HalfJournalModel") (T := F_M) (N := 15) hx hb hts i_M t_M t_M_ok n_M hown hK hP hD hS 0 rfl rfl 4 (by decide) (hts _ m_649) (fun _ h9 => h9) rfl (by decide +kernel) rfl rfl (Nat.le_of_ble_eq_true rfl) d_M_recover_116 (fun H locs hP hD hS => ?_)
            have hP : va_P (dC, dI) vwCl [(m0, .inr (3, [.int (nI 0), .ref da, .int (nI 2), .int (nI (hj_hg d 0)), .int (nI (d (512 * 0 + 2))), .int (nI us), .int (nI n), .ref ba, .ref ka, .ref ta, .int (nI tl), .int (-1), .int wr, .ref na, .ref ea])), (da, .inl (cD, 32768, .inl (hj_B d))), (ba, .inl (cB, 2000, .inl fb)), (ka, .inl (cK, 2000, .inl fk1))] H := hP
            have hD : va_D A [(m0, .inr (3, [.int (nI 0), .ref da, .int (nI 2), .int (nI (hj_hg d 0)), .int (nI (d (512 * 0 + 2))), .int (nI us), .int (nI n), .ref ba, .ref ka, .ref ta, .int (nI tl), .int (-1), .int wr, .ref na, .ref ea])), (da, .inl (cD, 32768, .inl (hj_B d))), (ba, .inl (cB, 2000, .inl fb)), (ka, .inl (cK, 2000, .inl fk1))] := hD
            refine lv_aload_n hx hb d_M_recover_119 rfl (lv_at hl 3 rfl) ?_
            refine hj_callv (wc := [(m0, .inr (3, [.int (nI 0), .ref da, .int (nI 2), .int (nI (hj_hg d 0)), .int (nI (d (512 * 0 + 2))), .int (nI us), .int (nI n), .ref ba, .ref ka, .ref ta, .int (nI tl), .int (-1), .int wr, .ref na, .ref ea])), (da, .inl (cD, 32768, .inl (hj_B d))), (ba, .inl (cB, 2000, .inl fb))]) (wr := [(ka, .inl (cK, 2000, .inl fk1))]) [0, 1, 2] [3] hP hD hS hA rfl rfl rfl (by decide) (va_runV (As := []) (rest := []) ⟨hx, hb, hml, hown, hts⟩ (c_M_findRecords l dC dI m0 da ba ka ta na ea (nI 0) 2 (hj_hg d 0) (d (512 * 0 + 2)) us n tl (-1) wr cD d cB fb hh9 hd H.size) (cwV 0 hts (hj_gV m_718 m_720 s_M_findRecords m_4 m_721) rfl rfl rfl (by decide +kernel) ⟨Nat.le_of_ble_eq_true rfl, Nat.le_of_ble_eq_true rfl⟩) (hj_preV (ci := 3) (q0 := 0) hj_E0ok hE hP hD hK hS hA [0, 1, 2] rfl rfl [0, 1] rfl rfl rfl) rfl rfl hl.1 rfl (lv_room (Nat.le_of_ble_eq_true rfl)) d_M_recover_120 ⟨Nat.le_of_ble_eq_true rfl, Nat.le_of_ble_eq_true rfl⟩) (fun u_18 H locs hw hP hD hK1 hS => ?_)
            obtain ⟨fb1, rfl⟩ : ∃ z9, z9 = u_18 := ⟨_, rfl⟩
            have hP : va_P (dC, dI) vwCl [(m0, .inr (3, [.int (nI 0), .ref da, .int (nI 2), .int (nI (hj_hg d 0)), .int (nI (d (512 * 0 + 2))), .int (nI (hj_pos d (d (512 * 0 + 2)) (hj_N d (d (512 * 0 + 2))))), .int (nI (hj_N d (d (512 * 0 + 2)))), .ref ba, .ref ka, .ref ta, .int (nI tl), .int (-1), .int wr, .ref na, .ref ea])), (da, .inl (cD, 32768, .inl (hj_B d))), (ba, .inl (cB, 2000, .inl fb1)), (ka, .inl (cK, 2000, .inl fk1))] H := hP.sub [1, 2, 3, 0] rfl
            have hD : va_D A [(m0, .inr (3, [.int (nI 0), .ref da, .int (nI 2), .int (nI (hj_hg d 0)), .int (nI (d (512 * 0 + 2))), .int (nI (hj_pos d (d (512 * 0 + 2)) (hj_N d (d (512 * 0 + 2))))), .int (nI (hj_N d (d (512 * 0 + 2)))), .ref ba, .ref ka, .ref ta, .int (nI tl), .int (-1), .int wr, .ref na, .ref ea])), (da, .inl (cD, 32768, .inl (hj_B d))), (ba, .inl (cB, 2000, .inl fb1)), (ka, .inl (cK, 2000, .inl fk1))] := hD.sub [1, 2, 3, 0] (by decide) rfl
            refine lv_aload_n hx hb d_M_recover_123 rfl (lv_at hl 3 rfl) ?_
            refine va_get (D := (dC, dI)) (ci := 3) (v := .int (nI (hj_N d (d (512 * 0 + 2))))) (C := "HalfJournalModel") (T := F_M) (N := 15) hx hb hts i_M hown hK hP 0 rfl rfl 6 (by decide) (hts _ m_651) (fun _ h9 => h9) rfl d_M_recover_124 ?_
            exact hret (nI (hj_N d (d (512 * 0 + 2)))) (2, hj_hg d 0, d (512 * 0 + 2), hj_pos d (d (512 * 0 + 2)) (hj_N d (d (512 * 0 + 2))), hj_N d (d (512 * 0 + 2)), fb1, fk1) _ _ _ _ d_M_recover_127 rfl (⟨hz, Or.inr ⟨0, ⟨by omega, a0, fun _ => c_4, fun q => absurd q (by decide)⟩, rfl, rfl, rfl, rfl, rfl, rfl, hw⟩⟩) hP hK hD hS
    · omega
  · refine lv_istore_n (lv' := [(2, .int (nI 0)), (1, .int (nI 1)), (0, .ref m0)]) hx hb d_M_recover_25 rfl hl (by decide) rfl (fun ls hl => ?_)
    refine lv_iload_n hx hb d_M_recover_26 rfl (lv_at hl 1 rfl) ?_
    refine hj_if_ne (tgt := 45) hx hb (by omega) d_M_recover_27 (by decide) (fun c_1 => ?_) (fun c_1 => ?_)
    · refine lv_iload_n hx hb d_M_recover_45 rfl (lv_at hl 1 rfl) ?_
      refine hj_if_eq (tgt := 78) hx hb (by omega) d_M_recover_46 (by decide) (fun c_2 => ?_) (fun c_2 => ?_)
      · omega
      · refine lv_iload_n hx hb d_M_recover_49 rfl (lv_at hl 0 rfl) ?_
        refine hj_if_eq (tgt := 74) hx hb (by omega) d_M_recover_50 (by decide) (fun c_3 => ?_) (fun c_3 => ?_)
        · have hh9 : d (512 * 0 + 2) < 2 := a0.2.2.1
          refine lv_iconst (v := nI 0) hx hb d_M_recover_74 (by decide) ?_
          refine lv_goto (tgt := 79) hx hb d_M_recover_75 (by decide) ?_
          refine lv_istore_n (lv' := [(3, .int (nI 0)), (2, .int (nI 0)), (1, .int (nI 1)), (0, .ref m0)]) hx hb d_M_recover_79 rfl hl (by decide) rfl (fun ls hl => ?_)
          refine lv_aload_n hx hb d_M_recover_80 rfl (lv_at hl 3 rfl) ?_
          refine lv_iconst (v := nI 2) hx hb d_M_recover_81 (by decide) ?_
          refine va_put (D := (dC, dI)) (ci := 3) (v := .int (nI 2)) (ty := (.int)) (C := "HalfJournalModel") (T := F_M) (N := 15) hx hb hts i_M t_M t_M_ok n_M hown hK hP hD hS 0 rfl rfl 2 (by decide) (hts _ m_647) (fun _ h9 => h9) rfl (by decide +kernel) rfl rfl (Nat.le_of_ble_eq_true rfl) d_M_recover_82 (fun H locs hP hD hS => ?_)
          have hP : va_P (dC, dI) vwCl [(m0, .inr (3, [.int (nI 0), .ref da, .int (nI 2), .int (nI g), .int (nI h), .int (nI us), .int (nI n), .ref ba, .ref ka, .ref ta, .int (nI tl), .int (-1), .int wr, .ref na, .ref ea])), (da, .inl (cD, 32768, .inl (hj_B d))), (ba, .inl (cB, 2000, .inl fb)), (ka, .inl (cK, 2000, .inl fk1))] H := hP
          have hD : va_D A [(m0, .inr (3, [.int (nI 0), .ref da, .int (nI 2), .int (nI g), .int (nI h), .int (nI us), .int (nI n), .ref ba, .ref ka, .ref ta, .int (nI tl), .int (-1), .int wr, .ref na, .ref ea])), (da, .inl (cD, 32768, .inl (hj_B d))), (ba, .inl (cB, 2000, .inl fb)), (ka, .inl (cK, 2000, .inl fk1))] := hD
          refine lv_aload_n hx hb d_M_recover_85 rfl (lv_at hl 3 rfl) ?_
          refine lv_aload_n hx hb d_M_recover_86 rfl (lv_at hl 3 rfl) ?_
          refine va_get (D := (dC, dI)) (ci := 3) (v := .ref da) (C := "HalfJournalModel") (T := F_M) (N := 15) hx hb hts i_M hown hK hP 0 rfl rfl 1 (by decide) (hts _ m_646) (fun _ h9 => h9) rfl d_M_recover_87 ?_
          refine lv_sipush (v := nI 512) hx hb d_M_recover_90 (by decide) ?_
          refine lv_iload_n hx hb d_M_recover_93 rfl (lv_at hl 0 rfl) ?_
          refine hj_imul hx hb d_M_recover_94 ?_
          refine lv_iconst (v := nI 4) hx hb d_M_recover_95 (by decide) ?_
          refine hj_iadd hx hb d_M_recover_96 ?_
          refine hj_calli (wc := [(da, .inl (cD, 32768, .inl (hj_B d)))]) (wr := [(m0, .inr (3, [.int (nI 0), .ref da, .int (nI 2), .int (nI g), .int (nI h), .int (nI us), .int (nI n), .ref ba, .ref ka, .ref ta, .int (nI tl), .int (-1), .int wr, .ref na, .ref ea])), (ba, .inl (cB, 2000, .inl fb)), (ka, .inl (cK, 2000, .inl fk1))]) [1] [0, 2, 3] hP hD hS hA rfl rfl rfl (by decide) (va_runS (As := [.ref da, .int (nI ((512 * 0) + 4))]) (rest := [.ref m0]) ⟨hx, hb, hml, hown, hts⟩ (c_M_four l dC dI da cD 32768 d (512 * 0 + 4) (by omega) (by omega) hd H.size) (cwS 2 hts (hj_gS m_707 m_708 m_4 m_709) rfl rfl rfl (by decide +kernel) ⟨Nat.le_of_ble_eq_true rfl, Nat.le_of_ble_eq_true rfl⟩) (hj_preS hj_E0ok hE hP hD hK hS hA [1] rfl rfl [0] rfl) rfl rfl hl.1 rfl (lv_room (Nat.le_of_ble_eq_true rfl)) d_M_recover_97 ⟨Nat.le_of_ble_eq_true rfl, Nat.le_of_ble_eq_true rfl⟩) (fun r_19 u_20 H locs hw hP hD hK1 hS => ?_)
          subst hw
          have hP : va_P (dC, dI) vwCl [(m0, .inr (3, [.int (nI 0), .ref da, .int (nI 2), .int (nI g), .int (nI h), .int (nI us), .int (nI n), .ref ba, .ref ka, .ref ta, .int (nI tl), .int (-1), .int wr, .ref na, .ref ea])), (da, .inl (cD, 32768, .inl (hj_B d))), (ba, .inl (cB, 2000, .inl fb)), (ka, .inl (cK, 2000, .inl fk1))] H := hP.sub [0, 3, 1, 2] rfl
          have hD : va_D A [(m0, .inr (3, [.int (nI 0), .ref da, .int (nI 2), .int (nI g), .int (nI h), .int (nI us), .int (nI n), .ref ba, .ref ka, .ref ta, .int (nI tl), .int (-1), .int wr, .ref na, .ref ea])), (da, .inl (cD, 32768, .inl (hj_B d))), (ba, .inl (cB, 2000, .inl fb)), (ka, .inl (cK, 2000, .inl fk1))] := hD.sub [0, 3, 1, 2] (by decide) rfl
          refine hj_topn (b := hj_hg d 0) ((hj_hg_ok a0).symm) ?_
          refine va_put (D := (dC, dI)) (ci := 3) (v := .int (nI (hj_hg d 0))) (ty := (.int)) (C := "HalfJournalModel") (T := F_M) (N := 15) hx hb hts i_M t_M t_M_ok n_M hown hK hP hD hS 0 rfl rfl 3 (by decide) (hts _ m_648) (fun _ h9 => h9) rfl (by decide +kernel) rfl rfl (Nat.le_of_ble_eq_true rfl) d_M_recover_100 (fun H locs hP hD hS => ?_)
          have hP : va_P (dC, dI) vwCl [(m0, .inr (3, [.int (nI 0), .ref da, .int (nI 2), .int (nI (hj_hg d 0)), .int (nI h), .int (nI us), .int (nI n), .ref ba, .ref ka, .ref ta, .int (nI tl), .int (-1), .int wr, .ref na, .ref ea])), (da, .inl (cD, 32768, .inl (hj_B d))), (ba, .inl (cB, 2000, .inl fb)), (ka, .inl (cK, 2000, .inl fk1))] H := hP
          have hD : va_D A [(m0, .inr (3, [.int (nI 0), .ref da, .int (nI 2), .int (nI (hj_hg d 0)), .int (nI h), .int (nI us), .int (nI n), .ref ba, .ref ka, .ref ta, .int (nI tl), .int (-1), .int wr, .ref na, .ref ea])), (da, .inl (cD, 32768, .inl (hj_B d))), (ba, .inl (cB, 2000, .inl fb)), (ka, .inl (cK, 2000, .inl fk1))] := hD
          refine lv_aload_n hx hb d_M_recover_103 rfl (lv_at hl 3 rfl) ?_
          refine lv_aload_n hx hb d_M_recover_104 rfl (lv_at hl 3 rfl) ?_
          refine va_get (D := (dC, dI)) (ci := 3) (v := .ref da) (C := "HalfJournalModel") (T := F_M) (N := 15) hx hb hts i_M hown hK hP 0 rfl rfl 1 (by decide) (hts _ m_646) (fun _ h9 => h9) rfl d_M_recover_105 ?_
          refine lv_sipush (v := nI 512) hx hb d_M_recover_108 (by decide) ?_
          refine lv_iload_n hx hb d_M_recover_111 rfl (lv_at hl 0 rfl) ?_
          refine hj_imul hx hb d_M_recover_112 ?_
          refine lv_iconst (v := nI 2) hx hb d_M_recover_113 (by decide) ?_
          refine hj_iadd hx hb d_M_recover_114 ?_
          refine hj_bald hx hb hK hP 1 0 rfl rfl (by omega) (by decide) d_M_recover_115 ?_
          refine hj_topv (y := nI (d (512 * 0 + 2))) (hj_sbs _ (by omega)) ?_
          refine va_put (D := (dC, dI)) (ci := 3) (v := .int (nI (d (512 * 0 + 2)))) (ty := (.int)) (C := "HalfJournalModel") (T := F_M) (N := 15) hx hb hts i_M t_M t_M_ok n_M hown hK hP hD hS 0 rfl rfl 4 (by decide) (hts _ m_649) (fun _ h9 => h9) rfl (by decide +kernel) rfl rfl (Nat.le_of_ble_eq_true rfl) d_M_recover_116 (fun H locs hP hD hS => ?_)
          have hP : va_P (dC, dI) vwCl [(m0, .inr (3, [.int (nI 0), .ref da, .int (nI 2), .int (nI (hj_hg d 0)), .int (nI (d (512 * 0 + 2))), .int (nI us), .int (nI n), .ref ba, .ref ka, .ref ta, .int (nI tl), .int (-1), .int wr, .ref na, .ref ea])), (da, .inl (cD, 32768, .inl (hj_B d))), (ba, .inl (cB, 2000, .inl fb)), (ka, .inl (cK, 2000, .inl fk1))] H := hP
          have hD : va_D A [(m0, .inr (3, [.int (nI 0), .ref da, .int (nI 2), .int (nI (hj_hg d 0)), .int (nI (d (512 * 0 + 2))), .int (nI us), .int (nI n), .ref ba, .ref ka, .ref ta, .int (nI tl), .int (-1), .int wr, .ref na, .ref ea])), (da, .inl (cD, 32768, .inl (hj_B d))), (ba, .inl (cB, 2000, .inl fb)), (ka, .inl (cK, 2000, .inl fk1))] := hD
          refine lv_aload_n hx hb d_M_recover_119 rfl (lv_at hl 3 rfl) ?_
          refine hj_callv (wc := [(m0, .inr (3, [.int (nI 0), .ref da, .int (nI 2), .int (nI (hj_hg d 0)), .int (nI (d (512 * 0 + 2))), .int (nI us), .int (nI n), .ref ba, .ref ka, .ref ta, .int (nI tl), .int (-1), .int wr, .ref na, .ref ea])), (da, .inl (cD, 32768, .inl (hj_B d))), (ba, .inl (cB, 2000, .inl fb))]) (wr := [(ka, .inl (cK, 2000, .inl fk1))]) [0, 1, 2] [3] hP hD hS hA rfl rfl rfl (by decide) (va_runV (As := []) (rest := []) ⟨hx, hb, hml, hown, hts⟩ (c_M_findRecords l dC dI m0 da ba ka ta na ea (nI 0) 2 (hj_hg d 0) (d (512 * 0 + 2)) us n tl (-1) wr cD d cB fb hh9 hd H.size) (cwV 0 hts (hj_gV m_718 m_720 s_M_findRecords m_4 m_721) rfl rfl rfl (by decide +kernel) ⟨Nat.le_of_ble_eq_true rfl, Nat.le_of_ble_eq_true rfl⟩) (hj_preV (ci := 3) (q0 := 0) hj_E0ok hE hP hD hK hS hA [0, 1, 2] rfl rfl [0, 1] rfl rfl rfl) rfl rfl hl.1 rfl (lv_room (Nat.le_of_ble_eq_true rfl)) d_M_recover_120 ⟨Nat.le_of_ble_eq_true rfl, Nat.le_of_ble_eq_true rfl⟩) (fun u_22 H locs hw hP hD hK1 hS => ?_)
          obtain ⟨fb1, rfl⟩ : ∃ z9, z9 = u_22 := ⟨_, rfl⟩
          have hP : va_P (dC, dI) vwCl [(m0, .inr (3, [.int (nI 0), .ref da, .int (nI 2), .int (nI (hj_hg d 0)), .int (nI (d (512 * 0 + 2))), .int (nI (hj_pos d (d (512 * 0 + 2)) (hj_N d (d (512 * 0 + 2))))), .int (nI (hj_N d (d (512 * 0 + 2)))), .ref ba, .ref ka, .ref ta, .int (nI tl), .int (-1), .int wr, .ref na, .ref ea])), (da, .inl (cD, 32768, .inl (hj_B d))), (ba, .inl (cB, 2000, .inl fb1)), (ka, .inl (cK, 2000, .inl fk1))] H := hP.sub [1, 2, 3, 0] rfl
          have hD : va_D A [(m0, .inr (3, [.int (nI 0), .ref da, .int (nI 2), .int (nI (hj_hg d 0)), .int (nI (d (512 * 0 + 2))), .int (nI (hj_pos d (d (512 * 0 + 2)) (hj_N d (d (512 * 0 + 2))))), .int (nI (hj_N d (d (512 * 0 + 2)))), .ref ba, .ref ka, .ref ta, .int (nI tl), .int (-1), .int wr, .ref na, .ref ea])), (da, .inl (cD, 32768, .inl (hj_B d))), (ba, .inl (cB, 2000, .inl fb1)), (ka, .inl (cK, 2000, .inl fk1))] := hD.sub [1, 2, 3, 0] (by decide) rfl
          refine lv_aload_n hx hb d_M_recover_123 rfl (lv_at hl 3 rfl) ?_
          refine va_get (D := (dC, dI)) (ci := 3) (v := .int (nI (hj_N d (d (512 * 0 + 2))))) (C := "HalfJournalModel") (T := F_M) (N := 15) hx hb hts i_M hown hK hP 0 rfl rfl 6 (by decide) (hts _ m_651) (fun _ h9 => h9) rfl d_M_recover_124 ?_
          exact hret (nI (hj_N d (d (512 * 0 + 2)))) (2, hj_hg d 0, d (512 * 0 + 2), hj_pos d (d (512 * 0 + 2)) (hj_N d (d (512 * 0 + 2))), hj_N d (d (512 * 0 + 2)), fb1, fk1) _ _ _ _ d_M_recover_127 rfl (⟨hz, Or.inr ⟨0, ⟨by omega, a0, fun _ => by rw [hj_hg_no a1]; omega, fun q => absurd q (by decide)⟩, rfl, rfl, rfl, rfl, rfl, rfl, hw⟩⟩) hP hK hD hS
        · omega
    · omega
  · have hp1 : 0 < hj_hg d 1 := by rw [hj_hg_ok a1]; exact a1.2.2.2.2.1
    refine lv_istore_n (lv' := [(2, .int (nI 1)), (1, .int (nI 0)), (0, .ref m0)]) hx hb d_M_recover_25 rfl hl (by decide) rfl (fun ls hl => ?_)
    refine lv_iload_n hx hb d_M_recover_26 rfl (lv_at hl 1 rfl) ?_
    refine hj_if_ne (tgt := 45) hx hb (by omega) d_M_recover_27 (by decide) (fun c_1 => ?_) (fun c_1 => ?_)
    · omega
    · refine lv_iload_n hx hb d_M_recover_30 rfl (lv_at hl 0 rfl) ?_
      refine hj_if_ne (tgt := 45) hx hb (by omega) d_M_recover_31 (by decide) (fun c_2 => ?_) (fun c_2 => ?_)
      · refine lv_iload_n hx hb d_M_recover_45 rfl (lv_at hl 1 rfl) ?_
        refine hj_if_eq (tgt := 78) hx hb (by omega) d_M_recover_46 (by decide) (fun c_3 => ?_) (fun c_3 => ?_)
        · have hh9 : d (512 * 1 + 2) < 2 := a1.2.2.1
          refine lv_iconst (v := nI 1) hx hb d_M_recover_78 (by decide) ?_
          refine lv_istore_n (lv' := [(3, .int (nI 1)), (2, .int (nI 1)), (1, .int (nI 0)), (0, .ref m0)]) hx hb d_M_recover_79 rfl hl (by decide) rfl (fun ls hl => ?_)
          refine lv_aload_n hx hb d_M_recover_80 rfl (lv_at hl 3 rfl) ?_
          refine lv_iconst (v := nI 2) hx hb d_M_recover_81 (by decide) ?_
          refine va_put (D := (dC, dI)) (ci := 3) (v := .int (nI 2)) (ty := (.int)) (C := "HalfJournalModel") (T := F_M) (N := 15) hx hb hts i_M t_M t_M_ok n_M hown hK hP hD hS 0 rfl rfl 2 (by decide) (hts _ m_647) (fun _ h9 => h9) rfl (by decide +kernel) rfl rfl (Nat.le_of_ble_eq_true rfl) d_M_recover_82 (fun H locs hP hD hS => ?_)
          have hP : va_P (dC, dI) vwCl [(m0, .inr (3, [.int (nI 0), .ref da, .int (nI 2), .int (nI g), .int (nI h), .int (nI us), .int (nI n), .ref ba, .ref ka, .ref ta, .int (nI tl), .int (-1), .int wr, .ref na, .ref ea])), (da, .inl (cD, 32768, .inl (hj_B d))), (ba, .inl (cB, 2000, .inl fb)), (ka, .inl (cK, 2000, .inl fk1))] H := hP
          have hD : va_D A [(m0, .inr (3, [.int (nI 0), .ref da, .int (nI 2), .int (nI g), .int (nI h), .int (nI us), .int (nI n), .ref ba, .ref ka, .ref ta, .int (nI tl), .int (-1), .int wr, .ref na, .ref ea])), (da, .inl (cD, 32768, .inl (hj_B d))), (ba, .inl (cB, 2000, .inl fb)), (ka, .inl (cK, 2000, .inl fk1))] := hD
          refine lv_aload_n hx hb d_M_recover_85 rfl (lv_at hl 3 rfl) ?_
          refine lv_aload_n hx hb d_M_recover_86 rfl (lv_at hl 3 rfl) ?_
          refine va_get (D := (dC, dI)) (ci := 3) (v := .ref da) (C := "HalfJournalModel") (T := F_M) (N := 15) hx hb hts i_M hown hK hP 0 rfl rfl 1 (by decide) (hts _ m_646) (fun _ h9 => h9) rfl d_M_recover_87 ?_
          refine lv_sipush (v := nI 512) hx hb d_M_recover_90 (by decide) ?_
          refine lv_iload_n hx hb d_M_recover_93 rfl (lv_at hl 0 rfl) ?_
          refine hj_imul hx hb d_M_recover_94 ?_
          refine lv_iconst (v := nI 4) hx hb d_M_recover_95 (by decide) ?_
          refine hj_iadd hx hb d_M_recover_96 ?_
          refine hj_calli (wc := [(da, .inl (cD, 32768, .inl (hj_B d)))]) (wr := [(m0, .inr (3, [.int (nI 0), .ref da, .int (nI 2), .int (nI g), .int (nI h), .int (nI us), .int (nI n), .ref ba, .ref ka, .ref ta, .int (nI tl), .int (-1), .int wr, .ref na, .ref ea])), (ba, .inl (cB, 2000, .inl fb)), (ka, .inl (cK, 2000, .inl fk1))]) [1] [0, 2, 3] hP hD hS hA rfl rfl rfl (by decide) (va_runS (As := [.ref da, .int (nI ((512 * 1) + 4))]) (rest := [.ref m0]) ⟨hx, hb, hml, hown, hts⟩ (c_M_four l dC dI da cD 32768 d (512 * 1 + 4) (by omega) (by omega) hd H.size) (cwS 2 hts (hj_gS m_707 m_708 m_4 m_709) rfl rfl rfl (by decide +kernel) ⟨Nat.le_of_ble_eq_true rfl, Nat.le_of_ble_eq_true rfl⟩) (hj_preS hj_E0ok hE hP hD hK hS hA [1] rfl rfl [0] rfl) rfl rfl hl.1 rfl (lv_room (Nat.le_of_ble_eq_true rfl)) d_M_recover_97 ⟨Nat.le_of_ble_eq_true rfl, Nat.le_of_ble_eq_true rfl⟩) (fun r_23 u_24 H locs hw hP hD hK1 hS => ?_)
          subst hw
          have hP : va_P (dC, dI) vwCl [(m0, .inr (3, [.int (nI 0), .ref da, .int (nI 2), .int (nI g), .int (nI h), .int (nI us), .int (nI n), .ref ba, .ref ka, .ref ta, .int (nI tl), .int (-1), .int wr, .ref na, .ref ea])), (da, .inl (cD, 32768, .inl (hj_B d))), (ba, .inl (cB, 2000, .inl fb)), (ka, .inl (cK, 2000, .inl fk1))] H := hP.sub [0, 3, 1, 2] rfl
          have hD : va_D A [(m0, .inr (3, [.int (nI 0), .ref da, .int (nI 2), .int (nI g), .int (nI h), .int (nI us), .int (nI n), .ref ba, .ref ka, .ref ta, .int (nI tl), .int (-1), .int wr, .ref na, .ref ea])), (da, .inl (cD, 32768, .inl (hj_B d))), (ba, .inl (cB, 2000, .inl fb)), (ka, .inl (cK, 2000, .inl fk1))] := hD.sub [0, 3, 1, 2] (by decide) rfl
          refine hj_topn (b := hj_hg d 1) ((hj_hg_ok a1).symm) ?_
          refine va_put (D := (dC, dI)) (ci := 3) (v := .int (nI (hj_hg d 1))) (ty := (.int)) (C := "HalfJournalModel") (T := F_M) (N := 15) hx hb hts i_M t_M t_M_ok n_M hown hK hP hD hS 0 rfl rfl 3 (by decide) (hts _ m_648) (fun _ h9 => h9) rfl (by decide +kernel) rfl rfl (Nat.le_of_ble_eq_true rfl) d_M_recover_100 (fun H locs hP hD hS => ?_)
          have hP : va_P (dC, dI) vwCl [(m0, .inr (3, [.int (nI 0), .ref da, .int (nI 2), .int (nI (hj_hg d 1)), .int (nI h), .int (nI us), .int (nI n), .ref ba, .ref ka, .ref ta, .int (nI tl), .int (-1), .int wr, .ref na, .ref ea])), (da, .inl (cD, 32768, .inl (hj_B d))), (ba, .inl (cB, 2000, .inl fb)), (ka, .inl (cK, 2000, .inl fk1))] H := hP
          have hD : va_D A [(m0, .inr (3, [.int (nI 0), .ref da, .int (nI 2), .int (nI (hj_hg d 1)), .int (nI h), .int (nI us), .int (nI n), .ref ba, .ref ka, .ref ta, .int (nI tl), .int (-1), .int wr, .ref na, .ref ea])), (da, .inl (cD, 32768, .inl (hj_B d))), (ba, .inl (cB, 2000, .inl fb)), (ka, .inl (cK, 2000, .inl fk1))] := hD
          refine lv_aload_n hx hb d_M_recover_103 rfl (lv_at hl 3 rfl) ?_
          refine lv_aload_n hx hb d_M_recover_104 rfl (lv_at hl 3 rfl) ?_
          refine va_get (D := (dC, dI)) (ci := 3) (v := .ref da) (C := "HalfJournalModel") (T := F_M) (N := 15) hx hb hts i_M hown hK hP 0 rfl rfl 1 (by decide) (hts _ m_646) (fun _ h9 => h9) rfl d_M_recover_105 ?_
          refine lv_sipush (v := nI 512) hx hb d_M_recover_108 (by decide) ?_
          refine lv_iload_n hx hb d_M_recover_111 rfl (lv_at hl 0 rfl) ?_
          refine hj_imul hx hb d_M_recover_112 ?_
          refine lv_iconst (v := nI 2) hx hb d_M_recover_113 (by decide) ?_
          refine hj_iadd hx hb d_M_recover_114 ?_
          refine hj_bald hx hb hK hP 1 0 rfl rfl (by omega) (by decide) d_M_recover_115 ?_
          refine hj_topv (y := nI (d (512 * 1 + 2))) (hj_sbs _ (by omega)) ?_
          refine va_put (D := (dC, dI)) (ci := 3) (v := .int (nI (d (512 * 1 + 2)))) (ty := (.int)) (C := "HalfJournalModel") (T := F_M) (N := 15) hx hb hts i_M t_M t_M_ok n_M hown hK hP hD hS 0 rfl rfl 4 (by decide) (hts _ m_649) (fun _ h9 => h9) rfl (by decide +kernel) rfl rfl (Nat.le_of_ble_eq_true rfl) d_M_recover_116 (fun H locs hP hD hS => ?_)
          have hP : va_P (dC, dI) vwCl [(m0, .inr (3, [.int (nI 0), .ref da, .int (nI 2), .int (nI (hj_hg d 1)), .int (nI (d (512 * 1 + 2))), .int (nI us), .int (nI n), .ref ba, .ref ka, .ref ta, .int (nI tl), .int (-1), .int wr, .ref na, .ref ea])), (da, .inl (cD, 32768, .inl (hj_B d))), (ba, .inl (cB, 2000, .inl fb)), (ka, .inl (cK, 2000, .inl fk1))] H := hP
          have hD : va_D A [(m0, .inr (3, [.int (nI 0), .ref da, .int (nI 2), .int (nI (hj_hg d 1)), .int (nI (d (512 * 1 + 2))), .int (nI us), .int (nI n), .ref ba, .ref ka, .ref ta, .int (nI tl), .int (-1), .int wr, .ref na, .ref ea])), (da, .inl (cD, 32768, .inl (hj_B d))), (ba, .inl (cB, 2000, .inl fb)), (ka, .inl (cK, 2000, .inl fk1))] := hD
          refine lv_aload_n hx hb d_M_recover_119 rfl (lv_at hl 3 rfl) ?_
          refine hj_callv (wc := [(m0, .inr (3, [.int (nI 0), .ref da, .int (nI 2), .int (nI (hj_hg d 1)), .int (nI (d (512 * 1 + 2))), .int (nI us), .int (nI n), .ref ba, .ref ka, .ref ta, .int (nI tl), .int (-1), .int wr, .ref na, .ref ea])), (da, .inl (cD, 32768, .inl (hj_B d))), (ba, .inl (cB, 2000, .inl fb))]) (wr := [(ka, .inl (cK, 2000, .inl fk1))]) [0, 1, 2] [3] hP hD hS hA rfl rfl rfl (by decide) (va_runV (As := []) (rest := []) ⟨hx, hb, hml, hown, hts⟩ (c_M_findRecords l dC dI m0 da ba ka ta na ea (nI 0) 2 (hj_hg d 1) (d (512 * 1 + 2)) us n tl (-1) wr cD d cB fb hh9 hd H.size) (cwV 0 hts (hj_gV m_718 m_720 s_M_findRecords m_4 m_721) rfl rfl rfl (by decide +kernel) ⟨Nat.le_of_ble_eq_true rfl, Nat.le_of_ble_eq_true rfl⟩) (hj_preV (ci := 3) (q0 := 0) hj_E0ok hE hP hD hK hS hA [0, 1, 2] rfl rfl [0, 1] rfl rfl rfl) rfl rfl hl.1 rfl (lv_room (Nat.le_of_ble_eq_true rfl)) d_M_recover_120 ⟨Nat.le_of_ble_eq_true rfl, Nat.le_of_ble_eq_true rfl⟩) (fun u_26 H locs hw hP hD hK1 hS => ?_)
          obtain ⟨fb1, rfl⟩ : ∃ z9, z9 = u_26 := ⟨_, rfl⟩
          have hP : va_P (dC, dI) vwCl [(m0, .inr (3, [.int (nI 0), .ref da, .int (nI 2), .int (nI (hj_hg d 1)), .int (nI (d (512 * 1 + 2))), .int (nI (hj_pos d (d (512 * 1 + 2)) (hj_N d (d (512 * 1 + 2))))), .int (nI (hj_N d (d (512 * 1 + 2)))), .ref ba, .ref ka, .ref ta, .int (nI tl), .int (-1), .int wr, .ref na, .ref ea])), (da, .inl (cD, 32768, .inl (hj_B d))), (ba, .inl (cB, 2000, .inl fb1)), (ka, .inl (cK, 2000, .inl fk1))] H := hP.sub [1, 2, 3, 0] rfl
          have hD : va_D A [(m0, .inr (3, [.int (nI 0), .ref da, .int (nI 2), .int (nI (hj_hg d 1)), .int (nI (d (512 * 1 + 2))), .int (nI (hj_pos d (d (512 * 1 + 2)) (hj_N d (d (512 * 1 + 2))))), .int (nI (hj_N d (d (512 * 1 + 2)))), .ref ba, .ref ka, .ref ta, .int (nI tl), .int (-1), .int wr, .ref na, .ref ea])), (da, .inl (cD, 32768, .inl (hj_B d))), (ba, .inl (cB, 2000, .inl fb1)), (ka, .inl (cK, 2000, .inl fk1))] := hD.sub [1, 2, 3, 0] (by decide) rfl
          refine lv_aload_n hx hb d_M_recover_123 rfl (lv_at hl 3 rfl) ?_
          refine va_get (D := (dC, dI)) (ci := 3) (v := .int (nI (hj_N d (d (512 * 1 + 2))))) (C := "HalfJournalModel") (T := F_M) (N := 15) hx hb hts i_M hown hK hP 0 rfl rfl 6 (by decide) (hts _ m_651) (fun _ h9 => h9) rfl d_M_recover_124 ?_
          exact hret (nI (hj_N d (d (512 * 1 + 2)))) (2, hj_hg d 1, d (512 * 1 + 2), hj_pos d (d (512 * 1 + 2)) (hj_N d (d (512 * 1 + 2))), hj_N d (d (512 * 1 + 2)), fb1, fk1) _ _ _ _ d_M_recover_127 rfl (⟨hz, Or.inr ⟨1, ⟨by omega, a1, fun q => absurd q (by decide), fun _ => by rw [hj_hg_no a0]; exact hp1⟩, rfl, rfl, rfl, rfl, rfl, rfl, hw⟩⟩) hP hK hD hS
        · omega
      · omega
  · refine lv_istore_n (lv' := [(2, .int (nI 0)), (1, .int (nI 0)), (0, .ref m0)]) hx hb d_M_recover_25 rfl hl (by decide) rfl (fun ls hl => ?_)
    refine lv_iload_n hx hb d_M_recover_26 rfl (lv_at hl 1 rfl) ?_
    refine hj_if_ne (tgt := 45) hx hb (by omega) d_M_recover_27 (by decide) (fun c_1 => ?_) (fun c_1 => ?_)
    · omega
    · refine lv_iload_n hx hb d_M_recover_30 rfl (lv_at hl 0 rfl) ?_
      refine hj_if_ne (tgt := 45) hx hb (by omega) d_M_recover_31 (by decide) (fun c_2 => ?_) (fun c_2 => ?_)
      · omega
      · refine lv_aload_n hx hb d_M_recover_34 rfl (lv_at hl 2 rfl) ?_
        refine lv_iconst (v := nI 1) hx hb d_M_recover_35 (by decide) ?_
        refine va_put (D := (dC, dI)) (ci := 3) (v := .int (nI 1)) (ty := (.int)) (C := "HalfJournalModel") (T := F_M) (N := 15) hx hb hts i_M t_M t_M_ok n_M hown hK hP hD hS 0 rfl rfl 2 (by decide) (hts _ m_647) (fun _ h9 => h9) rfl (by decide +kernel) rfl rfl (Nat.le_of_ble_eq_true rfl) d_M_recover_36 (fun H locs hP hD hS => ?_)
        have hP : va_P (dC, dI) vwCl [(m0, .inr (3, [.int (nI 0), .ref da, .int (nI 1), .int (nI g), .int (nI h), .int (nI us), .int (nI n), .ref ba, .ref ka, .ref ta, .int (nI tl), .int (-1), .int wr, .ref na, .ref ea])), (da, .inl (cD, 32768, .inl (hj_B d))), (ba, .inl (cB, 2000, .inl fb)), (ka, .inl (cK, 2000, .inl fk1))] H := hP
        have hD : va_D A [(m0, .inr (3, [.int (nI 0), .ref da, .int (nI 1), .int (nI g), .int (nI h), .int (nI us), .int (nI n), .ref ba, .ref ka, .ref ta, .int (nI tl), .int (-1), .int wr, .ref na, .ref ea])), (da, .inl (cD, 32768, .inl (hj_B d))), (ba, .inl (cB, 2000, .inl fb)), (ka, .inl (cK, 2000, .inl fk1))] := hD
        refine lv_aload_n hx hb d_M_recover_39 rfl (lv_at hl 2 rfl) ?_
        refine hj_callv (wc := [(m0, .inr (3, [.int (nI 0), .ref da, .int (nI 1), .int (nI g), .int (nI h), .int (nI us), .int (nI n), .ref ba, .ref ka, .ref ta, .int (nI tl), .int (-1), .int wr, .ref na, .ref ea]))]) (wr := [(da, .inl (cD, 32768, .inl (hj_B d))), (ba, .inl (cB, 2000, .inl fb)), (ka, .inl (cK, 2000, .inl fk1))]) [0] [1, 2, 3] hP hD hS hA rfl rfl rfl (by decide) (va_runV (As := []) (rest := []) ⟨hx, hb, hml, hown, hts⟩ (c_M_leave l dC dI m0 da ba ka ta na ea (nI 0) 1 g h us n tl (-1) wr H.size) (cwV 0 hts (hj_gV m_714 m_716 s_M_leave m_4 m_717) rfl rfl rfl (by decide +kernel) ⟨Nat.le_of_ble_eq_true rfl, Nat.le_of_ble_eq_true rfl⟩) (hj_preV (ci := 3) (q0 := 0) hj_E0ok hE hP hD hK hS hA [0] rfl rfl [] rfl rfl rfl) rfl rfl hl.1 rfl (lv_room (Nat.le_of_ble_eq_true rfl)) d_M_recover_40 ⟨Nat.le_of_ble_eq_true rfl, Nat.le_of_ble_eq_true rfl⟩) (fun u_28 H locs hw hP hD hK1 hS => ?_)
        have hP : va_P (dC, dI) vwCl [(m0, .inr (3, [.int (nI 0), .ref da, .int (nI 1), .int (nI 0), .int (nI 0), .int (nI 0), .int (nI 0), .ref ba, .ref ka, .ref ta, .int (nI tl), .int (-1), .int wr, .ref na, .ref ea])), (da, .inl (cD, 32768, .inl (hj_B d))), (ba, .inl (cB, 2000, .inl fb)), (ka, .inl (cK, 2000, .inl fk1))] H := hP.sub [3, 0, 1, 2] rfl
        have hD : va_D A [(m0, .inr (3, [.int (nI 0), .ref da, .int (nI 1), .int (nI 0), .int (nI 0), .int (nI 0), .int (nI 0), .ref ba, .ref ka, .ref ta, .int (nI tl), .int (-1), .int wr, .ref na, .ref ea])), (da, .inl (cD, 32768, .inl (hj_B d))), (ba, .inl (cB, 2000, .inl fb)), (ka, .inl (cK, 2000, .inl fk1))] := hD.sub [3, 0, 1, 2] (by decide) rfl
        refine lv_iconst (v := (-1)) hx hb d_M_recover_43 (by decide) ?_
        exact hret (-1) (1, 0, 0, 0, 0, fb, fk1) _ _ _ _ d_M_recover_44 rfl (⟨hz, Or.inl ⟨hj_hg_no a0, hj_hg_no a1, rfl, rfl, rfl, rfl, rfl, rfl⟩⟩) hP hK hD hS
abbrev rm_M_format : Room := { frames := 40, cells := 0, slots := 0, locals := 500 }
set_option maxHeartbeats 4000000 in
set_option maxRecDepth 100000 in
theorem c_M_format (l : Launch) (dC : Nat → ClassId) (dI : Nat → Nat → Nat) (m0 da ba ka ta na ea : Nat) (th : Int32) (st g h us n tl : Nat) (du wr : Int32) (cD : ClassId) (d : Nat → Nat) (cB : ClassId) (fb : Nat → Int32) (cK : ClassId) (fk : Nat → Int32) (cE : ClassId) (hx9 : Nat → Nat) (hd : hj_bs d) (hbe : hj_bs hx9) : hj_Mv l y_M_format b_M_format 2 rm_M_format hj_E0 (dC, dI) vwCl [(cD, .byte), (cB, .int), (cK, .boolean), (cE, .byte)] [(m0, .inr (3, [.int th, .ref da, .int (nI st), .int (nI g), .int (nI h), .int (nI us), .int (nI n), .ref ba, .ref ka, .ref ta, .int (nI tl), .int du, .int wr, .ref na, .ref ea])), (da, .inl (cD, 32768, .inl (hj_B d))), (ba, .inl (cB, 2000, .inl fb)), (ka, .inl (cK, 2000, .inl fk)), (ea, .inl (cE, 512, .inl (hj_B hx9)))] [.ref m0] (fun u => (∀ i, i < 2000 → u.2 i = nI 0) ∧ ∀ i, i < hj_N hj_fd 0 → u.1 i = nI (hj_pos hj_fd 0 i)) (fun u : (Nat → Int32) × (Nat → Int32) => [(m0, .inr (3, [.int (nI 0), .ref da, .int (nI 2), .int (nI 1), .int (nI 0), .int (nI (hj_pos hj_fd 0 (hj_N hj_fd 0))), .int (nI (hj_N hj_fd 0)), .ref ba, .ref ka, .ref ta, .int (nI tl), .int (-1), .int wr, .ref na, .ref ea])), (da, .inl (cD, 32768, .inl (hj_B hj_fd))), (ba, .inl (cB, 2000, .inl u.1)), (ka, .inl (cK, 2000, .inl u.2)), (ea, .inl (cE, 512, .inl (hj_B (hj_hd 0 1))))]) (fun _ => [(cD, .byte), (cB, .int), (cK, .boolean), (cE, .byte)]) 0 0 := by
  refine hj_bodyV (by decide +kernel) (Nat.le_of_ble_eq_true rfl) ?_
  intro p e s m args below meth c A Q ls hx hb hts hown hml hin hA hP hK hD hE hl hret
  have hS : va_S A s.heap s.heap [] := va_S.rf
  have hown : s.vm.findClass "HalfJournalModel" = some m.cls := hown
  have hl : lv_has ls 2 [(0, .ref m0)] := hl
  have hP : va_P (dC, dI) vwCl [(m0, .inr (3, [.int th, .ref da, .int (nI st), .int (nI g), .int (nI h), .int (nI us), .int (nI n), .ref ba, .ref ka, .ref ta, .int (nI tl), .int du, .int wr, .ref na, .ref ea])), (da, .inl (cD, 32768, .inl (hj_B d))), (ba, .inl (cB, 2000, .inl fb)), (ka, .inl (cK, 2000, .inl fk)), (ea, .inl (cE, 512, .inl (hj_B hx9)))] s.heap := hP
  have hD : va_D A [(m0, .inr (3, [.int th, .ref da, .int (nI st), .int (nI g), .int (nI h), .int (nI us), .int (nI n), .ref ba, .ref ka, .ref ta, .int (nI tl), .int du, .int wr, .ref na, .ref ea])), (da, .inl (cD, 32768, .inl (hj_B d))), (ba, .inl (cB, 2000, .inl fb)), (ka, .inl (cK, 2000, .inl fk)), (ea, .inl (cE, 512, .inl (hj_B hx9)))] := hD
  refine lv_aload_n hx hb d_M_format_0 rfl (lv_at hl 0 rfl) ?_
  refine lv_iconst (v := nI 0) hx hb d_M_format_1 (by decide) ?_
  refine va_put (D := (dC, dI)) (ci := 3) (v := .int (nI 0)) (ty := (.int)) (C := "HalfJournalModel") (T := F_M) (N := 15) hx hb hts i_M t_M t_M_ok n_M hown hK hP hD hS 0 rfl rfl 0 (by decide) (hts _ m_645) (fun _ h9 => h9) rfl (by decide +kernel) rfl rfl (Nat.le_of_ble_eq_true rfl) d_M_format_2 (fun H locs hP hD hS => ?_)
  have hP : va_P (dC, dI) vwCl [(m0, .inr (3, [.int (nI 0), .ref da, .int (nI st), .int (nI g), .int (nI h), .int (nI us), .int (nI n), .ref ba, .ref ka, .ref ta, .int (nI tl), .int du, .int wr, .ref na, .ref ea])), (da, .inl (cD, 32768, .inl (hj_B d))), (ba, .inl (cB, 2000, .inl fb)), (ka, .inl (cK, 2000, .inl fk)), (ea, .inl (cE, 512, .inl (hj_B hx9)))] H := hP
  have hD : va_D A [(m0, .inr (3, [.int (nI 0), .ref da, .int (nI st), .int (nI g), .int (nI h), .int (nI us), .int (nI n), .ref ba, .ref ka, .ref ta, .int (nI tl), .int du, .int wr, .ref na, .ref ea])), (da, .inl (cD, 32768, .inl (hj_B d))), (ba, .inl (cB, 2000, .inl fb)), (ka, .inl (cK, 2000, .inl fk)), (ea, .inl (cE, 512, .inl (hj_B hx9)))] := hD
  refine lv_iconst (v := nI 0) hx hb d_M_format_5 (by decide) ?_
  refine lv_istore_n (lv' := [(1, .int (nI 0)), (0, .ref m0)]) hx hb d_M_format_6 rfl hl (by decide) rfl (fun ls hl => ?_)
  have lp : ∀ (n9_lp : Nat) (i : Nat) (d : Nat → Nat), (i ≤ 32768) → (hj_bs d) → (∀ k, k < i → d k = 0) → (32768 - i) < n9_lp → ∀ (H : Heap) (locs : List Loc), va_P (dC, dI) vwCl [(m0, .inr (3, [.int (nI 0), .ref da, .int (nI st), .int (nI g), .int (nI h), .int (nI us), .int (nI n), .ref ba, .ref ka, .ref ta, .int (nI tl), .int du, .int wr, .ref na, .ref ea])), (da, .inl (cD, 32768, .inl (hj_B d))), (ba, .inl (cB, 2000, .inl fb)), (ka, .inl (cK, 2000, .inl fk)), (ea, .inl (cE, 512, .inl (hj_B hx9)))] H → va_D A [(m0, .inr (3, [.int (nI 0), .ref da, .int (nI st), .int (nI g), .int (nI h), .int (nI us), .int (nI n), .ref ba, .ref ka, .ref ta, .int (nI tl), .int du, .int wr, .ref na, .ref ea])), (da, .inl (cD, 32768, .inl (hj_B d))), (ba, .inl (cB, 2000, .inl fb)), (ka, .inl (cK, 2000, .inl fk)), (ea, .inl (cE, 512, .inl (hj_B hx9)))] → va_S A s.heap H locs → ∀ (ls : Array Slot), lv_has ls 2 [(0, .ref m0), (1, .int (nI i))] → W p l e rm_M_format s m args below meth c H locs 0 0 Q (F0 m 7 ls []) := by
    intro n9_lp
    induction n9_lp with
    | zero =>
      intro i d hi hbd hz9 hm_lp
      exact absurd hm_lp (Nat.not_lt_zero _)
    | succ n9_lp ih_lp =>
      intro i d hi hbd hz9 hm_lp H locs hP hD hS ls hl
      refine lv_iload_n hx hb d_M_format_7 rfl (lv_at hl 1 rfl) ?_
      refine lv_ldc (own := "HalfJournalModel") (v := (32768)) hx hb hown (hts _ m_644) d_M_format_8 ?_
      refine hj_topv (y := nI 32768) (by decide +kernel) ?_
      refine hj_icmp_ge (tgt := 26) hx hb (by omega) (by omega) d_M_format_10 (by decide) (fun c_1 => ?_) (fun c_1 => ?_)
      · refine lv_aload_n hx hb d_M_format_26 rfl (lv_at hl 0 rfl) ?_
        refine lv_iconst (v := nI 0) hx hb d_M_format_27 (by decide) ?_
        refine lv_iconst (v := nI 1) hx hb d_M_format_28 (by decide) ?_
        refine hj_callv (wc := [(m0, .inr (3, [.int (nI 0), .ref da, .int (nI st), .int (nI g), .int (nI h), .int (nI us), .int (nI n), .ref ba, .ref ka, .ref ta, .int (nI tl), .int du, .int wr, .ref na, .ref ea])), (ea, .inl (cE, 512, .inl (hj_B hx9)))]) (wr := [(da, .inl (cD, 32768, .inl (hj_B d))), (ba, .inl (cB, 2000, .inl fb)), (ka, .inl (cK, 2000, .inl fk))]) [0, 4] [1, 2, 3] hP hD hS hA rfl rfl rfl (by decide) (va_runV (As := [.int (nI 0), .int (nI 1)]) (rest := []) ⟨hx, hb, hml, hown, hts⟩ (c_M_layHead l dC dI m0 da ba ka ta na ea (nI 0) st g h us n tl du wr cE hx9 0 1 hbe (by omega) (by omega) H.size) (cwV 2 hts (hj_gV m_736 m_738 s_M_layHead m_4 m_739) rfl rfl rfl (by decide +kernel) ⟨Nat.le_of_ble_eq_true rfl, Nat.le_of_ble_eq_true rfl⟩) (hj_preV (ci := 3) (q0 := 0) hj_E0ok hE hP hD hK hS hA [0, 4] rfl rfl [3] rfl rfl rfl) rfl rfl hl.1 rfl (lv_room (Nat.le_of_ble_eq_true rfl)) d_M_format_29 ⟨Nat.le_of_ble_eq_true rfl, Nat.le_of_ble_eq_true rfl⟩) (fun u_2 H locs hw hP hD hK1 hS => ?_)
        have hP : va_P (dC, dI) vwCl [(m0, .inr (3, [.int (nI 0), .ref da, .int (nI st), .int (nI g), .int (nI h), .int (nI us), .int (nI n), .ref ba, .ref ka, .ref ta, .int (nI tl), .int du, .int wr, .ref na, .ref ea])), (da, .inl (cD, 32768, .inl (hj_B d))), (ba, .inl (cB, 2000, .inl fb)), (ka, .inl (cK, 2000, .inl fk)), (ea, .inl (cE, 512, .inl (hj_B (hj_hd 0 1))))] H := hP.sub [3, 0, 1, 2, 4] rfl
        have hD : va_D A [(m0, .inr (3, [.int (nI 0), .ref da, .int (nI st), .int (nI g), .int (nI h), .int (nI us), .int (nI n), .ref ba, .ref ka, .ref ta, .int (nI tl), .int du, .int wr, .ref na, .ref ea])), (da, .inl (cD, 32768, .inl (hj_B d))), (ba, .inl (cB, 2000, .inl fb)), (ka, .inl (cK, 2000, .inl fk)), (ea, .inl (cE, 512, .inl (hj_B (hj_hd 0 1))))] := hD.sub [3, 0, 1, 2, 4] (by decide) rfl
        refine lv_iconst (v := nI 0) hx hb d_M_format_32 (by decide) ?_
        refine lv_istore_n (lv' := [(1, .int (nI 0)), (0, .ref m0)]) hx hb d_M_format_33 rfl hl (by decide) rfl (fun ls hl => ?_)
        have h9 : (d : Nat → Nat) = va_cpy (hj_hd 0 1) d 0 512 0 := (hj_cpy0 _ d 0 512).symm
        rw [h9] at hP hD
        have hP : va_P (dC, dI) vwCl [(m0, .inr (3, [.int (nI 0), .ref da, .int (nI st), .int (nI g), .int (nI h), .int (nI us), .int (nI n), .ref ba, .ref ka, .ref ta, .int (nI tl), .int du, .int wr, .ref na, .ref ea])), (da, .inl (cD, 32768, .inl (hj_B (va_cpy (hj_hd 0 1) d 0 512 0)))), (ba, .inl (cB, 2000, .inl fb)), (ka, .inl (cK, 2000, .inl fk)), (ea, .inl (cE, 512, .inl (hj_B (hj_hd 0 1))))] H := hP
        have hD : va_D A [(m0, .inr (3, [.int (nI 0), .ref da, .int (nI st), .int (nI g), .int (nI h), .int (nI us), .int (nI n), .ref ba, .ref ka, .ref ta, .int (nI tl), .int du, .int wr, .ref na, .ref ea])), (da, .inl (cD, 32768, .inl (hj_B (va_cpy (hj_hd 0 1) d 0 512 0)))), (ba, .inl (cB, 2000, .inl fb)), (ka, .inl (cK, 2000, .inl fk)), (ea, .inl (cE, 512, .inl (hj_B (hj_hd 0 1))))] := hD
        have l2 : ∀ (n9_l2 : Nat) (y : Nat), (y ≤ 12) → (12 - y) < n9_l2 → ∀ (H : Heap) (locs : List Loc), va_P (dC, dI) vwCl [(m0, .inr (3, [.int (nI 0), .ref da, .int (nI st), .int (nI g), .int (nI h), .int (nI us), .int (nI n), .ref ba, .ref ka, .ref ta, .int (nI tl), .int du, .int wr, .ref na, .ref ea])), (da, .inl (cD, 32768, .inl (hj_B (va_cpy (hj_hd 0 1) d 0 512 y)))), (ba, .inl (cB, 2000, .inl fb)), (ka, .inl (cK, 2000, .inl fk)), (ea, .inl (cE, 512, .inl (hj_B (hj_hd 0 1))))] H → va_D A [(m0, .inr (3, [.int (nI 0), .ref da, .int (nI st), .int (nI g), .int (nI h), .int (nI us), .int (nI n), .ref ba, .ref ka, .ref ta, .int (nI tl), .int du, .int wr, .ref na, .ref ea])), (da, .inl (cD, 32768, .inl (hj_B (va_cpy (hj_hd 0 1) d 0 512 y)))), (ba, .inl (cB, 2000, .inl fb)), (ka, .inl (cK, 2000, .inl fk)), (ea, .inl (cE, 512, .inl (hj_B (hj_hd 0 1))))] → va_S A s.heap H locs → ∀ (ls : Array Slot), lv_has ls 2 [(0, .ref m0), (1, .int (nI y))] → W p l e rm_M_format s m args below meth c H locs 0 0 Q (F0 m 34 ls []) := by
          intro n9_l2
          induction n9_l2 with
          | zero =>
            intro y hy hm_l2
            exact absurd hm_l2 (Nat.not_lt_zero _)
          | succ n9_l2 ih_l2 =>
            intro y hy hm_l2 H locs hP hD hS ls hl
            refine lv_iload_n hx hb d_M_format_34 rfl (lv_at hl 1 rfl) ?_
            refine lv_bipush (v := nI 12) hx hb d_M_format_35 (by decide) ?_
            refine hj_icmp_ge (tgt := 62) hx hb (by omega) (by omega) d_M_format_37 (by decide) (fun c_2 => ?_) (fun c_2 => ?_)
            · obtain rfl : y = 12 := by omega
              have hl : lv_has ls 2 [(0, .ref m0)] := lv_sub hl [0] rfl
              have h9 : ∀ j, j < 32768 → ((va_cpy (hj_hd 0 1) d 0 512 12)) j = (hj_fd) j := hj_fd_of2 d (fun k hk => hz9 k (by omega))
              have hD := hD.set (p := 1) (e := .inl (cD, 32768, .inl (hj_B hj_fd))) rfl
              have hP := hj_arr hP 1 rfl (hj_B hj_fd) (fun j hj => congrArg sb_b (h9 j hj))
              have hP : va_P (dC, dI) vwCl [(m0, .inr (3, [.int (nI 0), .ref da, .int (nI st), .int (nI g), .int (nI h), .int (nI us), .int (nI n), .ref ba, .ref ka, .ref ta, .int (nI tl), .int du, .int wr, .ref na, .ref ea])), (da, .inl (cD, 32768, .inl (hj_B hj_fd))), (ba, .inl (cB, 2000, .inl fb)), (ka, .inl (cK, 2000, .inl fk)), (ea, .inl (cE, 512, .inl (hj_B (hj_hd 0 1))))] H := hP
              have hD : va_D A [(m0, .inr (3, [.int (nI 0), .ref da, .int (nI st), .int (nI g), .int (nI h), .int (nI us), .int (nI n), .ref ba, .ref ka, .ref ta, .int (nI tl), .int du, .int wr, .ref na, .ref ea])), (da, .inl (cD, 32768, .inl (hj_B hj_fd))), (ba, .inl (cB, 2000, .inl fb)), (ka, .inl (cK, 2000, .inl fk)), (ea, .inl (cE, 512, .inl (hj_B (hj_hd 0 1))))] := hD
              refine lv_aload_n hx hb d_M_format_62 rfl (lv_at hl 0 rfl) ?_
              refine hj_calli (wc := [(m0, .inr (3, [.int (nI 0), .ref da, .int (nI st), .int (nI g), .int (nI h), .int (nI us), .int (nI n), .ref ba, .ref ka, .ref ta, .int (nI tl), .int du, .int wr, .ref na, .ref ea])), (da, .inl (cD, 32768, .inl (hj_B hj_fd))), (ba, .inl (cB, 2000, .inl fb)), (ka, .inl (cK, 2000, .inl fk))]) (wr := [(ea, .inl (cE, 512, .inl (hj_B (hj_hd 0 1))))]) [0, 1, 2, 3] [4] hP hD hS hA rfl rfl rfl (by decide) (va_runV (As := []) (rest := []) ⟨hx, hb, hml, hown, hts⟩ (c_M_recover l dC dI m0 da ba ka ta na ea (nI 0) st g h us n tl du wr cD hj_fd cB fb cK fk hj_fd_bs H.size) (cwV 0 hts (hj_gV m_743 m_696 m_697 m_4 m_698) rfl rfl rfl (by decide +kernel) ⟨Nat.le_of_ble_eq_true rfl, Nat.le_of_ble_eq_true rfl⟩) (hj_preV (ci := 3) (q0 := 0) hj_E0ok hE hP hD hK hS hA [0, 1, 2, 3] rfl rfl [0, 1, 2] rfl rfl rfl) rfl rfl hl.1 rfl (lv_room (Nat.le_of_ble_eq_true rfl)) d_M_format_63 ⟨Nat.le_of_ble_eq_true rfl, Nat.le_of_ble_eq_true rfl⟩) (fun r_3 u_4 H locs hw hP hD hK1 hS => ?_)
              obtain ⟨st1, g1, h1, us1, n1, fb1, fk1⟩ := u_4
              have hP : va_P (dC, dI) vwCl [(m0, .inr (3, [.int (nI 0), .ref da, .int (nI st1), .int (nI g1), .int (nI h1), .int (nI us1), .int (nI n1), .ref ba, .ref ka, .ref ta, .int (nI tl), .int (-1), .int wr, .ref na, .ref ea])), (da, .inl (cD, 32768, .inl (hj_B hj_fd))), (ba, .inl (cB, 2000, .inl fb1)), (ka, .inl (cK, 2000, .inl fk1)), (ea, .inl (cE, 512, .inl (hj_B (hj_hd 0 1))))] H := hP.sub [1, 2, 3, 4, 0] rfl
              have hD : va_D A [(m0, .inr (3, [.int (nI 0), .ref da, .int (nI st1), .int (nI g1), .int (nI h1), .int (nI us1), .int (nI n1), .ref ba, .ref ka, .ref ta, .int (nI tl), .int (-1), .int wr, .ref na, .ref ea])), (da, .inl (cD, 32768, .inl (hj_B hj_fd))), (ba, .inl (cB, 2000, .inl fb1)), (ka, .inl (cK, 2000, .inl fk1)), (ea, .inl (cE, 512, .inl (hj_B (hj_hd 0 1))))] := hD.sub [1, 2, 3, 4, 0] (by decide) rfl
              obtain ⟨hz, hw⟩ := hw
              rcases hw with ⟨_, q1, _⟩ | ⟨b, hb9, rfl, rfl, rfl, rfl, rfl, rfl, hf9⟩
              · rw [hj_fd_hg1] at q1
                exact absurd q1 (by decide)
              · obtain rfl := hj_fd_rcv hb9
                have h514 : hj_fd (512 * 1 + 2) = 0 := hj_fd_1.2.2
                rw [h514] at hP hD hf9
                rw [hj_fd_hg1] at hP hD
                rw [h514]
                refine lv_istore_n (lv' := [(1, .int (nI (hj_N hj_fd 0))), (0, .ref m0)]) hx hb d_M_format_66 rfl hl (by decide) rfl (fun ls hl => ?_)
                exact hret (fb1, fk1) _ _ _ _ d_M_format_67 (⟨hz, hf9⟩) hP hK hD hS
            · refine lv_aload_n hx hb d_M_format_40 rfl (lv_at hl 0 rfl) ?_
              refine va_get (D := (dC, dI)) (ci := 3) (v := .ref da) (C := "HalfJournalModel") (T := F_M) (N := 15) hx hb hts i_M hown hK hP 0 rfl rfl 1 (by decide) (hts _ m_646) (fun _ h9 => h9) rfl d_M_format_41 ?_
              refine lv_sipush (v := nI 512) hx hb d_M_format_44 (by decide) ?_
              refine lv_iload_n hx hb d_M_format_47 rfl (lv_at hl 1 rfl) ?_
              refine hj_iadd hx hb d_M_format_48 ?_
              refine lv_aload_n hx hb d_M_format_49 rfl (lv_at hl 0 rfl) ?_
              refine va_get (D := (dC, dI)) (ci := 3) (v := .ref ea) (C := "HalfJournalModel") (T := F_M) (N := 15) hx hb hts i_M hown hK hP 0 rfl rfl 14 (by decide) (hts _ m_659) (fun _ h9 => h9) rfl d_M_format_50 ?_
              refine lv_iload_n hx hb d_M_format_53 rfl (lv_at hl 1 rfl) ?_
              refine hj_bald hx hb hK hP 4 3 rfl rfl (by omega) (by decide) d_M_format_54 ?_
              refine hj_bast hx hb hK hP hD hS 1 0 rfl rfl (by omega) (by decide) d_M_format_55 (fun H locs hP hD hS => ?_)
              have hP : va_P (dC, dI) vwCl [(m0, .inr (3, [.int (nI 0), .ref da, .int (nI st), .int (nI g), .int (nI h), .int (nI us), .int (nI n), .ref ba, .ref ka, .ref ta, .int (nI tl), .int du, .int wr, .ref na, .ref ea])), (da, .inl (cD, 32768, .inl (hj_B (va_up (va_cpy (hj_hd 0 1) d 0 512 y) (512 + y) ((hj_hd 0 1) y))))), (ba, .inl (cB, 2000, .inl fb)), (ka, .inl (cK, 2000, .inl fk)), (ea, .inl (cE, 512, .inl (hj_B (hj_hd 0 1))))] H := hP
              have hD : va_D A [(m0, .inr (3, [.int (nI 0), .ref da, .int (nI st), .int (nI g), .int (nI h), .int (nI us), .int (nI n), .ref ba, .ref ka, .ref ta, .int (nI tl), .int du, .int wr, .ref na, .ref ea])), (da, .inl (cD, 32768, .inl (hj_B (va_up (va_cpy (hj_hd 0 1) d 0 512 y) (512 + y) ((hj_hd 0 1) y))))), (ba, .inl (cB, 2000, .inl fb)), (ka, .inl (cK, 2000, .inl fk)), (ea, .inl (cE, 512, .inl (hj_B (hj_hd 0 1))))] := hD
              have h9 : (va_up (va_cpy (hj_hd 0 1) d 0 512 y) (512 + y) ((hj_hd 0 1) y) : Nat → Nat) = va_cpy (hj_hd 0 1) d 0 512 (y + 1) := by have h8 := hj_cpyS (hj_hd 0 1) d 0 512 y; rw [Nat.zero_add] at h8; exact h8
              rw [h9] at hP hD
              have hP : va_P (dC, dI) vwCl [(m0, .inr (3, [.int (nI 0), .ref da, .int (nI st), .int (nI g), .int (nI h), .int (nI us), .int (nI n), .ref ba, .ref ka, .ref ta, .int (nI tl), .int du, .int wr, .ref na, .ref ea])), (da, .inl (cD, 32768, .inl (hj_B (va_cpy (hj_hd 0 1) d 0 512 (y + 1))))), (ba, .inl (cB, 2000, .inl fb)), (ka, .inl (cK, 2000, .inl fk)), (ea, .inl (cE, 512, .inl (hj_B (hj_hd 0 1))))] H := hP
              have hD : va_D A [(m0, .inr (3, [.int (nI 0), .ref da, .int (nI st), .int (nI g), .int (nI h), .int (nI us), .int (nI n), .ref ba, .ref ka, .ref ta, .int (nI tl), .int du, .int wr, .ref na, .ref ea])), (da, .inl (cD, 32768, .inl (hj_B (va_cpy (hj_hd 0 1) d 0 512 (y + 1))))), (ba, .inl (cB, 2000, .inl fb)), (ka, .inl (cK, 2000, .inl fk)), (ea, .inl (cE, 512, .inl (hj_B (hj_hd 0 1))))] := hD
              refine lv_iinc (v := nI (y + 1)) (lv' := [(1, .int (nI (y + 1))), (0, .ref m0)]) hx hb d_M_format_56 hl (k := 1) rfl (nI_1 _) (by decide) rfl (fun ls hl => ?_)
              refine lv_goto (tgt := 34) hx hb d_M_format_59 (by decide) ?_
              exact ih_l2 (y + 1) (by omega) (by omega) _ _ hP hD hS _ (lv_sub hl [1, 0] rfl)
        exact l2 _ 0 (by omega) (Nat.lt_succ_self _) _ _ hP hD hS _ (lv_sub hl [1, 0] rfl)
      · refine lv_aload_n hx hb d_M_format_13 rfl (lv_at hl 0 rfl) ?_
        refine va_get (D := (dC, dI)) (ci := 3) (v := .ref da) (C := "HalfJournalModel") (T := F_M) (N := 15) hx hb hts i_M hown hK hP 0 rfl rfl 1 (by decide) (hts _ m_646) (fun _ h9 => h9) rfl d_M_format_14 ?_
        refine lv_iload_n hx hb d_M_format_17 rfl (lv_at hl 1 rfl) ?_
        refine lv_iconst (v := nI 0) hx hb d_M_format_18 (by decide) ?_
        refine hj_topv (y := sb_b 0) (by decide) ?_
        refine hj_bast hx hb hK hP hD hS 1 0 rfl rfl (by omega) (by decide) d_M_format_19 (fun H locs hP hD hS => ?_)
        have hP : va_P (dC, dI) vwCl [(m0, .inr (3, [.int (nI 0), .ref da, .int (nI st), .int (nI g), .int (nI h), .int (nI us), .int (nI n), .ref ba, .ref ka, .ref ta, .int (nI tl), .int du, .int wr, .ref na, .ref ea])), (da, .inl (cD, 32768, .inl (hj_B (va_up d i 0)))), (ba, .inl (cB, 2000, .inl fb)), (ka, .inl (cK, 2000, .inl fk)), (ea, .inl (cE, 512, .inl (hj_B hx9)))] H := hP
        have hD : va_D A [(m0, .inr (3, [.int (nI 0), .ref da, .int (nI st), .int (nI g), .int (nI h), .int (nI us), .int (nI n), .ref ba, .ref ka, .ref ta, .int (nI tl), .int du, .int wr, .ref na, .ref ea])), (da, .inl (cD, 32768, .inl (hj_B (va_up d i 0)))), (ba, .inl (cB, 2000, .inl fb)), (ka, .inl (cK, 2000, .inl fk)), (ea, .inl (cE, 512, .inl (hj_B hx9)))] := hD
        refine lv_iinc (v := nI (i + 1)) (lv' := [(1, .int (nI (i + 1))), (0, .ref m0)]) hx hb d_M_format_20 hl (k := 1) rfl (nI_1 _) (by decide) rfl (fun ls hl => ?_)
        refine lv_goto (tgt := 7) hx hb d_M_format_23 (by decide) ?_
        exact ih_lp (i + 1) (va_up d i 0) (by omega) (hj_up_bs hbd (by omega)) (hj_zup i d hz9) (by omega) _ _ hP hD hS _ (lv_sub hl [1, 0] rfl)
  exact lp _ 0 d (by omega) (hd) (fun k hk => absurd hk (Nat.not_lt_zero k)) (Nat.lt_succ_self _) _ _ hP hD hS _ (lv_sub hl [1, 0] rfl)
abbrev rm_M_init : Room := { frames := 8, cells := 6, slots := 54152, locals := 100 }
set_option maxHeartbeats 4000000 in
set_option maxRecDepth 100000 in
theorem c_M_init (l : Launch) (dC : Nat → ClassId) (dI : Nat → Nat → Nat) (m0 : Nat) : hj_Mv l y_M_init b_M_init 1 rm_M_init hj_E0 (dC, dI) vwCl [] [(m0, .inr (3, [.int 0, .null, .int 0, .int 0, .int 0, .int 0, .int 0, .null, .null, .null, .int 0, .int 0, .int 0, .null, .null]))] [.ref m0] (fun _ => True) (fun (((da, ba, ka, ta, na, ea), (cD, cB, cK), (cT, cN, cE)) : (Nat × Nat × Nat × Nat × Nat × Nat) × (ClassId × ClassId × ClassId) × (ClassId × ClassId × ClassId)) => [(m0, .inr (3, [.int (nI 0), .ref da, .int (nI 1), .int (nI 0), .int (nI 0), .int (nI 0), .int (nI 0), .ref ba, .ref ka, .ref ta, .int (nI 0), .int (-1), .int (nI 0), .ref na, .ref ea])), (da, .inl (cD, 32768, .inl (hj_B (fun _ => 0)))), (ba, .inl (cB, 2000, .inl (fun _ => 0))), (ka, .inl (cK, 2000, .inl (fun _ => 0))), (ta, .inl (cT, 1000, .inl (hj_B (fun _ => 0)))), (na, .inl (cN, 15872, .inl (hj_B (fun _ => 0)))), (ea, .inl (cE, 512, .inl (hj_B (fun _ => 0))))]) (fun (((da, ba, ka, ta, na, ea), (cD, cB, cK), (cT, cN, cE)) : (Nat × Nat × Nat × Nat × Nat × Nat) × (ClassId × ClassId × ClassId) × (ClassId × ClassId × ClassId)) => [(cD, .byte), (cB, .int), (cK, .boolean), (cT, .byte), (cN, .byte), (cE, .byte)]) 6 54152 := by
  refine hj_bodyV (by decide +kernel) (Nat.le_of_ble_eq_true rfl) ?_
  intro p e s m args below meth c A Q ls hx hb hts hown hml hin hA hP hK hD hE hl hret
  have hS : va_S A s.heap s.heap [] := va_S.rf
  have hown : s.vm.findClass "HalfJournalModel" = some m.cls := hown
  have hl : lv_has ls 1 [(0, .ref m0)] := hl
  have hP : va_P (dC, dI) vwCl [(m0, .inr (3, [.int 0, .null, .int 0, .int 0, .int 0, .int 0, .int 0, .null, .null, .null, .int 0, .int 0, .int 0, .null, .null]))] s.heap := hP
  have hD : va_D A [(m0, .inr (3, [.int 0, .null, .int 0, .int 0, .int 0, .int 0, .int 0, .null, .null, .null, .int 0, .int 0, .int 0, .null, .null]))] := hD
  refine lv_aload_n hx hb d_M_init_0 rfl (lv_at hl 0 rfl) ?_
  refine W.objInit hx hb hown (hts _ m_643) (hts _ m_28) (hts _ m_29) rfl (by rw [hml]; exact hl.1) rfl d_M_init_1 (Nat.le_of_ble_eq_true rfl) (Nat.le_of_ble_eq_true rfl) ?_
  refine W.eq (g2 := F0 m 4 ls []) rfl ?_
  refine lv_aload_n hx hb d_M_init_4 rfl (lv_at hl 0 rfl) ?_
  refine lv_ldc (own := "HalfJournalModel") (v := (32768)) hx hb hown (hts _ m_644) d_M_init_5 ?_
  refine hj_topv (y := nI 32768) (by decide +kernel) ?_
  refine va_newa (a0 := (32768, .inl (hj_B (fun _ => 0)))) (N' := 32768) (atype := .byte) (ty := .byte) hx hb (hts _ m_50) rfl hK hP hD hS hA (hj_new_b _) (nI_pos (by decide)) (nI_clamp (by decide)) (by decide) (Nat.le_of_ble_eq_true rfl) (Nat.le_of_ble_eq_true rfl) d_M_init_7 (fun da cD H hK hP hD hS => ?_)
  have hP : va_P (dC, dI) vwCl [(m0, .inr (3, [.int 0, .null, .int 0, .int 0, .int 0, .int 0, .int 0, .null, .null, .null, .int 0, .int 0, .int 0, .null, .null])), (da, .inl (cD, 32768, .inl (hj_B (fun _ => 0))))] H := hP
  have hD : va_D A [(m0, .inr (3, [.int 0, .null, .int 0, .int 0, .int 0, .int 0, .int 0, .null, .null, .null, .int 0, .int 0, .int 0, .null, .null])), (da, .inl (cD, 32768, .inl (hj_B (fun _ => 0))))] := hD
  have hK : va_K (dC, dI) vwCl [(cD, .byte)] s := hK
  refine va_putF (D := (dC, dI)) (ci := 3) (v := .ref da) (ty := (.array .byte)) (C := "HalfJournalModel") (T := F_M) (N := 15) hx hb hts i_M t_M t_M_ok n_M hown hK hP hD hS 0 rfl rfl 1 (by decide) (hts _ m_646) (fun _ h9 => h9) rfl hin rfl (by decide +kernel) rfl rfl (Nat.le_of_ble_eq_true rfl) d_M_init_9 (fun H locs hP hD hS => ?_)
  have hP : va_P (dC, dI) vwCl [(m0, .inr (3, [.int 0, .ref da, .int 0, .int 0, .int 0, .int 0, .int 0, .null, .null, .null, .int 0, .int 0, .int 0, .null, .null])), (da, .inl (cD, 32768, .inl (hj_B (fun _ => 0))))] H := hP
  have hD : va_D A [(m0, .inr (3, [.int 0, .ref da, .int 0, .int 0, .int 0, .int 0, .int 0, .null, .null, .null, .int 0, .int 0, .int 0, .null, .null])), (da, .inl (cD, 32768, .inl (hj_B (fun _ => 0))))] := hD
  refine lv_aload_n hx hb d_M_init_12 rfl (lv_at hl 0 rfl) ?_
  refine lv_iconst (v := nI 1) hx hb d_M_init_13 (by decide) ?_
  refine va_put (D := (dC, dI)) (ci := 3) (v := .int (nI 1)) (ty := (.int)) (C := "HalfJournalModel") (T := F_M) (N := 15) hx hb hts i_M t_M t_M_ok n_M hown hK hP hD hS 0 rfl rfl 2 (by decide) (hts _ m_647) (fun _ h9 => h9) rfl (by decide +kernel) rfl rfl (Nat.le_of_ble_eq_true rfl) d_M_init_14 (fun H locs hP hD hS => ?_)
  have hP : va_P (dC, dI) vwCl [(m0, .inr (3, [.int 0, .ref da, .int (nI 1), .int 0, .int 0, .int 0, .int 0, .null, .null, .null, .int 0, .int 0, .int 0, .null, .null])), (da, .inl (cD, 32768, .inl (hj_B (fun _ => 0))))] H := hP
  have hD : va_D A [(m0, .inr (3, [.int 0, .ref da, .int (nI 1), .int 0, .int 0, .int 0, .int 0, .null, .null, .null, .int 0, .int 0, .int 0, .null, .null])), (da, .inl (cD, 32768, .inl (hj_B (fun _ => 0))))] := hD
  refine lv_aload_n hx hb d_M_init_17 rfl (lv_at hl 0 rfl) ?_
  refine lv_sipush (v := nI 2000) hx hb d_M_init_18 (by decide) ?_
  refine va_newa (a0 := (2000, .inl (fun _ => 0))) (N' := 2000) (atype := .int) (ty := .int) hx hb (hts _ m_82) rfl hK hP hD hS hA (fun _ => rfl) (nI_pos (by decide)) (nI_clamp (by decide)) (by decide) (Nat.le_of_ble_eq_true rfl) (Nat.le_of_ble_eq_true rfl) d_M_init_21 (fun ba cB H hK hP hD hS => ?_)
  have hP : va_P (dC, dI) vwCl [(m0, .inr (3, [.int 0, .ref da, .int (nI 1), .int 0, .int 0, .int 0, .int 0, .null, .null, .null, .int 0, .int 0, .int 0, .null, .null])), (da, .inl (cD, 32768, .inl (hj_B (fun _ => 0)))), (ba, .inl (cB, 2000, .inl (fun _ => 0)))] H := hP
  have hD : va_D A [(m0, .inr (3, [.int 0, .ref da, .int (nI 1), .int 0, .int 0, .int 0, .int 0, .null, .null, .null, .int 0, .int 0, .int 0, .null, .null])), (da, .inl (cD, 32768, .inl (hj_B (fun _ => 0)))), (ba, .inl (cB, 2000, .inl (fun _ => 0)))] := hD
  have hK : va_K (dC, dI) vwCl [(cD, .byte), (cB, .int)] s := hK
  refine va_putF (D := (dC, dI)) (ci := 3) (v := .ref ba) (ty := (.array .int)) (C := "HalfJournalModel") (T := F_M) (N := 15) hx hb hts i_M t_M t_M_ok n_M hown hK hP hD hS 0 rfl rfl 7 (by decide) (hts _ m_652) (fun _ h9 => h9) rfl hin rfl (by decide +kernel) rfl rfl (Nat.le_of_ble_eq_true rfl) d_M_init_23 (fun H locs hP hD hS => ?_)
  have hP : va_P (dC, dI) vwCl [(m0, .inr (3, [.int 0, .ref da, .int (nI 1), .int 0, .int 0, .int 0, .int 0, .ref ba, .null, .null, .int 0, .int 0, .int 0, .null, .null])), (da, .inl (cD, 32768, .inl (hj_B (fun _ => 0)))), (ba, .inl (cB, 2000, .inl (fun _ => 0)))] H := hP
  have hD : va_D A [(m0, .inr (3, [.int 0, .ref da, .int (nI 1), .int 0, .int 0, .int 0, .int 0, .ref ba, .null, .null, .int 0, .int 0, .int 0, .null, .null])), (da, .inl (cD, 32768, .inl (hj_B (fun _ => 0)))), (ba, .inl (cB, 2000, .inl (fun _ => 0)))] := hD
  refine lv_aload_n hx hb d_M_init_26 rfl (lv_at hl 0 rfl) ?_
  refine lv_sipush (v := nI 2000) hx hb d_M_init_27 (by decide) ?_
  refine va_newa (a0 := (2000, .inl (fun _ => 0))) (N' := 2000) (atype := .boolean) (ty := .boolean) hx hb (hts _ m_83) rfl hK hP hD hS hA (fun _ => rfl) (nI_pos (by decide)) (nI_clamp (by decide)) (by decide) (Nat.le_of_ble_eq_true rfl) (Nat.le_of_ble_eq_true rfl) d_M_init_30 (fun ka cK H hK hP hD hS => ?_)
  have hP : va_P (dC, dI) vwCl [(m0, .inr (3, [.int 0, .ref da, .int (nI 1), .int 0, .int 0, .int 0, .int 0, .ref ba, .null, .null, .int 0, .int 0, .int 0, .null, .null])), (da, .inl (cD, 32768, .inl (hj_B (fun _ => 0)))), (ba, .inl (cB, 2000, .inl (fun _ => 0))), (ka, .inl (cK, 2000, .inl (fun _ => 0)))] H := hP
  have hD : va_D A [(m0, .inr (3, [.int 0, .ref da, .int (nI 1), .int 0, .int 0, .int 0, .int 0, .ref ba, .null, .null, .int 0, .int 0, .int 0, .null, .null])), (da, .inl (cD, 32768, .inl (hj_B (fun _ => 0)))), (ba, .inl (cB, 2000, .inl (fun _ => 0))), (ka, .inl (cK, 2000, .inl (fun _ => 0)))] := hD
  have hK : va_K (dC, dI) vwCl [(cD, .byte), (cB, .int), (cK, .boolean)] s := hK
  refine va_putF (D := (dC, dI)) (ci := 3) (v := .ref ka) (ty := (.array .boolean)) (C := "HalfJournalModel") (T := F_M) (N := 15) hx hb hts i_M t_M t_M_ok n_M hown hK hP hD hS 0 rfl rfl 8 (by decide) (hts _ m_653) (fun _ h9 => h9) rfl hin rfl (by decide +kernel) rfl rfl (Nat.le_of_ble_eq_true rfl) d_M_init_32 (fun H locs hP hD hS => ?_)
  have hP : va_P (dC, dI) vwCl [(m0, .inr (3, [.int 0, .ref da, .int (nI 1), .int 0, .int 0, .int 0, .int 0, .ref ba, .ref ka, .null, .int 0, .int 0, .int 0, .null, .null])), (da, .inl (cD, 32768, .inl (hj_B (fun _ => 0)))), (ba, .inl (cB, 2000, .inl (fun _ => 0))), (ka, .inl (cK, 2000, .inl (fun _ => 0)))] H := hP
  have hD : va_D A [(m0, .inr (3, [.int 0, .ref da, .int (nI 1), .int 0, .int 0, .int 0, .int 0, .ref ba, .ref ka, .null, .int 0, .int 0, .int 0, .null, .null])), (da, .inl (cD, 32768, .inl (hj_B (fun _ => 0)))), (ba, .inl (cB, 2000, .inl (fun _ => 0))), (ka, .inl (cK, 2000, .inl (fun _ => 0)))] := hD
  refine lv_aload_n hx hb d_M_init_35 rfl (lv_at hl 0 rfl) ?_
  refine lv_sipush (v := nI 1000) hx hb d_M_init_36 (by decide) ?_
  refine va_newa (a0 := (1000, .inl (hj_B (fun _ => 0)))) (N' := 1000) (atype := .byte) (ty := .byte) hx hb (hts _ m_50) rfl hK hP hD hS hA (hj_new_b _) (nI_pos (by decide)) (nI_clamp (by decide)) (by decide) (Nat.le_of_ble_eq_true rfl) (Nat.le_of_ble_eq_true rfl) d_M_init_39 (fun ta cT H hK hP hD hS => ?_)
  have hP : va_P (dC, dI) vwCl [(m0, .inr (3, [.int 0, .ref da, .int (nI 1), .int 0, .int 0, .int 0, .int 0, .ref ba, .ref ka, .null, .int 0, .int 0, .int 0, .null, .null])), (da, .inl (cD, 32768, .inl (hj_B (fun _ => 0)))), (ba, .inl (cB, 2000, .inl (fun _ => 0))), (ka, .inl (cK, 2000, .inl (fun _ => 0))), (ta, .inl (cT, 1000, .inl (hj_B (fun _ => 0))))] H := hP
  have hD : va_D A [(m0, .inr (3, [.int 0, .ref da, .int (nI 1), .int 0, .int 0, .int 0, .int 0, .ref ba, .ref ka, .null, .int 0, .int 0, .int 0, .null, .null])), (da, .inl (cD, 32768, .inl (hj_B (fun _ => 0)))), (ba, .inl (cB, 2000, .inl (fun _ => 0))), (ka, .inl (cK, 2000, .inl (fun _ => 0))), (ta, .inl (cT, 1000, .inl (hj_B (fun _ => 0))))] := hD
  have hK : va_K (dC, dI) vwCl [(cD, .byte), (cB, .int), (cK, .boolean), (cT, .byte)] s := hK
  refine va_putF (D := (dC, dI)) (ci := 3) (v := .ref ta) (ty := (.array .byte)) (C := "HalfJournalModel") (T := F_M) (N := 15) hx hb hts i_M t_M t_M_ok n_M hown hK hP hD hS 0 rfl rfl 9 (by decide) (hts _ m_654) (fun _ h9 => h9) rfl hin rfl (by decide +kernel) rfl rfl (Nat.le_of_ble_eq_true rfl) d_M_init_41 (fun H locs hP hD hS => ?_)
  have hP : va_P (dC, dI) vwCl [(m0, .inr (3, [.int 0, .ref da, .int (nI 1), .int 0, .int 0, .int 0, .int 0, .ref ba, .ref ka, .ref ta, .int 0, .int 0, .int 0, .null, .null])), (da, .inl (cD, 32768, .inl (hj_B (fun _ => 0)))), (ba, .inl (cB, 2000, .inl (fun _ => 0))), (ka, .inl (cK, 2000, .inl (fun _ => 0))), (ta, .inl (cT, 1000, .inl (hj_B (fun _ => 0))))] H := hP
  have hD : va_D A [(m0, .inr (3, [.int 0, .ref da, .int (nI 1), .int 0, .int 0, .int 0, .int 0, .ref ba, .ref ka, .ref ta, .int 0, .int 0, .int 0, .null, .null])), (da, .inl (cD, 32768, .inl (hj_B (fun _ => 0)))), (ba, .inl (cB, 2000, .inl (fun _ => 0))), (ka, .inl (cK, 2000, .inl (fun _ => 0))), (ta, .inl (cT, 1000, .inl (hj_B (fun _ => 0))))] := hD
  refine lv_aload_n hx hb d_M_init_44 rfl (lv_at hl 0 rfl) ?_
  refine lv_iconst (v := (-1)) hx hb d_M_init_45 (by decide) ?_
  refine va_put (D := (dC, dI)) (ci := 3) (v := .int (-1)) (ty := (.int)) (C := "HalfJournalModel") (T := F_M) (N := 15) hx hb hts i_M t_M t_M_ok n_M hown hK hP hD hS 0 rfl rfl 11 (by decide) (hts _ m_656) (fun _ h9 => h9) rfl (by decide +kernel) rfl rfl (Nat.le_of_ble_eq_true rfl) d_M_init_46 (fun H locs hP hD hS => ?_)
  have hP : va_P (dC, dI) vwCl [(m0, .inr (3, [.int 0, .ref da, .int (nI 1), .int 0, .int 0, .int 0, .int 0, .ref ba, .ref ka, .ref ta, .int 0, .int (-1), .int 0, .null, .null])), (da, .inl (cD, 32768, .inl (hj_B (fun _ => 0)))), (ba, .inl (cB, 2000, .inl (fun _ => 0))), (ka, .inl (cK, 2000, .inl (fun _ => 0))), (ta, .inl (cT, 1000, .inl (hj_B (fun _ => 0))))] H := hP
  have hD : va_D A [(m0, .inr (3, [.int 0, .ref da, .int (nI 1), .int 0, .int 0, .int 0, .int 0, .ref ba, .ref ka, .ref ta, .int 0, .int (-1), .int 0, .null, .null])), (da, .inl (cD, 32768, .inl (hj_B (fun _ => 0)))), (ba, .inl (cB, 2000, .inl (fun _ => 0))), (ka, .inl (cK, 2000, .inl (fun _ => 0))), (ta, .inl (cT, 1000, .inl (hj_B (fun _ => 0))))] := hD
  refine lv_aload_n hx hb d_M_init_49 rfl (lv_at hl 0 rfl) ?_
  refine lv_sipush (v := nI 15872) hx hb d_M_init_50 (by decide) ?_
  refine va_newa (a0 := (15872, .inl (hj_B (fun _ => 0)))) (N' := 15872) (atype := .byte) (ty := .byte) hx hb (hts _ m_50) rfl hK hP hD hS hA (hj_new_b _) (nI_pos (by decide)) (nI_clamp (by decide)) (by decide) (Nat.le_of_ble_eq_true rfl) (Nat.le_of_ble_eq_true rfl) d_M_init_53 (fun na cN H hK hP hD hS => ?_)
  have hP : va_P (dC, dI) vwCl [(m0, .inr (3, [.int 0, .ref da, .int (nI 1), .int 0, .int 0, .int 0, .int 0, .ref ba, .ref ka, .ref ta, .int 0, .int (-1), .int 0, .null, .null])), (da, .inl (cD, 32768, .inl (hj_B (fun _ => 0)))), (ba, .inl (cB, 2000, .inl (fun _ => 0))), (ka, .inl (cK, 2000, .inl (fun _ => 0))), (ta, .inl (cT, 1000, .inl (hj_B (fun _ => 0)))), (na, .inl (cN, 15872, .inl (hj_B (fun _ => 0))))] H := hP
  have hD : va_D A [(m0, .inr (3, [.int 0, .ref da, .int (nI 1), .int 0, .int 0, .int 0, .int 0, .ref ba, .ref ka, .ref ta, .int 0, .int (-1), .int 0, .null, .null])), (da, .inl (cD, 32768, .inl (hj_B (fun _ => 0)))), (ba, .inl (cB, 2000, .inl (fun _ => 0))), (ka, .inl (cK, 2000, .inl (fun _ => 0))), (ta, .inl (cT, 1000, .inl (hj_B (fun _ => 0)))), (na, .inl (cN, 15872, .inl (hj_B (fun _ => 0))))] := hD
  have hK : va_K (dC, dI) vwCl [(cD, .byte), (cB, .int), (cK, .boolean), (cT, .byte), (cN, .byte)] s := hK
  refine va_putF (D := (dC, dI)) (ci := 3) (v := .ref na) (ty := (.array .byte)) (C := "HalfJournalModel") (T := F_M) (N := 15) hx hb hts i_M t_M t_M_ok n_M hown hK hP hD hS 0 rfl rfl 13 (by decide) (hts _ m_658) (fun _ h9 => h9) rfl hin rfl (by decide +kernel) rfl rfl (Nat.le_of_ble_eq_true rfl) d_M_init_55 (fun H locs hP hD hS => ?_)
  have hP : va_P (dC, dI) vwCl [(m0, .inr (3, [.int 0, .ref da, .int (nI 1), .int 0, .int 0, .int 0, .int 0, .ref ba, .ref ka, .ref ta, .int 0, .int (-1), .int 0, .ref na, .null])), (da, .inl (cD, 32768, .inl (hj_B (fun _ => 0)))), (ba, .inl (cB, 2000, .inl (fun _ => 0))), (ka, .inl (cK, 2000, .inl (fun _ => 0))), (ta, .inl (cT, 1000, .inl (hj_B (fun _ => 0)))), (na, .inl (cN, 15872, .inl (hj_B (fun _ => 0))))] H := hP
  have hD : va_D A [(m0, .inr (3, [.int 0, .ref da, .int (nI 1), .int 0, .int 0, .int 0, .int 0, .ref ba, .ref ka, .ref ta, .int 0, .int (-1), .int 0, .ref na, .null])), (da, .inl (cD, 32768, .inl (hj_B (fun _ => 0)))), (ba, .inl (cB, 2000, .inl (fun _ => 0))), (ka, .inl (cK, 2000, .inl (fun _ => 0))), (ta, .inl (cT, 1000, .inl (hj_B (fun _ => 0)))), (na, .inl (cN, 15872, .inl (hj_B (fun _ => 0))))] := hD
  refine lv_aload_n hx hb d_M_init_58 rfl (lv_at hl 0 rfl) ?_
  refine lv_sipush (v := nI 512) hx hb d_M_init_59 (by decide) ?_
  refine va_newa (a0 := (512, .inl (hj_B (fun _ => 0)))) (N' := 512) (atype := .byte) (ty := .byte) hx hb (hts _ m_50) rfl hK hP hD hS hA (hj_new_b _) (nI_pos (by decide)) (nI_clamp (by decide)) (by decide) (Nat.le_of_ble_eq_true rfl) (Nat.le_of_ble_eq_true rfl) d_M_init_62 (fun ea cE H hK hP hD hS => ?_)
  have hP : va_P (dC, dI) vwCl [(m0, .inr (3, [.int 0, .ref da, .int (nI 1), .int 0, .int 0, .int 0, .int 0, .ref ba, .ref ka, .ref ta, .int 0, .int (-1), .int 0, .ref na, .null])), (da, .inl (cD, 32768, .inl (hj_B (fun _ => 0)))), (ba, .inl (cB, 2000, .inl (fun _ => 0))), (ka, .inl (cK, 2000, .inl (fun _ => 0))), (ta, .inl (cT, 1000, .inl (hj_B (fun _ => 0)))), (na, .inl (cN, 15872, .inl (hj_B (fun _ => 0)))), (ea, .inl (cE, 512, .inl (hj_B (fun _ => 0))))] H := hP
  have hD : va_D A [(m0, .inr (3, [.int 0, .ref da, .int (nI 1), .int 0, .int 0, .int 0, .int 0, .ref ba, .ref ka, .ref ta, .int 0, .int (-1), .int 0, .ref na, .null])), (da, .inl (cD, 32768, .inl (hj_B (fun _ => 0)))), (ba, .inl (cB, 2000, .inl (fun _ => 0))), (ka, .inl (cK, 2000, .inl (fun _ => 0))), (ta, .inl (cT, 1000, .inl (hj_B (fun _ => 0)))), (na, .inl (cN, 15872, .inl (hj_B (fun _ => 0)))), (ea, .inl (cE, 512, .inl (hj_B (fun _ => 0))))] := hD
  have hK : va_K (dC, dI) vwCl [(cD, .byte), (cB, .int), (cK, .boolean), (cT, .byte), (cN, .byte), (cE, .byte)] s := hK
  refine va_putF (D := (dC, dI)) (ci := 3) (v := .ref ea) (ty := (.array .byte)) (C := "HalfJournalModel") (T := F_M) (N := 15) hx hb hts i_M t_M t_M_ok n_M hown hK hP hD hS 0 rfl rfl 14 (by decide) (hts _ m_659) (fun _ h9 => h9) rfl hin rfl (by decide +kernel) rfl rfl (Nat.le_of_ble_eq_true rfl) d_M_init_64 (fun H locs hP hD hS => ?_)
  have hP : va_P (dC, dI) vwCl [(m0, .inr (3, [.int 0, .ref da, .int (nI 1), .int 0, .int 0, .int 0, .int 0, .ref ba, .ref ka, .ref ta, .int 0, .int (-1), .int 0, .ref na, .ref ea])), (da, .inl (cD, 32768, .inl (hj_B (fun _ => 0)))), (ba, .inl (cB, 2000, .inl (fun _ => 0))), (ka, .inl (cK, 2000, .inl (fun _ => 0))), (ta, .inl (cT, 1000, .inl (hj_B (fun _ => 0)))), (na, .inl (cN, 15872, .inl (hj_B (fun _ => 0)))), (ea, .inl (cE, 512, .inl (hj_B (fun _ => 0))))] H := hP
  have hD : va_D A [(m0, .inr (3, [.int 0, .ref da, .int (nI 1), .int 0, .int 0, .int 0, .int 0, .ref ba, .ref ka, .ref ta, .int 0, .int (-1), .int 0, .ref na, .ref ea])), (da, .inl (cD, 32768, .inl (hj_B (fun _ => 0)))), (ba, .inl (cB, 2000, .inl (fun _ => 0))), (ka, .inl (cK, 2000, .inl (fun _ => 0))), (ta, .inl (cT, 1000, .inl (hj_B (fun _ => 0)))), (na, .inl (cN, 15872, .inl (hj_B (fun _ => 0)))), (ea, .inl (cE, 512, .inl (hj_B (fun _ => 0))))] := hD
  exact hret ((da, ba, ka, ta, na, ea), (cD, cB, cK), (cT, cN, cE)) _ _ _ _ d_M_init_67 (trivial) hP hK hD hS
