theorem hj_lay (d : Nat → Nat) (g : Nat) {h : Nat} (hh : h < 256) (h0 : ∀ j, j < 512 → d j = 0) : ∀ j, j < 512 → hj_pn (hj_pn (va_up (va_up (va_up d 0 74) 1 49) 2 (h % 256)) 4 4 g) 8 4 (hj_chk (hj_pn (va_up (va_up (va_up d 0 74) 1 49) 2 (h % 256)) 4 4 g) 0 8) j = hj_hd h g j := by
  have e0 : ∀ j, j < 512 → ¬ (8 ≤ j ∧ j < 12) → hj_pn (va_up (va_up (va_up d 0 74) 1 49) 2 (h % 256)) 4 4 g j = hj_hd0 h g j := by
    intro j hj hn
    unfold hj_pn hj_hd0
    by_cases q : 4 ≤ j ∧ j < 4 + 4
    · rw [if_pos q, if_neg (by omega), if_neg (by omega), if_neg (by omega), if_neg (by omega), if_pos (by omega)]
    · rw [if_neg q]
      by_cases q0 : j = 0
      · subst q0; rfl
      · by_cases q1 : j = 1
        · subst q1; rfl
        · by_cases q2 : j = 2
          · subst q2; rfl
          · rw [va_up_ne _ _ q2, va_up_ne _ _ q1, va_up_ne _ _ q0, h0 j hj, if_neg q0, if_neg q1, if_neg q2]
            by_cases q3 : j = 3
            · rw [if_pos q3]
            · rw [if_neg q3, if_neg (by omega)]
  have ec : hj_chk (hj_pn (va_up (va_up (va_up d 0 74) 1 49) 2 (h % 256)) 4 4 g) 0 8 = hj_chk (hj_hd0 h g) 0 8 := hj_chk_congr (fun j hj => by rw [Nat.zero_add]; exact e0 j (by omega) (by omega))
  intro j hj
  rw [ec]
  unfold hj_hd
  by_cases q : 8 ≤ j ∧ j < 12
  · rw [if_pos q]
    show (if 8 ≤ j ∧ j < 8 + 4 then _ else _) = _
    rw [if_pos (by omega)]
  · rw [if_neg q]
    show (if 8 ≤ j ∧ j < 8 + 4 then _ else _) = _
    rw [if_neg (by omega)]
    exact e0 j hj q
theorem hj_sb_le (st : Nat) : True := trivial
abbrev rm_M_lengthOf : Room := { frames := 16, cells := 0, slots := 0, locals := 200 }
set_option maxHeartbeats 4000000 in
set_option maxRecDepth 100000 in
theorem c_M_lengthOf (l : Launch) (dC : Nat → ClassId) (dI : Nat → Nat → Nat) (m0 da ba ka ta na ea : Nat) (th : Int32) (st g h us n tl : Nat) (du wr : Int32) (cD : ClassId) (d : Nat → Nat) (cB : ClassId) (fb : Nat → Int32) (i : Nat) (hh : h < 2) (hd : hj_bs d) (hi : i < 2000) (hv : 0 < hj_rl d h (hj_pos d h i)) (hb9 : fb i = nI (hj_pos d h i)) : hj_Mi l y_M_lengthOf b_M_lengthOf 3 .int rm_M_lengthOf hj_E0 (dC, dI) vwCl [(cD, .byte), (cB, .int)] [(m0, .inr (3, [.int th, .ref da, .int (nI st), .int (nI g), .int (nI h), .int (nI us), .int (nI n), .ref ba, .ref ka, .ref ta, .int (nI tl), .int du, .int wr, .ref na, .ref ea])), (da, .inl (cD, 32768, .inl (hj_B d))), (ba, .inl (cB, 2000, .inl fb))] [.ref m0, .int (nI i)] (fun r _ => r = nI (hj_rl d h (hj_pos d h i))) (fun _ : Unit => [(m0, .inr (3, [.int th, .ref da, .int (nI st), .int (nI g), .int (nI h), .int (nI us), .int (nI n), .ref ba, .ref ka, .ref ta, .int (nI tl), .int du, .int wr, .ref na, .ref ea])), (da, .inl (cD, 32768, .inl (hj_B d))), (ba, .inl (cB, 2000, .inl fb))]) (fun _ => [(cD, .byte), (cB, .int)]) 0 0 := by
  refine hj_bodyI (by decide +kernel) (Nat.le_of_ble_eq_true rfl) ?_
  intro p e s m args below meth c A Q ls hx hb hts hown hml hA hP hK hD hE hl hret
  have hS : va_S A s.heap s.heap [] := va_S.rf
  have hown : s.vm.findClass "HalfJournalModel" = some m.cls := hown
  have hl : lv_has ls 3 [(0, .ref m0), (1, .int (nI i))] := hl
  have hP : va_P (dC, dI) vwCl [(m0, .inr (3, [.int th, .ref da, .int (nI st), .int (nI g), .int (nI h), .int (nI us), .int (nI n), .ref ba, .ref ka, .ref ta, .int (nI tl), .int du, .int wr, .ref na, .ref ea])), (da, .inl (cD, 32768, .inl (hj_B d))), (ba, .inl (cB, 2000, .inl fb))] s.heap := hP
  have hD : va_D A [(m0, .inr (3, [.int th, .ref da, .int (nI st), .int (nI g), .int (nI h), .int (nI us), .int (nI n), .ref ba, .ref ka, .ref ta, .int (nI tl), .int du, .int wr, .ref na, .ref ea])), (da, .inl (cD, 32768, .inl (hj_B d))), (ba, .inl (cB, 2000, .inl fb))] := hD
  have hhb := hj_hb_le hh
  obtain ⟨hr1, hr2, hr3⟩ := hj_rl_in hv
  have h0 := hd (hj_hb h + hj_pos d h i)
  have h1 := hd (hj_hb h + hj_pos d h i + 1)
  have hsz8 := hj_sz_8 hv
  refine lv_aload_n hx hb d_M_lengthOf_0 rfl (lv_at hl 0 rfl) ?_
  refine va_get (D := (dC, dI)) (ci := 3) (v := .int (nI h)) (C := "HalfJournalModel") (T := F_M) (N := 15) hx hb hts i_M hown hK hP 0 rfl rfl 4 (by decide) (hts _ m_649) (fun _ h9 => h9) rfl d_M_lengthOf_1 ?_
  refine hj_calli (wc := []) (wr := [(m0, .inr (3, [.int th, .ref da, .int (nI st), .int (nI g), .int (nI h), .int (nI us), .int (nI n), .ref ba, .ref ka, .ref ta, .int (nI tl), .int du, .int wr, .ref na, .ref ea])), (da, .inl (cD, 32768, .inl (hj_B d))), (ba, .inl (cB, 2000, .inl fb))]) [] [0, 1, 2] hP hD hS hA rfl rfl rfl (by decide) (va_runS (As := [.int (nI h)]) (rest := []) ⟨hx, hb, hml, hown, hts⟩ (c_M_begin l dC dI h hh s.heap.size) (cwS 1 hts (hj_gS m_726 m_727 m_4 m_728) rfl rfl rfl (by decide +kernel) ⟨Nat.le_of_ble_eq_true rfl, Nat.le_of_ble_eq_true rfl⟩) (hj_preS hj_E0ok hE hP hD hK hS hA [] rfl rfl [] rfl) rfl rfl hl.1 rfl (lv_room (Nat.le_of_ble_eq_true rfl)) d_M_lengthOf_4 ⟨Nat.le_of_ble_eq_true rfl, Nat.le_of_ble_eq_true rfl⟩) (fun r_1 u_2 H locs hw hP hD hK1 hS => ?_)
  subst hw
  have hP : va_P (dC, dI) vwCl [(m0, .inr (3, [.int th, .ref da, .int (nI st), .int (nI g), .int (nI h), .int (nI us), .int (nI n), .ref ba, .ref ka, .ref ta, .int (nI tl), .int du, .int wr, .ref na, .ref ea])), (da, .inl (cD, 32768, .inl (hj_B d))), (ba, .inl (cB, 2000, .inl fb))] H := hP.sub [0, 1, 2] rfl
  have hD : va_D A [(m0, .inr (3, [.int th, .ref da, .int (nI st), .int (nI g), .int (nI h), .int (nI us), .int (nI n), .ref ba, .ref ka, .ref ta, .int (nI tl), .int du, .int wr, .ref na, .ref ea])), (da, .inl (cD, 32768, .inl (hj_B d))), (ba, .inl (cB, 2000, .inl fb))] := hD.sub [0, 1, 2] (by decide) rfl
  refine lv_aload_n hx hb d_M_lengthOf_7 rfl (lv_at hl 0 rfl) ?_
  refine va_get (D := (dC, dI)) (ci := 3) (v := .ref ba) (C := "HalfJournalModel") (T := F_M) (N := 15) hx hb hts i_M hown hK hP 0 rfl rfl 7 (by decide) (hts _ m_652) (fun _ h9 => h9) rfl d_M_lengthOf_8 ?_
  refine lv_iload_n hx hb d_M_lengthOf_11 rfl (lv_at hl 1 rfl) ?_
  refine hj_iald (v := fb i) hx hb hK hP 2 1 rfl rfl (by omega) (by decide) rfl d_M_lengthOf_12 ?_
  refine hj_topv (y := nI (hj_pos d h i)) (hb9) ?_
  refine hj_iadd hx hb d_M_lengthOf_13 ?_
  refine lv_istore_n (lv' := [(2, .int (nI ((hj_hb h) + (hj_pos d h i)))), (0, .ref m0), (1, .int (nI i))]) hx hb d_M_lengthOf_14 rfl hl (by decide) rfl (fun ls hl => ?_)
  refine lv_aload_n hx hb d_M_lengthOf_15 rfl (lv_at hl 1 rfl) ?_
  refine va_get (D := (dC, dI)) (ci := 3) (v := .ref da) (C := "HalfJournalModel") (T := F_M) (N := 15) hx hb hts i_M hown hK hP 0 rfl rfl 1 (by decide) (hts _ m_646) (fun _ h9 => h9) rfl d_M_lengthOf_16 ?_
  refine lv_iload_n hx hb d_M_lengthOf_19 rfl (lv_at hl 0 rfl) ?_
  refine hj_bald hx hb hK hP 1 0 rfl rfl (by omega) (by decide) d_M_lengthOf_20 ?_
  refine lv_sipush (v := nI 255) hx hb d_M_lengthOf_21 (by decide) ?_
  refine hj_band hx hb (by first | assumption | exact hd _ | omega) d_M_lengthOf_24 ?_
  refine lv_sipush (v := nI 256) hx hb d_M_lengthOf_25 (by decide) ?_
  refine lv_aload_n hx hb d_M_lengthOf_28 rfl (lv_at hl 1 rfl) ?_
  refine va_get (D := (dC, dI)) (ci := 3) (v := .ref da) (C := "HalfJournalModel") (T := F_M) (N := 15) hx hb hts i_M hown hK hP 0 rfl rfl 1 (by decide) (hts _ m_646) (fun _ h9 => h9) rfl d_M_lengthOf_29 ?_
  refine lv_iload_n hx hb d_M_lengthOf_32 rfl (lv_at hl 0 rfl) ?_
  refine lv_iconst (v := nI 1) hx hb d_M_lengthOf_33 (by decide) ?_
  refine hj_iadd hx hb d_M_lengthOf_34 ?_
  refine hj_bald hx hb hK hP 1 0 rfl rfl (by omega) (by decide) d_M_lengthOf_35 ?_
  refine lv_sipush (v := nI 255) hx hb d_M_lengthOf_36 (by decide) ?_
  refine hj_band hx hb (by first | assumption | exact hd _ | omega) d_M_lengthOf_39 ?_
  refine hj_imul hx hb d_M_lengthOf_40 ?_
  refine hj_iadd hx hb d_M_lengthOf_41 ?_
  refine hj_topn (b := hj_rl d h (hj_pos d h i)) (by rw [hr3]; rfl) ?_
  exact hret (nI (hj_rl d h (hj_pos d h i))) () _ _ _ _ d_M_lengthOf_42 rfl (rfl) hP hK hD hS
abbrev rm_M_layHead : Room := { frames := 16, cells := 0, slots := 0, locals := 200 }
set_option maxHeartbeats 4000000 in
set_option maxRecDepth 100000 in
theorem c_M_layHead (l : Launch) (dC : Nat → ClassId) (dI : Nat → Nat → Nat) (m0 da ba ka ta na ea : Nat) (th : Int32) (st g h us n tl : Nat) (du wr : Int32) (cE : ClassId) (hx9 : Nat → Nat) (hq gq : Nat) (hd : hj_bs hx9) (hh : hq < 2) (hg : gq < 2 ^ 32) : hj_Mv l y_M_layHead b_M_layHead 4 rm_M_layHead hj_E0 (dC, dI) vwCl [(cE, .byte)] [(m0, .inr (3, [.int th, .ref da, .int (nI st), .int (nI g), .int (nI h), .int (nI us), .int (nI n), .ref ba, .ref ka, .ref ta, .int (nI tl), .int du, .int wr, .ref na, .ref ea])), (ea, .inl (cE, 512, .inl (hj_B hx9)))] [.ref m0, .int (nI hq), .int (nI gq)] (fun _ => True) (fun _ : Unit => [(m0, .inr (3, [.int th, .ref da, .int (nI st), .int (nI g), .int (nI h), .int (nI us), .int (nI n), .ref ba, .ref ka, .ref ta, .int (nI tl), .int du, .int wr, .ref na, .ref ea])), (ea, .inl (cE, 512, .inl (hj_B (hj_hd hq gq))))]) (fun _ => [(cE, .byte)]) 0 0 := by
  refine hj_bodyV (by decide +kernel) (Nat.le_of_ble_eq_true rfl) ?_
  intro p e s m args below meth c A Q ls hx hb hts hown hml hin hA hP hK hD hE hl hret
  have hS : va_S A s.heap s.heap [] := va_S.rf
  have hown : s.vm.findClass "HalfJournalModel" = some m.cls := hown
  have hl : lv_has ls 4 [(0, .ref m0), (1, .int (nI hq)), (2, .int (nI gq))] := hl
  have hP : va_P (dC, dI) vwCl [(m0, .inr (3, [.int th, .ref da, .int (nI st), .int (nI g), .int (nI h), .int (nI us), .int (nI n), .ref ba, .ref ka, .ref ta, .int (nI tl), .int du, .int wr, .ref na, .ref ea])), (ea, .inl (cE, 512, .inl (hj_B hx9)))] s.heap := hP
  have hD : va_D A [(m0, .inr (3, [.int th, .ref da, .int (nI st), .int (nI g), .int (nI h), .int (nI us), .int (nI n), .ref ba, .ref ka, .ref ta, .int (nI tl), .int du, .int wr, .ref na, .ref ea])), (ea, .inl (cE, 512, .inl (hj_B hx9)))] := hD
  refine lv_iconst (v := nI 0) hx hb d_M_layHead_0 (by decide) ?_
  refine lv_istore_n (lv' := [(3, .int (nI 0)), (0, .ref m0), (1, .int (nI hq)), (2, .int (nI gq))]) hx hb d_M_layHead_1 rfl hl (by decide) rfl (fun ls hl => ?_)
  have lp : ∀ (n9_lp : Nat) (i : Nat) (hx9 : Nat → Nat), (i ≤ 512) → (hj_bs hx9) → (∀ k, k < i → hx9 k = 0) → (512 - i) < n9_lp → ∀ (H : Heap) (locs : List Loc), va_P (dC, dI) vwCl [(m0, .inr (3, [.int th, .ref da, .int (nI st), .int (nI g), .int (nI h), .int (nI us), .int (nI n), .ref ba, .ref ka, .ref ta, .int (nI tl), .int du, .int wr, .ref na, .ref ea])), (ea, .inl (cE, 512, .inl (hj_B hx9)))] H → va_D A [(m0, .inr (3, [.int th, .ref da, .int (nI st), .int (nI g), .int (nI h), .int (nI us), .int (nI n), .ref ba, .ref ka, .ref ta, .int (nI tl), .int du, .int wr, .ref na, .ref ea])), (ea, .inl (cE, 512, .inl (hj_B hx9)))] → va_S A s.heap H locs → ∀ (ls : Array Slot), lv_has ls 4 [(0, .ref m0), (1, .int (nI hq)), (2, .int (nI gq)), (3, .int (nI i))] → W p l e rm_M_layHead s m args below meth c H locs 0 0 Q (F0 m 2 ls []) := by
    intro n9_lp
    induction n9_lp with
    | zero =>
      intro i hx9 hi hb9 hz9 hm_lp
      exact absurd hm_lp (Nat.not_lt_zero _)
    | succ n9_lp ih_lp =>
      intro i hx9 hi hb9 hz9 hm_lp H locs hP hD hS ls hl
      refine lv_iload_n hx hb d_M_layHead_2 rfl (lv_at hl 3 rfl) ?_
      refine lv_sipush (v := nI 512) hx hb d_M_layHead_3 (by decide) ?_
      refine hj_icmp_ge (tgt := 22) hx hb (by omega) (by omega) d_M_layHead_6 (by decide) (fun c_1 => ?_) (fun c_1 => ?_)
      · refine lv_aload_n hx hb d_M_layHead_22 rfl (lv_at hl 0 rfl) ?_
        refine va_get (D := (dC, dI)) (ci := 3) (v := .ref ea) (C := "HalfJournalModel") (T := F_M) (N := 15) hx hb hts i_M hown hK hP 0 rfl rfl 14 (by decide) (hts _ m_659) (fun _ h9 => h9) rfl d_M_layHead_23 ?_
        refine lv_iconst (v := nI 0) hx hb d_M_layHead_26 (by decide) ?_
        refine lv_bipush (v := nI 74) hx hb d_M_layHead_27 (by decide) ?_
        refine hj_topv (y := sb_b 74) (by decide) ?_
        refine hj_bast hx hb hK hP hD hS 1 0 rfl rfl (by omega) (by decide) d_M_layHead_29 (fun H locs hP hD hS => ?_)
        have hP : va_P (dC, dI) vwCl [(m0, .inr (3, [.int th, .ref da, .int (nI st), .int (nI g), .int (nI h), .int (nI us), .int (nI n), .ref ba, .ref ka, .ref ta, .int (nI tl), .int du, .int wr, .ref na, .ref ea])), (ea, .inl (cE, 512, .inl (hj_B (va_up hx9 0 74))))] H := hP
        have hD : va_D A [(m0, .inr (3, [.int th, .ref da, .int (nI st), .int (nI g), .int (nI h), .int (nI us), .int (nI n), .ref ba, .ref ka, .ref ta, .int (nI tl), .int du, .int wr, .ref na, .ref ea])), (ea, .inl (cE, 512, .inl (hj_B (va_up hx9 0 74))))] := hD
        refine lv_aload_n hx hb d_M_layHead_30 rfl (lv_at hl 0 rfl) ?_
        refine va_get (D := (dC, dI)) (ci := 3) (v := .ref ea) (C := "HalfJournalModel") (T := F_M) (N := 15) hx hb hts i_M hown hK hP 0 rfl rfl 14 (by decide) (hts _ m_659) (fun _ h9 => h9) rfl d_M_layHead_31 ?_
        refine lv_iconst (v := nI 1) hx hb d_M_layHead_34 (by decide) ?_
        refine lv_bipush (v := nI 49) hx hb d_M_layHead_35 (by decide) ?_
        refine hj_topv (y := sb_b 49) (by decide) ?_
        refine hj_bast hx hb hK hP hD hS 1 0 rfl rfl (by omega) (by decide) d_M_layHead_37 (fun H locs hP hD hS => ?_)
        have hP : va_P (dC, dI) vwCl [(m0, .inr (3, [.int th, .ref da, .int (nI st), .int (nI g), .int (nI h), .int (nI us), .int (nI n), .ref ba, .ref ka, .ref ta, .int (nI tl), .int du, .int wr, .ref na, .ref ea])), (ea, .inl (cE, 512, .inl (hj_B (va_up (va_up hx9 0 74) 1 49))))] H := hP
        have hD : va_D A [(m0, .inr (3, [.int th, .ref da, .int (nI st), .int (nI g), .int (nI h), .int (nI us), .int (nI n), .ref ba, .ref ka, .ref ta, .int (nI tl), .int du, .int wr, .ref na, .ref ea])), (ea, .inl (cE, 512, .inl (hj_B (va_up (va_up hx9 0 74) 1 49))))] := hD
        refine lv_aload_n hx hb d_M_layHead_38 rfl (lv_at hl 0 rfl) ?_
        refine va_get (D := (dC, dI)) (ci := 3) (v := .ref ea) (C := "HalfJournalModel") (T := F_M) (N := 15) hx hb hts i_M hown hK hP 0 rfl rfl 14 (by decide) (hts _ m_659) (fun _ h9 => h9) rfl d_M_layHead_39 ?_
        refine lv_iconst (v := nI 2) hx hb d_M_layHead_42 (by decide) ?_
        refine lv_iload_n hx hb d_M_layHead_43 rfl (lv_at hl 1 rfl) ?_
        refine hj_i2b hx hb d_M_layHead_44 ?_
        refine hj_bast hx hb hK hP hD hS 1 0 rfl rfl (by omega) (by decide) d_M_layHead_45 (fun H locs hP hD hS => ?_)
        have hP : va_P (dC, dI) vwCl [(m0, .inr (3, [.int th, .ref da, .int (nI st), .int (nI g), .int (nI h), .int (nI us), .int (nI n), .ref ba, .ref ka, .ref ta, .int (nI tl), .int du, .int wr, .ref na, .ref ea])), (ea, .inl (cE, 512, .inl (hj_B (va_up (va_up (va_up hx9 0 74) 1 49) 2 (hq % 256)))))] H := hP
        have hD : va_D A [(m0, .inr (3, [.int th, .ref da, .int (nI st), .int (nI g), .int (nI h), .int (nI us), .int (nI n), .ref ba, .ref ka, .ref ta, .int (nI tl), .int du, .int wr, .ref na, .ref ea])), (ea, .inl (cE, 512, .inl (hj_B (va_up (va_up (va_up hx9 0 74) 1 49) 2 (hq % 256)))))] := hD
        refine lv_aload_n hx hb d_M_layHead_46 rfl (lv_at hl 0 rfl) ?_
        refine va_get (D := (dC, dI)) (ci := 3) (v := .ref ea) (C := "HalfJournalModel") (T := F_M) (N := 15) hx hb hts i_M hown hK hP 0 rfl rfl 14 (by decide) (hts _ m_659) (fun _ h9 => h9) rfl d_M_layHead_47 ?_
        refine lv_iconst (v := nI 4) hx hb d_M_layHead_50 (by decide) ?_
        refine lv_iload_n hx hb d_M_layHead_51 rfl (lv_at hl 2 rfl) ?_
        refine hj_callv (wc := [(ea, .inl (cE, 512, .inl (hj_B (va_up (va_up (va_up hx9 0 74) 1 49) 2 (hq % 256)))))]) (wr := [(m0, .inr (3, [.int th, .ref da, .int (nI st), .int (nI g), .int (nI h), .int (nI us), .int (nI n), .ref ba, .ref ka, .ref ta, .int (nI tl), .int du, .int wr, .ref na, .ref ea]))]) [1] [0] hP hD hS hA rfl rfl rfl (by decide) (va_runS (As := [.ref ea, .int (nI 4), .int (nI gq)]) (rest := []) ⟨hx, hb, hml, hown, hts⟩ (c_M_putFour l dC dI ea cE 512 (va_up (va_up (va_up hx9 0 74) 1 49) 2 (hq % 256)) 4 gq (by omega) (by omega) hg H.size) (cwS 3 hts (hj_gS m_740 m_741 m_4 m_742) rfl rfl rfl (by decide +kernel) ⟨Nat.le_of_ble_eq_true rfl, Nat.le_of_ble_eq_true rfl⟩) (hj_preS hj_E0ok hE hP hD hK hS hA [1] rfl rfl [0] rfl) rfl rfl hl.1 rfl (lv_room (Nat.le_of_ble_eq_true rfl)) d_M_layHead_52 ⟨Nat.le_of_ble_eq_true rfl, Nat.le_of_ble_eq_true rfl⟩) (fun u_2 H locs hw hP hD hK1 hS => ?_)
        have hP : va_P (dC, dI) vwCl [(m0, .inr (3, [.int th, .ref da, .int (nI st), .int (nI g), .int (nI h), .int (nI us), .int (nI n), .ref ba, .ref ka, .ref ta, .int (nI tl), .int du, .int wr, .ref na, .ref ea])), (ea, .inl (cE, 512, .inl (hj_B (hj_pn (va_up (va_up (va_up hx9 0 74) 1 49) 2 (hq % 256)) 4 4 gq))))] H := hP.sub [0, 1] rfl
        have hD : va_D A [(m0, .inr (3, [.int th, .ref da, .int (nI st), .int (nI g), .int (nI h), .int (nI us), .int (nI n), .ref ba, .ref ka, .ref ta, .int (nI tl), .int du, .int wr, .ref na, .ref ea])), (ea, .inl (cE, 512, .inl (hj_B (hj_pn (va_up (va_up (va_up hx9 0 74) 1 49) 2 (hq % 256)) 4 4 gq))))] := hD.sub [0, 1] (by decide) rfl
        have hd2 : hj_bs (hj_pn (va_up (va_up (va_up hx9 0 74) 1 49) 2 (hq % 256)) 4 4 gq) := hj_pn_bs (hj_up_bs (hj_up_bs (hj_up_bs hb9 (by omega)) (by omega)) (by omega))
        refine lv_aload_n hx hb d_M_layHead_55 rfl (lv_at hl 0 rfl) ?_
        refine va_get (D := (dC, dI)) (ci := 3) (v := .ref ea) (C := "HalfJournalModel") (T := F_M) (N := 15) hx hb hts i_M hown hK hP 0 rfl rfl 14 (by decide) (hts _ m_659) (fun _ h9 => h9) rfl d_M_layHead_56 ?_
        refine lv_bipush (v := nI 8) hx hb d_M_layHead_59 (by decide) ?_
        refine lv_aload_n hx hb d_M_layHead_61 rfl (lv_at hl 0 rfl) ?_
        refine va_get (D := (dC, dI)) (ci := 3) (v := .ref ea) (C := "HalfJournalModel") (T := F_M) (N := 15) hx hb hts i_M hown hK hP 0 rfl rfl 14 (by decide) (hts _ m_659) (fun _ h9 => h9) rfl d_M_layHead_62 ?_
        refine lv_iconst (v := nI 0) hx hb d_M_layHead_65 (by decide) ?_
        refine lv_bipush (v := nI 8) hx hb d_M_layHead_66 (by decide) ?_
        refine hj_topn (b := 0 + 8) (rfl) ?_
        refine hj_calli (wc := [(ea, .inl (cE, 512, .inl (hj_B (hj_pn (va_up (va_up (va_up hx9 0 74) 1 49) 2 (hq % 256)) 4 4 gq))))]) (wr := [(m0, .inr (3, [.int th, .ref da, .int (nI st), .int (nI g), .int (nI h), .int (nI us), .int (nI n), .ref ba, .ref ka, .ref ta, .int (nI tl), .int du, .int wr, .ref na, .ref ea]))]) [1] [0] hP hD hS hA rfl rfl rfl (by decide) (va_runS (As := [.ref ea, .int (nI 0), .int (nI (0 + 8))]) (rest := [.int (nI 8), .ref ea]) ⟨hx, hb, hml, hown, hts⟩ (c_M_checkOf l dC dI ea cE 512 (hj_pn (va_up (va_up (va_up hx9 0 74) 1 49) 2 (hq % 256)) 4 4 gq) 0 8 (by omega) (by omega) hd2 H.size) (cwS 3 hts (hj_gS m_710 m_711 m_4 m_712) rfl rfl rfl (by decide +kernel) ⟨Nat.le_of_ble_eq_true rfl, Nat.le_of_ble_eq_true rfl⟩) (hj_preS hj_E0ok hE hP hD hK hS hA [1] rfl rfl [0] rfl) rfl rfl hl.1 rfl (lv_room (Nat.le_of_ble_eq_true rfl)) d_M_layHead_68 ⟨Nat.le_of_ble_eq_true rfl, Nat.le_of_ble_eq_true rfl⟩) (fun r_3 u_4 H locs hw hP hD hK1 hS => ?_)
        subst hw
        have hP : va_P (dC, dI) vwCl [(m0, .inr (3, [.int th, .ref da, .int (nI st), .int (nI g), .int (nI h), .int (nI us), .int (nI n), .ref ba, .ref ka, .ref ta, .int (nI tl), .int du, .int wr, .ref na, .ref ea])), (ea, .inl (cE, 512, .inl (hj_B (hj_pn (va_up (va_up (va_up hx9 0 74) 1 49) 2 (hq % 256)) 4 4 gq))))] H := hP.sub [0, 1] rfl
        have hD : va_D A [(m0, .inr (3, [.int th, .ref da, .int (nI st), .int (nI g), .int (nI h), .int (nI us), .int (nI n), .ref ba, .ref ka, .ref ta, .int (nI tl), .int du, .int wr, .ref na, .ref ea])), (ea, .inl (cE, 512, .inl (hj_B (hj_pn (va_up (va_up (va_up hx9 0 74) 1 49) 2 (hq % 256)) 4 4 gq))))] := hD.sub [0, 1] (by decide) rfl
        refine hj_callv (wc := [(ea, .inl (cE, 512, .inl (hj_B (hj_pn (va_up (va_up (va_up hx9 0 74) 1 49) 2 (hq % 256)) 4 4 gq))))]) (wr := [(m0, .inr (3, [.int th, .ref da, .int (nI st), .int (nI g), .int (nI h), .int (nI us), .int (nI n), .ref ba, .ref ka, .ref ta, .int (nI tl), .int du, .int wr, .ref na, .ref ea]))]) [1] [0] hP hD hS hA rfl rfl rfl (by decide) (va_runS (As := [.ref ea, .int (nI 8), .int (nI (hj_chk (hj_pn (va_up (va_up (va_up hx9 0 74) 1 49) 2 (hq % 256)) 4 4 gq) 0 8))]) (rest := []) ⟨hx, hb, hml, hown, hts⟩ (c_M_putFour l dC dI ea cE 512 (hj_pn (va_up (va_up (va_up hx9 0 74) 1 49) 2 (hq % 256)) 4 4 gq) 8 (hj_chk (hj_pn (va_up (va_up (va_up hx9 0 74) 1 49) 2 (hq % 256)) 4 4 gq) 0 8) (by omega) (by omega) (hj_chk_lt hd2 _ _) H.size) (cwS 3 hts (hj_gS m_740 m_741 m_4 m_742) rfl rfl rfl (by decide +kernel) ⟨Nat.le_of_ble_eq_true rfl, Nat.le_of_ble_eq_true rfl⟩) (hj_preS hj_E0ok hE hP hD hK hS hA [1] rfl rfl [0] rfl) rfl rfl hl.1 rfl (lv_room (Nat.le_of_ble_eq_true rfl)) d_M_layHead_71 ⟨Nat.le_of_ble_eq_true rfl, Nat.le_of_ble_eq_true rfl⟩) (fun u_6 H locs hw hP hD hK1 hS => ?_)
        have hP : va_P (dC, dI) vwCl [(m0, .inr (3, [.int th, .ref da, .int (nI st), .int (nI g), .int (nI h), .int (nI us), .int (nI n), .ref ba, .ref ka, .ref ta, .int (nI tl), .int du, .int wr, .ref na, .ref ea])), (ea, .inl (cE, 512, .inl (hj_B (hj_pn (hj_pn (va_up (va_up (va_up hx9 0 74) 1 49) 2 (hq % 256)) 4 4 gq) 8 4 (hj_chk (hj_pn (va_up (va_up (va_up hx9 0 74) 1 49) 2 (hq % 256)) 4 4 gq) 0 8)))))] H := hP.sub [0, 1] rfl
        have hD : va_D A [(m0, .inr (3, [.int th, .ref da, .int (nI st), .int (nI g), .int (nI h), .int (nI us), .int (nI n), .ref ba, .ref ka, .ref ta, .int (nI tl), .int du, .int wr, .ref na, .ref ea])), (ea, .inl (cE, 512, .inl (hj_B (hj_pn (hj_pn (va_up (va_up (va_up hx9 0 74) 1 49) 2 (hq % 256)) 4 4 gq) 8 4 (hj_chk (hj_pn (va_up (va_up (va_up hx9 0 74) 1 49) 2 (hq % 256)) 4 4 gq) 0 8)))))] := hD.sub [0, 1] (by decide) rfl
        have h9 : ∀ j, j < 512 → ((hj_pn (hj_pn (va_up (va_up (va_up hx9 0 74) 1 49) 2 (hq % 256)) 4 4 gq) 8 4 (hj_chk (hj_pn (va_up (va_up (va_up hx9 0 74) 1 49) 2 (hq % 256)) 4 4 gq) 0 8))) j = ((hj_hd hq gq)) j := hj_lay hx9 gq (by omega) (fun k hk => hz9 k (by omega))
        have hD := hD.set (p := 1) (e := .inl (cE, 512, .inl (hj_B (hj_hd hq gq)))) rfl
        have hP := hj_arr hP 1 rfl (hj_B (hj_hd hq gq)) (fun j hj => congrArg sb_b (h9 j hj))
        have hP : va_P (dC, dI) vwCl [(m0, .inr (3, [.int th, .ref da, .int (nI st), .int (nI g), .int (nI h), .int (nI us), .int (nI n), .ref ba, .ref ka, .ref ta, .int (nI tl), .int du, .int wr, .ref na, .ref ea])), (ea, .inl (cE, 512, .inl (hj_B (hj_hd hq gq))))] H := hP
        have hD : va_D A [(m0, .inr (3, [.int th, .ref da, .int (nI st), .int (nI g), .int (nI h), .int (nI us), .int (nI n), .ref ba, .ref ka, .ref ta, .int (nI tl), .int du, .int wr, .ref na, .ref ea])), (ea, .inl (cE, 512, .inl (hj_B (hj_hd hq gq))))] := hD
        exact hret () _ _ _ _ d_M_layHead_74 (trivial) hP hK hD hS
      · refine lv_aload_n hx hb d_M_layHead_9 rfl (lv_at hl 0 rfl) ?_
        refine va_get (D := (dC, dI)) (ci := 3) (v := .ref ea) (C := "HalfJournalModel") (T := F_M) (N := 15) hx hb hts i_M hown hK hP 0 rfl rfl 14 (by decide) (hts _ m_659) (fun _ h9 => h9) rfl d_M_layHead_10 ?_
        refine lv_iload_n hx hb d_M_layHead_13 rfl (lv_at hl 3 rfl) ?_
        refine lv_iconst (v := nI 0) hx hb d_M_layHead_14 (by decide) ?_
        refine hj_topv (y := sb_b 0) (by decide) ?_
        refine hj_bast hx hb hK hP hD hS 1 0 rfl rfl (by omega) (by decide) d_M_layHead_15 (fun H locs hP hD hS => ?_)
        have hP : va_P (dC, dI) vwCl [(m0, .inr (3, [.int th, .ref da, .int (nI st), .int (nI g), .int (nI h), .int (nI us), .int (nI n), .ref ba, .ref ka, .ref ta, .int (nI tl), .int du, .int wr, .ref na, .ref ea])), (ea, .inl (cE, 512, .inl (hj_B (va_up hx9 i 0))))] H := hP
        have hD : va_D A [(m0, .inr (3, [.int th, .ref da, .int (nI st), .int (nI g), .int (nI h), .int (nI us), .int (nI n), .ref ba, .ref ka, .ref ta, .int (nI tl), .int du, .int wr, .ref na, .ref ea])), (ea, .inl (cE, 512, .inl (hj_B (va_up hx9 i 0))))] := hD
        refine lv_iinc (v := nI (i + 1)) (lv' := [(3, .int (nI (i + 1))), (0, .ref m0), (1, .int (nI hq)), (2, .int (nI gq))]) hx hb d_M_layHead_16 hl (k := 3) rfl (nI_1 _) (by decide) rfl (fun ls hl => ?_)
        refine lv_goto (tgt := 2) hx hb d_M_layHead_19 (by decide) ?_
        exact ih_lp (i + 1) (va_up hx9 i 0) (by omega) (hj_up_bs hb9 (by omega)) (hj_zup i hx9 hz9) (by omega) _ _ hP hD hS _ (lv_sub hl [1, 2, 3, 0] rfl)
  exact lp _ 0 hx9 (by omega) (hd) (fun k hk => absurd hk (Nat.not_lt_zero k)) (Nat.lt_succ_self _) _ _ hP hD hS _ (lv_sub hl [1, 2, 3, 0] rfl)
abbrev rm_M_write : Room := { frames := 24, cells := 0, slots := 0, locals := 300 }
set_option maxHeartbeats 4000000 in
set_option maxRecDepth 100000 in
theorem c_M_write (l : Launch) (dC : Nat → ClassId) (dI : Nat → Nat → Nat) (m0 da ba ka ta na ea : Nat) (th : Int32) (st g h us n tl : Nat) (du wr : Int32) (cD : ClassId) (d : Nat → Nat) (a2 : Nat) (cA2 : ClassId) (n2 : Nat) (r9 : Nat → Nat) (b f : Nat) (hn2 : n2 < 2 ^ 31) (hb9 : b < 64) (hf : f + 512 ≤ n2) : hj_Mi l y_M_write b_M_write 5 .boolean rm_M_write hj_E0 (dC, dI) vwCl [(cD, .byte), (cA2, .byte)] [(m0, .inr (3, [.int th, .ref da, .int (nI st), .int (nI g), .int (nI h), .int (nI us), .int (nI n), .ref ba, .ref ka, .ref ta, .int (nI tl), .int du, .int wr, .ref na, .ref ea])), (da, .inl (cD, 32768, .inl (hj_B d))), (a2, .inl (cA2, n2, .inl (hj_B r9)))] [.ref m0, .int (nI b), .ref a2, .int (nI f)] (fun r ((st1, g1, h1, us1, n1, du1, wr1, d1) : Nat × Nat × Nat × Nat × Nat × Int32 × Int32 × (Nat → Nat)) => (du = 0 ∧ r = nI 0 ∧ st1 = 0 ∧ g1 = 0 ∧ h1 = 0 ∧ us1 = 0 ∧ n1 = 0 ∧ du1 = -1 ∧ wr1 = wr ∧ d1 = d) ∨ (¬ du = 0 ∧ r = nI 1 ∧ st1 = st ∧ g1 = g ∧ h1 = h ∧ us1 = us ∧ n1 = n ∧ du1 = hj_dec du ∧ wr1 = wr + 1 ∧ d1 = hj_blk d b r9 f)) (fun ((st1, g1, h1, us1, n1, du1, wr1, d1) : Nat × Nat × Nat × Nat × Nat × Int32 × Int32 × (Nat → Nat)) => [(m0, .inr (3, [.int th, .ref da, .int (nI st1), .int (nI g1), .int (nI h1), .int (nI us1), .int (nI n1), .ref ba, .ref ka, .ref ta, .int (nI tl), .int du1, .int wr1, .ref na, .ref ea])), (da, .inl (cD, 32768, .inl (hj_B d1))), (a2, .inl (cA2, n2, .inl (hj_B r9)))]) (fun _ => [(cD, .byte), (cA2, .byte)]) 0 0 := by
  refine hj_bodyI (by decide +kernel) (Nat.le_of_ble_eq_true rfl) ?_
  intro p e s m args below meth c A Q ls hx hb hts hown hml hA hP hK hD hE hl hret
  have hS : va_S A s.heap s.heap [] := va_S.rf
  have hown : s.vm.findClass "HalfJournalModel" = some m.cls := hown
  have hl : lv_has ls 5 [(0, .ref m0), (1, .int (nI b)), (2, .ref a2), (3, .int (nI f))] := hl
  have hP : va_P (dC, dI) vwCl [(m0, .inr (3, [.int th, .ref da, .int (nI st), .int (nI g), .int (nI h), .int (nI us), .int (nI n), .ref ba, .ref ka, .ref ta, .int (nI tl), .int du, .int wr, .ref na, .ref ea])), (da, .inl (cD, 32768, .inl (hj_B d))), (a2, .inl (cA2, n2, .inl (hj_B r9)))] s.heap := hP
  have hD : va_D A [(m0, .inr (3, [.int th, .ref da, .int (nI st), .int (nI g), .int (nI h), .int (nI us), .int (nI n), .ref ba, .ref ka, .ref ta, .int (nI tl), .int du, .int wr, .ref na, .ref ea])), (da, .inl (cD, 32768, .inl (hj_B d))), (a2, .inl (cA2, n2, .inl (hj_B r9)))] := hD
  refine lv_aload_n hx hb d_M_write_0 rfl (lv_at hl 0 rfl) ?_
  refine va_get (D := (dC, dI)) (ci := 3) (v := .int du) (C := "HalfJournalModel") (T := F_M) (N := 15) hx hb hts i_M hown hK hP 0 rfl rfl 11 (by decide) (hts _ m_656) (fun _ h9 => h9) rfl d_M_write_1 ?_
  refine lv_if_ne (tgt := 18) hx hb d_M_write_4 (by decide) (fun c_1 => ?_) (fun c_1 => ?_)
  · refine lv_aload_n hx hb d_M_write_18 rfl (lv_at hl 0 rfl) ?_
    refine lv_aload_n hx hb d_M_write_19 rfl (lv_at hl 0 rfl) ?_
    refine va_get (D := (dC, dI)) (ci := 3) (v := .int du) (C := "HalfJournalModel") (T := F_M) (N := 15) hx hb hts i_M hown hK hP 0 rfl rfl 11 (by decide) (hts _ m_656) (fun _ h9 => h9) rfl d_M_write_20 ?_
    refine lv_if_le (tgt := 35) hx hb d_M_write_23 (by decide) (fun c_2 => ?_) (fun c_2 => ?_)
    · refine lv_aload_n hx hb d_M_write_35 rfl (lv_at hl 0 rfl) ?_
      refine va_get (D := (dC, dI)) (ci := 3) (v := .int du) (C := "HalfJournalModel") (T := F_M) (N := 15) hx hb hts i_M hown hK hP 0 rfl rfl 11 (by decide) (hts _ m_656) (fun _ h9 => h9) rfl d_M_write_36 ?_
      refine va_put (D := (dC, dI)) (ci := 3) (v := .int du) (ty := (.int)) (C := "HalfJournalModel") (T := F_M) (N := 15) hx hb hts i_M t_M t_M_ok n_M hown hK hP hD hS 0 rfl rfl 11 (by decide) (hts _ m_656) (fun _ h9 => h9) rfl (by decide +kernel) rfl rfl (Nat.le_of_ble_eq_true rfl) d_M_write_39 (fun H locs hP hD hS => ?_)
      have hP : va_P (dC, dI) vwCl [(m0, .inr (3, [.int th, .ref da, .int (nI st), .int (nI g), .int (nI h), .int (nI us), .int (nI n), .ref ba, .ref ka, .ref ta, .int (nI tl), .int du, .int wr, .ref na, .ref ea])), (da, .inl (cD, 32768, .inl (hj_B d))), (a2, .inl (cA2, n2, .inl (hj_B r9)))] H := hP
      have hD : va_D A [(m0, .inr (3, [.int th, .ref da, .int (nI st), .int (nI g), .int (nI h), .int (nI us), .int (nI n), .ref ba, .ref ka, .ref ta, .int (nI tl), .int du, .int wr, .ref na, .ref ea])), (da, .inl (cD, 32768, .inl (hj_B d))), (a2, .inl (cA2, n2, .inl (hj_B r9)))] := hD
      refine lv_iconst (v := nI 0) hx hb d_M_write_42 (by decide) ?_
      refine lv_istore (lv' := [(4, .int (nI 0)), (0, .ref m0), (1, .int (nI b)), (2, .ref a2), (3, .int (nI f))]) hx hb d_M_write_43 hl (by decide) rfl (fun ls hl => ?_)
      have h9 : (d : Nat → Nat) = va_cpy r9 d f (512 * b) 0 := (hj_cpy0 r9 d f (512 * b)).symm
      rw [h9] at hP hD
      have hP : va_P (dC, dI) vwCl [(m0, .inr (3, [.int th, .ref da, .int (nI st), .int (nI g), .int (nI h), .int (nI us), .int (nI n), .ref ba, .ref ka, .ref ta, .int (nI tl), .int du, .int wr, .ref na, .ref ea])), (da, .inl (cD, 32768, .inl (hj_B (va_cpy r9 d f (512 * b) 0)))), (a2, .inl (cA2, n2, .inl (hj_B r9)))] H := hP
      have hD : va_D A [(m0, .inr (3, [.int th, .ref da, .int (nI st), .int (nI g), .int (nI h), .int (nI us), .int (nI n), .ref ba, .ref ka, .ref ta, .int (nI tl), .int du, .int wr, .ref na, .ref ea])), (da, .inl (cD, 32768, .inl (hj_B (va_cpy r9 d f (512 * b) 0)))), (a2, .inl (cA2, n2, .inl (hj_B r9)))] := hD
      have lp : ∀ (n9_lp : Nat) (i : Nat), (i ≤ 512) → (512 - i) < n9_lp → ∀ (H : Heap) (locs : List Loc), va_P (dC, dI) vwCl [(m0, .inr (3, [.int th, .ref da, .int (nI st), .int (nI g), .int (nI h), .int (nI us), .int (nI n), .ref ba, .ref ka, .ref ta, .int (nI tl), .int du, .int wr, .ref na, .ref ea])), (da, .inl (cD, 32768, .inl (hj_B (va_cpy r9 d f (512 * b) i)))), (a2, .inl (cA2, n2, .inl (hj_B r9)))] H → va_D A [(m0, .inr (3, [.int th, .ref da, .int (nI st), .int (nI g), .int (nI h), .int (nI us), .int (nI n), .ref ba, .ref ka, .ref ta, .int (nI tl), .int du, .int wr, .ref na, .ref ea])), (da, .inl (cD, 32768, .inl (hj_B (va_cpy r9 d f (512 * b) i)))), (a2, .inl (cA2, n2, .inl (hj_B r9)))] → va_S A s.heap H locs → ∀ (ls : Array Slot), lv_has ls 5 [(0, .ref m0), (1, .int (nI b)), (2, .ref a2), (3, .int (nI f)), (4, .int (nI i))] → W p l e rm_M_write s m args below meth c H locs 0 0 Q (F0 m 45 ls []) := by
        intro n9_lp
        induction n9_lp with
        | zero =>
          intro i hi hm_lp
          exact absurd hm_lp (Nat.not_lt_zero _)
        | succ n9_lp ih_lp =>
          intro i hi hm_lp H locs hP hD hS ls hl
          refine lv_iload hx hb d_M_write_45 (lv_at hl 4 rfl) ?_
          refine lv_sipush (v := nI 512) hx hb d_M_write_47 (by decide) ?_
          refine hj_icmp_ge (tgt := 78) hx hb (by omega) (by omega) d_M_write_50 (by decide) (fun c_3 => ?_) (fun c_3 => ?_)
          · obtain rfl : i = 512 := by omega
            have hl : lv_has ls 5 [(0, .ref m0), (1, .int (nI b)), (2, .ref a2), (3, .int (nI f))] := lv_sub hl [0, 1, 2, 3] rfl
            have h9 : (va_cpy r9 d f (512 * b) 512 : Nat → Nat) = hj_blk d b r9 f := rfl
            rw [h9] at hP hD
            have hP : va_P (dC, dI) vwCl [(m0, .inr (3, [.int th, .ref da, .int (nI st), .int (nI g), .int (nI h), .int (nI us), .int (nI n), .ref ba, .ref ka, .ref ta, .int (nI tl), .int du, .int wr, .ref na, .ref ea])), (da, .inl (cD, 32768, .inl (hj_B (hj_blk d b r9 f)))), (a2, .inl (cA2, n2, .inl (hj_B r9)))] H := hP
            have hD : va_D A [(m0, .inr (3, [.int th, .ref da, .int (nI st), .int (nI g), .int (nI h), .int (nI us), .int (nI n), .ref ba, .ref ka, .ref ta, .int (nI tl), .int du, .int wr, .ref na, .ref ea])), (da, .inl (cD, 32768, .inl (hj_B (hj_blk d b r9 f)))), (a2, .inl (cA2, n2, .inl (hj_B r9)))] := hD
            refine lv_aload_n hx hb d_M_write_78 rfl (lv_at hl 0 rfl) ?_
            refine lv_dup hx hb d_M_write_79 rfl ?_
            refine va_get (D := (dC, dI)) (ci := 3) (v := .int wr) (C := "HalfJournalModel") (T := F_M) (N := 15) hx hb hts i_M hown hK hP 0 rfl rfl 12 (by decide) (hts _ m_657) (fun _ h9 => h9) rfl d_M_write_80 ?_
            refine lv_iconst (v := nI 1) hx hb d_M_write_83 (by decide) ?_
            refine lv_iadd hx hb d_M_write_84 ?_
            refine va_put (D := (dC, dI)) (ci := 3) (v := .int (wr + (nI 1))) (ty := (.int)) (C := "HalfJournalModel") (T := F_M) (N := 15) hx hb hts i_M t_M t_M_ok n_M hown hK hP hD hS 0 rfl rfl 12 (by decide) (hts _ m_657) (fun _ h9 => h9) rfl (by decide +kernel) rfl rfl (Nat.le_of_ble_eq_true rfl) d_M_write_85 (fun H locs hP hD hS => ?_)
            have hP : va_P (dC, dI) vwCl [(m0, .inr (3, [.int th, .ref da, .int (nI st), .int (nI g), .int (nI h), .int (nI us), .int (nI n), .ref ba, .ref ka, .ref ta, .int (nI tl), .int du, .int (wr + (nI 1)), .ref na, .ref ea])), (da, .inl (cD, 32768, .inl (hj_B (hj_blk d b r9 f)))), (a2, .inl (cA2, n2, .inl (hj_B r9)))] H := hP
            have hD : va_D A [(m0, .inr (3, [.int th, .ref da, .int (nI st), .int (nI g), .int (nI h), .int (nI us), .int (nI n), .ref ba, .ref ka, .ref ta, .int (nI tl), .int du, .int (wr + (nI 1)), .ref na, .ref ea])), (da, .inl (cD, 32768, .inl (hj_B (hj_blk d b r9 f)))), (a2, .inl (cA2, n2, .inl (hj_B r9)))] := hD
            refine lv_iconst (v := nI 1) hx hb d_M_write_88 (by decide) ?_
            exact hret (nI 1) (st, g, h, us, n, du, wr + nI 1, hj_blk d b r9 f) _ _ _ _ d_M_write_89 rfl (Or.inr ⟨c_1, rfl, rfl, rfl, rfl, rfl, rfl, (hj_dec_le c_2).symm, rfl, rfl⟩) hP hK hD hS
          · refine lv_aload_n hx hb d_M_write_53 rfl (lv_at hl 0 rfl) ?_
            refine va_get (D := (dC, dI)) (ci := 3) (v := .ref da) (C := "HalfJournalModel") (T := F_M) (N := 15) hx hb hts i_M hown hK hP 0 rfl rfl 1 (by decide) (hts _ m_646) (fun _ h9 => h9) rfl d_M_write_54 ?_
            refine lv_sipush (v := nI 512) hx hb d_M_write_57 (by decide) ?_
            refine lv_iload_n hx hb d_M_write_60 rfl (lv_at hl 1 rfl) ?_
            refine hj_imul hx hb d_M_write_61 ?_
            refine lv_iload hx hb d_M_write_62 (lv_at hl 4 rfl) ?_
            refine hj_iadd hx hb d_M_write_64 ?_
            refine lv_aload_n hx hb d_M_write_65 rfl (lv_at hl 2 rfl) ?_
            refine lv_iload_n hx hb d_M_write_66 rfl (lv_at hl 3 rfl) ?_
            refine lv_iload hx hb d_M_write_67 (lv_at hl 4 rfl) ?_
            refine hj_iadd hx hb d_M_write_69 ?_
            refine hj_bald hx hb hK hP 2 1 rfl rfl (by omega) (by omega) d_M_write_70 ?_
            refine hj_bast hx hb hK hP hD hS 1 0 rfl rfl (by omega) (by decide) d_M_write_71 (fun H locs hP hD hS => ?_)
            have hP : va_P (dC, dI) vwCl [(m0, .inr (3, [.int th, .ref da, .int (nI st), .int (nI g), .int (nI h), .int (nI us), .int (nI n), .ref ba, .ref ka, .ref ta, .int (nI tl), .int du, .int wr, .ref na, .ref ea])), (da, .inl (cD, 32768, .inl (hj_B (va_up (va_cpy r9 d f (512 * b) i) ((512 * b) + i) (r9 (f + i)))))), (a2, .inl (cA2, n2, .inl (hj_B r9)))] H := hP
            have hD : va_D A [(m0, .inr (3, [.int th, .ref da, .int (nI st), .int (nI g), .int (nI h), .int (nI us), .int (nI n), .ref ba, .ref ka, .ref ta, .int (nI tl), .int du, .int wr, .ref na, .ref ea])), (da, .inl (cD, 32768, .inl (hj_B (va_up (va_cpy r9 d f (512 * b) i) ((512 * b) + i) (r9 (f + i)))))), (a2, .inl (cA2, n2, .inl (hj_B r9)))] := hD
            have h9 : (va_up (va_cpy r9 d f (512 * b) i) ((512 * b) + i) (r9 (f + i)) : Nat → Nat) = va_cpy r9 d f (512 * b) (i + 1) := hj_cpyS r9 d f (512 * b) i
            rw [h9] at hP hD
            have hP : va_P (dC, dI) vwCl [(m0, .inr (3, [.int th, .ref da, .int (nI st), .int (nI g), .int (nI h), .int (nI us), .int (nI n), .ref ba, .ref ka, .ref ta, .int (nI tl), .int du, .int wr, .ref na, .ref ea])), (da, .inl (cD, 32768, .inl (hj_B (va_cpy r9 d f (512 * b) (i + 1))))), (a2, .inl (cA2, n2, .inl (hj_B r9)))] H := hP
            have hD : va_D A [(m0, .inr (3, [.int th, .ref da, .int (nI st), .int (nI g), .int (nI h), .int (nI us), .int (nI n), .ref ba, .ref ka, .ref ta, .int (nI tl), .int du, .int wr, .ref na, .ref ea])), (da, .inl (cD, 32768, .inl (hj_B (va_cpy r9 d f (512 * b) (i + 1))))), (a2, .inl (cA2, n2, .inl (hj_B r9)))] := hD
            refine lv_iinc (v := nI (i + 1)) (lv' := [(4, .int (nI (i + 1))), (0, .ref m0), (1, .int (nI b)), (2, .ref a2), (3, .int (nI f))]) hx hb d_M_write_72 hl (k := 4) rfl (nI_1 _) (by decide) rfl (fun ls hl => ?_)
            refine lv_goto (tgt := 45) hx hb d_M_write_75 (by decide) ?_
            exact ih_lp (i + 1) (by omega) (by omega) _ _ hP hD hS _ (lv_sub hl [1, 2, 3, 4, 0] rfl)
      exact lp _ 0 (by omega) (Nat.lt_succ_self _) _ _ hP hD hS _ (lv_sub hl [1, 2, 3, 4, 0] rfl)
    · refine lv_aload_n hx hb d_M_write_26 rfl (lv_at hl 0 rfl) ?_
      refine va_get (D := (dC, dI)) (ci := 3) (v := .int du) (C := "HalfJournalModel") (T := F_M) (N := 15) hx hb hts i_M hown hK hP 0 rfl rfl 11 (by decide) (hts _ m_656) (fun _ h9 => h9) rfl d_M_write_27 ?_
      refine lv_iconst (v := nI 1) hx hb d_M_write_30 (by decide) ?_
      refine lv_isub hx hb d_M_write_31 ?_
      refine lv_goto (tgt := 39) hx hb d_M_write_32 (by decide) ?_
      refine va_put (D := (dC, dI)) (ci := 3) (v := .int (du - (nI 1))) (ty := (.int)) (C := "HalfJournalModel") (T := F_M) (N := 15) hx hb hts i_M t_M t_M_ok n_M hown hK hP hD hS 0 rfl rfl 11 (by decide) (hts _ m_656) (fun _ h9 => h9) rfl (by decide +kernel) rfl rfl (Nat.le_of_ble_eq_true rfl) d_M_write_39 (fun H locs hP hD hS => ?_)
      have hP : va_P (dC, dI) vwCl [(m0, .inr (3, [.int th, .ref da, .int (nI st), .int (nI g), .int (nI h), .int (nI us), .int (nI n), .ref ba, .ref ka, .ref ta, .int (nI tl), .int (du - (nI 1)), .int wr, .ref na, .ref ea])), (da, .inl (cD, 32768, .inl (hj_B d))), (a2, .inl (cA2, n2, .inl (hj_B r9)))] H := hP
      have hD : va_D A [(m0, .inr (3, [.int th, .ref da, .int (nI st), .int (nI g), .int (nI h), .int (nI us), .int (nI n), .ref ba, .ref ka, .ref ta, .int (nI tl), .int (du - (nI 1)), .int wr, .ref na, .ref ea])), (da, .inl (cD, 32768, .inl (hj_B d))), (a2, .inl (cA2, n2, .inl (hj_B r9)))] := hD
      refine lv_iconst (v := nI 0) hx hb d_M_write_42 (by decide) ?_
      refine lv_istore (lv' := [(4, .int (nI 0)), (0, .ref m0), (1, .int (nI b)), (2, .ref a2), (3, .int (nI f))]) hx hb d_M_write_43 hl (by decide) rfl (fun ls hl => ?_)
      have h9 : (d : Nat → Nat) = va_cpy r9 d f (512 * b) 0 := (hj_cpy0 r9 d f (512 * b)).symm
      rw [h9] at hP hD
      have hP : va_P (dC, dI) vwCl [(m0, .inr (3, [.int th, .ref da, .int (nI st), .int (nI g), .int (nI h), .int (nI us), .int (nI n), .ref ba, .ref ka, .ref ta, .int (nI tl), .int (du - (nI 1)), .int wr, .ref na, .ref ea])), (da, .inl (cD, 32768, .inl (hj_B (va_cpy r9 d f (512 * b) 0)))), (a2, .inl (cA2, n2, .inl (hj_B r9)))] H := hP
      have hD : va_D A [(m0, .inr (3, [.int th, .ref da, .int (nI st), .int (nI g), .int (nI h), .int (nI us), .int (nI n), .ref ba, .ref ka, .ref ta, .int (nI tl), .int (du - (nI 1)), .int wr, .ref na, .ref ea])), (da, .inl (cD, 32768, .inl (hj_B (va_cpy r9 d f (512 * b) 0)))), (a2, .inl (cA2, n2, .inl (hj_B r9)))] := hD
      have lp : ∀ (n9_lp : Nat) (i : Nat), (i ≤ 512) → (512 - i) < n9_lp → ∀ (H : Heap) (locs : List Loc), va_P (dC, dI) vwCl [(m0, .inr (3, [.int th, .ref da, .int (nI st), .int (nI g), .int (nI h), .int (nI us), .int (nI n), .ref ba, .ref ka, .ref ta, .int (nI tl), .int (du - nI 1), .int wr, .ref na, .ref ea])), (da, .inl (cD, 32768, .inl (hj_B (va_cpy r9 d f (512 * b) i)))), (a2, .inl (cA2, n2, .inl (hj_B r9)))] H → va_D A [(m0, .inr (3, [.int th, .ref da, .int (nI st), .int (nI g), .int (nI h), .int (nI us), .int (nI n), .ref ba, .ref ka, .ref ta, .int (nI tl), .int (du - nI 1), .int wr, .ref na, .ref ea])), (da, .inl (cD, 32768, .inl (hj_B (va_cpy r9 d f (512 * b) i)))), (a2, .inl (cA2, n2, .inl (hj_B r9)))] → va_S A s.heap H locs → ∀ (ls : Array Slot), lv_has ls 5 [(0, .ref m0), (1, .int (nI b)), (2, .ref a2), (3, .int (nI f)), (4, .int (nI i))] → W p l e rm_M_write s m args below meth c H locs 0 0 Q (F0 m 45 ls []) := by
        intro n9_lp
        induction n9_lp with
        | zero =>
          intro i hi hm_lp
          exact absurd hm_lp (Nat.not_lt_zero _)
        | succ n9_lp ih_lp =>
          intro i hi hm_lp H locs hP hD hS ls hl
          refine lv_iload hx hb d_M_write_45 (lv_at hl 4 rfl) ?_
          refine lv_sipush (v := nI 512) hx hb d_M_write_47 (by decide) ?_
          refine hj_icmp_ge (tgt := 78) hx hb (by omega) (by omega) d_M_write_50 (by decide) (fun c_3 => ?_) (fun c_3 => ?_)
          · obtain rfl : i = 512 := by omega
            have hl : lv_has ls 5 [(0, .ref m0), (1, .int (nI b)), (2, .ref a2), (3, .int (nI f))] := lv_sub hl [0, 1, 2, 3] rfl
            have h9 : (va_cpy r9 d f (512 * b) 512 : Nat → Nat) = hj_blk d b r9 f := rfl
            rw [h9] at hP hD
            have hP : va_P (dC, dI) vwCl [(m0, .inr (3, [.int th, .ref da, .int (nI st), .int (nI g), .int (nI h), .int (nI us), .int (nI n), .ref ba, .ref ka, .ref ta, .int (nI tl), .int (du - nI 1), .int wr, .ref na, .ref ea])), (da, .inl (cD, 32768, .inl (hj_B (hj_blk d b r9 f)))), (a2, .inl (cA2, n2, .inl (hj_B r9)))] H := hP
            have hD : va_D A [(m0, .inr (3, [.int th, .ref da, .int (nI st), .int (nI g), .int (nI h), .int (nI us), .int (nI n), .ref ba, .ref ka, .ref ta, .int (nI tl), .int (du - nI 1), .int wr, .ref na, .ref ea])), (da, .inl (cD, 32768, .inl (hj_B (hj_blk d b r9 f)))), (a2, .inl (cA2, n2, .inl (hj_B r9)))] := hD
            refine lv_aload_n hx hb d_M_write_78 rfl (lv_at hl 0 rfl) ?_
            refine lv_dup hx hb d_M_write_79 rfl ?_
            refine va_get (D := (dC, dI)) (ci := 3) (v := .int wr) (C := "HalfJournalModel") (T := F_M) (N := 15) hx hb hts i_M hown hK hP 0 rfl rfl 12 (by decide) (hts _ m_657) (fun _ h9 => h9) rfl d_M_write_80 ?_
            refine lv_iconst (v := nI 1) hx hb d_M_write_83 (by decide) ?_
            refine lv_iadd hx hb d_M_write_84 ?_
            refine va_put (D := (dC, dI)) (ci := 3) (v := .int (wr + (nI 1))) (ty := (.int)) (C := "HalfJournalModel") (T := F_M) (N := 15) hx hb hts i_M t_M t_M_ok n_M hown hK hP hD hS 0 rfl rfl 12 (by decide) (hts _ m_657) (fun _ h9 => h9) rfl (by decide +kernel) rfl rfl (Nat.le_of_ble_eq_true rfl) d_M_write_85 (fun H locs hP hD hS => ?_)
            have hP : va_P (dC, dI) vwCl [(m0, .inr (3, [.int th, .ref da, .int (nI st), .int (nI g), .int (nI h), .int (nI us), .int (nI n), .ref ba, .ref ka, .ref ta, .int (nI tl), .int (du - nI 1), .int (wr + (nI 1)), .ref na, .ref ea])), (da, .inl (cD, 32768, .inl (hj_B (hj_blk d b r9 f)))), (a2, .inl (cA2, n2, .inl (hj_B r9)))] H := hP
            have hD : va_D A [(m0, .inr (3, [.int th, .ref da, .int (nI st), .int (nI g), .int (nI h), .int (nI us), .int (nI n), .ref ba, .ref ka, .ref ta, .int (nI tl), .int (du - nI 1), .int (wr + (nI 1)), .ref na, .ref ea])), (da, .inl (cD, 32768, .inl (hj_B (hj_blk d b r9 f)))), (a2, .inl (cA2, n2, .inl (hj_B r9)))] := hD
            refine lv_iconst (v := nI 1) hx hb d_M_write_88 (by decide) ?_
            exact hret (nI 1) (st, g, h, us, n, du - nI 1, wr + nI 1, hj_blk d b r9 f) _ _ _ _ d_M_write_89 rfl (Or.inr ⟨c_1, rfl, rfl, rfl, rfl, rfl, rfl, (hj_dec_gt c_2).symm, rfl, rfl⟩) hP hK hD hS
          · refine lv_aload_n hx hb d_M_write_53 rfl (lv_at hl 0 rfl) ?_
            refine va_get (D := (dC, dI)) (ci := 3) (v := .ref da) (C := "HalfJournalModel") (T := F_M) (N := 15) hx hb hts i_M hown hK hP 0 rfl rfl 1 (by decide) (hts _ m_646) (fun _ h9 => h9) rfl d_M_write_54 ?_
            refine lv_sipush (v := nI 512) hx hb d_M_write_57 (by decide) ?_
            refine lv_iload_n hx hb d_M_write_60 rfl (lv_at hl 1 rfl) ?_
            refine hj_imul hx hb d_M_write_61 ?_
            refine lv_iload hx hb d_M_write_62 (lv_at hl 4 rfl) ?_
            refine hj_iadd hx hb d_M_write_64 ?_
            refine lv_aload_n hx hb d_M_write_65 rfl (lv_at hl 2 rfl) ?_
            refine lv_iload_n hx hb d_M_write_66 rfl (lv_at hl 3 rfl) ?_
            refine lv_iload hx hb d_M_write_67 (lv_at hl 4 rfl) ?_
            refine hj_iadd hx hb d_M_write_69 ?_
            refine hj_bald hx hb hK hP 2 1 rfl rfl (by omega) (by omega) d_M_write_70 ?_
            refine hj_bast hx hb hK hP hD hS 1 0 rfl rfl (by omega) (by decide) d_M_write_71 (fun H locs hP hD hS => ?_)
            have hP : va_P (dC, dI) vwCl [(m0, .inr (3, [.int th, .ref da, .int (nI st), .int (nI g), .int (nI h), .int (nI us), .int (nI n), .ref ba, .ref ka, .ref ta, .int (nI tl), .int (du - nI 1), .int wr, .ref na, .ref ea])), (da, .inl (cD, 32768, .inl (hj_B (va_up (va_cpy r9 d f (512 * b) i) ((512 * b) + i) (r9 (f + i)))))), (a2, .inl (cA2, n2, .inl (hj_B r9)))] H := hP
            have hD : va_D A [(m0, .inr (3, [.int th, .ref da, .int (nI st), .int (nI g), .int (nI h), .int (nI us), .int (nI n), .ref ba, .ref ka, .ref ta, .int (nI tl), .int (du - nI 1), .int wr, .ref na, .ref ea])), (da, .inl (cD, 32768, .inl (hj_B (va_up (va_cpy r9 d f (512 * b) i) ((512 * b) + i) (r9 (f + i)))))), (a2, .inl (cA2, n2, .inl (hj_B r9)))] := hD
            have h9 : (va_up (va_cpy r9 d f (512 * b) i) ((512 * b) + i) (r9 (f + i)) : Nat → Nat) = va_cpy r9 d f (512 * b) (i + 1) := hj_cpyS r9 d f (512 * b) i
            rw [h9] at hP hD
            have hP : va_P (dC, dI) vwCl [(m0, .inr (3, [.int th, .ref da, .int (nI st), .int (nI g), .int (nI h), .int (nI us), .int (nI n), .ref ba, .ref ka, .ref ta, .int (nI tl), .int (du - nI 1), .int wr, .ref na, .ref ea])), (da, .inl (cD, 32768, .inl (hj_B (va_cpy r9 d f (512 * b) (i + 1))))), (a2, .inl (cA2, n2, .inl (hj_B r9)))] H := hP
            have hD : va_D A [(m0, .inr (3, [.int th, .ref da, .int (nI st), .int (nI g), .int (nI h), .int (nI us), .int (nI n), .ref ba, .ref ka, .ref ta, .int (nI tl), .int (du - nI 1), .int wr, .ref na, .ref ea])), (da, .inl (cD, 32768, .inl (hj_B (va_cpy r9 d f (512 * b) (i + 1))))), (a2, .inl (cA2, n2, .inl (hj_B r9)))] := hD
            refine lv_iinc (v := nI (i + 1)) (lv' := [(4, .int (nI (i + 1))), (0, .ref m0), (1, .int (nI b)), (2, .ref a2), (3, .int (nI f))]) hx hb d_M_write_72 hl (k := 4) rfl (nI_1 _) (by decide) rfl (fun ls hl => ?_)
            refine lv_goto (tgt := 45) hx hb d_M_write_75 (by decide) ?_
            exact ih_lp (i + 1) (by omega) (by omega) _ _ hP hD hS _ (lv_sub hl [1, 2, 3, 4, 0] rfl)
      exact lp _ 0 (by omega) (Nat.lt_succ_self _) _ _ hP hD hS _ (lv_sub hl [1, 2, 3, 4, 0] rfl)
  · refine lv_aload_n hx hb d_M_write_7 rfl (lv_at hl 0 rfl) ?_
    refine lv_iconst (v := (-1)) hx hb d_M_write_8 (by decide) ?_
    refine va_put (D := (dC, dI)) (ci := 3) (v := .int (-1)) (ty := (.int)) (C := "HalfJournalModel") (T := F_M) (N := 15) hx hb hts i_M t_M t_M_ok n_M hown hK hP hD hS 0 rfl rfl 11 (by decide) (hts _ m_656) (fun _ h9 => h9) rfl (by decide +kernel) rfl rfl (Nat.le_of_ble_eq_true rfl) d_M_write_9 (fun H locs hP hD hS => ?_)
    have hP : va_P (dC, dI) vwCl [(m0, .inr (3, [.int th, .ref da, .int (nI st), .int (nI g), .int (nI h), .int (nI us), .int (nI n), .ref ba, .ref ka, .ref ta, .int (nI tl), .int (-1), .int wr, .ref na, .ref ea])), (da, .inl (cD, 32768, .inl (hj_B d))), (a2, .inl (cA2, n2, .inl (hj_B r9)))] H := hP
    have hD : va_D A [(m0, .inr (3, [.int th, .ref da, .int (nI st), .int (nI g), .int (nI h), .int (nI us), .int (nI n), .ref ba, .ref ka, .ref ta, .int (nI tl), .int (-1), .int wr, .ref na, .ref ea])), (da, .inl (cD, 32768, .inl (hj_B d))), (a2, .inl (cA2, n2, .inl (hj_B r9)))] := hD
    refine lv_aload_n hx hb d_M_write_12 rfl (lv_at hl 0 rfl) ?_
    refine hj_callv (wc := [(m0, .inr (3, [.int th, .ref da, .int (nI st), .int (nI g), .int (nI h), .int (nI us), .int (nI n), .ref ba, .ref ka, .ref ta, .int (nI tl), .int (-1), .int wr, .ref na, .ref ea]))]) (wr := [(da, .inl (cD, 32768, .inl (hj_B d))), (a2, .inl (cA2, n2, .inl (hj_B r9)))]) [0] [1, 2] hP hD hS hA rfl rfl rfl (by decide) (va_runV (As := []) (rest := []) ⟨hx, hb, hml, hown, hts⟩ (c_M_down l dC dI m0 da ba ka ta na ea th st g h us n tl (-1) wr H.size) (cwV 0 hts (hj_gV m_763 m_765 s_M_down m_4 m_766) rfl rfl rfl (by decide +kernel) ⟨Nat.le_of_ble_eq_true rfl, Nat.le_of_ble_eq_true rfl⟩) (hj_preV (ci := 3) (q0 := 0) hj_E0ok hE hP hD hK hS hA [0] rfl rfl [] rfl rfl rfl) rfl rfl hl.1 rfl (lv_room (Nat.le_of_ble_eq_true rfl)) d_M_write_13 ⟨Nat.le_of_ble_eq_true rfl, Nat.le_of_ble_eq_true rfl⟩) (fun u_2 H locs hw hP hD hK1 hS => ?_)
    have hP : va_P (dC, dI) vwCl [(m0, .inr (3, [.int th, .ref da, .int (nI 0), .int (nI 0), .int (nI 0), .int (nI 0), .int (nI 0), .ref ba, .ref ka, .ref ta, .int (nI tl), .int (-1), .int wr, .ref na, .ref ea])), (da, .inl (cD, 32768, .inl (hj_B d))), (a2, .inl (cA2, n2, .inl (hj_B r9)))] H := hP.sub [2, 0, 1] rfl
    have hD : va_D A [(m0, .inr (3, [.int th, .ref da, .int (nI 0), .int (nI 0), .int (nI 0), .int (nI 0), .int (nI 0), .ref ba, .ref ka, .ref ta, .int (nI tl), .int (-1), .int wr, .ref na, .ref ea])), (da, .inl (cD, 32768, .inl (hj_B d))), (a2, .inl (cA2, n2, .inl (hj_B r9)))] := hD.sub [2, 0, 1] (by decide) rfl
    refine lv_iconst (v := nI 0) hx hb d_M_write_16 (by decide) ?_
    exact hret (nI 0) (0, 0, 0, 0, 0, -1, wr, d) _ _ _ _ d_M_write_17 rfl (Or.inl ⟨c_1, rfl, rfl, rfl, rfl, rfl, rfl, rfl, rfl, rfl⟩) hP hK hD hS
abbrev rm_M_wipe : Room := { frames := 8, cells := 0, slots := 0, locals := 100 }
set_option maxHeartbeats 4000000 in
set_option maxRecDepth 100000 in
theorem c_M_wipe (l : Launch) (dC : Nat → ClassId) (dI : Nat → Nat → Nat) (m0 da ba ka ta na ea : Nat) (th : Int32) (st g h us n tl : Nat) (du wr : Int32) : hj_Mv l y_M_wipe b_M_wipe 1 rm_M_wipe hj_E0 (dC, dI) vwCl [] [(m0, .inr (3, [.int th, .ref da, .int (nI st), .int (nI g), .int (nI h), .int (nI us), .int (nI n), .ref ba, .ref ka, .ref ta, .int (nI tl), .int du, .int wr, .ref na, .ref ea]))] [.ref m0] (fun _ => True) (fun _ : Unit => [(m0, .inr (3, [.int (nI 0), .ref da, .int (nI st), .int (nI g), .int (nI h), .int (nI us), .int (nI n), .ref ba, .ref ka, .ref ta, .int (nI 0), .int du, .int wr, .ref na, .ref ea]))]) (fun _ => []) 0 0 := by
  refine hj_bodyV (by decide +kernel) (Nat.le_of_ble_eq_true rfl) ?_
  intro p e s m args below meth c A Q ls hx hb hts hown hml hin hA hP hK hD hE hl hret
  have hS : va_S A s.heap s.heap [] := va_S.rf
  have hown : s.vm.findClass "HalfJournalModel" = some m.cls := hown
  have hl : lv_has ls 1 [(0, .ref m0)] := hl
  have hP : va_P (dC, dI) vwCl [(m0, .inr (3, [.int th, .ref da, .int (nI st), .int (nI g), .int (nI h), .int (nI us), .int (nI n), .ref ba, .ref ka, .ref ta, .int (nI tl), .int du, .int wr, .ref na, .ref ea]))] s.heap := hP
  have hD : va_D A [(m0, .inr (3, [.int th, .ref da, .int (nI st), .int (nI g), .int (nI h), .int (nI us), .int (nI n), .ref ba, .ref ka, .ref ta, .int (nI tl), .int du, .int wr, .ref na, .ref ea]))] := hD
  refine lv_aload_n hx hb d_M_wipe_0 rfl (lv_at hl 0 rfl) ?_
  refine lv_iconst (v := nI 0) hx hb d_M_wipe_1 (by decide) ?_
  refine va_put (D := (dC, dI)) (ci := 3) (v := .int (nI 0)) (ty := (.int)) (C := "HalfJournalModel") (T := F_M) (N := 15) hx hb hts i_M t_M t_M_ok n_M hown hK hP hD hS 0 rfl rfl 0 (by decide) (hts _ m_645) (fun _ h9 => h9) rfl (by decide +kernel) rfl rfl (Nat.le_of_ble_eq_true rfl) d_M_wipe_2 (fun H locs hP hD hS => ?_)
  have hP : va_P (dC, dI) vwCl [(m0, .inr (3, [.int (nI 0), .ref da, .int (nI st), .int (nI g), .int (nI h), .int (nI us), .int (nI n), .ref ba, .ref ka, .ref ta, .int (nI tl), .int du, .int wr, .ref na, .ref ea]))] H := hP
  have hD : va_D A [(m0, .inr (3, [.int (nI 0), .ref da, .int (nI st), .int (nI g), .int (nI h), .int (nI us), .int (nI n), .ref ba, .ref ka, .ref ta, .int (nI tl), .int du, .int wr, .ref na, .ref ea]))] := hD
  refine lv_aload_n hx hb d_M_wipe_5 rfl (lv_at hl 0 rfl) ?_
  refine lv_iconst (v := nI 0) hx hb d_M_wipe_6 (by decide) ?_
  refine va_put (D := (dC, dI)) (ci := 3) (v := .int (nI 0)) (ty := (.int)) (C := "HalfJournalModel") (T := F_M) (N := 15) hx hb hts i_M t_M t_M_ok n_M hown hK hP hD hS 0 rfl rfl 10 (by decide) (hts _ m_655) (fun _ h9 => h9) rfl (by decide +kernel) rfl rfl (Nat.le_of_ble_eq_true rfl) d_M_wipe_7 (fun H locs hP hD hS => ?_)
  have hP : va_P (dC, dI) vwCl [(m0, .inr (3, [.int (nI 0), .ref da, .int (nI st), .int (nI g), .int (nI h), .int (nI us), .int (nI n), .ref ba, .ref ka, .ref ta, .int (nI 0), .int du, .int wr, .ref na, .ref ea]))] H := hP
  have hD : va_D A [(m0, .inr (3, [.int (nI 0), .ref da, .int (nI st), .int (nI g), .int (nI h), .int (nI us), .int (nI n), .ref ba, .ref ka, .ref ta, .int (nI 0), .int du, .int wr, .ref na, .ref ea]))] := hD
  exact hret () _ _ _ _ d_M_wipe_10 (trivial) hP hK hD hS
abbrev rm_M_crash : Room := { frames := 24, cells := 0, slots := 0, locals := 300 }
set_option maxHeartbeats 4000000 in
set_option maxRecDepth 100000 in
theorem c_M_crash (l : Launch) (dC : Nat → ClassId) (dI : Nat → Nat → Nat) (m0 da ba ka ta na ea : Nat) (th : Int32) (st g h us n tl : Nat) (du wr : Int32) : hj_Mv l y_M_crash b_M_crash 1 rm_M_crash hj_E0 (dC, dI) vwCl [] [(m0, .inr (3, [.int th, .ref da, .int (nI st), .int (nI g), .int (nI h), .int (nI us), .int (nI n), .ref ba, .ref ka, .ref ta, .int (nI tl), .int du, .int wr, .ref na, .ref ea]))] [.ref m0] (fun _ => True) (fun _ : Unit => [(m0, .inr (3, [.int (nI 0), .ref da, .int (nI 0), .int (nI 0), .int (nI 0), .int (nI 0), .int (nI 0), .ref ba, .ref ka, .ref ta, .int (nI tl), .int du, .int wr, .ref na, .ref ea]))]) (fun _ => []) 0 0 := by
  refine hj_bodyV (by decide +kernel) (Nat.le_of_ble_eq_true rfl) ?_
  intro p e s m args below meth c A Q ls hx hb hts hown hml hin hA hP hK hD hE hl hret
  have hS : va_S A s.heap s.heap [] := va_S.rf
  have hown : s.vm.findClass "HalfJournalModel" = some m.cls := hown
  have hl : lv_has ls 1 [(0, .ref m0)] := hl
  have hP : va_P (dC, dI) vwCl [(m0, .inr (3, [.int th, .ref da, .int (nI st), .int (nI g), .int (nI h), .int (nI us), .int (nI n), .ref ba, .ref ka, .ref ta, .int (nI tl), .int du, .int wr, .ref na, .ref ea]))] s.heap := hP
  have hD : va_D A [(m0, .inr (3, [.int th, .ref da, .int (nI st), .int (nI g), .int (nI h), .int (nI us), .int (nI n), .ref ba, .ref ka, .ref ta, .int (nI tl), .int du, .int wr, .ref na, .ref ea]))] := hD
  refine lv_aload_n hx hb d_M_crash_0 rfl (lv_at hl 0 rfl) ?_
  refine lv_iconst (v := nI 0) hx hb d_M_crash_1 (by decide) ?_
  refine va_put (D := (dC, dI)) (ci := 3) (v := .int (nI 0)) (ty := (.int)) (C := "HalfJournalModel") (T := F_M) (N := 15) hx hb hts i_M t_M t_M_ok n_M hown hK hP hD hS 0 rfl rfl 0 (by decide) (hts _ m_645) (fun _ h9 => h9) rfl (by decide +kernel) rfl rfl (Nat.le_of_ble_eq_true rfl) d_M_crash_2 (fun H locs hP hD hS => ?_)
  have hP : va_P (dC, dI) vwCl [(m0, .inr (3, [.int (nI 0), .ref da, .int (nI st), .int (nI g), .int (nI h), .int (nI us), .int (nI n), .ref ba, .ref ka, .ref ta, .int (nI tl), .int du, .int wr, .ref na, .ref ea]))] H := hP
  have hD : va_D A [(m0, .inr (3, [.int (nI 0), .ref da, .int (nI st), .int (nI g), .int (nI h), .int (nI us), .int (nI n), .ref ba, .ref ka, .ref ta, .int (nI tl), .int du, .int wr, .ref na, .ref ea]))] := hD
  refine lv_aload_n hx hb d_M_crash_5 rfl (lv_at hl 0 rfl) ?_
  refine hj_callv (wc := [(m0, .inr (3, [.int (nI 0), .ref da, .int (nI st), .int (nI g), .int (nI h), .int (nI us), .int (nI n), .ref ba, .ref ka, .ref ta, .int (nI tl), .int du, .int wr, .ref na, .ref ea]))]) (wr := []) [0] [] hP hD hS hA rfl rfl rfl (by decide) (va_runV (As := []) (rest := []) ⟨hx, hb, hml, hown, hts⟩ (c_M_down l dC dI m0 da ba ka ta na ea (nI 0) st g h us n tl du wr H.size) (cwV 0 hts (hj_gV m_763 m_765 s_M_down m_4 m_766) rfl rfl rfl (by decide +kernel) ⟨Nat.le_of_ble_eq_true rfl, Nat.le_of_ble_eq_true rfl⟩) (hj_preV (ci := 3) (q0 := 0) hj_E0ok hE hP hD hK hS hA [0] rfl rfl [] rfl rfl rfl) rfl rfl hl.1 rfl (lv_room (Nat.le_of_ble_eq_true rfl)) d_M_crash_6 ⟨Nat.le_of_ble_eq_true rfl, Nat.le_of_ble_eq_true rfl⟩) (fun u_2 H locs hw hP hD hK1 hS => ?_)
  have hP : va_P (dC, dI) vwCl [(m0, .inr (3, [.int (nI 0), .ref da, .int (nI 0), .int (nI 0), .int (nI 0), .int (nI 0), .int (nI 0), .ref ba, .ref ka, .ref ta, .int (nI tl), .int du, .int wr, .ref na, .ref ea]))] H := hP.sub [0] rfl
  have hD : va_D A [(m0, .inr (3, [.int (nI 0), .ref da, .int (nI 0), .int (nI 0), .int (nI 0), .int (nI 0), .int (nI 0), .ref ba, .ref ka, .ref ta, .int (nI tl), .int du, .int wr, .ref na, .ref ea]))] := hD.sub [0] (by decide) rfl
  exact hret () _ _ _ _ d_M_crash_9 (trivial) hP hK hD hS
abbrev rm_M_crashIn : Room := { frames := 8, cells := 0, slots := 0, locals := 100 }
set_option maxHeartbeats 4000000 in
set_option maxRecDepth 100000 in
theorem c_M_crashIn (l : Launch) (dC : Nat → ClassId) (dI : Nat → Nat → Nat) (m0 da ba ka ta na ea : Nat) (th : Int32) (st g h us n tl : Nat) (du wr : Int32) (x : Int32) : hj_Mi l y_M_crashIn b_M_crashIn 2 .boolean rm_M_crashIn hj_E0 (dC, dI) vwCl [] [(m0, .inr (3, [.int th, .ref da, .int (nI st), .int (nI g), .int (nI h), .int (nI us), .int (nI n), .ref ba, .ref ka, .ref ta, .int (nI tl), .int du, .int wr, .ref na, .ref ea]))] [.ref m0, .int x] (fun r y => hj_cin du x r y) (fun y : Int32 => [(m0, .inr (3, [.int (nI 0), .ref da, .int (nI st), .int (nI g), .int (nI h), .int (nI us), .int (nI n), .ref ba, .ref ka, .ref ta, .int (nI tl), .int y, .int wr, .ref na, .ref ea]))]) (fun _ => []) 0 0 := by
  refine hj_bodyI (by decide +kernel) (Nat.le_of_ble_eq_true rfl) ?_
  intro p e s m args below meth c A Q ls hx hb hts hown hml hA hP hK hD hE hl hret
  have hS : va_S A s.heap s.heap [] := va_S.rf
  have hown : s.vm.findClass "HalfJournalModel" = some m.cls := hown
  have hl : lv_has ls 2 [(0, .ref m0), (1, .int x)] := hl
  have hP : va_P (dC, dI) vwCl [(m0, .inr (3, [.int th, .ref da, .int (nI st), .int (nI g), .int (nI h), .int (nI us), .int (nI n), .ref ba, .ref ka, .ref ta, .int (nI tl), .int du, .int wr, .ref na, .ref ea]))] s.heap := hP
  have hD : va_D A [(m0, .inr (3, [.int th, .ref da, .int (nI st), .int (nI g), .int (nI h), .int (nI us), .int (nI n), .ref ba, .ref ka, .ref ta, .int (nI tl), .int du, .int wr, .ref na, .ref ea]))] := hD
  refine lv_aload_n hx hb d_M_crashIn_0 rfl (lv_at hl 0 rfl) ?_
  refine lv_iconst (v := nI 0) hx hb d_M_crashIn_1 (by decide) ?_
  refine va_put (D := (dC, dI)) (ci := 3) (v := .int (nI 0)) (ty := (.int)) (C := "HalfJournalModel") (T := F_M) (N := 15) hx hb hts i_M t_M t_M_ok n_M hown hK hP hD hS 0 rfl rfl 0 (by decide) (hts _ m_645) (fun _ h9 => h9) rfl (by decide +kernel) rfl rfl (Nat.le_of_ble_eq_true rfl) d_M_crashIn_2 (fun H locs hP hD hS => ?_)
  have hP : va_P (dC, dI) vwCl [(m0, .inr (3, [.int (nI 0), .ref da, .int (nI st), .int (nI g), .int (nI h), .int (nI us), .int (nI n), .ref ba, .ref ka, .ref ta, .int (nI tl), .int du, .int wr, .ref na, .ref ea]))] H := hP
  have hD : va_D A [(m0, .inr (3, [.int (nI 0), .ref da, .int (nI st), .int (nI g), .int (nI h), .int (nI us), .int (nI n), .ref ba, .ref ka, .ref ta, .int (nI tl), .int du, .int wr, .ref na, .ref ea]))] := hD
  refine lv_iload_n hx hb d_M_crashIn_5 rfl (lv_at hl 1 rfl) ?_
  refine lv_sipush (v := nI 1000) hx hb d_M_crashIn_6 (by decide) ?_
  refine lv_icmp_le (tgt := 14) hx hb d_M_crashIn_9 (by decide) (fun c_1 => ?_) (fun c_1 => ?_)
  · refine lv_aload_n hx hb d_M_crashIn_14 rfl (lv_at hl 0 rfl) ?_
    refine lv_iload_n hx hb d_M_crashIn_15 rfl (lv_at hl 1 rfl) ?_
    refine lv_if_ge (tgt := 23) hx hb d_M_crashIn_16 (by decide) (fun c_2 => ?_) (fun c_2 => ?_)
    · refine lv_iload_n hx hb d_M_crashIn_23 rfl (lv_at hl 1 rfl) ?_
      refine va_put (D := (dC, dI)) (ci := 3) (v := .int x) (ty := (.int)) (C := "HalfJournalModel") (T := F_M) (N := 15) hx hb hts i_M t_M t_M_ok n_M hown hK hP hD hS 0 rfl rfl 11 (by decide) (hts _ m_656) (fun _ h9 => h9) rfl (by decide +kernel) rfl rfl (Nat.le_of_ble_eq_true rfl) d_M_crashIn_24 (fun H locs hP hD hS => ?_)
      have hP : va_P (dC, dI) vwCl [(m0, .inr (3, [.int (nI 0), .ref da, .int (nI st), .int (nI g), .int (nI h), .int (nI us), .int (nI n), .ref ba, .ref ka, .ref ta, .int (nI tl), .int x, .int wr, .ref na, .ref ea]))] H := hP
      have hD : va_D A [(m0, .inr (3, [.int (nI 0), .ref da, .int (nI st), .int (nI g), .int (nI h), .int (nI us), .int (nI n), .ref ba, .ref ka, .ref ta, .int (nI tl), .int x, .int wr, .ref na, .ref ea]))] := hD
      refine lv_iconst (v := nI 1) hx hb d_M_crashIn_27 (by decide) ?_
      exact hret (nI 1) x _ _ _ _ d_M_crashIn_28 rfl (Or.inr ⟨Int32.not_lt.mpr c_1, rfl, Or.inr ⟨Int32.not_lt.mpr c_2, rfl⟩⟩) hP hK hD hS
    · refine lv_iconst (v := (-1)) hx hb d_M_crashIn_19 (by decide) ?_
      refine lv_goto (tgt := 24) hx hb d_M_crashIn_20 (by decide) ?_
      refine va_put (D := (dC, dI)) (ci := 3) (v := .int (-1)) (ty := (.int)) (C := "HalfJournalModel") (T := F_M) (N := 15) hx hb hts i_M t_M t_M_ok n_M hown hK hP hD hS 0 rfl rfl 11 (by decide) (hts _ m_656) (fun _ h9 => h9) rfl (by decide +kernel) rfl rfl (Nat.le_of_ble_eq_true rfl) d_M_crashIn_24 (fun H locs hP hD hS => ?_)
      have hP : va_P (dC, dI) vwCl [(m0, .inr (3, [.int (nI 0), .ref da, .int (nI st), .int (nI g), .int (nI h), .int (nI us), .int (nI n), .ref ba, .ref ka, .ref ta, .int (nI tl), .int (-1), .int wr, .ref na, .ref ea]))] H := hP
      have hD : va_D A [(m0, .inr (3, [.int (nI 0), .ref da, .int (nI st), .int (nI g), .int (nI h), .int (nI us), .int (nI n), .ref ba, .ref ka, .ref ta, .int (nI tl), .int (-1), .int wr, .ref na, .ref ea]))] := hD
      refine lv_iconst (v := nI 1) hx hb d_M_crashIn_27 (by decide) ?_
      exact hret (nI 1) (-1) _ _ _ _ d_M_crashIn_28 rfl (Or.inr ⟨Int32.not_lt.mpr c_1, rfl, Or.inl ⟨Int32.not_le.mp c_2, rfl⟩⟩) hP hK hD hS
  · refine lv_iconst (v := nI 0) hx hb d_M_crashIn_12 (by decide) ?_
    exact hret (nI 0) du _ _ _ _ d_M_crashIn_13 rfl (Or.inl ⟨Int32.not_le.mp c_1, rfl, rfl⟩) hP hK hD hS
abbrev rm_M_give : Room := { frames := 8, cells := 0, slots := 0, locals := 100 }
set_option maxHeartbeats 4000000 in
set_option maxRecDepth 100000 in
theorem c_M_give (l : Launch) (dC : Nat → ClassId) (dI : Nat → Nat → Nat) (m0 da ba ka ta na ea : Nat) (th : Int32) (st g h us n tl : Nat) (du wr : Int32) (cT : ClassId) (tp : Nat → Nat) (v : Int64) (x : Int32) (htl : tl ≤ 1000) : hj_Mi l y_M_give b_M_give 5 .boolean rm_M_give hj_E0 (dC, dI) vwCl [(cT, .byte)] [(m0, .inr (3, [.int th, .ref da, .int (nI st), .int (nI g), .int (nI h), .int (nI us), .int (nI n), .ref ba, .ref ka, .ref ta, .int (nI tl), .int du, .int wr, .ref na, .ref ea])), (ta, .inl (cT, 1000, .inl (hj_B tp)))] [.ref m0, .long v, .int x] (fun r u => hj_give tp tl v x r u.1 u.2) (fun u : (Nat → Nat) × Nat => [(m0, .inr (3, [.int (nI 0), .ref da, .int (nI st), .int (nI g), .int (nI h), .int (nI us), .int (nI n), .ref ba, .ref ka, .ref ta, .int (nI u.2), .int du, .int wr, .ref na, .ref ea])), (ta, .inl (cT, 1000, .inl (hj_B u.1)))]) (fun _ => [(cT, .byte)]) 0 0 := by
  refine hj_bodyI (by decide +kernel) (Nat.le_of_ble_eq_true rfl) ?_
  intro p e s m args below meth c A Q ls hx hb hts hown hml hA hP hK hD hE hl hret
  have hS : va_S A s.heap s.heap [] := va_S.rf
  have hown : s.vm.findClass "HalfJournalModel" = some m.cls := hown
  have hl : lv_has ls 5 [(0, .ref m0), (1, .long v), (3, .int x)] := hl
  have hP : va_P (dC, dI) vwCl [(m0, .inr (3, [.int th, .ref da, .int (nI st), .int (nI g), .int (nI h), .int (nI us), .int (nI n), .ref ba, .ref ka, .ref ta, .int (nI tl), .int du, .int wr, .ref na, .ref ea])), (ta, .inl (cT, 1000, .inl (hj_B tp)))] s.heap := hP
  have hD : va_D A [(m0, .inr (3, [.int th, .ref da, .int (nI st), .int (nI g), .int (nI h), .int (nI us), .int (nI n), .ref ba, .ref ka, .ref ta, .int (nI tl), .int du, .int wr, .ref na, .ref ea])), (ta, .inl (cT, 1000, .inl (hj_B tp)))] := hD
  refine lv_aload_n hx hb d_M_give_0 rfl (lv_at hl 0 rfl) ?_
  refine lv_iconst (v := nI 0) hx hb d_M_give_1 (by decide) ?_
  refine va_put (D := (dC, dI)) (ci := 3) (v := .int (nI 0)) (ty := (.int)) (C := "HalfJournalModel") (T := F_M) (N := 15) hx hb hts i_M t_M t_M_ok n_M hown hK hP hD hS 0 rfl rfl 0 (by decide) (hts _ m_645) (fun _ h9 => h9) rfl (by decide +kernel) rfl rfl (Nat.le_of_ble_eq_true rfl) d_M_give_2 (fun H locs hP hD hS => ?_)
  have hP : va_P (dC, dI) vwCl [(m0, .inr (3, [.int (nI 0), .ref da, .int (nI st), .int (nI g), .int (nI h), .int (nI us), .int (nI n), .ref ba, .ref ka, .ref ta, .int (nI tl), .int du, .int wr, .ref na, .ref ea])), (ta, .inl (cT, 1000, .inl (hj_B tp)))] H := hP
  have hD : va_D A [(m0, .inr (3, [.int (nI 0), .ref da, .int (nI st), .int (nI g), .int (nI h), .int (nI us), .int (nI n), .ref ba, .ref ka, .ref ta, .int (nI tl), .int du, .int wr, .ref na, .ref ea])), (ta, .inl (cT, 1000, .inl (hj_B tp)))] := hD
  refine lv_iload_n hx hb d_M_give_5 rfl (lv_at hl 2 rfl) ?_
  refine lv_iconst (v := nI 1) hx hb d_M_give_6 (by decide) ?_
  refine lv_icmp_lt (tgt := 28) hx hb d_M_give_7 (by decide) (fun c_1 => ?_) (fun c_1 => ?_)
  · refine lv_iconst (v := nI 0) hx hb d_M_give_28 (by decide) ?_
    exact hret (nI 0) (tp, tl) _ _ _ _ d_M_give_29 rfl (Or.inr ⟨fun ⟨k9, h1, h2, h3, h4⟩ => by rw [h1] at c_1; have h5 := (nI_ltI (by omega) (by omega)).mp c_1; omega, rfl, rfl, rfl⟩) hP hK hD hS
  · obtain ⟨k, hk1, hk2, rfl⟩ := hj_ge1 c_1
    refine lv_iload_n hx hb d_M_give_10 rfl (lv_at hl 2 rfl) ?_
    refine lv_bipush (v := nI 8) hx hb d_M_give_11 (by decide) ?_
    refine hj_icmp_gt (tgt := 28) hx hb (by omega) (by omega) d_M_give_13 (by decide) (fun c_2 => ?_) (fun c_2 => ?_)
    · refine lv_iconst (v := nI 0) hx hb d_M_give_28 (by decide) ?_
      exact hret (nI 0) (tp, tl) _ _ _ _ d_M_give_29 rfl (Or.inr ⟨fun ⟨k9, h1, h2, h3, h4⟩ => by have h5 := (nI_eq (by omega) (by omega)).mp h1; omega, rfl, rfl, rfl⟩) hP hK hD hS
    · refine lv_aload_n hx hb d_M_give_16 rfl (lv_at hl 0 rfl) ?_
      refine va_get (D := (dC, dI)) (ci := 3) (v := .int (nI tl)) (C := "HalfJournalModel") (T := F_M) (N := 15) hx hb hts i_M hown hK hP 0 rfl rfl 10 (by decide) (hts _ m_655) (fun _ h9 => h9) rfl d_M_give_17 ?_
      refine lv_iload_n hx hb d_M_give_20 rfl (lv_at hl 2 rfl) ?_
      refine hj_iadd hx hb d_M_give_21 ?_
      refine lv_sipush (v := nI 1000) hx hb d_M_give_22 (by decide) ?_
      refine hj_icmp_le (tgt := 30) hx hb (by omega) (by omega) d_M_give_25 (by decide) (fun c_3 => ?_) (fun c_3 => ?_)
      · refine lv_iload_n hx hb d_M_give_30 rfl (lv_at hl 2 rfl) ?_
        refine lv_iconst (v := nI 1) hx hb d_M_give_31 (by decide) ?_
        refine lv_isub hx hb d_M_give_32 ?_
        refine hj_topv (y := nI k - 1) (rfl) ?_
        refine lv_istore (lv' := [(4, .int (nI k - 1)), (0, .ref m0), (1, .long v), (3, .int (nI k))]) hx hb d_M_give_33 hl (by decide) rfl (fun ls hl => ?_)
        have h9 : (tp : Nat → Nat) = hj_gvt tp tl v k (k - k) := by rw [Nat.sub_self, hj_gvt0]
        rw [h9] at hP hD
        have hP : va_P (dC, dI) vwCl [(m0, .inr (3, [.int (nI 0), .ref da, .int (nI st), .int (nI g), .int (nI h), .int (nI us), .int (nI n), .ref ba, .ref ka, .ref ta, .int (nI tl), .int du, .int wr, .ref na, .ref ea])), (ta, .inl (cT, 1000, .inl (hj_B (hj_gvt tp tl v k (k - k)))))] H := hP
        have hD : va_D A [(m0, .inr (3, [.int (nI 0), .ref da, .int (nI st), .int (nI g), .int (nI h), .int (nI us), .int (nI n), .ref ba, .ref ka, .ref ta, .int (nI tl), .int du, .int wr, .ref na, .ref ea])), (ta, .inl (cT, 1000, .inl (hj_B (hj_gvt tp tl v k (k - k)))))] := hD
        have h7 : tl = tl + (k - k) := by omega
        have hP : va_P (dC, dI) vwCl [(m0, .inr (3, [.int (nI 0), .ref da, .int (nI st), .int (nI g), .int (nI h), .int (nI us), .int (nI n), .ref ba, .ref ka, .ref ta, .int (nI (tl + (k - k))), .int du, .int wr, .ref na, .ref ea])), (ta, .inl (cT, 1000, .inl (hj_B (hj_gvt tp tl v k (k - k)))))] H := by rw [← h7]; exact hP
        have hD : va_D A [(m0, .inr (3, [.int (nI 0), .ref da, .int (nI st), .int (nI g), .int (nI h), .int (nI us), .int (nI n), .ref ba, .ref ka, .ref ta, .int (nI (tl + (k - k))), .int du, .int wr, .ref na, .ref ea])), (ta, .inl (cT, 1000, .inl (hj_B (hj_gvt tp tl v k (k - k)))))] := by rw [← h7]; exact hD
        have lp : ∀ (n9_lp : Nat) (y : Nat), (y ≤ k) → y < n9_lp → ∀ (H : Heap) (locs : List Loc), va_P (dC, dI) vwCl [(m0, .inr (3, [.int (nI 0), .ref da, .int (nI st), .int (nI g), .int (nI h), .int (nI us), .int (nI n), .ref ba, .ref ka, .ref ta, .int (nI (tl + (k - y))), .int du, .int wr, .ref na, .ref ea])), (ta, .inl (cT, 1000, .inl (hj_B (hj_gvt tp tl v k (k - y)))))] H → va_D A [(m0, .inr (3, [.int (nI 0), .ref da, .int (nI st), .int (nI g), .int (nI h), .int (nI us), .int (nI n), .ref ba, .ref ka, .ref ta, .int (nI (tl + (k - y))), .int du, .int wr, .ref na, .ref ea])), (ta, .inl (cT, 1000, .inl (hj_B (hj_gvt tp tl v k (k - y)))))] → va_S A s.heap H locs → ∀ (ls : Array Slot), lv_has ls 5 [(0, .ref m0), (1, .long v), (4, .int (nI y - 1))] → W p l e rm_M_give s m args below meth c H locs 0 0 Q (F0 m 35 ls []) := by
          intro n9_lp
          induction n9_lp with
          | zero =>
            intro y hy hm_lp
            exact absurd hm_lp (Nat.not_lt_zero _)
          | succ n9_lp ih_lp =>
            intro y hy hm_lp H locs hP hD hS ls hl
            rcases y with _ | y
            · refine lv_iload hx hb d_M_give_35 (lv_at hl 2 rfl) ?_
              refine lv_if_lt (tgt := 74) hx hb d_M_give_37 (by decide) (fun c_9 => ?_) (fun c_9 => ?_)
              · refine lv_iconst (v := nI 1) hx hb d_M_give_74 (by decide) ?_
                exact hret (nI 1) (hj_gvt tp tl v k k, tl + k) _ _ _ _ d_M_give_75 rfl (Or.inl ⟨k, ⟨rfl, hk1, by omega, by omega⟩, rfl, rfl, rfl⟩) hP hK hD hS
              · exact absurd hj_m1_neg c_9
            · rw [nI_pred] at hl
              refine lv_iload hx hb d_M_give_35 (lv_at hl 2 rfl) ?_
              refine hj_if_lt (tgt := 74) hx hb (by omega) d_M_give_37 ?_ (by decide)
              refine lv_aload_n hx hb d_M_give_40 rfl (lv_at hl 0 rfl) ?_
              refine va_get (D := (dC, dI)) (ci := 3) (v := .ref ta) (C := "HalfJournalModel") (T := F_M) (N := 15) hx hb hts i_M hown hK hP 0 rfl rfl 9 (by decide) (hts _ m_654) (fun _ h9 => h9) rfl d_M_give_41 ?_
              refine lv_aload_n hx hb d_M_give_44 rfl (lv_at hl 0 rfl) ?_
              refine va_get (D := (dC, dI)) (ci := 3) (v := .int (nI (tl + (k - (y + 1))))) (C := "HalfJournalModel") (T := F_M) (N := 15) hx hb hts i_M hown hK hP 0 rfl rfl 10 (by decide) (hts _ m_655) (fun _ h9 => h9) rfl d_M_give_45 ?_
              refine lv_lload_n hx hb d_M_give_48 rfl (lv_at hl 1 rfl) ?_
              refine lv_bipush (v := nI 8) hx hb d_M_give_49 (by decide) ?_
              refine lv_iload hx hb d_M_give_51 (lv_at hl 2 rfl) ?_
              refine hj_imul hx hb d_M_give_53 ?_
              refine lv_lshr hx hb d_M_give_54 rfl ?_
              refine lv_l2i hx hb d_M_give_55 rfl ?_
              refine lv_i2b (v := sb_b (hj_vb v y)) hx hb d_M_give_56 (hj_give_s v (by omega)) ?_
              refine hj_bast hx hb hK hP hD hS 1 0 rfl rfl (by omega) (by decide) d_M_give_57 (fun H locs hP hD hS => ?_)
              have hP : va_P (dC, dI) vwCl [(m0, .inr (3, [.int (nI 0), .ref da, .int (nI st), .int (nI g), .int (nI h), .int (nI us), .int (nI n), .ref ba, .ref ka, .ref ta, .int (nI (tl + (k - (y + 1)))), .int du, .int wr, .ref na, .ref ea])), (ta, .inl (cT, 1000, .inl (hj_B (va_up (hj_gvt tp tl v k (k - (y + 1))) (tl + (k - (y + 1))) (hj_vb v y)))))] H := hP
              have hD : va_D A [(m0, .inr (3, [.int (nI 0), .ref da, .int (nI st), .int (nI g), .int (nI h), .int (nI us), .int (nI n), .ref ba, .ref ka, .ref ta, .int (nI (tl + (k - (y + 1)))), .int du, .int wr, .ref na, .ref ea])), (ta, .inl (cT, 1000, .inl (hj_B (va_up (hj_gvt tp tl v k (k - (y + 1))) (tl + (k - (y + 1))) (hj_vb v y)))))] := hD
              have h9 : (va_up (hj_gvt tp tl v k (k - (y + 1))) (tl + (k - (y + 1))) (hj_vb v y) : Nat → Nat) = hj_gvt tp tl v k (k - y) := by
                have h8 := hj_gvtS tp tl v k (k - (y + 1))
                rw [show k - 1 - (k - (y + 1)) = y by omega, show k - (y + 1) + 1 = k - y by omega] at h8
                exact h8
              rw [h9] at hP hD
              have hP : va_P (dC, dI) vwCl [(m0, .inr (3, [.int (nI 0), .ref da, .int (nI st), .int (nI g), .int (nI h), .int (nI us), .int (nI n), .ref ba, .ref ka, .ref ta, .int (nI (tl + (k - (y + 1)))), .int du, .int wr, .ref na, .ref ea])), (ta, .inl (cT, 1000, .inl (hj_B (hj_gvt tp tl v k (k - y)))))] H := hP
              have hD : va_D A [(m0, .inr (3, [.int (nI 0), .ref da, .int (nI st), .int (nI g), .int (nI h), .int (nI us), .int (nI n), .ref ba, .ref ka, .ref ta, .int (nI (tl + (k - (y + 1)))), .int du, .int wr, .ref na, .ref ea])), (ta, .inl (cT, 1000, .inl (hj_B (hj_gvt tp tl v k (k - y)))))] := hD
              refine lv_aload_n hx hb d_M_give_58 rfl (lv_at hl 0 rfl) ?_
              refine lv_dup hx hb d_M_give_59 rfl ?_
              refine va_get (D := (dC, dI)) (ci := 3) (v := .int (nI (tl + (k - (y + 1))))) (C := "HalfJournalModel") (T := F_M) (N := 15) hx hb hts i_M hown hK hP 0 rfl rfl 10 (by decide) (hts _ m_655) (fun _ h9 => h9) rfl d_M_give_60 ?_
              refine lv_iconst (v := nI 1) hx hb d_M_give_63 (by decide) ?_
              refine hj_iadd hx hb d_M_give_64 ?_
              refine hj_topn (b := tl + (k - y)) (by omega) ?_
              refine va_put (D := (dC, dI)) (ci := 3) (v := .int (nI (tl + (k - y)))) (ty := (.int)) (C := "HalfJournalModel") (T := F_M) (N := 15) hx hb hts i_M t_M t_M_ok n_M hown hK hP hD hS 0 rfl rfl 10 (by decide) (hts _ m_655) (fun _ h9 => h9) rfl (by decide +kernel) rfl rfl (Nat.le_of_ble_eq_true rfl) d_M_give_65 (fun H locs hP hD hS => ?_)
              have hP : va_P (dC, dI) vwCl [(m0, .inr (3, [.int (nI 0), .ref da, .int (nI st), .int (nI g), .int (nI h), .int (nI us), .int (nI n), .ref ba, .ref ka, .ref ta, .int (nI (tl + (k - y))), .int du, .int wr, .ref na, .ref ea])), (ta, .inl (cT, 1000, .inl (hj_B (hj_gvt tp tl v k (k - y)))))] H := hP
              have hD : va_D A [(m0, .inr (3, [.int (nI 0), .ref da, .int (nI st), .int (nI g), .int (nI h), .int (nI us), .int (nI n), .ref ba, .ref ka, .ref ta, .int (nI (tl + (k - y))), .int du, .int wr, .ref na, .ref ea])), (ta, .inl (cT, 1000, .inl (hj_B (hj_gvt tp tl v k (k - y)))))] := hD
              refine lv_iinc (v := nI y - 1) (lv' := [(4, .int (nI y - 1)), (0, .ref m0), (1, .long v)]) hx hb d_M_give_68 hl (k := 2) rfl (hj_addm1 _) (by decide) rfl (fun ls hl => ?_)
              refine lv_goto (tgt := 35) hx hb d_M_give_71 (by decide) ?_
              exact ih_lp y (by omega) (by omega) _ _ hP hD hS _ (lv_sub hl [1, 2, 0] rfl)
        exact lp _ k (Nat.le_refl _) (Nat.lt_succ_self _) _ _ hP hD hS _ (lv_sub hl [1, 2, 0] rfl)
      · refine lv_iconst (v := nI 0) hx hb d_M_give_28 (by decide) ?_
        exact hret (nI 0) (tp, tl) _ _ _ _ d_M_give_29 rfl (Or.inr ⟨fun ⟨k9, h1, h2, h3, h4⟩ => by have h5 := (nI_eq (by omega) (by omega)).mp h1; omega, rfl, rfl, rfl⟩) hP hK hD hS
