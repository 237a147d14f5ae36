def hj_x0 (d : Nat → Nat) (h us : Nat) : Nat → Nat := fun q => if q < us then d (hj_hb h + q) else 0
theorem hj_x0_bs {d : Nat → Nat} {h us : Nat} (hd : hj_bs d) : hj_bs (hj_x0 d h us) := by
  intro q
  unfold hj_x0
  split
  · exact hd _
  · omega
theorem hj_im_of (d tp : Nat → Nat) (h us tl : Nat) : hj_pn (va_cpy tp (va_up (va_up (hj_x0 d h us) us (tl % 256)) (us + 1) (tl / 2 ^ 8 % 256)) 0 (us + 2) tl) (us + 2 + tl) 4 (hj_chk (va_cpy tp (va_up (va_up (hj_x0 d h us) us (tl % 256)) (us + 1) (tl / 2 ^ 8 % 256)) 0 (us + 2) tl) us (2 + tl)) = hj_im d h us tp tl := by
  have e0 : va_cpy tp (va_up (va_up (hj_x0 d h us) us (tl % 256)) (us + 1) (tl / 2 ^ 8 % 256)) 0 (us + 2) tl = hj_im0 d h us tp tl := by
    funext q
    unfold hj_im0
    by_cases a3 : us + 2 ≤ q ∧ q < us + 2 + tl
    · rw [if_neg (by omega), if_neg (by omega), if_pos (by omega)]
      show (if us + 2 ≤ q ∧ q < us + 2 + tl then _ else _) = _
      rw [if_pos a3]
      congr 1
      omega
    · show (if us + 2 ≤ q ∧ q < us + 2 + tl then _ else _) = _
      rw [if_neg a3]
      by_cases q1 : q = us + 1
      · subst q1
        rw [va_up_self, if_neg (by omega), if_pos (by omega), show us + 1 - us = 1 by omega, hj_by1]
      · rw [va_up_ne _ _ q1]
        by_cases q0 : q = us
        · subst q0
          rw [va_up_self, if_neg (by omega), if_pos (by omega), Nat.sub_self, hj_by0]
        · rw [va_up_ne _ _ q0]
          unfold hj_x0
          by_cases z : q < us
          · rw [if_pos z, if_pos z]
          · rw [if_neg z, if_neg z, if_neg (by omega), if_neg (by omega)]
  rw [e0]
  funext q
  unfold hj_pn hj_im
  by_cases a : us + 2 + tl ≤ q ∧ q < us + 6 + tl
  · rw [if_pos a, if_pos (by omega)]
  · rw [if_neg a, if_neg (by omega)]
theorem hj_hb512 {h : Nat} : hj_hb h / 512 = 2 + h * 31 := by unfold hj_hb; omega
theorem hj_lb_ge {us t : Nat} (h1 : us < t) (h2 : t ≤ 15872) : us / 512 ≤ hj_lb t := by
  unfold hj_lb
  split <;> omega
abbrev rm_M_append : Room := { frames := 32, cells := 0, slots := 0, locals := 400 }
set_option maxHeartbeats 4000000 in
set_option maxRecDepth 100000 in
theorem c_M_append (l : Launch) (dC : Nat → ClassId) (dI : Nat → Nat → Nat) (m0 da ba ka ta na ea : Nat) (th : Int32) (st g h us n tl : Nat) (du wr : Int32) (cD : ClassId) (d : Nat → Nat) (cB : ClassId) (fb : Nat → Int32) (cT cN : ClassId) (tp nx : Nat → Nat) (hh : h < 2) (hd : hj_bs d) (ht : hj_bs tp) (hbn : hj_bs nx) (hst : st ≤ 2) (htl : tl ≤ 1000) (hus : us ≤ 15872) : hj_Mi l y_M_append b_M_append 6 .int rm_M_append hj_E0 (dC, dI) vwCl [(cD, .byte), (cB, .int), (cT, .byte), (cN, .byte)] [(m0, .inr (3, [.int th, .ref da, .int (nI st), .int (nI g), .int (nI h), .int (nI us), .int (nI n), .ref ba, .ref ka, .ref ta, .int (nI tl), .int du, .int wr, .ref na, .ref ea])), (da, .inl (cD, 32768, .inl (hj_B d))), (ba, .inl (cB, 2000, .inl fb)), (ta, .inl (cT, 1000, .inl (hj_B tp))), (na, .inl (cN, 15872, .inl (hj_B nx)))] [.ref m0] (fun r ((th1, (st1, g1, h1, us1, n1, tl1), du1, wr1, d1, fb1, nx1) : Int32 × (Nat × Nat × Nat × Nat × Nat × Nat) × Int32 × Int32 × (Nat → Nat) × (Nat → Int32) × (Nat → Nat)) => hj_bs nx1 ∧ ((th1 = nI 1 ∧ ¬ st = 2 ∧ st1 = st ∧ g1 = g ∧ h1 = h ∧ us1 = us ∧ n1 = n ∧ tl1 = tl ∧ du1 = du ∧ wr1 = wr ∧ d1 = d ∧ fb1 = fb) ∨ (th1 = nI 2 ∧ st = 2 ∧ tl = 0 ∧ st1 = st ∧ g1 = g ∧ h1 = h ∧ us1 = us ∧ n1 = n ∧ tl1 = tl ∧ du1 = du ∧ wr1 = wr ∧ d1 = d ∧ fb1 = fb) ∨ (th1 = nI 3 ∧ st = 2 ∧ 0 < tl ∧ 15872 < us + hj_sz tl ∧ st1 = st ∧ g1 = g ∧ h1 = h ∧ us1 = us ∧ n1 = n ∧ tl1 = tl ∧ du1 = du ∧ wr1 = wr ∧ d1 = d ∧ fb1 = fb) ∨ (th1 = nI 0 ∧ st = 2 ∧ 0 < tl ∧ us + hj_sz tl ≤ 15872 ∧ tl1 = 0 ∧ d1 = (hj_wdn (hj_im d h us tp tl) (2 + h * 31) (us / 512) (hj_lb (us + hj_sz tl) + 1 - us / 512) d du wr).2.1 ∧ du1 = (hj_wdn (hj_im d h us tp tl) (2 + h * 31) (us / 512) (hj_lb (us + hj_sz tl) + 1 - us / 512) d du wr).2.2.1 ∧ wr1 = (hj_wdn (hj_im d h us tp tl) (2 + h * 31) (us / 512) (hj_lb (us + hj_sz tl) + 1 - us / 512) d du wr).2.2.2 ∧ (((hj_wdn (hj_im d h us tp tl) (2 + h * 31) (us / 512) (hj_lb (us + hj_sz tl) + 1 - us / 512) d du wr).1 = false ∧ r = -1 ∧ st1 = 0 ∧ g1 = 0 ∧ h1 = 0 ∧ us1 = 0 ∧ n1 = 0) ∨ ((hj_wdn (hj_im d h us tp tl) (2 + h * 31) (us / 512) (hj_lb (us + hj_sz tl) + 1 - us / 512) d du wr).1 = true ∧ r = nI n ∧ st1 = 2 ∧ g1 = g ∧ h1 = h ∧ n1 = hj_N d1 h ∧ us1 = hj_pos d1 h n1 ∧ ∀ i, i < hj_N d1 h → fb1 i = nI (hj_pos d1 h i)))))) (fun ((th1, (st1, g1, h1, us1, n1, tl1), du1, wr1, d1, fb1, nx1) : Int32 × (Nat × Nat × Nat × Nat × Nat × Nat) × Int32 × Int32 × (Nat → Nat) × (Nat → Int32) × (Nat → Nat)) => [(m0, .inr (3, [.int th1, .ref da, .int (nI st1), .int (nI g1), .int (nI h1), .int (nI us1), .int (nI n1), .ref ba, .ref ka, .ref ta, .int (nI tl1), .int du1, .int wr1, .ref na, .ref ea])), (da, .inl (cD, 32768, .inl (hj_B d1))), (ba, .inl (cB, 2000, .inl fb1)), (ta, .inl (cT, 1000, .inl (hj_B tp))), (na, .inl (cN, 15872, .inl (hj_B nx1)))]) (fun _ => [(cD, .byte), (cB, .int), (cT, .byte), (cN, .byte)]) 0 0 := by
  refine hj_bodyI (by decide +kernel) (Nat.le_of_ble_eq_true rfl) ?_
  intro p e s m args below meth c A Q ls hx hb hts hown hml hA hP hK hD hE hl hret
  have hS : va_S A s.heap s.heap [] := va_S.rf
  have hown : s.vm.findClass "HalfJournalModel" = some m.cls := hown
  have hl : lv_has ls 6 [(0, .ref m0)] := hl
  have hP : va_P (dC, dI) vwCl [(m0, .inr (3, [.int th, .ref da, .int (nI st), .int (nI g), .int (nI h), .int (nI us), .int (nI n), .ref ba, .ref ka, .ref ta, .int (nI tl), .int du, .int wr, .ref na, .ref ea])), (da, .inl (cD, 32768, .inl (hj_B d))), (ba, .inl (cB, 2000, .inl fb)), (ta, .inl (cT, 1000, .inl (hj_B tp))), (na, .inl (cN, 15872, .inl (hj_B nx)))] s.heap := hP
  have hD : va_D A [(m0, .inr (3, [.int th, .ref da, .int (nI st), .int (nI g), .int (nI h), .int (nI us), .int (nI n), .ref ba, .ref ka, .ref ta, .int (nI tl), .int du, .int wr, .ref na, .ref ea])), (da, .inl (cD, 32768, .inl (hj_B d))), (ba, .inl (cB, 2000, .inl fb)), (ta, .inl (cT, 1000, .inl (hj_B tp))), (na, .inl (cN, 15872, .inl (hj_B nx)))] := hD
  have hhb := hj_hb_le hh
  refine lv_aload_n hx hb d_M_append_0 rfl (lv_at hl 0 rfl) ?_
  refine lv_aload_n hx hb d_M_append_1 rfl (lv_at hl 0 rfl) ?_
  refine va_get (D := (dC, dI)) (ci := 3) (v := .int (nI st)) (C := "HalfJournalModel") (T := F_M) (N := 15) hx hb hts i_M hown hK hP 0 rfl rfl 2 (by decide) (hts _ m_647) (fun _ h9 => h9) rfl d_M_append_2 ?_
  refine lv_iconst (v := nI 2) hx hb d_M_append_5 (by decide) ?_
  refine hj_icmp_eq (tgt := 13) hx hb (by omega) (by omega) d_M_append_6 (by decide) (fun c_1 => ?_) (fun c_1 => ?_)
  · refine lv_aload_n hx hb d_M_append_13 rfl (lv_at hl 0 rfl) ?_
    refine va_get (D := (dC, dI)) (ci := 3) (v := .int (nI tl)) (C := "HalfJournalModel") (T := F_M) (N := 15) hx hb hts i_M hown hK hP 0 rfl rfl 10 (by decide) (hts _ m_655) (fun _ h9 => h9) rfl d_M_append_14 ?_
    refine hj_if_ne (tgt := 24) hx hb (by omega) d_M_append_17 (by decide) (fun c_2 => ?_) (fun c_2 => ?_)
    · refine lv_aload_n hx hb d_M_append_24 rfl (lv_at hl 0 rfl) ?_
      refine va_get (D := (dC, dI)) (ci := 3) (v := .int (nI us)) (C := "HalfJournalModel") (T := F_M) (N := 15) hx hb hts i_M hown hK hP 0 rfl rfl 5 (by decide) (hts _ m_650) (fun _ h9 => h9) rfl d_M_append_25 ?_
      refine lv_aload_n hx hb d_M_append_28 rfl (lv_at hl 0 rfl) ?_
      refine va_get (D := (dC, dI)) (ci := 3) (v := .int (nI tl)) (C := "HalfJournalModel") (T := F_M) (N := 15) hx hb hts i_M hown hK hP 0 rfl rfl 10 (by decide) (hts _ m_655) (fun _ h9 => h9) rfl d_M_append_29 ?_
      refine hj_calli (wc := []) (wr := [(m0, .inr (3, [.int th, .ref da, .int (nI st), .int (nI g), .int (nI h), .int (nI us), .int (nI n), .ref ba, .ref ka, .ref ta, .int (nI tl), .int du, .int wr, .ref na, .ref ea])), (da, .inl (cD, 32768, .inl (hj_B d))), (ba, .inl (cB, 2000, .inl fb)), (ta, .inl (cT, 1000, .inl (hj_B tp))), (na, .inl (cN, 15872, .inl (hj_B nx)))]) [] [0, 1, 2, 3, 4] hP hD hS hA rfl rfl rfl (by decide) (va_runS (As := [.int (nI tl)]) (rest := [.int (nI us), .ref m0]) ⟨hx, hb, hml, hown, hts⟩ (c_M_sizeOf l dC dI tl (by omega) s.heap.size) (cwS 1 hts (hj_gS m_729 m_730 m_4 m_731) rfl rfl rfl (by decide +kernel) ⟨Nat.le_of_ble_eq_true rfl, Nat.le_of_ble_eq_true rfl⟩) (hj_preS hj_E0ok hE hP hD hK hS hA [] rfl rfl [] rfl) rfl rfl hl.1 rfl (lv_room (Nat.le_of_ble_eq_true rfl)) d_M_append_32 ⟨Nat.le_of_ble_eq_true rfl, Nat.le_of_ble_eq_true rfl⟩) (fun r_1 u_2 H locs hw hP hD hK1 hS => ?_)
      subst hw
      have hP : va_P (dC, dI) vwCl [(m0, .inr (3, [.int th, .ref da, .int (nI st), .int (nI g), .int (nI h), .int (nI us), .int (nI n), .ref ba, .ref ka, .ref ta, .int (nI tl), .int du, .int wr, .ref na, .ref ea])), (da, .inl (cD, 32768, .inl (hj_B d))), (ba, .inl (cB, 2000, .inl fb)), (ta, .inl (cT, 1000, .inl (hj_B tp))), (na, .inl (cN, 15872, .inl (hj_B nx)))] H := hP.sub [0, 1, 2, 3, 4] rfl
      have hD : va_D A [(m0, .inr (3, [.int th, .ref da, .int (nI st), .int (nI g), .int (nI h), .int (nI us), .int (nI n), .ref ba, .ref ka, .ref ta, .int (nI tl), .int du, .int wr, .ref na, .ref ea])), (da, .inl (cD, 32768, .inl (hj_B d))), (ba, .inl (cB, 2000, .inl fb)), (ta, .inl (cT, 1000, .inl (hj_B tp))), (na, .inl (cN, 15872, .inl (hj_B nx)))] := hD.sub [0, 1, 2, 3, 4] (by decide) rfl
      have hsz := hj_sz_le tl
      have hsz6 : hj_sz tl = 6 + tl + tl % 2 := rfl
      refine hj_iadd hx hb d_M_append_35 ?_
      refine lv_sipush (v := nI 15872) hx hb d_M_append_36 (by decide) ?_
      refine hj_icmp_le (tgt := 46) hx hb (by omega) (by omega) d_M_append_39 (by decide) (fun c_3 => ?_) (fun c_3 => ?_)
      · refine lv_iconst (v := nI 0) hx hb d_M_append_46 (by decide) ?_
        refine va_put (D := (dC, dI)) (ci := 3) (v := .int (nI 0)) (ty := (.int)) (C := "HalfJournalModel") (T := F_M) (N := 15) hx hb hts i_M t_M t_M_ok n_M hown hK hP hD hS 0 rfl rfl 0 (by decide) (hts _ m_645) (fun _ h9 => h9) rfl (by decide +kernel) rfl rfl (Nat.le_of_ble_eq_true rfl) d_M_append_47 (fun H locs hP hD hS => ?_)
        have hP : va_P (dC, dI) vwCl [(m0, .inr (3, [.int (nI 0), .ref da, .int (nI st), .int (nI g), .int (nI h), .int (nI us), .int (nI n), .ref ba, .ref ka, .ref ta, .int (nI tl), .int du, .int wr, .ref na, .ref ea])), (da, .inl (cD, 32768, .inl (hj_B d))), (ba, .inl (cB, 2000, .inl fb)), (ta, .inl (cT, 1000, .inl (hj_B tp))), (na, .inl (cN, 15872, .inl (hj_B nx)))] H := hP
        have hD : va_D A [(m0, .inr (3, [.int (nI 0), .ref da, .int (nI st), .int (nI g), .int (nI h), .int (nI us), .int (nI n), .ref ba, .ref ka, .ref ta, .int (nI tl), .int du, .int wr, .ref na, .ref ea])), (da, .inl (cD, 32768, .inl (hj_B d))), (ba, .inl (cB, 2000, .inl fb)), (ta, .inl (cT, 1000, .inl (hj_B tp))), (na, .inl (cN, 15872, .inl (hj_B nx)))] := hD
        refine lv_aload_n hx hb d_M_append_50 rfl (lv_at hl 0 rfl) ?_
        refine va_get (D := (dC, dI)) (ci := 3) (v := .int (nI 0)) (C := "HalfJournalModel") (T := F_M) (N := 15) hx hb hts i_M hown hK hP 0 rfl rfl 0 (by decide) (hts _ m_645) (fun _ h9 => h9) rfl d_M_append_51 ?_
        refine hj_if_le (tgt := 59) hx hb (by omega) d_M_append_54 (by decide) (fun c_9 => ?_) (fun c_9 => ?_)
        · refine lv_iconst (v := nI 0) hx hb d_M_append_59 (by decide) ?_
          refine lv_istore_n (lv' := [(1, .int (nI 0)), (0, .ref m0)]) hx hb d_M_append_60 rfl hl (by decide) rfl (fun ls hl => ?_)
          have lp : ∀ (n9_lp : Nat) (i : Nat) (nx : Nat → Nat), (i ≤ 15872) → (hj_bs nx) → (∀ k, k < i → nx k = hj_x0 d h us k) → (15872 - i) < n9_lp → ∀ (H : Heap) (locs : List Loc), va_P (dC, dI) vwCl [(m0, .inr (3, [.int (nI 0), .ref da, .int (nI st), .int (nI g), .int (nI h), .int (nI us), .int (nI n), .ref ba, .ref ka, .ref ta, .int (nI tl), .int du, .int wr, .ref na, .ref ea])), (da, .inl (cD, 32768, .inl (hj_B d))), (ba, .inl (cB, 2000, .inl fb)), (ta, .inl (cT, 1000, .inl (hj_B tp))), (na, .inl (cN, 15872, .inl (hj_B nx)))] H → va_D A [(m0, .inr (3, [.int (nI 0), .ref da, .int (nI st), .int (nI g), .int (nI h), .int (nI us), .int (nI n), .ref ba, .ref ka, .ref ta, .int (nI tl), .int du, .int wr, .ref na, .ref ea])), (da, .inl (cD, 32768, .inl (hj_B d))), (ba, .inl (cB, 2000, .inl fb)), (ta, .inl (cT, 1000, .inl (hj_B tp))), (na, .inl (cN, 15872, .inl (hj_B nx)))] → va_S A s.heap H locs → ∀ (ls : Array Slot), lv_has ls 6 [(0, .ref m0), (1, .int (nI i))] → W p l e rm_M_append s m args below meth c H locs 0 0 Q (F0 m 61 ls []) := by
            intro n9_lp
            induction n9_lp with
            | zero =>
              intro i nx hi hb9 hk9 hm_lp
              exact absurd hm_lp (Nat.not_lt_zero _)
            | succ n9_lp ih_lp =>
              intro i nx hi hb9 hk9 hm_lp H locs hP hD hS ls hl
              refine lv_iload_n hx hb d_M_append_61 rfl (lv_at hl 1 rfl) ?_
              refine lv_sipush (v := nI 15872) hx hb d_M_append_62 (by decide) ?_
              refine hj_icmp_ge (tgt := 106) hx hb (by omega) (by omega) d_M_append_65 (by decide) (fun c_4 => ?_) (fun c_4 => ?_)
              · have hx0 : ∀ j, j < 15872 → nx j = hj_x0 d h us j := fun j hj => hk9 j (by omega)
                have h9 : ∀ j, j < 15872 → (nx) j = ((hj_x0 d h us)) j := hx0
                have hD := hD.set (p := 4) (e := .inl (cN, 15872, .inl (hj_B (hj_x0 d h us)))) rfl
                have hP := hj_arr hP 4 rfl (hj_B (hj_x0 d h us)) (fun j hj => congrArg sb_b (h9 j hj))
                have hP : va_P (dC, dI) vwCl [(m0, .inr (3, [.int (nI 0), .ref da, .int (nI st), .int (nI g), .int (nI h), .int (nI us), .int (nI n), .ref ba, .ref ka, .ref ta, .int (nI tl), .int du, .int wr, .ref na, .ref ea])), (da, .inl (cD, 32768, .inl (hj_B d))), (ba, .inl (cB, 2000, .inl fb)), (ta, .inl (cT, 1000, .inl (hj_B tp))), (na, .inl (cN, 15872, .inl (hj_B (hj_x0 d h us))))] H := hP
                have hD : va_D A [(m0, .inr (3, [.int (nI 0), .ref da, .int (nI st), .int (nI g), .int (nI h), .int (nI us), .int (nI n), .ref ba, .ref ka, .ref ta, .int (nI tl), .int du, .int wr, .ref na, .ref ea])), (da, .inl (cD, 32768, .inl (hj_B d))), (ba, .inl (cB, 2000, .inl fb)), (ta, .inl (cT, 1000, .inl (hj_B tp))), (na, .inl (cN, 15872, .inl (hj_B (hj_x0 d h us))))] := hD
                refine lv_aload_n hx hb d_M_append_106 rfl (lv_at hl 0 rfl) ?_
                refine va_get (D := (dC, dI)) (ci := 3) (v := .ref na) (C := "HalfJournalModel") (T := F_M) (N := 15) hx hb hts i_M hown hK hP 0 rfl rfl 13 (by decide) (hts _ m_658) (fun _ h9 => h9) rfl d_M_append_107 ?_
                refine lv_aload_n hx hb d_M_append_110 rfl (lv_at hl 0 rfl) ?_
                refine va_get (D := (dC, dI)) (ci := 3) (v := .int (nI us)) (C := "HalfJournalModel") (T := F_M) (N := 15) hx hb hts i_M hown hK hP 0 rfl rfl 5 (by decide) (hts _ m_650) (fun _ h9 => h9) rfl d_M_append_111 ?_
                refine lv_aload_n hx hb d_M_append_114 rfl (lv_at hl 0 rfl) ?_
                refine va_get (D := (dC, dI)) (ci := 3) (v := .int (nI tl)) (C := "HalfJournalModel") (T := F_M) (N := 15) hx hb hts i_M hown hK hP 0 rfl rfl 10 (by decide) (hts _ m_655) (fun _ h9 => h9) rfl d_M_append_115 ?_
                refine hj_i2b hx hb d_M_append_118 ?_
                refine hj_bast hx hb hK hP hD hS 4 3 rfl rfl (by omega) (by decide) d_M_append_119 (fun H locs hP hD hS => ?_)
                have hP : va_P (dC, dI) vwCl [(m0, .inr (3, [.int (nI 0), .ref da, .int (nI st), .int (nI g), .int (nI h), .int (nI us), .int (nI n), .ref ba, .ref ka, .ref ta, .int (nI tl), .int du, .int wr, .ref na, .ref ea])), (da, .inl (cD, 32768, .inl (hj_B d))), (ba, .inl (cB, 2000, .inl fb)), (ta, .inl (cT, 1000, .inl (hj_B tp))), (na, .inl (cN, 15872, .inl (hj_B (va_up (hj_x0 d h us) us (tl % 256)))))] H := hP
                have hD : va_D A [(m0, .inr (3, [.int (nI 0), .ref da, .int (nI st), .int (nI g), .int (nI h), .int (nI us), .int (nI n), .ref ba, .ref ka, .ref ta, .int (nI tl), .int du, .int wr, .ref na, .ref ea])), (da, .inl (cD, 32768, .inl (hj_B d))), (ba, .inl (cB, 2000, .inl fb)), (ta, .inl (cT, 1000, .inl (hj_B tp))), (na, .inl (cN, 15872, .inl (hj_B (va_up (hj_x0 d h us) us (tl % 256)))))] := hD
                refine lv_aload_n hx hb d_M_append_120 rfl (lv_at hl 0 rfl) ?_
                refine va_get (D := (dC, dI)) (ci := 3) (v := .ref na) (C := "HalfJournalModel") (T := F_M) (N := 15) hx hb hts i_M hown hK hP 0 rfl rfl 13 (by decide) (hts _ m_658) (fun _ h9 => h9) rfl d_M_append_121 ?_
                refine lv_aload_n hx hb d_M_append_124 rfl (lv_at hl 0 rfl) ?_
                refine va_get (D := (dC, dI)) (ci := 3) (v := .int (nI us)) (C := "HalfJournalModel") (T := F_M) (N := 15) hx hb hts i_M hown hK hP 0 rfl rfl 5 (by decide) (hts _ m_650) (fun _ h9 => h9) rfl d_M_append_125 ?_
                refine lv_iconst (v := nI 1) hx hb d_M_append_128 (by decide) ?_
                refine hj_iadd hx hb d_M_append_129 ?_
                refine lv_aload_n hx hb d_M_append_130 rfl (lv_at hl 0 rfl) ?_
                refine va_get (D := (dC, dI)) (ci := 3) (v := .int (nI tl)) (C := "HalfJournalModel") (T := F_M) (N := 15) hx hb hts i_M hown hK hP 0 rfl rfl 10 (by decide) (hts _ m_655) (fun _ h9 => h9) rfl d_M_append_131 ?_
                refine lv_bipush (v := nI 8) hx hb d_M_append_134 (by decide) ?_
                refine hj_ishr hx hb 8 (by decide) (by omega) d_M_append_136 ?_
                refine hj_i2b hx hb d_M_append_137 ?_
                refine hj_bast hx hb hK hP hD hS 4 3 rfl rfl (by omega) (by decide) d_M_append_138 (fun H locs hP hD hS => ?_)
                have hP : va_P (dC, dI) vwCl [(m0, .inr (3, [.int (nI 0), .ref da, .int (nI st), .int (nI g), .int (nI h), .int (nI us), .int (nI n), .ref ba, .ref ka, .ref ta, .int (nI tl), .int du, .int wr, .ref na, .ref ea])), (da, .inl (cD, 32768, .inl (hj_B d))), (ba, .inl (cB, 2000, .inl fb)), (ta, .inl (cT, 1000, .inl (hj_B tp))), (na, .inl (cN, 15872, .inl (hj_B (va_up (va_up (hj_x0 d h us) us (tl % 256)) (us + 1) ((tl / 2 ^ 8) % 256)))))] H := hP
                have hD : va_D A [(m0, .inr (3, [.int (nI 0), .ref da, .int (nI st), .int (nI g), .int (nI h), .int (nI us), .int (nI n), .ref ba, .ref ka, .ref ta, .int (nI tl), .int du, .int wr, .ref na, .ref ea])), (da, .inl (cD, 32768, .inl (hj_B d))), (ba, .inl (cB, 2000, .inl fb)), (ta, .inl (cT, 1000, .inl (hj_B tp))), (na, .inl (cN, 15872, .inl (hj_B (va_up (va_up (hj_x0 d h us) us (tl % 256)) (us + 1) ((tl / 2 ^ 8) % 256)))))] := hD
                refine lv_iconst (v := nI 0) hx hb d_M_append_139 (by decide) ?_
                refine lv_istore_n (lv' := [(1, .int (nI 0)), (0, .ref m0)]) hx hb d_M_append_140 rfl hl (by decide) rfl (fun ls hl => ?_)
                have h9 : (va_up (va_up (hj_x0 d h us) us (tl % 256)) (us + 1) ((tl / 2 ^ 8) % 256) : Nat → Nat) = va_cpy tp (va_up (va_up (hj_x0 d h us) us (tl % 256)) (us + 1) (tl / 2 ^ 8 % 256)) 0 (us + 2) 0 := (hj_cpy0 _ _ _ _).symm
                rw [h9] at hP hD
                have hP : va_P (dC, dI) vwCl [(m0, .inr (3, [.int (nI 0), .ref da, .int (nI st), .int (nI g), .int (nI h), .int (nI us), .int (nI n), .ref ba, .ref ka, .ref ta, .int (nI tl), .int du, .int wr, .ref na, .ref ea])), (da, .inl (cD, 32768, .inl (hj_B d))), (ba, .inl (cB, 2000, .inl fb)), (ta, .inl (cT, 1000, .inl (hj_B tp))), (na, .inl (cN, 15872, .inl (hj_B (va_cpy tp (va_up (va_up (hj_x0 d h us) us (tl % 256)) (us + 1) (tl / 2 ^ 8 % 256)) 0 (us + 2) 0))))] H := hP
                have hD : va_D A [(m0, .inr (3, [.int (nI 0), .ref da, .int (nI st), .int (nI g), .int (nI h), .int (nI us), .int (nI n), .ref ba, .ref ka, .ref ta, .int (nI tl), .int du, .int wr, .ref na, .ref ea])), (da, .inl (cD, 32768, .inl (hj_B d))), (ba, .inl (cB, 2000, .inl fb)), (ta, .inl (cT, 1000, .inl (hj_B tp))), (na, .inl (cN, 15872, .inl (hj_B (va_cpy tp (va_up (va_up (hj_x0 d h us) us (tl % 256)) (us + 1) (tl / 2 ^ 8 % 256)) 0 (us + 2) 0))))] := hD
                have l2 : ∀ (n9_l2 : Nat) (y : Nat), (y ≤ tl) → (tl - y) < n9_l2 → ∀ (H : Heap) (locs : List Loc), va_P (dC, dI) vwCl [(m0, .inr (3, [.int (nI 0), .ref da, .int (nI st), .int (nI g), .int (nI h), .int (nI us), .int (nI n), .ref ba, .ref ka, .ref ta, .int (nI tl), .int du, .int wr, .ref na, .ref ea])), (da, .inl (cD, 32768, .inl (hj_B d))), (ba, .inl (cB, 2000, .inl fb)), (ta, .inl (cT, 1000, .inl (hj_B tp))), (na, .inl (cN, 15872, .inl (hj_B (va_cpy tp (va_up (va_up (hj_x0 d h us) us (tl % 256)) (us + 1) (tl / 2 ^ 8 % 256)) 0 (us + 2) y))))] H → va_D A [(m0, .inr (3, [.int (nI 0), .ref da, .int (nI st), .int (nI g), .int (nI h), .int (nI us), .int (nI n), .ref ba, .ref ka, .ref ta, .int (nI tl), .int du, .int wr, .ref na, .ref ea])), (da, .inl (cD, 32768, .inl (hj_B d))), (ba, .inl (cB, 2000, .inl fb)), (ta, .inl (cT, 1000, .inl (hj_B tp))), (na, .inl (cN, 15872, .inl (hj_B (va_cpy tp (va_up (va_up (hj_x0 d h us) us (tl % 256)) (us + 1) (tl / 2 ^ 8 % 256)) 0 (us + 2) y))))] → va_S A s.heap H locs → ∀ (ls : Array Slot), lv_has ls 6 [(0, .ref m0), (1, .int (nI y))] → W p l e rm_M_append s m args below meth c H locs 0 0 Q (F0 m 141 ls []) := by
                  intro n9_l2
                  induction n9_l2 with
                  | zero =>
                    intro y hy hm_l2
                    exact absurd hm_l2 (Nat.not_lt_zero _)
                  | succ n9_l2 ih_l2 =>
                    intro y hy hm_l2 H locs hP hD hS ls hl
                    refine lv_iload_n hx hb d_M_append_141 rfl (lv_at hl 1 rfl) ?_
                    refine lv_aload_n hx hb d_M_append_142 rfl (lv_at hl 0 rfl) ?_
                    refine va_get (D := (dC, dI)) (ci := 3) (v := .int (nI tl)) (C := "HalfJournalModel") (T := F_M) (N := 15) hx hb hts i_M hown hK hP 0 rfl rfl 10 (by decide) (hts _ m_655) (fun _ h9 => h9) rfl d_M_append_143 ?_
                    refine hj_icmp_ge (tgt := 174) hx hb (by omega) (by omega) d_M_append_146 (by decide) (fun c_5 => ?_) (fun c_5 => ?_)
                    · have hy9 : y = tl := by omega
                      subst hy9
                      have hl : lv_has ls 6 [(0, .ref m0)] := lv_sub hl [0] rfl
                      have hb2 : hj_bs (va_cpy tp (va_up (va_up (hj_x0 d h us) us (y % 256)) (us + 1) (y / 2 ^ 8 % 256)) 0 (us + 2) y) := hj_cpy_bs ht (hj_up_bs (hj_up_bs (hj_x0_bs hd) (by omega)) (by omega))
                      refine lv_aload_n hx hb d_M_append_174 rfl (lv_at hl 0 rfl) ?_
                      refine va_get (D := (dC, dI)) (ci := 3) (v := .ref na) (C := "HalfJournalModel") (T := F_M) (N := 15) hx hb hts i_M hown hK hP 0 rfl rfl 13 (by decide) (hts _ m_658) (fun _ h9 => h9) rfl d_M_append_175 ?_
                      refine lv_aload_n hx hb d_M_append_178 rfl (lv_at hl 0 rfl) ?_
                      refine va_get (D := (dC, dI)) (ci := 3) (v := .int (nI us)) (C := "HalfJournalModel") (T := F_M) (N := 15) hx hb hts i_M hown hK hP 0 rfl rfl 5 (by decide) (hts _ m_650) (fun _ h9 => h9) rfl d_M_append_179 ?_
                      refine lv_iconst (v := nI 2) hx hb d_M_append_182 (by decide) ?_
                      refine hj_iadd hx hb d_M_append_183 ?_
                      refine lv_aload_n hx hb d_M_append_184 rfl (lv_at hl 0 rfl) ?_
                      refine va_get (D := (dC, dI)) (ci := 3) (v := .int (nI y)) (C := "HalfJournalModel") (T := F_M) (N := 15) hx hb hts i_M hown hK hP 0 rfl rfl 10 (by decide) (hts _ m_655) (fun _ h9 => h9) rfl d_M_append_185 ?_
                      refine hj_iadd hx hb d_M_append_188 ?_
                      refine lv_aload_n hx hb d_M_append_189 rfl (lv_at hl 0 rfl) ?_
                      refine va_get (D := (dC, dI)) (ci := 3) (v := .ref na) (C := "HalfJournalModel") (T := F_M) (N := 15) hx hb hts i_M hown hK hP 0 rfl rfl 13 (by decide) (hts _ m_658) (fun _ h9 => h9) rfl d_M_append_190 ?_
                      refine lv_aload_n hx hb d_M_append_193 rfl (lv_at hl 0 rfl) ?_
                      refine va_get (D := (dC, dI)) (ci := 3) (v := .int (nI us)) (C := "HalfJournalModel") (T := F_M) (N := 15) hx hb hts i_M hown hK hP 0 rfl rfl 5 (by decide) (hts _ m_650) (fun _ h9 => h9) rfl d_M_append_194 ?_
                      refine lv_aload_n hx hb d_M_append_197 rfl (lv_at hl 0 rfl) ?_
                      refine va_get (D := (dC, dI)) (ci := 3) (v := .int (nI us)) (C := "HalfJournalModel") (T := F_M) (N := 15) hx hb hts i_M hown hK hP 0 rfl rfl 5 (by decide) (hts _ m_650) (fun _ h9 => h9) rfl d_M_append_198 ?_
                      refine lv_iconst (v := nI 2) hx hb d_M_append_201 (by decide) ?_
                      refine hj_iadd hx hb d_M_append_202 ?_
                      refine lv_aload_n hx hb d_M_append_203 rfl (lv_at hl 0 rfl) ?_
                      refine va_get (D := (dC, dI)) (ci := 3) (v := .int (nI y)) (C := "HalfJournalModel") (T := F_M) (N := 15) hx hb hts i_M hown hK hP 0 rfl rfl 10 (by decide) (hts _ m_655) (fun _ h9 => h9) rfl d_M_append_204 ?_
                      refine hj_iadd hx hb d_M_append_207 ?_
                      refine hj_topn (b := us + (2 + y)) (by omega) ?_
                      refine hj_calli (wc := [(na, .inl (cN, 15872, .inl (hj_B (va_cpy tp (va_up (va_up (hj_x0 d h us) us (y % 256)) (us + 1) (y / 2 ^ 8 % 256)) 0 (us + 2) y))))]) (wr := [(m0, .inr (3, [.int (nI 0), .ref da, .int (nI st), .int (nI g), .int (nI h), .int (nI us), .int (nI n), .ref ba, .ref ka, .ref ta, .int (nI y), .int du, .int wr, .ref na, .ref ea])), (da, .inl (cD, 32768, .inl (hj_B d))), (ba, .inl (cB, 2000, .inl fb)), (ta, .inl (cT, 1000, .inl (hj_B tp)))]) [4] [0, 1, 2, 3] hP hD hS hA rfl rfl rfl (by decide) (va_runS (As := [.ref na, .int (nI us), .int (nI (us + (2 + y)))]) (rest := [.int (nI ((us + 2) + y)), .ref na]) ⟨hx, hb, hml, hown, hts⟩ (c_M_checkOf l dC dI na cN 15872 (va_cpy tp (va_up (va_up (hj_x0 d h us) us (y % 256)) (us + 1) (y / 2 ^ 8 % 256)) 0 (us + 2) y) us (2 + y) (by omega) (by omega) hb2 H.size) (cwS 3 hts (hj_gS m_710 m_711 m_4 m_712) rfl rfl rfl (by decide +kernel) ⟨Nat.le_of_ble_eq_true rfl, Nat.le_of_ble_eq_true rfl⟩) (hj_preS hj_E0ok hE hP hD hK hS hA [4] rfl rfl [3] rfl) rfl rfl hl.1 rfl (lv_room (Nat.le_of_ble_eq_true rfl)) d_M_append_208 ⟨Nat.le_of_ble_eq_true rfl, Nat.le_of_ble_eq_true rfl⟩) (fun r_3 u_4 H locs hw hP hD hK1 hS => ?_)
                      subst hw
                      have hP : va_P (dC, dI) vwCl [(m0, .inr (3, [.int (nI 0), .ref da, .int (nI st), .int (nI g), .int (nI h), .int (nI us), .int (nI n), .ref ba, .ref ka, .ref ta, .int (nI y), .int du, .int wr, .ref na, .ref ea])), (da, .inl (cD, 32768, .inl (hj_B d))), (ba, .inl (cB, 2000, .inl fb)), (ta, .inl (cT, 1000, .inl (hj_B tp))), (na, .inl (cN, 15872, .inl (hj_B (va_cpy tp (va_up (va_up (hj_x0 d h us) us (y % 256)) (us + 1) (y / 2 ^ 8 % 256)) 0 (us + 2) y))))] H := hP.sub [0, 1, 2, 3, 4] rfl
                      have hD : va_D A [(m0, .inr (3, [.int (nI 0), .ref da, .int (nI st), .int (nI g), .int (nI h), .int (nI us), .int (nI n), .ref ba, .ref ka, .ref ta, .int (nI y), .int du, .int wr, .ref na, .ref ea])), (da, .inl (cD, 32768, .inl (hj_B d))), (ba, .inl (cB, 2000, .inl fb)), (ta, .inl (cT, 1000, .inl (hj_B tp))), (na, .inl (cN, 15872, .inl (hj_B (va_cpy tp (va_up (va_up (hj_x0 d h us) us (y % 256)) (us + 1) (y / 2 ^ 8 % 256)) 0 (us + 2) y))))] := hD.sub [0, 1, 2, 3, 4] (by decide) rfl
                      refine hj_callv (wc := [(na, .inl (cN, 15872, .inl (hj_B (va_cpy tp (va_up (va_up (hj_x0 d h us) us (y % 256)) (us + 1) (y / 2 ^ 8 % 256)) 0 (us + 2) y))))]) (wr := [(m0, .inr (3, [.int (nI 0), .ref da, .int (nI st), .int (nI g), .int (nI h), .int (nI us), .int (nI n), .ref ba, .ref ka, .ref ta, .int (nI y), .int du, .int wr, .ref na, .ref ea])), (da, .inl (cD, 32768, .inl (hj_B d))), (ba, .inl (cB, 2000, .inl fb)), (ta, .inl (cT, 1000, .inl (hj_B tp)))]) [4] [0, 1, 2, 3] hP hD hS hA rfl rfl rfl (by decide) (va_runS (As := [.ref na, .int (nI ((us + 2) + y)), .int (nI (hj_chk (va_cpy tp (va_up (va_up (hj_x0 d h us) us (y % 256)) (us + 1) (y / 2 ^ 8 % 256)) 0 (us + 2) y) us (2 + y)))]) (rest := []) ⟨hx, hb, hml, hown, hts⟩ (c_M_putFour l dC dI na cN 15872 (va_cpy tp (va_up (va_up (hj_x0 d h us) us (y % 256)) (us + 1) (y / 2 ^ 8 % 256)) 0 (us + 2) y) (us + 2 + y) (hj_chk (va_cpy tp (va_up (va_up (hj_x0 d h us) us (y % 256)) (us + 1) (y / 2 ^ 8 % 256)) 0 (us + 2) y) us (2 + y)) (by omega) (by omega) (hj_chk_lt hb2 _ _) H.size) (cwS 3 hts (hj_gS m_740 m_741 m_4 m_742) rfl rfl rfl (by decide +kernel) ⟨Nat.le_of_ble_eq_true rfl, Nat.le_of_ble_eq_true rfl⟩) (hj_preS hj_E0ok hE hP hD hK hS hA [4] rfl rfl [3] rfl) rfl rfl hl.1 rfl (lv_room (Nat.le_of_ble_eq_true rfl)) d_M_append_211 ⟨Nat.le_of_ble_eq_true rfl, Nat.le_of_ble_eq_true rfl⟩) (fun u_6 H locs hw hP hD hK1 hS => ?_)
                      have hP : va_P (dC, dI) vwCl [(m0, .inr (3, [.int (nI 0), .ref da, .int (nI st), .int (nI g), .int (nI h), .int (nI us), .int (nI n), .ref ba, .ref ka, .ref ta, .int (nI y), .int du, .int wr, .ref na, .ref ea])), (da, .inl (cD, 32768, .inl (hj_B d))), (ba, .inl (cB, 2000, .inl fb)), (ta, .inl (cT, 1000, .inl (hj_B tp))), (na, .inl (cN, 15872, .inl (hj_B (hj_pn (va_cpy tp (va_up (va_up (hj_x0 d h us) us (y % 256)) (us + 1) (y / 2 ^ 8 % 256)) 0 (us + 2) y) (us + 2 + y) 4 (hj_chk (va_cpy tp (va_up (va_up (hj_x0 d h us) us (y % 256)) (us + 1) (y / 2 ^ 8 % 256)) 0 (us + 2) y) us (2 + y))))))] H := hP.sub [0, 1, 2, 3, 4] rfl
                      have hD : va_D A [(m0, .inr (3, [.int (nI 0), .ref da, .int (nI st), .int (nI g), .int (nI h), .int (nI us), .int (nI n), .ref ba, .ref ka, .ref ta, .int (nI y), .int du, .int wr, .ref na, .ref ea])), (da, .inl (cD, 32768, .inl (hj_B d))), (ba, .inl (cB, 2000, .inl fb)), (ta, .inl (cT, 1000, .inl (hj_B tp))), (na, .inl (cN, 15872, .inl (hj_B (hj_pn (va_cpy tp (va_up (va_up (hj_x0 d h us) us (y % 256)) (us + 1) (y / 2 ^ 8 % 256)) 0 (us + 2) y) (us + 2 + y) 4 (hj_chk (va_cpy tp (va_up (va_up (hj_x0 d h us) us (y % 256)) (us + 1) (y / 2 ^ 8 % 256)) 0 (us + 2) y) us (2 + y))))))] := hD.sub [0, 1, 2, 3, 4] (by decide) rfl
                      have h9 : (hj_pn (va_cpy tp (va_up (va_up (hj_x0 d h us) us (y % 256)) (us + 1) (y / 2 ^ 8 % 256)) 0 (us + 2) y) (us + 2 + y) 4 (hj_chk (va_cpy tp (va_up (va_up (hj_x0 d h us) us (y % 256)) (us + 1) (y / 2 ^ 8 % 256)) 0 (us + 2) y) us (2 + y)) : Nat → Nat) = hj_im d h us tp y := hj_im_of d tp h us y
                      rw [h9] at hP hD
                      have hP : va_P (dC, dI) vwCl [(m0, .inr (3, [.int (nI 0), .ref da, .int (nI st), .int (nI g), .int (nI h), .int (nI us), .int (nI n), .ref ba, .ref ka, .ref ta, .int (nI y), .int du, .int wr, .ref na, .ref ea])), (da, .inl (cD, 32768, .inl (hj_B d))), (ba, .inl (cB, 2000, .inl fb)), (ta, .inl (cT, 1000, .inl (hj_B tp))), (na, .inl (cN, 15872, .inl (hj_B (hj_im d h us tp y))))] H := hP
                      have hD : va_D A [(m0, .inr (3, [.int (nI 0), .ref da, .int (nI st), .int (nI g), .int (nI h), .int (nI us), .int (nI n), .ref ba, .ref ka, .ref ta, .int (nI y), .int du, .int wr, .ref na, .ref ea])), (da, .inl (cD, 32768, .inl (hj_B d))), (ba, .inl (cB, 2000, .inl fb)), (ta, .inl (cT, 1000, .inl (hj_B tp))), (na, .inl (cN, 15872, .inl (hj_B (hj_im d h us tp y))))] := hD
                      have hbi : hj_bs (hj_im d h us tp y) := hj_im_bs hd ht
                      refine lv_aload_n hx hb d_M_append_214 rfl (lv_at hl 0 rfl) ?_
                      refine va_get (D := (dC, dI)) (ci := 3) (v := .int (nI us)) (C := "HalfJournalModel") (T := F_M) (N := 15) hx hb hts i_M hown hK hP 0 rfl rfl 5 (by decide) (hts _ m_650) (fun _ h9 => h9) rfl d_M_append_215 ?_
                      refine lv_sipush (v := nI 512) hx hb d_M_append_218 (by decide) ?_
                      refine hj_idiv hx hb (by omega) (by omega) (by omega) d_M_append_221 ?_
                      refine lv_istore_n (lv' := [(1, .int (nI (us / 512))), (0, .ref m0)]) hx hb d_M_append_222 rfl hl (by decide) rfl (fun ls hl => ?_)
                      refine lv_aload_n hx hb d_M_append_223 rfl (lv_at hl 1 rfl) ?_
                      refine va_get (D := (dC, dI)) (ci := 3) (v := .int (nI us)) (C := "HalfJournalModel") (T := F_M) (N := 15) hx hb hts i_M hown hK hP 0 rfl rfl 5 (by decide) (hts _ m_650) (fun _ h9 => h9) rfl d_M_append_224 ?_
                      refine lv_aload_n hx hb d_M_append_227 rfl (lv_at hl 1 rfl) ?_
                      refine va_get (D := (dC, dI)) (ci := 3) (v := .int (nI y)) (C := "HalfJournalModel") (T := F_M) (N := 15) hx hb hts i_M hown hK hP 0 rfl rfl 10 (by decide) (hts _ m_655) (fun _ h9 => h9) rfl d_M_append_228 ?_
                      refine hj_calli (wc := []) (wr := [(m0, .inr (3, [.int (nI 0), .ref da, .int (nI st), .int (nI g), .int (nI h), .int (nI us), .int (nI n), .ref ba, .ref ka, .ref ta, .int (nI y), .int du, .int wr, .ref na, .ref ea])), (da, .inl (cD, 32768, .inl (hj_B d))), (ba, .inl (cB, 2000, .inl fb)), (ta, .inl (cT, 1000, .inl (hj_B tp))), (na, .inl (cN, 15872, .inl (hj_B (hj_im d h us tp y))))]) [] [0, 1, 2, 3, 4] hP hD hS hA rfl rfl rfl (by decide) (va_runS (As := [.int (nI y)]) (rest := [.int (nI us)]) ⟨hx, hb, hml, hown, hts⟩ (c_M_sizeOf l dC dI y (by omega) H.size) (cwS 1 hts (hj_gS m_729 m_730 m_4 m_731) rfl rfl rfl (by decide +kernel) ⟨Nat.le_of_ble_eq_true rfl, Nat.le_of_ble_eq_true rfl⟩) (hj_preS hj_E0ok hE hP hD hK hS hA [] rfl rfl [] rfl) rfl rfl hl.1 rfl (lv_room (Nat.le_of_ble_eq_true rfl)) d_M_append_231 ⟨Nat.le_of_ble_eq_true rfl, Nat.le_of_ble_eq_true rfl⟩) (fun r_7 u_8 H locs hw hP hD hK1 hS => ?_)
                      subst hw
                      have hP : va_P (dC, dI) vwCl [(m0, .inr (3, [.int (nI 0), .ref da, .int (nI st), .int (nI g), .int (nI h), .int (nI us), .int (nI n), .ref ba, .ref ka, .ref ta, .int (nI y), .int du, .int wr, .ref na, .ref ea])), (da, .inl (cD, 32768, .inl (hj_B d))), (ba, .inl (cB, 2000, .inl fb)), (ta, .inl (cT, 1000, .inl (hj_B tp))), (na, .inl (cN, 15872, .inl (hj_B (hj_im d h us tp y))))] H := hP.sub [0, 1, 2, 3, 4] rfl
                      have hD : va_D A [(m0, .inr (3, [.int (nI 0), .ref da, .int (nI st), .int (nI g), .int (nI h), .int (nI us), .int (nI n), .ref ba, .ref ka, .ref ta, .int (nI y), .int du, .int wr, .ref na, .ref ea])), (da, .inl (cD, 32768, .inl (hj_B d))), (ba, .inl (cB, 2000, .inl fb)), (ta, .inl (cT, 1000, .inl (hj_B tp))), (na, .inl (cN, 15872, .inl (hj_B (hj_im d h us tp y))))] := hD.sub [0, 1, 2, 3, 4] (by decide) rfl
                      refine hj_iadd hx hb d_M_append_234 ?_
                      refine hj_calli (wc := []) (wr := [(m0, .inr (3, [.int (nI 0), .ref da, .int (nI st), .int (nI g), .int (nI h), .int (nI us), .int (nI n), .ref ba, .ref ka, .ref ta, .int (nI y), .int du, .int wr, .ref na, .ref ea])), (da, .inl (cD, 32768, .inl (hj_B d))), (ba, .inl (cB, 2000, .inl fb)), (ta, .inl (cT, 1000, .inl (hj_B tp))), (na, .inl (cN, 15872, .inl (hj_B (hj_im d h us tp y))))]) [] [0, 1, 2, 3, 4] hP hD hS hA rfl rfl rfl (by decide) (va_runS (As := [.int (nI (us + (hj_sz y)))]) (rest := []) ⟨hx, hb, hml, hown, hts⟩ (c_M_lastBlock l dC dI (us + hj_sz y) (by omega) H.size) (cwS 1 hts (hj_gS m_756 m_757 m_4 m_758) rfl rfl rfl (by decide +kernel) ⟨Nat.le_of_ble_eq_true rfl, Nat.le_of_ble_eq_true rfl⟩) (hj_preS hj_E0ok hE hP hD hK hS hA [] rfl rfl [] rfl) rfl rfl hl.1 rfl (lv_room (Nat.le_of_ble_eq_true rfl)) d_M_append_235 ⟨Nat.le_of_ble_eq_true rfl, Nat.le_of_ble_eq_true rfl⟩) (fun r_9 u_10 H locs hw hP hD hK1 hS => ?_)
                      subst hw
                      have hP : va_P (dC, dI) vwCl [(m0, .inr (3, [.int (nI 0), .ref da, .int (nI st), .int (nI g), .int (nI h), .int (nI us), .int (nI n), .ref ba, .ref ka, .ref ta, .int (nI y), .int du, .int wr, .ref na, .ref ea])), (da, .inl (cD, 32768, .inl (hj_B d))), (ba, .inl (cB, 2000, .inl fb)), (ta, .inl (cT, 1000, .inl (hj_B tp))), (na, .inl (cN, 15872, .inl (hj_B (hj_im d h us tp y))))] H := hP.sub [0, 1, 2, 3, 4] rfl
                      have hD : va_D A [(m0, .inr (3, [.int (nI 0), .ref da, .int (nI st), .int (nI g), .int (nI h), .int (nI us), .int (nI n), .ref ba, .ref ka, .ref ta, .int (nI y), .int du, .int wr, .ref na, .ref ea])), (da, .inl (cD, 32768, .inl (hj_B d))), (ba, .inl (cB, 2000, .inl fb)), (ta, .inl (cT, 1000, .inl (hj_B tp))), (na, .inl (cN, 15872, .inl (hj_B (hj_im d h us tp y))))] := hD.sub [0, 1, 2, 3, 4] (by decide) rfl
                      obtain ⟨l1, hl1⟩ : ∃ l1, l1 = hj_lb (us + hj_sz y) := ⟨_, rfl⟩
                      obtain ⟨f1, hf1⟩ : ∃ f1, f1 = us / 512 := ⟨_, rfl⟩
                      have hl30 : l1 ≤ 30 := by rw [hl1]; exact hj_lb_le _
                      have hfl : f1 ≤ l1 := by rw [hf1, hl1]; exact hj_lb_ge (by omega) (by omega)
                      rw [← hl1]
                      rw [← hf1] at hl
                      rw [← hl1, ← hf1] at hret
                      have hl : lv_has ls 6 [(1, .int (nI f1)), (0, .ref m0)] := hl
                      refine lv_istore_n (lv' := [(2, .int (nI l1)), (1, .int (nI f1)), (0, .ref m0)]) hx hb d_M_append_238 rfl hl (by decide) rfl (fun ls hl => ?_)
                      refine lv_aload_n hx hb d_M_append_239 rfl (lv_at hl 2 rfl) ?_
                      refine lv_iconst (v := nI 0) hx hb d_M_append_240 (by decide) ?_
                      refine va_put (D := (dC, dI)) (ci := 3) (v := .int (nI 0)) (ty := (.int)) (C := "HalfJournalModel") (T := F_M) (N := 15) hx hb hts i_M t_M t_M_ok n_M hown hK hP hD hS 0 rfl rfl 10 (by decide) (hts _ m_655) (fun _ h9 => h9) rfl (by decide +kernel) rfl rfl (Nat.le_of_ble_eq_true rfl) d_M_append_241 (fun H locs hP hD hS => ?_)
                      have hP : va_P (dC, dI) vwCl [(m0, .inr (3, [.int (nI 0), .ref da, .int (nI st), .int (nI g), .int (nI h), .int (nI us), .int (nI n), .ref ba, .ref ka, .ref ta, .int (nI 0), .int du, .int wr, .ref na, .ref ea])), (da, .inl (cD, 32768, .inl (hj_B d))), (ba, .inl (cB, 2000, .inl fb)), (ta, .inl (cT, 1000, .inl (hj_B tp))), (na, .inl (cN, 15872, .inl (hj_B (hj_im d h us tp y))))] H := hP
                      have hD : va_D A [(m0, .inr (3, [.int (nI 0), .ref da, .int (nI st), .int (nI g), .int (nI h), .int (nI us), .int (nI n), .ref ba, .ref ka, .ref ta, .int (nI 0), .int du, .int wr, .ref na, .ref ea])), (da, .inl (cD, 32768, .inl (hj_B d))), (ba, .inl (cB, 2000, .inl fb)), (ta, .inl (cT, 1000, .inl (hj_B tp))), (na, .inl (cN, 15872, .inl (hj_B (hj_im d h us tp y))))] := hD
                      refine lv_aload_n hx hb d_M_append_244 rfl (lv_at hl 2 rfl) ?_
                      refine va_get (D := (dC, dI)) (ci := 3) (v := .int (nI n)) (C := "HalfJournalModel") (T := F_M) (N := 15) hx hb hts i_M hown hK hP 0 rfl rfl 6 (by decide) (hts _ m_651) (fun _ h9 => h9) rfl d_M_append_245 ?_
                      refine lv_istore_n (lv' := [(3, .int (nI n)), (2, .int (nI l1)), (1, .int (nI f1)), (0, .ref m0)]) hx hb d_M_append_248 rfl hl (by decide) rfl (fun ls hl => ?_)
                      refine lv_aload_n hx hb d_M_append_249 rfl (lv_at hl 3 rfl) ?_
                      refine va_get (D := (dC, dI)) (ci := 3) (v := .int (nI h)) (C := "HalfJournalModel") (T := F_M) (N := 15) hx hb hts i_M hown hK hP 0 rfl rfl 4 (by decide) (hts _ m_649) (fun _ h9 => h9) rfl d_M_append_250 ?_
                      refine hj_calli (wc := []) (wr := [(m0, .inr (3, [.int (nI 0), .ref da, .int (nI st), .int (nI g), .int (nI h), .int (nI us), .int (nI n), .ref ba, .ref ka, .ref ta, .int (nI 0), .int du, .int wr, .ref na, .ref ea])), (da, .inl (cD, 32768, .inl (hj_B d))), (ba, .inl (cB, 2000, .inl fb)), (ta, .inl (cT, 1000, .inl (hj_B tp))), (na, .inl (cN, 15872, .inl (hj_B (hj_im d h us tp y))))]) [] [0, 1, 2, 3, 4] hP hD hS hA rfl rfl rfl (by decide) (va_runS (As := [.int (nI h)]) (rest := []) ⟨hx, hb, hml, hown, hts⟩ (c_M_begin l dC dI h hh H.size) (cwS 1 hts (hj_gS m_726 m_727 m_4 m_728) rfl rfl rfl (by decide +kernel) ⟨Nat.le_of_ble_eq_true rfl, Nat.le_of_ble_eq_true rfl⟩) (hj_preS hj_E0ok hE hP hD hK hS hA [] rfl rfl [] rfl) rfl rfl hl.1 rfl (lv_room (Nat.le_of_ble_eq_true rfl)) d_M_append_253 ⟨Nat.le_of_ble_eq_true rfl, Nat.le_of_ble_eq_true rfl⟩) (fun r_11 u_12 H locs hw hP hD hK1 hS => ?_)
                      subst hw
                      have hP : va_P (dC, dI) vwCl [(m0, .inr (3, [.int (nI 0), .ref da, .int (nI st), .int (nI g), .int (nI h), .int (nI us), .int (nI n), .ref ba, .ref ka, .ref ta, .int (nI 0), .int du, .int wr, .ref na, .ref ea])), (da, .inl (cD, 32768, .inl (hj_B d))), (ba, .inl (cB, 2000, .inl fb)), (ta, .inl (cT, 1000, .inl (hj_B tp))), (na, .inl (cN, 15872, .inl (hj_B (hj_im d h us tp y))))] H := hP.sub [0, 1, 2, 3, 4] rfl
                      have hD : va_D A [(m0, .inr (3, [.int (nI 0), .ref da, .int (nI st), .int (nI g), .int (nI h), .int (nI us), .int (nI n), .ref ba, .ref ka, .ref ta, .int (nI 0), .int du, .int wr, .ref na, .ref ea])), (da, .inl (cD, 32768, .inl (hj_B d))), (ba, .inl (cB, 2000, .inl fb)), (ta, .inl (cT, 1000, .inl (hj_B tp))), (na, .inl (cN, 15872, .inl (hj_B (hj_im d h us tp y))))] := hD.sub [0, 1, 2, 3, 4] (by decide) rfl
                      refine lv_sipush (v := nI 512) hx hb d_M_append_256 (by decide) ?_
                      refine hj_idiv hx hb (by omega) (by omega) (by omega) d_M_append_259 ?_
                      refine hj_topn (b := 2 + h * 31) (hj_hb512) ?_
                      refine lv_istore (lv' := [(4, .int (nI (2 + h * 31))), (3, .int (nI n)), (2, .int (nI l1)), (1, .int (nI f1)), (0, .ref m0)]) hx hb d_M_append_260 hl (by decide) rfl (fun ls hl => ?_)
                      refine lv_iload_n hx hb d_M_append_262 rfl (lv_at hl 2 rfl) ?_
                      have h8 : nI l1 = nI (f1 + (l1 + 1 - f1)) - 1 := by rw [show f1 + (l1 + 1 - f1) = l1 + 1 by omega, nI_pred]
                      refine hj_topv (y := nI (f1 + (l1 + 1 - f1)) - 1) (h8) ?_
                      refine lv_istore (lv' := [(5, .int (nI (f1 + (l1 + 1 - f1)) - 1)), (4, .int (nI (2 + h * 31))), (3, .int (nI n)), (2, .int (nI l1)), (1, .int (nI f1)), (0, .ref m0)]) hx hb d_M_append_263 hl (by decide) rfl (fun ls hl => ?_)
                      have l3 : ∀ (n9_l3 : Nat) (z : Nat) (d1 : Nat → Nat) (du1 : Int32) (wr1 : Int32), (z ≤ l1 + 1 - f1) → (hj_wdn (hj_im d h us tp y) (2 + h * 31) f1 z d1 du1 wr1 = hj_wdn (hj_im d h us tp y) (2 + h * 31) f1 (l1 + 1 - f1) d du wr) → z < n9_l3 → ∀ (H : Heap) (locs : List Loc), va_P (dC, dI) vwCl [(m0, .inr (3, [.int (nI 0), .ref da, .int (nI st), .int (nI g), .int (nI h), .int (nI us), .int (nI n), .ref ba, .ref ka, .ref ta, .int (nI 0), .int du1, .int wr1, .ref na, .ref ea])), (da, .inl (cD, 32768, .inl (hj_B d1))), (ba, .inl (cB, 2000, .inl fb)), (ta, .inl (cT, 1000, .inl (hj_B tp))), (na, .inl (cN, 15872, .inl (hj_B (hj_im d h us tp y))))] H → va_D A [(m0, .inr (3, [.int (nI 0), .ref da, .int (nI st), .int (nI g), .int (nI h), .int (nI us), .int (nI n), .ref ba, .ref ka, .ref ta, .int (nI 0), .int du1, .int wr1, .ref na, .ref ea])), (da, .inl (cD, 32768, .inl (hj_B d1))), (ba, .inl (cB, 2000, .inl fb)), (ta, .inl (cT, 1000, .inl (hj_B tp))), (na, .inl (cN, 15872, .inl (hj_B (hj_im d h us tp y))))] → va_S A s.heap H locs → ∀ (ls : Array Slot), lv_has ls 6 [(0, .ref m0), (1, .int (nI f1)), (3, .int (nI n)), (4, .int (nI (2 + h * 31))), (5, .int (nI (f1 + z) - 1))] → W p l e rm_M_append s m args below meth c H locs 0 0 Q (F0 m 265 ls []) := by
                        intro n9_l3
                        induction n9_l3 with
                        | zero =>
                          intro z d1 du1 wr1 hz hinv hm_l3
                          exact absurd hm_l3 (Nat.not_lt_zero _)
                        | succ n9_l3 ih_l3 =>
                          intro z d1 du1 wr1 hz hinv hm_l3 H locs hP hD hS ls hl
                          rcases z with _ | z
                          · have hinv : (true, d1, du1, wr1) = hj_wdn (hj_im d h us tp y) (2 + h * 31) f1 (l1 + 1 - f1) d du wr := hinv
                            have hbd1 : hj_bs d1 := by have h7 := hj_wdn_bs (b0 := 2 + h * 31) (f := f1) hbi (l1 + 1 - f1) d du wr hd; rw [← hinv] at h7; exact h7
                            refine lv_iload hx hb d_M_append_265 (lv_at hl 4 rfl) ?_
                            refine lv_iload_n hx hb d_M_append_267 rfl (lv_at hl 1 rfl) ?_
                            refine lv_icmp_lt (tgt := 301) hx hb d_M_append_268 (by decide) (fun c_8 => ?_) (fun c_8 => ?_)
                            · refine lv_aload_n hx hb d_M_append_301 rfl (lv_at hl 0 rfl) ?_
                              refine hj_callv (wc := [(m0, .inr (3, [.int (nI 0), .ref da, .int (nI st), .int (nI g), .int (nI h), .int (nI us), .int (nI n), .ref ba, .ref ka, .ref ta, .int (nI 0), .int du1, .int wr1, .ref na, .ref ea])), (da, .inl (cD, 32768, .inl (hj_B d1))), (ba, .inl (cB, 2000, .inl fb))]) (wr := [(ta, .inl (cT, 1000, .inl (hj_B tp))), (na, .inl (cN, 15872, .inl (hj_B (hj_im d h us tp y))))]) [0, 1, 2] [3, 4] hP hD hS hA rfl rfl rfl (by decide) (va_runV (As := []) (rest := []) ⟨hx, hb, hml, hown, hts⟩ (c_M_findRecords l dC dI m0 da ba ka ta na ea (nI 0) st g h us n 0 du1 wr1 cD d1 cB fb hh hbd1 H.size) (cwV 0 hts (hj_gV m_718 m_720 s_M_findRecords m_4 m_721) rfl rfl rfl (by decide +kernel) ⟨Nat.le_of_ble_eq_true rfl, Nat.le_of_ble_eq_true rfl⟩) (hj_preV (ci := 3) (q0 := 0) hj_E0ok hE hP hD hK hS hA [0, 1, 2] rfl rfl [0, 1] rfl rfl rfl) rfl rfl hl.1 rfl (lv_room (Nat.le_of_ble_eq_true rfl)) d_M_append_302 ⟨Nat.le_of_ble_eq_true rfl, Nat.le_of_ble_eq_true rfl⟩) (fun u_14 H locs hw hP hD hK1 hS => ?_)
                              obtain ⟨fb1, rfl⟩ : ∃ z9, z9 = u_14 := ⟨_, rfl⟩
                              have hP : va_P (dC, dI) vwCl [(m0, .inr (3, [.int (nI 0), .ref da, .int (nI st), .int (nI g), .int (nI h), .int (nI (hj_pos d1 h (hj_N d1 h))), .int (nI (hj_N d1 h)), .ref ba, .ref ka, .ref ta, .int (nI 0), .int du1, .int wr1, .ref na, .ref ea])), (da, .inl (cD, 32768, .inl (hj_B d1))), (ba, .inl (cB, 2000, .inl fb1)), (ta, .inl (cT, 1000, .inl (hj_B tp))), (na, .inl (cN, 15872, .inl (hj_B (hj_im d h us tp y))))] H := hP.sub [2, 3, 4, 0, 1] rfl
                              have hD : va_D A [(m0, .inr (3, [.int (nI 0), .ref da, .int (nI st), .int (nI g), .int (nI h), .int (nI (hj_pos d1 h (hj_N d1 h))), .int (nI (hj_N d1 h)), .ref ba, .ref ka, .ref ta, .int (nI 0), .int du1, .int wr1, .ref na, .ref ea])), (da, .inl (cD, 32768, .inl (hj_B d1))), (ba, .inl (cB, 2000, .inl fb1)), (ta, .inl (cT, 1000, .inl (hj_B tp))), (na, .inl (cN, 15872, .inl (hj_B (hj_im d h us tp y))))] := hD.sub [2, 3, 4, 0, 1] (by decide) rfl
                              refine lv_iload_n hx hb d_M_append_305 rfl (lv_at hl 2 rfl) ?_
                              rw [← hinv] at hret
                              exact hret (nI n) (nI 0, (st, g, h, hj_pos d1 h (hj_N d1 h), hj_N d1 h, 0), du1, wr1, d1, fb1, hj_im d h us tp y) _ _ _ _ d_M_append_306 rfl (⟨hbi, Or.inr (Or.inr (Or.inr ⟨rfl, c_1, c_2, c_3, rfl, rfl, rfl, rfl, Or.inr ⟨rfl, rfl, c_1, rfl, rfl, rfl, rfl, hw⟩⟩))⟩) hP hK hD hS
                            · exact absurd (hj_m1_lt (by omega)) c_8
                          · rw [show f1 + (z + 1) = f1 + z + 1 from rfl, nI_pred] at hl
                            refine lv_iload hx hb d_M_append_265 (lv_at hl 4 rfl) ?_
                            refine lv_iload_n hx hb d_M_append_267 rfl (lv_at hl 1 rfl) ?_
                            refine hj_icmp_lt (tgt := 301) hx hb (by omega) (by omega) d_M_append_268 (by decide) (fun c_8 => ?_) (fun c_8 => ?_)
                            · omega
                            · refine lv_aload_n hx hb d_M_append_271 rfl (lv_at hl 0 rfl) ?_
                              refine lv_iload hx hb d_M_append_272 (lv_at hl 3 rfl) ?_
                              refine lv_iload hx hb d_M_append_274 (lv_at hl 4 rfl) ?_
                              refine hj_iadd hx hb d_M_append_276 ?_
                              refine lv_aload_n hx hb d_M_append_277 rfl (lv_at hl 0 rfl) ?_
                              refine va_get (D := (dC, dI)) (ci := 3) (v := .ref na) (C := "HalfJournalModel") (T := F_M) (N := 15) hx hb hts i_M hown hK hP 0 rfl rfl 13 (by decide) (hts _ m_658) (fun _ h9 => h9) rfl d_M_append_278 ?_
                              refine lv_sipush (v := nI 512) hx hb d_M_append_281 (by decide) ?_
                              refine lv_iload hx hb d_M_append_284 (lv_at hl 4 rfl) ?_
                              refine hj_imul hx hb d_M_append_286 ?_
                              refine hj_topn (b := (f1 + z) * 512) (Nat.mul_comm _ _) ?_
                              refine hj_calli (wc := [(m0, .inr (3, [.int (nI 0), .ref da, .int (nI st), .int (nI g), .int (nI h), .int (nI us), .int (nI n), .ref ba, .ref ka, .ref ta, .int (nI 0), .int du1, .int wr1, .ref na, .ref ea])), (da, .inl (cD, 32768, .inl (hj_B d1))), (na, .inl (cN, 15872, .inl (hj_B (hj_im d h us tp y))))]) (wr := [(ba, .inl (cB, 2000, .inl fb)), (ta, .inl (cT, 1000, .inl (hj_B tp)))]) [0, 1, 4] [2, 3] hP hD hS hA rfl rfl rfl (by decide) (va_runV (As := [.int (nI ((2 + h * 31) + (f1 + z))), .ref na, .int (nI ((f1 + z) * 512))]) (rest := []) ⟨hx, hb, hml, hown, hts⟩ (c_M_write l dC dI m0 da ba ka ta na ea (nI 0) st g h us n 0 du1 wr1 cD d1 na cN 15872 (hj_im d h us tp y) (2 + h * 31 + (f1 + z)) ((f1 + z) * 512) (by omega) (by omega) (by omega) H.size) (cwV 3 hts (hj_gV m_759 m_761 s_M_write m_4 m_762) rfl rfl rfl (by decide +kernel) ⟨Nat.le_of_ble_eq_true rfl, Nat.le_of_ble_eq_true rfl⟩) (hj_preV (ci := 3) (q0 := 0) hj_E0ok hE hP hD hK hS hA [0, 1, 4] rfl rfl [0, 3] rfl rfl rfl) rfl rfl hl.1 rfl (lv_room (Nat.le_of_ble_eq_true rfl)) d_M_append_287 ⟨Nat.le_of_ble_eq_true rfl, Nat.le_of_ble_eq_true rfl⟩) (fun r_15 u_16 H locs hw hP hD hK1 hS => ?_)
                              obtain ⟨st2, g2, h2, us2, n2, du2, wr2, d2⟩ := u_16
                              have hP : va_P (dC, dI) vwCl [(m0, .inr (3, [.int (nI 0), .ref da, .int (nI st2), .int (nI g2), .int (nI h2), .int (nI us2), .int (nI n2), .ref ba, .ref ka, .ref ta, .int (nI 0), .int du2, .int wr2, .ref na, .ref ea])), (da, .inl (cD, 32768, .inl (hj_B d2))), (ba, .inl (cB, 2000, .inl fb)), (ta, .inl (cT, 1000, .inl (hj_B tp))), (na, .inl (cN, 15872, .inl (hj_B (hj_im d h us tp y))))] H := hP.sub [2, 3, 0, 1, 4] rfl
                              have hD : va_D A [(m0, .inr (3, [.int (nI 0), .ref da, .int (nI st2), .int (nI g2), .int (nI h2), .int (nI us2), .int (nI n2), .ref ba, .ref ka, .ref ta, .int (nI 0), .int du2, .int wr2, .ref na, .ref ea])), (da, .inl (cD, 32768, .inl (hj_B d2))), (ba, .inl (cB, 2000, .inl fb)), (ta, .inl (cT, 1000, .inl (hj_B tp))), (na, .inl (cN, 15872, .inl (hj_B (hj_im d h us tp y))))] := hD.sub [2, 3, 0, 1, 4] (by decide) rfl
                              dsimp only at hw
                              rcases hw with ⟨h7, rfl, rfl, rfl, rfl, rfl, rfl, rfl, h81, h82⟩ | ⟨h7, rfl, h61, h62, h63, h64, h65, rfl, rfl, rfl⟩
                              · rw [h81, h82] at hP hD
                                rw [hj_wdn_0 h7] at hinv
                                refine hj_if_ne (tgt := 295) hx hb (by omega) d_M_append_290 (by decide) (fun c_7 => ?_) (fun c_7 => ?_)
                                · omega
                                · refine lv_iconst (v := (-1)) hx hb d_M_append_293 (by decide) ?_
                                  rw [← hinv] at hret
                                  exact hret (-1) (nI 0, (0, 0, 0, 0, 0, 0), -1, wr1, d1, fb, hj_im d h us tp y) _ _ _ _ d_M_append_294 rfl (⟨hbi, Or.inr (Or.inr (Or.inr ⟨rfl, c_1, c_2, c_3, rfl, rfl, rfl, rfl, Or.inl ⟨rfl, rfl, rfl, rfl, rfl, rfl, rfl⟩⟩))⟩) hP hK hD hS
                              · rw [h61, h62, h63, h64, h65] at hP hD
                                rw [hj_wdn_s h7] at hinv
                                refine hj_if_ne (tgt := 295) hx hb (by omega) d_M_append_290 (by decide) (fun c_7 => ?_) (fun c_7 => ?_)
                                · refine lv_iinc (v := nI (f1 + z) - 1) (lv' := [(5, .int (nI (f1 + z) - 1)), (0, .ref m0), (1, .int (nI f1)), (3, .int (nI n)), (4, .int (nI (2 + h * 31)))]) hx hb d_M_append_295 hl (k := 4) rfl (hj_addm1 _) (by decide) rfl (fun ls hl => ?_)
                                  refine lv_goto (tgt := 265) hx hb d_M_append_298 (by decide) ?_
                                  exact ih_l3 z _ _ _ (by omega) (hinv) (by omega) _ _ hP hD hS _ (lv_sub hl [1, 2, 3, 4, 0] rfl)
                                · omega
                      exact l3 _ (l1 + 1 - f1) d du wr (Nat.le_refl _) (rfl) (Nat.lt_succ_self _) _ _ hP hD hS _ (lv_sub hl [5, 4, 2, 1, 0] rfl)
                    · refine lv_aload_n hx hb d_M_append_149 rfl (lv_at hl 0 rfl) ?_
                      refine va_get (D := (dC, dI)) (ci := 3) (v := .ref na) (C := "HalfJournalModel") (T := F_M) (N := 15) hx hb hts i_M hown hK hP 0 rfl rfl 13 (by decide) (hts _ m_658) (fun _ h9 => h9) rfl d_M_append_150 ?_
                      refine lv_aload_n hx hb d_M_append_153 rfl (lv_at hl 0 rfl) ?_
                      refine va_get (D := (dC, dI)) (ci := 3) (v := .int (nI us)) (C := "HalfJournalModel") (T := F_M) (N := 15) hx hb hts i_M hown hK hP 0 rfl rfl 5 (by decide) (hts _ m_650) (fun _ h9 => h9) rfl d_M_append_154 ?_
                      refine lv_iconst (v := nI 2) hx hb d_M_append_157 (by decide) ?_
                      refine hj_iadd hx hb d_M_append_158 ?_
                      refine lv_iload_n hx hb d_M_append_159 rfl (lv_at hl 1 rfl) ?_
                      refine hj_iadd hx hb d_M_append_160 ?_
                      refine lv_aload_n hx hb d_M_append_161 rfl (lv_at hl 0 rfl) ?_
                      refine va_get (D := (dC, dI)) (ci := 3) (v := .ref ta) (C := "HalfJournalModel") (T := F_M) (N := 15) hx hb hts i_M hown hK hP 0 rfl rfl 9 (by decide) (hts _ m_654) (fun _ h9 => h9) rfl d_M_append_162 ?_
                      refine lv_iload_n hx hb d_M_append_165 rfl (lv_at hl 1 rfl) ?_
                      refine hj_bald hx hb hK hP 3 2 rfl rfl (by omega) (by decide) d_M_append_166 ?_
                      refine hj_bast hx hb hK hP hD hS 4 3 rfl rfl (by omega) (by decide) d_M_append_167 (fun H locs hP hD hS => ?_)
                      have hP : va_P (dC, dI) vwCl [(m0, .inr (3, [.int (nI 0), .ref da, .int (nI st), .int (nI g), .int (nI h), .int (nI us), .int (nI n), .ref ba, .ref ka, .ref ta, .int (nI tl), .int du, .int wr, .ref na, .ref ea])), (da, .inl (cD, 32768, .inl (hj_B d))), (ba, .inl (cB, 2000, .inl fb)), (ta, .inl (cT, 1000, .inl (hj_B tp))), (na, .inl (cN, 15872, .inl (hj_B (va_up (va_cpy tp (va_up (va_up (hj_x0 d h us) us (tl % 256)) (us + 1) (tl / 2 ^ 8 % 256)) 0 (us + 2) y) ((us + 2) + y) (tp y)))))] H := hP
                      have hD : va_D A [(m0, .inr (3, [.int (nI 0), .ref da, .int (nI st), .int (nI g), .int (nI h), .int (nI us), .int (nI n), .ref ba, .ref ka, .ref ta, .int (nI tl), .int du, .int wr, .ref na, .ref ea])), (da, .inl (cD, 32768, .inl (hj_B d))), (ba, .inl (cB, 2000, .inl fb)), (ta, .inl (cT, 1000, .inl (hj_B tp))), (na, .inl (cN, 15872, .inl (hj_B (va_up (va_cpy tp (va_up (va_up (hj_x0 d h us) us (tl % 256)) (us + 1) (tl / 2 ^ 8 % 256)) 0 (us + 2) y) ((us + 2) + y) (tp y)))))] := hD
                      have h9 : (va_up (va_cpy tp (va_up (va_up (hj_x0 d h us) us (tl % 256)) (us + 1) (tl / 2 ^ 8 % 256)) 0 (us + 2) y) ((us + 2) + y) (tp y) : Nat → Nat) = va_cpy tp (va_up (va_up (hj_x0 d h us) us (tl % 256)) (us + 1) (tl / 2 ^ 8 % 256)) 0 (us + 2) (y + 1) := by have h8 := hj_cpyS tp (va_up (va_up (hj_x0 d h us) us (tl % 256)) (us + 1) (tl / 2 ^ 8 % 256)) 0 (us + 2) y; rw [Nat.zero_add] at h8; exact h8
                      rw [h9] at hP hD
                      have hP : va_P (dC, dI) vwCl [(m0, .inr (3, [.int (nI 0), .ref da, .int (nI st), .int (nI g), .int (nI h), .int (nI us), .int (nI n), .ref ba, .ref ka, .ref ta, .int (nI tl), .int du, .int wr, .ref na, .ref ea])), (da, .inl (cD, 32768, .inl (hj_B d))), (ba, .inl (cB, 2000, .inl fb)), (ta, .inl (cT, 1000, .inl (hj_B tp))), (na, .inl (cN, 15872, .inl (hj_B (va_cpy tp (va_up (va_up (hj_x0 d h us) us (tl % 256)) (us + 1) (tl / 2 ^ 8 % 256)) 0 (us + 2) (y + 1)))))] H := hP
                      have hD : va_D A [(m0, .inr (3, [.int (nI 0), .ref da, .int (nI st), .int (nI g), .int (nI h), .int (nI us), .int (nI n), .ref ba, .ref ka, .ref ta, .int (nI tl), .int du, .int wr, .ref na, .ref ea])), (da, .inl (cD, 32768, .inl (hj_B d))), (ba, .inl (cB, 2000, .inl fb)), (ta, .inl (cT, 1000, .inl (hj_B tp))), (na, .inl (cN, 15872, .inl (hj_B (va_cpy tp (va_up (va_up (hj_x0 d h us) us (tl % 256)) (us + 1) (tl / 2 ^ 8 % 256)) 0 (us + 2) (y + 1)))))] := hD
                      refine lv_iinc (v := nI (y + 1)) (lv' := [(1, .int (nI (y + 1))), (0, .ref m0)]) hx hb d_M_append_168 hl (k := 1) rfl (nI_1 _) (by decide) rfl (fun ls hl => ?_)
                      refine lv_goto (tgt := 141) hx hb d_M_append_171 (by decide) ?_
                      exact ih_l2 (y + 1) (by omega) (by omega) _ _ hP hD hS _ (lv_sub hl [1, 0] rfl)
                exact l2 _ 0 (Nat.zero_le _) (Nat.lt_succ_self _) _ _ hP hD hS _ (lv_sub hl [1, 0] rfl)
              · refine lv_aload_n hx hb d_M_append_68 rfl (lv_at hl 0 rfl) ?_
                refine va_get (D := (dC, dI)) (ci := 3) (v := .ref na) (C := "HalfJournalModel") (T := F_M) (N := 15) hx hb hts i_M hown hK hP 0 rfl rfl 13 (by decide) (hts _ m_658) (fun _ h9 => h9) rfl d_M_append_69 ?_
                refine lv_iload_n hx hb d_M_append_72 rfl (lv_at hl 1 rfl) ?_
                refine lv_iload_n hx hb d_M_append_73 rfl (lv_at hl 1 rfl) ?_
                refine lv_aload_n hx hb d_M_append_74 rfl (lv_at hl 0 rfl) ?_
                refine va_get (D := (dC, dI)) (ci := 3) (v := .int (nI us)) (C := "HalfJournalModel") (T := F_M) (N := 15) hx hb hts i_M hown hK hP 0 rfl rfl 5 (by decide) (hts _ m_650) (fun _ h9 => h9) rfl d_M_append_75 ?_
                refine hj_icmp_ge (tgt := 98) hx hb (by omega) (by omega) d_M_append_78 (by decide) (fun c_6 => ?_) (fun c_6 => ?_)
                · refine lv_iconst (v := nI 0) hx hb d_M_append_98 (by decide) ?_
                  refine hj_topv (y := sb_b 0) (by decide) ?_
                  refine hj_bast hx hb hK hP hD hS 4 3 rfl rfl (by omega) (by decide) d_M_append_99 (fun H locs hP hD hS => ?_)
                  have hP : va_P (dC, dI) vwCl [(m0, .inr (3, [.int (nI 0), .ref da, .int (nI st), .int (nI g), .int (nI h), .int (nI us), .int (nI n), .ref ba, .ref ka, .ref ta, .int (nI tl), .int du, .int wr, .ref na, .ref ea])), (da, .inl (cD, 32768, .inl (hj_B d))), (ba, .inl (cB, 2000, .inl fb)), (ta, .inl (cT, 1000, .inl (hj_B tp))), (na, .inl (cN, 15872, .inl (hj_B (va_up nx i 0))))] H := hP
                  have hD : va_D A [(m0, .inr (3, [.int (nI 0), .ref da, .int (nI st), .int (nI g), .int (nI h), .int (nI us), .int (nI n), .ref ba, .ref ka, .ref ta, .int (nI tl), .int du, .int wr, .ref na, .ref ea])), (da, .inl (cD, 32768, .inl (hj_B d))), (ba, .inl (cB, 2000, .inl fb)), (ta, .inl (cT, 1000, .inl (hj_B tp))), (na, .inl (cN, 15872, .inl (hj_B (va_up nx i 0))))] := hD
                  refine lv_iinc (v := nI (i + 1)) (lv' := [(1, .int (nI (i + 1))), (0, .ref m0)]) hx hb d_M_append_100 hl (k := 1) rfl (nI_1 _) (by decide) rfl (fun ls hl => ?_)
                  refine lv_goto (tgt := 61) hx hb d_M_append_103 (by decide) ?_
                  exact ih_lp (i + 1) (va_up nx i 0) (by omega) (hj_up_bs hb9 (by omega)) (fun k hk => by
                    by_cases q : k = i
                    · rw [q, va_up_self]; unfold hj_x0; rw [if_neg (by omega)]
                    · rw [va_up_ne _ _ q]; exact hk9 k (by omega)) (by omega) _ _ hP hD hS _ (lv_sub hl [1, 0] rfl)
                · refine lv_aload_n hx hb d_M_append_81 rfl (lv_at hl 0 rfl) ?_
                  refine va_get (D := (dC, dI)) (ci := 3) (v := .ref da) (C := "HalfJournalModel") (T := F_M) (N := 15) hx hb hts i_M hown hK hP 0 rfl rfl 1 (by decide) (hts _ m_646) (fun _ h9 => h9) rfl d_M_append_82 ?_
                  refine lv_aload_n hx hb d_M_append_85 rfl (lv_at hl 0 rfl) ?_
                  refine va_get (D := (dC, dI)) (ci := 3) (v := .int (nI h)) (C := "HalfJournalModel") (T := F_M) (N := 15) hx hb hts i_M hown hK hP 0 rfl rfl 4 (by decide) (hts _ m_649) (fun _ h9 => h9) rfl d_M_append_86 ?_
                  refine hj_calli (wc := []) (wr := [(m0, .inr (3, [.int (nI 0), .ref da, .int (nI st), .int (nI g), .int (nI h), .int (nI us), .int (nI n), .ref ba, .ref ka, .ref ta, .int (nI tl), .int du, .int wr, .ref na, .ref ea])), (da, .inl (cD, 32768, .inl (hj_B d))), (ba, .inl (cB, 2000, .inl fb)), (ta, .inl (cT, 1000, .inl (hj_B tp))), (na, .inl (cN, 15872, .inl (hj_B nx)))]) [] [0, 1, 2, 3, 4] hP hD hS hA rfl rfl rfl (by decide) (va_runS (As := [.int (nI h)]) (rest := [.ref da, .int (nI i), .ref na]) ⟨hx, hb, hml, hown, hts⟩ (c_M_begin l dC dI h hh H.size) (cwS 1 hts (hj_gS m_726 m_727 m_4 m_728) rfl rfl rfl (by decide +kernel) ⟨Nat.le_of_ble_eq_true rfl, Nat.le_of_ble_eq_true rfl⟩) (hj_preS hj_E0ok hE hP hD hK hS hA [] rfl rfl [] rfl) rfl rfl hl.1 rfl (lv_room (Nat.le_of_ble_eq_true rfl)) d_M_append_89 ⟨Nat.le_of_ble_eq_true rfl, Nat.le_of_ble_eq_true rfl⟩) (fun r_17 u_18 H locs hw hP hD hK1 hS => ?_)
                  subst hw
                  have hP : va_P (dC, dI) vwCl [(m0, .inr (3, [.int (nI 0), .ref da, .int (nI st), .int (nI g), .int (nI h), .int (nI us), .int (nI n), .ref ba, .ref ka, .ref ta, .int (nI tl), .int du, .int wr, .ref na, .ref ea])), (da, .inl (cD, 32768, .inl (hj_B d))), (ba, .inl (cB, 2000, .inl fb)), (ta, .inl (cT, 1000, .inl (hj_B tp))), (na, .inl (cN, 15872, .inl (hj_B nx)))] H := hP.sub [0, 1, 2, 3, 4] rfl
                  have hD : va_D A [(m0, .inr (3, [.int (nI 0), .ref da, .int (nI st), .int (nI g), .int (nI h), .int (nI us), .int (nI n), .ref ba, .ref ka, .ref ta, .int (nI tl), .int du, .int wr, .ref na, .ref ea])), (da, .inl (cD, 32768, .inl (hj_B d))), (ba, .inl (cB, 2000, .inl fb)), (ta, .inl (cT, 1000, .inl (hj_B tp))), (na, .inl (cN, 15872, .inl (hj_B nx)))] := hD.sub [0, 1, 2, 3, 4] (by decide) rfl
                  refine lv_iload_n hx hb d_M_append_92 rfl (lv_at hl 1 rfl) ?_
                  refine hj_iadd hx hb d_M_append_93 ?_
                  refine hj_bald hx hb hK hP 1 0 rfl rfl (by omega) (by decide) d_M_append_94 ?_
                  refine lv_goto (tgt := 99) hx hb d_M_append_95 (by decide) ?_
                  refine hj_bast hx hb hK hP hD hS 4 3 rfl rfl (by omega) (by decide) d_M_append_99 (fun H locs hP hD hS => ?_)
                  have hP : va_P (dC, dI) vwCl [(m0, .inr (3, [.int (nI 0), .ref da, .int (nI st), .int (nI g), .int (nI h), .int (nI us), .int (nI n), .ref ba, .ref ka, .ref ta, .int (nI tl), .int du, .int wr, .ref na, .ref ea])), (da, .inl (cD, 32768, .inl (hj_B d))), (ba, .inl (cB, 2000, .inl fb)), (ta, .inl (cT, 1000, .inl (hj_B tp))), (na, .inl (cN, 15872, .inl (hj_B (va_up nx i (d ((hj_hb h) + i))))))] H := hP
                  have hD : va_D A [(m0, .inr (3, [.int (nI 0), .ref da, .int (nI st), .int (nI g), .int (nI h), .int (nI us), .int (nI n), .ref ba, .ref ka, .ref ta, .int (nI tl), .int du, .int wr, .ref na, .ref ea])), (da, .inl (cD, 32768, .inl (hj_B d))), (ba, .inl (cB, 2000, .inl fb)), (ta, .inl (cT, 1000, .inl (hj_B tp))), (na, .inl (cN, 15872, .inl (hj_B (va_up nx i (d ((hj_hb h) + i))))))] := hD
                  refine lv_iinc (v := nI (i + 1)) (lv' := [(1, .int (nI (i + 1))), (0, .ref m0)]) hx hb d_M_append_100 hl (k := 1) rfl (nI_1 _) (by decide) rfl (fun ls hl => ?_)
                  refine lv_goto (tgt := 61) hx hb d_M_append_103 (by decide) ?_
                  exact ih_lp (i + 1) (va_up nx i (d (hj_hb h + i))) (by omega) (hj_up_bs hb9 (hd _)) (fun k hk => by
                    by_cases q : k = i
                    · rw [q, va_up_self]; unfold hj_x0; rw [if_pos (by omega)]
                    · rw [va_up_ne _ _ q]; exact hk9 k (by omega)) (by omega) _ _ hP hD hS _ (lv_sub hl [1, 0] rfl)
          exact lp _ 0 nx (by omega) (hbn) (fun k hk => absurd hk (Nat.not_lt_zero k)) (Nat.lt_succ_self _) _ _ hP hD hS _ (lv_sub hl [1, 0] rfl)
        · omega
      · refine lv_iconst (v := nI 3) hx hb d_M_append_42 (by decide) ?_
        refine lv_goto (tgt := 47) hx hb d_M_append_43 (by decide) ?_
        refine va_put (D := (dC, dI)) (ci := 3) (v := .int (nI 3)) (ty := (.int)) (C := "HalfJournalModel") (T := F_M) (N := 15) hx hb hts i_M t_M t_M_ok n_M hown hK hP hD hS 0 rfl rfl 0 (by decide) (hts _ m_645) (fun _ h9 => h9) rfl (by decide +kernel) rfl rfl (Nat.le_of_ble_eq_true rfl) d_M_append_47 (fun H locs hP hD hS => ?_)
        have hP : va_P (dC, dI) vwCl [(m0, .inr (3, [.int (nI 3), .ref da, .int (nI st), .int (nI g), .int (nI h), .int (nI us), .int (nI n), .ref ba, .ref ka, .ref ta, .int (nI tl), .int du, .int wr, .ref na, .ref ea])), (da, .inl (cD, 32768, .inl (hj_B d))), (ba, .inl (cB, 2000, .inl fb)), (ta, .inl (cT, 1000, .inl (hj_B tp))), (na, .inl (cN, 15872, .inl (hj_B nx)))] H := hP
        have hD : va_D A [(m0, .inr (3, [.int (nI 3), .ref da, .int (nI st), .int (nI g), .int (nI h), .int (nI us), .int (nI n), .ref ba, .ref ka, .ref ta, .int (nI tl), .int du, .int wr, .ref na, .ref ea])), (da, .inl (cD, 32768, .inl (hj_B d))), (ba, .inl (cB, 2000, .inl fb)), (ta, .inl (cT, 1000, .inl (hj_B tp))), (na, .inl (cN, 15872, .inl (hj_B nx)))] := hD
        refine lv_aload_n hx hb d_M_append_50 rfl (lv_at hl 0 rfl) ?_
        refine va_get (D := (dC, dI)) (ci := 3) (v := .int (nI 3)) (C := "HalfJournalModel") (T := F_M) (N := 15) hx hb hts i_M hown hK hP 0 rfl rfl 0 (by decide) (hts _ m_645) (fun _ h9 => h9) rfl d_M_append_51 ?_
        refine hj_if_le (tgt := 59) hx hb (by omega) d_M_append_54 (by decide) (fun c_9 => ?_) (fun c_9 => ?_)
        · omega
        · refine lv_iconst (v := nI 0) hx hb d_M_append_57 (by decide) ?_
          exact hret (nI 0) (nI 3, (st, g, h, us, n, tl), du, wr, d, fb, nx) _ _ _ _ d_M_append_58 rfl (⟨hbn, Or.inr (Or.inr (Or.inl ⟨rfl, c_1, c_2, c_3, rfl, rfl, rfl, rfl, rfl, rfl, rfl, rfl, rfl, rfl⟩))⟩) hP hK hD hS
    · refine lv_iconst (v := nI 2) hx hb d_M_append_20 (by decide) ?_
      refine lv_goto (tgt := 47) hx hb d_M_append_21 (by decide) ?_
      refine va_put (D := (dC, dI)) (ci := 3) (v := .int (nI 2)) (ty := (.int)) (C := "HalfJournalModel") (T := F_M) (N := 15) hx hb hts i_M t_M t_M_ok n_M hown hK hP hD hS 0 rfl rfl 0 (by decide) (hts _ m_645) (fun _ h9 => h9) rfl (by decide +kernel) rfl rfl (Nat.le_of_ble_eq_true rfl) d_M_append_47 (fun H locs hP hD hS => ?_)
      have hP : va_P (dC, dI) vwCl [(m0, .inr (3, [.int (nI 2), .ref da, .int (nI st), .int (nI g), .int (nI h), .int (nI us), .int (nI n), .ref ba, .ref ka, .ref ta, .int (nI tl), .int du, .int wr, .ref na, .ref ea])), (da, .inl (cD, 32768, .inl (hj_B d))), (ba, .inl (cB, 2000, .inl fb)), (ta, .inl (cT, 1000, .inl (hj_B tp))), (na, .inl (cN, 15872, .inl (hj_B nx)))] H := hP
      have hD : va_D A [(m0, .inr (3, [.int (nI 2), .ref da, .int (nI st), .int (nI g), .int (nI h), .int (nI us), .int (nI n), .ref ba, .ref ka, .ref ta, .int (nI tl), .int du, .int wr, .ref na, .ref ea])), (da, .inl (cD, 32768, .inl (hj_B d))), (ba, .inl (cB, 2000, .inl fb)), (ta, .inl (cT, 1000, .inl (hj_B tp))), (na, .inl (cN, 15872, .inl (hj_B nx)))] := hD
      refine lv_aload_n hx hb d_M_append_50 rfl (lv_at hl 0 rfl) ?_
      refine va_get (D := (dC, dI)) (ci := 3) (v := .int (nI 2)) (C := "HalfJournalModel") (T := F_M) (N := 15) hx hb hts i_M hown hK hP 0 rfl rfl 0 (by decide) (hts _ m_645) (fun _ h9 => h9) rfl d_M_append_51 ?_
      refine hj_if_le (tgt := 59) hx hb (by omega) d_M_append_54 (by decide) (fun c_9 => ?_) (fun c_9 => ?_)
      · omega
      · refine lv_iconst (v := nI 0) hx hb d_M_append_57 (by decide) ?_
        exact hret (nI 0) (nI 2, (st, g, h, us, n, tl), du, wr, d, fb, nx) _ _ _ _ d_M_append_58 rfl (⟨hbn, Or.inr (Or.inl ⟨rfl, c_1, c_2, rfl, rfl, rfl, rfl, rfl, rfl, rfl, rfl, rfl, rfl⟩)⟩) hP hK hD hS
  · refine lv_iconst (v := nI 1) hx hb d_M_append_9 (by decide) ?_
    refine lv_goto (tgt := 47) hx hb d_M_append_10 (by decide) ?_
    refine va_put (D := (dC, dI)) (ci := 3) (v := .int (nI 1)) (ty := (.int)) (C := "HalfJournalModel") (T := F_M) (N := 15) hx hb hts i_M t_M t_M_ok n_M hown hK hP hD hS 0 rfl rfl 0 (by decide) (hts _ m_645) (fun _ h9 => h9) rfl (by decide +kernel) rfl rfl (Nat.le_of_ble_eq_true rfl) d_M_append_47 (fun H locs hP hD hS => ?_)
    have hP : va_P (dC, dI) vwCl [(m0, .inr (3, [.int (nI 1), .ref da, .int (nI st), .int (nI g), .int (nI h), .int (nI us), .int (nI n), .ref ba, .ref ka, .ref ta, .int (nI tl), .int du, .int wr, .ref na, .ref ea])), (da, .inl (cD, 32768, .inl (hj_B d))), (ba, .inl (cB, 2000, .inl fb)), (ta, .inl (cT, 1000, .inl (hj_B tp))), (na, .inl (cN, 15872, .inl (hj_B nx)))] H := hP
    have hD : va_D A [(m0, .inr (3, [.int (nI 1), .ref da, .int (nI st), .int (nI g), .int (nI h), .int (nI us), .int (nI n), .ref ba, .ref ka, .ref ta, .int (nI tl), .int du, .int wr, .ref na, .ref ea])), (da, .inl (cD, 32768, .inl (hj_B d))), (ba, .inl (cB, 2000, .inl fb)), (ta, .inl (cT, 1000, .inl (hj_B tp))), (na, .inl (cN, 15872, .inl (hj_B nx)))] := hD
    refine lv_aload_n hx hb d_M_append_50 rfl (lv_at hl 0 rfl) ?_
    refine va_get (D := (dC, dI)) (ci := 3) (v := .int (nI 1)) (C := "HalfJournalModel") (T := F_M) (N := 15) hx hb hts i_M hown hK hP 0 rfl rfl 0 (by decide) (hts _ m_645) (fun _ h9 => h9) rfl d_M_append_51 ?_
    refine hj_if_le (tgt := 59) hx hb (by omega) d_M_append_54 (by decide) (fun c_9 => ?_) (fun c_9 => ?_)
    · omega
    · refine lv_iconst (v := nI 0) hx hb d_M_append_57 (by decide) ?_
      exact hret (nI 0) (nI 1, (st, g, h, us, n, tl), du, wr, d, fb, nx) _ _ _ _ d_M_append_58 rfl (⟨hbn, Or.inl ⟨rfl, c_1, rfl, rfl, rfl, rfl, rfl, rfl, rfl, rfl, rfl, rfl⟩⟩) hP hK hD hS
