theorem hj_hb_le {h : Nat} (hh : h < 2) : hj_hb h ≤ 16896 := by unfold hj_hb; omega
theorem hj_m1_lt {a : Nat} (h : a < 2 ^ 30) : nI a - 1 < nI a := by
  rw [Int32.lt_iff_toInt_lt]
  have h1 := pk_sub_toInt (a := a) (b := 1) h (by omega)
  rw [show nI a - 1 = nI a - nI 1 from rfl, h1, nI_toInt (by omega)]
  omega
theorem hj_four_bytes {d : Nat → Nat} (hd : hj_bs d) {k h : Nat} (hh : h < 256) : hj_four d k = 12618 + 65536 * h ↔ d k = 74 ∧ d (k + 1) = 49 ∧ d (k + 2) = h ∧ d (k + 3) = 0 := by
  have h0 := hd k; have h1 := hd (k + 1); have h2 := hd (k + 2); have h3 := hd (k + 3)
  unfold hj_four
  omega
theorem hj_max0 {v : Nat} (h : v < 2 ^ 32) : (if nI v < nI 0 then nI 0 else nI v) = nI (if v < 2 ^ 31 then v else 0) := by
  by_cases q : v < 2 ^ 31
  · rw [if_pos q, if_neg (show ¬ nI v < nI 0 from nI_pos q)]
  · rw [if_neg q, if_pos ?_]
    rw [Int32.lt_iff_toInt_lt]
    have h1 : (nI v).toInt = (v : Int) - 2 ^ 32 := by
      show (BitVec.ofNat 32 v).toInt = _
      rw [BitVec.toInt_eq_toNat_cond, BitVec.toNat_ofNat, Nat.mod_eq_of_lt h, if_neg (by omega)]
      rfl
    rw [h1, show (nI 0).toInt = 0 by decide]
    omega
theorem hj_hg_of {d : Nat → Nat} (hd : hj_bs d) {b : Nat} (h1 : hj_four d (512 * b) = 12618 + 65536 * 0 ∨ hj_four d (512 * b) = 12618 + 65536 * 1) (h2 : hj_four d (512 * b + 8) = hj_chk d (512 * b) 8) : (if hj_four d (512 * b + 4) < 2 ^ 31 then hj_four d (512 * b + 4) else 0) = hj_hg d b := by
  have h3 : d (512 * b) = 74 ∧ d (512 * b + 1) = 49 ∧ d (512 * b + 2) < 2 ∧ d (512 * b + 3) = 0 := by
    rcases h1 with h | h
    · have := (hj_four_bytes hd (by omega)).mp h; omega
    · have := (hj_four_bytes hd (by omega)).mp h; omega
  by_cases q : hj_four d (512 * b + 4) < 2 ^ 31
  · rw [if_pos q]
    by_cases z : 0 < hj_four d (512 * b + 4)
    · exact (hj_hg_ok ⟨h3.1, h3.2.1, h3.2.2.1, h3.2.2.2, z, q, h2⟩).symm
    · rw [hj_hg_no (fun r => z r.2.2.2.2.1)]; omega
  · rw [if_neg q, hj_hg_no (fun r => q r.2.2.2.2.2.1)]
theorem hj_hg_no1 {d : Nat → Nat} (hd : hj_bs d) {b : Nat} (h0 : ¬ hj_four d (512 * b) = 12618 + 65536 * 0) (h1 : ¬ hj_four d (512 * b) = 12618 + 65536 * 1) : hj_hg d b = 0 := by
  refine hj_hg_no (fun r => ?_)
  obtain ⟨r1, r2, r3, r4, -⟩ := r
  rcases (show d (512 * b + 2) = 0 ∨ d (512 * b + 2) = 1 by omega) with q | q
  · exact h0 ((hj_four_bytes hd (by omega)).mpr ⟨r1, r2, q, r4⟩)
  · exact h1 ((hj_four_bytes hd (by omega)).mpr ⟨r1, r2, q, r4⟩)
theorem hj_hd_ph (pl : Nat → Nat) (h g j : Nat) (hj : j < 512) : hj_ph (hj_clr pl 0 512) 0 h g (0 + j) = hj_hd h g (0 + j) := by
  unfold hj_ph
  rw [Nat.zero_add]
  by_cases q : j < 12
  · rw [if_pos (by omega)]; rfl
  · rw [if_neg (by omega)]
    unfold hj_clr hj_hd hj_hd0
    rw [if_pos (by omega), if_neg (by omega), if_neg (by omega), if_neg (by omega), if_neg (by omega), if_neg (by omega), if_neg (by omega)]
theorem hj_plan {d pl tp : Nat → Nat} {h us tl f1 l1 : Nat} (h1 : 512 * f1 ≤ us) (h2 : us + 6 + tl ≤ 512 * (l1 + 1)) :
    ∀ q, 512 * f1 ≤ q → q < 512 * (l1 + 1) → hj_pn (va_cpy tp (hj_pn (hj_clr (va_cpy d pl (hj_hb h + f1 * 512) (f1 * 512) (us - f1 * 512)) us ((l1 + 1) * 512)) us 2 tl) 0 (us + 2) tl) (us + (2 + tl)) 4 (hj_chk (va_cpy tp (hj_pn (hj_clr (va_cpy d pl (hj_hb h + f1 * 512) (f1 * 512) (us - f1 * 512)) us ((l1 + 1) * 512)) us 2 tl) 0 (us + 2) tl) us (2 + tl)) q = hj_im d h us tp tl q := by
  have e0 : ∀ q, 512 * f1 ≤ q → q < 512 * (l1 + 1) → va_cpy tp (hj_pn (hj_clr (va_cpy d pl (hj_hb h + f1 * 512) (f1 * 512) (us - f1 * 512)) us ((l1 + 1) * 512)) us 2 tl) 0 (us + 2) tl q = hj_im0 d h us tp tl q := by
    intro q q1 q2
    unfold hj_im0
    by_cases a1 : q < us
    · rw [if_pos a1]
      unfold va_cpy
      rw [if_neg (by omega)]
      unfold hj_pn
      rw [if_neg (by omega)]
      unfold hj_clr
      rw [if_neg (by omega)]
      dsimp only
      rw [if_pos (by omega)]
      congr 1
      omega
    · rw [if_neg a1]
      by_cases a2 : q < us + 2
      · rw [if_pos a2]
        unfold va_cpy
        rw [if_neg (by omega)]
        unfold hj_pn
        rw [if_pos (by omega)]
      · rw [if_neg a2]
        by_cases a3 : q < us + 2 + tl
        · rw [if_pos a3]
          unfold va_cpy
          rw [if_pos (by omega)]
          congr 1
          omega
        · rw [if_neg a3]
          unfold va_cpy
          rw [if_neg (by omega)]
          unfold hj_pn
          rw [if_neg (by omega)]
          unfold hj_clr
          rw [if_pos (by omega)]
  generalize va_cpy tp (hj_pn (hj_clr (va_cpy d pl (hj_hb h + f1 * 512) (f1 * 512) (us - f1 * 512)) us ((l1 + 1) * 512)) us 2 tl) 0 (us + 2) tl = P at e0 ⊢
  have ec : hj_chk P us (2 + tl) = hj_chk (hj_im0 d h us tp tl) us (2 + tl) := hj_chk_congr (fun j hj => e0 _ (by omega) (by omega))
  intro q q1 q2
  rw [ec]
  unfold hj_pn hj_im
  by_cases a : us + 2 + tl ≤ q ∧ q < us + 6 + tl
  · rw [if_pos a, if_pos (by omega), show us + (2 + tl) = us + 2 + tl by omega]
  · rw [if_neg a, if_neg (by omega)]; exact e0 q q1 q2
abbrev rm_J_leave : Room := { frames := 16, cells := 0, slots := 0, locals := 200 }
set_option maxHeartbeats 4000000 in
set_option maxRecDepth 100000 in
theorem c_J_leave (l : Launch) (dC : Nat → ClassId) (dI : Nat → Nat → Nat) (j dk rc ta pa : Nat) (tl st g h : Nat) (sa la ma : Nat) (n us mm : Nat) (z : Nat) : hj_Mv l y_J_leave b_J_leave 2 rm_J_leave hj_EX (dC, dI) vwCl [] [(j, .inr (2, [.ref dk, .ref rc, .ref ta, .ref pa, .int (nI tl), .int (nI st), .int (nI g), .int (nI h)])), (rc, .inr (1, [.ref sa, .ref la, .ref ma, .int (nI n), .int (nI us), .int (nI mm)]))] [.ref j, .int (nI z)] (fun _ => True) (fun _ : Unit => [(j, .inr (2, [.ref dk, .ref rc, .ref ta, .ref pa, .int (nI tl), .int (nI z), .int (nI 0), .int (nI 0)])), (rc, .inr (1, [.ref sa, .ref la, .ref ma, .int (nI 0), .int (nI 0), .int (nI 0)]))]) (fun _ => []) 0 0 := by
  refine hj_bodyV (by decide +kernel) (Nat.le_of_ble_eq_true rfl) ?_
  intro p e s m args below meth c A Q ls hx hb hts hown hml hin hA hP hK hD hE hl hret
  have hS : va_S A s.heap s.heap [] := va_S.rf
  have hown : s.vm.findClass "HalfJournal" = some m.cls := hown
  have hl : lv_has ls 2 [(0, .ref j), (1, .int (nI z))] := hl
  have hP : va_P (dC, dI) vwCl [(j, .inr (2, [.ref dk, .ref rc, .ref ta, .ref pa, .int (nI tl), .int (nI st), .int (nI g), .int (nI h)])), (rc, .inr (1, [.ref sa, .ref la, .ref ma, .int (nI n), .int (nI us), .int (nI mm)]))] s.heap := hP
  have hD : va_D A [(j, .inr (2, [.ref dk, .ref rc, .ref ta, .ref pa, .int (nI tl), .int (nI st), .int (nI g), .int (nI h)])), (rc, .inr (1, [.ref sa, .ref la, .ref ma, .int (nI n), .int (nI us), .int (nI mm)]))] := hD
  refine lv_aload_n hx hb d_J_leave_0 rfl (lv_at hl 0 rfl) ?_
  refine lv_iload_n hx hb d_J_leave_1 rfl (lv_at hl 1 rfl) ?_
  refine va_put (D := (dC, dI)) (ci := 2) (v := .int (nI z)) (ty := (.int)) (C := "HalfJournal") (T := F_J) (N := 8) hx hb hts i_J t_J t_J_ok n_J hown hK hP hD hS 0 rfl rfl 5 (by decide) (hts _ m_89) (fun _ h9 => h9) rfl (by decide +kernel) rfl rfl (Nat.le_of_ble_eq_true rfl) d_J_leave_2 (fun H locs hP hD hS => ?_)
  have hP : va_P (dC, dI) vwCl [(j, .inr (2, [.ref dk, .ref rc, .ref ta, .ref pa, .int (nI tl), .int (nI z), .int (nI g), .int (nI h)])), (rc, .inr (1, [.ref sa, .ref la, .ref ma, .int (nI n), .int (nI us), .int (nI mm)]))] H := hP
  have hD : va_D A [(j, .inr (2, [.ref dk, .ref rc, .ref ta, .ref pa, .int (nI tl), .int (nI z), .int (nI g), .int (nI h)])), (rc, .inr (1, [.ref sa, .ref la, .ref ma, .int (nI n), .int (nI us), .int (nI mm)]))] := hD
  refine lv_aload_n hx hb d_J_leave_5 rfl (lv_at hl 0 rfl) ?_
  refine lv_iconst (v := nI 0) hx hb d_J_leave_6 (by decide) ?_
  refine va_put (D := (dC, dI)) (ci := 2) (v := .int (nI 0)) (ty := (.int)) (C := "HalfJournal") (T := F_J) (N := 8) hx hb hts i_J t_J t_J_ok n_J hown hK hP hD hS 0 rfl rfl 6 (by decide) (hts _ m_90) (fun _ h9 => h9) rfl (by decide +kernel) rfl rfl (Nat.le_of_ble_eq_true rfl) d_J_leave_7 (fun H locs hP hD hS => ?_)
  have hP : va_P (dC, dI) vwCl [(j, .inr (2, [.ref dk, .ref rc, .ref ta, .ref pa, .int (nI tl), .int (nI z), .int (nI 0), .int (nI h)])), (rc, .inr (1, [.ref sa, .ref la, .ref ma, .int (nI n), .int (nI us), .int (nI mm)]))] H := hP
  have hD : va_D A [(j, .inr (2, [.ref dk, .ref rc, .ref ta, .ref pa, .int (nI tl), .int (nI z), .int (nI 0), .int (nI h)])), (rc, .inr (1, [.ref sa, .ref la, .ref ma, .int (nI n), .int (nI us), .int (nI mm)]))] := hD
  refine lv_aload_n hx hb d_J_leave_10 rfl (lv_at hl 0 rfl) ?_
  refine lv_iconst (v := nI 0) hx hb d_J_leave_11 (by decide) ?_
  refine va_put (D := (dC, dI)) (ci := 2) (v := .int (nI 0)) (ty := (.int)) (C := "HalfJournal") (T := F_J) (N := 8) hx hb hts i_J t_J t_J_ok n_J hown hK hP hD hS 0 rfl rfl 7 (by decide) (hts _ m_91) (fun _ h9 => h9) rfl (by decide +kernel) rfl rfl (Nat.le_of_ble_eq_true rfl) d_J_leave_12 (fun H locs hP hD hS => ?_)
  have hP : va_P (dC, dI) vwCl [(j, .inr (2, [.ref dk, .ref rc, .ref ta, .ref pa, .int (nI tl), .int (nI z), .int (nI 0), .int (nI 0)])), (rc, .inr (1, [.ref sa, .ref la, .ref ma, .int (nI n), .int (nI us), .int (nI mm)]))] H := hP
  have hD : va_D A [(j, .inr (2, [.ref dk, .ref rc, .ref ta, .ref pa, .int (nI tl), .int (nI z), .int (nI 0), .int (nI 0)])), (rc, .inr (1, [.ref sa, .ref la, .ref ma, .int (nI n), .int (nI us), .int (nI mm)]))] := hD
  refine lv_aload_n hx hb d_J_leave_15 rfl (lv_at hl 0 rfl) ?_
  refine va_get (D := (dC, dI)) (ci := 2) (v := .ref rc) (C := "HalfJournal") (T := F_J) (N := 8) hx hb hts i_J hown hK hP 0 rfl rfl 1 (by decide) (hts _ m_85) (fun _ h9 => h9) rfl d_J_leave_16 ?_
  refine hj_callv (wc := [(rc, .inr (1, [.ref sa, .ref la, .ref ma, .int (nI n), .int (nI us), .int (nI mm)]))]) (wr := [(j, .inr (2, [.ref dk, .ref rc, .ref ta, .ref pa, .int (nI tl), .int (nI z), .int (nI 0), .int (nI 0)]))]) [1] [0] hP hD hS hA rfl rfl rfl (by decide) (va_runVN (As := []) (rest := []) ⟨hx, hb, hml, hown, hts⟩ (c_R_clear l dC dI rc sa la ma n us mm H.size) ⟨va_cnB 0 hts (hj_gC m_457) rfl rfl rfl (hE.1 _ m_454) (hts _ m_3) (by decide +kernel) ⟨Nat.le_of_ble_eq_true rfl, Nat.le_of_ble_eq_true rfl⟩, hts _ m_456, hts _ s_R_clear⟩ (hj_preV (ci := 1) (q0 := 1) hj_EXok hE hP hD hK hS hA [1] rfl rfl [] rfl rfl rfl) rfl rfl hl.1 rfl (lv_room (Nat.le_of_ble_eq_true rfl)) d_J_leave_19 ⟨Nat.le_of_ble_eq_true rfl, Nat.le_of_ble_eq_true rfl⟩) (fun u_2 H locs hw hP hD hK1 hS => ?_)
  have hP : va_P (dC, dI) vwCl [(j, .inr (2, [.ref dk, .ref rc, .ref ta, .ref pa, .int (nI tl), .int (nI z), .int (nI 0), .int (nI 0)])), (rc, .inr (1, [.ref sa, .ref la, .ref ma, .int (nI 0), .int (nI 0), .int (nI 0)]))] H := hP.sub [0, 1] rfl
  have hD : va_D A [(j, .inr (2, [.ref dk, .ref rc, .ref ta, .ref pa, .int (nI tl), .int (nI z), .int (nI 0), .int (nI 0)])), (rc, .inr (1, [.ref sa, .ref la, .ref ma, .int (nI 0), .int (nI 0), .int (nI 0)]))] := hD.sub [0, 1] (by decide) rfl
  exact hret () _ _ _ _ d_J_leave_22 (trivial) hP hK hD hS
abbrev rm_J_lengthOfRecordAt : Room := { frames := 24, cells := 0, slots := 0, locals := 300 }
set_option maxHeartbeats 4000000 in
set_option maxRecDepth 100000 in
theorem c_J_lengthOfRecordAt (l : Launch) (dC : Nat → ClassId) (dI : Nat → Nat → Nat) (j dk rc ta pa : Nat) (tl st g h : Nat) (a : Nat) (cA : ClassId) (d : Nat → Nat) (du wr : Int32) (o : Nat) (hh : h < 2) (ho : o ≤ 15872) (hd : hj_bs d) : hj_Mi l y_J_lengthOfRecordAt b_J_lengthOfRecordAt 6 .int rm_J_lengthOfRecordAt hj_EX (dC, dI) vwCl [(cA, .byte)] [(j, .inr (2, [.ref dk, .ref rc, .ref ta, .ref pa, .int (nI tl), .int (nI st), .int (nI g), .int (nI h)])), (dk, .inr (0, [.ref a, .int du, .int wr])), (a, .inl (cA, 32768, .inl (hj_B d)))] [.ref j, .int (nI o)] (fun r _ => r = nI (hj_rl d h o)) (fun _ : Unit => [(j, .inr (2, [.ref dk, .ref rc, .ref ta, .ref pa, .int (nI tl), .int (nI st), .int (nI g), .int (nI h)])), (dk, .inr (0, [.ref a, .int du, .int wr])), (a, .inl (cA, 32768, .inl (hj_B d)))]) (fun _ => [(cA, .byte)]) 0 0 := by
  refine hj_bodyI (by decide +kernel) (Nat.le_of_ble_eq_true rfl) ?_
  intro p e s m args below meth c A Q ls hx hb hts hown hml hA hP hK hD hE hl hret
  have hS : va_S A s.heap s.heap [] := va_S.rf
  have hown : s.vm.findClass "HalfJournal" = some m.cls := hown
  have hl : lv_has ls 6 [(0, .ref j), (1, .int (nI o))] := hl
  have hP : va_P (dC, dI) vwCl [(j, .inr (2, [.ref dk, .ref rc, .ref ta, .ref pa, .int (nI tl), .int (nI st), .int (nI g), .int (nI h)])), (dk, .inr (0, [.ref a, .int du, .int wr])), (a, .inl (cA, 32768, .inl (hj_B d)))] s.heap := hP
  have hD : va_D A [(j, .inr (2, [.ref dk, .ref rc, .ref ta, .ref pa, .int (nI tl), .int (nI st), .int (nI g), .int (nI h)])), (dk, .inr (0, [.ref a, .int du, .int wr])), (a, .inl (cA, 32768, .inl (hj_B d)))] := hD
  have hhb := hj_hb_le hh
  refine lv_iload_n hx hb d_J_lengthOfRecordAt_0 rfl (lv_at hl 1 rfl) ?_
  refine lv_sipush (v := nI 15870) hx hb d_J_lengthOfRecordAt_1 (by decide) ?_
  refine hj_icmp_le (tgt := 9) hx hb (by omega) (by omega) d_J_lengthOfRecordAt_4 (by decide) (fun c_1 => ?_) (fun c_1 => ?_)
  · refine lv_aload_n hx hb d_J_lengthOfRecordAt_9 rfl (lv_at hl 0 rfl) ?_
    refine va_get (D := (dC, dI)) (ci := 2) (v := .int (nI h)) (C := "HalfJournal") (T := F_J) (N := 8) hx hb hts i_J hown hK hP 0 rfl rfl 7 (by decide) (hts _ m_91) (fun _ h9 => h9) rfl d_J_lengthOfRecordAt_10 ?_
    refine hj_calli (wc := []) (wr := [(j, .inr (2, [.ref dk, .ref rc, .ref ta, .ref pa, .int (nI tl), .int (nI st), .int (nI g), .int (nI h)])), (dk, .inr (0, [.ref a, .int du, .int wr])), (a, .inl (cA, 32768, .inl (hj_B d)))]) [] [0, 1, 2] hP hD hS hA rfl rfl rfl (by decide) (va_runS (As := [.int (nI h)]) (rest := []) ⟨hx, hb, hml, hown, hts⟩ (c_J_firstByteOf l dC dI h s.heap.size) (cwS 1 hts (hj_gS m_462 m_463 m_1 m_464) rfl rfl rfl (by decide +kernel) ⟨Nat.le_of_ble_eq_true rfl, Nat.le_of_ble_eq_true rfl⟩) (hj_preS hj_EXok hE hP hD hK hS hA [] rfl rfl [] rfl) rfl rfl hl.1 rfl (lv_room (Nat.le_of_ble_eq_true rfl)) d_J_lengthOfRecordAt_13 ⟨Nat.le_of_ble_eq_true rfl, Nat.le_of_ble_eq_true rfl⟩) (fun r_1 u_2 H locs hw hP hD hK1 hS => ?_)
    subst hw
    have hP : va_P (dC, dI) vwCl [(j, .inr (2, [.ref dk, .ref rc, .ref ta, .ref pa, .int (nI tl), .int (nI st), .int (nI g), .int (nI h)])), (dk, .inr (0, [.ref a, .int du, .int wr])), (a, .inl (cA, 32768, .inl (hj_B d)))] H := hP.sub [0, 1, 2] rfl
    have hD : va_D A [(j, .inr (2, [.ref dk, .ref rc, .ref ta, .ref pa, .int (nI tl), .int (nI st), .int (nI g), .int (nI h)])), (dk, .inr (0, [.ref a, .int du, .int wr])), (a, .inl (cA, 32768, .inl (hj_B d)))] := hD.sub [0, 1, 2] (by decide) rfl
    refine lv_iload_n hx hb d_J_lengthOfRecordAt_16 rfl (lv_at hl 1 rfl) ?_
    refine hj_iadd hx hb d_J_lengthOfRecordAt_17 ?_
    refine lv_istore_n (lv' := [(2, .int (nI ((hj_hb h) + o))), (0, .ref j), (1, .int (nI o))]) hx hb d_J_lengthOfRecordAt_18 rfl hl (by decide) rfl (fun ls hl => ?_)
    refine lv_aload_n hx hb d_J_lengthOfRecordAt_19 rfl (lv_at hl 1 rfl) ?_
    refine va_get (D := (dC, dI)) (ci := 2) (v := .ref dk) (C := "HalfJournal") (T := F_J) (N := 8) hx hb hts i_J hown hK hP 0 rfl rfl 0 (by decide) (hts _ m_84) (fun _ h9 => h9) rfl d_J_lengthOfRecordAt_20 ?_
    refine va_getN (D := (dC, dI)) (ci := 0) (v := .ref a) (C := "HalfJournal$Disk") (T := F_D) (N := 3) hx hb hts i_D hown hK hP 1 rfl rfl 0 (by decide) (va_Nw.use rfl (hE.1 _ m_38)) (fun _ h9 => h9) rfl d_J_lengthOfRecordAt_23 ?_
    refine lv_iload_n hx hb d_J_lengthOfRecordAt_26 rfl (lv_at hl 0 rfl) ?_
    refine lv_iconst (v := nI 2) hx hb d_J_lengthOfRecordAt_27 (by decide) ?_
    refine hj_calli (wc := [(a, .inl (cA, 32768, .inl (hj_B d)))]) (wr := [(j, .inr (2, [.ref dk, .ref rc, .ref ta, .ref pa, .int (nI tl), .int (nI st), .int (nI g), .int (nI h)])), (dk, .inr (0, [.ref a, .int du, .int wr]))]) [2] [0, 1] hP hD hS hA rfl rfl rfl (by decide) (va_runS (As := [.ref a, .int (nI ((hj_hb h) + o)), .int (nI 2)]) (rest := []) ⟨hx, hb, hml, hown, hts⟩ (c_J_number l dC dI a cA 32768 d (hj_hb h + o) 2 (by omega) (by omega) (by omega) hd H.size) (cwS 3 hts (hj_gS m_468 m_469 m_1 m_470) rfl rfl rfl (by decide +kernel) ⟨Nat.le_of_ble_eq_true rfl, Nat.le_of_ble_eq_true rfl⟩) (hj_preS hj_EXok hE hP hD hK hS hA [2] rfl rfl [0] rfl) rfl rfl hl.1 rfl (lv_room (Nat.le_of_ble_eq_true rfl)) d_J_lengthOfRecordAt_28 ⟨Nat.le_of_ble_eq_true rfl, Nat.le_of_ble_eq_true rfl⟩) (fun r_3 u_4 H locs hw hP hD hK1 hS => ?_)
    subst hw
    have hP : va_P (dC, dI) vwCl [(j, .inr (2, [.ref dk, .ref rc, .ref ta, .ref pa, .int (nI tl), .int (nI st), .int (nI g), .int (nI h)])), (dk, .inr (0, [.ref a, .int du, .int wr])), (a, .inl (cA, 32768, .inl (hj_B d)))] H := hP.sub [0, 1, 2] rfl
    have hD : va_D A [(j, .inr (2, [.ref dk, .ref rc, .ref ta, .ref pa, .int (nI tl), .int (nI st), .int (nI g), .int (nI h)])), (dk, .inr (0, [.ref a, .int du, .int wr])), (a, .inl (cA, 32768, .inl (hj_B d)))] := hD.sub [0, 1, 2] (by decide) rfl
    obtain ⟨x, hxx⟩ : ∃ x, x = hj_len d (hj_hb h + o) := ⟨_, rfl⟩
    have hx16 : x < 65536 := by rw [hxx]; exact hj_len_lt hd _
    refine hj_topn (b := x) (by rw [hj_num2, hxx]) ?_
    refine lv_istore_n (lv' := [(3, .int (nI x)), (2, .int (nI ((hj_hb h) + o))), (0, .ref j), (1, .int (nI o))]) hx hb d_J_lengthOfRecordAt_31 rfl hl (by decide) rfl (fun ls hl => ?_)
    refine lv_iload_n hx hb d_J_lengthOfRecordAt_32 rfl (lv_at hl 0 rfl) ?_
    refine lv_iconst (v := nI 1) hx hb d_J_lengthOfRecordAt_33 (by decide) ?_
    refine hj_icmp_lt (tgt := 56) hx hb (by omega) (by omega) d_J_lengthOfRecordAt_34 (by decide) (fun c_3 => ?_) (fun c_3 => ?_)
    · refine lv_iconst (v := nI 0) hx hb d_J_lengthOfRecordAt_56 (by decide) ?_
      exact hret (nI 0) () _ _ _ _ d_J_lengthOfRecordAt_57 rfl (by rw [hj_rl_no (fun q => by have := q.2.1; rw [← hxx] at this; omega)]) hP hK hD hS
    · refine lv_iload_n hx hb d_J_lengthOfRecordAt_37 rfl (lv_at hl 0 rfl) ?_
      refine lv_sipush (v := nI 1000) hx hb d_J_lengthOfRecordAt_38 (by decide) ?_
      refine hj_icmp_gt (tgt := 56) hx hb (by omega) (by omega) d_J_lengthOfRecordAt_41 (by decide) (fun c_4 => ?_) (fun c_4 => ?_)
      · refine lv_iconst (v := nI 0) hx hb d_J_lengthOfRecordAt_56 (by decide) ?_
        exact hret (nI 0) () _ _ _ _ d_J_lengthOfRecordAt_57 rfl (by rw [hj_rl_no (fun q => by have := q.2.2.1; rw [← hxx] at this; omega)]) hP hK hD hS
      · refine lv_iload_n hx hb d_J_lengthOfRecordAt_44 rfl (lv_at hl 0 rfl) ?_
        refine hj_calli (wc := []) (wr := [(j, .inr (2, [.ref dk, .ref rc, .ref ta, .ref pa, .int (nI tl), .int (nI st), .int (nI g), .int (nI h)])), (dk, .inr (0, [.ref a, .int du, .int wr])), (a, .inl (cA, 32768, .inl (hj_B d)))]) [] [0, 1, 2] hP hD hS hA rfl rfl rfl (by decide) (va_runS (As := [.int (nI x)]) (rest := []) ⟨hx, hb, hml, hown, hts⟩ (c_J_sizeOf l dC dI x (by omega) H.size) (cwS 1 hts (hj_gS m_471 m_472 m_1 m_473) rfl rfl rfl (by decide +kernel) ⟨Nat.le_of_ble_eq_true rfl, Nat.le_of_ble_eq_true rfl⟩) (hj_preS hj_EXok hE hP hD hK hS hA [] rfl rfl [] rfl) rfl rfl hl.1 rfl (lv_room (Nat.le_of_ble_eq_true rfl)) d_J_lengthOfRecordAt_45 ⟨Nat.le_of_ble_eq_true rfl, Nat.le_of_ble_eq_true rfl⟩) (fun r_5 u_6 H locs hw hP hD hK1 hS => ?_)
        subst hw
        have hP : va_P (dC, dI) vwCl [(j, .inr (2, [.ref dk, .ref rc, .ref ta, .ref pa, .int (nI tl), .int (nI st), .int (nI g), .int (nI h)])), (dk, .inr (0, [.ref a, .int du, .int wr])), (a, .inl (cA, 32768, .inl (hj_B d)))] H := hP.sub [0, 1, 2] rfl
        have hD : va_D A [(j, .inr (2, [.ref dk, .ref rc, .ref ta, .ref pa, .int (nI tl), .int (nI st), .int (nI g), .int (nI h)])), (dk, .inr (0, [.ref a, .int du, .int wr])), (a, .inl (cA, 32768, .inl (hj_B d)))] := hD.sub [0, 1, 2] (by decide) rfl
        have hsz := hj_sz_le x
        refine lv_sipush (v := nI 15872) hx hb d_J_lengthOfRecordAt_48 (by decide) ?_
        refine lv_iload_n hx hb d_J_lengthOfRecordAt_51 rfl (lv_at hl 3 rfl) ?_
        refine hj_isub hx hb (by omega) d_J_lengthOfRecordAt_52 ?_
        refine hj_icmp_le (tgt := 58) hx hb (by omega) (by omega) d_J_lengthOfRecordAt_53 (by decide) (fun c_5 => ?_) (fun c_5 => ?_)
        · have hsz6 : hj_sz x = 6 + x + x % 2 := rfl
          refine lv_iconst (v := nI 2) hx hb d_J_lengthOfRecordAt_58 (by decide) ?_
          refine lv_iload_n hx hb d_J_lengthOfRecordAt_59 rfl (lv_at hl 0 rfl) ?_
          refine hj_iadd hx hb d_J_lengthOfRecordAt_60 ?_
          refine lv_istore (lv' := [(4, .int (nI (2 + x))), (3, .int (nI x)), (2, .int (nI ((hj_hb h) + o))), (0, .ref j), (1, .int (nI o))]) hx hb d_J_lengthOfRecordAt_61 hl (by decide) rfl (fun ls hl => ?_)
          refine lv_aload_n hx hb d_J_lengthOfRecordAt_63 rfl (lv_at hl 3 rfl) ?_
          refine va_get (D := (dC, dI)) (ci := 2) (v := .ref dk) (C := "HalfJournal") (T := F_J) (N := 8) hx hb hts i_J hown hK hP 0 rfl rfl 0 (by decide) (hts _ m_84) (fun _ h9 => h9) rfl d_J_lengthOfRecordAt_64 ?_
          refine va_getN (D := (dC, dI)) (ci := 0) (v := .ref a) (C := "HalfJournal$Disk") (T := F_D) (N := 3) hx hb hts i_D hown hK hP 1 rfl rfl 0 (by decide) (va_Nw.use rfl (hE.1 _ m_38)) (fun _ h9 => h9) rfl d_J_lengthOfRecordAt_67 ?_
          refine lv_iload_n hx hb d_J_lengthOfRecordAt_70 rfl (lv_at hl 2 rfl) ?_
          refine lv_iload hx hb d_J_lengthOfRecordAt_71 (lv_at hl 0 rfl) ?_
          refine hj_iadd hx hb d_J_lengthOfRecordAt_73 ?_
          refine lv_iconst (v := nI 4) hx hb d_J_lengthOfRecordAt_74 (by decide) ?_
          refine hj_calli (wc := [(a, .inl (cA, 32768, .inl (hj_B d)))]) (wr := [(j, .inr (2, [.ref dk, .ref rc, .ref ta, .ref pa, .int (nI tl), .int (nI st), .int (nI g), .int (nI h)])), (dk, .inr (0, [.ref a, .int du, .int wr]))]) [2] [0, 1] hP hD hS hA rfl rfl rfl (by decide) (va_runS (As := [.ref a, .int (nI (((hj_hb h) + o) + (2 + x))), .int (nI 4)]) (rest := []) ⟨hx, hb, hml, hown, hts⟩ (c_J_number l dC dI a cA 32768 d (hj_hb h + o + (2 + x)) 4 (by omega) (by omega) (by omega) hd H.size) (cwS 3 hts (hj_gS m_468 m_469 m_1 m_470) rfl rfl rfl (by decide +kernel) ⟨Nat.le_of_ble_eq_true rfl, Nat.le_of_ble_eq_true rfl⟩) (hj_preS hj_EXok hE hP hD hK hS hA [2] rfl rfl [0] rfl) rfl rfl hl.1 rfl (lv_room (Nat.le_of_ble_eq_true rfl)) d_J_lengthOfRecordAt_75 ⟨Nat.le_of_ble_eq_true rfl, Nat.le_of_ble_eq_true rfl⟩) (fun r_7 u_8 H locs hw hP hD hK1 hS => ?_)
          subst hw
          have hP : va_P (dC, dI) vwCl [(j, .inr (2, [.ref dk, .ref rc, .ref ta, .ref pa, .int (nI tl), .int (nI st), .int (nI g), .int (nI h)])), (dk, .inr (0, [.ref a, .int du, .int wr])), (a, .inl (cA, 32768, .inl (hj_B d)))] H := hP.sub [0, 1, 2] rfl
          have hD : va_D A [(j, .inr (2, [.ref dk, .ref rc, .ref ta, .ref pa, .int (nI tl), .int (nI st), .int (nI g), .int (nI h)])), (dk, .inr (0, [.ref a, .int du, .int wr])), (a, .inl (cA, 32768, .inl (hj_B d)))] := hD.sub [0, 1, 2] (by decide) rfl
          refine hj_topn (b := hj_four d (hj_hb h + o + 2 + x)) (by rw [hj_num4, show hj_hb h + o + (2 + x) = hj_hb h + o + 2 + x by omega]) ?_
          refine lv_aload_n hx hb d_J_lengthOfRecordAt_78 rfl (lv_at hl 3 rfl) ?_
          refine va_get (D := (dC, dI)) (ci := 2) (v := .ref dk) (C := "HalfJournal") (T := F_J) (N := 8) hx hb hts i_J hown hK hP 0 rfl rfl 0 (by decide) (hts _ m_84) (fun _ h9 => h9) rfl d_J_lengthOfRecordAt_79 ?_
          refine va_getN (D := (dC, dI)) (ci := 0) (v := .ref a) (C := "HalfJournal$Disk") (T := F_D) (N := 3) hx hb hts i_D hown hK hP 1 rfl rfl 0 (by decide) (va_Nw.use rfl (hE.1 _ m_38)) (fun _ h9 => h9) rfl d_J_lengthOfRecordAt_82 ?_
          refine lv_iload_n hx hb d_J_lengthOfRecordAt_85 rfl (lv_at hl 2 rfl) ?_
          refine lv_iload hx hb d_J_lengthOfRecordAt_86 (lv_at hl 0 rfl) ?_
          refine hj_calli (wc := [(a, .inl (cA, 32768, .inl (hj_B d)))]) (wr := [(j, .inr (2, [.ref dk, .ref rc, .ref ta, .ref pa, .int (nI tl), .int (nI st), .int (nI g), .int (nI h)])), (dk, .inr (0, [.ref a, .int du, .int wr]))]) [2] [0, 1] hP hD hS hA rfl rfl rfl (by decide) (va_runS (As := [.ref a, .int (nI ((hj_hb h) + o)), .int (nI (2 + x))]) (rest := [.int (nI (hj_four d (hj_hb h + o + 2 + x)))]) ⟨hx, hb, hml, hown, hts⟩ (c_J_checkOf l dC dI a cA 32768 d (hj_hb h + o) (2 + x) (by omega) (by omega) hd H.size) (cwS 3 hts (hj_gS m_441 m_442 m_1 m_443) rfl rfl rfl (by decide +kernel) ⟨Nat.le_of_ble_eq_true rfl, Nat.le_of_ble_eq_true rfl⟩) (hj_preS hj_EXok hE hP hD hK hS hA [2] rfl rfl [0] rfl) rfl rfl hl.1 rfl (lv_room (Nat.le_of_ble_eq_true rfl)) d_J_lengthOfRecordAt_88 ⟨Nat.le_of_ble_eq_true rfl, Nat.le_of_ble_eq_true rfl⟩) (fun r_9 u_10 H locs hw hP hD hK1 hS => ?_)
          subst hw
          have hP : va_P (dC, dI) vwCl [(j, .inr (2, [.ref dk, .ref rc, .ref ta, .ref pa, .int (nI tl), .int (nI st), .int (nI g), .int (nI h)])), (dk, .inr (0, [.ref a, .int du, .int wr])), (a, .inl (cA, 32768, .inl (hj_B d)))] H := hP.sub [0, 1, 2] rfl
          have hD : va_D A [(j, .inr (2, [.ref dk, .ref rc, .ref ta, .ref pa, .int (nI tl), .int (nI st), .int (nI g), .int (nI h)])), (dk, .inr (0, [.ref a, .int du, .int wr])), (a, .inl (cA, 32768, .inl (hj_B d)))] := hD.sub [0, 1, 2] (by decide) rfl
          refine hj_icmp_ne (tgt := 98) hx hb (by first | exact hj_four_lt hd _ | exact hj_chk_lt hd _ _) (by first | exact hj_four_lt hd _ | exact hj_chk_lt hd _ _) d_J_lengthOfRecordAt_91 (by decide) (fun c_6 => ?_) (fun c_6 => ?_)
          · refine lv_iconst (v := nI 0) hx hb d_J_lengthOfRecordAt_98 (by decide) ?_
            refine lv_istore (lv' := [(5, .int (nI 0)), (4, .int (nI (2 + x))), (3, .int (nI x)), (2, .int (nI ((hj_hb h) + o))), (0, .ref j), (1, .int (nI o))]) hx hb d_J_lengthOfRecordAt_99 hl (by decide) rfl (fun ls hl => ?_)
            refine lv_iload hx hb d_J_lengthOfRecordAt_101 (lv_at hl 0 rfl) ?_
            refine hj_if_eq (tgt := 110) hx hb (by omega) d_J_lengthOfRecordAt_103 (by decide) (fun c_7 => ?_) (fun c_7 => ?_)
            · refine lv_iconst (v := nI 0) hx hb d_J_lengthOfRecordAt_110 (by decide) ?_
              exact hret (nI 0) () _ _ _ _ d_J_lengthOfRecordAt_111 rfl (by rw [hj_rl_no (fun q => c_6 (by have := q.2.2.2.2; rw [← hxx] at this; exact this))]) hP hK hD hS
            · omega
          · refine lv_iconst (v := nI 1) hx hb d_J_lengthOfRecordAt_94 (by decide) ?_
            refine lv_goto (tgt := 99) hx hb d_J_lengthOfRecordAt_95 (by decide) ?_
            refine lv_istore (lv' := [(5, .int (nI 1)), (4, .int (nI (2 + x))), (3, .int (nI x)), (2, .int (nI ((hj_hb h) + o))), (0, .ref j), (1, .int (nI o))]) hx hb d_J_lengthOfRecordAt_99 hl (by decide) rfl (fun ls hl => ?_)
            refine lv_iload hx hb d_J_lengthOfRecordAt_101 (lv_at hl 0 rfl) ?_
            refine hj_if_eq (tgt := 110) hx hb (by omega) d_J_lengthOfRecordAt_103 (by decide) (fun c_7 => ?_) (fun c_7 => ?_)
            · omega
            · refine lv_iload_n hx hb d_J_lengthOfRecordAt_106 rfl (lv_at hl 2 rfl) ?_
              refine lv_goto (tgt := 111) hx hb d_J_lengthOfRecordAt_107 (by decide) ?_
              exact hret (nI x) () _ _ _ _ d_J_lengthOfRecordAt_111 rfl (by rw [hj_rl_ok (show hj_ok d h o from ⟨by omega, by rw [← hxx]; omega, by rw [← hxx]; omega, by rw [← hxx]; omega, by rw [← hxx]; exact c_6⟩), ← hxx]) hP hK hD hS
        · refine lv_iconst (v := nI 0) hx hb d_J_lengthOfRecordAt_56 (by decide) ?_
          exact hret (nI 0) () _ _ _ _ d_J_lengthOfRecordAt_57 rfl (by rw [hj_rl_no (fun q => by have := q.2.2.2.1; rw [← hxx] at this; omega)]) hP hK hD hS
  · refine lv_iconst (v := nI 0) hx hb d_J_lengthOfRecordAt_7 (by decide) ?_
    exact hret (nI 0) () _ _ _ _ d_J_lengthOfRecordAt_8 rfl (by rw [hj_rl_end (by omega)]) hP hK hD hS
abbrev rm_J_readRecords : Room := { frames := 32, cells := 0, slots := 0, locals := 400 }
set_option maxHeartbeats 4000000 in
set_option maxRecDepth 100000 in
theorem c_J_readRecords (l : Launch) (dC : Nat → ClassId) (dI : Nat → Nat → Nat) (j dk rc ta pa : Nat) (tl st g h : Nat) (a : Nat) (cA : ClassId) (d : Nat → Nat) (du wr : Int32) (sa la ma : Nat) (n us mm : Nat) (cS cL cM : ClassId) (fs fl fm : Nat → Int32) (hh : h < 2) (hd : hj_bs d) : hj_Mv l y_J_readRecords b_J_readRecords 3 rm_J_readRecords hj_EX (dC, dI) vwCl [(cA, .byte), (cS, .int), (cL, .int), (cM, .boolean)] [(j, .inr (2, [.ref dk, .ref rc, .ref ta, .ref pa, .int (nI tl), .int (nI st), .int (nI g), .int (nI h)])), (dk, .inr (0, [.ref a, .int du, .int wr])), (a, .inl (cA, 32768, .inl (hj_B d))), (rc, .inr (1, [.ref sa, .ref la, .ref ma, .int (nI n), .int (nI us), .int (nI mm)])), (sa, .inl (cS, 1984, .inl fs)), (la, .inl (cL, 1984, .inl fl)), (ma, .inl (cM, 1984, .inl fm))] [.ref j] (fun u => ∀ i, i < hj_N d h → u.1 i = nI (hj_pos d h i) ∧ u.2.1 i = nI (hj_rl d h (hj_pos d h i)) ∧ u.2.2 i = nI 0) (fun u : (Nat → Int32) × (Nat → Int32) × (Nat → Int32) => [(j, .inr (2, [.ref dk, .ref rc, .ref ta, .ref pa, .int (nI tl), .int (nI st), .int (nI g), .int (nI h)])), (dk, .inr (0, [.ref a, .int du, .int wr])), (a, .inl (cA, 32768, .inl (hj_B d))), (rc, .inr (1, [.ref sa, .ref la, .ref ma, .int (nI (hj_N d h)), .int (nI (hj_pos d h (hj_N d h))), .int (nI 0)])), (sa, .inl (cS, 1984, .inl u.1)), (la, .inl (cL, 1984, .inl u.2.1)), (ma, .inl (cM, 1984, .inl u.2.2))]) (fun _ => [(cA, .byte), (cS, .int), (cL, .int), (cM, .boolean)]) 0 0 := by
  refine hj_bodyV (by decide +kernel) (Nat.le_of_ble_eq_true rfl) ?_
  intro p e s m args below meth c A Q ls hx hb hts hown hml hin hA hP hK hD hE hl hret
  have hS : va_S A s.heap s.heap [] := va_S.rf
  have hown : s.vm.findClass "HalfJournal" = some m.cls := hown
  have hl : lv_has ls 3 [(0, .ref j)] := hl
  have hP : va_P (dC, dI) vwCl [(j, .inr (2, [.ref dk, .ref rc, .ref ta, .ref pa, .int (nI tl), .int (nI st), .int (nI g), .int (nI h)])), (dk, .inr (0, [.ref a, .int du, .int wr])), (a, .inl (cA, 32768, .inl (hj_B d))), (rc, .inr (1, [.ref sa, .ref la, .ref ma, .int (nI n), .int (nI us), .int (nI mm)])), (sa, .inl (cS, 1984, .inl fs)), (la, .inl (cL, 1984, .inl fl)), (ma, .inl (cM, 1984, .inl fm))] s.heap := hP
  have hD : va_D A [(j, .inr (2, [.ref dk, .ref rc, .ref ta, .ref pa, .int (nI tl), .int (nI st), .int (nI g), .int (nI h)])), (dk, .inr (0, [.ref a, .int du, .int wr])), (a, .inl (cA, 32768, .inl (hj_B d))), (rc, .inr (1, [.ref sa, .ref la, .ref ma, .int (nI n), .int (nI us), .int (nI mm)])), (sa, .inl (cS, 1984, .inl fs)), (la, .inl (cL, 1984, .inl fl)), (ma, .inl (cM, 1984, .inl fm))] := hD
  refine lv_aload_n hx hb d_J_readRecords_0 rfl (lv_at hl 0 rfl) ?_
  refine va_get (D := (dC, dI)) (ci := 2) (v := .ref rc) (C := "HalfJournal") (T := F_J) (N := 8) hx hb hts i_J hown hK hP 0 rfl rfl 1 (by decide) (hts _ m_85) (fun _ h9 => h9) rfl d_J_readRecords_1 ?_
  refine hj_callv (wc := [(rc, .inr (1, [.ref sa, .ref la, .ref ma, .int (nI n), .int (nI us), .int (nI mm)]))]) (wr := [(j, .inr (2, [.ref dk, .ref rc, .ref ta, .ref pa, .int (nI tl), .int (nI st), .int (nI g), .int (nI h)])), (dk, .inr (0, [.ref a, .int du, .int wr])), (a, .inl (cA, 32768, .inl (hj_B d))), (sa, .inl (cS, 1984, .inl fs)), (la, .inl (cL, 1984, .inl fl)), (ma, .inl (cM, 1984, .inl fm))]) [3] [0, 1, 2, 4, 5, 6] hP hD hS hA rfl rfl rfl (by decide) (va_runVN (As := []) (rest := []) ⟨hx, hb, hml, hown, hts⟩ (c_R_clear l dC dI rc sa la ma n us mm s.heap.size) ⟨va_cnB 0 hts (hj_gC m_457) rfl rfl rfl (hE.1 _ m_454) (hts _ m_3) (by decide +kernel) ⟨Nat.le_of_ble_eq_true rfl, Nat.le_of_ble_eq_true rfl⟩, hts _ m_456, hts _ s_R_clear⟩ (hj_preV (ci := 1) (q0 := 3) hj_EXok hE hP hD hK hS hA [3] rfl rfl [] rfl rfl rfl) rfl rfl hl.1 rfl (lv_room (Nat.le_of_ble_eq_true rfl)) d_J_readRecords_4 ⟨Nat.le_of_ble_eq_true rfl, Nat.le_of_ble_eq_true rfl⟩) (fun u_2 H locs hw hP hD hK1 hS => ?_)
  have hP : va_P (dC, dI) vwCl [(j, .inr (2, [.ref dk, .ref rc, .ref ta, .ref pa, .int (nI tl), .int (nI st), .int (nI g), .int (nI h)])), (dk, .inr (0, [.ref a, .int du, .int wr])), (a, .inl (cA, 32768, .inl (hj_B d))), (rc, .inr (1, [.ref sa, .ref la, .ref ma, .int (nI 0), .int (nI 0), .int (nI 0)])), (sa, .inl (cS, 1984, .inl fs)), (la, .inl (cL, 1984, .inl fl)), (ma, .inl (cM, 1984, .inl fm))] H := hP.sub [0, 1, 2, 6, 3, 4, 5] rfl
  have hD : va_D A [(j, .inr (2, [.ref dk, .ref rc, .ref ta, .ref pa, .int (nI tl), .int (nI st), .int (nI g), .int (nI h)])), (dk, .inr (0, [.ref a, .int du, .int wr])), (a, .inl (cA, 32768, .inl (hj_B d))), (rc, .inr (1, [.ref sa, .ref la, .ref ma, .int (nI 0), .int (nI 0), .int (nI 0)])), (sa, .inl (cS, 1984, .inl fs)), (la, .inl (cL, 1984, .inl fl)), (ma, .inl (cM, 1984, .inl fm))] := hD.sub [0, 1, 2, 6, 3, 4, 5] (by decide) rfl
  refine lv_iconst (v := nI 0) hx hb d_J_readRecords_7 (by decide) ?_
  refine lv_istore_n (lv' := [(1, .int (nI 0)), (0, .ref j)]) hx hb d_J_readRecords_8 rfl hl (by decide) rfl (fun ls hl => ?_)
  have lp : ∀ (n9_lp : Nat) (i : Nat) (fs : Nat → Int32) (fl : Nat → Int32) (fm : Nat → Int32), (∀ k, k < i → 0 < hj_rl d h (hj_pos d h k)) → (∀ k, k < i → fs k = nI (hj_pos d h k) ∧ fl k = nI (hj_rl d h (hj_pos d h k)) ∧ fm k = nI 0) → (1985 - i) < n9_lp → ∀ (H : Heap) (locs : List Loc), va_P (dC, dI) vwCl [(j, .inr (2, [.ref dk, .ref rc, .ref ta, .ref pa, .int (nI tl), .int (nI st), .int (nI g), .int (nI h)])), (dk, .inr (0, [.ref a, .int du, .int wr])), (a, .inl (cA, 32768, .inl (hj_B d))), (rc, .inr (1, [.ref sa, .ref la, .ref ma, .int (nI i), .int (nI (hj_pos d h i)), .int (nI 0)])), (sa, .inl (cS, 1984, .inl fs)), (la, .inl (cL, 1984, .inl fl)), (ma, .inl (cM, 1984, .inl fm))] H → va_D A [(j, .inr (2, [.ref dk, .ref rc, .ref ta, .ref pa, .int (nI tl), .int (nI st), .int (nI g), .int (nI h)])), (dk, .inr (0, [.ref a, .int du, .int wr])), (a, .inl (cA, 32768, .inl (hj_B d))), (rc, .inr (1, [.ref sa, .ref la, .ref ma, .int (nI i), .int (nI (hj_pos d h i)), .int (nI 0)])), (sa, .inl (cS, 1984, .inl fs)), (la, .inl (cL, 1984, .inl fl)), (ma, .inl (cM, 1984, .inl fm))] → va_S A s.heap H locs → ∀ (ls : Array Slot), lv_has ls 3 [(0, .ref j), (1, .int (nI i))] → W p l e rm_J_readRecords s m args below meth c H locs 0 0 Q (F0 m 9 ls []) := by
    intro n9_lp
    induction n9_lp with
    | zero =>
      intro i fs fl fm hv hc hm_lp
      exact absurd hm_lp (Nat.not_lt_zero _)
    | succ n9_lp ih_lp =>
      intro i fs fl fm hv hc hm_lp H locs hP hD hS ls hl
      obtain ⟨hp1, hp2, -⟩ := hj_pos_in i hv
      refine lv_iload_n hx hb d_J_readRecords_9 rfl (lv_at hl 1 rfl) ?_
      refine lv_sipush (v := nI 1984) hx hb d_J_readRecords_10 (by decide) ?_
      refine hj_icmp_ge (tgt := 49) hx hb (by omega) (by omega) d_J_readRecords_13 (by decide) (fun c_1 => ?_) (fun c_1 => ?_)
      · have hN : i = hj_N d h := hj_N_of ⟨hv, hj_rl_end (by omega)⟩
        subst hN
        exact hret (fs, fl, fm) _ _ _ _ d_J_readRecords_49 (hc) hP hK hD hS
      · refine lv_aload_n hx hb d_J_readRecords_16 rfl (lv_at hl 0 rfl) ?_
        refine lv_aload_n hx hb d_J_readRecords_17 rfl (lv_at hl 0 rfl) ?_
        refine va_get (D := (dC, dI)) (ci := 2) (v := .ref rc) (C := "HalfJournal") (T := F_J) (N := 8) hx hb hts i_J hown hK hP 0 rfl rfl 1 (by decide) (hts _ m_85) (fun _ h9 => h9) rfl d_J_readRecords_18 ?_
        refine va_getN (D := (dC, dI)) (ci := 1) (v := .int (nI (hj_pos d h i))) (C := "HalfJournal$Records") (T := F_R) (N := 6) hx hb hts i_R hown hK hP 3 rfl rfl 4 (by decide) (va_Nw.use rfl (hE.1 _ m_66)) (fun _ h9 => h9) rfl d_J_readRecords_21 ?_
        refine hj_calli (wc := [(j, .inr (2, [.ref dk, .ref rc, .ref ta, .ref pa, .int (nI tl), .int (nI st), .int (nI g), .int (nI h)])), (dk, .inr (0, [.ref a, .int du, .int wr])), (a, .inl (cA, 32768, .inl (hj_B d)))]) (wr := [(rc, .inr (1, [.ref sa, .ref la, .ref ma, .int (nI i), .int (nI (hj_pos d h i)), .int (nI 0)])), (sa, .inl (cS, 1984, .inl fs)), (la, .inl (cL, 1984, .inl fl)), (ma, .inl (cM, 1984, .inl fm))]) [0, 1, 2] [3, 4, 5, 6] hP hD hS hA rfl rfl rfl (by decide) (va_runV (As := [.int (nI (hj_pos d h i))]) (rest := []) ⟨hx, hb, hml, hown, hts⟩ (c_J_lengthOfRecordAt l dC dI j dk rc ta pa tl st g h a cA d du wr (hj_pos d h i) hh hp2 hd H.size) (cwV 1 hts (hj_gV m_458 m_460 s_J_lengthOfRecordAt m_1 m_461) rfl rfl rfl (by decide +kernel) ⟨Nat.le_of_ble_eq_true rfl, Nat.le_of_ble_eq_true rfl⟩) (hj_preV (ci := 2) (q0 := 0) hj_EXok hE hP hD hK hS hA [0, 1, 2] rfl rfl [0] rfl rfl rfl) rfl rfl hl.1 rfl (lv_room (Nat.le_of_ble_eq_true rfl)) d_J_readRecords_24 ⟨Nat.le_of_ble_eq_true rfl, Nat.le_of_ble_eq_true rfl⟩) (fun r_3 u_4 H locs hw hP hD hK1 hS => ?_)
        subst hw
        have hP : va_P (dC, dI) vwCl [(j, .inr (2, [.ref dk, .ref rc, .ref ta, .ref pa, .int (nI tl), .int (nI st), .int (nI g), .int (nI h)])), (dk, .inr (0, [.ref a, .int du, .int wr])), (a, .inl (cA, 32768, .inl (hj_B d))), (rc, .inr (1, [.ref sa, .ref la, .ref ma, .int (nI i), .int (nI (hj_pos d h i)), .int (nI 0)])), (sa, .inl (cS, 1984, .inl fs)), (la, .inl (cL, 1984, .inl fl)), (ma, .inl (cM, 1984, .inl fm))] H := hP.sub [4, 5, 6, 0, 1, 2, 3] rfl
        have hD : va_D A [(j, .inr (2, [.ref dk, .ref rc, .ref ta, .ref pa, .int (nI tl), .int (nI st), .int (nI g), .int (nI h)])), (dk, .inr (0, [.ref a, .int du, .int wr])), (a, .inl (cA, 32768, .inl (hj_B d))), (rc, .inr (1, [.ref sa, .ref la, .ref ma, .int (nI i), .int (nI (hj_pos d h i)), .int (nI 0)])), (sa, .inl (cS, 1984, .inl fs)), (la, .inl (cL, 1984, .inl fl)), (ma, .inl (cM, 1984, .inl fm))] := hD.sub [4, 5, 6, 0, 1, 2, 3] (by decide) rfl
        have hr1 : hj_rl d h (hj_pos d h i) ≤ 1000 := by
          rcases Nat.eq_zero_or_pos (hj_rl d h (hj_pos d h i)) with q | q
          · omega
          · exact (hj_rl_in q).1
        refine lv_istore_n (lv' := [(2, .int (nI (hj_rl d h (hj_pos d h i)))), (0, .ref j), (1, .int (nI i))]) hx hb d_J_readRecords_27 rfl hl (by decide) rfl (fun ls hl => ?_)
        refine lv_iload_n hx hb d_J_readRecords_28 rfl (lv_at hl 0 rfl) ?_
        refine hj_if_ne (tgt := 35) hx hb (by omega) d_J_readRecords_29 (by decide) (fun c_2 => ?_) (fun c_2 => ?_)
        · refine lv_aload_n hx hb d_J_readRecords_35 rfl (lv_at hl 1 rfl) ?_
          refine va_get (D := (dC, dI)) (ci := 2) (v := .ref rc) (C := "HalfJournal") (T := F_J) (N := 8) hx hb hts i_J hown hK hP 0 rfl rfl 1 (by decide) (hts _ m_85) (fun _ h9 => h9) rfl d_J_readRecords_36 ?_
          refine lv_iload_n hx hb d_J_readRecords_39 rfl (lv_at hl 0 rfl) ?_
          refine hj_callv (wc := [(rc, .inr (1, [.ref sa, .ref la, .ref ma, .int (nI i), .int (nI (hj_pos d h i)), .int (nI 0)])), (sa, .inl (cS, 1984, .inl fs)), (la, .inl (cL, 1984, .inl fl)), (ma, .inl (cM, 1984, .inl fm))]) (wr := [(j, .inr (2, [.ref dk, .ref rc, .ref ta, .ref pa, .int (nI tl), .int (nI st), .int (nI g), .int (nI h)])), (dk, .inr (0, [.ref a, .int du, .int wr])), (a, .inl (cA, 32768, .inl (hj_B d)))]) [3, 4, 5, 6] [0, 1, 2] hP hD hS hA rfl rfl rfl (by decide) (va_runVN (As := [.int (nI (hj_rl d h (hj_pos d h i)))]) (rest := []) ⟨hx, hb, hml, hown, hts⟩ (c_R_add l dC dI rc sa la ma i (hj_pos d h i) 0 cS cL cM fs fl fm (hj_rl d h (hj_pos d h i)) (by omega) (by omega) H.size) ⟨va_cnB 1 hts (hj_gC m_477) rfl rfl rfl (hE.1 _ m_474) (hts _ m_3) (by decide +kernel) ⟨Nat.le_of_ble_eq_true rfl, Nat.le_of_ble_eq_true rfl⟩, hts _ m_476, hts _ s_R_add⟩ (hj_preV (ci := 1) (q0 := 3) hj_EXok hE hP hD hK hS hA [3, 4, 5, 6] rfl rfl [1, 2, 3] rfl rfl rfl) rfl rfl hl.1 rfl (lv_room (Nat.le_of_ble_eq_true rfl)) d_J_readRecords_40 ⟨Nat.le_of_ble_eq_true rfl, Nat.le_of_ble_eq_true rfl⟩) (fun u_6 H locs hw hP hD hK1 hS => ?_)
          have hP : va_P (dC, dI) vwCl [(j, .inr (2, [.ref dk, .ref rc, .ref ta, .ref pa, .int (nI tl), .int (nI st), .int (nI g), .int (nI h)])), (dk, .inr (0, [.ref a, .int du, .int wr])), (a, .inl (cA, 32768, .inl (hj_B d))), (rc, .inr (1, [.ref sa, .ref la, .ref ma, .int (nI (i + 1)), .int (nI (hj_pos d h i + hj_sz (hj_rl d h (hj_pos d h i)))), .int (nI 0)])), (sa, .inl (cS, 1984, .inl (va_up fs i (nI (hj_pos d h i))))), (la, .inl (cL, 1984, .inl (va_up fl i (nI (hj_rl d h (hj_pos d h i)))))), (ma, .inl (cM, 1984, .inl (va_up fm i (nI 0))))] H := hP.sub [0, 1, 2, 3, 4, 5, 6] rfl
          have hD : va_D A [(j, .inr (2, [.ref dk, .ref rc, .ref ta, .ref pa, .int (nI tl), .int (nI st), .int (nI g), .int (nI h)])), (dk, .inr (0, [.ref a, .int du, .int wr])), (a, .inl (cA, 32768, .inl (hj_B d))), (rc, .inr (1, [.ref sa, .ref la, .ref ma, .int (nI (i + 1)), .int (nI (hj_pos d h i + hj_sz (hj_rl d h (hj_pos d h i)))), .int (nI 0)])), (sa, .inl (cS, 1984, .inl (va_up fs i (nI (hj_pos d h i))))), (la, .inl (cL, 1984, .inl (va_up fl i (nI (hj_rl d h (hj_pos d h i)))))), (ma, .inl (cM, 1984, .inl (va_up fm i (nI 0))))] := hD.sub [0, 1, 2, 3, 4, 5, 6] (by decide) rfl
          refine lv_iinc (v := nI (i + 1)) (lv' := [(1, .int (nI (i + 1))), (2, .int (nI (hj_rl d h (hj_pos d h i)))), (0, .ref j)]) hx hb d_J_readRecords_43 hl (k := 2) rfl (nI_1 _) (by decide) rfl (fun ls hl => ?_)
          refine lv_goto (tgt := 9) hx hb d_J_readRecords_46 (by decide) ?_
          exact ih_lp (i + 1) (va_up fs i (nI (hj_pos d h i))) (va_up fl i (nI (hj_rl d h (hj_pos d h i)))) (va_up fm i (nI 0)) (fun k hk => by
            rcases Nat.lt_or_ge k i with q | q
            · exact hv k q
            · rw [show k = i by omega]; exact c_2) (fun k hk => by
            rcases Nat.lt_or_ge k i with q | q
            · rw [va_up_ne _ _ (by omega), va_up_ne _ _ (by omega), va_up_ne _ _ (by omega)]; exact hc k q
            · rw [show k = i by omega, va_up_self, va_up_self, va_up_self]; exact ⟨rfl, rfl, rfl⟩) (by omega) _ _ hP hD hS _ (lv_sub hl [2, 0] rfl)
        · refine lv_goto (tgt := 49) hx hb d_J_readRecords_32 (by decide) ?_
          have hN : i = hj_N d h := hj_N_of ⟨hv, c_2⟩
          subst hN
          exact hret (fs, fl, fm) _ _ _ _ d_J_readRecords_49 (hc) hP hK hD hS
  exact lp _ 0 fs fl fm (fun k hk => absurd hk (Nat.not_lt_zero k)) (fun k hk => absurd hk (Nat.not_lt_zero k)) (Nat.lt_succ_self _) _ _ hP hD hS _ (lv_sub hl [1, 0] rfl)
abbrev rm_J_goUp : Room := { frames := 40, cells := 0, slots := 0, locals := 500 }
set_option maxHeartbeats 4000000 in
set_option maxRecDepth 100000 in
theorem c_J_goUp (l : Launch) (dC : Nat → ClassId) (dI : Nat → Nat → Nat) (j dk rc ta pa : Nat) (tl st g h : Nat) (a : Nat) (cA : ClassId) (d : Nat → Nat) (du wr : Int32) (sa la ma : Nat) (n us mm : Nat) (cS cL cM : ClassId) (fs fl fm : Nat → Int32) (g9 h9 : Nat) (hh : h9 < 2) (hd : hj_bs d) : hj_Mv l y_J_goUp b_J_goUp 3 rm_J_goUp hj_EX (dC, dI) vwCl [(cA, .byte), (cS, .int), (cL, .int), (cM, .boolean)] [(j, .inr (2, [.ref dk, .ref rc, .ref ta, .ref pa, .int (nI tl), .int (nI st), .int (nI g), .int (nI h)])), (dk, .inr (0, [.ref a, .int du, .int wr])), (a, .inl (cA, 32768, .inl (hj_B d))), (rc, .inr (1, [.ref sa, .ref la, .ref ma, .int (nI n), .int (nI us), .int (nI mm)])), (sa, .inl (cS, 1984, .inl fs)), (la, .inl (cL, 1984, .inl fl)), (ma, .inl (cM, 1984, .inl fm))] [.ref j, .int (nI g9), .int (nI h9)] (fun u => ∀ i, i < hj_N d h9 → u.1 i = nI (hj_pos d h9 i) ∧ u.2.1 i = nI (hj_rl d h9 (hj_pos d h9 i)) ∧ u.2.2 i = nI 0) (fun u : (Nat → Int32) × (Nat → Int32) × (Nat → Int32) => [(j, .inr (2, [.ref dk, .ref rc, .ref ta, .ref pa, .int (nI tl), .int (nI 2), .int (nI g9), .int (nI h9)])), (dk, .inr (0, [.ref a, .int du, .int wr])), (a, .inl (cA, 32768, .inl (hj_B d))), (rc, .inr (1, [.ref sa, .ref la, .ref ma, .int (nI (hj_N d h9)), .int (nI (hj_pos d h9 (hj_N d h9))), .int (nI 0)])), (sa, .inl (cS, 1984, .inl u.1)), (la, .inl (cL, 1984, .inl u.2.1)), (ma, .inl (cM, 1984, .inl u.2.2))]) (fun _ => [(cA, .byte), (cS, .int), (cL, .int), (cM, .boolean)]) 0 0 := by
  refine hj_bodyV (by decide +kernel) (Nat.le_of_ble_eq_true rfl) ?_
  intro p e s m args below meth c A Q ls hx hb hts hown hml hin hA hP hK hD hE hl hret
  have hS : va_S A s.heap s.heap [] := va_S.rf
  have hown : s.vm.findClass "HalfJournal" = some m.cls := hown
  have hl : lv_has ls 3 [(0, .ref j), (1, .int (nI g9)), (2, .int (nI h9))] := hl
  have hP : va_P (dC, dI) vwCl [(j, .inr (2, [.ref dk, .ref rc, .ref ta, .ref pa, .int (nI tl), .int (nI st), .int (nI g), .int (nI h)])), (dk, .inr (0, [.ref a, .int du, .int wr])), (a, .inl (cA, 32768, .inl (hj_B d))), (rc, .inr (1, [.ref sa, .ref la, .ref ma, .int (nI n), .int (nI us), .int (nI mm)])), (sa, .inl (cS, 1984, .inl fs)), (la, .inl (cL, 1984, .inl fl)), (ma, .inl (cM, 1984, .inl fm))] s.heap := hP
  have hD : va_D A [(j, .inr (2, [.ref dk, .ref rc, .ref ta, .ref pa, .int (nI tl), .int (nI st), .int (nI g), .int (nI h)])), (dk, .inr (0, [.ref a, .int du, .int wr])), (a, .inl (cA, 32768, .inl (hj_B d))), (rc, .inr (1, [.ref sa, .ref la, .ref ma, .int (nI n), .int (nI us), .int (nI mm)])), (sa, .inl (cS, 1984, .inl fs)), (la, .inl (cL, 1984, .inl fl)), (ma, .inl (cM, 1984, .inl fm))] := hD
  refine lv_aload_n hx hb d_J_goUp_0 rfl (lv_at hl 0 rfl) ?_
  refine lv_iconst (v := nI 2) hx hb d_J_goUp_1 (by decide) ?_
  refine va_put (D := (dC, dI)) (ci := 2) (v := .int (nI 2)) (ty := (.int)) (C := "HalfJournal") (T := F_J) (N := 8) hx hb hts i_J t_J t_J_ok n_J hown hK hP hD hS 0 rfl rfl 5 (by decide) (hts _ m_89) (fun _ h9 => h9) rfl (by decide +kernel) rfl rfl (Nat.le_of_ble_eq_true rfl) d_J_goUp_2 (fun H locs hP hD hS => ?_)
  have hP : va_P (dC, dI) vwCl [(j, .inr (2, [.ref dk, .ref rc, .ref ta, .ref pa, .int (nI tl), .int (nI 2), .int (nI g), .int (nI h)])), (dk, .inr (0, [.ref a, .int du, .int wr])), (a, .inl (cA, 32768, .inl (hj_B d))), (rc, .inr (1, [.ref sa, .ref la, .ref ma, .int (nI n), .int (nI us), .int (nI mm)])), (sa, .inl (cS, 1984, .inl fs)), (la, .inl (cL, 1984, .inl fl)), (ma, .inl (cM, 1984, .inl fm))] H := hP
  have hD : va_D A [(j, .inr (2, [.ref dk, .ref rc, .ref ta, .ref pa, .int (nI tl), .int (nI 2), .int (nI g), .int (nI h)])), (dk, .inr (0, [.ref a, .int du, .int wr])), (a, .inl (cA, 32768, .inl (hj_B d))), (rc, .inr (1, [.ref sa, .ref la, .ref ma, .int (nI n), .int (nI us), .int (nI mm)])), (sa, .inl (cS, 1984, .inl fs)), (la, .inl (cL, 1984, .inl fl)), (ma, .inl (cM, 1984, .inl fm))] := hD
  refine lv_aload_n hx hb d_J_goUp_5 rfl (lv_at hl 0 rfl) ?_
  refine lv_iload_n hx hb d_J_goUp_6 rfl (lv_at hl 1 rfl) ?_
  refine va_put (D := (dC, dI)) (ci := 2) (v := .int (nI g9)) (ty := (.int)) (C := "HalfJournal") (T := F_J) (N := 8) hx hb hts i_J t_J t_J_ok n_J hown hK hP hD hS 0 rfl rfl 6 (by decide) (hts _ m_90) (fun _ h9 => h9) rfl (by decide +kernel) rfl rfl (Nat.le_of_ble_eq_true rfl) d_J_goUp_7 (fun H locs hP hD hS => ?_)
  have hP : va_P (dC, dI) vwCl [(j, .inr (2, [.ref dk, .ref rc, .ref ta, .ref pa, .int (nI tl), .int (nI 2), .int (nI g9), .int (nI h)])), (dk, .inr (0, [.ref a, .int du, .int wr])), (a, .inl (cA, 32768, .inl (hj_B d))), (rc, .inr (1, [.ref sa, .ref la, .ref ma, .int (nI n), .int (nI us), .int (nI mm)])), (sa, .inl (cS, 1984, .inl fs)), (la, .inl (cL, 1984, .inl fl)), (ma, .inl (cM, 1984, .inl fm))] H := hP
  have hD : va_D A [(j, .inr (2, [.ref dk, .ref rc, .ref ta, .ref pa, .int (nI tl), .int (nI 2), .int (nI g9), .int (nI h)])), (dk, .inr (0, [.ref a, .int du, .int wr])), (a, .inl (cA, 32768, .inl (hj_B d))), (rc, .inr (1, [.ref sa, .ref la, .ref ma, .int (nI n), .int (nI us), .int (nI mm)])), (sa, .inl (cS, 1984, .inl fs)), (la, .inl (cL, 1984, .inl fl)), (ma, .inl (cM, 1984, .inl fm))] := hD
  refine lv_aload_n hx hb d_J_goUp_10 rfl (lv_at hl 0 rfl) ?_
  refine lv_iload_n hx hb d_J_goUp_11 rfl (lv_at hl 2 rfl) ?_
  refine va_put (D := (dC, dI)) (ci := 2) (v := .int (nI h9)) (ty := (.int)) (C := "HalfJournal") (T := F_J) (N := 8) hx hb hts i_J t_J t_J_ok n_J hown hK hP hD hS 0 rfl rfl 7 (by decide) (hts _ m_91) (fun _ h9 => h9) rfl (by decide +kernel) rfl rfl (Nat.le_of_ble_eq_true rfl) d_J_goUp_12 (fun H locs hP hD hS => ?_)
  have hP : va_P (dC, dI) vwCl [(j, .inr (2, [.ref dk, .ref rc, .ref ta, .ref pa, .int (nI tl), .int (nI 2), .int (nI g9), .int (nI h9)])), (dk, .inr (0, [.ref a, .int du, .int wr])), (a, .inl (cA, 32768, .inl (hj_B d))), (rc, .inr (1, [.ref sa, .ref la, .ref ma, .int (nI n), .int (nI us), .int (nI mm)])), (sa, .inl (cS, 1984, .inl fs)), (la, .inl (cL, 1984, .inl fl)), (ma, .inl (cM, 1984, .inl fm))] H := hP
  have hD : va_D A [(j, .inr (2, [.ref dk, .ref rc, .ref ta, .ref pa, .int (nI tl), .int (nI 2), .int (nI g9), .int (nI h9)])), (dk, .inr (0, [.ref a, .int du, .int wr])), (a, .inl (cA, 32768, .inl (hj_B d))), (rc, .inr (1, [.ref sa, .ref la, .ref ma, .int (nI n), .int (nI us), .int (nI mm)])), (sa, .inl (cS, 1984, .inl fs)), (la, .inl (cL, 1984, .inl fl)), (ma, .inl (cM, 1984, .inl fm))] := hD
  refine lv_aload_n hx hb d_J_goUp_15 rfl (lv_at hl 0 rfl) ?_
  refine hj_callv (wc := [(j, .inr (2, [.ref dk, .ref rc, .ref ta, .ref pa, .int (nI tl), .int (nI 2), .int (nI g9), .int (nI h9)])), (dk, .inr (0, [.ref a, .int du, .int wr])), (a, .inl (cA, 32768, .inl (hj_B d))), (rc, .inr (1, [.ref sa, .ref la, .ref ma, .int (nI n), .int (nI us), .int (nI mm)])), (sa, .inl (cS, 1984, .inl fs)), (la, .inl (cL, 1984, .inl fl)), (ma, .inl (cM, 1984, .inl fm))]) (wr := []) [0, 1, 2, 3, 4, 5, 6] [] hP hD hS hA rfl rfl rfl (by decide) (va_runV (As := []) (rest := []) ⟨hx, hb, hml, hown, hts⟩ (c_J_readRecords l dC dI j dk rc ta pa tl 2 g9 h9 a cA d du wr sa la ma n us mm cS cL cM fs fl fm hh hd H.size) (cwV 0 hts (hj_gV m_450 m_452 s_J_readRecords m_1 m_453) rfl rfl rfl (by decide +kernel) ⟨Nat.le_of_ble_eq_true rfl, Nat.le_of_ble_eq_true rfl⟩) (hj_preV (ci := 2) (q0 := 0) hj_EXok hE hP hD hK hS hA [0, 1, 2, 3, 4, 5, 6] rfl rfl [0, 1, 2, 3] rfl rfl rfl) rfl rfl hl.1 rfl (lv_room (Nat.le_of_ble_eq_true rfl)) d_J_goUp_16 ⟨Nat.le_of_ble_eq_true rfl, Nat.le_of_ble_eq_true rfl⟩) (fun u_2 H locs hw hP hD hK1 hS => ?_)
  obtain ⟨f1, f2, f3⟩ := u_2
  have hP : va_P (dC, dI) vwCl [(j, .inr (2, [.ref dk, .ref rc, .ref ta, .ref pa, .int (nI tl), .int (nI 2), .int (nI g9), .int (nI h9)])), (dk, .inr (0, [.ref a, .int du, .int wr])), (a, .inl (cA, 32768, .inl (hj_B d))), (rc, .inr (1, [.ref sa, .ref la, .ref ma, .int (nI (hj_N d h9)), .int (nI (hj_pos d h9 (hj_N d h9))), .int (nI 0)])), (sa, .inl (cS, 1984, .inl f1)), (la, .inl (cL, 1984, .inl f2)), (ma, .inl (cM, 1984, .inl f3))] H := hP.sub [0, 1, 2, 3, 4, 5, 6] rfl
  have hD : va_D A [(j, .inr (2, [.ref dk, .ref rc, .ref ta, .ref pa, .int (nI tl), .int (nI 2), .int (nI g9), .int (nI h9)])), (dk, .inr (0, [.ref a, .int du, .int wr])), (a, .inl (cA, 32768, .inl (hj_B d))), (rc, .inr (1, [.ref sa, .ref la, .ref ma, .int (nI (hj_N d h9)), .int (nI (hj_pos d h9 (hj_N d h9))), .int (nI 0)])), (sa, .inl (cS, 1984, .inl f1)), (la, .inl (cL, 1984, .inl f2)), (ma, .inl (cM, 1984, .inl f3))] := hD.sub [0, 1, 2, 3, 4, 5, 6] (by decide) rfl
  exact hret (f1, f2, f3) _ _ _ _ d_J_goUp_19 (hw) hP hK hD hS
abbrev rm_J_generationOfHead : Room := { frames := 24, cells := 0, slots := 0, locals := 300 }
set_option maxHeartbeats 4000000 in
set_option maxRecDepth 100000 in
theorem c_J_generationOfHead (l : Launch) (dC : Nat → ClassId) (dI : Nat → Nat → Nat) (j dk rc ta pa : Nat) (tl st g h : Nat) (a : Nat) (cA : ClassId) (d : Nat → Nat) (du wr : Int32) (b : Nat) (hb9 : b < 2) (hd : hj_bs d) : hj_Mi l y_J_generationOfHead b_J_generationOfHead 4 .int rm_J_generationOfHead hj_EX (dC, dI) vwCl [(cA, .byte)] [(j, .inr (2, [.ref dk, .ref rc, .ref ta, .ref pa, .int (nI tl), .int (nI st), .int (nI g), .int (nI h)])), (dk, .inr (0, [.ref a, .int du, .int wr])), (a, .inl (cA, 32768, .inl (hj_B d)))] [.ref j, .int (nI b)] (fun r _ => r = nI (hj_hg d b)) (fun _ : Unit => [(j, .inr (2, [.ref dk, .ref rc, .ref ta, .ref pa, .int (nI tl), .int (nI st), .int (nI g), .int (nI h)])), (dk, .inr (0, [.ref a, .int du, .int wr])), (a, .inl (cA, 32768, .inl (hj_B d)))]) (fun _ => [(cA, .byte)]) 0 0 := by
  refine hj_bodyI (by decide +kernel) (Nat.le_of_ble_eq_true rfl) ?_
  intro p e s m args below meth c A Q ls hx hb hts hown hml hA hP hK hD hE hl hret
  have hS : va_S A s.heap s.heap [] := va_S.rf
  have hown : s.vm.findClass "HalfJournal" = some m.cls := hown
  have hl : lv_has ls 4 [(0, .ref j), (1, .int (nI b))] := hl
  have hP : va_P (dC, dI) vwCl [(j, .inr (2, [.ref dk, .ref rc, .ref ta, .ref pa, .int (nI tl), .int (nI st), .int (nI g), .int (nI h)])), (dk, .inr (0, [.ref a, .int du, .int wr])), (a, .inl (cA, 32768, .inl (hj_B d)))] s.heap := hP
  have hD : va_D A [(j, .inr (2, [.ref dk, .ref rc, .ref ta, .ref pa, .int (nI tl), .int (nI st), .int (nI g), .int (nI h)])), (dk, .inr (0, [.ref a, .int du, .int wr])), (a, .inl (cA, 32768, .inl (hj_B d)))] := hD
  refine lv_iload_n hx hb d_J_generationOfHead_0 rfl (lv_at hl 1 rfl) ?_
  refine lv_sipush (v := nI 512) hx hb d_J_generationOfHead_1 (by decide) ?_
  refine hj_imul hx hb d_J_generationOfHead_4 ?_
  refine hj_topn (b := 512 * b) (Nat.mul_comm _ _) ?_
  refine lv_istore_n (lv' := [(2, .int (nI (512 * b))), (0, .ref j), (1, .int (nI b))]) hx hb d_J_generationOfHead_5 rfl hl (by decide) rfl (fun ls hl => ?_)
  refine lv_aload_n hx hb d_J_generationOfHead_6 rfl (lv_at hl 1 rfl) ?_
  refine va_get (D := (dC, dI)) (ci := 2) (v := .ref dk) (C := "HalfJournal") (T := F_J) (N := 8) hx hb hts i_J hown hK hP 0 rfl rfl 0 (by decide) (hts _ m_84) (fun _ h9 => h9) rfl d_J_generationOfHead_7 ?_
  refine va_getN (D := (dC, dI)) (ci := 0) (v := .ref a) (C := "HalfJournal$Disk") (T := F_D) (N := 3) hx hb hts i_D hown hK hP 1 rfl rfl 0 (by decide) (va_Nw.use rfl (hE.1 _ m_38)) (fun _ h9 => h9) rfl d_J_generationOfHead_10 ?_
  refine lv_iload_n hx hb d_J_generationOfHead_13 rfl (lv_at hl 0 rfl) ?_
  refine lv_iconst (v := nI 4) hx hb d_J_generationOfHead_14 (by decide) ?_
  refine hj_calli (wc := [(a, .inl (cA, 32768, .inl (hj_B d)))]) (wr := [(j, .inr (2, [.ref dk, .ref rc, .ref ta, .ref pa, .int (nI tl), .int (nI st), .int (nI g), .int (nI h)])), (dk, .inr (0, [.ref a, .int du, .int wr]))]) [2] [0, 1] hP hD hS hA rfl rfl rfl (by decide) (va_runS (As := [.ref a, .int (nI (512 * b)), .int (nI 4)]) (rest := []) ⟨hx, hb, hml, hown, hts⟩ (c_J_number l dC dI a cA 32768 d (512 * b) 4 (by omega) (by omega) (by omega) hd s.heap.size) (cwS 3 hts (hj_gS m_468 m_469 m_1 m_470) rfl rfl rfl (by decide +kernel) ⟨Nat.le_of_ble_eq_true rfl, Nat.le_of_ble_eq_true rfl⟩) (hj_preS hj_EXok hE hP hD hK hS hA [2] rfl rfl [0] rfl) rfl rfl hl.1 rfl (lv_room (Nat.le_of_ble_eq_true rfl)) d_J_generationOfHead_15 ⟨Nat.le_of_ble_eq_true rfl, Nat.le_of_ble_eq_true rfl⟩) (fun r_1 u_2 H locs hw hP hD hK1 hS => ?_)
  subst hw
  have hP : va_P (dC, dI) vwCl [(j, .inr (2, [.ref dk, .ref rc, .ref ta, .ref pa, .int (nI tl), .int (nI st), .int (nI g), .int (nI h)])), (dk, .inr (0, [.ref a, .int du, .int wr])), (a, .inl (cA, 32768, .inl (hj_B d)))] H := hP.sub [0, 1, 2] rfl
  have hD : va_D A [(j, .inr (2, [.ref dk, .ref rc, .ref ta, .ref pa, .int (nI tl), .int (nI st), .int (nI g), .int (nI h)])), (dk, .inr (0, [.ref a, .int du, .int wr])), (a, .inl (cA, 32768, .inl (hj_B d)))] := hD.sub [0, 1, 2] (by decide) rfl
  refine hj_topn (b := hj_four d (512 * b)) (hj_num4 _ _) ?_
  refine lv_istore_n (lv' := [(3, .int (nI (hj_four d (512 * b)))), (2, .int (nI (512 * b))), (0, .ref j), (1, .int (nI b))]) hx hb d_J_generationOfHead_18 rfl hl (by decide) rfl (fun ls hl => ?_)
  refine lv_iload_n hx hb d_J_generationOfHead_19 rfl (lv_at hl 0 rfl) ?_
  refine lv_iconst (v := nI 0) hx hb d_J_generationOfHead_20 (by decide) ?_
  refine hj_calli (wc := []) (wr := [(j, .inr (2, [.ref dk, .ref rc, .ref ta, .ref pa, .int (nI tl), .int (nI st), .int (nI g), .int (nI h)])), (dk, .inr (0, [.ref a, .int du, .int wr])), (a, .inl (cA, 32768, .inl (hj_B d)))]) [] [0, 1, 2] hP hD hS hA rfl rfl rfl (by decide) (va_runS (As := [.int (nI 0)]) (rest := [.int (nI (hj_four d (512 * b)))]) ⟨hx, hb, hml, hown, hts⟩ (c_J_headBegin l dC dI 0 (by omega) H.size) (cwS 1 hts (hj_gS m_435 m_436 m_1 m_437) rfl rfl rfl (by decide +kernel) ⟨Nat.le_of_ble_eq_true rfl, Nat.le_of_ble_eq_true rfl⟩) (hj_preS hj_EXok hE hP hD hK hS hA [] rfl rfl [] rfl) rfl rfl hl.1 rfl (lv_room (Nat.le_of_ble_eq_true rfl)) d_J_generationOfHead_21 ⟨Nat.le_of_ble_eq_true rfl, Nat.le_of_ble_eq_true rfl⟩) (fun r_3 u_4 H locs hw hP hD hK1 hS => ?_)
  subst hw
  have hP : va_P (dC, dI) vwCl [(j, .inr (2, [.ref dk, .ref rc, .ref ta, .ref pa, .int (nI tl), .int (nI st), .int (nI g), .int (nI h)])), (dk, .inr (0, [.ref a, .int du, .int wr])), (a, .inl (cA, 32768, .inl (hj_B d)))] H := hP.sub [0, 1, 2] rfl
  have hD : va_D A [(j, .inr (2, [.ref dk, .ref rc, .ref ta, .ref pa, .int (nI tl), .int (nI st), .int (nI g), .int (nI h)])), (dk, .inr (0, [.ref a, .int du, .int wr])), (a, .inl (cA, 32768, .inl (hj_B d)))] := hD.sub [0, 1, 2] (by decide) rfl
  refine hj_icmp_eq (tgt := 37) hx hb (by first | exact hj_four_lt hd _ | exact hj_chk_lt hd _ _ | omega) (by first | exact hj_four_lt hd _ | exact hj_chk_lt hd _ _ | omega) d_J_generationOfHead_24 (by decide) (fun c_1 => ?_) (fun c_1 => ?_)
  · refine lv_aload_n hx hb d_J_generationOfHead_37 rfl (lv_at hl 2 rfl) ?_
    refine va_get (D := (dC, dI)) (ci := 2) (v := .ref dk) (C := "HalfJournal") (T := F_J) (N := 8) hx hb hts i_J hown hK hP 0 rfl rfl 0 (by decide) (hts _ m_84) (fun _ h9 => h9) rfl d_J_generationOfHead_38 ?_
    refine va_getN (D := (dC, dI)) (ci := 0) (v := .ref a) (C := "HalfJournal$Disk") (T := F_D) (N := 3) hx hb hts i_D hown hK hP 1 rfl rfl 0 (by decide) (va_Nw.use rfl (hE.1 _ m_38)) (fun _ h9 => h9) rfl d_J_generationOfHead_41 ?_
    refine lv_iload_n hx hb d_J_generationOfHead_44 rfl (lv_at hl 1 rfl) ?_
    refine lv_bipush (v := nI 8) hx hb d_J_generationOfHead_45 (by decide) ?_
    refine hj_iadd hx hb d_J_generationOfHead_47 ?_
    refine lv_iconst (v := nI 4) hx hb d_J_generationOfHead_48 (by decide) ?_
    refine hj_calli (wc := [(a, .inl (cA, 32768, .inl (hj_B d)))]) (wr := [(j, .inr (2, [.ref dk, .ref rc, .ref ta, .ref pa, .int (nI tl), .int (nI st), .int (nI g), .int (nI h)])), (dk, .inr (0, [.ref a, .int du, .int wr]))]) [2] [0, 1] hP hD hS hA rfl rfl rfl (by decide) (va_runS (As := [.ref a, .int (nI ((512 * b) + 8)), .int (nI 4)]) (rest := []) ⟨hx, hb, hml, hown, hts⟩ (c_J_number l dC dI a cA 32768 d (512 * b + 8) 4 (by omega) (by omega) (by omega) hd H.size) (cwS 3 hts (hj_gS m_468 m_469 m_1 m_470) rfl rfl rfl (by decide +kernel) ⟨Nat.le_of_ble_eq_true rfl, Nat.le_of_ble_eq_true rfl⟩) (hj_preS hj_EXok hE hP hD hK hS hA [2] rfl rfl [0] rfl) rfl rfl hl.1 rfl (lv_room (Nat.le_of_ble_eq_true rfl)) d_J_generationOfHead_49 ⟨Nat.le_of_ble_eq_true rfl, Nat.le_of_ble_eq_true rfl⟩) (fun r_5 u_6 H locs hw hP hD hK1 hS => ?_)
    subst hw
    have hP : va_P (dC, dI) vwCl [(j, .inr (2, [.ref dk, .ref rc, .ref ta, .ref pa, .int (nI tl), .int (nI st), .int (nI g), .int (nI h)])), (dk, .inr (0, [.ref a, .int du, .int wr])), (a, .inl (cA, 32768, .inl (hj_B d)))] H := hP.sub [0, 1, 2] rfl
    have hD : va_D A [(j, .inr (2, [.ref dk, .ref rc, .ref ta, .ref pa, .int (nI tl), .int (nI st), .int (nI g), .int (nI h)])), (dk, .inr (0, [.ref a, .int du, .int wr])), (a, .inl (cA, 32768, .inl (hj_B d)))] := hD.sub [0, 1, 2] (by decide) rfl
    refine hj_topn (b := hj_four d (512 * b + 8)) (hj_num4 _ _) ?_
    refine lv_aload_n hx hb d_J_generationOfHead_52 rfl (lv_at hl 2 rfl) ?_
    refine va_get (D := (dC, dI)) (ci := 2) (v := .ref dk) (C := "HalfJournal") (T := F_J) (N := 8) hx hb hts i_J hown hK hP 0 rfl rfl 0 (by decide) (hts _ m_84) (fun _ h9 => h9) rfl d_J_generationOfHead_53 ?_
    refine va_getN (D := (dC, dI)) (ci := 0) (v := .ref a) (C := "HalfJournal$Disk") (T := F_D) (N := 3) hx hb hts i_D hown hK hP 1 rfl rfl 0 (by decide) (va_Nw.use rfl (hE.1 _ m_38)) (fun _ h9 => h9) rfl d_J_generationOfHead_56 ?_
    refine lv_iload_n hx hb d_J_generationOfHead_59 rfl (lv_at hl 1 rfl) ?_
    refine lv_bipush (v := nI 8) hx hb d_J_generationOfHead_60 (by decide) ?_
    refine hj_calli (wc := [(a, .inl (cA, 32768, .inl (hj_B d)))]) (wr := [(j, .inr (2, [.ref dk, .ref rc, .ref ta, .ref pa, .int (nI tl), .int (nI st), .int (nI g), .int (nI h)])), (dk, .inr (0, [.ref a, .int du, .int wr]))]) [2] [0, 1] hP hD hS hA rfl rfl rfl (by decide) (va_runS (As := [.ref a, .int (nI (512 * b)), .int (nI 8)]) (rest := [.int (nI (hj_four d (512 * b + 8)))]) ⟨hx, hb, hml, hown, hts⟩ (c_J_checkOf l dC dI a cA 32768 d (512 * b) 8 (by omega) (by omega) hd H.size) (cwS 3 hts (hj_gS m_441 m_442 m_1 m_443) rfl rfl rfl (by decide +kernel) ⟨Nat.le_of_ble_eq_true rfl, Nat.le_of_ble_eq_true rfl⟩) (hj_preS hj_EXok hE hP hD hK hS hA [2] rfl rfl [0] rfl) rfl rfl hl.1 rfl (lv_room (Nat.le_of_ble_eq_true rfl)) d_J_generationOfHead_62 ⟨Nat.le_of_ble_eq_true rfl, Nat.le_of_ble_eq_true rfl⟩) (fun r_7 u_8 H locs hw hP hD hK1 hS => ?_)
    subst hw
    have hP : va_P (dC, dI) vwCl [(j, .inr (2, [.ref dk, .ref rc, .ref ta, .ref pa, .int (nI tl), .int (nI st), .int (nI g), .int (nI h)])), (dk, .inr (0, [.ref a, .int du, .int wr])), (a, .inl (cA, 32768, .inl (hj_B d)))] H := hP.sub [0, 1, 2] rfl
    have hD : va_D A [(j, .inr (2, [.ref dk, .ref rc, .ref ta, .ref pa, .int (nI tl), .int (nI st), .int (nI g), .int (nI h)])), (dk, .inr (0, [.ref a, .int du, .int wr])), (a, .inl (cA, 32768, .inl (hj_B d)))] := hD.sub [0, 1, 2] (by decide) rfl
    refine hj_icmp_eq (tgt := 70) hx hb (by first | exact hj_four_lt hd _ | exact hj_chk_lt hd _ _ | omega) (by first | exact hj_four_lt hd _ | exact hj_chk_lt hd _ _ | omega) d_J_generationOfHead_65 (by decide) (fun c_3 => ?_) (fun c_3 => ?_)
    · refine lv_aload_n hx hb d_J_generationOfHead_70 rfl (lv_at hl 2 rfl) ?_
      refine va_get (D := (dC, dI)) (ci := 2) (v := .ref dk) (C := "HalfJournal") (T := F_J) (N := 8) hx hb hts i_J hown hK hP 0 rfl rfl 0 (by decide) (hts _ m_84) (fun _ h9 => h9) rfl d_J_generationOfHead_71 ?_
      refine va_getN (D := (dC, dI)) (ci := 0) (v := .ref a) (C := "HalfJournal$Disk") (T := F_D) (N := 3) hx hb hts i_D hown hK hP 1 rfl rfl 0 (by decide) (va_Nw.use rfl (hE.1 _ m_38)) (fun _ h9 => h9) rfl d_J_generationOfHead_74 ?_
      refine lv_iload_n hx hb d_J_generationOfHead_77 rfl (lv_at hl 1 rfl) ?_
      refine lv_iconst (v := nI 4) hx hb d_J_generationOfHead_78 (by decide) ?_
      refine hj_iadd hx hb d_J_generationOfHead_79 ?_
      refine lv_iconst (v := nI 4) hx hb d_J_generationOfHead_80 (by decide) ?_
      refine hj_calli (wc := [(a, .inl (cA, 32768, .inl (hj_B d)))]) (wr := [(j, .inr (2, [.ref dk, .ref rc, .ref ta, .ref pa, .int (nI tl), .int (nI st), .int (nI g), .int (nI h)])), (dk, .inr (0, [.ref a, .int du, .int wr]))]) [2] [0, 1] hP hD hS hA rfl rfl rfl (by decide) (va_runS (As := [.ref a, .int (nI ((512 * b) + 4)), .int (nI 4)]) (rest := []) ⟨hx, hb, hml, hown, hts⟩ (c_J_number l dC dI a cA 32768 d (512 * b + 4) 4 (by omega) (by omega) (by omega) hd H.size) (cwS 3 hts (hj_gS m_468 m_469 m_1 m_470) rfl rfl rfl (by decide +kernel) ⟨Nat.le_of_ble_eq_true rfl, Nat.le_of_ble_eq_true rfl⟩) (hj_preS hj_EXok hE hP hD hK hS hA [2] rfl rfl [0] rfl) rfl rfl hl.1 rfl (lv_room (Nat.le_of_ble_eq_true rfl)) d_J_generationOfHead_81 ⟨Nat.le_of_ble_eq_true rfl, Nat.le_of_ble_eq_true rfl⟩) (fun r_9 u_10 H locs hw hP hD hK1 hS => ?_)
      subst hw
      have hP : va_P (dC, dI) vwCl [(j, .inr (2, [.ref dk, .ref rc, .ref ta, .ref pa, .int (nI tl), .int (nI st), .int (nI g), .int (nI h)])), (dk, .inr (0, [.ref a, .int du, .int wr])), (a, .inl (cA, 32768, .inl (hj_B d)))] H := hP.sub [0, 1, 2] rfl
      have hD : va_D A [(j, .inr (2, [.ref dk, .ref rc, .ref ta, .ref pa, .int (nI tl), .int (nI st), .int (nI g), .int (nI h)])), (dk, .inr (0, [.ref a, .int du, .int wr])), (a, .inl (cA, 32768, .inl (hj_B d)))] := hD.sub [0, 1, 2] (by decide) rfl
      refine hj_topn (b := hj_four d (512 * b + 4)) (hj_num4 _ _) ?_
      refine lv_iconst (v := nI 0) hx hb d_J_generationOfHead_84 (by decide) ?_
      refine va_mmax hx hb (hml.trans hl.1.symm) hown (hts _ m_520) (hts _ m_222) (hts _ m_15) (hts _ m_223) (Nat.le_of_ble_eq_true rfl) (Nat.le_of_ble_eq_true rfl) (Nat.le_of_ble_eq_true rfl) (Nat.le_of_ble_eq_true rfl) d_J_generationOfHead_85 ?_
      refine hj_topv (y := nI (hj_hg d b)) (by rw [hj_max0 (hj_four_lt hd _), hj_hg_of hd (Or.inl c_1) c_3]) ?_
      exact hret (nI (hj_hg d b)) () _ _ _ _ d_J_generationOfHead_88 rfl (rfl) hP hK hD hS
    · refine lv_iconst (v := nI 0) hx hb d_J_generationOfHead_68 (by decide) ?_
      exact hret (nI 0) () _ _ _ _ d_J_generationOfHead_69 rfl (by rw [hj_hg_no (fun r => c_3 r.2.2.2.2.2.2)]) hP hK hD hS
  · refine lv_iload_n hx hb d_J_generationOfHead_27 rfl (lv_at hl 0 rfl) ?_
    refine lv_iconst (v := nI 1) hx hb d_J_generationOfHead_28 (by decide) ?_
    refine hj_calli (wc := []) (wr := [(j, .inr (2, [.ref dk, .ref rc, .ref ta, .ref pa, .int (nI tl), .int (nI st), .int (nI g), .int (nI h)])), (dk, .inr (0, [.ref a, .int du, .int wr])), (a, .inl (cA, 32768, .inl (hj_B d)))]) [] [0, 1, 2] hP hD hS hA rfl rfl rfl (by decide) (va_runS (As := [.int (nI 1)]) (rest := [.int (nI (hj_four d (512 * b)))]) ⟨hx, hb, hml, hown, hts⟩ (c_J_headBegin l dC dI 1 (by omega) H.size) (cwS 1 hts (hj_gS m_435 m_436 m_1 m_437) rfl rfl rfl (by decide +kernel) ⟨Nat.le_of_ble_eq_true rfl, Nat.le_of_ble_eq_true rfl⟩) (hj_preS hj_EXok hE hP hD hK hS hA [] rfl rfl [] rfl) rfl rfl hl.1 rfl (lv_room (Nat.le_of_ble_eq_true rfl)) d_J_generationOfHead_29 ⟨Nat.le_of_ble_eq_true rfl, Nat.le_of_ble_eq_true rfl⟩) (fun r_11 u_12 H locs hw hP hD hK1 hS => ?_)
    subst hw
    have hP : va_P (dC, dI) vwCl [(j, .inr (2, [.ref dk, .ref rc, .ref ta, .ref pa, .int (nI tl), .int (nI st), .int (nI g), .int (nI h)])), (dk, .inr (0, [.ref a, .int du, .int wr])), (a, .inl (cA, 32768, .inl (hj_B d)))] H := hP.sub [0, 1, 2] rfl
    have hD : va_D A [(j, .inr (2, [.ref dk, .ref rc, .ref ta, .ref pa, .int (nI tl), .int (nI st), .int (nI g), .int (nI h)])), (dk, .inr (0, [.ref a, .int du, .int wr])), (a, .inl (cA, 32768, .inl (hj_B d)))] := hD.sub [0, 1, 2] (by decide) rfl
    refine hj_icmp_eq (tgt := 37) hx hb (by first | exact hj_four_lt hd _ | exact hj_chk_lt hd _ _ | omega) (by first | exact hj_four_lt hd _ | exact hj_chk_lt hd _ _ | omega) d_J_generationOfHead_32 (by decide) (fun c_2 => ?_) (fun c_2 => ?_)
    · refine lv_aload_n hx hb d_J_generationOfHead_37 rfl (lv_at hl 2 rfl) ?_
      refine va_get (D := (dC, dI)) (ci := 2) (v := .ref dk) (C := "HalfJournal") (T := F_J) (N := 8) hx hb hts i_J hown hK hP 0 rfl rfl 0 (by decide) (hts _ m_84) (fun _ h9 => h9) rfl d_J_generationOfHead_38 ?_
      refine va_getN (D := (dC, dI)) (ci := 0) (v := .ref a) (C := "HalfJournal$Disk") (T := F_D) (N := 3) hx hb hts i_D hown hK hP 1 rfl rfl 0 (by decide) (va_Nw.use rfl (hE.1 _ m_38)) (fun _ h9 => h9) rfl d_J_generationOfHead_41 ?_
      refine lv_iload_n hx hb d_J_generationOfHead_44 rfl (lv_at hl 1 rfl) ?_
      refine lv_bipush (v := nI 8) hx hb d_J_generationOfHead_45 (by decide) ?_
      refine hj_iadd hx hb d_J_generationOfHead_47 ?_
      refine lv_iconst (v := nI 4) hx hb d_J_generationOfHead_48 (by decide) ?_
      refine hj_calli (wc := [(a, .inl (cA, 32768, .inl (hj_B d)))]) (wr := [(j, .inr (2, [.ref dk, .ref rc, .ref ta, .ref pa, .int (nI tl), .int (nI st), .int (nI g), .int (nI h)])), (dk, .inr (0, [.ref a, .int du, .int wr]))]) [2] [0, 1] hP hD hS hA rfl rfl rfl (by decide) (va_runS (As := [.ref a, .int (nI ((512 * b) + 8)), .int (nI 4)]) (rest := []) ⟨hx, hb, hml, hown, hts⟩ (c_J_number l dC dI a cA 32768 d (512 * b + 8) 4 (by omega) (by omega) (by omega) hd H.size) (cwS 3 hts (hj_gS m_468 m_469 m_1 m_470) rfl rfl rfl (by decide +kernel) ⟨Nat.le_of_ble_eq_true rfl, Nat.le_of_ble_eq_true rfl⟩) (hj_preS hj_EXok hE hP hD hK hS hA [2] rfl rfl [0] rfl) rfl rfl hl.1 rfl (lv_room (Nat.le_of_ble_eq_true rfl)) d_J_generationOfHead_49 ⟨Nat.le_of_ble_eq_true rfl, Nat.le_of_ble_eq_true rfl⟩) (fun r_13 u_14 H locs hw hP hD hK1 hS => ?_)
      subst hw
      have hP : va_P (dC, dI) vwCl [(j, .inr (2, [.ref dk, .ref rc, .ref ta, .ref pa, .int (nI tl), .int (nI st), .int (nI g), .int (nI h)])), (dk, .inr (0, [.ref a, .int du, .int wr])), (a, .inl (cA, 32768, .inl (hj_B d)))] H := hP.sub [0, 1, 2] rfl
      have hD : va_D A [(j, .inr (2, [.ref dk, .ref rc, .ref ta, .ref pa, .int (nI tl), .int (nI st), .int (nI g), .int (nI h)])), (dk, .inr (0, [.ref a, .int du, .int wr])), (a, .inl (cA, 32768, .inl (hj_B d)))] := hD.sub [0, 1, 2] (by decide) rfl
      refine hj_topn (b := hj_four d (512 * b + 8)) (hj_num4 _ _) ?_
      refine lv_aload_n hx hb d_J_generationOfHead_52 rfl (lv_at hl 2 rfl) ?_
      refine va_get (D := (dC, dI)) (ci := 2) (v := .ref dk) (C := "HalfJournal") (T := F_J) (N := 8) hx hb hts i_J hown hK hP 0 rfl rfl 0 (by decide) (hts _ m_84) (fun _ h9 => h9) rfl d_J_generationOfHead_53 ?_
      refine va_getN (D := (dC, dI)) (ci := 0) (v := .ref a) (C := "HalfJournal$Disk") (T := F_D) (N := 3) hx hb hts i_D hown hK hP 1 rfl rfl 0 (by decide) (va_Nw.use rfl (hE.1 _ m_38)) (fun _ h9 => h9) rfl d_J_generationOfHead_56 ?_
      refine lv_iload_n hx hb d_J_generationOfHead_59 rfl (lv_at hl 1 rfl) ?_
      refine lv_bipush (v := nI 8) hx hb d_J_generationOfHead_60 (by decide) ?_
      refine hj_calli (wc := [(a, .inl (cA, 32768, .inl (hj_B d)))]) (wr := [(j, .inr (2, [.ref dk, .ref rc, .ref ta, .ref pa, .int (nI tl), .int (nI st), .int (nI g), .int (nI h)])), (dk, .inr (0, [.ref a, .int du, .int wr]))]) [2] [0, 1] hP hD hS hA rfl rfl rfl (by decide) (va_runS (As := [.ref a, .int (nI (512 * b)), .int (nI 8)]) (rest := [.int (nI (hj_four d (512 * b + 8)))]) ⟨hx, hb, hml, hown, hts⟩ (c_J_checkOf l dC dI a cA 32768 d (512 * b) 8 (by omega) (by omega) hd H.size) (cwS 3 hts (hj_gS m_441 m_442 m_1 m_443) rfl rfl rfl (by decide +kernel) ⟨Nat.le_of_ble_eq_true rfl, Nat.le_of_ble_eq_true rfl⟩) (hj_preS hj_EXok hE hP hD hK hS hA [2] rfl rfl [0] rfl) rfl rfl hl.1 rfl (lv_room (Nat.le_of_ble_eq_true rfl)) d_J_generationOfHead_62 ⟨Nat.le_of_ble_eq_true rfl, Nat.le_of_ble_eq_true rfl⟩) (fun r_15 u_16 H locs hw hP hD hK1 hS => ?_)
      subst hw
      have hP : va_P (dC, dI) vwCl [(j, .inr (2, [.ref dk, .ref rc, .ref ta, .ref pa, .int (nI tl), .int (nI st), .int (nI g), .int (nI h)])), (dk, .inr (0, [.ref a, .int du, .int wr])), (a, .inl (cA, 32768, .inl (hj_B d)))] H := hP.sub [0, 1, 2] rfl
      have hD : va_D A [(j, .inr (2, [.ref dk, .ref rc, .ref ta, .ref pa, .int (nI tl), .int (nI st), .int (nI g), .int (nI h)])), (dk, .inr (0, [.ref a, .int du, .int wr])), (a, .inl (cA, 32768, .inl (hj_B d)))] := hD.sub [0, 1, 2] (by decide) rfl
      refine hj_icmp_eq (tgt := 70) hx hb (by first | exact hj_four_lt hd _ | exact hj_chk_lt hd _ _ | omega) (by first | exact hj_four_lt hd _ | exact hj_chk_lt hd _ _ | omega) d_J_generationOfHead_65 (by decide) (fun c_3 => ?_) (fun c_3 => ?_)
      · refine lv_aload_n hx hb d_J_generationOfHead_70 rfl (lv_at hl 2 rfl) ?_
        refine va_get (D := (dC, dI)) (ci := 2) (v := .ref dk) (C := "HalfJournal") (T := F_J) (N := 8) hx hb hts i_J hown hK hP 0 rfl rfl 0 (by decide) (hts _ m_84) (fun _ h9 => h9) rfl d_J_generationOfHead_71 ?_
        refine va_getN (D := (dC, dI)) (ci := 0) (v := .ref a) (C := "HalfJournal$Disk") (T := F_D) (N := 3) hx hb hts i_D hown hK hP 1 rfl rfl 0 (by decide) (va_Nw.use rfl (hE.1 _ m_38)) (fun _ h9 => h9) rfl d_J_generationOfHead_74 ?_
        refine lv_iload_n hx hb d_J_generationOfHead_77 rfl (lv_at hl 1 rfl) ?_
        refine lv_iconst (v := nI 4) hx hb d_J_generationOfHead_78 (by decide) ?_
        refine hj_iadd hx hb d_J_generationOfHead_79 ?_
        refine lv_iconst (v := nI 4) hx hb d_J_generationOfHead_80 (by decide) ?_
        refine hj_calli (wc := [(a, .inl (cA, 32768, .inl (hj_B d)))]) (wr := [(j, .inr (2, [.ref dk, .ref rc, .ref ta, .ref pa, .int (nI tl), .int (nI st), .int (nI g), .int (nI h)])), (dk, .inr (0, [.ref a, .int du, .int wr]))]) [2] [0, 1] hP hD hS hA rfl rfl rfl (by decide) (va_runS (As := [.ref a, .int (nI ((512 * b) + 4)), .int (nI 4)]) (rest := []) ⟨hx, hb, hml, hown, hts⟩ (c_J_number l dC dI a cA 32768 d (512 * b + 4) 4 (by omega) (by omega) (by omega) hd H.size) (cwS 3 hts (hj_gS m_468 m_469 m_1 m_470) rfl rfl rfl (by decide +kernel) ⟨Nat.le_of_ble_eq_true rfl, Nat.le_of_ble_eq_true rfl⟩) (hj_preS hj_EXok hE hP hD hK hS hA [2] rfl rfl [0] rfl) rfl rfl hl.1 rfl (lv_room (Nat.le_of_ble_eq_true rfl)) d_J_generationOfHead_81 ⟨Nat.le_of_ble_eq_true rfl, Nat.le_of_ble_eq_true rfl⟩) (fun r_17 u_18 H locs hw hP hD hK1 hS => ?_)
        subst hw
        have hP : va_P (dC, dI) vwCl [(j, .inr (2, [.ref dk, .ref rc, .ref ta, .ref pa, .int (nI tl), .int (nI st), .int (nI g), .int (nI h)])), (dk, .inr (0, [.ref a, .int du, .int wr])), (a, .inl (cA, 32768, .inl (hj_B d)))] H := hP.sub [0, 1, 2] rfl
        have hD : va_D A [(j, .inr (2, [.ref dk, .ref rc, .ref ta, .ref pa, .int (nI tl), .int (nI st), .int (nI g), .int (nI h)])), (dk, .inr (0, [.ref a, .int du, .int wr])), (a, .inl (cA, 32768, .inl (hj_B d)))] := hD.sub [0, 1, 2] (by decide) rfl
        refine hj_topn (b := hj_four d (512 * b + 4)) (hj_num4 _ _) ?_
        refine lv_iconst (v := nI 0) hx hb d_J_generationOfHead_84 (by decide) ?_
        refine va_mmax hx hb (hml.trans hl.1.symm) hown (hts _ m_520) (hts _ m_222) (hts _ m_15) (hts _ m_223) (Nat.le_of_ble_eq_true rfl) (Nat.le_of_ble_eq_true rfl) (Nat.le_of_ble_eq_true rfl) (Nat.le_of_ble_eq_true rfl) d_J_generationOfHead_85 ?_
        refine hj_topv (y := nI (hj_hg d b)) (by rw [hj_max0 (hj_four_lt hd _), hj_hg_of hd (Or.inr c_2) c_3]) ?_
        exact hret (nI (hj_hg d b)) () _ _ _ _ d_J_generationOfHead_88 rfl (rfl) hP hK hD hS
      · refine lv_iconst (v := nI 0) hx hb d_J_generationOfHead_68 (by decide) ?_
        exact hret (nI 0) () _ _ _ _ d_J_generationOfHead_69 rfl (by rw [hj_hg_no (fun r => c_3 r.2.2.2.2.2.2)]) hP hK hD hS
    · refine lv_iconst (v := nI 0) hx hb d_J_generationOfHead_35 (by decide) ?_
      exact hret (nI 0) () _ _ _ _ d_J_generationOfHead_36 rfl (by rw [hj_hg_no1 hd c_1 c_2]) hP hK hD hS
abbrev rm_J_halfOfHead : Room := { frames := 24, cells := 0, slots := 0, locals := 300 }
set_option maxHeartbeats 4000000 in
set_option maxRecDepth 100000 in
theorem c_J_halfOfHead (l : Launch) (dC : Nat → ClassId) (dI : Nat → Nat → Nat) (j dk rc ta pa : Nat) (tl st g h : Nat) (a : Nat) (cA : ClassId) (d : Nat → Nat) (du wr : Int32) (b : Nat) (hb9 : b < 2) (hd : hj_bs d) : hj_Mi l y_J_halfOfHead b_J_halfOfHead 2 .int rm_J_halfOfHead hj_EX (dC, dI) vwCl [(cA, .byte)] [(j, .inr (2, [.ref dk, .ref rc, .ref ta, .ref pa, .int (nI tl), .int (nI st), .int (nI g), .int (nI h)])), (dk, .inr (0, [.ref a, .int du, .int wr])), (a, .inl (cA, 32768, .inl (hj_B d)))] [.ref j, .int (nI b)] (fun r _ => r = nI (d (512 * b + 2))) (fun _ : Unit => [(j, .inr (2, [.ref dk, .ref rc, .ref ta, .ref pa, .int (nI tl), .int (nI st), .int (nI g), .int (nI h)])), (dk, .inr (0, [.ref a, .int du, .int wr])), (a, .inl (cA, 32768, .inl (hj_B d)))]) (fun _ => [(cA, .byte)]) 0 0 := by
  refine hj_bodyI (by decide +kernel) (Nat.le_of_ble_eq_true rfl) ?_
  intro p e s m args below meth c A Q ls hx hb hts hown hml hA hP hK hD hE hl hret
  have hS : va_S A s.heap s.heap [] := va_S.rf
  have hown : s.vm.findClass "HalfJournal" = some m.cls := hown
  have hl : lv_has ls 2 [(0, .ref j), (1, .int (nI b))] := hl
  have hP : va_P (dC, dI) vwCl [(j, .inr (2, [.ref dk, .ref rc, .ref ta, .ref pa, .int (nI tl), .int (nI st), .int (nI g), .int (nI h)])), (dk, .inr (0, [.ref a, .int du, .int wr])), (a, .inl (cA, 32768, .inl (hj_B d)))] s.heap := hP
  have hD : va_D A [(j, .inr (2, [.ref dk, .ref rc, .ref ta, .ref pa, .int (nI tl), .int (nI st), .int (nI g), .int (nI h)])), (dk, .inr (0, [.ref a, .int du, .int wr])), (a, .inl (cA, 32768, .inl (hj_B d)))] := hD
  refine lv_aload_n hx hb d_J_halfOfHead_0 rfl (lv_at hl 0 rfl) ?_
  refine va_get (D := (dC, dI)) (ci := 2) (v := .ref dk) (C := "HalfJournal") (T := F_J) (N := 8) hx hb hts i_J hown hK hP 0 rfl rfl 0 (by decide) (hts _ m_84) (fun _ h9 => h9) rfl d_J_halfOfHead_1 ?_
  refine va_getN (D := (dC, dI)) (ci := 0) (v := .ref a) (C := "HalfJournal$Disk") (T := F_D) (N := 3) hx hb hts i_D hown hK hP 1 rfl rfl 0 (by decide) (va_Nw.use rfl (hE.1 _ m_38)) (fun _ h9 => h9) rfl d_J_halfOfHead_4 ?_
  refine lv_iload_n hx hb d_J_halfOfHead_7 rfl (lv_at hl 1 rfl) ?_
  refine lv_sipush (v := nI 512) hx hb d_J_halfOfHead_8 (by decide) ?_
  refine hj_imul hx hb d_J_halfOfHead_11 ?_
  refine lv_iconst (v := nI 2) hx hb d_J_halfOfHead_12 (by decide) ?_
  refine hj_iadd hx hb d_J_halfOfHead_13 ?_
  refine lv_iconst (v := nI 1) hx hb d_J_halfOfHead_14 (by decide) ?_
  refine hj_calli (wc := [(a, .inl (cA, 32768, .inl (hj_B d)))]) (wr := [(j, .inr (2, [.ref dk, .ref rc, .ref ta, .ref pa, .int (nI tl), .int (nI st), .int (nI g), .int (nI h)])), (dk, .inr (0, [.ref a, .int du, .int wr]))]) [2] [0, 1] hP hD hS hA rfl rfl rfl (by decide) (va_runS (As := [.ref a, .int (nI ((b * 512) + 2)), .int (nI 1)]) (rest := []) ⟨hx, hb, hml, hown, hts⟩ (c_J_number l dC dI a cA 32768 d (b * 512 + 2) 1 (by omega) (by omega) (by omega) hd s.heap.size) (cwS 3 hts (hj_gS m_468 m_469 m_1 m_470) rfl rfl rfl (by decide +kernel) ⟨Nat.le_of_ble_eq_true rfl, Nat.le_of_ble_eq_true rfl⟩) (hj_preS hj_EXok hE hP hD hK hS hA [2] rfl rfl [0] rfl) rfl rfl hl.1 rfl (lv_room (Nat.le_of_ble_eq_true rfl)) d_J_halfOfHead_15 ⟨Nat.le_of_ble_eq_true rfl, Nat.le_of_ble_eq_true rfl⟩) (fun r_1 u_2 H locs hw hP hD hK1 hS => ?_)
  subst hw
  have hP : va_P (dC, dI) vwCl [(j, .inr (2, [.ref dk, .ref rc, .ref ta, .ref pa, .int (nI tl), .int (nI st), .int (nI g), .int (nI h)])), (dk, .inr (0, [.ref a, .int du, .int wr])), (a, .inl (cA, 32768, .inl (hj_B d)))] H := hP.sub [0, 1, 2] rfl
  have hD : va_D A [(j, .inr (2, [.ref dk, .ref rc, .ref ta, .ref pa, .int (nI tl), .int (nI st), .int (nI g), .int (nI h)])), (dk, .inr (0, [.ref a, .int du, .int wr])), (a, .inl (cA, 32768, .inl (hj_B d)))] := hD.sub [0, 1, 2] (by decide) rfl
  refine hj_topn (b := d (512 * b + 2)) (by rw [hj_num1, Nat.mul_comm b 512]) ?_
  exact hret (nI (d (512 * b + 2))) () _ _ _ _ d_J_halfOfHead_18 rfl (rfl) hP hK hD hS
