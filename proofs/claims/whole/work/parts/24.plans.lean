theorem hj_wdn_0 {r d : Nat → Nat} {b0 f m : Nat} {du wr : Int32} (h : du = 0) : hj_wdn r b0 f (m + 1) d du wr = (false, d, -1, wr) := if_pos h
theorem hj_wdn_s {r d : Nat → Nat} {b0 f m : Nat} {du wr : Int32} (h : ¬ du = 0) : hj_wdn r b0 f (m + 1) d du wr = hj_wdn r b0 f m (hj_blk d (b0 + (f + m)) r ((f + m) * 512)) (hj_dec du) (wr + 1) := by
  rw [show b0 + (f + m) = b0 + f + m by omega, Nat.mul_comm (f + m) 512]
  exact if_neg h
theorem hj_wup_0 {r d : Nat → Nat} {b0 b m : Nat} {du wr : Int32} (h : du = 0) : hj_wup r b0 (m + 1) b d du wr = (false, d, -1, wr) := if_pos h
theorem hj_wup_s {r d : Nat → Nat} {b0 b m : Nat} {du wr : Int32} (h : ¬ du = 0) : hj_wup r b0 (m + 1) b d du wr = hj_wup r b0 m (b + 1) (hj_blk d (b0 + b) r (b * 512)) (hj_dec du) (wr + 1) := by
  rw [Nat.mul_comm b 512]
  exact if_neg h
theorem hj_pnx_bs {d : Nat → Nat} {a n w : Nat} (hd : hj_bs d) : hj_bs (hj_pn d a n w) := hj_pn_bs hd
abbrev rm_J_planTape : Room := { frames := 32, cells := 0, slots := 0, locals := 400 }
set_option maxHeartbeats 4000000 in
set_option maxRecDepth 100000 in
theorem c_J_planTape (l : Launch) (dC : Nat → ClassId) (dI : Nat → Nat → Nat) (j dk rc ta pa : Nat) (tl st g h : Nat) (a : Nat) (cA : ClassId) (d : Nat → Nat) (du wr : Int32) (sa la ma : Nat) (n us mm : Nat) (cT cP : ClassId) (tp pl : Nat → Nat) (f1 l1 : Nat) (hh : h < 2) (hd : hj_bs d) (ht : hj_bs tp) (hp : hj_bs pl) (hf : 512 * f1 ≤ us) (hfl : us ≤ 512 * (l1 + 1)) (hl1 : l1 ≤ 30) (htl : tl ≤ 1000) (hend : us + 6 + tl ≤ 512 * (l1 + 1)) : hj_Mv l y_J_planTape b_J_planTape 6 rm_J_planTape hj_EX (dC, dI) vwCl [(cT, .byte), (cP, .byte), (cA, .byte)] [(j, .inr (2, [.ref dk, .ref rc, .ref ta, .ref pa, .int (nI tl), .int (nI st), .int (nI g), .int (nI h)])), (dk, .inr (0, [.ref a, .int du, .int wr])), (rc, .inr (1, [.ref sa, .ref la, .ref ma, .int (nI n), .int (nI us), .int (nI mm)])), (ta, .inl (cT, 1000, .inl (hj_B tp))), (pa, .inl (cP, 15872, .inl (hj_B pl))), (a, .inl (cA, 32768, .inl (hj_B d)))] [.ref j, .int (nI f1), .int (nI l1)] (fun y => hj_bs y ∧ ∀ q, 512 * f1 ≤ q → q < 512 * (l1 + 1) → y q = hj_im d h us tp tl q) (fun y : Nat → Nat => [(j, .inr (2, [.ref dk, .ref rc, .ref ta, .ref pa, .int (nI tl), .int (nI st), .int (nI g), .int (nI h)])), (dk, .inr (0, [.ref a, .int du, .int wr])), (rc, .inr (1, [.ref sa, .ref la, .ref ma, .int (nI n), .int (nI us), .int (nI mm)])), (ta, .inl (cT, 1000, .inl (hj_B tp))), (pa, .inl (cP, 15872, .inl (hj_B y))), (a, .inl (cA, 32768, .inl (hj_B d)))]) (fun _ => [(cT, .byte), (cP, .byte), (cA, .byte)]) 0 0 := by
  refine hj_bodyV (by decide +kernel) (Nat.le_of_ble_eq_true rfl) ?_
  intro p e s m args below meth c A Q ls hx hb hts hown hml hin hA hP hK hD hE hl hret
  have hS : va_S A s.heap s.heap [] := va_S.rf
  have hown : s.vm.findClass "HalfJournal" = some m.cls := hown
  have hl : lv_has ls 6 [(0, .ref j), (1, .int (nI f1)), (2, .int (nI l1))] := hl
  have hP : va_P (dC, dI) vwCl [(j, .inr (2, [.ref dk, .ref rc, .ref ta, .ref pa, .int (nI tl), .int (nI st), .int (nI g), .int (nI h)])), (dk, .inr (0, [.ref a, .int du, .int wr])), (rc, .inr (1, [.ref sa, .ref la, .ref ma, .int (nI n), .int (nI us), .int (nI mm)])), (ta, .inl (cT, 1000, .inl (hj_B tp))), (pa, .inl (cP, 15872, .inl (hj_B pl))), (a, .inl (cA, 32768, .inl (hj_B d)))] s.heap := hP
  have hD : va_D A [(j, .inr (2, [.ref dk, .ref rc, .ref ta, .ref pa, .int (nI tl), .int (nI st), .int (nI g), .int (nI h)])), (dk, .inr (0, [.ref a, .int du, .int wr])), (rc, .inr (1, [.ref sa, .ref la, .ref ma, .int (nI n), .int (nI us), .int (nI mm)])), (ta, .inl (cT, 1000, .inl (hj_B tp))), (pa, .inl (cP, 15872, .inl (hj_B pl))), (a, .inl (cA, 32768, .inl (hj_B d)))] := hD
  have hhb := hj_hb_le hh
  refine lv_iload_n hx hb d_J_planTape_0 rfl (lv_at hl 1 rfl) ?_
  refine lv_sipush (v := nI 512) hx hb d_J_planTape_1 (by decide) ?_
  refine hj_imul hx hb d_J_planTape_4 ?_
  refine lv_istore_n (lv' := [(3, .int (nI (f1 * 512))), (0, .ref j), (1, .int (nI f1)), (2, .int (nI l1))]) hx hb d_J_planTape_5 rfl hl (by decide) rfl (fun ls hl => ?_)
  refine lv_aload_n hx hb d_J_planTape_6 rfl (lv_at hl 1 rfl) ?_
  refine va_get (D := (dC, dI)) (ci := 2) (v := .ref rc) (C := "HalfJournal") (T := F_J) (N := 8) hx hb hts i_J hown hK hP 0 rfl rfl 1 (by decide) (hts _ m_85) (fun _ h9 => h9) rfl d_J_planTape_7 ?_
  refine va_getN (D := (dC, dI)) (ci := 1) (v := .int (nI us)) (C := "HalfJournal$Records") (T := F_R) (N := 6) hx hb hts i_R hown hK hP 2 rfl rfl 4 (by decide) (va_Nw.use rfl (hE.1 _ m_66)) (fun _ h9 => h9) rfl d_J_planTape_10 ?_
  refine lv_istore (lv' := [(4, .int (nI us)), (3, .int (nI (f1 * 512))), (0, .ref j), (1, .int (nI f1)), (2, .int (nI l1))]) hx hb d_J_planTape_13 hl (by decide) rfl (fun ls hl => ?_)
  refine lv_aload_n hx hb d_J_planTape_15 rfl (lv_at hl 2 rfl) ?_
  refine va_get (D := (dC, dI)) (ci := 2) (v := .ref dk) (C := "HalfJournal") (T := F_J) (N := 8) hx hb hts i_J hown hK hP 0 rfl rfl 0 (by decide) (hts _ m_84) (fun _ h9 => h9) rfl d_J_planTape_16 ?_
  refine va_getN (D := (dC, dI)) (ci := 0) (v := .ref a) (C := "HalfJournal$Disk") (T := F_D) (N := 3) hx hb hts i_D hown hK hP 1 rfl rfl 0 (by decide) (va_Nw.use rfl (hE.1 _ m_38)) (fun _ h9 => h9) rfl d_J_planTape_19 ?_
  refine lv_aload_n hx hb d_J_planTape_22 rfl (lv_at hl 2 rfl) ?_
  refine va_get (D := (dC, dI)) (ci := 2) (v := .int (nI h)) (C := "HalfJournal") (T := F_J) (N := 8) hx hb hts i_J hown hK hP 0 rfl rfl 7 (by decide) (hts _ m_91) (fun _ h9 => h9) rfl d_J_planTape_23 ?_
  refine hj_calli (wc := []) (wr := [(j, .inr (2, [.ref dk, .ref rc, .ref ta, .ref pa, .int (nI tl), .int (nI st), .int (nI g), .int (nI h)])), (dk, .inr (0, [.ref a, .int du, .int wr])), (rc, .inr (1, [.ref sa, .ref la, .ref ma, .int (nI n), .int (nI us), .int (nI mm)])), (ta, .inl (cT, 1000, .inl (hj_B tp))), (pa, .inl (cP, 15872, .inl (hj_B pl))), (a, .inl (cA, 32768, .inl (hj_B d)))]) [] [0, 1, 2, 3, 4, 5] hP hD hS hA rfl rfl rfl (by decide) (va_runS (As := [.int (nI h)]) (rest := [.ref a]) ⟨hx, hb, hml, hown, hts⟩ (c_J_firstByteOf l dC dI h s.heap.size) (cwS 1 hts (hj_gS m_462 m_463 m_1 m_464) rfl rfl rfl (by decide +kernel) ⟨Nat.le_of_ble_eq_true rfl, Nat.le_of_ble_eq_true rfl⟩) (hj_preS hj_EXok hE hP hD hK hS hA [] rfl rfl [] rfl) rfl rfl hl.1 rfl (lv_room (Nat.le_of_ble_eq_true rfl)) d_J_planTape_26 ⟨Nat.le_of_ble_eq_true rfl, Nat.le_of_ble_eq_true rfl⟩) (fun r_1 u_2 H locs hw hP hD hK1 hS => ?_)
  subst hw
  have hP : va_P (dC, dI) vwCl [(j, .inr (2, [.ref dk, .ref rc, .ref ta, .ref pa, .int (nI tl), .int (nI st), .int (nI g), .int (nI h)])), (dk, .inr (0, [.ref a, .int du, .int wr])), (rc, .inr (1, [.ref sa, .ref la, .ref ma, .int (nI n), .int (nI us), .int (nI mm)])), (ta, .inl (cT, 1000, .inl (hj_B tp))), (pa, .inl (cP, 15872, .inl (hj_B pl))), (a, .inl (cA, 32768, .inl (hj_B d)))] H := hP.sub [0, 1, 2, 3, 4, 5] rfl
  have hD : va_D A [(j, .inr (2, [.ref dk, .ref rc, .ref ta, .ref pa, .int (nI tl), .int (nI st), .int (nI g), .int (nI h)])), (dk, .inr (0, [.ref a, .int du, .int wr])), (rc, .inr (1, [.ref sa, .ref la, .ref ma, .int (nI n), .int (nI us), .int (nI mm)])), (ta, .inl (cT, 1000, .inl (hj_B tp))), (pa, .inl (cP, 15872, .inl (hj_B pl))), (a, .inl (cA, 32768, .inl (hj_B d)))] := hD.sub [0, 1, 2, 3, 4, 5] (by decide) rfl
  refine lv_iload_n hx hb d_J_planTape_29 rfl (lv_at hl 1 rfl) ?_
  refine hj_iadd hx hb d_J_planTape_30 ?_
  refine lv_aload_n hx hb d_J_planTape_31 rfl (lv_at hl 2 rfl) ?_
  refine va_get (D := (dC, dI)) (ci := 2) (v := .ref pa) (C := "HalfJournal") (T := F_J) (N := 8) hx hb hts i_J hown hK hP 0 rfl rfl 3 (by decide) (hts _ m_87) (fun _ h9 => h9) rfl d_J_planTape_32 ?_
  refine lv_iload_n hx hb d_J_planTape_35 rfl (lv_at hl 1 rfl) ?_
  refine lv_iload hx hb d_J_planTape_36 (lv_at hl 0 rfl) ?_
  refine lv_iload_n hx hb d_J_planTape_38 rfl (lv_at hl 1 rfl) ?_
  refine hj_isub hx hb (by omega) d_J_planTape_39 ?_
  refine hj_callv (wc := [(a, .inl (cA, 32768, .inl (hj_B d))), (pa, .inl (cP, 15872, .inl (hj_B pl)))]) (wr := [(j, .inr (2, [.ref dk, .ref rc, .ref ta, .ref pa, .int (nI tl), .int (nI st), .int (nI g), .int (nI h)])), (dk, .inr (0, [.ref a, .int du, .int wr])), (rc, .inr (1, [.ref sa, .ref la, .ref ma, .int (nI n), .int (nI us), .int (nI mm)])), (ta, .inl (cT, 1000, .inl (hj_B tp)))]) [5, 4] [0, 1, 2, 3] hP hD hS hA rfl rfl rfl (by decide) (va_runS (As := [.ref a, .int (nI ((hj_hb h) + (f1 * 512))), .ref pa, .int (nI (f1 * 512)), .int (nI (us - (f1 * 512)))]) (rest := []) ⟨hx, hb, hml, hown, hts⟩ (c_J_copyBytes l dC dI a cA 32768 d pa cP 15872 pl (hj_hb h + f1 * 512) (f1 * 512) (us - f1 * 512) (by omega) (by omega) (by omega) (by omega) H.size) (cwS 5 hts (hj_gS m_604 m_605 m_1 m_606) rfl rfl rfl (by decide +kernel) ⟨Nat.le_of_ble_eq_true rfl, Nat.le_of_ble_eq_true rfl⟩) (hj_preS hj_EXok hE hP hD hK hS hA [5, 4] rfl rfl [2, 1] rfl) rfl rfl hl.1 rfl (lv_room (Nat.le_of_ble_eq_true rfl)) d_J_planTape_40 ⟨Nat.le_of_ble_eq_true rfl, Nat.le_of_ble_eq_true rfl⟩) (fun u_4 H locs hw hP hD hK1 hS => ?_)
  have hP : va_P (dC, dI) vwCl [(j, .inr (2, [.ref dk, .ref rc, .ref ta, .ref pa, .int (nI tl), .int (nI st), .int (nI g), .int (nI h)])), (dk, .inr (0, [.ref a, .int du, .int wr])), (rc, .inr (1, [.ref sa, .ref la, .ref ma, .int (nI n), .int (nI us), .int (nI mm)])), (ta, .inl (cT, 1000, .inl (hj_B tp))), (pa, .inl (cP, 15872, .inl (hj_B (va_cpy d pl (hj_hb h + f1 * 512) (f1 * 512) (us - f1 * 512))))), (a, .inl (cA, 32768, .inl (hj_B d)))] H := hP.sub [0, 1, 2, 3, 5, 4] rfl
  have hD : va_D A [(j, .inr (2, [.ref dk, .ref rc, .ref ta, .ref pa, .int (nI tl), .int (nI st), .int (nI g), .int (nI h)])), (dk, .inr (0, [.ref a, .int du, .int wr])), (rc, .inr (1, [.ref sa, .ref la, .ref ma, .int (nI n), .int (nI us), .int (nI mm)])), (ta, .inl (cT, 1000, .inl (hj_B tp))), (pa, .inl (cP, 15872, .inl (hj_B (va_cpy d pl (hj_hb h + f1 * 512) (f1 * 512) (us - f1 * 512))))), (a, .inl (cA, 32768, .inl (hj_B d)))] := hD.sub [0, 1, 2, 3, 5, 4] (by decide) rfl
  refine lv_aload_n hx hb d_J_planTape_43 rfl (lv_at hl 2 rfl) ?_
  refine va_get (D := (dC, dI)) (ci := 2) (v := .ref pa) (C := "HalfJournal") (T := F_J) (N := 8) hx hb hts i_J hown hK hP 0 rfl rfl 3 (by decide) (hts _ m_87) (fun _ h9 => h9) rfl d_J_planTape_44 ?_
  refine lv_iload hx hb d_J_planTape_47 (lv_at hl 0 rfl) ?_
  refine lv_iload_n hx hb d_J_planTape_49 rfl (lv_at hl 4 rfl) ?_
  refine lv_iconst (v := nI 1) hx hb d_J_planTape_50 (by decide) ?_
  refine hj_iadd hx hb d_J_planTape_51 ?_
  refine lv_sipush (v := nI 512) hx hb d_J_planTape_52 (by decide) ?_
  refine hj_imul hx hb d_J_planTape_55 ?_
  refine hj_callv (wc := [(pa, .inl (cP, 15872, .inl (hj_B (va_cpy d pl (hj_hb h + f1 * 512) (f1 * 512) (us - f1 * 512)))))]) (wr := [(j, .inr (2, [.ref dk, .ref rc, .ref ta, .ref pa, .int (nI tl), .int (nI st), .int (nI g), .int (nI h)])), (dk, .inr (0, [.ref a, .int du, .int wr])), (rc, .inr (1, [.ref sa, .ref la, .ref ma, .int (nI n), .int (nI us), .int (nI mm)])), (ta, .inl (cT, 1000, .inl (hj_B tp))), (a, .inl (cA, 32768, .inl (hj_B d)))]) [4] [0, 1, 2, 3, 5] hP hD hS hA rfl rfl rfl (by decide) (va_runS (As := [.ref pa, .int (nI us), .int (nI ((l1 + 1) * 512))]) (rest := []) ⟨hx, hb, hml, hown, hts⟩ (c_J_clearBytes l dC dI pa cP 15872 (va_cpy d pl (hj_hb h + f1 * 512) (f1 * 512) (us - f1 * 512)) us ((l1 + 1) * 512) (by omega) (by omega) (by omega) H.size) (cwS 3 hts (hj_gS m_114 m_115 m_1 m_116) rfl rfl rfl (by decide +kernel) ⟨Nat.le_of_ble_eq_true rfl, Nat.le_of_ble_eq_true rfl⟩) (hj_preS hj_EXok hE hP hD hK hS hA [4] rfl rfl [1] rfl) rfl rfl hl.1 rfl (lv_room (Nat.le_of_ble_eq_true rfl)) d_J_planTape_56 ⟨Nat.le_of_ble_eq_true rfl, Nat.le_of_ble_eq_true rfl⟩) (fun u_6 H locs hw hP hD hK1 hS => ?_)
  have hP : va_P (dC, dI) vwCl [(j, .inr (2, [.ref dk, .ref rc, .ref ta, .ref pa, .int (nI tl), .int (nI st), .int (nI g), .int (nI h)])), (dk, .inr (0, [.ref a, .int du, .int wr])), (rc, .inr (1, [.ref sa, .ref la, .ref ma, .int (nI n), .int (nI us), .int (nI mm)])), (ta, .inl (cT, 1000, .inl (hj_B tp))), (pa, .inl (cP, 15872, .inl (hj_B (hj_clr (va_cpy d pl (hj_hb h + f1 * 512) (f1 * 512) (us - f1 * 512)) us ((l1 + 1) * 512))))), (a, .inl (cA, 32768, .inl (hj_B d)))] H := hP.sub [0, 1, 2, 3, 5, 4] rfl
  have hD : va_D A [(j, .inr (2, [.ref dk, .ref rc, .ref ta, .ref pa, .int (nI tl), .int (nI st), .int (nI g), .int (nI h)])), (dk, .inr (0, [.ref a, .int du, .int wr])), (rc, .inr (1, [.ref sa, .ref la, .ref ma, .int (nI n), .int (nI us), .int (nI mm)])), (ta, .inl (cT, 1000, .inl (hj_B tp))), (pa, .inl (cP, 15872, .inl (hj_B (hj_clr (va_cpy d pl (hj_hb h + f1 * 512) (f1 * 512) (us - f1 * 512)) us ((l1 + 1) * 512))))), (a, .inl (cA, 32768, .inl (hj_B d)))] := hD.sub [0, 1, 2, 3, 5, 4] (by decide) rfl
  refine lv_aload_n hx hb d_J_planTape_59 rfl (lv_at hl 2 rfl) ?_
  refine va_get (D := (dC, dI)) (ci := 2) (v := .ref pa) (C := "HalfJournal") (T := F_J) (N := 8) hx hb hts i_J hown hK hP 0 rfl rfl 3 (by decide) (hts _ m_87) (fun _ h9 => h9) rfl d_J_planTape_60 ?_
  refine lv_iload hx hb d_J_planTape_63 (lv_at hl 0 rfl) ?_
  refine lv_iconst (v := nI 2) hx hb d_J_planTape_65 (by decide) ?_
  refine lv_aload_n hx hb d_J_planTape_66 rfl (lv_at hl 2 rfl) ?_
  refine va_get (D := (dC, dI)) (ci := 2) (v := .int (nI tl)) (C := "HalfJournal") (T := F_J) (N := 8) hx hb hts i_J hown hK hP 0 rfl rfl 4 (by decide) (hts _ m_88) (fun _ h9 => h9) rfl d_J_planTape_67 ?_
  refine hj_callv (wc := [(pa, .inl (cP, 15872, .inl (hj_B (hj_clr (va_cpy d pl (hj_hb h + f1 * 512) (f1 * 512) (us - f1 * 512)) us ((l1 + 1) * 512)))))]) (wr := [(j, .inr (2, [.ref dk, .ref rc, .ref ta, .ref pa, .int (nI tl), .int (nI st), .int (nI g), .int (nI h)])), (dk, .inr (0, [.ref a, .int du, .int wr])), (rc, .inr (1, [.ref sa, .ref la, .ref ma, .int (nI n), .int (nI us), .int (nI mm)])), (ta, .inl (cT, 1000, .inl (hj_B tp))), (a, .inl (cA, 32768, .inl (hj_B d)))]) [4] [0, 1, 2, 3, 5] hP hD hS hA rfl rfl rfl (by decide) (va_runS (As := [.ref pa, .int (nI us), .int (nI 2), .int (nI tl)]) (rest := []) ⟨hx, hb, hml, hown, hts⟩ (c_J_putNumber l dC dI pa cP 15872 (hj_clr (va_cpy d pl (hj_hb h + f1 * 512) (f1 * 512) (us - f1 * 512)) us ((l1 + 1) * 512)) us 2 tl (by omega) (by omega) (by omega) (by omega) H.size) (cwS 4 hts (hj_gS m_438 m_439 m_1 m_440) rfl rfl rfl (by decide +kernel) ⟨Nat.le_of_ble_eq_true rfl, Nat.le_of_ble_eq_true rfl⟩) (hj_preS hj_EXok hE hP hD hK hS hA [4] rfl rfl [1] rfl) rfl rfl hl.1 rfl (lv_room (Nat.le_of_ble_eq_true rfl)) d_J_planTape_70 ⟨Nat.le_of_ble_eq_true rfl, Nat.le_of_ble_eq_true rfl⟩) (fun u_8 H locs hw hP hD hK1 hS => ?_)
  have hP : va_P (dC, dI) vwCl [(j, .inr (2, [.ref dk, .ref rc, .ref ta, .ref pa, .int (nI tl), .int (nI st), .int (nI g), .int (nI h)])), (dk, .inr (0, [.ref a, .int du, .int wr])), (rc, .inr (1, [.ref sa, .ref la, .ref ma, .int (nI n), .int (nI us), .int (nI mm)])), (ta, .inl (cT, 1000, .inl (hj_B tp))), (pa, .inl (cP, 15872, .inl (hj_B (hj_pn (hj_clr (va_cpy d pl (hj_hb h + f1 * 512) (f1 * 512) (us - f1 * 512)) us ((l1 + 1) * 512)) us 2 tl)))), (a, .inl (cA, 32768, .inl (hj_B d)))] H := hP.sub [0, 1, 2, 3, 5, 4] rfl
  have hD : va_D A [(j, .inr (2, [.ref dk, .ref rc, .ref ta, .ref pa, .int (nI tl), .int (nI st), .int (nI g), .int (nI h)])), (dk, .inr (0, [.ref a, .int du, .int wr])), (rc, .inr (1, [.ref sa, .ref la, .ref ma, .int (nI n), .int (nI us), .int (nI mm)])), (ta, .inl (cT, 1000, .inl (hj_B tp))), (pa, .inl (cP, 15872, .inl (hj_B (hj_pn (hj_clr (va_cpy d pl (hj_hb h + f1 * 512) (f1 * 512) (us - f1 * 512)) us ((l1 + 1) * 512)) us 2 tl)))), (a, .inl (cA, 32768, .inl (hj_B d)))] := hD.sub [0, 1, 2, 3, 5, 4] (by decide) rfl
  refine lv_aload_n hx hb d_J_planTape_73 rfl (lv_at hl 2 rfl) ?_
  refine va_get (D := (dC, dI)) (ci := 2) (v := .ref ta) (C := "HalfJournal") (T := F_J) (N := 8) hx hb hts i_J hown hK hP 0 rfl rfl 2 (by decide) (hts _ m_86) (fun _ h9 => h9) rfl d_J_planTape_74 ?_
  refine lv_iconst (v := nI 0) hx hb d_J_planTape_77 (by decide) ?_
  refine lv_aload_n hx hb d_J_planTape_78 rfl (lv_at hl 2 rfl) ?_
  refine va_get (D := (dC, dI)) (ci := 2) (v := .ref pa) (C := "HalfJournal") (T := F_J) (N := 8) hx hb hts i_J hown hK hP 0 rfl rfl 3 (by decide) (hts _ m_87) (fun _ h9 => h9) rfl d_J_planTape_79 ?_
  refine lv_iload hx hb d_J_planTape_82 (lv_at hl 0 rfl) ?_
  refine lv_iconst (v := nI 2) hx hb d_J_planTape_84 (by decide) ?_
  refine hj_iadd hx hb d_J_planTape_85 ?_
  refine lv_aload_n hx hb d_J_planTape_86 rfl (lv_at hl 2 rfl) ?_
  refine va_get (D := (dC, dI)) (ci := 2) (v := .int (nI tl)) (C := "HalfJournal") (T := F_J) (N := 8) hx hb hts i_J hown hK hP 0 rfl rfl 4 (by decide) (hts _ m_88) (fun _ h9 => h9) rfl d_J_planTape_87 ?_
  refine hj_callv (wc := [(ta, .inl (cT, 1000, .inl (hj_B tp))), (pa, .inl (cP, 15872, .inl (hj_B (hj_pn (hj_clr (va_cpy d pl (hj_hb h + f1 * 512) (f1 * 512) (us - f1 * 512)) us ((l1 + 1) * 512)) us 2 tl))))]) (wr := [(j, .inr (2, [.ref dk, .ref rc, .ref ta, .ref pa, .int (nI tl), .int (nI st), .int (nI g), .int (nI h)])), (dk, .inr (0, [.ref a, .int du, .int wr])), (rc, .inr (1, [.ref sa, .ref la, .ref ma, .int (nI n), .int (nI us), .int (nI mm)])), (a, .inl (cA, 32768, .inl (hj_B d)))]) [3, 4] [0, 1, 2, 5] hP hD hS hA rfl rfl rfl (by decide) (va_runS (As := [.ref ta, .int (nI 0), .ref pa, .int (nI (us + 2)), .int (nI tl)]) (rest := []) ⟨hx, hb, hml, hown, hts⟩ (c_J_copyBytes l dC dI ta cT 1000 tp pa cP 15872 (hj_pn (hj_clr (va_cpy d pl (hj_hb h + f1 * 512) (f1 * 512) (us - f1 * 512)) us ((l1 + 1) * 512)) us 2 tl) 0 (us + 2) tl (by omega) (by omega) (by omega) (by omega) H.size) (cwS 5 hts (hj_gS m_604 m_605 m_1 m_606) rfl rfl rfl (by decide +kernel) ⟨Nat.le_of_ble_eq_true rfl, Nat.le_of_ble_eq_true rfl⟩) (hj_preS hj_EXok hE hP hD hK hS hA [3, 4] rfl rfl [0, 1] rfl) rfl rfl hl.1 rfl (lv_room (Nat.le_of_ble_eq_true rfl)) d_J_planTape_90 ⟨Nat.le_of_ble_eq_true rfl, Nat.le_of_ble_eq_true rfl⟩) (fun u_10 H locs hw hP hD hK1 hS => ?_)
  have hP : va_P (dC, dI) vwCl [(j, .inr (2, [.ref dk, .ref rc, .ref ta, .ref pa, .int (nI tl), .int (nI st), .int (nI g), .int (nI h)])), (dk, .inr (0, [.ref a, .int du, .int wr])), (rc, .inr (1, [.ref sa, .ref la, .ref ma, .int (nI n), .int (nI us), .int (nI mm)])), (ta, .inl (cT, 1000, .inl (hj_B tp))), (pa, .inl (cP, 15872, .inl (hj_B (va_cpy tp (hj_pn (hj_clr (va_cpy d pl (hj_hb h + f1 * 512) (f1 * 512) (us - f1 * 512)) us ((l1 + 1) * 512)) us 2 tl) 0 (us + 2) tl)))), (a, .inl (cA, 32768, .inl (hj_B d)))] H := hP.sub [0, 1, 2, 4, 5, 3] rfl
  have hD : va_D A [(j, .inr (2, [.ref dk, .ref rc, .ref ta, .ref pa, .int (nI tl), .int (nI st), .int (nI g), .int (nI h)])), (dk, .inr (0, [.ref a, .int du, .int wr])), (rc, .inr (1, [.ref sa, .ref la, .ref ma, .int (nI n), .int (nI us), .int (nI mm)])), (ta, .inl (cT, 1000, .inl (hj_B tp))), (pa, .inl (cP, 15872, .inl (hj_B (va_cpy tp (hj_pn (hj_clr (va_cpy d pl (hj_hb h + f1 * 512) (f1 * 512) (us - f1 * 512)) us ((l1 + 1) * 512)) us 2 tl) 0 (us + 2) tl)))), (a, .inl (cA, 32768, .inl (hj_B d)))] := hD.sub [0, 1, 2, 4, 5, 3] (by decide) rfl
  have hb4 : hj_bs (va_cpy tp (hj_pn (hj_clr (va_cpy d pl (hj_hb h + f1 * 512) (f1 * 512) (us - f1 * 512)) us ((l1 + 1) * 512)) us 2 tl) 0 (us + 2) tl) := hj_cpy_bs ht (hj_pn_bs (hj_clr_bs (hj_cpy_bs hd hp)))
  refine lv_iconst (v := nI 2) hx hb d_J_planTape_93 (by decide) ?_
  refine lv_aload_n hx hb d_J_planTape_94 rfl (lv_at hl 2 rfl) ?_
  refine va_get (D := (dC, dI)) (ci := 2) (v := .int (nI tl)) (C := "HalfJournal") (T := F_J) (N := 8) hx hb hts i_J hown hK hP 0 rfl rfl 4 (by decide) (hts _ m_88) (fun _ h9 => h9) rfl d_J_planTape_95 ?_
  refine hj_iadd hx hb d_J_planTape_98 ?_
  refine lv_istore (lv' := [(5, .int (nI (2 + tl))), (4, .int (nI us)), (3, .int (nI (f1 * 512))), (0, .ref j), (1, .int (nI f1)), (2, .int (nI l1))]) hx hb d_J_planTape_99 hl (by decide) rfl (fun ls hl => ?_)
  refine lv_aload_n hx hb d_J_planTape_101 rfl (lv_at hl 3 rfl) ?_
  refine va_get (D := (dC, dI)) (ci := 2) (v := .ref pa) (C := "HalfJournal") (T := F_J) (N := 8) hx hb hts i_J hown hK hP 0 rfl rfl 3 (by decide) (hts _ m_87) (fun _ h9 => h9) rfl d_J_planTape_102 ?_
  refine lv_iload hx hb d_J_planTape_105 (lv_at hl 1 rfl) ?_
  refine lv_iload hx hb d_J_planTape_107 (lv_at hl 0 rfl) ?_
  refine hj_iadd hx hb d_J_planTape_109 ?_
  refine lv_iconst (v := nI 4) hx hb d_J_planTape_110 (by decide) ?_
  refine lv_aload_n hx hb d_J_planTape_111 rfl (lv_at hl 3 rfl) ?_
  refine va_get (D := (dC, dI)) (ci := 2) (v := .ref pa) (C := "HalfJournal") (T := F_J) (N := 8) hx hb hts i_J hown hK hP 0 rfl rfl 3 (by decide) (hts _ m_87) (fun _ h9 => h9) rfl d_J_planTape_112 ?_
  refine lv_iload hx hb d_J_planTape_115 (lv_at hl 1 rfl) ?_
  refine lv_iload hx hb d_J_planTape_117 (lv_at hl 0 rfl) ?_
  refine hj_calli (wc := [(pa, .inl (cP, 15872, .inl (hj_B (va_cpy tp (hj_pn (hj_clr (va_cpy d pl (hj_hb h + f1 * 512) (f1 * 512) (us - f1 * 512)) us ((l1 + 1) * 512)) us 2 tl) 0 (us + 2) tl))))]) (wr := [(j, .inr (2, [.ref dk, .ref rc, .ref ta, .ref pa, .int (nI tl), .int (nI st), .int (nI g), .int (nI h)])), (dk, .inr (0, [.ref a, .int du, .int wr])), (rc, .inr (1, [.ref sa, .ref la, .ref ma, .int (nI n), .int (nI us), .int (nI mm)])), (ta, .inl (cT, 1000, .inl (hj_B tp))), (a, .inl (cA, 32768, .inl (hj_B d)))]) [4] [0, 1, 2, 3, 5] hP hD hS hA rfl rfl rfl (by decide) (va_runS (As := [.ref pa, .int (nI us), .int (nI (2 + tl))]) (rest := [.int (nI 4), .int (nI (us + (2 + tl))), .ref pa]) ⟨hx, hb, hml, hown, hts⟩ (c_J_checkOf l dC dI pa cP 15872 (va_cpy tp (hj_pn (hj_clr (va_cpy d pl (hj_hb h + f1 * 512) (f1 * 512) (us - f1 * 512)) us ((l1 + 1) * 512)) us 2 tl) 0 (us + 2) tl) us (2 + tl) (by omega) (by omega) hb4 H.size) (cwS 3 hts (hj_gS m_441 m_442 m_1 m_443) rfl rfl rfl (by decide +kernel) ⟨Nat.le_of_ble_eq_true rfl, Nat.le_of_ble_eq_true rfl⟩) (hj_preS hj_EXok hE hP hD hK hS hA [4] rfl rfl [1] rfl) rfl rfl hl.1 rfl (lv_room (Nat.le_of_ble_eq_true rfl)) d_J_planTape_119 ⟨Nat.le_of_ble_eq_true rfl, Nat.le_of_ble_eq_true rfl⟩) (fun r_11 u_12 H locs hw hP hD hK1 hS => ?_)
  subst hw
  have hP : va_P (dC, dI) vwCl [(j, .inr (2, [.ref dk, .ref rc, .ref ta, .ref pa, .int (nI tl), .int (nI st), .int (nI g), .int (nI h)])), (dk, .inr (0, [.ref a, .int du, .int wr])), (rc, .inr (1, [.ref sa, .ref la, .ref ma, .int (nI n), .int (nI us), .int (nI mm)])), (ta, .inl (cT, 1000, .inl (hj_B tp))), (pa, .inl (cP, 15872, .inl (hj_B (va_cpy tp (hj_pn (hj_clr (va_cpy d pl (hj_hb h + f1 * 512) (f1 * 512) (us - f1 * 512)) us ((l1 + 1) * 512)) us 2 tl) 0 (us + 2) tl)))), (a, .inl (cA, 32768, .inl (hj_B d)))] H := hP.sub [0, 1, 2, 3, 5, 4] rfl
  have hD : va_D A [(j, .inr (2, [.ref dk, .ref rc, .ref ta, .ref pa, .int (nI tl), .int (nI st), .int (nI g), .int (nI h)])), (dk, .inr (0, [.ref a, .int du, .int wr])), (rc, .inr (1, [.ref sa, .ref la, .ref ma, .int (nI n), .int (nI us), .int (nI mm)])), (ta, .inl (cT, 1000, .inl (hj_B tp))), (pa, .inl (cP, 15872, .inl (hj_B (va_cpy tp (hj_pn (hj_clr (va_cpy d pl (hj_hb h + f1 * 512) (f1 * 512) (us - f1 * 512)) us ((l1 + 1) * 512)) us 2 tl) 0 (us + 2) tl)))), (a, .inl (cA, 32768, .inl (hj_B d)))] := hD.sub [0, 1, 2, 3, 5, 4] (by decide) rfl
  refine hj_callv (wc := [(pa, .inl (cP, 15872, .inl (hj_B (va_cpy tp (hj_pn (hj_clr (va_cpy d pl (hj_hb h + f1 * 512) (f1 * 512) (us - f1 * 512)) us ((l1 + 1) * 512)) us 2 tl) 0 (us + 2) tl))))]) (wr := [(j, .inr (2, [.ref dk, .ref rc, .ref ta, .ref pa, .int (nI tl), .int (nI st), .int (nI g), .int (nI h)])), (dk, .inr (0, [.ref a, .int du, .int wr])), (rc, .inr (1, [.ref sa, .ref la, .ref ma, .int (nI n), .int (nI us), .int (nI mm)])), (ta, .inl (cT, 1000, .inl (hj_B tp))), (a, .inl (cA, 32768, .inl (hj_B d)))]) [4] [0, 1, 2, 3, 5] hP hD hS hA rfl rfl rfl (by decide) (va_runS (As := [.ref pa, .int (nI (us + (2 + tl))), .int (nI 4), .int (nI (hj_chk (va_cpy tp (hj_pn (hj_clr (va_cpy d pl (hj_hb h + f1 * 512) (f1 * 512) (us - f1 * 512)) us ((l1 + 1) * 512)) us 2 tl) 0 (us + 2) tl) us (2 + tl)))]) (rest := []) ⟨hx, hb, hml, hown, hts⟩ (c_J_putNumber l dC dI pa cP 15872 (va_cpy tp (hj_pn (hj_clr (va_cpy d pl (hj_hb h + f1 * 512) (f1 * 512) (us - f1 * 512)) us ((l1 + 1) * 512)) us 2 tl) 0 (us + 2) tl) (us + (2 + tl)) 4 (hj_chk (va_cpy tp (hj_pn (hj_clr (va_cpy d pl (hj_hb h + f1 * 512) (f1 * 512) (us - f1 * 512)) us ((l1 + 1) * 512)) us 2 tl) 0 (us + 2) tl) us (2 + tl)) (by omega) (by omega) (by omega) (hj_chk_lt hb4 _ _) H.size) (cwS 4 hts (hj_gS m_438 m_439 m_1 m_440) rfl rfl rfl (by decide +kernel) ⟨Nat.le_of_ble_eq_true rfl, Nat.le_of_ble_eq_true rfl⟩) (hj_preS hj_EXok hE hP hD hK hS hA [4] rfl rfl [1] rfl) rfl rfl hl.1 rfl (lv_room (Nat.le_of_ble_eq_true rfl)) d_J_planTape_122 ⟨Nat.le_of_ble_eq_true rfl, Nat.le_of_ble_eq_true rfl⟩) (fun u_14 H locs hw hP hD hK1 hS => ?_)
  have hP : va_P (dC, dI) vwCl [(j, .inr (2, [.ref dk, .ref rc, .ref ta, .ref pa, .int (nI tl), .int (nI st), .int (nI g), .int (nI h)])), (dk, .inr (0, [.ref a, .int du, .int wr])), (rc, .inr (1, [.ref sa, .ref la, .ref ma, .int (nI n), .int (nI us), .int (nI mm)])), (ta, .inl (cT, 1000, .inl (hj_B tp))), (pa, .inl (cP, 15872, .inl (hj_B (hj_pn (va_cpy tp (hj_pn (hj_clr (va_cpy d pl (hj_hb h + f1 * 512) (f1 * 512) (us - f1 * 512)) us ((l1 + 1) * 512)) us 2 tl) 0 (us + 2) tl) (us + (2 + tl)) 4 (hj_chk (va_cpy tp (hj_pn (hj_clr (va_cpy d pl (hj_hb h + f1 * 512) (f1 * 512) (us - f1 * 512)) us ((l1 + 1) * 512)) us 2 tl) 0 (us + 2) tl) us (2 + tl)))))), (a, .inl (cA, 32768, .inl (hj_B d)))] H := hP.sub [0, 1, 2, 3, 5, 4] rfl
  have hD : va_D A [(j, .inr (2, [.ref dk, .ref rc, .ref ta, .ref pa, .int (nI tl), .int (nI st), .int (nI g), .int (nI h)])), (dk, .inr (0, [.ref a, .int du, .int wr])), (rc, .inr (1, [.ref sa, .ref la, .ref ma, .int (nI n), .int (nI us), .int (nI mm)])), (ta, .inl (cT, 1000, .inl (hj_B tp))), (pa, .inl (cP, 15872, .inl (hj_B (hj_pn (va_cpy tp (hj_pn (hj_clr (va_cpy d pl (hj_hb h + f1 * 512) (f1 * 512) (us - f1 * 512)) us ((l1 + 1) * 512)) us 2 tl) 0 (us + 2) tl) (us + (2 + tl)) 4 (hj_chk (va_cpy tp (hj_pn (hj_clr (va_cpy d pl (hj_hb h + f1 * 512) (f1 * 512) (us - f1 * 512)) us ((l1 + 1) * 512)) us 2 tl) 0 (us + 2) tl) us (2 + tl)))))), (a, .inl (cA, 32768, .inl (hj_B d)))] := hD.sub [0, 1, 2, 3, 5, 4] (by decide) rfl
  exact hret (hj_pn (va_cpy tp (hj_pn (hj_clr (va_cpy d pl (hj_hb h + f1 * 512) (f1 * 512) (us - f1 * 512)) us ((l1 + 1) * 512)) us 2 tl) 0 (us + 2) tl) (us + (2 + tl)) 4 (hj_chk (va_cpy tp (hj_pn (hj_clr (va_cpy d pl (hj_hb h + f1 * 512) (f1 * 512) (us - f1 * 512)) us ((l1 + 1) * 512)) us 2 tl) 0 (us + 2) tl) us (2 + tl))) _ _ _ _ d_J_planTape_125 (⟨hj_pn_bs hb4, hj_plan hf hend⟩) hP hK hD hS
abbrev rm_J_planUnmarked : Room := { frames := 32, cells := 0, slots := 0, locals := 400 }
set_option maxHeartbeats 4000000 in
set_option maxRecDepth 100000 in
theorem c_J_planUnmarked (l : Launch) (dC : Nat → ClassId) (dI : Nat → Nat → Nat) (j dk rc ta pa : Nat) (tl st g h : Nat) (a : Nat) (cA : ClassId) (d : Nat → Nat) (du wr : Int32) (sa la ma : Nat) (n us mm : Nat) (cS cL cM : ClassId) (fs fl fm : Nat → Int32) (cP : ClassId) (pl mk : Nat → Nat) (hh : h < 2) (hd : hj_bs d) (hn : n = hj_N d h) (hs : ∀ i, i < n → fs i = nI (hj_pos d h i)) (hl9 : ∀ i, i < n → fl i = nI (hj_rl d h (hj_pos d h i))) (hfm : ∀ i, i < n → fm i = nI (mk i)) (hm2 : ∀ i, mk i < 2) : hj_Mi l y_J_planUnmarked b_J_planUnmarked 4 .int rm_J_planUnmarked hj_EX (dC, dI) vwCl [(cS, .int), (cL, .int), (cM, .boolean), (cP, .byte), (cA, .byte)] [(j, .inr (2, [.ref dk, .ref rc, .ref ta, .ref pa, .int (nI tl), .int (nI st), .int (nI g), .int (nI h)])), (dk, .inr (0, [.ref a, .int du, .int wr])), (rc, .inr (1, [.ref sa, .ref la, .ref ma, .int (nI n), .int (nI us), .int (nI mm)])), (sa, .inl (cS, 1984, .inl fs)), (la, .inl (cL, 1984, .inl fl)), (ma, .inl (cM, 1984, .inl fm)), (pa, .inl (cP, 15872, .inl (hj_B pl))), (a, .inl (cA, 32768, .inl (hj_B d)))] [.ref j] (fun r _ => r = nI (hj_cto d h mk n)) (fun _ : Unit => [(j, .inr (2, [.ref dk, .ref rc, .ref ta, .ref pa, .int (nI tl), .int (nI st), .int (nI g), .int (nI h)])), (dk, .inr (0, [.ref a, .int du, .int wr])), (rc, .inr (1, [.ref sa, .ref la, .ref ma, .int (nI n), .int (nI us), .int (nI mm)])), (sa, .inl (cS, 1984, .inl fs)), (la, .inl (cL, 1984, .inl fl)), (ma, .inl (cM, 1984, .inl fm)), (pa, .inl (cP, 15872, .inl (hj_B (hj_cim d h mk n)))), (a, .inl (cA, 32768, .inl (hj_B d)))]) (fun _ => [(cS, .int), (cL, .int), (cM, .boolean), (cP, .byte), (cA, .byte)]) 0 0 := by
  refine hj_bodyI (by decide +kernel) (Nat.le_of_ble_eq_true rfl) ?_
  intro p e s m args below meth c A Q ls hx hb hts hown hml hA hP hK hD hE hl hret
  have hS : va_S A s.heap s.heap [] := va_S.rf
  have hown : s.vm.findClass "HalfJournal" = some m.cls := hown
  have hl : lv_has ls 4 [(0, .ref j)] := hl
  have hP : va_P (dC, dI) vwCl [(j, .inr (2, [.ref dk, .ref rc, .ref ta, .ref pa, .int (nI tl), .int (nI st), .int (nI g), .int (nI h)])), (dk, .inr (0, [.ref a, .int du, .int wr])), (rc, .inr (1, [.ref sa, .ref la, .ref ma, .int (nI n), .int (nI us), .int (nI mm)])), (sa, .inl (cS, 1984, .inl fs)), (la, .inl (cL, 1984, .inl fl)), (ma, .inl (cM, 1984, .inl fm)), (pa, .inl (cP, 15872, .inl (hj_B pl))), (a, .inl (cA, 32768, .inl (hj_B d)))] s.heap := hP
  have hD : va_D A [(j, .inr (2, [.ref dk, .ref rc, .ref ta, .ref pa, .int (nI tl), .int (nI st), .int (nI g), .int (nI h)])), (dk, .inr (0, [.ref a, .int du, .int wr])), (rc, .inr (1, [.ref sa, .ref la, .ref ma, .int (nI n), .int (nI us), .int (nI mm)])), (sa, .inl (cS, 1984, .inl fs)), (la, .inl (cL, 1984, .inl fl)), (ma, .inl (cM, 1984, .inl fm)), (pa, .inl (cP, 15872, .inl (hj_B pl))), (a, .inl (cA, 32768, .inl (hj_B d)))] := hD
  have hhb := hj_hb_le hh
  have hIs := hj_N_is d h
  rw [← hn] at hIs
  have hn84 : n ≤ 1984 := by rw [hn]; exact hj_N_le d h
  refine lv_aload_n hx hb d_J_planUnmarked_0 rfl (lv_at hl 0 rfl) ?_
  refine va_get (D := (dC, dI)) (ci := 2) (v := .ref pa) (C := "HalfJournal") (T := F_J) (N := 8) hx hb hts i_J hown hK hP 0 rfl rfl 3 (by decide) (hts _ m_87) (fun _ h9 => h9) rfl d_J_planUnmarked_1 ?_
  refine lv_iconst (v := nI 0) hx hb d_J_planUnmarked_4 (by decide) ?_
  refine lv_sipush (v := nI 15872) hx hb d_J_planUnmarked_5 (by decide) ?_
  refine hj_callv (wc := [(pa, .inl (cP, 15872, .inl (hj_B pl)))]) (wr := [(j, .inr (2, [.ref dk, .ref rc, .ref ta, .ref pa, .int (nI tl), .int (nI st), .int (nI g), .int (nI h)])), (dk, .inr (0, [.ref a, .int du, .int wr])), (rc, .inr (1, [.ref sa, .ref la, .ref ma, .int (nI n), .int (nI us), .int (nI mm)])), (sa, .inl (cS, 1984, .inl fs)), (la, .inl (cL, 1984, .inl fl)), (ma, .inl (cM, 1984, .inl fm)), (a, .inl (cA, 32768, .inl (hj_B d)))]) [6] [0, 1, 2, 3, 4, 5, 7] hP hD hS hA rfl rfl rfl (by decide) (va_runS (As := [.ref pa, .int (nI 0), .int (nI 15872)]) (rest := []) ⟨hx, hb, hml, hown, hts⟩ (c_J_clearBytes l dC dI pa cP 15872 pl 0 15872 (by omega) (by omega) (by omega) s.heap.size) (cwS 3 hts (hj_gS m_114 m_115 m_1 m_116) rfl rfl rfl (by decide +kernel) ⟨Nat.le_of_ble_eq_true rfl, Nat.le_of_ble_eq_true rfl⟩) (hj_preS hj_EXok hE hP hD hK hS hA [6] rfl rfl [3] rfl) rfl rfl hl.1 rfl (lv_room (Nat.le_of_ble_eq_true rfl)) d_J_planUnmarked_8 ⟨Nat.le_of_ble_eq_true rfl, Nat.le_of_ble_eq_true rfl⟩) (fun u_2 H locs hw hP hD hK1 hS => ?_)
  have hP : va_P (dC, dI) vwCl [(j, .inr (2, [.ref dk, .ref rc, .ref ta, .ref pa, .int (nI tl), .int (nI st), .int (nI g), .int (nI h)])), (dk, .inr (0, [.ref a, .int du, .int wr])), (rc, .inr (1, [.ref sa, .ref la, .ref ma, .int (nI n), .int (nI us), .int (nI mm)])), (sa, .inl (cS, 1984, .inl fs)), (la, .inl (cL, 1984, .inl fl)), (ma, .inl (cM, 1984, .inl fm)), (pa, .inl (cP, 15872, .inl (hj_B (hj_clr pl 0 15872)))), (a, .inl (cA, 32768, .inl (hj_B d)))] H := hP.sub [0, 1, 2, 3, 4, 5, 7, 6] rfl
  have hD : va_D A [(j, .inr (2, [.ref dk, .ref rc, .ref ta, .ref pa, .int (nI tl), .int (nI st), .int (nI g), .int (nI h)])), (dk, .inr (0, [.ref a, .int du, .int wr])), (rc, .inr (1, [.ref sa, .ref la, .ref ma, .int (nI n), .int (nI us), .int (nI mm)])), (sa, .inl (cS, 1984, .inl fs)), (la, .inl (cL, 1984, .inl fl)), (ma, .inl (cM, 1984, .inl fm)), (pa, .inl (cP, 15872, .inl (hj_B (hj_clr pl 0 15872)))), (a, .inl (cA, 32768, .inl (hj_B d)))] := hD.sub [0, 1, 2, 3, 4, 5, 7, 6] (by decide) rfl
  have h9 : ∀ j, j < 15872 → ((hj_clr pl 0 15872)) j = ((hj_cim d h mk 0)) j := fun j hj => if_pos ⟨Nat.zero_le _, hj⟩
  have hD := hD.set (p := 6) (e := .inl (cP, 15872, .inl (hj_B (hj_cim d h mk 0)))) rfl
  have hP := hj_arr hP 6 rfl (hj_B (hj_cim d h mk 0)) (fun j hj => congrArg sb_b (h9 j hj))
  have hP : va_P (dC, dI) vwCl [(j, .inr (2, [.ref dk, .ref rc, .ref ta, .ref pa, .int (nI tl), .int (nI st), .int (nI g), .int (nI h)])), (dk, .inr (0, [.ref a, .int du, .int wr])), (rc, .inr (1, [.ref sa, .ref la, .ref ma, .int (nI n), .int (nI us), .int (nI mm)])), (sa, .inl (cS, 1984, .inl fs)), (la, .inl (cL, 1984, .inl fl)), (ma, .inl (cM, 1984, .inl fm)), (pa, .inl (cP, 15872, .inl (hj_B (hj_cim d h mk 0)))), (a, .inl (cA, 32768, .inl (hj_B d)))] H := hP
  have hD : va_D A [(j, .inr (2, [.ref dk, .ref rc, .ref ta, .ref pa, .int (nI tl), .int (nI st), .int (nI g), .int (nI h)])), (dk, .inr (0, [.ref a, .int du, .int wr])), (rc, .inr (1, [.ref sa, .ref la, .ref ma, .int (nI n), .int (nI us), .int (nI mm)])), (sa, .inl (cS, 1984, .inl fs)), (la, .inl (cL, 1984, .inl fl)), (ma, .inl (cM, 1984, .inl fm)), (pa, .inl (cP, 15872, .inl (hj_B (hj_cim d h mk 0)))), (a, .inl (cA, 32768, .inl (hj_B d)))] := hD
  refine lv_iconst (v := nI 0) hx hb d_J_planUnmarked_11 (by decide) ?_
  refine hj_topn (b := hj_cto d h mk 0) (rfl) ?_
  refine lv_istore_n (lv' := [(1, .int (nI (hj_cto d h mk 0))), (0, .ref j)]) hx hb d_J_planUnmarked_12 rfl hl (by decide) rfl (fun ls hl => ?_)
  refine lv_iconst (v := nI 0) hx hb d_J_planUnmarked_13 (by decide) ?_
  refine lv_istore_n (lv' := [(2, .int (nI 0)), (1, .int (nI (hj_cto d h mk 0))), (0, .ref j)]) hx hb d_J_planUnmarked_14 rfl hl (by decide) rfl (fun ls hl => ?_)
  have lp : ∀ (n9_lp : Nat) (i : Nat), (i ≤ n) → (n - i) < n9_lp → ∀ (H : Heap) (locs : List Loc), va_P (dC, dI) vwCl [(j, .inr (2, [.ref dk, .ref rc, .ref ta, .ref pa, .int (nI tl), .int (nI st), .int (nI g), .int (nI h)])), (dk, .inr (0, [.ref a, .int du, .int wr])), (rc, .inr (1, [.ref sa, .ref la, .ref ma, .int (nI n), .int (nI us), .int (nI mm)])), (sa, .inl (cS, 1984, .inl fs)), (la, .inl (cL, 1984, .inl fl)), (ma, .inl (cM, 1984, .inl fm)), (pa, .inl (cP, 15872, .inl (hj_B (hj_cim d h mk i)))), (a, .inl (cA, 32768, .inl (hj_B d)))] H → va_D A [(j, .inr (2, [.ref dk, .ref rc, .ref ta, .ref pa, .int (nI tl), .int (nI st), .int (nI g), .int (nI h)])), (dk, .inr (0, [.ref a, .int du, .int wr])), (rc, .inr (1, [.ref sa, .ref la, .ref ma, .int (nI n), .int (nI us), .int (nI mm)])), (sa, .inl (cS, 1984, .inl fs)), (la, .inl (cL, 1984, .inl fl)), (ma, .inl (cM, 1984, .inl fm)), (pa, .inl (cP, 15872, .inl (hj_B (hj_cim d h mk i)))), (a, .inl (cA, 32768, .inl (hj_B d)))] → va_S A s.heap H locs → ∀ (ls : Array Slot), lv_has ls 4 [(0, .ref j), (1, .int (nI (hj_cto d h mk i))), (2, .int (nI i))] → W p l e rm_J_planUnmarked s m args below meth c H locs 0 0 Q (F0 m 15 ls []) := by
    intro n9_lp
    induction n9_lp with
    | zero =>
      intro i hi hm_lp
      exact absurd hm_lp (Nat.not_lt_zero _)
    | succ n9_lp ih_lp =>
      intro i hi hm_lp H locs hP hD hS ls hl
      refine lv_iload_n hx hb d_J_planUnmarked_15 rfl (lv_at hl 2 rfl) ?_
      refine lv_aload_n hx hb d_J_planUnmarked_16 rfl (lv_at hl 0 rfl) ?_
      refine va_get (D := (dC, dI)) (ci := 2) (v := .ref rc) (C := "HalfJournal") (T := F_J) (N := 8) hx hb hts i_J hown hK hP 0 rfl rfl 1 (by decide) (hts _ m_85) (fun _ h9 => h9) rfl d_J_planUnmarked_17 ?_
      refine va_getN (D := (dC, dI)) (ci := 1) (v := .int (nI n)) (C := "HalfJournal$Records") (T := F_R) (N := 6) hx hb hts i_R hown hK hP 2 rfl rfl 3 (by decide) (va_Nw.use rfl (hE.1 _ m_64)) (fun _ h9 => h9) rfl d_J_planUnmarked_20 ?_
      refine hj_icmp_ge (tgt := 106) hx hb (by omega) (by omega) d_J_planUnmarked_23 (by decide) (fun c_1 => ?_) (fun c_1 => ?_)
      · obtain rfl : i = n := by omega
        refine lv_iload_n hx hb d_J_planUnmarked_106 rfl (lv_at hl 1 rfl) ?_
        exact hret (nI (hj_cto d h mk i)) () _ _ _ _ d_J_planUnmarked_107 rfl (rfl) hP hK hD hS
      · have hr0 := hIs.1 i c_1
        obtain ⟨hr1, hr2, -⟩ := hj_rl_in hr0
        obtain ⟨-, hp2, -⟩ := hj_pos_in i (fun k hk => hIs.1 k (by omega))
        have hct := hj_cto_le d h mk i
        have hsz6 : hj_sz (hj_rl d h (hj_pos d h i)) = 6 + hj_rl d h (hj_pos d h i) + hj_rl d h (hj_pos d h i) % 2 := rfl
        have hmi := hm2 i
        refine lv_aload_n hx hb d_J_planUnmarked_26 rfl (lv_at hl 0 rfl) ?_
        refine va_get (D := (dC, dI)) (ci := 2) (v := .ref rc) (C := "HalfJournal") (T := F_J) (N := 8) hx hb hts i_J hown hK hP 0 rfl rfl 1 (by decide) (hts _ m_85) (fun _ h9 => h9) rfl d_J_planUnmarked_27 ?_
        refine va_getN (D := (dC, dI)) (ci := 1) (v := .ref ma) (C := "HalfJournal$Records") (T := F_R) (N := 6) hx hb hts i_R hown hK hP 2 rfl rfl 2 (by decide) (va_Nw.use rfl (hE.1 _ m_62)) (fun _ h9 => h9) rfl d_J_planUnmarked_30 ?_
        refine lv_iload_n hx hb d_J_planUnmarked_33 rfl (lv_at hl 2 rfl) ?_
        refine hj_zald (v := fm i) hx hb hK hP 5 2 rfl rfl (by omega) (by decide) rfl d_J_planUnmarked_34 ?_
        refine hj_topv (y := nI (mk i)) (hfm i c_1) ?_
        refine hj_if_ne (tgt := 100) hx hb (by omega) d_J_planUnmarked_35 (by decide) (fun c_2 => ?_) (fun c_2 => ?_)
        · have h9 : (hj_cim d h mk i : Nat → Nat) = hj_cim d h mk (i + 1) := (show hj_cim d h mk (i + 1) = _ from if_neg (by omega)).symm
          rw [h9] at hP hD
          have hP : va_P (dC, dI) vwCl [(j, .inr (2, [.ref dk, .ref rc, .ref ta, .ref pa, .int (nI tl), .int (nI st), .int (nI g), .int (nI h)])), (dk, .inr (0, [.ref a, .int du, .int wr])), (rc, .inr (1, [.ref sa, .ref la, .ref ma, .int (nI n), .int (nI us), .int (nI mm)])), (sa, .inl (cS, 1984, .inl fs)), (la, .inl (cL, 1984, .inl fl)), (ma, .inl (cM, 1984, .inl fm)), (pa, .inl (cP, 15872, .inl (hj_B (hj_cim d h mk (i + 1))))), (a, .inl (cA, 32768, .inl (hj_B d)))] H := hP
          have hD : va_D A [(j, .inr (2, [.ref dk, .ref rc, .ref ta, .ref pa, .int (nI tl), .int (nI st), .int (nI g), .int (nI h)])), (dk, .inr (0, [.ref a, .int du, .int wr])), (rc, .inr (1, [.ref sa, .ref la, .ref ma, .int (nI n), .int (nI us), .int (nI mm)])), (sa, .inl (cS, 1984, .inl fs)), (la, .inl (cL, 1984, .inl fl)), (ma, .inl (cM, 1984, .inl fm)), (pa, .inl (cP, 15872, .inl (hj_B (hj_cim d h mk (i + 1))))), (a, .inl (cA, 32768, .inl (hj_B d)))] := hD
          refine lv_iinc (v := nI (i + 1)) (lv' := [(2, .int (nI (i + 1))), (0, .ref j), (1, .int (nI (hj_cto d h mk i)))]) hx hb d_J_planUnmarked_100 hl (k := 2) rfl (nI_1 _) (by decide) rfl (fun ls hl => ?_)
          refine lv_goto (tgt := 15) hx hb d_J_planUnmarked_103 (by decide) ?_
          have h8 : hj_cto d h mk i = hj_cto d h mk (i + 1) := (show hj_cto d h mk (i + 1) = _ from if_neg (by omega)).symm
          rw [h8] at hl
          exact ih_lp (i + 1) (by omega) (by omega) _ _ hP hD hS _ (lv_sub hl [1, 2, 0] rfl)
        · refine lv_iconst (v := nI 2) hx hb d_J_planUnmarked_38 (by decide) ?_
          refine lv_aload_n hx hb d_J_planUnmarked_39 rfl (lv_at hl 0 rfl) ?_
          refine va_get (D := (dC, dI)) (ci := 2) (v := .ref rc) (C := "HalfJournal") (T := F_J) (N := 8) hx hb hts i_J hown hK hP 0 rfl rfl 1 (by decide) (hts _ m_85) (fun _ h9 => h9) rfl d_J_planUnmarked_40 ?_
          refine va_getN (D := (dC, dI)) (ci := 1) (v := .ref la) (C := "HalfJournal$Records") (T := F_R) (N := 6) hx hb hts i_R hown hK hP 2 rfl rfl 1 (by decide) (va_Nw.use rfl (hE.1 _ m_60)) (fun _ h9 => h9) rfl d_J_planUnmarked_43 ?_
          refine lv_iload_n hx hb d_J_planUnmarked_46 rfl (lv_at hl 2 rfl) ?_
          refine hj_iald (v := fl i) hx hb hK hP 4 1 rfl rfl (by omega) (by decide) rfl d_J_planUnmarked_47 ?_
          refine hj_topv (y := nI (hj_rl d h (hj_pos d h i))) (hl9 i c_1) ?_
          refine hj_iadd hx hb d_J_planUnmarked_48 ?_
          refine lv_iconst (v := nI 4) hx hb d_J_planUnmarked_49 (by decide) ?_
          refine hj_iadd hx hb d_J_planUnmarked_50 ?_
          refine lv_istore_n (lv' := [(3, .int (nI ((2 + (hj_rl d h (hj_pos d h i))) + 4))), (0, .ref j), (1, .int (nI (hj_cto d h mk i))), (2, .int (nI i))]) hx hb d_J_planUnmarked_51 rfl hl (by decide) rfl (fun ls hl => ?_)
          refine lv_aload_n hx hb d_J_planUnmarked_52 rfl (lv_at hl 1 rfl) ?_
          refine va_get (D := (dC, dI)) (ci := 2) (v := .ref dk) (C := "HalfJournal") (T := F_J) (N := 8) hx hb hts i_J hown hK hP 0 rfl rfl 0 (by decide) (hts _ m_84) (fun _ h9 => h9) rfl d_J_planUnmarked_53 ?_
          refine va_getN (D := (dC, dI)) (ci := 0) (v := .ref a) (C := "HalfJournal$Disk") (T := F_D) (N := 3) hx hb hts i_D hown hK hP 1 rfl rfl 0 (by decide) (va_Nw.use rfl (hE.1 _ m_38)) (fun _ h9 => h9) rfl d_J_planUnmarked_56 ?_
          refine lv_aload_n hx hb d_J_planUnmarked_59 rfl (lv_at hl 1 rfl) ?_
          refine va_get (D := (dC, dI)) (ci := 2) (v := .int (nI h)) (C := "HalfJournal") (T := F_J) (N := 8) hx hb hts i_J hown hK hP 0 rfl rfl 7 (by decide) (hts _ m_91) (fun _ h9 => h9) rfl d_J_planUnmarked_60 ?_
          refine hj_calli (wc := []) (wr := [(j, .inr (2, [.ref dk, .ref rc, .ref ta, .ref pa, .int (nI tl), .int (nI st), .int (nI g), .int (nI h)])), (dk, .inr (0, [.ref a, .int du, .int wr])), (rc, .inr (1, [.ref sa, .ref la, .ref ma, .int (nI n), .int (nI us), .int (nI mm)])), (sa, .inl (cS, 1984, .inl fs)), (la, .inl (cL, 1984, .inl fl)), (ma, .inl (cM, 1984, .inl fm)), (pa, .inl (cP, 15872, .inl (hj_B (hj_cim d h mk i)))), (a, .inl (cA, 32768, .inl (hj_B d)))]) [] [0, 1, 2, 3, 4, 5, 6, 7] hP hD hS hA rfl rfl rfl (by decide) (va_runS (As := [.int (nI h)]) (rest := [.ref a]) ⟨hx, hb, hml, hown, hts⟩ (c_J_firstByteOf l dC dI h H.size) (cwS 1 hts (hj_gS m_462 m_463 m_1 m_464) rfl rfl rfl (by decide +kernel) ⟨Nat.le_of_ble_eq_true rfl, Nat.le_of_ble_eq_true rfl⟩) (hj_preS hj_EXok hE hP hD hK hS hA [] rfl rfl [] rfl) rfl rfl hl.1 rfl (lv_room (Nat.le_of_ble_eq_true rfl)) d_J_planUnmarked_63 ⟨Nat.le_of_ble_eq_true rfl, Nat.le_of_ble_eq_true rfl⟩) (fun r_3 u_4 H locs hw hP hD hK1 hS => ?_)
          subst hw
          have hP : va_P (dC, dI) vwCl [(j, .inr (2, [.ref dk, .ref rc, .ref ta, .ref pa, .int (nI tl), .int (nI st), .int (nI g), .int (nI h)])), (dk, .inr (0, [.ref a, .int du, .int wr])), (rc, .inr (1, [.ref sa, .ref la, .ref ma, .int (nI n), .int (nI us), .int (nI mm)])), (sa, .inl (cS, 1984, .inl fs)), (la, .inl (cL, 1984, .inl fl)), (ma, .inl (cM, 1984, .inl fm)), (pa, .inl (cP, 15872, .inl (hj_B (hj_cim d h mk i)))), (a, .inl (cA, 32768, .inl (hj_B d)))] H := hP.sub [0, 1, 2, 3, 4, 5, 6, 7] rfl
          have hD : va_D A [(j, .inr (2, [.ref dk, .ref rc, .ref ta, .ref pa, .int (nI tl), .int (nI st), .int (nI g), .int (nI h)])), (dk, .inr (0, [.ref a, .int du, .int wr])), (rc, .inr (1, [.ref sa, .ref la, .ref ma, .int (nI n), .int (nI us), .int (nI mm)])), (sa, .inl (cS, 1984, .inl fs)), (la, .inl (cL, 1984, .inl fl)), (ma, .inl (cM, 1984, .inl fm)), (pa, .inl (cP, 15872, .inl (hj_B (hj_cim d h mk i)))), (a, .inl (cA, 32768, .inl (hj_B d)))] := hD.sub [0, 1, 2, 3, 4, 5, 6, 7] (by decide) rfl
          refine lv_aload_n hx hb d_J_planUnmarked_66 rfl (lv_at hl 1 rfl) ?_
          refine va_get (D := (dC, dI)) (ci := 2) (v := .ref rc) (C := "HalfJournal") (T := F_J) (N := 8) hx hb hts i_J hown hK hP 0 rfl rfl 1 (by decide) (hts _ m_85) (fun _ h9 => h9) rfl d_J_planUnmarked_67 ?_
          refine va_getN (D := (dC, dI)) (ci := 1) (v := .ref sa) (C := "HalfJournal$Records") (T := F_R) (N := 6) hx hb hts i_R hown hK hP 2 rfl rfl 0 (by decide) (va_Nw.use rfl (hE.1 _ m_58)) (fun _ h9 => h9) rfl d_J_planUnmarked_70 ?_
          refine lv_iload_n hx hb d_J_planUnmarked_73 rfl (lv_at hl 3 rfl) ?_
          refine hj_iald (v := fs i) hx hb hK hP 3 0 rfl rfl (by omega) (by decide) rfl d_J_planUnmarked_74 ?_
          refine hj_topv (y := nI (hj_pos d h i)) (hs i c_1) ?_
          refine hj_iadd hx hb d_J_planUnmarked_75 ?_
          refine lv_aload_n hx hb d_J_planUnmarked_76 rfl (lv_at hl 1 rfl) ?_
          refine va_get (D := (dC, dI)) (ci := 2) (v := .ref pa) (C := "HalfJournal") (T := F_J) (N := 8) hx hb hts i_J hown hK hP 0 rfl rfl 3 (by decide) (hts _ m_87) (fun _ h9 => h9) rfl d_J_planUnmarked_77 ?_
          refine lv_iload_n hx hb d_J_planUnmarked_80 rfl (lv_at hl 2 rfl) ?_
          refine lv_iload_n hx hb d_J_planUnmarked_81 rfl (lv_at hl 0 rfl) ?_
          refine hj_callv (wc := [(a, .inl (cA, 32768, .inl (hj_B d))), (pa, .inl (cP, 15872, .inl (hj_B (hj_cim d h mk i))))]) (wr := [(j, .inr (2, [.ref dk, .ref rc, .ref ta, .ref pa, .int (nI tl), .int (nI st), .int (nI g), .int (nI h)])), (dk, .inr (0, [.ref a, .int du, .int wr])), (rc, .inr (1, [.ref sa, .ref la, .ref ma, .int (nI n), .int (nI us), .int (nI mm)])), (sa, .inl (cS, 1984, .inl fs)), (la, .inl (cL, 1984, .inl fl)), (ma, .inl (cM, 1984, .inl fm))]) [7, 6] [0, 1, 2, 3, 4, 5] hP hD hS hA rfl rfl rfl (by decide) (va_runS (As := [.ref a, .int (nI ((hj_hb h) + (hj_pos d h i))), .ref pa, .int (nI (hj_cto d h mk i)), .int (nI ((2 + (hj_rl d h (hj_pos d h i))) + 4))]) (rest := []) ⟨hx, hb, hml, hown, hts⟩ (c_J_copyBytes l dC dI a cA 32768 d pa cP 15872 (hj_cim d h mk i) (hj_hb h + hj_pos d h i) (hj_cto d h mk i) (2 + hj_rl d h (hj_pos d h i) + 4) (by omega) (by omega) (by omega) (by omega) H.size) (cwS 5 hts (hj_gS m_604 m_605 m_1 m_606) rfl rfl rfl (by decide +kernel) ⟨Nat.le_of_ble_eq_true rfl, Nat.le_of_ble_eq_true rfl⟩) (hj_preS hj_EXok hE hP hD hK hS hA [7, 6] rfl rfl [4, 3] rfl) rfl rfl hl.1 rfl (lv_room (Nat.le_of_ble_eq_true rfl)) d_J_planUnmarked_82 ⟨Nat.le_of_ble_eq_true rfl, Nat.le_of_ble_eq_true rfl⟩) (fun u_6 H locs hw hP hD hK1 hS => ?_)
          have hP : va_P (dC, dI) vwCl [(j, .inr (2, [.ref dk, .ref rc, .ref ta, .ref pa, .int (nI tl), .int (nI st), .int (nI g), .int (nI h)])), (dk, .inr (0, [.ref a, .int du, .int wr])), (rc, .inr (1, [.ref sa, .ref la, .ref ma, .int (nI n), .int (nI us), .int (nI mm)])), (sa, .inl (cS, 1984, .inl fs)), (la, .inl (cL, 1984, .inl fl)), (ma, .inl (cM, 1984, .inl fm)), (pa, .inl (cP, 15872, .inl (hj_B (va_cpy d (hj_cim d h mk i) (hj_hb h + hj_pos d h i) (hj_cto d h mk i) (2 + hj_rl d h (hj_pos d h i) + 4))))), (a, .inl (cA, 32768, .inl (hj_B d)))] H := hP.sub [0, 1, 2, 3, 4, 5, 7, 6] rfl
          have hD : va_D A [(j, .inr (2, [.ref dk, .ref rc, .ref ta, .ref pa, .int (nI tl), .int (nI st), .int (nI g), .int (nI h)])), (dk, .inr (0, [.ref a, .int du, .int wr])), (rc, .inr (1, [.ref sa, .ref la, .ref ma, .int (nI n), .int (nI us), .int (nI mm)])), (sa, .inl (cS, 1984, .inl fs)), (la, .inl (cL, 1984, .inl fl)), (ma, .inl (cM, 1984, .inl fm)), (pa, .inl (cP, 15872, .inl (hj_B (va_cpy d (hj_cim d h mk i) (hj_hb h + hj_pos d h i) (hj_cto d h mk i) (2 + hj_rl d h (hj_pos d h i) + 4))))), (a, .inl (cA, 32768, .inl (hj_B d)))] := hD.sub [0, 1, 2, 3, 4, 5, 7, 6] (by decide) rfl
          have h9 : (va_cpy d (hj_cim d h mk i) (hj_hb h + hj_pos d h i) (hj_cto d h mk i) (2 + hj_rl d h (hj_pos d h i) + 4) : Nat → Nat) = hj_cim d h mk (i + 1) := by rw [show 2 + hj_rl d h (hj_pos d h i) + 4 = 6 + hj_rl d h (hj_pos d h i) by omega]; exact (show hj_cim d h mk (i + 1) = _ from if_pos (by omega)).symm
          rw [h9] at hP hD
          have hP : va_P (dC, dI) vwCl [(j, .inr (2, [.ref dk, .ref rc, .ref ta, .ref pa, .int (nI tl), .int (nI st), .int (nI g), .int (nI h)])), (dk, .inr (0, [.ref a, .int du, .int wr])), (rc, .inr (1, [.ref sa, .ref la, .ref ma, .int (nI n), .int (nI us), .int (nI mm)])), (sa, .inl (cS, 1984, .inl fs)), (la, .inl (cL, 1984, .inl fl)), (ma, .inl (cM, 1984, .inl fm)), (pa, .inl (cP, 15872, .inl (hj_B (hj_cim d h mk (i + 1))))), (a, .inl (cA, 32768, .inl (hj_B d)))] H := hP
          have hD : va_D A [(j, .inr (2, [.ref dk, .ref rc, .ref ta, .ref pa, .int (nI tl), .int (nI st), .int (nI g), .int (nI h)])), (dk, .inr (0, [.ref a, .int du, .int wr])), (rc, .inr (1, [.ref sa, .ref la, .ref ma, .int (nI n), .int (nI us), .int (nI mm)])), (sa, .inl (cS, 1984, .inl fs)), (la, .inl (cL, 1984, .inl fl)), (ma, .inl (cM, 1984, .inl fm)), (pa, .inl (cP, 15872, .inl (hj_B (hj_cim d h mk (i + 1))))), (a, .inl (cA, 32768, .inl (hj_B d)))] := hD
          refine lv_iload_n hx hb d_J_planUnmarked_85 rfl (lv_at hl 2 rfl) ?_
          refine lv_aload_n hx hb d_J_planUnmarked_86 rfl (lv_at hl 1 rfl) ?_
          refine va_get (D := (dC, dI)) (ci := 2) (v := .ref rc) (C := "HalfJournal") (T := F_J) (N := 8) hx hb hts i_J hown hK hP 0 rfl rfl 1 (by decide) (hts _ m_85) (fun _ h9 => h9) rfl d_J_planUnmarked_87 ?_
          refine va_getN (D := (dC, dI)) (ci := 1) (v := .ref la) (C := "HalfJournal$Records") (T := F_R) (N := 6) hx hb hts i_R hown hK hP 2 rfl rfl 1 (by decide) (va_Nw.use rfl (hE.1 _ m_60)) (fun _ h9 => h9) rfl d_J_planUnmarked_90 ?_
          refine lv_iload_n hx hb d_J_planUnmarked_93 rfl (lv_at hl 3 rfl) ?_
          refine hj_iald (v := fl i) hx hb hK hP 4 1 rfl rfl (by omega) (by decide) rfl d_J_planUnmarked_94 ?_
          refine hj_topv (y := nI (hj_rl d h (hj_pos d h i))) (hl9 i c_1) ?_
          refine hj_calli (wc := []) (wr := [(j, .inr (2, [.ref dk, .ref rc, .ref ta, .ref pa, .int (nI tl), .int (nI st), .int (nI g), .int (nI h)])), (dk, .inr (0, [.ref a, .int du, .int wr])), (rc, .inr (1, [.ref sa, .ref la, .ref ma, .int (nI n), .int (nI us), .int (nI mm)])), (sa, .inl (cS, 1984, .inl fs)), (la, .inl (cL, 1984, .inl fl)), (ma, .inl (cM, 1984, .inl fm)), (pa, .inl (cP, 15872, .inl (hj_B (hj_cim d h mk (i + 1))))), (a, .inl (cA, 32768, .inl (hj_B d)))]) [] [0, 1, 2, 3, 4, 5, 6, 7] hP hD hS hA rfl rfl rfl (by decide) (va_runS (As := [.int (nI (hj_rl d h (hj_pos d h i)))]) (rest := [.int (nI (hj_cto d h mk i))]) ⟨hx, hb, hml, hown, hts⟩ (c_J_sizeOf l dC dI (hj_rl d h (hj_pos d h i)) (by omega) H.size) (cwS 1 hts (hj_gS m_471 m_472 m_1 m_473) rfl rfl rfl (by decide +kernel) ⟨Nat.le_of_ble_eq_true rfl, Nat.le_of_ble_eq_true rfl⟩) (hj_preS hj_EXok hE hP hD hK hS hA [] rfl rfl [] rfl) rfl rfl hl.1 rfl (lv_room (Nat.le_of_ble_eq_true rfl)) d_J_planUnmarked_95 ⟨Nat.le_of_ble_eq_true rfl, Nat.le_of_ble_eq_true rfl⟩) (fun r_7 u_8 H locs hw hP hD hK1 hS => ?_)
          subst hw
          have hP : va_P (dC, dI) vwCl [(j, .inr (2, [.ref dk, .ref rc, .ref ta, .ref pa, .int (nI tl), .int (nI st), .int (nI g), .int (nI h)])), (dk, .inr (0, [.ref a, .int du, .int wr])), (rc, .inr (1, [.ref sa, .ref la, .ref ma, .int (nI n), .int (nI us), .int (nI mm)])), (sa, .inl (cS, 1984, .inl fs)), (la, .inl (cL, 1984, .inl fl)), (ma, .inl (cM, 1984, .inl fm)), (pa, .inl (cP, 15872, .inl (hj_B (hj_cim d h mk (i + 1))))), (a, .inl (cA, 32768, .inl (hj_B d)))] H := hP.sub [0, 1, 2, 3, 4, 5, 6, 7] rfl
          have hD : va_D A [(j, .inr (2, [.ref dk, .ref rc, .ref ta, .ref pa, .int (nI tl), .int (nI st), .int (nI g), .int (nI h)])), (dk, .inr (0, [.ref a, .int du, .int wr])), (rc, .inr (1, [.ref sa, .ref la, .ref ma, .int (nI n), .int (nI us), .int (nI mm)])), (sa, .inl (cS, 1984, .inl fs)), (la, .inl (cL, 1984, .inl fl)), (ma, .inl (cM, 1984, .inl fm)), (pa, .inl (cP, 15872, .inl (hj_B (hj_cim d h mk (i + 1))))), (a, .inl (cA, 32768, .inl (hj_B d)))] := hD.sub [0, 1, 2, 3, 4, 5, 6, 7] (by decide) rfl
          refine hj_iadd hx hb d_J_planUnmarked_98 ?_
          refine hj_topn (b := hj_cto d h mk (i + 1)) ((show hj_cto d h mk (i + 1) = _ from if_pos (by omega)).symm) ?_
          refine lv_istore_n (lv' := [(1, .int (nI (hj_cto d h mk (i + 1)))), (3, .int (nI ((2 + (hj_rl d h (hj_pos d h i))) + 4))), (0, .ref j), (2, .int (nI i))]) hx hb d_J_planUnmarked_99 rfl hl (by decide) rfl (fun ls hl => ?_)
          refine lv_iinc (v := nI (i + 1)) (lv' := [(2, .int (nI (i + 1))), (1, .int (nI (hj_cto d h mk (i + 1)))), (3, .int (nI ((2 + (hj_rl d h (hj_pos d h i))) + 4))), (0, .ref j)]) hx hb d_J_planUnmarked_100 hl (k := 3) rfl (nI_1 _) (by decide) rfl (fun ls hl => ?_)
          refine lv_goto (tgt := 15) hx hb d_J_planUnmarked_103 (by decide) ?_
          exact ih_lp (i + 1) (by omega) (by omega) _ _ hP hD hS _ (lv_sub hl [3, 1, 0] rfl)
  exact lp _ 0 (Nat.zero_le _) (Nat.lt_succ_self _) _ _ hP hD hS _ (lv_sub hl [2, 1, 0] rfl)
abbrev rm_J_writeLastFirst : Room := { frames := 32, cells := 0, slots := 0, locals := 400 }
set_option maxHeartbeats 4000000 in
set_option maxRecDepth 100000 in
theorem c_J_writeLastFirst (l : Launch) (dC : Nat → ClassId) (dI : Nat → Nat → Nat) (j dk rc ta pa : Nat) (tl st g h : Nat) (a : Nat) (cA : ClassId) (d : Nat → Nat) (du wr : Int32) (cP : ClassId) (pl : Nat → Nat) (f1 l1 : Nat) (hh : h < 2) (hf : f1 ≤ l1) (hl1 : l1 ≤ 30) : hj_Mi l y_J_writeLastFirst b_J_writeLastFirst 4 .boolean rm_J_writeLastFirst hj_EX (dC, dI) vwCl [(cP, .byte), (cA, .byte)] [(j, .inr (2, [.ref dk, .ref rc, .ref ta, .ref pa, .int (nI tl), .int (nI st), .int (nI g), .int (nI h)])), (dk, .inr (0, [.ref a, .int du, .int wr])), (pa, .inl (cP, 15872, .inl (hj_B pl))), (a, .inl (cA, 32768, .inl (hj_B d)))] [.ref j, .int (nI f1), .int (nI l1)] (fun r u => ((hj_wdn pl (2 + h * 31) f1 (l1 + 1 - f1) d du wr).1 = true ∧ r = nI 1 ∨ (hj_wdn pl (2 + h * 31) f1 (l1 + 1 - f1) d du wr).1 = false ∧ r = nI 0) ∧ u.1 = (hj_wdn pl (2 + h * 31) f1 (l1 + 1 - f1) d du wr).2.1 ∧ u.2.1 = (hj_wdn pl (2 + h * 31) f1 (l1 + 1 - f1) d du wr).2.2.1 ∧ u.2.2 = (hj_wdn pl (2 + h * 31) f1 (l1 + 1 - f1) d du wr).2.2.2) (fun u : (Nat → Nat) × Int32 × Int32 => [(j, .inr (2, [.ref dk, .ref rc, .ref ta, .ref pa, .int (nI tl), .int (nI st), .int (nI g), .int (nI h)])), (dk, .inr (0, [.ref a, .int u.2.1, .int u.2.2])), (pa, .inl (cP, 15872, .inl (hj_B pl))), (a, .inl (cA, 32768, .inl (hj_B u.1)))]) (fun _ => [(cP, .byte), (cA, .byte)]) 0 0 := by
  refine hj_bodyI (by decide +kernel) (Nat.le_of_ble_eq_true rfl) ?_
  intro p e s m args below meth c A Q ls hx hb hts hown hml hA hP hK hD hE hl hret
  have hS : va_S A s.heap s.heap [] := va_S.rf
  have hown : s.vm.findClass "HalfJournal" = some m.cls := hown
  have hl : lv_has ls 4 [(0, .ref j), (1, .int (nI f1)), (2, .int (nI l1))] := hl
  have hP : va_P (dC, dI) vwCl [(j, .inr (2, [.ref dk, .ref rc, .ref ta, .ref pa, .int (nI tl), .int (nI st), .int (nI g), .int (nI h)])), (dk, .inr (0, [.ref a, .int du, .int wr])), (pa, .inl (cP, 15872, .inl (hj_B pl))), (a, .inl (cA, 32768, .inl (hj_B d)))] s.heap := hP
  have hD : va_D A [(j, .inr (2, [.ref dk, .ref rc, .ref ta, .ref pa, .int (nI tl), .int (nI st), .int (nI g), .int (nI h)])), (dk, .inr (0, [.ref a, .int du, .int wr])), (pa, .inl (cP, 15872, .inl (hj_B pl))), (a, .inl (cA, 32768, .inl (hj_B d)))] := hD
  refine lv_iload_n hx hb d_J_writeLastFirst_0 rfl (lv_at hl 2 rfl) ?_
  have h8 : nI l1 = nI (f1 + (l1 + 1 - f1)) - 1 := by rw [show f1 + (l1 + 1 - f1) = l1 + 1 by omega, nI_pred]
  refine hj_topv (y := nI (f1 + (l1 + 1 - f1)) - 1) (h8) ?_
  refine lv_istore_n (lv' := [(3, .int (nI (f1 + (l1 + 1 - f1)) - 1)), (0, .ref j), (1, .int (nI f1)), (2, .int (nI l1))]) hx hb d_J_writeLastFirst_1 rfl hl (by decide) rfl (fun ls hl => ?_)
  have lp : ∀ (n9_lp : Nat) (y : Nat) (d1 : Nat → Nat) (du1 : Int32) (wr1 : Int32), (y ≤ l1 + 1 - f1) → (hj_wdn pl (2 + h * 31) f1 y d1 du1 wr1 = hj_wdn pl (2 + h * 31) f1 (l1 + 1 - f1) d du wr) → y < n9_lp → ∀ (H : Heap) (locs : List Loc), va_P (dC, dI) vwCl [(j, .inr (2, [.ref dk, .ref rc, .ref ta, .ref pa, .int (nI tl), .int (nI st), .int (nI g), .int (nI h)])), (dk, .inr (0, [.ref a, .int du1, .int wr1])), (pa, .inl (cP, 15872, .inl (hj_B pl))), (a, .inl (cA, 32768, .inl (hj_B d1)))] H → va_D A [(j, .inr (2, [.ref dk, .ref rc, .ref ta, .ref pa, .int (nI tl), .int (nI st), .int (nI g), .int (nI h)])), (dk, .inr (0, [.ref a, .int du1, .int wr1])), (pa, .inl (cP, 15872, .inl (hj_B pl))), (a, .inl (cA, 32768, .inl (hj_B d1)))] → va_S A s.heap H locs → ∀ (ls : Array Slot), lv_has ls 4 [(0, .ref j), (1, .int (nI f1)), (3, .int (nI (f1 + y) - 1))] → W p l e rm_J_writeLastFirst s m args below meth c H locs 0 0 Q (F0 m 2 ls []) := by
    intro n9_lp
    induction n9_lp with
    | zero =>
      intro y d1 du1 wr1 hy hinv hm_lp
      exact absurd hm_lp (Nat.not_lt_zero _)
    | succ n9_lp ih_lp =>
      intro y d1 du1 wr1 hy hinv hm_lp H locs hP hD hS ls hl
      rcases y with _ | y
      · have hinv : (true, d1, du1, wr1) = hj_wdn pl (2 + h * 31) f1 (l1 + 1 - f1) d du wr := hinv
        refine lv_iload_n hx hb d_J_writeLastFirst_2 rfl (lv_at hl 2 rfl) ?_
        refine lv_iload_n hx hb d_J_writeLastFirst_3 rfl (lv_at hl 1 rfl) ?_
        refine lv_icmp_lt (tgt := 43) hx hb d_J_writeLastFirst_4 (by decide) (fun c_1 => ?_) (fun c_1 => ?_)
        · refine lv_iconst (v := nI 1) hx hb d_J_writeLastFirst_43 (by decide) ?_
          rw [← hinv] at hret
          exact hret (nI 1) (d1, du1, wr1) _ _ _ _ d_J_writeLastFirst_44 rfl (⟨Or.inl ⟨rfl, rfl⟩, rfl, rfl, rfl⟩) hP hK hD hS
        · exact absurd (hj_m1_lt (by omega)) c_1
      · rw [show f1 + (y + 1) = f1 + y + 1 from rfl, nI_pred] at hl
        refine lv_iload_n hx hb d_J_writeLastFirst_2 rfl (lv_at hl 2 rfl) ?_
        refine lv_iload_n hx hb d_J_writeLastFirst_3 rfl (lv_at hl 1 rfl) ?_
        refine hj_icmp_lt (tgt := 43) hx hb (by omega) (by omega) d_J_writeLastFirst_4 (by decide) (fun c_1 => ?_) (fun c_1 => ?_)
        · omega
        · refine lv_aload_n hx hb d_J_writeLastFirst_7 rfl (lv_at hl 0 rfl) ?_
          refine va_get (D := (dC, dI)) (ci := 2) (v := .ref dk) (C := "HalfJournal") (T := F_J) (N := 8) hx hb hts i_J hown hK hP 0 rfl rfl 0 (by decide) (hts _ m_84) (fun _ h9 => h9) rfl d_J_writeLastFirst_8 ?_
          refine lv_aload_n hx hb d_J_writeLastFirst_11 rfl (lv_at hl 0 rfl) ?_
          refine va_get (D := (dC, dI)) (ci := 2) (v := .int (nI h)) (C := "HalfJournal") (T := F_J) (N := 8) hx hb hts i_J hown hK hP 0 rfl rfl 7 (by decide) (hts _ m_91) (fun _ h9 => h9) rfl d_J_writeLastFirst_12 ?_
          refine hj_calli (wc := []) (wr := [(j, .inr (2, [.ref dk, .ref rc, .ref ta, .ref pa, .int (nI tl), .int (nI st), .int (nI g), .int (nI h)])), (dk, .inr (0, [.ref a, .int du1, .int wr1])), (pa, .inl (cP, 15872, .inl (hj_B pl))), (a, .inl (cA, 32768, .inl (hj_B d1)))]) [] [0, 1, 2, 3] hP hD hS hA rfl rfl rfl (by decide) (va_runS (As := [.int (nI h)]) (rest := [.ref dk]) ⟨hx, hb, hml, hown, hts⟩ (c_J_firstBlockOf l dC dI h H.size) (cwS 1 hts (hj_gS m_465 m_466 m_1 m_467) rfl rfl rfl (by decide +kernel) ⟨Nat.le_of_ble_eq_true rfl, Nat.le_of_ble_eq_true rfl⟩) (hj_preS hj_EXok hE hP hD hK hS hA [] rfl rfl [] rfl) rfl rfl hl.1 rfl (lv_room (Nat.le_of_ble_eq_true rfl)) d_J_writeLastFirst_15 ⟨Nat.le_of_ble_eq_true rfl, Nat.le_of_ble_eq_true rfl⟩) (fun r_1 u_2 H locs hw hP hD hK1 hS => ?_)
          subst hw
          have hP : va_P (dC, dI) vwCl [(j, .inr (2, [.ref dk, .ref rc, .ref ta, .ref pa, .int (nI tl), .int (nI st), .int (nI g), .int (nI h)])), (dk, .inr (0, [.ref a, .int du1, .int wr1])), (pa, .inl (cP, 15872, .inl (hj_B pl))), (a, .inl (cA, 32768, .inl (hj_B d1)))] H := hP.sub [0, 1, 2, 3] rfl
          have hD : va_D A [(j, .inr (2, [.ref dk, .ref rc, .ref ta, .ref pa, .int (nI tl), .int (nI st), .int (nI g), .int (nI h)])), (dk, .inr (0, [.ref a, .int du1, .int wr1])), (pa, .inl (cP, 15872, .inl (hj_B pl))), (a, .inl (cA, 32768, .inl (hj_B d1)))] := hD.sub [0, 1, 2, 3] (by decide) rfl
          refine lv_iload_n hx hb d_J_writeLastFirst_18 rfl (lv_at hl 2 rfl) ?_
          refine hj_iadd hx hb d_J_writeLastFirst_19 ?_
          refine lv_aload_n hx hb d_J_writeLastFirst_20 rfl (lv_at hl 0 rfl) ?_
          refine va_get (D := (dC, dI)) (ci := 2) (v := .ref pa) (C := "HalfJournal") (T := F_J) (N := 8) hx hb hts i_J hown hK hP 0 rfl rfl 3 (by decide) (hts _ m_87) (fun _ h9 => h9) rfl d_J_writeLastFirst_21 ?_
          refine lv_iload_n hx hb d_J_writeLastFirst_24 rfl (lv_at hl 2 rfl) ?_
          refine lv_sipush (v := nI 512) hx hb d_J_writeLastFirst_25 (by decide) ?_
          refine hj_imul hx hb d_J_writeLastFirst_28 ?_
          refine hj_calli (wc := [(dk, .inr (0, [.ref a, .int du1, .int wr1])), (a, .inl (cA, 32768, .inl (hj_B d1))), (pa, .inl (cP, 15872, .inl (hj_B pl)))]) (wr := [(j, .inr (2, [.ref dk, .ref rc, .ref ta, .ref pa, .int (nI tl), .int (nI st), .int (nI g), .int (nI h)]))]) [1, 3, 2] [0] hP hD hS hA rfl rfl rfl (by decide) (va_runVN (As := [.int (nI ((2 + h * 31) + (f1 + y))), .ref pa, .int (nI ((f1 + y) * 512))]) (rest := []) ⟨hx, hb, hml, hown, hts⟩ (c_D_write l dC dI dk a cA d1 du1 wr1 pa cP 15872 pl (2 + h * 31 + (f1 + y)) ((f1 + y) * 512) (by omega) (by omega) (by omega) H.size) ⟨va_cnB 3 hts (hj_gC m_615) rfl rfl rfl (hE.1 _ m_612) (hts _ m_2) (by decide +kernel) ⟨Nat.le_of_ble_eq_true rfl, Nat.le_of_ble_eq_true rfl⟩, hts _ m_614, hts _ s_D_write⟩ (hj_preV (ci := 0) (q0 := 1) hj_EXok hE hP hD hK hS hA [1, 3, 2] rfl rfl [1, 0] rfl rfl rfl) rfl rfl hl.1 rfl (lv_room (Nat.le_of_ble_eq_true rfl)) d_J_writeLastFirst_29 ⟨Nat.le_of_ble_eq_true rfl, Nat.le_of_ble_eq_true rfl⟩) (fun r_3 u_4 H locs hw hP hD hK1 hS => ?_)
          obtain ⟨d2, du2, wr2⟩ := u_4
          have hP : va_P (dC, dI) vwCl [(j, .inr (2, [.ref dk, .ref rc, .ref ta, .ref pa, .int (nI tl), .int (nI st), .int (nI g), .int (nI h)])), (dk, .inr (0, [.ref a, .int du2, .int wr2])), (pa, .inl (cP, 15872, .inl (hj_B pl))), (a, .inl (cA, 32768, .inl (hj_B d2)))] H := hP.sub [0, 1, 3, 2] rfl
          have hD : va_D A [(j, .inr (2, [.ref dk, .ref rc, .ref ta, .ref pa, .int (nI tl), .int (nI st), .int (nI g), .int (nI h)])), (dk, .inr (0, [.ref a, .int du2, .int wr2])), (pa, .inl (cP, 15872, .inl (hj_B pl))), (a, .inl (cA, 32768, .inl (hj_B d2)))] := hD.sub [0, 1, 3, 2] (by decide) rfl
          dsimp only at hw
          rcases hw with ⟨h7, rfl, h81, h82, h83⟩ | ⟨h7, rfl, rfl, rfl, rfl⟩
          · rw [h81, h82, h83] at hP hD
            rw [hj_wdn_0 h7] at hinv
            refine hj_if_ne (tgt := 37) hx hb (by omega) d_J_writeLastFirst_32 (by decide) (fun c_2 => ?_) (fun c_2 => ?_)
            · omega
            · refine lv_iconst (v := nI 0) hx hb d_J_writeLastFirst_35 (by decide) ?_
              rw [← hinv] at hret
              exact hret (nI 0) (d1, -1, wr1) _ _ _ _ d_J_writeLastFirst_36 rfl (⟨Or.inr ⟨rfl, rfl⟩, rfl, rfl, rfl⟩) hP hK hD hS
          · rw [hj_wdn_s h7] at hinv
            refine hj_if_ne (tgt := 37) hx hb (by omega) d_J_writeLastFirst_32 (by decide) (fun c_2 => ?_) (fun c_2 => ?_)
            · refine lv_iinc (v := nI (f1 + y) - 1) (lv' := [(3, .int (nI (f1 + y) - 1)), (0, .ref j), (1, .int (nI f1))]) hx hb d_J_writeLastFirst_37 hl (k := 2) rfl (hj_addm1 _) (by decide) rfl (fun ls hl => ?_)
              refine lv_goto (tgt := 2) hx hb d_J_writeLastFirst_40 (by decide) ?_
              exact ih_lp y _ _ _ (by omega) (hinv) (by omega) _ _ hP hD hS _ (lv_sub hl [1, 2, 0] rfl)
            · omega
  exact lp _ (l1 + 1 - f1) d du wr (Nat.le_refl _) (rfl) (Nat.lt_succ_self _) _ _ hP hD hS _ (lv_sub hl [1, 2, 0] rfl)
abbrev rm_J_writeFirstFirst : Room := { frames := 32, cells := 0, slots := 0, locals := 400 }
set_option maxHeartbeats 4000000 in
set_option maxRecDepth 100000 in
theorem c_J_writeFirstFirst (l : Launch) (dC : Nat → ClassId) (dI : Nat → Nat → Nat) (j dk rc ta pa : Nat) (tl st g h : Nat) (a : Nat) (cA : ClassId) (d : Nat → Nat) (du wr : Int32) (cP : ClassId) (pl : Nat → Nat) (h9 l1 : Nat) (hh : h9 < 2) (hl1 : l1 ≤ 30) : hj_Mi l y_J_writeFirstFirst b_J_writeFirstFirst 4 .boolean rm_J_writeFirstFirst hj_EX (dC, dI) vwCl [(cP, .byte), (cA, .byte)] [(j, .inr (2, [.ref dk, .ref rc, .ref ta, .ref pa, .int (nI tl), .int (nI st), .int (nI g), .int (nI h)])), (dk, .inr (0, [.ref a, .int du, .int wr])), (pa, .inl (cP, 15872, .inl (hj_B pl))), (a, .inl (cA, 32768, .inl (hj_B d)))] [.ref j, .int (nI h9), .int (nI l1)] (fun r u => ((hj_wup pl (2 + h9 * 31) (l1 + 1) 0 d du wr).1 = true ∧ r = nI 1 ∨ (hj_wup pl (2 + h9 * 31) (l1 + 1) 0 d du wr).1 = false ∧ r = nI 0) ∧ u.1 = (hj_wup pl (2 + h9 * 31) (l1 + 1) 0 d du wr).2.1 ∧ u.2.1 = (hj_wup pl (2 + h9 * 31) (l1 + 1) 0 d du wr).2.2.1 ∧ u.2.2 = (hj_wup pl (2 + h9 * 31) (l1 + 1) 0 d du wr).2.2.2) (fun u : (Nat → Nat) × Int32 × Int32 => [(j, .inr (2, [.ref dk, .ref rc, .ref ta, .ref pa, .int (nI tl), .int (nI st), .int (nI g), .int (nI h)])), (dk, .inr (0, [.ref a, .int u.2.1, .int u.2.2])), (pa, .inl (cP, 15872, .inl (hj_B pl))), (a, .inl (cA, 32768, .inl (hj_B u.1)))]) (fun _ => [(cP, .byte), (cA, .byte)]) 0 0 := by
  refine hj_bodyI (by decide +kernel) (Nat.le_of_ble_eq_true rfl) ?_
  intro p e s m args below meth c A Q ls hx hb hts hown hml hA hP hK hD hE hl hret
  have hS : va_S A s.heap s.heap [] := va_S.rf
  have hown : s.vm.findClass "HalfJournal" = some m.cls := hown
  have hl : lv_has ls 4 [(0, .ref j), (1, .int (nI h9)), (2, .int (nI l1))] := hl
  have hP : va_P (dC, dI) vwCl [(j, .inr (2, [.ref dk, .ref rc, .ref ta, .ref pa, .int (nI tl), .int (nI st), .int (nI g), .int (nI h)])), (dk, .inr (0, [.ref a, .int du, .int wr])), (pa, .inl (cP, 15872, .inl (hj_B pl))), (a, .inl (cA, 32768, .inl (hj_B d)))] s.heap := hP
  have hD : va_D A [(j, .inr (2, [.ref dk, .ref rc, .ref ta, .ref pa, .int (nI tl), .int (nI st), .int (nI g), .int (nI h)])), (dk, .inr (0, [.ref a, .int du, .int wr])), (pa, .inl (cP, 15872, .inl (hj_B pl))), (a, .inl (cA, 32768, .inl (hj_B d)))] := hD
  refine lv_iconst (v := nI 0) hx hb d_J_writeFirstFirst_0 (by decide) ?_
  refine lv_istore_n (lv' := [(3, .int (nI 0)), (0, .ref j), (1, .int (nI h9)), (2, .int (nI l1))]) hx hb d_J_writeFirstFirst_1 rfl hl (by decide) rfl (fun ls hl => ?_)
  have lp : ∀ (n9_lp : Nat) (y : Nat) (d1 : Nat → Nat) (du1 : Int32) (wr1 : Int32), (y ≤ l1 + 1) → (hj_wup pl (2 + h9 * 31) (l1 + 1 - y) y d1 du1 wr1 = hj_wup pl (2 + h9 * 31) (l1 + 1) 0 d du wr) → (l1 + 1 - y) < n9_lp → ∀ (H : Heap) (locs : List Loc), va_P (dC, dI) vwCl [(j, .inr (2, [.ref dk, .ref rc, .ref ta, .ref pa, .int (nI tl), .int (nI st), .int (nI g), .int (nI h)])), (dk, .inr (0, [.ref a, .int du1, .int wr1])), (pa, .inl (cP, 15872, .inl (hj_B pl))), (a, .inl (cA, 32768, .inl (hj_B d1)))] H → va_D A [(j, .inr (2, [.ref dk, .ref rc, .ref ta, .ref pa, .int (nI tl), .int (nI st), .int (nI g), .int (nI h)])), (dk, .inr (0, [.ref a, .int du1, .int wr1])), (pa, .inl (cP, 15872, .inl (hj_B pl))), (a, .inl (cA, 32768, .inl (hj_B d1)))] → va_S A s.heap H locs → ∀ (ls : Array Slot), lv_has ls 4 [(0, .ref j), (1, .int (nI h9)), (2, .int (nI l1)), (3, .int (nI y))] → W p l e rm_J_writeFirstFirst s m args below meth c H locs 0 0 Q (F0 m 2 ls []) := by
    intro n9_lp
    induction n9_lp with
    | zero =>
      intro y d1 du1 wr1 hy hinv hm_lp
      exact absurd hm_lp (Nat.not_lt_zero _)
    | succ n9_lp ih_lp =>
      intro y d1 du1 wr1 hy hinv hm_lp H locs hP hD hS ls hl
      refine lv_iload_n hx hb d_J_writeFirstFirst_2 rfl (lv_at hl 3 rfl) ?_
      refine lv_iload_n hx hb d_J_writeFirstFirst_3 rfl (lv_at hl 2 rfl) ?_
      refine hj_icmp_gt (tgt := 40) hx hb (by omega) (by omega) d_J_writeFirstFirst_4 (by decide) (fun c_1 => ?_) (fun c_1 => ?_)
      · obtain rfl : y = l1 + 1 := by omega
        rw [Nat.sub_self] at hinv
        have hinv : (true, d1, du1, wr1) = hj_wup pl (2 + h9 * 31) (l1 + 1) 0 d du wr := hinv
        refine lv_iconst (v := nI 1) hx hb d_J_writeFirstFirst_40 (by decide) ?_
        rw [← hinv] at hret
        exact hret (nI 1) (d1, du1, wr1) _ _ _ _ d_J_writeFirstFirst_41 rfl (⟨Or.inl ⟨rfl, rfl⟩, rfl, rfl, rfl⟩) hP hK hD hS
      · rw [show l1 + 1 - y = (l1 - y) + 1 by omega] at hinv
        refine lv_aload_n hx hb d_J_writeFirstFirst_7 rfl (lv_at hl 0 rfl) ?_
        refine va_get (D := (dC, dI)) (ci := 2) (v := .ref dk) (C := "HalfJournal") (T := F_J) (N := 8) hx hb hts i_J hown hK hP 0 rfl rfl 0 (by decide) (hts _ m_84) (fun _ h9 => h9) rfl d_J_writeFirstFirst_8 ?_
        refine lv_iload_n hx hb d_J_writeFirstFirst_11 rfl (lv_at hl 1 rfl) ?_
        refine hj_calli (wc := []) (wr := [(j, .inr (2, [.ref dk, .ref rc, .ref ta, .ref pa, .int (nI tl), .int (nI st), .int (nI g), .int (nI h)])), (dk, .inr (0, [.ref a, .int du1, .int wr1])), (pa, .inl (cP, 15872, .inl (hj_B pl))), (a, .inl (cA, 32768, .inl (hj_B d1)))]) [] [0, 1, 2, 3] hP hD hS hA rfl rfl rfl (by decide) (va_runS (As := [.int (nI h9)]) (rest := [.ref dk]) ⟨hx, hb, hml, hown, hts⟩ (c_J_firstBlockOf l dC dI h9 H.size) (cwS 1 hts (hj_gS m_465 m_466 m_1 m_467) rfl rfl rfl (by decide +kernel) ⟨Nat.le_of_ble_eq_true rfl, Nat.le_of_ble_eq_true rfl⟩) (hj_preS hj_EXok hE hP hD hK hS hA [] rfl rfl [] rfl) rfl rfl hl.1 rfl (lv_room (Nat.le_of_ble_eq_true rfl)) d_J_writeFirstFirst_12 ⟨Nat.le_of_ble_eq_true rfl, Nat.le_of_ble_eq_true rfl⟩) (fun r_1 u_2 H locs hw hP hD hK1 hS => ?_)
        subst hw
        have hP : va_P (dC, dI) vwCl [(j, .inr (2, [.ref dk, .ref rc, .ref ta, .ref pa, .int (nI tl), .int (nI st), .int (nI g), .int (nI h)])), (dk, .inr (0, [.ref a, .int du1, .int wr1])), (pa, .inl (cP, 15872, .inl (hj_B pl))), (a, .inl (cA, 32768, .inl (hj_B d1)))] H := hP.sub [0, 1, 2, 3] rfl
        have hD : va_D A [(j, .inr (2, [.ref dk, .ref rc, .ref ta, .ref pa, .int (nI tl), .int (nI st), .int (nI g), .int (nI h)])), (dk, .inr (0, [.ref a, .int du1, .int wr1])), (pa, .inl (cP, 15872, .inl (hj_B pl))), (a, .inl (cA, 32768, .inl (hj_B d1)))] := hD.sub [0, 1, 2, 3] (by decide) rfl
        refine lv_iload_n hx hb d_J_writeFirstFirst_15 rfl (lv_at hl 3 rfl) ?_
        refine hj_iadd hx hb d_J_writeFirstFirst_16 ?_
        refine lv_aload_n hx hb d_J_writeFirstFirst_17 rfl (lv_at hl 0 rfl) ?_
        refine va_get (D := (dC, dI)) (ci := 2) (v := .ref pa) (C := "HalfJournal") (T := F_J) (N := 8) hx hb hts i_J hown hK hP 0 rfl rfl 3 (by decide) (hts _ m_87) (fun _ h9 => h9) rfl d_J_writeFirstFirst_18 ?_
        refine lv_iload_n hx hb d_J_writeFirstFirst_21 rfl (lv_at hl 3 rfl) ?_
        refine lv_sipush (v := nI 512) hx hb d_J_writeFirstFirst_22 (by decide) ?_
        refine hj_imul hx hb d_J_writeFirstFirst_25 ?_
        refine hj_calli (wc := [(dk, .inr (0, [.ref a, .int du1, .int wr1])), (a, .inl (cA, 32768, .inl (hj_B d1))), (pa, .inl (cP, 15872, .inl (hj_B pl)))]) (wr := [(j, .inr (2, [.ref dk, .ref rc, .ref ta, .ref pa, .int (nI tl), .int (nI st), .int (nI g), .int (nI h)]))]) [1, 3, 2] [0] hP hD hS hA rfl rfl rfl (by decide) (va_runVN (As := [.int (nI ((2 + h9 * 31) + y)), .ref pa, .int (nI (y * 512))]) (rest := []) ⟨hx, hb, hml, hown, hts⟩ (c_D_write l dC dI dk a cA d1 du1 wr1 pa cP 15872 pl (2 + h9 * 31 + y) (y * 512) (by omega) (by omega) (by omega) H.size) ⟨va_cnB 3 hts (hj_gC m_615) rfl rfl rfl (hE.1 _ m_612) (hts _ m_2) (by decide +kernel) ⟨Nat.le_of_ble_eq_true rfl, Nat.le_of_ble_eq_true rfl⟩, hts _ m_614, hts _ s_D_write⟩ (hj_preV (ci := 0) (q0 := 1) hj_EXok hE hP hD hK hS hA [1, 3, 2] rfl rfl [1, 0] rfl rfl rfl) rfl rfl hl.1 rfl (lv_room (Nat.le_of_ble_eq_true rfl)) d_J_writeFirstFirst_26 ⟨Nat.le_of_ble_eq_true rfl, Nat.le_of_ble_eq_true rfl⟩) (fun r_3 u_4 H locs hw hP hD hK1 hS => ?_)
        obtain ⟨d2, du2, wr2⟩ := u_4
        have hP : va_P (dC, dI) vwCl [(j, .inr (2, [.ref dk, .ref rc, .ref ta, .ref pa, .int (nI tl), .int (nI st), .int (nI g), .int (nI h)])), (dk, .inr (0, [.ref a, .int du2, .int wr2])), (pa, .inl (cP, 15872, .inl (hj_B pl))), (a, .inl (cA, 32768, .inl (hj_B d2)))] H := hP.sub [0, 1, 3, 2] rfl
        have hD : va_D A [(j, .inr (2, [.ref dk, .ref rc, .ref ta, .ref pa, .int (nI tl), .int (nI st), .int (nI g), .int (nI h)])), (dk, .inr (0, [.ref a, .int du2, .int wr2])), (pa, .inl (cP, 15872, .inl (hj_B pl))), (a, .inl (cA, 32768, .inl (hj_B d2)))] := hD.sub [0, 1, 3, 2] (by decide) rfl
        dsimp only at hw
        rcases hw with ⟨h7, rfl, h81, h82, h83⟩ | ⟨h7, rfl, rfl, rfl, rfl⟩
        · rw [h81, h82, h83] at hP hD
          rw [hj_wup_0 h7] at hinv
          refine hj_if_ne (tgt := 34) hx hb (by omega) d_J_writeFirstFirst_29 (by decide) (fun c_2 => ?_) (fun c_2 => ?_)
          · omega
          · refine lv_iconst (v := nI 0) hx hb d_J_writeFirstFirst_32 (by decide) ?_
            rw [← hinv] at hret
            exact hret (nI 0) (d1, -1, wr1) _ _ _ _ d_J_writeFirstFirst_33 rfl (⟨Or.inr ⟨rfl, rfl⟩, rfl, rfl, rfl⟩) hP hK hD hS
        · rw [hj_wup_s h7, show l1 - y = l1 + 1 - (y + 1) by omega] at hinv
          refine hj_if_ne (tgt := 34) hx hb (by omega) d_J_writeFirstFirst_29 (by decide) (fun c_2 => ?_) (fun c_2 => ?_)
          · refine lv_iinc (v := nI (y + 1)) (lv' := [(3, .int (nI (y + 1))), (0, .ref j), (1, .int (nI h9)), (2, .int (nI l1))]) hx hb d_J_writeFirstFirst_34 hl (k := 3) rfl (nI_1 _) (by decide) rfl (fun ls hl => ?_)
            refine lv_goto (tgt := 2) hx hb d_J_writeFirstFirst_37 (by decide) ?_
            exact ih_lp (y + 1) _ _ _ (by omega) (hinv) (by omega) _ _ hP hD hS _ (lv_sub hl [1, 2, 3, 0] rfl)
          · omega
  exact lp _ 0 d du wr (by omega) (rfl) (Nat.lt_succ_self _) _ _ hP hD hS _ (lv_sub hl [1, 2, 3, 0] rfl)
abbrev rm_J_writeHead : Room := { frames := 32, cells := 0, slots := 0, locals := 400 }
set_option maxHeartbeats 4000000 in
set_option maxRecDepth 100000 in
theorem c_J_writeHead (l : Launch) (dC : Nat → ClassId) (dI : Nat → Nat → Nat) (j dk rc ta pa : Nat) (tl st g h : Nat) (a : Nat) (cA : ClassId) (d : Nat → Nat) (du wr : Int32) (cP : ClassId) (pl : Nat → Nat) (g9 h9 : Nat) (hh : h9 < 2) (hg : g9 < 2 ^ 31) (hp : hj_bs pl) : hj_Mi l y_J_writeHead b_J_writeHead 3 .boolean rm_J_writeHead hj_EX (dC, dI) vwCl [(cP, .byte), (cA, .byte)] [(j, .inr (2, [.ref dk, .ref rc, .ref ta, .ref pa, .int (nI tl), .int (nI st), .int (nI g), .int (nI h)])), (dk, .inr (0, [.ref a, .int du, .int wr])), (pa, .inl (cP, 15872, .inl (hj_B pl))), (a, .inl (cA, 32768, .inl (hj_B d)))] [.ref j, .int (nI g9), .int (nI h9)] (fun r u => hj_bs u.2.2.2 ∧ ((du = 0 ∧ r = nI 0 ∧ u.1 = d ∧ u.2.1 = -1 ∧ u.2.2.1 = wr) ∨ (¬ du = 0 ∧ r = nI 1 ∧ u.1 = hj_blk d (g9 % 2) (hj_hd h9 g9) 0 ∧ u.2.1 = hj_dec du ∧ u.2.2.1 = wr + 1))) (fun u : (Nat → Nat) × Int32 × Int32 × (Nat → Nat) => [(j, .inr (2, [.ref dk, .ref rc, .ref ta, .ref pa, .int (nI tl), .int (nI st), .int (nI g), .int (nI h)])), (dk, .inr (0, [.ref a, .int u.2.1, .int u.2.2.1])), (pa, .inl (cP, 15872, .inl (hj_B u.2.2.2))), (a, .inl (cA, 32768, .inl (hj_B u.1)))]) (fun _ => [(cP, .byte), (cA, .byte)]) 0 0 := by
  refine hj_bodyI (by decide +kernel) (Nat.le_of_ble_eq_true rfl) ?_
  intro p e s m args below meth c A Q ls hx hb hts hown hml hA hP hK hD hE hl hret
  have hS : va_S A s.heap s.heap [] := va_S.rf
  have hown : s.vm.findClass "HalfJournal" = some m.cls := hown
  have hl : lv_has ls 3 [(0, .ref j), (1, .int (nI g9)), (2, .int (nI h9))] := hl
  have hP : va_P (dC, dI) vwCl [(j, .inr (2, [.ref dk, .ref rc, .ref ta, .ref pa, .int (nI tl), .int (nI st), .int (nI g), .int (nI h)])), (dk, .inr (0, [.ref a, .int du, .int wr])), (pa, .inl (cP, 15872, .inl (hj_B pl))), (a, .inl (cA, 32768, .inl (hj_B d)))] s.heap := hP
  have hD : va_D A [(j, .inr (2, [.ref dk, .ref rc, .ref ta, .ref pa, .int (nI tl), .int (nI st), .int (nI g), .int (nI h)])), (dk, .inr (0, [.ref a, .int du, .int wr])), (pa, .inl (cP, 15872, .inl (hj_B pl))), (a, .inl (cA, 32768, .inl (hj_B d)))] := hD
  refine lv_aload_n hx hb d_J_writeHead_0 rfl (lv_at hl 0 rfl) ?_
  refine va_get (D := (dC, dI)) (ci := 2) (v := .ref pa) (C := "HalfJournal") (T := F_J) (N := 8) hx hb hts i_J hown hK hP 0 rfl rfl 3 (by decide) (hts _ m_87) (fun _ h9 => h9) rfl d_J_writeHead_1 ?_
  refine lv_iconst (v := nI 0) hx hb d_J_writeHead_4 (by decide) ?_
  refine lv_sipush (v := nI 512) hx hb d_J_writeHead_5 (by decide) ?_
  refine hj_callv (wc := [(pa, .inl (cP, 15872, .inl (hj_B pl)))]) (wr := [(j, .inr (2, [.ref dk, .ref rc, .ref ta, .ref pa, .int (nI tl), .int (nI st), .int (nI g), .int (nI h)])), (dk, .inr (0, [.ref a, .int du, .int wr])), (a, .inl (cA, 32768, .inl (hj_B d)))]) [2] [0, 1, 3] hP hD hS hA rfl rfl rfl (by decide) (va_runS (As := [.ref pa, .int (nI 0), .int (nI 512)]) (rest := []) ⟨hx, hb, hml, hown, hts⟩ (c_J_clearBytes l dC dI pa cP 15872 pl 0 512 (by omega) (by omega) (by omega) s.heap.size) (cwS 3 hts (hj_gS m_114 m_115 m_1 m_116) rfl rfl rfl (by decide +kernel) ⟨Nat.le_of_ble_eq_true rfl, Nat.le_of_ble_eq_true rfl⟩) (hj_preS hj_EXok hE hP hD hK hS hA [2] rfl rfl [0] rfl) rfl rfl hl.1 rfl (lv_room (Nat.le_of_ble_eq_true rfl)) d_J_writeHead_8 ⟨Nat.le_of_ble_eq_true rfl, Nat.le_of_ble_eq_true rfl⟩) (fun u_2 H locs hw hP hD hK1 hS => ?_)
  have hP : va_P (dC, dI) vwCl [(j, .inr (2, [.ref dk, .ref rc, .ref ta, .ref pa, .int (nI tl), .int (nI st), .int (nI g), .int (nI h)])), (dk, .inr (0, [.ref a, .int du, .int wr])), (pa, .inl (cP, 15872, .inl (hj_B (hj_clr pl 0 512)))), (a, .inl (cA, 32768, .inl (hj_B d)))] H := hP.sub [0, 1, 3, 2] rfl
  have hD : va_D A [(j, .inr (2, [.ref dk, .ref rc, .ref ta, .ref pa, .int (nI tl), .int (nI st), .int (nI g), .int (nI h)])), (dk, .inr (0, [.ref a, .int du, .int wr])), (pa, .inl (cP, 15872, .inl (hj_B (hj_clr pl 0 512)))), (a, .inl (cA, 32768, .inl (hj_B d)))] := hD.sub [0, 1, 3, 2] (by decide) rfl
  refine lv_aload_n hx hb d_J_writeHead_11 rfl (lv_at hl 0 rfl) ?_
  refine va_get (D := (dC, dI)) (ci := 2) (v := .ref pa) (C := "HalfJournal") (T := F_J) (N := 8) hx hb hts i_J hown hK hP 0 rfl rfl 3 (by decide) (hts _ m_87) (fun _ h9 => h9) rfl d_J_writeHead_12 ?_
  refine lv_iconst (v := nI 0) hx hb d_J_writeHead_15 (by decide) ?_
  refine lv_iload_n hx hb d_J_writeHead_16 rfl (lv_at hl 1 rfl) ?_
  refine lv_iload_n hx hb d_J_writeHead_17 rfl (lv_at hl 2 rfl) ?_
  refine hj_callv (wc := [(pa, .inl (cP, 15872, .inl (hj_B (hj_clr pl 0 512))))]) (wr := [(j, .inr (2, [.ref dk, .ref rc, .ref ta, .ref pa, .int (nI tl), .int (nI st), .int (nI g), .int (nI h)])), (dk, .inr (0, [.ref a, .int du, .int wr])), (a, .inl (cA, 32768, .inl (hj_B d)))]) [2] [0, 1, 3] hP hD hS hA rfl rfl rfl (by decide) (va_runS (As := [.ref pa, .int (nI 0), .int (nI g9), .int (nI h9)]) (rest := []) ⟨hx, hb, hml, hown, hts⟩ (c_J_putHead l dC dI pa cP 15872 (hj_clr pl 0 512) 0 g9 h9 (by omega) (by omega) (hj_clr_bs hp) (by omega) hh H.size) (cwS 4 hts (hj_gS m_432 m_433 m_1 m_434) rfl rfl rfl (by decide +kernel) ⟨Nat.le_of_ble_eq_true rfl, Nat.le_of_ble_eq_true rfl⟩) (hj_preS hj_EXok hE hP hD hK hS hA [2] rfl rfl [0] rfl) rfl rfl hl.1 rfl (lv_room (Nat.le_of_ble_eq_true rfl)) d_J_writeHead_18 ⟨Nat.le_of_ble_eq_true rfl, Nat.le_of_ble_eq_true rfl⟩) (fun u_4 H locs hw hP hD hK1 hS => ?_)
  have hP : va_P (dC, dI) vwCl [(j, .inr (2, [.ref dk, .ref rc, .ref ta, .ref pa, .int (nI tl), .int (nI st), .int (nI g), .int (nI h)])), (dk, .inr (0, [.ref a, .int du, .int wr])), (pa, .inl (cP, 15872, .inl (hj_B (hj_ph (hj_clr pl 0 512) 0 h9 g9)))), (a, .inl (cA, 32768, .inl (hj_B d)))] H := hP.sub [0, 1, 3, 2] rfl
  have hD : va_D A [(j, .inr (2, [.ref dk, .ref rc, .ref ta, .ref pa, .int (nI tl), .int (nI st), .int (nI g), .int (nI h)])), (dk, .inr (0, [.ref a, .int du, .int wr])), (pa, .inl (cP, 15872, .inl (hj_B (hj_ph (hj_clr pl 0 512) 0 h9 g9)))), (a, .inl (cA, 32768, .inl (hj_B d)))] := hD.sub [0, 1, 3, 2] (by decide) rfl
  refine lv_aload_n hx hb d_J_writeHead_21 rfl (lv_at hl 0 rfl) ?_
  refine va_get (D := (dC, dI)) (ci := 2) (v := .ref dk) (C := "HalfJournal") (T := F_J) (N := 8) hx hb hts i_J hown hK hP 0 rfl rfl 0 (by decide) (hts _ m_84) (fun _ h9 => h9) rfl d_J_writeHead_22 ?_
  refine lv_iload_n hx hb d_J_writeHead_25 rfl (lv_at hl 1 rfl) ?_
  refine lv_iconst (v := nI 1) hx hb d_J_writeHead_26 (by decide) ?_
  refine hj_iandM hx hb 1 (by first | assumption | omega) (by decide) d_J_writeHead_27 ?_
  refine hj_topn (b := g9 % 2) (rfl) ?_
  refine lv_aload_n hx hb d_J_writeHead_28 rfl (lv_at hl 0 rfl) ?_
  refine va_get (D := (dC, dI)) (ci := 2) (v := .ref pa) (C := "HalfJournal") (T := F_J) (N := 8) hx hb hts i_J hown hK hP 0 rfl rfl 3 (by decide) (hts _ m_87) (fun _ h9 => h9) rfl d_J_writeHead_29 ?_
  refine lv_iconst (v := nI 0) hx hb d_J_writeHead_32 (by decide) ?_
  refine hj_calli (wc := [(dk, .inr (0, [.ref a, .int du, .int wr])), (a, .inl (cA, 32768, .inl (hj_B d))), (pa, .inl (cP, 15872, .inl (hj_B (hj_ph (hj_clr pl 0 512) 0 h9 g9))))]) (wr := [(j, .inr (2, [.ref dk, .ref rc, .ref ta, .ref pa, .int (nI tl), .int (nI st), .int (nI g), .int (nI h)]))]) [1, 3, 2] [0] hP hD hS hA rfl rfl rfl (by decide) (va_runVN (As := [.int (nI (g9 % 2)), .ref pa, .int (nI 0)]) (rest := []) ⟨hx, hb, hml, hown, hts⟩ (c_D_write l dC dI dk a cA d du wr pa cP 15872 (hj_ph (hj_clr pl 0 512) 0 h9 g9) (g9 % 2) 0 (by omega) (by omega) (by omega) H.size) ⟨va_cnB 3 hts (hj_gC m_615) rfl rfl rfl (hE.1 _ m_612) (hts _ m_2) (by decide +kernel) ⟨Nat.le_of_ble_eq_true rfl, Nat.le_of_ble_eq_true rfl⟩, hts _ m_614, hts _ s_D_write⟩ (hj_preV (ci := 0) (q0 := 1) hj_EXok hE hP hD hK hS hA [1, 3, 2] rfl rfl [1, 0] rfl rfl rfl) rfl rfl hl.1 rfl (lv_room (Nat.le_of_ble_eq_true rfl)) d_J_writeHead_33 ⟨Nat.le_of_ble_eq_true rfl, Nat.le_of_ble_eq_true rfl⟩) (fun r_5 u_6 H locs hw hP hD hK1 hS => ?_)
  obtain ⟨d2, du2, wr2⟩ := u_6
  have hP : va_P (dC, dI) vwCl [(j, .inr (2, [.ref dk, .ref rc, .ref ta, .ref pa, .int (nI tl), .int (nI st), .int (nI g), .int (nI h)])), (dk, .inr (0, [.ref a, .int du2, .int wr2])), (pa, .inl (cP, 15872, .inl (hj_B (hj_ph (hj_clr pl 0 512) 0 h9 g9)))), (a, .inl (cA, 32768, .inl (hj_B d2)))] H := hP.sub [0, 1, 3, 2] rfl
  have hD : va_D A [(j, .inr (2, [.ref dk, .ref rc, .ref ta, .ref pa, .int (nI tl), .int (nI st), .int (nI g), .int (nI h)])), (dk, .inr (0, [.ref a, .int du2, .int wr2])), (pa, .inl (cP, 15872, .inl (hj_B (hj_ph (hj_clr pl 0 512) 0 h9 g9)))), (a, .inl (cA, 32768, .inl (hj_B d2)))] := hD.sub [0, 1, 3, 2] (by decide) rfl
  dsimp only at hw
  rw [hj_blk_congr (r := hj_hd h9 g9) (fun j hj => hj_hd_ph pl h9 g9 j hj)] at hw
  rcases hw with ⟨h7, rfl, h8⟩ | ⟨h7, rfl, h8⟩
  · exact hret (nI 0) (d2, du2, wr2, hj_ph (hj_clr pl 0 512) 0 h9 g9) _ _ _ _ d_J_writeHead_36 rfl (⟨hj_ph_bs (hj_clr_bs hp), Or.inl ⟨h7, rfl, h8⟩⟩) hP hK hD hS
  · exact hret (nI 1) (d2, du2, wr2, hj_ph (hj_clr pl 0 512) 0 h9 g9) _ _ _ _ d_J_writeHead_36 rfl (⟨hj_ph_bs (hj_clr_bs hp), Or.inr ⟨h7, rfl, h8⟩⟩) hP hK hD hS
