set_option maxRecDepth 100000 in
theorem hj_at_ISE : ∀ w ∈ Bundle.ownAtoms "HalfJournal" 66 hj_ISE ["java/lang/RuntimeException", "java/lang/Exception"], hj_fromE w := by
  unfold hj_fromE
  decide +kernel
set_option maxRecDepth 100000 in
theorem hj_at_IAE : ∀ w ∈ Bundle.ownAtoms "HalfJournal" 73 hj_IAE ["java/lang/RuntimeException", "java/lang/Exception"], hj_fromE w := by
  unfold hj_fromE
  decide +kernel
set_option maxRecDepth 100000 in
theorem hj_at_UOE : ∀ w ∈ Bundle.ownAtoms "HalfJournal" 85 hj_UOE ["java/lang/RuntimeException", "java/lang/Exception"], hj_fromE w := by
  unfold hj_fromE
  decide +kernel
theorem hj_lb_end {t : Nat} (h : t ≤ 15872) : t ≤ 512 * (hj_lb t + 1) := by
  unfold hj_lb
  split <;> omega
abbrev rm_J_append_t1 : Room := { frames := 8, cells := 1, slots := 6, locals := 100 }
set_option maxHeartbeats 4000000 in
set_option maxRecDepth 100000 in
theorem c_J_append_t1 (l : Launch) (hl9 : l.stackTraces = false) (dC : Nat → ClassId) (dI : Nat → Nat → Nat) (j dk rc ta pa : Nat) (tl st g h : Nat) (hst : st ≤ 2) (h2 : ¬ st = 2) : hj_Mt l y_J_append b_J_append 4 .int rm_J_append_t1 hj_EY (dC, dI) vwCl [] [(j, .inr (2, [.ref dk, .ref rc, .ref ta, .ref pa, .int (nI tl), .int (nI st), .int (nI g), .int (nI h)]))] [.ref j] hj_ISE := by
  refine hj_bodyT (by decide +kernel) (Nat.le_of_ble_eq_true rfl) ?_
  intro p e s m args below meth c A Q ls hx hb hts hown hml hlocks hno hA hP hK hD hEY hl hthr
  have hE := hEY.1
  have hS : va_S A s.heap s.heap [] := va_S.rf
  have hown : s.vm.findClass "HalfJournal" = some m.cls := hown
  have hl : lv_has ls 4 [(0, .ref j)] := hl
  have hP : va_P (dC, dI) vwCl [(j, .inr (2, [.ref dk, .ref rc, .ref ta, .ref pa, .int (nI tl), .int (nI st), .int (nI g), .int (nI h)]))] s.heap := hP
  have hD : va_D A [(j, .inr (2, [.ref dk, .ref rc, .ref ta, .ref pa, .int (nI tl), .int (nI st), .int (nI g), .int (nI h)]))] := hD
  refine lv_aload_n hx hb d_J_append_0 rfl (lv_at hl 0 rfl) ?_
  refine va_get (D := (dC, dI)) (ci := 2) (v := .int (nI st)) (C := "HalfJournal") (T := F_J) (N := 8) hx hb hts i_J hown hK hP 0 rfl rfl 5 (by decide) (hts _ m_89) (fun _ h9 => h9) rfl d_J_append_1 ?_
  refine lv_iconst (v := nI 2) hx hb d_J_append_4 (by decide) ?_
  refine hj_icmp_eq (tgt := 18) hx hb (by omega) (by omega) d_J_append_5 (by decide) (fun c_1 => ?_) (fun c_1 => ?_)
  · exact absurd c_1 h2
  · obtain ⟨sa9, hstr⟩ := hEY.2.2.2.2.1
    exact hj_throw (rest := []) (cls := hj_ISE) (names := ["java/lang/RuntimeException", "java/lang/Exception"]) (ik := 62) (is := 64) (ic := 66) (text := "the journal is not up") hx hb hl9 hown (by decide +kernel) (by decide +kernel) (hts _ m_561) (hts _ m_20) hstr (fun w hw => (hj_at_ISE w hw).holds hts hEY) (Nat.le_refl _) (hl.1.trans hml.symm) d_J_append_8 d_J_append_11 d_J_append_12 d_J_append_14 d_J_append_17 (hno _) (Nat.le_of_ble_eq_true rfl) (Nat.le_of_ble_eq_true rfl) (Nat.le_of_ble_eq_true rfl) (Nat.le_of_ble_eq_true rfl) hlocks hthr
abbrev rm_J_compact_t1 : Room := { frames := 8, cells := 1, slots := 6, locals := 100 }
set_option maxHeartbeats 4000000 in
set_option maxRecDepth 100000 in
theorem c_J_compact_t1 (l : Launch) (hl9 : l.stackTraces = false) (dC : Nat → ClassId) (dI : Nat → Nat → Nat) (j dk rc ta pa : Nat) (tl st g h : Nat) (hst : st ≤ 2) (h2 : ¬ st = 2) : hj_Mt l y_J_compact b_J_compact 4 .int rm_J_compact_t1 hj_EY (dC, dI) vwCl [] [(j, .inr (2, [.ref dk, .ref rc, .ref ta, .ref pa, .int (nI tl), .int (nI st), .int (nI g), .int (nI h)]))] [.ref j] hj_ISE := by
  refine hj_bodyT (by decide +kernel) (Nat.le_of_ble_eq_true rfl) ?_
  intro p e s m args below meth c A Q ls hx hb hts hown hml hlocks hno hA hP hK hD hEY hl hthr
  have hE := hEY.1
  have hS : va_S A s.heap s.heap [] := va_S.rf
  have hown : s.vm.findClass "HalfJournal" = some m.cls := hown
  have hl : lv_has ls 4 [(0, .ref j)] := hl
  have hP : va_P (dC, dI) vwCl [(j, .inr (2, [.ref dk, .ref rc, .ref ta, .ref pa, .int (nI tl), .int (nI st), .int (nI g), .int (nI h)]))] s.heap := hP
  have hD : va_D A [(j, .inr (2, [.ref dk, .ref rc, .ref ta, .ref pa, .int (nI tl), .int (nI st), .int (nI g), .int (nI h)]))] := hD
  refine lv_aload_n hx hb d_J_compact_0 rfl (lv_at hl 0 rfl) ?_
  refine va_get (D := (dC, dI)) (ci := 2) (v := .int (nI st)) (C := "HalfJournal") (T := F_J) (N := 8) hx hb hts i_J hown hK hP 0 rfl rfl 5 (by decide) (hts _ m_89) (fun _ h9 => h9) rfl d_J_compact_1 ?_
  refine lv_iconst (v := nI 2) hx hb d_J_compact_4 (by decide) ?_
  refine hj_icmp_eq (tgt := 18) hx hb (by omega) (by omega) d_J_compact_5 (by decide) (fun c_1 => ?_) (fun c_1 => ?_)
  · exact absurd c_1 h2
  · obtain ⟨sa9, hstr⟩ := hEY.2.2.2.2.1
    exact hj_throw (rest := []) (cls := hj_ISE) (names := ["java/lang/RuntimeException", "java/lang/Exception"]) (ik := 62) (is := 64) (ic := 66) (text := "the journal is not up") hx hb hl9 hown (by decide +kernel) (by decide +kernel) (hts _ m_561) (hts _ m_20) hstr (fun w hw => (hj_at_ISE w hw).holds hts hEY) (Nat.le_refl _) (hl.1.trans hml.symm) d_J_compact_8 d_J_compact_11 d_J_compact_12 d_J_compact_14 d_J_compact_17 (hno _) (Nat.le_of_ble_eq_true rfl) (Nat.le_of_ble_eq_true rfl) (Nat.le_of_ble_eq_true rfl) (Nat.le_of_ble_eq_true rfl) hlocks hthr
abbrev rm_J_append_t2 : Room := { frames := 8, cells := 1, slots := 6, locals := 100 }
set_option maxHeartbeats 4000000 in
set_option maxRecDepth 100000 in
theorem c_J_append_t2 (l : Launch) (hl9 : l.stackTraces = false) (dC : Nat → ClassId) (dI : Nat → Nat → Nat) (j dk rc ta pa : Nat) (g h : Nat)  : hj_Mt l y_J_append b_J_append 4 .int rm_J_append_t2 hj_EY (dC, dI) vwCl [] [(j, .inr (2, [.ref dk, .ref rc, .ref ta, .ref pa, .int (nI 0), .int (nI 2), .int (nI g), .int (nI h)]))] [.ref j] hj_IAE := by
  refine hj_bodyT (by decide +kernel) (Nat.le_of_ble_eq_true rfl) ?_
  intro p e s m args below meth c A Q ls hx hb hts hown hml hlocks hno hA hP hK hD hEY hl hthr
  have hE := hEY.1
  have hS : va_S A s.heap s.heap [] := va_S.rf
  have hown : s.vm.findClass "HalfJournal" = some m.cls := hown
  have hl : lv_has ls 4 [(0, .ref j)] := hl
  have hP : va_P (dC, dI) vwCl [(j, .inr (2, [.ref dk, .ref rc, .ref ta, .ref pa, .int (nI 0), .int (nI 2), .int (nI g), .int (nI h)]))] s.heap := hP
  have hD : va_D A [(j, .inr (2, [.ref dk, .ref rc, .ref ta, .ref pa, .int (nI 0), .int (nI 2), .int (nI g), .int (nI h)]))] := hD
  refine lv_aload_n hx hb d_J_append_0 rfl (lv_at hl 0 rfl) ?_
  refine va_get (D := (dC, dI)) (ci := 2) (v := .int (nI 2)) (C := "HalfJournal") (T := F_J) (N := 8) hx hb hts i_J hown hK hP 0 rfl rfl 5 (by decide) (hts _ m_89) (fun _ h9 => h9) rfl d_J_append_1 ?_
  refine lv_iconst (v := nI 2) hx hb d_J_append_4 (by decide) ?_
  refine hj_icmp_eq (tgt := 18) hx hb (by omega) (by omega) d_J_append_5 (by decide) (fun c_1 => ?_) (fun c_1 => ?_)
  · refine lv_aload_n hx hb d_J_append_18 rfl (lv_at hl 0 rfl) ?_
    refine va_get (D := (dC, dI)) (ci := 2) (v := .int (nI 0)) (C := "HalfJournal") (T := F_J) (N := 8) hx hb hts i_J hown hK hP 0 rfl rfl 4 (by decide) (hts _ m_88) (fun _ h9 => h9) rfl d_J_append_19 ?_
    refine hj_if_ne (tgt := 35) hx hb (by omega) d_J_append_22 (by decide) (fun c_2 => ?_) (fun c_2 => ?_)
    · omega
    · obtain ⟨sa9, hstr⟩ := hEY.2.2.2.2.2.1
      exact hj_throw (rest := []) (cls := hj_IAE) (names := ["java/lang/RuntimeException", "java/lang/Exception"]) (ik := 69) (is := 71) (ic := 73) (text := "the tape is empty") hx hb hl9 hown (by decide +kernel) (by decide +kernel) (hts _ m_577) (hts _ m_9) hstr (fun w hw => (hj_at_IAE w hw).holds hts hEY) (Nat.le_refl _) (hl.1.trans hml.symm) d_J_append_25 d_J_append_28 d_J_append_29 d_J_append_31 d_J_append_34 (hno _) (Nat.le_of_ble_eq_true rfl) (Nat.le_of_ble_eq_true rfl) (Nat.le_of_ble_eq_true rfl) (Nat.le_of_ble_eq_true rfl) hlocks hthr
  · exact absurd rfl c_1
abbrev rm_J_compact_t2 : Room := { frames := 8, cells := 1, slots := 6, locals := 100 }
set_option maxHeartbeats 4000000 in
set_option maxRecDepth 100000 in
theorem c_J_compact_t2 (l : Launch) (hl9 : l.stackTraces = false) (dC : Nat → ClassId) (dI : Nat → Nat → Nat) (j dk rc ta pa : Nat) (tl h : Nat)  : hj_Mt l y_J_compact b_J_compact 4 .int rm_J_compact_t2 hj_EY (dC, dI) vwCl [] [(j, .inr (2, [.ref dk, .ref rc, .ref ta, .ref pa, .int (nI tl), .int (nI 2), .int (nI 2147483647), .int (nI h)]))] [.ref j] hj_UOE := by
  refine hj_bodyT (by decide +kernel) (Nat.le_of_ble_eq_true rfl) ?_
  intro p e s m args below meth c A Q ls hx hb hts hown hml hlocks hno hA hP hK hD hEY hl hthr
  have hE := hEY.1
  have hS : va_S A s.heap s.heap [] := va_S.rf
  have hown : s.vm.findClass "HalfJournal" = some m.cls := hown
  have hl : lv_has ls 4 [(0, .ref j)] := hl
  have hP : va_P (dC, dI) vwCl [(j, .inr (2, [.ref dk, .ref rc, .ref ta, .ref pa, .int (nI tl), .int (nI 2), .int (nI 2147483647), .int (nI h)]))] s.heap := hP
  have hD : va_D A [(j, .inr (2, [.ref dk, .ref rc, .ref ta, .ref pa, .int (nI tl), .int (nI 2), .int (nI 2147483647), .int (nI h)]))] := hD
  refine lv_aload_n hx hb d_J_compact_0 rfl (lv_at hl 0 rfl) ?_
  refine va_get (D := (dC, dI)) (ci := 2) (v := .int (nI 2)) (C := "HalfJournal") (T := F_J) (N := 8) hx hb hts i_J hown hK hP 0 rfl rfl 5 (by decide) (hts _ m_89) (fun _ h9 => h9) rfl d_J_compact_1 ?_
  refine lv_iconst (v := nI 2) hx hb d_J_compact_4 (by decide) ?_
  refine hj_icmp_eq (tgt := 18) hx hb (by omega) (by omega) d_J_compact_5 (by decide) (fun c_1 => ?_) (fun c_1 => ?_)
  · refine lv_aload_n hx hb d_J_compact_18 rfl (lv_at hl 0 rfl) ?_
    refine va_get (D := (dC, dI)) (ci := 2) (v := .int (nI 2147483647)) (C := "HalfJournal") (T := F_J) (N := 8) hx hb hts i_J hown hK hP 0 rfl rfl 6 (by decide) (hts _ m_90) (fun _ h9 => h9) rfl d_J_compact_19 ?_
    refine lv_ldc (own := "HalfJournal") (v := (2147483647)) hx hb hown (hts _ m_624) d_J_compact_22 ?_
    refine hj_topv (y := nI 2147483647) (by decide +kernel) ?_
    refine hj_icmp_ne (tgt := 37) hx hb (by omega) (by omega) d_J_compact_24 (by decide) (fun c_2 => ?_) (fun c_2 => ?_)
    · exact absurd rfl c_2
    · obtain ⟨sa9, hstr⟩ := hEY.2.2.2.2.2.2.2.1
      exact hj_throw (rest := []) (cls := hj_UOE) (names := ["java/lang/RuntimeException", "java/lang/Exception"]) (ik := 81) (is := 115) (ic := 85) (text := "there is no greater generation") hx hb hl9 hown (by decide +kernel) (by decide +kernel) (hts _ m_580) (hts _ m_21) hstr (fun w hw => (hj_at_UOE w hw).holds hts hEY) (Nat.le_refl _) (hl.1.trans hml.symm) d_J_compact_27 d_J_compact_30 d_J_compact_31 d_J_compact_33 d_J_compact_36 (hno _) (Nat.le_of_ble_eq_true rfl) (Nat.le_of_ble_eq_true rfl) (Nat.le_of_ble_eq_true rfl) (Nat.le_of_ble_eq_true rfl) hlocks hthr
  · exact absurd rfl c_1
abbrev rm_J_append_t3 : Room := { frames := 16, cells := 1, slots := 6, locals := 200 }
set_option maxHeartbeats 4000000 in
set_option maxRecDepth 100000 in
theorem c_J_append_t3 (l : Launch) (hl9 : l.stackTraces = false) (dC : Nat → ClassId) (dI : Nat → Nat → Nat) (j dk rc ta pa : Nat) (tl g h : Nat) (sa la ma : Nat) (n us mm : Nat) (h0 : 0 < tl) (htl : tl ≤ 1000) (hus : us ≤ 15872) (hbig : 15872 < us + hj_sz tl) : hj_Mt l y_J_append b_J_append 4 .int rm_J_append_t3 hj_EY (dC, dI) vwCl [] [(j, .inr (2, [.ref dk, .ref rc, .ref ta, .ref pa, .int (nI tl), .int (nI 2), .int (nI g), .int (nI h)])), (rc, .inr (1, [.ref sa, .ref la, .ref ma, .int (nI n), .int (nI us), .int (nI mm)]))] [.ref j] hj_UOE := by
  refine hj_bodyT (by decide +kernel) (Nat.le_of_ble_eq_true rfl) ?_
  intro p e s m args below meth c A Q ls hx hb hts hown hml hlocks hno hA hP hK hD hEY hl hthr
  have hE := hEY.1
  have hS : va_S A s.heap s.heap [] := va_S.rf
  have hown : s.vm.findClass "HalfJournal" = some m.cls := hown
  have hl : lv_has ls 4 [(0, .ref j)] := hl
  have hP : va_P (dC, dI) vwCl [(j, .inr (2, [.ref dk, .ref rc, .ref ta, .ref pa, .int (nI tl), .int (nI 2), .int (nI g), .int (nI h)])), (rc, .inr (1, [.ref sa, .ref la, .ref ma, .int (nI n), .int (nI us), .int (nI mm)]))] s.heap := hP
  have hD : va_D A [(j, .inr (2, [.ref dk, .ref rc, .ref ta, .ref pa, .int (nI tl), .int (nI 2), .int (nI g), .int (nI h)])), (rc, .inr (1, [.ref sa, .ref la, .ref ma, .int (nI n), .int (nI us), .int (nI mm)]))] := hD
  refine lv_aload_n hx hb d_J_append_0 rfl (lv_at hl 0 rfl) ?_
  refine va_get (D := (dC, dI)) (ci := 2) (v := .int (nI 2)) (C := "HalfJournal") (T := F_J) (N := 8) hx hb hts i_J hown hK hP 0 rfl rfl 5 (by decide) (hts _ m_89) (fun _ h9 => h9) rfl d_J_append_1 ?_
  refine lv_iconst (v := nI 2) hx hb d_J_append_4 (by decide) ?_
  refine hj_icmp_eq (tgt := 18) hx hb (by omega) (by omega) d_J_append_5 (by decide) (fun c_1 => ?_) (fun c_1 => ?_)
  · refine lv_aload_n hx hb d_J_append_18 rfl (lv_at hl 0 rfl) ?_
    refine va_get (D := (dC, dI)) (ci := 2) (v := .int (nI tl)) (C := "HalfJournal") (T := F_J) (N := 8) hx hb hts i_J hown hK hP 0 rfl rfl 4 (by decide) (hts _ m_88) (fun _ h9 => h9) rfl d_J_append_19 ?_
    refine hj_if_ne (tgt := 35) hx hb (by omega) d_J_append_22 (by decide) (fun c_2 => ?_) (fun c_2 => ?_)
    · have hsz := hj_sz_le tl
      refine lv_aload_n hx hb d_J_append_35 rfl (lv_at hl 0 rfl) ?_
      refine va_get (D := (dC, dI)) (ci := 2) (v := .int (nI tl)) (C := "HalfJournal") (T := F_J) (N := 8) hx hb hts i_J hown hK hP 0 rfl rfl 4 (by decide) (hts _ m_88) (fun _ h9 => h9) rfl d_J_append_36 ?_
      have hS0 : va_S (fun q : Nat => s.heap.size ≤ q) s.heap s.heap [] := va_S.rf
      have hA0 : ∀ q, va_A [] s.heap.size q → s.heap.size ≤ q := fun q h => h.elim (fun ⟨k9, e9, h9⟩ => by simp at h9) id
      refine va_calli (va_runS (As := [.int (nI tl)]) (rest := []) ⟨hx, hb, hml, hown, hts⟩ (c_J_sizeOf l dC dI tl (by omega) s.heap.size) (cwS 1 hts (hj_gS m_471 m_472 m_1 m_473) rfl rfl rfl (by decide +kernel) ⟨Nat.le_of_ble_eq_true rfl, Nat.le_of_ble_eq_true rfl⟩) (hj_preS hj_EXok hE hP hD hK hS hA [] rfl rfl [] rfl) rfl rfl hl.1 rfl (lv_room (Nat.le_of_ble_eq_true rfl)) d_J_append_39 ⟨Nat.le_of_ble_eq_true rfl, Nat.le_of_ble_eq_true rfl⟩) hS0 (fun q _ h => hA0 q h) hA0 (fun r9 u9 t9 H locs ht9 hvm9 hw hB hz hk9 hS => ?_)
      subst hw
      have hP : va_P (dC, dI) vwCl [(j, .inr (2, [.ref dk, .ref rc, .ref ta, .ref pa, .int (nI tl), .int (nI 2), .int (nI g), .int (nI h)])), (rc, .inr (1, [.ref sa, .ref la, .ref ma, .int (nI n), .int (nI us), .int (nI mm)]))] H := hP.kept (fun k9 q9 hq9 => hk9 _ (hP k9 q9 hq9).lt (fun z => absurd (hA0 _ z) (Nat.not_le.mpr (hP k9 q9 hq9).lt)))
      refine lv_sipush (v := nI 15872) hx hb d_J_append_42 (by decide) ?_
      refine lv_aload_n hx hb d_J_append_45 rfl (lv_at hl 0 rfl) ?_
      refine va_get (D := (dC, dI)) (ci := 2) (v := .ref rc) (C := "HalfJournal") (T := F_J) (N := 8) hx hb hts i_J hown hK hP 0 rfl rfl 1 (by decide) (hts _ m_85) (fun _ h9 => h9) rfl d_J_append_46 ?_
      refine va_getN (D := (dC, dI)) (ci := 1) (v := .int (nI us)) (C := "HalfJournal$Records") (T := F_R) (N := 6) hx hb hts i_R hown hK hP 1 rfl rfl 4 (by decide) (va_Nw.use rfl (hE.1 _ m_66)) (fun _ h9 => h9) rfl d_J_append_49 ?_
      refine hj_isub hx hb (by omega) d_J_append_52 ?_
      refine hj_icmp_le (tgt := 66) hx hb (by omega) (by omega) d_J_append_53 (by decide) (fun c_3 => ?_) (fun c_3 => ?_)
      · omega
      · refine va_forget (fun q hq => hS.2.2 q hq) ?_
        refine W.widen (k := 0) (n := 0) (Nat.le_refl _) (Nat.le_refl _) ?_
        obtain ⟨sa9, hstr⟩ := hEY.2.2.2.2.2.2.1
        exact hj_throw (rest := []) (cls := hj_UOE) (names := ["java/lang/RuntimeException", "java/lang/Exception"]) (ik := 81) (is := 83) (ic := 85) (text := "the half has no room for the record") hx hb hl9 hown (by decide +kernel) (by decide +kernel) (hts _ m_580) (hts _ m_21) hstr (fun w hw => (hj_at_UOE w hw).holds hts hEY) hz (hl.1.trans hml.symm) d_J_append_56 d_J_append_59 d_J_append_60 d_J_append_62 d_J_append_65 (hno _) (Nat.le_of_ble_eq_true rfl) (Nat.le_of_ble_eq_true rfl) (Nat.le_of_ble_eq_true rfl) (Nat.le_of_ble_eq_true rfl) hlocks hthr
    · omega
  · exact absurd rfl c_1
abbrev rm_J_append : Room := { frames := 48, cells := 0, slots := 0, locals := 600 }
set_option maxHeartbeats 4000000 in
set_option maxRecDepth 100000 in
theorem c_J_append (l : Launch) (dC : Nat → ClassId) (dI : Nat → Nat → Nat) (j dk rc ta pa : Nat) (tl g h : Nat) (a : Nat) (cA : ClassId) (d : Nat → Nat) (du wr : Int32) (sa la ma : Nat) (n us mm : Nat) (cS cL cM : ClassId) (fs fl fm : Nat → Int32) (cT cP : ClassId) (tp pl : Nat → Nat) (hh : h < 2) (hd : hj_bs d) (ht : hj_bs tp) (hp : hj_bs pl) (h0 : 0 < tl) (htl : tl ≤ 1000) (hn84 : n < 1984) (hfit : us + hj_sz tl ≤ 15872) : hj_Mi l y_J_append b_J_append 4 .int rm_J_append hj_EX (dC, dI) vwCl [(cA, .byte), (cS, .int), (cL, .int), (cM, .boolean), (cT, .byte), (cP, .byte)] [(j, .inr (2, [.ref dk, .ref rc, .ref ta, .ref pa, .int (nI tl), .int (nI 2), .int (nI g), .int (nI h)])), (dk, .inr (0, [.ref a, .int du, .int wr])), (a, .inl (cA, 32768, .inl (hj_B d))), (rc, .inr (1, [.ref sa, .ref la, .ref ma, .int (nI n), .int (nI us), .int (nI mm)])), (sa, .inl (cS, 1984, .inl fs)), (la, .inl (cL, 1984, .inl fl)), (ma, .inl (cM, 1984, .inl fm)), (ta, .inl (cT, 1000, .inl (hj_B tp))), (pa, .inl (cP, 15872, .inl (hj_B pl)))] [.ref j] (fun r (((st1, g1, h1, n1, us1, mm1), du1, wr1, d1, pl1, f1, f2, f3) : (Nat × Nat × Nat × Nat × Nat × Nat) × Int32 × Int32 × (Nat → Nat) × (Nat → Nat) × (Nat → Int32) × (Nat → Int32) × (Nat → Int32)) => d1 = (hj_wdn (hj_im d h us tp tl) (2 + h * 31) (us / 512) (hj_lb (us + hj_sz tl) + 1 - us / 512) d du wr).2.1 ∧ du1 = (hj_wdn (hj_im d h us tp tl) (2 + h * 31) (us / 512) (hj_lb (us + hj_sz tl) + 1 - us / 512) d du wr).2.2.1 ∧ wr1 = (hj_wdn (hj_im d h us tp tl) (2 + h * 31) (us / 512) (hj_lb (us + hj_sz tl) + 1 - us / 512) d du wr).2.2.2 ∧ hj_bs pl1 ∧ (((hj_wdn (hj_im d h us tp tl) (2 + h * 31) (us / 512) (hj_lb (us + hj_sz tl) + 1 - us / 512) d du wr).1 = false ∧ r = -1 ∧ st1 = 0 ∧ g1 = 0 ∧ h1 = 0 ∧ n1 = 0 ∧ us1 = 0 ∧ mm1 = 0) ∨ ((hj_wdn (hj_im d h us tp tl) (2 + h * 31) (us / 512) (hj_lb (us + hj_sz tl) + 1 - us / 512) d du wr).1 = true ∧ r = nI n ∧ st1 = 2 ∧ g1 = g ∧ h1 = h ∧ n1 = n + 1 ∧ us1 = us + hj_sz tl ∧ mm1 = mm ∧ f1 = va_up fs n (nI us) ∧ f2 = va_up fl n (nI tl) ∧ f3 = va_up fm n (nI 0)))) (fun (((st1, g1, h1, n1, us1, mm1), du1, wr1, d1, pl1, f1, f2, f3) : (Nat × Nat × Nat × Nat × Nat × Nat) × Int32 × Int32 × (Nat → Nat) × (Nat → Nat) × (Nat → Int32) × (Nat → Int32) × (Nat → Int32)) => [(j, .inr (2, [.ref dk, .ref rc, .ref ta, .ref pa, .int (nI 0), .int (nI st1), .int (nI g1), .int (nI h1)])), (dk, .inr (0, [.ref a, .int du1, .int wr1])), (a, .inl (cA, 32768, .inl (hj_B d1))), (rc, .inr (1, [.ref sa, .ref la, .ref ma, .int (nI n1), .int (nI us1), .int (nI mm1)])), (sa, .inl (cS, 1984, .inl f1)), (la, .inl (cL, 1984, .inl f2)), (ma, .inl (cM, 1984, .inl f3)), (ta, .inl (cT, 1000, .inl (hj_B tp))), (pa, .inl (cP, 15872, .inl (hj_B pl1)))]) (fun _ => [(cA, .byte), (cS, .int), (cL, .int), (cM, .boolean), (cT, .byte), (cP, .byte)]) 0 0 := by
  refine hj_bodyI (by decide +kernel) (Nat.le_of_ble_eq_true rfl) ?_
  intro p e s m args below meth c A Q ls hx hb hts hown hml hA hP hK hD hE hl hret
  have hS : va_S A s.heap s.heap [] := va_S.rf
  have hown : s.vm.findClass "HalfJournal" = some m.cls := hown
  have hl : lv_has ls 4 [(0, .ref j)] := hl
  have hP : va_P (dC, dI) vwCl [(j, .inr (2, [.ref dk, .ref rc, .ref ta, .ref pa, .int (nI tl), .int (nI 2), .int (nI g), .int (nI h)])), (dk, .inr (0, [.ref a, .int du, .int wr])), (a, .inl (cA, 32768, .inl (hj_B d))), (rc, .inr (1, [.ref sa, .ref la, .ref ma, .int (nI n), .int (nI us), .int (nI mm)])), (sa, .inl (cS, 1984, .inl fs)), (la, .inl (cL, 1984, .inl fl)), (ma, .inl (cM, 1984, .inl fm)), (ta, .inl (cT, 1000, .inl (hj_B tp))), (pa, .inl (cP, 15872, .inl (hj_B pl)))] s.heap := hP
  have hD : va_D A [(j, .inr (2, [.ref dk, .ref rc, .ref ta, .ref pa, .int (nI tl), .int (nI 2), .int (nI g), .int (nI h)])), (dk, .inr (0, [.ref a, .int du, .int wr])), (a, .inl (cA, 32768, .inl (hj_B d))), (rc, .inr (1, [.ref sa, .ref la, .ref ma, .int (nI n), .int (nI us), .int (nI mm)])), (sa, .inl (cS, 1984, .inl fs)), (la, .inl (cL, 1984, .inl fl)), (ma, .inl (cM, 1984, .inl fm)), (ta, .inl (cT, 1000, .inl (hj_B tp))), (pa, .inl (cP, 15872, .inl (hj_B pl)))] := hD
  have hsz := hj_sz_le tl
  have hsz6 : hj_sz tl = 6 + tl + tl % 2 := rfl
  refine lv_aload_n hx hb d_J_append_0 rfl (lv_at hl 0 rfl) ?_
  refine va_get (D := (dC, dI)) (ci := 2) (v := .int (nI 2)) (C := "HalfJournal") (T := F_J) (N := 8) hx hb hts i_J hown hK hP 0 rfl rfl 5 (by decide) (hts _ m_89) (fun _ h9 => h9) rfl d_J_append_1 ?_
  refine lv_iconst (v := nI 2) hx hb d_J_append_4 (by decide) ?_
  refine hj_icmp_eq (tgt := 18) hx hb (by omega) (by omega) d_J_append_5 (by decide) (fun c_1 => ?_) (fun c_1 => ?_)
  · refine lv_aload_n hx hb d_J_append_18 rfl (lv_at hl 0 rfl) ?_
    refine va_get (D := (dC, dI)) (ci := 2) (v := .int (nI tl)) (C := "HalfJournal") (T := F_J) (N := 8) hx hb hts i_J hown hK hP 0 rfl rfl 4 (by decide) (hts _ m_88) (fun _ h9 => h9) rfl d_J_append_19 ?_
    refine hj_if_ne (tgt := 35) hx hb (by omega) d_J_append_22 (by decide) (fun c_2 => ?_) (fun c_2 => ?_)
    · refine lv_aload_n hx hb d_J_append_35 rfl (lv_at hl 0 rfl) ?_
      refine va_get (D := (dC, dI)) (ci := 2) (v := .int (nI tl)) (C := "HalfJournal") (T := F_J) (N := 8) hx hb hts i_J hown hK hP 0 rfl rfl 4 (by decide) (hts _ m_88) (fun _ h9 => h9) rfl d_J_append_36 ?_
      refine hj_calli (wc := []) (wr := [(j, .inr (2, [.ref dk, .ref rc, .ref ta, .ref pa, .int (nI tl), .int (nI 2), .int (nI g), .int (nI h)])), (dk, .inr (0, [.ref a, .int du, .int wr])), (a, .inl (cA, 32768, .inl (hj_B d))), (rc, .inr (1, [.ref sa, .ref la, .ref ma, .int (nI n), .int (nI us), .int (nI mm)])), (sa, .inl (cS, 1984, .inl fs)), (la, .inl (cL, 1984, .inl fl)), (ma, .inl (cM, 1984, .inl fm)), (ta, .inl (cT, 1000, .inl (hj_B tp))), (pa, .inl (cP, 15872, .inl (hj_B pl)))]) [] [0, 1, 2, 3, 4, 5, 6, 7, 8] hP hD hS hA rfl rfl rfl (by decide) (va_runS (As := [.int (nI tl)]) (rest := []) ⟨hx, hb, hml, hown, hts⟩ (c_J_sizeOf l dC dI tl (by omega) s.heap.size) (cwS 1 hts (hj_gS m_471 m_472 m_1 m_473) rfl rfl rfl (by decide +kernel) ⟨Nat.le_of_ble_eq_true rfl, Nat.le_of_ble_eq_true rfl⟩) (hj_preS hj_EXok hE hP hD hK hS hA [] rfl rfl [] rfl) rfl rfl hl.1 rfl (lv_room (Nat.le_of_ble_eq_true rfl)) d_J_append_39 ⟨Nat.le_of_ble_eq_true rfl, Nat.le_of_ble_eq_true rfl⟩) (fun r_1 u_2 H locs hw hP hD hK1 hS => ?_)
      subst hw
      have hP : va_P (dC, dI) vwCl [(j, .inr (2, [.ref dk, .ref rc, .ref ta, .ref pa, .int (nI tl), .int (nI 2), .int (nI g), .int (nI h)])), (dk, .inr (0, [.ref a, .int du, .int wr])), (a, .inl (cA, 32768, .inl (hj_B d))), (rc, .inr (1, [.ref sa, .ref la, .ref ma, .int (nI n), .int (nI us), .int (nI mm)])), (sa, .inl (cS, 1984, .inl fs)), (la, .inl (cL, 1984, .inl fl)), (ma, .inl (cM, 1984, .inl fm)), (ta, .inl (cT, 1000, .inl (hj_B tp))), (pa, .inl (cP, 15872, .inl (hj_B pl)))] H := hP.sub [0, 1, 2, 3, 4, 5, 6, 7, 8] rfl
      have hD : va_D A [(j, .inr (2, [.ref dk, .ref rc, .ref ta, .ref pa, .int (nI tl), .int (nI 2), .int (nI g), .int (nI h)])), (dk, .inr (0, [.ref a, .int du, .int wr])), (a, .inl (cA, 32768, .inl (hj_B d))), (rc, .inr (1, [.ref sa, .ref la, .ref ma, .int (nI n), .int (nI us), .int (nI mm)])), (sa, .inl (cS, 1984, .inl fs)), (la, .inl (cL, 1984, .inl fl)), (ma, .inl (cM, 1984, .inl fm)), (ta, .inl (cT, 1000, .inl (hj_B tp))), (pa, .inl (cP, 15872, .inl (hj_B pl)))] := hD.sub [0, 1, 2, 3, 4, 5, 6, 7, 8] (by decide) rfl
      refine lv_sipush (v := nI 15872) hx hb d_J_append_42 (by decide) ?_
      refine lv_aload_n hx hb d_J_append_45 rfl (lv_at hl 0 rfl) ?_
      refine va_get (D := (dC, dI)) (ci := 2) (v := .ref rc) (C := "HalfJournal") (T := F_J) (N := 8) hx hb hts i_J hown hK hP 0 rfl rfl 1 (by decide) (hts _ m_85) (fun _ h9 => h9) rfl d_J_append_46 ?_
      refine va_getN (D := (dC, dI)) (ci := 1) (v := .int (nI us)) (C := "HalfJournal$Records") (T := F_R) (N := 6) hx hb hts i_R hown hK hP 3 rfl rfl 4 (by decide) (va_Nw.use rfl (hE.1 _ m_66)) (fun _ h9 => h9) rfl d_J_append_49 ?_
      refine hj_isub hx hb (by omega) d_J_append_52 ?_
      refine hj_icmp_le (tgt := 66) hx hb (by omega) (by omega) d_J_append_53 (by decide) (fun c_3 => ?_) (fun c_3 => ?_)
      · refine lv_aload_n hx hb d_J_append_66 rfl (lv_at hl 0 rfl) ?_
        refine va_get (D := (dC, dI)) (ci := 2) (v := .int (nI tl)) (C := "HalfJournal") (T := F_J) (N := 8) hx hb hts i_J hown hK hP 0 rfl rfl 4 (by decide) (hts _ m_88) (fun _ h9 => h9) rfl d_J_append_67 ?_
        refine lv_istore_n (lv' := [(1, .int (nI tl)), (0, .ref j)]) hx hb d_J_append_70 rfl hl (by decide) rfl (fun ls hl => ?_)
        refine lv_aload_n hx hb d_J_append_71 rfl (lv_at hl 1 rfl) ?_
        refine va_get (D := (dC, dI)) (ci := 2) (v := .ref rc) (C := "HalfJournal") (T := F_J) (N := 8) hx hb hts i_J hown hK hP 0 rfl rfl 1 (by decide) (hts _ m_85) (fun _ h9 => h9) rfl d_J_append_72 ?_
        refine va_getN (D := (dC, dI)) (ci := 1) (v := .int (nI us)) (C := "HalfJournal$Records") (T := F_R) (N := 6) hx hb hts i_R hown hK hP 3 rfl rfl 4 (by decide) (va_Nw.use rfl (hE.1 _ m_66)) (fun _ h9 => h9) rfl d_J_append_75 ?_
        refine lv_sipush (v := nI 512) hx hb d_J_append_78 (by decide) ?_
        refine hj_idiv hx hb (by omega) (by omega) (by omega) d_J_append_81 ?_
        refine lv_istore_n (lv' := [(2, .int (nI (us / 512))), (1, .int (nI tl)), (0, .ref j)]) hx hb d_J_append_82 rfl hl (by decide) rfl (fun ls hl => ?_)
        refine lv_aload_n hx hb d_J_append_83 rfl (lv_at hl 2 rfl) ?_
        refine va_get (D := (dC, dI)) (ci := 2) (v := .ref rc) (C := "HalfJournal") (T := F_J) (N := 8) hx hb hts i_J hown hK hP 0 rfl rfl 1 (by decide) (hts _ m_85) (fun _ h9 => h9) rfl d_J_append_84 ?_
        refine va_getN (D := (dC, dI)) (ci := 1) (v := .int (nI us)) (C := "HalfJournal$Records") (T := F_R) (N := 6) hx hb hts i_R hown hK hP 3 rfl rfl 4 (by decide) (va_Nw.use rfl (hE.1 _ m_66)) (fun _ h9 => h9) rfl d_J_append_87 ?_
        refine lv_iload_n hx hb d_J_append_90 rfl (lv_at hl 1 rfl) ?_
        refine hj_calli (wc := []) (wr := [(j, .inr (2, [.ref dk, .ref rc, .ref ta, .ref pa, .int (nI tl), .int (nI 2), .int (nI g), .int (nI h)])), (dk, .inr (0, [.ref a, .int du, .int wr])), (a, .inl (cA, 32768, .inl (hj_B d))), (rc, .inr (1, [.ref sa, .ref la, .ref ma, .int (nI n), .int (nI us), .int (nI mm)])), (sa, .inl (cS, 1984, .inl fs)), (la, .inl (cL, 1984, .inl fl)), (ma, .inl (cM, 1984, .inl fm)), (ta, .inl (cT, 1000, .inl (hj_B tp))), (pa, .inl (cP, 15872, .inl (hj_B pl)))]) [] [0, 1, 2, 3, 4, 5, 6, 7, 8] hP hD hS hA rfl rfl rfl (by decide) (va_runS (As := [.int (nI tl)]) (rest := [.int (nI us)]) ⟨hx, hb, hml, hown, hts⟩ (c_J_sizeOf l dC dI tl (by omega) H.size) (cwS 1 hts (hj_gS m_471 m_472 m_1 m_473) rfl rfl rfl (by decide +kernel) ⟨Nat.le_of_ble_eq_true rfl, Nat.le_of_ble_eq_true rfl⟩) (hj_preS hj_EXok hE hP hD hK hS hA [] rfl rfl [] rfl) rfl rfl hl.1 rfl (lv_room (Nat.le_of_ble_eq_true rfl)) d_J_append_91 ⟨Nat.le_of_ble_eq_true rfl, Nat.le_of_ble_eq_true rfl⟩) (fun r_3 u_4 H locs hw hP hD hK1 hS => ?_)
        subst hw
        have hP : va_P (dC, dI) vwCl [(j, .inr (2, [.ref dk, .ref rc, .ref ta, .ref pa, .int (nI tl), .int (nI 2), .int (nI g), .int (nI h)])), (dk, .inr (0, [.ref a, .int du, .int wr])), (a, .inl (cA, 32768, .inl (hj_B d))), (rc, .inr (1, [.ref sa, .ref la, .ref ma, .int (nI n), .int (nI us), .int (nI mm)])), (sa, .inl (cS, 1984, .inl fs)), (la, .inl (cL, 1984, .inl fl)), (ma, .inl (cM, 1984, .inl fm)), (ta, .inl (cT, 1000, .inl (hj_B tp))), (pa, .inl (cP, 15872, .inl (hj_B pl)))] H := hP.sub [0, 1, 2, 3, 4, 5, 6, 7, 8] rfl
        have hD : va_D A [(j, .inr (2, [.ref dk, .ref rc, .ref ta, .ref pa, .int (nI tl), .int (nI 2), .int (nI g), .int (nI h)])), (dk, .inr (0, [.ref a, .int du, .int wr])), (a, .inl (cA, 32768, .inl (hj_B d))), (rc, .inr (1, [.ref sa, .ref la, .ref ma, .int (nI n), .int (nI us), .int (nI mm)])), (sa, .inl (cS, 1984, .inl fs)), (la, .inl (cL, 1984, .inl fl)), (ma, .inl (cM, 1984, .inl fm)), (ta, .inl (cT, 1000, .inl (hj_B tp))), (pa, .inl (cP, 15872, .inl (hj_B pl)))] := hD.sub [0, 1, 2, 3, 4, 5, 6, 7, 8] (by decide) rfl
        refine hj_iadd hx hb d_J_append_94 ?_
        refine hj_calli (wc := []) (wr := [(j, .inr (2, [.ref dk, .ref rc, .ref ta, .ref pa, .int (nI tl), .int (nI 2), .int (nI g), .int (nI h)])), (dk, .inr (0, [.ref a, .int du, .int wr])), (a, .inl (cA, 32768, .inl (hj_B d))), (rc, .inr (1, [.ref sa, .ref la, .ref ma, .int (nI n), .int (nI us), .int (nI mm)])), (sa, .inl (cS, 1984, .inl fs)), (la, .inl (cL, 1984, .inl fl)), (ma, .inl (cM, 1984, .inl fm)), (ta, .inl (cT, 1000, .inl (hj_B tp))), (pa, .inl (cP, 15872, .inl (hj_B pl)))]) [] [0, 1, 2, 3, 4, 5, 6, 7, 8] hP hD hS hA rfl rfl rfl (by decide) (va_runS (As := [.int (nI (us + (hj_sz tl)))]) (rest := []) ⟨hx, hb, hml, hown, hts⟩ (c_J_lastBlockOf l dC dI (us + hj_sz tl) (by omega) H.size) (cwS 1 hts (hj_gS m_596 m_597 m_1 m_598) rfl rfl rfl (by decide +kernel) ⟨Nat.le_of_ble_eq_true rfl, Nat.le_of_ble_eq_true rfl⟩) (hj_preS hj_EXok hE hP hD hK hS hA [] rfl rfl [] rfl) rfl rfl hl.1 rfl (lv_room (Nat.le_of_ble_eq_true rfl)) d_J_append_95 ⟨Nat.le_of_ble_eq_true rfl, Nat.le_of_ble_eq_true rfl⟩) (fun r_5 u_6 H locs hw hP hD hK1 hS => ?_)
        subst hw
        have hP : va_P (dC, dI) vwCl [(j, .inr (2, [.ref dk, .ref rc, .ref ta, .ref pa, .int (nI tl), .int (nI 2), .int (nI g), .int (nI h)])), (dk, .inr (0, [.ref a, .int du, .int wr])), (a, .inl (cA, 32768, .inl (hj_B d))), (rc, .inr (1, [.ref sa, .ref la, .ref ma, .int (nI n), .int (nI us), .int (nI mm)])), (sa, .inl (cS, 1984, .inl fs)), (la, .inl (cL, 1984, .inl fl)), (ma, .inl (cM, 1984, .inl fm)), (ta, .inl (cT, 1000, .inl (hj_B tp))), (pa, .inl (cP, 15872, .inl (hj_B pl)))] H := hP.sub [0, 1, 2, 3, 4, 5, 6, 7, 8] rfl
        have hD : va_D A [(j, .inr (2, [.ref dk, .ref rc, .ref ta, .ref pa, .int (nI tl), .int (nI 2), .int (nI g), .int (nI h)])), (dk, .inr (0, [.ref a, .int du, .int wr])), (a, .inl (cA, 32768, .inl (hj_B d))), (rc, .inr (1, [.ref sa, .ref la, .ref ma, .int (nI n), .int (nI us), .int (nI mm)])), (sa, .inl (cS, 1984, .inl fs)), (la, .inl (cL, 1984, .inl fl)), (ma, .inl (cM, 1984, .inl fm)), (ta, .inl (cT, 1000, .inl (hj_B tp))), (pa, .inl (cP, 15872, .inl (hj_B pl)))] := hD.sub [0, 1, 2, 3, 4, 5, 6, 7, 8] (by decide) rfl
        obtain ⟨l1, hl1⟩ : ∃ l1, l1 = hj_lb (us + hj_sz tl) := ⟨_, rfl⟩
        obtain ⟨f1, hf1⟩ : ∃ f1, f1 = us / 512 := ⟨_, rfl⟩
        have hl30 : l1 ≤ 30 := by rw [hl1]; exact hj_lb_le _
        have hfl : f1 ≤ l1 := by rw [hf1, hl1]; exact hj_lb_ge (by omega) (by omega)
        have hle := hj_lb_end hfit
        rw [← hl1] at hle
        rw [← hl1]
        rw [← hf1] at hl
        rw [← hl1, ← hf1] at hret
        have hl : lv_has ls 4 [(2, .int (nI f1)), (1, .int (nI tl)), (0, .ref j)] := hl
        refine lv_istore_n (lv' := [(3, .int (nI l1)), (2, .int (nI f1)), (1, .int (nI tl)), (0, .ref j)]) hx hb d_J_append_98 rfl hl (by decide) rfl (fun ls hl => ?_)
        refine lv_aload_n hx hb d_J_append_99 rfl (lv_at hl 3 rfl) ?_
        refine lv_iload_n hx hb d_J_append_100 rfl (lv_at hl 1 rfl) ?_
        refine lv_iload_n hx hb d_J_append_101 rfl (lv_at hl 0 rfl) ?_
        refine hj_callv (wc := [(j, .inr (2, [.ref dk, .ref rc, .ref ta, .ref pa, .int (nI tl), .int (nI 2), .int (nI g), .int (nI h)])), (dk, .inr (0, [.ref a, .int du, .int wr])), (rc, .inr (1, [.ref sa, .ref la, .ref ma, .int (nI n), .int (nI us), .int (nI mm)])), (ta, .inl (cT, 1000, .inl (hj_B tp))), (pa, .inl (cP, 15872, .inl (hj_B pl))), (a, .inl (cA, 32768, .inl (hj_B d)))]) (wr := [(sa, .inl (cS, 1984, .inl fs)), (la, .inl (cL, 1984, .inl fl)), (ma, .inl (cM, 1984, .inl fm))]) [0, 1, 3, 7, 8, 2] [4, 5, 6] hP hD hS hA rfl rfl rfl (by decide) (va_runV (As := [.int (nI f1), .int (nI l1)]) (rest := []) ⟨hx, hb, hml, hown, hts⟩ (c_J_planTape l dC dI j dk rc ta pa tl 2 g h a cA d du wr sa la ma n us mm cT cP tp pl f1 l1 hh hd ht hp (by omega) (by omega) hl30 htl (by omega) H.size) (cwV 2 hts (hj_gV m_600 m_602 s_J_planTape m_1 m_603) rfl rfl rfl (by decide +kernel) ⟨Nat.le_of_ble_eq_true rfl, Nat.le_of_ble_eq_true rfl⟩) (hj_preV (ci := 2) (q0 := 0) hj_EXok hE hP hD hK hS hA [0, 1, 3, 7, 8, 2] rfl rfl [4, 5, 0] rfl rfl rfl) rfl rfl hl.1 rfl (lv_room (Nat.le_of_ble_eq_true rfl)) d_J_append_102 ⟨Nat.le_of_ble_eq_true rfl, Nat.le_of_ble_eq_true rfl⟩) (fun u_8 H locs hw hP hD hK1 hS => ?_)
        obtain ⟨fky, rfl⟩ : ∃ z9, z9 = u_8 := ⟨_, rfl⟩
        have hP : va_P (dC, dI) vwCl [(j, .inr (2, [.ref dk, .ref rc, .ref ta, .ref pa, .int (nI tl), .int (nI 2), .int (nI g), .int (nI h)])), (dk, .inr (0, [.ref a, .int du, .int wr])), (a, .inl (cA, 32768, .inl (hj_B d))), (rc, .inr (1, [.ref sa, .ref la, .ref ma, .int (nI n), .int (nI us), .int (nI mm)])), (sa, .inl (cS, 1984, .inl fs)), (la, .inl (cL, 1984, .inl fl)), (ma, .inl (cM, 1984, .inl fm)), (ta, .inl (cT, 1000, .inl (hj_B tp))), (pa, .inl (cP, 15872, .inl (hj_B fky)))] H := hP.sub [3, 4, 8, 5, 0, 1, 2, 6, 7] rfl
        have hD : va_D A [(j, .inr (2, [.ref dk, .ref rc, .ref ta, .ref pa, .int (nI tl), .int (nI 2), .int (nI g), .int (nI h)])), (dk, .inr (0, [.ref a, .int du, .int wr])), (a, .inl (cA, 32768, .inl (hj_B d))), (rc, .inr (1, [.ref sa, .ref la, .ref ma, .int (nI n), .int (nI us), .int (nI mm)])), (sa, .inl (cS, 1984, .inl fs)), (la, .inl (cL, 1984, .inl fl)), (ma, .inl (cM, 1984, .inl fm)), (ta, .inl (cT, 1000, .inl (hj_B tp))), (pa, .inl (cP, 15872, .inl (hj_B fky)))] := hD.sub [3, 4, 8, 5, 0, 1, 2, 6, 7] (by decide) rfl
        obtain ⟨hby, hym⟩ := hw
        refine lv_aload_n hx hb d_J_append_105 rfl (lv_at hl 3 rfl) ?_
        refine lv_iconst (v := nI 0) hx hb d_J_append_106 (by decide) ?_
        refine va_put (D := (dC, dI)) (ci := 2) (v := .int (nI 0)) (ty := (.int)) (C := "HalfJournal") (T := F_J) (N := 8) hx hb hts i_J t_J t_J_ok n_J hown hK hP hD hS 0 rfl rfl 4 (by decide) (hts _ m_88) (fun _ h9 => h9) rfl (by decide +kernel) rfl rfl (Nat.le_of_ble_eq_true rfl) d_J_append_107 (fun H locs hP hD hS => ?_)
        have hP : va_P (dC, dI) vwCl [(j, .inr (2, [.ref dk, .ref rc, .ref ta, .ref pa, .int (nI 0), .int (nI 2), .int (nI g), .int (nI h)])), (dk, .inr (0, [.ref a, .int du, .int wr])), (a, .inl (cA, 32768, .inl (hj_B d))), (rc, .inr (1, [.ref sa, .ref la, .ref ma, .int (nI n), .int (nI us), .int (nI mm)])), (sa, .inl (cS, 1984, .inl fs)), (la, .inl (cL, 1984, .inl fl)), (ma, .inl (cM, 1984, .inl fm)), (ta, .inl (cT, 1000, .inl (hj_B tp))), (pa, .inl (cP, 15872, .inl (hj_B fky)))] H := hP
        have hD : va_D A [(j, .inr (2, [.ref dk, .ref rc, .ref ta, .ref pa, .int (nI 0), .int (nI 2), .int (nI g), .int (nI h)])), (dk, .inr (0, [.ref a, .int du, .int wr])), (a, .inl (cA, 32768, .inl (hj_B d))), (rc, .inr (1, [.ref sa, .ref la, .ref ma, .int (nI n), .int (nI us), .int (nI mm)])), (sa, .inl (cS, 1984, .inl fs)), (la, .inl (cL, 1984, .inl fl)), (ma, .inl (cM, 1984, .inl fm)), (ta, .inl (cT, 1000, .inl (hj_B tp))), (pa, .inl (cP, 15872, .inl (hj_B fky)))] := hD
        refine lv_aload_n hx hb d_J_append_110 rfl (lv_at hl 3 rfl) ?_
        refine lv_iload_n hx hb d_J_append_111 rfl (lv_at hl 1 rfl) ?_
        refine lv_iload_n hx hb d_J_append_112 rfl (lv_at hl 0 rfl) ?_
        refine hj_calli (wc := [(j, .inr (2, [.ref dk, .ref rc, .ref ta, .ref pa, .int (nI 0), .int (nI 2), .int (nI g), .int (nI h)])), (dk, .inr (0, [.ref a, .int du, .int wr])), (pa, .inl (cP, 15872, .inl (hj_B fky))), (a, .inl (cA, 32768, .inl (hj_B d)))]) (wr := [(rc, .inr (1, [.ref sa, .ref la, .ref ma, .int (nI n), .int (nI us), .int (nI mm)])), (sa, .inl (cS, 1984, .inl fs)), (la, .inl (cL, 1984, .inl fl)), (ma, .inl (cM, 1984, .inl fm)), (ta, .inl (cT, 1000, .inl (hj_B tp)))]) [0, 1, 8, 2] [3, 4, 5, 6, 7] hP hD hS hA rfl rfl rfl (by decide) (va_runV (As := [.int (nI f1), .int (nI l1)]) (rest := []) ⟨hx, hb, hml, hown, hts⟩ (c_J_writeLastFirst l dC dI j dk rc ta pa 0 2 g h a cA d du wr cP fky f1 l1 hh hfl hl30 H.size) (cwV 2 hts (hj_gV m_608 m_610 s_J_writeLastFirst m_1 m_611) rfl rfl rfl (by decide +kernel) ⟨Nat.le_of_ble_eq_true rfl, Nat.le_of_ble_eq_true rfl⟩) (hj_preV (ci := 2) (q0 := 0) hj_EXok hE hP hD hK hS hA [0, 1, 8, 2] rfl rfl [5, 0] rfl rfl rfl) rfl rfl hl.1 rfl (lv_room (Nat.le_of_ble_eq_true rfl)) d_J_append_113 ⟨Nat.le_of_ble_eq_true rfl, Nat.le_of_ble_eq_true rfl⟩) (fun r_9 u_10 H locs hw hP hD hK1 hS => ?_)
        obtain ⟨d1, du1, wr1⟩ := u_10
        have hP : va_P (dC, dI) vwCl [(j, .inr (2, [.ref dk, .ref rc, .ref ta, .ref pa, .int (nI 0), .int (nI 2), .int (nI g), .int (nI h)])), (dk, .inr (0, [.ref a, .int du1, .int wr1])), (a, .inl (cA, 32768, .inl (hj_B d1))), (rc, .inr (1, [.ref sa, .ref la, .ref ma, .int (nI n), .int (nI us), .int (nI mm)])), (sa, .inl (cS, 1984, .inl fs)), (la, .inl (cL, 1984, .inl fl)), (ma, .inl (cM, 1984, .inl fm)), (ta, .inl (cT, 1000, .inl (hj_B tp))), (pa, .inl (cP, 15872, .inl (hj_B fky)))] H := hP.sub [5, 6, 8, 0, 1, 2, 3, 4, 7] rfl
        have hD : va_D A [(j, .inr (2, [.ref dk, .ref rc, .ref ta, .ref pa, .int (nI 0), .int (nI 2), .int (nI g), .int (nI h)])), (dk, .inr (0, [.ref a, .int du1, .int wr1])), (a, .inl (cA, 32768, .inl (hj_B d1))), (rc, .inr (1, [.ref sa, .ref la, .ref ma, .int (nI n), .int (nI us), .int (nI mm)])), (sa, .inl (cS, 1984, .inl fs)), (la, .inl (cL, 1984, .inl fl)), (ma, .inl (cM, 1984, .inl fm)), (ta, .inl (cT, 1000, .inl (hj_B tp))), (pa, .inl (cP, 15872, .inl (hj_B fky)))] := hD.sub [5, 6, 8, 0, 1, 2, 3, 4, 7] (by decide) rfl
        dsimp only at hw
        rw [hj_wdn_congr (r := hj_im d h us tp tl) (r' := fky) (l1 + 1 - f1) d du wr (fun q9 q1 q2 => hym q9 q1 (by omega))] at hw
        obtain ⟨hw, e1, e2, e3⟩ := hw
        rcases hw with ⟨hT, rfl⟩ | ⟨hT, rfl⟩
        · refine hj_if_ne (tgt := 126) hx hb (by omega) d_J_append_116 (by decide) (fun c_5 => ?_) (fun c_5 => ?_)
          · refine lv_aload_n hx hb d_J_append_126 rfl (lv_at hl 3 rfl) ?_
            refine va_get (D := (dC, dI)) (ci := 2) (v := .ref rc) (C := "HalfJournal") (T := F_J) (N := 8) hx hb hts i_J hown hK hP 0 rfl rfl 1 (by decide) (hts _ m_85) (fun _ h9 => h9) rfl d_J_append_127 ?_
            refine lv_iload_n hx hb d_J_append_130 rfl (lv_at hl 2 rfl) ?_
            refine hj_callv (wc := [(rc, .inr (1, [.ref sa, .ref la, .ref ma, .int (nI n), .int (nI us), .int (nI mm)])), (sa, .inl (cS, 1984, .inl fs)), (la, .inl (cL, 1984, .inl fl)), (ma, .inl (cM, 1984, .inl fm))]) (wr := [(j, .inr (2, [.ref dk, .ref rc, .ref ta, .ref pa, .int (nI 0), .int (nI 2), .int (nI g), .int (nI h)])), (dk, .inr (0, [.ref a, .int du1, .int wr1])), (a, .inl (cA, 32768, .inl (hj_B d1))), (ta, .inl (cT, 1000, .inl (hj_B tp))), (pa, .inl (cP, 15872, .inl (hj_B fky)))]) [3, 4, 5, 6] [0, 1, 2, 7, 8] hP hD hS hA rfl rfl rfl (by decide) (va_runVN (As := [.int (nI tl)]) (rest := []) ⟨hx, hb, hml, hown, hts⟩ (c_R_add l dC dI rc sa la ma n us mm cS cL cM fs fl fm tl hn84 (by omega) H.size) ⟨va_cnB 1 hts (hj_gC m_477) rfl rfl rfl (hE.1 _ m_474) (hts _ m_3) (by decide +kernel) ⟨Nat.le_of_ble_eq_true rfl, Nat.le_of_ble_eq_true rfl⟩, hts _ m_476, hts _ s_R_add⟩ (hj_preV (ci := 1) (q0 := 3) hj_EXok hE hP hD hK hS hA [3, 4, 5, 6] rfl rfl [1, 2, 3] rfl rfl rfl) rfl rfl hl.1 rfl (lv_room (Nat.le_of_ble_eq_true rfl)) d_J_append_131 ⟨Nat.le_of_ble_eq_true rfl, Nat.le_of_ble_eq_true rfl⟩) (fun u_12 H locs hw hP hD hK1 hS => ?_)
            have hP : va_P (dC, dI) vwCl [(j, .inr (2, [.ref dk, .ref rc, .ref ta, .ref pa, .int (nI 0), .int (nI 2), .int (nI g), .int (nI h)])), (dk, .inr (0, [.ref a, .int du1, .int wr1])), (a, .inl (cA, 32768, .inl (hj_B d1))), (rc, .inr (1, [.ref sa, .ref la, .ref ma, .int (nI (n + 1)), .int (nI (us + hj_sz tl)), .int (nI mm)])), (sa, .inl (cS, 1984, .inl (va_up fs n (nI us)))), (la, .inl (cL, 1984, .inl (va_up fl n (nI tl)))), (ma, .inl (cM, 1984, .inl (va_up fm n (nI 0)))), (ta, .inl (cT, 1000, .inl (hj_B tp))), (pa, .inl (cP, 15872, .inl (hj_B fky)))] H := hP.sub [0, 1, 2, 5, 6, 7, 8, 3, 4] rfl
            have hD : va_D A [(j, .inr (2, [.ref dk, .ref rc, .ref ta, .ref pa, .int (nI 0), .int (nI 2), .int (nI g), .int (nI h)])), (dk, .inr (0, [.ref a, .int du1, .int wr1])), (a, .inl (cA, 32768, .inl (hj_B d1))), (rc, .inr (1, [.ref sa, .ref la, .ref ma, .int (nI (n + 1)), .int (nI (us + hj_sz tl)), .int (nI mm)])), (sa, .inl (cS, 1984, .inl (va_up fs n (nI us)))), (la, .inl (cL, 1984, .inl (va_up fl n (nI tl)))), (ma, .inl (cM, 1984, .inl (va_up fm n (nI 0)))), (ta, .inl (cT, 1000, .inl (hj_B tp))), (pa, .inl (cP, 15872, .inl (hj_B fky)))] := hD.sub [0, 1, 2, 5, 6, 7, 8, 3, 4] (by decide) rfl
            refine lv_aload_n hx hb d_J_append_134 rfl (lv_at hl 3 rfl) ?_
            refine va_get (D := (dC, dI)) (ci := 2) (v := .ref rc) (C := "HalfJournal") (T := F_J) (N := 8) hx hb hts i_J hown hK hP 0 rfl rfl 1 (by decide) (hts _ m_85) (fun _ h9 => h9) rfl d_J_append_135 ?_
            refine va_getN (D := (dC, dI)) (ci := 1) (v := .int (nI (n + 1))) (C := "HalfJournal$Records") (T := F_R) (N := 6) hx hb hts i_R hown hK hP 3 rfl rfl 3 (by decide) (va_Nw.use rfl (hE.1 _ m_64)) (fun _ h9 => h9) rfl d_J_append_138 ?_
            refine lv_iconst (v := nI 1) hx hb d_J_append_141 (by decide) ?_
            refine hj_isub hx hb (by omega) d_J_append_142 ?_
            refine hj_topn (b := n) (by omega) ?_
            exact hret (nI n) ((2, g, h, n + 1, us + hj_sz tl, mm), du1, wr1, d1, fky, va_up fs n (nI us), va_up fl n (nI tl), va_up fm n (nI 0)) _ _ _ _ d_J_append_143 rfl (⟨e1, e2, e3, hby, Or.inr ⟨hT, rfl, rfl, rfl, rfl, rfl, rfl, rfl, rfl, rfl, rfl⟩⟩) hP hK hD hS
          · omega
        · refine hj_if_ne (tgt := 126) hx hb (by omega) d_J_append_116 (by decide) (fun c_5 => ?_) (fun c_5 => ?_)
          · omega
          · refine lv_aload_n hx hb d_J_append_119 rfl (lv_at hl 3 rfl) ?_
            refine lv_iconst (v := nI 0) hx hb d_J_append_120 (by decide) ?_
            refine hj_callv (wc := [(j, .inr (2, [.ref dk, .ref rc, .ref ta, .ref pa, .int (nI 0), .int (nI 2), .int (nI g), .int (nI h)])), (rc, .inr (1, [.ref sa, .ref la, .ref ma, .int (nI n), .int (nI us), .int (nI mm)]))]) (wr := [(dk, .inr (0, [.ref a, .int du1, .int wr1])), (a, .inl (cA, 32768, .inl (hj_B d1))), (sa, .inl (cS, 1984, .inl fs)), (la, .inl (cL, 1984, .inl fl)), (ma, .inl (cM, 1984, .inl fm)), (ta, .inl (cT, 1000, .inl (hj_B tp))), (pa, .inl (cP, 15872, .inl (hj_B fky)))]) [0, 3] [1, 2, 4, 5, 6, 7, 8] hP hD hS hA rfl rfl rfl (by decide) (va_runV (As := [.int (nI 0)]) (rest := []) ⟨hx, hb, hml, hown, hts⟩ (c_J_leave l dC dI j dk rc ta pa 0 2 g h sa la ma n us mm 0 H.size) (cwV 1 hts (hj_gV m_508 m_510 s_J_leave m_1 m_511) rfl rfl rfl (by decide +kernel) ⟨Nat.le_of_ble_eq_true rfl, Nat.le_of_ble_eq_true rfl⟩) (hj_preV (ci := 2) (q0 := 0) hj_EXok hE hP hD hK hS hA [0, 3] rfl rfl [] rfl rfl rfl) rfl rfl hl.1 rfl (lv_room (Nat.le_of_ble_eq_true rfl)) d_J_append_121 ⟨Nat.le_of_ble_eq_true rfl, Nat.le_of_ble_eq_true rfl⟩) (fun u_14 H locs hw hP hD hK1 hS => ?_)
            have hP : va_P (dC, dI) vwCl [(j, .inr (2, [.ref dk, .ref rc, .ref ta, .ref pa, .int (nI 0), .int (nI 0), .int (nI 0), .int (nI 0)])), (dk, .inr (0, [.ref a, .int du1, .int wr1])), (a, .inl (cA, 32768, .inl (hj_B d1))), (rc, .inr (1, [.ref sa, .ref la, .ref ma, .int (nI 0), .int (nI 0), .int (nI 0)])), (sa, .inl (cS, 1984, .inl fs)), (la, .inl (cL, 1984, .inl fl)), (ma, .inl (cM, 1984, .inl fm)), (ta, .inl (cT, 1000, .inl (hj_B tp))), (pa, .inl (cP, 15872, .inl (hj_B fky)))] H := hP.sub [7, 0, 1, 8, 2, 3, 4, 5, 6] rfl
            have hD : va_D A [(j, .inr (2, [.ref dk, .ref rc, .ref ta, .ref pa, .int (nI 0), .int (nI 0), .int (nI 0), .int (nI 0)])), (dk, .inr (0, [.ref a, .int du1, .int wr1])), (a, .inl (cA, 32768, .inl (hj_B d1))), (rc, .inr (1, [.ref sa, .ref la, .ref ma, .int (nI 0), .int (nI 0), .int (nI 0)])), (sa, .inl (cS, 1984, .inl fs)), (la, .inl (cL, 1984, .inl fl)), (ma, .inl (cM, 1984, .inl fm)), (ta, .inl (cT, 1000, .inl (hj_B tp))), (pa, .inl (cP, 15872, .inl (hj_B fky)))] := hD.sub [7, 0, 1, 8, 2, 3, 4, 5, 6] (by decide) rfl
            refine lv_iconst (v := (-1)) hx hb d_J_append_124 (by decide) ?_
            exact hret (-1) ((0, 0, 0, 0, 0, 0), du1, wr1, d1, fky, fs, fl, fm) _ _ _ _ d_J_append_125 rfl (⟨e1, e2, e3, hby, Or.inl ⟨hT, rfl, rfl, rfl, rfl, rfl, rfl, rfl⟩⟩) hP hK hD hS
      · omega
    · omega
  · exact absurd rfl c_1
abbrev rm_J_compact : Room := { frames := 56, cells := 0, slots := 0, locals := 700 }
set_option maxHeartbeats 4000000 in
set_option maxRecDepth 100000 in
theorem c_J_compact (l : Launch) (dC : Nat → ClassId) (dI : Nat → Nat → Nat) (j dk rc ta pa : Nat) (tl g h : Nat) (a : Nat) (cA : ClassId) (d : Nat → Nat) (du wr : Int32) (sa la ma : Nat) (n us mm : Nat) (cS cL cM : ClassId) (fs fl fm : Nat → Int32) (cP : ClassId) (pl mk : Nat → Nat) (hh : h < 2) (hd : hj_bs d) (hp : hj_bs pl) (hg : g < 2 ^ 31) (hg2 : ¬ g = 2147483647) (hn : n = hj_N d h) (hs : ∀ i, i < n → fs i = nI (hj_pos d h i)) (hl9 : ∀ i, i < n → fl i = nI (hj_rl d h (hj_pos d h i))) (hfm : ∀ i, i < n → fm i = nI (mk i)) (hm2 : ∀ i, mk i < 2) : hj_Mi l y_J_compact b_J_compact 4 .int rm_J_compact hj_EX (dC, dI) vwCl [(cA, .byte), (cS, .int), (cL, .int), (cM, .boolean), (cP, .byte)] [(j, .inr (2, [.ref dk, .ref rc, .ref ta, .ref pa, .int (nI tl), .int (nI 2), .int (nI g), .int (nI h)])), (dk, .inr (0, [.ref a, .int du, .int wr])), (a, .inl (cA, 32768, .inl (hj_B d))), (rc, .inr (1, [.ref sa, .ref la, .ref ma, .int (nI n), .int (nI us), .int (nI mm)])), (sa, .inl (cS, 1984, .inl fs)), (la, .inl (cL, 1984, .inl fl)), (ma, .inl (cM, 1984, .inl fm)), (pa, .inl (cP, 15872, .inl (hj_B pl)))] [.ref j] (fun r (((st1, g1, h1, n1, us1, mm1), du1, wr1, d1, pl1, f1, f2, f3) : (Nat × Nat × Nat × Nat × Nat × Nat) × Int32 × Int32 × (Nat → Nat) × (Nat → Nat) × (Nat → Int32) × (Nat → Int32) × (Nat → Int32)) => hj_bs pl1 ∧ (((hj_wup (hj_cim d h mk n) (2 + (1 - h) * 31) (hj_lb (hj_cto d h mk n) + 1) 0 d du wr).1 = false ∧ d1 = (hj_wup (hj_cim d h mk n) (2 + (1 - h) * 31) (hj_lb (hj_cto d h mk n) + 1) 0 d du wr).2.1 ∧ du1 = (hj_wup (hj_cim d h mk n) (2 + (1 - h) * 31) (hj_lb (hj_cto d h mk n) + 1) 0 d du wr).2.2.1 ∧ wr1 = (hj_wup (hj_cim d h mk n) (2 + (1 - h) * 31) (hj_lb (hj_cto d h mk n) + 1) 0 d du wr).2.2.2 ∧ r = -1 ∧ st1 = 0 ∧ g1 = 0 ∧ h1 = 0 ∧ n1 = 0 ∧ us1 = 0 ∧ mm1 = 0) ∨ ((hj_wup (hj_cim d h mk n) (2 + (1 - h) * 31) (hj_lb (hj_cto d h mk n) + 1) 0 d du wr).1 = true ∧ (hj_wup (hj_cim d h mk n) (2 + (1 - h) * 31) (hj_lb (hj_cto d h mk n) + 1) 0 d du wr).2.2.1 = 0 ∧ d1 = (hj_wup (hj_cim d h mk n) (2 + (1 - h) * 31) (hj_lb (hj_cto d h mk n) + 1) 0 d du wr).2.1 ∧ du1 = -1 ∧ wr1 = (hj_wup (hj_cim d h mk n) (2 + (1 - h) * 31) (hj_lb (hj_cto d h mk n) + 1) 0 d du wr).2.2.2 ∧ r = -1 ∧ st1 = 0 ∧ g1 = 0 ∧ h1 = 0 ∧ n1 = 0 ∧ us1 = 0 ∧ mm1 = 0) ∨ ((hj_wup (hj_cim d h mk n) (2 + (1 - h) * 31) (hj_lb (hj_cto d h mk n) + 1) 0 d du wr).1 = true ∧ ¬ (hj_wup (hj_cim d h mk n) (2 + (1 - h) * 31) (hj_lb (hj_cto d h mk n) + 1) 0 d du wr).2.2.1 = 0 ∧ d1 = hj_blk (hj_wup (hj_cim d h mk n) (2 + (1 - h) * 31) (hj_lb (hj_cto d h mk n) + 1) 0 d du wr).2.1 ((g + 1) % 2) (hj_hd (1 - h) (g + 1)) 0 ∧ du1 = hj_dec (hj_wup (hj_cim d h mk n) (2 + (1 - h) * 31) (hj_lb (hj_cto d h mk n) + 1) 0 d du wr).2.2.1 ∧ wr1 = (hj_wup (hj_cim d h mk n) (2 + (1 - h) * 31) (hj_lb (hj_cto d h mk n) + 1) 0 d du wr).2.2.2 + 1 ∧ st1 = 2 ∧ g1 = g + 1 ∧ h1 = 1 - h ∧ n1 = hj_N d1 h1 ∧ us1 = hj_pos d1 h1 n1 ∧ mm1 = 0 ∧ r = nI n1 ∧ (∀ i, i < hj_N d1 h1 → f1 i = nI (hj_pos d1 h1 i) ∧ f2 i = nI (hj_rl d1 h1 (hj_pos d1 h1 i)) ∧ f3 i = nI 0)))) (fun (((st1, g1, h1, n1, us1, mm1), du1, wr1, d1, pl1, f1, f2, f3) : (Nat × Nat × Nat × Nat × Nat × Nat) × Int32 × Int32 × (Nat → Nat) × (Nat → Nat) × (Nat → Int32) × (Nat → Int32) × (Nat → Int32)) => [(j, .inr (2, [.ref dk, .ref rc, .ref ta, .ref pa, .int (nI tl), .int (nI st1), .int (nI g1), .int (nI h1)])), (dk, .inr (0, [.ref a, .int du1, .int wr1])), (a, .inl (cA, 32768, .inl (hj_B d1))), (rc, .inr (1, [.ref sa, .ref la, .ref ma, .int (nI n1), .int (nI us1), .int (nI mm1)])), (sa, .inl (cS, 1984, .inl f1)), (la, .inl (cL, 1984, .inl f2)), (ma, .inl (cM, 1984, .inl f3)), (pa, .inl (cP, 15872, .inl (hj_B pl1)))]) (fun _ => [(cA, .byte), (cS, .int), (cL, .int), (cM, .boolean), (cP, .byte)]) 0 0 := by
  refine hj_bodyI (by decide +kernel) (Nat.le_of_ble_eq_true rfl) ?_
  intro p e s m args below meth c A Q ls hx hb hts hown hml hA hP hK hD hE hl hret
  have hS : va_S A s.heap s.heap [] := va_S.rf
  have hown : s.vm.findClass "HalfJournal" = some m.cls := hown
  have hl : lv_has ls 4 [(0, .ref j)] := hl
  have hP : va_P (dC, dI) vwCl [(j, .inr (2, [.ref dk, .ref rc, .ref ta, .ref pa, .int (nI tl), .int (nI 2), .int (nI g), .int (nI h)])), (dk, .inr (0, [.ref a, .int du, .int wr])), (a, .inl (cA, 32768, .inl (hj_B d))), (rc, .inr (1, [.ref sa, .ref la, .ref ma, .int (nI n), .int (nI us), .int (nI mm)])), (sa, .inl (cS, 1984, .inl fs)), (la, .inl (cL, 1984, .inl fl)), (ma, .inl (cM, 1984, .inl fm)), (pa, .inl (cP, 15872, .inl (hj_B pl)))] s.heap := hP
  have hD : va_D A [(j, .inr (2, [.ref dk, .ref rc, .ref ta, .ref pa, .int (nI tl), .int (nI 2), .int (nI g), .int (nI h)])), (dk, .inr (0, [.ref a, .int du, .int wr])), (a, .inl (cA, 32768, .inl (hj_B d))), (rc, .inr (1, [.ref sa, .ref la, .ref ma, .int (nI n), .int (nI us), .int (nI mm)])), (sa, .inl (cS, 1984, .inl fs)), (la, .inl (cL, 1984, .inl fl)), (ma, .inl (cM, 1984, .inl fm)), (pa, .inl (cP, 15872, .inl (hj_B pl)))] := hD
  have hIs := hj_N_is d h
  rw [← hn] at hIs
  have hct := hj_cto_le d h mk n
  obtain ⟨-, hp2, -⟩ := hj_pos_in n (fun k hk => hIs.1 k hk)
  refine lv_aload_n hx hb d_J_compact_0 rfl (lv_at hl 0 rfl) ?_
  refine va_get (D := (dC, dI)) (ci := 2) (v := .int (nI 2)) (C := "HalfJournal") (T := F_J) (N := 8) hx hb hts i_J hown hK hP 0 rfl rfl 5 (by decide) (hts _ m_89) (fun _ h9 => h9) rfl d_J_compact_1 ?_
  refine lv_iconst (v := nI 2) hx hb d_J_compact_4 (by decide) ?_
  refine hj_icmp_eq (tgt := 18) hx hb (by omega) (by omega) d_J_compact_5 (by decide) (fun c_1 => ?_) (fun c_1 => ?_)
  · refine lv_aload_n hx hb d_J_compact_18 rfl (lv_at hl 0 rfl) ?_
    refine va_get (D := (dC, dI)) (ci := 2) (v := .int (nI g)) (C := "HalfJournal") (T := F_J) (N := 8) hx hb hts i_J hown hK hP 0 rfl rfl 6 (by decide) (hts _ m_90) (fun _ h9 => h9) rfl d_J_compact_19 ?_
    refine lv_ldc (own := "HalfJournal") (v := (2147483647)) hx hb hown (hts _ m_624) d_J_compact_22 ?_
    refine hj_topv (y := nI 2147483647) (by decide +kernel) ?_
    refine hj_icmp_ne (tgt := 37) hx hb (by omega) (by omega) d_J_compact_24 (by decide) (fun c_2 => ?_) (fun c_2 => ?_)
    · refine lv_aload_n hx hb d_J_compact_37 rfl (lv_at hl 0 rfl) ?_
      refine va_get (D := (dC, dI)) (ci := 2) (v := .int (nI g)) (C := "HalfJournal") (T := F_J) (N := 8) hx hb hts i_J hown hK hP 0 rfl rfl 6 (by decide) (hts _ m_90) (fun _ h9 => h9) rfl d_J_compact_38 ?_
      refine lv_iconst (v := nI 1) hx hb d_J_compact_41 (by decide) ?_
      refine hj_iadd hx hb d_J_compact_42 ?_
      refine lv_istore_n (lv' := [(1, .int (nI (g + 1))), (0, .ref j)]) hx hb d_J_compact_43 rfl hl (by decide) rfl (fun ls hl => ?_)
      refine lv_iconst (v := nI 1) hx hb d_J_compact_44 (by decide) ?_
      refine lv_aload_n hx hb d_J_compact_45 rfl (lv_at hl 1 rfl) ?_
      refine va_get (D := (dC, dI)) (ci := 2) (v := .int (nI h)) (C := "HalfJournal") (T := F_J) (N := 8) hx hb hts i_J hown hK hP 0 rfl rfl 7 (by decide) (hts _ m_91) (fun _ h9 => h9) rfl d_J_compact_46 ?_
      refine hj_isub hx hb (by omega) d_J_compact_49 ?_
      refine lv_istore_n (lv' := [(2, .int (nI (1 - h))), (1, .int (nI (g + 1))), (0, .ref j)]) hx hb d_J_compact_50 rfl hl (by decide) rfl (fun ls hl => ?_)
      refine lv_aload_n hx hb d_J_compact_51 rfl (lv_at hl 2 rfl) ?_
      refine hj_calli (wc := [(j, .inr (2, [.ref dk, .ref rc, .ref ta, .ref pa, .int (nI tl), .int (nI 2), .int (nI g), .int (nI h)])), (dk, .inr (0, [.ref a, .int du, .int wr])), (rc, .inr (1, [.ref sa, .ref la, .ref ma, .int (nI n), .int (nI us), .int (nI mm)])), (sa, .inl (cS, 1984, .inl fs)), (la, .inl (cL, 1984, .inl fl)), (ma, .inl (cM, 1984, .inl fm)), (pa, .inl (cP, 15872, .inl (hj_B pl))), (a, .inl (cA, 32768, .inl (hj_B d)))]) (wr := []) [0, 1, 3, 4, 5, 6, 7, 2] [] hP hD hS hA rfl rfl rfl (by decide) (va_runV (As := []) (rest := []) ⟨hx, hb, hml, hown, hts⟩ (c_J_planUnmarked l dC dI j dk rc ta pa tl 2 g h a cA d du wr sa la ma n us mm cS cL cM fs fl fm cP pl mk hh hd hn hs hl9 hfm hm2 s.heap.size) (cwV 0 hts (hj_gV m_626 m_628 s_J_planUnmarked m_1 m_629) rfl rfl rfl (by decide +kernel) ⟨Nat.le_of_ble_eq_true rfl, Nat.le_of_ble_eq_true rfl⟩) (hj_preV (ci := 2) (q0 := 0) hj_EXok hE hP hD hK hS hA [0, 1, 3, 4, 5, 6, 7, 2] rfl rfl [1, 2, 3, 4, 0] rfl rfl rfl) rfl rfl hl.1 rfl (lv_room (Nat.le_of_ble_eq_true rfl)) d_J_compact_52 ⟨Nat.le_of_ble_eq_true rfl, Nat.le_of_ble_eq_true rfl⟩) (fun r_1 u_2 H locs hw hP hD hK1 hS => ?_)
      subst hw
      have hP : va_P (dC, dI) vwCl [(j, .inr (2, [.ref dk, .ref rc, .ref ta, .ref pa, .int (nI tl), .int (nI 2), .int (nI g), .int (nI h)])), (dk, .inr (0, [.ref a, .int du, .int wr])), (a, .inl (cA, 32768, .inl (hj_B d))), (rc, .inr (1, [.ref sa, .ref la, .ref ma, .int (nI n), .int (nI us), .int (nI mm)])), (sa, .inl (cS, 1984, .inl fs)), (la, .inl (cL, 1984, .inl fl)), (ma, .inl (cM, 1984, .inl fm)), (pa, .inl (cP, 15872, .inl (hj_B (hj_cim d h mk n))))] H := hP.sub [0, 1, 7, 2, 3, 4, 5, 6] rfl
      have hD : va_D A [(j, .inr (2, [.ref dk, .ref rc, .ref ta, .ref pa, .int (nI tl), .int (nI 2), .int (nI g), .int (nI h)])), (dk, .inr (0, [.ref a, .int du, .int wr])), (a, .inl (cA, 32768, .inl (hj_B d))), (rc, .inr (1, [.ref sa, .ref la, .ref ma, .int (nI n), .int (nI us), .int (nI mm)])), (sa, .inl (cS, 1984, .inl fs)), (la, .inl (cL, 1984, .inl fl)), (ma, .inl (cM, 1984, .inl fm)), (pa, .inl (cP, 15872, .inl (hj_B (hj_cim d h mk n))))] := hD.sub [0, 1, 7, 2, 3, 4, 5, 6] (by decide) rfl
      refine hj_calli (wc := []) (wr := [(j, .inr (2, [.ref dk, .ref rc, .ref ta, .ref pa, .int (nI tl), .int (nI 2), .int (nI g), .int (nI h)])), (dk, .inr (0, [.ref a, .int du, .int wr])), (a, .inl (cA, 32768, .inl (hj_B d))), (rc, .inr (1, [.ref sa, .ref la, .ref ma, .int (nI n), .int (nI us), .int (nI mm)])), (sa, .inl (cS, 1984, .inl fs)), (la, .inl (cL, 1984, .inl fl)), (ma, .inl (cM, 1984, .inl fm)), (pa, .inl (cP, 15872, .inl (hj_B (hj_cim d h mk n))))]) [] [0, 1, 2, 3, 4, 5, 6, 7] hP hD hS hA rfl rfl rfl (by decide) (va_runS (As := [.int (nI (hj_cto d h mk n))]) (rest := []) ⟨hx, hb, hml, hown, hts⟩ (c_J_lastBlockOf l dC dI (hj_cto d h mk n) (by omega) H.size) (cwS 1 hts (hj_gS m_596 m_597 m_1 m_598) rfl rfl rfl (by decide +kernel) ⟨Nat.le_of_ble_eq_true rfl, Nat.le_of_ble_eq_true rfl⟩) (hj_preS hj_EXok hE hP hD hK hS hA [] rfl rfl [] rfl) rfl rfl hl.1 rfl (lv_room (Nat.le_of_ble_eq_true rfl)) d_J_compact_55 ⟨Nat.le_of_ble_eq_true rfl, Nat.le_of_ble_eq_true rfl⟩) (fun r_3 u_4 H locs hw hP hD hK1 hS => ?_)
      subst hw
      have hP : va_P (dC, dI) vwCl [(j, .inr (2, [.ref dk, .ref rc, .ref ta, .ref pa, .int (nI tl), .int (nI 2), .int (nI g), .int (nI h)])), (dk, .inr (0, [.ref a, .int du, .int wr])), (a, .inl (cA, 32768, .inl (hj_B d))), (rc, .inr (1, [.ref sa, .ref la, .ref ma, .int (nI n), .int (nI us), .int (nI mm)])), (sa, .inl (cS, 1984, .inl fs)), (la, .inl (cL, 1984, .inl fl)), (ma, .inl (cM, 1984, .inl fm)), (pa, .inl (cP, 15872, .inl (hj_B (hj_cim d h mk n))))] H := hP.sub [0, 1, 2, 3, 4, 5, 6, 7] rfl
      have hD : va_D A [(j, .inr (2, [.ref dk, .ref rc, .ref ta, .ref pa, .int (nI tl), .int (nI 2), .int (nI g), .int (nI h)])), (dk, .inr (0, [.ref a, .int du, .int wr])), (a, .inl (cA, 32768, .inl (hj_B d))), (rc, .inr (1, [.ref sa, .ref la, .ref ma, .int (nI n), .int (nI us), .int (nI mm)])), (sa, .inl (cS, 1984, .inl fs)), (la, .inl (cL, 1984, .inl fl)), (ma, .inl (cM, 1984, .inl fm)), (pa, .inl (cP, 15872, .inl (hj_B (hj_cim d h mk n))))] := hD.sub [0, 1, 2, 3, 4, 5, 6, 7] (by decide) rfl
      obtain ⟨l1, hl1⟩ : ∃ l1, l1 = hj_lb (hj_cto d h mk n) := ⟨_, rfl⟩
      have hl30 : l1 ≤ 30 := by rw [hl1]; exact hj_lb_le _
      rw [← hl1]
      rw [← hl1] at hret
      have hbi : hj_bs (hj_cim d h mk n) := hj_cim_bs hd n
      refine lv_istore_n (lv' := [(3, .int (nI l1)), (2, .int (nI (1 - h))), (1, .int (nI (g + 1))), (0, .ref j)]) hx hb d_J_compact_58 rfl hl (by decide) rfl (fun ls hl => ?_)
      refine lv_aload_n hx hb d_J_compact_59 rfl (lv_at hl 3 rfl) ?_
      refine lv_iload_n hx hb d_J_compact_60 rfl (lv_at hl 1 rfl) ?_
      refine lv_iload_n hx hb d_J_compact_61 rfl (lv_at hl 0 rfl) ?_
      refine hj_calli (wc := [(j, .inr (2, [.ref dk, .ref rc, .ref ta, .ref pa, .int (nI tl), .int (nI 2), .int (nI g), .int (nI h)])), (dk, .inr (0, [.ref a, .int du, .int wr])), (pa, .inl (cP, 15872, .inl (hj_B (hj_cim d h mk n)))), (a, .inl (cA, 32768, .inl (hj_B d)))]) (wr := [(rc, .inr (1, [.ref sa, .ref la, .ref ma, .int (nI n), .int (nI us), .int (nI mm)])), (sa, .inl (cS, 1984, .inl fs)), (la, .inl (cL, 1984, .inl fl)), (ma, .inl (cM, 1984, .inl fm))]) [0, 1, 7, 2] [3, 4, 5, 6] hP hD hS hA rfl rfl rfl (by decide) (va_runV (As := [.int (nI (1 - h)), .int (nI l1)]) (rest := []) ⟨hx, hb, hml, hown, hts⟩ (c_J_writeFirstFirst l dC dI j dk rc ta pa tl 2 g h a cA d du wr cP (hj_cim d h mk n) (1 - h) l1 (by omega) hl30 H.size) (cwV 2 hts (hj_gV m_630 m_632 s_J_writeFirstFirst m_1 m_633) rfl rfl rfl (by decide +kernel) ⟨Nat.le_of_ble_eq_true rfl, Nat.le_of_ble_eq_true rfl⟩) (hj_preV (ci := 2) (q0 := 0) hj_EXok hE hP hD hK hS hA [0, 1, 7, 2] rfl rfl [4, 0] rfl rfl rfl) rfl rfl hl.1 rfl (lv_room (Nat.le_of_ble_eq_true rfl)) d_J_compact_62 ⟨Nat.le_of_ble_eq_true rfl, Nat.le_of_ble_eq_true rfl⟩) (fun r_5 u_6 H locs hw hP hD hK1 hS => ?_)
      obtain ⟨d1, du1, wr1⟩ := u_6
      have hP : va_P (dC, dI) vwCl [(j, .inr (2, [.ref dk, .ref rc, .ref ta, .ref pa, .int (nI tl), .int (nI 2), .int (nI g), .int (nI h)])), (dk, .inr (0, [.ref a, .int du1, .int wr1])), (a, .inl (cA, 32768, .inl (hj_B d1))), (rc, .inr (1, [.ref sa, .ref la, .ref ma, .int (nI n), .int (nI us), .int (nI mm)])), (sa, .inl (cS, 1984, .inl fs)), (la, .inl (cL, 1984, .inl fl)), (ma, .inl (cM, 1984, .inl fm)), (pa, .inl (cP, 15872, .inl (hj_B (hj_cim d h mk n))))] H := hP.sub [4, 5, 7, 0, 1, 2, 3, 6] rfl
      have hD : va_D A [(j, .inr (2, [.ref dk, .ref rc, .ref ta, .ref pa, .int (nI tl), .int (nI 2), .int (nI g), .int (nI h)])), (dk, .inr (0, [.ref a, .int du1, .int wr1])), (a, .inl (cA, 32768, .inl (hj_B d1))), (rc, .inr (1, [.ref sa, .ref la, .ref ma, .int (nI n), .int (nI us), .int (nI mm)])), (sa, .inl (cS, 1984, .inl fs)), (la, .inl (cL, 1984, .inl fl)), (ma, .inl (cM, 1984, .inl fm)), (pa, .inl (cP, 15872, .inl (hj_B (hj_cim d h mk n))))] := hD.sub [4, 5, 7, 0, 1, 2, 3, 6] (by decide) rfl
      dsimp only at hw
      obtain ⟨hw, e1, e2, e3⟩ := hw
      rcases hw with ⟨hT, rfl⟩ | ⟨hT, rfl⟩
      · refine hj_if_eq (tgt := 77) hx hb (by omega) d_J_compact_65 (by decide) (fun c_5 => ?_) (fun c_5 => ?_)
        · omega
        · have hbd1 : hj_bs d1 := by rw [e1]; exact hj_wup_bs hbi (l1 + 1) 0 d du wr hd
          refine lv_aload_n hx hb d_J_compact_68 rfl (lv_at hl 3 rfl) ?_
          refine lv_iload_n hx hb d_J_compact_69 rfl (lv_at hl 2 rfl) ?_
          refine lv_iload_n hx hb d_J_compact_70 rfl (lv_at hl 1 rfl) ?_
          refine hj_calli (wc := [(j, .inr (2, [.ref dk, .ref rc, .ref ta, .ref pa, .int (nI tl), .int (nI 2), .int (nI g), .int (nI h)])), (dk, .inr (0, [.ref a, .int du1, .int wr1])), (pa, .inl (cP, 15872, .inl (hj_B (hj_cim d h mk n)))), (a, .inl (cA, 32768, .inl (hj_B d1)))]) (wr := [(rc, .inr (1, [.ref sa, .ref la, .ref ma, .int (nI n), .int (nI us), .int (nI mm)])), (sa, .inl (cS, 1984, .inl fs)), (la, .inl (cL, 1984, .inl fl)), (ma, .inl (cM, 1984, .inl fm))]) [0, 1, 7, 2] [3, 4, 5, 6] hP hD hS hA rfl rfl rfl (by decide) (va_runV (As := [.int (nI (g + 1)), .int (nI (1 - h))]) (rest := []) ⟨hx, hb, hml, hown, hts⟩ (c_J_writeHead l dC dI j dk rc ta pa tl 2 g h a cA d1 du1 wr1 cP (hj_cim d h mk n) (g + 1) (1 - h) (by omega) (by omega) hbi H.size) (cwV 2 hts (hj_gV m_634 m_636 s_J_writeHead m_1 m_637) rfl rfl rfl (by decide +kernel) ⟨Nat.le_of_ble_eq_true rfl, Nat.le_of_ble_eq_true rfl⟩) (hj_preV (ci := 2) (q0 := 0) hj_EXok hE hP hD hK hS hA [0, 1, 7, 2] rfl rfl [4, 0] rfl rfl rfl) rfl rfl hl.1 rfl (lv_room (Nat.le_of_ble_eq_true rfl)) d_J_compact_71 ⟨Nat.le_of_ble_eq_true rfl, Nat.le_of_ble_eq_true rfl⟩) (fun r_7 u_8 H locs hw hP hD hK1 hS => ?_)
          obtain ⟨d2, du2, wr2, pl2⟩ := u_8
          have hP : va_P (dC, dI) vwCl [(j, .inr (2, [.ref dk, .ref rc, .ref ta, .ref pa, .int (nI tl), .int (nI 2), .int (nI g), .int (nI h)])), (dk, .inr (0, [.ref a, .int du2, .int wr2])), (a, .inl (cA, 32768, .inl (hj_B d2))), (rc, .inr (1, [.ref sa, .ref la, .ref ma, .int (nI n), .int (nI us), .int (nI mm)])), (sa, .inl (cS, 1984, .inl fs)), (la, .inl (cL, 1984, .inl fl)), (ma, .inl (cM, 1984, .inl fm)), (pa, .inl (cP, 15872, .inl (hj_B pl2)))] H := hP.sub [4, 5, 7, 0, 1, 2, 3, 6] rfl
          have hD : va_D A [(j, .inr (2, [.ref dk, .ref rc, .ref ta, .ref pa, .int (nI tl), .int (nI 2), .int (nI g), .int (nI h)])), (dk, .inr (0, [.ref a, .int du2, .int wr2])), (a, .inl (cA, 32768, .inl (hj_B d2))), (rc, .inr (1, [.ref sa, .ref la, .ref ma, .int (nI n), .int (nI us), .int (nI mm)])), (sa, .inl (cS, 1984, .inl fs)), (la, .inl (cL, 1984, .inl fl)), (ma, .inl (cM, 1984, .inl fm)), (pa, .inl (cP, 15872, .inl (hj_B pl2)))] := hD.sub [4, 5, 7, 0, 1, 2, 3, 6] (by decide) rfl
          dsimp only at hw
          obtain ⟨hb2, hw⟩ := hw
          rcases hw with ⟨h7, rfl, q1, q2, q3⟩ | ⟨h7, rfl, q1, q2, q3⟩
          · refine hj_if_ne (tgt := 84) hx hb (by omega) d_J_compact_74 (by decide) (fun c_6 => ?_) (fun c_6 => ?_)
            · omega
            · refine lv_aload_n hx hb d_J_compact_77 rfl (lv_at hl 3 rfl) ?_
              refine lv_iconst (v := nI 0) hx hb d_J_compact_78 (by decide) ?_
              refine hj_callv (wc := [(j, .inr (2, [.ref dk, .ref rc, .ref ta, .ref pa, .int (nI tl), .int (nI 2), .int (nI g), .int (nI h)])), (rc, .inr (1, [.ref sa, .ref la, .ref ma, .int (nI n), .int (nI us), .int (nI mm)]))]) (wr := [(dk, .inr (0, [.ref a, .int du2, .int wr2])), (a, .inl (cA, 32768, .inl (hj_B d2))), (sa, .inl (cS, 1984, .inl fs)), (la, .inl (cL, 1984, .inl fl)), (ma, .inl (cM, 1984, .inl fm)), (pa, .inl (cP, 15872, .inl (hj_B pl2)))]) [0, 3] [1, 2, 4, 5, 6, 7] hP hD hS hA rfl rfl rfl (by decide) (va_runV (As := [.int (nI 0)]) (rest := []) ⟨hx, hb, hml, hown, hts⟩ (c_J_leave l dC dI j dk rc ta pa tl 2 g h sa la ma n us mm 0 H.size) (cwV 1 hts (hj_gV m_508 m_510 s_J_leave m_1 m_511) rfl rfl rfl (by decide +kernel) ⟨Nat.le_of_ble_eq_true rfl, Nat.le_of_ble_eq_true rfl⟩) (hj_preV (ci := 2) (q0 := 0) hj_EXok hE hP hD hK hS hA [0, 3] rfl rfl [] rfl rfl rfl) rfl rfl hl.1 rfl (lv_room (Nat.le_of_ble_eq_true rfl)) d_J_compact_79 ⟨Nat.le_of_ble_eq_true rfl, Nat.le_of_ble_eq_true rfl⟩) (fun u_10 H locs hw hP hD hK1 hS => ?_)
              have hP : va_P (dC, dI) vwCl [(j, .inr (2, [.ref dk, .ref rc, .ref ta, .ref pa, .int (nI tl), .int (nI 0), .int (nI 0), .int (nI 0)])), (dk, .inr (0, [.ref a, .int du2, .int wr2])), (a, .inl (cA, 32768, .inl (hj_B d2))), (rc, .inr (1, [.ref sa, .ref la, .ref ma, .int (nI 0), .int (nI 0), .int (nI 0)])), (sa, .inl (cS, 1984, .inl fs)), (la, .inl (cL, 1984, .inl fl)), (ma, .inl (cM, 1984, .inl fm)), (pa, .inl (cP, 15872, .inl (hj_B pl2)))] H := hP.sub [6, 0, 1, 7, 2, 3, 4, 5] rfl
              have hD : va_D A [(j, .inr (2, [.ref dk, .ref rc, .ref ta, .ref pa, .int (nI tl), .int (nI 0), .int (nI 0), .int (nI 0)])), (dk, .inr (0, [.ref a, .int du2, .int wr2])), (a, .inl (cA, 32768, .inl (hj_B d2))), (rc, .inr (1, [.ref sa, .ref la, .ref ma, .int (nI 0), .int (nI 0), .int (nI 0)])), (sa, .inl (cS, 1984, .inl fs)), (la, .inl (cL, 1984, .inl fl)), (ma, .inl (cM, 1984, .inl fm)), (pa, .inl (cP, 15872, .inl (hj_B pl2)))] := hD.sub [6, 0, 1, 7, 2, 3, 4, 5] (by decide) rfl
              refine lv_iconst (v := (-1)) hx hb d_J_compact_82 (by decide) ?_
              exact hret (-1) ((0, 0, 0, 0, 0, 0), du2, wr2, d2, pl2, fs, fl, fm) _ _ _ _ d_J_compact_83 rfl (⟨hb2, Or.inr (Or.inl ⟨hT, by rw [← e2]; exact h7, by rw [← e1]; exact q1, q2, by rw [← e3]; exact q3, rfl, rfl, rfl, rfl, rfl, rfl, rfl⟩)⟩) hP hK hD hS
          · have hb3 : hj_bs d2 := by rw [q1]; exact hj_blk_bs hbd1 (hj_hd_bs _ _)
            refine hj_if_ne (tgt := 84) hx hb (by omega) d_J_compact_74 (by decide) (fun c_6 => ?_) (fun c_6 => ?_)
            · refine lv_aload_n hx hb d_J_compact_84 rfl (lv_at hl 3 rfl) ?_
              refine lv_iload_n hx hb d_J_compact_85 rfl (lv_at hl 2 rfl) ?_
              refine lv_iload_n hx hb d_J_compact_86 rfl (lv_at hl 1 rfl) ?_
              refine hj_callv (wc := [(j, .inr (2, [.ref dk, .ref rc, .ref ta, .ref pa, .int (nI tl), .int (nI 2), .int (nI g), .int (nI h)])), (dk, .inr (0, [.ref a, .int du2, .int wr2])), (a, .inl (cA, 32768, .inl (hj_B d2))), (rc, .inr (1, [.ref sa, .ref la, .ref ma, .int (nI n), .int (nI us), .int (nI mm)])), (sa, .inl (cS, 1984, .inl fs)), (la, .inl (cL, 1984, .inl fl)), (ma, .inl (cM, 1984, .inl fm))]) (wr := [(pa, .inl (cP, 15872, .inl (hj_B pl2)))]) [0, 1, 2, 3, 4, 5, 6] [7] hP hD hS hA rfl rfl rfl (by decide) (va_runV (As := [.int (nI (g + 1)), .int (nI (1 - h))]) (rest := []) ⟨hx, hb, hml, hown, hts⟩ (c_J_goUp l dC dI j dk rc ta pa tl 2 g h a cA d2 du2 wr2 sa la ma n us mm cS cL cM fs fl fm (g + 1) (1 - h) (by omega) hb3 H.size) (cwV 2 hts (hj_gV m_446 m_448 s_J_goUp m_1 m_449) rfl rfl rfl (by decide +kernel) ⟨Nat.le_of_ble_eq_true rfl, Nat.le_of_ble_eq_true rfl⟩) (hj_preV (ci := 2) (q0 := 0) hj_EXok hE hP hD hK hS hA [0, 1, 2, 3, 4, 5, 6] rfl rfl [0, 1, 2, 3] rfl rfl rfl) rfl rfl hl.1 rfl (lv_room (Nat.le_of_ble_eq_true rfl)) d_J_compact_87 ⟨Nat.le_of_ble_eq_true rfl, Nat.le_of_ble_eq_true rfl⟩) (fun u_12 H locs hw hP hD hK1 hS => ?_)
              obtain ⟨f1, f2, f3⟩ := u_12
              have hP : va_P (dC, dI) vwCl [(j, .inr (2, [.ref dk, .ref rc, .ref ta, .ref pa, .int (nI tl), .int (nI 2), .int (nI (g + 1)), .int (nI (1 - h))])), (dk, .inr (0, [.ref a, .int du2, .int wr2])), (a, .inl (cA, 32768, .inl (hj_B d2))), (rc, .inr (1, [.ref sa, .ref la, .ref ma, .int (nI (hj_N d2 (1 - h))), .int (nI (hj_pos d2 (1 - h) (hj_N d2 (1 - h)))), .int (nI 0)])), (sa, .inl (cS, 1984, .inl f1)), (la, .inl (cL, 1984, .inl f2)), (ma, .inl (cM, 1984, .inl f3)), (pa, .inl (cP, 15872, .inl (hj_B pl2)))] H := hP.sub [1, 2, 3, 4, 5, 6, 7, 0] rfl
              have hD : va_D A [(j, .inr (2, [.ref dk, .ref rc, .ref ta, .ref pa, .int (nI tl), .int (nI 2), .int (nI (g + 1)), .int (nI (1 - h))])), (dk, .inr (0, [.ref a, .int du2, .int wr2])), (a, .inl (cA, 32768, .inl (hj_B d2))), (rc, .inr (1, [.ref sa, .ref la, .ref ma, .int (nI (hj_N d2 (1 - h))), .int (nI (hj_pos d2 (1 - h) (hj_N d2 (1 - h)))), .int (nI 0)])), (sa, .inl (cS, 1984, .inl f1)), (la, .inl (cL, 1984, .inl f2)), (ma, .inl (cM, 1984, .inl f3)), (pa, .inl (cP, 15872, .inl (hj_B pl2)))] := hD.sub [1, 2, 3, 4, 5, 6, 7, 0] (by decide) rfl
              refine lv_aload_n hx hb d_J_compact_90 rfl (lv_at hl 3 rfl) ?_
              refine va_get (D := (dC, dI)) (ci := 2) (v := .ref rc) (C := "HalfJournal") (T := F_J) (N := 8) hx hb hts i_J hown hK hP 0 rfl rfl 1 (by decide) (hts _ m_85) (fun _ h9 => h9) rfl d_J_compact_91 ?_
              refine va_getN (D := (dC, dI)) (ci := 1) (v := .int (nI (hj_N d2 (1 - h)))) (C := "HalfJournal$Records") (T := F_R) (N := 6) hx hb hts i_R hown hK hP 3 rfl rfl 3 (by decide) (va_Nw.use rfl (hE.1 _ m_64)) (fun _ h9 => h9) rfl d_J_compact_94 ?_
              exact hret (nI (hj_N d2 (1 - h))) ((2, g + 1, 1 - h, hj_N d2 (1 - h), hj_pos d2 (1 - h) (hj_N d2 (1 - h)), 0), du2, wr2, d2, pl2, f1, f2, f3) _ _ _ _ d_J_compact_97 rfl (⟨hb2, Or.inr (Or.inr ⟨hT, by rw [← e2]; exact h7, by rw [← e1]; exact q1, by rw [← e2]; exact q2, by rw [← e3]; exact q3, rfl, rfl, rfl, rfl, rfl, rfl, rfl, hw⟩)⟩) hP hK hD hS
            · omega
      · refine hj_if_eq (tgt := 77) hx hb (by omega) d_J_compact_65 (by decide) (fun c_5 => ?_) (fun c_5 => ?_)
        · refine lv_aload_n hx hb d_J_compact_77 rfl (lv_at hl 3 rfl) ?_
          refine lv_iconst (v := nI 0) hx hb d_J_compact_78 (by decide) ?_
          refine hj_callv (wc := [(j, .inr (2, [.ref dk, .ref rc, .ref ta, .ref pa, .int (nI tl), .int (nI 2), .int (nI g), .int (nI h)])), (rc, .inr (1, [.ref sa, .ref la, .ref ma, .int (nI n), .int (nI us), .int (nI mm)]))]) (wr := [(dk, .inr (0, [.ref a, .int du1, .int wr1])), (a, .inl (cA, 32768, .inl (hj_B d1))), (sa, .inl (cS, 1984, .inl fs)), (la, .inl (cL, 1984, .inl fl)), (ma, .inl (cM, 1984, .inl fm)), (pa, .inl (cP, 15872, .inl (hj_B (hj_cim d h mk n))))]) [0, 3] [1, 2, 4, 5, 6, 7] hP hD hS hA rfl rfl rfl (by decide) (va_runV (As := [.int (nI 0)]) (rest := []) ⟨hx, hb, hml, hown, hts⟩ (c_J_leave l dC dI j dk rc ta pa tl 2 g h sa la ma n us mm 0 H.size) (cwV 1 hts (hj_gV m_508 m_510 s_J_leave m_1 m_511) rfl rfl rfl (by decide +kernel) ⟨Nat.le_of_ble_eq_true rfl, Nat.le_of_ble_eq_true rfl⟩) (hj_preV (ci := 2) (q0 := 0) hj_EXok hE hP hD hK hS hA [0, 3] rfl rfl [] rfl rfl rfl) rfl rfl hl.1 rfl (lv_room (Nat.le_of_ble_eq_true rfl)) d_J_compact_79 ⟨Nat.le_of_ble_eq_true rfl, Nat.le_of_ble_eq_true rfl⟩) (fun u_14 H locs hw hP hD hK1 hS => ?_)
          have hP : va_P (dC, dI) vwCl [(j, .inr (2, [.ref dk, .ref rc, .ref ta, .ref pa, .int (nI tl), .int (nI 0), .int (nI 0), .int (nI 0)])), (dk, .inr (0, [.ref a, .int du1, .int wr1])), (a, .inl (cA, 32768, .inl (hj_B d1))), (rc, .inr (1, [.ref sa, .ref la, .ref ma, .int (nI 0), .int (nI 0), .int (nI 0)])), (sa, .inl (cS, 1984, .inl fs)), (la, .inl (cL, 1984, .inl fl)), (ma, .inl (cM, 1984, .inl fm)), (pa, .inl (cP, 15872, .inl (hj_B (hj_cim d h mk n))))] H := hP.sub [6, 0, 1, 7, 2, 3, 4, 5] rfl
          have hD : va_D A [(j, .inr (2, [.ref dk, .ref rc, .ref ta, .ref pa, .int (nI tl), .int (nI 0), .int (nI 0), .int (nI 0)])), (dk, .inr (0, [.ref a, .int du1, .int wr1])), (a, .inl (cA, 32768, .inl (hj_B d1))), (rc, .inr (1, [.ref sa, .ref la, .ref ma, .int (nI 0), .int (nI 0), .int (nI 0)])), (sa, .inl (cS, 1984, .inl fs)), (la, .inl (cL, 1984, .inl fl)), (ma, .inl (cM, 1984, .inl fm)), (pa, .inl (cP, 15872, .inl (hj_B (hj_cim d h mk n))))] := hD.sub [6, 0, 1, 7, 2, 3, 4, 5] (by decide) rfl
          refine lv_iconst (v := (-1)) hx hb d_J_compact_82 (by decide) ?_
          exact hret (-1) ((0, 0, 0, 0, 0, 0), du1, wr1, d1, (hj_cim d h mk n), fs, fl, fm) _ _ _ _ d_J_compact_83 rfl (⟨hbi, Or.inl ⟨hT, e1, e2, e3, rfl, rfl, rfl, rfl, rfl, rfl, rfl⟩⟩) hP hK hD hS
        · omega
    · exact absurd c_2 hg2
  · exact absurd rfl c_1
