/-- what is given of the statics and of the nest: the words of nest mates; the table of the check -/
def hj_EX : hj_ET := fun A U H => (∀ w ∈ hj_nest, va_Nw w U) ∧ ∃ t : Nat, va_Z "HalfJournal" "CHECK_STEPS" "[I" (.ref t) A U H ∧ va_T .int t 16 (fun j => .int (nI (hj_tab j))) A U H
theorem hj_nest_warm {s U : State} (hW : s.WarmedH U.vm) : ∀ w ∈ hj_nest, va_Nw w s → va_Nw w U := by
  intro w hw h
  have h2 := (List.mem_filter.mp hw).2
  cases w with
  | fieldLinkNest a i b n d hh => exact va_Nw.warmF hW h
  | methodLinkNest a i x hh => exact va_Nw.warmM hW h
  | _ => exact absurd h2 (by simp [hj_isNest])
theorem hj_EXok : hj_Eok hj_EX := ⟨fun A u U H hW h => ⟨fun w hw => hj_nest_warm hW w hw (h.1 w hw), h.2.imp fun t q => ⟨va_Z.moved hW.alike q.1, va_T.moved hW.alike q.2⟩⟩,
  fun A U H H1 hq h => ⟨h.1, h.2.imp fun t q => ⟨va_Z.kept q.1 hq, va_T.kept q.2 hq⟩⟩,
  fun A B U H hq h => ⟨h.1, h.2.imp fun t q => ⟨va_Z.narrow q.1 hq, va_T.narrow q.2 hq⟩⟩⟩
abbrev rm_J_sizeOf : Room := { frames := 8, cells := 0, slots := 0, locals := 100 }
set_option maxHeartbeats 4000000 in
set_option maxRecDepth 100000 in
theorem c_J_sizeOf (l : Launch) (dC : Nat → ClassId) (dI : Nat → Nat → Nat) (n : Nat) (hn : n < 2 ^ 30) : hj_Mi l y_J_sizeOf b_J_sizeOf 1 .int rm_J_sizeOf hj_EX (dC, dI) vwCl [] [] [.int (nI n)] (fun r _ => r = nI (hj_sz n)) (fun _ : Unit => []) (fun _ => []) 0 0 := by
  refine hj_bodyI (by decide +kernel) (Nat.le_of_ble_eq_true rfl) ?_
  intro p e s m args below meth c A Q ls hx hb hts hown hml hA hP hK hD hE hl hret
  have hS : va_S A s.heap s.heap [] := va_S.rf
  have hown : s.vm.findClass "HalfJournal" = some m.cls := hown
  have hl : lv_has ls 1 [(0, .int (nI n))] := hl
  have hP : va_P (dC, dI) vwCl [] s.heap := hP
  have hD : va_D A [] := hD
  refine lv_iconst (v := nI 2) hx hb d_J_sizeOf_0 (by decide) ?_
  refine lv_iload_n hx hb d_J_sizeOf_1 rfl (lv_at hl 0 rfl) ?_
  refine hj_iadd hx hb d_J_sizeOf_2 ?_
  refine lv_iconst (v := nI 4) hx hb d_J_sizeOf_3 (by decide) ?_
  refine hj_iadd hx hb d_J_sizeOf_4 ?_
  refine lv_iload_n hx hb d_J_sizeOf_5 rfl (lv_at hl 0 rfl) ?_
  refine lv_iconst (v := nI 1) hx hb d_J_sizeOf_6 (by decide) ?_
  refine hj_iandM hx hb 1 (by first | assumption | omega) (by decide) d_J_sizeOf_7 ?_
  refine hj_iadd hx hb d_J_sizeOf_8 ?_
  refine hj_topn (b := hj_sz n) (by unfold hj_sz; omega) ?_
  exact hret (nI (hj_sz n)) () _ _ _ _ d_J_sizeOf_9 rfl (rfl) hP hK hD hS
abbrev rm_J_headBegin : Room := { frames := 8, cells := 0, slots := 0, locals := 100 }
set_option maxHeartbeats 4000000 in
set_option maxRecDepth 100000 in
theorem c_J_headBegin (l : Launch) (dC : Nat → ClassId) (dI : Nat → Nat → Nat) (h : Nat) (hh : h < 2) : hj_Mi l y_J_headBegin b_J_headBegin 1 .int rm_J_headBegin hj_EX (dC, dI) vwCl [] [] [.int (nI h)] (fun r _ => r = nI (12618 + 65536 * h)) (fun _ : Unit => []) (fun _ => []) 0 0 := by
  refine hj_bodyI (by decide +kernel) (Nat.le_of_ble_eq_true rfl) ?_
  intro p e s m args below meth c A Q ls hx hb hts hown hml hA hP hK hD hE hl hret
  have hS : va_S A s.heap s.heap [] := va_S.rf
  have hown : s.vm.findClass "HalfJournal" = some m.cls := hown
  have hl : lv_has ls 1 [(0, .int (nI h))] := hl
  have hP : va_P (dC, dI) vwCl [] s.heap := hP
  have hD : va_D A [] := hD
  refine lv_sipush (v := nI 12618) hx hb d_J_headBegin_0 (by decide) ?_
  refine lv_iload_n hx hb d_J_headBegin_3 rfl (lv_at hl 0 rfl) ?_
  refine lv_bipush (v := nI 16) hx hb d_J_headBegin_4 (by decide) ?_
  refine hj_ishl hx hb 16 (by decide) (by omega) d_J_headBegin_6 ?_
  refine hj_iorR hx hb 16 (by omega) (by omega) d_J_headBegin_7 ?_
  refine hj_topn (b := 12618 + 65536 * h) (by omega) ?_
  exact hret (nI (12618 + 65536 * h)) () _ _ _ _ d_J_headBegin_8 rfl (rfl) hP hK hD hS
abbrev rm_J_isBlock : Room := { frames := 8, cells := 0, slots := 0, locals := 100 }
set_option maxHeartbeats 4000000 in
set_option maxRecDepth 100000 in
theorem c_J_isBlock (l : Launch) (dC : Nat → ClassId) (dI : Nat → Nat → Nat) (x : Int32) : hj_Mi l y_J_isBlock b_J_isBlock 1 .boolean rm_J_isBlock hj_EX (dC, dI) vwCl [] [] [.int x] (fun r _ => (vp_in x 64 ∧ r = nI 1) ∨ (¬ vp_in x 64 ∧ r = nI 0)) (fun _ : Unit => []) (fun _ => []) 0 0 := by
  refine hj_bodyI (by decide +kernel) (Nat.le_of_ble_eq_true rfl) ?_
  intro p e s m args below meth c A Q ls hx hb hts hown hml hA hP hK hD hE hl hret
  have hS : va_S A s.heap s.heap [] := va_S.rf
  have hown : s.vm.findClass "HalfJournal" = some m.cls := hown
  have hl : lv_has ls 1 [(0, .int x)] := hl
  have hP : va_P (dC, dI) vwCl [] s.heap := hP
  have hD : va_D A [] := hD
  refine lv_iload_n hx hb d_J_isBlock_0 rfl (lv_at hl 0 rfl) ?_
  refine lv_if_lt (tgt := 14) hx hb d_J_isBlock_1 (by decide) (fun c_1 => ?_) (fun c_1 => ?_)
  · refine lv_iconst (v := nI 0) hx hb d_J_isBlock_14 (by decide) ?_
    exact hret (nI 0) () _ _ _ _ d_J_isBlock_15 rfl (Or.inr ⟨fun q => q (Or.inl c_1), rfl⟩) hP hK hD hS
  · obtain ⟨j, hj, rfl⟩ := nI_of c_1
    refine lv_iload_n hx hb d_J_isBlock_4 rfl (lv_at hl 0 rfl) ?_
    refine lv_bipush (v := nI 64) hx hb d_J_isBlock_5 (by decide) ?_
    refine hj_icmp_ge (tgt := 14) hx hb (by omega) (by omega) d_J_isBlock_7 (by decide) (fun c_2 => ?_) (fun c_2 => ?_)
    · refine lv_iconst (v := nI 0) hx hb d_J_isBlock_14 (by decide) ?_
      exact hret (nI 0) () _ _ _ _ d_J_isBlock_15 rfl (Or.inr ⟨fun q => q (Or.inr (by rw [nI_clamp hj]; exact c_2)), rfl⟩) hP hK hD hS
    · refine lv_iconst (v := nI 1) hx hb d_J_isBlock_10 (by decide) ?_
      refine lv_goto (tgt := 15) hx hb d_J_isBlock_11 (by decide) ?_
      exact hret (nI 1) () _ _ _ _ d_J_isBlock_15 rfl (Or.inl ⟨vp_in_nI c_2 (by omega), rfl⟩) hP hK hD hS
abbrev rm_J_firstBlockOf : Room := { frames := 8, cells := 0, slots := 0, locals := 100 }
set_option maxHeartbeats 4000000 in
set_option maxRecDepth 100000 in
theorem c_J_firstBlockOf (l : Launch) (dC : Nat → ClassId) (dI : Nat → Nat → Nat) (h : Nat) : hj_Mi l y_J_firstBlockOf b_J_firstBlockOf 1 .int rm_J_firstBlockOf hj_EX (dC, dI) vwCl [] [] [.int (nI h)] (fun r _ => r = nI (2 + h * 31)) (fun _ : Unit => []) (fun _ => []) 0 0 := by
  refine hj_bodyI (by decide +kernel) (Nat.le_of_ble_eq_true rfl) ?_
  intro p e s m args below meth c A Q ls hx hb hts hown hml hA hP hK hD hE hl hret
  have hS : va_S A s.heap s.heap [] := va_S.rf
  have hown : s.vm.findClass "HalfJournal" = some m.cls := hown
  have hl : lv_has ls 1 [(0, .int (nI h))] := hl
  have hP : va_P (dC, dI) vwCl [] s.heap := hP
  have hD : va_D A [] := hD
  refine lv_iconst (v := nI 2) hx hb d_J_firstBlockOf_0 (by decide) ?_
  refine lv_iload_n hx hb d_J_firstBlockOf_1 rfl (lv_at hl 0 rfl) ?_
  refine lv_bipush (v := nI 31) hx hb d_J_firstBlockOf_2 (by decide) ?_
  refine hj_imul hx hb d_J_firstBlockOf_4 ?_
  refine hj_iadd hx hb d_J_firstBlockOf_5 ?_
  exact hret (nI (2 + (h * 31))) () _ _ _ _ d_J_firstBlockOf_6 rfl (rfl) hP hK hD hS
abbrev rm_J_firstByteOf : Room := { frames := 16, cells := 0, slots := 0, locals := 200 }
set_option maxHeartbeats 4000000 in
set_option maxRecDepth 100000 in
theorem c_J_firstByteOf (l : Launch) (dC : Nat → ClassId) (dI : Nat → Nat → Nat) (h : Nat) : hj_Mi l y_J_firstByteOf b_J_firstByteOf 1 .int rm_J_firstByteOf hj_EX (dC, dI) vwCl [] [] [.int (nI h)] (fun r _ => r = nI (hj_hb h)) (fun _ : Unit => []) (fun _ => []) 0 0 := by
  refine hj_bodyI (by decide +kernel) (Nat.le_of_ble_eq_true rfl) ?_
  intro p e s m args below meth c A Q ls hx hb hts hown hml hA hP hK hD hE hl hret
  have hS : va_S A s.heap s.heap [] := va_S.rf
  have hown : s.vm.findClass "HalfJournal" = some m.cls := hown
  have hl : lv_has ls 1 [(0, .int (nI h))] := hl
  have hP : va_P (dC, dI) vwCl [] s.heap := hP
  have hD : va_D A [] := hD
  refine lv_iload_n hx hb d_J_firstByteOf_0 rfl (lv_at hl 0 rfl) ?_
  refine hj_calli (wc := []) (wr := []) [] [] hP hD hS hA rfl rfl rfl (by decide) (va_runS (As := [.int (nI h)]) (rest := []) ⟨hx, hb, hml, hown, hts⟩ (c_J_firstBlockOf l dC dI h s.heap.size) (cwS 1 hts (hj_gS m_465 m_466 m_1 m_467) rfl rfl rfl (by decide +kernel) ⟨Nat.le_of_ble_eq_true rfl, Nat.le_of_ble_eq_true rfl⟩) (hj_preS hj_EXok hE hP hD hK hS hA [] rfl rfl [] rfl) rfl rfl hl.1 rfl (lv_room (Nat.le_of_ble_eq_true rfl)) d_J_firstByteOf_1 ⟨Nat.le_of_ble_eq_true rfl, Nat.le_of_ble_eq_true rfl⟩) (fun r_1 u_2 H locs hw hP hD hK1 hS => ?_)
  subst hw
  have hP : va_P (dC, dI) vwCl [] H := hP.sub [] rfl
  have hD : va_D A [] := hD.sub [] (by decide) rfl
  refine lv_sipush (v := nI 512) hx hb d_J_firstByteOf_4 (by decide) ?_
  refine hj_imul hx hb d_J_firstByteOf_7 ?_
  refine hj_topn (b := hj_hb h) (by unfold hj_hb; omega) ?_
  exact hret (nI (hj_hb h)) () _ _ _ _ d_J_firstByteOf_8 rfl (rfl) hP hK hD hS
abbrev rm_J_lastBlockOf : Room := { frames := 8, cells := 0, slots := 0, locals := 100 }
set_option maxHeartbeats 4000000 in
set_option maxRecDepth 100000 in
theorem c_J_lastBlockOf (l : Launch) (dC : Nat → ClassId) (dI : Nat → Nat → Nat) (t : Nat) (ht : t ≤ 15872) : hj_Mi l y_J_lastBlockOf b_J_lastBlockOf 1 .int rm_J_lastBlockOf hj_EX (dC, dI) vwCl [] [] [.int (nI t)] (fun r _ => r = nI (hj_lb t)) (fun _ : Unit => []) (fun _ => []) 0 0 := by
  refine hj_bodyI (by decide +kernel) (Nat.le_of_ble_eq_true rfl) ?_
  intro p e s m args below meth c A Q ls hx hb hts hown hml hA hP hK hD hE hl hret
  have hS : va_S A s.heap s.heap [] := va_S.rf
  have hown : s.vm.findClass "HalfJournal" = some m.cls := hown
  have hl : lv_has ls 1 [(0, .int (nI t))] := hl
  have hP : va_P (dC, dI) vwCl [] s.heap := hP
  have hD : va_D A [] := hD
  refine lv_iload_n hx hb d_J_lastBlockOf_0 rfl (lv_at hl 0 rfl) ?_
  refine lv_iconst (v := nI 2) hx hb d_J_lastBlockOf_1 (by decide) ?_
  refine hj_iadd hx hb d_J_lastBlockOf_2 ?_
  refine lv_sipush (v := nI 15872) hx hb d_J_lastBlockOf_3 (by decide) ?_
  refine va_mmin hx hb (hml.trans hl.1.symm) hown (hts _ m_599) (hts _ m_240) (hts _ m_15) (hts _ m_241) (Nat.le_of_ble_eq_true rfl) (Nat.le_of_ble_eq_true rfl) (Nat.le_of_ble_eq_true rfl) (Nat.le_of_ble_eq_true rfl) d_J_lastBlockOf_6 ?_
  have h9 : (if nI 15872 < nI (t + 2) then nI 15872 else nI (t + 2)) = nI (if 15872 < t + 2 then 15872 else t + 2) := by
    by_cases q : 15872 < t + 2
    · rw [if_pos q, if_pos ((nI_ltI (by omega) (by omega)).mpr q)]
    · rw [if_neg q, if_neg (fun z => q ((nI_ltI (by omega) (by omega)).mp z))]
  rw [h9]
  obtain ⟨v, hv⟩ : ∃ v, v = (if 15872 < t + 2 then 15872 else t + 2) := ⟨_, rfl⟩
  rw [← hv]
  have hv1 : 2 ≤ v ∧ v ≤ 15872 := by rw [hv]; split <;> omega
  refine lv_iconst (v := nI 1) hx hb d_J_lastBlockOf_9 (by decide) ?_
  refine hj_isub hx hb (by omega) d_J_lastBlockOf_10 ?_
  refine lv_sipush (v := nI 512) hx hb d_J_lastBlockOf_11 (by decide) ?_
  refine hj_idiv hx hb (by omega) (by omega) (by omega) d_J_lastBlockOf_14 ?_
  refine hj_topn (b := hj_lb t) (by unfold hj_lb; rw [hv]; split <;> split <;> omega) ?_
  exact hret (nI (hj_lb t)) () _ _ _ _ d_J_lastBlockOf_15 rfl (rfl) hP hK hD hS
abbrev rm_J_hasBytes : Room := { frames := 8, cells := 0, slots := 0, locals := 100 }
set_option maxHeartbeats 4000000 in
set_option maxRecDepth 100000 in
theorem c_J_hasBytes (l : Launch) (dC : Nat → ClassId) (dI : Nat → Nat → Nat) (a : Nat) (cA : ClassId) (n : Nat) (d : Nat → Nat) (f w : Nat) (hn : n < 2 ^ 31) (hf : f + w ≤ n) : hj_Mi l y_J_hasBytes b_J_hasBytes 3 .boolean rm_J_hasBytes hj_EX (dC, dI) vwCl [(cA, .byte)] [(a, .inl (cA, n, .inl (hj_B d)))] [.ref a, .int (nI f), .int (nI w)] (fun r _ => r = nI 1) (fun _ : Unit => [(a, .inl (cA, n, .inl (hj_B d)))]) (fun _ => [(cA, .byte)]) 0 0 := by
  refine hj_bodyI (by decide +kernel) (Nat.le_of_ble_eq_true rfl) ?_
  intro p e s m args below meth c A Q ls hx hb hts hown hml hA hP hK hD hE hl hret
  have hS : va_S A s.heap s.heap [] := va_S.rf
  have hown : s.vm.findClass "HalfJournal" = some m.cls := hown
  have hl : lv_has ls 3 [(0, .ref a), (1, .int (nI f)), (2, .int (nI w))] := hl
  have hP : va_P (dC, dI) vwCl [(a, .inl (cA, n, .inl (hj_B d)))] s.heap := hP
  have hD : va_D A [(a, .inl (cA, n, .inl (hj_B d)))] := hD
  refine lv_iload_n hx hb d_J_hasBytes_0 rfl (lv_at hl 1 rfl) ?_
  refine hj_if_lt (tgt := 20) hx hb (by omega) d_J_hasBytes_1 ?_ (by decide)
  refine lv_iload_n hx hb d_J_hasBytes_4 rfl (lv_at hl 2 rfl) ?_
  refine hj_if_lt (tgt := 20) hx hb (by omega) d_J_hasBytes_5 ?_ (by decide)
  refine lv_iload_n hx hb d_J_hasBytes_8 rfl (lv_at hl 2 rfl) ?_
  refine lv_aload_n hx hb d_J_hasBytes_9 rfl (lv_at hl 0 rfl) ?_
  refine va_alen (v := nI n) hx hb hK hP 0 0 rfl rfl rfl d_J_hasBytes_10 ?_
  refine lv_iload_n hx hb d_J_hasBytes_11 rfl (lv_at hl 1 rfl) ?_
  refine hj_isub hx hb (by omega) d_J_hasBytes_12 ?_
  refine hj_icmp_gt (tgt := 20) hx hb (by omega) (by omega) d_J_hasBytes_13 (by decide) (fun c_1 => ?_) (fun c_1 => ?_)
  · omega
  · refine lv_iconst (v := nI 1) hx hb d_J_hasBytes_16 (by decide) ?_
    refine lv_goto (tgt := 21) hx hb d_J_hasBytes_17 (by decide) ?_
    exact hret (nI 1) () _ _ _ _ d_J_hasBytes_21 rfl (rfl) hP hK hD hS
abbrev rm_A_rangeCheck : Room := { frames := 8, cells := 0, slots := 0, locals := 100 }
set_option maxHeartbeats 4000000 in
set_option maxRecDepth 100000 in
theorem c_A_rangeCheck (l : Launch) (dC : Nat → ClassId) (dI : Nat → Nat → Nat) (n f t : Nat) (hn : n < 2 ^ 31) (hf : f ≤ t) (ht : t ≤ n) : hj_Mv l y_A_rangeCheck b_A_rangeCheck 3 rm_A_rangeCheck hj_EX (dC, dI) vwCl [] [] [.int (nI n), .int (nI f), .int (nI t)] (fun _ => True) (fun _ : Unit => []) (fun _ => []) 0 0 := by
  refine hj_bodyV (by decide +kernel) (Nat.le_of_ble_eq_true rfl) ?_
  intro p e s m args below meth c A Q ls hx hb hts hown hml hin hA hP hK hD hE hl hret
  have hS : va_S A s.heap s.heap [] := va_S.rf
  have hown : s.vm.findClass "java/util/Arrays" = some m.cls := hown
  have hl : lv_has ls 3 [(0, .int (nI n)), (1, .int (nI f)), (2, .int (nI t))] := hl
  have hP : va_P (dC, dI) vwCl [] s.heap := hP
  have hD : va_D A [] := hD
  refine lv_iload_n hx hb d_A_rangeCheck_0 rfl (lv_at hl 1 rfl) ?_
  refine lv_iload_n hx hb d_A_rangeCheck_1 rfl (lv_at hl 2 rfl) ?_
  refine hj_icmp_le (tgt := 46) hx hb (by omega) (by omega) d_A_rangeCheck_2 (by decide) (fun c_1 => ?_) (fun c_1 => ?_)
  · refine lv_iload_n hx hb d_A_rangeCheck_46 rfl (lv_at hl 1 rfl) ?_
    refine hj_if_ge (tgt := 59) hx hb (by omega) d_A_rangeCheck_47 (by decide) ?_
    refine lv_iload_n hx hb d_A_rangeCheck_59 rfl (lv_at hl 2 rfl) ?_
    refine lv_iload_n hx hb d_A_rangeCheck_60 rfl (lv_at hl 0 rfl) ?_
    refine hj_icmp_le (tgt := 73) hx hb (by omega) (by omega) d_A_rangeCheck_61 (by decide) (fun c_2 => ?_) (fun c_2 => ?_)
    · exact hret () _ _ _ _ d_A_rangeCheck_73 (trivial) hP hK hD hS
    · omega
  · omega
