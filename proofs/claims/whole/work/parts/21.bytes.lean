theorem hj_addm1 (x : Int32) : x + Int32.ofInt (-1) = x - 1 := by
  rw [Int32.sub_eq_add_neg]; rfl
theorem hj_m1_neg : nI 0 - 1 < (0 : Int32) := by decide +kernel
theorem hj_sh8u : ∀ i, i < 4 → (((nI (8 * i)).toUInt32 &&& Int32.toUInt32 31).toBitVec % 32).toNat = 8 * i := by decide +kernel
theorem hj_by_sh (v i : Nat) : v / 2 ^ (8 * i) % 256 = hj_by v i := by
  unfold hj_by
  rw [Nat.pow_mul]
abbrev rm_A_fill : Room := { frames := 16, cells := 0, slots := 0, locals := 200 }
set_option maxHeartbeats 4000000 in
set_option maxRecDepth 100000 in
theorem c_A_fill (l : Launch) (dC : Nat → ClassId) (dI : Nat → Nat → Nat) (a : Nat) (cA : ClassId) (n : Nat) (d : Nat → Nat) (f t : Nat) (hn : n < 2 ^ 31) (hf : f ≤ t) (ht : t ≤ n) : hj_Mv l y_A_fill b_A_fill 5 rm_A_fill hj_EX (dC, dI) vwCl [(cA, .byte)] [(a, .inl (cA, n, .inl (hj_B d)))] [.ref a, .int (nI f), .int (nI t), .int (nI 0)] (fun _ => True) (fun _ : Unit => [(a, .inl (cA, n, .inl (hj_B (hj_clr d f t))))]) (fun _ => [(cA, .byte)]) 0 0 := by
  refine hj_bodyV (by decide +kernel) (Nat.le_of_ble_eq_true rfl) ?_
  intro p e s m args below meth c A Q ls hx hb hts hown hml hin hA hP hK hD hE hl hret
  have hS : va_S A s.heap s.heap [] := va_S.rf
  have hown : s.vm.findClass "java/util/Arrays" = some m.cls := hown
  have hl : lv_has ls 5 [(0, .ref a), (1, .int (nI f)), (2, .int (nI t)), (3, .int (nI 0))] := hl
  have hP : va_P (dC, dI) vwCl [(a, .inl (cA, n, .inl (hj_B d)))] s.heap := hP
  have hD : va_D A [(a, .inl (cA, n, .inl (hj_B d)))] := hD
  refine lv_aload_n hx hb d_A_fill_0 rfl (lv_at hl 0 rfl) ?_
  refine va_alen (v := nI n) hx hb hK hP 0 0 rfl rfl rfl d_A_fill_1 ?_
  refine lv_iload_n hx hb d_A_fill_2 rfl (lv_at hl 1 rfl) ?_
  refine lv_iload_n hx hb d_A_fill_3 rfl (lv_at hl 2 rfl) ?_
  refine hj_callv (wc := []) (wr := [(a, .inl (cA, n, .inl (hj_B d)))]) [] [0] hP hD hS hA rfl rfl rfl (by decide) (va_runS (As := [.int (nI n), .int (nI f), .int (nI t)]) (rest := []) ⟨hx, hb, hml, hown, hts⟩ (c_A_rangeCheck l dC dI n f t hn hf ht s.heap.size) (cwS 3 hts (hj_gS m_123 m_124 m_5 m_125) rfl rfl rfl (by decide +kernel) ⟨Nat.le_of_ble_eq_true rfl, Nat.le_of_ble_eq_true rfl⟩) (hj_preS hj_EXok hE hP hD hK hS hA [] rfl rfl [] rfl) rfl rfl hl.1 rfl (lv_room (Nat.le_of_ble_eq_true rfl)) d_A_fill_4 ⟨Nat.le_of_ble_eq_true rfl, Nat.le_of_ble_eq_true rfl⟩) (fun u_2 H locs hw hP hD hK1 hS => ?_)
  have hP : va_P (dC, dI) vwCl [(a, .inl (cA, n, .inl (hj_B d)))] H := hP.sub [0] rfl
  have hD : va_D A [(a, .inl (cA, n, .inl (hj_B d)))] := hD.sub [0] (by decide) rfl
  refine lv_iload_n hx hb d_A_fill_7 rfl (lv_at hl 1 rfl) ?_
  refine lv_istore (lv' := [(4, .int (nI f)), (0, .ref a), (1, .int (nI f)), (2, .int (nI t)), (3, .int (nI 0))]) hx hb d_A_fill_8 hl (by decide) rfl (fun ls hl => ?_)
  have h9 : (d : Nat → Nat) = hj_clr d f f := (hj_clr0 d f).symm
  rw [h9] at hP hD
  have hP : va_P (dC, dI) vwCl [(a, .inl (cA, n, .inl (hj_B (hj_clr d f f))))] H := hP
  have hD : va_D A [(a, .inl (cA, n, .inl (hj_B (hj_clr d f f))))] := hD
  have lp : ∀ (n9_lp : Nat) (i : Nat), (f ≤ i) → (i ≤ t) → (t - i) < n9_lp → ∀ (H : Heap) (locs : List Loc), va_P (dC, dI) vwCl [(a, .inl (cA, n, .inl (hj_B (hj_clr d f i))))] H → va_D A [(a, .inl (cA, n, .inl (hj_B (hj_clr d f i))))] → va_S A s.heap H locs → ∀ (ls : Array Slot), lv_has ls 5 [(0, .ref a), (2, .int (nI t)), (3, .int (nI 0)), (4, .int (nI i))] → W p l e rm_A_fill s m args below meth c H locs 0 0 Q (F0 m 10 ls []) := by
    intro n9_lp
    induction n9_lp with
    | zero =>
      intro i hi1 hi2 hm_lp
      exact absurd hm_lp (Nat.not_lt_zero _)
    | succ n9_lp ih_lp =>
      intro i hi1 hi2 hm_lp H locs hP hD hS ls hl
      refine lv_iload hx hb d_A_fill_10 (lv_at hl 3 rfl) ?_
      refine lv_iload_n hx hb d_A_fill_12 rfl (lv_at hl 1 rfl) ?_
      refine hj_icmp_ge (tgt := 27) hx hb (by omega) (by omega) d_A_fill_13 (by decide) (fun c_1 => ?_) (fun c_1 => ?_)
      · obtain rfl : i = t := by omega
        exact hret () _ _ _ _ d_A_fill_27 (trivial) hP hK hD hS
      · refine lv_aload_n hx hb d_A_fill_16 rfl (lv_at hl 0 rfl) ?_
        refine lv_iload hx hb d_A_fill_17 (lv_at hl 3 rfl) ?_
        refine lv_iload_n hx hb d_A_fill_19 rfl (lv_at hl 2 rfl) ?_
        refine hj_topv (y := sb_b 0) (by decide) ?_
        refine hj_bast hx hb hK hP hD hS 0 0 rfl rfl (by omega) (by omega) d_A_fill_20 (fun H locs hP hD hS => ?_)
        have hP : va_P (dC, dI) vwCl [(a, .inl (cA, n, .inl (hj_B (va_up (hj_clr d f i) i 0))))] H := hP
        have hD : va_D A [(a, .inl (cA, n, .inl (hj_B (va_up (hj_clr d f i) i 0))))] := hD
        have h9 : (va_up (hj_clr d f i) i 0 : Nat → Nat) = hj_clr d f (i + 1) := hj_clrS d hi1
        rw [h9] at hP hD
        have hP : va_P (dC, dI) vwCl [(a, .inl (cA, n, .inl (hj_B (hj_clr d f (i + 1)))))] H := hP
        have hD : va_D A [(a, .inl (cA, n, .inl (hj_B (hj_clr d f (i + 1)))))] := hD
        refine lv_iinc (v := nI (i + 1)) (lv' := [(4, .int (nI (i + 1))), (0, .ref a), (2, .int (nI t)), (3, .int (nI 0))]) hx hb d_A_fill_21 hl (k := 3) rfl (nI_1 _) (by decide) rfl (fun ls hl => ?_)
        refine lv_goto (tgt := 10) hx hb d_A_fill_24 (by decide) ?_
        exact ih_lp (i + 1) (by omega) (by omega) (by omega) _ _ hP hD hS _ (lv_sub hl [1, 2, 3, 0] rfl)
  exact lp _ f (Nat.le_refl _) (hf) (Nat.lt_succ_self _) _ _ hP hD hS _ (lv_sub hl [1, 3, 4, 0] rfl)
abbrev rm_J_clearBytes : Room := { frames := 24, cells := 0, slots := 0, locals := 300 }
set_option maxHeartbeats 4000000 in
set_option maxRecDepth 100000 in
theorem c_J_clearBytes (l : Launch) (dC : Nat → ClassId) (dI : Nat → Nat → Nat) (a : Nat) (cA : ClassId) (n : Nat) (d : Nat → Nat) (f t : Nat) (hn : n < 2 ^ 31) (hf : f ≤ t) (ht : t ≤ n) : hj_Mv l y_J_clearBytes b_J_clearBytes 3 rm_J_clearBytes hj_EX (dC, dI) vwCl [(cA, .byte)] [(a, .inl (cA, n, .inl (hj_B d)))] [.ref a, .int (nI f), .int (nI t)] (fun _ => True) (fun _ : Unit => [(a, .inl (cA, n, .inl (hj_B (hj_clr d f t))))]) (fun _ => [(cA, .byte)]) 0 0 := by
  refine hj_bodyV (by decide +kernel) (Nat.le_of_ble_eq_true rfl) ?_
  intro p e s m args below meth c A Q ls hx hb hts hown hml hin hA hP hK hD hE hl hret
  have hS : va_S A s.heap s.heap [] := va_S.rf
  have hown : s.vm.findClass "HalfJournal" = some m.cls := hown
  have hl : lv_has ls 3 [(0, .ref a), (1, .int (nI f)), (2, .int (nI t))] := hl
  have hP : va_P (dC, dI) vwCl [(a, .inl (cA, n, .inl (hj_B d)))] s.heap := hP
  have hD : va_D A [(a, .inl (cA, n, .inl (hj_B d)))] := hD
  refine lv_aload_n hx hb d_J_clearBytes_0 rfl (lv_at hl 0 rfl) ?_
  refine lv_iload_n hx hb d_J_clearBytes_1 rfl (lv_at hl 1 rfl) ?_
  refine lv_iload_n hx hb d_J_clearBytes_2 rfl (lv_at hl 2 rfl) ?_
  refine lv_iload_n hx hb d_J_clearBytes_3 rfl (lv_at hl 1 rfl) ?_
  refine hj_isub hx hb (by omega) d_J_clearBytes_4 ?_
  refine hj_calli (wc := [(a, .inl (cA, n, .inl (hj_B d)))]) (wr := []) [0] [] hP hD hS hA rfl rfl rfl (by decide) (va_runS (As := [.ref a, .int (nI f), .int (nI (t - f))]) (rest := []) ⟨hx, hb, hml, hown, hts⟩ (c_J_hasBytes l dC dI a cA n d f (t - f) hn (by omega) s.heap.size) (cwS 3 hts (hj_gS m_117 m_118 m_1 m_119) rfl rfl rfl (by decide +kernel) ⟨Nat.le_of_ble_eq_true rfl, Nat.le_of_ble_eq_true rfl⟩) (hj_preS hj_EXok hE hP hD hK hS hA [0] rfl rfl [0] rfl) rfl rfl hl.1 rfl (lv_room (Nat.le_of_ble_eq_true rfl)) d_J_clearBytes_5 ⟨Nat.le_of_ble_eq_true rfl, Nat.le_of_ble_eq_true rfl⟩) (fun r_1 u_2 H locs hw hP hD hK1 hS => ?_)
  subst hw
  have hP : va_P (dC, dI) vwCl [(a, .inl (cA, n, .inl (hj_B d)))] H := hP.sub [0] rfl
  have hD : va_D A [(a, .inl (cA, n, .inl (hj_B d)))] := hD.sub [0] (by decide) rfl
  refine hj_if_eq (tgt := 18) hx hb (by omega) d_J_clearBytes_8 (by decide) (fun c_1 => ?_) (fun c_1 => ?_)
  · omega
  · refine lv_aload_n hx hb d_J_clearBytes_11 rfl (lv_at hl 0 rfl) ?_
    refine lv_iload_n hx hb d_J_clearBytes_12 rfl (lv_at hl 1 rfl) ?_
    refine lv_iload_n hx hb d_J_clearBytes_13 rfl (lv_at hl 2 rfl) ?_
    refine lv_iconst (v := nI 0) hx hb d_J_clearBytes_14 (by decide) ?_
    refine hj_callv (wc := [(a, .inl (cA, n, .inl (hj_B d)))]) (wr := []) [0] [] hP hD hS hA rfl rfl rfl (by decide) (va_runS (As := [.ref a, .int (nI f), .int (nI t), .int (nI 0)]) (rest := []) ⟨hx, hb, hml, hown, hts⟩ (c_A_fill l dC dI a cA n d f t hn hf ht H.size) (va_cwS 4 hts (hj_gA m_120 m_121 m_5 m_122) rfl rfl rfl (by decide +kernel) ⟨Nat.le_of_ble_eq_true rfl, Nat.le_of_ble_eq_true rfl⟩) (hj_preS hj_EXok hE hP hD hK hS hA [0] rfl rfl [0] rfl) rfl rfl hl.1 rfl (lv_room (Nat.le_of_ble_eq_true rfl)) d_J_clearBytes_15 ⟨Nat.le_of_ble_eq_true rfl, Nat.le_of_ble_eq_true rfl⟩) (fun u_4 H locs hw hP hD hK1 hS => ?_)
    have hP : va_P (dC, dI) vwCl [(a, .inl (cA, n, .inl (hj_B (hj_clr d f t))))] H := hP.sub [0] rfl
    have hD : va_D A [(a, .inl (cA, n, .inl (hj_B (hj_clr d f t))))] := hD.sub [0] (by decide) rfl
    exact hret () _ _ _ _ d_J_clearBytes_18 (trivial) hP hK hD hS
abbrev rm_J_copyBytes : Room := { frames := 16, cells := 0, slots := 0, locals := 200 }
set_option maxHeartbeats 4000000 in
set_option maxRecDepth 100000 in
theorem c_J_copyBytes (l : Launch) (dC : Nat → ClassId) (dI : Nat → Nat → Nat) (a : Nat) (cA : ClassId) (n : Nat) (d : Nat → Nat) (a2 : Nat) (cA2 : ClassId) (n2 : Nat) (d2 : Nat → Nat) (f t w : Nat) (hn : n < 2 ^ 31) (hn2 : n2 < 2 ^ 31) (hf : f + w ≤ n) (ht : t + w ≤ n2) : hj_Mv l y_J_copyBytes b_J_copyBytes 5 rm_J_copyBytes hj_EX (dC, dI) vwCl [(cA, .byte), (cA2, .byte)] [(a, .inl (cA, n, .inl (hj_B d))), (a2, .inl (cA2, n2, .inl (hj_B d2)))] [.ref a, .int (nI f), .ref a2, .int (nI t), .int (nI w)] (fun _ => True) (fun _ : Unit => [(a, .inl (cA, n, .inl (hj_B d))), (a2, .inl (cA2, n2, .inl (hj_B (va_cpy d d2 f t w))))]) (fun _ => [(cA, .byte), (cA2, .byte)]) 0 0 := by
  refine hj_bodyV (by decide +kernel) (Nat.le_of_ble_eq_true rfl) ?_
  intro p e s m args below meth c A Q ls hx hb hts hown hml hin hA hP hK hD hE hl hret
  have hS : va_S A s.heap s.heap [] := va_S.rf
  have hown : s.vm.findClass "HalfJournal" = some m.cls := hown
  have hl : lv_has ls 5 [(0, .ref a), (1, .int (nI f)), (2, .ref a2), (3, .int (nI t)), (4, .int (nI w))] := hl
  have hP : va_P (dC, dI) vwCl [(a, .inl (cA, n, .inl (hj_B d))), (a2, .inl (cA2, n2, .inl (hj_B d2)))] s.heap := hP
  have hD : va_D A [(a, .inl (cA, n, .inl (hj_B d))), (a2, .inl (cA2, n2, .inl (hj_B d2)))] := hD
  refine lv_aload_n hx hb d_J_copyBytes_0 rfl (lv_at hl 0 rfl) ?_
  refine lv_iload_n hx hb d_J_copyBytes_1 rfl (lv_at hl 1 rfl) ?_
  refine lv_iload hx hb d_J_copyBytes_2 (lv_at hl 4 rfl) ?_
  refine hj_calli (wc := [(a, .inl (cA, n, .inl (hj_B d)))]) (wr := [(a2, .inl (cA2, n2, .inl (hj_B d2)))]) [0] [1] hP hD hS hA rfl rfl rfl (by decide) (va_runS (As := [.ref a, .int (nI f), .int (nI w)]) (rest := []) ⟨hx, hb, hml, hown, hts⟩ (c_J_hasBytes l dC dI a cA n d f w hn hf s.heap.size) (cwS 3 hts (hj_gS m_117 m_118 m_1 m_119) rfl rfl rfl (by decide +kernel) ⟨Nat.le_of_ble_eq_true rfl, Nat.le_of_ble_eq_true rfl⟩) (hj_preS hj_EXok hE hP hD hK hS hA [0] rfl rfl [0] rfl) rfl rfl hl.1 rfl (lv_room (Nat.le_of_ble_eq_true rfl)) d_J_copyBytes_4 ⟨Nat.le_of_ble_eq_true rfl, Nat.le_of_ble_eq_true rfl⟩) (fun r_1 u_2 H locs hw hP hD hK1 hS => ?_)
  subst hw
  have hP : va_P (dC, dI) vwCl [(a, .inl (cA, n, .inl (hj_B d))), (a2, .inl (cA2, n2, .inl (hj_B d2)))] H := hP.sub [1, 0] rfl
  have hD : va_D A [(a, .inl (cA, n, .inl (hj_B d))), (a2, .inl (cA2, n2, .inl (hj_B d2)))] := hD.sub [1, 0] (by decide) rfl
  refine hj_if_eq (tgt := 29) hx hb (by omega) d_J_copyBytes_7 (by decide) (fun c_1 => ?_) (fun c_1 => ?_)
  · omega
  · refine lv_aload_n hx hb d_J_copyBytes_10 rfl (lv_at hl 2 rfl) ?_
    refine lv_iload_n hx hb d_J_copyBytes_11 rfl (lv_at hl 3 rfl) ?_
    refine lv_iload hx hb d_J_copyBytes_12 (lv_at hl 4 rfl) ?_
    refine hj_calli (wc := [(a2, .inl (cA2, n2, .inl (hj_B d2)))]) (wr := [(a, .inl (cA, n, .inl (hj_B d)))]) [1] [0] hP hD hS hA rfl rfl rfl (by decide) (va_runS (As := [.ref a2, .int (nI t), .int (nI w)]) (rest := []) ⟨hx, hb, hml, hown, hts⟩ (c_J_hasBytes l dC dI a2 cA2 n2 d2 t w hn2 ht H.size) (cwS 3 hts (hj_gS m_117 m_118 m_1 m_119) rfl rfl rfl (by decide +kernel) ⟨Nat.le_of_ble_eq_true rfl, Nat.le_of_ble_eq_true rfl⟩) (hj_preS hj_EXok hE hP hD hK hS hA [1] rfl rfl [1] rfl) rfl rfl hl.1 rfl (lv_room (Nat.le_of_ble_eq_true rfl)) d_J_copyBytes_14 ⟨Nat.le_of_ble_eq_true rfl, Nat.le_of_ble_eq_true rfl⟩) (fun r_3 u_4 H locs hw hP hD hK1 hS => ?_)
    subst hw
    have hP : va_P (dC, dI) vwCl [(a, .inl (cA, n, .inl (hj_B d))), (a2, .inl (cA2, n2, .inl (hj_B d2)))] H := hP.sub [0, 1] rfl
    have hD : va_D A [(a, .inl (cA, n, .inl (hj_B d))), (a2, .inl (cA2, n2, .inl (hj_B d2)))] := hD.sub [0, 1] (by decide) rfl
    refine hj_if_eq (tgt := 29) hx hb (by omega) d_J_copyBytes_17 (by decide) (fun c_2 => ?_) (fun c_2 => ?_)
    · omega
    · refine lv_aload_n hx hb d_J_copyBytes_20 rfl (lv_at hl 0 rfl) ?_
      refine lv_iload_n hx hb d_J_copyBytes_21 rfl (lv_at hl 1 rfl) ?_
      refine lv_aload_n hx hb d_J_copyBytes_22 rfl (lv_at hl 2 rfl) ?_
      refine lv_iload_n hx hb d_J_copyBytes_23 rfl (lv_at hl 3 rfl) ?_
      refine lv_iload hx hb d_J_copyBytes_24 (lv_at hl 4 rfl) ?_
      refine va_copyi (ty := .byte) hx hb (hml.trans hl.1.symm) hown (hts _ m_607) (hts _ m_244) (hts _ m_243) (hts _ m_16) hK hP hD hS 0 1 0 1 rfl rfl rfl rfl rfl (nI_pos (by omega)) (nI_pos (by omega)) (nI_pos (by omega)) (by rw [nI_clamp (by omega), nI_clamp (by omega)]; omega) (by rw [nI_clamp (by omega), nI_clamp (by omega)]; omega) (fun i hi => hj_fitB _ _) (Nat.le_of_ble_eq_true rfl) (by decide) d_J_copyBytes_26 (fun H locs hP hD hS => ?_)
      rw [nI_clamp (show f < 2 ^ 31 by omega), nI_clamp (show t < 2 ^ 31 by omega), nI_clamp (show w < 2 ^ 31 by omega), hj_cpyB] at hP hD
      have hP : va_P (dC, dI) vwCl [(a, .inl (cA, n, .inl (hj_B d))), (a2, .inl (cA2, n2, .inl (hj_B (va_cpy d d2 f t w))))] H := hP
      have hD : va_D A [(a, .inl (cA, n, .inl (hj_B d))), (a2, .inl (cA2, n2, .inl (hj_B (va_cpy d d2 f t w))))] := hD
      exact hret () _ _ _ _ d_J_copyBytes_29 (trivial) hP hK hD hS
abbrev rm_J_checkOf : Room := { frames := 16, cells := 0, slots := 0, locals := 200 }
set_option maxHeartbeats 4000000 in
set_option maxRecDepth 100000 in
theorem c_J_checkOf (l : Launch) (dC : Nat → ClassId) (dI : Nat → Nat → Nat) (a : Nat) (cA : ClassId) (n : Nat) (d : Nat → Nat) (f w : Nat) (hn : n < 2 ^ 31) (hf : f + w ≤ n) (hd : hj_bs d) : hj_Mi l y_J_checkOf b_J_checkOf 5 .int rm_J_checkOf hj_EX (dC, dI) vwCl [(cA, .byte)] [(a, .inl (cA, n, .inl (hj_B d)))] [.ref a, .int (nI f), .int (nI w)] (fun r _ => r = nI (hj_chk d f w)) (fun _ : Unit => [(a, .inl (cA, n, .inl (hj_B d)))]) (fun _ => [(cA, .byte)]) 0 0 := by
  refine hj_bodyI (by decide +kernel) (Nat.le_of_ble_eq_true rfl) ?_
  intro p e s m args below meth c A Q ls hx hb hts hown hml hA hP hK hD hE hl hret
  have hS : va_S A s.heap s.heap [] := va_S.rf
  have hown : s.vm.findClass "HalfJournal" = some m.cls := hown
  have hl : lv_has ls 5 [(0, .ref a), (1, .int (nI f)), (2, .int (nI w))] := hl
  have hP : va_P (dC, dI) vwCl [(a, .inl (cA, n, .inl (hj_B d)))] s.heap := hP
  have hD : va_D A [(a, .inl (cA, n, .inl (hj_B d)))] := hD
  refine lv_aload_n hx hb d_J_checkOf_0 rfl (lv_at hl 0 rfl) ?_
  refine lv_iload_n hx hb d_J_checkOf_1 rfl (lv_at hl 1 rfl) ?_
  refine lv_iload_n hx hb d_J_checkOf_2 rfl (lv_at hl 2 rfl) ?_
  refine hj_calli (wc := [(a, .inl (cA, n, .inl (hj_B d)))]) (wr := []) [0] [] hP hD hS hA rfl rfl rfl (by decide) (va_runS (As := [.ref a, .int (nI f), .int (nI w)]) (rest := []) ⟨hx, hb, hml, hown, hts⟩ (c_J_hasBytes l dC dI a cA n d f w hn hf s.heap.size) (cwS 3 hts (hj_gS m_117 m_118 m_1 m_119) rfl rfl rfl (by decide +kernel) ⟨Nat.le_of_ble_eq_true rfl, Nat.le_of_ble_eq_true rfl⟩) (hj_preS hj_EXok hE hP hD hK hS hA [0] rfl rfl [0] rfl) rfl rfl hl.1 rfl (lv_room (Nat.le_of_ble_eq_true rfl)) d_J_checkOf_3 ⟨Nat.le_of_ble_eq_true rfl, Nat.le_of_ble_eq_true rfl⟩) (fun r_1 u_2 H locs hw hP hD hK1 hS => ?_)
  subst hw
  have hP : va_P (dC, dI) vwCl [(a, .inl (cA, n, .inl (hj_B d)))] H := hP.sub [0] rfl
  have hD : va_D A [(a, .inl (cA, n, .inl (hj_B d)))] := hD.sub [0] (by decide) rfl
  refine hj_if_ne (tgt := 11) hx hb (by omega) d_J_checkOf_6 (by decide) (fun c_1 => ?_) (fun c_1 => ?_)
  · obtain ⟨t9, hZ, hT⟩ := hE.2
    refine lv_iconst (v := (-1)) hx hb d_J_checkOf_11 (by decide) ?_
    refine hj_topv (y := nI 4294967295) (by decide) ?_
    refine lv_istore_n (lv' := [(3, .int (nI 4294967295)), (0, .ref a), (1, .int (nI f)), (2, .int (nI w))]) hx hb d_J_checkOf_12 rfl hl (by decide) rfl (fun ls hl => ?_)
    refine lv_iload_n hx hb d_J_checkOf_13 rfl (lv_at hl 2 rfl) ?_
    refine hj_topn (b := f + 0) (rfl) ?_
    refine lv_istore (lv' := [(4, .int (nI (f + 0))), (3, .int (nI 4294967295)), (0, .ref a), (1, .int (nI f)), (2, .int (nI w))]) hx hb d_J_checkOf_14 hl (by decide) rfl (fun ls hl => ?_)
    have lp : ∀ (n9_lp : Nat) (j : Nat), (j ≤ w) → (w - j) < n9_lp → ∀ (H : Heap) (locs : List Loc), va_P (dC, dI) vwCl [(a, .inl (cA, n, .inl (hj_B d)))] H → va_D A [(a, .inl (cA, n, .inl (hj_B d)))] → va_S A s.heap H locs → ∀ (ls : Array Slot), lv_has ls 5 [(0, .ref a), (1, .int (nI f)), (2, .int (nI w)), (3, .int (nI (hj_crc d f j))), (4, .int (nI (f + j)))] → W p l e rm_J_checkOf s m args below meth c H locs 0 0 Q (F0 m 16 ls []) := by
      intro n9_lp
      induction n9_lp with
      | zero =>
        intro j hj hm_lp
        exact absurd hm_lp (Nat.not_lt_zero _)
      | succ n9_lp ih_lp =>
        intro j hj hm_lp H locs hP hD hS ls hl
        refine lv_iload hx hb d_J_checkOf_16 (lv_at hl 4 rfl) ?_
        refine lv_iload_n hx hb d_J_checkOf_18 rfl (lv_at hl 1 rfl) ?_
        refine lv_iload_n hx hb d_J_checkOf_19 rfl (lv_at hl 2 rfl) ?_
        refine hj_iadd hx hb d_J_checkOf_20 ?_
        refine hj_icmp_ge (tgt := 67) hx hb (by omega) (by omega) d_J_checkOf_21 (by decide) (fun c_2 => ?_) (fun c_2 => ?_)
        · obtain rfl : j = w := by omega
          refine lv_iload_n hx hb d_J_checkOf_67 rfl (lv_at hl 3 rfl) ?_
          refine lv_iconst (v := (-1)) hx hb d_J_checkOf_68 (by decide) ?_
          refine hj_topv (y := nI 4294967295) (by decide) ?_
          refine hj_ixor hx hb d_J_checkOf_69 ?_
          exact hret (nI ((hj_crc d f j) ^^^ 4294967295)) () _ _ _ _ d_J_checkOf_70 rfl (rfl) hP hK hD hS
        · have h32 := hj_crc_lt hd f j
          refine lv_iload_n hx hb d_J_checkOf_24 rfl (lv_at hl 3 rfl) ?_
          refine lv_aload_n hx hb d_J_checkOf_25 rfl (lv_at hl 0 rfl) ?_
          refine lv_iload hx hb d_J_checkOf_26 (lv_at hl 4 rfl) ?_
          refine hj_bald hx hb hK hP 0 0 rfl rfl (by omega) (by omega) d_J_checkOf_28 ?_
          refine lv_sipush (v := nI 255) hx hb d_J_checkOf_29 (by decide) ?_
          refine hj_band hx hb (by first | assumption | exact hd _ | omega) d_J_checkOf_32 ?_
          refine hj_ixor hx hb d_J_checkOf_33 ?_
          obtain ⟨x, hxx⟩ : ∃ x, x = hj_crc d f j ^^^ d (f + j) := ⟨_, rfl⟩
          have hx32 : x < 2 ^ 32 := by rw [hxx]; exact hj_xor_lt h32 (hd _)
          refine hj_topn (b := x) (hxx.symm) ?_
          refine lv_istore_n (lv' := [(3, .int (nI x)), (0, .ref a), (1, .int (nI f)), (2, .int (nI w)), (4, .int (nI (f + j)))]) hx hb d_J_checkOf_34 rfl hl (by decide) rfl (fun ls hl => ?_)
          refine lv_iload_n hx hb d_J_checkOf_35 rfl (lv_at hl 0 rfl) ?_
          refine lv_iconst (v := nI 4) hx hb d_J_checkOf_36 (by decide) ?_
          refine hj_iushr hx hb 4 (by decide) (by first | assumption | omega) d_J_checkOf_37 ?_
          refine va_gets hx hb hZ hS hown (hts _ m_444) (fun _ h9 => h9) d_J_checkOf_38 ?_
          refine lv_iload_n hx hb d_J_checkOf_41 rfl (lv_at hl 0 rfl) ?_
          refine lv_bipush (v := nI 15) hx hb d_J_checkOf_42 (by decide) ?_
          refine hj_iandM hx hb 4 (by first | assumption | omega) (by decide) d_J_checkOf_44 ?_
          refine va_ti (v := .int (nI (hj_tab (x % 2 ^ 4)))) hx hb hT hS (vp_in_nI (by omega) (by decide)) (by rw [nI_clamp (by omega)]) d_J_checkOf_45 ?_
          refine hj_ixor hx hb d_J_checkOf_46 ?_
          refine hj_topn (b := hj_sts 4 x) (by rw [show (2 : Nat) ^ 4 = 16 from rfl]; exact hj_nib x) ?_
          obtain ⟨y, hyy⟩ : ∃ y, y = hj_sts 4 x := ⟨_, rfl⟩
          have hy32 : y < 2 ^ 32 := by rw [hyy]; exact hj_sts_lt 4 hx32
          refine hj_topn (b := y) (hyy.symm) ?_
          refine lv_istore_n (lv' := [(3, .int (nI y)), (0, .ref a), (1, .int (nI f)), (2, .int (nI w)), (4, .int (nI (f + j)))]) hx hb d_J_checkOf_47 rfl hl (by decide) rfl (fun ls hl => ?_)
          refine lv_iload_n hx hb d_J_checkOf_48 rfl (lv_at hl 0 rfl) ?_
          refine lv_iconst (v := nI 4) hx hb d_J_checkOf_49 (by decide) ?_
          refine hj_iushr hx hb 4 (by decide) (by first | assumption | omega) d_J_checkOf_50 ?_
          refine va_gets hx hb hZ hS hown (hts _ m_444) (fun _ h9 => h9) d_J_checkOf_51 ?_
          refine lv_iload_n hx hb d_J_checkOf_54 rfl (lv_at hl 0 rfl) ?_
          refine lv_bipush (v := nI 15) hx hb d_J_checkOf_55 (by decide) ?_
          refine hj_iandM hx hb 4 (by first | assumption | omega) (by decide) d_J_checkOf_57 ?_
          refine va_ti (v := .int (nI (hj_tab (y % 2 ^ 4)))) hx hb hT hS (vp_in_nI (by omega) (by decide)) (by rw [nI_clamp (by omega)]) d_J_checkOf_58 ?_
          refine hj_ixor hx hb d_J_checkOf_59 ?_
          refine hj_topn (b := hj_sts 4 y) (by rw [show (2 : Nat) ^ 4 = 16 from rfl]; exact hj_nib y) ?_
          refine hj_topn (b := hj_crc d f (j + 1)) (by rw [hyy, hxx]; rfl) ?_
          refine lv_istore_n (lv' := [(3, .int (nI (hj_crc d f (j + 1)))), (0, .ref a), (1, .int (nI f)), (2, .int (nI w)), (4, .int (nI (f + j)))]) hx hb d_J_checkOf_60 rfl hl (by decide) rfl (fun ls hl => ?_)
          refine lv_iinc (v := nI ((f + j) + 1)) (lv' := [(4, .int (nI ((f + j) + 1))), (3, .int (nI (hj_crc d f (j + 1)))), (0, .ref a), (1, .int (nI f)), (2, .int (nI w))]) hx hb d_J_checkOf_61 hl (k := 4) rfl (nI_1 _) (by decide) rfl (fun ls hl => ?_)
          refine lv_goto (tgt := 16) hx hb d_J_checkOf_64 (by decide) ?_
          exact ih_lp (j + 1) (by omega) (by omega) _ _ hP hD hS _ (lv_sub hl [2, 3, 4, 1, 0] rfl)
    exact lp _ 0 (Nat.zero_le _) (Nat.lt_succ_self _) _ _ hP hD hS _ (lv_sub hl [2, 3, 4, 1, 0] rfl)
  · omega
abbrev rm_J_number : Room := { frames := 16, cells := 0, slots := 0, locals := 200 }
set_option maxHeartbeats 4000000 in
set_option maxRecDepth 100000 in
theorem c_J_number (l : Launch) (dC : Nat → ClassId) (dI : Nat → Nat → Nat) (a : Nat) (cA : ClassId) (n : Nat) (d : Nat → Nat) (f w : Nat) (hn : n < 2 ^ 31) (hf : f + w ≤ n) (hw4 : w ≤ 4) (hd : hj_bs d) : hj_Mi l y_J_number b_J_number 5 .int rm_J_number hj_EX (dC, dI) vwCl [(cA, .byte)] [(a, .inl (cA, n, .inl (hj_B d)))] [.ref a, .int (nI f), .int (nI w)] (fun r _ => r = nI (hj_num d f w)) (fun _ : Unit => [(a, .inl (cA, n, .inl (hj_B d)))]) (fun _ => [(cA, .byte)]) 0 0 := by
  refine hj_bodyI (by decide +kernel) (Nat.le_of_ble_eq_true rfl) ?_
  intro p e s m args below meth c A Q ls hx hb hts hown hml hA hP hK hD hE hl hret
  have hS : va_S A s.heap s.heap [] := va_S.rf
  have hown : s.vm.findClass "HalfJournal" = some m.cls := hown
  have hl : lv_has ls 5 [(0, .ref a), (1, .int (nI f)), (2, .int (nI w))] := hl
  have hP : va_P (dC, dI) vwCl [(a, .inl (cA, n, .inl (hj_B d)))] s.heap := hP
  have hD : va_D A [(a, .inl (cA, n, .inl (hj_B d)))] := hD
  refine lv_aload_n hx hb d_J_number_0 rfl (lv_at hl 0 rfl) ?_
  refine lv_iload_n hx hb d_J_number_1 rfl (lv_at hl 1 rfl) ?_
  refine lv_iload_n hx hb d_J_number_2 rfl (lv_at hl 2 rfl) ?_
  refine hj_calli (wc := [(a, .inl (cA, n, .inl (hj_B d)))]) (wr := []) [0] [] hP hD hS hA rfl rfl rfl (by decide) (va_runS (As := [.ref a, .int (nI f), .int (nI w)]) (rest := []) ⟨hx, hb, hml, hown, hts⟩ (c_J_hasBytes l dC dI a cA n d f w hn hf s.heap.size) (cwS 3 hts (hj_gS m_117 m_118 m_1 m_119) rfl rfl rfl (by decide +kernel) ⟨Nat.le_of_ble_eq_true rfl, Nat.le_of_ble_eq_true rfl⟩) (hj_preS hj_EXok hE hP hD hK hS hA [0] rfl rfl [0] rfl) rfl rfl hl.1 rfl (lv_room (Nat.le_of_ble_eq_true rfl)) d_J_number_3 ⟨Nat.le_of_ble_eq_true rfl, Nat.le_of_ble_eq_true rfl⟩) (fun r_1 u_2 H locs hw hP hD hK1 hS => ?_)
  subst hw
  have hP : va_P (dC, dI) vwCl [(a, .inl (cA, n, .inl (hj_B d)))] H := hP.sub [0] rfl
  have hD : va_D A [(a, .inl (cA, n, .inl (hj_B d)))] := hD.sub [0] (by decide) rfl
  refine hj_if_ne (tgt := 11) hx hb (by omega) d_J_number_6 (by decide) (fun c_1 => ?_) (fun c_1 => ?_)
  · refine lv_iconst (v := nI 0) hx hb d_J_number_11 (by decide) ?_
    refine hj_topn (b := hj_num d (f + w) (w - w)) (by rw [Nat.sub_self]; rfl) ?_
    refine lv_istore_n (lv' := [(3, .int (nI (hj_num d (f + w) (w - w)))), (0, .ref a), (1, .int (nI f)), (2, .int (nI w))]) hx hb d_J_number_12 rfl hl (by decide) rfl (fun ls hl => ?_)
    refine lv_iload_n hx hb d_J_number_13 rfl (lv_at hl 3 rfl) ?_
    refine lv_iconst (v := nI 1) hx hb d_J_number_14 (by decide) ?_
    refine lv_isub hx hb d_J_number_15 ?_
    refine hj_topv (y := nI w - 1) (rfl) ?_
    refine lv_istore (lv' := [(4, .int (nI w - 1)), (3, .int (nI (hj_num d (f + w) (w - w)))), (0, .ref a), (1, .int (nI f)), (2, .int (nI w))]) hx hb d_J_number_16 hl (by decide) rfl (fun ls hl => ?_)
    have lp : ∀ (n9_lp : Nat) (j : Nat), (j ≤ w) → j < n9_lp → ∀ (H : Heap) (locs : List Loc), va_P (dC, dI) vwCl [(a, .inl (cA, n, .inl (hj_B d)))] H → va_D A [(a, .inl (cA, n, .inl (hj_B d)))] → va_S A s.heap H locs → ∀ (ls : Array Slot), lv_has ls 5 [(0, .ref a), (1, .int (nI f)), (2, .int (nI w)), (3, .int (nI (hj_num d (f + j) (w - j)))), (4, .int (nI j - 1))] → W p l e rm_J_number s m args below meth c H locs 0 0 Q (F0 m 18 ls []) := by
      intro n9_lp
      induction n9_lp with
      | zero =>
        intro j hj hm_lp
        exact absurd hm_lp (Nat.not_lt_zero _)
      | succ n9_lp ih_lp =>
        intro j hj hm_lp H locs hP hD hS ls hl
        rcases j with _ | j
        · refine lv_iload hx hb d_J_number_18 (lv_at hl 4 rfl) ?_
          refine lv_if_lt (tgt := 45) hx hb d_J_number_20 (by decide) (fun c_2 => ?_) (fun c_2 => ?_)
          · refine lv_iload_n hx hb d_J_number_45 rfl (lv_at hl 3 rfl) ?_
            exact hret (nI (hj_num d (f + 0) (w - 0))) () _ _ _ _ d_J_number_46 rfl (rfl) hP hK hD hS
          · exact absurd hj_m1_neg c_2
        · rw [nI_pred] at hl
          have hl : lv_has ls 5 [(0, .ref a), (1, .int (nI f)), (2, .int (nI w)), (3, .int (nI (hj_num d (f + (j + 1)) (w - (j + 1))))), (4, .int (nI j))] := hl
          have hv := hj_num_lt24 hd (k := w - (j + 1)) (a := f + (j + 1)) (by omega)
          refine lv_iload hx hb d_J_number_18 (lv_at hl 4 rfl) ?_
          refine hj_if_lt (tgt := 45) hx hb (by omega) d_J_number_20 ?_ (by decide)
          refine lv_iload_n hx hb d_J_number_23 rfl (lv_at hl 3 rfl) ?_
          refine lv_bipush (v := nI 8) hx hb d_J_number_24 (by decide) ?_
          refine hj_ishl hx hb 8 (by decide) (by omega) d_J_number_26 ?_
          refine lv_aload_n hx hb d_J_number_27 rfl (lv_at hl 0 rfl) ?_
          refine lv_iload_n hx hb d_J_number_28 rfl (lv_at hl 1 rfl) ?_
          refine lv_iload hx hb d_J_number_29 (lv_at hl 4 rfl) ?_
          refine hj_iadd hx hb d_J_number_31 ?_
          refine hj_bald hx hb hK hP 0 0 rfl rfl (by omega) (by omega) d_J_number_32 ?_
          refine lv_sipush (v := nI 255) hx hb d_J_number_33 (by decide) ?_
          refine hj_band hx hb (by first | assumption | exact hd _ | omega) d_J_number_36 ?_
          refine hj_ior hx hb 8 (by omega) (hd _) d_J_number_37 ?_
          refine hj_topn (b := hj_num d (f + j) (w - j)) (by rw [show w - j = (w - (j + 1)) + 1 by omega]; show _ = d (f + j) + 256 * hj_num d (f + j + 1) (w - (j + 1)); rw [show f + (j + 1) = f + j + 1 from rfl]; omega) ?_
          refine lv_istore_n (lv' := [(3, .int (nI (hj_num d (f + j) (w - j)))), (0, .ref a), (1, .int (nI f)), (2, .int (nI w)), (4, .int (nI j))]) hx hb d_J_number_38 rfl hl (by decide) rfl (fun ls hl => ?_)
          refine lv_iinc (v := nI j - 1) (lv' := [(4, .int (nI j - 1)), (3, .int (nI (hj_num d (f + j) (w - j)))), (0, .ref a), (1, .int (nI f)), (2, .int (nI w))]) hx hb d_J_number_39 hl (k := 4) rfl (hj_addm1 _) (by decide) rfl (fun ls hl => ?_)
          refine lv_goto (tgt := 18) hx hb d_J_number_42 (by decide) ?_
          exact ih_lp j (by omega) (by omega) _ _ hP hD hS _ (lv_sub hl [2, 3, 4, 1, 0] rfl)
    exact lp _ w (Nat.le_refl _) (Nat.lt_succ_self _) _ _ hP hD hS _ (lv_sub hl [2, 3, 4, 1, 0] rfl)
  · omega
abbrev rm_J_putNumber : Room := { frames := 16, cells := 0, slots := 0, locals := 200 }
set_option maxHeartbeats 4000000 in
set_option maxRecDepth 100000 in
theorem c_J_putNumber (l : Launch) (dC : Nat → ClassId) (dI : Nat → Nat → Nat) (a : Nat) (cA : ClassId) (n : Nat) (d : Nat → Nat) (f w v : Nat) (hn : n < 2 ^ 31) (hf : f + w ≤ n) (hw4 : w ≤ 4) (hv : v < 2 ^ 32) : hj_Mv l y_J_putNumber b_J_putNumber 5 rm_J_putNumber hj_EX (dC, dI) vwCl [(cA, .byte)] [(a, .inl (cA, n, .inl (hj_B d)))] [.ref a, .int (nI f), .int (nI w), .int (nI v)] (fun _ => True) (fun _ : Unit => [(a, .inl (cA, n, .inl (hj_B (hj_pn d f w v))))]) (fun _ => [(cA, .byte)]) 0 0 := by
  refine hj_bodyV (by decide +kernel) (Nat.le_of_ble_eq_true rfl) ?_
  intro p e s m args below meth c A Q ls hx hb hts hown hml hin hA hP hK hD hE hl hret
  have hS : va_S A s.heap s.heap [] := va_S.rf
  have hown : s.vm.findClass "HalfJournal" = some m.cls := hown
  have hl : lv_has ls 5 [(0, .ref a), (1, .int (nI f)), (2, .int (nI w)), (3, .int (nI v))] := hl
  have hP : va_P (dC, dI) vwCl [(a, .inl (cA, n, .inl (hj_B d)))] s.heap := hP
  have hD : va_D A [(a, .inl (cA, n, .inl (hj_B d)))] := hD
  refine lv_aload_n hx hb d_J_putNumber_0 rfl (lv_at hl 0 rfl) ?_
  refine lv_iload_n hx hb d_J_putNumber_1 rfl (lv_at hl 1 rfl) ?_
  refine lv_iload_n hx hb d_J_putNumber_2 rfl (lv_at hl 2 rfl) ?_
  refine hj_calli (wc := [(a, .inl (cA, n, .inl (hj_B d)))]) (wr := []) [0] [] hP hD hS hA rfl rfl rfl (by decide) (va_runS (As := [.ref a, .int (nI f), .int (nI w)]) (rest := []) ⟨hx, hb, hml, hown, hts⟩ (c_J_hasBytes l dC dI a cA n d f w hn hf s.heap.size) (cwS 3 hts (hj_gS m_117 m_118 m_1 m_119) rfl rfl rfl (by decide +kernel) ⟨Nat.le_of_ble_eq_true rfl, Nat.le_of_ble_eq_true rfl⟩) (hj_preS hj_EXok hE hP hD hK hS hA [0] rfl rfl [0] rfl) rfl rfl hl.1 rfl (lv_room (Nat.le_of_ble_eq_true rfl)) d_J_putNumber_3 ⟨Nat.le_of_ble_eq_true rfl, Nat.le_of_ble_eq_true rfl⟩) (fun r_1 u_2 H locs hw hP hD hK1 hS => ?_)
  subst hw
  have hP : va_P (dC, dI) vwCl [(a, .inl (cA, n, .inl (hj_B d)))] H := hP.sub [0] rfl
  have hD : va_D A [(a, .inl (cA, n, .inl (hj_B d)))] := hD.sub [0] (by decide) rfl
  refine hj_if_ne (tgt := 10) hx hb (by omega) d_J_putNumber_6 (by decide) (fun c_1 => ?_) (fun c_1 => ?_)
  · refine lv_iconst (v := nI 0) hx hb d_J_putNumber_10 (by decide) ?_
    refine lv_istore (lv' := [(4, .int (nI 0)), (0, .ref a), (1, .int (nI f)), (2, .int (nI w)), (3, .int (nI v))]) hx hb d_J_putNumber_11 hl (by decide) rfl (fun ls hl => ?_)
    have h9 : (d : Nat → Nat) = hj_pn d f 0 v := (hj_pn0 d f v).symm
    rw [h9] at hP hD
    have hP : va_P (dC, dI) vwCl [(a, .inl (cA, n, .inl (hj_B (hj_pn d f 0 v))))] H := hP
    have hD : va_D A [(a, .inl (cA, n, .inl (hj_B (hj_pn d f 0 v))))] := hD
    have lp : ∀ (n9_lp : Nat) (i : Nat), (i ≤ w) → (w - i) < n9_lp → ∀ (H : Heap) (locs : List Loc), va_P (dC, dI) vwCl [(a, .inl (cA, n, .inl (hj_B (hj_pn d f i v))))] H → va_D A [(a, .inl (cA, n, .inl (hj_B (hj_pn d f i v))))] → va_S A s.heap H locs → ∀ (ls : Array Slot), lv_has ls 5 [(0, .ref a), (1, .int (nI f)), (2, .int (nI w)), (3, .int (nI v)), (4, .int (nI i))] → W p l e rm_J_putNumber s m args below meth c H locs 0 0 Q (F0 m 13 ls []) := by
      intro n9_lp
      induction n9_lp with
      | zero =>
        intro i hi hm_lp
        exact absurd hm_lp (Nat.not_lt_zero _)
      | succ n9_lp ih_lp =>
        intro i hi hm_lp H locs hP hD hS ls hl
        refine lv_iload hx hb d_J_putNumber_13 (lv_at hl 4 rfl) ?_
        refine lv_iload_n hx hb d_J_putNumber_15 rfl (lv_at hl 2 rfl) ?_
        refine hj_icmp_ge (tgt := 39) hx hb (by omega) (by omega) d_J_putNumber_16 (by decide) (fun c_2 => ?_) (fun c_2 => ?_)
        · obtain rfl : i = w := by omega
          exact hret () _ _ _ _ d_J_putNumber_39 (trivial) hP hK hD hS
        · refine lv_aload_n hx hb d_J_putNumber_19 rfl (lv_at hl 0 rfl) ?_
          refine lv_iload_n hx hb d_J_putNumber_20 rfl (lv_at hl 1 rfl) ?_
          refine lv_iload hx hb d_J_putNumber_21 (lv_at hl 4 rfl) ?_
          refine hj_iadd hx hb d_J_putNumber_23 ?_
          refine lv_iload_n hx hb d_J_putNumber_24 rfl (lv_at hl 3 rfl) ?_
          refine lv_bipush (v := nI 8) hx hb d_J_putNumber_25 (by decide) ?_
          refine lv_iload hx hb d_J_putNumber_27 (lv_at hl 4 rfl) ?_
          refine hj_imul hx hb d_J_putNumber_29 ?_
          refine hj_iushr hx hb (8 * i) (hj_sh8u i (by omega)) hv d_J_putNumber_30 ?_
          refine hj_i2b hx hb d_J_putNumber_31 ?_
          refine hj_topv (y := sb_b (hj_by v i)) (congrArg sb_b (hj_by_sh v i)) ?_
          refine hj_bast hx hb hK hP hD hS 0 0 rfl rfl (by omega) (by omega) d_J_putNumber_32 (fun H locs hP hD hS => ?_)
          have hP : va_P (dC, dI) vwCl [(a, .inl (cA, n, .inl (hj_B (va_up (hj_pn d f i v) (f + i) (hj_by v i)))))] H := hP
          have hD : va_D A [(a, .inl (cA, n, .inl (hj_B (va_up (hj_pn d f i v) (f + i) (hj_by v i)))))] := hD
          have h9 : (va_up (hj_pn d f i v) (f + i) (hj_by v i) : Nat → Nat) = hj_pn d f (i + 1) v := hj_pnS d f i v
          rw [h9] at hP hD
          have hP : va_P (dC, dI) vwCl [(a, .inl (cA, n, .inl (hj_B (hj_pn d f (i + 1) v))))] H := hP
          have hD : va_D A [(a, .inl (cA, n, .inl (hj_B (hj_pn d f (i + 1) v))))] := hD
          refine lv_iinc (v := nI (i + 1)) (lv' := [(4, .int (nI (i + 1))), (0, .ref a), (1, .int (nI f)), (2, .int (nI w)), (3, .int (nI v))]) hx hb d_J_putNumber_33 hl (k := 4) rfl (nI_1 _) (by decide) rfl (fun ls hl => ?_)
          refine lv_goto (tgt := 13) hx hb d_J_putNumber_36 (by decide) ?_
          exact ih_lp (i + 1) (by omega) (by omega) _ _ hP hD hS _ (lv_sub hl [1, 2, 3, 4, 0] rfl)
    exact lp _ 0 (Nat.zero_le _) (Nat.lt_succ_self _) _ _ hP hD hS _ (lv_sub hl [1, 2, 3, 4, 0] rfl)
  · omega
abbrev rm_J_word : Room := { frames := 8, cells := 0, slots := 0, locals := 100 }
set_option maxHeartbeats 4000000 in
set_option maxRecDepth 100000 in
theorem c_J_word (l : Launch) (dC : Nat → ClassId) (dI : Nat → Nat → Nat) (a : Nat) (cA : ClassId) (n : Nat) (d : Nat → Nat) (f t : Nat) (hn : n < 2 ^ 30) (hf : f < 2 ^ 30) (ht : t ≤ n) (hd : hj_bs d) : hj_Ml l y_J_word b_J_word 7 rm_J_word hj_EX (dC, dI) vwCl [(cA, .byte)] [(a, .inl (cA, n, .inl (hj_B d)))] [.ref a, .int (nI f), .int (nI t)] (fun r _ => r = hj_w (fun j => if f + j < t then d (f + j) else 0) 8) (fun _ : Unit => [(a, .inl (cA, n, .inl (hj_B d)))]) (fun _ => [(cA, .byte)]) 0 0 := by
  refine hj_bodyL (by decide +kernel) (Nat.le_of_ble_eq_true rfl) ?_
  intro p e s m args below meth c A Q ls hx hb hts hown hml hA hP hK hD hE hl hret
  have hS : va_S A s.heap s.heap [] := va_S.rf
  have hown : s.vm.findClass "HalfJournal" = some m.cls := hown
  have hl : lv_has ls 7 [(0, .ref a), (1, .int (nI f)), (2, .int (nI t))] := hl
  have hP : va_P (dC, dI) vwCl [(a, .inl (cA, n, .inl (hj_B d)))] s.heap := hP
  have hD : va_D A [(a, .inl (cA, n, .inl (hj_B d)))] := hD
  obtain ⟨g, hg⟩ : ∃ g : Nat → Nat, g = (fun j => if f + j < t then d (f + j) else 0) := ⟨_, rfl⟩
  rw [← hg] at hret
  refine lv_lconst (v := lN 0) hx hb d_J_word_0 (by decide) ?_
  refine hj_topl (y := hj_w g 0) (rfl) ?_
  refine lv_lstore_n (lv' := [(3, .long (hj_w g 0)), (0, .ref a), (1, .int (nI f)), (2, .int (nI t))]) hx hb d_J_word_1 rfl hl (by decide) rfl (fun ls hl => ?_)
  refine lv_iload_n hx hb d_J_word_2 rfl (lv_at hl 2 rfl) ?_
  refine hj_topn (b := f + 0) (rfl) ?_
  refine lv_istore (lv' := [(5, .int (nI (f + 0))), (3, .long (hj_w g 0)), (0, .ref a), (1, .int (nI f)), (2, .int (nI t))]) hx hb d_J_word_3 hl (by decide) rfl (fun ls hl => ?_)
  have lp : ∀ (n9_lp : Nat) (j : Nat), (j ≤ 8) → (8 - j) < n9_lp → ∀ (H : Heap) (locs : List Loc), va_P (dC, dI) vwCl [(a, .inl (cA, n, .inl (hj_B d)))] H → va_D A [(a, .inl (cA, n, .inl (hj_B d)))] → va_S A s.heap H locs → ∀ (ls : Array Slot), lv_has ls 7 [(0, .ref a), (1, .int (nI f)), (2, .int (nI t)), (3, .long (hj_w g j)), (5, .int (nI (f + j)))] → W p l e rm_J_word s m args below meth c H locs 0 0 Q (F0 m 5 ls []) := by
    intro n9_lp
    induction n9_lp with
    | zero =>
      intro j hj hm_lp
      exact absurd hm_lp (Nat.not_lt_zero _)
    | succ n9_lp ih_lp =>
      intro j hj hm_lp H locs hP hD hS ls hl
      refine lv_iload hx hb d_J_word_5 (lv_at hl 4 rfl) ?_
      refine lv_iload_n hx hb d_J_word_7 rfl (lv_at hl 1 rfl) ?_
      refine lv_bipush (v := nI 8) hx hb d_J_word_8 (by decide) ?_
      refine hj_iadd hx hb d_J_word_10 ?_
      refine hj_icmp_ge (tgt := 69) hx hb (by omega) (by omega) d_J_word_11 (by decide) (fun c_1 => ?_) (fun c_1 => ?_)
      · obtain rfl : j = 8 := by omega
        refine lv_lload_n hx hb d_J_word_69 rfl (lv_at hl 3 rfl) ?_
        exact hret (hj_w g 8) () _ _ _ _ d_J_word_70 (rfl) hP hK hD hS
      · refine lv_iload hx hb d_J_word_14 (lv_at hl 4 rfl) ?_
        refine hj_if_lt (tgt := 36) hx hb (by omega) d_J_word_16 ?_ (by decide)
        refine lv_iload hx hb d_J_word_19 (lv_at hl 4 rfl) ?_
        refine lv_iload_n hx hb d_J_word_21 rfl (lv_at hl 2 rfl) ?_
        refine hj_icmp_ge (tgt := 36) hx hb (by omega) (by omega) d_J_word_22 (by decide) (fun c_2 => ?_) (fun c_2 => ?_)
        · refine lv_iconst (v := nI 0) hx hb d_J_word_36 (by decide) ?_
          refine lv_istore (lv' := [(6, .int (nI 0)), (0, .ref a), (1, .int (nI f)), (2, .int (nI t)), (3, .long (hj_w g j)), (5, .int (nI (f + j)))]) hx hb d_J_word_37 hl (by decide) rfl (fun ls hl => ?_)
          refine lv_lload_n hx hb d_J_word_39 rfl (lv_at hl 4 rfl) ?_
          refine lv_bipush (v := nI 8) hx hb d_J_word_40 (by decide) ?_
          refine lv_lshl hx hb d_J_word_42 rfl ?_
          refine lv_iload hx hb d_J_word_43 (lv_at hl 0 rfl) ?_
          refine hj_if_eq (tgt := 59) hx hb (by omega) d_J_word_45 (by decide) (fun c_3 => ?_) (fun c_3 => ?_)
          · refine lv_iconst (v := nI 0) hx hb d_J_word_59 (by decide) ?_
            refine hj_i2l hx hb (by omega) d_J_word_60 ?_
            refine lv_lor hx hb d_J_word_61 ?_
            refine hj_topl (y := hj_w g (j + 1)) (by show _ = (hj_w g j <<< ((nI 8).toInt64 &&& 63)) ||| lN (g j); rw [show g j = 0 by rw [hg]; exact if_neg (by omega)]) ?_
            refine lv_lstore_n (lv' := [(3, .long (hj_w g (j + 1))), (6, .int (nI 0)), (0, .ref a), (1, .int (nI f)), (2, .int (nI t)), (5, .int (nI (f + j)))]) hx hb d_J_word_62 rfl hl (by decide) rfl (fun ls hl => ?_)
            refine lv_iinc (v := nI ((f + j) + 1)) (lv' := [(5, .int (nI ((f + j) + 1))), (3, .long (hj_w g (j + 1))), (6, .int (nI 0)), (0, .ref a), (1, .int (nI f)), (2, .int (nI t))]) hx hb d_J_word_63 hl (k := 5) rfl (nI_1 _) (by decide) rfl (fun ls hl => ?_)
            refine lv_goto (tgt := 5) hx hb d_J_word_66 (by decide) ?_
            exact ih_lp (j + 1) (by omega) (by omega) _ _ hP hD hS _ (lv_sub hl [3, 4, 5, 1, 0] rfl)
          · omega
        · refine lv_iload hx hb d_J_word_25 (lv_at hl 4 rfl) ?_
          refine lv_aload_n hx hb d_J_word_27 rfl (lv_at hl 0 rfl) ?_
          refine va_alen (v := nI n) hx hb hK hP 0 0 rfl rfl rfl d_J_word_28 ?_
          refine hj_icmp_ge (tgt := 36) hx hb (by omega) (by omega) d_J_word_29 (by decide) (fun c_5 => ?_) (fun c_5 => ?_)
          · omega
          · refine lv_iconst (v := nI 1) hx hb d_J_word_32 (by decide) ?_
            refine lv_goto (tgt := 37) hx hb d_J_word_33 (by decide) ?_
            refine lv_istore (lv' := [(6, .int (nI 1)), (0, .ref a), (1, .int (nI f)), (2, .int (nI t)), (3, .long (hj_w g j)), (5, .int (nI (f + j)))]) hx hb d_J_word_37 hl (by decide) rfl (fun ls hl => ?_)
            refine lv_lload_n hx hb d_J_word_39 rfl (lv_at hl 4 rfl) ?_
            refine lv_bipush (v := nI 8) hx hb d_J_word_40 (by decide) ?_
            refine lv_lshl hx hb d_J_word_42 rfl ?_
            refine lv_iload hx hb d_J_word_43 (lv_at hl 0 rfl) ?_
            refine hj_if_eq (tgt := 59) hx hb (by omega) d_J_word_45 (by decide) (fun c_4 => ?_) (fun c_4 => ?_)
            · omega
            · have hdb := hd (f + j)
              refine lv_aload_n hx hb d_J_word_48 rfl (lv_at hl 1 rfl) ?_
              refine lv_iload hx hb d_J_word_49 (lv_at hl 5 rfl) ?_
              refine hj_bald hx hb hK hP 0 0 rfl rfl (by omega) (by omega) d_J_word_51 ?_
              refine lv_sipush (v := nI 255) hx hb d_J_word_52 (by decide) ?_
              refine hj_band hx hb (by first | assumption | exact hd _ | omega) d_J_word_55 ?_
              refine lv_goto (tgt := 60) hx hb d_J_word_56 (by decide) ?_
              refine hj_i2l hx hb (by omega) d_J_word_60 ?_
              refine lv_lor hx hb d_J_word_61 ?_
              refine hj_topl (y := hj_w g (j + 1)) (by show _ = (hj_w g j <<< ((nI 8).toInt64 &&& 63)) ||| lN (g j); rw [show g j = d (f + j) by rw [hg]; exact if_pos (by omega)]) ?_
              refine lv_lstore_n (lv' := [(3, .long (hj_w g (j + 1))), (6, .int (nI 1)), (0, .ref a), (1, .int (nI f)), (2, .int (nI t)), (5, .int (nI (f + j)))]) hx hb d_J_word_62 rfl hl (by decide) rfl (fun ls hl => ?_)
              refine lv_iinc (v := nI ((f + j) + 1)) (lv' := [(5, .int (nI ((f + j) + 1))), (3, .long (hj_w g (j + 1))), (6, .int (nI 1)), (0, .ref a), (1, .int (nI f)), (2, .int (nI t))]) hx hb d_J_word_63 hl (k := 5) rfl (nI_1 _) (by decide) rfl (fun ls hl => ?_)
              refine lv_goto (tgt := 5) hx hb d_J_word_66 (by decide) ?_
              exact ih_lp (j + 1) (by omega) (by omega) _ _ hP hD hS _ (lv_sub hl [3, 4, 5, 1, 0] rfl)
  exact lp _ 0 (by omega) (Nat.lt_succ_self _) _ _ hP hD hS _ (lv_sub hl [2, 3, 4, 1, 0] rfl)
abbrev rm_J_putHead : Room := { frames := 24, cells := 0, slots := 0, locals := 300 }
set_option maxHeartbeats 4000000 in
set_option maxRecDepth 100000 in
theorem c_J_putHead (l : Launch) (dC : Nat → ClassId) (dI : Nat → Nat → Nat) (a : Nat) (cA : ClassId) (n : Nat) (d : Nat → Nat) (f g h : Nat) (hn : n < 2 ^ 31) (hf : f + 12 ≤ n) (hd : hj_bs d) (hg : g < 2 ^ 32) (hh : h < 2) : hj_Mv l y_J_putHead b_J_putHead 4 rm_J_putHead hj_EX (dC, dI) vwCl [(cA, .byte)] [(a, .inl (cA, n, .inl (hj_B d)))] [.ref a, .int (nI f), .int (nI g), .int (nI h)] (fun _ => True) (fun _ : Unit => [(a, .inl (cA, n, .inl (hj_B (hj_ph d f h g))))]) (fun _ => [(cA, .byte)]) 0 0 := by
  refine hj_bodyV (by decide +kernel) (Nat.le_of_ble_eq_true rfl) ?_
  intro p e s m args below meth c A Q ls hx hb hts hown hml hin hA hP hK hD hE hl hret
  have hS : va_S A s.heap s.heap [] := va_S.rf
  have hown : s.vm.findClass "HalfJournal" = some m.cls := hown
  have hl : lv_has ls 4 [(0, .ref a), (1, .int (nI f)), (2, .int (nI g)), (3, .int (nI h))] := hl
  have hP : va_P (dC, dI) vwCl [(a, .inl (cA, n, .inl (hj_B d)))] s.heap := hP
  have hD : va_D A [(a, .inl (cA, n, .inl (hj_B d)))] := hD
  refine lv_aload_n hx hb d_J_putHead_0 rfl (lv_at hl 0 rfl) ?_
  refine lv_iload_n hx hb d_J_putHead_1 rfl (lv_at hl 1 rfl) ?_
  refine lv_iconst (v := nI 4) hx hb d_J_putHead_2 (by decide) ?_
  refine lv_iload_n hx hb d_J_putHead_3 rfl (lv_at hl 3 rfl) ?_
  refine hj_calli (wc := []) (wr := [(a, .inl (cA, n, .inl (hj_B d)))]) [] [0] hP hD hS hA rfl rfl rfl (by decide) (va_runS (As := [.int (nI h)]) (rest := [.int (nI 4), .int (nI f), .ref a]) ⟨hx, hb, hml, hown, hts⟩ (c_J_headBegin l dC dI h hh s.heap.size) (cwS 1 hts (hj_gS m_435 m_436 m_1 m_437) rfl rfl rfl (by decide +kernel) ⟨Nat.le_of_ble_eq_true rfl, Nat.le_of_ble_eq_true rfl⟩) (hj_preS hj_EXok hE hP hD hK hS hA [] rfl rfl [] rfl) rfl rfl hl.1 rfl (lv_room (Nat.le_of_ble_eq_true rfl)) d_J_putHead_4 ⟨Nat.le_of_ble_eq_true rfl, Nat.le_of_ble_eq_true rfl⟩) (fun r_1 u_2 H locs hw hP hD hK1 hS => ?_)
  subst hw
  have hP : va_P (dC, dI) vwCl [(a, .inl (cA, n, .inl (hj_B d)))] H := hP.sub [0] rfl
  have hD : va_D A [(a, .inl (cA, n, .inl (hj_B d)))] := hD.sub [0] (by decide) rfl
  refine hj_callv (wc := [(a, .inl (cA, n, .inl (hj_B d)))]) (wr := []) [0] [] hP hD hS hA rfl rfl rfl (by decide) (va_runS (As := [.ref a, .int (nI f), .int (nI 4), .int (nI (12618 + 65536 * h))]) (rest := []) ⟨hx, hb, hml, hown, hts⟩ (c_J_putNumber l dC dI a cA n d f 4 (12618 + 65536 * h) hn (by omega) (by omega) (by omega) H.size) (cwS 4 hts (hj_gS m_438 m_439 m_1 m_440) rfl rfl rfl (by decide +kernel) ⟨Nat.le_of_ble_eq_true rfl, Nat.le_of_ble_eq_true rfl⟩) (hj_preS hj_EXok hE hP hD hK hS hA [0] rfl rfl [0] rfl) rfl rfl hl.1 rfl (lv_room (Nat.le_of_ble_eq_true rfl)) d_J_putHead_7 ⟨Nat.le_of_ble_eq_true rfl, Nat.le_of_ble_eq_true rfl⟩) (fun u_4 H locs hw hP hD hK1 hS => ?_)
  have hP : va_P (dC, dI) vwCl [(a, .inl (cA, n, .inl (hj_B (hj_pn d f 4 (12618 + 65536 * h)))))] H := hP.sub [0] rfl
  have hD : va_D A [(a, .inl (cA, n, .inl (hj_B (hj_pn d f 4 (12618 + 65536 * h)))))] := hD.sub [0] (by decide) rfl
  refine lv_aload_n hx hb d_J_putHead_10 rfl (lv_at hl 0 rfl) ?_
  refine lv_iload_n hx hb d_J_putHead_11 rfl (lv_at hl 1 rfl) ?_
  refine lv_iconst (v := nI 4) hx hb d_J_putHead_12 (by decide) ?_
  refine hj_iadd hx hb d_J_putHead_13 ?_
  refine lv_iconst (v := nI 4) hx hb d_J_putHead_14 (by decide) ?_
  refine lv_iload_n hx hb d_J_putHead_15 rfl (lv_at hl 2 rfl) ?_
  refine hj_callv (wc := [(a, .inl (cA, n, .inl (hj_B (hj_pn d f 4 (12618 + 65536 * h)))))]) (wr := []) [0] [] hP hD hS hA rfl rfl rfl (by decide) (va_runS (As := [.ref a, .int (nI (f + 4)), .int (nI 4), .int (nI g)]) (rest := []) ⟨hx, hb, hml, hown, hts⟩ (c_J_putNumber l dC dI a cA n (hj_pn d f 4 (12618 + 65536 * h)) (f + 4) 4 g hn (by omega) (by omega) hg H.size) (cwS 4 hts (hj_gS m_438 m_439 m_1 m_440) rfl rfl rfl (by decide +kernel) ⟨Nat.le_of_ble_eq_true rfl, Nat.le_of_ble_eq_true rfl⟩) (hj_preS hj_EXok hE hP hD hK hS hA [0] rfl rfl [0] rfl) rfl rfl hl.1 rfl (lv_room (Nat.le_of_ble_eq_true rfl)) d_J_putHead_16 ⟨Nat.le_of_ble_eq_true rfl, Nat.le_of_ble_eq_true rfl⟩) (fun u_6 H locs hw hP hD hK1 hS => ?_)
  have hP : va_P (dC, dI) vwCl [(a, .inl (cA, n, .inl (hj_B (hj_pn (hj_pn d f 4 (12618 + 65536 * h)) (f + 4) 4 g))))] H := hP.sub [0] rfl
  have hD : va_D A [(a, .inl (cA, n, .inl (hj_B (hj_pn (hj_pn d f 4 (12618 + 65536 * h)) (f + 4) 4 g))))] := hD.sub [0] (by decide) rfl
  have hd2 : hj_bs (hj_pn (hj_pn d f 4 (12618 + 65536 * h)) (f + 4) 4 g) := hj_pn_bs (hj_pn_bs hd)
  refine lv_aload_n hx hb d_J_putHead_19 rfl (lv_at hl 0 rfl) ?_
  refine lv_iload_n hx hb d_J_putHead_20 rfl (lv_at hl 1 rfl) ?_
  refine lv_bipush (v := nI 8) hx hb d_J_putHead_21 (by decide) ?_
  refine hj_iadd hx hb d_J_putHead_23 ?_
  refine lv_iconst (v := nI 4) hx hb d_J_putHead_24 (by decide) ?_
  refine lv_aload_n hx hb d_J_putHead_25 rfl (lv_at hl 0 rfl) ?_
  refine lv_iload_n hx hb d_J_putHead_26 rfl (lv_at hl 1 rfl) ?_
  refine lv_bipush (v := nI 8) hx hb d_J_putHead_27 (by decide) ?_
  refine hj_calli (wc := [(a, .inl (cA, n, .inl (hj_B (hj_pn (hj_pn d f 4 (12618 + 65536 * h)) (f + 4) 4 g))))]) (wr := []) [0] [] hP hD hS hA rfl rfl rfl (by decide) (va_runS (As := [.ref a, .int (nI f), .int (nI 8)]) (rest := [.int (nI 4), .int (nI (f + 8)), .ref a]) ⟨hx, hb, hml, hown, hts⟩ (c_J_checkOf l dC dI a cA n (hj_pn (hj_pn d f 4 (12618 + 65536 * h)) (f + 4) 4 g) f 8 hn (by omega) hd2 H.size) (cwS 3 hts (hj_gS m_441 m_442 m_1 m_443) rfl rfl rfl (by decide +kernel) ⟨Nat.le_of_ble_eq_true rfl, Nat.le_of_ble_eq_true rfl⟩) (hj_preS hj_EXok hE hP hD hK hS hA [0] rfl rfl [0] rfl) rfl rfl hl.1 rfl (lv_room (Nat.le_of_ble_eq_true rfl)) d_J_putHead_29 ⟨Nat.le_of_ble_eq_true rfl, Nat.le_of_ble_eq_true rfl⟩) (fun r_7 u_8 H locs hw hP hD hK1 hS => ?_)
  subst hw
  have hP : va_P (dC, dI) vwCl [(a, .inl (cA, n, .inl (hj_B (hj_pn (hj_pn d f 4 (12618 + 65536 * h)) (f + 4) 4 g))))] H := hP.sub [0] rfl
  have hD : va_D A [(a, .inl (cA, n, .inl (hj_B (hj_pn (hj_pn d f 4 (12618 + 65536 * h)) (f + 4) 4 g))))] := hD.sub [0] (by decide) rfl
  refine hj_callv (wc := [(a, .inl (cA, n, .inl (hj_B (hj_pn (hj_pn d f 4 (12618 + 65536 * h)) (f + 4) 4 g))))]) (wr := []) [0] [] hP hD hS hA rfl rfl rfl (by decide) (va_runS (As := [.ref a, .int (nI (f + 8)), .int (nI 4), .int (nI (hj_chk (hj_pn (hj_pn d f 4 (12618 + 65536 * h)) (f + 4) 4 g) f 8))]) (rest := []) ⟨hx, hb, hml, hown, hts⟩ (c_J_putNumber l dC dI a cA n (hj_pn (hj_pn d f 4 (12618 + 65536 * h)) (f + 4) 4 g) (f + 8) 4 (hj_chk (hj_pn (hj_pn d f 4 (12618 + 65536 * h)) (f + 4) 4 g) f 8) hn (by omega) (by omega) (hj_chk_lt hd2 _ _) H.size) (cwS 4 hts (hj_gS m_438 m_439 m_1 m_440) rfl rfl rfl (by decide +kernel) ⟨Nat.le_of_ble_eq_true rfl, Nat.le_of_ble_eq_true rfl⟩) (hj_preS hj_EXok hE hP hD hK hS hA [0] rfl rfl [0] rfl) rfl rfl hl.1 rfl (lv_room (Nat.le_of_ble_eq_true rfl)) d_J_putHead_32 ⟨Nat.le_of_ble_eq_true rfl, Nat.le_of_ble_eq_true rfl⟩) (fun u_10 H locs hw hP hD hK1 hS => ?_)
  have hP : va_P (dC, dI) vwCl [(a, .inl (cA, n, .inl (hj_B (hj_pn (hj_pn (hj_pn d f 4 (12618 + 65536 * h)) (f + 4) 4 g) (f + 8) 4 (hj_chk (hj_pn (hj_pn d f 4 (12618 + 65536 * h)) (f + 4) 4 g) f 8)))))] H := hP.sub [0] rfl
  have hD : va_D A [(a, .inl (cA, n, .inl (hj_B (hj_pn (hj_pn (hj_pn d f 4 (12618 + 65536 * h)) (f + 4) 4 g) (f + 8) 4 (hj_chk (hj_pn (hj_pn d f 4 (12618 + 65536 * h)) (f + 4) 4 g) f 8)))))] := hD.sub [0] (by decide) rfl
  have h9 : (hj_pn (hj_pn (hj_pn d f 4 (12618 + 65536 * h)) (f + 4) 4 g) (f + 8) 4 (hj_chk (hj_pn (hj_pn d f 4 (12618 + 65536 * h)) (f + 4) 4 g) f 8) : Nat → Nat) = hj_ph d f h g := hj_ph_of d f g hh
  rw [h9] at hP hD
  have hP : va_P (dC, dI) vwCl [(a, .inl (cA, n, .inl (hj_B (hj_ph d f h g))))] H := hP
  have hD : va_D A [(a, .inl (cA, n, .inl (hj_B (hj_ph d f h g))))] := hD
  exact hret () _ _ _ _ d_J_putHead_35 (trivial) hP hK hD hS
