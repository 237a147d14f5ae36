theorem hj_st_sts (i x : Nat) : hj_st (hj_sts i x) = hj_sts (i + 1) x := by
  induction i generalizing x with
  | zero => rfl
  | succ i ih => exact ih (hj_st x)
theorem hj_sh32s : ∀ j, j < 4 → ((nI (8 * j) &&& 31).toBitVec.smod 32).toNat = 8 * j := by decide +kernel
theorem hj_put_s {v j : Nat} (hv : v < 2 ^ 32) (hj : j < 4) : (nI v >>> (nI (8 * j) &&& 31)).toInt8.toInt32 = sb_b (hj_by v j) := by
  rw [hj_i8]
  congr 1
  have h : (nI v >>> (nI (8 * j) &&& 31)).toBitVec = (BitVec.ofNat 32 v).sshiftRight (8 * j) := by
    show (BitVec.ofNat 32 v).sshiftRight' ((nI (8 * j) &&& 31).toBitVec.smod 32) = _
    unfold BitVec.sshiftRight'
    rw [hj_sh32s j hj]
  rw [h]
  unfold hj_by
  rw [hj_p8]
  apply Nat.eq_of_testBit_eq
  intro i
  rw [show (256 : Nat) = 2 ^ 8 from rfl, Nat.testBit_mod_two_pow, Nat.testBit_mod_two_pow, ← Nat.shiftRight_eq_div_pow, Nat.testBit_shiftRight, BitVec.testBit_toNat, BitVec.getLsbD_sshiftRight]
  by_cases q : i < 8
  · rw [if_pos (by omega), BitVec.getLsbD_ofNat]
    have h1 : ¬ 32 ≤ i := by omega
    have h2 : 8 * j + i < 32 := by omega
    simp [h1, h2]
  · simp [q]
theorem hj_sb74 : ∀ c, c < 256 → (sb_b c = nI 74 ↔ c = 74) := by decide +kernel
theorem hj_sb49 : ∀ c, c < 256 → (sb_b c = nI 49 ↔ c = 49) := by decide +kernel
theorem hj_sb0 : ∀ c, c < 256 → (sb_b c = 0 ↔ c = 0) := by decide +kernel
theorem hj_sbn : ∀ c, c < 256 → (sb_b c < 0 ↔ 128 ≤ c) := by decide +kernel
theorem hj_sb2 : ∀ c, c < 256 → 128 ≤ c ∨ (nI 2 ≤ sb_b c ↔ 2 ≤ c) := by decide +kernel
theorem hj_sbs : ∀ c, c < 128 → sb_b c = nI c := by decide +kernel
theorem hj_le0 {v : Nat} (h : v < 2 ^ 32) : nI v ≤ 0 ↔ v = 0 ∨ 2 ^ 31 ≤ v := by
  rw [Int32.le_iff_toInt_le]
  by_cases q : v < 2 ^ 31
  · rw [nI_toInt q, Int32.toInt_zero]; omega
  · have h1 : (nI v).toInt = (v : Int) - 2 ^ 32 := by
      show (BitVec.ofNat 32 v).toInt = _
      rw [BitVec.toInt_eq_toNat_cond, BitVec.toNat_ofNat, Nat.mod_eq_of_lt h, if_neg (by omega)]
      rfl
    rw [h1, Int32.toInt_zero]
    omega
theorem hj_zup (i : Nat) (f : Nat → Nat) (h : ∀ k, k < i → f k = 0) : ∀ k, k < i + 1 → va_up f i 0 k = 0 := by
  intro k hk
  unfold va_up
  by_cases q : k = i
  · rw [if_pos q]
  · rw [if_neg q]; exact h k (by omega)
abbrev rm_M_sizeOf : Room := { frames := 8, cells := 0, slots := 0, locals := 100 }
set_option maxHeartbeats 4000000 in
set_option maxRecDepth 100000 in
theorem c_M_sizeOf (l : Launch) (dC : Nat → ClassId) (dI : Nat → Nat → Nat) (n : Nat) (hn : n < 2 ^ 30) : hj_Mi l y_M_sizeOf b_M_sizeOf 1 .int rm_M_sizeOf hj_E0 (dC, dI) vwCl [] [] [.int (nI n)] (fun r _ => r = nI (hj_sz n)) (fun _ : Unit => []) (fun _ => []) 0 0 := by
  refine hj_bodyI (by decide +kernel) (Nat.le_of_ble_eq_true rfl) ?_
  intro p e s m args below meth c A Q ls hx hb hts hown hml hA hP hK hD hE hl hret
  have hS : va_S A s.heap s.heap [] := va_S.rf
  have hown : s.vm.findClass "HalfJournalModel" = some m.cls := hown
  have hl : lv_has ls 1 [(0, .int (nI n))] := hl
  have hP : va_P (dC, dI) vwCl [] s.heap := hP
  have hD : va_D A [] := hD
  refine lv_bipush (v := nI 6) hx hb d_M_sizeOf_0 (by decide) ?_
  refine lv_iload_n hx hb d_M_sizeOf_2 rfl (lv_at hl 0 rfl) ?_
  refine hj_iadd hx hb d_M_sizeOf_3 ?_
  refine lv_iload_n hx hb d_M_sizeOf_4 rfl (lv_at hl 0 rfl) ?_
  refine lv_iconst (v := nI 2) hx hb d_M_sizeOf_5 (by decide) ?_
  refine hj_irem hx hb (by omega) (by omega) (by omega) d_M_sizeOf_6 ?_
  refine hj_iadd hx hb d_M_sizeOf_7 ?_
  refine hj_topn (b := hj_sz n) (by unfold hj_sz; omega) ?_
  exact hret (nI (hj_sz n)) () _ _ _ _ d_M_sizeOf_8 rfl (rfl) hP hK hD hS
abbrev rm_M_begin : Room := { frames := 8, cells := 0, slots := 0, locals := 100 }
set_option maxHeartbeats 4000000 in
set_option maxRecDepth 100000 in
theorem c_M_begin (l : Launch) (dC : Nat → ClassId) (dI : Nat → Nat → Nat) (h : Nat) (hh : h < 2) : hj_Mi l y_M_begin b_M_begin 1 .int rm_M_begin hj_E0 (dC, dI) vwCl [] [] [.int (nI h)] (fun r _ => r = nI (hj_hb h)) (fun _ : Unit => []) (fun _ => []) 0 0 := by
  refine hj_bodyI (by decide +kernel) (Nat.le_of_ble_eq_true rfl) ?_
  intro p e s m args below meth c A Q ls hx hb hts hown hml hA hP hK hD hE hl hret
  have hS : va_S A s.heap s.heap [] := va_S.rf
  have hown : s.vm.findClass "HalfJournalModel" = some m.cls := hown
  have hl : lv_has ls 1 [(0, .int (nI h))] := hl
  have hP : va_P (dC, dI) vwCl [] s.heap := hP
  have hD : va_D A [] := hD
  refine lv_sipush (v := nI 512) hx hb d_M_begin_0 (by decide) ?_
  refine lv_iload_n hx hb d_M_begin_3 rfl (lv_at hl 0 rfl) ?_
  refine hj_if_ne (tgt := 11) hx hb (by omega) d_M_begin_4 (by decide) (fun c_1 => ?_) (fun c_1 => ?_)
  · refine lv_bipush (v := nI 33) hx hb d_M_begin_11 (by decide) ?_
    refine hj_imul hx hb d_M_begin_13 ?_
    refine hj_topn (b := hj_hb h) (by unfold hj_hb; omega) ?_
    exact hret (nI (hj_hb h)) () _ _ _ _ d_M_begin_14 rfl (rfl) hP hK hD hS
  · refine lv_iconst (v := nI 2) hx hb d_M_begin_7 (by decide) ?_
    refine lv_goto (tgt := 13) hx hb d_M_begin_8 (by decide) ?_
    refine hj_imul hx hb d_M_begin_13 ?_
    refine hj_topn (b := hj_hb h) (by unfold hj_hb; omega) ?_
    exact hret (nI (hj_hb h)) () _ _ _ _ d_M_begin_14 rfl (rfl) hP hK hD hS
abbrev rm_M_lastBlock : Room := { frames := 8, cells := 0, slots := 0, locals := 100 }
set_option maxHeartbeats 4000000 in
set_option maxRecDepth 100000 in
theorem c_M_lastBlock (l : Launch) (dC : Nat → ClassId) (dI : Nat → Nat → Nat) (t : Nat) (ht : t ≤ 15872) : hj_Mi l y_M_lastBlock b_M_lastBlock 2 .int rm_M_lastBlock hj_E0 (dC, dI) vwCl [] [] [.int (nI t)] (fun r _ => r = nI (hj_lb t)) (fun _ : Unit => []) (fun _ => []) 0 0 := by
  refine hj_bodyI (by decide +kernel) (Nat.le_of_ble_eq_true rfl) ?_
  intro p e s m args below meth c A Q ls hx hb hts hown hml hA hP hK hD hE hl hret
  have hS : va_S A s.heap s.heap [] := va_S.rf
  have hown : s.vm.findClass "HalfJournalModel" = some m.cls := hown
  have hl : lv_has ls 2 [(0, .int (nI t))] := hl
  have hP : va_P (dC, dI) vwCl [] s.heap := hP
  have hD : va_D A [] := hD
  refine lv_iload_n hx hb d_M_lastBlock_0 rfl (lv_at hl 0 rfl) ?_
  refine lv_iconst (v := nI 2) hx hb d_M_lastBlock_1 (by decide) ?_
  refine hj_iadd hx hb d_M_lastBlock_2 ?_
  refine lv_sipush (v := nI 15872) hx hb d_M_lastBlock_3 (by decide) ?_
  refine hj_icmp_le (tgt := 15) hx hb (by omega) (by omega) d_M_lastBlock_6 (by decide) (fun c_1 => ?_) (fun c_1 => ?_)
  · refine lv_iload_n hx hb d_M_lastBlock_15 rfl (lv_at hl 0 rfl) ?_
    refine lv_iconst (v := nI 1) hx hb d_M_lastBlock_16 (by decide) ?_
    refine hj_iadd hx hb d_M_lastBlock_17 ?_
    refine lv_istore_n (lv' := [(1, .int (nI (t + 1))), (0, .int (nI t))]) hx hb d_M_lastBlock_18 rfl hl (by decide) rfl (fun ls hl => ?_)
    refine lv_iload_n hx hb d_M_lastBlock_19 rfl (lv_at hl 0 rfl) ?_
    refine lv_sipush (v := nI 512) hx hb d_M_lastBlock_20 (by decide) ?_
    refine hj_idiv hx hb (by omega) (by omega) (by omega) d_M_lastBlock_23 ?_
    refine hj_topn (b := hj_lb t) (by unfold hj_lb; rw [if_pos c_1]) ?_
    exact hret (nI (hj_lb t)) () _ _ _ _ d_M_lastBlock_24 rfl (rfl) hP hK hD hS
  · refine lv_sipush (v := nI 15871) hx hb d_M_lastBlock_9 (by decide) ?_
    refine lv_goto (tgt := 18) hx hb d_M_lastBlock_12 (by decide) ?_
    refine lv_istore_n (lv' := [(1, .int (nI 15871)), (0, .int (nI t))]) hx hb d_M_lastBlock_18 rfl hl (by decide) rfl (fun ls hl => ?_)
    refine lv_iload_n hx hb d_M_lastBlock_19 rfl (lv_at hl 0 rfl) ?_
    refine lv_sipush (v := nI 512) hx hb d_M_lastBlock_20 (by decide) ?_
    refine hj_idiv hx hb (by omega) (by omega) (by omega) d_M_lastBlock_23 ?_
    refine hj_topn (b := hj_lb t) (by unfold hj_lb; rw [if_neg (by omega)]) ?_
    exact hret (nI (hj_lb t)) () _ _ _ _ d_M_lastBlock_24 rfl (rfl) hP hK hD hS
abbrev rm_M_checkOf : Room := { frames := 8, cells := 0, slots := 0, locals := 100 }
set_option maxHeartbeats 4000000 in
set_option maxRecDepth 100000 in
theorem c_M_checkOf (l : Launch) (dC : Nat → ClassId) (dI : Nat → Nat → Nat) (a : Nat) (cA : ClassId) (n : Nat) (d : Nat → Nat) (f w : Nat) (hn : n < 2 ^ 31) (hf : f + w ≤ n) (hd : hj_bs d) : hj_Mi l y_M_checkOf b_M_checkOf 6 .int rm_M_checkOf hj_E0 (dC, dI) vwCl [(cA, .byte)] [(a, .inl (cA, n, .inl (hj_B d)))] [.ref a, .int (nI f), .int (nI (f + w))] (fun r _ => r = nI (hj_chk d f w)) (fun _ : Unit => [(a, .inl (cA, n, .inl (hj_B d)))]) (fun _ => [(cA, .byte)]) 0 0 := by
  refine hj_bodyI (by decide +kernel) (Nat.le_of_ble_eq_true rfl) ?_
  intro p e s m args below meth c A Q ls hx hb hts hown hml hA hP hK hD hE hl hret
  have hS : va_S A s.heap s.heap [] := va_S.rf
  have hown : s.vm.findClass "HalfJournalModel" = some m.cls := hown
  have hl : lv_has ls 6 [(0, .ref a), (1, .int (nI f)), (2, .int (nI (f + w)))] := hl
  have hP : va_P (dC, dI) vwCl [(a, .inl (cA, n, .inl (hj_B d)))] s.heap := hP
  have hD : va_D A [(a, .inl (cA, n, .inl (hj_B d)))] := hD
  refine lv_iconst (v := (-1)) hx hb d_M_checkOf_0 (by decide) ?_
  refine hj_topv (y := nI (hj_crc d f 0)) (by show (-1 : Int32) = nI 4294967295; decide) ?_
  refine lv_istore_n (lv' := [(3, .int (nI (hj_crc d f 0))), (0, .ref a), (1, .int (nI f)), (2, .int (nI (f + w)))]) hx hb d_M_checkOf_1 rfl hl (by decide) rfl (fun ls hl => ?_)
  refine lv_iload_n hx hb d_M_checkOf_2 rfl (lv_at hl 2 rfl) ?_
  refine hj_topn (b := f + 0) (rfl) ?_
  refine lv_istore (lv' := [(4, .int (nI (f + 0))), (3, .int (nI (hj_crc d f 0))), (0, .ref a), (1, .int (nI f)), (2, .int (nI (f + w)))]) hx hb d_M_checkOf_3 hl (by decide) rfl (fun ls hl => ?_)
  have lp : ∀ (n9_lp : Nat) (j : Nat), (j ≤ w) → (w - j) < n9_lp → ∀ (H : Heap) (locs : List Loc), va_P (dC, dI) vwCl [(a, .inl (cA, n, .inl (hj_B d)))] H → va_D A [(a, .inl (cA, n, .inl (hj_B d)))] → va_S A s.heap H locs → ∀ (ls : Array Slot), lv_has ls 6 [(0, .ref a), (1, .int (nI f)), (2, .int (nI (f + w))), (3, .int (nI (hj_crc d f j))), (4, .int (nI (f + j)))] → W p l e rm_M_checkOf s m args below meth c H locs 0 0 Q (F0 m 5 ls []) := by
    intro n9_lp
    induction n9_lp with
    | zero =>
      intro j hj hm_lp
      exact absurd hm_lp (Nat.not_lt_zero _)
    | succ n9_lp ih_lp =>
      intro j hj hm_lp H locs hP hD hS ls hl
      refine lv_iload hx hb d_M_checkOf_5 (lv_at hl 4 rfl) ?_
      refine lv_iload_n hx hb d_M_checkOf_7 rfl (lv_at hl 2 rfl) ?_
      refine hj_icmp_ge (tgt := 64) hx hb (by omega) (by omega) d_M_checkOf_8 (by decide) (fun c_1 => ?_) (fun c_1 => ?_)
      · obtain rfl : j = w := by omega
        refine lv_iload_n hx hb d_M_checkOf_64 rfl (lv_at hl 3 rfl) ?_
        refine lv_iconst (v := (-1)) hx hb d_M_checkOf_65 (by decide) ?_
        refine hj_topv (y := nI 4294967295) (by decide) ?_
        refine hj_ixor hx hb d_M_checkOf_66 ?_
        exact hret (nI ((hj_crc d f j) ^^^ 4294967295)) () _ _ _ _ d_M_checkOf_67 rfl (rfl) hP hK hD hS
      · have h32 := hj_crc_lt hd f j
        refine lv_iload_n hx hb d_M_checkOf_11 rfl (lv_at hl 3 rfl) ?_
        refine lv_aload_n hx hb d_M_checkOf_12 rfl (lv_at hl 0 rfl) ?_
        refine lv_iload hx hb d_M_checkOf_13 (lv_at hl 4 rfl) ?_
        refine hj_bald hx hb hK hP 0 0 rfl rfl (by omega) (by omega) d_M_checkOf_15 ?_
        refine lv_sipush (v := nI 255) hx hb d_M_checkOf_16 (by decide) ?_
        refine hj_band hx hb (by first | assumption | exact hd _ | omega) d_M_checkOf_19 ?_
        refine hj_ixor hx hb d_M_checkOf_20 ?_
        obtain ⟨x, hxx⟩ : ∃ x, x = hj_crc d f j ^^^ d (f + j) := ⟨_, rfl⟩
        have hx32 : x < 2 ^ 32 := by rw [hxx]; exact hj_xor_lt h32 (hd _)
        refine hj_topn (b := hj_sts 0 x) (hxx.symm) ?_
        refine lv_istore_n (lv' := [(3, .int (nI (hj_sts 0 x))), (0, .ref a), (1, .int (nI f)), (2, .int (nI (f + w))), (4, .int (nI (f + j)))]) hx hb d_M_checkOf_21 rfl hl (by decide) rfl (fun ls hl => ?_)
        refine lv_iconst (v := nI 0) hx hb d_M_checkOf_22 (by decide) ?_
        refine lv_istore (lv' := [(5, .int (nI 0)), (3, .int (nI (hj_sts 0 x))), (0, .ref a), (1, .int (nI f)), (2, .int (nI (f + w))), (4, .int (nI (f + j)))]) hx hb d_M_checkOf_23 hl (by decide) rfl (fun ls hl => ?_)
        have l2 : ∀ (n9_l2 : Nat) (i : Nat), (i ≤ 8) → (8 - i) < n9_l2 → ∀ (H : Heap) (locs : List Loc), va_P (dC, dI) vwCl [(a, .inl (cA, n, .inl (hj_B d)))] H → va_D A [(a, .inl (cA, n, .inl (hj_B d)))] → va_S A s.heap H locs → ∀ (ls : Array Slot), lv_has ls 6 [(0, .ref a), (1, .int (nI f)), (2, .int (nI (f + w))), (3, .int (nI (hj_sts i x))), (4, .int (nI (f + j))), (5, .int (nI i))] → W p l e rm_M_checkOf s m args below meth c H locs 0 0 Q (F0 m 25 ls []) := by
          intro n9_l2
          induction n9_l2 with
          | zero =>
            intro i hi hm_l2
            exact absurd hm_l2 (Nat.not_lt_zero _)
          | succ n9_l2 ih_l2 =>
            intro i hi hm_l2 H locs hP hD hS ls hl
            have hs32 := hj_sts_lt i hx32
            refine lv_iload hx hb d_M_checkOf_25 (lv_at hl 5 rfl) ?_
            refine lv_bipush (v := nI 8) hx hb d_M_checkOf_27 (by decide) ?_
            refine hj_icmp_ge (tgt := 58) hx hb (by omega) (by omega) d_M_checkOf_29 (by decide) (fun c_2 => ?_) (fun c_2 => ?_)
            · obtain rfl : i = 8 := by omega
              have h8 : hj_sts 8 x = hj_crc d f (j + 1) := by rw [hxx]; rfl
              rw [h8] at hl
              refine lv_iinc (v := nI ((f + j) + 1)) (lv' := [(4, .int (nI ((f + j) + 1))), (0, .ref a), (1, .int (nI f)), (2, .int (nI (f + w))), (3, .int (nI (hj_crc d f (j + 1)))), (5, .int (nI 8))]) hx hb d_M_checkOf_58 hl (k := 4) rfl (nI_1 _) (by decide) rfl (fun ls hl => ?_)
              refine lv_goto (tgt := 5) hx hb d_M_checkOf_61 (by decide) ?_
              exact ih_lp (j + 1) (by omega) (by omega) _ _ hP hD hS _ (lv_sub hl [1, 2, 3, 4, 0] rfl)
            · refine lv_iload_n hx hb d_M_checkOf_32 rfl (lv_at hl 3 rfl) ?_
              refine lv_iconst (v := nI 1) hx hb d_M_checkOf_33 (by decide) ?_
              refine hj_iandM hx hb 1 (by first | assumption | omega) (by decide) d_M_checkOf_34 ?_
              refine lv_iconst (v := nI 1) hx hb d_M_checkOf_35 (by decide) ?_
              refine hj_icmp_ne (tgt := 48) hx hb (by omega) (by omega) d_M_checkOf_36 (by decide) (fun c_3 => ?_) (fun c_3 => ?_)
              · refine lv_iload_n hx hb d_M_checkOf_48 rfl (lv_at hl 3 rfl) ?_
                refine lv_iconst (v := nI 1) hx hb d_M_checkOf_49 (by decide) ?_
                refine hj_iushr hx hb 1 (by decide) (by first | assumption | omega) d_M_checkOf_50 ?_
                refine hj_topn (b := hj_sts (i + 1) x) (by rw [← hj_st_sts]; unfold hj_st; rw [if_neg (by omega), Nat.xor_zero]) ?_
                refine lv_istore_n (lv' := [(3, .int (nI (hj_sts (i + 1) x))), (0, .ref a), (1, .int (nI f)), (2, .int (nI (f + w))), (4, .int (nI (f + j))), (5, .int (nI i))]) hx hb d_M_checkOf_51 rfl hl (by decide) rfl (fun ls hl => ?_)
                refine lv_iinc (v := nI (i + 1)) (lv' := [(5, .int (nI (i + 1))), (3, .int (nI (hj_sts (i + 1) x))), (0, .ref a), (1, .int (nI f)), (2, .int (nI (f + w))), (4, .int (nI (f + j)))]) hx hb d_M_checkOf_52 hl (k := 5) rfl (nI_1 _) (by decide) rfl (fun ls hl => ?_)
                refine lv_goto (tgt := 25) hx hb d_M_checkOf_55 (by decide) ?_
                exact ih_l2 (i + 1) (by omega) (by omega) _ _ hP hD hS _ (lv_sub hl [2, 3, 4, 1, 5, 0] rfl)
              · refine lv_iload_n hx hb d_M_checkOf_39 rfl (lv_at hl 3 rfl) ?_
                refine lv_iconst (v := nI 1) hx hb d_M_checkOf_40 (by decide) ?_
                refine hj_iushr hx hb 1 (by decide) (by first | assumption | omega) d_M_checkOf_41 ?_
                refine lv_ldc (own := "HalfJournalModel") (v := (-306674912)) hx hb hown (hts _ m_713) d_M_checkOf_42 ?_
                refine hj_topv (y := nI 3988292384) (by decide +kernel) ?_
                refine hj_ixor hx hb d_M_checkOf_44 ?_
                refine lv_goto (tgt := 51) hx hb d_M_checkOf_45 (by decide) ?_
                refine hj_topn (b := hj_sts (i + 1) x) (by rw [← hj_st_sts]; unfold hj_st; rw [if_pos (by omega)]) ?_
                refine lv_istore_n (lv' := [(3, .int (nI (hj_sts (i + 1) x))), (0, .ref a), (1, .int (nI f)), (2, .int (nI (f + w))), (4, .int (nI (f + j))), (5, .int (nI i))]) hx hb d_M_checkOf_51 rfl hl (by decide) rfl (fun ls hl => ?_)
                refine lv_iinc (v := nI (i + 1)) (lv' := [(5, .int (nI (i + 1))), (3, .int (nI (hj_sts (i + 1) x))), (0, .ref a), (1, .int (nI f)), (2, .int (nI (f + w))), (4, .int (nI (f + j)))]) hx hb d_M_checkOf_52 hl (k := 5) rfl (nI_1 _) (by decide) rfl (fun ls hl => ?_)
                refine lv_goto (tgt := 25) hx hb d_M_checkOf_55 (by decide) ?_
                exact ih_l2 (i + 1) (by omega) (by omega) _ _ hP hD hS _ (lv_sub hl [2, 3, 4, 1, 5, 0] rfl)
        exact l2 _ 0 (by omega) (Nat.lt_succ_self _) _ _ hP hD hS _ (lv_sub hl [2, 3, 4, 1, 5, 0] rfl)
  exact lp _ 0 (Nat.zero_le _) (Nat.lt_succ_self _) _ _ hP hD hS _ (lv_sub hl [2, 3, 4, 1, 0] rfl)
abbrev rm_M_four : Room := { frames := 8, cells := 0, slots := 0, locals := 100 }
set_option maxHeartbeats 4000000 in
set_option maxRecDepth 100000 in
theorem c_M_four (l : Launch) (dC : Nat → ClassId) (dI : Nat → Nat → Nat) (a : Nat) (cA : ClassId) (n : Nat) (d : Nat → Nat) (k : Nat) (hn : n < 2 ^ 31) (hf : k + 4 ≤ n) (hd : hj_bs d) : hj_Mi l y_M_four b_M_four 2 .int rm_M_four hj_E0 (dC, dI) vwCl [(cA, .byte)] [(a, .inl (cA, n, .inl (hj_B d)))] [.ref a, .int (nI k)] (fun r _ => r = nI (hj_four d k)) (fun _ : Unit => [(a, .inl (cA, n, .inl (hj_B d)))]) (fun _ => [(cA, .byte)]) 0 0 := by
  refine hj_bodyI (by decide +kernel) (Nat.le_of_ble_eq_true rfl) ?_
  intro p e s m args below meth c A Q ls hx hb hts hown hml hA hP hK hD hE hl hret
  have hS : va_S A s.heap s.heap [] := va_S.rf
  have hown : s.vm.findClass "HalfJournalModel" = some m.cls := hown
  have hl : lv_has ls 2 [(0, .ref a), (1, .int (nI k))] := hl
  have hP : va_P (dC, dI) vwCl [(a, .inl (cA, n, .inl (hj_B d)))] s.heap := hP
  have hD : va_D A [(a, .inl (cA, n, .inl (hj_B d)))] := hD
  have h0 := hd k
  have h1 := hd (k + 1)
  have h2 := hd (k + 2)
  have h3 := hd (k + 3)
  refine lv_aload_n hx hb d_M_four_0 rfl (lv_at hl 0 rfl) ?_
  refine lv_iload_n hx hb d_M_four_1 rfl (lv_at hl 1 rfl) ?_
  refine hj_bald hx hb hK hP 0 0 rfl rfl (by omega) (by omega) d_M_four_2 ?_
  refine lv_sipush (v := nI 255) hx hb d_M_four_3 (by decide) ?_
  refine hj_band hx hb (by first | assumption | exact hd _ | omega) d_M_four_6 ?_
  refine lv_aload_n hx hb d_M_four_7 rfl (lv_at hl 0 rfl) ?_
  refine lv_iload_n hx hb d_M_four_8 rfl (lv_at hl 1 rfl) ?_
  refine lv_iconst (v := nI 1) hx hb d_M_four_9 (by decide) ?_
  refine hj_iadd hx hb d_M_four_10 ?_
  refine hj_bald hx hb hK hP 0 0 rfl rfl (by omega) (by omega) d_M_four_11 ?_
  refine lv_sipush (v := nI 255) hx hb d_M_four_12 (by decide) ?_
  refine hj_band hx hb (by first | assumption | exact hd _ | omega) d_M_four_15 ?_
  refine lv_bipush (v := nI 8) hx hb d_M_four_16 (by decide) ?_
  refine hj_ishl hx hb 8 (by decide) (by omega) d_M_four_18 ?_
  refine hj_iorR hx hb 8 (by omega) (by omega) d_M_four_19 ?_
  refine lv_aload_n hx hb d_M_four_20 rfl (lv_at hl 0 rfl) ?_
  refine lv_iload_n hx hb d_M_four_21 rfl (lv_at hl 1 rfl) ?_
  refine lv_iconst (v := nI 2) hx hb d_M_four_22 (by decide) ?_
  refine hj_iadd hx hb d_M_four_23 ?_
  refine hj_bald hx hb hK hP 0 0 rfl rfl (by omega) (by omega) d_M_four_24 ?_
  refine lv_sipush (v := nI 255) hx hb d_M_four_25 (by decide) ?_
  refine hj_band hx hb (by first | assumption | exact hd _ | omega) d_M_four_28 ?_
  refine lv_bipush (v := nI 16) hx hb d_M_four_29 (by decide) ?_
  refine hj_ishl hx hb 16 (by decide) (by omega) d_M_four_31 ?_
  refine hj_iorR hx hb 16 (by omega) (by omega) d_M_four_32 ?_
  refine lv_aload_n hx hb d_M_four_33 rfl (lv_at hl 0 rfl) ?_
  refine lv_iload_n hx hb d_M_four_34 rfl (lv_at hl 1 rfl) ?_
  refine lv_iconst (v := nI 3) hx hb d_M_four_35 (by decide) ?_
  refine hj_iadd hx hb d_M_four_36 ?_
  refine hj_bald hx hb hK hP 0 0 rfl rfl (by omega) (by omega) d_M_four_37 ?_
  refine lv_sipush (v := nI 255) hx hb d_M_four_38 (by decide) ?_
  refine hj_band hx hb (by first | assumption | exact hd _ | omega) d_M_four_41 ?_
  refine lv_bipush (v := nI 24) hx hb d_M_four_42 (by decide) ?_
  refine hj_ishl hx hb 24 (by decide) (by omega) d_M_four_44 ?_
  refine hj_iorR hx hb 24 (by omega) (by omega) d_M_four_45 ?_
  refine hj_topn (b := hj_four d k) (by unfold hj_four; omega) ?_
  exact hret (nI (hj_four d k)) () _ _ _ _ d_M_four_46 rfl (rfl) hP hK hD hS
abbrev rm_M_putFour : Room := { frames := 8, cells := 0, slots := 0, locals := 100 }
set_option maxHeartbeats 4000000 in
set_option maxRecDepth 100000 in
theorem c_M_putFour (l : Launch) (dC : Nat → ClassId) (dI : Nat → Nat → Nat) (a : Nat) (cA : ClassId) (n : Nat) (d : Nat → Nat) (f v : Nat) (hn : n < 2 ^ 31) (hf : f + 4 ≤ n) (hv : v < 2 ^ 32) : hj_Mv l y_M_putFour b_M_putFour 4 rm_M_putFour hj_E0 (dC, dI) vwCl [(cA, .byte)] [(a, .inl (cA, n, .inl (hj_B d)))] [.ref a, .int (nI f), .int (nI v)] (fun _ => True) (fun _ : Unit => [(a, .inl (cA, n, .inl (hj_B (hj_pn d f 4 v))))]) (fun _ => [(cA, .byte)]) 0 0 := by
  refine hj_bodyV (by decide +kernel) (Nat.le_of_ble_eq_true rfl) ?_
  intro p e s m args below meth c A Q ls hx hb hts hown hml hin hA hP hK hD hE hl hret
  have hS : va_S A s.heap s.heap [] := va_S.rf
  have hown : s.vm.findClass "HalfJournalModel" = some m.cls := hown
  have hl : lv_has ls 4 [(0, .ref a), (1, .int (nI f)), (2, .int (nI v))] := hl
  have hP : va_P (dC, dI) vwCl [(a, .inl (cA, n, .inl (hj_B d)))] s.heap := hP
  have hD : va_D A [(a, .inl (cA, n, .inl (hj_B d)))] := hD
  refine lv_iconst (v := nI 0) hx hb d_M_putFour_0 (by decide) ?_
  refine lv_istore_n (lv' := [(3, .int (nI 0)), (0, .ref a), (1, .int (nI f)), (2, .int (nI v))]) hx hb d_M_putFour_1 rfl hl (by decide) rfl (fun ls hl => ?_)
  have h9 : (d : Nat → Nat) = hj_pn d f 0 v := (hj_pn0 d f v).symm
  rw [h9] at hP hD
  have hP : va_P (dC, dI) vwCl [(a, .inl (cA, n, .inl (hj_B (hj_pn d f 0 v))))] s.heap := hP
  have hD : va_D A [(a, .inl (cA, n, .inl (hj_B (hj_pn d f 0 v))))] := hD
  have lp : ∀ (n9_lp : Nat) (i : Nat), (i ≤ 4) → (4 - i) < n9_lp → ∀ (H : Heap) (locs : List Loc), va_P (dC, dI) vwCl [(a, .inl (cA, n, .inl (hj_B (hj_pn d f i v))))] H → va_D A [(a, .inl (cA, n, .inl (hj_B (hj_pn d f i v))))] → va_S A s.heap H locs → ∀ (ls : Array Slot), lv_has ls 4 [(0, .ref a), (1, .int (nI f)), (2, .int (nI v)), (3, .int (nI i))] → W p l e rm_M_putFour s m args below meth c H locs 0 0 Q (F0 m 2 ls []) := by
    intro n9_lp
    induction n9_lp with
    | zero =>
      intro i hi hm_lp
      exact absurd hm_lp (Nat.not_lt_zero _)
    | succ n9_lp ih_lp =>
      intro i hi hm_lp H locs hP hD hS ls hl
      refine lv_iload_n hx hb d_M_putFour_2 rfl (lv_at hl 3 rfl) ?_
      refine lv_iconst (v := nI 4) hx hb d_M_putFour_3 (by decide) ?_
      refine hj_icmp_ge (tgt := 25) hx hb (by omega) (by omega) d_M_putFour_4 (by decide) (fun c_2 => ?_) (fun c_2 => ?_)
      · obtain rfl : i = 4 := by omega
        exact hret () _ _ _ _ d_M_putFour_25 (trivial) hP hK hD hS
      · refine lv_aload_n hx hb d_M_putFour_7 rfl (lv_at hl 0 rfl) ?_
        refine lv_iload_n hx hb d_M_putFour_8 rfl (lv_at hl 1 rfl) ?_
        refine lv_iload_n hx hb d_M_putFour_9 rfl (lv_at hl 3 rfl) ?_
        refine hj_iadd hx hb d_M_putFour_10 ?_
        refine lv_iload_n hx hb d_M_putFour_11 rfl (lv_at hl 2 rfl) ?_
        refine lv_bipush (v := nI 8) hx hb d_M_putFour_12 (by decide) ?_
        refine lv_iload_n hx hb d_M_putFour_14 rfl (lv_at hl 3 rfl) ?_
        refine hj_imul hx hb d_M_putFour_15 ?_
        refine lv_ishr hx hb d_M_putFour_16 ?_
        refine lv_i2b (v := sb_b (hj_by v i)) hx hb d_M_putFour_17 (hj_put_s hv (by omega)) ?_
        refine hj_bast hx hb hK hP hD hS 0 0 rfl rfl (by omega) (by omega) d_M_putFour_18 (fun H locs hP hD hS => ?_)
        have hP : va_P (dC, dI) vwCl [(a, .inl (cA, n, .inl (hj_B (va_up (hj_pn d f i v) (f + i) (hj_by v i)))))] H := hP
        have hD : va_D A [(a, .inl (cA, n, .inl (hj_B (va_up (hj_pn d f i v) (f + i) (hj_by v i)))))] := hD
        have h9 : (va_up (hj_pn d f i v) (f + i) (hj_by v i) : Nat → Nat) = hj_pn d f (i + 1) v := hj_pnS d f i v
        rw [h9] at hP hD
        have hP : va_P (dC, dI) vwCl [(a, .inl (cA, n, .inl (hj_B (hj_pn d f (i + 1) v))))] H := hP
        have hD : va_D A [(a, .inl (cA, n, .inl (hj_B (hj_pn d f (i + 1) v))))] := hD
        refine lv_iinc (v := nI (i + 1)) (lv' := [(3, .int (nI (i + 1))), (0, .ref a), (1, .int (nI f)), (2, .int (nI v))]) hx hb d_M_putFour_19 hl (k := 3) rfl (nI_1 _) (by decide) rfl (fun ls hl => ?_)
        refine lv_goto (tgt := 2) hx hb d_M_putFour_22 (by decide) ?_
        exact ih_lp (i + 1) (by omega) (by omega) _ _ hP hD hS _ (lv_sub hl [1, 2, 3, 0] rfl)
  exact lp _ 0 (by omega) (Nat.lt_succ_self _) _ _ hP hD hS _ (lv_sub hl [1, 2, 3, 0] rfl)
abbrev rm_M_thrown : Room := { frames := 8, cells := 0, slots := 0, locals := 100 }
set_option maxHeartbeats 4000000 in
set_option maxRecDepth 100000 in
theorem c_M_thrown (l : Launch) (dC : Nat → ClassId) (dI : Nat → Nat → Nat) (m0 da ba ka ta na ea : Nat) (th : Int32) (st g h us n tl : Nat) (du wr : Int32) : hj_Mi l y_M_thrown b_M_thrown 1 .int rm_M_thrown hj_E0 (dC, dI) vwCl [] [(m0, .inr (3, [.int th, .ref da, .int (nI st), .int (nI g), .int (nI h), .int (nI us), .int (nI n), .ref ba, .ref ka, .ref ta, .int (nI tl), .int du, .int wr, .ref na, .ref ea]))] [.ref m0] (fun r _ => r = th) (fun _ : Unit => [(m0, .inr (3, [.int th, .ref da, .int (nI st), .int (nI g), .int (nI h), .int (nI us), .int (nI n), .ref ba, .ref ka, .ref ta, .int (nI tl), .int du, .int wr, .ref na, .ref ea]))]) (fun _ => []) 0 0 := by
  refine hj_bodyI (by decide +kernel) (Nat.le_of_ble_eq_true rfl) ?_
  intro p e s m args below meth c A Q ls hx hb hts hown hml hA hP hK hD hE hl hret
  have hS : va_S A s.heap s.heap [] := va_S.rf
  have hown : s.vm.findClass "HalfJournalModel" = some m.cls := hown
  have hl : lv_has ls 1 [(0, .ref m0)] := hl
  have hP : va_P (dC, dI) vwCl [(m0, .inr (3, [.int th, .ref da, .int (nI st), .int (nI g), .int (nI h), .int (nI us), .int (nI n), .ref ba, .ref ka, .ref ta, .int (nI tl), .int du, .int wr, .ref na, .ref ea]))] s.heap := hP
  have hD : va_D A [(m0, .inr (3, [.int th, .ref da, .int (nI st), .int (nI g), .int (nI h), .int (nI us), .int (nI n), .ref ba, .ref ka, .ref ta, .int (nI tl), .int du, .int wr, .ref na, .ref ea]))] := hD
  refine lv_aload_n hx hb d_M_thrown_0 rfl (lv_at hl 0 rfl) ?_
  refine va_get (D := (dC, dI)) (ci := 3) (v := .int th) (C := "HalfJournalModel") (T := F_M) (N := 15) hx hb hts i_M hown hK hP 0 rfl rfl 0 (by decide) (hts _ m_645) (fun _ h9 => h9) rfl d_M_thrown_1 ?_
  exact hret th () _ _ _ _ d_M_thrown_4 rfl (rfl) hP hK hD hS
abbrev rm_M_leave : Room := { frames := 8, cells := 0, slots := 0, locals := 100 }
set_option maxHeartbeats 4000000 in
set_option maxRecDepth 100000 in
theorem c_M_leave (l : Launch) (dC : Nat → ClassId) (dI : Nat → Nat → Nat) (m0 da ba ka ta na ea : Nat) (th : Int32) (st g h us n tl : Nat) (du wr : Int32) : hj_Mv l y_M_leave b_M_leave 1 rm_M_leave hj_E0 (dC, dI) vwCl [] [(m0, .inr (3, [.int th, .ref da, .int (nI st), .int (nI g), .int (nI h), .int (nI us), .int (nI n), .ref ba, .ref ka, .ref ta, .int (nI tl), .int du, .int wr, .ref na, .ref ea]))] [.ref m0] (fun _ => True) (fun _ : Unit => [(m0, .inr (3, [.int th, .ref da, .int (nI st), .int (nI 0), .int (nI 0), .int (nI 0), .int (nI 0), .ref ba, .ref ka, .ref ta, .int (nI tl), .int du, .int wr, .ref na, .ref ea]))]) (fun _ => []) 0 0 := by
  refine hj_bodyV (by decide +kernel) (Nat.le_of_ble_eq_true rfl) ?_
  intro p e s m args below meth c A Q ls hx hb hts hown hml hin hA hP hK hD hE hl hret
  have hS : va_S A s.heap s.heap [] := va_S.rf
  have hown : s.vm.findClass "HalfJournalModel" = some m.cls := hown
  have hl : lv_has ls 1 [(0, .ref m0)] := hl
  have hP : va_P (dC, dI) vwCl [(m0, .inr (3, [.int th, .ref da, .int (nI st), .int (nI g), .int (nI h), .int (nI us), .int (nI n), .ref ba, .ref ka, .ref ta, .int (nI tl), .int du, .int wr, .ref na, .ref ea]))] s.heap := hP
  have hD : va_D A [(m0, .inr (3, [.int th, .ref da, .int (nI st), .int (nI g), .int (nI h), .int (nI us), .int (nI n), .ref ba, .ref ka, .ref ta, .int (nI tl), .int du, .int wr, .ref na, .ref ea]))] := hD
  refine lv_aload_n hx hb d_M_leave_0 rfl (lv_at hl 0 rfl) ?_
  refine lv_iconst (v := nI 0) hx hb d_M_leave_1 (by decide) ?_
  refine va_put (D := (dC, dI)) (ci := 3) (v := .int (nI 0)) (ty := (.int)) (C := "HalfJournalModel") (T := F_M) (N := 15) hx hb hts i_M t_M t_M_ok n_M hown hK hP hD hS 0 rfl rfl 3 (by decide) (hts _ m_648) (fun _ h9 => h9) rfl (by decide +kernel) rfl rfl (Nat.le_of_ble_eq_true rfl) d_M_leave_2 (fun H locs hP hD hS => ?_)
  have hP : va_P (dC, dI) vwCl [(m0, .inr (3, [.int th, .ref da, .int (nI st), .int (nI 0), .int (nI h), .int (nI us), .int (nI n), .ref ba, .ref ka, .ref ta, .int (nI tl), .int du, .int wr, .ref na, .ref ea]))] H := hP
  have hD : va_D A [(m0, .inr (3, [.int th, .ref da, .int (nI st), .int (nI 0), .int (nI h), .int (nI us), .int (nI n), .ref ba, .ref ka, .ref ta, .int (nI tl), .int du, .int wr, .ref na, .ref ea]))] := hD
  refine lv_aload_n hx hb d_M_leave_5 rfl (lv_at hl 0 rfl) ?_
  refine lv_iconst (v := nI 0) hx hb d_M_leave_6 (by decide) ?_
  refine va_put (D := (dC, dI)) (ci := 3) (v := .int (nI 0)) (ty := (.int)) (C := "HalfJournalModel") (T := F_M) (N := 15) hx hb hts i_M t_M t_M_ok n_M hown hK hP hD hS 0 rfl rfl 4 (by decide) (hts _ m_649) (fun _ h9 => h9) rfl (by decide +kernel) rfl rfl (Nat.le_of_ble_eq_true rfl) d_M_leave_7 (fun H locs hP hD hS => ?_)
  have hP : va_P (dC, dI) vwCl [(m0, .inr (3, [.int th, .ref da, .int (nI st), .int (nI 0), .int (nI 0), .int (nI us), .int (nI n), .ref ba, .ref ka, .ref ta, .int (nI tl), .int du, .int wr, .ref na, .ref ea]))] H := hP
  have hD : va_D A [(m0, .inr (3, [.int th, .ref da, .int (nI st), .int (nI 0), .int (nI 0), .int (nI us), .int (nI n), .ref ba, .ref ka, .ref ta, .int (nI tl), .int du, .int wr, .ref na, .ref ea]))] := hD
  refine lv_aload_n hx hb d_M_leave_10 rfl (lv_at hl 0 rfl) ?_
  refine lv_iconst (v := nI 0) hx hb d_M_leave_11 (by decide) ?_
  refine va_put (D := (dC, dI)) (ci := 3) (v := .int (nI 0)) (ty := (.int)) (C := "HalfJournalModel") (T := F_M) (N := 15) hx hb hts i_M t_M t_M_ok n_M hown hK hP hD hS 0 rfl rfl 5 (by decide) (hts _ m_650) (fun _ h9 => h9) rfl (by decide +kernel) rfl rfl (Nat.le_of_ble_eq_true rfl) d_M_leave_12 (fun H locs hP hD hS => ?_)
  have hP : va_P (dC, dI) vwCl [(m0, .inr (3, [.int th, .ref da, .int (nI st), .int (nI 0), .int (nI 0), .int (nI 0), .int (nI n), .ref ba, .ref ka, .ref ta, .int (nI tl), .int du, .int wr, .ref na, .ref ea]))] H := hP
  have hD : va_D A [(m0, .inr (3, [.int th, .ref da, .int (nI st), .int (nI 0), .int (nI 0), .int (nI 0), .int (nI n), .ref ba, .ref ka, .ref ta, .int (nI tl), .int du, .int wr, .ref na, .ref ea]))] := hD
  refine lv_aload_n hx hb d_M_leave_15 rfl (lv_at hl 0 rfl) ?_
  refine lv_iconst (v := nI 0) hx hb d_M_leave_16 (by decide) ?_
  refine va_put (D := (dC, dI)) (ci := 3) (v := .int (nI 0)) (ty := (.int)) (C := "HalfJournalModel") (T := F_M) (N := 15) hx hb hts i_M t_M t_M_ok n_M hown hK hP hD hS 0 rfl rfl 6 (by decide) (hts _ m_651) (fun _ h9 => h9) rfl (by decide +kernel) rfl rfl (Nat.le_of_ble_eq_true rfl) d_M_leave_17 (fun H locs hP hD hS => ?_)
  have hP : va_P (dC, dI) vwCl [(m0, .inr (3, [.int th, .ref da, .int (nI st), .int (nI 0), .int (nI 0), .int (nI 0), .int (nI 0), .ref ba, .ref ka, .ref ta, .int (nI tl), .int du, .int wr, .ref na, .ref ea]))] H := hP
  have hD : va_D A [(m0, .inr (3, [.int th, .ref da, .int (nI st), .int (nI 0), .int (nI 0), .int (nI 0), .int (nI 0), .ref ba, .ref ka, .ref ta, .int (nI tl), .int du, .int wr, .ref na, .ref ea]))] := hD
  exact hret () _ _ _ _ d_M_leave_20 (trivial) hP hK hD hS
abbrev rm_M_down : Room := { frames := 16, cells := 0, slots := 0, locals := 200 }
set_option maxHeartbeats 4000000 in
set_option maxRecDepth 100000 in
theorem c_M_down (l : Launch) (dC : Nat → ClassId) (dI : Nat → Nat → Nat) (m0 da ba ka ta na ea : Nat) (th : Int32) (st g h us n tl : Nat) (du wr : Int32) : hj_Mv l y_M_down b_M_down 1 rm_M_down hj_E0 (dC, dI) vwCl [] [(m0, .inr (3, [.int th, .ref da, .int (nI st), .int (nI g), .int (nI h), .int (nI us), .int (nI n), .ref ba, .ref ka, .ref ta, .int (nI tl), .int du, .int wr, .ref na, .ref ea]))] [.ref m0] (fun _ => True) (fun _ : Unit => [(m0, .inr (3, [.int th, .ref da, .int (nI 0), .int (nI 0), .int (nI 0), .int (nI 0), .int (nI 0), .ref ba, .ref ka, .ref ta, .int (nI tl), .int du, .int wr, .ref na, .ref ea]))]) (fun _ => []) 0 0 := by
  refine hj_bodyV (by decide +kernel) (Nat.le_of_ble_eq_true rfl) ?_
  intro p e s m args below meth c A Q ls hx hb hts hown hml hin hA hP hK hD hE hl hret
  have hS : va_S A s.heap s.heap [] := va_S.rf
  have hown : s.vm.findClass "HalfJournalModel" = some m.cls := hown
  have hl : lv_has ls 1 [(0, .ref m0)] := hl
  have hP : va_P (dC, dI) vwCl [(m0, .inr (3, [.int th, .ref da, .int (nI st), .int (nI g), .int (nI h), .int (nI us), .int (nI n), .ref ba, .ref ka, .ref ta, .int (nI tl), .int du, .int wr, .ref na, .ref ea]))] s.heap := hP
  have hD : va_D A [(m0, .inr (3, [.int th, .ref da, .int (nI st), .int (nI g), .int (nI h), .int (nI us), .int (nI n), .ref ba, .ref ka, .ref ta, .int (nI tl), .int du, .int wr, .ref na, .ref ea]))] := hD
  refine lv_aload_n hx hb d_M_down_0 rfl (lv_at hl 0 rfl) ?_
  refine lv_iconst (v := nI 0) hx hb d_M_down_1 (by decide) ?_
  refine va_put (D := (dC, dI)) (ci := 3) (v := .int (nI 0)) (ty := (.int)) (C := "HalfJournalModel") (T := F_M) (N := 15) hx hb hts i_M t_M t_M_ok n_M hown hK hP hD hS 0 rfl rfl 2 (by decide) (hts _ m_647) (fun _ h9 => h9) rfl (by decide +kernel) rfl rfl (Nat.le_of_ble_eq_true rfl) d_M_down_2 (fun H locs hP hD hS => ?_)
  have hP : va_P (dC, dI) vwCl [(m0, .inr (3, [.int th, .ref da, .int (nI 0), .int (nI g), .int (nI h), .int (nI us), .int (nI n), .ref ba, .ref ka, .ref ta, .int (nI tl), .int du, .int wr, .ref na, .ref ea]))] H := hP
  have hD : va_D A [(m0, .inr (3, [.int th, .ref da, .int (nI 0), .int (nI g), .int (nI h), .int (nI us), .int (nI n), .ref ba, .ref ka, .ref ta, .int (nI tl), .int du, .int wr, .ref na, .ref ea]))] := hD
  refine lv_aload_n hx hb d_M_down_5 rfl (lv_at hl 0 rfl) ?_
  refine hj_callv (wc := [(m0, .inr (3, [.int th, .ref da, .int (nI 0), .int (nI g), .int (nI h), .int (nI us), .int (nI n), .ref ba, .ref ka, .ref ta, .int (nI tl), .int du, .int wr, .ref na, .ref ea]))]) (wr := []) [0] [] hP hD hS hA rfl rfl rfl (by decide) (va_runV (As := []) (rest := []) ⟨hx, hb, hml, hown, hts⟩ (c_M_leave l dC dI m0 da ba ka ta na ea th 0 g h us n tl du wr H.size) (cwV 0 hts (hj_gV m_714 m_716 s_M_leave m_4 m_717) rfl rfl rfl (by decide +kernel) ⟨Nat.le_of_ble_eq_true rfl, Nat.le_of_ble_eq_true rfl⟩) (hj_preV (ci := 3) (q0 := 0) hj_E0ok hE hP hD hK hS hA [0] rfl rfl [] rfl rfl rfl) rfl rfl hl.1 rfl (lv_room (Nat.le_of_ble_eq_true rfl)) d_M_down_6 ⟨Nat.le_of_ble_eq_true rfl, Nat.le_of_ble_eq_true rfl⟩) (fun u_2 H locs hw hP hD hK1 hS => ?_)
  have hP : va_P (dC, dI) vwCl [(m0, .inr (3, [.int th, .ref da, .int (nI 0), .int (nI 0), .int (nI 0), .int (nI 0), .int (nI 0), .ref ba, .ref ka, .ref ta, .int (nI tl), .int du, .int wr, .ref na, .ref ea]))] H := hP.sub [0] rfl
  have hD : va_D A [(m0, .inr (3, [.int th, .ref da, .int (nI 0), .int (nI 0), .int (nI 0), .int (nI 0), .int (nI 0), .ref ba, .ref ka, .ref ta, .int (nI tl), .int du, .int wr, .ref na, .ref ea]))] := hD.sub [0] (by decide) rfl
  exact hret () _ _ _ _ d_M_down_9 (trivial) hP hK hD hS
abbrev rm_M_unmark : Room := { frames := 8, cells := 0, slots := 0, locals := 100 }
set_option maxHeartbeats 4000000 in
set_option maxRecDepth 100000 in
theorem c_M_unmark (l : Launch) (dC : Nat → ClassId) (dI : Nat → Nat → Nat) (m0 da ba ka ta na ea : Nat) (th : Int32) (st g h us n tl : Nat) (du wr : Int32) (cK : ClassId) (fk : Nat → Int32) : hj_Mv l y_M_unmark b_M_unmark 2 rm_M_unmark hj_E0 (dC, dI) vwCl [(cK, .boolean)] [(m0, .inr (3, [.int th, .ref da, .int (nI st), .int (nI g), .int (nI h), .int (nI us), .int (nI n), .ref ba, .ref ka, .ref ta, .int (nI tl), .int du, .int wr, .ref na, .ref ea])), (ka, .inl (cK, 2000, .inl fk))] [.ref m0] (fun y => ∀ i, i < 2000 → y i = nI 0) (fun y : Nat → Int32 => [(m0, .inr (3, [.int th, .ref da, .int (nI st), .int (nI g), .int (nI h), .int (nI us), .int (nI n), .ref ba, .ref ka, .ref ta, .int (nI tl), .int du, .int wr, .ref na, .ref ea])), (ka, .inl (cK, 2000, .inl y))]) (fun _ => [(cK, .boolean)]) 0 0 := by
  refine hj_bodyV (by decide +kernel) (Nat.le_of_ble_eq_true rfl) ?_
  intro p e s m args below meth c A Q ls hx hb hts hown hml hin hA hP hK hD hE hl hret
  have hS : va_S A s.heap s.heap [] := va_S.rf
  have hown : s.vm.findClass "HalfJournalModel" = some m.cls := hown
  have hl : lv_has ls 2 [(0, .ref m0)] := hl
  have hP : va_P (dC, dI) vwCl [(m0, .inr (3, [.int th, .ref da, .int (nI st), .int (nI g), .int (nI h), .int (nI us), .int (nI n), .ref ba, .ref ka, .ref ta, .int (nI tl), .int du, .int wr, .ref na, .ref ea])), (ka, .inl (cK, 2000, .inl fk))] s.heap := hP
  have hD : va_D A [(m0, .inr (3, [.int th, .ref da, .int (nI st), .int (nI g), .int (nI h), .int (nI us), .int (nI n), .ref ba, .ref ka, .ref ta, .int (nI tl), .int du, .int wr, .ref na, .ref ea])), (ka, .inl (cK, 2000, .inl fk))] := hD
  refine lv_iconst (v := nI 0) hx hb d_M_unmark_0 (by decide) ?_
  refine lv_istore_n (lv' := [(1, .int (nI 0)), (0, .ref m0)]) hx hb d_M_unmark_1 rfl hl (by decide) rfl (fun ls hl => ?_)
  have lp : ∀ (n9_lp : Nat) (i : Nat) (fk : Nat → Int32), (i ≤ 2000) → (∀ k, k < i → fk k = nI 0) → (2000 - i) < n9_lp → ∀ (H : Heap) (locs : List Loc), va_P (dC, dI) vwCl [(m0, .inr (3, [.int th, .ref da, .int (nI st), .int (nI g), .int (nI h), .int (nI us), .int (nI n), .ref ba, .ref ka, .ref ta, .int (nI tl), .int du, .int wr, .ref na, .ref ea])), (ka, .inl (cK, 2000, .inl fk))] H → va_D A [(m0, .inr (3, [.int th, .ref da, .int (nI st), .int (nI g), .int (nI h), .int (nI us), .int (nI n), .ref ba, .ref ka, .ref ta, .int (nI tl), .int du, .int wr, .ref na, .ref ea])), (ka, .inl (cK, 2000, .inl fk))] → va_S A s.heap H locs → ∀ (ls : Array Slot), lv_has ls 2 [(0, .ref m0), (1, .int (nI i))] → W p l e rm_M_unmark s m args below meth c H locs 0 0 Q (F0 m 2 ls []) := by
    intro n9_lp
    induction n9_lp with
    | zero =>
      intro i fk hi hk9 hm_lp
      exact absurd hm_lp (Nat.not_lt_zero _)
    | succ n9_lp ih_lp =>
      intro i fk hi hk9 hm_lp H locs hP hD hS ls hl
      refine lv_iload_n hx hb d_M_unmark_2 rfl (lv_at hl 1 rfl) ?_
      refine lv_sipush (v := nI 2000) hx hb d_M_unmark_3 (by decide) ?_
      refine hj_icmp_ge (tgt := 22) hx hb (by omega) (by omega) d_M_unmark_6 (by decide) (fun c_1 => ?_) (fun c_1 => ?_)
      · exact hret fk _ _ _ _ d_M_unmark_22 (fun k hk => hk9 k (by omega)) hP hK hD hS
      · refine lv_aload_n hx hb d_M_unmark_9 rfl (lv_at hl 0 rfl) ?_
        refine va_get (D := (dC, dI)) (ci := 3) (v := .ref ka) (C := "HalfJournalModel") (T := F_M) (N := 15) hx hb hts i_M hown hK hP 0 rfl rfl 8 (by decide) (hts _ m_653) (fun _ h9 => h9) rfl d_M_unmark_10 ?_
        refine lv_iload_n hx hb d_M_unmark_13 rfl (lv_at hl 1 rfl) ?_
        refine lv_iconst (v := nI 0) hx hb d_M_unmark_14 (by decide) ?_
        refine hj_zast hx hb hK hP hD hS 1 0 rfl rfl (by omega) (by omega) (by decide) d_M_unmark_15 (fun H locs hP hD hS => ?_)
        have hP : va_P (dC, dI) vwCl [(m0, .inr (3, [.int th, .ref da, .int (nI st), .int (nI g), .int (nI h), .int (nI us), .int (nI n), .ref ba, .ref ka, .ref ta, .int (nI tl), .int du, .int wr, .ref na, .ref ea])), (ka, .inl (cK, 2000, .inl (va_up fk i (nI 0))))] H := hP
        have hD : va_D A [(m0, .inr (3, [.int th, .ref da, .int (nI st), .int (nI g), .int (nI h), .int (nI us), .int (nI n), .ref ba, .ref ka, .ref ta, .int (nI tl), .int du, .int wr, .ref na, .ref ea])), (ka, .inl (cK, 2000, .inl (va_up fk i (nI 0))))] := hD
        refine lv_iinc (v := nI (i + 1)) (lv' := [(1, .int (nI (i + 1))), (0, .ref m0)]) hx hb d_M_unmark_16 hl (k := 1) rfl (nI_1 _) (by decide) rfl (fun ls hl => ?_)
        refine lv_goto (tgt := 2) hx hb d_M_unmark_19 (by decide) ?_
        exact ih_lp (i + 1) (va_up fk i (nI 0)) (by omega) (fun k hk => by
          by_cases q : k = i
          · rw [q, va_up_self]
          · rw [va_up_ne _ _ q]; exact hk9 k (by omega)) (by omega) _ _ hP hD hS _ (lv_sub hl [1, 0] rfl)
  exact lp _ 0 fk (by omega) (fun k hk => absurd hk (Nat.not_lt_zero k)) (Nat.lt_succ_self _) _ _ hP hD hS _ (lv_sub hl [1, 0] rfl)
abbrev rm_M_isHead : Room := { frames := 16, cells := 0, slots := 0, locals := 200 }
set_option maxHeartbeats 4000000 in
set_option maxRecDepth 100000 in
theorem c_M_isHead (l : Launch) (dC : Nat → ClassId) (dI : Nat → Nat → Nat) (m0 da ba ka ta na ea : Nat) (th : Int32) (st g h us n tl : Nat) (du wr : Int32) (cD : ClassId) (d : Nat → Nat) (b : Nat) (hb9 : b < 2) (hd : hj_bs d) : hj_Mi l y_M_isHead b_M_isHead 4 .boolean rm_M_isHead hj_E0 (dC, dI) vwCl [(cD, .byte)] [(m0, .inr (3, [.int th, .ref da, .int (nI st), .int (nI g), .int (nI h), .int (nI us), .int (nI n), .ref ba, .ref ka, .ref ta, .int (nI tl), .int du, .int wr, .ref na, .ref ea])), (da, .inl (cD, 32768, .inl (hj_B d)))] [.ref m0, .int (nI b)] (fun r _ => (hj_right d b ∧ r = nI 1) ∨ (¬ hj_right d b ∧ r = nI 0)) (fun _ : Unit => [(m0, .inr (3, [.int th, .ref da, .int (nI st), .int (nI g), .int (nI h), .int (nI us), .int (nI n), .ref ba, .ref ka, .ref ta, .int (nI tl), .int du, .int wr, .ref na, .ref ea])), (da, .inl (cD, 32768, .inl (hj_B d)))]) (fun _ => [(cD, .byte)]) 0 0 := by
  refine hj_bodyI (by decide +kernel) (Nat.le_of_ble_eq_true rfl) ?_
  intro p e s m args below meth c A Q ls hx hb hts hown hml hA hP hK hD hE hl hret
  have hS : va_S A s.heap s.heap [] := va_S.rf
  have hown : s.vm.findClass "HalfJournalModel" = some m.cls := hown
  have hl : lv_has ls 4 [(0, .ref m0), (1, .int (nI b))] := hl
  have hP : va_P (dC, dI) vwCl [(m0, .inr (3, [.int th, .ref da, .int (nI st), .int (nI g), .int (nI h), .int (nI us), .int (nI n), .ref ba, .ref ka, .ref ta, .int (nI tl), .int du, .int wr, .ref na, .ref ea])), (da, .inl (cD, 32768, .inl (hj_B d)))] s.heap := hP
  have hD : va_D A [(m0, .inr (3, [.int th, .ref da, .int (nI st), .int (nI g), .int (nI h), .int (nI us), .int (nI n), .ref ba, .ref ka, .ref ta, .int (nI tl), .int du, .int wr, .ref na, .ref ea])), (da, .inl (cD, 32768, .inl (hj_B d)))] := hD
  have h0 := hd (512 * b)
  have h1 := hd (512 * b + 1)
  have h2 := hd (512 * b + 2)
  have h3 := hd (512 * b + 3)
  refine lv_sipush (v := nI 512) hx hb d_M_isHead_0 (by decide) ?_
  refine lv_iload_n hx hb d_M_isHead_3 rfl (lv_at hl 1 rfl) ?_
  refine hj_imul hx hb d_M_isHead_4 ?_
  refine lv_istore_n (lv' := [(2, .int (nI (512 * b))), (0, .ref m0), (1, .int (nI b))]) hx hb d_M_isHead_5 rfl hl (by decide) rfl (fun ls hl => ?_)
  refine lv_aload_n hx hb d_M_isHead_6 rfl (lv_at hl 1 rfl) ?_
  refine va_get (D := (dC, dI)) (ci := 3) (v := .ref da) (C := "HalfJournalModel") (T := F_M) (N := 15) hx hb hts i_M hown hK hP 0 rfl rfl 1 (by decide) (hts _ m_646) (fun _ h9 => h9) rfl d_M_isHead_7 ?_
  refine lv_iload_n hx hb d_M_isHead_10 rfl (lv_at hl 0 rfl) ?_
  refine hj_bald hx hb hK hP 1 0 rfl rfl (by omega) (by decide) d_M_isHead_11 ?_
  refine lv_bipush (v := nI 74) hx hb d_M_isHead_12 (by decide) ?_
  refine lv_icmp_ne (tgt := 68) hx hb d_M_isHead_14 (by decide) (fun c_1 => ?_) (fun c_1 => ?_)
  · refine lv_iconst (v := nI 0) hx hb d_M_isHead_68 (by decide) ?_
    refine lv_istore_n (lv' := [(3, .int (nI 0)), (2, .int (nI (512 * b))), (0, .ref m0), (1, .int (nI b))]) hx hb d_M_isHead_69 rfl hl (by decide) rfl (fun ls hl => ?_)
    refine lv_iload_n hx hb d_M_isHead_70 rfl (lv_at hl 0 rfl) ?_
    refine hj_if_eq (tgt := 117) hx hb (by omega) d_M_isHead_71 (by decide) (fun c_9 => ?_) (fun c_9 => ?_)
    · refine lv_iconst (v := nI 0) hx hb d_M_isHead_117 (by decide) ?_
      exact hret (nI 0) () _ _ _ _ d_M_isHead_118 rfl (Or.inr ⟨fun q => c_1 ((hj_sb74 _ h0).mpr q.1), rfl⟩) hP hK hD hS
    · omega
  · have e0 := (hj_sb74 _ h0).mp c_1
    refine lv_aload_n hx hb d_M_isHead_17 rfl (lv_at hl 1 rfl) ?_
    refine va_get (D := (dC, dI)) (ci := 3) (v := .ref da) (C := "HalfJournalModel") (T := F_M) (N := 15) hx hb hts i_M hown hK hP 0 rfl rfl 1 (by decide) (hts _ m_646) (fun _ h9 => h9) rfl d_M_isHead_18 ?_
    refine lv_iload_n hx hb d_M_isHead_21 rfl (lv_at hl 0 rfl) ?_
    refine lv_iconst (v := nI 1) hx hb d_M_isHead_22 (by decide) ?_
    refine hj_iadd hx hb d_M_isHead_23 ?_
    refine hj_bald hx hb hK hP 1 0 rfl rfl (by omega) (by decide) d_M_isHead_24 ?_
    refine lv_bipush (v := nI 49) hx hb d_M_isHead_25 (by decide) ?_
    refine lv_icmp_ne (tgt := 68) hx hb d_M_isHead_27 (by decide) (fun c_2 => ?_) (fun c_2 => ?_)
    · refine lv_iconst (v := nI 0) hx hb d_M_isHead_68 (by decide) ?_
      refine lv_istore_n (lv' := [(3, .int (nI 0)), (2, .int (nI (512 * b))), (0, .ref m0), (1, .int (nI b))]) hx hb d_M_isHead_69 rfl hl (by decide) rfl (fun ls hl => ?_)
      refine lv_iload_n hx hb d_M_isHead_70 rfl (lv_at hl 0 rfl) ?_
      refine hj_if_eq (tgt := 117) hx hb (by omega) d_M_isHead_71 (by decide) (fun c_9 => ?_) (fun c_9 => ?_)
      · refine lv_iconst (v := nI 0) hx hb d_M_isHead_117 (by decide) ?_
        exact hret (nI 0) () _ _ _ _ d_M_isHead_118 rfl (Or.inr ⟨fun q => c_2 ((hj_sb49 _ h1).mpr q.2.1), rfl⟩) hP hK hD hS
      · omega
    · have e1 := (hj_sb49 _ h1).mp c_2
      refine lv_aload_n hx hb d_M_isHead_30 rfl (lv_at hl 1 rfl) ?_
      refine va_get (D := (dC, dI)) (ci := 3) (v := .ref da) (C := "HalfJournalModel") (T := F_M) (N := 15) hx hb hts i_M hown hK hP 0 rfl rfl 1 (by decide) (hts _ m_646) (fun _ h9 => h9) rfl d_M_isHead_31 ?_
      refine lv_iload_n hx hb d_M_isHead_34 rfl (lv_at hl 0 rfl) ?_
      refine lv_iconst (v := nI 2) hx hb d_M_isHead_35 (by decide) ?_
      refine hj_iadd hx hb d_M_isHead_36 ?_
      refine hj_bald hx hb hK hP 1 0 rfl rfl (by omega) (by decide) d_M_isHead_37 ?_
      refine lv_if_lt (tgt := 68) hx hb d_M_isHead_38 (by decide) (fun c_3 => ?_) (fun c_3 => ?_)
      · refine lv_iconst (v := nI 0) hx hb d_M_isHead_68 (by decide) ?_
        refine lv_istore_n (lv' := [(3, .int (nI 0)), (2, .int (nI (512 * b))), (0, .ref m0), (1, .int (nI b))]) hx hb d_M_isHead_69 rfl hl (by decide) rfl (fun ls hl => ?_)
        refine lv_iload_n hx hb d_M_isHead_70 rfl (lv_at hl 0 rfl) ?_
        refine hj_if_eq (tgt := 117) hx hb (by omega) d_M_isHead_71 (by decide) (fun c_9 => ?_) (fun c_9 => ?_)
        · refine lv_iconst (v := nI 0) hx hb d_M_isHead_117 (by decide) ?_
          exact hret (nI 0) () _ _ _ _ d_M_isHead_118 rfl (Or.inr ⟨fun q => by have h7 := (hj_sbn _ h2).mp c_3; have h6 := q.2.2.1; omega, rfl⟩) hP hK hD hS
        · omega
      · have e2 := fun q => c_3 ((hj_sbn _ h2).mpr q)
        refine lv_aload_n hx hb d_M_isHead_41 rfl (lv_at hl 1 rfl) ?_
        refine va_get (D := (dC, dI)) (ci := 3) (v := .ref da) (C := "HalfJournalModel") (T := F_M) (N := 15) hx hb hts i_M hown hK hP 0 rfl rfl 1 (by decide) (hts _ m_646) (fun _ h9 => h9) rfl d_M_isHead_42 ?_
        refine lv_iload_n hx hb d_M_isHead_45 rfl (lv_at hl 0 rfl) ?_
        refine lv_iconst (v := nI 2) hx hb d_M_isHead_46 (by decide) ?_
        refine hj_iadd hx hb d_M_isHead_47 ?_
        refine hj_bald hx hb hK hP 1 0 rfl rfl (by omega) (by decide) d_M_isHead_48 ?_
        refine lv_iconst (v := nI 2) hx hb d_M_isHead_49 (by decide) ?_
        refine lv_icmp_ge (tgt := 68) hx hb d_M_isHead_50 (by decide) (fun c_4 => ?_) (fun c_4 => ?_)
        · refine lv_iconst (v := nI 0) hx hb d_M_isHead_68 (by decide) ?_
          refine lv_istore_n (lv' := [(3, .int (nI 0)), (2, .int (nI (512 * b))), (0, .ref m0), (1, .int (nI b))]) hx hb d_M_isHead_69 rfl hl (by decide) rfl (fun ls hl => ?_)
          refine lv_iload_n hx hb d_M_isHead_70 rfl (lv_at hl 0 rfl) ?_
          refine hj_if_eq (tgt := 117) hx hb (by omega) d_M_isHead_71 (by decide) (fun c_9 => ?_) (fun c_9 => ?_)
          · refine lv_iconst (v := nI 0) hx hb d_M_isHead_117 (by decide) ?_
            exact hret (nI 0) () _ _ _ _ d_M_isHead_118 rfl (Or.inr ⟨fun q => by
              rcases hj_sb2 _ h2 with r | r
              · exact e2 r
              · have h7 := r.mp c_4; have h6 := q.2.2.1; omega, rfl⟩) hP hK hD hS
          · omega
        · have e3 : d (512 * b + 2) < 2 := by
            rcases hj_sb2 _ h2 with q | q
            · exact absurd q e2
            · exact Nat.not_le.mp (fun r => c_4 (q.mpr r))
          refine lv_aload_n hx hb d_M_isHead_53 rfl (lv_at hl 1 rfl) ?_
          refine va_get (D := (dC, dI)) (ci := 3) (v := .ref da) (C := "HalfJournalModel") (T := F_M) (N := 15) hx hb hts i_M hown hK hP 0 rfl rfl 1 (by decide) (hts _ m_646) (fun _ h9 => h9) rfl d_M_isHead_54 ?_
          refine lv_iload_n hx hb d_M_isHead_57 rfl (lv_at hl 0 rfl) ?_
          refine lv_iconst (v := nI 3) hx hb d_M_isHead_58 (by decide) ?_
          refine hj_iadd hx hb d_M_isHead_59 ?_
          refine hj_bald hx hb hK hP 1 0 rfl rfl (by omega) (by decide) d_M_isHead_60 ?_
          refine lv_if_ne (tgt := 68) hx hb d_M_isHead_61 (by decide) (fun c_5 => ?_) (fun c_5 => ?_)
          · refine lv_iconst (v := nI 0) hx hb d_M_isHead_68 (by decide) ?_
            refine lv_istore_n (lv' := [(3, .int (nI 0)), (2, .int (nI (512 * b))), (0, .ref m0), (1, .int (nI b))]) hx hb d_M_isHead_69 rfl hl (by decide) rfl (fun ls hl => ?_)
            refine lv_iload_n hx hb d_M_isHead_70 rfl (lv_at hl 0 rfl) ?_
            refine hj_if_eq (tgt := 117) hx hb (by omega) d_M_isHead_71 (by decide) (fun c_9 => ?_) (fun c_9 => ?_)
            · refine lv_iconst (v := nI 0) hx hb d_M_isHead_117 (by decide) ?_
              exact hret (nI 0) () _ _ _ _ d_M_isHead_118 rfl (Or.inr ⟨fun q => c_5 ((hj_sb0 _ h3).mpr q.2.2.2.1), rfl⟩) hP hK hD hS
            · omega
          · have e4 := (hj_sb0 _ h3).mp c_5
            refine lv_iconst (v := nI 1) hx hb d_M_isHead_64 (by decide) ?_
            refine lv_goto (tgt := 69) hx hb d_M_isHead_65 (by decide) ?_
            refine lv_istore_n (lv' := [(3, .int (nI 1)), (2, .int (nI (512 * b))), (0, .ref m0), (1, .int (nI b))]) hx hb d_M_isHead_69 rfl hl (by decide) rfl (fun ls hl => ?_)
            refine lv_iload_n hx hb d_M_isHead_70 rfl (lv_at hl 0 rfl) ?_
            refine hj_if_eq (tgt := 117) hx hb (by omega) d_M_isHead_71 (by decide) (fun c_8 => ?_) (fun c_8 => ?_)
            · omega
            · refine lv_aload_n hx hb d_M_isHead_74 rfl (lv_at hl 2 rfl) ?_
              refine va_get (D := (dC, dI)) (ci := 3) (v := .ref da) (C := "HalfJournalModel") (T := F_M) (N := 15) hx hb hts i_M hown hK hP 0 rfl rfl 1 (by decide) (hts _ m_646) (fun _ h9 => h9) rfl d_M_isHead_75 ?_
              refine lv_iload_n hx hb d_M_isHead_78 rfl (lv_at hl 1 rfl) ?_
              refine lv_iconst (v := nI 4) hx hb d_M_isHead_79 (by decide) ?_
              refine hj_iadd hx hb d_M_isHead_80 ?_
              refine hj_calli (wc := [(da, .inl (cD, 32768, .inl (hj_B d)))]) (wr := [(m0, .inr (3, [.int th, .ref da, .int (nI st), .int (nI g), .int (nI h), .int (nI us), .int (nI n), .ref ba, .ref ka, .ref ta, .int (nI tl), .int du, .int wr, .ref na, .ref ea]))]) [1] [0] hP hD hS hA rfl rfl rfl (by decide) (va_runS (As := [.ref da, .int (nI ((512 * b) + 4))]) (rest := []) ⟨hx, hb, hml, hown, hts⟩ (c_M_four l dC dI da cD 32768 d (512 * b + 4) (by omega) (by omega) hd s.heap.size) (cwS 2 hts (hj_gS m_707 m_708 m_4 m_709) rfl rfl rfl (by decide +kernel) ⟨Nat.le_of_ble_eq_true rfl, Nat.le_of_ble_eq_true rfl⟩) (hj_preS hj_E0ok hE hP hD hK hS hA [1] rfl rfl [0] rfl) rfl rfl hl.1 rfl (lv_room (Nat.le_of_ble_eq_true rfl)) d_M_isHead_81 ⟨Nat.le_of_ble_eq_true rfl, Nat.le_of_ble_eq_true rfl⟩) (fun r_1 u_2 H locs hw hP hD hK1 hS => ?_)
              subst hw
              have hP : va_P (dC, dI) vwCl [(m0, .inr (3, [.int th, .ref da, .int (nI st), .int (nI g), .int (nI h), .int (nI us), .int (nI n), .ref ba, .ref ka, .ref ta, .int (nI tl), .int du, .int wr, .ref na, .ref ea])), (da, .inl (cD, 32768, .inl (hj_B d)))] H := hP.sub [0, 1] rfl
              have hD : va_D A [(m0, .inr (3, [.int th, .ref da, .int (nI st), .int (nI g), .int (nI h), .int (nI us), .int (nI n), .ref ba, .ref ka, .ref ta, .int (nI tl), .int du, .int wr, .ref na, .ref ea])), (da, .inl (cD, 32768, .inl (hj_B d)))] := hD.sub [0, 1] (by decide) rfl
              have hf4 := hj_four_lt hd (512 * b + 4)
              refine lv_if_le (tgt := 117) hx hb d_M_isHead_84 (by decide) (fun c_6 => ?_) (fun c_6 => ?_)
              · refine lv_iconst (v := nI 0) hx hb d_M_isHead_117 (by decide) ?_
                exact hret (nI 0) () _ _ _ _ d_M_isHead_118 rfl (Or.inr ⟨fun q => by have h8 := (hj_le0 hf4).mp c_6; have h6 := q.2.2.2.2.1; have h7 := q.2.2.2.2.2.1; omega, rfl⟩) hP hK hD hS
              · have e5 : ¬ (hj_four d (512 * b + 4) = 0 ∨ 2 ^ 31 ≤ hj_four d (512 * b + 4)) := fun q => c_6 ((hj_le0 hf4).mpr q)
                refine lv_aload_n hx hb d_M_isHead_87 rfl (lv_at hl 2 rfl) ?_
                refine va_get (D := (dC, dI)) (ci := 3) (v := .ref da) (C := "HalfJournalModel") (T := F_M) (N := 15) hx hb hts i_M hown hK hP 0 rfl rfl 1 (by decide) (hts _ m_646) (fun _ h9 => h9) rfl d_M_isHead_88 ?_
                refine lv_iload_n hx hb d_M_isHead_91 rfl (lv_at hl 1 rfl) ?_
                refine lv_bipush (v := nI 8) hx hb d_M_isHead_92 (by decide) ?_
                refine hj_iadd hx hb d_M_isHead_94 ?_
                refine hj_calli (wc := [(da, .inl (cD, 32768, .inl (hj_B d)))]) (wr := [(m0, .inr (3, [.int th, .ref da, .int (nI st), .int (nI g), .int (nI h), .int (nI us), .int (nI n), .ref ba, .ref ka, .ref ta, .int (nI tl), .int du, .int wr, .ref na, .ref ea]))]) [1] [0] hP hD hS hA rfl rfl rfl (by decide) (va_runS (As := [.ref da, .int (nI ((512 * b) + 8))]) (rest := []) ⟨hx, hb, hml, hown, hts⟩ (c_M_four l dC dI da cD 32768 d (512 * b + 8) (by omega) (by omega) hd H.size) (cwS 2 hts (hj_gS m_707 m_708 m_4 m_709) rfl rfl rfl (by decide +kernel) ⟨Nat.le_of_ble_eq_true rfl, Nat.le_of_ble_eq_true rfl⟩) (hj_preS hj_E0ok hE hP hD hK hS hA [1] rfl rfl [0] rfl) rfl rfl hl.1 rfl (lv_room (Nat.le_of_ble_eq_true rfl)) d_M_isHead_95 ⟨Nat.le_of_ble_eq_true rfl, Nat.le_of_ble_eq_true rfl⟩) (fun r_3 u_4 H locs hw hP hD hK1 hS => ?_)
                subst hw
                have hP : va_P (dC, dI) vwCl [(m0, .inr (3, [.int th, .ref da, .int (nI st), .int (nI g), .int (nI h), .int (nI us), .int (nI n), .ref ba, .ref ka, .ref ta, .int (nI tl), .int du, .int wr, .ref na, .ref ea])), (da, .inl (cD, 32768, .inl (hj_B d)))] H := hP.sub [0, 1] rfl
                have hD : va_D A [(m0, .inr (3, [.int th, .ref da, .int (nI st), .int (nI g), .int (nI h), .int (nI us), .int (nI n), .ref ba, .ref ka, .ref ta, .int (nI tl), .int du, .int wr, .ref na, .ref ea])), (da, .inl (cD, 32768, .inl (hj_B d)))] := hD.sub [0, 1] (by decide) rfl
                refine lv_aload_n hx hb d_M_isHead_98 rfl (lv_at hl 2 rfl) ?_
                refine va_get (D := (dC, dI)) (ci := 3) (v := .ref da) (C := "HalfJournalModel") (T := F_M) (N := 15) hx hb hts i_M hown hK hP 0 rfl rfl 1 (by decide) (hts _ m_646) (fun _ h9 => h9) rfl d_M_isHead_99 ?_
                refine lv_iload_n hx hb d_M_isHead_102 rfl (lv_at hl 1 rfl) ?_
                refine lv_iload_n hx hb d_M_isHead_103 rfl (lv_at hl 1 rfl) ?_
                refine lv_bipush (v := nI 8) hx hb d_M_isHead_104 (by decide) ?_
                refine hj_iadd hx hb d_M_isHead_106 ?_
                refine hj_calli (wc := [(da, .inl (cD, 32768, .inl (hj_B d)))]) (wr := [(m0, .inr (3, [.int th, .ref da, .int (nI st), .int (nI g), .int (nI h), .int (nI us), .int (nI n), .ref ba, .ref ka, .ref ta, .int (nI tl), .int du, .int wr, .ref na, .ref ea]))]) [1] [0] hP hD hS hA rfl rfl rfl (by decide) (va_runS (As := [.ref da, .int (nI (512 * b)), .int (nI ((512 * b) + 8))]) (rest := [.int (nI (hj_four d (512 * b + 8)))]) ⟨hx, hb, hml, hown, hts⟩ (c_M_checkOf l dC dI da cD 32768 d (512 * b) 8 (by omega) (by omega) hd H.size) (cwS 3 hts (hj_gS m_710 m_711 m_4 m_712) rfl rfl rfl (by decide +kernel) ⟨Nat.le_of_ble_eq_true rfl, Nat.le_of_ble_eq_true rfl⟩) (hj_preS hj_E0ok hE hP hD hK hS hA [1] rfl rfl [0] rfl) rfl rfl hl.1 rfl (lv_room (Nat.le_of_ble_eq_true rfl)) d_M_isHead_107 ⟨Nat.le_of_ble_eq_true rfl, Nat.le_of_ble_eq_true rfl⟩) (fun r_5 u_6 H locs hw hP hD hK1 hS => ?_)
                subst hw
                have hP : va_P (dC, dI) vwCl [(m0, .inr (3, [.int th, .ref da, .int (nI st), .int (nI g), .int (nI h), .int (nI us), .int (nI n), .ref ba, .ref ka, .ref ta, .int (nI tl), .int du, .int wr, .ref na, .ref ea])), (da, .inl (cD, 32768, .inl (hj_B d)))] H := hP.sub [0, 1] rfl
                have hD : va_D A [(m0, .inr (3, [.int th, .ref da, .int (nI st), .int (nI g), .int (nI h), .int (nI us), .int (nI n), .ref ba, .ref ka, .ref ta, .int (nI tl), .int du, .int wr, .ref na, .ref ea])), (da, .inl (cD, 32768, .inl (hj_B d)))] := hD.sub [0, 1] (by decide) rfl
                refine hj_icmp_ne (tgt := 117) hx hb (by first | exact hj_four_lt hd _ | exact hj_chk_lt hd _ _) (by first | exact hj_four_lt hd _ | exact hj_chk_lt hd _ _) d_M_isHead_110 (by decide) (fun c_7 => ?_) (fun c_7 => ?_)
                · refine lv_iconst (v := nI 0) hx hb d_M_isHead_117 (by decide) ?_
                  exact hret (nI 0) () _ _ _ _ d_M_isHead_118 rfl (Or.inr ⟨fun q => c_7 q.2.2.2.2.2.2, rfl⟩) hP hK hD hS
                · refine lv_iconst (v := nI 1) hx hb d_M_isHead_113 (by decide) ?_
                  refine lv_goto (tgt := 118) hx hb d_M_isHead_114 (by decide) ?_
                  exact hret (nI 1) () _ _ _ _ d_M_isHead_118 rfl (Or.inl ⟨⟨e0, e1, e3, e4, by omega, by omega, c_7⟩, rfl⟩) hP hK hD hS
abbrev rm_M_recordAt : Room := { frames := 16, cells := 0, slots := 0, locals := 200 }
set_option maxHeartbeats 4000000 in
set_option maxRecDepth 100000 in
theorem c_M_recordAt (l : Launch) (dC : Nat → ClassId) (dI : Nat → Nat → Nat) (m0 da ba ka ta na ea : Nat) (th : Int32) (st g h us n tl : Nat) (du wr : Int32) (cD : ClassId) (d : Nat → Nat) (o : Nat) (hh : h < 2) (ho : o ≤ 15872) (hd : hj_bs d) : hj_Mi l y_M_recordAt b_M_recordAt 4 .int rm_M_recordAt hj_E0 (dC, dI) vwCl [(cD, .byte)] [(m0, .inr (3, [.int th, .ref da, .int (nI st), .int (nI g), .int (nI h), .int (nI us), .int (nI n), .ref ba, .ref ka, .ref ta, .int (nI tl), .int du, .int wr, .ref na, .ref ea])), (da, .inl (cD, 32768, .inl (hj_B d)))] [.ref m0, .int (nI o)] (fun r _ => r = nI (hj_rl d h o)) (fun _ : Unit => [(m0, .inr (3, [.int th, .ref da, .int (nI st), .int (nI g), .int (nI h), .int (nI us), .int (nI n), .ref ba, .ref ka, .ref ta, .int (nI tl), .int du, .int wr, .ref na, .ref ea])), (da, .inl (cD, 32768, .inl (hj_B d)))]) (fun _ => [(cD, .byte)]) 0 0 := by
  refine hj_bodyI (by decide +kernel) (Nat.le_of_ble_eq_true rfl) ?_
  intro p e s m args below meth c A Q ls hx hb hts hown hml hA hP hK hD hE hl hret
  have hS : va_S A s.heap s.heap [] := va_S.rf
  have hown : s.vm.findClass "HalfJournalModel" = some m.cls := hown
  have hl : lv_has ls 4 [(0, .ref m0), (1, .int (nI o))] := hl
  have hP : va_P (dC, dI) vwCl [(m0, .inr (3, [.int th, .ref da, .int (nI st), .int (nI g), .int (nI h), .int (nI us), .int (nI n), .ref ba, .ref ka, .ref ta, .int (nI tl), .int du, .int wr, .ref na, .ref ea])), (da, .inl (cD, 32768, .inl (hj_B d)))] s.heap := hP
  have hD : va_D A [(m0, .inr (3, [.int th, .ref da, .int (nI st), .int (nI g), .int (nI h), .int (nI us), .int (nI n), .ref ba, .ref ka, .ref ta, .int (nI tl), .int du, .int wr, .ref na, .ref ea])), (da, .inl (cD, 32768, .inl (hj_B d)))] := hD
  have hhb := hj_hb_le hh
  refine lv_iload_n hx hb d_M_recordAt_0 rfl (lv_at hl 1 rfl) ?_
  refine lv_iconst (v := nI 2) hx hb d_M_recordAt_1 (by decide) ?_
  refine hj_iadd hx hb d_M_recordAt_2 ?_
  refine lv_sipush (v := nI 15872) hx hb d_M_recordAt_3 (by decide) ?_
  refine hj_icmp_le (tgt := 11) hx hb (by omega) (by omega) d_M_recordAt_6 (by decide) (fun c_1 => ?_) (fun c_1 => ?_)
  · have h0 := hd (hj_hb h + o)
    have h1 := hd (hj_hb h + o + 1)
    refine lv_aload_n hx hb d_M_recordAt_11 rfl (lv_at hl 0 rfl) ?_
    refine va_get (D := (dC, dI)) (ci := 3) (v := .int (nI h)) (C := "HalfJournalModel") (T := F_M) (N := 15) hx hb hts i_M hown hK hP 0 rfl rfl 4 (by decide) (hts _ m_649) (fun _ h9 => h9) rfl d_M_recordAt_12 ?_
    refine hj_calli (wc := []) (wr := [(m0, .inr (3, [.int th, .ref da, .int (nI st), .int (nI g), .int (nI h), .int (nI us), .int (nI n), .ref ba, .ref ka, .ref ta, .int (nI tl), .int du, .int wr, .ref na, .ref ea])), (da, .inl (cD, 32768, .inl (hj_B d)))]) [] [0, 1] hP hD hS hA rfl rfl rfl (by decide) (va_runS (As := [.int (nI h)]) (rest := []) ⟨hx, hb, hml, hown, hts⟩ (c_M_begin l dC dI h hh s.heap.size) (cwS 1 hts (hj_gS m_726 m_727 m_4 m_728) rfl rfl rfl (by decide +kernel) ⟨Nat.le_of_ble_eq_true rfl, Nat.le_of_ble_eq_true rfl⟩) (hj_preS hj_E0ok hE hP hD hK hS hA [] rfl rfl [] rfl) rfl rfl hl.1 rfl (lv_room (Nat.le_of_ble_eq_true rfl)) d_M_recordAt_15 ⟨Nat.le_of_ble_eq_true rfl, Nat.le_of_ble_eq_true rfl⟩) (fun r_1 u_2 H locs hw hP hD hK1 hS => ?_)
    subst hw
    have hP : va_P (dC, dI) vwCl [(m0, .inr (3, [.int th, .ref da, .int (nI st), .int (nI g), .int (nI h), .int (nI us), .int (nI n), .ref ba, .ref ka, .ref ta, .int (nI tl), .int du, .int wr, .ref na, .ref ea])), (da, .inl (cD, 32768, .inl (hj_B d)))] H := hP.sub [0, 1] rfl
    have hD : va_D A [(m0, .inr (3, [.int th, .ref da, .int (nI st), .int (nI g), .int (nI h), .int (nI us), .int (nI n), .ref ba, .ref ka, .ref ta, .int (nI tl), .int du, .int wr, .ref na, .ref ea])), (da, .inl (cD, 32768, .inl (hj_B d)))] := hD.sub [0, 1] (by decide) rfl
    refine lv_iload_n hx hb d_M_recordAt_18 rfl (lv_at hl 1 rfl) ?_
    refine hj_iadd hx hb d_M_recordAt_19 ?_
    refine lv_istore_n (lv' := [(2, .int (nI ((hj_hb h) + o))), (0, .ref m0), (1, .int (nI o))]) hx hb d_M_recordAt_20 rfl hl (by decide) rfl (fun ls hl => ?_)
    refine lv_aload_n hx hb d_M_recordAt_21 rfl (lv_at hl 1 rfl) ?_
    refine va_get (D := (dC, dI)) (ci := 3) (v := .ref da) (C := "HalfJournalModel") (T := F_M) (N := 15) hx hb hts i_M hown hK hP 0 rfl rfl 1 (by decide) (hts _ m_646) (fun _ h9 => h9) rfl d_M_recordAt_22 ?_
    refine lv_iload_n hx hb d_M_recordAt_25 rfl (lv_at hl 0 rfl) ?_
    refine hj_bald hx hb hK hP 1 0 rfl rfl (by omega) (by decide) d_M_recordAt_26 ?_
    refine lv_sipush (v := nI 255) hx hb d_M_recordAt_27 (by decide) ?_
    refine hj_band hx hb (by first | assumption | exact hd _ | omega) d_M_recordAt_30 ?_
    refine lv_sipush (v := nI 256) hx hb d_M_recordAt_31 (by decide) ?_
    refine lv_aload_n hx hb d_M_recordAt_34 rfl (lv_at hl 1 rfl) ?_
    refine va_get (D := (dC, dI)) (ci := 3) (v := .ref da) (C := "HalfJournalModel") (T := F_M) (N := 15) hx hb hts i_M hown hK hP 0 rfl rfl 1 (by decide) (hts _ m_646) (fun _ h9 => h9) rfl d_M_recordAt_35 ?_
    refine lv_iload_n hx hb d_M_recordAt_38 rfl (lv_at hl 0 rfl) ?_
    refine lv_iconst (v := nI 1) hx hb d_M_recordAt_39 (by decide) ?_
    refine hj_iadd hx hb d_M_recordAt_40 ?_
    refine hj_bald hx hb hK hP 1 0 rfl rfl (by omega) (by decide) d_M_recordAt_41 ?_
    refine lv_sipush (v := nI 255) hx hb d_M_recordAt_42 (by decide) ?_
    refine hj_band hx hb (by first | assumption | exact hd _ | omega) d_M_recordAt_45 ?_
    refine hj_imul hx hb d_M_recordAt_46 ?_
    refine hj_iadd hx hb d_M_recordAt_47 ?_
    obtain ⟨x, hxx⟩ : ∃ x, x = hj_len d (hj_hb h + o) := ⟨_, rfl⟩
    have hx16 : x < 65536 := by rw [hxx]; exact hj_len_lt hd _
    refine hj_topn (b := x) (hxx.symm) ?_
    refine lv_istore_n (lv' := [(3, .int (nI x)), (2, .int (nI ((hj_hb h) + o))), (0, .ref m0), (1, .int (nI o))]) hx hb d_M_recordAt_48 rfl hl (by decide) rfl (fun ls hl => ?_)
    refine lv_iload_n hx hb d_M_recordAt_49 rfl (lv_at hl 0 rfl) ?_
    refine lv_iconst (v := nI 1) hx hb d_M_recordAt_50 (by decide) ?_
    refine hj_icmp_lt (tgt := 73) hx hb (by omega) (by omega) d_M_recordAt_51 (by decide) (fun c_3 => ?_) (fun c_3 => ?_)
    · refine lv_iconst (v := nI 0) hx hb d_M_recordAt_73 (by decide) ?_
      exact hret (nI 0) () _ _ _ _ d_M_recordAt_74 rfl (by rw [hj_rl_no (fun q => by have h7 := q.2.1; rw [← hxx] at h7; omega)]) hP hK hD hS
    · refine lv_iload_n hx hb d_M_recordAt_54 rfl (lv_at hl 0 rfl) ?_
      refine lv_sipush (v := nI 1000) hx hb d_M_recordAt_55 (by decide) ?_
      refine hj_icmp_gt (tgt := 73) hx hb (by omega) (by omega) d_M_recordAt_58 (by decide) (fun c_4 => ?_) (fun c_4 => ?_)
      · refine lv_iconst (v := nI 0) hx hb d_M_recordAt_73 (by decide) ?_
        exact hret (nI 0) () _ _ _ _ d_M_recordAt_74 rfl (by rw [hj_rl_no (fun q => by have h7 := q.2.2.1; rw [← hxx] at h7; omega)]) hP hK hD hS
      · refine lv_iload_n hx hb d_M_recordAt_61 rfl (lv_at hl 3 rfl) ?_
        refine lv_iload_n hx hb d_M_recordAt_62 rfl (lv_at hl 0 rfl) ?_
        refine hj_calli (wc := []) (wr := [(m0, .inr (3, [.int th, .ref da, .int (nI st), .int (nI g), .int (nI h), .int (nI us), .int (nI n), .ref ba, .ref ka, .ref ta, .int (nI tl), .int du, .int wr, .ref na, .ref ea])), (da, .inl (cD, 32768, .inl (hj_B d)))]) [] [0, 1] hP hD hS hA rfl rfl rfl (by decide) (va_runS (As := [.int (nI x)]) (rest := [.int (nI o)]) ⟨hx, hb, hml, hown, hts⟩ (c_M_sizeOf l dC dI x (by omega) H.size) (cwS 1 hts (hj_gS m_729 m_730 m_4 m_731) rfl rfl rfl (by decide +kernel) ⟨Nat.le_of_ble_eq_true rfl, Nat.le_of_ble_eq_true rfl⟩) (hj_preS hj_E0ok hE hP hD hK hS hA [] rfl rfl [] rfl) rfl rfl hl.1 rfl (lv_room (Nat.le_of_ble_eq_true rfl)) d_M_recordAt_63 ⟨Nat.le_of_ble_eq_true rfl, Nat.le_of_ble_eq_true rfl⟩) (fun r_3 u_4 H locs hw hP hD hK1 hS => ?_)
        subst hw
        have hP : va_P (dC, dI) vwCl [(m0, .inr (3, [.int th, .ref da, .int (nI st), .int (nI g), .int (nI h), .int (nI us), .int (nI n), .ref ba, .ref ka, .ref ta, .int (nI tl), .int du, .int wr, .ref na, .ref ea])), (da, .inl (cD, 32768, .inl (hj_B d)))] H := hP.sub [0, 1] rfl
        have hD : va_D A [(m0, .inr (3, [.int th, .ref da, .int (nI st), .int (nI g), .int (nI h), .int (nI us), .int (nI n), .ref ba, .ref ka, .ref ta, .int (nI tl), .int du, .int wr, .ref na, .ref ea])), (da, .inl (cD, 32768, .inl (hj_B d)))] := hD.sub [0, 1] (by decide) rfl
        have hsz6 : hj_sz x = 6 + x + x % 2 := rfl
        refine hj_iadd hx hb d_M_recordAt_66 ?_
        refine lv_sipush (v := nI 15872) hx hb d_M_recordAt_67 (by decide) ?_
        refine hj_icmp_le (tgt := 75) hx hb (by omega) (by omega) d_M_recordAt_70 (by decide) (fun c_5 => ?_) (fun c_5 => ?_)
        · refine lv_aload_n hx hb d_M_recordAt_75 rfl (lv_at hl 2 rfl) ?_
          refine va_get (D := (dC, dI)) (ci := 3) (v := .ref da) (C := "HalfJournalModel") (T := F_M) (N := 15) hx hb hts i_M hown hK hP 0 rfl rfl 1 (by decide) (hts _ m_646) (fun _ h9 => h9) rfl d_M_recordAt_76 ?_
          refine lv_iload_n hx hb d_M_recordAt_79 rfl (lv_at hl 1 rfl) ?_
          refine lv_iconst (v := nI 2) hx hb d_M_recordAt_80 (by decide) ?_
          refine hj_iadd hx hb d_M_recordAt_81 ?_
          refine lv_iload_n hx hb d_M_recordAt_82 rfl (lv_at hl 0 rfl) ?_
          refine hj_iadd hx hb d_M_recordAt_83 ?_
          refine hj_calli (wc := [(da, .inl (cD, 32768, .inl (hj_B d)))]) (wr := [(m0, .inr (3, [.int th, .ref da, .int (nI st), .int (nI g), .int (nI h), .int (nI us), .int (nI n), .ref ba, .ref ka, .ref ta, .int (nI tl), .int du, .int wr, .ref na, .ref ea]))]) [1] [0] hP hD hS hA rfl rfl rfl (by decide) (va_runS (As := [.ref da, .int (nI ((((hj_hb h) + o) + 2) + x))]) (rest := []) ⟨hx, hb, hml, hown, hts⟩ (c_M_four l dC dI da cD 32768 d (hj_hb h + o + 2 + x) (by omega) (by omega) hd H.size) (cwS 2 hts (hj_gS m_707 m_708 m_4 m_709) rfl rfl rfl (by decide +kernel) ⟨Nat.le_of_ble_eq_true rfl, Nat.le_of_ble_eq_true rfl⟩) (hj_preS hj_E0ok hE hP hD hK hS hA [1] rfl rfl [0] rfl) rfl rfl hl.1 rfl (lv_room (Nat.le_of_ble_eq_true rfl)) d_M_recordAt_84 ⟨Nat.le_of_ble_eq_true rfl, Nat.le_of_ble_eq_true rfl⟩) (fun r_5 u_6 H locs hw hP hD hK1 hS => ?_)
          subst hw
          have hP : va_P (dC, dI) vwCl [(m0, .inr (3, [.int th, .ref da, .int (nI st), .int (nI g), .int (nI h), .int (nI us), .int (nI n), .ref ba, .ref ka, .ref ta, .int (nI tl), .int du, .int wr, .ref na, .ref ea])), (da, .inl (cD, 32768, .inl (hj_B d)))] H := hP.sub [0, 1] rfl
          have hD : va_D A [(m0, .inr (3, [.int th, .ref da, .int (nI st), .int (nI g), .int (nI h), .int (nI us), .int (nI n), .ref ba, .ref ka, .ref ta, .int (nI tl), .int du, .int wr, .ref na, .ref ea])), (da, .inl (cD, 32768, .inl (hj_B d)))] := hD.sub [0, 1] (by decide) rfl
          refine lv_aload_n hx hb d_M_recordAt_87 rfl (lv_at hl 2 rfl) ?_
          refine va_get (D := (dC, dI)) (ci := 3) (v := .ref da) (C := "HalfJournalModel") (T := F_M) (N := 15) hx hb hts i_M hown hK hP 0 rfl rfl 1 (by decide) (hts _ m_646) (fun _ h9 => h9) rfl d_M_recordAt_88 ?_
          refine lv_iload_n hx hb d_M_recordAt_91 rfl (lv_at hl 1 rfl) ?_
          refine lv_iload_n hx hb d_M_recordAt_92 rfl (lv_at hl 1 rfl) ?_
          refine lv_iconst (v := nI 2) hx hb d_M_recordAt_93 (by decide) ?_
          refine hj_iadd hx hb d_M_recordAt_94 ?_
          refine lv_iload_n hx hb d_M_recordAt_95 rfl (lv_at hl 0 rfl) ?_
          refine hj_iadd hx hb d_M_recordAt_96 ?_
          refine hj_topn (b := hj_hb h + o + (2 + x)) (by omega) ?_
          refine hj_calli (wc := [(da, .inl (cD, 32768, .inl (hj_B d)))]) (wr := [(m0, .inr (3, [.int th, .ref da, .int (nI st), .int (nI g), .int (nI h), .int (nI us), .int (nI n), .ref ba, .ref ka, .ref ta, .int (nI tl), .int du, .int wr, .ref na, .ref ea]))]) [1] [0] hP hD hS hA rfl rfl rfl (by decide) (va_runS (As := [.ref da, .int (nI ((hj_hb h) + o)), .int (nI (hj_hb h + o + (2 + x)))]) (rest := [.int (nI (hj_four d (hj_hb h + o + 2 + x)))]) ⟨hx, hb, hml, hown, hts⟩ (c_M_checkOf l dC dI da cD 32768 d (hj_hb h + o) (2 + x) (by omega) (by omega) hd H.size) (cwS 3 hts (hj_gS m_710 m_711 m_4 m_712) rfl rfl rfl (by decide +kernel) ⟨Nat.le_of_ble_eq_true rfl, Nat.le_of_ble_eq_true rfl⟩) (hj_preS hj_E0ok hE hP hD hK hS hA [1] rfl rfl [0] rfl) rfl rfl hl.1 rfl (lv_room (Nat.le_of_ble_eq_true rfl)) d_M_recordAt_97 ⟨Nat.le_of_ble_eq_true rfl, Nat.le_of_ble_eq_true rfl⟩) (fun r_7 u_8 H locs hw hP hD hK1 hS => ?_)
          subst hw
          have hP : va_P (dC, dI) vwCl [(m0, .inr (3, [.int th, .ref da, .int (nI st), .int (nI g), .int (nI h), .int (nI us), .int (nI n), .ref ba, .ref ka, .ref ta, .int (nI tl), .int du, .int wr, .ref na, .ref ea])), (da, .inl (cD, 32768, .inl (hj_B d)))] H := hP.sub [0, 1] rfl
          have hD : va_D A [(m0, .inr (3, [.int th, .ref da, .int (nI st), .int (nI g), .int (nI h), .int (nI us), .int (nI n), .ref ba, .ref ka, .ref ta, .int (nI tl), .int du, .int wr, .ref na, .ref ea])), (da, .inl (cD, 32768, .inl (hj_B d)))] := hD.sub [0, 1] (by decide) rfl
          refine hj_icmp_ne (tgt := 107) hx hb (by first | exact hj_four_lt hd _ | exact hj_chk_lt hd _ _) (by first | exact hj_four_lt hd _ | exact hj_chk_lt hd _ _) d_M_recordAt_100 (by decide) (fun c_6 => ?_) (fun c_6 => ?_)
          · refine lv_iconst (v := nI 0) hx hb d_M_recordAt_107 (by decide) ?_
            exact hret (nI 0) () _ _ _ _ d_M_recordAt_108 rfl (by rw [hj_rl_no (fun q => c_6 (by have h7 := q.2.2.2.2; rw [← hxx] at h7; exact h7))]) hP hK hD hS
          · refine lv_iload_n hx hb d_M_recordAt_103 rfl (lv_at hl 0 rfl) ?_
            refine lv_goto (tgt := 108) hx hb d_M_recordAt_104 (by decide) ?_
            exact hret (nI x) () _ _ _ _ d_M_recordAt_108 rfl (by rw [hj_rl_ok (show hj_ok d h o from ⟨by omega, by rw [← hxx]; omega, by rw [← hxx]; omega, by rw [← hxx]; omega, by rw [← hxx]; exact c_6⟩), ← hxx]) hP hK hD hS
        · refine lv_iconst (v := nI 0) hx hb d_M_recordAt_73 (by decide) ?_
          exact hret (nI 0) () _ _ _ _ d_M_recordAt_74 rfl (by rw [hj_rl_no (fun q => by have h7 := q.2.2.2.1; rw [← hxx] at h7; omega)]) hP hK hD hS
  · refine lv_iconst (v := nI 0) hx hb d_M_recordAt_9 (by decide) ?_
    exact hret (nI 0) () _ _ _ _ d_M_recordAt_10 rfl (by rw [hj_rl_end (by omega)]) hP hK hD hS
abbrev rm_M_findRecords : Room := { frames := 24, cells := 0, slots := 0, locals := 300 }
set_option maxHeartbeats 4000000 in
set_option maxRecDepth 100000 in
theorem c_M_findRecords (l : Launch) (dC : Nat → ClassId) (dI : Nat → Nat → Nat) (m0 da ba ka ta na ea : Nat) (th : Int32) (st g h us n tl : Nat) (du wr : Int32) (cD : ClassId) (d : Nat → Nat) (cB : ClassId) (fb : Nat → Int32) (hh : h < 2) (hd : hj_bs d) : hj_Mv l y_M_findRecords b_M_findRecords 2 rm_M_findRecords hj_E0 (dC, dI) vwCl [(cD, .byte), (cB, .int)] [(m0, .inr (3, [.int th, .ref da, .int (nI st), .int (nI g), .int (nI h), .int (nI us), .int (nI n), .ref ba, .ref ka, .ref ta, .int (nI tl), .int du, .int wr, .ref na, .ref ea])), (da, .inl (cD, 32768, .inl (hj_B d))), (ba, .inl (cB, 2000, .inl fb))] [.ref m0] (fun y => ∀ i, i < hj_N d h → y i = nI (hj_pos d h i)) (fun y : Nat → Int32 => [(m0, .inr (3, [.int th, .ref da, .int (nI st), .int (nI g), .int (nI h), .int (nI (hj_pos d h (hj_N d h))), .int (nI (hj_N d h)), .ref ba, .ref ka, .ref ta, .int (nI tl), .int du, .int wr, .ref na, .ref ea])), (da, .inl (cD, 32768, .inl (hj_B d))), (ba, .inl (cB, 2000, .inl y))]) (fun _ => [(cD, .byte), (cB, .int)]) 0 0 := by
  refine hj_bodyV (by decide +kernel) (Nat.le_of_ble_eq_true rfl) ?_
  intro p e s m args below meth c A Q ls hx hb hts hown hml hin hA hP hK hD hE hl hret
  have hS : va_S A s.heap s.heap [] := va_S.rf
  have hown : s.vm.findClass "HalfJournalModel" = some m.cls := hown
  have hl : lv_has ls 2 [(0, .ref m0)] := hl
  have hP : va_P (dC, dI) vwCl [(m0, .inr (3, [.int th, .ref da, .int (nI st), .int (nI g), .int (nI h), .int (nI us), .int (nI n), .ref ba, .ref ka, .ref ta, .int (nI tl), .int du, .int wr, .ref na, .ref ea])), (da, .inl (cD, 32768, .inl (hj_B d))), (ba, .inl (cB, 2000, .inl fb))] s.heap := hP
  have hD : va_D A [(m0, .inr (3, [.int th, .ref da, .int (nI st), .int (nI g), .int (nI h), .int (nI us), .int (nI n), .ref ba, .ref ka, .ref ta, .int (nI tl), .int du, .int wr, .ref na, .ref ea])), (da, .inl (cD, 32768, .inl (hj_B d))), (ba, .inl (cB, 2000, .inl fb))] := hD
  refine lv_aload_n hx hb d_M_findRecords_0 rfl (lv_at hl 0 rfl) ?_
  refine lv_iconst (v := nI 0) hx hb d_M_findRecords_1 (by decide) ?_
  refine va_put (D := (dC, dI)) (ci := 3) (v := .int (nI 0)) (ty := (.int)) (C := "HalfJournalModel") (T := F_M) (N := 15) hx hb hts i_M t_M t_M_ok n_M hown hK hP hD hS 0 rfl rfl 6 (by decide) (hts _ m_651) (fun _ h9 => h9) rfl (by decide +kernel) rfl rfl (Nat.le_of_ble_eq_true rfl) d_M_findRecords_2 (fun H locs hP hD hS => ?_)
  have hP : va_P (dC, dI) vwCl [(m0, .inr (3, [.int th, .ref da, .int (nI st), .int (nI g), .int (nI h), .int (nI us), .int (nI 0), .ref ba, .ref ka, .ref ta, .int (nI tl), .int du, .int wr, .ref na, .ref ea])), (da, .inl (cD, 32768, .inl (hj_B d))), (ba, .inl (cB, 2000, .inl fb))] H := hP
  have hD : va_D A [(m0, .inr (3, [.int th, .ref da, .int (nI st), .int (nI g), .int (nI h), .int (nI us), .int (nI 0), .ref ba, .ref ka, .ref ta, .int (nI tl), .int du, .int wr, .ref na, .ref ea])), (da, .inl (cD, 32768, .inl (hj_B d))), (ba, .inl (cB, 2000, .inl fb))] := hD
  refine lv_aload_n hx hb d_M_findRecords_5 rfl (lv_at hl 0 rfl) ?_
  refine lv_iconst (v := nI 0) hx hb d_M_findRecords_6 (by decide) ?_
  refine va_put (D := (dC, dI)) (ci := 3) (v := .int (nI 0)) (ty := (.int)) (C := "HalfJournalModel") (T := F_M) (N := 15) hx hb hts i_M t_M t_M_ok n_M hown hK hP hD hS 0 rfl rfl 5 (by decide) (hts _ m_650) (fun _ h9 => h9) rfl (by decide +kernel) rfl rfl (Nat.le_of_ble_eq_true rfl) d_M_findRecords_7 (fun H locs hP hD hS => ?_)
  have hP : va_P (dC, dI) vwCl [(m0, .inr (3, [.int th, .ref da, .int (nI st), .int (nI g), .int (nI h), .int (nI 0), .int (nI 0), .ref ba, .ref ka, .ref ta, .int (nI tl), .int du, .int wr, .ref na, .ref ea])), (da, .inl (cD, 32768, .inl (hj_B d))), (ba, .inl (cB, 2000, .inl fb))] H := hP
  have hD : va_D A [(m0, .inr (3, [.int th, .ref da, .int (nI st), .int (nI g), .int (nI h), .int (nI 0), .int (nI 0), .ref ba, .ref ka, .ref ta, .int (nI tl), .int du, .int wr, .ref na, .ref ea])), (da, .inl (cD, 32768, .inl (hj_B d))), (ba, .inl (cB, 2000, .inl fb))] := hD
  refine lv_aload_n hx hb d_M_findRecords_10 rfl (lv_at hl 0 rfl) ?_
  refine lv_iconst (v := nI 0) hx hb d_M_findRecords_11 (by decide) ?_
  refine hj_calli (wc := [(m0, .inr (3, [.int th, .ref da, .int (nI st), .int (nI g), .int (nI h), .int (nI 0), .int (nI 0), .ref ba, .ref ka, .ref ta, .int (nI tl), .int du, .int wr, .ref na, .ref ea])), (da, .inl (cD, 32768, .inl (hj_B d)))]) (wr := [(ba, .inl (cB, 2000, .inl fb))]) [0, 1] [2] hP hD hS hA rfl rfl rfl (by decide) (va_runV (As := [.int (nI 0)]) (rest := []) ⟨hx, hb, hml, hown, hts⟩ (c_M_recordAt l dC dI m0 da ba ka ta na ea th st g h 0 0 tl du wr cD d 0 hh (by omega) hd H.size) (cwV 1 hts (hj_gV m_722 m_724 s_M_recordAt m_4 m_725) rfl rfl rfl (by decide +kernel) ⟨Nat.le_of_ble_eq_true rfl, Nat.le_of_ble_eq_true rfl⟩) (hj_preV (ci := 3) (q0 := 0) hj_E0ok hE hP hD hK hS hA [0, 1] rfl rfl [0] rfl rfl rfl) rfl rfl hl.1 rfl (lv_room (Nat.le_of_ble_eq_true rfl)) d_M_findRecords_12 ⟨Nat.le_of_ble_eq_true rfl, Nat.le_of_ble_eq_true rfl⟩) (fun r_1 u_2 H locs hw hP hD hK1 hS => ?_)
  subst hw
  have hP : va_P (dC, dI) vwCl [(m0, .inr (3, [.int th, .ref da, .int (nI st), .int (nI g), .int (nI h), .int (nI 0), .int (nI 0), .ref ba, .ref ka, .ref ta, .int (nI tl), .int du, .int wr, .ref na, .ref ea])), (da, .inl (cD, 32768, .inl (hj_B d))), (ba, .inl (cB, 2000, .inl fb))] H := hP.sub [1, 2, 0] rfl
  have hD : va_D A [(m0, .inr (3, [.int th, .ref da, .int (nI st), .int (nI g), .int (nI h), .int (nI 0), .int (nI 0), .ref ba, .ref ka, .ref ta, .int (nI tl), .int du, .int wr, .ref na, .ref ea])), (da, .inl (cD, 32768, .inl (hj_B d))), (ba, .inl (cB, 2000, .inl fb))] := hD.sub [1, 2, 0] (by decide) rfl
  refine hj_topn (b := hj_rl d h (hj_pos d h 0)) (rfl) ?_
  refine lv_istore_n (lv' := [(1, .int (nI (hj_rl d h (hj_pos d h 0)))), (0, .ref m0)]) hx hb d_M_findRecords_15 rfl hl (by decide) rfl (fun ls hl => ?_)
  have lp : ∀ (n9_lp : Nat) (i : Nat) (fb : Nat → Int32), (∀ k, k < i → 0 < hj_rl d h (hj_pos d h k)) → (∀ k, k < i → fb k = nI (hj_pos d h k)) → (1985 - i) < n9_lp → ∀ (H : Heap) (locs : List Loc), va_P (dC, dI) vwCl [(m0, .inr (3, [.int th, .ref da, .int (nI st), .int (nI g), .int (nI h), .int (nI (hj_pos d h i)), .int (nI i), .ref ba, .ref ka, .ref ta, .int (nI tl), .int du, .int wr, .ref na, .ref ea])), (da, .inl (cD, 32768, .inl (hj_B d))), (ba, .inl (cB, 2000, .inl fb))] H → va_D A [(m0, .inr (3, [.int th, .ref da, .int (nI st), .int (nI g), .int (nI h), .int (nI (hj_pos d h i)), .int (nI i), .ref ba, .ref ka, .ref ta, .int (nI tl), .int du, .int wr, .ref na, .ref ea])), (da, .inl (cD, 32768, .inl (hj_B d))), (ba, .inl (cB, 2000, .inl fb))] → va_S A s.heap H locs → ∀ (ls : Array Slot), lv_has ls 2 [(0, .ref m0), (1, .int (nI (hj_rl d h (hj_pos d h i))))] → W p l e rm_M_findRecords s m args below meth c H locs 0 0 Q (F0 m 16 ls []) := by
    intro n9_lp
    induction n9_lp with
    | zero =>
      intro i fb hv hc hm_lp
      exact absurd hm_lp (Nat.not_lt_zero _)
    | succ n9_lp ih_lp =>
      intro i fb hv hc hm_lp H locs hP hD hS ls hl
      obtain ⟨hp1, hp2, -⟩ := hj_pos_in i hv
      have hr1 : hj_rl d h (hj_pos d h i) ≤ 1000 := by
        rcases Nat.eq_zero_or_pos (hj_rl d h (hj_pos d h i)) with q | q
        · omega
        · exact (hj_rl_in q).1
      refine lv_iload_n hx hb d_M_findRecords_16 rfl (lv_at hl 1 rfl) ?_
      refine hj_if_le (tgt := 68) hx hb (by omega) d_M_findRecords_17 (by decide) (fun c_1 => ?_) (fun c_1 => ?_)
      · have hN : i = hj_N d h := hj_N_of ⟨hv, c_1⟩
        subst hN
        exact hret fb _ _ _ _ d_M_findRecords_68 (hc) hP hK hD hS
      · obtain ⟨-, hr2, -⟩ := hj_rl_in c_1
        have h84 : i < 1984 := by have := hj_sz_8 c_1; omega
        refine lv_aload_n hx hb d_M_findRecords_20 rfl (lv_at hl 0 rfl) ?_
        refine va_get (D := (dC, dI)) (ci := 3) (v := .ref ba) (C := "HalfJournalModel") (T := F_M) (N := 15) hx hb hts i_M hown hK hP 0 rfl rfl 7 (by decide) (hts _ m_652) (fun _ h9 => h9) rfl d_M_findRecords_21 ?_
        refine lv_aload_n hx hb d_M_findRecords_24 rfl (lv_at hl 0 rfl) ?_
        refine va_get (D := (dC, dI)) (ci := 3) (v := .int (nI i)) (C := "HalfJournalModel") (T := F_M) (N := 15) hx hb hts i_M hown hK hP 0 rfl rfl 6 (by decide) (hts _ m_651) (fun _ h9 => h9) rfl d_M_findRecords_25 ?_
        refine lv_aload_n hx hb d_M_findRecords_28 rfl (lv_at hl 0 rfl) ?_
        refine va_get (D := (dC, dI)) (ci := 3) (v := .int (nI (hj_pos d h i))) (C := "HalfJournalModel") (T := F_M) (N := 15) hx hb hts i_M hown hK hP 0 rfl rfl 5 (by decide) (hts _ m_650) (fun _ h9 => h9) rfl d_M_findRecords_29 ?_
        refine hj_iast hx hb hK hP hD hS 2 1 rfl rfl (by omega) (by decide) d_M_findRecords_32 (fun H locs hP hD hS => ?_)
        have hP : va_P (dC, dI) vwCl [(m0, .inr (3, [.int th, .ref da, .int (nI st), .int (nI g), .int (nI h), .int (nI (hj_pos d h i)), .int (nI i), .ref ba, .ref ka, .ref ta, .int (nI tl), .int du, .int wr, .ref na, .ref ea])), (da, .inl (cD, 32768, .inl (hj_B d))), (ba, .inl (cB, 2000, .inl (va_up fb i (nI (hj_pos d h i)))))] H := hP
        have hD : va_D A [(m0, .inr (3, [.int th, .ref da, .int (nI st), .int (nI g), .int (nI h), .int (nI (hj_pos d h i)), .int (nI i), .ref ba, .ref ka, .ref ta, .int (nI tl), .int du, .int wr, .ref na, .ref ea])), (da, .inl (cD, 32768, .inl (hj_B d))), (ba, .inl (cB, 2000, .inl (va_up fb i (nI (hj_pos d h i)))))] := hD
        refine lv_aload_n hx hb d_M_findRecords_33 rfl (lv_at hl 0 rfl) ?_
        refine lv_dup hx hb d_M_findRecords_34 rfl ?_
        refine va_get (D := (dC, dI)) (ci := 3) (v := .int (nI i)) (C := "HalfJournalModel") (T := F_M) (N := 15) hx hb hts i_M hown hK hP 0 rfl rfl 6 (by decide) (hts _ m_651) (fun _ h9 => h9) rfl d_M_findRecords_35 ?_
        refine lv_iconst (v := nI 1) hx hb d_M_findRecords_38 (by decide) ?_
        refine hj_iadd hx hb d_M_findRecords_39 ?_
        refine va_put (D := (dC, dI)) (ci := 3) (v := .int (nI (i + 1))) (ty := (.int)) (C := "HalfJournalModel") (T := F_M) (N := 15) hx hb hts i_M t_M t_M_ok n_M hown hK hP hD hS 0 rfl rfl 6 (by decide) (hts _ m_651) (fun _ h9 => h9) rfl (by decide +kernel) rfl rfl (Nat.le_of_ble_eq_true rfl) d_M_findRecords_40 (fun H locs hP hD hS => ?_)
        have hP : va_P (dC, dI) vwCl [(m0, .inr (3, [.int th, .ref da, .int (nI st), .int (nI g), .int (nI h), .int (nI (hj_pos d h i)), .int (nI (i + 1)), .ref ba, .ref ka, .ref ta, .int (nI tl), .int du, .int wr, .ref na, .ref ea])), (da, .inl (cD, 32768, .inl (hj_B d))), (ba, .inl (cB, 2000, .inl (va_up fb i (nI (hj_pos d h i)))))] H := hP
        have hD : va_D A [(m0, .inr (3, [.int th, .ref da, .int (nI st), .int (nI g), .int (nI h), .int (nI (hj_pos d h i)), .int (nI (i + 1)), .ref ba, .ref ka, .ref ta, .int (nI tl), .int du, .int wr, .ref na, .ref ea])), (da, .inl (cD, 32768, .inl (hj_B d))), (ba, .inl (cB, 2000, .inl (va_up fb i (nI (hj_pos d h i)))))] := hD
        refine lv_aload_n hx hb d_M_findRecords_43 rfl (lv_at hl 0 rfl) ?_
        refine lv_dup hx hb d_M_findRecords_44 rfl ?_
        refine va_get (D := (dC, dI)) (ci := 3) (v := .int (nI (hj_pos d h i))) (C := "HalfJournalModel") (T := F_M) (N := 15) hx hb hts i_M hown hK hP 0 rfl rfl 5 (by decide) (hts _ m_650) (fun _ h9 => h9) rfl d_M_findRecords_45 ?_
        refine lv_iload_n hx hb d_M_findRecords_48 rfl (lv_at hl 1 rfl) ?_
        refine hj_calli (wc := []) (wr := [(m0, .inr (3, [.int th, .ref da, .int (nI st), .int (nI g), .int (nI h), .int (nI (hj_pos d h i)), .int (nI (i + 1)), .ref ba, .ref ka, .ref ta, .int (nI tl), .int du, .int wr, .ref na, .ref ea])), (da, .inl (cD, 32768, .inl (hj_B d))), (ba, .inl (cB, 2000, .inl (va_up fb i (nI (hj_pos d h i)))))]) [] [0, 1, 2] hP hD hS hA rfl rfl rfl (by decide) (va_runS (As := [.int (nI (hj_rl d h (hj_pos d h i)))]) (rest := [.int (nI (hj_pos d h i)), .ref m0]) ⟨hx, hb, hml, hown, hts⟩ (c_M_sizeOf l dC dI (hj_rl d h (hj_pos d h i)) (by omega) H.size) (cwS 1 hts (hj_gS m_729 m_730 m_4 m_731) rfl rfl rfl (by decide +kernel) ⟨Nat.le_of_ble_eq_true rfl, Nat.le_of_ble_eq_true rfl⟩) (hj_preS hj_E0ok hE hP hD hK hS hA [] rfl rfl [] rfl) rfl rfl hl.1 rfl (lv_room (Nat.le_of_ble_eq_true rfl)) d_M_findRecords_49 ⟨Nat.le_of_ble_eq_true rfl, Nat.le_of_ble_eq_true rfl⟩) (fun r_3 u_4 H locs hw hP hD hK1 hS => ?_)
        subst hw
        have hP : va_P (dC, dI) vwCl [(m0, .inr (3, [.int th, .ref da, .int (nI st), .int (nI g), .int (nI h), .int (nI (hj_pos d h i)), .int (nI (i + 1)), .ref ba, .ref ka, .ref ta, .int (nI tl), .int du, .int wr, .ref na, .ref ea])), (da, .inl (cD, 32768, .inl (hj_B d))), (ba, .inl (cB, 2000, .inl (va_up fb i (nI (hj_pos d h i)))))] H := hP.sub [0, 1, 2] rfl
        have hD : va_D A [(m0, .inr (3, [.int th, .ref da, .int (nI st), .int (nI g), .int (nI h), .int (nI (hj_pos d h i)), .int (nI (i + 1)), .ref ba, .ref ka, .ref ta, .int (nI tl), .int du, .int wr, .ref na, .ref ea])), (da, .inl (cD, 32768, .inl (hj_B d))), (ba, .inl (cB, 2000, .inl (va_up fb i (nI (hj_pos d h i)))))] := hD.sub [0, 1, 2] (by decide) rfl
        refine hj_iadd hx hb d_M_findRecords_52 ?_
        refine hj_topn (b := hj_pos d h (i + 1)) (rfl) ?_
        refine va_put (D := (dC, dI)) (ci := 3) (v := .int (nI (hj_pos d h (i + 1)))) (ty := (.int)) (C := "HalfJournalModel") (T := F_M) (N := 15) hx hb hts i_M t_M t_M_ok n_M hown hK hP hD hS 0 rfl rfl 5 (by decide) (hts _ m_650) (fun _ h9 => h9) rfl (by decide +kernel) rfl rfl (Nat.le_of_ble_eq_true rfl) d_M_findRecords_53 (fun H locs hP hD hS => ?_)
        have hP : va_P (dC, dI) vwCl [(m0, .inr (3, [.int th, .ref da, .int (nI st), .int (nI g), .int (nI h), .int (nI (hj_pos d h (i + 1))), .int (nI (i + 1)), .ref ba, .ref ka, .ref ta, .int (nI tl), .int du, .int wr, .ref na, .ref ea])), (da, .inl (cD, 32768, .inl (hj_B d))), (ba, .inl (cB, 2000, .inl (va_up fb i (nI (hj_pos d h i)))))] H := hP
        have hD : va_D A [(m0, .inr (3, [.int th, .ref da, .int (nI st), .int (nI g), .int (nI h), .int (nI (hj_pos d h (i + 1))), .int (nI (i + 1)), .ref ba, .ref ka, .ref ta, .int (nI tl), .int du, .int wr, .ref na, .ref ea])), (da, .inl (cD, 32768, .inl (hj_B d))), (ba, .inl (cB, 2000, .inl (va_up fb i (nI (hj_pos d h i)))))] := hD
        refine lv_aload_n hx hb d_M_findRecords_56 rfl (lv_at hl 0 rfl) ?_
        refine lv_aload_n hx hb d_M_findRecords_57 rfl (lv_at hl 0 rfl) ?_
        refine va_get (D := (dC, dI)) (ci := 3) (v := .int (nI (hj_pos d h (i + 1)))) (C := "HalfJournalModel") (T := F_M) (N := 15) hx hb hts i_M hown hK hP 0 rfl rfl 5 (by decide) (hts _ m_650) (fun _ h9 => h9) rfl d_M_findRecords_58 ?_
        refine hj_calli (wc := [(m0, .inr (3, [.int th, .ref da, .int (nI st), .int (nI g), .int (nI h), .int (nI (hj_pos d h (i + 1))), .int (nI (i + 1)), .ref ba, .ref ka, .ref ta, .int (nI tl), .int du, .int wr, .ref na, .ref ea])), (da, .inl (cD, 32768, .inl (hj_B d)))]) (wr := [(ba, .inl (cB, 2000, .inl (va_up fb i (nI (hj_pos d h i)))))]) [0, 1] [2] hP hD hS hA rfl rfl rfl (by decide) (va_runV (As := [.int (nI (hj_pos d h (i + 1)))]) (rest := []) ⟨hx, hb, hml, hown, hts⟩ (c_M_recordAt l dC dI m0 da ba ka ta na ea th st g h (hj_pos d h (i + 1)) (i + 1) tl du wr cD d (hj_pos d h (i + 1)) hh hr2 hd H.size) (cwV 1 hts (hj_gV m_722 m_724 s_M_recordAt m_4 m_725) rfl rfl rfl (by decide +kernel) ⟨Nat.le_of_ble_eq_true rfl, Nat.le_of_ble_eq_true rfl⟩) (hj_preV (ci := 3) (q0 := 0) hj_E0ok hE hP hD hK hS hA [0, 1] rfl rfl [0] rfl rfl rfl) rfl rfl hl.1 rfl (lv_room (Nat.le_of_ble_eq_true rfl)) d_M_findRecords_61 ⟨Nat.le_of_ble_eq_true rfl, Nat.le_of_ble_eq_true rfl⟩) (fun r_5 u_6 H locs hw hP hD hK1 hS => ?_)
        subst hw
        have hP : va_P (dC, dI) vwCl [(m0, .inr (3, [.int th, .ref da, .int (nI st), .int (nI g), .int (nI h), .int (nI (hj_pos d h (i + 1))), .int (nI (i + 1)), .ref ba, .ref ka, .ref ta, .int (nI tl), .int du, .int wr, .ref na, .ref ea])), (da, .inl (cD, 32768, .inl (hj_B d))), (ba, .inl (cB, 2000, .inl (va_up fb i (nI (hj_pos d h i)))))] H := hP.sub [1, 2, 0] rfl
        have hD : va_D A [(m0, .inr (3, [.int th, .ref da, .int (nI st), .int (nI g), .int (nI h), .int (nI (hj_pos d h (i + 1))), .int (nI (i + 1)), .ref ba, .ref ka, .ref ta, .int (nI tl), .int du, .int wr, .ref na, .ref ea])), (da, .inl (cD, 32768, .inl (hj_B d))), (ba, .inl (cB, 2000, .inl (va_up fb i (nI (hj_pos d h i)))))] := hD.sub [1, 2, 0] (by decide) rfl
        refine lv_istore_n (lv' := [(1, .int (nI (hj_rl d h (hj_pos d h (i + 1))))), (0, .ref m0)]) hx hb d_M_findRecords_64 rfl hl (by decide) rfl (fun ls hl => ?_)
        refine lv_goto (tgt := 16) hx hb d_M_findRecords_65 (by decide) ?_
        exact ih_lp (i + 1) (va_up fb i (nI (hj_pos d h i))) (fun k hk => by
          rcases Nat.lt_or_ge k i with q | q
          · exact hv k q
          · rw [show k = i by omega]; exact c_1) (fun k hk => by
          rcases Nat.lt_or_ge k i with q | q
          · rw [va_up_ne _ _ (by omega)]; exact hc k q
          · rw [show k = i by omega, va_up_self]) (by omega) _ _ hP hD hS _ (lv_sub hl [1, 0] rfl)
  exact lp _ 0 fb (fun k hk => absurd hk (Nat.not_lt_zero k)) (fun k hk => absurd hk (Nat.not_lt_zero k)) (Nat.lt_succ_self _) _ _ hP hD hS _ (lv_sub hl [1, 0] rfl)
