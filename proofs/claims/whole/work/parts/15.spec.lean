/-! what each call answers and does, for both classes -/
theorem hj_of32 (x : Int32) : ∃ n, n < 2 ^ 32 ∧ x = nI n := by
  refine ⟨x.toBitVec.toNat, x.toBitVec.isLt, ?_⟩
  apply Int32.toBitVec_inj.1
  show x.toBitVec = BitVec.ofNat 32 x.toBitVec.toNat
  simp
theorem hj_i8 (x : Int32) : x.toInt8.toInt32 = sb_b (x.toBitVec.toNat % 256) := by
  obtain ⟨n, hn, rfl⟩ := hj_of32 x
  rw [pk_tn hn, ← hj_b_mod]
  rfl
def hj_vb (v : Int64) (i : Nat) : Nat := v.toBitVec.toNat / 256 ^ i % 256
theorem hj_vb_lt (v : Int64) (i : Nat) : hj_vb v i < 256 := Nat.mod_lt _ (by omega)
theorem hj_i64 (X : Int64) : X.toInt32.toInt8.toInt32 = sb_b (X.toBitVec.toNat % 256) := by
  rw [hj_i8]
  congr 1
  have h : X.toInt32.toBitVec.toNat = X.toBitVec.toNat % 2 ^ 32 := by
    show (X.toBitVec.signExtend 32).toNat = _
    rw [BitVec.signExtend_eq_setWidth_of_le _ (by omega), BitVec.toNat_setWidth]
  rw [h]
  omega
theorem hj_p8 (j : Nat) : (256 : Nat) ^ j = 2 ^ (8 * j) := by rw [Nat.pow_mul]
theorem hj_sh64u : ∀ j, j < 8 → (((nI (8 * j)).toInt64.toUInt64 &&& Int64.toUInt64 63).toBitVec % 64).toNat = 8 * j := by decide +kernel
theorem hj_sh64s : ∀ j, j < 8 → (((nI (8 * j)).toInt64 &&& 63).toBitVec.smod 64).toNat = 8 * j := by decide +kernel
theorem hj_give_u (v : Int64) {j : Nat} (hj : j < 8) : ((v.toUInt64 >>> ((nI (8 * j)).toInt64.toUInt64 &&& Int64.toUInt64 63)).toInt64).toInt32.toInt8.toInt32 = sb_b (hj_vb v j) := by
  rw [hj_i64]
  congr 1
  have h : (v.toUInt64 >>> ((nI (8 * j)).toInt64.toUInt64 &&& Int64.toUInt64 63)).toInt64.toBitVec.toNat = v.toBitVec.toNat / 2 ^ (8 * j) := by
    show (v.toBitVec >>> (((nI (8 * j)).toInt64.toUInt64 &&& Int64.toUInt64 63).toBitVec % 64)).toNat = _
    rw [BitVec.ushiftRight_eq', hj_sh64u j hj, BitVec.toNat_ushiftRight, Nat.shiftRight_eq_div_pow]
  rw [h]
  unfold hj_vb
  rw [hj_p8]
theorem hj_give_s (v : Int64) {j : Nat} (hj : j < 8) : (v >>> ((nI (8 * j)).toInt64 &&& 63)).toInt32.toInt8.toInt32 = sb_b (hj_vb v j) := by
  rw [hj_i64]
  congr 1
  have h : (v >>> ((nI (8 * j)).toInt64 &&& 63)).toBitVec = v.toBitVec.sshiftRight (8 * j) := by
    show v.toBitVec.sshiftRight' (((nI (8 * j)).toInt64 &&& 63).toBitVec.smod 64) = _
    unfold BitVec.sshiftRight'
    rw [hj_sh64s j hj]
  rw [h]
  unfold hj_vb
  rw [hj_p8]
  apply Nat.eq_of_testBit_eq
  intro i
  rw [show (256 : Nat) = 2 ^ 8 from rfl, Nat.testBit_mod_two_pow, Nat.testBit_mod_two_pow, ← Nat.shiftRight_eq_div_pow, Nat.testBit_shiftRight, BitVec.testBit_toNat, BitVec.testBit_toNat, BitVec.getLsbD_sshiftRight]
  by_cases q : i < 8
  · rw [if_pos (by omega)]
    have : ¬ 64 ≤ i := by omega
    simp [this]
  · simp [q]
/-- the tape with t of the k bytes of v behind tl -/
def hj_gvt (tp : Nat → Nat) (tl : Nat) (v : Int64) (k t : Nat) : Nat → Nat := fun q => if tl ≤ q ∧ q < tl + t then hj_vb v (k - 1 - (q - tl)) else tp q
theorem hj_gvt0 (tp : Nat → Nat) (tl : Nat) (v : Int64) (k : Nat) : hj_gvt tp tl v k 0 = tp := by
  funext q
  unfold hj_gvt
  rw [if_neg (by omega)]
theorem hj_gvtS (tp : Nat → Nat) (tl : Nat) (v : Int64) (k t : Nat) : va_up (hj_gvt tp tl v k t) (tl + t) (hj_vb v (k - 1 - t)) = hj_gvt tp tl v k (t + 1) := by
  funext q
  unfold hj_gvt va_up
  try dsimp only
  by_cases h : q = tl + t
  · rw [if_pos h, if_pos (by omega), show q - tl = t by omega]
  · rw [if_neg h]
    by_cases h2 : tl ≤ q ∧ q < tl + t
    · rw [if_pos h2, if_pos (by omega)]
    · rw [if_neg h2, if_neg (by omega)]
theorem hj_gvt_bs {tp : Nat → Nat} {tl : Nat} {v : Int64} {k t : Nat} (h : hj_bs tp) : hj_bs (hj_gvt tp tl v k t) := by
  intro q
  unfold hj_gvt
  split
  · exact hj_vb_lt _ _
  · exact h q
def hj_gok (x : Int32) (tl k : Nat) : Prop := x = nI k ∧ 1 ≤ k ∧ k ≤ 8 ∧ tl + k ≤ 1000
def hj_give (tp : Nat → Nat) (tl : Nat) (v : Int64) (x r : Int32) (tp' : Nat → Nat) (tl' : Nat) : Prop := (∃ k, hj_gok x tl k ∧ r = nI 1 ∧ tp' = hj_gvt tp tl v k k ∧ tl' = tl + k) ∨ ((¬ ∃ k, hj_gok x tl k) ∧ r = nI 0 ∧ tp' = tp ∧ tl' = tl)
def hj_mark (mk : Nat → Nat) (n : Nat) (x : Int32) (b : Nat) (r : Int32) (mk' : Nat → Nat) : Prop := (∃ i, i < n ∧ x = nI i ∧ r = nI 1 ∧ mk' = va_up mk i b) ∨ (¬ vp_in x n ∧ r = nI 0 ∧ mk' = mk)
def hj_cin (du x r du' : Int32) : Prop := (nI 1000 < x ∧ r = nI 0 ∧ du' = du) ∨ (¬ nI 1000 < x ∧ r = nI 1 ∧ ((x < 0 ∧ du' = -1) ∨ (¬ x < 0 ∧ du' = x)))
def hj_spo (d : Nat → Nat) (st : Nat) (x y z r : Int32) (d' : Nat → Nat) : Prop := (∃ b k, ¬ st = 2 ∧ b < 64 ∧ k < 512 ∧ x = nI b ∧ y = nI k ∧ r = nI 1 ∧ d' = va_up d (512 * b + k) (z.toBitVec.toNat % 256)) ∨ (¬ (¬ st = 2 ∧ vp_in x 64 ∧ vp_in y 512) ∧ r = nI 0 ∧ d' = d)
def hj_lenr (d : Nat → Nat) (h n : Nat) (x r : Int32) : Prop := (∃ i, i < n ∧ x = nI i ∧ r = nI (hj_rl d h (hj_pos d h i))) ∨ (¬ vp_in x n ∧ r = -1)
def hj_recr (d : Nat → Nat) (h n : Nat) (x y : Int32) (r : Int64) : Prop := (∃ i k, i < n ∧ k < 125 ∧ x = nI i ∧ y = nI k ∧ r = hj_w (fun j => if 8 * k + j < hj_rl d h (hj_pos d h i) then d (hj_hb h + hj_pos d h i + 2 + (8 * k + j)) else 0) 8) ∨ (¬ (vp_in x n ∧ vp_in y 125) ∧ r = 0)
def hj_blkr (d : Nat → Nat) (x y : Int32) (r : Int64) : Prop := (∃ b k, b < 64 ∧ k < 64 ∧ x = nI b ∧ y = nI k ∧ r = hj_w (fun j => d (512 * b + 8 * k + j)) 8) ∨ (¬ (vp_in x 64 ∧ vp_in y 64) ∧ r = 0)
def hj_look (n us g h st : Nat) (wr : Int32) (tl : Nat) (du : Int32) (mm : Nat) (x : Int32) : Int32 := if x = nI 0 then nI n else if x = nI 1 then nI us else if x = nI 2 then nI g else if x = nI 3 then nI h else if x = nI 4 then nI st else if x = nI 5 then wr else if x = nI 6 then nI tl else if x = nI 7 then du else if x = nI 8 then nI mm else -1
/-- which head counts: none, or b -/
def hj_rcv (d : Nat → Nat) (b : Nat) : Prop := b < 2 ∧ hj_right d b ∧ (b = 0 → hj_hg d 1 ≤ hj_hg d 0) ∧ (b = 1 → hj_hg d 0 < hj_hg d 1)
theorem hj_rcv_uniq {d : Nat → Nat} {b b' : Nat} (h : hj_rcv d b) (h' : hj_rcv d b') : b = b' := by
  obtain ⟨h1, -, h2, h3⟩ := h
  obtain ⟨k1, -, k2, k3⟩ := h'
  rcases (show b = 0 ∨ b = 1 by omega) with rfl | rfl <;> rcases (show b' = 0 ∨ b' = 1 by omega) with rfl | rfl
  · rfl
  · have := h2 rfl; have := k3 rfl; omega
  · have := h3 rfl; have := k2 rfl; omega
  · rfl
theorem hj_w_look {n us g h st tl mm : Nat} {wr du x : Int32} (h0 : ¬ ∃ i, i < 9 ∧ x = nI i) : hj_look n us g h st wr tl du mm x = -1 := by
  have e : ∀ i, i < 9 → ¬ x = nI i := fun i hi q => h0 ⟨i, hi, q⟩
  unfold hj_look
  rw [if_neg (e 0 (by omega)), if_neg (e 1 (by omega)), if_neg (e 2 (by omega)), if_neg (e 3 (by omega)), if_neg (e 4 (by omega)), if_neg (e 5 (by omega)), if_neg (e 6 (by omega)), if_neg (e 7 (by omega)), if_neg (e 8 (by omega))]
