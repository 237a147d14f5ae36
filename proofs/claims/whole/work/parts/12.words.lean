/-! further words: numbers read and written, rows cleared, copied -/
def hj_num (d : Nat → Nat) : Nat → Nat → Nat
  | _, 0 => 0
  | a, k + 1 => d a + 256 * hj_num d (a + 1) k
theorem hj_num1 (d : Nat → Nat) (a : Nat) : hj_num d a 1 = d a := by simp [hj_num]
theorem hj_num2 (d : Nat → Nat) (a : Nat) : hj_num d a 2 = hj_len d a := by simp [hj_num, hj_len]
theorem hj_num4 (d : Nat → Nat) (a : Nat) : hj_num d a 4 = hj_four d a := by
  show d a + 256 * (d (a + 1) + 256 * (d (a + 2) + 256 * (d (a + 3) + 256 * 0))) = _
  unfold hj_four
  omega
theorem hj_num_lt {d : Nat → Nat} (hd : hj_bs d) : ∀ k a, hj_num d a k < 256 ^ k
  | 0, _ => by simp [hj_num]
  | k + 1, a => by
    have h := hj_num_lt hd k (a + 1)
    have h2 := hd a
    show d a + 256 * hj_num d (a + 1) k < 256 ^ (k + 1)
    rw [Nat.pow_succ]
    omega
theorem hj_num_lt24 {d : Nat → Nat} (hd : hj_bs d) {k a : Nat} (hk : k ≤ 3) : hj_num d a k < 2 ^ 24 := by
  have h := hj_num_lt hd k a
  have h2 : 256 ^ k ≤ 256 ^ 3 := Nat.pow_le_pow_right (by omega) hk
  have h3 : (256 : Nat) ^ 3 = 2 ^ 24 := by decide
  omega
theorem hj_num_lt32 {d : Nat → Nat} (hd : hj_bs d) {k a : Nat} (hk : k ≤ 4) : hj_num d a k < 2 ^ 32 := by
  have h := hj_num_lt hd k a
  have h2 : 256 ^ k ≤ 256 ^ 4 := Nat.pow_le_pow_right (by omega) hk
  have h3 : (256 : Nat) ^ 4 = 2 ^ 32 := by decide
  omega
def hj_pn (d : Nat → Nat) (a n w : Nat) : Nat → Nat := fun q => if a ≤ q ∧ q < a + n then hj_by w (q - a) else d q
theorem hj_pn0 (d : Nat → Nat) (a w : Nat) : hj_pn d a 0 w = d := by
  funext q
  unfold hj_pn
  rw [if_neg (by omega)]
theorem hj_pnS (d : Nat → Nat) (a n w : Nat) : va_up (hj_pn d a n w) (a + n) (hj_by w n) = hj_pn d a (n + 1) w := by
  funext q
  unfold hj_pn va_up
  try dsimp only
  by_cases h : q = a + n
  · rw [if_pos h, if_pos (by omega), show q - a = n by omega]
  · rw [if_neg h]
    by_cases h2 : a ≤ q ∧ q < a + n
    · rw [if_pos h2, if_pos (by omega)]
    · rw [if_neg h2, if_neg (by omega)]
theorem hj_pn_bs {d : Nat → Nat} {a n w : Nat} (hd : hj_bs d) : hj_bs (hj_pn d a n w) := by
  intro q
  unfold hj_pn
  split
  · exact hj_by_lt _ _
  · exact hd q
def hj_clr (d : Nat → Nat) (a b : Nat) : Nat → Nat := fun q => if a ≤ q ∧ q < b then 0 else d q
theorem hj_clr_bs {d : Nat → Nat} {a b : Nat} (hd : hj_bs d) : hj_bs (hj_clr d a b) := by
  intro q
  unfold hj_clr
  split
  · omega
  · exact hd q
theorem hj_clr0 (d : Nat → Nat) (a : Nat) : hj_clr d a a = d := by
  funext q
  unfold hj_clr
  rw [if_neg (by omega)]
theorem hj_clrS (d : Nat → Nat) {a b : Nat} (h : a ≤ b) : va_up (hj_clr d a b) b 0 = hj_clr d a (b + 1) := by
  funext q
  unfold hj_clr va_up
  try dsimp only
  by_cases k : q = b
  · rw [if_pos k, if_pos (by omega)]
  · rw [if_neg k]
    by_cases h2 : a ≤ q ∧ q < b
    · rw [if_pos h2, if_pos (by omega)]
    · rw [if_neg h2, if_neg (by omega)]
theorem hj_cpy_bs {f g : Nat → Nat} {sp dp n : Nat} (hf : hj_bs f) (hg : hj_bs g) : hj_bs (va_cpy f g sp dp n) := by
  intro q
  unfold va_cpy
  split
  · exact hf _
  · exact hg _
theorem hj_cpyB (f g : Nat → Nat) (sp dp n : Nat) : va_cpy (hj_B f) (hj_B g) sp dp n = hj_B (va_cpy f g sp dp n) := by
  funext q
  unfold va_cpy hj_B
  try dsimp only
  by_cases h : dp ≤ q ∧ q < dp + n
  · rw [if_pos h, if_pos h]
  · rw [if_neg h, if_neg h]
theorem hj_cpy0 (f g : Nat → Nat) (sp dp : Nat) : va_cpy f g sp dp 0 = g := by
  funext q
  unfold va_cpy
  rw [if_neg (by omega)]
theorem hj_cpyS (f g : Nat → Nat) (sp dp n : Nat) : va_up (va_cpy f g sp dp n) (dp + n) (f (sp + n)) = va_cpy f g sp dp (n + 1) := by
  funext q
  unfold va_cpy va_up
  try dsimp only
  by_cases h : q = dp + n
  · rw [if_pos h, if_pos (by omega), show q - dp = n by omega]
  · rw [if_neg h]
    by_cases h2 : dp ≤ q ∧ q < dp + n
    · rw [if_pos h2, if_pos (by omega)]
    · rw [if_neg h2, if_neg (by omega)]
theorem hj_blk_cpy (d : Nat → Nat) (b : Nat) (r : Nat → Nat) (a : Nat) : va_cpy r d a (512 * b) 512 = hj_blk d b r a := rfl
def hj_ph (d : Nat → Nat) (a h g : Nat) : Nat → Nat := fun q => if a ≤ q ∧ q < a + 12 then hj_hd h g (q - a) else d q
theorem hj_ph_bs {d : Nat → Nat} {a h g : Nat} (hd : hj_bs d) : hj_bs (hj_ph d a h g) := by
  intro q
  unfold hj_ph
  split
  · exact hj_hd_bs _ _ _
  · exact hd q
theorem hj_ph_of (d : Nat → Nat) (a g : Nat) {h : Nat} (hh : h < 2) : hj_pn (hj_pn (hj_pn d a 4 (12618 + 65536 * h)) (a + 4) 4 g) (a + 8) 4 (hj_chk (hj_pn (hj_pn d a 4 (12618 + 65536 * h)) (a + 4) 4 g) a 8) = hj_ph d a h g := by
  have e0 : ∀ j, j < 8 → hj_pn (hj_pn d a 4 (12618 + 65536 * h)) (a + 4) 4 g (a + j) = hj_hd0 h g j := by
    intro j hj
    unfold hj_pn hj_hd0
    rcases Nat.lt_or_ge j 4 with q | q
    · rw [if_neg (by omega), if_pos (by omega), show a + j - a = j by omega]
      rcases (show j = 0 ∨ j = 1 ∨ j = 2 ∨ j = 3 by omega) with rfl | rfl | rfl | rfl
      · rw [if_pos rfl, hj_by0]; omega
      · rw [if_neg (by omega), if_pos rfl, hj_by1]; omega
      · rw [if_neg (by omega), if_neg (by omega), if_pos rfl, hj_by2]; omega
      · rw [if_neg (by omega), if_neg (by omega), if_neg (by omega), if_pos rfl, hj_by3]; omega
    · rw [if_pos (by omega), if_neg (by omega), if_neg (by omega), if_neg (by omega), if_neg (by omega), if_pos (by omega), show a + j - (a + 4) = j - 4 by omega]
  have ec : hj_chk (hj_pn (hj_pn d a 4 (12618 + 65536 * h)) (a + 4) 4 g) a 8 = hj_chk (hj_hd0 h g) 0 8 := hj_chk_congr (fun j hj => by rw [e0 j hj, Nat.zero_add])
  funext q
  rw [ec]
  show (if a + 8 ≤ q ∧ q < a + 8 + 4 then hj_by (hj_chk (hj_hd0 h g) 0 8) (q - (a + 8)) else hj_pn (hj_pn d a 4 (12618 + 65536 * h)) (a + 4) 4 g q) = (if a ≤ q ∧ q < a + 12 then hj_hd h g (q - a) else d q)
  by_cases k : a + 8 ≤ q ∧ q < a + 8 + 4
  · rw [if_pos k, if_pos (by omega)]
    unfold hj_hd
    rw [if_pos (by omega), show q - (a + 8) = q - a - 8 by omega]
  · rw [if_neg k]
    by_cases k2 : a ≤ q ∧ q < a + 12
    · rw [if_pos k2]
      have := e0 (q - a) (by omega)
      rw [show a + (q - a) = q by omega] at this
      rw [this]
      unfold hj_hd
      rw [if_neg (by omega)]
    · rw [if_neg k2]
      unfold hj_pn
      rw [if_neg (by omega), if_neg (by omega)]
def hj_lb (t : Nat) : Nat := if t + 2 ≤ 15872 then (t + 1) / 512 else 30
theorem hj_lb_le (t : Nat) : hj_lb t ≤ 30 := by
  unfold hj_lb
  split <;> omega
def hj_w (g : Nat → Nat) : Nat → Int64
  | 0 => 0
  | j + 1 => (hj_w g j <<< ((nI 8).toInt64 &&& 63)) ||| lN (g j)
theorem hj_w_congr {g g' : Nat → Nat} : ∀ n, (∀ j, j < n → g' j = g j) → hj_w g' n = hj_w g n
  | 0, _ => rfl
  | n + 1, h => by
    show (hj_w g' n <<< _) ||| lN (g' n) = (hj_w g n <<< _) ||| lN (g n)
    rw [hj_w_congr n (fun j hj => h j (by omega)), h n (by omega)]
theorem hj_w0 : hj_w (fun _ => 0) 8 = 0 := by decide +kernel
noncomputable def hj_hg (d : Nat → Nat) (b : Nat) : Nat := @ite _ (hj_right d b) (Classical.propDecidable _) (hj_four d (512 * b + 4)) 0
theorem hj_hg_ok {d : Nat → Nat} {b : Nat} (h : hj_right d b) : hj_hg d b = hj_four d (512 * b + 4) := by
  unfold hj_hg
  rw [if_pos h]
theorem hj_hg_no {d : Nat → Nat} {b : Nat} (h : ¬ hj_right d b) : hj_hg d b = 0 := by
  unfold hj_hg
  rw [if_neg h]
theorem hj_hg_pos {d : Nat → Nat} {b : Nat} (h : 0 < hj_hg d b) : hj_right d b := by
  rcases Classical.em (hj_right d b) with q | q
  · exact q
  · rw [hj_hg_no q] at h; omega
theorem hj_hg_lt (d : Nat → Nat) (b : Nat) : hj_hg d b < 2 ^ 31 := by
  rcases Classical.em (hj_right d b) with q | q
  · rw [hj_hg_ok q]; exact q.2.2.2.2.2.1
  · rw [hj_hg_no q]; omega
/-! compact -/
noncomputable def hj_cto (d : Nat → Nat) (h : Nat) (mk : Nat → Nat) : Nat → Nat
  | 0 => 0
  | i + 1 => if mk i = 0 then hj_cto d h mk i + hj_sz (hj_rl d h (hj_pos d h i)) else hj_cto d h mk i
noncomputable def hj_cim (d : Nat → Nat) (h : Nat) (mk : Nat → Nat) : Nat → Nat → Nat
  | 0 => fun _ => 0
  | i + 1 => if mk i = 0 then va_cpy d (hj_cim d h mk i) (hj_hb h + hj_pos d h i) (hj_cto d h mk i) (6 + hj_rl d h (hj_pos d h i)) else hj_cim d h mk i
theorem hj_cto_le (d : Nat → Nat) (h : Nat) (mk : Nat → Nat) : ∀ i, hj_cto d h mk i ≤ hj_pos d h i
  | 0 => Nat.le_refl 0
  | i + 1 => by
    have := hj_cto_le d h mk i
    show (if mk i = 0 then hj_cto d h mk i + hj_sz (hj_rl d h (hj_pos d h i)) else hj_cto d h mk i) ≤ hj_pos d h i + hj_sz (hj_rl d h (hj_pos d h i))
    split <;> omega
theorem hj_cim_0 (d : Nat → Nat) (h : Nat) (mk : Nat → Nat) : ∀ i q, hj_cto d h mk i ≤ q → hj_cim d h mk i q = 0
  | 0, _, _ => rfl
  | i + 1, q, k => by
    have k1 : (if mk i = 0 then hj_cto d h mk i + hj_sz (hj_rl d h (hj_pos d h i)) else hj_cto d h mk i) ≤ q := k
    show (if mk i = 0 then va_cpy d (hj_cim d h mk i) (hj_hb h + hj_pos d h i) (hj_cto d h mk i) (6 + hj_rl d h (hj_pos d h i)) else hj_cim d h mk i) q = 0
    by_cases z : mk i = 0
    · rw [if_pos z] at k1 ⊢
      unfold va_cpy
      unfold hj_sz at k1
      rw [if_neg (by omega)]
      exact hj_cim_0 d h mk i q (by omega)
    · rw [if_neg z] at k1 ⊢
      exact hj_cim_0 d h mk i q k1
theorem hj_cim_bs {d : Nat → Nat} {h : Nat} {mk : Nat → Nat} (hd : hj_bs d) : ∀ i, hj_bs (hj_cim d h mk i)
  | 0 => fun _ => by show 0 < 256; omega
  | i + 1 => by
    show hj_bs (if mk i = 0 then va_cpy d (hj_cim d h mk i) (hj_hb h + hj_pos d h i) (hj_cto d h mk i) (6 + hj_rl d h (hj_pos d h i)) else hj_cim d h mk i)
    split
    · exact hj_cpy_bs hd (hj_cim_bs hd i)
    · exact hj_cim_bs hd i
def hj_ms (mk : Nat → Nat) : Nat → Nat
  | 0 => 0
  | i + 1 => hj_ms mk i + mk i
theorem hj_ms_congr {mk mk' : Nat → Nat} : ∀ n, (∀ i, i < n → mk' i = mk i) → hj_ms mk' n = hj_ms mk n
  | 0, _ => rfl
  | n + 1, h => by
    show hj_ms mk' n + mk' n = hj_ms mk n + mk n
    rw [hj_ms_congr n (fun i hi => h i (by omega)), h n (by omega)]
theorem hj_ms_up {mk : Nat → Nat} {k b : Nat} : ∀ n, k < n → hj_ms (va_up mk k b) n + mk k = hj_ms mk n + b
  | 0, h => by omega
  | n + 1, h => by
    show hj_ms (va_up mk k b) n + va_up mk k b n + mk k = hj_ms mk n + mk n + b
    by_cases q : k = n
    · subst q
      rw [va_up_self, hj_ms_congr k (mk := mk) (mk' := va_up mk k b) (fun i hi => va_up_ne mk b (by omega))]
      omega
    · have := hj_ms_up (mk := mk) (k := k) (b := b) n (by omega)
      rw [va_up_ne mk b (by omega)]
      omega
theorem hj_ms_le {mk : Nat → Nat} (h : ∀ i, mk i < 2) : ∀ n, hj_ms mk n ≤ n
  | 0 => Nat.le_refl 0
  | n + 1 => by
    have := hj_ms_le h n
    have := h n
    show hj_ms mk n + mk n ≤ n + 1
    omega
theorem hj_ms_0 {mk : Nat → Nat} : ∀ n, (∀ i, i < n → mk i = 0) → hj_ms mk n = 0
  | 0, _ => rfl
  | n + 1, h => by
    show hj_ms mk n + mk n = 0
    rw [hj_ms_0 n (fun i hi => h i (by omega)), h n (by omega)]
