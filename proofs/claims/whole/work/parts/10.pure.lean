/-! the words of the journal, in naturals: bytes are 0 .. 255, a row of bytes d : Nat → Nat; hj_B d is the row as the machine holds it -/
def hj_B (d : Nat → Nat) : Nat → Int32 := fun q => sb_b (d q)
def hj_st (c : Nat) : Nat := (c / 2) ^^^ (if c % 2 = 1 then 3988292384 else 0)
def hj_sts : Nat → Nat → Nat
  | 0, c => c
  | k + 1, c => hj_sts k (hj_st c)
def hj_tab (k : Nat) : Nat := ([0, 498536548, 997073096, 651767980, 1994146192, 1802195444, 1303535960, 1342533948, 3988292384, 4027552580, 3604390888, 3412177804, 2607071920, 2262029012, 2685067896, 3183342108] : List Nat).getD k 0
theorem hj_st_xor (a b : Nat) : hj_st (a ^^^ b) = hj_st a ^^^ hj_st b := by
  unfold hj_st
  rw [Nat.xor_div_two]
  have h := @Nat.xor_mod_two_eq_one a b
  by_cases ha : a % 2 = 1 <;> by_cases hb : b % 2 = 1 <;> simp only [ha, hb, h, if_true, if_false, not_true_eq_false, not_false_eq_true, iff_self, iff_true, true_iff, iff_false, false_iff] <;> (apply Nat.eq_of_testBit_eq; intro i; simp only [Nat.testBit_xor, Nat.zero_testBit]; generalize Nat.testBit 3988292384 i = z; generalize Nat.testBit (a / 2) i = x; generalize Nat.testBit (b / 2) i = y; cases x <;> cases y <;> cases z <;> rfl)
theorem hj_sts_xor (k : Nat) : ∀ a b : Nat, hj_sts k (a ^^^ b) = hj_sts k a ^^^ hj_sts k b := by
  induction k with
  | zero => intro a b; rfl
  | succ k ih => intro a b; show hj_sts k (hj_st (a ^^^ b)) = _; rw [hj_st_xor]; exact ih _ _
theorem hj_st_even (m : Nat) : hj_st (2 * m) = m := by
  unfold hj_st
  rw [if_neg (by omega), Nat.xor_zero]
  omega
theorem hj_sts_16 (q : Nat) : hj_sts 4 (16 * q) = q := by
  show hj_st (hj_st (hj_st (hj_st (16 * q)))) = q
  rw [show 16 * q = 2 * (8 * q) by omega, hj_st_even, show 8 * q = 2 * (4 * q) by omega, hj_st_even, show 4 * q = 2 * (2 * q) by omega, hj_st_even, hj_st_even]
theorem hj_tab_sts : ∀ r, r < 16 → hj_tab r = hj_sts 4 r := by decide +kernel
theorem hj_split (c : Nat) : (16 * (c / 16)) ^^^ (c % 16) = c := by
  have h1 : ((16 * (c / 16)) ^^^ (c % 16)) / 2 ^ 4 = c / 16 := by
    rw [Nat.xor_div_two_pow, show (16 * (c / 16)) / 2 ^ 4 = c / 16 by omega, show (c % 16) / 2 ^ 4 = 0 by omega, Nat.xor_zero]
  have h2 : ((16 * (c / 16)) ^^^ (c % 16)) % 2 ^ 4 = c % 16 := by
    rw [Nat.xor_mod_two_pow, show (16 * (c / 16)) % 2 ^ 4 = 0 by omega, show c % 16 % 2 ^ 4 = c % 16 by omega, Nat.zero_xor]
  generalize ((16 * (c / 16)) ^^^ (c % 16)) = x at h1 h2
  omega
theorem hj_nib (c : Nat) : c / 16 ^^^ hj_tab (c % 16) = hj_sts 4 c := by
  have h : hj_sts 4 ((16 * (c / 16)) ^^^ (c % 16)) = c / 16 ^^^ hj_tab (c % 16) := by
    rw [hj_sts_xor, hj_sts_16, hj_tab_sts _ (Nat.mod_lt _ (by omega))]
  rw [← h, hj_split]
def hj_cb (c b : Nat) : Nat := hj_sts 8 (c ^^^ b)
theorem hj_cb_nib (c b : Nat) : hj_sts 4 (hj_sts 4 (c ^^^ b)) = hj_cb c b := rfl
theorem hj_st_lt {c : Nat} (h : c < 2 ^ 32) : hj_st c < 2 ^ 32 := by
  unfold hj_st
  refine Nat.xor_lt_two_pow (by omega) ?_
  split <;> decide
theorem hj_sts_lt (k : Nat) : ∀ {c : Nat}, c < 2 ^ 32 → hj_sts k c < 2 ^ 32 := by
  induction k with
  | zero => intro c h; exact h
  | succ k ih => intro c h; exact ih (hj_st_lt h)
theorem hj_xor_lt {c b : Nat} (h : c < 2 ^ 32) (hb : b < 256) : c ^^^ b < 2 ^ 32 := Nat.xor_lt_two_pow h (by omega)
theorem hj_cb_lt {c b : Nat} (h : c < 2 ^ 32) (hb : b < 256) : hj_cb c b < 2 ^ 32 := hj_sts_lt 8 (hj_xor_lt h hb)
def hj_crc (d : Nat → Nat) (a : Nat) : Nat → Nat
  | 0 => 4294967295
  | n + 1 => hj_cb (hj_crc d a n) (d (a + n))
def hj_chk (d : Nat → Nat) (a n : Nat) : Nat := hj_crc d a n ^^^ 4294967295
def hj_bs (d : Nat → Nat) : Prop := ∀ q, d q < 256
theorem hj_crc_lt {d : Nat → Nat} (hd : hj_bs d) (a : Nat) : ∀ n, hj_crc d a n < 2 ^ 32
  | 0 => by show 4294967295 < 2 ^ 32; decide
  | n + 1 => hj_cb_lt (hj_crc_lt hd a n) (hd _)
theorem hj_chk_lt {d : Nat → Nat} (hd : hj_bs d) (a n : Nat) : hj_chk d a n < 2 ^ 32 := Nat.xor_lt_two_pow (hj_crc_lt hd a n) (by decide)
theorem hj_crc_congr {d d' : Nat → Nat} {a a' : Nat} : ∀ n, (∀ j, j < n → d' (a' + j) = d (a + j)) → hj_crc d' a' n = hj_crc d a n
  | 0, _ => rfl
  | n + 1, h => by
    show hj_cb _ _ = hj_cb _ _
    rw [hj_crc_congr n (fun j hj => h j (by omega)), h n (by omega)]
theorem hj_chk_congr {d d' : Nat → Nat} {a a' n : Nat} (h : ∀ j, j < n → d' (a' + j) = d (a + j)) : hj_chk d' a' n = hj_chk d a n := by
  unfold hj_chk
  rw [hj_crc_congr n h]
/-! numbers of several bytes -/
def hj_len (d : Nat → Nat) (a : Nat) : Nat := d a + 256 * d (a + 1)
def hj_four (d : Nat → Nat) (a : Nat) : Nat := d a + 256 * d (a + 1) + 65536 * d (a + 2) + 16777216 * d (a + 3)
def hj_by (v j : Nat) : Nat := v / 256 ^ j % 256
theorem hj_by_lt (v j : Nat) : hj_by v j < 256 := Nat.mod_lt _ (by omega)
theorem hj_by0 (v : Nat) : hj_by v 0 = v % 256 := by simp [hj_by]
theorem hj_by1 (v : Nat) : hj_by v 1 = v / 256 % 256 := by simp [hj_by]
theorem hj_by2 (v : Nat) : hj_by v 2 = v / 65536 % 256 := by simp [hj_by]
theorem hj_by3 (v : Nat) : hj_by v 3 = v / 16777216 % 256 := by simp [hj_by]
theorem hj_four_lt {d : Nat → Nat} (hd : hj_bs d) (a : Nat) : hj_four d a < 2 ^ 32 := by
  have h0 := hd a; have h1 := hd (a + 1); have h2 := hd (a + 2); have h3 := hd (a + 3)
  unfold hj_four
  omega
theorem hj_len_lt {d : Nat → Nat} (hd : hj_bs d) (a : Nat) : hj_len d a < 65536 := by
  have h0 := hd a; have h1 := hd (a + 1)
  unfold hj_len
  omega
theorem hj_four_by {d : Nat → Nat} {a v : Nat} (hv : v < 2 ^ 32) (h : ∀ j, j < 4 → d (a + j) = hj_by v j) : hj_four d a = v := by
  have h0 := h 0 (by omega); have h1 := h 1 (by omega); have h2 := h 2 (by omega); have h3 := h 3 (by omega)
  rw [hj_by0] at h0; rw [hj_by1] at h1; rw [hj_by2] at h2; rw [hj_by3] at h3
  unfold hj_four
  rw [show a + 0 = a from rfl] at h0
  omega
theorem hj_four_congr {d d' : Nat → Nat} {a a' : Nat} (h : ∀ j, j < 4 → d' (a' + j) = d (a + j)) : hj_four d' a' = hj_four d a := by
  have h0 := h 0 (by omega); have h1 := h 1 (by omega); have h2 := h 2 (by omega); have h3 := h 3 (by omega)
  unfold hj_four
  simp only [Nat.add_zero] at h0
  rw [h0, h1, h2, h3]
/-! records -/
def hj_sz (n : Nat) : Nat := 6 + n + n % 2
def hj_hb (h : Nat) : Nat := 512 * (2 + 31 * h)
def hj_ok (d : Nat → Nat) (h a : Nat) : Prop := a + 2 ≤ 15872 ∧ 1 ≤ hj_len d (hj_hb h + a) ∧ hj_len d (hj_hb h + a) ≤ 1000 ∧ a + hj_sz (hj_len d (hj_hb h + a)) ≤ 15872 ∧ hj_four d (hj_hb h + a + 2 + hj_len d (hj_hb h + a)) = hj_chk d (hj_hb h + a) (2 + hj_len d (hj_hb h + a))
theorem hj_ok_dec (d : Nat → Nat) (h a : Nat) : hj_ok d h a ∨ ¬ hj_ok d h a := Classical.em _
noncomputable def hj_rl (d : Nat → Nat) (h a : Nat) : Nat := @ite _ (hj_ok d h a) (Classical.propDecidable _) (hj_len d (hj_hb h + a)) 0
theorem hj_rl_ok {d : Nat → Nat} {h a : Nat} (k : hj_ok d h a) : hj_rl d h a = hj_len d (hj_hb h + a) := by
  unfold hj_rl
  rw [if_pos k]
theorem hj_rl_no {d : Nat → Nat} {h a : Nat} (k : ¬ hj_ok d h a) : hj_rl d h a = 0 := by
  unfold hj_rl
  rw [if_neg k]
theorem hj_rl_pos {d : Nat → Nat} {h a : Nat} (k : 0 < hj_rl d h a) : hj_ok d h a := by
  rcases hj_ok_dec d h a with q | q
  · exact q
  · rw [hj_rl_no q] at k; omega
theorem hj_rl_in {d : Nat → Nat} {h a : Nat} (k : 0 < hj_rl d h a) : hj_rl d h a ≤ 1000 ∧ a + hj_sz (hj_rl d h a) ≤ 15872 ∧ hj_rl d h a = hj_len d (hj_hb h + a) := by
  have q := hj_rl_pos k
  rw [hj_rl_ok q]
  exact ⟨q.2.2.1, q.2.2.2.1, rfl⟩
theorem hj_sz_8 {n : Nat} (h : 1 ≤ n) : 8 ≤ hj_sz n := by unfold hj_sz; omega
theorem hj_sz_le (n : Nat) : hj_sz n ≤ n + 7 := by unfold hj_sz; omega
noncomputable def hj_pos (d : Nat → Nat) (h : Nat) : Nat → Nat
  | 0 => 0
  | i + 1 => hj_pos d h i + hj_sz (hj_rl d h (hj_pos d h i))
def hj_Is (d : Nat → Nat) (h n : Nat) : Prop := (∀ i, i < n → 0 < hj_rl d h (hj_pos d h i)) ∧ hj_rl d h (hj_pos d h n) = 0
theorem hj_pos_in {d : Nat → Nat} {h : Nat} : ∀ n, (∀ i, i < n → 0 < hj_rl d h (hj_pos d h i)) → 8 * n ≤ hj_pos d h n ∧ hj_pos d h n ≤ 15872 ∧ hj_pos d h n % 2 = 0
  | 0, _ => by simp [hj_pos]
  | n + 1, k => by
    obtain ⟨h1, h2, h3⟩ := hj_pos_in n (fun i hi => k i (by omega))
    have h4 := k n (by omega)
    obtain ⟨h5, h6, -⟩ := hj_rl_in h4
    show 8 * (n + 1) ≤ hj_pos d h n + hj_sz (hj_rl d h (hj_pos d h n)) ∧ hj_pos d h n + hj_sz (hj_rl d h (hj_pos d h n)) ≤ 15872 ∧ (hj_pos d h n + hj_sz (hj_rl d h (hj_pos d h n))) % 2 = 0
    generalize hj_rl d h (hj_pos d h n) = r at h4 h5 h6 ⊢
    unfold hj_sz at h6 ⊢
    omega
theorem hj_Is_uniq {d : Nat → Nat} {h n n' : Nat} (a : hj_Is d h n) (b : hj_Is d h n') : n = n' := by
  rcases Nat.lt_trichotomy n n' with q | q | q
  · have := b.1 n q; have := a.2; omega
  · exact q
  · have := a.1 n' q; have := b.2; omega
noncomputable def hj_cnt (d : Nat → Nat) (h : Nat) : Nat → Nat → Nat
  | 0, i => i
  | f + 1, i => if hj_rl d h (hj_pos d h i) = 0 then i else hj_cnt d h f (i + 1)
noncomputable def hj_N (d : Nat → Nat) (h : Nat) : Nat := hj_cnt d h 1984 0
theorem hj_rl_end {d : Nat → Nat} {h a : Nat} (k : 15872 < a + 2) : hj_rl d h a = 0 := hj_rl_no (fun q => by have := q.1; omega)
theorem hj_cnt_is {d : Nat → Nat} {h : Nat} : ∀ f i, i + f = 1984 → (∀ j, j < i → 0 < hj_rl d h (hj_pos d h j)) → hj_Is d h (hj_cnt d h f i)
  | 0, i, e, k => by
    refine ⟨k, ?_⟩
    have := hj_pos_in i k
    show hj_rl d h (hj_pos d h i) = 0
    exact hj_rl_end (by omega)
  | f + 1, i, e, k => by
    unfold hj_cnt
    by_cases q : hj_rl d h (hj_pos d h i) = 0
    · rw [if_pos q]; exact ⟨k, q⟩
    · rw [if_neg q]
      refine hj_cnt_is f (i + 1) (by omega) (fun j hj => ?_)
      rcases Nat.lt_or_ge j i with z | z
      · exact k j z
      · rw [show j = i by omega]; omega
theorem hj_N_is (d : Nat → Nat) (h : Nat) : hj_Is d h (hj_N d h) := hj_cnt_is 1984 0 rfl (fun j hj => by omega)
theorem hj_N_of {d : Nat → Nat} {h n : Nat} (k : hj_Is d h n) : n = hj_N d h := hj_Is_uniq k (hj_N_is d h)
theorem hj_N_le (d : Nat → Nat) (h : Nat) : hj_N d h ≤ 1984 := by
  have := hj_pos_in _ (hj_N_is d h).1
  omega
