/-! writing blocks -/
def hj_blk (d : Nat → Nat) (b : Nat) (r : Nat → Nat) (a : Nat) : Nat → Nat := fun q => if 512 * b ≤ q ∧ q < 512 * b + 512 then r (a + (q - 512 * b)) else d q
def hj_dec (du : Int32) : Int32 := if 0 < du then du - 1 else du
abbrev hj_DS : Type := Bool × (Nat → Nat) × Int32 × Int32
/-- m blocks of the row r, from f + m - 1 down to f, on the disk from block b0 on -/
def hj_wdn (r : Nat → Nat) (b0 f : Nat) : Nat → (Nat → Nat) → Int32 → Int32 → hj_DS
  | 0, d, du, wr => (true, d, du, wr)
  | m + 1, d, du, wr => if du = 0 then (false, d, -1, wr) else hj_wdn r b0 f m (hj_blk d (b0 + f + m) r (512 * (f + m))) (hj_dec du) (wr + 1)
/-- m blocks of the row r, from b on upwards -/
def hj_wup (r : Nat → Nat) (b0 : Nat) : Nat → Nat → (Nat → Nat) → Int32 → Int32 → hj_DS
  | 0, _, d, du, wr => (true, d, du, wr)
  | m + 1, b, d, du, wr => if du = 0 then (false, d, -1, wr) else hj_wup r b0 m (b + 1) (hj_blk d (b0 + b) r (512 * b)) (hj_dec du) (wr + 1)
theorem hj_blk_congr {d : Nat → Nat} {b : Nat} {r r' : Nat → Nat} {a : Nat} (h : ∀ j, j < 512 → r' (a + j) = r (a + j)) : hj_blk d b r' a = hj_blk d b r a := by
  funext q
  unfold hj_blk
  by_cases k : 512 * b ≤ q ∧ q < 512 * b + 512
  · rw [if_pos k, if_pos k, h _ (by omega)]
  · rw [if_neg k, if_neg k]
theorem hj_blk_bs {d : Nat → Nat} {b : Nat} {r : Nat → Nat} {a : Nat} (hd : hj_bs d) (hr : hj_bs r) : hj_bs (hj_blk d b r a) := by
  intro q
  unfold hj_blk
  split
  · exact hr _
  · exact hd _
theorem hj_wdn_congr {r r' : Nat → Nat} {b0 f : Nat} : ∀ m d du wr, (∀ j, 512 * f ≤ j → j < 512 * (f + m) → r' j = r j) → hj_wdn r' b0 f m d du wr = hj_wdn r b0 f m d du wr
  | 0, _, _, _, _ => rfl
  | m + 1, d, du, wr, h => by
    unfold hj_wdn
    rw [hj_blk_congr (r := r) (r' := r') (fun j hj => h _ (by omega) (by omega)), hj_wdn_congr m _ _ _ (fun j h1 h2 => h j h1 (by omega))]
theorem hj_wup_congr {r r' : Nat → Nat} {b0 : Nat} : ∀ m b d du wr, (∀ j, 512 * b ≤ j → j < 512 * (b + m) → r' j = r j) → hj_wup r' b0 m b d du wr = hj_wup r b0 m b d du wr
  | 0, _, _, _, _, _ => rfl
  | m + 1, b, d, du, wr, h => by
    unfold hj_wup
    rw [hj_blk_congr (r := r) (r' := r') (fun j hj => h _ (by omega) (by omega)), hj_wup_congr m (b + 1) _ _ _ (fun j h1 h2 => h j (by omega) (by omega))]
theorem hj_wdn_bs {r : Nat → Nat} {b0 f : Nat} (hr : hj_bs r) : ∀ m d du wr, hj_bs d → hj_bs (hj_wdn r b0 f m d du wr).2.1
  | 0, _, _, _, h => h
  | m + 1, d, du, wr, h => by
    unfold hj_wdn
    split
    · exact h
    · exact hj_wdn_bs hr m _ _ _ (hj_blk_bs h hr)
theorem hj_wup_bs {r : Nat → Nat} {b0 : Nat} (hr : hj_bs r) : ∀ m b d du wr, hj_bs d → hj_bs (hj_wup r b0 m b d du wr).2.1
  | 0, _, _, _, _, h => h
  | m + 1, b, d, du, wr, h => by
    unfold hj_wup
    split
    · exact h
    · exact hj_wup_bs hr m _ _ _ _ (hj_blk_bs h hr)
theorem hj_wdn_at {r : Nat → Nat} {b0 f : Nat} : ∀ m d du wr, (hj_wdn r b0 f m d du wr).1 = true → ∀ q, (hj_wdn r b0 f m d du wr).2.1 q = if 512 * (b0 + f) ≤ q ∧ q < 512 * (b0 + f + m) then r (q - 512 * b0) else d q
  | 0, d, du, wr, _, q => by
    rw [if_neg (by omega)]; rfl
  | m + 1, d, du, wr, h, q => by
    unfold hj_wdn at h ⊢
    by_cases z : du = 0
    · rw [if_pos z] at h; cases h
    · rw [if_neg z] at h ⊢
      rw [hj_wdn_at m _ _ _ h q]
      unfold hj_blk
      by_cases k1 : 512 * (b0 + f) ≤ q ∧ q < 512 * (b0 + f + m)
      · rw [if_pos k1, if_pos (by omega)]
      · rw [if_neg k1]
        by_cases k2 : 512 * (b0 + f + m) ≤ q ∧ q < 512 * (b0 + f + m) + 512
        · rw [if_pos k2, if_pos (by omega)]
          congr 1
          omega
        · rw [if_neg k2, if_neg (by omega)]
/-! the row that append lays -/
def hj_im0 (d : Nat → Nat) (h u : Nat) (tp : Nat → Nat) (tl : Nat) : Nat → Nat := fun k => if k < u then d (hj_hb h + k) else if k < u + 2 then hj_by tl (k - u) else if k < u + 2 + tl then tp (k - u - 2) else 0
def hj_im (d : Nat → Nat) (h u : Nat) (tp : Nat → Nat) (tl : Nat) : Nat → Nat := fun k => if u + 2 + tl ≤ k ∧ k < u + 6 + tl then hj_by (hj_chk (hj_im0 d h u tp tl) u (2 + tl)) (k - (u + 2 + tl)) else hj_im0 d h u tp tl k
theorem hj_im0_bs {d tp : Nat → Nat} {h u tl : Nat} (hd : hj_bs d) (ht : hj_bs tp) : hj_bs (hj_im0 d h u tp tl) := by
  intro k
  unfold hj_im0
  split
  · exact hd _
  · split
    · exact hj_by_lt _ _
    · split
      · exact ht _
      · omega
theorem hj_im_bs {d tp : Nat → Nat} {h u tl : Nat} (hd : hj_bs d) (ht : hj_bs tp) : hj_bs (hj_im d h u tp tl) := by
  intro k
  unfold hj_im
  split
  · exact hj_by_lt _ _
  · exact hj_im0_bs hd ht _
theorem hj_ok_congr {d d' : Nat → Nat} {h a : Nat} (k : hj_ok d h a) (e : ∀ j, a ≤ j → j < a + 6 + hj_len d (hj_hb h + a) → d' (hj_hb h + j) = d (hj_hb h + j)) : hj_ok d' h a ∧ hj_len d' (hj_hb h + a) = hj_len d (hj_hb h + a) := by
  have el : hj_len d' (hj_hb h + a) = hj_len d (hj_hb h + a) := by
    have e0 := e a (by omega) (by omega)
    have e1 := e (a + 1) (by omega) (by omega)
    unfold hj_len
    rw [show hj_hb h + a + 1 = hj_hb h + (a + 1) by omega, e0, e1]
  refine ⟨?_, el⟩
  obtain ⟨k1, k2, k3, k4, k5⟩ := k
  unfold hj_ok
  rw [el]
  refine ⟨k1, k2, k3, k4, ?_⟩
  rw [hj_four_congr (d := d) (a := hj_hb h + a + 2 + hj_len d (hj_hb h + a)) (fun j hj => by
    have := e (a + 2 + hj_len d (hj_hb h + a) + j) (by omega) (by omega)
    rw [show hj_hb h + a + 2 + hj_len d (hj_hb h + a) + j = hj_hb h + (a + 2 + hj_len d (hj_hb h + a) + j) by omega]; exact this), k5]
  refine (hj_chk_congr (fun j hj => ?_)).symm
  rw [show hj_hb h + a + j = hj_hb h + (a + j) by omega]
  exact e (a + j) (by omega) (by omega)
theorem hj_rl_congr {d d' : Nat → Nat} {h a : Nat} (k : 0 < hj_rl d h a) (e : ∀ j, a ≤ j → j < a + 6 + hj_rl d h a → d' (hj_hb h + j) = d (hj_hb h + j)) : hj_rl d' h a = hj_rl d h a := by
  have q := hj_rl_pos k
  have q2 := (hj_rl_in k).2.2
  rw [q2] at e
  obtain ⟨a1, a2⟩ := hj_ok_congr q e
  rw [hj_rl_ok a1, hj_rl_ok q, a2]
theorem hj_pos_congr {d d' : Nat → Nat} {h n : Nat} (k : ∀ i, i < n → 0 < hj_rl d h (hj_pos d h i)) (e : ∀ j, j < hj_pos d h n → d' (hj_hb h + j) = d (hj_hb h + j)) : ∀ i, i ≤ n → hj_pos d' h i = hj_pos d h i ∧ (i < n → hj_rl d' h (hj_pos d h i) = hj_rl d h (hj_pos d h i)) := by
  have mono : ∀ i, i ≤ n → hj_pos d h i ≤ hj_pos d h n := by
    intro i hi
    induction hi with
    | refl => exact Nat.le_refl _
    | @step z hz ih =>
      have := ih (fun i hi => k i (by omega)) (fun j hj => e j (Nat.lt_of_lt_of_le hj (Nat.le_add_right _ _)))
      exact Nat.le_trans this (Nat.le_add_right _ _)
  have rle : ∀ i, i < n → hj_rl d' h (hj_pos d h i) = hj_rl d h (hj_pos d h i) := by
    intro i hi
    refine hj_rl_congr (k i hi) (fun j _ h2 => e j ?_)
    have h3 : hj_pos d h (i + 1) ≤ hj_pos d h n := mono (i + 1) hi
    have h4 : hj_pos d h (i + 1) = hj_pos d h i + hj_sz (hj_rl d h (hj_pos d h i)) := rfl
    unfold hj_sz at h4
    omega
  intro i
  induction i with
  | zero => intro _; exact ⟨rfl, fun q => rle 0 q⟩
  | succ i ih =>
    intro hi
    obtain ⟨a1, a2⟩ := ih (by omega)
    refine ⟨?_, fun q => rle _ q⟩
    show hj_pos d' h i + hj_sz (hj_rl d' h (hj_pos d' h i)) = hj_pos d h i + hj_sz (hj_rl d h (hj_pos d h i))
    rw [a1, a2 (by omega)]
/-- a row's records behind an append that was written whole -/
theorem hj_append {d d' tp : Nat → Nat} {h n u tl : Nat} (hd : hj_bs d) (ht : hj_bs tp) (hI : hj_Is d h n) (hu : u = hj_pos d h n) (h1 : 1 ≤ tl) (h2 : tl ≤ 1000) (h3 : u + hj_sz tl ≤ 15872)
    (e : ∀ j, j < u + hj_sz tl + 2 → j < 15872 → d' (hj_hb h + j) = hj_im d h u tp tl j) :
    hj_Is d' h (n + 1) ∧ (∀ i, i ≤ n → hj_pos d' h i = hj_pos d h i) ∧ (∀ i, i < n → hj_rl d' h (hj_pos d h i) = hj_rl d h (hj_pos d h i)) ∧ hj_rl d' h u = tl ∧ hj_pos d' h (n + 1) = u + hj_sz tl := by
  have hsz : hj_sz tl = 6 + tl + tl % 2 := rfl
  have elo : ∀ j, j < u → d' (hj_hb h + j) = d (hj_hb h + j) := by
    intro j hj
    rw [e j (by omega) (by omega)]
    unfold hj_im hj_im0
    rw [if_neg (by omega), if_pos hj]
  have hpc := hj_pos_congr hI.1 (fun j hj => elo j (by omega))
  have e0 : ∀ j, u ≤ j → j < u + 2 + tl → d' (hj_hb h + j) = hj_im0 d h u tp tl j := by
    intro j ha hb
    rw [e j (by omega) (by omega)]
    unfold hj_im
    rw [if_neg (by omega)]
  have eb0 : d' (hj_hb h + u) = hj_by tl 0 := by
    rw [e0 u (by omega) (by omega)]
    unfold hj_im0
    rw [if_neg (by omega), if_pos (by omega), Nat.sub_self]
  have eb1 : d' (hj_hb h + u + 1) = hj_by tl 1 := by
    rw [show hj_hb h + u + 1 = hj_hb h + (u + 1) by omega, e0 (u + 1) (by omega) (by omega)]
    unfold hj_im0
    rw [if_neg (by omega), if_pos (by omega), show u + 1 - u = 1 by omega]
  have elen : hj_len d' (hj_hb h + u) = tl := by
    unfold hj_len
    rw [eb0, eb1, hj_by0, hj_by1]
    omega
  have hok : hj_ok d' h u := by
    unfold hj_ok
    rw [elen]
    refine ⟨by omega, h1, h2, h3, ?_⟩
    have ec : hj_chk d' (hj_hb h + u) (2 + tl) = hj_chk (hj_im0 d h u tp tl) u (2 + tl) := by
      refine hj_chk_congr (fun j hj => ?_)
      rw [show hj_hb h + u + j = hj_hb h + (u + j) by omega]
      exact e0 (u + j) (by omega) (by omega)
    rw [ec]
    refine hj_four_by (hj_chk_lt (hj_im0_bs hd ht) _ _) (fun j hj => ?_)
    rw [show hj_hb h + u + 2 + tl + j = hj_hb h + (u + 2 + tl + j) by omega, e _ (by omega) (by omega)]
    unfold hj_im
    rw [if_pos (by omega), show u + 2 + tl + j - (u + 2 + tl) = j by omega]
  have erl : hj_rl d' h u = tl := by rw [hj_rl_ok hok, elen]
  have epn : hj_pos d' h n = u := by rw [(hpc n (Nat.le_refl n)).1, hu]
  have eps : hj_pos d' h (n + 1) = u + hj_sz tl := by
    show hj_pos d' h n + hj_sz (hj_rl d' h (hj_pos d' h n)) = _
    rw [epn, erl]
  refine ⟨⟨fun i hi => ?_, ?_⟩, fun i hi => (hpc i hi).1, fun i hi => (hpc i (by omega)).2 hi, erl, eps⟩
  · rcases Nat.lt_or_ge i n with q | q
    · rw [(hpc i (by omega)).1, (hpc i (by omega)).2 q]; exact hI.1 i q
    · rw [show i = n by omega, epn, erl]; omega
  · rw [eps]
    refine hj_rl_no (fun q => ?_)
    obtain ⟨q1, q2, -⟩ := q
    have z0 : d' (hj_hb h + (u + hj_sz tl)) = 0 := by
      rw [e _ (by omega) (by omega)]
      unfold hj_im hj_im0
      rw [if_neg (by omega), if_neg (by omega), if_neg (by omega), if_neg (by omega)]
    have z1 : d' (hj_hb h + (u + hj_sz tl) + 1) = 0 := by
      rw [show hj_hb h + (u + hj_sz tl) + 1 = hj_hb h + (u + hj_sz tl + 1) by omega, e _ (by omega) (by omega)]
      unfold hj_im hj_im0
      rw [if_neg (by omega), if_neg (by omega), if_neg (by omega), if_neg (by omega)]
    unfold hj_len at q2
    rw [z0, z1] at q2
    omega
/-! heads -/
def hj_hd0 (h g : Nat) : Nat → Nat := fun k => if k = 0 then 74 else if k = 1 then 49 else if k = 2 then h % 256 else if k = 3 then 0 else if k < 8 then hj_by g (k - 4) else 0
def hj_hd (h g : Nat) : Nat → Nat := fun k => if 8 ≤ k ∧ k < 12 then hj_by (hj_chk (hj_hd0 h g) 0 8) (k - 8) else hj_hd0 h g k
theorem hj_hd0_bs (h g : Nat) : hj_bs (hj_hd0 h g) := by
  intro k
  unfold hj_hd0
  repeat' split
  all_goals first | omega | exact hj_by_lt _ _
theorem hj_hd_bs (h g : Nat) : hj_bs (hj_hd h g) := by
  intro k
  unfold hj_hd
  split
  · exact hj_by_lt _ _
  · exact hj_hd0_bs _ _ _
def hj_right (d : Nat → Nat) (b : Nat) : Prop := d (512 * b) = 74 ∧ d (512 * b + 1) = 49 ∧ d (512 * b + 2) < 2 ∧ d (512 * b + 3) = 0 ∧ 0 < hj_four d (512 * b + 4) ∧ hj_four d (512 * b + 4) < 2 ^ 31 ∧ hj_four d (512 * b + 8) = hj_chk d (512 * b) 8
def hj_fd : Nat → Nat := hj_blk (fun _ => 0) 1 (hj_hd 0 1) 0
theorem hj_fd_bs : hj_bs hj_fd := hj_blk_bs (fun _ => by omega) (hj_hd_bs 0 1)
theorem hj_fd_0 : ¬ hj_right hj_fd 0 := by
  intro h
  have := h.1
  unfold hj_fd hj_blk at this
  rw [if_neg (by omega)] at this
  exact absurd this (by decide)
theorem hj_right_hd {d : Nat → Nat} {b h g : Nat} (hh : h < 2) (h0 : 0 < g) (hg : g < 2 ^ 31) (e : ∀ j, j < 512 → d (512 * b + j) = hj_hd h g j) : hj_right d b ∧ hj_four d (512 * b + 4) = g ∧ d (512 * b + 2) = h := by
  have hg4 : hj_four d (512 * b + 4) = g := by
    refine hj_four_by (by omega) (fun j hj => ?_)
    rw [show 512 * b + 4 + j = 512 * b + (4 + j) by omega, e _ (by omega)]
    unfold hj_hd hj_hd0
    rw [if_neg (by omega), if_neg (by omega), if_neg (by omega), if_neg (by omega), if_neg (by omega), if_pos (by omega), show 4 + j - 4 = j by omega]
  have e2 : d (512 * b + 2) = h := by
    rw [e 2 (by omega)]
    show h % 256 = h
    omega
  refine ⟨⟨?_, ?_, by omega, ?_, by omega, by omega, ?_⟩, hg4, e2⟩
  · have := e 0 (by omega); exact this
  · exact e 1 (by omega)
  · exact e 3 (by omega)
  · have ec : hj_chk d (512 * b) 8 = hj_chk (hj_hd0 h g) 0 8 := by
      refine hj_chk_congr (fun j hj => ?_)
      rw [e j (by omega)]
      unfold hj_hd
      rw [if_neg (by omega), Nat.zero_add]
    rw [ec]
    refine hj_four_by (hj_chk_lt (hj_hd0_bs h g) _ _) (fun j hj => ?_)
    rw [show 512 * b + 8 + j = 512 * b + (8 + j) by omega, e _ (by omega)]
    unfold hj_hd
    rw [if_pos (by omega), show 8 + j - 8 = j by omega]
theorem hj_fd_1 : hj_right hj_fd 1 ∧ hj_four hj_fd 516 = 1 ∧ hj_fd 514 = 0 := by
  refine hj_right_hd (d := hj_fd) (b := 1) (h := 0) (g := 1) (by omega) (by omega) (by omega) (fun j hj => ?_)
  unfold hj_fd hj_blk
  rw [if_pos (by omega), show 0 + (512 * 1 + j - 512 * 1) = j by omega]
