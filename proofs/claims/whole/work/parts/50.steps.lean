/-! both journals side by side: what holds between calls, and that each call keeps it and answers alike -/
def hj_Inv (d tp pl nx ex : Nat → Nat) (tl st g h n us mm : Nat) (fs fl fm fb fk : Nat → Int32) (mk : Nat → Nat) : Prop :=
  (hj_bs d ∧ hj_bs tp ∧ hj_bs pl ∧ hj_bs nx ∧ hj_bs ex) ∧ (tl ≤ 1000 ∧ st ≤ 2 ∧ h < 2 ∧ g < 2 ^ 31 ∧ n ≤ 1984 ∧ us ≤ 15872) ∧ (∀ i, mk i < 2) ∧ (∀ i, n ≤ i → mk i = 0) ∧ mm = hj_ms mk n ∧ (∀ i, i < n → fs i = nI (hj_pos d h i)) ∧ (∀ i, i < n → fl i = nI (hj_rl d h (hj_pos d h i))) ∧ (∀ i, i < n → fm i = nI (mk i)) ∧ (∀ i, i < n → fb i = nI (hj_pos d h i)) ∧ (∀ i, i < n → 0 < hj_rl d h (hj_pos d h i)) ∧ (∀ i, i < n → fk i = nI (mk i)) ∧ ((st = 2 ∧ n = hj_N d h ∧ us = hj_pos d h n ∧ ∀ i, i < 2000 → fk i = nI (mk i)) ∨ (¬ st = 2 ∧ n = 0 ∧ us = 0 ∧ mm = 0 ∧ g = 0 ∧ h = 0))
theorem hj_inj {n i k : Nat} (hn : n ≤ 1984) (hi : i < n) (hk : k < n) (h : nI i = nI k) : i = k := (hj_eq32 (by omega) (by omega)).mp h
theorem hj_N84 (d : Nat → Nat) (h : Nat) : hj_N d h ≤ 1984 := hj_N_le d h
theorem hj_fresh {d tp pl nx ex : Nat → Nat} {tl g h : Nat} {fs fl fm fb fk : Nat → Int32} (b1 : hj_bs d) (b2 : hj_bs tp) (b3 : hj_bs pl) (b4 : hj_bs nx) (b5 : hj_bs ex) (htl : tl ≤ 1000) (hh : h < 2) (hg : g < 2 ^ 31) (hr : ∀ i, i < hj_N d h → fs i = nI (hj_pos d h i) ∧ fl i = nI (hj_rl d h (hj_pos d h i)) ∧ fm i = nI 0) (hb : ∀ i, i < hj_N d h → fb i = nI (hj_pos d h i)) (hk : ∀ i, i < 2000 → fk i = nI 0) : hj_Inv d tp pl nx ex tl 2 g h (hj_N d h) (hj_pos d h (hj_N d h)) 0 fs fl fm fb fk (fun _ => 0) := by
  have hN := hj_N_le d h
  have hIs := hj_N_is d h
  refine ⟨⟨b1, b2, b3, b4, b5⟩, ⟨htl, by omega, hh, hg, hN, (hj_pos_in _ hIs.1).2.1⟩, fun _ => Nat.zero_lt_two, fun _ _ => rfl, (hj_ms_0 _ (fun _ _ => rfl)).symm, fun i hi => (hr i hi).1, fun i hi => (hr i hi).2.1, fun i hi => (hr i hi).2.2, hb, hIs.1, fun i hi => hk i (by omega), Or.inl ⟨rfl, rfl, rfl, hk⟩⟩
theorem hj_down {d tp pl nx ex : Nat → Nat} {tl st : Nat} {fs fl fm fb fk : Nat → Int32} (b1 : hj_bs d) (b2 : hj_bs tp) (b3 : hj_bs pl) (b4 : hj_bs nx) (b5 : hj_bs ex) (htl : tl ≤ 1000) (hst : st < 2) : hj_Inv d tp pl nx ex tl st 0 0 0 0 0 fs fl fm fb fk (fun _ => 0) := by
  refine ⟨⟨b1, b2, b3, b4, b5⟩, ⟨htl, by omega, by omega, by omega, by omega, by omega⟩, fun _ => Nat.zero_lt_two, fun _ _ => rfl, rfl, fun i hi => absurd hi (Nat.not_lt_zero _), fun i hi => absurd hi (Nat.not_lt_zero _), fun i hi => absurd hi (Nat.not_lt_zero _), fun i hi => absurd hi (Nat.not_lt_zero _), fun i hi => absurd hi (Nat.not_lt_zero _), fun i hi => absurd hi (Nat.not_lt_zero _), Or.inr ⟨by omega, rfl, rfl, rfl, rfl, rfl⟩⟩
theorem hj_give_det {tp : Nat → Nat} {tl : Nat} {v : Int64} {x r r' : Int32} {a a' : Nat → Nat} {b b' : Nat} (h : hj_give tp tl v x r a b) (h' : hj_give tp tl v x r' a' b') : r = r' ∧ a = a' ∧ b = b' := by
  rcases h with ⟨k, h1, h2, h3, h4⟩ | ⟨h1, h2, h3, h4⟩ <;> rcases h' with ⟨k', g1, g2, g3, g4⟩ | ⟨g1, g2, g3, g4⟩
  · have e : k = k' := by
      obtain ⟨q1, q2, q3, q4⟩ := h1
      obtain ⟨p1, p2, p3, p4⟩ := g1
      exact (hj_eq32 (by omega) (by omega)).mp (q1.symm.trans p1)
    subst e
    exact ⟨h2.trans g2.symm, h3.trans g3.symm, h4.trans g4.symm⟩
  · exact absurd ⟨k, h1⟩ g1
  · exact absurd ⟨k', g1⟩ h1
  · exact ⟨h2.trans g2.symm, h3.trans g3.symm, h4.trans g4.symm⟩
section HJS
variable {d tp pl nx ex : Nat → Nat} {tl st g h n us mm : Nat} {fs fl fm fb fk : Nat → Int32} {mk : Nat → Nat}
theorem hj_s_give {v : Int64} {x r : Int32} {a : Nat → Nat} {b : Nat} (hI : hj_Inv d tp pl nx ex tl st g h n us mm fs fl fm fb fk mk) (hw : hj_give tp tl v x r a b) : hj_Inv d a pl nx ex b st g h n us mm fs fl fm fb fk mk := by
  obtain ⟨⟨b1, b2, b3, b4, b5⟩, ⟨c1, c2⟩, z⟩ := hI
  rcases hw with ⟨k, ⟨h1, h5, h6, h7⟩, h2, h3, h4⟩ | ⟨h1, h2, h3, h4⟩
  · rw [h3, h4]; exact ⟨⟨b1, hj_gvt_bs b2, b3, b4, b5⟩, ⟨h7, c2⟩, z⟩
  · rw [h3, h4]; exact ⟨⟨b1, b2, b3, b4, b5⟩, ⟨c1, c2⟩, z⟩
theorem hj_s_wipe (hI : hj_Inv d tp pl nx ex tl st g h n us mm fs fl fm fb fk mk) : hj_Inv d tp pl nx ex 0 st g h n us mm fs fl fm fb fk mk := by
  obtain ⟨b, ⟨c1, c2⟩, z⟩ := hI
  exact ⟨b, ⟨by omega, c2⟩, z⟩
theorem hj_s_crash (hI : hj_Inv d tp pl nx ex tl st g h n us mm fs fl fm fb fk mk) : hj_Inv d tp pl nx ex tl 0 0 0 0 0 0 fs fl fm fb fk (fun _ => 0) := by
  obtain ⟨⟨b1, b2, b3, b4, b5⟩, ⟨c1, c2⟩, z⟩ := hI
  exact hj_down b1 b2 b3 b4 b5 c1 (by omega)
theorem hj_s_mark {x r r' : Int32} {b : Nat} {fm' fk' : Nat → Int32} {mk' : Nat → Nat} {mm' : Nat} (hb : b < 2) (hI : hj_Inv d tp pl nx ex tl st g h n us mm fs fl fm fb fk mk) (hw : hj_mark mk n x b r mk' ∧ (∀ i, i < n → fm' i = nI (mk' i)) ∧ mm' = hj_ms mk' n) (hw' : (∃ i, i < n ∧ x = nI i ∧ r' = nI 1 ∧ fk' = va_up fk i (nI b)) ∨ (¬ vp_in x n ∧ r' = nI 0 ∧ fk' = fk)) : r = r' ∧ hj_Inv d tp pl nx ex tl st g h n us mm' fs fl fm' fb fk' mk' := by
  obtain ⟨b0, ⟨c1, c2, c3, c4, c5, c6⟩, z1, z2, z3, z4, z5, z6, z7, z8, z9, z10⟩ := hI
  obtain ⟨hm, hf, hs⟩ := hw
  rcases hm with ⟨i, h1, h2, h3, h4⟩ | ⟨h1, h2, h3⟩
  · rcases hw' with ⟨i', g1, g2, g3, g4⟩ | ⟨g1, g2, g3⟩
    · have e : i = i' := hj_inj c5 h1 g1 (h2.symm.trans g2)
      subst e
      have up : ∀ q, va_up fk i (nI b) q = if q = i then nI b else fk q := fun q => rfl
      have um : ∀ q, va_up mk i b q = if q = i then b else mk q := fun q => rfl
      have key : ∀ q, fk q = nI (mk q) → fk' q = nI (mk' q) := by
        intro q hq
        rw [g4, h4, up, um]
        by_cases e : q = i
        · rw [if_pos e, if_pos e]
        · rw [if_neg e, if_neg e]; exact hq
      refine ⟨h3.trans g3.symm, b0, ⟨c1, c2, c3, c4, c5, c6⟩, ?_, ?_, hs, z4, z5, hf, z7, z8, fun q hq => key q (z9 q hq), ?_⟩
      · intro q
        rw [h4, um]
        split
        · exact hb
        · exact z1 q
      · intro q hq
        rw [h4, um, if_neg (by omega)]
        exact z2 q hq
      · rcases z10 with ⟨q1, q2, q3, q4⟩ | ⟨q1, q2, q3⟩
        · exact Or.inl ⟨q1, q2, q3, fun q hq => key q (q4 q hq)⟩
        · omega
    · exact absurd (by rw [h2]; exact vp_in_nI h1 (by omega)) g1
  · rcases hw' with ⟨i', g1, g2, g3, g4⟩ | ⟨g1, g2, g3⟩
    · exact absurd (by rw [g2]; exact vp_in_nI g1 (by omega)) h1
    · subst h3; subst g3
      refine ⟨h2.trans g2.symm, b0, ⟨c1, c2, c3, c4, c5, c6⟩, z1, z2, hs, z4, z5, hf, z7, z8, z9, ?_⟩
      rw [hs, ← z3]
      exact z10
theorem hj_cin_det {du x r r' y y' : Int32} (h : hj_cin du x r y) (h' : hj_cin du x r' y') : r = r' ∧ y = y' := by
  rcases h with ⟨h1, h2, h3⟩ | ⟨h1, h2, h3⟩ <;> rcases h' with ⟨g1, g2, g3⟩ | ⟨g1, g2, g3⟩
  · exact ⟨h2.trans g2.symm, h3.trans g3.symm⟩
  · exact absurd h1 g1
  · exact absurd g1 h1
  · refine ⟨h2.trans g2.symm, ?_⟩
    rcases h3 with ⟨q1, q2⟩ | ⟨q1, q2⟩ <;> rcases g3 with ⟨p1, p2⟩ | ⟨p1, p2⟩
    · exact q2.trans p2.symm
    · exact absurd q1 p1
    · exact absurd p1 q1
    · exact q2.trans p2.symm
theorem hj_spo_det {x y z r r' : Int32} {u u' : Nat → Nat} (h0 : hj_spo d st x y z r u) (h' : hj_spo d st x y z r' u') : r = r' ∧ u = u' := by
  rcases h0 with ⟨b, k, h1, h2, h3, h4, h5, h6, h7⟩ | ⟨h1, h2, h3⟩ <;> rcases h' with ⟨b', k', g1, g2, g3, g4, g5, g6, g7⟩ | ⟨g1, g2, g3⟩
  · have e : b = b' := (hj_eq32 (by omega) (by omega)).mp (h4.symm.trans g4)
    have e2 : k = k' := (hj_eq32 (by omega) (by omega)).mp (h5.symm.trans g5)
    subst e; subst e2
    exact ⟨h6.trans g6.symm, h7.trans g7.symm⟩
  · exact absurd ⟨h1, by rw [h4]; exact vp_in_nI h2 (by omega), by rw [h5]; exact vp_in_nI h3 (by omega)⟩ g1
  · exact absurd ⟨g1, by rw [g4]; exact vp_in_nI g2 (by omega), by rw [g5]; exact vp_in_nI g3 (by omega)⟩ h1
  · exact ⟨h2.trans g2.symm, h3.trans g3.symm⟩
theorem hj_s_spoil {x y z r : Int32} {u : Nat → Nat} (hI : hj_Inv d tp pl nx ex tl st g h n us mm fs fl fm fb fk mk) (hw : hj_spo d st x y z r u) : hj_Inv u tp pl nx ex tl st g h n us mm fs fl fm fb fk mk := by
  rcases hw with ⟨b, k, h1, h2, h3, h4, h5, h6, h7⟩ | ⟨h1, h2, h3⟩
  · obtain ⟨⟨b1, b2⟩, c0, z1, z2, z3, z4, z5, z6, z7, z8, z9, z10⟩ := hI
    rcases z10 with ⟨q1, q2⟩ | ⟨q1, q2, q3⟩
    · exact absurd q1 h1
    · subst q2
      refine ⟨⟨?_, b2⟩, c0, z1, z2, z3, fun i hi => absurd hi (Nat.not_lt_zero _), fun i hi => absurd hi (Nat.not_lt_zero _), z6, fun i hi => absurd hi (Nat.not_lt_zero _), fun i hi => absurd hi (Nat.not_lt_zero _), z9, Or.inr ⟨q1, rfl, q3⟩⟩
      rw [h7]
      exact hj_up_bs b1 (Nat.mod_lt _ (by omega))
  · rw [h3]; exact hI
theorem hj_lenr_det {x r r' : Int32} (hn : n ≤ 1984) (h0 : hj_lenr d h n x r) (h' : hj_lenr d h n x r') : r = r' := by
  rcases h0 with ⟨i, h1, h2, h3⟩ | ⟨h1, h2⟩ <;> rcases h' with ⟨i', g1, g2, g3⟩ | ⟨g1, g2⟩
  · have e : i = i' := hj_inj hn h1 g1 (h2.symm.trans g2)
    subst e
    exact h3.trans g3.symm
  · exact absurd (by rw [h2]; exact vp_in_nI h1 (by omega)) g1
  · exact absurd (by rw [g2]; exact vp_in_nI g1 (by omega)) h1
  · exact h2.trans g2.symm
theorem hj_recr_det {x y : Int32} {r r' : Int64} (hn : n ≤ 1984) (h0 : hj_recr d h n x y r) (h' : hj_recr d h n x y r') : r = r' := by
  rcases h0 with ⟨i, k, h1, h2, h3, h4, h5⟩ | ⟨h1, h2⟩ <;> rcases h' with ⟨i', k', g1, g2, g3, g4, g5⟩ | ⟨g1, g2⟩
  · have e : i = i' := hj_inj hn h1 g1 (h3.symm.trans g3)
    have e2 : k = k' := (hj_eq32 (by omega) (by omega)).mp (h4.symm.trans g4)
    subst e; subst e2
    exact h5.trans g5.symm
  · exact absurd ⟨by rw [h3]; exact vp_in_nI h1 (by omega), by rw [h4]; exact vp_in_nI h2 (by omega)⟩ g1
  · exact absurd ⟨by rw [g3]; exact vp_in_nI g1 (by omega), by rw [g4]; exact vp_in_nI g2 (by omega)⟩ h1
  · exact h2.trans g2.symm
theorem hj_blkr_det {x y : Int32} {r r' : Int64} (h0 : hj_blkr d x y r) (h' : hj_blkr d x y r') : r = r' := by
  rcases h0 with ⟨i, k, h1, h2, h3, h4, h5⟩ | ⟨h1, h2⟩ <;> rcases h' with ⟨i', k', g1, g2, g3, g4, g5⟩ | ⟨g1, g2⟩
  · have e : i = i' := (hj_eq32 (by omega) (by omega)).mp (h3.symm.trans g3)
    have e2 : k = k' := (hj_eq32 (by omega) (by omega)).mp (h4.symm.trans g4)
    subst e; subst e2
    exact h5.trans g5.symm
  · exact absurd ⟨by rw [h3]; exact vp_in_nI h1 (by omega), by rw [h4]; exact vp_in_nI h2 (by omega)⟩ g1
  · exact absurd ⟨by rw [g3]; exact vp_in_nI g1 (by omega), by rw [g4]; exact vp_in_nI g2 (by omega)⟩ h1
  · exact h2.trans g2.symm
theorem hj_rcv_pos {b : Nat} (hr : hj_rcv d b) : 0 < hj_hg d b := by
  rw [hj_hg_ok hr.2.1]
  exact hr.2.1.2.2.2.2.1
/-- recover: the state behind it is the same on both sides -/
theorem hj_s_recover {r r' : Int32} {st1 g1 h1 n1 us1 st2 g2 h2 n2 us2 : Nat} {f1 f2 f3 fb1 fk1 : Nat → Int32} (hI : hj_Inv d tp pl nx ex tl st g h n us mm fs fl fm fb fk mk)
    (hw : (hj_hg d 0 = 0 ∧ hj_hg d 1 = 0 ∧ r = -1 ∧ st1 = 1 ∧ g1 = 0 ∧ h1 = 0 ∧ n1 = 0 ∧ us1 = 0) ∨ (∃ b, hj_rcv d b ∧ st1 = 2 ∧ g1 = hj_hg d b ∧ h1 = d (512 * b + 2) ∧ n1 = hj_N d h1 ∧ us1 = hj_pos d h1 n1 ∧ r = nI n1 ∧ (∀ i, i < hj_N d h1 → f1 i = nI (hj_pos d h1 i) ∧ f2 i = nI (hj_rl d h1 (hj_pos d h1 i)) ∧ f3 i = nI 0)))
    (hw' : (∀ i, i < 2000 → fk1 i = nI 0) ∧ ((hj_hg d 0 = 0 ∧ hj_hg d 1 = 0 ∧ r' = -1 ∧ st2 = 1 ∧ g2 = 0 ∧ h2 = 0 ∧ n2 = 0 ∧ us2 = 0) ∨ (∃ b, hj_rcv d b ∧ st2 = 2 ∧ g2 = hj_hg d b ∧ h2 = d (512 * b + 2) ∧ n2 = hj_N d h2 ∧ us2 = hj_pos d h2 n2 ∧ r' = nI n2 ∧ (∀ i, i < hj_N d h2 → fb1 i = nI (hj_pos d h2 i))))) :
    r = r' ∧ st1 = st2 ∧ g1 = g2 ∧ h1 = h2 ∧ n1 = n2 ∧ us1 = us2 ∧ hj_Inv d tp pl nx ex tl st1 g1 h1 n1 us1 0 f1 f2 f3 fb1 fk1 (fun _ => 0) := by
  obtain ⟨⟨b1, b2, b3, b4, b5⟩, ⟨c1, c2⟩, -⟩ := hI
  obtain ⟨hk, hw'⟩ := hw'
  have key : ∀ b, hj_rcv d b → hj_hg d 0 = 0 → hj_hg d 1 = 0 → False := by
    intro b hb q0 q1
    have := hj_rcv_pos hb
    have := hb.1
    rcases (show b = 0 ∨ b = 1 by omega) with rfl | rfl <;> omega
  rcases hw with ⟨p1, p2, rfl, rfl, rfl, rfl, rfl, rfl⟩ | ⟨b, p1, rfl, rfl, rfl, rfl, rfl, rfl, p2⟩ <;> rcases hw' with ⟨q1, q2, rfl, rfl, rfl, rfl, rfl, rfl⟩ | ⟨b', q1, rfl, rfl, rfl, rfl, rfl, rfl, q2⟩
  · exact ⟨rfl, rfl, rfl, rfl, rfl, rfl, hj_down b1 b2 b3 b4 b5 c1 (by omega)⟩
  · exact (key b' q1 p1 p2).elim
  · exact (key b p1 q1 q2).elim
  · have e := hj_rcv_uniq p1 q1
    subst e
    exact ⟨rfl, rfl, rfl, rfl, rfl, rfl, hj_fresh b1 b2 b3 b4 b5 c1 p1.2.1.2.2.1 (hj_hg_lt d b) p2 q2 hk⟩
end HJS
