/-! what the Statement gives of the start -/
set_option maxRecDepth 100000 in
set_option maxHeartbeats 4000000 in
theorem lw_steps {s : State} {b : Nat} {A : Nat → Prop} (hts : ∀ w ∈ lw_tbl, w.before #[Value.ref b] s = true) (hs : ∀ c ∈ flatC (Jvm.Cond.and given_1 narrow_1), c.before #[Value.ref b] s = true) (hA : ∀ a : Nat, a < s.heap.size → ¬ A a) : ∃ t : Nat, va_Z "HalfJournal" "CHECK_STEPS" "[I" (.ref t) A s s.heap ∧ va_T .int t 16 (fun j => .int (nI (hj_tab j))) A s s.heap := by
  obtain ⟨t, ht, hT⟩ := va_Tof (N := 16) (f := fun j => .int (nI (hj_tab j))) (A := A) (by decide) (hs (Cond.arrayOf (.static "HalfJournal" "CHECK_STEPS" "[I") .int) (by decide +kernel)) (va_eqt (hs (Cond.eq (.length (.static "HalfJournal" "CHECK_STEPS" "[I")) (.int 16)) (by decide +kernel))) (by
    intro j hj
    rcases (show j = 0 ∨ j = 1 ∨ j = 2 ∨ j = 3 ∨ j = 4 ∨ j = 5 ∨ j = 6 ∨ j = 7 ∨ j = 8 ∨ j = 9 ∨ j = 10 ∨ j = 11 ∨ j = 12 ∨ j = 13 ∨ j = 14 ∨ j = 15 by omega) with rfl | rfl | rfl | rfl | rfl | rfl | rfl | rfl | rfl | rfl | rfl | rfl | rfl | rfl | rfl | rfl
    · rw [show nI (hj_tab 0) = (0 : Int32) by decide +kernel]; exact va_eqt (hs (Cond.eq (.elem (.static "HalfJournal" "CHECK_STEPS" "[I") (.int 0)) (.int (0))) (by decide +kernel))
    · rw [show nI (hj_tab 1) = (498536548 : Int32) by decide +kernel]; exact va_eqt (hs (Cond.eq (.elem (.static "HalfJournal" "CHECK_STEPS" "[I") (.int 1)) (.int (498536548))) (by decide +kernel))
    · rw [show nI (hj_tab 2) = (997073096 : Int32) by decide +kernel]; exact va_eqt (hs (Cond.eq (.elem (.static "HalfJournal" "CHECK_STEPS" "[I") (.int 2)) (.int (997073096))) (by decide +kernel))
    · rw [show nI (hj_tab 3) = (651767980 : Int32) by decide +kernel]; exact va_eqt (hs (Cond.eq (.elem (.static "HalfJournal" "CHECK_STEPS" "[I") (.int 3)) (.int (651767980))) (by decide +kernel))
    · rw [show nI (hj_tab 4) = (1994146192 : Int32) by decide +kernel]; exact va_eqt (hs (Cond.eq (.elem (.static "HalfJournal" "CHECK_STEPS" "[I") (.int 4)) (.int (1994146192))) (by decide +kernel))
    · rw [show nI (hj_tab 5) = (1802195444 : Int32) by decide +kernel]; exact va_eqt (hs (Cond.eq (.elem (.static "HalfJournal" "CHECK_STEPS" "[I") (.int 5)) (.int (1802195444))) (by decide +kernel))
    · rw [show nI (hj_tab 6) = (1303535960 : Int32) by decide +kernel]; exact va_eqt (hs (Cond.eq (.elem (.static "HalfJournal" "CHECK_STEPS" "[I") (.int 6)) (.int (1303535960))) (by decide +kernel))
    · rw [show nI (hj_tab 7) = (1342533948 : Int32) by decide +kernel]; exact va_eqt (hs (Cond.eq (.elem (.static "HalfJournal" "CHECK_STEPS" "[I") (.int 7)) (.int (1342533948))) (by decide +kernel))
    · rw [show nI (hj_tab 8) = (-306674912 : Int32) by decide +kernel]; exact va_eqt (hs (Cond.eq (.elem (.static "HalfJournal" "CHECK_STEPS" "[I") (.int 8)) (.int (-306674912))) (by decide +kernel))
    · rw [show nI (hj_tab 9) = (-267414716 : Int32) by decide +kernel]; exact va_eqt (hs (Cond.eq (.elem (.static "HalfJournal" "CHECK_STEPS" "[I") (.int 9)) (.int (-267414716))) (by decide +kernel))
    · rw [show nI (hj_tab 10) = (-690576408 : Int32) by decide +kernel]; exact va_eqt (hs (Cond.eq (.elem (.static "HalfJournal" "CHECK_STEPS" "[I") (.int 10)) (.int (-690576408))) (by decide +kernel))
    · rw [show nI (hj_tab 11) = (-882789492 : Int32) by decide +kernel]; exact va_eqt (hs (Cond.eq (.elem (.static "HalfJournal" "CHECK_STEPS" "[I") (.int 11)) (.int (-882789492))) (by decide +kernel))
    · rw [show nI (hj_tab 12) = (-1687895376 : Int32) by decide +kernel]; exact va_eqt (hs (Cond.eq (.elem (.static "HalfJournal" "CHECK_STEPS" "[I") (.int 12)) (.int (-1687895376))) (by decide +kernel))
    · rw [show nI (hj_tab 13) = (-2032938284 : Int32) by decide +kernel]; exact va_eqt (hs (Cond.eq (.elem (.static "HalfJournal" "CHECK_STEPS" "[I") (.int 13)) (.int (-2032938284))) (by decide +kernel))
    · rw [show nI (hj_tab 14) = (-1609899400 : Int32) by decide +kernel]; exact va_eqt (hs (Cond.eq (.elem (.static "HalfJournal" "CHECK_STEPS" "[I") (.int 14)) (.int (-1609899400))) (by decide +kernel))
    · rw [show nI (hj_tab 15) = (-1111625188 : Int32) by decide +kernel]; exact va_eqt (hs (Cond.eq (.elem (.static "HalfJournal" "CHECK_STEPS" "[I") (.int 15)) (.int (-1111625188))) (by decide +kernel))) hA
  exact ⟨t, va_Zref (hts (Cond.laysStatic "HalfJournal" "CHECK_STEPS" "[I") (by decide +kernel)) (hts (Cond.initialized "HalfJournal") (by decide +kernel)) ht hA, hT⟩
theorem lw_str {s : State} {b k : Nat} {tx : String} (h1 : (Cond.stringRef "HalfJournal" k tx).before #[Value.ref b] s = true) (hex : (Cond.exactly (.string "HalfJournal" k) "java/lang/String").before #[Value.ref b] s = true) : ∃ sa, vk_R "HalfJournal" k tx sa s := by
  obtain ⟨a2, c, cA, kA, q1, -⟩ := Cond.exactly_spec (args := #[Value.ref b]) (first := s) (o := none) (s := s) (idx := []) (t := .string "HalfJournal" k) (cls := "java/lang/String") hex
  exact ⟨a2, vk_R.of h1 q1⟩
set_option maxRecDepth 100000 in
set_option maxHeartbeats 4000000 in
theorem lw_E {s : State} {b : Nat} (hts : ∀ w ∈ lw_tbl, w.before #[Value.ref b] s = true) (hg : (Jvm.Cond.and given_1 narrow_1).before #[Value.ref b] s = true) : hj_EY (fun q => s.heap.size ≤ q) s s.heap := by
  have hs := flat_of_before _ hg
  have hA : ∀ a : Nat, a < s.heap.size → ¬ (fun q => s.heap.size ≤ q) a := fun a h q => absurd h (Nat.not_lt.mpr q)
  have nest : ∀ w ∈ hj_nest, va_Nw w s := by
    intro w hw
    obtain ⟨h1, h2⟩ := List.mem_filter.mp hw
    have h3 := hts w h1
    cases w with
    | fieldLinkNest => exact va_tabs rfl rfl h3
    | methodLinkNest => exact va_tabs rfl rfl h3
    | _ => exact absurd h2 (by simp [hj_isNest])
  have cd : ∀ w ∈ hj_cd, va_Nw w s := by
    intro w hw
    obtain ⟨h1, h2⟩ := List.mem_filter.mp hw
    have h3 := hts w h1
    cases w with
    | castable => exact va_tabs rfl rfl h3
    | declares => exact va_tabs rfl rfl h3
    | _ => exact absurd h2 (by simp [hj_isCd])
  exact ⟨⟨nest, lw_steps hts hs hA⟩, cd, hj_SZ.of (hts _ (by decide +kernel)) (hs _ (by decide +kernel)) hA, hj_SZ.of (hts _ (by decide +kernel)) (hs _ (by decide +kernel)) hA,
    lw_str (hts _ (by decide +kernel)) (hs _ (by decide +kernel)), lw_str (hts _ (by decide +kernel)) (hs _ (by decide +kernel)), lw_str (hts _ (by decide +kernel)) (hs _ (by decide +kernel)), lw_str (hts _ (by decide +kernel)) (hs _ (by decide +kernel)),
    va_Nc.of (hs _ (by decide +kernel)), va_Nc.of (hs _ (by decide +kernel)), va_Nc.of (hs _ (by decide +kernel))⟩
set_option maxRecDepth 100000 in
set_option maxHeartbeats 4000000 in
theorem lw_K {s : State} {b : Nat} (hts : ∀ w ∈ hj_tbl, w.before #[Value.ref b] s = true) : ∃ (dC : Nat → ClassId) (dI : Nat → Nat → Nat), va_K (dC, dI) vwCl [] s := by
  obtain ⟨c0, i0, h0⟩ := u_known hts i_D (hts _ m_31)
  obtain ⟨c1, i1, h1⟩ := u_known hts i_R (hts _ m_52)
  obtain ⟨c2, i2, h2⟩ := u_known hts i_J (hts _ m_23)
  obtain ⟨c3, i3, h3⟩ := u_known hts i_M (hts _ m_639)
  refine ⟨fun k => match k with | 0 => c0 | 1 => c1 | 2 => c2 | _ => c3, fun k => match k with | 0 => i0 | 1 => i1 | 2 => i2 | _ => i3, fun k q hq => ?_, fun k q hq => by simp at hq⟩
  match k, hq with
  | 0, hq => cases hq; exact h0
  | 1, hq => cases hq; exact h1
  | 2, hq => cases hq; exact h2
  | 3, hq => cases hq; exact h3
  | k + 4, hq => simp at hq
theorem lw_gt {L i : Nat} (hL : L ≤ 2048) (hi : i < 2 ^ 31) : nI L - nI 4 < nI i ↔ L < i + 4 := by
  by_cases h : 4 ≤ L
  · rw [pk_sub h, nI_ltI (by omega) hi]
    omega
  · have h1 : nI L - nI 4 < 0 := by
      rcases (show L = 0 ∨ L = 1 ∨ L = 2 ∨ L = 3 by omega) with rfl | rfl | rfl | rfl <;> decide
    have h2 : ¬ nI i < 0 := nI_pos hi
    exact ⟨fun _ => by omega, fun _ => Int32.lt_of_lt_of_le h1 (Int32.not_lt.mp h2)⟩
