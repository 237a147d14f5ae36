theorem hj_nx {d tp pl nx ex : Nat → Nat} {tl st g h n us mm : Nat} {fs fl fm fb fk : Nat → Int32} {mk : Nat → Nat} {nx2 : Nat → Nat} (hI : hj_Inv d tp pl nx ex tl st g h n us mm fs fl fm fb fk mk) (hb : hj_bs nx2) : hj_Inv d tp pl nx2 ex tl st g h n us mm fs fl fm fb fk mk := by
  obtain ⟨⟨b1, b2, b3, b4, b5⟩, z⟩ := hI
  exact ⟨⟨b1, b2, b3, hb, b5⟩, z⟩
theorem hj_nxe {d tp pl nx ex : Nat → Nat} {tl st g h n us mm : Nat} {fs fl fm fb fk : Nat → Int32} {mk : Nat → Nat} {nx2 e2 : Nat → Nat} (hI : hj_Inv d tp pl nx ex tl st g h n us mm fs fl fm fb fk mk) (hb : hj_bs nx2) (he : hj_bs e2) : hj_Inv d tp pl nx2 e2 tl st g h n us mm fs fl fm fb fk mk := by
  obtain ⟨⟨b1, b2, b3, b4, b5⟩, z⟩ := hI
  exact ⟨⟨b1, b2, b3, hb, he⟩, z⟩
theorem hj_a_t1 {d tp : Nat → Nat} {tl st g h n us : Nat} {fb : Nat → Int32} {du wr : Int32} {th2 r2 : Int32} {st2 g2 h2 us2 n2 tl2 : Nat} {du2 wr2 : Int32} {d2 : Nat → Nat} {fb2 : Nat → Int32} {nx2 : Nat → Nat} (hz : ¬ st = 2) (hw : hj_bs nx2 ∧ ((th2 = nI 1 ∧ ¬ st = 2 ∧ st2 = st ∧ g2 = g ∧ h2 = h ∧ us2 = us ∧ n2 = n ∧ tl2 = tl ∧ du2 = du ∧ wr2 = wr ∧ d2 = d ∧ fb2 = fb) ∨ (th2 = nI 2 ∧ st = 2 ∧ tl = 0 ∧ st2 = st ∧ g2 = g ∧ h2 = h ∧ us2 = us ∧ n2 = n ∧ tl2 = tl ∧ du2 = du ∧ wr2 = wr ∧ d2 = d ∧ fb2 = fb) ∨ (th2 = nI 3 ∧ st = 2 ∧ 0 < tl ∧ 15872 < us + hj_sz tl ∧ st2 = st ∧ g2 = g ∧ h2 = h ∧ us2 = us ∧ n2 = n ∧ tl2 = tl ∧ du2 = du ∧ wr2 = wr ∧ d2 = d ∧ fb2 = fb) ∨ (th2 = nI 0 ∧ st = 2 ∧ 0 < tl ∧ us + hj_sz tl ≤ 15872 ∧ tl2 = 0 ∧ d2 = (hj_wdn (hj_im d h us tp tl) (2 + h * 31) (us / 512) (hj_lb (us + hj_sz tl) + 1 - us / 512) d du wr).2.1 ∧ du2 = (hj_wdn (hj_im d h us tp tl) (2 + h * 31) (us / 512) (hj_lb (us + hj_sz tl) + 1 - us / 512) d du wr).2.2.1 ∧ wr2 = (hj_wdn (hj_im d h us tp tl) (2 + h * 31) (us / 512) (hj_lb (us + hj_sz tl) + 1 - us / 512) d du wr).2.2.2 ∧ (((hj_wdn (hj_im d h us tp tl) (2 + h * 31) (us / 512) (hj_lb (us + hj_sz tl) + 1 - us / 512) d du wr).1 = false ∧ r2 = -1 ∧ st2 = 0 ∧ g2 = 0 ∧ h2 = 0 ∧ us2 = 0 ∧ n2 = 0) ∨ ((hj_wdn (hj_im d h us tp tl) (2 + h * 31) (us / 512) (hj_lb (us + hj_sz tl) + 1 - us / 512) d du wr).1 = true ∧ r2 = nI n ∧ st2 = 2 ∧ g2 = g ∧ h2 = h ∧ n2 = hj_N d2 h ∧ us2 = hj_pos d2 h n2 ∧ ∀ i, i < hj_N d2 h → fb2 i = nI (hj_pos d2 h i)))))) : th2 = nI 1 ∧ hj_bs nx2 ∧ st2 = st ∧ g2 = g ∧ h2 = h ∧ us2 = us ∧ n2 = n ∧ tl2 = tl ∧ du2 = du ∧ wr2 = wr ∧ d2 = d ∧ fb2 = fb := by
  obtain ⟨hb, h1 | h1 | h1 | h1⟩ := hw
  · exact ⟨h1.1, hb, h1.2.2⟩
  · exact absurd h1.2.1 hz
  · exact absurd h1.2.1 hz
  · exact absurd h1.2.1 hz
theorem hj_a_t2 {d tp : Nat → Nat} {tl st g h n us : Nat} {fb : Nat → Int32} {du wr : Int32} {th2 r2 : Int32} {st2 g2 h2 us2 n2 tl2 : Nat} {du2 wr2 : Int32} {d2 : Nat → Nat} {fb2 : Nat → Int32} {nx2 : Nat → Nat} (hz : st = 2) (ht : tl = 0) (hw : hj_bs nx2 ∧ ((th2 = nI 1 ∧ ¬ st = 2 ∧ st2 = st ∧ g2 = g ∧ h2 = h ∧ us2 = us ∧ n2 = n ∧ tl2 = tl ∧ du2 = du ∧ wr2 = wr ∧ d2 = d ∧ fb2 = fb) ∨ (th2 = nI 2 ∧ st = 2 ∧ tl = 0 ∧ st2 = st ∧ g2 = g ∧ h2 = h ∧ us2 = us ∧ n2 = n ∧ tl2 = tl ∧ du2 = du ∧ wr2 = wr ∧ d2 = d ∧ fb2 = fb) ∨ (th2 = nI 3 ∧ st = 2 ∧ 0 < tl ∧ 15872 < us + hj_sz tl ∧ st2 = st ∧ g2 = g ∧ h2 = h ∧ us2 = us ∧ n2 = n ∧ tl2 = tl ∧ du2 = du ∧ wr2 = wr ∧ d2 = d ∧ fb2 = fb) ∨ (th2 = nI 0 ∧ st = 2 ∧ 0 < tl ∧ us + hj_sz tl ≤ 15872 ∧ tl2 = 0 ∧ d2 = (hj_wdn (hj_im d h us tp tl) (2 + h * 31) (us / 512) (hj_lb (us + hj_sz tl) + 1 - us / 512) d du wr).2.1 ∧ du2 = (hj_wdn (hj_im d h us tp tl) (2 + h * 31) (us / 512) (hj_lb (us + hj_sz tl) + 1 - us / 512) d du wr).2.2.1 ∧ wr2 = (hj_wdn (hj_im d h us tp tl) (2 + h * 31) (us / 512) (hj_lb (us + hj_sz tl) + 1 - us / 512) d du wr).2.2.2 ∧ (((hj_wdn (hj_im d h us tp tl) (2 + h * 31) (us / 512) (hj_lb (us + hj_sz tl) + 1 - us / 512) d du wr).1 = false ∧ r2 = -1 ∧ st2 = 0 ∧ g2 = 0 ∧ h2 = 0 ∧ us2 = 0 ∧ n2 = 0) ∨ ((hj_wdn (hj_im d h us tp tl) (2 + h * 31) (us / 512) (hj_lb (us + hj_sz tl) + 1 - us / 512) d du wr).1 = true ∧ r2 = nI n ∧ st2 = 2 ∧ g2 = g ∧ h2 = h ∧ n2 = hj_N d2 h ∧ us2 = hj_pos d2 h n2 ∧ ∀ i, i < hj_N d2 h → fb2 i = nI (hj_pos d2 h i)))))) : th2 = nI 2 ∧ hj_bs nx2 ∧ st2 = st ∧ g2 = g ∧ h2 = h ∧ us2 = us ∧ n2 = n ∧ tl2 = tl ∧ du2 = du ∧ wr2 = wr ∧ d2 = d ∧ fb2 = fb := by
  obtain ⟨hb, h1 | h1 | h1 | h1⟩ := hw
  · exact absurd hz h1.2.1
  · exact ⟨h1.1, hb, h1.2.2.2⟩
  · have := h1.2.2.1; omega
  · have := h1.2.2.1; omega
theorem hj_a_t3 {d tp : Nat → Nat} {tl st g h n us : Nat} {fb : Nat → Int32} {du wr : Int32} {th2 r2 : Int32} {st2 g2 h2 us2 n2 tl2 : Nat} {du2 wr2 : Int32} {d2 : Nat → Nat} {fb2 : Nat → Int32} {nx2 : Nat → Nat} (hz : st = 2) (ht : 0 < tl) (hf : 15872 < us + hj_sz tl) (hw : hj_bs nx2 ∧ ((th2 = nI 1 ∧ ¬ st = 2 ∧ st2 = st ∧ g2 = g ∧ h2 = h ∧ us2 = us ∧ n2 = n ∧ tl2 = tl ∧ du2 = du ∧ wr2 = wr ∧ d2 = d ∧ fb2 = fb) ∨ (th2 = nI 2 ∧ st = 2 ∧ tl = 0 ∧ st2 = st ∧ g2 = g ∧ h2 = h ∧ us2 = us ∧ n2 = n ∧ tl2 = tl ∧ du2 = du ∧ wr2 = wr ∧ d2 = d ∧ fb2 = fb) ∨ (th2 = nI 3 ∧ st = 2 ∧ 0 < tl ∧ 15872 < us + hj_sz tl ∧ st2 = st ∧ g2 = g ∧ h2 = h ∧ us2 = us ∧ n2 = n ∧ tl2 = tl ∧ du2 = du ∧ wr2 = wr ∧ d2 = d ∧ fb2 = fb) ∨ (th2 = nI 0 ∧ st = 2 ∧ 0 < tl ∧ us + hj_sz tl ≤ 15872 ∧ tl2 = 0 ∧ d2 = (hj_wdn (hj_im d h us tp tl) (2 + h * 31) (us / 512) (hj_lb (us + hj_sz tl) + 1 - us / 512) d du wr).2.1 ∧ du2 = (hj_wdn (hj_im d h us tp tl) (2 + h * 31) (us / 512) (hj_lb (us + hj_sz tl) + 1 - us / 512) d du wr).2.2.1 ∧ wr2 = (hj_wdn (hj_im d h us tp tl) (2 + h * 31) (us / 512) (hj_lb (us + hj_sz tl) + 1 - us / 512) d du wr).2.2.2 ∧ (((hj_wdn (hj_im d h us tp tl) (2 + h * 31) (us / 512) (hj_lb (us + hj_sz tl) + 1 - us / 512) d du wr).1 = false ∧ r2 = -1 ∧ st2 = 0 ∧ g2 = 0 ∧ h2 = 0 ∧ us2 = 0 ∧ n2 = 0) ∨ ((hj_wdn (hj_im d h us tp tl) (2 + h * 31) (us / 512) (hj_lb (us + hj_sz tl) + 1 - us / 512) d du wr).1 = true ∧ r2 = nI n ∧ st2 = 2 ∧ g2 = g ∧ h2 = h ∧ n2 = hj_N d2 h ∧ us2 = hj_pos d2 h n2 ∧ ∀ i, i < hj_N d2 h → fb2 i = nI (hj_pos d2 h i)))))) : th2 = nI 3 ∧ hj_bs nx2 ∧ st2 = st ∧ g2 = g ∧ h2 = h ∧ us2 = us ∧ n2 = n ∧ tl2 = tl ∧ du2 = du ∧ wr2 = wr ∧ d2 = d ∧ fb2 = fb := by
  obtain ⟨hb, h1 | h1 | h1 | h1⟩ := hw
  · exact absurd hz h1.2.1
  · have := h1.2.2.1; omega
  · exact ⟨h1.1, hb, h1.2.2.2.2⟩
  · have := h1.2.2.2.1; omega
theorem hj_a_at {d tp : Nat → Nat} {h us tl : Nat} {du wr : Int32} (h0 : 0 < tl) (hf : us + hj_sz tl ≤ 15872) (hT : (hj_wdn (hj_im d h us tp tl) (2 + h * 31) (us / 512) (hj_lb (us + hj_sz tl) + 1 - us / 512) d du wr).1 = true) : ∀ j, j < us + hj_sz tl + 2 → j < 15872 → (hj_wdn (hj_im d h us tp tl) (2 + h * 31) (us / 512) (hj_lb (us + hj_sz tl) + 1 - us / 512) d du wr).2.1 (hj_hb h + j) = hj_im d h us tp tl j := by
  intro j hj hj2
  have hat := hj_wdn_at _ _ _ _ hT (hj_hb h + j)
  have hsz : hj_sz tl = 6 + tl + tl % 2 := rfl
  have hge := hj_lb_ge (us := us) (t := us + hj_sz tl) (by omega) hf
  have hlt : j < 512 * (hj_lb (us + hj_sz tl) + 1) := by
    unfold hj_lb
    split <;> omega
  have hhb : hj_hb h = 512 * (2 + h * 31) := by unfold hj_hb; rw [Nat.mul_comm 31 h]
  rw [hat]
  by_cases q : 512 * (us / 512) ≤ j
  · rw [if_pos (by rw [hhb]; omega), hhb, Nat.add_sub_cancel_left]
  · rw [if_neg (by rw [hhb]; omega)]
    unfold hj_im hj_im0
    rw [if_neg (by omega), if_pos (by omega)]
theorem hj_a_ret {d tp pl nx ex : Nat → Nat} {tl st g h n us mm : Nat} {fs fl fm fb fk : Nat → Int32} {mk : Nat → Nat} {du wr : Int32} {r1 : Int32} {st1 g1 h1 n1 us1 mm1 : Nat} {du1 wr1 : Int32} {d1 pl1 : Nat → Nat} {f1 f2 f3 : Nat → Int32} {th2 r2 : Int32} {st2 g2 h2 us2 n2 tl2 : Nat} {du2 wr2 : Int32} {d2 : Nat → Nat} {fb2 : Nat → Int32} {nx2 : Nat → Nat} (hI : hj_Inv d tp pl nx ex tl st g h n us mm fs fl fm fb fk mk) (hz : st = 2) (ht : 0 < tl) (hf : us + hj_sz tl ≤ 15872) (hj : d1 = (hj_wdn (hj_im d h us tp tl) (2 + h * 31) (us / 512) (hj_lb (us + hj_sz tl) + 1 - us / 512) d du wr).2.1 ∧ du1 = (hj_wdn (hj_im d h us tp tl) (2 + h * 31) (us / 512) (hj_lb (us + hj_sz tl) + 1 - us / 512) d du wr).2.2.1 ∧ wr1 = (hj_wdn (hj_im d h us tp tl) (2 + h * 31) (us / 512) (hj_lb (us + hj_sz tl) + 1 - us / 512) d du wr).2.2.2 ∧ hj_bs pl1 ∧ (((hj_wdn (hj_im d h us tp tl) (2 + h * 31) (us / 512) (hj_lb (us + hj_sz tl) + 1 - us / 512) d du wr).1 = false ∧ r1 = -1 ∧ st1 = 0 ∧ g1 = 0 ∧ h1 = 0 ∧ n1 = 0 ∧ us1 = 0 ∧ mm1 = 0) ∨ ((hj_wdn (hj_im d h us tp tl) (2 + h * 31) (us / 512) (hj_lb (us + hj_sz tl) + 1 - us / 512) d du wr).1 = true ∧ r1 = nI n ∧ st1 = 2 ∧ g1 = g ∧ h1 = h ∧ n1 = n + 1 ∧ us1 = us + hj_sz tl ∧ mm1 = mm ∧ f1 = va_up fs n (nI us) ∧ f2 = va_up fl n (nI tl) ∧ f3 = va_up fm n (nI 0)))) (hw : hj_bs nx2 ∧ ((th2 = nI 1 ∧ ¬ st = 2 ∧ st2 = st ∧ g2 = g ∧ h2 = h ∧ us2 = us ∧ n2 = n ∧ tl2 = tl ∧ du2 = du ∧ wr2 = wr ∧ d2 = d ∧ fb2 = fb) ∨ (th2 = nI 2 ∧ st = 2 ∧ tl = 0 ∧ st2 = st ∧ g2 = g ∧ h2 = h ∧ us2 = us ∧ n2 = n ∧ tl2 = tl ∧ du2 = du ∧ wr2 = wr ∧ d2 = d ∧ fb2 = fb) ∨ (th2 = nI 3 ∧ st = 2 ∧ 0 < tl ∧ 15872 < us + hj_sz tl ∧ st2 = st ∧ g2 = g ∧ h2 = h ∧ us2 = us ∧ n2 = n ∧ tl2 = tl ∧ du2 = du ∧ wr2 = wr ∧ d2 = d ∧ fb2 = fb) ∨ (th2 = nI 0 ∧ st = 2 ∧ 0 < tl ∧ us + hj_sz tl ≤ 15872 ∧ tl2 = 0 ∧ d2 = (hj_wdn (hj_im d h us tp tl) (2 + h * 31) (us / 512) (hj_lb (us + hj_sz tl) + 1 - us / 512) d du wr).2.1 ∧ du2 = (hj_wdn (hj_im d h us tp tl) (2 + h * 31) (us / 512) (hj_lb (us + hj_sz tl) + 1 - us / 512) d du wr).2.2.1 ∧ wr2 = (hj_wdn (hj_im d h us tp tl) (2 + h * 31) (us / 512) (hj_lb (us + hj_sz tl) + 1 - us / 512) d du wr).2.2.2 ∧ (((hj_wdn (hj_im d h us tp tl) (2 + h * 31) (us / 512) (hj_lb (us + hj_sz tl) + 1 - us / 512) d du wr).1 = false ∧ r2 = -1 ∧ st2 = 0 ∧ g2 = 0 ∧ h2 = 0 ∧ us2 = 0 ∧ n2 = 0) ∨ ((hj_wdn (hj_im d h us tp tl) (2 + h * 31) (us / 512) (hj_lb (us + hj_sz tl) + 1 - us / 512) d du wr).1 = true ∧ r2 = nI n ∧ st2 = 2 ∧ g2 = g ∧ h2 = h ∧ n2 = hj_N d2 h ∧ us2 = hj_pos d2 h n2 ∧ ∀ i, i < hj_N d2 h → fb2 i = nI (hj_pos d2 h i)))))) : th2 = nI 0 ∧ r1 = r2 ∧ st2 = st1 ∧ g2 = g1 ∧ h2 = h1 ∧ us2 = us1 ∧ n2 = n1 ∧ tl2 = 0 ∧ du2 = du1 ∧ wr2 = wr1 ∧ d2 = d1 ∧ ∃ mk1, hj_Inv d1 tp pl1 nx2 ex 0 st1 g1 h1 n1 us1 mm1 f1 f2 f3 fb2 fk mk1 := by
  obtain ⟨hb, q1 | q1 | q1 | q1⟩ := hw
  · exact absurd hz q1.2.1
  · have := q1.2.2.1; omega
  · have := q1.2.2.2.1; omega
  obtain ⟨p1, p2, p3, p4, p5, p6, p7, p8, p9⟩ := q1
  obtain ⟨k1, k2, k3, k4, k5⟩ := hj
  obtain ⟨⟨b1, b2, b3, b4, b5⟩, ⟨c1, c2, c3, c4, c5, c6⟩, z1, z2, z3, z4, z5, z6, z7, z8, z9, z10⟩ := hI
  have hbd : hj_bs d1 := by rw [k1]; exact hj_wdn_bs (hj_im_bs b1 b2) _ _ _ _ b1
  rcases k5 with ⟨e1, e2, e3, e4, e5, e6, e7, e8⟩ | ⟨e1, e2, e3, e4, e5, e6, e7, e8, e9, e10, e11⟩
  · rcases p9 with ⟨y1, y2, y3, y4, y5, y6, y7⟩ | ⟨y1, y2⟩
    · refine ⟨p1, e2.trans y2.symm, y3.trans e3.symm, y4.trans e4.symm, y5.trans e5.symm, y6.trans e7.symm, y7.trans e6.symm, p5, p7.trans k2.symm, p8.trans k3.symm, p6.trans k1.symm, fun _ => 0, ?_⟩
      rw [e3, e4, e5, e6, e7, e8]
      exact hj_down hbd b2 k4 hb b5 (by omega) (by omega)
    · exact absurd (e1.symm.trans y1) (by decide)
  · rcases p9 with ⟨y1, y2⟩ | ⟨y1, y2, y3, y4, y5, y6, y7, y8⟩
    · exact absurd (e1.symm.trans y1) (by decide)
    · rcases z10 with ⟨w1, w2, w3, w4⟩ | ⟨w1, w2⟩
      · have hIs := hj_N_is d h
        rw [← w2] at hIs
        have hap := hj_append (d' := d1) b1 b2 hIs w3 ht c1 hf (fun j hj1 hj2 => by rw [k1]; exact hj_a_at ht hf e1 j hj1 hj2)
        obtain ⟨a1, a2, a3, a4, a5⟩ := hap
        have hN : n + 1 = hj_N d1 h := hj_N_of a1
        have ed : d2 = d1 := p6.trans k1.symm
        rw [ed] at y6 y7 y8
        have hn2 : n2 = n + 1 := y6.trans hN.symm
        have hu2 : us2 = us + hj_sz tl := by rw [y7, hn2, a5]
        have hle : n + 1 ≤ 1984 := by rw [hN]; exact hj_N_le d1 h
        refine ⟨p1, e2.trans y2.symm, y3.trans e3.symm, y4.trans e4.symm, y5.trans e5.symm, hu2.trans e7.symm, hn2.trans e6.symm, p5, p7.trans k2.symm, p8.trans k3.symm, ed, mk, ?_⟩
        rw [e3, e4, e5, e6, e7, e8, e9, e10, e11]
        have hmn : mk n = 0 := z2 n (Nat.le_refl n)
        have last : ∀ i, i < n + 1 → i = n ∨ i < n := fun i hi => by omega
        have hpn : hj_pos d1 h n = us := (a2 n (Nat.le_refl n)).trans w3.symm
        refine ⟨⟨hbd, b2, k4, hb, b5⟩, ⟨by omega, by omega, c3, c4, hle, hf⟩, z1, fun i hi => z2 i (by omega), ?_, ?_, ?_, ?_, ?_, a1.1, ?_, Or.inl ⟨rfl, hN, a5.symm, w4⟩⟩
        · rw [z3]
          show hj_ms mk n = hj_ms mk n + mk n
          omega
        · intro i hi
          rcases last i hi with q | q
          · rw [q, va_up_self, hpn]
          · rw [va_up_ne _ _ (by omega), z4 i q, a2 i (by omega)]
        · intro i hi
          rcases last i hi with q | q
          · rw [q, va_up_self, hpn, a4]
          · rw [va_up_ne _ _ (by omega), z5 i q, a2 i (by omega), a3 i q]
        · intro i hi
          rcases last i hi with q | q
          · rw [q, va_up_self, hmn]
          · rw [va_up_ne _ _ (by omega), z6 i q]
        · intro i hi
          exact y8 i (by omega)
        · intro i hi
          exact w4 i (by omega)
      · exact absurd hz w1
theorem hj_c_t1 {d : Nat → Nat} {st g h n us : Nat} {fb fk : Nat → Int32} {mk : Nat → Nat} {du wr : Int32} {th2 r2 : Int32} {st2 g2 h2 us2 n2 : Nat} {du2 wr2 : Int32} {d2 : Nat → Nat} {fb2 fk2 : Nat → Int32} {nx2 e2 : Nat → Nat} (hz : ¬ st = 2) (hw : hj_bs nx2 ∧ hj_bs e2 ∧ ((th2 = nI 1 ∧ ¬ st = 2 ∧ st2 = st ∧ g2 = g ∧ h2 = h ∧ us2 = us ∧ n2 = n ∧ du2 = du ∧ wr2 = wr ∧ d2 = d ∧ fb2 = fb ∧ fk2 = fk) ∨ (th2 = nI 2 ∧ st = 2 ∧ g = 2147483647 ∧ st2 = st ∧ g2 = g ∧ h2 = h ∧ us2 = us ∧ n2 = n ∧ du2 = du ∧ wr2 = wr ∧ d2 = d ∧ fb2 = fb ∧ fk2 = fk) ∨ (th2 = nI 0 ∧ st = 2 ∧ ¬ g = 2147483647 ∧ (((hj_wup (hj_cim d h mk n) (2 + (1 - h) * 31) (hj_lb (hj_cto d h mk n) + 1) 0 d du wr).1 = false ∧ d2 = (hj_wup (hj_cim d h mk n) (2 + (1 - h) * 31) (hj_lb (hj_cto d h mk n) + 1) 0 d du wr).2.1 ∧ du2 = (hj_wup (hj_cim d h mk n) (2 + (1 - h) * 31) (hj_lb (hj_cto d h mk n) + 1) 0 d du wr).2.2.1 ∧ wr2 = (hj_wup (hj_cim d h mk n) (2 + (1 - h) * 31) (hj_lb (hj_cto d h mk n) + 1) 0 d du wr).2.2.2 ∧ r2 = -1 ∧ st2 = 0 ∧ g2 = 0 ∧ h2 = 0 ∧ us2 = 0 ∧ n2 = 0) ∨ ((hj_wup (hj_cim d h mk n) (2 + (1 - h) * 31) (hj_lb (hj_cto d h mk n) + 1) 0 d du wr).1 = true ∧ (hj_wup (hj_cim d h mk n) (2 + (1 - h) * 31) (hj_lb (hj_cto d h mk n) + 1) 0 d du wr).2.2.1 = 0 ∧ d2 = (hj_wup (hj_cim d h mk n) (2 + (1 - h) * 31) (hj_lb (hj_cto d h mk n) + 1) 0 d du wr).2.1 ∧ du2 = -1 ∧ wr2 = (hj_wup (hj_cim d h mk n) (2 + (1 - h) * 31) (hj_lb (hj_cto d h mk n) + 1) 0 d du wr).2.2.2 ∧ r2 = -1 ∧ st2 = 0 ∧ g2 = 0 ∧ h2 = 0 ∧ us2 = 0 ∧ n2 = 0) ∨ ((hj_wup (hj_cim d h mk n) (2 + (1 - h) * 31) (hj_lb (hj_cto d h mk n) + 1) 0 d du wr).1 = true ∧ ¬ (hj_wup (hj_cim d h mk n) (2 + (1 - h) * 31) (hj_lb (hj_cto d h mk n) + 1) 0 d du wr).2.2.1 = 0 ∧ d2 = hj_blk (hj_wup (hj_cim d h mk n) (2 + (1 - h) * 31) (hj_lb (hj_cto d h mk n) + 1) 0 d du wr).2.1 ((g + 1) % 2) (hj_hd (1 - h) (g + 1)) 0 ∧ du2 = hj_dec (hj_wup (hj_cim d h mk n) (2 + (1 - h) * 31) (hj_lb (hj_cto d h mk n) + 1) 0 d du wr).2.2.1 ∧ wr2 = (hj_wup (hj_cim d h mk n) (2 + (1 - h) * 31) (hj_lb (hj_cto d h mk n) + 1) 0 d du wr).2.2.2 + 1 ∧ st2 = 2 ∧ g2 = g + 1 ∧ h2 = 1 - h ∧ n2 = hj_N d2 h2 ∧ us2 = hj_pos d2 h2 n2 ∧ r2 = nI n2 ∧ (∀ i, i < hj_N d2 h2 → fb2 i = nI (hj_pos d2 h2 i)) ∧ (∀ i, i < 2000 → fk2 i = nI 0)))))) : th2 = nI 1 ∧ hj_bs nx2 ∧ hj_bs e2 ∧ st2 = st ∧ g2 = g ∧ h2 = h ∧ us2 = us ∧ n2 = n ∧ du2 = du ∧ wr2 = wr ∧ d2 = d ∧ fb2 = fb ∧ fk2 = fk := by
  obtain ⟨hb, he, h1 | h1 | h1⟩ := hw
  · exact ⟨h1.1, hb, he, h1.2.2⟩
  · exact absurd h1.2.1 hz
  · exact absurd h1.2.1 hz
theorem hj_c_t2 {d : Nat → Nat} {st g h n us : Nat} {fb fk : Nat → Int32} {mk : Nat → Nat} {du wr : Int32} {th2 r2 : Int32} {st2 g2 h2 us2 n2 : Nat} {du2 wr2 : Int32} {d2 : Nat → Nat} {fb2 fk2 : Nat → Int32} {nx2 e2 : Nat → Nat} (hz : st = 2) (ht : g = 2147483647) (hw : hj_bs nx2 ∧ hj_bs e2 ∧ ((th2 = nI 1 ∧ ¬ st = 2 ∧ st2 = st ∧ g2 = g ∧ h2 = h ∧ us2 = us ∧ n2 = n ∧ du2 = du ∧ wr2 = wr ∧ d2 = d ∧ fb2 = fb ∧ fk2 = fk) ∨ (th2 = nI 2 ∧ st = 2 ∧ g = 2147483647 ∧ st2 = st ∧ g2 = g ∧ h2 = h ∧ us2 = us ∧ n2 = n ∧ du2 = du ∧ wr2 = wr ∧ d2 = d ∧ fb2 = fb ∧ fk2 = fk) ∨ (th2 = nI 0 ∧ st = 2 ∧ ¬ g = 2147483647 ∧ (((hj_wup (hj_cim d h mk n) (2 + (1 - h) * 31) (hj_lb (hj_cto d h mk n) + 1) 0 d du wr).1 = false ∧ d2 = (hj_wup (hj_cim d h mk n) (2 + (1 - h) * 31) (hj_lb (hj_cto d h mk n) + 1) 0 d du wr).2.1 ∧ du2 = (hj_wup (hj_cim d h mk n) (2 + (1 - h) * 31) (hj_lb (hj_cto d h mk n) + 1) 0 d du wr).2.2.1 ∧ wr2 = (hj_wup (hj_cim d h mk n) (2 + (1 - h) * 31) (hj_lb (hj_cto d h mk n) + 1) 0 d du wr).2.2.2 ∧ r2 = -1 ∧ st2 = 0 ∧ g2 = 0 ∧ h2 = 0 ∧ us2 = 0 ∧ n2 = 0) ∨ ((hj_wup (hj_cim d h mk n) (2 + (1 - h) * 31) (hj_lb (hj_cto d h mk n) + 1) 0 d du wr).1 = true ∧ (hj_wup (hj_cim d h mk n) (2 + (1 - h) * 31) (hj_lb (hj_cto d h mk n) + 1) 0 d du wr).2.2.1 = 0 ∧ d2 = (hj_wup (hj_cim d h mk n) (2 + (1 - h) * 31) (hj_lb (hj_cto d h mk n) + 1) 0 d du wr).2.1 ∧ du2 = -1 ∧ wr2 = (hj_wup (hj_cim d h mk n) (2 + (1 - h) * 31) (hj_lb (hj_cto d h mk n) + 1) 0 d du wr).2.2.2 ∧ r2 = -1 ∧ st2 = 0 ∧ g2 = 0 ∧ h2 = 0 ∧ us2 = 0 ∧ n2 = 0) ∨ ((hj_wup (hj_cim d h mk n) (2 + (1 - h) * 31) (hj_lb (hj_cto d h mk n) + 1) 0 d du wr).1 = true ∧ ¬ (hj_wup (hj_cim d h mk n) (2 + (1 - h) * 31) (hj_lb (hj_cto d h mk n) + 1) 0 d du wr).2.2.1 = 0 ∧ d2 = hj_blk (hj_wup (hj_cim d h mk n) (2 + (1 - h) * 31) (hj_lb (hj_cto d h mk n) + 1) 0 d du wr).2.1 ((g + 1) % 2) (hj_hd (1 - h) (g + 1)) 0 ∧ du2 = hj_dec (hj_wup (hj_cim d h mk n) (2 + (1 - h) * 31) (hj_lb (hj_cto d h mk n) + 1) 0 d du wr).2.2.1 ∧ wr2 = (hj_wup (hj_cim d h mk n) (2 + (1 - h) * 31) (hj_lb (hj_cto d h mk n) + 1) 0 d du wr).2.2.2 + 1 ∧ st2 = 2 ∧ g2 = g + 1 ∧ h2 = 1 - h ∧ n2 = hj_N d2 h2 ∧ us2 = hj_pos d2 h2 n2 ∧ r2 = nI n2 ∧ (∀ i, i < hj_N d2 h2 → fb2 i = nI (hj_pos d2 h2 i)) ∧ (∀ i, i < 2000 → fk2 i = nI 0)))))) : th2 = nI 2 ∧ hj_bs nx2 ∧ hj_bs e2 ∧ st2 = st ∧ g2 = g ∧ h2 = h ∧ us2 = us ∧ n2 = n ∧ du2 = du ∧ wr2 = wr ∧ d2 = d ∧ fb2 = fb ∧ fk2 = fk := by
  obtain ⟨hb, he, h1 | h1 | h1⟩ := hw
  · exact absurd hz h1.2.1
  · exact ⟨h1.1, hb, he, h1.2.2.2⟩
  · exact absurd ht h1.2.2.1
theorem hj_c_ret {d tp pl nx ex : Nat → Nat} {tl st g h n us mm : Nat} {fs fl fm fb fk : Nat → Int32} {mk : Nat → Nat} {du wr : Int32} {r1 : Int32} {st1 g1 h1 n1 us1 mm1 : Nat} {du1 wr1 : Int32} {d1 pl1 : Nat → Nat} {f1 f2 f3 : Nat → Int32} {th2 r2 : Int32} {st2 g2 h2 us2 n2 : Nat} {du2 wr2 : Int32} {d2 : Nat → Nat} {fb2 fk2 : Nat → Int32} {nx2 e2 : Nat → Nat} (hI : hj_Inv d tp pl nx ex tl st g h n us mm fs fl fm fb fk mk) (hz : st = 2) (ht : ¬ g = 2147483647) (hj : hj_bs pl1 ∧ (((hj_wup (hj_cim d h mk n) (2 + (1 - h) * 31) (hj_lb (hj_cto d h mk n) + 1) 0 d du wr).1 = false ∧ d1 = (hj_wup (hj_cim d h mk n) (2 + (1 - h) * 31) (hj_lb (hj_cto d h mk n) + 1) 0 d du wr).2.1 ∧ du1 = (hj_wup (hj_cim d h mk n) (2 + (1 - h) * 31) (hj_lb (hj_cto d h mk n) + 1) 0 d du wr).2.2.1 ∧ wr1 = (hj_wup (hj_cim d h mk n) (2 + (1 - h) * 31) (hj_lb (hj_cto d h mk n) + 1) 0 d du wr).2.2.2 ∧ r1 = -1 ∧ st1 = 0 ∧ g1 = 0 ∧ h1 = 0 ∧ n1 = 0 ∧ us1 = 0 ∧ mm1 = 0) ∨ ((hj_wup (hj_cim d h mk n) (2 + (1 - h) * 31) (hj_lb (hj_cto d h mk n) + 1) 0 d du wr).1 = true ∧ (hj_wup (hj_cim d h mk n) (2 + (1 - h) * 31) (hj_lb (hj_cto d h mk n) + 1) 0 d du wr).2.2.1 = 0 ∧ d1 = (hj_wup (hj_cim d h mk n) (2 + (1 - h) * 31) (hj_lb (hj_cto d h mk n) + 1) 0 d du wr).2.1 ∧ du1 = -1 ∧ wr1 = (hj_wup (hj_cim d h mk n) (2 + (1 - h) * 31) (hj_lb (hj_cto d h mk n) + 1) 0 d du wr).2.2.2 ∧ r1 = -1 ∧ st1 = 0 ∧ g1 = 0 ∧ h1 = 0 ∧ n1 = 0 ∧ us1 = 0 ∧ mm1 = 0) ∨ ((hj_wup (hj_cim d h mk n) (2 + (1 - h) * 31) (hj_lb (hj_cto d h mk n) + 1) 0 d du wr).1 = true ∧ ¬ (hj_wup (hj_cim d h mk n) (2 + (1 - h) * 31) (hj_lb (hj_cto d h mk n) + 1) 0 d du wr).2.2.1 = 0 ∧ d1 = hj_blk (hj_wup (hj_cim d h mk n) (2 + (1 - h) * 31) (hj_lb (hj_cto d h mk n) + 1) 0 d du wr).2.1 ((g + 1) % 2) (hj_hd (1 - h) (g + 1)) 0 ∧ du1 = hj_dec (hj_wup (hj_cim d h mk n) (2 + (1 - h) * 31) (hj_lb (hj_cto d h mk n) + 1) 0 d du wr).2.2.1 ∧ wr1 = (hj_wup (hj_cim d h mk n) (2 + (1 - h) * 31) (hj_lb (hj_cto d h mk n) + 1) 0 d du wr).2.2.2 + 1 ∧ st1 = 2 ∧ g1 = g + 1 ∧ h1 = 1 - h ∧ n1 = hj_N d1 h1 ∧ us1 = hj_pos d1 h1 n1 ∧ mm1 = 0 ∧ r1 = nI n1 ∧ (∀ i, i < hj_N d1 h1 → f1 i = nI (hj_pos d1 h1 i) ∧ f2 i = nI (hj_rl d1 h1 (hj_pos d1 h1 i)) ∧ f3 i = nI 0)))) (hw : hj_bs nx2 ∧ hj_bs e2 ∧ ((th2 = nI 1 ∧ ¬ st = 2 ∧ st2 = st ∧ g2 = g ∧ h2 = h ∧ us2 = us ∧ n2 = n ∧ du2 = du ∧ wr2 = wr ∧ d2 = d ∧ fb2 = fb ∧ fk2 = fk) ∨ (th2 = nI 2 ∧ st = 2 ∧ g = 2147483647 ∧ st2 = st ∧ g2 = g ∧ h2 = h ∧ us2 = us ∧ n2 = n ∧ du2 = du ∧ wr2 = wr ∧ d2 = d ∧ fb2 = fb ∧ fk2 = fk) ∨ (th2 = nI 0 ∧ st = 2 ∧ ¬ g = 2147483647 ∧ (((hj_wup (hj_cim d h mk n) (2 + (1 - h) * 31) (hj_lb (hj_cto d h mk n) + 1) 0 d du wr).1 = false ∧ d2 = (hj_wup (hj_cim d h mk n) (2 + (1 - h) * 31) (hj_lb (hj_cto d h mk n) + 1) 0 d du wr).2.1 ∧ du2 = (hj_wup (hj_cim d h mk n) (2 + (1 - h) * 31) (hj_lb (hj_cto d h mk n) + 1) 0 d du wr).2.2.1 ∧ wr2 = (hj_wup (hj_cim d h mk n) (2 + (1 - h) * 31) (hj_lb (hj_cto d h mk n) + 1) 0 d du wr).2.2.2 ∧ r2 = -1 ∧ st2 = 0 ∧ g2 = 0 ∧ h2 = 0 ∧ us2 = 0 ∧ n2 = 0) ∨ ((hj_wup (hj_cim d h mk n) (2 + (1 - h) * 31) (hj_lb (hj_cto d h mk n) + 1) 0 d du wr).1 = true ∧ (hj_wup (hj_cim d h mk n) (2 + (1 - h) * 31) (hj_lb (hj_cto d h mk n) + 1) 0 d du wr).2.2.1 = 0 ∧ d2 = (hj_wup (hj_cim d h mk n) (2 + (1 - h) * 31) (hj_lb (hj_cto d h mk n) + 1) 0 d du wr).2.1 ∧ du2 = -1 ∧ wr2 = (hj_wup (hj_cim d h mk n) (2 + (1 - h) * 31) (hj_lb (hj_cto d h mk n) + 1) 0 d du wr).2.2.2 ∧ r2 = -1 ∧ st2 = 0 ∧ g2 = 0 ∧ h2 = 0 ∧ us2 = 0 ∧ n2 = 0) ∨ ((hj_wup (hj_cim d h mk n) (2 + (1 - h) * 31) (hj_lb (hj_cto d h mk n) + 1) 0 d du wr).1 = true ∧ ¬ (hj_wup (hj_cim d h mk n) (2 + (1 - h) * 31) (hj_lb (hj_cto d h mk n) + 1) 0 d du wr).2.2.1 = 0 ∧ d2 = hj_blk (hj_wup (hj_cim d h mk n) (2 + (1 - h) * 31) (hj_lb (hj_cto d h mk n) + 1) 0 d du wr).2.1 ((g + 1) % 2) (hj_hd (1 - h) (g + 1)) 0 ∧ du2 = hj_dec (hj_wup (hj_cim d h mk n) (2 + (1 - h) * 31) (hj_lb (hj_cto d h mk n) + 1) 0 d du wr).2.2.1 ∧ wr2 = (hj_wup (hj_cim d h mk n) (2 + (1 - h) * 31) (hj_lb (hj_cto d h mk n) + 1) 0 d du wr).2.2.2 + 1 ∧ st2 = 2 ∧ g2 = g + 1 ∧ h2 = 1 - h ∧ n2 = hj_N d2 h2 ∧ us2 = hj_pos d2 h2 n2 ∧ r2 = nI n2 ∧ (∀ i, i < hj_N d2 h2 → fb2 i = nI (hj_pos d2 h2 i)) ∧ (∀ i, i < 2000 → fk2 i = nI 0)))))) : th2 = nI 0 ∧ r1 = r2 ∧ st2 = st1 ∧ g2 = g1 ∧ h2 = h1 ∧ us2 = us1 ∧ n2 = n1 ∧ du2 = du1 ∧ wr2 = wr1 ∧ d2 = d1 ∧ ∃ mk1, hj_Inv d1 tp pl1 nx2 e2 tl st1 g1 h1 n1 us1 mm1 f1 f2 f3 fb2 fk2 mk1 := by
  obtain ⟨hb, he, q1 | q1 | q1⟩ := hw
  · exact absurd hz q1.2.1
  · exact absurd q1.2.2.1 ht
  obtain ⟨p1, p2, p3, p4⟩ := q1
  obtain ⟨k1, k2⟩ := hj
  obtain ⟨⟨b1, b2, b3, b4, b5⟩, ⟨c1, c2, c3, c4, c5, c6⟩, z⟩ := hI
  have hbi : hj_bs (hj_cim d h mk n) := hj_cim_bs b1 n
  have hbT : hj_bs (hj_wup (hj_cim d h mk n) (2 + (1 - h) * 31) (hj_lb (hj_cto d h mk n) + 1) 0 d du wr).2.1 := hj_wup_bs hbi _ _ _ _ _ b1
  rcases k2 with ⟨e1, x1, x2, x3, x4, x5, x6, x7, x8, x9, x10⟩ | ⟨e1, e0, x1, x2, x3, x4, x5, x6, x7, x8, x9, x10⟩ | ⟨e1, e0, x1, x2, x3, x4, x5, x6, x7, x8, x9, x10, x11⟩
  · rcases p4 with ⟨f0, y1, y2, y3, y4, y5, y6, y7, y8, y9⟩ | ⟨f0, f9, y1⟩ | ⟨f0, f9, y1⟩
    · refine ⟨p1, x4.trans y4.symm, y5.trans x5.symm, y6.trans x6.symm, y7.trans x7.symm, y8.trans x9.symm, y9.trans x8.symm, y2.trans x2.symm, y3.trans x3.symm, y1.trans x1.symm, fun _ => 0, ?_⟩
      rw [x5, x6, x7, x8, x9, x10, x1]
      exact hj_down hbT b2 k1 hb he c1 (by omega)
    · exact absurd (e1.symm.trans f0) (by decide)
    · exact absurd (e1.symm.trans f0) (by decide)
  · rcases p4 with ⟨f0, y1⟩ | ⟨f0, f9, y1, y2, y3, y4, y5, y6, y7, y8, y9⟩ | ⟨f0, f9, y1⟩
    · exact absurd (e1.symm.trans f0) (by decide)
    · refine ⟨p1, x4.trans y4.symm, y5.trans x5.symm, y6.trans x6.symm, y7.trans x7.symm, y8.trans x9.symm, y9.trans x8.symm, y2.trans x2.symm, y3.trans x3.symm, y1.trans x1.symm, fun _ => 0, ?_⟩
      rw [x5, x6, x7, x8, x9, x10, x1]
      exact hj_down hbT b2 k1 hb he c1 (by omega)
    · exact absurd e0 f9
  · rcases p4 with ⟨f0, y1⟩ | ⟨f0, f9, y1⟩ | ⟨f0, f9, y1, y2, y3, y4, y5, y6, y7, y8, y9, y10, y11⟩
    · exact absurd (e1.symm.trans f0) (by decide)
    · exact absurd f9 e0
    · have ed : d2 = d1 := y1.trans x1.symm
      have eh : h2 = h1 := y6.trans x6.symm
      rw [ed, eh] at y7 y8 y10
      have en : n2 = n1 := y7.trans x7.symm
      have eu : us2 = us1 := by rw [y8, x8, en]
      refine ⟨p1, by rw [x10, y9, en], y4.trans x4.symm, y5.trans x5.symm, eh, eu, en, y2.trans x2.symm, y3.trans x3.symm, ed, fun _ => 0, ?_⟩
      have hbd : hj_bs d1 := by rw [x1]; exact hj_blk_bs hbT (hj_hd_bs _ _)
      rw [x4, x8, x7, x9]
      exact hj_fresh hbd b2 k1 hb he c1 (by omega) (by omega) x11 y10 y11
