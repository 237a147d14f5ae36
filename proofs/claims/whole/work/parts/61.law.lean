/-! THE CLAIM OUT OF ONE WALK OF THE LAW'S BODY. Your part is whole_start (and what it stands on); all else here is the same for every law, but numbers. -/
def R_law : String := "HalfJournalLaw"
def lw_P (b : Addr) (xs : List Int32) (args : Array Value) (s : State) : Prop := args = #[.ref b] ∧ s.IntsAt b xs ∧ xs.length ≤ 2048 ∧ (Jvm.Cond.and given_1 narrow_1).before args s = true
def lw_Q (_ : Array Value) (s : State) (o : Outcome) (t : State) : Prop := o = .returned (some (.int 1)) ∧ Framed s o t [] 601024 7293034
def lw_Z (below : List Frame) (a : Array Value) (s : State) : State → Prop := fun t => ∃ o, t.status = .running ∧ Ended t below o ∧ lw_Q a s o t
/-- the law's own end, with 1 on the stack, nothing written that was there before, its room as the claim has it -/
theorem lw_ret {p : Program} {l : Launch} {e : Env} {s : State} {m : MethodId} {below : List Frame} {meth : Method} {c : Code} {b : Nat} (hx : p.tables.exec = Jvm.exec) (hb : c.code = code) (hr : meth.sig.returnType = ret) (hlocks : meth.locks = false) {pc : Nat} {H : Heap} {ls : Array Slot} (hdg : decode code pc = .ok (.ireturn, 1)) : W p l e room_1 s m #[Value.ref b] below meth c H [] 601024 7293034 (lw_Z below #[Value.ref b] s) (F0 m pc ls [.int 1]) := by
  intro T hT X
  obtain ⟨fs, hret, hrun, hended, hW, hframe⟩ := X.leave (v := some (.int 1)) (hlocks := hlocks) (fun h => by rw [hr] at h; cases h)
  have hmeth' : T.vm.method? m = some meth := X.method'
  refine ⟨T.setFrames fs, ?_, .returned (some (.int 1)), hrun, hended, rfl, ⟨_, rfl⟩, hW, hframe⟩
  jvm_step X.here [X.here.top, hx, hb, hdg, hmeth', hr, ret, narrow_b1]
  (try refine ⟨rfl, ?_⟩); (try refine ⟨rfl, ?_⟩)
  first | (intro acts; rw [hret _ acts rfl rfl rfl]) | rw [hret _ _ rfl rfl rfl]
  exact Steps.refl _
/-- what holds at the law's entry: the machine, the code, the tables' words (any of lw_tbl by 'hts w (by decide +kernel)'), the script of L ints xs at the cell b, what the Statement gives of the start (any of its parts by flat_of_before) -/
def lw_At (p : Program) (s : State) (m : MethodId) (meth : Method) (c : Code) (b L : Nat) (xs : Nat → Int32) : Prop :=
  p.tables.exec = Jvm.exec ∧ c.code = code ∧ meth.sig.returnType = ret ∧ c.maxLocals = 7 ∧ s.vm.findClass R_law = some m.cls ∧ (∀ w ∈ lw_tbl, w.before #[Value.ref b] s = true) ∧ va_X b L xs s s.heap ∧ b < s.heap.size ∧ meth.locks = false ∧ (Jvm.Cond.and given_1 narrow_1).before #[Value.ref b] s = true
set_option maxHeartbeats 4000000 in
set_option maxRecDepth 100000 in
theorem lw_loop {p : Program} {l : Launch} {e : Env} {s : State} {m : MethodId} {below : List Frame} {meth : Method} {c : Code} {A : Nat → Prop} {dC : Nat → ClassId} {dI : Nat → Nat → Nat} {b j dk a rc sa la ma ta pa m0 da ba ka ua na ea oa : Nat} {cA cS cL cM cT cP cD cB cK cU cN cE cO : ClassId} {L : Nat} {xs : Nat → Int32} (hl9 : l.stackTraces = false) (hx : p.tables.exec = Jvm.exec) (hb : c.code = b_L_law) (hml : c.maxLocals = 7) (hown : s.vm.findClass "HalfJournalLaw" = some m.cls) (hts : ∀ w ∈ hj_tbl, w.before #[Value.ref b] s = true) (hA : ∀ q, s.heap.size ≤ q → A q) (hK : va_K (dC, dI) vwCl [(cA, .byte), (cS, .int), (cL, .int), (cM, .boolean), (cT, .byte), (cP, .byte), (cD, .byte), (cB, .int), (cK, .boolean), (cU, .byte), (cN, .byte), (cE, .byte), (cO, .long)] s) (hE : hj_EY A s s.heap) (hX : va_X b L xs s s.heap) (hbl : b < s.heap.size) (hbA : ¬ A b) (hL : L ≤ 2048) (hr : meth.sig.returnType = ret) (hlocks : meth.locks = false) (hAs : ∀ q, A q → s.heap.size ≤ q) : ∀ (f i cells slots : Nat) (H : Heap) (locs : List Loc) (ls : Array Slot), L ≤ i + 4 * f + 3 → i ≤ L + 4 → cells + f ≤ 601024 → slots + 6 * f ≤ 7293034 → lw_St dC dI A s b j dk a rc sa la ma ta pa m0 da ba ka ua na ea oa cA cS cL cM cT cP cD cB cK cU cN cE cO i H locs ls → W p l e room_1 s m #[Value.ref b] below meth c H locs cells slots (lw_Z below #[Value.ref b] s) (F0 m 23 ls []) := by
  intro f
  induction f with
  | zero =>
    intro i cells slots H locs ls hf hi9 hc hs hSt
    obtain ⟨d, tp, pl, nx, ex, tl, st, g, h, n, us, mm, fs, fl, fm, fb, fk, mk, du, wr, th, fo, hI, hP, hD, hS, hl⟩ := hSt
    refine lv_iload hx hb d_L_law_23 (lv_at hl 4 rfl) ?_
    refine lv_aload_n hx hb d_L_law_25 rfl (lv_at hl 0 rfl) ?_
    refine va_slen hx hb hX hbl hbA hS d_L_law_26 ?_
    refine lv_iconst (v := nI 4) hx hb d_L_law_27 (by decide) ?_
    refine lv_isub hx hb d_L_law_28 ?_
    refine lv_icmp_gt (tgt := 570) hx hb d_L_law_29 (by decide) (fun c_1 => ?_) (fun c_1 => ?_)
    · refine lv_iconst (v := 1) hx hb d_L_law_570 (by decide) ?_
      refine va_forget (fun q hq => hAs _ (hS.2.2 q hq)) ?_
      refine W.widen (k := 601024) (n := 7293034) (by omega) (by omega) ?_
      exact lw_ret hx hb hr hlocks d_L_law_571
    · exact absurd ((lw_gt (i := i) hL (by omega)).mpr (by omega)) c_1
  | succ f ih =>
    intro i cells slots H locs ls hf hi9 hc hs hSt
    have hSt2 := hSt
    obtain ⟨d, tp, pl, nx, ex, tl, st, g, h, n, us, mm, fs, fl, fm, fb, fk, mk, du, wr, th, fo, hI, hP, hD, hS, hl⟩ := hSt2
    refine lv_iload hx hb d_L_law_23 (lv_at hl 4 rfl) ?_
    refine lv_aload_n hx hb d_L_law_25 rfl (lv_at hl 0 rfl) ?_
    refine va_slen hx hb hX hbl hbA hS d_L_law_26 ?_
    refine lv_iconst (v := nI 4) hx hb d_L_law_27 (by decide) ?_
    refine lv_isub hx hb d_L_law_28 ?_
    refine lv_icmp_gt (tgt := 570) hx hb d_L_law_29 (by decide) (fun c_1 => ?_) (fun c_1 => ?_)
    · refine lv_iconst (v := 1) hx hb d_L_law_570 (by decide) ?_
      refine va_forget (fun q hq => hAs _ (hS.2.2 q hq)) ?_
      refine W.widen (k := 601024) (n := 7293034) (by omega) (by omega) ?_
      exact lw_ret hx hb hr hlocks d_L_law_571
    · have hi : i + 4 ≤ L := Nat.not_lt.mp fun q => c_1 ((lw_gt (i := i) hL (by omega)).mpr q)
      have hc0 : cells ≤ room_1.cells ∧ slots ≤ room_1.slots := show cells ≤ 601024 ∧ slots ≤ 7293034 from ⟨by omega, by omega⟩
      have hc1 : cells + 1 ≤ room_1.cells ∧ slots + 6 ≤ room_1.slots := show cells + 1 ≤ 601024 ∧ slots + 6 ≤ 7293034 from ⟨by omega, by omega⟩
      have kk : ∀ (H : Heap) (locs : List Loc) (ls : Array Slot), lw_St dC dI A s b j dk a rc sa la ma ta pa m0 da ba ka ua na ea oa cA cS cL cM cT cP cD cB cK cU cN cE cO i H locs ls → W p l e room_1 s m #[Value.ref b] below meth c H locs (cells + 1) (slots + 6) (lw_Z below #[Value.ref b] s) (F0 m 564 ls []) := by
        intro H locs ls h0
        obtain ⟨d, tp, pl, nx, ex, tl, st, g, h, n, us, mm, fs, fl, fm, fb, fk, mk, du, wr, th, fo, hI, hP, hD, hS, hl⟩ := h0
        refine lv_iinc (v := nI (i + 4)) (lv' := [(4, .int (nI (i + 4))), (0, .ref b), (1, .ref j), (2, .ref m0), (3, .ref oa)]) hx hb d_L_law_564 hl (k := 4) rfl (nI_add _ 4) (by decide) rfl (fun ls hl => ?_)
        refine lv_goto (tgt := 23) hx hb d_L_law_567 (by decide) ?_
        exact ih (i + 4) _ _ _ _ _ (by omega) (by omega) (by omega) (by omega) ⟨_, _, _, _, _, _, _, _, _, _, _, _, _, _, _, _, _, _, _, _, _, _, hI, hP, hD, hS, lv_sub hl [1, 2, 3, 4, 0] rfl⟩
      refine lv_aload_n hx hb d_L_law_32 rfl (lv_at hl 0 rfl) ?_
      refine lv_iload hx hb d_L_law_33 (lv_at hl 4 rfl) ?_
      refine hj_sld hx hb hX hbl hbA hS (by omega) hL d_L_law_35 ?_
      refine lv_bipush (v := nI 15) hx hb d_L_law_36 (by decide) ?_
      refine lv_iand hx hb d_L_law_38 ?_
      obtain ⟨k, hk, ek⟩ := hj_mask (xs i)
      refine hj_topv ek ?_
      rcases (show k = 0 ∨ k = 1 ∨ k = 2 ∨ k = 3 ∨ k = 4 ∨ k = 5 ∨ k = 6 ∨ k = 7 ∨ k = 8 ∨ k = 9 ∨ k = 10 ∨ k = 11 ∨ k = 12 ∨ k = 13 ∨ k = 14 ∨ k = 15 by omega) with rfl | rfl | rfl | rfl | rfl | rfl | rfl | rfl | rfl | rfl | rfl | rfl | rfl | rfl | rfl | rfl
      · refine lv_tableIn (off := 69) (tgt := 108) hx hb d_L_law_39 (by decide) (by decide) (by decide) (by decide) ?_
        exact lw_op_0 hl9 hx hb hml hown hts hA hK hE hX hbl hbA hL hi hc0 hc1 hSt kk
      · refine lv_tableIn (off := 80) (tgt := 119) hx hb d_L_law_39 (by decide) (by decide) (by decide) (by decide) ?_
        exact lw_op_1 hl9 hx hb hml hown hts hA hK hE hX hbl hbA hL hi hc0 hc1 hSt kk
      · refine lv_tableIn (off := 149) (tgt := 188) hx hb d_L_law_39 (by decide) (by decide) (by decide) (by decide) ?_
        exact lw_op_2 hl9 hx hb hml hown hts hA hK hE hX hbl hbA hL hi hc0 hc1 hSt kk
      · refine lv_tableIn (off := 160) (tgt := 199) hx hb d_L_law_39 (by decide) (by decide) (by decide) (by decide) ?_
        exact lw_op_3 hl9 hx hb hml hown hts hA hK hE hX hbl hbA hL hi hc0 hc1 hSt kk
      · refine lv_tableIn (off := 204) (tgt := 243) hx hb d_L_law_39 (by decide) (by decide) (by decide) (by decide) ?_
        exact lw_op_4 hl9 hx hb hml hown hts hA hK hE hX hbl hbA hL hi hc0 hc1 hSt kk
      · refine lv_tableIn (off := 257) (tgt := 296) hx hb d_L_law_39 (by decide) (by decide) (by decide) (by decide) ?_
        exact lw_op_5 hl9 hx hb hml hown hts hA hK hE hX hbl hbA hL hi hc0 hc1 hSt kk
      · refine lv_tableIn (off := 301) (tgt := 340) hx hb d_L_law_39 (by decide) (by decide) (by decide) (by decide) ?_
        exact lw_op_6 hl9 hx hb hml hown hts hA hK hE hX hbl hbA hL hi hc0 hc1 hSt kk
      · refine lv_tableIn (off := 326) (tgt := 365) hx hb d_L_law_39 (by decide) (by decide) (by decide) (by decide) ?_
        exact lw_op_7 hl9 hx hb hml hown hts hA hK hE hX hbl hbA hL hi hc0 hc1 hSt kk
      · refine lv_tableIn (off := 337) (tgt := 376) hx hb d_L_law_39 (by decide) (by decide) (by decide) (by decide) ?_
        exact lw_op_8 hl9 hx hb hml hown hts hA hK hE hX hbl hbA hL hi hc0 hc1 hSt kk
      · refine lv_tableIn (off := 350) (tgt := 389) hx hb d_L_law_39 (by decide) (by decide) (by decide) (by decide) ?_
        exact lw_op_9 hl9 hx hb hml hown hts hA hK hE hX hbl hbA hL hi hc0 hc1 hSt kk
      · refine lv_tableIn (off := 399) (tgt := 438) hx hb d_L_law_39 (by decide) (by decide) (by decide) (by decide) ?_
        exact lw_op_10 hl9 hx hb hml hown hts hA hK hE hX hbl hbA hL hi hc0 hc1 hSt kk
      · refine lv_tableIn (off := 424) (tgt := 463) hx hb d_L_law_39 (by decide) (by decide) (by decide) (by decide) ?_
        exact lw_op_11 hl9 hx hb hml hown hts hA hK hE hX hbl hbA hL hi hc0 hc1 hSt kk
      · refine lv_tableIn (off := 462) (tgt := 501) hx hb d_L_law_39 (by decide) (by decide) (by decide) (by decide) ?_
        exact lw_op_12 hl9 hx hb hml hown hts hA hK hE hX hbl hbA hL hi hc0 hc1 hSt kk
      · refine lv_tableIn (off := 500) (tgt := 539) hx hb d_L_law_39 (by decide) (by decide) (by decide) (by decide) ?_
        exact lw_op_13 hl9 hx hb hml hown hts hA hK hE hX hbl hbA hL hi hc0 hc1 hSt kk
      · refine lv_tableOut (tgt := 564) hx hb d_L_law_39 (by decide) (by decide) ?_
        refine W.widen (k := cells + 1) (n := slots + 6) (by omega) (by omega) ?_
        exact kk _ _ _ hSt
      · refine lv_tableOut (tgt := 564) hx hb d_L_law_39 (by decide) (by decide) ?_
        refine W.widen (k := cells + 1) (n := slots + 6) (by omega) (by omega) ?_
        exact kk _ _ _ hSt
set_option maxHeartbeats 4000000 in
set_option maxRecDepth 100000 in
theorem whole_start {p : Program} {e : Env} {s : State} {m : MethodId} {below : List Frame} {meth : Method} {c : Code} (l : Launch) (hl9 : l.stackTraces = false) {b L : Nat} {xs : Nat → Int32} (hL : L ≤ 2048) (C0 : lw_At p s m meth c b L xs) : W p l e room_1 s m #[Value.ref b] below meth c s.heap [] 0 0 (lw_Z below #[Value.ref b] s) (entryFrame m ([Value.ref b] : List Value).toArray 7) := by
  obtain ⟨hx, hb, hr, hml, hown, htsA, hX, hbl, hlocks, hgv⟩ := C0
  have hts : ∀ w ∈ hj_tbl, w.before #[Value.ref b] s = true := fun w hw => htsA w (List.mem_filter.mp hw).1
  have hEY0 := lw_E htsA hgv
  obtain ⟨dC, dI, hK⟩ := lw_K hts
  obtain ⟨A, hA0⟩ : ∃ A : Nat → Prop, A = fun q => s.heap.size ≤ q := ⟨_, rfl⟩
  rw [← hA0] at hEY0
  have hA : ∀ q, s.heap.size ≤ q → A q := fun q h => by rw [hA0]; exact h
  have hAs : ∀ q, A q → s.heap.size ≤ q := fun q h => by rw [hA0] at h; exact h
  have hbA : ¬ A b := fun h => absurd hbl (Nat.not_lt.mpr (hAs b h))
  have hP : va_P (dC, dI) vwCl [] s.heap := fun k q hq => by simp at hq
  have hD : va_D A [] := ⟨fun i j x y hx => by simp at hx, fun k q hq => by simp at hq⟩
  have hS : va_S A s.heap s.heap [] := va_S.rf
  have hb : c.code = b_L_law := hb
  have hown : s.vm.findClass "HalfJournalLaw" = some m.cls := hown
  rw [lg_entry_eq]
  have hl : lv_has ((lg_sl [Value.ref b] ++ List.replicate (7 - (lg_sl [Value.ref b]).length) Slot.unset).toArray) 7 (lv_args 0 [Value.ref b]) := lv_entry [Value.ref b] (Nat.le_of_ble_eq_true rfl)
  generalize ((lg_sl [Value.ref b] ++ List.replicate (7 - (lg_sl [Value.ref b]).length) Slot.unset).toArray) = ls at hl ⊢
  have hl : lv_has ls 7 [(0, .ref b)] := hl
  have hE := hEY0.1
  refine va_new (ci := 2) (fs := [.null, .null, .null, .null, .int 0, .int 0, .int 0, .int 0]) (C := "HalfJournal") (T := F_J) (N := 8) hx hb hts i_J t_J t_J_ok hown (hts _ m_22) (hts _ m_23) (hts _ m_1) hK hP hD hS hA rfl (fun j hj => by rcases (show j = 0 ∨ j = 1 ∨ j = 2 ∨ j = 3 ∨ j = 4 ∨ j = 5 ∨ j = 6 ∨ j = 7 by omega) with rfl | rfl | rfl | rfl | rfl | rfl | rfl | rfl <;> rfl) (Nat.le_of_ble_eq_true rfl) (Nat.le_of_ble_eq_true rfl) d_L_law_0 (fun j H hP hD hS => ?_)
  have hP : va_P (dC, dI) vwCl [(j, .inr (2, [.null, .null, .null, .null, .int 0, .int 0, .int 0, .int 0]))] H := hP
  have hD : va_D A [(j, .inr (2, [.null, .null, .null, .null, .int 0, .int 0, .int 0, .int 0]))] := hD
  refine lv_dup hx hb d_L_law_3 rfl ?_
  refine hj_callv (wc := [(j, .inr (2, [.null, .null, .null, .null, .int 0, .int 0, .int 0, .int 0]))]) (wr := []) [0] [] hP hD hS hA rfl rfl rfl (by decide) (va_runI (As := []) (rest := [.ref j]) ⟨hx, hb, hml, hown, hts⟩ (c_J_init l dC dI j H.size) (cwI 0 hts (hj_gC m_26) rfl rfl rfl (hts _ m_1) (hts _ m_24) (hts _ m_25) rfl (by decide +kernel) ⟨Nat.le_of_ble_eq_true rfl, Nat.le_of_ble_eq_true rfl⟩) (hj_preS hj_EXok hE hP hD hK hS hA [0] rfl rfl [] rfl) rfl rfl hl.1 rfl (lv_room (Nat.le_of_ble_eq_true rfl)) d_L_law_4 ⟨Nat.le_of_ble_eq_true rfl, Nat.le_of_ble_eq_true rfl⟩) (fun u_2 H locs hw hP hD hK1 hS => ?_)
  obtain ⟨⟨dk, a, rc, ta, pa⟩, ⟨sa, la, ma⟩, ⟨cA, cS, cL⟩, ⟨cM, cT, cP⟩⟩ := u_2
  have hK : va_K (dC, dI) vwCl [(cA, .byte), (cS, .int), (cL, .int), (cM, .boolean), (cT, .byte), (cP, .byte)] s := hK.app hK1
  have hP : va_P (dC, dI) vwCl [(j, .inr (2, [.ref dk, .ref rc, .ref ta, .ref pa, .int (nI 0), .int (nI 1), .int (nI 0), .int (nI 0)])), (dk, .inr (0, [.ref a, .int (-1), .int (nI 0)])), (a, .inl (cA, 32768, .inl (hj_B (fun _ => 0)))), (rc, .inr (1, [.ref sa, .ref la, .ref ma, .int (nI 0), .int (nI 0), .int (nI 0)])), (sa, .inl (cS, 1984, .inl (fun _ => 0))), (la, .inl (cL, 1984, .inl (fun _ => 0))), (ma, .inl (cM, 1984, .inl (fun _ => 0))), (ta, .inl (cT, 1000, .inl (hj_B (fun _ => 0)))), (pa, .inl (cP, 15872, .inl (hj_B (fun _ => 0))))] H := hP.sub [0, 1, 2, 3, 4, 5, 6, 7, 8] rfl
  have hD : va_D A [(j, .inr (2, [.ref dk, .ref rc, .ref ta, .ref pa, .int (nI 0), .int (nI 1), .int (nI 0), .int (nI 0)])), (dk, .inr (0, [.ref a, .int (-1), .int (nI 0)])), (a, .inl (cA, 32768, .inl (hj_B (fun _ => 0)))), (rc, .inr (1, [.ref sa, .ref la, .ref ma, .int (nI 0), .int (nI 0), .int (nI 0)])), (sa, .inl (cS, 1984, .inl (fun _ => 0))), (la, .inl (cL, 1984, .inl (fun _ => 0))), (ma, .inl (cM, 1984, .inl (fun _ => 0))), (ta, .inl (cT, 1000, .inl (hj_B (fun _ => 0)))), (pa, .inl (cP, 15872, .inl (hj_B (fun _ => 0))))] := hD.sub [0, 1, 2, 3, 4, 5, 6, 7, 8] (by decide) rfl
  refine lv_astore_n (lv' := [(1, .ref j), (0, .ref b)]) hx hb d_L_law_7 rfl hl (by decide) rfl (fun ls hl => ?_)
  refine va_new (ci := 3) (fs := [.int 0, .null, .int 0, .int 0, .int 0, .int 0, .int 0, .null, .null, .null, .int 0, .int 0, .int 0, .null, .null]) (C := "HalfJournalModel") (T := F_M) (N := 15) hx hb hts i_M t_M t_M_ok hown (hts _ m_638) (hts _ m_639) (hts _ m_4) hK hP hD hS hA rfl (fun j hj => by rcases (show j = 0 ∨ j = 1 ∨ j = 2 ∨ j = 3 ∨ j = 4 ∨ j = 5 ∨ j = 6 ∨ j = 7 ∨ j = 8 ∨ j = 9 ∨ j = 10 ∨ j = 11 ∨ j = 12 ∨ j = 13 ∨ j = 14 by omega) with rfl | rfl | rfl | rfl | rfl | rfl | rfl | rfl | rfl | rfl | rfl | rfl | rfl | rfl | rfl <;> rfl) (Nat.le_of_ble_eq_true rfl) (Nat.le_of_ble_eq_true rfl) d_L_law_8 (fun m0 H hP hD hS => ?_)
  have hP : va_P (dC, dI) vwCl [(j, .inr (2, [.ref dk, .ref rc, .ref ta, .ref pa, .int (nI 0), .int (nI 1), .int (nI 0), .int (nI 0)])), (dk, .inr (0, [.ref a, .int (-1), .int (nI 0)])), (a, .inl (cA, 32768, .inl (hj_B (fun _ => 0)))), (rc, .inr (1, [.ref sa, .ref la, .ref ma, .int (nI 0), .int (nI 0), .int (nI 0)])), (sa, .inl (cS, 1984, .inl (fun _ => 0))), (la, .inl (cL, 1984, .inl (fun _ => 0))), (ma, .inl (cM, 1984, .inl (fun _ => 0))), (ta, .inl (cT, 1000, .inl (hj_B (fun _ => 0)))), (pa, .inl (cP, 15872, .inl (hj_B (fun _ => 0)))), (m0, .inr (3, [.int 0, .null, .int 0, .int 0, .int 0, .int 0, .int 0, .null, .null, .null, .int 0, .int 0, .int 0, .null, .null]))] H := hP
  have hD : va_D A [(j, .inr (2, [.ref dk, .ref rc, .ref ta, .ref pa, .int (nI 0), .int (nI 1), .int (nI 0), .int (nI 0)])), (dk, .inr (0, [.ref a, .int (-1), .int (nI 0)])), (a, .inl (cA, 32768, .inl (hj_B (fun _ => 0)))), (rc, .inr (1, [.ref sa, .ref la, .ref ma, .int (nI 0), .int (nI 0), .int (nI 0)])), (sa, .inl (cS, 1984, .inl (fun _ => 0))), (la, .inl (cL, 1984, .inl (fun _ => 0))), (ma, .inl (cM, 1984, .inl (fun _ => 0))), (ta, .inl (cT, 1000, .inl (hj_B (fun _ => 0)))), (pa, .inl (cP, 15872, .inl (hj_B (fun _ => 0)))), (m0, .inr (3, [.int 0, .null, .int 0, .int 0, .int 0, .int 0, .int 0, .null, .null, .null, .int 0, .int 0, .int 0, .null, .null]))] := hD
  refine lv_dup hx hb d_L_law_11 rfl ?_
  have hE : hj_E0 A s s.heap := trivial
  refine hj_callv (wc := [(m0, .inr (3, [.int 0, .null, .int 0, .int 0, .int 0, .int 0, .int 0, .null, .null, .null, .int 0, .int 0, .int 0, .null, .null]))]) (wr := [(j, .inr (2, [.ref dk, .ref rc, .ref ta, .ref pa, .int (nI 0), .int (nI 1), .int (nI 0), .int (nI 0)])), (dk, .inr (0, [.ref a, .int (-1), .int (nI 0)])), (a, .inl (cA, 32768, .inl (hj_B (fun _ => 0)))), (rc, .inr (1, [.ref sa, .ref la, .ref ma, .int (nI 0), .int (nI 0), .int (nI 0)])), (sa, .inl (cS, 1984, .inl (fun _ => 0))), (la, .inl (cL, 1984, .inl (fun _ => 0))), (ma, .inl (cM, 1984, .inl (fun _ => 0))), (ta, .inl (cT, 1000, .inl (hj_B (fun _ => 0)))), (pa, .inl (cP, 15872, .inl (hj_B (fun _ => 0))))]) [9] [0, 1, 2, 3, 4, 5, 6, 7, 8] hP hD hS hA rfl rfl rfl (by decide) (va_runI (As := []) (rest := [.ref m0]) ⟨hx, hb, hml, hown, hts⟩ (c_M_init l dC dI m0 H.size) (cwI 0 hts (hj_gC m_642) rfl rfl rfl (hts _ m_4) (hts _ m_640) (hts _ m_641) rfl (by decide +kernel) ⟨Nat.le_of_ble_eq_true rfl, Nat.le_of_ble_eq_true rfl⟩) (hj_preS hj_E0ok hE hP hD hK hS hA [9] rfl rfl [] rfl) rfl rfl hl.1 rfl (lv_room (Nat.le_of_ble_eq_true rfl)) d_L_law_12 ⟨Nat.le_of_ble_eq_true rfl, Nat.le_of_ble_eq_true rfl⟩) (fun u_4 H locs hw hP hD hK1 hS => ?_)
  obtain ⟨⟨da, ba, ka, ua, na, ea⟩, ⟨cD, cB, cK⟩, ⟨cU, cN, cE⟩⟩ := u_4
  have hK : va_K (dC, dI) vwCl [(cA, .byte), (cS, .int), (cL, .int), (cM, .boolean), (cT, .byte), (cP, .byte), (cD, .byte), (cB, .int), (cK, .boolean), (cU, .byte), (cN, .byte), (cE, .byte)] s := hK.app hK1
  have hP : va_P (dC, dI) vwCl [(j, .inr (2, [.ref dk, .ref rc, .ref ta, .ref pa, .int (nI 0), .int (nI 1), .int (nI 0), .int (nI 0)])), (dk, .inr (0, [.ref a, .int (-1), .int (nI 0)])), (a, .inl (cA, 32768, .inl (hj_B (fun _ => 0)))), (rc, .inr (1, [.ref sa, .ref la, .ref ma, .int (nI 0), .int (nI 0), .int (nI 0)])), (sa, .inl (cS, 1984, .inl (fun _ => 0))), (la, .inl (cL, 1984, .inl (fun _ => 0))), (ma, .inl (cM, 1984, .inl (fun _ => 0))), (ta, .inl (cT, 1000, .inl (hj_B (fun _ => 0)))), (pa, .inl (cP, 15872, .inl (hj_B (fun _ => 0)))), (m0, .inr (3, [.int (nI 0), .ref da, .int (nI 1), .int (nI 0), .int (nI 0), .int (nI 0), .int (nI 0), .ref ba, .ref ka, .ref ua, .int (nI 0), .int (-1), .int (nI 0), .ref na, .ref ea])), (da, .inl (cD, 32768, .inl (hj_B (fun _ => 0)))), (ba, .inl (cB, 2000, .inl (fun _ => 0))), (ka, .inl (cK, 2000, .inl (fun _ => 0))), (ua, .inl (cU, 1000, .inl (hj_B (fun _ => 0)))), (na, .inl (cN, 15872, .inl (hj_B (fun _ => 0)))), (ea, .inl (cE, 512, .inl (hj_B (fun _ => 0))))] H := hP.sub [0, 1, 2, 3, 4, 5, 6, 7, 8, 9, 10, 11, 12, 13, 14, 15] rfl
  have hD : va_D A [(j, .inr (2, [.ref dk, .ref rc, .ref ta, .ref pa, .int (nI 0), .int (nI 1), .int (nI 0), .int (nI 0)])), (dk, .inr (0, [.ref a, .int (-1), .int (nI 0)])), (a, .inl (cA, 32768, .inl (hj_B (fun _ => 0)))), (rc, .inr (1, [.ref sa, .ref la, .ref ma, .int (nI 0), .int (nI 0), .int (nI 0)])), (sa, .inl (cS, 1984, .inl (fun _ => 0))), (la, .inl (cL, 1984, .inl (fun _ => 0))), (ma, .inl (cM, 1984, .inl (fun _ => 0))), (ta, .inl (cT, 1000, .inl (hj_B (fun _ => 0)))), (pa, .inl (cP, 15872, .inl (hj_B (fun _ => 0)))), (m0, .inr (3, [.int (nI 0), .ref da, .int (nI 1), .int (nI 0), .int (nI 0), .int (nI 0), .int (nI 0), .ref ba, .ref ka, .ref ua, .int (nI 0), .int (-1), .int (nI 0), .ref na, .ref ea])), (da, .inl (cD, 32768, .inl (hj_B (fun _ => 0)))), (ba, .inl (cB, 2000, .inl (fun _ => 0))), (ka, .inl (cK, 2000, .inl (fun _ => 0))), (ua, .inl (cU, 1000, .inl (hj_B (fun _ => 0)))), (na, .inl (cN, 15872, .inl (hj_B (fun _ => 0)))), (ea, .inl (cE, 512, .inl (hj_B (fun _ => 0))))] := hD.sub [0, 1, 2, 3, 4, 5, 6, 7, 8, 9, 10, 11, 12, 13, 14, 15] (by decide) rfl
  refine lv_astore_n (lv' := [(2, .ref m0), (1, .ref j), (0, .ref b)]) hx hb d_L_law_15 rfl hl (by decide) rfl (fun ls hl => ?_)
  refine lv_iconst (v := nI 1) hx hb d_L_law_16 (by decide) ?_
  refine va_newa (a0 := (1, .inr (.inl (fun _ => 0)))) (N' := 1) (atype := .long) (ty := .long) hx hb (hts _ m_809) rfl hK hP hD hS hA (fun _ => rfl) (nI_pos (by decide)) (nI_clamp (by decide)) (by decide) (Nat.le_of_ble_eq_true rfl) (Nat.le_of_ble_eq_true rfl) d_L_law_17 (fun oa cO H hK hP hD hS => ?_)
  have hP : va_P (dC, dI) vwCl [(j, .inr (2, [.ref dk, .ref rc, .ref ta, .ref pa, .int (nI 0), .int (nI 1), .int (nI 0), .int (nI 0)])), (dk, .inr (0, [.ref a, .int (-1), .int (nI 0)])), (a, .inl (cA, 32768, .inl (hj_B (fun _ => 0)))), (rc, .inr (1, [.ref sa, .ref la, .ref ma, .int (nI 0), .int (nI 0), .int (nI 0)])), (sa, .inl (cS, 1984, .inl (fun _ => 0))), (la, .inl (cL, 1984, .inl (fun _ => 0))), (ma, .inl (cM, 1984, .inl (fun _ => 0))), (ta, .inl (cT, 1000, .inl (hj_B (fun _ => 0)))), (pa, .inl (cP, 15872, .inl (hj_B (fun _ => 0)))), (m0, .inr (3, [.int (nI 0), .ref da, .int (nI 1), .int (nI 0), .int (nI 0), .int (nI 0), .int (nI 0), .ref ba, .ref ka, .ref ua, .int (nI 0), .int (-1), .int (nI 0), .ref na, .ref ea])), (da, .inl (cD, 32768, .inl (hj_B (fun _ => 0)))), (ba, .inl (cB, 2000, .inl (fun _ => 0))), (ka, .inl (cK, 2000, .inl (fun _ => 0))), (ua, .inl (cU, 1000, .inl (hj_B (fun _ => 0)))), (na, .inl (cN, 15872, .inl (hj_B (fun _ => 0)))), (ea, .inl (cE, 512, .inl (hj_B (fun _ => 0)))), (oa, .inl (cO, 1, .inr (.inl (fun _ => 0))))] H := hP
  have hD : va_D A [(j, .inr (2, [.ref dk, .ref rc, .ref ta, .ref pa, .int (nI 0), .int (nI 1), .int (nI 0), .int (nI 0)])), (dk, .inr (0, [.ref a, .int (-1), .int (nI 0)])), (a, .inl (cA, 32768, .inl (hj_B (fun _ => 0)))), (rc, .inr (1, [.ref sa, .ref la, .ref ma, .int (nI 0), .int (nI 0), .int (nI 0)])), (sa, .inl (cS, 1984, .inl (fun _ => 0))), (la, .inl (cL, 1984, .inl (fun _ => 0))), (ma, .inl (cM, 1984, .inl (fun _ => 0))), (ta, .inl (cT, 1000, .inl (hj_B (fun _ => 0)))), (pa, .inl (cP, 15872, .inl (hj_B (fun _ => 0)))), (m0, .inr (3, [.int (nI 0), .ref da, .int (nI 1), .int (nI 0), .int (nI 0), .int (nI 0), .int (nI 0), .ref ba, .ref ka, .ref ua, .int (nI 0), .int (-1), .int (nI 0), .ref na, .ref ea])), (da, .inl (cD, 32768, .inl (hj_B (fun _ => 0)))), (ba, .inl (cB, 2000, .inl (fun _ => 0))), (ka, .inl (cK, 2000, .inl (fun _ => 0))), (ua, .inl (cU, 1000, .inl (hj_B (fun _ => 0)))), (na, .inl (cN, 15872, .inl (hj_B (fun _ => 0)))), (ea, .inl (cE, 512, .inl (hj_B (fun _ => 0)))), (oa, .inl (cO, 1, .inr (.inl (fun _ => 0))))] := hD
  have hK : va_K (dC, dI) vwCl [(cA, .byte), (cS, .int), (cL, .int), (cM, .boolean), (cT, .byte), (cP, .byte), (cD, .byte), (cB, .int), (cK, .boolean), (cU, .byte), (cN, .byte), (cE, .byte), (cO, .long)] s := hK
  refine lv_astore_n (lv' := [(3, .ref oa), (2, .ref m0), (1, .ref j), (0, .ref b)]) hx hb d_L_law_19 rfl hl (by decide) rfl (fun ls hl => ?_)
  refine lv_iconst (v := nI 0) hx hb d_L_law_20 (by decide) ?_
  refine lv_istore (lv' := [(4, .int (nI 0)), (3, .ref oa), (2, .ref m0), (1, .ref j), (0, .ref b)]) hx hb d_L_law_21 hl (by decide) rfl (fun ls hl => ?_)
  exact lw_loop hl9 hx hb hml hown hts hA hK hEY0 hX hbl hbA hL hr hlocks hAs 512 0 _ _ _ _ _ (by omega) (by omega) (by omega) (by omega) ⟨_, _, _, _, _, _, _, _, _, _, _, _, _, _, _, _, _, _, _, _, _, _, hj_down (st := 1) (fun _ => by decide) (fun _ => by decide) (fun _ => by decide) (fun _ => by decide) (fun _ => by decide) (by omega) (by omega), hP, hD, hS, lv_sub hl [4, 3, 2, 1, 0] rfl⟩
set_option maxHeartbeats 4000000 in
theorem lw_walk (l : Launch) (hl9 : l.stackTraces = false) (b : Addr) (xs : List Int32) : MetFree l x (headSpec (Jvm.Cond.code x code maxLocals ret :: tables_1) room_1) (lw_P b xs) (fun _ _ _ _ _ => True) lw_Q := by
  refine MetFree.of_bodyS (code := code) (maxLocals := maxLocals) (ret := ret) (by decide) ?_ ?_
  · intro args s m h hn
    obtain ⟨meth, c, h1, h2, h3, h4, h5, h6, -, -⟩ := Cond.code_spec hn (atoms_spec (ws := Jvm.Cond.code x code maxLocals ret :: tables_1) h _ List.mem_cons_self)
    exact ⟨meth, c, h1, h2, h3, h4, h5, h6⟩
  · intro p e s m args below meth c s₁ B hml0 hP _
    obtain ⟨rfl, hx, hbd, hgv⟩ := hP
    obtain ⟨scr, harrAt, hlist, hof, hsmall⟩ := hx
    obtain ⟨hcb, hkn, -, -⟩ := State.arrayAt?_spec harrAt
    have hown : s.vm.findClass R_law = some m.cls := findClass_of_methodNamed B.named
    have hts0 : ∀ c ∈ (Jvm.Cond.code x code maxLocals ret :: tables_1), c.before #[Value.ref b] s = true := atoms_spec (ws := Jvm.Cond.code x code maxLocals ret :: tables_1) B.pre
    have hts : ∀ w ∈ lw_tbl, w.before #[Value.ref b] s = true := k2_hts_sels lw_privs (fun w hw => hts0 w (List.mem_cons_of_mem _ hw)) lw_privs_ok
    have hml : c.maxLocals = 7 := B.maxLocals_eq (hts0 _ List.mem_cons_self)
    have X₀ : Stand p l e room_1 s m #[Value.ref b] below meth c s₁ [] 0 0 := Stand.of_body B
    have hh0 : s₁.heap = s.heap := by rw [B.state]; rfl
    have hsz : scr.slots.size = xs.length := by rw [← Array.length_toList, hlist, List.length_map]
    have hval : ∀ j : Nat, j < xs.length → scr.slots[j]? = some (.int (xs.getD j 0)) := fun j hj => by
      rw [← Array.getElem?_toList, hlist]
      simp [hj]
    have hbl : b < s.heap.size := (Array.getElem?_eq_some_iff.mp hcb).1
    have hX : va_X b xs.length (fun j => xs.getD j 0) s s.heap := ⟨scr, hcb, hof, hkn, hsz, hval⟩
    have K : W p l e room_1 s m #[Value.ref b] below meth c s₁.heap [] 0 0 (lw_Z below #[Value.ref b] s) (entryFrame m ([Value.ref b] : List Value).toArray 7) := by
      rw [hh0]
      exact whole_start l hl9 hbd ⟨B.exec, B.bytes, B.returns, hml, hown, hts, hX, hbl, B.notSynchronized, hgv⟩
    obtain ⟨t, a1, o, b1, b2, b3⟩ := K s₁ rfl X₀
    exact ⟨t, o, a1, b1, b2, b3⟩
theorem lw_pre_spec {args : Array Value} {s : State} (h : (Jvm.Cond.and given_1 narrow_1).before args s = true) (hr : rest_1_c.before args s = true) : ∃ (b : Addr) (xs : List Int32), lw_P b xs args s := by
  have hs := flat_of_before _ h
  have hq := flat_of_before _ hr
  have hc : (Cond.count 1).before args s = true := hs _ (by decide +kernel)
  have harr : (Cond.arrayOf (.arg 0) .int).before args s = true := hs _ (by decide +kernel)
  have hle : (Cond.le (.length (.arg 0)) (.int 2048)).before args s = true := hs _ (by decide +kernel)
  have hlen : (Cond.isInt (.length (.arg 0))).before args s = true := hq _ (by decide +kernel)
  have hall : (Cond.all (.arg 0) (.isInt (.elem (.arg 0) (.index 0)))).before args s = true := hq _ (by decide +kernel)
  obtain ⟨b, xs, hb, hx⟩ := State.ints_of_pre rfl harr hlen hall
  have hsm : xs.length < 2 ^ 31 := hx.choose_spec.2.2.2
  have hev : (Term.length (.arg 0)).eval args s none [] s = some (.int xs.length.toInt32) := hx.length_eval hb
  have hv := Cond.le_ints hev (show (Term.int 2048).eval args s none [] s = some (.int 2048) from rfl)
  have hd : xs.length.toInt32 ≤ 2048 := by
    simpa [Cond.before, Cond.holds, hv] using hle
  have hN : xs.length ≤ 2048 := (Int32.ofNat_le_ofNat hsm (by decide)).mp (show Int32.ofNat xs.length ≤ Int32.ofNat 2048 from hd)
  exact ⟨b, xs, Cond.one_arg hc (show args[0]? = some (.ref b) from hb), hx, hN, h⟩
theorem lw_comes (l : Launch) (hl9 : l.stackTraces = false) : Comes l x (Jvm.Cond.code x code maxLocals ret :: tables_1) room_1 (fun tb e args s => Calls_1 tb e args s ∧ rest_1 tb e args s ∧ Pre_1 tb e args s)
    (fun _ _ args s o t => lw_Q args s o t) := by
  intro p e ha hc hk s m args below hf hfit hheap happ hpre
  obtain ⟨b, xs, hP⟩ := lw_pre_spec hpre.2.2 hpre.2.1
  obtain ⟨k, o, h1, h2, h3, hQ⟩ := lw_walk l hl9 b xs p e ha hc hk s m args below hf ((Spec.applies_iff_loose hf).mp happ).1 hP trivial
  exact ⟨k, o, h1, h2, h3, hQ⟩
theorem lw_frame {s t : State} {o : Outcome} {args : Array Value} (h : Framed s o t [] 601024 7293034) :
    Framed s o t (fieldLocs frame_1_writes args s ++ arrayLocs frame_1_arrays args s ++ staticLocs frame_1_statics s) 601024 7293034 := h
theorem lw_limb (L : Cond) (hL : ∀ (args : Array Value) (s t : State), L.after args s (.returned (some (.int 1))) t = true) :
    ArmFor flags0 classFile x code maxLocals ret World_1 tables_1 room_1 Calls_1 rest_1 Pre_1
      (fun tb e a s o t => postC L tb e a s o t ∧ Framed s o t (fieldLocs frame_1_writes a s ++ arrayLocs frame_1_arrays a s ++ staticLocs frame_1_statics s) 601024 7293034) := by
  intro l hfl _ _ p e ha hc hk s m args below hf hfit hheap happ hpre
  obtain ⟨k, o, h1, h2, h3, rfl, hF⟩ := lw_comes l (by unfold Launch.stackTraces; rw [hfl]; decide) p e ha hc hk s m args below hf hfit hheap happ hpre
  exact ⟨k, _, h1, h2, h3, hL args s _, lw_frame hF⟩
theorem i_vc : Claimed_1_1 ∧ Claimed_1_2 := ⟨lw_limb limb_1_1 (fun args s t => by simp [limb_1_1, Cond.after, Cond.holds, Cond.value]), lw_limb limb_1_2 (fun args s t => Cond.after_iff.mpr (by
  first | (rw [show limb_1_2 = Cond.eq .result (.int 1) from rfl, Cond.eq_ints (x := 1) (y := 1) rfl rfl]; simp; done) | (simp [limb_1_2, Cond.value, Term.eval]; done)))⟩
