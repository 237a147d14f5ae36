/-! exceptions: a method that throws, and a caller that catches -/
def hj_isCd : Cond → Bool
  | .castable _ _ => true
  | .declares _ => true
  | _ => false
def hj_cd : List Cond := lw_tbl.filter hj_isCd
theorem hj_cd_warm {s U : State} (hW : s.WarmedH U.vm) : ∀ w ∈ hj_cd, va_Nw w s → va_Nw w U := by
  intro w hw h
  have h2 := (List.mem_filter.mp hw).2
  cases w with
  | declares x => exact va_Nw.warmD hW h
  | castable a b => exact va_tabs rfl (rfl : (s.setVm U.vm).vm = U.vm) (by rw [Cond.castable_setVm hW.alike]; exact h)
  | _ => exact absurd h2 (by simp [hj_isCd])
/-- a static of Throwable that holds a reference or null, in a cell that isn't ours -/
def hj_SZ (n d : String) (A : Nat → Prop) (U : State) (H : Heap) : Prop := ∃ (c : ClassId) (k : Class) (i : Nat) (f : Field) (a : Nat) (cell : Cell) (v : Value), U.vm.findClass "java/lang/Throwable" = some c ∧ U.fieldFound? "java/lang/Throwable" n d = some (c, k, i, f) ∧ f.isStatic = true ∧ k.statics = some a ∧ H[a]? = some cell ∧ cell.vm.isStatics = true ∧ cell.cls = c ∧ f.slot < cell.slots.size ∧ k.staticTypes[f.slot]? = some f.type ∧ cell.slots[f.slot]? = some v ∧ v.isRef = true ∧ ¬ A a
theorem hj_SZ.moved {n d : String} {A : Nat → Prop} {u U : State} {H : Heap} (hvm : u.vm.Alike U.vm) (h : hj_SZ n d A u H) : hj_SZ n d A U H := by
  obtain ⟨c, k, i, f, a, cell, v, h1, h2, h3, h4, h5, h6, h7, h8, h9, h10⟩ := h
  obtain ⟨k', hi', he⟩ := State.fieldFound?_setVm hvm h2
  exact ⟨c, k', i, f, a, cell, v, by rw [hvm.findClass]; exact h1, hi', h3, by rw [he]; exact h4, h5, h6, h7, h8, by rw [he]; exact h9, h10⟩
theorem hj_SZ.kept {n d : String} {A : Nat → Prop} {U : State} {H H1 : Heap} (h : hj_SZ n d A U H) (hq : ∀ a : Nat, a < H.size → ¬ A a → H1[a]? = H[a]?) : hj_SZ n d A U H1 := by
  obtain ⟨c, k, i, f, a, cell, v, h1, h2, h3, h4, h5, h6, h7, h8, h9, h10, h11, h12⟩ := h
  exact ⟨c, k, i, f, a, cell, v, h1, h2, h3, h4, by rw [hq a (Array.getElem?_eq_some_iff.mp h5).1 h12]; exact h5, h6, h7, h8, h9, h10, h11, h12⟩
theorem hj_SZ.narrow {n d : String} {A B : Nat → Prop} {U : State} {H : Heap} (h : hj_SZ n d A U H) (hAB : ∀ q, B q → A q) : hj_SZ n d B U H := by
  obtain ⟨c, k, i, f, a, cell, v, h1, h2, h3, h4, h5, h6, h7, h8, h9, h10, h11, h12⟩ := h
  exact ⟨c, k, i, f, a, cell, v, h1, h2, h3, h4, h5, h6, h7, h8, h9, h10, h11, fun z => h12 (hAB a z)⟩
theorem hj_SZ.lays {n d : String} {A : Nat → Prop} {s : State} {args : Array Value} (h : hj_SZ n d A s s.heap) : (Cond.laysStatic "java/lang/Throwable" n d).before args s = true := by
  obtain ⟨c, k, i, f, a, cell, v, h1, h2, h3, h4, h5, h6, h7, h8, h9, h10, h11, h12⟩ := h
  simp [Cond.before, Cond.holds, Cond.value, h1, h2, h3, h4, h5, h6, h7, h8, h9]
theorem hj_SZ.ref {n d : String} {A : Nat → Prop} {s : State} {args : Array Value} (h : hj_SZ n d A s s.heap) : (Cond.isRef (.static "java/lang/Throwable" n d)).before args s = true := by
  obtain ⟨c, k, i, f, a, cell, v, h1, h2, h3, h4, h5, h6, h7, h8, h9, h10, h11, h12⟩ := h
  have e : (Term.static "java/lang/Throwable" n d).eval args s none [] s = some v := by
    simp [Term.eval, State.fieldNamed?, h2, h3, h4, h5, h6, h10]
  cases v <;> simp_all [Cond.before, Cond.holds, Cond.value, Value.isRef]
theorem hj_SZ.of {n d : String} {A : Nat → Prop} {s : State} {args : Array Value} (hl : (Cond.laysStatic "java/lang/Throwable" n d).before args s = true) (hr : (Cond.isRef (.static "java/lang/Throwable" n d)).before args s = true) (hA : ∀ a : Nat, a < s.heap.size → ¬ A a) : hj_SZ n d A s s.heap := by
  obtain ⟨c, k, i, f, a, cell, hc, hi, hst, ha, hcell, hs, hcls, hlt, hty⟩ := Cond.laysStatic_spec hl
  cases hv : (Term.static "java/lang/Throwable" n d).eval args s none [] s with
  | none => simp [Cond.before, Cond.holds, Cond.value, hv] at hr
  | some w =>
    obtain ⟨-, a', cell', ha', hcell', -, hslot⟩ := Term.static_spec hi hv
    cases ha.symm.trans ha'
    cases hcell.symm.trans hcell'
    have hw : w.isRef = true := by
      simp only [Cond.before, Cond.holds, Cond.value, hv] at hr
      cases w <;> simp_all [Value.isRef]
    exact ⟨c, k, i, f, a, cell, w, hc, hi, hst, ha, hcell, hs, hcls, hlt, hty, hslot, hw, hA a (Array.getElem?_eq_some_iff.mp hcell).1⟩
abbrev hj_ISE : String := "java/lang/IllegalStateException"
abbrev hj_IAE : String := "java/lang/IllegalArgumentException"
abbrev hj_UOE : String := "java/lang/UnsupportedOperationException"
def hj_EY : hj_ET := fun A U H => hj_EX A U H ∧ (∀ w ∈ hj_cd, va_Nw w U) ∧ hj_SZ "UNASSIGNED_STACK" "[Ljava/lang/StackTraceElement;" A U H ∧ hj_SZ "SUPPRESSED_SENTINEL" "Ljava/util/List;" A U H ∧ (∃ sa, vk_R "HalfJournal" 64 "the journal is not up" sa U) ∧ (∃ sa, vk_R "HalfJournal" 71 "the tape is empty" sa U) ∧ (∃ sa, vk_R "HalfJournal" 83 "the half has no room for the record" sa U) ∧ (∃ sa, vk_R "HalfJournal" 115 "there is no greater generation" sa U) ∧ va_Nc hj_IAE hj_ISE U ∧ va_Nc hj_UOE hj_ISE U ∧ va_Nc hj_UOE hj_IAE U
theorem hj_EYok : hj_Eok hj_EY := by
  refine ⟨fun A u U H hW h => ?_, fun A U H H1 hq h => ?_, fun A B U H hq h => ?_⟩
  · obtain ⟨h1, h2, h3, h4, ⟨a5, h5⟩, ⟨a6, h6⟩, ⟨a7, h7⟩, ⟨a8, h8⟩, h9, h10, h11⟩ := h
    exact ⟨hj_EXok.1 A u U H hW h1, fun w hw => hj_cd_warm hW w hw (h2 w hw), h3.moved hW.alike, h4.moved hW.alike, ⟨a5, vk_R.warm hW h5⟩, ⟨a6, vk_R.warm hW h6⟩, ⟨a7, vk_R.warm hW h7⟩, ⟨a8, vk_R.warm hW h8⟩, h9.moved hW.alike, h10.moved hW.alike, h11.moved hW.alike⟩
  · obtain ⟨h1, h2, h3, h4, h5⟩ := h
    exact ⟨hj_EXok.2.1 A U H H1 hq h1, h2, h3.kept hq, h4.kept hq, h5⟩
  · obtain ⟨h1, h2, h3, h4, h5⟩ := h
    exact ⟨hj_EXok.2.2 A B U H hq h1, h2, h3.narrow hq, h4.narrow hq, h5⟩
/-- the words of a throw: from the tables, or from what is given -/
def hj_fromE (w : Cond) : Prop := w ∈ hj_tbl ∨ w ∈ hj_cd ∨ w = .laysStatic "java/lang/Throwable" "UNASSIGNED_STACK" "[Ljava/lang/StackTraceElement;" ∨ w = .laysStatic "java/lang/Throwable" "SUPPRESSED_SENTINEL" "Ljava/util/List;" ∨ w = .isRef (.static "java/lang/Throwable" "UNASSIGNED_STACK" "[Ljava/lang/StackTraceElement;") ∨ w = .isRef (.static "java/lang/Throwable" "SUPPRESSED_SENTINEL" "Ljava/util/List;")
theorem hj_fromE.holds {w : Cond} (h : hj_fromE w) {A : Nat → Prop} {s : State} {args : Array Value} (hts : ∀ w ∈ hj_tbl, w.before args s = true) (hE : hj_EY A s s.heap) : w.before args s = true := by
  rcases h with h | h | rfl | rfl | rfl | rfl
  · exact hts w h
  · have h2 := (List.mem_filter.mp h).2
    have h3 := hE.2.1 w h
    cases w with
    | declares x => exact va_Nw.use rfl h3
    | castable a b => exact va_Nw.use rfl h3
    | _ => exact absurd h2 (by simp [hj_isCd])
  · exact hE.2.2.1.lays
  · exact hE.2.2.2.1.lays
  · exact hE.2.2.1.ref
  · exact hE.2.2.2.1.ref
theorem hj_frame0 {s U : State} {k n : Nat} (h : s.sameButNew U [] k n) : s.heap.size ≤ U.heap.size ∧ ∀ q : Nat, q < s.heap.size → U.heap[q]? = s.heap[q]? := by
  obtain ⟨-, h1, -, -, -, h2⟩ := h
  refine ⟨h1, fun q hq => ?_⟩
  have hc := Array.getElem?_eq_getElem hq
  obtain ⟨c', hc', e1, -, e2⟩ := h2 q _ hc
  have e3 : c'.slots = (s.heap[q]).slots := by
    apply Array.ext_getElem?
    intro i
    exact e2 i (fun z => nomatch z)
  rw [hc', hc, e1, e3]
set_option maxHeartbeats 1000000 in
/-- 'throw new E("text")', nothing having been written yet -/
theorem hj_throw {p : Program} {l : Launch} {e : Env} {R : Room} {s : State} {m : MethodId} {args : Array Value} {below : List Frame} {meth : Method} {c : Code} {H : Heap} {cells slots : Nat} {Q : State → Prop} {cc : ByteArray} {pc : Nat} {ls : Array Slot} {rest : List Value} (hexec : p.tables.exec = Jvm.exec) (hb : c.code = cc) (hl : l.stackTraces = false) {own cls text : String} {names : List String} {ik is ic sa : Nat}
    (hown : s.vm.findClass own = some m.cls) (hcls : Bundle.fit cls = true) (hnames : ∀ n ∈ names, Bundle.fit n = true) (hk : (Cond.classLink own ik cls).before args s = true) (hini : (Cond.initialized cls).before args s = true) (hstr : vk_R own is text sa s) (hat : ∀ w ∈ Bundle.ownAtoms own ic cls names, w.before args s = true) (hH : s.heap.size ≤ H.size) (hsize : ls.size = c.maxLocals)
    (d0 : decode cc pc = .ok (.new ik, 3)) (d3 : decode cc (pc + 3) = .ok (.dup, 1)) (d4 : decode cc (pc + 4) = .ok (.ldc is, 2)) (d6 : decode cc (pc + 6) = .ok (.invokespecial ic, 3)) (d9 : decode cc (pc + 9) = .ok (.athrow, 1)) (hout : ∀ x ∈ c.exceptionTable.toList, covers x (pc + 9) = false)
    (hRframes : names.length + 3 < R.frames) (hRlocals : (rest.map fun v => v.category).sum + (13 * (names.length + 1) + 43) ≤ R.locals) (hRcells : cells + 1 ≤ R.cells) (hRslots : slots + 6 ≤ R.slots) (hlocks : meth.locks = false)
    (hQ : ∀ (t : State) (q : Addr) (ce : Cell), t.status = .running → Ended t below (.threw q) → t.heap[q]? = some ce → ce.vm = .none → s.vm.findClass cls = some ce.cls → s.WarmedH t.vm → s.sameButNew ({ t with vm := s.vm } : State) [] (cells + 1) (slots + 6) → Q t) : W p l e R s m args below meth c H [] cells slots Q (F0 m pc ls rest) := by
  intro T hT X
  have htr : e.platform.stackTraces = false := (show e.platform.stackTraces = l.stackTraces by rw [X.admits.platform]).trans hl
  have hins : (Cond.instantiable cls 6).before args s = true := hat _ (by simp [Bundle.ownAtoms])
  obtain ⟨vm₁, cX, kX, hfX, hkX, -, -, X₁, st1⟩ := X.newCold hexec (own := own) (C := cls) (index := ik) (n := 6) hown hk hins hini (g := F0 m pc ls rest) rfl (by rw [hb]; exact d0) hRcells hRslots
  generalize hT1 : (T.setVm vm₁).pushCell { cls := cX, slots := kX.instanceTypes.map defaultValue, vm := .none } = T1 at X₁ st1
  have hcell : T1.heap[T.heap.size]? = some (freshCell cX kX) := by rw [← hT1]; exact State.heap_pushCell_size _ _
  have hcat : (Value.ref T.heap.size).category = 1 := rfl
  obtain ⟨U, hsteps, hrun, hend, hW, hsame, ce, hce, hO⟩ := X₁.ctorThrowS hexec htr (own := own) (cls := cls) (names := names) (ic := ic) hown hcls hnames hat (fun x hx => nomatch hx) hfX hkX hcell (by rw [hT]; exact hH) (msg := .ref sa) rfl
    (g := { method := m, pc := pc + 6, locals := ls, stack := .ref sa :: .ref T.heap.size :: .ref T.heap.size :: rest, locked := none }) rfl hsize rfl rfl (rest := rest) rfl (by rw [hb]; exact d6) (by rw [hb]; exact d9) hout hRframes (by simp only [List.map_cons, List.sum_cons, hcat]; show 2 * 0 + _ + _ ≤ _; omega) hlocks
  refine ⟨U, st1 _ ?_, hQ U _ ce hrun hend hce hO.vm hO.cls hW hsame⟩
  show Steps p.tables e below (T1.setTop { method := m, pc := pc + 3, locals := ls, stack := .ref T.heap.size :: rest, locked := none }) _
  have d3' : decode c.code (pc + 3) = .ok (.dup, 1) := by rw [hb]; exact d3
  jvm_step X₁.here [X₁.here.top, hexec, d3', Value.category]
  have hst1 : (Cond.stringRef own is text).before args s = true := by
    have h9 := (vk_R.same (rfl : s.vm = s.vm) hstr).1
    exact h9
  exact X₁.ldcString hexec (own := own) (text := text) (index := is) (a := sa) hown hst1 hstr.2
    (g := { method := m, pc := pc + 4, locals := ls, stack := .ref T.heap.size :: .ref T.heap.size :: rest, locked := none }) rfl (by rw [hb]; exact d4) _ hsteps
/-- what a method that throws leaves -/
def hj_Thr (Ec : String) (st : State) (o : Outcome) (t : State) : Prop := ∃ (q : Addr) (ce : Cell), o = .threw q ∧ t.heap[q]? = some ce ∧ ce.vm = .none ∧ st.vm.findClass Ec = some ce.cls ∧ st.WarmedH t.vm ∧ st.sameButNew ({ t with vm := st.vm } : State) [] 1 6
abbrev hj_Mt (l : Launch) (y : MethodName) (cc : ByteArray) (maxL : Nat) (ty : FieldType) (rm : Room) (E : hj_ET) (D : va_G) (cl : List vw_C) (tys : List (ClassId × FieldType)) (wc : va_W) (As : List Value) (Ec : String) : Prop := ∀ sz : Nat, MetFree l y (headSpec (Cond.code y cc maxL (some ty) :: hj_tbl) rm) (va_Pc As (hj_Pre E D cl tys wc sz)) (fun _ _ _ _ _ => True) (fun _ st o t => hj_Thr Ec st o t)
section HJT
variable {l : Launch} {y : MethodName} {rm : Room} {E : hj_ET} {D : va_G} {cl : List vw_C} {tys : List (ClassId × FieldType)} {wc : va_W} {As : List Value} {cc : ByteArray} {maxL : Nat} {ty : FieldType} {Ec : String}
set_option maxHeartbeats 1000000 in
theorem hj_bodyT (hy : plainFor y = true) (hlen : (lg_sl As).length ≤ maxL)
    (body : ∀ (p : Program) (e : Env) (s : State) (m : MethodId) (args : Array Value) (below : List Frame) (meth : Method) (c : Code) (A : Nat → Prop) (Q : State → Prop) (ls : Array Slot), p.tables.exec = Jvm.exec → c.code = cc → (∀ w ∈ hj_tbl, w.before args s = true) → s.vm.findClass y.cls = some m.cls → c.maxLocals = maxL → meth.locks = false → (∀ (pc : Nat), ∀ x ∈ c.exceptionTable.toList, covers x pc = false) → (∀ q, s.heap.size ≤ q → A q) → va_P D cl wc s.heap → va_K D cl tys s → va_D A wc → E A s s.heap → lv_has ls maxL (lv_args 0 As) →
      (∀ (t : State) (q : Addr) (ce : Cell), t.status = .running → Ended t below (.threw q) → t.heap[q]? = some ce → ce.vm = .none → s.vm.findClass Ec = some ce.cls → s.WarmedH t.vm → s.sameButNew ({ t with vm := s.vm } : State) [] (0 + 1) (0 + 6) → Q t) →
      W p l e rm s m args below meth c s.heap [] 0 0 Q (F0 m 0 ls [])) : hj_Mt l y cc maxL ty rm E D cl tys wc As Ec := by
  intro sz
  refine MetFree.of_bodySF (code := cc) (maxLocals := maxL) (ret := some ty) hy ?_ ?_
  · intro args s m h hn
    obtain ⟨meth, c, h1, h2, h3, h4, h5, h6, -, -⟩ := Cond.code_spec hn (atoms_spec (ws := Cond.code y cc maxL (some ty) :: hj_tbl) h _ List.mem_cons_self)
    exact ⟨meth, c, h1, h2, h3, h4, h5, h6⟩
  · intro p e s m args below meth c s₁ B hml hv _
    have hh0 : s₁.heap = s.heap := by rw [B.state]; rfl
    obtain ⟨rfl, hsz, hP, hK, hD0, hE⟩ := hv
    have hno := B.noHandlers (atoms_spec (ws := Cond.code y cc maxL (some ty) :: hj_tbl) B.pre _ List.mem_cons_self)
    have hno2 : ∀ (pc : Nat), ∀ x ∈ c.exceptionTable.toList, covers x pc = false := by
      intro pc x hx
      have h9 : c.exceptionTable = #[] := by simpa using hno
      rw [h9] at hx
      cases hx
    subst hsz
    have K := body p e s m As.toArray below meth c (va_A wc s.heap.size) (fun t => ∃ o, t.status = .running ∧ Ended t below o ∧ hj_Thr Ec s o t) ((lg_sl As ++ List.replicate (maxL - (lg_sl As).length) Slot.unset).toArray) B.exec B.bytes (fun w h => atoms_spec B.pre w (List.mem_cons_of_mem _ h)) (findClass_of_methodNamed B.named) hml B.notSynchronized hno2 (fun q h => Or.inr h) hP hK hD0.self hE (lv_entry As hlen)
      (fun t q ce h1 h2 h3 h4 h5 h6 h7 => ⟨_, h1, h2, q, ce, rfl, h3, h4, h5, h6, h7⟩)
    obtain ⟨t, a1, o, b1, b2, b3⟩ := K s₁ hh0 (Stand.of_body B)
    rw [← lg_entry_eq] at a1
    exact ⟨t, o, a1, b1, b2, b3⟩
end HJT
