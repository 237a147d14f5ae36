/-! contracts in one form: the world wc (cells at given addresses) at the start, the world w1 u behind it; E: what is given of statics -/
abbrev hj_ET : Type := (Nat → Prop) → State → Heap → Prop
def hj_Eok (E : hj_ET) : Prop := (∀ (A : Nat → Prop) (u U : State) (H : Heap), u.WarmedH U.vm → E A u H → E A U H) ∧ (∀ (A : Nat → Prop) (U : State) (H H1 : Heap), (∀ q : Nat, q < H.size → ¬ A q → H1[q]? = H[q]?) → E A U H → E A U H1) ∧ (∀ (A B : Nat → Prop) (U : State) (H : Heap), (∀ q, B q → A q) → E A U H → E B U H)
def hj_E0 : hj_ET := fun _ _ _ => True
theorem hj_E0ok : hj_Eok hj_E0 := ⟨fun _ _ _ _ _ _ => trivial, fun _ _ _ _ _ _ => trivial, fun _ _ _ _ _ _ => trivial⟩
def hj_Pre (E : hj_ET) (D : va_G) (cl : List vw_C) (tys : List (ClassId × FieldType)) (wc : va_W) (sz : Nat) : State → Prop := fun U => U.heap.size = sz ∧ va_P D cl wc U.heap ∧ va_K D cl tys U ∧ va_D (fun _ => True) wc ∧ E (va_A wc sz) U U.heap
def hj_Bw {S : Type} (D : va_G) (cl : List vw_C) (t1 : S → List (ClassId × FieldType)) (A : Nat → Prop) (w1 : S → va_W) : S → State → Prop := fun u t => va_P D cl (w1 u) t.heap ∧ va_K D cl (t1 u) t ∧ va_D A (w1 u)
abbrev hj_Mi {S : Type} (l : Launch) (y : MethodName) (cc : ByteArray) (maxL : Nat) (ty : FieldType) (rm : Room) (E : hj_ET) (D : va_G) (cl : List vw_C) (tys : List (ClassId × FieldType)) (wc : va_W) (As : List Value) (post : Int32 → S → Prop) (w1 : S → va_W) (t1 : S → List (ClassId × FieldType)) (mc ms : Nat) : Prop := ∀ sz : Nat, Met l y (Cond.code y cc maxL (some ty) :: hj_tbl) rm (va_Pc As (hj_Pre E D cl tys wc sz)) (va_Qi post (hj_Bw D cl t1 (va_A wc sz) w1) (va_A wc sz)) mc ms (va_A wc sz)
abbrev hj_Ml {S : Type} (l : Launch) (y : MethodName) (cc : ByteArray) (maxL : Nat) (rm : Room) (E : hj_ET) (D : va_G) (cl : List vw_C) (tys : List (ClassId × FieldType)) (wc : va_W) (As : List Value) (post : Int64 → S → Prop) (w1 : S → va_W) (t1 : S → List (ClassId × FieldType)) (mc ms : Nat) : Prop := ∀ sz : Nat, Met l y (Cond.code y cc maxL (some .long) :: hj_tbl) rm (va_Pc As (hj_Pre E D cl tys wc sz)) (va_Ql post (hj_Bw D cl t1 (va_A wc sz) w1) (va_A wc sz)) mc ms (va_A wc sz)
abbrev hj_Mv {S : Type} (l : Launch) (y : MethodName) (cc : ByteArray) (maxL : Nat) (rm : Room) (E : hj_ET) (D : va_G) (cl : List vw_C) (tys : List (ClassId × FieldType)) (wc : va_W) (As : List Value) (post : S → Prop) (w1 : S → va_W) (t1 : S → List (ClassId × FieldType)) (mc ms : Nat) : Prop := ∀ sz : Nat, Met l y (Cond.code y cc maxL none :: hj_tbl) rm (va_Pc As (hj_Pre E D cl tys wc sz)) (va_Qv post (hj_Bw D cl t1 (va_A wc sz) w1) (va_A wc sz)) mc ms (va_A wc sz)
theorem hj_fm {α : Type} {f : Nat → Option α} : ∀ (is : List Nat) (w : List α), is.map f = w.map some → is.filterMap f = w
  | [], w, h => by
    cases w with
    | nil => rfl
    | cons a w => simp at h
  | i :: is, w, h => by
    cases w with
    | nil => simp at h
    | cons a w =>
      simp only [List.map_cons, List.cons.injEq] at h
      rw [List.filterMap_cons_some h.1, hj_fm is w h.2]
theorem hj_blind {E : hj_ET} (hE : hj_Eok E) {D : va_G} {cl : List vw_C} {tys : List (ClassId × FieldType)} {wc : va_W} {sz : Nat} {As : List Value} : FrameBlind (va_Pc As (hj_Pre E D cl tys wc sz)) := by
  intro a U g mk q
  obtain ⟨q0, q1, qP, qK, qD, qE⟩ := q
  exact ⟨q0, q1, qP, va_K.moved (u := U) (U := U.calling g mk a) (Vm.Alike.refl U.vm) qK, qD, hE.1 _ U (U.calling g mk a) _ (State.WarmedH.refl U) qE⟩
section HJC
variable {p : Program} {l : Launch} {e : Env} {R : Room} {s : State} {m : MethodId} {args : Array Value} {below : List Frame} {meth : Method} {c : Code} {H : Heap} {locs : List Loc} {cells slots : Nat} {Q : State → Prop}
variable {cc : ByteArray} {pc : Nat} {ls : Array Slot} {rest st0 : List Value} {D : va_G} {cl : List vw_C} {A : Nat → Prop} {ws wc wr : va_W} {tys tysc : List (ClassId × FieldType)} {E : hj_ET} {As : List Value}
theorem hj_startE (hE : hj_Eok E) (h0 : E A s s.heap) (hD : va_D A ws) (hS : va_S A s.heap H locs) (hA : ∀ q, s.heap.size ≤ q → A q) (isC : List Nat) (hC : isC.map (fun i => ws[i]?) = wc.map some) {U : State} (hU : U.heap = H) (hW : s.WarmedH U.vm) : E (va_A wc H.size) U U.heap := by
  rw [hU]
  exact hE.2.2 A _ U H (va_free hD hS hA isC hC) (hE.1 A s U H hW (hE.2.1 A s s.heap H hS.2.1 h0))
theorem hj_pre (hE : hj_Eok E) (h0 : E A s s.heap) (hP : va_P D cl ws H) (hD : va_D A ws) (hK : va_K D cl tys s) (hS : va_S A s.heap H locs) (hA : ∀ q, s.heap.size ≤ q → A q) (isC : List Nat) (hC : isC.map (fun i => ws[i]?) = wc.map some) (hnC : va_nd isC = true) (it : List Nat) (hT : it.filterMap (fun i => tys[i]?) = tysc) : ∀ U : State, U.heap = H → s.WarmedH U.vm → hj_Pre E D cl tysc wc H.size U := fun U hU hW =>
  ⟨by rw [hU], by rw [hU]; exact hP.sub isC (hj_fm _ _ hC), va_K.moved hW.alike (hK.sub it hT), (hD.sub isC hnC hC).weaken (fun _ _ _ _ => trivial), hj_startE hE h0 hD hS hA isC hC hU hW⟩
/-- a callee's start: its cells are the places isC of ours, its array classes the places it of ours -/
theorem hj_preS (hE : hj_Eok E) (h0 : E A s s.heap) (hP : va_P D cl ws H) (hD : va_D A ws) (hK : va_K D cl tys s) (hS : va_S A s.heap H locs) (hA : ∀ q, s.heap.size ≤ q → A q) (isC : List Nat) (hC : isC.map (fun i => ws[i]?) = wc.map some) (hnC : va_nd isC = true) (it : List Nat) (hT : it.filterMap (fun i => tys[i]?) = tysc) : PreS s H (va_Pc As (hj_Pre E D cl tysc wc H.size)) As := ⟨hj_blind hE, fun U hU hW => ⟨rfl, hj_pre hE h0 hP hD hK hS hA isC hC hnC it hT U hU hW⟩⟩
theorem hj_preV {b ci q0 : Nat} {q : vw_C} {fs : List Value} (hE : hj_Eok E) (h0 : E A s s.heap) (hP : va_P D cl ws H) (hD : va_D A ws) (hK : va_K D cl tys s) (hS : va_S A s.heap H locs) (hA : ∀ q, s.heap.size ≤ q → A q) (isC : List Nat) (hC : isC.map (fun i => ws[i]?) = wc.map some) (hnC : va_nd isC = true) (it : List Nat) (hT : it.filterMap (fun i => tys[i]?) = tysc) (hc : cl[ci]? = some q) (he : ws[q0]? = some (b, .inr (ci, fs))) : PreV s H q.1 b (va_Pc (.ref b :: As) (hj_Pre E D cl tysc wc H.size)) As := ⟨hj_blind hE, va_recv hK hP hc he, fun U hU hW => ⟨rfl, hj_pre hE h0 hP hD hK hS hA isC hC hnC it hT U hU hW⟩⟩
variable {S : Type} {w1 : S → va_W} {t1 : S → List (ClassId × FieldType)} {mc ms : Nat} {a : Array Value}
theorem hj_calli {post : Int32 → S → Prop} (isC isR : List Nat) (hP : va_P D cl ws H) (hD : va_D A ws) (hS : va_S A s.heap H locs) (hA : ∀ q, s.heap.size ≤ q → A q) (hC : isC.map (fun i => ws[i]?) = wc.map some) (hR : isR.map (fun i => ws[i]?) = wr.map some) (hn : va_nd isR = true) (hdis : ∀ i ∈ isR, i ∉ isC)
    (hr : va_Run p l e R s m args below meth c H locs cells slots mc ms (F0 m pc ls st0) rest (va_Qi post (hj_Bw D cl t1 (va_A wc H.size) w1) (va_A wc H.size) a) (va_A wc H.size))
    (kk : ∀ (r : Int32) (u : S) (H1 : Heap) (locs1 : List Loc), post r u → va_P D cl (wr ++ w1 u) H1 → va_D A (wr ++ w1 u) → va_K D cl (t1 u) s → va_S A s.heap H1 locs1 → W p l e R s m args below meth c H1 locs1 (cells + mc) (slots + ms) Q (F0 m (pc + 3) ls (.int r :: rest))) : W p l e R s m args below meth c H locs cells slots Q (F0 m pc ls st0) := by
  have hF := va_free (wc := wc) hD hS hA isC hC
  refine va_calli hr hS (fun q _ h => hF q h) hF (fun r u t H1 locs1 ht hvm hw hB hz hk hS1 => ?_)
  obtain ⟨hP1, hK1, hD1⟩ := hB
  rw [ht] at hP1
  obtain ⟨hP2, hD2⟩ := va_join (wr := wr) hP hD isC isR hC hR hn hdis hk hF hP1 hD1
  exact kk r u H1 locs1 hw hP2 hD2 (va_K.moved hvm.symm hK1) hS1
theorem hj_calll {post : Int64 → S → Prop} (isC isR : List Nat) (hP : va_P D cl ws H) (hD : va_D A ws) (hS : va_S A s.heap H locs) (hA : ∀ q, s.heap.size ≤ q → A q) (hC : isC.map (fun i => ws[i]?) = wc.map some) (hR : isR.map (fun i => ws[i]?) = wr.map some) (hn : va_nd isR = true) (hdis : ∀ i ∈ isR, i ∉ isC)
    (hr : va_Run p l e R s m args below meth c H locs cells slots mc ms (F0 m pc ls st0) rest (va_Ql post (hj_Bw D cl t1 (va_A wc H.size) w1) (va_A wc H.size) a) (va_A wc H.size))
    (kk : ∀ (r : Int64) (u : S) (H1 : Heap) (locs1 : List Loc), post r u → va_P D cl (wr ++ w1 u) H1 → va_D A (wr ++ w1 u) → va_K D cl (t1 u) s → va_S A s.heap H1 locs1 → W p l e R s m args below meth c H1 locs1 (cells + mc) (slots + ms) Q (F0 m (pc + 3) ls (.long r :: rest))) : W p l e R s m args below meth c H locs cells slots Q (F0 m pc ls st0) := by
  have hF := va_free (wc := wc) hD hS hA isC hC
  refine va_calll hr hS (fun q _ h => hF q h) hF (fun r u t H1 locs1 ht hvm hw hB hz hk hS1 => ?_)
  obtain ⟨hP1, hK1, hD1⟩ := hB
  rw [ht] at hP1
  obtain ⟨hP2, hD2⟩ := va_join (wr := wr) hP hD isC isR hC hR hn hdis hk hF hP1 hD1
  exact kk r u H1 locs1 hw hP2 hD2 (va_K.moved hvm.symm hK1) hS1
theorem hj_callv {post : S → Prop} (isC isR : List Nat) (hP : va_P D cl ws H) (hD : va_D A ws) (hS : va_S A s.heap H locs) (hA : ∀ q, s.heap.size ≤ q → A q) (hC : isC.map (fun i => ws[i]?) = wc.map some) (hR : isR.map (fun i => ws[i]?) = wr.map some) (hn : va_nd isR = true) (hdis : ∀ i ∈ isR, i ∉ isC)
    (hr : va_Run p l e R s m args below meth c H locs cells slots mc ms (F0 m pc ls st0) rest (va_Qv post (hj_Bw D cl t1 (va_A wc H.size) w1) (va_A wc H.size) a) (va_A wc H.size))
    (kk : ∀ (u : S) (H1 : Heap) (locs1 : List Loc), post u → va_P D cl (wr ++ w1 u) H1 → va_D A (wr ++ w1 u) → va_K D cl (t1 u) s → va_S A s.heap H1 locs1 → W p l e R s m args below meth c H1 locs1 (cells + mc) (slots + ms) Q (F0 m (pc + 3) ls rest)) : W p l e R s m args below meth c H locs cells slots Q (F0 m pc ls st0) := by
  have hF := va_free (wc := wc) hD hS hA isC hC
  refine va_callv hr hS (fun q _ h => hF q h) hF (fun u t H1 locs1 ht hvm hw hB hz hk hS1 => ?_)
  obtain ⟨hP1, hK1, hD1⟩ := hB
  rw [ht] at hP1
  obtain ⟨hP2, hD2⟩ := va_join (wr := wr) hP hD isC isR hC hR hn hdis hk hF hP1 hD1
  exact kk u H1 locs1 hw hP2 hD2 (va_K.moved hvm.symm hK1) hS1
end HJC
section HJM
variable {l : Launch} {y : MethodName} {rm : Room} {E : hj_ET} {D : va_G} {cl : List vw_C} {tys : List (ClassId × FieldType)} {wc : va_W} {As : List Value} {S : Type} {w1 : S → va_W} {t1 : S → List (ClassId × FieldType)} {mc ms : Nat} {cc : ByteArray} {maxL : Nat} {ty : FieldType}
set_option maxHeartbeats 1000000 in
theorem hj_bodyI {post : Int32 → S → Prop} (hy : plainFor y = true) (hlen : (lg_sl As).length ≤ maxL)
    (body : ∀ (p : Program) (e : Env) (s : State) (m : MethodId) (args : Array Value) (below : List Frame) (meth : Method) (c : Code) (A : Nat → Prop) (Q : State → Prop) (ls : Array Slot), p.tables.exec = Jvm.exec → c.code = cc → (∀ w ∈ hj_tbl, w.before args s = true) → s.vm.findClass y.cls = some m.cls → c.maxLocals = maxL → (∀ q, s.heap.size ≤ q → A q) → va_P D cl wc s.heap → va_K D cl tys s → va_D A wc → E A s s.heap → lv_has ls maxL (lv_args 0 As) →
      (∀ (r : Int32) (u : S) (H : Heap) (locs : List Loc) (pc : Nat) (ls : Array Slot), decode cc pc = .ok (.ireturn, 1) → narrow ty (.int r) = .int r → post r u → va_P D cl (w1 u) H → va_K D cl (t1 u) s → va_D A (w1 u) → va_S A s.heap H locs → W p l e rm s m args below meth c H locs mc ms Q (F0 m pc ls [.int r])) →
      W p l e rm s m args below meth c s.heap [] 0 0 Q (F0 m 0 ls [])) : hj_Mi l y cc maxL ty rm E D cl tys wc As post w1 t1 mc ms := by
  intro sz
  refine va_MetF (cc := cc) (maxL := maxL) (ret := some ty) hy rfl ?_
  intro p e s m args below meth c s₁ B hml hv
  obtain ⟨rfl, hsz, hP, hK, hD0, hE⟩ := hv
  have hlocks := B.notSynchronized
  have hr := B.returns
  subst hsz
  rw [lg_entry_eq]
  refine body p e s m _ below meth c (va_A wc s.heap.size) _ _ B.exec B.bytes (fun w h => atoms_spec B.pre w (List.mem_cons_of_mem _ h)) (findClass_of_methodNamed B.named) hml (fun q h => Or.inr h) hP hK hD0.self hE (lv_entry As hlen) ?_
  intro r u H locs pc ls hdg hn hp hP1 hK1 hD1 hS1
  exact W.zret B.exec B.bytes hr hn (fun t ht hW => ⟨⟨r, u, rfl, hp, by rw [ht]; exact hP1, va_K.moved hW.alike hK1, hD1⟩, hS1.F ht⟩) hS1.2.2 hdg hlocks
set_option maxHeartbeats 1000000 in
theorem hj_bodyL {post : Int64 → S → Prop} (hy : plainFor y = true) (hlen : (lg_sl As).length ≤ maxL)
    (body : ∀ (p : Program) (e : Env) (s : State) (m : MethodId) (args : Array Value) (below : List Frame) (meth : Method) (c : Code) (A : Nat → Prop) (Q : State → Prop) (ls : Array Slot), p.tables.exec = Jvm.exec → c.code = cc → (∀ w ∈ hj_tbl, w.before args s = true) → s.vm.findClass y.cls = some m.cls → c.maxLocals = maxL → (∀ q, s.heap.size ≤ q → A q) → va_P D cl wc s.heap → va_K D cl tys s → va_D A wc → E A s s.heap → lv_has ls maxL (lv_args 0 As) →
      (∀ (r : Int64) (u : S) (H : Heap) (locs : List Loc) (pc : Nat) (ls : Array Slot), decode cc pc = .ok (.lreturn, 1) → post r u → va_P D cl (w1 u) H → va_K D cl (t1 u) s → va_D A (w1 u) → va_S A s.heap H locs → W p l e rm s m args below meth c H locs mc ms Q (F0 m pc ls [.long r])) →
      W p l e rm s m args below meth c s.heap [] 0 0 Q (F0 m 0 ls [])) : hj_Ml l y cc maxL rm E D cl tys wc As post w1 t1 mc ms := by
  intro sz
  refine va_MetF (cc := cc) (maxL := maxL) (ret := some .long) hy rfl ?_
  intro p e s m args below meth c s₁ B hml hv
  obtain ⟨rfl, hsz, hP, hK, hD0, hE⟩ := hv
  have hlocks := B.notSynchronized
  have hr := B.returns
  subst hsz
  rw [lg_entry_eq]
  refine body p e s m _ below meth c (va_A wc s.heap.size) _ _ B.exec B.bytes (fun w h => atoms_spec B.pre w (List.mem_cons_of_mem _ h)) (findClass_of_methodNamed B.named) hml (fun q h => Or.inr h) hP hK hD0.self hE (lv_entry As hlen) ?_
  intro r u H locs pc ls hdg hp hP1 hK1 hD1 hS1
  exact W.lret B.exec B.bytes hr (fun t ht hW => ⟨⟨r, u, rfl, hp, by rw [ht]; exact hP1, va_K.moved hW.alike hK1, hD1⟩, hS1.F ht⟩) hS1.2.2 hdg hlocks
set_option maxHeartbeats 1000000 in
theorem hj_bodyV {post : S → Prop} (hy : plainFor y = true) (hlen : (lg_sl As).length ≤ maxL)
    (body : ∀ (p : Program) (e : Env) (s : State) (m : MethodId) (args : Array Value) (below : List Frame) (meth : Method) (c : Code) (A : Nat → Prop) (Q : State → Prop) (ls : Array Slot), p.tables.exec = Jvm.exec → c.code = cc → (∀ w ∈ hj_tbl, w.before args s = true) → s.vm.findClass y.cls = some m.cls → c.maxLocals = maxL → meth.name = y.name → (∀ q, s.heap.size ≤ q → A q) → va_P D cl wc s.heap → va_K D cl tys s → va_D A wc → E A s s.heap → lv_has ls maxL (lv_args 0 As) →
      (∀ (u : S) (H : Heap) (locs : List Loc) (pc : Nat) (ls : Array Slot), decode cc pc = .ok (.return_, 1) → post u → va_P D cl (w1 u) H → va_K D cl (t1 u) s → va_D A (w1 u) → va_S A s.heap H locs → W p l e rm s m args below meth c H locs mc ms Q (F0 m pc ls [])) →
      W p l e rm s m args below meth c s.heap [] 0 0 Q (F0 m 0 ls [])) : hj_Mv l y cc maxL rm E D cl tys wc As post w1 t1 mc ms := by
  intro sz
  refine va_MetF (cc := cc) (maxL := maxL) (ret := none) hy rfl ?_
  intro p e s m args below meth c s₁ B hml hv
  obtain ⟨rfl, hsz, hP, hK, hD0, hE⟩ := hv
  have hlocks := B.notSynchronized
  have hr := B.returns
  subst hsz
  rw [lg_entry_eq]
  refine body p e s m _ below meth c (va_A wc s.heap.size) _ _ B.exec B.bytes (fun w h => atoms_spec B.pre w (List.mem_cons_of_mem _ h)) (findClass_of_methodNamed B.named) hml (name_of_methodNamed B.named B.method).1 (fun q h => Or.inr h) hP hK hD0.self hE (lv_entry As hlen) ?_
  intro u H locs pc ls hdg hp hP1 hK1 hD1 hS1
  exact W.vret B.exec B.bytes hr (fun t ht hW => ⟨⟨u, rfl, hp, by rw [ht]; exact hP1, va_K.moved hW.alike hK1, hD1⟩, hS1.F ht⟩) hS1.2.2 hdg hlocks
end HJM
/-- another content of an array that says the same below its length -/
theorem hj_arr {D : va_G} {cl : List vw_C} {ws : va_W} {H : Heap} (hP : va_P D cl ws H) (k : Nat) {a n : Nat} {cA : ClassId} {f : Nat → Int32} (he : ws[k]? = some (a, .inl (cA, n, .inl f))) (g : Nat → Int32) (hg : ∀ j, j < n → f j = g j) : va_P D cl (ws.set k (a, .inl (cA, n, .inl g))) H := by
  intro i q hq
  by_cases hi : i = k
  · subst hi
    have hl : i < ws.length := (List.getElem?_eq_some_iff.mp he).1
    rw [List.getElem?_set_self hl] at hq
    cases hq
    have h1 := hP i _ he
    show H[a]? = some (vp_cell cA (n, .inl g))
    have h2 : H[a]? = some (vp_cell cA (n, .inl f)) := h1
    rw [h2]
    congr 1
    show arrV cA n (fun j => .int (f j)) = arrV cA n (fun j => .int (g j))
    unfold arrV
    congr 1
    apply Array.ext
    · simp
    · intro j h1 h2
      simp at h1
      simp [hg j h1]
  · rw [List.getElem?_set_ne (Ne.symm hi)] at hq
    exact hP i q hq
