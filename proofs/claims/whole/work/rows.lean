section
-- ===== PART A: goes FIRST, ahead of the names: the tables' words, and 'selects' of the private methods out of them =====
/-- a private method of a class that the tables say can be made, by its rows of tables_1 -/
def lw_okq (q : MethodName × Nat) : Prop := (q.1.cls ≠ "java/lang/invoke/MethodHandle" ∧ q.1.cls ≠ "java/lang/invoke/VarHandle") ∧ Cond.instantiable q.1.cls q.2 ∈ tables_1 ∧ Cond.privateMethod q.1 ∈ tables_1 ∧ Cond.instanceMethod q.1 ∈ tables_1
theorem lw_p0 : lw_okq (⟨"java/lang/Throwable", "fillInStackTrace", "(I)Ljava/lang/Throwable;"⟩, 6) := ⟨⟨by decide +kernel, by decide +kernel⟩, List.mem_of_getElem? (i := 165) (by decide +kernel), List.mem_of_getElem? (i := 163) (by decide +kernel), List.mem_of_getElem? (i := 164) (by decide +kernel)⟩
theorem lw_p1 : lw_okq (⟨"HalfJournal", "goUp", "(II)V"⟩, 8) := ⟨⟨by decide +kernel, by decide +kernel⟩, List.mem_of_getElem? (i := 23) (by decide +kernel), List.mem_of_getElem? (i := 447) (by decide +kernel), List.mem_of_getElem? (i := 448) (by decide +kernel)⟩
theorem lw_p2 : lw_okq (⟨"HalfJournal", "readRecords", "()V"⟩, 8) := ⟨⟨by decide +kernel, by decide +kernel⟩, List.mem_of_getElem? (i := 23) (by decide +kernel), List.mem_of_getElem? (i := 451) (by decide +kernel), List.mem_of_getElem? (i := 452) (by decide +kernel)⟩
theorem lw_p3 : lw_okq (⟨"HalfJournal$Records", "clear", "()V"⟩, 6) := ⟨⟨by decide +kernel, by decide +kernel⟩, List.mem_of_getElem? (i := 52) (by decide +kernel), List.mem_of_getElem? (i := 455) (by decide +kernel), List.mem_of_getElem? (i := 456) (by decide +kernel)⟩
theorem lw_p4 : lw_okq (⟨"HalfJournal", "lengthOfRecordAt", "(I)I"⟩, 8) := ⟨⟨by decide +kernel, by decide +kernel⟩, List.mem_of_getElem? (i := 23) (by decide +kernel), List.mem_of_getElem? (i := 459) (by decide +kernel), List.mem_of_getElem? (i := 460) (by decide +kernel)⟩
theorem lw_p5 : lw_okq (⟨"HalfJournal$Records", "add", "(I)V"⟩, 6) := ⟨⟨by decide +kernel, by decide +kernel⟩, List.mem_of_getElem? (i := 52) (by decide +kernel), List.mem_of_getElem? (i := 475) (by decide +kernel), List.mem_of_getElem? (i := 476) (by decide +kernel)⟩
theorem lw_p6 : lw_okq (⟨"HalfJournal$Records", "has", "(I)Z"⟩, 6) := ⟨⟨by decide +kernel, by decide +kernel⟩, List.mem_of_getElem? (i := 52) (by decide +kernel), List.mem_of_getElem? (i := 492) (by decide +kernel), List.mem_of_getElem? (i := 493) (by decide +kernel)⟩
theorem lw_p7 : lw_okq (⟨"HalfJournal$Records", "setMark", "(IZ)V"⟩, 6) := ⟨⟨by decide +kernel, by decide +kernel⟩, List.mem_of_getElem? (i := 52) (by decide +kernel), List.mem_of_getElem? (i := 496) (by decide +kernel), List.mem_of_getElem? (i := 497) (by decide +kernel)⟩
theorem lw_p8 : lw_okq (⟨"HalfJournal", "leave", "(I)V"⟩, 8) := ⟨⟨by decide +kernel, by decide +kernel⟩, List.mem_of_getElem? (i := 23) (by decide +kernel), List.mem_of_getElem? (i := 509) (by decide +kernel), List.mem_of_getElem? (i := 510) (by decide +kernel)⟩
theorem lw_p9 : lw_okq (⟨"HalfJournal", "generationOfHead", "(I)I"⟩, 8) := ⟨⟨by decide +kernel, by decide +kernel⟩, List.mem_of_getElem? (i := 23) (by decide +kernel), List.mem_of_getElem? (i := 517) (by decide +kernel), List.mem_of_getElem? (i := 518) (by decide +kernel)⟩
theorem lw_p10 : lw_okq (⟨"HalfJournal", "halfOfHead", "(I)I"⟩, 8) := ⟨⟨by decide +kernel, by decide +kernel⟩, List.mem_of_getElem? (i := 23) (by decide +kernel), List.mem_of_getElem? (i := 522) (by decide +kernel), List.mem_of_getElem? (i := 523) (by decide +kernel)⟩
theorem lw_p11 : lw_okq (⟨"HalfJournal", "planTape", "(II)V"⟩, 8) := ⟨⟨by decide +kernel, by decide +kernel⟩, List.mem_of_getElem? (i := 23) (by decide +kernel), List.mem_of_getElem? (i := 601) (by decide +kernel), List.mem_of_getElem? (i := 602) (by decide +kernel)⟩
theorem lw_p12 : lw_okq (⟨"HalfJournal", "writeLastFirst", "(II)Z"⟩, 8) := ⟨⟨by decide +kernel, by decide +kernel⟩, List.mem_of_getElem? (i := 23) (by decide +kernel), List.mem_of_getElem? (i := 609) (by decide +kernel), List.mem_of_getElem? (i := 610) (by decide +kernel)⟩
theorem lw_p13 : lw_okq (⟨"HalfJournal$Disk", "write", "(I[BI)Z"⟩, 3) := ⟨⟨by decide +kernel, by decide +kernel⟩, List.mem_of_getElem? (i := 31) (by decide +kernel), List.mem_of_getElem? (i := 613) (by decide +kernel), List.mem_of_getElem? (i := 614) (by decide +kernel)⟩
theorem lw_p14 : lw_okq (⟨"HalfJournal", "planUnmarked", "()I"⟩, 8) := ⟨⟨by decide +kernel, by decide +kernel⟩, List.mem_of_getElem? (i := 23) (by decide +kernel), List.mem_of_getElem? (i := 627) (by decide +kernel), List.mem_of_getElem? (i := 628) (by decide +kernel)⟩
theorem lw_p15 : lw_okq (⟨"HalfJournal", "writeFirstFirst", "(II)Z"⟩, 8) := ⟨⟨by decide +kernel, by decide +kernel⟩, List.mem_of_getElem? (i := 23) (by decide +kernel), List.mem_of_getElem? (i := 631) (by decide +kernel), List.mem_of_getElem? (i := 632) (by decide +kernel)⟩
def lw_privs_1 : List (MethodName × Nat) := [(⟨"java/lang/Throwable", "fillInStackTrace", "(I)Ljava/lang/Throwable;"⟩, 6), (⟨"HalfJournal", "goUp", "(II)V"⟩, 8), (⟨"HalfJournal", "readRecords", "()V"⟩, 8), (⟨"HalfJournal$Records", "clear", "()V"⟩, 6), (⟨"HalfJournal", "lengthOfRecordAt", "(I)I"⟩, 8), (⟨"HalfJournal$Records", "add", "(I)V"⟩, 6), (⟨"HalfJournal$Records", "has", "(I)Z"⟩, 6), (⟨"HalfJournal$Records", "setMark", "(IZ)V"⟩, 6), (⟨"HalfJournal", "leave", "(I)V"⟩, 8), (⟨"HalfJournal", "generationOfHead", "(I)I"⟩, 8), (⟨"HalfJournal", "halfOfHead", "(I)I"⟩, 8), (⟨"HalfJournal", "planTape", "(II)V"⟩, 8), (⟨"HalfJournal", "writeLastFirst", "(II)Z"⟩, 8), (⟨"HalfJournal$Disk", "write", "(I[BI)Z"⟩, 3), (⟨"HalfJournal", "planUnmarked", "()I"⟩, 8), (⟨"HalfJournal", "writeFirstFirst", "(II)Z"⟩, 8)]
theorem lw_r1 : ∀ q ∈ lw_privs_1, lw_okq q := List.forall_mem_cons.mpr ⟨lw_p0, List.forall_mem_cons.mpr ⟨lw_p1, List.forall_mem_cons.mpr ⟨lw_p2, List.forall_mem_cons.mpr ⟨lw_p3, List.forall_mem_cons.mpr ⟨lw_p4, List.forall_mem_cons.mpr ⟨lw_p5, List.forall_mem_cons.mpr ⟨lw_p6, List.forall_mem_cons.mpr ⟨lw_p7, List.forall_mem_cons.mpr ⟨lw_p8, List.forall_mem_cons.mpr ⟨lw_p9, List.forall_mem_cons.mpr ⟨lw_p10, List.forall_mem_cons.mpr ⟨lw_p11, List.forall_mem_cons.mpr ⟨lw_p12, List.forall_mem_cons.mpr ⟨lw_p13, List.forall_mem_cons.mpr ⟨lw_p14, List.forall_mem_cons.mpr ⟨lw_p15, fun _ h => absurd h List.not_mem_nil⟩⟩⟩⟩⟩⟩⟩⟩⟩⟩⟩⟩⟩⟩⟩⟩
theorem lw_p16 : lw_okq (⟨"HalfJournal", "writeHead", "(II)Z"⟩, 8) := ⟨⟨by decide +kernel, by decide +kernel⟩, List.mem_of_getElem? (i := 23) (by decide +kernel), List.mem_of_getElem? (i := 635) (by decide +kernel), List.mem_of_getElem? (i := 636) (by decide +kernel)⟩
theorem lw_p17 : lw_okq (⟨"HalfJournalModel", "unmark", "()V"⟩, 15) := ⟨⟨by decide +kernel, by decide +kernel⟩, List.mem_of_getElem? (i := 639) (by decide +kernel), List.mem_of_getElem? (i := 700) (by decide +kernel), List.mem_of_getElem? (i := 701) (by decide +kernel)⟩
theorem lw_p18 : lw_okq (⟨"HalfJournalModel", "isHead", "(I)Z"⟩, 15) := ⟨⟨by decide +kernel, by decide +kernel⟩, List.mem_of_getElem? (i := 639) (by decide +kernel), List.mem_of_getElem? (i := 704) (by decide +kernel), List.mem_of_getElem? (i := 705) (by decide +kernel)⟩
theorem lw_p19 : lw_okq (⟨"HalfJournalModel", "leave", "()V"⟩, 15) := ⟨⟨by decide +kernel, by decide +kernel⟩, List.mem_of_getElem? (i := 639) (by decide +kernel), List.mem_of_getElem? (i := 715) (by decide +kernel), List.mem_of_getElem? (i := 716) (by decide +kernel)⟩
theorem lw_p20 : lw_okq (⟨"HalfJournalModel", "findRecords", "()V"⟩, 15) := ⟨⟨by decide +kernel, by decide +kernel⟩, List.mem_of_getElem? (i := 639) (by decide +kernel), List.mem_of_getElem? (i := 719) (by decide +kernel), List.mem_of_getElem? (i := 720) (by decide +kernel)⟩
theorem lw_p21 : lw_okq (⟨"HalfJournalModel", "recordAt", "(I)I"⟩, 15) := ⟨⟨by decide +kernel, by decide +kernel⟩, List.mem_of_getElem? (i := 639) (by decide +kernel), List.mem_of_getElem? (i := 723) (by decide +kernel), List.mem_of_getElem? (i := 724) (by decide +kernel)⟩
theorem lw_p22 : lw_okq (⟨"HalfJournalModel", "layHead", "(II)V"⟩, 15) := ⟨⟨by decide +kernel, by decide +kernel⟩, List.mem_of_getElem? (i := 639) (by decide +kernel), List.mem_of_getElem? (i := 737) (by decide +kernel), List.mem_of_getElem? (i := 738) (by decide +kernel)⟩
theorem lw_p23 : lw_okq (⟨"HalfJournalModel", "write", "(I[BI)Z"⟩, 15) := ⟨⟨by decide +kernel, by decide +kernel⟩, List.mem_of_getElem? (i := 639) (by decide +kernel), List.mem_of_getElem? (i := 760) (by decide +kernel), List.mem_of_getElem? (i := 761) (by decide +kernel)⟩
theorem lw_p24 : lw_okq (⟨"HalfJournalModel", "down", "()V"⟩, 15) := ⟨⟨by decide +kernel, by decide +kernel⟩, List.mem_of_getElem? (i := 639) (by decide +kernel), List.mem_of_getElem? (i := 764) (by decide +kernel), List.mem_of_getElem? (i := 765) (by decide +kernel)⟩
theorem lw_p25 : lw_okq (⟨"HalfJournalModel", "lengthOf", "(I)I"⟩, 15) := ⟨⟨by decide +kernel, by decide +kernel⟩, List.mem_of_getElem? (i := 639) (by decide +kernel), List.mem_of_getElem? (i := 777) (by decide +kernel), List.mem_of_getElem? (i := 778) (by decide +kernel)⟩
def lw_privs_2 : List (MethodName × Nat) := [(⟨"HalfJournal", "writeHead", "(II)Z"⟩, 8), (⟨"HalfJournalModel", "unmark", "()V"⟩, 15), (⟨"HalfJournalModel", "isHead", "(I)Z"⟩, 15), (⟨"HalfJournalModel", "leave", "()V"⟩, 15), (⟨"HalfJournalModel", "findRecords", "()V"⟩, 15), (⟨"HalfJournalModel", "recordAt", "(I)I"⟩, 15), (⟨"HalfJournalModel", "layHead", "(II)V"⟩, 15), (⟨"HalfJournalModel", "write", "(I[BI)Z"⟩, 15), (⟨"HalfJournalModel", "down", "()V"⟩, 15), (⟨"HalfJournalModel", "lengthOf", "(I)I"⟩, 15)]
theorem lw_r2 : ∀ q ∈ lw_privs_2, lw_okq q := List.forall_mem_cons.mpr ⟨lw_p16, List.forall_mem_cons.mpr ⟨lw_p17, List.forall_mem_cons.mpr ⟨lw_p18, List.forall_mem_cons.mpr ⟨lw_p19, List.forall_mem_cons.mpr ⟨lw_p20, List.forall_mem_cons.mpr ⟨lw_p21, List.forall_mem_cons.mpr ⟨lw_p22, List.forall_mem_cons.mpr ⟨lw_p23, List.forall_mem_cons.mpr ⟨lw_p24, List.forall_mem_cons.mpr ⟨lw_p25, fun _ h => absurd h List.not_mem_nil⟩⟩⟩⟩⟩⟩⟩⟩⟩⟩
def lw_privs : List (MethodName × Nat) := lw_privs_1 ++ (lw_privs_2)
def lw_tbl : List Cond := k2_sels lw_privs ++ tables_1
theorem lw_privs_ok : ∀ q ∈ lw_privs, lw_okq q := by
  show ∀ q ∈ lw_privs_1 ++ (lw_privs_2), lw_okq q
  exact List.forall_mem_append.mpr ⟨lw_r1, lw_r2⟩

/-- the tables' words that every state of the run keeps; those of nest mates -/
def hj_isNest : Cond → Bool
  | .fieldLinkNest _ _ _ _ _ _ => true
  | .methodLinkNest _ _ _ _ => true
  | _ => false
def hj_tbl : List Cond := lw_tbl.filter goodWord
def hj_nest : List Cond := lw_tbl.filter hj_isNest
theorem hj_tbl_good : ∀ w ∈ hj_tbl, (w.onTables && w.keeps) = true ∨ ∃ ty, w = .arrayClass ty := fun w h => good_of_word (List.mem_filter.mp h).2
theorem hj_gC {y : MethodName} {cc : ByteArray} {n : Nat} {r : Option FieldType} (m4 : Cond.code y cc n r ∈ hj_tbl) : GoodIn hj_tbl (Cond.code y cc n r :: hj_tbl) := fun w h => by
  rcases List.mem_cons.mp h with h | h
  · rw [h]; exact ⟨m4, hj_tbl_good _ m4⟩
  · exact ⟨h, hj_tbl_good _ h⟩
theorem hj_gS {own : String} {i : Nat} {y : MethodName} {cc : ByteArray} {n : Nat} {r : Option FieldType} (m1 : Cond.methodLink own i y ∈ hj_tbl) (m2 : Cond.static y ∈ hj_tbl) (m3 : Cond.initialized own ∈ hj_tbl) (m4 : Cond.code y cc n r ∈ hj_tbl) : GoodIn hj_tbl (wsS own i y (Cond.code y cc n r :: hj_tbl)) := fun w h => by
  rcases List.mem_append.mp h with h | h
  · rcases List.mem_cons.mp h with h | h
    · rw [h]; exact ⟨m1, hj_tbl_good _ m1⟩
    · rcases List.mem_cons.mp h with h | h
      · rw [h]; exact ⟨m2, hj_tbl_good _ m2⟩
      · rcases List.mem_cons.mp h with h | h
        · rw [h]; exact ⟨m3, hj_tbl_good _ m3⟩
        · cases h
  · exact hj_gC m4 w h
theorem hj_gA {own : String} {i : Nat} {y : MethodName} {cc : ByteArray} {n : Nat} {r : Option FieldType} (m1 : Cond.methodLink own i y ∈ hj_tbl) (m2 : Cond.static y ∈ hj_tbl) (m3 : Cond.initialized y.cls ∈ hj_tbl) (m4 : Cond.code y cc n r ∈ hj_tbl) : GoodIn hj_tbl (va_wsS own i y (Cond.code y cc n r :: hj_tbl)) := fun w h => by
  rcases List.mem_append.mp h with h | h
  · rcases List.mem_cons.mp h with h | h
    · rw [h]; exact ⟨m1, hj_tbl_good _ m1⟩
    · rcases List.mem_cons.mp h with h | h
      · rw [h]; exact ⟨m2, hj_tbl_good _ m2⟩
      · rcases List.mem_cons.mp h with h | h
        · rw [h]; exact ⟨m3, hj_tbl_good _ m3⟩
        · cases h
  · exact hj_gC m4 w h
theorem hj_gV {own C : String} {i : Nat} {y : MethodName} {cc : ByteArray} {n : Nat} {r : Option FieldType} (m1 : Cond.methodLink own i y ∈ hj_tbl) (m2 : Cond.instanceMethod y ∈ hj_tbl) (m3 : Cond.selects C y y ∈ hj_tbl) (m5 : Cond.initialized C ∈ hj_tbl) (m4 : Cond.code y cc n r ∈ hj_tbl) : GoodIn hj_tbl (wsV own i C y (Cond.code y cc n r :: hj_tbl)) := fun w h => by
  rcases List.mem_append.mp h with h | h
  · rcases List.mem_cons.mp h with h | h
    · rw [h]; exact ⟨m1, hj_tbl_good _ m1⟩
    · rcases List.mem_cons.mp h with h | h
      · rw [h]; exact ⟨m2, hj_tbl_good _ m2⟩
      · rcases List.mem_cons.mp h with h | h
        · rw [h]; exact ⟨m3, hj_tbl_good _ m3⟩
        · rcases List.mem_cons.mp h with h | h
          · rw [h]; exact ⟨m5, hj_tbl_good _ m5⟩
          · cases h
  · exact hj_gC m4 w h
end
section
def F_D : u_T := fun k => match k with
  | 0 => ("HalfJournal$Disk", "bytes", "[B", true)
  | 1 => ("HalfJournal$Disk", "due", "I", false)
  | _ => ("HalfJournal$Disk", "written", "I", false)
def t_D : Nat → FieldType := fun k => match k with
  | 0 => .array .byte
  | 1 => .int
  | _ => .int
theorem n_D : ∀ a, a < 3 → ∀ b, b < 3 → a ≠ b → (F_D a).2.1 ≠ (F_D b).2.1 := by decide +kernel
theorem t_D_ok : ∀ k, k < 3 → parseFieldDescriptor (F_D k).2.2.1 = some (t_D k) := by decide +kernel
def F_R : u_T := fun k => match k with
  | 0 => ("HalfJournal$Records", "starts", "[I", true)
  | 1 => ("HalfJournal$Records", "lengths", "[I", true)
  | 2 => ("HalfJournal$Records", "marks", "[Z", true)
  | 3 => ("HalfJournal$Records", "count", "I", false)
  | 4 => ("HalfJournal$Records", "used", "I", false)
  | _ => ("HalfJournal$Records", "marked", "I", false)
def t_R : Nat → FieldType := fun k => match k with
  | 0 => .array .int
  | 1 => .array .int
  | 2 => .array .boolean
  | 3 => .int
  | 4 => .int
  | _ => .int
theorem n_R : ∀ a, a < 6 → ∀ b, b < 6 → a ≠ b → (F_R a).2.1 ≠ (F_R b).2.1 := by decide +kernel
theorem t_R_ok : ∀ k, k < 6 → parseFieldDescriptor (F_R k).2.2.1 = some (t_R k) := by decide +kernel
def F_J : u_T := fun k => match k with
  | 0 => ("HalfJournal", "disk", "LHalfJournal$Disk;", true)
  | 1 => ("HalfJournal", "records", "LHalfJournal$Records;", true)
  | 2 => ("HalfJournal", "tape", "[B", true)
  | 3 => ("HalfJournal", "plan", "[B", true)
  | 4 => ("HalfJournal", "taped", "I", false)
  | 5 => ("HalfJournal", "state", "I", false)
  | 6 => ("HalfJournal", "generation", "I", false)
  | _ => ("HalfJournal", "half", "I", false)
def t_J : Nat → FieldType := fun k => match k with
  | 0 => .object "HalfJournal$Disk"
  | 1 => .object "HalfJournal$Records"
  | 2 => .array .byte
  | 3 => .array .byte
  | 4 => .int
  | 5 => .int
  | 6 => .int
  | _ => .int
theorem n_J : ∀ a, a < 8 → ∀ b, b < 8 → a ≠ b → (F_J a).2.1 ≠ (F_J b).2.1 := by decide +kernel
theorem t_J_ok : ∀ k, k < 8 → parseFieldDescriptor (F_J k).2.2.1 = some (t_J k) := by decide +kernel
def F_M : u_T := fun k => match k with
  | 0 => ("HalfJournalModel", "thrown", "I", false)
  | 1 => ("HalfJournalModel", "disk", "[B", true)
  | 2 => ("HalfJournalModel", "state", "I", false)
  | 3 => ("HalfJournalModel", "generation", "I", false)
  | 4 => ("HalfJournalModel", "half", "I", false)
  | 5 => ("HalfJournalModel", "used", "I", false)
  | 6 => ("HalfJournalModel", "many", "I", false)
  | 7 => ("HalfJournalModel", "begins", "[I", true)
  | 8 => ("HalfJournalModel", "marked", "[Z", true)
  | 9 => ("HalfJournalModel", "tape", "[B", true)
  | 10 => ("HalfJournalModel", "onTape", "I", false)
  | 11 => ("HalfJournalModel", "due", "I", false)
  | 12 => ("HalfJournalModel", "written", "I", false)
  | 13 => ("HalfJournalModel", "next", "[B", true)
  | _ => ("HalfJournalModel", "head", "[B", true)
def t_M : Nat → FieldType := fun k => match k with
  | 0 => .int
  | 1 => .array .byte
  | 2 => .int
  | 3 => .int
  | 4 => .int
  | 5 => .int
  | 6 => .int
  | 7 => .array .int
  | 8 => .array .boolean
  | 9 => .array .byte
  | 10 => .int
  | 11 => .int
  | 12 => .int
  | 13 => .array .byte
  | _ => .array .byte
theorem n_M : ∀ a, a < 15 → ∀ b, b < 15 → a ≠ b → (F_M a).2.1 ≠ (F_M b).2.1 := by decide +kernel
theorem t_M_ok : ∀ k, k < 15 → parseFieldDescriptor (F_M k).2.2.1 = some (t_M k) := by decide +kernel
abbrev vwCl : List vw_C := [("HalfJournal$Disk", F_D, 3), ("HalfJournal$Records", F_R, 6), ("HalfJournal", F_J, 8), ("HalfJournalModel", F_M, 15)]
abbrev b_J_init : ByteArray := prog_1_method_1_code
abbrev y_J_init : MethodName := { cls := "HalfJournal", name := "<init>", desc := "()V" }
abbrev b_J_format : ByteArray := prog_1_method_2_code
abbrev y_J_format : MethodName := { cls := "HalfJournal", name := "format", desc := "()V" }
abbrev b_J_give : ByteArray := prog_1_method_3_code
abbrev y_J_give : MethodName := { cls := "HalfJournal", name := "give", desc := "(JI)Z" }
abbrev b_J_wipe : ByteArray := prog_1_method_4_code
abbrev y_J_wipe : MethodName := { cls := "HalfJournal", name := "wipe", desc := "()V" }
abbrev b_J_append : ByteArray := prog_1_method_5_code
abbrev y_J_append : MethodName := { cls := "HalfJournal", name := "append", desc := "()I" }
abbrev b_J_mark : ByteArray := prog_1_method_6_code
abbrev y_J_mark : MethodName := { cls := "HalfJournal", name := "mark", desc := "(IZ)Z" }
abbrev b_J_compact : ByteArray := prog_1_method_7_code
abbrev y_J_compact : MethodName := { cls := "HalfJournal", name := "compact", desc := "()I" }
abbrev b_J_crashIn : ByteArray := prog_1_method_8_code
abbrev y_J_crashIn : MethodName := { cls := "HalfJournal", name := "crashIn", desc := "(I)Z" }
abbrev b_J_crash : ByteArray := prog_1_method_9_code
abbrev y_J_crash : MethodName := { cls := "HalfJournal", name := "crash", desc := "()V" }
abbrev b_J_recover : ByteArray := prog_1_method_10_code
abbrev y_J_recover : MethodName := { cls := "HalfJournal", name := "recover", desc := "()I" }
abbrev b_J_spoil : ByteArray := prog_1_method_11_code
abbrev y_J_spoil : MethodName := { cls := "HalfJournal", name := "spoil", desc := "(III)Z" }
abbrev b_J_length : ByteArray := prog_1_method_12_code
abbrev y_J_length : MethodName := { cls := "HalfJournal", name := "length", desc := "(I)I" }
abbrev b_J_record : ByteArray := prog_1_method_13_code
abbrev y_J_record : MethodName := { cls := "HalfJournal", name := "record", desc := "(II)J" }
abbrev b_J_block : ByteArray := prog_1_method_14_code
abbrev y_J_block : MethodName := { cls := "HalfJournal", name := "block", desc := "(II)J" }
abbrev b_J_look : ByteArray := prog_1_method_15_code
abbrev y_J_look : MethodName := { cls := "HalfJournal", name := "look", desc := "(I)I" }
abbrev b_J_leave : ByteArray := prog_1_method_16_code
abbrev y_J_leave : MethodName := { cls := "HalfJournal", name := "leave", desc := "(I)V" }
abbrev b_J_goUp : ByteArray := prog_1_method_17_code
abbrev y_J_goUp : MethodName := { cls := "HalfJournal", name := "goUp", desc := "(II)V" }
abbrev b_J_readRecords : ByteArray := prog_1_method_18_code
abbrev y_J_readRecords : MethodName := { cls := "HalfJournal", name := "readRecords", desc := "()V" }
abbrev b_J_lengthOfRecordAt : ByteArray := prog_1_method_19_code
abbrev y_J_lengthOfRecordAt : MethodName := { cls := "HalfJournal", name := "lengthOfRecordAt", desc := "(I)I" }
abbrev b_J_generationOfHead : ByteArray := prog_1_method_20_code
abbrev y_J_generationOfHead : MethodName := { cls := "HalfJournal", name := "generationOfHead", desc := "(I)I" }
abbrev b_J_halfOfHead : ByteArray := prog_1_method_21_code
abbrev y_J_halfOfHead : MethodName := { cls := "HalfJournal", name := "halfOfHead", desc := "(I)I" }
abbrev b_J_planTape : ByteArray := prog_1_method_22_code
abbrev y_J_planTape : MethodName := { cls := "HalfJournal", name := "planTape", desc := "(II)V" }
abbrev b_J_planUnmarked : ByteArray := prog_1_method_23_code
abbrev y_J_planUnmarked : MethodName := { cls := "HalfJournal", name := "planUnmarked", desc := "()I" }
abbrev b_J_writeLastFirst : ByteArray := prog_1_method_24_code
abbrev y_J_writeLastFirst : MethodName := { cls := "HalfJournal", name := "writeLastFirst", desc := "(II)Z" }
abbrev b_J_writeFirstFirst : ByteArray := prog_1_method_25_code
abbrev y_J_writeFirstFirst : MethodName := { cls := "HalfJournal", name := "writeFirstFirst", desc := "(II)Z" }
abbrev b_J_writeHead : ByteArray := prog_1_method_26_code
abbrev y_J_writeHead : MethodName := { cls := "HalfJournal", name := "writeHead", desc := "(II)Z" }
abbrev b_J_putHead : ByteArray := prog_1_method_27_code
abbrev y_J_putHead : MethodName := { cls := "HalfJournal", name := "putHead", desc := "([BIII)V" }
abbrev b_J_headBegin : ByteArray := prog_1_method_28_code
abbrev y_J_headBegin : MethodName := { cls := "HalfJournal", name := "headBegin", desc := "(I)I" }
abbrev b_J_isBlock : ByteArray := prog_1_method_29_code
abbrev y_J_isBlock : MethodName := { cls := "HalfJournal", name := "isBlock", desc := "(I)Z" }
abbrev b_J_firstBlockOf : ByteArray := prog_1_method_30_code
abbrev y_J_firstBlockOf : MethodName := { cls := "HalfJournal", name := "firstBlockOf", desc := "(I)I" }
abbrev b_J_firstByteOf : ByteArray := prog_1_method_31_code
abbrev y_J_firstByteOf : MethodName := { cls := "HalfJournal", name := "firstByteOf", desc := "(I)I" }
abbrev b_J_lastBlockOf : ByteArray := prog_1_method_32_code
abbrev y_J_lastBlockOf : MethodName := { cls := "HalfJournal", name := "lastBlockOf", desc := "(I)I" }
abbrev b_J_sizeOf : ByteArray := prog_1_method_33_code
abbrev y_J_sizeOf : MethodName := { cls := "HalfJournal", name := "sizeOf", desc := "(I)I" }
abbrev b_J_hasBytes : ByteArray := prog_1_method_34_code
abbrev y_J_hasBytes : MethodName := { cls := "HalfJournal", name := "hasBytes", desc := "([BII)Z" }
abbrev b_J_copyBytes : ByteArray := prog_1_method_35_code
abbrev y_J_copyBytes : MethodName := { cls := "HalfJournal", name := "copyBytes", desc := "([BI[BII)V" }
abbrev b_J_clearBytes : ByteArray := prog_1_method_36_code
abbrev y_J_clearBytes : MethodName := { cls := "HalfJournal", name := "clearBytes", desc := "([BII)V" }
abbrev b_J_checkOf : ByteArray := prog_1_method_37_code
abbrev y_J_checkOf : MethodName := { cls := "HalfJournal", name := "checkOf", desc := "([BII)I" }
abbrev b_J_number : ByteArray := prog_1_method_38_code
abbrev y_J_number : MethodName := { cls := "HalfJournal", name := "number", desc := "([BII)I" }
abbrev b_J_putNumber : ByteArray := prog_1_method_39_code
abbrev y_J_putNumber : MethodName := { cls := "HalfJournal", name := "putNumber", desc := "([BIII)V" }
abbrev b_J_word : ByteArray := prog_1_method_40_code
abbrev y_J_word : MethodName := { cls := "HalfJournal", name := "word", desc := "([BII)J" }
abbrev b_M_init : ByteArray := prog_5_method_1_code
abbrev y_M_init : MethodName := { cls := "HalfJournalModel", name := "<init>", desc := "()V" }
abbrev b_M_thrown : ByteArray := prog_5_method_2_code
abbrev y_M_thrown : MethodName := { cls := "HalfJournalModel", name := "thrown", desc := "()I" }
abbrev b_M_checkOf : ByteArray := prog_5_method_3_code
abbrev y_M_checkOf : MethodName := { cls := "HalfJournalModel", name := "checkOf", desc := "([BII)I" }
abbrev b_M_four : ByteArray := prog_5_method_4_code
abbrev y_M_four : MethodName := { cls := "HalfJournalModel", name := "four", desc := "([BI)I" }
abbrev b_M_putFour : ByteArray := prog_5_method_5_code
abbrev y_M_putFour : MethodName := { cls := "HalfJournalModel", name := "putFour", desc := "([BII)V" }
abbrev b_M_begin : ByteArray := prog_5_method_6_code
abbrev y_M_begin : MethodName := { cls := "HalfJournalModel", name := "begin", desc := "(I)I" }
abbrev b_M_isHead : ByteArray := prog_5_method_7_code
abbrev y_M_isHead : MethodName := { cls := "HalfJournalModel", name := "isHead", desc := "(I)Z" }
abbrev b_M_sizeOf : ByteArray := prog_5_method_8_code
abbrev y_M_sizeOf : MethodName := { cls := "HalfJournalModel", name := "sizeOf", desc := "(I)I" }
abbrev b_M_recordAt : ByteArray := prog_5_method_9_code
abbrev y_M_recordAt : MethodName := { cls := "HalfJournalModel", name := "recordAt", desc := "(I)I" }
abbrev b_M_findRecords : ByteArray := prog_5_method_10_code
abbrev y_M_findRecords : MethodName := { cls := "HalfJournalModel", name := "findRecords", desc := "()V" }
abbrev b_M_down : ByteArray := prog_5_method_11_code
abbrev y_M_down : MethodName := { cls := "HalfJournalModel", name := "down", desc := "()V" }
abbrev b_M_leave : ByteArray := prog_5_method_12_code
abbrev y_M_leave : MethodName := { cls := "HalfJournalModel", name := "leave", desc := "()V" }
abbrev b_M_unmark : ByteArray := prog_5_method_13_code
abbrev y_M_unmark : MethodName := { cls := "HalfJournalModel", name := "unmark", desc := "()V" }
abbrev b_M_recover : ByteArray := prog_5_method_14_code
abbrev y_M_recover : MethodName := { cls := "HalfJournalModel", name := "recover", desc := "()I" }
abbrev b_M_format : ByteArray := prog_5_method_15_code
abbrev y_M_format : MethodName := { cls := "HalfJournalModel", name := "format", desc := "()V" }
abbrev b_M_layHead : ByteArray := prog_5_method_16_code
abbrev y_M_layHead : MethodName := { cls := "HalfJournalModel", name := "layHead", desc := "(II)V" }
abbrev b_M_write : ByteArray := prog_5_method_17_code
abbrev y_M_write : MethodName := { cls := "HalfJournalModel", name := "write", desc := "(I[BI)Z" }
abbrev b_M_give : ByteArray := prog_5_method_18_code
abbrev y_M_give : MethodName := { cls := "HalfJournalModel", name := "give", desc := "(JI)Z" }
abbrev b_M_wipe : ByteArray := prog_5_method_19_code
abbrev y_M_wipe : MethodName := { cls := "HalfJournalModel", name := "wipe", desc := "()V" }
abbrev b_M_lastBlock : ByteArray := prog_5_method_20_code
abbrev y_M_lastBlock : MethodName := { cls := "HalfJournalModel", name := "lastBlock", desc := "(I)I" }
abbrev b_M_append : ByteArray := prog_5_method_21_code
abbrev y_M_append : MethodName := { cls := "HalfJournalModel", name := "append", desc := "()I" }
abbrev b_M_mark : ByteArray := prog_5_method_22_code
abbrev y_M_mark : MethodName := { cls := "HalfJournalModel", name := "mark", desc := "(IZ)Z" }
abbrev b_M_lengthOf : ByteArray := prog_5_method_23_code
abbrev y_M_lengthOf : MethodName := { cls := "HalfJournalModel", name := "lengthOf", desc := "(I)I" }
abbrev b_M_compact : ByteArray := prog_5_method_24_code
abbrev y_M_compact : MethodName := { cls := "HalfJournalModel", name := "compact", desc := "()I" }
abbrev b_M_crashIn : ByteArray := prog_5_method_25_code
abbrev y_M_crashIn : MethodName := { cls := "HalfJournalModel", name := "crashIn", desc := "(I)Z" }
abbrev b_M_crash : ByteArray := prog_5_method_26_code
abbrev y_M_crash : MethodName := { cls := "HalfJournalModel", name := "crash", desc := "()V" }
abbrev b_M_spoil : ByteArray := prog_5_method_27_code
abbrev y_M_spoil : MethodName := { cls := "HalfJournalModel", name := "spoil", desc := "(III)Z" }
abbrev b_M_length : ByteArray := prog_5_method_28_code
abbrev y_M_length : MethodName := { cls := "HalfJournalModel", name := "length", desc := "(I)I" }
abbrev b_M_record : ByteArray := prog_5_method_29_code
abbrev y_M_record : MethodName := { cls := "HalfJournalModel", name := "record", desc := "(II)J" }
abbrev b_M_block : ByteArray := prog_5_method_30_code
abbrev y_M_block : MethodName := { cls := "HalfJournalModel", name := "block", desc := "(II)J" }
abbrev b_M_look : ByteArray := prog_5_method_31_code
abbrev y_M_look : MethodName := { cls := "HalfJournalModel", name := "look", desc := "(I)I" }
abbrev b_D_init : ByteArray := prog_2_method_1_code
abbrev y_D_init : MethodName := { cls := "HalfJournal$Disk", name := "<init>", desc := "()V" }
abbrev b_D_write : ByteArray := prog_2_method_2_code
abbrev y_D_write : MethodName := { cls := "HalfJournal$Disk", name := "write", desc := "(I[BI)Z" }
abbrev b_R_init : ByteArray := prog_3_method_1_code
abbrev y_R_init : MethodName := { cls := "HalfJournal$Records", name := "<init>", desc := "()V" }
abbrev b_R_has : ByteArray := prog_3_method_2_code
abbrev y_R_has : MethodName := { cls := "HalfJournal$Records", name := "has", desc := "(I)Z" }
abbrev b_R_clear : ByteArray := prog_3_method_3_code
abbrev y_R_clear : MethodName := { cls := "HalfJournal$Records", name := "clear", desc := "()V" }
abbrev b_R_add : ByteArray := prog_3_method_4_code
abbrev y_R_add : MethodName := { cls := "HalfJournal$Records", name := "add", desc := "(I)V" }
abbrev b_R_setMark : ByteArray := prog_3_method_5_code
abbrev y_R_setMark : MethodName := { cls := "HalfJournal$Records", name := "setMark", desc := "(IZ)V" }
abbrev b_L_append : ByteArray := method_3_code
abbrev y_L_append : MethodName := { cls := "HalfJournalLaw", name := "append", desc := "(LHalfJournal;[J)I" }
abbrev b_L_compact : ByteArray := method_4_code
abbrev y_L_compact : MethodName := { cls := "HalfJournalLaw", name := "compact", desc := "(LHalfJournal;[J)I" }
abbrev b_L_law : ByteArray := code
abbrev y_L_law : MethodName := { cls := "HalfJournalLaw", name := "law", desc := "([I)Z" }
abbrev b_A_fill : ByteArray := prog_21_method_110_code
abbrev y_A_fill : MethodName := { cls := "java/util/Arrays", name := "fill", desc := "([BIIB)V" }
abbrev b_A_rangeCheck : ByteArray := prog_21_method_30_code
abbrev y_A_rangeCheck : MethodName := { cls := "java/util/Arrays", name := "rangeCheck", desc := "(III)V" }
theorem m_0 : (Jvm.Cond.initialized "HalfJournalLaw") ∈ hj_tbl := List.mem_filter.mpr ⟨List.mem_append_right _ (show _ ∈ tables_1 from List.mem_append_left _ (List.mem_of_getElem? (i := 0) rfl)), rfl⟩
theorem m_1 : (Jvm.Cond.initialized "HalfJournal") ∈ hj_tbl := List.mem_filter.mpr ⟨List.mem_append_right _ (show _ ∈ tables_1 from List.mem_append_left _ (List.mem_of_getElem? (i := 1) rfl)), rfl⟩
theorem m_2 : (Jvm.Cond.initialized "HalfJournal$Disk") ∈ hj_tbl := List.mem_filter.mpr ⟨List.mem_append_right _ (show _ ∈ tables_1 from List.mem_append_left _ (List.mem_of_getElem? (i := 2) rfl)), rfl⟩
theorem m_3 : (Jvm.Cond.initialized "HalfJournal$Records") ∈ hj_tbl := List.mem_filter.mpr ⟨List.mem_append_right _ (show _ ∈ tables_1 from List.mem_append_left _ (List.mem_of_getElem? (i := 3) rfl)), rfl⟩
theorem m_4 : (Jvm.Cond.initialized "HalfJournalModel") ∈ hj_tbl := List.mem_filter.mpr ⟨List.mem_append_right _ (show _ ∈ tables_1 from List.mem_append_left _ (List.mem_of_getElem? (i := 4) rfl)), rfl⟩
theorem m_5 : (Jvm.Cond.initialized "java/util/Arrays") ∈ hj_tbl := List.mem_filter.mpr ⟨List.mem_append_right _ (show _ ∈ tables_1 from List.mem_append_left _ (List.mem_of_getElem? (i := 5) rfl)), rfl⟩
theorem m_6 : (Jvm.Cond.initialized "java/lang/Throwable") ∈ hj_tbl := List.mem_filter.mpr ⟨List.mem_append_right _ (show _ ∈ tables_1 from List.mem_append_left _ (List.mem_of_getElem? (i := 6) rfl)), rfl⟩
theorem m_7 : (Jvm.Cond.initialized "java/lang/Exception") ∈ hj_tbl := List.mem_filter.mpr ⟨List.mem_append_right _ (show _ ∈ tables_1 from List.mem_append_left _ (List.mem_of_getElem? (i := 7) rfl)), rfl⟩
theorem m_8 : (Jvm.Cond.initialized "java/lang/RuntimeException") ∈ hj_tbl := List.mem_filter.mpr ⟨List.mem_append_right _ (show _ ∈ tables_1 from List.mem_append_left _ (List.mem_of_getElem? (i := 8) rfl)), rfl⟩
theorem m_9 : (Jvm.Cond.initialized "java/lang/IllegalArgumentException") ∈ hj_tbl := List.mem_filter.mpr ⟨List.mem_append_right _ (show _ ∈ tables_1 from List.mem_append_left _ (List.mem_of_getElem? (i := 9) rfl)), rfl⟩
theorem m_10 : (Jvm.Cond.initialized "java/lang/AbstractStringBuilder") ∈ hj_tbl := List.mem_filter.mpr ⟨List.mem_append_right _ (show _ ∈ tables_1 from List.mem_append_left _ (List.mem_of_getElem? (i := 10) rfl)), rfl⟩
theorem m_11 : (Jvm.Cond.initialized "java/lang/StringBuilder") ∈ hj_tbl := List.mem_filter.mpr ⟨List.mem_append_right _ (show _ ∈ tables_1 from List.mem_append_left _ (List.mem_of_getElem? (i := 11) rfl)), rfl⟩
theorem m_12 : (Jvm.Cond.initialized "java/lang/String") ∈ hj_tbl := List.mem_filter.mpr ⟨List.mem_append_right _ (show _ ∈ tables_1 from List.mem_append_left _ (List.mem_of_getElem? (i := 12) rfl)), rfl⟩
theorem m_13 : (Jvm.Cond.initialized "java/lang/StringUTF16") ∈ hj_tbl := List.mem_filter.mpr ⟨List.mem_append_right _ (show _ ∈ tables_1 from List.mem_append_left _ (List.mem_of_getElem? (i := 13) rfl)), rfl⟩
theorem m_14 : (Jvm.Cond.initialized "jdk/internal/util/ArraysSupport") ∈ hj_tbl := List.mem_filter.mpr ⟨List.mem_append_right _ (show _ ∈ tables_1 from List.mem_append_left _ (List.mem_of_getElem? (i := 14) rfl)), rfl⟩
theorem m_15 : (Jvm.Cond.initialized "java/lang/Math") ∈ hj_tbl := List.mem_filter.mpr ⟨List.mem_append_right _ (show _ ∈ tables_1 from List.mem_append_left _ (List.mem_of_getElem? (i := 15) rfl)), rfl⟩
theorem m_16 : (Jvm.Cond.initialized "java/lang/System") ∈ hj_tbl := List.mem_filter.mpr ⟨List.mem_append_right _ (show _ ∈ tables_1 from List.mem_append_left _ (List.mem_of_getElem? (i := 16) rfl)), rfl⟩
theorem m_17 : (Jvm.Cond.initialized "jdk/internal/util/Preconditions") ∈ hj_tbl := List.mem_filter.mpr ⟨List.mem_append_right _ (show _ ∈ tables_1 from List.mem_append_left _ (List.mem_of_getElem? (i := 17) rfl)), rfl⟩
theorem m_18 : (Jvm.Cond.initialized "java/lang/StringLatin1") ∈ hj_tbl := List.mem_filter.mpr ⟨List.mem_append_right _ (show _ ∈ tables_1 from List.mem_append_left _ (List.mem_of_getElem? (i := 18) rfl)), rfl⟩
theorem m_19 : (Jvm.Cond.initialized "java/lang/Integer") ∈ hj_tbl := List.mem_filter.mpr ⟨List.mem_append_right _ (show _ ∈ tables_1 from List.mem_append_left _ (List.mem_of_getElem? (i := 19) rfl)), rfl⟩
theorem m_20 : (Jvm.Cond.initialized "java/lang/IllegalStateException") ∈ hj_tbl := List.mem_filter.mpr ⟨List.mem_append_right _ (show _ ∈ tables_1 from List.mem_append_left _ (List.mem_of_getElem? (i := 20) rfl)), rfl⟩
theorem m_21 : (Jvm.Cond.initialized "java/lang/UnsupportedOperationException") ∈ hj_tbl := List.mem_filter.mpr ⟨List.mem_append_right _ (show _ ∈ tables_1 from List.mem_append_left _ (List.mem_of_getElem? (i := 21) rfl)), rfl⟩
theorem m_22 : (Jvm.Cond.classLink "HalfJournalLaw" (8 : Nat) "HalfJournal") ∈ hj_tbl := List.mem_filter.mpr ⟨List.mem_append_right _ (show _ ∈ tables_1 from List.mem_append_left _ (List.mem_of_getElem? (i := 22) rfl)), rfl⟩
theorem m_23 : (Jvm.Cond.instantiable "HalfJournal" (8 : Nat)) ∈ hj_tbl := List.mem_filter.mpr ⟨List.mem_append_right _ (show _ ∈ tables_1 from List.mem_append_left _ (List.mem_of_getElem? (i := 23) rfl)), rfl⟩
theorem m_24 : (Jvm.Cond.methodLink "HalfJournalLaw" (22 : Nat) ({ cls := "HalfJournal", name := "<init>", desc := "()V" } : Jvm.MethodName)) ∈ hj_tbl := List.mem_filter.mpr ⟨List.mem_append_right _ (show _ ∈ tables_1 from List.mem_append_left _ (List.mem_of_getElem? (i := 24) rfl)), rfl⟩
theorem m_25 : (Jvm.Cond.instanceMethod ({ cls := "HalfJournal", name := "<init>", desc := "()V" } : Jvm.MethodName)) ∈ hj_tbl := List.mem_filter.mpr ⟨List.mem_append_right _ (show _ ∈ tables_1 from List.mem_append_left _ (List.mem_of_getElem? (i := 25) rfl)), rfl⟩
theorem m_26 : (Jvm.Cond.code ({ cls := "HalfJournal", name := "<init>", desc := "()V" } : Jvm.MethodName) prog_1_method_1_code (1 : Nat) (Option.none : Option Jvm.ClassFile.FieldType)) ∈ hj_tbl := List.mem_filter.mpr ⟨List.mem_append_right _ (show _ ∈ tables_1 from List.mem_append_left _ (List.mem_of_getElem? (i := 26) rfl)), rfl⟩
theorem m_27 : (Jvm.Cond.methodLink "HalfJournal" (3 : Nat) ({ cls := "java/lang/Object", name := "<init>", desc := "()V" } : Jvm.MethodName)) ∈ hj_tbl := List.mem_filter.mpr ⟨List.mem_append_right _ (show _ ∈ tables_1 from List.mem_append_left _ (List.mem_of_getElem? (i := 27) rfl)), rfl⟩
theorem m_28 : (Jvm.Cond.instanceMethod ({ cls := "java/lang/Object", name := "<init>", desc := "()V" } : Jvm.MethodName)) ∈ hj_tbl := List.mem_filter.mpr ⟨List.mem_append_right _ (show _ ∈ tables_1 from List.mem_append_left _ (List.mem_of_getElem? (i := 28) rfl)), rfl⟩
theorem m_29 : (Jvm.Cond.code ({ cls := "java/lang/Object", name := "<init>", desc := "()V" } : Jvm.MethodName) object_method_1_code (1 : Nat) (Option.none : Option Jvm.ClassFile.FieldType)) ∈ hj_tbl := List.mem_filter.mpr ⟨List.mem_append_right _ (show _ ∈ tables_1 from List.mem_append_left _ (List.mem_of_getElem? (i := 29) rfl)), rfl⟩
theorem m_30 : (Jvm.Cond.classLink "HalfJournal" (9 : Nat) "HalfJournal$Disk") ∈ hj_tbl := List.mem_filter.mpr ⟨List.mem_append_right _ (show _ ∈ tables_1 from List.mem_append_left _ (List.mem_of_getElem? (i := 30) rfl)), rfl⟩
theorem m_31 : (Jvm.Cond.instantiable "HalfJournal$Disk" (3 : Nat)) ∈ hj_tbl := List.mem_filter.mpr ⟨List.mem_append_right _ (show _ ∈ tables_1 from List.mem_append_left _ (List.mem_of_getElem? (i := 31) rfl)), rfl⟩
theorem m_32 : (Jvm.Cond.methodLinkNest "HalfJournal" (11 : Nat) ({ cls := "HalfJournal$Disk", name := "<init>", desc := "()V" } : Jvm.MethodName) "HalfJournal") ∈ hj_nest := List.mem_filter.mpr ⟨List.mem_append_right _ (show _ ∈ tables_1 from List.mem_append_left _ (List.mem_of_getElem? (i := 32) rfl)), rfl⟩
theorem m_33 : (Jvm.Cond.instanceMethod ({ cls := "HalfJournal$Disk", name := "<init>", desc := "()V" } : Jvm.MethodName)) ∈ hj_tbl := List.mem_filter.mpr ⟨List.mem_append_right _ (show _ ∈ tables_1 from List.mem_append_left _ (List.mem_of_getElem? (i := 33) rfl)), rfl⟩
theorem m_34 : (Jvm.Cond.code ({ cls := "HalfJournal$Disk", name := "<init>", desc := "()V" } : Jvm.MethodName) prog_2_method_1_code (1 : Nat) (Option.none : Option Jvm.ClassFile.FieldType)) ∈ hj_tbl := List.mem_filter.mpr ⟨List.mem_append_right _ (show _ ∈ tables_1 from List.mem_append_left _ (List.mem_of_getElem? (i := 34) rfl)), rfl⟩
theorem m_35 : (Jvm.Cond.methodLink "HalfJournal$Disk" (3 : Nat) ({ cls := "java/lang/Object", name := "<init>", desc := "()V" } : Jvm.MethodName)) ∈ hj_tbl := List.mem_filter.mpr ⟨List.mem_append_right _ (show _ ∈ tables_1 from List.mem_append_left _ (List.mem_of_getElem? (i := 35) rfl)), rfl⟩
theorem m_36 : (Jvm.Cond.constant "HalfJournal$Disk" (9 : Nat) (32768 : Int32)) ∈ hj_tbl := List.mem_filter.mpr ⟨List.mem_append_right _ (show _ ∈ tables_1 from List.mem_append_left _ (List.mem_of_getElem? (i := 36) rfl)), rfl⟩
theorem m_37 : (Jvm.Cond.fieldLink "HalfJournal$Disk" (10 : Nat) "HalfJournal$Disk" "bytes" "[B") ∈ hj_tbl := List.mem_filter.mpr ⟨List.mem_append_right _ (show _ ∈ tables_1 from List.mem_append_left _ (List.mem_of_getElem? (i := 37) rfl)), rfl⟩
theorem m_38 : (Jvm.Cond.fieldLinkNest "HalfJournal" (43 : Nat) "HalfJournal$Disk" "bytes" "[B" "HalfJournal") ∈ hj_nest := List.mem_filter.mpr ⟨List.mem_append_right _ (show _ ∈ tables_1 from List.mem_append_left _ (List.mem_of_getElem? (i := 38) rfl)), rfl⟩
theorem m_39 : (Jvm.Cond.fieldLink "HalfJournal$Disk" (16 : Nat) "HalfJournal$Disk" "due" "I") ∈ hj_tbl := List.mem_filter.mpr ⟨List.mem_append_right _ (show _ ∈ tables_1 from List.mem_append_left _ (List.mem_of_getElem? (i := 39) rfl)), rfl⟩
theorem m_40 : (Jvm.Cond.fieldLinkNest "HalfJournal" (55 : Nat) "HalfJournal$Disk" "due" "I" "HalfJournal") ∈ hj_nest := List.mem_filter.mpr ⟨List.mem_append_right _ (show _ ∈ tables_1 from List.mem_append_left _ (List.mem_of_getElem? (i := 40) rfl)), rfl⟩
theorem m_41 : (Jvm.Cond.fieldLink "HalfJournal$Disk" (20 : Nat) "HalfJournal$Disk" "written" "I") ∈ hj_tbl := List.mem_filter.mpr ⟨List.mem_append_right _ (show _ ∈ tables_1 from List.mem_append_left _ (List.mem_of_getElem? (i := 41) rfl)), rfl⟩
theorem m_42 : (Jvm.Cond.fieldLinkNest "HalfJournal" (150 : Nat) "HalfJournal$Disk" "written" "I" "HalfJournal") ∈ hj_nest := List.mem_filter.mpr ⟨List.mem_append_right _ (show _ ∈ tables_1 from List.mem_append_left _ (List.mem_of_getElem? (i := 42) rfl)), rfl⟩
theorem m_43 : (Jvm.Cond.laysFinal "HalfJournal$Disk" "HalfJournal$Disk" "bytes" "[B") ∈ hj_tbl := List.mem_filter.mpr ⟨List.mem_append_right _ (show _ ∈ tables_1 from List.mem_append_left _ (List.mem_of_getElem? (i := 43) rfl)), rfl⟩
theorem m_45 : (Jvm.Cond.lays "HalfJournal$Disk" "HalfJournal$Disk" "due" "I") ∈ hj_tbl := List.mem_filter.mpr ⟨List.mem_append_right _ (show _ ∈ tables_1 from List.mem_append_left _ (List.mem_of_getElem? (i := 45) rfl)), rfl⟩
theorem m_47 : (Jvm.Cond.lays "HalfJournal$Disk" "HalfJournal$Disk" "written" "I") ∈ hj_tbl := List.mem_filter.mpr ⟨List.mem_append_right _ (show _ ∈ tables_1 from List.mem_append_left _ (List.mem_of_getElem? (i := 47) rfl)), rfl⟩
theorem m_50 : (Jvm.Cond.arrayClass Jvm.ClassFile.FieldType.byte) ∈ hj_tbl := List.mem_filter.mpr ⟨List.mem_append_right _ (show _ ∈ tables_1 from List.mem_append_left _ (List.mem_of_getElem? (i := 50) rfl)), rfl⟩
theorem m_51 : (Jvm.Cond.classLink "HalfJournal" (16 : Nat) "HalfJournal$Records") ∈ hj_tbl := List.mem_filter.mpr ⟨List.mem_append_right _ (show _ ∈ tables_1 from List.mem_append_left _ (List.mem_of_getElem? (i := 51) rfl)), rfl⟩
theorem m_52 : (Jvm.Cond.instantiable "HalfJournal$Records" (6 : Nat)) ∈ hj_tbl := List.mem_filter.mpr ⟨List.mem_append_right _ (show _ ∈ tables_1 from List.mem_append_left _ (List.mem_of_getElem? (i := 52) rfl)), rfl⟩
theorem m_53 : (Jvm.Cond.methodLinkNest "HalfJournal" (18 : Nat) ({ cls := "HalfJournal$Records", name := "<init>", desc := "()V" } : Jvm.MethodName) "HalfJournal") ∈ hj_nest := List.mem_filter.mpr ⟨List.mem_append_right _ (show _ ∈ tables_1 from List.mem_append_left _ (List.mem_of_getElem? (i := 53) rfl)), rfl⟩
theorem m_54 : (Jvm.Cond.instanceMethod ({ cls := "HalfJournal$Records", name := "<init>", desc := "()V" } : Jvm.MethodName)) ∈ hj_tbl := List.mem_filter.mpr ⟨List.mem_append_right _ (show _ ∈ tables_1 from List.mem_append_left _ (List.mem_of_getElem? (i := 54) rfl)), rfl⟩
theorem m_55 : (Jvm.Cond.code ({ cls := "HalfJournal$Records", name := "<init>", desc := "()V" } : Jvm.MethodName) prog_3_method_1_code (1 : Nat) (Option.none : Option Jvm.ClassFile.FieldType)) ∈ hj_tbl := List.mem_filter.mpr ⟨List.mem_append_right _ (show _ ∈ tables_1 from List.mem_append_left _ (List.mem_of_getElem? (i := 55) rfl)), rfl⟩
theorem m_56 : (Jvm.Cond.methodLink "HalfJournal$Records" (3 : Nat) ({ cls := "java/lang/Object", name := "<init>", desc := "()V" } : Jvm.MethodName)) ∈ hj_tbl := List.mem_filter.mpr ⟨List.mem_append_right _ (show _ ∈ tables_1 from List.mem_append_left _ (List.mem_of_getElem? (i := 56) rfl)), rfl⟩
theorem m_57 : (Jvm.Cond.fieldLink "HalfJournal$Records" (9 : Nat) "HalfJournal$Records" "starts" "[I") ∈ hj_tbl := List.mem_filter.mpr ⟨List.mem_append_right _ (show _ ∈ tables_1 from List.mem_append_left _ (List.mem_of_getElem? (i := 57) rfl)), rfl⟩
theorem m_58 : (Jvm.Cond.fieldLinkNest "HalfJournal" (143 : Nat) "HalfJournal$Records" "starts" "[I" "HalfJournal") ∈ hj_nest := List.mem_filter.mpr ⟨List.mem_append_right _ (show _ ∈ tables_1 from List.mem_append_left _ (List.mem_of_getElem? (i := 58) rfl)), rfl⟩
theorem m_59 : (Jvm.Cond.fieldLink "HalfJournal$Records" (15 : Nat) "HalfJournal$Records" "lengths" "[I") ∈ hj_tbl := List.mem_filter.mpr ⟨List.mem_append_right _ (show _ ∈ tables_1 from List.mem_append_left _ (List.mem_of_getElem? (i := 59) rfl)), rfl⟩
theorem m_60 : (Jvm.Cond.fieldLinkNest "HalfJournal" (136 : Nat) "HalfJournal$Records" "lengths" "[I" "HalfJournal") ∈ hj_nest := List.mem_filter.mpr ⟨List.mem_append_right _ (show _ ∈ tables_1 from List.mem_append_left _ (List.mem_of_getElem? (i := 60) rfl)), rfl⟩
theorem m_61 : (Jvm.Cond.fieldLink "HalfJournal$Records" (18 : Nat) "HalfJournal$Records" "marks" "[Z") ∈ hj_tbl := List.mem_filter.mpr ⟨List.mem_append_right _ (show _ ∈ tables_1 from List.mem_append_left _ (List.mem_of_getElem? (i := 61) rfl)), rfl⟩
theorem m_62 : (Jvm.Cond.fieldLinkNest "HalfJournal" (188 : Nat) "HalfJournal$Records" "marks" "[Z" "HalfJournal") ∈ hj_nest := List.mem_filter.mpr ⟨List.mem_append_right _ (show _ ∈ tables_1 from List.mem_append_left _ (List.mem_of_getElem? (i := 62) rfl)), rfl⟩
theorem m_63 : (Jvm.Cond.fieldLink "HalfJournal$Records" (22 : Nat) "HalfJournal$Records" "count" "I") ∈ hj_tbl := List.mem_filter.mpr ⟨List.mem_append_right _ (show _ ∈ tables_1 from List.mem_append_left _ (List.mem_of_getElem? (i := 63) rfl)), rfl⟩
theorem m_64 : (Jvm.Cond.fieldLinkNest "HalfJournal" (103 : Nat) "HalfJournal$Records" "count" "I" "HalfJournal") ∈ hj_nest := List.mem_filter.mpr ⟨List.mem_append_right _ (show _ ∈ tables_1 from List.mem_append_left _ (List.mem_of_getElem? (i := 64) rfl)), rfl⟩
theorem m_65 : (Jvm.Cond.fieldLink "HalfJournal$Records" (26 : Nat) "HalfJournal$Records" "used" "I") ∈ hj_tbl := List.mem_filter.mpr ⟨List.mem_append_right _ (show _ ∈ tables_1 from List.mem_append_left _ (List.mem_of_getElem? (i := 65) rfl)), rfl⟩
theorem m_66 : (Jvm.Cond.fieldLinkNest "HalfJournal" (78 : Nat) "HalfJournal$Records" "used" "I" "HalfJournal") ∈ hj_nest := List.mem_filter.mpr ⟨List.mem_append_right _ (show _ ∈ tables_1 from List.mem_append_left _ (List.mem_of_getElem? (i := 66) rfl)), rfl⟩
theorem m_67 : (Jvm.Cond.fieldLink "HalfJournal$Records" (29 : Nat) "HalfJournal$Records" "marked" "I") ∈ hj_tbl := List.mem_filter.mpr ⟨List.mem_append_right _ (show _ ∈ tables_1 from List.mem_append_left _ (List.mem_of_getElem? (i := 67) rfl)), rfl⟩
theorem m_68 : (Jvm.Cond.fieldLinkNest "HalfJournal" (153 : Nat) "HalfJournal$Records" "marked" "I" "HalfJournal") ∈ hj_nest := List.mem_filter.mpr ⟨List.mem_append_right _ (show _ ∈ tables_1 from List.mem_append_left _ (List.mem_of_getElem? (i := 68) rfl)), rfl⟩
theorem m_69 : (Jvm.Cond.laysFinal "HalfJournal$Records" "HalfJournal$Records" "starts" "[I") ∈ hj_tbl := List.mem_filter.mpr ⟨List.mem_append_right _ (show _ ∈ tables_1 from List.mem_append_left _ (List.mem_of_getElem? (i := 69) rfl)), rfl⟩
theorem m_71 : (Jvm.Cond.laysFinal "HalfJournal$Records" "HalfJournal$Records" "lengths" "[I") ∈ hj_tbl := List.mem_filter.mpr ⟨List.mem_append_right _ (show _ ∈ tables_1 from List.mem_append_left _ (List.mem_of_getElem? (i := 71) rfl)), rfl⟩
theorem m_73 : (Jvm.Cond.laysFinal "HalfJournal$Records" "HalfJournal$Records" "marks" "[Z") ∈ hj_tbl := List.mem_filter.mpr ⟨List.mem_append_right _ (show _ ∈ tables_1 from List.mem_append_left _ (List.mem_of_getElem? (i := 73) rfl)), rfl⟩
theorem m_75 : (Jvm.Cond.lays "HalfJournal$Records" "HalfJournal$Records" "count" "I") ∈ hj_tbl := List.mem_filter.mpr ⟨List.mem_append_right _ (show _ ∈ tables_1 from List.mem_append_left _ (List.mem_of_getElem? (i := 75) rfl)), rfl⟩
theorem m_77 : (Jvm.Cond.lays "HalfJournal$Records" "HalfJournal$Records" "used" "I") ∈ hj_tbl := List.mem_filter.mpr ⟨List.mem_append_right _ (show _ ∈ tables_1 from List.mem_append_left _ (List.mem_of_getElem? (i := 77) rfl)), rfl⟩
theorem m_79 : (Jvm.Cond.lays "HalfJournal$Records" "HalfJournal$Records" "marked" "I") ∈ hj_tbl := List.mem_filter.mpr ⟨List.mem_append_right _ (show _ ∈ tables_1 from List.mem_append_left _ (List.mem_of_getElem? (i := 79) rfl)), rfl⟩
theorem m_82 : (Jvm.Cond.arrayClass Jvm.ClassFile.FieldType.int) ∈ hj_tbl := List.mem_filter.mpr ⟨List.mem_append_right _ (show _ ∈ tables_1 from List.mem_append_left _ (List.mem_of_getElem? (i := 82) rfl)), rfl⟩
theorem m_83 : (Jvm.Cond.arrayClass Jvm.ClassFile.FieldType.boolean) ∈ hj_tbl := List.mem_filter.mpr ⟨List.mem_append_right _ (show _ ∈ tables_1 from List.mem_append_left _ (List.mem_of_getElem? (i := 83) rfl)), rfl⟩
theorem m_84 : (Jvm.Cond.fieldLink "HalfJournal" (12 : Nat) "HalfJournal" "disk" "LHalfJournal$Disk;") ∈ hj_tbl := List.mem_filter.mpr ⟨List.mem_append_right _ (show _ ∈ tables_1 from List.mem_append_left _ (List.mem_of_getElem? (i := 84) rfl)), rfl⟩
theorem m_85 : (Jvm.Cond.fieldLink "HalfJournal" (19 : Nat) "HalfJournal" "records" "LHalfJournal$Records;") ∈ hj_tbl := List.mem_filter.mpr ⟨List.mem_append_right _ (show _ ∈ tables_1 from List.mem_append_left _ (List.mem_of_getElem? (i := 85) rfl)), rfl⟩
theorem m_86 : (Jvm.Cond.fieldLink "HalfJournal" (23 : Nat) "HalfJournal" "tape" "[B") ∈ hj_tbl := List.mem_filter.mpr ⟨List.mem_append_right _ (show _ ∈ tables_1 from List.mem_append_left _ (List.mem_of_getElem? (i := 86) rfl)), rfl⟩
theorem m_87 : (Jvm.Cond.fieldLink "HalfJournal" (27 : Nat) "HalfJournal" "plan" "[B") ∈ hj_tbl := List.mem_filter.mpr ⟨List.mem_append_right _ (show _ ∈ tables_1 from List.mem_append_left _ (List.mem_of_getElem? (i := 87) rfl)), rfl⟩
theorem m_88 : (Jvm.Cond.fieldLink "HalfJournal" (30 : Nat) "HalfJournal" "taped" "I") ∈ hj_tbl := List.mem_filter.mpr ⟨List.mem_append_right _ (show _ ∈ tables_1 from List.mem_append_left _ (List.mem_of_getElem? (i := 88) rfl)), rfl⟩
theorem m_89 : (Jvm.Cond.fieldLink "HalfJournal" (34 : Nat) "HalfJournal" "state" "I") ∈ hj_tbl := List.mem_filter.mpr ⟨List.mem_append_right _ (show _ ∈ tables_1 from List.mem_append_left _ (List.mem_of_getElem? (i := 89) rfl)), rfl⟩
theorem m_90 : (Jvm.Cond.fieldLink "HalfJournal" (37 : Nat) "HalfJournal" "generation" "I") ∈ hj_tbl := List.mem_filter.mpr ⟨List.mem_append_right _ (show _ ∈ tables_1 from List.mem_append_left _ (List.mem_of_getElem? (i := 90) rfl)), rfl⟩
theorem m_91 : (Jvm.Cond.fieldLink "HalfJournal" (40 : Nat) "HalfJournal" "half" "I") ∈ hj_tbl := List.mem_filter.mpr ⟨List.mem_append_right _ (show _ ∈ tables_1 from List.mem_append_left _ (List.mem_of_getElem? (i := 91) rfl)), rfl⟩
theorem m_92 : (Jvm.Cond.laysFinal "HalfJournal" "HalfJournal" "disk" "LHalfJournal$Disk;") ∈ hj_tbl := List.mem_filter.mpr ⟨List.mem_append_right _ (show _ ∈ tables_1 from List.mem_append_left _ (List.mem_of_getElem? (i := 92) rfl)), rfl⟩
theorem m_94 : (Jvm.Cond.laysFinal "HalfJournal" "HalfJournal" "records" "LHalfJournal$Records;") ∈ hj_tbl := List.mem_filter.mpr ⟨List.mem_append_right _ (show _ ∈ tables_1 from List.mem_append_left _ (List.mem_of_getElem? (i := 94) rfl)), rfl⟩
theorem m_96 : (Jvm.Cond.laysFinal "HalfJournal" "HalfJournal" "tape" "[B") ∈ hj_tbl := List.mem_filter.mpr ⟨List.mem_append_right _ (show _ ∈ tables_1 from List.mem_append_left _ (List.mem_of_getElem? (i := 96) rfl)), rfl⟩
theorem m_98 : (Jvm.Cond.laysFinal "HalfJournal" "HalfJournal" "plan" "[B") ∈ hj_tbl := List.mem_filter.mpr ⟨List.mem_append_right _ (show _ ∈ tables_1 from List.mem_append_left _ (List.mem_of_getElem? (i := 98) rfl)), rfl⟩
theorem m_100 : (Jvm.Cond.lays "HalfJournal" "HalfJournal" "taped" "I") ∈ hj_tbl := List.mem_filter.mpr ⟨List.mem_append_right _ (show _ ∈ tables_1 from List.mem_append_left _ (List.mem_of_getElem? (i := 100) rfl)), rfl⟩
theorem m_102 : (Jvm.Cond.lays "HalfJournal" "HalfJournal" "state" "I") ∈ hj_tbl := List.mem_filter.mpr ⟨List.mem_append_right _ (show _ ∈ tables_1 from List.mem_append_left _ (List.mem_of_getElem? (i := 102) rfl)), rfl⟩
theorem m_104 : (Jvm.Cond.lays "HalfJournal" "HalfJournal" "generation" "I") ∈ hj_tbl := List.mem_filter.mpr ⟨List.mem_append_right _ (show _ ∈ tables_1 from List.mem_append_left _ (List.mem_of_getElem? (i := 104) rfl)), rfl⟩
theorem m_106 : (Jvm.Cond.lays "HalfJournal" "HalfJournal" "half" "I") ∈ hj_tbl := List.mem_filter.mpr ⟨List.mem_append_right _ (show _ ∈ tables_1 from List.mem_append_left _ (List.mem_of_getElem? (i := 106) rfl)), rfl⟩
theorem m_109 : (Jvm.Cond.methodLink "HalfJournalLaw" (26 : Nat) ({ cls := "HalfJournal", name := "format", desc := "()V" } : Jvm.MethodName)) ∈ hj_tbl := List.mem_filter.mpr ⟨List.mem_append_right _ (show _ ∈ tables_1 from List.mem_append_left _ (List.mem_of_getElem? (i := 109) rfl)), rfl⟩
theorem m_110 : (Jvm.Cond.instanceMethod ({ cls := "HalfJournal", name := "format", desc := "()V" } : Jvm.MethodName)) ∈ hj_tbl := List.mem_filter.mpr ⟨List.mem_append_right _ (show _ ∈ tables_1 from List.mem_append_left _ (List.mem_of_getElem? (i := 110) rfl)), rfl⟩
theorem m_111 : (Jvm.Cond.selects "HalfJournal" ({ cls := "HalfJournal", name := "format", desc := "()V" } : Jvm.MethodName) ({ cls := "HalfJournal", name := "format", desc := "()V" } : Jvm.MethodName)) ∈ hj_tbl := List.mem_filter.mpr ⟨List.mem_append_right _ (show _ ∈ tables_1 from List.mem_append_left _ (List.mem_of_getElem? (i := 111) rfl)), rfl⟩
theorem m_112 : (Jvm.Cond.code ({ cls := "HalfJournal", name := "format", desc := "()V" } : Jvm.MethodName) prog_1_method_2_code (1 : Nat) (Option.none : Option Jvm.ClassFile.FieldType)) ∈ hj_tbl := List.mem_filter.mpr ⟨List.mem_append_right _ (show _ ∈ tables_1 from List.mem_append_left _ (List.mem_of_getElem? (i := 112) rfl)), rfl⟩
theorem m_113 : (Jvm.Cond.constant "HalfJournal" (46 : Nat) (32768 : Int32)) ∈ hj_tbl := List.mem_filter.mpr ⟨List.mem_append_right _ (show _ ∈ tables_1 from List.mem_append_left _ (List.mem_of_getElem? (i := 113) rfl)), rfl⟩
theorem m_114 : (Jvm.Cond.methodLink "HalfJournal" (47 : Nat) ({ cls := "HalfJournal", name := "clearBytes", desc := "([BII)V" } : Jvm.MethodName)) ∈ hj_tbl := List.mem_filter.mpr ⟨List.mem_append_right _ (show _ ∈ tables_1 from List.mem_append_left _ (List.mem_of_getElem? (i := 114) rfl)), rfl⟩
theorem m_115 : (Jvm.Cond.static ({ cls := "HalfJournal", name := "clearBytes", desc := "([BII)V" } : Jvm.MethodName)) ∈ hj_tbl := List.mem_filter.mpr ⟨List.mem_append_right _ (show _ ∈ tables_1 from List.mem_append_left _ (List.mem_of_getElem? (i := 115) rfl)), rfl⟩
theorem m_116 : (Jvm.Cond.code ({ cls := "HalfJournal", name := "clearBytes", desc := "([BII)V" } : Jvm.MethodName) prog_1_method_36_code (3 : Nat) (Option.none : Option Jvm.ClassFile.FieldType)) ∈ hj_tbl := List.mem_filter.mpr ⟨List.mem_append_right _ (show _ ∈ tables_1 from List.mem_append_left _ (List.mem_of_getElem? (i := 116) rfl)), rfl⟩
theorem m_117 : (Jvm.Cond.methodLink "HalfJournal" (202 : Nat) ({ cls := "HalfJournal", name := "hasBytes", desc := "([BII)Z" } : Jvm.MethodName)) ∈ hj_tbl := List.mem_filter.mpr ⟨List.mem_append_right _ (show _ ∈ tables_1 from List.mem_append_left _ (List.mem_of_getElem? (i := 117) rfl)), rfl⟩
theorem m_118 : (Jvm.Cond.static ({ cls := "HalfJournal", name := "hasBytes", desc := "([BII)Z" } : Jvm.MethodName)) ∈ hj_tbl := List.mem_filter.mpr ⟨List.mem_append_right _ (show _ ∈ tables_1 from List.mem_append_left _ (List.mem_of_getElem? (i := 118) rfl)), rfl⟩
theorem m_119 : (Jvm.Cond.code ({ cls := "HalfJournal", name := "hasBytes", desc := "([BII)Z" } : Jvm.MethodName) prog_1_method_34_code (3 : Nat) (Option.some Jvm.ClassFile.FieldType.boolean)) ∈ hj_tbl := List.mem_filter.mpr ⟨List.mem_append_right _ (show _ ∈ tables_1 from List.mem_append_left _ (List.mem_of_getElem? (i := 119) rfl)), rfl⟩
theorem m_120 : (Jvm.Cond.methodLink "HalfJournal" (212 : Nat) ({ cls := "java/util/Arrays", name := "fill", desc := "([BIIB)V" } : Jvm.MethodName)) ∈ hj_tbl := List.mem_filter.mpr ⟨List.mem_append_right _ (show _ ∈ tables_1 from List.mem_append_left _ (List.mem_of_getElem? (i := 120) rfl)), rfl⟩
theorem m_121 : (Jvm.Cond.static ({ cls := "java/util/Arrays", name := "fill", desc := "([BIIB)V" } : Jvm.MethodName)) ∈ hj_tbl := List.mem_filter.mpr ⟨List.mem_append_right _ (show _ ∈ tables_1 from List.mem_append_left _ (List.mem_of_getElem? (i := 121) rfl)), rfl⟩
theorem m_122 : (Jvm.Cond.code ({ cls := "java/util/Arrays", name := "fill", desc := "([BIIB)V" } : Jvm.MethodName) prog_21_method_110_code (5 : Nat) (Option.none : Option Jvm.ClassFile.FieldType)) ∈ hj_tbl := List.mem_filter.mpr ⟨List.mem_append_right _ (show _ ∈ tables_1 from List.mem_append_left _ (List.mem_of_getElem? (i := 122) rfl)), rfl⟩
theorem m_123 : (Jvm.Cond.methodLink "java/util/Arrays" (13 : Nat) ({ cls := "java/util/Arrays", name := "rangeCheck", desc := "(III)V" } : Jvm.MethodName)) ∈ hj_tbl := List.mem_filter.mpr ⟨List.mem_append_right _ (show _ ∈ tables_1 from List.mem_append_left _ (List.mem_of_getElem? (i := 123) rfl)), rfl⟩
theorem m_124 : (Jvm.Cond.static ({ cls := "java/util/Arrays", name := "rangeCheck", desc := "(III)V" } : Jvm.MethodName)) ∈ hj_tbl := List.mem_filter.mpr ⟨List.mem_append_right _ (show _ ∈ tables_1 from List.mem_append_left _ (List.mem_of_getElem? (i := 124) rfl)), rfl⟩
theorem m_125 : (Jvm.Cond.code ({ cls := "java/util/Arrays", name := "rangeCheck", desc := "(III)V" } : Jvm.MethodName) prog_21_method_30_code (3 : Nat) (Option.none : Option Jvm.ClassFile.FieldType)) ∈ hj_tbl := List.mem_filter.mpr ⟨List.mem_append_right _ (show _ ∈ tables_1 from List.mem_append_left _ (List.mem_of_getElem? (i := 125) rfl)), rfl⟩
theorem m_126 : (Jvm.Cond.classLink "java/util/Arrays" (43 : Nat) "java/lang/IllegalArgumentException") ∈ hj_tbl := List.mem_filter.mpr ⟨List.mem_append_right _ (show _ ∈ tables_1 from List.mem_append_left _ (List.mem_of_getElem? (i := 126) rfl)), rfl⟩
theorem m_127 : (Jvm.Cond.instantiable "java/lang/IllegalArgumentException" (6 : Nat)) ∈ hj_tbl := List.mem_filter.mpr ⟨List.mem_append_right _ (show _ ∈ tables_1 from List.mem_append_left _ (List.mem_of_getElem? (i := 127) rfl)), rfl⟩
theorem m_135 : (Jvm.Cond.selects "java/lang/IllegalArgumentException" ({ cls := "java/lang/Throwable", name := "fillInStackTrace", desc := "(I)Ljava/lang/Throwable;" } : Jvm.MethodName) ({ cls := "java/lang/Throwable", name := "fillInStackTrace", desc := "(I)Ljava/lang/Throwable;" } : Jvm.MethodName)) ∈ hj_tbl := List.mem_filter.mpr ⟨List.mem_append_right _ (show _ ∈ tables_1 from List.mem_append_left _ (List.mem_of_getElem? (i := 135) rfl)), rfl⟩
theorem m_136 : (Jvm.Cond.selects "java/lang/IllegalArgumentException" ({ cls := "java/lang/Throwable", name := "fillInStackTrace", desc := "()Ljava/lang/Throwable;" } : Jvm.MethodName) ({ cls := "java/lang/Throwable", name := "fillInStackTrace", desc := "()Ljava/lang/Throwable;" } : Jvm.MethodName)) ∈ hj_tbl := List.mem_filter.mpr ⟨List.mem_append_right _ (show _ ∈ tables_1 from List.mem_append_left _ (List.mem_of_getElem? (i := 136) rfl)), rfl⟩
theorem m_137 : (Jvm.Cond.lays "java/lang/IllegalArgumentException" "java/lang/Throwable" "cause" "Ljava/lang/Throwable;") ∈ hj_tbl := List.mem_filter.mpr ⟨List.mem_append_right _ (show _ ∈ tables_1 from List.mem_append_left _ (List.mem_of_getElem? (i := 137) rfl)), rfl⟩
theorem m_138 : (Jvm.Cond.lays "java/lang/Throwable" "java/lang/Throwable" "cause" "Ljava/lang/Throwable;") ∈ hj_tbl := List.mem_filter.mpr ⟨List.mem_append_right _ (show _ ∈ tables_1 from List.mem_append_left _ (List.mem_of_getElem? (i := 138) rfl)), rfl⟩
theorem m_139 : (Jvm.Cond.lays "java/lang/IllegalArgumentException" "java/lang/Throwable" "stackTrace" "[Ljava/lang/StackTraceElement;") ∈ hj_tbl := List.mem_filter.mpr ⟨List.mem_append_right _ (show _ ∈ tables_1 from List.mem_append_left _ (List.mem_of_getElem? (i := 139) rfl)), rfl⟩
theorem m_140 : (Jvm.Cond.lays "java/lang/Throwable" "java/lang/Throwable" "stackTrace" "[Ljava/lang/StackTraceElement;") ∈ hj_tbl := List.mem_filter.mpr ⟨List.mem_append_right _ (show _ ∈ tables_1 from List.mem_append_left _ (List.mem_of_getElem? (i := 140) rfl)), rfl⟩
theorem m_141 : (Jvm.Cond.lays "java/lang/IllegalArgumentException" "java/lang/Throwable" "suppressedExceptions" "Ljava/util/List;") ∈ hj_tbl := List.mem_filter.mpr ⟨List.mem_append_right _ (show _ ∈ tables_1 from List.mem_append_left _ (List.mem_of_getElem? (i := 141) rfl)), rfl⟩
theorem m_142 : (Jvm.Cond.lays "java/lang/Throwable" "java/lang/Throwable" "suppressedExceptions" "Ljava/util/List;") ∈ hj_tbl := List.mem_filter.mpr ⟨List.mem_append_right _ (show _ ∈ tables_1 from List.mem_append_left _ (List.mem_of_getElem? (i := 142) rfl)), rfl⟩
theorem m_143 : (Jvm.Cond.lays "java/lang/IllegalArgumentException" "java/lang/Throwable" "detailMessage" "Ljava/lang/String;") ∈ hj_tbl := List.mem_filter.mpr ⟨List.mem_append_right _ (show _ ∈ tables_1 from List.mem_append_left _ (List.mem_of_getElem? (i := 143) rfl)), rfl⟩
theorem m_144 : (Jvm.Cond.lays "java/lang/Throwable" "java/lang/Throwable" "detailMessage" "Ljava/lang/String;") ∈ hj_tbl := List.mem_filter.mpr ⟨List.mem_append_right _ (show _ ∈ tables_1 from List.mem_append_left _ (List.mem_of_getElem? (i := 144) rfl)), rfl⟩
theorem m_145 : (Jvm.Cond.lays "java/lang/IllegalArgumentException" "java/lang/Throwable" "backtrace" "Ljava/lang/Object;") ∈ hj_tbl := List.mem_filter.mpr ⟨List.mem_append_right _ (show _ ∈ tables_1 from List.mem_append_left _ (List.mem_of_getElem? (i := 145) rfl)), rfl⟩
theorem m_146 : (Jvm.Cond.lays "java/lang/Throwable" "java/lang/Throwable" "backtrace" "Ljava/lang/Object;") ∈ hj_tbl := List.mem_filter.mpr ⟨List.mem_append_right _ (show _ ∈ tables_1 from List.mem_append_left _ (List.mem_of_getElem? (i := 146) rfl)), rfl⟩
theorem m_147 : (Jvm.Cond.fieldLink "java/lang/Throwable" (198 : Nat) "java/lang/Throwable" "backtrace" "Ljava/lang/Object;") ∈ hj_tbl := List.mem_filter.mpr ⟨List.mem_append_right _ (show _ ∈ tables_1 from List.mem_append_left _ (List.mem_of_getElem? (i := 147) rfl)), rfl⟩
theorem m_149 : (Jvm.Cond.instanceMethod ({ cls := "java/lang/Throwable", name := "<init>", desc := "()V" } : Jvm.MethodName)) ∈ hj_tbl := List.mem_filter.mpr ⟨List.mem_append_right _ (show _ ∈ tables_1 from List.mem_append_left _ (List.mem_of_getElem? (i := 149) rfl)), rfl⟩
theorem m_150 : (Jvm.Cond.code ({ cls := "java/lang/Throwable", name := "<init>", desc := "()V" } : Jvm.MethodName) prog_19_method_1_code (1 : Nat) (Option.none : Option Jvm.ClassFile.FieldType)) ∈ hj_tbl := List.mem_filter.mpr ⟨List.mem_append_right _ (show _ ∈ tables_1 from List.mem_append_left _ (List.mem_of_getElem? (i := 150) rfl)), rfl⟩
theorem m_151 : (Jvm.Cond.methodLink "java/lang/Throwable" (1 : Nat) ({ cls := "java/lang/Object", name := "<init>", desc := "()V" } : Jvm.MethodName)) ∈ hj_tbl := List.mem_filter.mpr ⟨List.mem_append_right _ (show _ ∈ tables_1 from List.mem_append_left _ (List.mem_of_getElem? (i := 151) rfl)), rfl⟩
theorem m_152 : (Jvm.Cond.fieldLink "java/lang/Throwable" (13 : Nat) "java/lang/Throwable" "UNASSIGNED_STACK" "[Ljava/lang/StackTraceElement;") ∈ hj_tbl := List.mem_filter.mpr ⟨List.mem_append_right _ (show _ ∈ tables_1 from List.mem_append_left _ (List.mem_of_getElem? (i := 152) rfl)), rfl⟩
theorem m_154 : (Jvm.Cond.fieldLink "java/lang/Throwable" (20 : Nat) "java/lang/Throwable" "SUPPRESSED_SENTINEL" "Ljava/util/List;") ∈ hj_tbl := List.mem_filter.mpr ⟨List.mem_append_right _ (show _ ∈ tables_1 from List.mem_append_left _ (List.mem_of_getElem? (i := 154) rfl)), rfl⟩
theorem m_156 : (Jvm.Cond.methodLink "java/lang/Throwable" (27 : Nat) ({ cls := "java/lang/Throwable", name := "fillInStackTrace", desc := "()Ljava/lang/Throwable;" } : Jvm.MethodName)) ∈ hj_tbl := List.mem_filter.mpr ⟨List.mem_append_right _ (show _ ∈ tables_1 from List.mem_append_left _ (List.mem_of_getElem? (i := 156) rfl)), rfl⟩
theorem m_157 : (Jvm.Cond.instanceMethod ({ cls := "java/lang/Throwable", name := "fillInStackTrace", desc := "()Ljava/lang/Throwable;" } : Jvm.MethodName)) ∈ hj_tbl := List.mem_filter.mpr ⟨List.mem_append_right _ (show _ ∈ tables_1 from List.mem_append_left _ (List.mem_of_getElem? (i := 157) rfl)), rfl⟩
theorem m_159 : (Jvm.Cond.selects "java/lang/IllegalStateException" ({ cls := "java/lang/Throwable", name := "fillInStackTrace", desc := "()Ljava/lang/Throwable;" } : Jvm.MethodName) ({ cls := "java/lang/Throwable", name := "fillInStackTrace", desc := "()Ljava/lang/Throwable;" } : Jvm.MethodName)) ∈ hj_tbl := List.mem_filter.mpr ⟨List.mem_append_right _ (show _ ∈ tables_1 from List.mem_append_left _ (List.mem_of_getElem? (i := 159) rfl)), rfl⟩
theorem m_160 : (Jvm.Cond.selects "java/lang/UnsupportedOperationException" ({ cls := "java/lang/Throwable", name := "fillInStackTrace", desc := "()Ljava/lang/Throwable;" } : Jvm.MethodName) ({ cls := "java/lang/Throwable", name := "fillInStackTrace", desc := "()Ljava/lang/Throwable;" } : Jvm.MethodName)) ∈ hj_tbl := List.mem_filter.mpr ⟨List.mem_append_right _ (show _ ∈ tables_1 from List.mem_append_left _ (List.mem_of_getElem? (i := 160) rfl)), rfl⟩
theorem m_162 : (Jvm.Cond.methodLink "java/lang/Throwable" (202 : Nat) ({ cls := "java/lang/Throwable", name := "fillInStackTrace", desc := "(I)Ljava/lang/Throwable;" } : Jvm.MethodName)) ∈ hj_tbl := List.mem_filter.mpr ⟨List.mem_append_right _ (show _ ∈ tables_1 from List.mem_append_left _ (List.mem_of_getElem? (i := 162) rfl)), rfl⟩
theorem m_164 : (Jvm.Cond.instanceMethod ({ cls := "java/lang/Throwable", name := "fillInStackTrace", desc := "(I)Ljava/lang/Throwable;" } : Jvm.MethodName)) ∈ hj_tbl := List.mem_filter.mpr ⟨List.mem_append_right _ (show _ ∈ tables_1 from List.mem_append_left _ (List.mem_of_getElem? (i := 164) rfl)), rfl⟩
theorem m_165 : (Jvm.Cond.instantiable "java/lang/Throwable" (6 : Nat)) ∈ hj_tbl := List.mem_filter.mpr ⟨List.mem_append_right _ (show _ ∈ tables_1 from List.mem_append_left _ (List.mem_of_getElem? (i := 165) rfl)), rfl⟩
theorem m_166 : (Jvm.Cond.native ({ cls := "java/lang/Throwable", name := "fillInStackTrace", desc := "(I)Ljava/lang/Throwable;" } : Jvm.MethodName)) ∈ hj_tbl := List.mem_filter.mpr ⟨List.mem_append_right _ (show _ ∈ tables_1 from List.mem_append_left _ (List.mem_of_getElem? (i := 166) rfl)), rfl⟩
theorem m_167 : (Jvm.Cond.classLink "java/util/Arrays" (45 : Nat) "java/lang/StringBuilder") ∈ hj_tbl := List.mem_filter.mpr ⟨List.mem_append_right _ (show _ ∈ tables_1 from List.mem_append_left _ (List.mem_of_getElem? (i := 167) rfl)), rfl⟩
theorem m_168 : (Jvm.Cond.instantiable "java/lang/StringBuilder" (4 : Nat)) ∈ hj_tbl := List.mem_filter.mpr ⟨List.mem_append_right _ (show _ ∈ tables_1 from List.mem_append_left _ (List.mem_of_getElem? (i := 168) rfl)), rfl⟩
theorem m_169 : (Jvm.Cond.methodLink "java/util/Arrays" (47 : Nat) ({ cls := "java/lang/StringBuilder", name := "<init>", desc := "()V" } : Jvm.MethodName)) ∈ hj_tbl := List.mem_filter.mpr ⟨List.mem_append_right _ (show _ ∈ tables_1 from List.mem_append_left _ (List.mem_of_getElem? (i := 169) rfl)), rfl⟩
theorem m_170 : (Jvm.Cond.instanceMethod ({ cls := "java/lang/StringBuilder", name := "<init>", desc := "()V" } : Jvm.MethodName)) ∈ hj_tbl := List.mem_filter.mpr ⟨List.mem_append_right _ (show _ ∈ tables_1 from List.mem_append_left _ (List.mem_of_getElem? (i := 170) rfl)), rfl⟩
theorem m_171 : (Jvm.Cond.code ({ cls := "java/lang/StringBuilder", name := "<init>", desc := "()V" } : Jvm.MethodName) prog_15_method_1_code (1 : Nat) (Option.none : Option Jvm.ClassFile.FieldType)) ∈ hj_tbl := List.mem_filter.mpr ⟨List.mem_append_right _ (show _ ∈ tables_1 from List.mem_append_left _ (List.mem_of_getElem? (i := 171) rfl)), rfl⟩
theorem m_172 : (Jvm.Cond.methodLink "java/lang/StringBuilder" (1 : Nat) ({ cls := "java/lang/AbstractStringBuilder", name := "<init>", desc := "(I)V" } : Jvm.MethodName)) ∈ hj_tbl := List.mem_filter.mpr ⟨List.mem_append_right _ (show _ ∈ tables_1 from List.mem_append_left _ (List.mem_of_getElem? (i := 172) rfl)), rfl⟩
theorem m_173 : (Jvm.Cond.instanceMethod ({ cls := "java/lang/AbstractStringBuilder", name := "<init>", desc := "(I)V" } : Jvm.MethodName)) ∈ hj_tbl := List.mem_filter.mpr ⟨List.mem_append_right _ (show _ ∈ tables_1 from List.mem_append_left _ (List.mem_of_getElem? (i := 173) rfl)), rfl⟩
theorem m_174 : (Jvm.Cond.code ({ cls := "java/lang/AbstractStringBuilder", name := "<init>", desc := "(I)V" } : Jvm.MethodName) prog_6_method_2_code (2 : Nat) (Option.none : Option Jvm.ClassFile.FieldType)) ∈ hj_tbl := List.mem_filter.mpr ⟨List.mem_append_right _ (show _ ∈ tables_1 from List.mem_append_left _ (List.mem_of_getElem? (i := 174) rfl)), rfl⟩
theorem m_175 : (Jvm.Cond.methodLink "java/lang/AbstractStringBuilder" (3 : Nat) ({ cls := "java/lang/Object", name := "<init>", desc := "()V" } : Jvm.MethodName)) ∈ hj_tbl := List.mem_filter.mpr ⟨List.mem_append_right _ (show _ ∈ tables_1 from List.mem_append_left _ (List.mem_of_getElem? (i := 175) rfl)), rfl⟩
theorem m_176 : (Jvm.Cond.fieldLink "java/lang/AbstractStringBuilder" (18 : Nat) "java/lang/String" "COMPACT_STRINGS" "Z") ∈ hj_tbl := List.mem_filter.mpr ⟨List.mem_append_right _ (show _ ∈ tables_1 from List.mem_append_left _ (List.mem_of_getElem? (i := 176) rfl)), rfl⟩
theorem m_178 : (Jvm.Cond.methodLink "java/lang/AbstractStringBuilder" (26 : Nat) ({ cls := "java/lang/StringUTF16", name := "newBytesFor", desc := "(I)[B" } : Jvm.MethodName)) ∈ hj_tbl := List.mem_filter.mpr ⟨List.mem_append_right _ (show _ ∈ tables_1 from List.mem_append_left _ (List.mem_of_getElem? (i := 178) rfl)), rfl⟩
theorem m_179 : (Jvm.Cond.static ({ cls := "java/lang/StringUTF16", name := "newBytesFor", desc := "(I)[B" } : Jvm.MethodName)) ∈ hj_tbl := List.mem_filter.mpr ⟨List.mem_append_right _ (show _ ∈ tables_1 from List.mem_append_left _ (List.mem_of_getElem? (i := 179) rfl)), rfl⟩
theorem m_180 : (Jvm.Cond.code ({ cls := "java/lang/StringUTF16", name := "newBytesFor", desc := "(I)[B" } : Jvm.MethodName) prog_17_method_2_code (1 : Nat) (Option.some (Jvm.ClassFile.FieldType.array Jvm.ClassFile.FieldType.byte))) ∈ hj_tbl := List.mem_filter.mpr ⟨List.mem_append_right _ (show _ ∈ tables_1 from List.mem_append_left _ (List.mem_of_getElem? (i := 180) rfl)), rfl⟩
theorem m_181 : (Jvm.Cond.methodLink "java/lang/StringUTF16" (11 : Nat) ({ cls := "java/lang/StringUTF16", name := "newBytesLength", desc := "(I)I" } : Jvm.MethodName)) ∈ hj_tbl := List.mem_filter.mpr ⟨List.mem_append_right _ (show _ ∈ tables_1 from List.mem_append_left _ (List.mem_of_getElem? (i := 181) rfl)), rfl⟩
theorem m_182 : (Jvm.Cond.static ({ cls := "java/lang/StringUTF16", name := "newBytesLength", desc := "(I)I" } : Jvm.MethodName)) ∈ hj_tbl := List.mem_filter.mpr ⟨List.mem_append_right _ (show _ ∈ tables_1 from List.mem_append_left _ (List.mem_of_getElem? (i := 182) rfl)), rfl⟩
theorem m_183 : (Jvm.Cond.code ({ cls := "java/lang/StringUTF16", name := "newBytesLength", desc := "(I)I" } : Jvm.MethodName) prog_17_method_3_code (1 : Nat) (Option.some Jvm.ClassFile.FieldType.int)) ∈ hj_tbl := List.mem_filter.mpr ⟨List.mem_append_right _ (show _ ∈ tables_1 from List.mem_append_left _ (List.mem_of_getElem? (i := 183) rfl)), rfl⟩
theorem m_184 : (Jvm.Cond.constant "java/lang/StringUTF16" (20 : Nat) (1073741823 : Int32)) ∈ hj_tbl := List.mem_filter.mpr ⟨List.mem_append_right _ (show _ ∈ tables_1 from List.mem_append_left _ (List.mem_of_getElem? (i := 184) rfl)), rfl⟩
theorem m_185 : (Jvm.Cond.fieldLink "java/lang/AbstractStringBuilder" (15 : Nat) "java/lang/AbstractStringBuilder" "value" "[B") ∈ hj_tbl := List.mem_filter.mpr ⟨List.mem_append_right _ (show _ ∈ tables_1 from List.mem_append_left _ (List.mem_of_getElem? (i := 185) rfl)), rfl⟩
theorem m_186 : (Jvm.Cond.fieldLink "java/lang/AbstractStringBuilder" (22 : Nat) "java/lang/AbstractStringBuilder" "coder" "B") ∈ hj_tbl := List.mem_filter.mpr ⟨List.mem_append_right _ (show _ ∈ tables_1 from List.mem_append_left _ (List.mem_of_getElem? (i := 186) rfl)), rfl⟩
theorem m_187 : (Jvm.Cond.fieldLink "java/lang/String" (1048 : Nat) "java/lang/AbstractStringBuilder" "maybeLatin1" "Z") ∈ hj_tbl := List.mem_filter.mpr ⟨List.mem_append_right _ (show _ ∈ tables_1 from List.mem_append_left _ (List.mem_of_getElem? (i := 187) rfl)), rfl⟩
theorem m_188 : (Jvm.Cond.fieldLink "java/lang/AbstractStringBuilder" (79 : Nat) "java/lang/AbstractStringBuilder" "count" "I") ∈ hj_tbl := List.mem_filter.mpr ⟨List.mem_append_right _ (show _ ∈ tables_1 from List.mem_append_left _ (List.mem_of_getElem? (i := 188) rfl)), rfl⟩
theorem m_189 : (Jvm.Cond.lays "java/lang/StringBuilder" "java/lang/AbstractStringBuilder" "value" "[B") ∈ hj_tbl := List.mem_filter.mpr ⟨List.mem_append_right _ (show _ ∈ tables_1 from List.mem_append_left _ (List.mem_of_getElem? (i := 189) rfl)), rfl⟩
theorem m_191 : (Jvm.Cond.lays "java/lang/StringBuilder" "java/lang/AbstractStringBuilder" "coder" "B") ∈ hj_tbl := List.mem_filter.mpr ⟨List.mem_append_right _ (show _ ∈ tables_1 from List.mem_append_left _ (List.mem_of_getElem? (i := 191) rfl)), rfl⟩
theorem m_193 : (Jvm.Cond.lays "java/lang/StringBuilder" "java/lang/AbstractStringBuilder" "maybeLatin1" "Z") ∈ hj_tbl := List.mem_filter.mpr ⟨List.mem_append_right _ (show _ ∈ tables_1 from List.mem_append_left _ (List.mem_of_getElem? (i := 193) rfl)), rfl⟩
theorem m_195 : (Jvm.Cond.lays "java/lang/StringBuilder" "java/lang/AbstractStringBuilder" "count" "I") ∈ hj_tbl := List.mem_filter.mpr ⟨List.mem_append_right _ (show _ ∈ tables_1 from List.mem_append_left _ (List.mem_of_getElem? (i := 195) rfl)), rfl⟩
theorem m_199 : (Jvm.Cond.methodLink "java/util/Arrays" (50 : Nat) ({ cls := "java/lang/StringBuilder", name := "append", desc := "(Ljava/lang/String;)Ljava/lang/StringBuilder;" } : Jvm.MethodName)) ∈ hj_tbl := List.mem_filter.mpr ⟨List.mem_append_right _ (show _ ∈ tables_1 from List.mem_append_left _ (List.mem_of_getElem? (i := 199) rfl)), rfl⟩
theorem m_200 : (Jvm.Cond.instanceMethod ({ cls := "java/lang/StringBuilder", name := "append", desc := "(Ljava/lang/String;)Ljava/lang/StringBuilder;" } : Jvm.MethodName)) ∈ hj_tbl := List.mem_filter.mpr ⟨List.mem_append_right _ (show _ ∈ tables_1 from List.mem_append_left _ (List.mem_of_getElem? (i := 200) rfl)), rfl⟩
theorem m_201 : (Jvm.Cond.selects "java/lang/StringBuilder" ({ cls := "java/lang/StringBuilder", name := "append", desc := "(Ljava/lang/String;)Ljava/lang/StringBuilder;" } : Jvm.MethodName) ({ cls := "java/lang/StringBuilder", name := "append", desc := "(Ljava/lang/String;)Ljava/lang/StringBuilder;" } : Jvm.MethodName)) ∈ hj_tbl := List.mem_filter.mpr ⟨List.mem_append_right _ (show _ ∈ tables_1 from List.mem_append_left _ (List.mem_of_getElem? (i := 201) rfl)), rfl⟩
theorem m_202 : (Jvm.Cond.code ({ cls := "java/lang/StringBuilder", name := "append", desc := "(Ljava/lang/String;)Ljava/lang/StringBuilder;" } : Jvm.MethodName) prog_15_method_7_code (2 : Nat) (Option.some (Jvm.ClassFile.FieldType.object "java/lang/StringBuilder"))) ∈ hj_tbl := List.mem_filter.mpr ⟨List.mem_append_right _ (show _ ∈ tables_1 from List.mem_append_left _ (List.mem_of_getElem? (i := 202) rfl)), rfl⟩
theorem m_203 : (Jvm.Cond.methodLink "java/lang/StringBuilder" (29 : Nat) ({ cls := "java/lang/AbstractStringBuilder", name := "append", desc := "(Ljava/lang/String;)Ljava/lang/AbstractStringBuilder;" } : Jvm.MethodName)) ∈ hj_tbl := List.mem_filter.mpr ⟨List.mem_append_right _ (show _ ∈ tables_1 from List.mem_append_left _ (List.mem_of_getElem? (i := 203) rfl)), rfl⟩
theorem m_204 : (Jvm.Cond.instanceMethod ({ cls := "java/lang/AbstractStringBuilder", name := "append", desc := "(Ljava/lang/String;)Ljava/lang/AbstractStringBuilder;" } : Jvm.MethodName)) ∈ hj_tbl := List.mem_filter.mpr ⟨List.mem_append_right _ (show _ ∈ tables_1 from List.mem_append_left _ (List.mem_of_getElem? (i := 204) rfl)), rfl⟩
theorem m_205 : (Jvm.Cond.code ({ cls := "java/lang/AbstractStringBuilder", name := "append", desc := "(Ljava/lang/String;)Ljava/lang/AbstractStringBuilder;" } : Jvm.MethodName) prog_6_method_22_code (3 : Nat) (Option.some (Jvm.ClassFile.FieldType.object "java/lang/AbstractStringBuilder"))) ∈ hj_tbl := List.mem_filter.mpr ⟨List.mem_append_right _ (show _ ∈ tables_1 from List.mem_append_left _ (List.mem_of_getElem? (i := 205) rfl)), rfl⟩
theorem m_206 : (Jvm.Cond.methodLink "java/lang/AbstractStringBuilder" (204 : Nat) ({ cls := "java/lang/AbstractStringBuilder", name := "appendNull", desc := "()Ljava/lang/AbstractStringBuilder;" } : Jvm.MethodName)) ∈ hj_tbl := List.mem_filter.mpr ⟨List.mem_append_right _ (show _ ∈ tables_1 from List.mem_append_left _ (List.mem_of_getElem? (i := 206) rfl)), rfl⟩
theorem m_208 : (Jvm.Cond.instanceMethod ({ cls := "java/lang/AbstractStringBuilder", name := "appendNull", desc := "()Ljava/lang/AbstractStringBuilder;" } : Jvm.MethodName)) ∈ hj_tbl := List.mem_filter.mpr ⟨List.mem_append_right _ (show _ ∈ tables_1 from List.mem_append_left _ (List.mem_of_getElem? (i := 208) rfl)), rfl⟩
theorem m_209 : (Jvm.Cond.code ({ cls := "java/lang/AbstractStringBuilder", name := "appendNull", desc := "()Ljava/lang/AbstractStringBuilder;" } : Jvm.MethodName) prog_6_method_26_code (3 : Nat) (Option.some (Jvm.ClassFile.FieldType.object "java/lang/AbstractStringBuilder"))) ∈ hj_tbl := List.mem_filter.mpr ⟨List.mem_append_right _ (show _ ∈ tables_1 from List.mem_append_left _ (List.mem_of_getElem? (i := 209) rfl)), rfl⟩
theorem m_210 : (Jvm.Cond.methodLink "java/lang/AbstractStringBuilder" (100 : Nat) ({ cls := "java/lang/AbstractStringBuilder", name := "ensureCapacityInternal", desc := "(I)V" } : Jvm.MethodName)) ∈ hj_tbl := List.mem_filter.mpr ⟨List.mem_append_right _ (show _ ∈ tables_1 from List.mem_append_left _ (List.mem_of_getElem? (i := 210) rfl)), rfl⟩
theorem m_212 : (Jvm.Cond.instanceMethod ({ cls := "java/lang/AbstractStringBuilder", name := "ensureCapacityInternal", desc := "(I)V" } : Jvm.MethodName)) ∈ hj_tbl := List.mem_filter.mpr ⟨List.mem_append_right _ (show _ ∈ tables_1 from List.mem_append_left _ (List.mem_of_getElem? (i := 212) rfl)), rfl⟩
theorem m_213 : (Jvm.Cond.code ({ cls := "java/lang/AbstractStringBuilder", name := "ensureCapacityInternal", desc := "(I)V" } : Jvm.MethodName) prog_6_method_9_code (3 : Nat) (Option.none : Option Jvm.ClassFile.FieldType)) ∈ hj_tbl := List.mem_filter.mpr ⟨List.mem_append_right _ (show _ ∈ tables_1 from List.mem_append_left _ (List.mem_of_getElem? (i := 213) rfl)), rfl⟩
theorem m_214 : (Jvm.Cond.methodLink "java/lang/AbstractStringBuilder" (104 : Nat) ({ cls := "java/lang/AbstractStringBuilder", name := "newCapacity", desc := "(I)I" } : Jvm.MethodName)) ∈ hj_tbl := List.mem_filter.mpr ⟨List.mem_append_right _ (show _ ∈ tables_1 from List.mem_append_left _ (List.mem_of_getElem? (i := 214) rfl)), rfl⟩
theorem m_216 : (Jvm.Cond.instanceMethod ({ cls := "java/lang/AbstractStringBuilder", name := "newCapacity", desc := "(I)I" } : Jvm.MethodName)) ∈ hj_tbl := List.mem_filter.mpr ⟨List.mem_append_right _ (show _ ∈ tables_1 from List.mem_append_left _ (List.mem_of_getElem? (i := 216) rfl)), rfl⟩
theorem m_217 : (Jvm.Cond.code ({ cls := "java/lang/AbstractStringBuilder", name := "newCapacity", desc := "(I)I" } : Jvm.MethodName) prog_6_method_10_code (6 : Nat) (Option.some Jvm.ClassFile.FieldType.int)) ∈ hj_tbl := List.mem_filter.mpr ⟨List.mem_append_right _ (show _ ∈ tables_1 from List.mem_append_left _ (List.mem_of_getElem? (i := 217) rfl)), rfl⟩
theorem m_218 : (Jvm.Cond.methodLink "java/lang/AbstractStringBuilder" (114 : Nat) ({ cls := "jdk/internal/util/ArraysSupport", name := "newLength", desc := "(III)I" } : Jvm.MethodName)) ∈ hj_tbl := List.mem_filter.mpr ⟨List.mem_append_right _ (show _ ∈ tables_1 from List.mem_append_left _ (List.mem_of_getElem? (i := 218) rfl)), rfl⟩
theorem m_219 : (Jvm.Cond.static ({ cls := "jdk/internal/util/ArraysSupport", name := "newLength", desc := "(III)I" } : Jvm.MethodName)) ∈ hj_tbl := List.mem_filter.mpr ⟨List.mem_append_right _ (show _ ∈ tables_1 from List.mem_append_left _ (List.mem_of_getElem? (i := 219) rfl)), rfl⟩
theorem m_220 : (Jvm.Cond.code ({ cls := "jdk/internal/util/ArraysSupport", name := "newLength", desc := "(III)I" } : Jvm.MethodName) prog_22_method_27_code (4 : Nat) (Option.some Jvm.ClassFile.FieldType.int)) ∈ hj_tbl := List.mem_filter.mpr ⟨List.mem_append_right _ (show _ ∈ tables_1 from List.mem_append_left _ (List.mem_of_getElem? (i := 220) rfl)), rfl⟩
theorem m_221 : (Jvm.Cond.methodLink "jdk/internal/util/ArraysSupport" (194 : Nat) ({ cls := "java/lang/Math", name := "max", desc := "(II)I" } : Jvm.MethodName)) ∈ hj_tbl := List.mem_filter.mpr ⟨List.mem_append_right _ (show _ ∈ tables_1 from List.mem_append_left _ (List.mem_of_getElem? (i := 221) rfl)), rfl⟩
theorem m_222 : (Jvm.Cond.static ({ cls := "java/lang/Math", name := "max", desc := "(II)I" } : Jvm.MethodName)) ∈ hj_tbl := List.mem_filter.mpr ⟨List.mem_append_right _ (show _ ∈ tables_1 from List.mem_append_left _ (List.mem_of_getElem? (i := 222) rfl)), rfl⟩
theorem m_223 : (Jvm.Cond.code ({ cls := "java/lang/Math", name := "max", desc := "(II)I" } : Jvm.MethodName) prog_12_method_65_code (2 : Nat) (Option.some Jvm.ClassFile.FieldType.int)) ∈ hj_tbl := List.mem_filter.mpr ⟨List.mem_append_right _ (show _ ∈ tables_1 from List.mem_append_left _ (List.mem_of_getElem? (i := 223) rfl)), rfl⟩
theorem m_224 : (Jvm.Cond.constant "jdk/internal/util/ArraysSupport" (200 : Nat) (2147483639 : Int32)) ∈ hj_tbl := List.mem_filter.mpr ⟨List.mem_append_right _ (show _ ∈ tables_1 from List.mem_append_left _ (List.mem_of_getElem? (i := 224) rfl)), rfl⟩
theorem m_225 : (Jvm.Cond.methodLink "jdk/internal/util/ArraysSupport" (201 : Nat) ({ cls := "jdk/internal/util/ArraysSupport", name := "hugeLength", desc := "(II)I" } : Jvm.MethodName)) ∈ hj_tbl := List.mem_filter.mpr ⟨List.mem_append_right _ (show _ ∈ tables_1 from List.mem_append_left _ (List.mem_of_getElem? (i := 225) rfl)), rfl⟩
theorem m_226 : (Jvm.Cond.static ({ cls := "jdk/internal/util/ArraysSupport", name := "hugeLength", desc := "(II)I" } : Jvm.MethodName)) ∈ hj_tbl := List.mem_filter.mpr ⟨List.mem_append_right _ (show _ ∈ tables_1 from List.mem_append_left _ (List.mem_of_getElem? (i := 226) rfl)), rfl⟩
theorem m_227 : (Jvm.Cond.code ({ cls := "jdk/internal/util/ArraysSupport", name := "hugeLength", desc := "(II)I" } : Jvm.MethodName) prog_22_method_28_code (3 : Nat) (Option.some Jvm.ClassFile.FieldType.int)) ∈ hj_tbl := List.mem_filter.mpr ⟨List.mem_append_right _ (show _ ∈ tables_1 from List.mem_append_left _ (List.mem_of_getElem? (i := 227) rfl)), rfl⟩
theorem m_228 : (Jvm.Cond.constant "java/lang/AbstractStringBuilder" (39 : Nat) (2147483647 : Int32)) ∈ hj_tbl := List.mem_filter.mpr ⟨List.mem_append_right _ (show _ ∈ tables_1 from List.mem_append_left _ (List.mem_of_getElem? (i := 228) rfl)), rfl⟩
theorem m_229 : (Jvm.Cond.methodLink "java/lang/AbstractStringBuilder" (108 : Nat) ({ cls := "java/util/Arrays", name := "copyOf", desc := "([BI)[B" } : Jvm.MethodName)) ∈ hj_tbl := List.mem_filter.mpr ⟨List.mem_append_right _ (show _ ∈ tables_1 from List.mem_append_left _ (List.mem_of_getElem? (i := 229) rfl)), rfl⟩
theorem m_230 : (Jvm.Cond.static ({ cls := "java/util/Arrays", name := "copyOf", desc := "([BI)[B" } : Jvm.MethodName)) ∈ hj_tbl := List.mem_filter.mpr ⟨List.mem_append_right _ (show _ ∈ tables_1 from List.mem_append_left _ (List.mem_of_getElem? (i := 230) rfl)), rfl⟩
theorem m_231 : (Jvm.Cond.code ({ cls := "java/util/Arrays", name := "copyOf", desc := "([BI)[B" } : Jvm.MethodName) prog_21_method_121_code (3 : Nat) (Option.some (Jvm.ClassFile.FieldType.array Jvm.ClassFile.FieldType.byte))) ∈ hj_tbl := List.mem_filter.mpr ⟨List.mem_append_right _ (show _ ∈ tables_1 from List.mem_append_left _ (List.mem_of_getElem? (i := 231) rfl)), rfl⟩
theorem m_232 : (Jvm.Cond.methodLink "java/util/Arrays" (310 : Nat) ({ cls := "[B", name := "clone", desc := "()Ljava/lang/Object;" } : Jvm.MethodName)) ∈ hj_tbl := List.mem_filter.mpr ⟨List.mem_append_right _ (show _ ∈ tables_1 from List.mem_append_left _ (List.mem_of_getElem? (i := 232) rfl)), rfl⟩
theorem m_234 : (Jvm.Cond.native ({ cls := "java/lang/Object", name := "clone", desc := "()Ljava/lang/Object;" } : Jvm.MethodName)) ∈ hj_tbl := List.mem_filter.mpr ⟨List.mem_append_right _ (show _ ∈ tables_1 from List.mem_append_left _ (List.mem_of_getElem? (i := 234) rfl)), rfl⟩
theorem m_235 : (Jvm.Cond.instanceMethod ({ cls := "java/lang/Object", name := "clone", desc := "()Ljava/lang/Object;" } : Jvm.MethodName)) ∈ hj_tbl := List.mem_filter.mpr ⟨List.mem_append_right _ (show _ ∈ tables_1 from List.mem_append_left _ (List.mem_of_getElem? (i := 235) rfl)), rfl⟩
theorem m_236 : (Jvm.Cond.selects "[B" ({ cls := "[B", name := "clone", desc := "()Ljava/lang/Object;" } : Jvm.MethodName) ({ cls := "java/lang/Object", name := "clone", desc := "()Ljava/lang/Object;" } : Jvm.MethodName)) ∈ hj_tbl := List.mem_filter.mpr ⟨List.mem_append_right _ (show _ ∈ tables_1 from List.mem_append_left _ (List.mem_of_getElem? (i := 236) rfl)), rfl⟩
theorem m_238 : (Jvm.Cond.classLink "java/util/Arrays" (311 : Nat) "[B") ∈ hj_tbl := List.mem_filter.mpr ⟨List.mem_append_right _ (show _ ∈ tables_1 from List.mem_append_left _ (List.mem_of_getElem? (i := 238) rfl)), rfl⟩
theorem m_239 : (Jvm.Cond.methodLink "java/util/Arrays" (304 : Nat) ({ cls := "java/lang/Math", name := "min", desc := "(II)I" } : Jvm.MethodName)) ∈ hj_tbl := List.mem_filter.mpr ⟨List.mem_append_right _ (show _ ∈ tables_1 from List.mem_append_left _ (List.mem_of_getElem? (i := 239) rfl)), rfl⟩
theorem m_240 : (Jvm.Cond.static ({ cls := "java/lang/Math", name := "min", desc := "(II)I" } : Jvm.MethodName)) ∈ hj_tbl := List.mem_filter.mpr ⟨List.mem_append_right _ (show _ ∈ tables_1 from List.mem_append_right _ (List.mem_append_left _ (List.mem_of_getElem? (i := 0) rfl))), rfl⟩
theorem m_241 : (Jvm.Cond.code ({ cls := "java/lang/Math", name := "min", desc := "(II)I" } : Jvm.MethodName) prog_12_method_69_code (2 : Nat) (Option.some Jvm.ClassFile.FieldType.int)) ∈ hj_tbl := List.mem_filter.mpr ⟨List.mem_append_right _ (show _ ∈ tables_1 from List.mem_append_right _ (List.mem_append_left _ (List.mem_of_getElem? (i := 1) rfl))), rfl⟩
theorem m_242 : (Jvm.Cond.methodLink "java/util/Arrays" (150 : Nat) ({ cls := "java/lang/System", name := "arraycopy", desc := "(Ljava/lang/Object;ILjava/lang/Object;II)V" } : Jvm.MethodName)) ∈ hj_tbl := List.mem_filter.mpr ⟨List.mem_append_right _ (show _ ∈ tables_1 from List.mem_append_right _ (List.mem_append_left _ (List.mem_of_getElem? (i := 2) rfl))), rfl⟩
theorem m_243 : (Jvm.Cond.static ({ cls := "java/lang/System", name := "arraycopy", desc := "(Ljava/lang/Object;ILjava/lang/Object;II)V" } : Jvm.MethodName)) ∈ hj_tbl := List.mem_filter.mpr ⟨List.mem_append_right _ (show _ ∈ tables_1 from List.mem_append_right _ (List.mem_append_left _ (List.mem_of_getElem? (i := 3) rfl))), rfl⟩
theorem m_244 : (Jvm.Cond.native ({ cls := "java/lang/System", name := "arraycopy", desc := "(Ljava/lang/Object;ILjava/lang/Object;II)V" } : Jvm.MethodName)) ∈ hj_tbl := List.mem_filter.mpr ⟨List.mem_append_right _ (show _ ∈ tables_1 from List.mem_append_right _ (List.mem_append_left _ (List.mem_of_getElem? (i := 4) rfl))), rfl⟩
theorem m_245 : (Jvm.Cond.methodLink "java/lang/AbstractStringBuilder" (83 : Nat) ({ cls := "java/lang/AbstractStringBuilder", name := "isLatin1", desc := "()Z" } : Jvm.MethodName)) ∈ hj_tbl := List.mem_filter.mpr ⟨List.mem_append_right _ (show _ ∈ tables_1 from List.mem_append_right _ (List.mem_append_left _ (List.mem_of_getElem? (i := 5) rfl))), rfl⟩
theorem m_246 : (Jvm.Cond.instanceMethod ({ cls := "java/lang/AbstractStringBuilder", name := "isLatin1", desc := "()Z" } : Jvm.MethodName)) ∈ hj_tbl := List.mem_filter.mpr ⟨List.mem_append_right _ (show _ ∈ tables_1 from List.mem_append_right _ (List.mem_append_left _ (List.mem_of_getElem? (i := 6) rfl))), rfl⟩
theorem m_248 : (Jvm.Cond.selects "java/lang/StringBuilder" ({ cls := "java/lang/AbstractStringBuilder", name := "isLatin1", desc := "()Z" } : Jvm.MethodName) ({ cls := "java/lang/AbstractStringBuilder", name := "isLatin1", desc := "()Z" } : Jvm.MethodName)) ∈ hj_tbl := List.mem_filter.mpr ⟨List.mem_append_right _ (show _ ∈ tables_1 from List.mem_append_right _ (List.mem_append_left _ (List.mem_of_getElem? (i := 8) rfl))), rfl⟩
theorem m_249 : (Jvm.Cond.code ({ cls := "java/lang/AbstractStringBuilder", name := "isLatin1", desc := "()Z" } : Jvm.MethodName) prog_6_method_68_code (1 : Nat) (Option.some Jvm.ClassFile.FieldType.boolean)) ∈ hj_tbl := List.mem_filter.mpr ⟨List.mem_append_right _ (show _ ∈ tables_1 from List.mem_append_right _ (List.mem_append_left _ (List.mem_of_getElem? (i := 9) rfl))), rfl⟩
theorem m_250 : (Jvm.Cond.methodLink "java/lang/AbstractStringBuilder" (226 : Nat) ({ cls := "java/lang/StringUTF16", name := "putCharsAt", desc := "([BICCCC)I" } : Jvm.MethodName)) ∈ hj_tbl := List.mem_filter.mpr ⟨List.mem_append_right _ (show _ ∈ tables_1 from List.mem_append_right _ (List.mem_append_left _ (List.mem_of_getElem? (i := 10) rfl))), rfl⟩
theorem m_251 : (Jvm.Cond.static ({ cls := "java/lang/StringUTF16", name := "putCharsAt", desc := "([BICCCC)I" } : Jvm.MethodName)) ∈ hj_tbl := List.mem_filter.mpr ⟨List.mem_append_right _ (show _ ∈ tables_1 from List.mem_append_right _ (List.mem_append_left _ (List.mem_of_getElem? (i := 11) rfl))), rfl⟩
theorem m_252 : (Jvm.Cond.code ({ cls := "java/lang/StringUTF16", name := "putCharsAt", desc := "([BICCCC)I" } : Jvm.MethodName) prog_17_method_81_code (7 : Nat) (Option.some Jvm.ClassFile.FieldType.int)) ∈ hj_tbl := List.mem_filter.mpr ⟨List.mem_append_right _ (show _ ∈ tables_1 from List.mem_append_right _ (List.mem_append_left _ (List.mem_of_getElem? (i := 12) rfl))), rfl⟩
theorem m_253 : (Jvm.Cond.methodLink "java/lang/StringUTF16" (96 : Nat) ({ cls := "java/lang/StringUTF16", name := "checkBoundsBeginEnd", desc := "(II[B)V" } : Jvm.MethodName)) ∈ hj_tbl := List.mem_filter.mpr ⟨List.mem_append_right _ (show _ ∈ tables_1 from List.mem_append_right _ (List.mem_append_left _ (List.mem_of_getElem? (i := 13) rfl))), rfl⟩
theorem m_254 : (Jvm.Cond.static ({ cls := "java/lang/StringUTF16", name := "checkBoundsBeginEnd", desc := "(II[B)V" } : Jvm.MethodName)) ∈ hj_tbl := List.mem_filter.mpr ⟨List.mem_append_right _ (show _ ∈ tables_1 from List.mem_append_right _ (List.mem_append_left _ (List.mem_of_getElem? (i := 14) rfl))), rfl⟩
theorem m_255 : (Jvm.Cond.code ({ cls := "java/lang/StringUTF16", name := "checkBoundsBeginEnd", desc := "(II[B)V" } : Jvm.MethodName) prog_17_method_93_code (3 : Nat) (Option.none : Option Jvm.ClassFile.FieldType)) ∈ hj_tbl := List.mem_filter.mpr ⟨List.mem_append_right _ (show _ ∈ tables_1 from List.mem_append_right _ (List.mem_append_left _ (List.mem_of_getElem? (i := 15) rfl))), rfl⟩
theorem m_256 : (Jvm.Cond.methodLink "java/lang/StringUTF16" (48 : Nat) ({ cls := "java/lang/StringUTF16", name := "length", desc := "([B)I" } : Jvm.MethodName)) ∈ hj_tbl := List.mem_filter.mpr ⟨List.mem_append_right _ (show _ ∈ tables_1 from List.mem_append_right _ (List.mem_append_left _ (List.mem_of_getElem? (i := 16) rfl))), rfl⟩
theorem m_257 : (Jvm.Cond.static ({ cls := "java/lang/StringUTF16", name := "length", desc := "([B)I" } : Jvm.MethodName)) ∈ hj_tbl := List.mem_filter.mpr ⟨List.mem_append_right _ (show _ ∈ tables_1 from List.mem_append_right _ (List.mem_append_left _ (List.mem_of_getElem? (i := 17) rfl))), rfl⟩
theorem m_258 : (Jvm.Cond.code ({ cls := "java/lang/StringUTF16", name := "length", desc := "([B)I" } : Jvm.MethodName) prog_17_method_6_code (1 : Nat) (Option.some Jvm.ClassFile.FieldType.int)) ∈ hj_tbl := List.mem_filter.mpr ⟨List.mem_append_right _ (show _ ∈ tables_1 from List.mem_append_right _ (List.mem_append_left _ (List.mem_of_getElem? (i := 18) rfl))), rfl⟩
theorem m_259 : (Jvm.Cond.methodLink "java/lang/StringUTF16" (241 : Nat) ({ cls := "java/lang/String", name := "checkBoundsBeginEnd", desc := "(III)V" } : Jvm.MethodName)) ∈ hj_tbl := List.mem_filter.mpr ⟨List.mem_append_right _ (show _ ∈ tables_1 from List.mem_append_right _ (List.mem_append_left _ (List.mem_of_getElem? (i := 19) rfl))), rfl⟩
theorem m_260 : (Jvm.Cond.static ({ cls := "java/lang/String", name := "checkBoundsBeginEnd", desc := "(III)V" } : Jvm.MethodName)) ∈ hj_tbl := List.mem_filter.mpr ⟨List.mem_append_right _ (show _ ∈ tables_1 from List.mem_append_right _ (List.mem_append_left _ (List.mem_of_getElem? (i := 20) rfl))), rfl⟩
theorem m_261 : (Jvm.Cond.code ({ cls := "java/lang/String", name := "checkBoundsBeginEnd", desc := "(III)V" } : Jvm.MethodName) prog_14_method_158_code (3 : Nat) (Option.none : Option Jvm.ClassFile.FieldType)) ∈ hj_tbl := List.mem_filter.mpr ⟨List.mem_append_right _ (show _ ∈ tables_1 from List.mem_append_right _ (List.mem_append_left _ (List.mem_of_getElem? (i := 21) rfl))), rfl⟩
theorem m_262 : (Jvm.Cond.fieldLink "java/lang/String" (1053 : Nat) "jdk/internal/util/Preconditions" "SIOOBE_FORMATTER" "Ljava/util/function/BiFunction;") ∈ hj_tbl := List.mem_filter.mpr ⟨List.mem_append_right _ (show _ ∈ tables_1 from List.mem_append_right _ (List.mem_append_left _ (List.mem_of_getElem? (i := 22) rfl))), rfl⟩
theorem m_264 : (Jvm.Cond.methodLink "java/lang/String" (1062 : Nat) ({ cls := "jdk/internal/util/Preconditions", name := "checkFromToIndex", desc := "(IIILjava/util/function/BiFunction;)I" } : Jvm.MethodName)) ∈ hj_tbl := List.mem_filter.mpr ⟨List.mem_append_right _ (show _ ∈ tables_1 from List.mem_append_right _ (List.mem_append_left _ (List.mem_of_getElem? (i := 24) rfl))), rfl⟩
theorem m_265 : (Jvm.Cond.static ({ cls := "jdk/internal/util/Preconditions", name := "checkFromToIndex", desc := "(IIILjava/util/function/BiFunction;)I" } : Jvm.MethodName)) ∈ hj_tbl := List.mem_filter.mpr ⟨List.mem_append_right _ (show _ ∈ tables_1 from List.mem_append_right _ (List.mem_append_left _ (List.mem_of_getElem? (i := 25) rfl))), rfl⟩
theorem m_266 : (Jvm.Cond.code ({ cls := "jdk/internal/util/Preconditions", name := "checkFromToIndex", desc := "(IIILjava/util/function/BiFunction;)I" } : Jvm.MethodName) prog_23_method_12_code (4 : Nat) (Option.some Jvm.ClassFile.FieldType.int)) ∈ hj_tbl := List.mem_filter.mpr ⟨List.mem_append_right _ (show _ ∈ tables_1 from List.mem_append_right _ (List.mem_append_left _ (List.mem_of_getElem? (i := 26) rfl))), rfl⟩
theorem m_267 : (Jvm.Cond.methodLink "java/lang/StringUTF16" (111 : Nat) ({ cls := "java/lang/StringUTF16", name := "putChar", desc := "([BII)V" } : Jvm.MethodName)) ∈ hj_tbl := List.mem_filter.mpr ⟨List.mem_append_right _ (show _ ∈ tables_1 from List.mem_append_right _ (List.mem_append_left _ (List.mem_of_getElem? (i := 27) rfl))), rfl⟩
theorem m_268 : (Jvm.Cond.static ({ cls := "java/lang/StringUTF16", name := "putChar", desc := "([BII)V" } : Jvm.MethodName)) ∈ hj_tbl := List.mem_filter.mpr ⟨List.mem_append_right _ (show _ ∈ tables_1 from List.mem_append_right _ (List.mem_append_left _ (List.mem_of_getElem? (i := 28) rfl))), rfl⟩
theorem m_269 : (Jvm.Cond.code ({ cls := "java/lang/StringUTF16", name := "putChar", desc := "([BII)V" } : Jvm.MethodName) prog_17_method_4_code (3 : Nat) (Option.none : Option Jvm.ClassFile.FieldType)) ∈ hj_tbl := List.mem_filter.mpr ⟨List.mem_append_right _ (show _ ∈ tables_1 from List.mem_append_right _ (List.mem_append_left _ (List.mem_of_getElem? (i := 29) rfl))), rfl⟩
theorem m_270 : (Jvm.Cond.fieldLink "java/lang/StringUTF16" (44 : Nat) "java/lang/StringUTF16" "$assertionsDisabled" "Z") ∈ hj_tbl := List.mem_filter.mpr ⟨List.mem_append_right _ (show _ ∈ tables_1 from List.mem_append_right _ (List.mem_append_left _ (List.mem_of_getElem? (i := 30) rfl))), rfl⟩
theorem m_272 : (Jvm.Cond.fieldLink "java/lang/StringUTF16" (59 : Nat) "java/lang/StringUTF16" "HI_BYTE_SHIFT" "I") ∈ hj_tbl := List.mem_filter.mpr ⟨List.mem_append_right _ (show _ ∈ tables_1 from List.mem_append_right _ (List.mem_append_left _ (List.mem_of_getElem? (i := 32) rfl))), rfl⟩
theorem m_274 : (Jvm.Cond.fieldLink "java/lang/StringUTF16" (63 : Nat) "java/lang/StringUTF16" "LO_BYTE_SHIFT" "I") ∈ hj_tbl := List.mem_filter.mpr ⟨List.mem_append_right _ (show _ ∈ tables_1 from List.mem_append_right _ (List.mem_append_left _ (List.mem_of_getElem? (i := 34) rfl))), rfl⟩
theorem m_276 : (Jvm.Cond.methodLink "java/lang/AbstractStringBuilder" (32 : Nat) ({ cls := "java/lang/String", name := "length", desc := "()I" } : Jvm.MethodName)) ∈ hj_tbl := List.mem_filter.mpr ⟨List.mem_append_right _ (show _ ∈ tables_1 from List.mem_append_right _ (List.mem_append_left _ (List.mem_of_getElem? (i := 36) rfl))), rfl⟩
theorem m_277 : (Jvm.Cond.instanceMethod ({ cls := "java/lang/String", name := "length", desc := "()I" } : Jvm.MethodName)) ∈ hj_tbl := List.mem_filter.mpr ⟨List.mem_append_right _ (show _ ∈ tables_1 from List.mem_append_right _ (List.mem_append_left _ (List.mem_of_getElem? (i := 37) rfl))), rfl⟩
theorem m_278 : (Jvm.Cond.selects "java/lang/String" ({ cls := "java/lang/String", name := "length", desc := "()I" } : Jvm.MethodName) ({ cls := "java/lang/String", name := "length", desc := "()I" } : Jvm.MethodName)) ∈ hj_tbl := List.mem_filter.mpr ⟨List.mem_append_right _ (show _ ∈ tables_1 from List.mem_append_right _ (List.mem_append_left _ (List.mem_of_getElem? (i := 38) rfl))), rfl⟩
theorem m_279 : (Jvm.Cond.code ({ cls := "java/lang/String", name := "length", desc := "()I" } : Jvm.MethodName) prog_14_method_54_code (1 : Nat) (Option.some Jvm.ClassFile.FieldType.int)) ∈ hj_tbl := List.mem_filter.mpr ⟨List.mem_append_right _ (show _ ∈ tables_1 from List.mem_append_right _ (List.mem_append_left _ (List.mem_of_getElem? (i := 39) rfl))), rfl⟩
theorem m_280 : (Jvm.Cond.methodLink "java/lang/String" (335 : Nat) ({ cls := "java/lang/String", name := "coder", desc := "()B" } : Jvm.MethodName)) ∈ hj_tbl := List.mem_filter.mpr ⟨List.mem_append_right _ (show _ ∈ tables_1 from List.mem_append_right _ (List.mem_append_left _ (List.mem_of_getElem? (i := 40) rfl))), rfl⟩
theorem m_281 : (Jvm.Cond.instanceMethod ({ cls := "java/lang/String", name := "coder", desc := "()B" } : Jvm.MethodName)) ∈ hj_tbl := List.mem_filter.mpr ⟨List.mem_append_right _ (show _ ∈ tables_1 from List.mem_append_right _ (List.mem_append_left _ (List.mem_of_getElem? (i := 41) rfl))), rfl⟩
theorem m_282 : (Jvm.Cond.selects "java/lang/String" ({ cls := "java/lang/String", name := "coder", desc := "()B" } : Jvm.MethodName) ({ cls := "java/lang/String", name := "coder", desc := "()B" } : Jvm.MethodName)) ∈ hj_tbl := List.mem_filter.mpr ⟨List.mem_append_right _ (show _ ∈ tables_1 from List.mem_append_right _ (List.mem_append_left _ (List.mem_of_getElem? (i := 42) rfl))), rfl⟩
theorem m_283 : (Jvm.Cond.code ({ cls := "java/lang/String", name := "coder", desc := "()B" } : Jvm.MethodName) prog_14_method_152_code (1 : Nat) (Option.some Jvm.ClassFile.FieldType.byte)) ∈ hj_tbl := List.mem_filter.mpr ⟨List.mem_append_right _ (show _ ∈ tables_1 from List.mem_append_right _ (List.mem_append_left _ (List.mem_of_getElem? (i := 43) rfl))), rfl⟩
theorem m_284 : (Jvm.Cond.fieldLink "java/lang/String" (38 : Nat) "java/lang/String" "COMPACT_STRINGS" "Z") ∈ hj_tbl := List.mem_filter.mpr ⟨List.mem_append_right _ (show _ ∈ tables_1 from List.mem_append_right _ (List.mem_append_left _ (List.mem_of_getElem? (i := 44) rfl))), rfl⟩
theorem m_285 : (Jvm.Cond.methodLink "java/lang/AbstractStringBuilder" (208 : Nat) ({ cls := "java/lang/AbstractStringBuilder", name := "putStringAt", desc := "(ILjava/lang/String;)V" } : Jvm.MethodName)) ∈ hj_tbl := List.mem_filter.mpr ⟨List.mem_append_right _ (show _ ∈ tables_1 from List.mem_append_right _ (List.mem_append_left _ (List.mem_of_getElem? (i := 45) rfl))), rfl⟩
theorem m_287 : (Jvm.Cond.instanceMethod ({ cls := "java/lang/AbstractStringBuilder", name := "putStringAt", desc := "(ILjava/lang/String;)V" } : Jvm.MethodName)) ∈ hj_tbl := List.mem_filter.mpr ⟨List.mem_append_right _ (show _ ∈ tables_1 from List.mem_append_right _ (List.mem_append_left _ (List.mem_of_getElem? (i := 47) rfl))), rfl⟩
theorem m_288 : (Jvm.Cond.code ({ cls := "java/lang/AbstractStringBuilder", name := "putStringAt", desc := "(ILjava/lang/String;)V" } : Jvm.MethodName) prog_6_method_73_code (3 : Nat) (Option.none : Option Jvm.ClassFile.FieldType)) ∈ hj_tbl := List.mem_filter.mpr ⟨List.mem_append_right _ (show _ ∈ tables_1 from List.mem_append_right _ (List.mem_append_left _ (List.mem_of_getElem? (i := 48) rfl))), rfl⟩
theorem m_289 : (Jvm.Cond.methodLink "java/lang/AbstractStringBuilder" (397 : Nat) ({ cls := "java/lang/AbstractStringBuilder", name := "inflateIfNeededFor", desc := "(Ljava/lang/String;)V" } : Jvm.MethodName)) ∈ hj_tbl := List.mem_filter.mpr ⟨List.mem_append_right _ (show _ ∈ tables_1 from List.mem_append_right _ (List.mem_append_left _ (List.mem_of_getElem? (i := 49) rfl))), rfl⟩
theorem m_291 : (Jvm.Cond.instanceMethod ({ cls := "java/lang/AbstractStringBuilder", name := "inflateIfNeededFor", desc := "(Ljava/lang/String;)V" } : Jvm.MethodName)) ∈ hj_tbl := List.mem_filter.mpr ⟨List.mem_append_right _ (show _ ∈ tables_1 from List.mem_append_right _ (List.mem_append_left _ (List.mem_of_getElem? (i := 51) rfl))), rfl⟩
theorem m_292 : (Jvm.Cond.code ({ cls := "java/lang/AbstractStringBuilder", name := "inflateIfNeededFor", desc := "(Ljava/lang/String;)V" } : Jvm.MethodName) prog_6_method_71_code (2 : Nat) (Option.none : Option Jvm.ClassFile.FieldType)) ∈ hj_tbl := List.mem_filter.mpr ⟨List.mem_append_right _ (show _ ∈ tables_1 from List.mem_append_right _ (List.mem_append_left _ (List.mem_of_getElem? (i := 52) rfl))), rfl⟩
theorem m_293 : (Jvm.Cond.methodLink "java/lang/AbstractStringBuilder" (40 : Nat) ({ cls := "java/lang/String", name := "coder", desc := "()B" } : Jvm.MethodName)) ∈ hj_tbl := List.mem_filter.mpr ⟨List.mem_append_right _ (show _ ∈ tables_1 from List.mem_append_right _ (List.mem_append_left _ (List.mem_of_getElem? (i := 53) rfl))), rfl⟩
theorem m_294 : (Jvm.Cond.methodLink "java/lang/AbstractStringBuilder" (195 : Nat) ({ cls := "java/lang/AbstractStringBuilder", name := "inflate", desc := "()V" } : Jvm.MethodName)) ∈ hj_tbl := List.mem_filter.mpr ⟨List.mem_append_right _ (show _ ∈ tables_1 from List.mem_append_right _ (List.mem_append_left _ (List.mem_of_getElem? (i := 54) rfl))), rfl⟩
theorem m_296 : (Jvm.Cond.instanceMethod ({ cls := "java/lang/AbstractStringBuilder", name := "inflate", desc := "()V" } : Jvm.MethodName)) ∈ hj_tbl := List.mem_filter.mpr ⟨List.mem_append_right _ (show _ ∈ tables_1 from List.mem_append_right _ (List.mem_append_left _ (List.mem_of_getElem? (i := 56) rfl))), rfl⟩
theorem m_297 : (Jvm.Cond.code ({ cls := "java/lang/AbstractStringBuilder", name := "inflate", desc := "()V" } : Jvm.MethodName) prog_6_method_11_code (2 : Nat) (Option.none : Option Jvm.ClassFile.FieldType)) ∈ hj_tbl := List.mem_filter.mpr ⟨List.mem_append_right _ (show _ ∈ tables_1 from List.mem_append_right _ (List.mem_append_left _ (List.mem_of_getElem? (i := 57) rfl))), rfl⟩
theorem m_298 : (Jvm.Cond.methodLink "java/lang/AbstractStringBuilder" (125 : Nat) ({ cls := "java/lang/StringLatin1", name := "inflate", desc := "([BI[BII)V" } : Jvm.MethodName)) ∈ hj_tbl := List.mem_filter.mpr ⟨List.mem_append_right _ (show _ ∈ tables_1 from List.mem_append_right _ (List.mem_append_left _ (List.mem_of_getElem? (i := 58) rfl))), rfl⟩
theorem m_299 : (Jvm.Cond.static ({ cls := "java/lang/StringLatin1", name := "inflate", desc := "([BI[BII)V" } : Jvm.MethodName)) ∈ hj_tbl := List.mem_filter.mpr ⟨List.mem_append_right _ (show _ ∈ tables_1 from List.mem_append_right _ (List.mem_append_left _ (List.mem_of_getElem? (i := 59) rfl))), rfl⟩
theorem m_300 : (Jvm.Cond.code ({ cls := "java/lang/StringLatin1", name := "inflate", desc := "([BI[BII)V" } : Jvm.MethodName) prog_16_method_50_code (5 : Nat) (Option.none : Option Jvm.ClassFile.FieldType)) ∈ hj_tbl := List.mem_filter.mpr ⟨List.mem_append_right _ (show _ ∈ tables_1 from List.mem_append_right _ (List.mem_append_left _ (List.mem_of_getElem? (i := 60) rfl))), rfl⟩
theorem m_301 : (Jvm.Cond.methodLink "java/lang/StringLatin1" (240 : Nat) ({ cls := "java/lang/StringUTF16", name := "inflate", desc := "([BI[BII)V" } : Jvm.MethodName)) ∈ hj_tbl := List.mem_filter.mpr ⟨List.mem_append_right _ (show _ ∈ tables_1 from List.mem_append_right _ (List.mem_append_left _ (List.mem_of_getElem? (i := 61) rfl))), rfl⟩
theorem m_302 : (Jvm.Cond.static ({ cls := "java/lang/StringUTF16", name := "inflate", desc := "([BI[BII)V" } : Jvm.MethodName)) ∈ hj_tbl := List.mem_filter.mpr ⟨List.mem_append_right _ (show _ ∈ tables_1 from List.mem_append_right _ (List.mem_append_left _ (List.mem_of_getElem? (i := 62) rfl))), rfl⟩
theorem m_303 : (Jvm.Cond.code ({ cls := "java/lang/StringUTF16", name := "inflate", desc := "([BI[BII)V" } : Jvm.MethodName) prog_17_method_86_code (6 : Nat) (Option.none : Option Jvm.ClassFile.FieldType)) ∈ hj_tbl := List.mem_filter.mpr ⟨List.mem_append_right _ (show _ ∈ tables_1 from List.mem_append_right _ (List.mem_append_left _ (List.mem_of_getElem? (i := 63) rfl))), rfl⟩
theorem m_304 : (Jvm.Cond.methodLink "java/lang/StringUTF16" (173 : Nat) ({ cls := "java/lang/StringUTF16", name := "checkBoundsOffCount", desc := "(II[B)V" } : Jvm.MethodName)) ∈ hj_tbl := List.mem_filter.mpr ⟨List.mem_append_right _ (show _ ∈ tables_1 from List.mem_append_right _ (List.mem_append_left _ (List.mem_of_getElem? (i := 64) rfl))), rfl⟩
theorem m_305 : (Jvm.Cond.static ({ cls := "java/lang/StringUTF16", name := "checkBoundsOffCount", desc := "(II[B)V" } : Jvm.MethodName)) ∈ hj_tbl := List.mem_filter.mpr ⟨List.mem_append_right _ (show _ ∈ tables_1 from List.mem_append_right _ (List.mem_append_left _ (List.mem_of_getElem? (i := 65) rfl))), rfl⟩
theorem m_306 : (Jvm.Cond.code ({ cls := "java/lang/StringUTF16", name := "checkBoundsOffCount", desc := "(II[B)V" } : Jvm.MethodName) prog_17_method_94_code (3 : Nat) (Option.none : Option Jvm.ClassFile.FieldType)) ∈ hj_tbl := List.mem_filter.mpr ⟨List.mem_append_right _ (show _ ∈ tables_1 from List.mem_append_right _ (List.mem_append_left _ (List.mem_of_getElem? (i := 66) rfl))), rfl⟩
theorem m_307 : (Jvm.Cond.methodLink "java/lang/StringUTF16" (419 : Nat) ({ cls := "java/lang/String", name := "checkBoundsOffCount", desc := "(III)I" } : Jvm.MethodName)) ∈ hj_tbl := List.mem_filter.mpr ⟨List.mem_append_right _ (show _ ∈ tables_1 from List.mem_append_right _ (List.mem_append_left _ (List.mem_of_getElem? (i := 67) rfl))), rfl⟩
theorem m_308 : (Jvm.Cond.static ({ cls := "java/lang/String", name := "checkBoundsOffCount", desc := "(III)I" } : Jvm.MethodName)) ∈ hj_tbl := List.mem_filter.mpr ⟨List.mem_append_right _ (show _ ∈ tables_1 from List.mem_append_right _ (List.mem_append_left _ (List.mem_of_getElem? (i := 68) rfl))), rfl⟩
theorem m_309 : (Jvm.Cond.code ({ cls := "java/lang/String", name := "checkBoundsOffCount", desc := "(III)I" } : Jvm.MethodName) prog_14_method_157_code (3 : Nat) (Option.some Jvm.ClassFile.FieldType.int)) ∈ hj_tbl := List.mem_filter.mpr ⟨List.mem_append_right _ (show _ ∈ tables_1 from List.mem_append_right _ (List.mem_append_left _ (List.mem_of_getElem? (i := 69) rfl))), rfl⟩
theorem m_310 : (Jvm.Cond.methodLink "java/lang/String" (1065 : Nat) ({ cls := "jdk/internal/util/Preconditions", name := "checkFromIndexSize", desc := "(IIILjava/util/function/BiFunction;)I" } : Jvm.MethodName)) ∈ hj_tbl := List.mem_filter.mpr ⟨List.mem_append_right _ (show _ ∈ tables_1 from List.mem_append_right _ (List.mem_append_left _ (List.mem_of_getElem? (i := 70) rfl))), rfl⟩
theorem m_311 : (Jvm.Cond.static ({ cls := "jdk/internal/util/Preconditions", name := "checkFromIndexSize", desc := "(IIILjava/util/function/BiFunction;)I" } : Jvm.MethodName)) ∈ hj_tbl := List.mem_filter.mpr ⟨List.mem_append_right _ (show _ ∈ tables_1 from List.mem_append_right _ (List.mem_append_left _ (List.mem_of_getElem? (i := 71) rfl))), rfl⟩
theorem m_312 : (Jvm.Cond.code ({ cls := "jdk/internal/util/Preconditions", name := "checkFromIndexSize", desc := "(IIILjava/util/function/BiFunction;)I" } : Jvm.MethodName) prog_23_method_13_code (4 : Nat) (Option.some Jvm.ClassFile.FieldType.int)) ∈ hj_tbl := List.mem_filter.mpr ⟨List.mem_append_right _ (show _ ∈ tables_1 from List.mem_append_right _ (List.mem_append_left _ (List.mem_of_getElem? (i := 72) rfl))), rfl⟩
theorem m_313 : (Jvm.Cond.methodLink "java/lang/AbstractStringBuilder" (399 : Nat) ({ cls := "java/lang/String", name := "getBytes", desc := "([BIB)V" } : Jvm.MethodName)) ∈ hj_tbl := List.mem_filter.mpr ⟨List.mem_append_right _ (show _ ∈ tables_1 from List.mem_append_right _ (List.mem_append_left _ (List.mem_of_getElem? (i := 73) rfl))), rfl⟩
theorem m_314 : (Jvm.Cond.instanceMethod ({ cls := "java/lang/String", name := "getBytes", desc := "([BIB)V" } : Jvm.MethodName)) ∈ hj_tbl := List.mem_filter.mpr ⟨List.mem_append_right _ (show _ ∈ tables_1 from List.mem_append_right _ (List.mem_append_left _ (List.mem_of_getElem? (i := 74) rfl))), rfl⟩
theorem m_315 : (Jvm.Cond.selects "java/lang/String" ({ cls := "java/lang/String", name := "getBytes", desc := "([BIB)V" } : Jvm.MethodName) ({ cls := "java/lang/String", name := "getBytes", desc := "([BIB)V" } : Jvm.MethodName)) ∈ hj_tbl := List.mem_filter.mpr ⟨List.mem_append_right _ (show _ ∈ tables_1 from List.mem_append_right _ (List.mem_append_left _ (List.mem_of_getElem? (i := 75) rfl))), rfl⟩
theorem m_316 : (Jvm.Cond.code ({ cls := "java/lang/String", name := "getBytes", desc := "([BIB)V" } : Jvm.MethodName) prog_14_method_147_code (4 : Nat) (Option.none : Option Jvm.ClassFile.FieldType)) ∈ hj_tbl := List.mem_filter.mpr ⟨List.mem_append_right _ (show _ ∈ tables_1 from List.mem_append_right _ (List.mem_append_left _ (List.mem_of_getElem? (i := 76) rfl))), rfl⟩
theorem m_317 : (Jvm.Cond.methodLink "java/lang/String" (212 : Nat) ({ cls := "java/lang/System", name := "arraycopy", desc := "(Ljava/lang/Object;ILjava/lang/Object;II)V" } : Jvm.MethodName)) ∈ hj_tbl := List.mem_filter.mpr ⟨List.mem_append_right _ (show _ ∈ tables_1 from List.mem_append_right _ (List.mem_append_left _ (List.mem_of_getElem? (i := 77) rfl))), rfl⟩
theorem m_318 : (Jvm.Cond.methodLink "java/lang/String" (106 : Nat) ({ cls := "java/lang/StringLatin1", name := "inflate", desc := "([BI[BII)V" } : Jvm.MethodName)) ∈ hj_tbl := List.mem_filter.mpr ⟨List.mem_append_right _ (show _ ∈ tables_1 from List.mem_append_right _ (List.mem_append_left _ (List.mem_of_getElem? (i := 78) rfl))), rfl⟩
theorem m_319 : (Jvm.Cond.methodLink "java/util/Arrays" (54 : Nat) ({ cls := "java/lang/StringBuilder", name := "append", desc := "(I)Ljava/lang/StringBuilder;" } : Jvm.MethodName)) ∈ hj_tbl := List.mem_filter.mpr ⟨List.mem_append_right _ (show _ ∈ tables_1 from List.mem_append_right _ (List.mem_append_left _ (List.mem_of_getElem? (i := 79) rfl))), rfl⟩
theorem m_320 : (Jvm.Cond.instanceMethod ({ cls := "java/lang/StringBuilder", name := "append", desc := "(I)Ljava/lang/StringBuilder;" } : Jvm.MethodName)) ∈ hj_tbl := List.mem_filter.mpr ⟨List.mem_append_right _ (show _ ∈ tables_1 from List.mem_append_right _ (List.mem_append_left _ (List.mem_of_getElem? (i := 80) rfl))), rfl⟩
theorem m_321 : (Jvm.Cond.selects "java/lang/StringBuilder" ({ cls := "java/lang/StringBuilder", name := "append", desc := "(I)Ljava/lang/StringBuilder;" } : Jvm.MethodName) ({ cls := "java/lang/StringBuilder", name := "append", desc := "(I)Ljava/lang/StringBuilder;" } : Jvm.MethodName)) ∈ hj_tbl := List.mem_filter.mpr ⟨List.mem_append_right _ (show _ ∈ tables_1 from List.mem_append_right _ (List.mem_append_left _ (List.mem_of_getElem? (i := 81) rfl))), rfl⟩
theorem m_322 : (Jvm.Cond.code ({ cls := "java/lang/StringBuilder", name := "append", desc := "(I)Ljava/lang/StringBuilder;" } : Jvm.MethodName) prog_15_method_15_code (2 : Nat) (Option.some (Jvm.ClassFile.FieldType.object "java/lang/StringBuilder"))) ∈ hj_tbl := List.mem_filter.mpr ⟨List.mem_append_right _ (show _ ∈ tables_1 from List.mem_append_right _ (List.mem_append_left _ (List.mem_of_getElem? (i := 82) rfl))), rfl⟩
theorem m_323 : (Jvm.Cond.methodLink "java/lang/StringBuilder" (53 : Nat) ({ cls := "java/lang/AbstractStringBuilder", name := "append", desc := "(I)Ljava/lang/AbstractStringBuilder;" } : Jvm.MethodName)) ∈ hj_tbl := List.mem_filter.mpr ⟨List.mem_append_right _ (show _ ∈ tables_1 from List.mem_append_right _ (List.mem_append_left _ (List.mem_of_getElem? (i := 83) rfl))), rfl⟩
theorem m_324 : (Jvm.Cond.instanceMethod ({ cls := "java/lang/AbstractStringBuilder", name := "append", desc := "(I)Ljava/lang/AbstractStringBuilder;" } : Jvm.MethodName)) ∈ hj_tbl := List.mem_filter.mpr ⟨List.mem_append_right _ (show _ ∈ tables_1 from List.mem_append_right _ (List.mem_append_left _ (List.mem_of_getElem? (i := 84) rfl))), rfl⟩
theorem m_325 : (Jvm.Cond.code ({ cls := "java/lang/AbstractStringBuilder", name := "append", desc := "(I)Ljava/lang/AbstractStringBuilder;" } : Jvm.MethodName) prog_6_method_32_code (4 : Nat) (Option.some (Jvm.ClassFile.FieldType.object "java/lang/AbstractStringBuilder"))) ∈ hj_tbl := List.mem_filter.mpr ⟨List.mem_append_right _ (show _ ∈ tables_1 from List.mem_append_right _ (List.mem_append_left _ (List.mem_of_getElem? (i := 85) rfl))), rfl⟩
theorem m_326 : (Jvm.Cond.methodLink "java/lang/AbstractStringBuilder" (245 : Nat) ({ cls := "java/lang/Integer", name := "stringSize", desc := "(I)I" } : Jvm.MethodName)) ∈ hj_tbl := List.mem_filter.mpr ⟨List.mem_append_right _ (show _ ∈ tables_1 from List.mem_append_right _ (List.mem_append_left _ (List.mem_of_getElem? (i := 86) rfl))), rfl⟩
theorem m_327 : (Jvm.Cond.static ({ cls := "java/lang/Integer", name := "stringSize", desc := "(I)I" } : Jvm.MethodName)) ∈ hj_tbl := List.mem_filter.mpr ⟨List.mem_append_right _ (show _ ∈ tables_1 from List.mem_append_right _ (List.mem_append_left _ (List.mem_of_getElem? (i := 87) rfl))), rfl⟩
theorem m_328 : (Jvm.Cond.code ({ cls := "java/lang/Integer", name := "stringSize", desc := "(I)I" } : Jvm.MethodName) prog_11_method_13_code (4 : Nat) (Option.some Jvm.ClassFile.FieldType.int)) ∈ hj_tbl := List.mem_filter.mpr ⟨List.mem_append_right _ (show _ ∈ tables_1 from List.mem_append_right _ (List.mem_append_left _ (List.mem_of_getElem? (i := 88) rfl))), rfl⟩
theorem m_329 : (Jvm.Cond.methodLink "java/lang/AbstractStringBuilder" (248 : Nat) ({ cls := "java/lang/Integer", name := "getChars", desc := "(II[B)I" } : Jvm.MethodName)) ∈ hj_tbl := List.mem_filter.mpr ⟨List.mem_append_right _ (show _ ∈ tables_1 from List.mem_append_right _ (List.mem_append_left _ (List.mem_of_getElem? (i := 89) rfl))), rfl⟩
theorem m_330 : (Jvm.Cond.static ({ cls := "java/lang/Integer", name := "getChars", desc := "(II[B)I" } : Jvm.MethodName)) ∈ hj_tbl := List.mem_filter.mpr ⟨List.mem_append_right _ (show _ ∈ tables_1 from List.mem_append_right _ (List.mem_append_left _ (List.mem_of_getElem? (i := 90) rfl))), rfl⟩
theorem m_331 : (Jvm.Cond.code ({ cls := "java/lang/Integer", name := "getChars", desc := "(II[B)I" } : Jvm.MethodName) prog_11_method_12_code (7 : Nat) (Option.some Jvm.ClassFile.FieldType.int)) ∈ hj_tbl := List.mem_filter.mpr ⟨List.mem_append_right _ (show _ ∈ tables_1 from List.mem_append_right _ (List.mem_append_left _ (List.mem_of_getElem? (i := 91) rfl))), rfl⟩
theorem m_332 : (Jvm.Cond.fieldLink "java/lang/Integer" (83 : Nat) "java/lang/Integer" "DigitOnes" "[B") ∈ hj_tbl := List.mem_filter.mpr ⟨List.mem_append_right _ (show _ ∈ tables_1 from List.mem_append_right _ (List.mem_append_left _ (List.mem_of_getElem? (i := 92) rfl))), rfl⟩
theorem m_334 : (Jvm.Cond.fieldLink "java/lang/Integer" (87 : Nat) "java/lang/Integer" "DigitTens" "[B") ∈ hj_tbl := List.mem_filter.mpr ⟨List.mem_append_right _ (show _ ∈ tables_1 from List.mem_append_right _ (List.mem_append_left _ (List.mem_of_getElem? (i := 94) rfl))), rfl⟩
theorem m_336 : (Jvm.Cond.methodLink "java/lang/AbstractStringBuilder" (251 : Nat) ({ cls := "java/lang/StringUTF16", name := "getChars", desc := "(III[B)I" } : Jvm.MethodName)) ∈ hj_tbl := List.mem_filter.mpr ⟨List.mem_append_right _ (show _ ∈ tables_1 from List.mem_append_right _ (List.mem_append_left _ (List.mem_of_getElem? (i := 96) rfl))), rfl⟩
theorem m_337 : (Jvm.Cond.static ({ cls := "java/lang/StringUTF16", name := "getChars", desc := "(III[B)I" } : Jvm.MethodName)) ∈ hj_tbl := List.mem_filter.mpr ⟨List.mem_append_right _ (show _ ∈ tables_1 from List.mem_append_right _ (List.mem_append_left _ (List.mem_of_getElem? (i := 97) rfl))), rfl⟩
theorem m_338 : (Jvm.Cond.code ({ cls := "java/lang/StringUTF16", name := "getChars", desc := "(III[B)I" } : Jvm.MethodName) prog_17_method_77_code (5 : Nat) (Option.some Jvm.ClassFile.FieldType.int)) ∈ hj_tbl := List.mem_filter.mpr ⟨List.mem_append_right _ (show _ ∈ tables_1 from List.mem_append_right _ (List.mem_append_left _ (List.mem_of_getElem? (i := 98) rfl))), rfl⟩
theorem m_339 : (Jvm.Cond.methodLink "java/lang/StringUTF16" (393 : Nat) ({ cls := "java/lang/StringUTF16", name := "getChars", desc := "(II[B)I" } : Jvm.MethodName)) ∈ hj_tbl := List.mem_filter.mpr ⟨List.mem_append_right _ (show _ ∈ tables_1 from List.mem_append_right _ (List.mem_append_left _ (List.mem_of_getElem? (i := 99) rfl))), rfl⟩
theorem m_340 : (Jvm.Cond.static ({ cls := "java/lang/StringUTF16", name := "getChars", desc := "(II[B)I" } : Jvm.MethodName)) ∈ hj_tbl := List.mem_filter.mpr ⟨List.mem_append_right _ (show _ ∈ tables_1 from List.mem_append_right _ (List.mem_append_left _ (List.mem_of_getElem? (i := 100) rfl))), rfl⟩
theorem m_341 : (Jvm.Cond.code ({ cls := "java/lang/StringUTF16", name := "getChars", desc := "(II[B)I" } : Jvm.MethodName) prog_17_method_89_code (7 : Nat) (Option.some Jvm.ClassFile.FieldType.int)) ∈ hj_tbl := List.mem_filter.mpr ⟨List.mem_append_right _ (show _ ∈ tables_1 from List.mem_append_right _ (List.mem_append_left _ (List.mem_of_getElem? (i := 101) rfl))), rfl⟩
theorem m_342 : (Jvm.Cond.fieldLink "java/lang/StringUTF16" (403 : Nat) "java/lang/Integer" "DigitOnes" "[B") ∈ hj_tbl := List.mem_filter.mpr ⟨List.mem_append_right _ (show _ ∈ tables_1 from List.mem_append_right _ (List.mem_append_left _ (List.mem_of_getElem? (i := 102) rfl))), rfl⟩
theorem m_343 : (Jvm.Cond.fieldLink "java/lang/StringUTF16" (407 : Nat) "java/lang/Integer" "DigitTens" "[B") ∈ hj_tbl := List.mem_filter.mpr ⟨List.mem_append_right _ (show _ ∈ tables_1 from List.mem_append_right _ (List.mem_append_left _ (List.mem_of_getElem? (i := 103) rfl))), rfl⟩
theorem m_346 : (Jvm.Cond.methodLink "java/util/Arrays" (61 : Nat) ({ cls := "java/lang/StringBuilder", name := "toString", desc := "()Ljava/lang/String;" } : Jvm.MethodName)) ∈ hj_tbl := List.mem_filter.mpr ⟨List.mem_append_right _ (show _ ∈ tables_1 from List.mem_append_right _ (List.mem_append_left _ (List.mem_of_getElem? (i := 106) rfl))), rfl⟩
theorem m_347 : (Jvm.Cond.instanceMethod ({ cls := "java/lang/StringBuilder", name := "toString", desc := "()Ljava/lang/String;" } : Jvm.MethodName)) ∈ hj_tbl := List.mem_filter.mpr ⟨List.mem_append_right _ (show _ ∈ tables_1 from List.mem_append_right _ (List.mem_append_left _ (List.mem_of_getElem? (i := 107) rfl))), rfl⟩
theorem m_348 : (Jvm.Cond.selects "java/lang/StringBuilder" ({ cls := "java/lang/StringBuilder", name := "toString", desc := "()Ljava/lang/String;" } : Jvm.MethodName) ({ cls := "java/lang/StringBuilder", name := "toString", desc := "()Ljava/lang/String;" } : Jvm.MethodName)) ∈ hj_tbl := List.mem_filter.mpr ⟨List.mem_append_right _ (show _ ∈ tables_1 from List.mem_append_right _ (List.mem_append_left _ (List.mem_of_getElem? (i := 108) rfl))), rfl⟩
theorem m_349 : (Jvm.Cond.code ({ cls := "java/lang/StringBuilder", name := "toString", desc := "()Ljava/lang/String;" } : Jvm.MethodName) prog_15_method_42_code (1 : Nat) (Option.some (Jvm.ClassFile.FieldType.object "java/lang/String"))) ∈ hj_tbl := List.mem_filter.mpr ⟨List.mem_append_right _ (show _ ∈ tables_1 from List.mem_append_right _ (List.mem_append_left _ (List.mem_of_getElem? (i := 109) rfl))), rfl⟩
theorem m_350 : (Jvm.Cond.classLink "java/lang/StringBuilder" (18 : Nat) "java/lang/String") ∈ hj_tbl := List.mem_filter.mpr ⟨List.mem_append_right _ (show _ ∈ tables_1 from List.mem_append_right _ (List.mem_append_left _ (List.mem_of_getElem? (i := 110) rfl))), rfl⟩
theorem m_351 : (Jvm.Cond.instantiable "java/lang/String" (4 : Nat)) ∈ hj_tbl := List.mem_filter.mpr ⟨List.mem_append_right _ (show _ ∈ tables_1 from List.mem_append_right _ (List.mem_append_left _ (List.mem_of_getElem? (i := 111) rfl))), rfl⟩
theorem m_352 : (Jvm.Cond.methodLink "java/lang/StringBuilder" (137 : Nat) ({ cls := "java/lang/String", name := "<init>", desc := "(Ljava/lang/StringBuilder;)V" } : Jvm.MethodName)) ∈ hj_tbl := List.mem_filter.mpr ⟨List.mem_append_right _ (show _ ∈ tables_1 from List.mem_append_right _ (List.mem_append_left _ (List.mem_of_getElem? (i := 112) rfl))), rfl⟩
theorem m_353 : (Jvm.Cond.instanceMethod ({ cls := "java/lang/String", name := "<init>", desc := "(Ljava/lang/StringBuilder;)V" } : Jvm.MethodName)) ∈ hj_tbl := List.mem_filter.mpr ⟨List.mem_append_right _ (show _ ∈ tables_1 from List.mem_append_right _ (List.mem_append_left _ (List.mem_of_getElem? (i := 113) rfl))), rfl⟩
theorem m_354 : (Jvm.Cond.code ({ cls := "java/lang/String", name := "<init>", desc := "(Ljava/lang/StringBuilder;)V" } : Jvm.MethodName) prog_14_method_53_code (2 : Nat) (Option.none : Option Jvm.ClassFile.FieldType)) ∈ hj_tbl := List.mem_filter.mpr ⟨List.mem_append_right _ (show _ ∈ tables_1 from List.mem_append_right _ (List.mem_append_left _ (List.mem_of_getElem? (i := 114) rfl))), rfl⟩
theorem m_355 : (Jvm.Cond.methodLink "java/lang/String" (489 : Nat) ({ cls := "java/lang/String", name := "<init>", desc := "(Ljava/lang/AbstractStringBuilder;Ljava/lang/Void;)V" } : Jvm.MethodName)) ∈ hj_tbl := List.mem_filter.mpr ⟨List.mem_append_right _ (show _ ∈ tables_1 from List.mem_append_right _ (List.mem_append_left _ (List.mem_of_getElem? (i := 115) rfl))), rfl⟩
theorem m_356 : (Jvm.Cond.instanceMethod ({ cls := "java/lang/String", name := "<init>", desc := "(Ljava/lang/AbstractStringBuilder;Ljava/lang/Void;)V" } : Jvm.MethodName)) ∈ hj_tbl := List.mem_filter.mpr ⟨List.mem_append_right _ (show _ ∈ tables_1 from List.mem_append_right _ (List.mem_append_left _ (List.mem_of_getElem? (i := 116) rfl))), rfl⟩
theorem m_357 : (Jvm.Cond.code ({ cls := "java/lang/String", name := "<init>", desc := "(Ljava/lang/AbstractStringBuilder;Ljava/lang/Void;)V" } : Jvm.MethodName) prog_14_method_150_code (5 : Nat) (Option.none : Option Jvm.ClassFile.FieldType)) ∈ hj_tbl := List.mem_filter.mpr ⟨List.mem_append_right _ (show _ ∈ tables_1 from List.mem_append_right _ (List.mem_append_left _ (List.mem_of_getElem? (i := 117) rfl))), rfl⟩
theorem m_358 : (Jvm.Cond.methodLink "java/lang/String" (1 : Nat) ({ cls := "java/lang/Object", name := "<init>", desc := "()V" } : Jvm.MethodName)) ∈ hj_tbl := List.mem_filter.mpr ⟨List.mem_append_right _ (show _ ∈ tables_1 from List.mem_append_right _ (List.mem_append_left _ (List.mem_of_getElem? (i := 118) rfl))), rfl⟩
theorem m_359 : (Jvm.Cond.methodLink "java/lang/String" (552 : Nat) ({ cls := "java/lang/AbstractStringBuilder", name := "getValue", desc := "()[B" } : Jvm.MethodName)) ∈ hj_tbl := List.mem_filter.mpr ⟨List.mem_append_right _ (show _ ∈ tables_1 from List.mem_append_right _ (List.mem_append_left _ (List.mem_of_getElem? (i := 119) rfl))), rfl⟩
theorem m_360 : (Jvm.Cond.instanceMethod ({ cls := "java/lang/AbstractStringBuilder", name := "getValue", desc := "()[B" } : Jvm.MethodName)) ∈ hj_tbl := List.mem_filter.mpr ⟨List.mem_append_right _ (show _ ∈ tables_1 from List.mem_append_right _ (List.mem_append_left _ (List.mem_of_getElem? (i := 120) rfl))), rfl⟩
theorem m_362 : (Jvm.Cond.selects "java/lang/StringBuilder" ({ cls := "java/lang/AbstractStringBuilder", name := "getValue", desc := "()[B" } : Jvm.MethodName) ({ cls := "java/lang/AbstractStringBuilder", name := "getValue", desc := "()[B" } : Jvm.MethodName)) ∈ hj_tbl := List.mem_filter.mpr ⟨List.mem_append_right _ (show _ ∈ tables_1 from List.mem_append_right _ (List.mem_append_left _ (List.mem_of_getElem? (i := 122) rfl))), rfl⟩
theorem m_363 : (Jvm.Cond.code ({ cls := "java/lang/AbstractStringBuilder", name := "getValue", desc := "()[B" } : Jvm.MethodName) prog_6_method_64_code (1 : Nat) (Option.some (Jvm.ClassFile.FieldType.array Jvm.ClassFile.FieldType.byte))) ∈ hj_tbl := List.mem_filter.mpr ⟨List.mem_append_right _ (show _ ∈ tables_1 from List.mem_append_right _ (List.mem_append_left _ (List.mem_of_getElem? (i := 123) rfl))), rfl⟩
theorem m_364 : (Jvm.Cond.methodLink "java/lang/String" (549 : Nat) ({ cls := "java/lang/AbstractStringBuilder", name := "length", desc := "()I" } : Jvm.MethodName)) ∈ hj_tbl := List.mem_filter.mpr ⟨List.mem_append_right _ (show _ ∈ tables_1 from List.mem_append_right _ (List.mem_append_left _ (List.mem_of_getElem? (i := 124) rfl))), rfl⟩
theorem m_365 : (Jvm.Cond.instanceMethod ({ cls := "java/lang/AbstractStringBuilder", name := "length", desc := "()I" } : Jvm.MethodName)) ∈ hj_tbl := List.mem_filter.mpr ⟨List.mem_append_right _ (show _ ∈ tables_1 from List.mem_append_right _ (List.mem_append_left _ (List.mem_of_getElem? (i := 125) rfl))), rfl⟩
theorem m_367 : (Jvm.Cond.selects "java/lang/StringBuilder" ({ cls := "java/lang/AbstractStringBuilder", name := "length", desc := "()I" } : Jvm.MethodName) ({ cls := "java/lang/StringBuilder", name := "length", desc := "()I" } : Jvm.MethodName)) ∈ hj_tbl := List.mem_filter.mpr ⟨List.mem_append_right _ (show _ ∈ tables_1 from List.mem_append_right _ (List.mem_append_left _ (List.mem_of_getElem? (i := 127) rfl))), rfl⟩
theorem m_368 : (Jvm.Cond.instanceMethod ({ cls := "java/lang/StringBuilder", name := "length", desc := "()I" } : Jvm.MethodName)) ∈ hj_tbl := List.mem_filter.mpr ⟨List.mem_append_right _ (show _ ∈ tables_1 from List.mem_append_right _ (List.mem_append_left _ (List.mem_of_getElem? (i := 128) rfl))), rfl⟩
theorem m_369 : (Jvm.Cond.code ({ cls := "java/lang/StringBuilder", name := "length", desc := "()I" } : Jvm.MethodName) prog_15_method_93_code (1 : Nat) (Option.some Jvm.ClassFile.FieldType.int)) ∈ hj_tbl := List.mem_filter.mpr ⟨List.mem_append_right _ (show _ ∈ tables_1 from List.mem_append_right _ (List.mem_append_left _ (List.mem_of_getElem? (i := 129) rfl))), rfl⟩
theorem m_370 : (Jvm.Cond.methodLink "java/lang/StringBuilder" (343 : Nat) ({ cls := "java/lang/AbstractStringBuilder", name := "length", desc := "()I" } : Jvm.MethodName)) ∈ hj_tbl := List.mem_filter.mpr ⟨List.mem_append_right _ (show _ ∈ tables_1 from List.mem_append_right _ (List.mem_append_left _ (List.mem_of_getElem? (i := 130) rfl))), rfl⟩
theorem m_371 : (Jvm.Cond.code ({ cls := "java/lang/AbstractStringBuilder", name := "length", desc := "()I" } : Jvm.MethodName) prog_6_method_6_code (1 : Nat) (Option.some Jvm.ClassFile.FieldType.int)) ∈ hj_tbl := List.mem_filter.mpr ⟨List.mem_append_right _ (show _ ∈ tables_1 from List.mem_append_right _ (List.mem_append_left _ (List.mem_of_getElem? (i := 131) rfl))), rfl⟩
theorem m_372 : (Jvm.Cond.methodLink "java/lang/String" (1047 : Nat) ({ cls := "java/lang/AbstractStringBuilder", name := "isLatin1", desc := "()Z" } : Jvm.MethodName)) ∈ hj_tbl := List.mem_filter.mpr ⟨List.mem_append_right _ (show _ ∈ tables_1 from List.mem_append_right _ (List.mem_append_left _ (List.mem_of_getElem? (i := 132) rfl))), rfl⟩
theorem m_373 : (Jvm.Cond.methodLink "java/lang/String" (54 : Nat) ({ cls := "java/util/Arrays", name := "copyOfRange", desc := "([BII)[B" } : Jvm.MethodName)) ∈ hj_tbl := List.mem_filter.mpr ⟨List.mem_append_right _ (show _ ∈ tables_1 from List.mem_append_right _ (List.mem_append_left _ (List.mem_of_getElem? (i := 133) rfl))), rfl⟩
theorem m_374 : (Jvm.Cond.static ({ cls := "java/util/Arrays", name := "copyOfRange", desc := "([BII)[B" } : Jvm.MethodName)) ∈ hj_tbl := List.mem_filter.mpr ⟨List.mem_append_right _ (show _ ∈ tables_1 from List.mem_append_right _ (List.mem_append_left _ (List.mem_of_getElem? (i := 134) rfl))), rfl⟩
theorem m_375 : (Jvm.Cond.code ({ cls := "java/util/Arrays", name := "copyOfRange", desc := "([BII)[B" } : Jvm.MethodName) prog_21_method_132_code (3 : Nat) (Option.some (Jvm.ClassFile.FieldType.array Jvm.ClassFile.FieldType.byte))) ∈ hj_tbl := List.mem_filter.mpr ⟨List.mem_append_right _ (show _ ∈ tables_1 from List.mem_append_right _ (List.mem_append_left _ (List.mem_of_getElem? (i := 135) rfl))), rfl⟩
theorem m_376 : (Jvm.Cond.methodLink "java/util/Arrays" (339 : Nat) ({ cls := "java/util/Arrays", name := "copyOfRangeByte", desc := "([BII)[B" } : Jvm.MethodName)) ∈ hj_tbl := List.mem_filter.mpr ⟨List.mem_append_right _ (show _ ∈ tables_1 from List.mem_append_right _ (List.mem_append_left _ (List.mem_of_getElem? (i := 136) rfl))), rfl⟩
theorem m_377 : (Jvm.Cond.static ({ cls := "java/util/Arrays", name := "copyOfRangeByte", desc := "([BII)[B" } : Jvm.MethodName)) ∈ hj_tbl := List.mem_filter.mpr ⟨List.mem_append_right _ (show _ ∈ tables_1 from List.mem_append_right _ (List.mem_append_left _ (List.mem_of_getElem? (i := 137) rfl))), rfl⟩
theorem m_378 : (Jvm.Cond.code ({ cls := "java/util/Arrays", name := "copyOfRangeByte", desc := "([BII)[B" } : Jvm.MethodName) prog_21_method_133_code (5 : Nat) (Option.some (Jvm.ClassFile.FieldType.array Jvm.ClassFile.FieldType.byte))) ∈ hj_tbl := List.mem_filter.mpr ⟨List.mem_append_right _ (show _ ∈ tables_1 from List.mem_append_right _ (List.mem_append_left _ (List.mem_of_getElem? (i := 138) rfl))), rfl⟩
theorem m_379 : (Jvm.Cond.methodLink "java/util/Arrays" (343 : Nat) ({ cls := "java/util/Arrays", name := "checkLength", desc := "(II)V" } : Jvm.MethodName)) ∈ hj_tbl := List.mem_filter.mpr ⟨List.mem_append_right _ (show _ ∈ tables_1 from List.mem_append_right _ (List.mem_append_left _ (List.mem_of_getElem? (i := 139) rfl))), rfl⟩
theorem m_380 : (Jvm.Cond.static ({ cls := "java/util/Arrays", name := "checkLength", desc := "(II)V" } : Jvm.MethodName)) ∈ hj_tbl := List.mem_filter.mpr ⟨List.mem_append_right _ (show _ ∈ tables_1 from List.mem_append_right _ (List.mem_append_left _ (List.mem_of_getElem? (i := 140) rfl))), rfl⟩
theorem m_381 : (Jvm.Cond.code ({ cls := "java/util/Arrays", name := "checkLength", desc := "(II)V" } : Jvm.MethodName) prog_21_method_131_code (2 : Nat) (Option.none : Option Jvm.ClassFile.FieldType)) ∈ hj_tbl := List.mem_filter.mpr ⟨List.mem_append_right _ (show _ ∈ tables_1 from List.mem_append_right _ (List.mem_append_left _ (List.mem_of_getElem? (i := 141) rfl))), rfl⟩
theorem m_383 : (Jvm.Cond.methodLink "java/util/Arrays" (65 : Nat) ({ cls := "java/lang/IllegalArgumentException", name := "<init>", desc := "(Ljava/lang/String;)V" } : Jvm.MethodName)) ∈ hj_tbl := List.mem_filter.mpr ⟨List.mem_append_right _ (show _ ∈ tables_1 from List.mem_append_right _ (List.mem_append_left _ (List.mem_of_getElem? (i := 143) rfl))), rfl⟩
theorem m_384 : (Jvm.Cond.instanceMethod ({ cls := "java/lang/IllegalArgumentException", name := "<init>", desc := "(Ljava/lang/String;)V" } : Jvm.MethodName)) ∈ hj_tbl := List.mem_filter.mpr ⟨List.mem_append_right _ (show _ ∈ tables_1 from List.mem_append_right _ (List.mem_append_left _ (List.mem_of_getElem? (i := 144) rfl))), rfl⟩
theorem m_385 : (Jvm.Cond.code ({ cls := "java/lang/IllegalArgumentException", name := "<init>", desc := "(Ljava/lang/String;)V" } : Jvm.MethodName) prog_9_method_2_code (2 : Nat) (Option.none : Option Jvm.ClassFile.FieldType)) ∈ hj_tbl := List.mem_filter.mpr ⟨List.mem_append_right _ (show _ ∈ tables_1 from List.mem_append_right _ (List.mem_append_left _ (List.mem_of_getElem? (i := 145) rfl))), rfl⟩
theorem m_386 : (Jvm.Cond.methodLink "java/lang/IllegalArgumentException" (7 : Nat) ({ cls := "java/lang/RuntimeException", name := "<init>", desc := "(Ljava/lang/String;)V" } : Jvm.MethodName)) ∈ hj_tbl := List.mem_filter.mpr ⟨List.mem_append_right _ (show _ ∈ tables_1 from List.mem_append_right _ (List.mem_append_left _ (List.mem_of_getElem? (i := 146) rfl))), rfl⟩
theorem m_387 : (Jvm.Cond.instanceMethod ({ cls := "java/lang/RuntimeException", name := "<init>", desc := "(Ljava/lang/String;)V" } : Jvm.MethodName)) ∈ hj_tbl := List.mem_filter.mpr ⟨List.mem_append_right _ (show _ ∈ tables_1 from List.mem_append_right _ (List.mem_append_left _ (List.mem_of_getElem? (i := 147) rfl))), rfl⟩
theorem m_388 : (Jvm.Cond.code ({ cls := "java/lang/RuntimeException", name := "<init>", desc := "(Ljava/lang/String;)V" } : Jvm.MethodName) prog_13_method_2_code (2 : Nat) (Option.none : Option Jvm.ClassFile.FieldType)) ∈ hj_tbl := List.mem_filter.mpr ⟨List.mem_append_right _ (show _ ∈ tables_1 from List.mem_append_right _ (List.mem_append_left _ (List.mem_of_getElem? (i := 148) rfl))), rfl⟩
theorem m_389 : (Jvm.Cond.methodLink "java/lang/RuntimeException" (7 : Nat) ({ cls := "java/lang/Exception", name := "<init>", desc := "(Ljava/lang/String;)V" } : Jvm.MethodName)) ∈ hj_tbl := List.mem_filter.mpr ⟨List.mem_append_right _ (show _ ∈ tables_1 from List.mem_append_right _ (List.mem_append_left _ (List.mem_of_getElem? (i := 149) rfl))), rfl⟩
theorem m_390 : (Jvm.Cond.instanceMethod ({ cls := "java/lang/Exception", name := "<init>", desc := "(Ljava/lang/String;)V" } : Jvm.MethodName)) ∈ hj_tbl := List.mem_filter.mpr ⟨List.mem_append_right _ (show _ ∈ tables_1 from List.mem_append_right _ (List.mem_append_left _ (List.mem_of_getElem? (i := 150) rfl))), rfl⟩
theorem m_391 : (Jvm.Cond.code ({ cls := "java/lang/Exception", name := "<init>", desc := "(Ljava/lang/String;)V" } : Jvm.MethodName) prog_8_method_2_code (2 : Nat) (Option.none : Option Jvm.ClassFile.FieldType)) ∈ hj_tbl := List.mem_filter.mpr ⟨List.mem_append_right _ (show _ ∈ tables_1 from List.mem_append_right _ (List.mem_append_left _ (List.mem_of_getElem? (i := 151) rfl))), rfl⟩
theorem m_392 : (Jvm.Cond.methodLink "java/lang/Exception" (7 : Nat) ({ cls := "java/lang/Throwable", name := "<init>", desc := "(Ljava/lang/String;)V" } : Jvm.MethodName)) ∈ hj_tbl := List.mem_filter.mpr ⟨List.mem_append_right _ (show _ ∈ tables_1 from List.mem_append_right _ (List.mem_append_left _ (List.mem_of_getElem? (i := 152) rfl))), rfl⟩
theorem m_393 : (Jvm.Cond.instanceMethod ({ cls := "java/lang/Throwable", name := "<init>", desc := "(Ljava/lang/String;)V" } : Jvm.MethodName)) ∈ hj_tbl := List.mem_filter.mpr ⟨List.mem_append_right _ (show _ ∈ tables_1 from List.mem_append_right _ (List.mem_append_left _ (List.mem_of_getElem? (i := 153) rfl))), rfl⟩
theorem m_394 : (Jvm.Cond.code ({ cls := "java/lang/Throwable", name := "<init>", desc := "(Ljava/lang/String;)V" } : Jvm.MethodName) prog_19_method_2_code (2 : Nat) (Option.none : Option Jvm.ClassFile.FieldType)) ∈ hj_tbl := List.mem_filter.mpr ⟨List.mem_append_right _ (show _ ∈ tables_1 from List.mem_append_right _ (List.mem_append_left _ (List.mem_of_getElem? (i := 154) rfl))), rfl⟩
theorem m_395 : (Jvm.Cond.fieldLink "java/lang/Throwable" (198 : Nat) "java/lang/Throwable" "backtrace" "Ljava/lang/Object;") ∈ hj_tbl := List.mem_filter.mpr ⟨List.mem_append_right _ (show _ ∈ tables_1 from List.mem_append_right _ (List.mem_append_left _ (List.mem_of_getElem? (i := 155) rfl))), rfl⟩
theorem m_396 : (Jvm.Cond.fieldLink "java/lang/Throwable" (31 : Nat) "java/lang/Throwable" "detailMessage" "Ljava/lang/String;") ∈ hj_tbl := List.mem_filter.mpr ⟨List.mem_append_right _ (show _ ∈ tables_1 from List.mem_append_right _ (List.mem_append_left _ (List.mem_of_getElem? (i := 156) rfl))), rfl⟩
theorem m_397 : (Jvm.Cond.fieldLink "java/lang/Throwable" (7 : Nat) "java/lang/Throwable" "cause" "Ljava/lang/Throwable;") ∈ hj_tbl := List.mem_filter.mpr ⟨List.mem_append_right _ (show _ ∈ tables_1 from List.mem_append_right _ (List.mem_append_left _ (List.mem_of_getElem? (i := 157) rfl))), rfl⟩
theorem m_398 : (Jvm.Cond.fieldLink "java/lang/Throwable" (17 : Nat) "java/lang/Throwable" "stackTrace" "[Ljava/lang/StackTraceElement;") ∈ hj_tbl := List.mem_filter.mpr ⟨List.mem_append_right _ (show _ ∈ tables_1 from List.mem_append_right _ (List.mem_append_left _ (List.mem_of_getElem? (i := 158) rfl))), rfl⟩
theorem m_399 : (Jvm.Cond.fieldLink "java/lang/Throwable" (24 : Nat) "java/lang/Throwable" "suppressedExceptions" "Ljava/util/List;") ∈ hj_tbl := List.mem_filter.mpr ⟨List.mem_append_right _ (show _ ∈ tables_1 from List.mem_append_right _ (List.mem_append_left _ (List.mem_of_getElem? (i := 159) rfl))), rfl⟩
theorem m_404 : (Jvm.Cond.lays "java/lang/IllegalArgumentException" "java/lang/Throwable" "depth" "I") ∈ hj_tbl := List.mem_filter.mpr ⟨List.mem_append_right _ (show _ ∈ tables_1 from List.mem_append_right _ (List.mem_append_left _ (List.mem_of_getElem? (i := 164) rfl))), rfl⟩
theorem m_408 : (Jvm.Cond.methodLink "java/lang/String" (1051 : Nat) ({ cls := "java/lang/StringUTF16", name := "compress", desc := "([BII)[B" } : Jvm.MethodName)) ∈ hj_tbl := List.mem_filter.mpr ⟨List.mem_append_right _ (show _ ∈ tables_1 from List.mem_append_right _ (List.mem_append_left _ (List.mem_of_getElem? (i := 168) rfl))), rfl⟩
theorem m_409 : (Jvm.Cond.static ({ cls := "java/lang/StringUTF16", name := "compress", desc := "([BII)[B" } : Jvm.MethodName)) ∈ hj_tbl := List.mem_filter.mpr ⟨List.mem_append_right _ (show _ ∈ tables_1 from List.mem_append_right _ (List.mem_append_left _ (List.mem_of_getElem? (i := 169) rfl))), rfl⟩
theorem m_410 : (Jvm.Cond.code ({ cls := "java/lang/StringUTF16", name := "compress", desc := "([BII)[B" } : Jvm.MethodName) prog_17_method_17_code (6 : Nat) (Option.some (Jvm.ClassFile.FieldType.array Jvm.ClassFile.FieldType.byte))) ∈ hj_tbl := List.mem_filter.mpr ⟨List.mem_append_right _ (show _ ∈ tables_1 from List.mem_append_right _ (List.mem_append_left _ (List.mem_of_getElem? (i := 170) rfl))), rfl⟩
theorem m_411 : (Jvm.Cond.methodLink "java/lang/StringUTF16" (123 : Nat) ({ cls := "java/lang/StringUTF16", name := "compress", desc := "([BI[BII)I" } : Jvm.MethodName)) ∈ hj_tbl := List.mem_filter.mpr ⟨List.mem_append_right _ (show _ ∈ tables_1 from List.mem_append_right _ (List.mem_append_left _ (List.mem_of_getElem? (i := 171) rfl))), rfl⟩
theorem m_412 : (Jvm.Cond.static ({ cls := "java/lang/StringUTF16", name := "compress", desc := "([BI[BII)I" } : Jvm.MethodName)) ∈ hj_tbl := List.mem_filter.mpr ⟨List.mem_append_right _ (show _ ∈ tables_1 from List.mem_append_right _ (List.mem_append_left _ (List.mem_of_getElem? (i := 172) rfl))), rfl⟩
theorem m_413 : (Jvm.Cond.code ({ cls := "java/lang/StringUTF16", name := "compress", desc := "([BI[BII)I" } : Jvm.MethodName) prog_17_method_22_code (7 : Nat) (Option.some Jvm.ClassFile.FieldType.int)) ∈ hj_tbl := List.mem_filter.mpr ⟨List.mem_append_right _ (show _ ∈ tables_1 from List.mem_append_right _ (List.mem_append_left _ (List.mem_of_getElem? (i := 173) rfl))), rfl⟩
theorem m_414 : (Jvm.Cond.methodLink "java/lang/StringUTF16" (71 : Nat) ({ cls := "java/lang/StringUTF16", name := "getChar", desc := "([BI)C" } : Jvm.MethodName)) ∈ hj_tbl := List.mem_filter.mpr ⟨List.mem_append_right _ (show _ ∈ tables_1 from List.mem_append_right _ (List.mem_append_left _ (List.mem_of_getElem? (i := 174) rfl))), rfl⟩
theorem m_415 : (Jvm.Cond.static ({ cls := "java/lang/StringUTF16", name := "getChar", desc := "([BI)C" } : Jvm.MethodName)) ∈ hj_tbl := List.mem_filter.mpr ⟨List.mem_append_right _ (show _ ∈ tables_1 from List.mem_append_right _ (List.mem_append_left _ (List.mem_of_getElem? (i := 175) rfl))), rfl⟩
theorem m_416 : (Jvm.Cond.code ({ cls := "java/lang/StringUTF16", name := "getChar", desc := "([BI)C" } : Jvm.MethodName) prog_17_method_5_code (2 : Nat) (Option.some Jvm.ClassFile.FieldType.char)) ∈ hj_tbl := List.mem_filter.mpr ⟨List.mem_append_right _ (show _ ∈ tables_1 from List.mem_append_right _ (List.mem_append_left _ (List.mem_of_getElem? (i := 176) rfl))), rfl⟩
theorem m_417 : (Jvm.Cond.methodLink "java/lang/StringUTF16" (126 : Nat) ({ cls := "java/util/Arrays", name := "copyOfRange", desc := "([BII)[B" } : Jvm.MethodName)) ∈ hj_tbl := List.mem_filter.mpr ⟨List.mem_append_right _ (show _ ∈ tables_1 from List.mem_append_right _ (List.mem_append_left _ (List.mem_of_getElem? (i := 177) rfl))), rfl⟩
theorem m_418 : (Jvm.Cond.methodLink "java/lang/String" (47 : Nat) ({ cls := "java/lang/StringUTF16", name := "coderFromArrayLen", desc := "([BI)B" } : Jvm.MethodName)) ∈ hj_tbl := List.mem_filter.mpr ⟨List.mem_append_right _ (show _ ∈ tables_1 from List.mem_append_right _ (List.mem_append_left _ (List.mem_of_getElem? (i := 178) rfl))), rfl⟩
theorem m_419 : (Jvm.Cond.static ({ cls := "java/lang/StringUTF16", name := "coderFromArrayLen", desc := "([BI)B" } : Jvm.MethodName)) ∈ hj_tbl := List.mem_filter.mpr ⟨List.mem_append_right _ (show _ ∈ tables_1 from List.mem_append_right _ (List.mem_append_left _ (List.mem_of_getElem? (i := 179) rfl))), rfl⟩
theorem m_420 : (Jvm.Cond.code ({ cls := "java/lang/StringUTF16", name := "coderFromArrayLen", desc := "([BI)B" } : Jvm.MethodName) prog_17_method_15_code (2 : Nat) (Option.some Jvm.ClassFile.FieldType.byte)) ∈ hj_tbl := List.mem_filter.mpr ⟨List.mem_append_right _ (show _ ∈ tables_1 from List.mem_append_right _ (List.mem_append_left _ (List.mem_of_getElem? (i := 180) rfl))), rfl⟩
theorem m_421 : (Jvm.Cond.fieldLink "java/lang/String" (9 : Nat) "java/lang/String" "value" "[B") ∈ hj_tbl := List.mem_filter.mpr ⟨List.mem_append_right _ (show _ ∈ tables_1 from List.mem_append_right _ (List.mem_append_left _ (List.mem_of_getElem? (i := 181) rfl))), rfl⟩
theorem m_422 : (Jvm.Cond.fieldLink "java/lang/String" (15 : Nat) "java/lang/String" "coder" "B") ∈ hj_tbl := List.mem_filter.mpr ⟨List.mem_append_right _ (show _ ∈ tables_1 from List.mem_append_right _ (List.mem_append_left _ (List.mem_of_getElem? (i := 182) rfl))), rfl⟩
theorem m_423 : (Jvm.Cond.laysFinal "java/lang/String" "java/lang/String" "value" "[B") ∈ hj_tbl := List.mem_filter.mpr ⟨List.mem_append_right _ (show _ ∈ tables_1 from List.mem_append_right _ (List.mem_append_left _ (List.mem_of_getElem? (i := 183) rfl))), rfl⟩
theorem m_425 : (Jvm.Cond.laysFinal "java/lang/String" "java/lang/String" "coder" "B") ∈ hj_tbl := List.mem_filter.mpr ⟨List.mem_append_right _ (show _ ∈ tables_1 from List.mem_append_right _ (List.mem_append_left _ (List.mem_of_getElem? (i := 185) rfl))), rfl⟩
theorem m_427 : (Jvm.Cond.lays "java/lang/String" "java/lang/String" "hash" "I") ∈ hj_tbl := List.mem_filter.mpr ⟨List.mem_append_right _ (show _ ∈ tables_1 from List.mem_append_right _ (List.mem_append_left _ (List.mem_of_getElem? (i := 187) rfl))), rfl⟩
theorem m_429 : (Jvm.Cond.lays "java/lang/String" "java/lang/String" "hashIsZero" "Z") ∈ hj_tbl := List.mem_filter.mpr ⟨List.mem_append_right _ (show _ ∈ tables_1 from List.mem_append_right _ (List.mem_append_left _ (List.mem_of_getElem? (i := 189) rfl))), rfl⟩
theorem m_432 : (Jvm.Cond.methodLink "HalfJournal" (51 : Nat) ({ cls := "HalfJournal", name := "putHead", desc := "([BIII)V" } : Jvm.MethodName)) ∈ hj_tbl := List.mem_filter.mpr ⟨List.mem_append_right _ (show _ ∈ tables_1 from List.mem_append_right _ (List.mem_append_left _ (List.mem_of_getElem? (i := 192) rfl))), rfl⟩
theorem m_433 : (Jvm.Cond.static ({ cls := "HalfJournal", name := "putHead", desc := "([BIII)V" } : Jvm.MethodName)) ∈ hj_tbl := List.mem_filter.mpr ⟨List.mem_append_right _ (show _ ∈ tables_1 from List.mem_append_right _ (List.mem_append_left _ (List.mem_of_getElem? (i := 193) rfl))), rfl⟩
theorem m_434 : (Jvm.Cond.code ({ cls := "HalfJournal", name := "putHead", desc := "([BIII)V" } : Jvm.MethodName) prog_1_method_27_code (4 : Nat) (Option.none : Option Jvm.ClassFile.FieldType)) ∈ hj_tbl := List.mem_filter.mpr ⟨List.mem_append_right _ (show _ ∈ tables_1 from List.mem_append_right _ (List.mem_append_left _ (List.mem_of_getElem? (i := 194) rfl))), rfl⟩
theorem m_435 : (Jvm.Cond.methodLink "HalfJournal" (172 : Nat) ({ cls := "HalfJournal", name := "headBegin", desc := "(I)I" } : Jvm.MethodName)) ∈ hj_tbl := List.mem_filter.mpr ⟨List.mem_append_right _ (show _ ∈ tables_1 from List.mem_append_right _ (List.mem_append_left _ (List.mem_of_getElem? (i := 195) rfl))), rfl⟩
theorem m_436 : (Jvm.Cond.static ({ cls := "HalfJournal", name := "headBegin", desc := "(I)I" } : Jvm.MethodName)) ∈ hj_tbl := List.mem_filter.mpr ⟨List.mem_append_right _ (show _ ∈ tables_1 from List.mem_append_right _ (List.mem_append_left _ (List.mem_of_getElem? (i := 196) rfl))), rfl⟩
theorem m_437 : (Jvm.Cond.code ({ cls := "HalfJournal", name := "headBegin", desc := "(I)I" } : Jvm.MethodName) prog_1_method_28_code (1 : Nat) (Option.some Jvm.ClassFile.FieldType.int)) ∈ hj_tbl := List.mem_filter.mpr ⟨List.mem_append_right _ (show _ ∈ tables_1 from List.mem_append_right _ (List.mem_append_left _ (List.mem_of_getElem? (i := 197) rfl))), rfl⟩
theorem m_438 : (Jvm.Cond.methodLink "HalfJournal" (185 : Nat) ({ cls := "HalfJournal", name := "putNumber", desc := "([BIII)V" } : Jvm.MethodName)) ∈ hj_tbl := List.mem_filter.mpr ⟨List.mem_append_right _ (show _ ∈ tables_1 from List.mem_append_right _ (List.mem_append_left _ (List.mem_of_getElem? (i := 198) rfl))), rfl⟩
theorem m_439 : (Jvm.Cond.static ({ cls := "HalfJournal", name := "putNumber", desc := "([BIII)V" } : Jvm.MethodName)) ∈ hj_tbl := List.mem_filter.mpr ⟨List.mem_append_right _ (show _ ∈ tables_1 from List.mem_append_right _ (List.mem_append_left _ (List.mem_of_getElem? (i := 199) rfl))), rfl⟩
theorem m_440 : (Jvm.Cond.code ({ cls := "HalfJournal", name := "putNumber", desc := "([BIII)V" } : Jvm.MethodName) prog_1_method_39_code (5 : Nat) (Option.none : Option Jvm.ClassFile.FieldType)) ∈ hj_tbl := List.mem_filter.mpr ⟨List.mem_append_right _ (show _ ∈ tables_1 from List.mem_append_right _ (List.mem_append_left _ (List.mem_of_getElem? (i := 200) rfl))), rfl⟩
theorem m_441 : (Jvm.Cond.methodLink "HalfJournal" (169 : Nat) ({ cls := "HalfJournal", name := "checkOf", desc := "([BII)I" } : Jvm.MethodName)) ∈ hj_tbl := List.mem_filter.mpr ⟨List.mem_append_right _ (show _ ∈ tables_1 from List.mem_append_right _ (List.mem_append_left _ (List.mem_of_getElem? (i := 201) rfl))), rfl⟩
theorem m_442 : (Jvm.Cond.static ({ cls := "HalfJournal", name := "checkOf", desc := "([BII)I" } : Jvm.MethodName)) ∈ hj_tbl := List.mem_filter.mpr ⟨List.mem_append_right _ (show _ ∈ tables_1 from List.mem_append_right _ (List.mem_append_left _ (List.mem_of_getElem? (i := 202) rfl))), rfl⟩
theorem m_443 : (Jvm.Cond.code ({ cls := "HalfJournal", name := "checkOf", desc := "([BII)I" } : Jvm.MethodName) prog_1_method_37_code (5 : Nat) (Option.some Jvm.ClassFile.FieldType.int)) ∈ hj_tbl := List.mem_filter.mpr ⟨List.mem_append_right _ (show _ ∈ tables_1 from List.mem_append_right _ (List.mem_append_left _ (List.mem_of_getElem? (i := 203) rfl))), rfl⟩
theorem m_444 : (Jvm.Cond.fieldLink "HalfJournal" (218 : Nat) "HalfJournal" "CHECK_STEPS" "[I") ∈ hj_tbl := List.mem_filter.mpr ⟨List.mem_append_right _ (show _ ∈ tables_1 from List.mem_append_right _ (List.mem_append_left _ (List.mem_of_getElem? (i := 204) rfl))), rfl⟩
theorem m_446 : (Jvm.Cond.methodLink "HalfJournal" (58 : Nat) ({ cls := "HalfJournal", name := "goUp", desc := "(II)V" } : Jvm.MethodName)) ∈ hj_tbl := List.mem_filter.mpr ⟨List.mem_append_right _ (show _ ∈ tables_1 from List.mem_append_right _ (List.mem_append_left _ (List.mem_of_getElem? (i := 206) rfl))), rfl⟩
theorem m_448 : (Jvm.Cond.instanceMethod ({ cls := "HalfJournal", name := "goUp", desc := "(II)V" } : Jvm.MethodName)) ∈ hj_tbl := List.mem_filter.mpr ⟨List.mem_append_right _ (show _ ∈ tables_1 from List.mem_append_right _ (List.mem_append_left _ (List.mem_of_getElem? (i := 208) rfl))), rfl⟩
theorem m_449 : (Jvm.Cond.code ({ cls := "HalfJournal", name := "goUp", desc := "(II)V" } : Jvm.MethodName) prog_1_method_17_code (3 : Nat) (Option.none : Option Jvm.ClassFile.FieldType)) ∈ hj_tbl := List.mem_filter.mpr ⟨List.mem_append_right _ (show _ ∈ tables_1 from List.mem_append_right _ (List.mem_append_left _ (List.mem_of_getElem? (i := 209) rfl))), rfl⟩
theorem m_450 : (Jvm.Cond.methodLink "HalfJournal" (159 : Nat) ({ cls := "HalfJournal", name := "readRecords", desc := "()V" } : Jvm.MethodName)) ∈ hj_tbl := List.mem_filter.mpr ⟨List.mem_append_right _ (show _ ∈ tables_1 from List.mem_append_right _ (List.mem_append_left _ (List.mem_of_getElem? (i := 210) rfl))), rfl⟩
theorem m_452 : (Jvm.Cond.instanceMethod ({ cls := "HalfJournal", name := "readRecords", desc := "()V" } : Jvm.MethodName)) ∈ hj_tbl := List.mem_filter.mpr ⟨List.mem_append_right _ (show _ ∈ tables_1 from List.mem_append_right _ (List.mem_append_left _ (List.mem_of_getElem? (i := 212) rfl))), rfl⟩
theorem m_453 : (Jvm.Cond.code ({ cls := "HalfJournal", name := "readRecords", desc := "()V" } : Jvm.MethodName) prog_1_method_18_code (3 : Nat) (Option.none : Option Jvm.ClassFile.FieldType)) ∈ hj_tbl := List.mem_filter.mpr ⟨List.mem_append_right _ (show _ ∈ tables_1 from List.mem_append_right _ (List.mem_append_left _ (List.mem_of_getElem? (i := 213) rfl))), rfl⟩
theorem m_454 : (Jvm.Cond.methodLinkNest "HalfJournal" (156 : Nat) ({ cls := "HalfJournal$Records", name := "clear", desc := "()V" } : Jvm.MethodName) "HalfJournal") ∈ hj_nest := List.mem_filter.mpr ⟨List.mem_append_right _ (show _ ∈ tables_1 from List.mem_append_right _ (List.mem_append_left _ (List.mem_of_getElem? (i := 214) rfl))), rfl⟩
theorem m_456 : (Jvm.Cond.instanceMethod ({ cls := "HalfJournal$Records", name := "clear", desc := "()V" } : Jvm.MethodName)) ∈ hj_tbl := List.mem_filter.mpr ⟨List.mem_append_right _ (show _ ∈ tables_1 from List.mem_append_right _ (List.mem_append_left _ (List.mem_of_getElem? (i := 216) rfl))), rfl⟩
theorem m_457 : (Jvm.Cond.code ({ cls := "HalfJournal$Records", name := "clear", desc := "()V" } : Jvm.MethodName) prog_3_method_3_code (1 : Nat) (Option.none : Option Jvm.ClassFile.FieldType)) ∈ hj_tbl := List.mem_filter.mpr ⟨List.mem_append_right _ (show _ ∈ tables_1 from List.mem_append_right _ (List.mem_append_left _ (List.mem_of_getElem? (i := 217) rfl))), rfl⟩
theorem m_458 : (Jvm.Cond.methodLink "HalfJournal" (162 : Nat) ({ cls := "HalfJournal", name := "lengthOfRecordAt", desc := "(I)I" } : Jvm.MethodName)) ∈ hj_tbl := List.mem_filter.mpr ⟨List.mem_append_right _ (show _ ∈ tables_1 from List.mem_append_right _ (List.mem_append_left _ (List.mem_of_getElem? (i := 218) rfl))), rfl⟩
theorem m_460 : (Jvm.Cond.instanceMethod ({ cls := "HalfJournal", name := "lengthOfRecordAt", desc := "(I)I" } : Jvm.MethodName)) ∈ hj_tbl := List.mem_filter.mpr ⟨List.mem_append_right _ (show _ ∈ tables_1 from List.mem_append_right _ (List.mem_append_left _ (List.mem_of_getElem? (i := 220) rfl))), rfl⟩
theorem m_461 : (Jvm.Cond.code ({ cls := "HalfJournal", name := "lengthOfRecordAt", desc := "(I)I" } : Jvm.MethodName) prog_1_method_19_code (6 : Nat) (Option.some Jvm.ClassFile.FieldType.int)) ∈ hj_tbl := List.mem_filter.mpr ⟨List.mem_append_right _ (show _ ∈ tables_1 from List.mem_append_right _ (List.mem_append_left _ (List.mem_of_getElem? (i := 221) rfl))), rfl⟩
theorem m_462 : (Jvm.Cond.methodLink "HalfJournal" (140 : Nat) ({ cls := "HalfJournal", name := "firstByteOf", desc := "(I)I" } : Jvm.MethodName)) ∈ hj_tbl := List.mem_filter.mpr ⟨List.mem_append_right _ (show _ ∈ tables_1 from List.mem_append_right _ (List.mem_append_left _ (List.mem_of_getElem? (i := 222) rfl))), rfl⟩
theorem m_463 : (Jvm.Cond.static ({ cls := "HalfJournal", name := "firstByteOf", desc := "(I)I" } : Jvm.MethodName)) ∈ hj_tbl := List.mem_filter.mpr ⟨List.mem_append_right _ (show _ ∈ tables_1 from List.mem_append_right _ (List.mem_append_left _ (List.mem_of_getElem? (i := 223) rfl))), rfl⟩
theorem m_464 : (Jvm.Cond.code ({ cls := "HalfJournal", name := "firstByteOf", desc := "(I)I" } : Jvm.MethodName) prog_1_method_31_code (1 : Nat) (Option.some Jvm.ClassFile.FieldType.int)) ∈ hj_tbl := List.mem_filter.mpr ⟨List.mem_append_right _ (show _ ∈ tables_1 from List.mem_append_right _ (List.mem_append_left _ (List.mem_of_getElem? (i := 224) rfl))), rfl⟩
theorem m_465 : (Jvm.Cond.methodLink "HalfJournal" (192 : Nat) ({ cls := "HalfJournal", name := "firstBlockOf", desc := "(I)I" } : Jvm.MethodName)) ∈ hj_tbl := List.mem_filter.mpr ⟨List.mem_append_right _ (show _ ∈ tables_1 from List.mem_append_right _ (List.mem_append_left _ (List.mem_of_getElem? (i := 225) rfl))), rfl⟩
theorem m_466 : (Jvm.Cond.static ({ cls := "HalfJournal", name := "firstBlockOf", desc := "(I)I" } : Jvm.MethodName)) ∈ hj_tbl := List.mem_filter.mpr ⟨List.mem_append_right _ (show _ ∈ tables_1 from List.mem_append_right _ (List.mem_append_left _ (List.mem_of_getElem? (i := 226) rfl))), rfl⟩
theorem m_467 : (Jvm.Cond.code ({ cls := "HalfJournal", name := "firstBlockOf", desc := "(I)I" } : Jvm.MethodName) prog_1_method_30_code (1 : Nat) (Option.some Jvm.ClassFile.FieldType.int)) ∈ hj_tbl := List.mem_filter.mpr ⟨List.mem_append_right _ (show _ ∈ tables_1 from List.mem_append_right _ (List.mem_append_left _ (List.mem_of_getElem? (i := 227) rfl))), rfl⟩
theorem m_468 : (Jvm.Cond.methodLink "HalfJournal" (165 : Nat) ({ cls := "HalfJournal", name := "number", desc := "([BII)I" } : Jvm.MethodName)) ∈ hj_tbl := List.mem_filter.mpr ⟨List.mem_append_right _ (show _ ∈ tables_1 from List.mem_append_right _ (List.mem_append_left _ (List.mem_of_getElem? (i := 228) rfl))), rfl⟩
theorem m_469 : (Jvm.Cond.static ({ cls := "HalfJournal", name := "number", desc := "([BII)I" } : Jvm.MethodName)) ∈ hj_tbl := List.mem_filter.mpr ⟨List.mem_append_right _ (show _ ∈ tables_1 from List.mem_append_right _ (List.mem_append_left _ (List.mem_of_getElem? (i := 229) rfl))), rfl⟩
theorem m_470 : (Jvm.Cond.code ({ cls := "HalfJournal", name := "number", desc := "([BII)I" } : Jvm.MethodName) prog_1_method_38_code (5 : Nat) (Option.some Jvm.ClassFile.FieldType.int)) ∈ hj_tbl := List.mem_filter.mpr ⟨List.mem_append_right _ (show _ ∈ tables_1 from List.mem_append_right _ (List.mem_append_left _ (List.mem_of_getElem? (i := 230) rfl))), rfl⟩
theorem m_471 : (Jvm.Cond.methodLink "HalfJournal" (74 : Nat) ({ cls := "HalfJournal", name := "sizeOf", desc := "(I)I" } : Jvm.MethodName)) ∈ hj_tbl := List.mem_filter.mpr ⟨List.mem_append_right _ (show _ ∈ tables_1 from List.mem_append_right _ (List.mem_append_left _ (List.mem_of_getElem? (i := 231) rfl))), rfl⟩
theorem m_472 : (Jvm.Cond.static ({ cls := "HalfJournal", name := "sizeOf", desc := "(I)I" } : Jvm.MethodName)) ∈ hj_tbl := List.mem_filter.mpr ⟨List.mem_append_right _ (show _ ∈ tables_1 from List.mem_append_right _ (List.mem_append_left _ (List.mem_of_getElem? (i := 232) rfl))), rfl⟩
theorem m_473 : (Jvm.Cond.code ({ cls := "HalfJournal", name := "sizeOf", desc := "(I)I" } : Jvm.MethodName) prog_1_method_33_code (1 : Nat) (Option.some Jvm.ClassFile.FieldType.int)) ∈ hj_tbl := List.mem_filter.mpr ⟨List.mem_append_right _ (show _ ∈ tables_1 from List.mem_append_right _ (List.mem_append_left _ (List.mem_of_getElem? (i := 233) rfl))), rfl⟩
theorem m_474 : (Jvm.Cond.methodLinkNest "HalfJournal" (100 : Nat) ({ cls := "HalfJournal$Records", name := "add", desc := "(I)V" } : Jvm.MethodName) "HalfJournal") ∈ hj_nest := List.mem_filter.mpr ⟨List.mem_append_right _ (show _ ∈ tables_1 from List.mem_append_right _ (List.mem_append_left _ (List.mem_of_getElem? (i := 234) rfl))), rfl⟩
theorem m_476 : (Jvm.Cond.instanceMethod ({ cls := "HalfJournal$Records", name := "add", desc := "(I)V" } : Jvm.MethodName)) ∈ hj_tbl := List.mem_filter.mpr ⟨List.mem_append_right _ (show _ ∈ tables_1 from List.mem_append_right _ (List.mem_append_left _ (List.mem_of_getElem? (i := 236) rfl))), rfl⟩
theorem m_477 : (Jvm.Cond.code ({ cls := "HalfJournal$Records", name := "add", desc := "(I)V" } : Jvm.MethodName) prog_3_method_4_code (2 : Nat) (Option.none : Option Jvm.ClassFile.FieldType)) ∈ hj_tbl := List.mem_filter.mpr ⟨List.mem_append_right _ (show _ ∈ tables_1 from List.mem_append_right _ (List.mem_append_left _ (List.mem_of_getElem? (i := 237) rfl))), rfl⟩
theorem m_478 : (Jvm.Cond.methodLinkNest "HalfJournal$Records" (32 : Nat) ({ cls := "HalfJournal", name := "sizeOf", desc := "(I)I" } : Jvm.MethodName) "HalfJournal") ∈ hj_nest := List.mem_filter.mpr ⟨List.mem_append_right _ (show _ ∈ tables_1 from List.mem_append_right _ (List.mem_append_left _ (List.mem_of_getElem? (i := 238) rfl))), rfl⟩
theorem m_479 : (Jvm.Cond.methodLink "HalfJournalLaw" (32 : Nat) ({ cls := "HalfJournal", name := "give", desc := "(JI)Z" } : Jvm.MethodName)) ∈ hj_tbl := List.mem_filter.mpr ⟨List.mem_append_right _ (show _ ∈ tables_1 from List.mem_append_right _ (List.mem_append_left _ (List.mem_of_getElem? (i := 239) rfl))), rfl⟩
theorem m_480 : (Jvm.Cond.instanceMethod ({ cls := "HalfJournal", name := "give", desc := "(JI)Z" } : Jvm.MethodName)) ∈ hj_tbl := List.mem_filter.mpr ⟨List.mem_append_right _ (show _ ∈ tables_1 from List.mem_append_right _ (List.mem_append_right _ (List.mem_append_left _ (List.mem_of_getElem? (i := 0) rfl)))), rfl⟩
theorem m_481 : (Jvm.Cond.selects "HalfJournal" ({ cls := "HalfJournal", name := "give", desc := "(JI)Z" } : Jvm.MethodName) ({ cls := "HalfJournal", name := "give", desc := "(JI)Z" } : Jvm.MethodName)) ∈ hj_tbl := List.mem_filter.mpr ⟨List.mem_append_right _ (show _ ∈ tables_1 from List.mem_append_right _ (List.mem_append_right _ (List.mem_append_left _ (List.mem_of_getElem? (i := 1) rfl)))), rfl⟩
theorem m_482 : (Jvm.Cond.code ({ cls := "HalfJournal", name := "give", desc := "(JI)Z" } : Jvm.MethodName) prog_1_method_3_code (5 : Nat) (Option.some Jvm.ClassFile.FieldType.boolean)) ∈ hj_tbl := List.mem_filter.mpr ⟨List.mem_append_right _ (show _ ∈ tables_1 from List.mem_append_right _ (List.mem_append_right _ (List.mem_append_left _ (List.mem_of_getElem? (i := 2) rfl)))), rfl⟩
theorem m_483 : (Jvm.Cond.methodLink "HalfJournalLaw" (37 : Nat) ({ cls := "HalfJournal", name := "wipe", desc := "()V" } : Jvm.MethodName)) ∈ hj_tbl := List.mem_filter.mpr ⟨List.mem_append_right _ (show _ ∈ tables_1 from List.mem_append_right _ (List.mem_append_right _ (List.mem_append_left _ (List.mem_of_getElem? (i := 3) rfl)))), rfl⟩
theorem m_484 : (Jvm.Cond.instanceMethod ({ cls := "HalfJournal", name := "wipe", desc := "()V" } : Jvm.MethodName)) ∈ hj_tbl := List.mem_filter.mpr ⟨List.mem_append_right _ (show _ ∈ tables_1 from List.mem_append_right _ (List.mem_append_right _ (List.mem_append_left _ (List.mem_of_getElem? (i := 4) rfl)))), rfl⟩
theorem m_485 : (Jvm.Cond.selects "HalfJournal" ({ cls := "HalfJournal", name := "wipe", desc := "()V" } : Jvm.MethodName) ({ cls := "HalfJournal", name := "wipe", desc := "()V" } : Jvm.MethodName)) ∈ hj_tbl := List.mem_filter.mpr ⟨List.mem_append_right _ (show _ ∈ tables_1 from List.mem_append_right _ (List.mem_append_right _ (List.mem_append_left _ (List.mem_of_getElem? (i := 5) rfl)))), rfl⟩
theorem m_486 : (Jvm.Cond.code ({ cls := "HalfJournal", name := "wipe", desc := "()V" } : Jvm.MethodName) prog_1_method_4_code (1 : Nat) (Option.none : Option Jvm.ClassFile.FieldType)) ∈ hj_tbl := List.mem_filter.mpr ⟨List.mem_append_right _ (show _ ∈ tables_1 from List.mem_append_right _ (List.mem_append_right _ (List.mem_append_left _ (List.mem_of_getElem? (i := 6) rfl)))), rfl⟩
theorem m_487 : (Jvm.Cond.methodLink "HalfJournalLaw" (50 : Nat) ({ cls := "HalfJournal", name := "mark", desc := "(IZ)Z" } : Jvm.MethodName)) ∈ hj_tbl := List.mem_filter.mpr ⟨List.mem_append_right _ (show _ ∈ tables_1 from List.mem_append_right _ (List.mem_append_right _ (List.mem_append_left _ (List.mem_of_getElem? (i := 7) rfl)))), rfl⟩
theorem m_488 : (Jvm.Cond.instanceMethod ({ cls := "HalfJournal", name := "mark", desc := "(IZ)Z" } : Jvm.MethodName)) ∈ hj_tbl := List.mem_filter.mpr ⟨List.mem_append_right _ (show _ ∈ tables_1 from List.mem_append_right _ (List.mem_append_right _ (List.mem_append_left _ (List.mem_of_getElem? (i := 8) rfl)))), rfl⟩
theorem m_489 : (Jvm.Cond.selects "HalfJournal" ({ cls := "HalfJournal", name := "mark", desc := "(IZ)Z" } : Jvm.MethodName) ({ cls := "HalfJournal", name := "mark", desc := "(IZ)Z" } : Jvm.MethodName)) ∈ hj_tbl := List.mem_filter.mpr ⟨List.mem_append_right _ (show _ ∈ tables_1 from List.mem_append_right _ (List.mem_append_right _ (List.mem_append_left _ (List.mem_of_getElem? (i := 9) rfl)))), rfl⟩
theorem m_490 : (Jvm.Cond.code ({ cls := "HalfJournal", name := "mark", desc := "(IZ)Z" } : Jvm.MethodName) prog_1_method_6_code (3 : Nat) (Option.some Jvm.ClassFile.FieldType.boolean)) ∈ hj_tbl := List.mem_filter.mpr ⟨List.mem_append_right _ (show _ ∈ tables_1 from List.mem_append_right _ (List.mem_append_right _ (List.mem_append_left _ (List.mem_of_getElem? (i := 10) rfl)))), rfl⟩
theorem m_491 : (Jvm.Cond.methodLinkNest "HalfJournal" (106 : Nat) ({ cls := "HalfJournal$Records", name := "has", desc := "(I)Z" } : Jvm.MethodName) "HalfJournal") ∈ hj_nest := List.mem_filter.mpr ⟨List.mem_append_right _ (show _ ∈ tables_1 from List.mem_append_right _ (List.mem_append_right _ (List.mem_append_left _ (List.mem_of_getElem? (i := 11) rfl)))), rfl⟩
theorem m_493 : (Jvm.Cond.instanceMethod ({ cls := "HalfJournal$Records", name := "has", desc := "(I)Z" } : Jvm.MethodName)) ∈ hj_tbl := List.mem_filter.mpr ⟨List.mem_append_right _ (show _ ∈ tables_1 from List.mem_append_right _ (List.mem_append_right _ (List.mem_append_left _ (List.mem_of_getElem? (i := 13) rfl)))), rfl⟩
theorem m_494 : (Jvm.Cond.code ({ cls := "HalfJournal$Records", name := "has", desc := "(I)Z" } : Jvm.MethodName) prog_3_method_2_code (2 : Nat) (Option.some Jvm.ClassFile.FieldType.boolean)) ∈ hj_tbl := List.mem_filter.mpr ⟨List.mem_append_right _ (show _ ∈ tables_1 from List.mem_append_right _ (List.mem_append_right _ (List.mem_append_left _ (List.mem_of_getElem? (i := 14) rfl)))), rfl⟩
theorem m_495 : (Jvm.Cond.methodLinkNest "HalfJournal" (110 : Nat) ({ cls := "HalfJournal$Records", name := "setMark", desc := "(IZ)V" } : Jvm.MethodName) "HalfJournal") ∈ hj_nest := List.mem_filter.mpr ⟨List.mem_append_right _ (show _ ∈ tables_1 from List.mem_append_right _ (List.mem_append_right _ (List.mem_append_left _ (List.mem_of_getElem? (i := 15) rfl)))), rfl⟩
theorem m_497 : (Jvm.Cond.instanceMethod ({ cls := "HalfJournal$Records", name := "setMark", desc := "(IZ)V" } : Jvm.MethodName)) ∈ hj_tbl := List.mem_filter.mpr ⟨List.mem_append_right _ (show _ ∈ tables_1 from List.mem_append_right _ (List.mem_append_right _ (List.mem_append_left _ (List.mem_of_getElem? (i := 17) rfl)))), rfl⟩
theorem m_498 : (Jvm.Cond.code ({ cls := "HalfJournal$Records", name := "setMark", desc := "(IZ)V" } : Jvm.MethodName) prog_3_method_5_code (3 : Nat) (Option.none : Option Jvm.ClassFile.FieldType)) ∈ hj_tbl := List.mem_filter.mpr ⟨List.mem_append_right _ (show _ ∈ tables_1 from List.mem_append_right _ (List.mem_append_right _ (List.mem_append_left _ (List.mem_of_getElem? (i := 18) rfl)))), rfl⟩
theorem m_499 : (Jvm.Cond.methodLink "HalfJournal$Records" (36 : Nat) ({ cls := "HalfJournal$Records", name := "has", desc := "(I)Z" } : Jvm.MethodName)) ∈ hj_tbl := List.mem_filter.mpr ⟨List.mem_append_right _ (show _ ∈ tables_1 from List.mem_append_right _ (List.mem_append_right _ (List.mem_append_left _ (List.mem_of_getElem? (i := 19) rfl)))), rfl⟩
theorem m_500 : (Jvm.Cond.methodLink "HalfJournalLaw" (58 : Nat) ({ cls := "HalfJournal", name := "crashIn", desc := "(I)Z" } : Jvm.MethodName)) ∈ hj_tbl := List.mem_filter.mpr ⟨List.mem_append_right _ (show _ ∈ tables_1 from List.mem_append_right _ (List.mem_append_right _ (List.mem_append_left _ (List.mem_of_getElem? (i := 20) rfl)))), rfl⟩
theorem m_501 : (Jvm.Cond.instanceMethod ({ cls := "HalfJournal", name := "crashIn", desc := "(I)Z" } : Jvm.MethodName)) ∈ hj_tbl := List.mem_filter.mpr ⟨List.mem_append_right _ (show _ ∈ tables_1 from List.mem_append_right _ (List.mem_append_right _ (List.mem_append_left _ (List.mem_of_getElem? (i := 21) rfl)))), rfl⟩
theorem m_502 : (Jvm.Cond.selects "HalfJournal" ({ cls := "HalfJournal", name := "crashIn", desc := "(I)Z" } : Jvm.MethodName) ({ cls := "HalfJournal", name := "crashIn", desc := "(I)Z" } : Jvm.MethodName)) ∈ hj_tbl := List.mem_filter.mpr ⟨List.mem_append_right _ (show _ ∈ tables_1 from List.mem_append_right _ (List.mem_append_right _ (List.mem_append_left _ (List.mem_of_getElem? (i := 22) rfl)))), rfl⟩
theorem m_503 : (Jvm.Cond.code ({ cls := "HalfJournal", name := "crashIn", desc := "(I)Z" } : Jvm.MethodName) prog_1_method_8_code (2 : Nat) (Option.some Jvm.ClassFile.FieldType.boolean)) ∈ hj_tbl := List.mem_filter.mpr ⟨List.mem_append_right _ (show _ ∈ tables_1 from List.mem_append_right _ (List.mem_append_right _ (List.mem_append_left _ (List.mem_of_getElem? (i := 23) rfl)))), rfl⟩
theorem m_504 : (Jvm.Cond.methodLink "HalfJournalLaw" (63 : Nat) ({ cls := "HalfJournal", name := "crash", desc := "()V" } : Jvm.MethodName)) ∈ hj_tbl := List.mem_filter.mpr ⟨List.mem_append_right _ (show _ ∈ tables_1 from List.mem_append_right _ (List.mem_append_right _ (List.mem_append_left _ (List.mem_of_getElem? (i := 24) rfl)))), rfl⟩
theorem m_505 : (Jvm.Cond.instanceMethod ({ cls := "HalfJournal", name := "crash", desc := "()V" } : Jvm.MethodName)) ∈ hj_tbl := List.mem_filter.mpr ⟨List.mem_append_right _ (show _ ∈ tables_1 from List.mem_append_right _ (List.mem_append_right _ (List.mem_append_left _ (List.mem_of_getElem? (i := 25) rfl)))), rfl⟩
theorem m_506 : (Jvm.Cond.selects "HalfJournal" ({ cls := "HalfJournal", name := "crash", desc := "()V" } : Jvm.MethodName) ({ cls := "HalfJournal", name := "crash", desc := "()V" } : Jvm.MethodName)) ∈ hj_tbl := List.mem_filter.mpr ⟨List.mem_append_right _ (show _ ∈ tables_1 from List.mem_append_right _ (List.mem_append_right _ (List.mem_append_left _ (List.mem_of_getElem? (i := 26) rfl)))), rfl⟩
theorem m_507 : (Jvm.Cond.code ({ cls := "HalfJournal", name := "crash", desc := "()V" } : Jvm.MethodName) prog_1_method_9_code (1 : Nat) (Option.none : Option Jvm.ClassFile.FieldType)) ∈ hj_tbl := List.mem_filter.mpr ⟨List.mem_append_right _ (show _ ∈ tables_1 from List.mem_append_right _ (List.mem_append_right _ (List.mem_append_left _ (List.mem_of_getElem? (i := 27) rfl)))), rfl⟩
theorem m_508 : (Jvm.Cond.methodLink "HalfJournal" (96 : Nat) ({ cls := "HalfJournal", name := "leave", desc := "(I)V" } : Jvm.MethodName)) ∈ hj_tbl := List.mem_filter.mpr ⟨List.mem_append_right _ (show _ ∈ tables_1 from List.mem_append_right _ (List.mem_append_right _ (List.mem_append_left _ (List.mem_of_getElem? (i := 28) rfl)))), rfl⟩
theorem m_510 : (Jvm.Cond.instanceMethod ({ cls := "HalfJournal", name := "leave", desc := "(I)V" } : Jvm.MethodName)) ∈ hj_tbl := List.mem_filter.mpr ⟨List.mem_append_right _ (show _ ∈ tables_1 from List.mem_append_right _ (List.mem_append_right _ (List.mem_append_left _ (List.mem_of_getElem? (i := 30) rfl)))), rfl⟩
theorem m_511 : (Jvm.Cond.code ({ cls := "HalfJournal", name := "leave", desc := "(I)V" } : Jvm.MethodName) prog_1_method_16_code (2 : Nat) (Option.none : Option Jvm.ClassFile.FieldType)) ∈ hj_tbl := List.mem_filter.mpr ⟨List.mem_append_right _ (show _ ∈ tables_1 from List.mem_append_right _ (List.mem_append_right _ (List.mem_append_left _ (List.mem_of_getElem? (i := 31) rfl)))), rfl⟩
theorem m_512 : (Jvm.Cond.methodLink "HalfJournalLaw" (67 : Nat) ({ cls := "HalfJournal", name := "recover", desc := "()I" } : Jvm.MethodName)) ∈ hj_tbl := List.mem_filter.mpr ⟨List.mem_append_right _ (show _ ∈ tables_1 from List.mem_append_right _ (List.mem_append_right _ (List.mem_append_left _ (List.mem_of_getElem? (i := 32) rfl)))), rfl⟩
theorem m_513 : (Jvm.Cond.instanceMethod ({ cls := "HalfJournal", name := "recover", desc := "()I" } : Jvm.MethodName)) ∈ hj_tbl := List.mem_filter.mpr ⟨List.mem_append_right _ (show _ ∈ tables_1 from List.mem_append_right _ (List.mem_append_right _ (List.mem_append_left _ (List.mem_of_getElem? (i := 33) rfl)))), rfl⟩
theorem m_514 : (Jvm.Cond.selects "HalfJournal" ({ cls := "HalfJournal", name := "recover", desc := "()I" } : Jvm.MethodName) ({ cls := "HalfJournal", name := "recover", desc := "()I" } : Jvm.MethodName)) ∈ hj_tbl := List.mem_filter.mpr ⟨List.mem_append_right _ (show _ ∈ tables_1 from List.mem_append_right _ (List.mem_append_right _ (List.mem_append_left _ (List.mem_of_getElem? (i := 34) rfl)))), rfl⟩
theorem m_515 : (Jvm.Cond.code ({ cls := "HalfJournal", name := "recover", desc := "()I" } : Jvm.MethodName) prog_1_method_10_code (3 : Nat) (Option.some Jvm.ClassFile.FieldType.int)) ∈ hj_tbl := List.mem_filter.mpr ⟨List.mem_append_right _ (show _ ∈ tables_1 from List.mem_append_right _ (List.mem_append_right _ (List.mem_append_left _ (List.mem_of_getElem? (i := 35) rfl)))), rfl⟩
theorem m_516 : (Jvm.Cond.methodLink "HalfJournal" (127 : Nat) ({ cls := "HalfJournal", name := "generationOfHead", desc := "(I)I" } : Jvm.MethodName)) ∈ hj_tbl := List.mem_filter.mpr ⟨List.mem_append_right _ (show _ ∈ tables_1 from List.mem_append_right _ (List.mem_append_right _ (List.mem_append_left _ (List.mem_of_getElem? (i := 36) rfl)))), rfl⟩
theorem m_518 : (Jvm.Cond.instanceMethod ({ cls := "HalfJournal", name := "generationOfHead", desc := "(I)I" } : Jvm.MethodName)) ∈ hj_tbl := List.mem_filter.mpr ⟨List.mem_append_right _ (show _ ∈ tables_1 from List.mem_append_right _ (List.mem_append_right _ (List.mem_append_left _ (List.mem_of_getElem? (i := 38) rfl)))), rfl⟩
theorem m_519 : (Jvm.Cond.code ({ cls := "HalfJournal", name := "generationOfHead", desc := "(I)I" } : Jvm.MethodName) prog_1_method_20_code (4 : Nat) (Option.some Jvm.ClassFile.FieldType.int)) ∈ hj_tbl := List.mem_filter.mpr ⟨List.mem_append_right _ (show _ ∈ tables_1 from List.mem_append_right _ (List.mem_append_right _ (List.mem_append_left _ (List.mem_of_getElem? (i := 39) rfl)))), rfl⟩
theorem m_520 : (Jvm.Cond.methodLink "HalfJournal" (175 : Nat) ({ cls := "java/lang/Math", name := "max", desc := "(II)I" } : Jvm.MethodName)) ∈ hj_tbl := List.mem_filter.mpr ⟨List.mem_append_right _ (show _ ∈ tables_1 from List.mem_append_right _ (List.mem_append_right _ (List.mem_append_left _ (List.mem_of_getElem? (i := 40) rfl)))), rfl⟩
theorem m_521 : (Jvm.Cond.methodLink "HalfJournal" (130 : Nat) ({ cls := "HalfJournal", name := "halfOfHead", desc := "(I)I" } : Jvm.MethodName)) ∈ hj_tbl := List.mem_filter.mpr ⟨List.mem_append_right _ (show _ ∈ tables_1 from List.mem_append_right _ (List.mem_append_right _ (List.mem_append_left _ (List.mem_of_getElem? (i := 41) rfl)))), rfl⟩
theorem m_523 : (Jvm.Cond.instanceMethod ({ cls := "HalfJournal", name := "halfOfHead", desc := "(I)I" } : Jvm.MethodName)) ∈ hj_tbl := List.mem_filter.mpr ⟨List.mem_append_right _ (show _ ∈ tables_1 from List.mem_append_right _ (List.mem_append_right _ (List.mem_append_left _ (List.mem_of_getElem? (i := 43) rfl)))), rfl⟩
theorem m_524 : (Jvm.Cond.code ({ cls := "HalfJournal", name := "halfOfHead", desc := "(I)I" } : Jvm.MethodName) prog_1_method_21_code (2 : Nat) (Option.some Jvm.ClassFile.FieldType.int)) ∈ hj_tbl := List.mem_filter.mpr ⟨List.mem_append_right _ (show _ ∈ tables_1 from List.mem_append_right _ (List.mem_append_right _ (List.mem_append_left _ (List.mem_of_getElem? (i := 44) rfl)))), rfl⟩
theorem m_525 : (Jvm.Cond.methodLink "HalfJournalLaw" (71 : Nat) ({ cls := "HalfJournal", name := "spoil", desc := "(III)Z" } : Jvm.MethodName)) ∈ hj_tbl := List.mem_filter.mpr ⟨List.mem_append_right _ (show _ ∈ tables_1 from List.mem_append_right _ (List.mem_append_right _ (List.mem_append_left _ (List.mem_of_getElem? (i := 45) rfl)))), rfl⟩
theorem m_526 : (Jvm.Cond.instanceMethod ({ cls := "HalfJournal", name := "spoil", desc := "(III)Z" } : Jvm.MethodName)) ∈ hj_tbl := List.mem_filter.mpr ⟨List.mem_append_right _ (show _ ∈ tables_1 from List.mem_append_right _ (List.mem_append_right _ (List.mem_append_left _ (List.mem_of_getElem? (i := 46) rfl)))), rfl⟩
theorem m_527 : (Jvm.Cond.selects "HalfJournal" ({ cls := "HalfJournal", name := "spoil", desc := "(III)Z" } : Jvm.MethodName) ({ cls := "HalfJournal", name := "spoil", desc := "(III)Z" } : Jvm.MethodName)) ∈ hj_tbl := List.mem_filter.mpr ⟨List.mem_append_right _ (show _ ∈ tables_1 from List.mem_append_right _ (List.mem_append_right _ (List.mem_append_left _ (List.mem_of_getElem? (i := 47) rfl)))), rfl⟩
theorem m_528 : (Jvm.Cond.code ({ cls := "HalfJournal", name := "spoil", desc := "(III)Z" } : Jvm.MethodName) prog_1_method_11_code (4 : Nat) (Option.some Jvm.ClassFile.FieldType.boolean)) ∈ hj_tbl := List.mem_filter.mpr ⟨List.mem_append_right _ (show _ ∈ tables_1 from List.mem_append_right _ (List.mem_append_right _ (List.mem_append_left _ (List.mem_of_getElem? (i := 48) rfl)))), rfl⟩
theorem m_529 : (Jvm.Cond.methodLink "HalfJournal" (133 : Nat) ({ cls := "HalfJournal", name := "isBlock", desc := "(I)Z" } : Jvm.MethodName)) ∈ hj_tbl := List.mem_filter.mpr ⟨List.mem_append_right _ (show _ ∈ tables_1 from List.mem_append_right _ (List.mem_append_right _ (List.mem_append_left _ (List.mem_of_getElem? (i := 49) rfl)))), rfl⟩
theorem m_530 : (Jvm.Cond.static ({ cls := "HalfJournal", name := "isBlock", desc := "(I)Z" } : Jvm.MethodName)) ∈ hj_tbl := List.mem_filter.mpr ⟨List.mem_append_right _ (show _ ∈ tables_1 from List.mem_append_right _ (List.mem_append_right _ (List.mem_append_left _ (List.mem_of_getElem? (i := 50) rfl)))), rfl⟩
theorem m_531 : (Jvm.Cond.code ({ cls := "HalfJournal", name := "isBlock", desc := "(I)Z" } : Jvm.MethodName) prog_1_method_29_code (1 : Nat) (Option.some Jvm.ClassFile.FieldType.boolean)) ∈ hj_tbl := List.mem_filter.mpr ⟨List.mem_append_right _ (show _ ∈ tables_1 from List.mem_append_right _ (List.mem_append_right _ (List.mem_append_left _ (List.mem_of_getElem? (i := 51) rfl)))), rfl⟩
theorem m_532 : (Jvm.Cond.methodLink "HalfJournalLaw" (76 : Nat) ({ cls := "HalfJournal", name := "length", desc := "(I)I" } : Jvm.MethodName)) ∈ hj_tbl := List.mem_filter.mpr ⟨List.mem_append_right _ (show _ ∈ tables_1 from List.mem_append_right _ (List.mem_append_right _ (List.mem_append_left _ (List.mem_of_getElem? (i := 52) rfl)))), rfl⟩
theorem m_533 : (Jvm.Cond.instanceMethod ({ cls := "HalfJournal", name := "length", desc := "(I)I" } : Jvm.MethodName)) ∈ hj_tbl := List.mem_filter.mpr ⟨List.mem_append_right _ (show _ ∈ tables_1 from List.mem_append_right _ (List.mem_append_right _ (List.mem_append_left _ (List.mem_of_getElem? (i := 53) rfl)))), rfl⟩
theorem m_534 : (Jvm.Cond.selects "HalfJournal" ({ cls := "HalfJournal", name := "length", desc := "(I)I" } : Jvm.MethodName) ({ cls := "HalfJournal", name := "length", desc := "(I)I" } : Jvm.MethodName)) ∈ hj_tbl := List.mem_filter.mpr ⟨List.mem_append_right _ (show _ ∈ tables_1 from List.mem_append_right _ (List.mem_append_right _ (List.mem_append_left _ (List.mem_of_getElem? (i := 54) rfl)))), rfl⟩
theorem m_535 : (Jvm.Cond.code ({ cls := "HalfJournal", name := "length", desc := "(I)I" } : Jvm.MethodName) prog_1_method_12_code (2 : Nat) (Option.some Jvm.ClassFile.FieldType.int)) ∈ hj_tbl := List.mem_filter.mpr ⟨List.mem_append_right _ (show _ ∈ tables_1 from List.mem_append_right _ (List.mem_append_right _ (List.mem_append_left _ (List.mem_of_getElem? (i := 55) rfl)))), rfl⟩
theorem m_536 : (Jvm.Cond.methodLink "HalfJournalLaw" (81 : Nat) ({ cls := "HalfJournal", name := "record", desc := "(II)J" } : Jvm.MethodName)) ∈ hj_tbl := List.mem_filter.mpr ⟨List.mem_append_right _ (show _ ∈ tables_1 from List.mem_append_right _ (List.mem_append_right _ (List.mem_append_left _ (List.mem_of_getElem? (i := 56) rfl)))), rfl⟩
theorem m_537 : (Jvm.Cond.instanceMethod ({ cls := "HalfJournal", name := "record", desc := "(II)J" } : Jvm.MethodName)) ∈ hj_tbl := List.mem_filter.mpr ⟨List.mem_append_right _ (show _ ∈ tables_1 from List.mem_append_right _ (List.mem_append_right _ (List.mem_append_left _ (List.mem_of_getElem? (i := 57) rfl)))), rfl⟩
theorem m_538 : (Jvm.Cond.selects "HalfJournal" ({ cls := "HalfJournal", name := "record", desc := "(II)J" } : Jvm.MethodName) ({ cls := "HalfJournal", name := "record", desc := "(II)J" } : Jvm.MethodName)) ∈ hj_tbl := List.mem_filter.mpr ⟨List.mem_append_right _ (show _ ∈ tables_1 from List.mem_append_right _ (List.mem_append_right _ (List.mem_append_left _ (List.mem_of_getElem? (i := 58) rfl)))), rfl⟩
theorem m_539 : (Jvm.Cond.code ({ cls := "HalfJournal", name := "record", desc := "(II)J" } : Jvm.MethodName) prog_1_method_13_code (4 : Nat) (Option.some Jvm.ClassFile.FieldType.long)) ∈ hj_tbl := List.mem_filter.mpr ⟨List.mem_append_right _ (show _ ∈ tables_1 from List.mem_append_right _ (List.mem_append_right _ (List.mem_append_left _ (List.mem_of_getElem? (i := 59) rfl)))), rfl⟩
theorem m_540 : (Jvm.Cond.methodLink "HalfJournal" (146 : Nat) ({ cls := "HalfJournal", name := "word", desc := "([BII)J" } : Jvm.MethodName)) ∈ hj_tbl := List.mem_filter.mpr ⟨List.mem_append_right _ (show _ ∈ tables_1 from List.mem_append_right _ (List.mem_append_right _ (List.mem_append_left _ (List.mem_of_getElem? (i := 60) rfl)))), rfl⟩
theorem m_541 : (Jvm.Cond.static ({ cls := "HalfJournal", name := "word", desc := "([BII)J" } : Jvm.MethodName)) ∈ hj_tbl := List.mem_filter.mpr ⟨List.mem_append_right _ (show _ ∈ tables_1 from List.mem_append_right _ (List.mem_append_right _ (List.mem_append_left _ (List.mem_of_getElem? (i := 61) rfl)))), rfl⟩
theorem m_542 : (Jvm.Cond.code ({ cls := "HalfJournal", name := "word", desc := "([BII)J" } : Jvm.MethodName) prog_1_method_40_code (7 : Nat) (Option.some Jvm.ClassFile.FieldType.long)) ∈ hj_tbl := List.mem_filter.mpr ⟨List.mem_append_right _ (show _ ∈ tables_1 from List.mem_append_right _ (List.mem_append_right _ (List.mem_append_left _ (List.mem_of_getElem? (i := 62) rfl)))), rfl⟩
theorem m_543 : (Jvm.Cond.methodLink "HalfJournalLaw" (86 : Nat) ({ cls := "HalfJournal", name := "block", desc := "(II)J" } : Jvm.MethodName)) ∈ hj_tbl := List.mem_filter.mpr ⟨List.mem_append_right _ (show _ ∈ tables_1 from List.mem_append_right _ (List.mem_append_right _ (List.mem_append_left _ (List.mem_of_getElem? (i := 63) rfl)))), rfl⟩
theorem m_544 : (Jvm.Cond.instanceMethod ({ cls := "HalfJournal", name := "block", desc := "(II)J" } : Jvm.MethodName)) ∈ hj_tbl := List.mem_filter.mpr ⟨List.mem_append_right _ (show _ ∈ tables_1 from List.mem_append_right _ (List.mem_append_right _ (List.mem_append_left _ (List.mem_of_getElem? (i := 64) rfl)))), rfl⟩
theorem m_545 : (Jvm.Cond.selects "HalfJournal" ({ cls := "HalfJournal", name := "block", desc := "(II)J" } : Jvm.MethodName) ({ cls := "HalfJournal", name := "block", desc := "(II)J" } : Jvm.MethodName)) ∈ hj_tbl := List.mem_filter.mpr ⟨List.mem_append_right _ (show _ ∈ tables_1 from List.mem_append_right _ (List.mem_append_right _ (List.mem_append_left _ (List.mem_of_getElem? (i := 65) rfl)))), rfl⟩
theorem m_546 : (Jvm.Cond.code ({ cls := "HalfJournal", name := "block", desc := "(II)J" } : Jvm.MethodName) prog_1_method_14_code (3 : Nat) (Option.some Jvm.ClassFile.FieldType.long)) ∈ hj_tbl := List.mem_filter.mpr ⟨List.mem_append_right _ (show _ ∈ tables_1 from List.mem_append_right _ (List.mem_append_right _ (List.mem_append_left _ (List.mem_of_getElem? (i := 66) rfl)))), rfl⟩
theorem m_547 : (Jvm.Cond.methodLink "HalfJournalLaw" (90 : Nat) ({ cls := "HalfJournal", name := "look", desc := "(I)I" } : Jvm.MethodName)) ∈ hj_tbl := List.mem_filter.mpr ⟨List.mem_append_right _ (show _ ∈ tables_1 from List.mem_append_right _ (List.mem_append_right _ (List.mem_append_left _ (List.mem_of_getElem? (i := 67) rfl)))), rfl⟩
theorem m_548 : (Jvm.Cond.instanceMethod ({ cls := "HalfJournal", name := "look", desc := "(I)I" } : Jvm.MethodName)) ∈ hj_tbl := List.mem_filter.mpr ⟨List.mem_append_right _ (show _ ∈ tables_1 from List.mem_append_right _ (List.mem_append_right _ (List.mem_append_left _ (List.mem_of_getElem? (i := 68) rfl)))), rfl⟩
theorem m_549 : (Jvm.Cond.selects "HalfJournal" ({ cls := "HalfJournal", name := "look", desc := "(I)I" } : Jvm.MethodName) ({ cls := "HalfJournal", name := "look", desc := "(I)I" } : Jvm.MethodName)) ∈ hj_tbl := List.mem_filter.mpr ⟨List.mem_append_right _ (show _ ∈ tables_1 from List.mem_append_right _ (List.mem_append_right _ (List.mem_append_left _ (List.mem_of_getElem? (i := 69) rfl)))), rfl⟩
theorem m_550 : (Jvm.Cond.code ({ cls := "HalfJournal", name := "look", desc := "(I)I" } : Jvm.MethodName) prog_1_method_15_code (2 : Nat) (Option.some Jvm.ClassFile.FieldType.int)) ∈ hj_tbl := List.mem_filter.mpr ⟨List.mem_append_right _ (show _ ∈ tables_1 from List.mem_append_right _ (List.mem_append_right _ (List.mem_append_left _ (List.mem_of_getElem? (i := 70) rfl)))), rfl⟩
theorem m_551 : (Jvm.Cond.methodLink "HalfJournalLaw" (41 : Nat) ({ cls := "HalfJournalLaw", name := "append", desc := "(LHalfJournal;[J)I" } : Jvm.MethodName)) ∈ hj_tbl := List.mem_filter.mpr ⟨List.mem_append_right _ (show _ ∈ tables_1 from List.mem_append_right _ (List.mem_append_right _ (List.mem_append_left _ (List.mem_of_getElem? (i := 71) rfl)))), rfl⟩
theorem m_552 : (Jvm.Cond.static ({ cls := "HalfJournalLaw", name := "append", desc := "(LHalfJournal;[J)I" } : Jvm.MethodName)) ∈ hj_tbl := List.mem_filter.mpr ⟨List.mem_append_right _ (show _ ∈ tables_1 from List.mem_append_right _ (List.mem_append_right _ (List.mem_append_left _ (List.mem_of_getElem? (i := 72) rfl)))), rfl⟩
theorem m_554 : (Jvm.Cond.classLink "HalfJournalLaw" (13 : Nat) "java/lang/IllegalStateException") ∈ hj_tbl := List.mem_filter.mpr ⟨List.mem_append_right _ (show _ ∈ tables_1 from List.mem_append_right _ (List.mem_append_right _ (List.mem_append_left _ (List.mem_of_getElem? (i := 74) rfl)))), rfl⟩
theorem m_555 : (Jvm.Cond.classLink "HalfJournalLaw" (15 : Nat) "java/lang/IllegalArgumentException") ∈ hj_tbl := List.mem_filter.mpr ⟨List.mem_append_right _ (show _ ∈ tables_1 from List.mem_append_right _ (List.mem_append_right _ (List.mem_append_left _ (List.mem_of_getElem? (i := 75) rfl)))), rfl⟩
theorem m_556 : (Jvm.Cond.classLink "HalfJournalLaw" (17 : Nat) "java/lang/UnsupportedOperationException") ∈ hj_tbl := List.mem_filter.mpr ⟨List.mem_append_right _ (show _ ∈ tables_1 from List.mem_append_right _ (List.mem_append_right _ (List.mem_append_left _ (List.mem_of_getElem? (i := 76) rfl)))), rfl⟩
theorem m_557 : (Jvm.Cond.methodLink "HalfJournalLaw" (7 : Nat) ({ cls := "HalfJournal", name := "append", desc := "()I" } : Jvm.MethodName)) ∈ hj_tbl := List.mem_filter.mpr ⟨List.mem_append_right _ (show _ ∈ tables_1 from List.mem_append_right _ (List.mem_append_right _ (List.mem_append_left _ (List.mem_of_getElem? (i := 77) rfl)))), rfl⟩
theorem m_558 : (Jvm.Cond.instanceMethod ({ cls := "HalfJournal", name := "append", desc := "()I" } : Jvm.MethodName)) ∈ hj_tbl := List.mem_filter.mpr ⟨List.mem_append_right _ (show _ ∈ tables_1 from List.mem_append_right _ (List.mem_append_right _ (List.mem_append_left _ (List.mem_of_getElem? (i := 78) rfl)))), rfl⟩
theorem m_559 : (Jvm.Cond.selects "HalfJournal" ({ cls := "HalfJournal", name := "append", desc := "()I" } : Jvm.MethodName) ({ cls := "HalfJournal", name := "append", desc := "()I" } : Jvm.MethodName)) ∈ hj_tbl := List.mem_filter.mpr ⟨List.mem_append_right _ (show _ ∈ tables_1 from List.mem_append_right _ (List.mem_append_right _ (List.mem_append_left _ (List.mem_of_getElem? (i := 79) rfl)))), rfl⟩
theorem m_560 : (Jvm.Cond.code ({ cls := "HalfJournal", name := "append", desc := "()I" } : Jvm.MethodName) prog_1_method_5_code (4 : Nat) (Option.some Jvm.ClassFile.FieldType.int)) ∈ hj_tbl := List.mem_filter.mpr ⟨List.mem_append_right _ (show _ ∈ tables_1 from List.mem_append_right _ (List.mem_append_right _ (List.mem_append_left _ (List.mem_of_getElem? (i := 80) rfl)))), rfl⟩
theorem m_561 : (Jvm.Cond.classLink "HalfJournal" (62 : Nat) "java/lang/IllegalStateException") ∈ hj_tbl := List.mem_filter.mpr ⟨List.mem_append_right _ (show _ ∈ tables_1 from List.mem_append_right _ (List.mem_append_right _ (List.mem_append_left _ (List.mem_of_getElem? (i := 81) rfl)))), rfl⟩
theorem m_562 : (Jvm.Cond.instantiable "java/lang/IllegalStateException" (6 : Nat)) ∈ hj_tbl := List.mem_filter.mpr ⟨List.mem_append_right _ (show _ ∈ tables_1 from List.mem_append_right _ (List.mem_append_right _ (List.mem_append_left _ (List.mem_of_getElem? (i := 82) rfl)))), rfl⟩
theorem m_564 : (Jvm.Cond.selects "java/lang/IllegalStateException" ({ cls := "java/lang/Throwable", name := "fillInStackTrace", desc := "(I)Ljava/lang/Throwable;" } : Jvm.MethodName) ({ cls := "java/lang/Throwable", name := "fillInStackTrace", desc := "(I)Ljava/lang/Throwable;" } : Jvm.MethodName)) ∈ hj_tbl := List.mem_filter.mpr ⟨List.mem_append_right _ (show _ ∈ tables_1 from List.mem_append_right _ (List.mem_append_right _ (List.mem_append_left _ (List.mem_of_getElem? (i := 84) rfl)))), rfl⟩
theorem m_565 : (Jvm.Cond.lays "java/lang/IllegalStateException" "java/lang/Throwable" "cause" "Ljava/lang/Throwable;") ∈ hj_tbl := List.mem_filter.mpr ⟨List.mem_append_right _ (show _ ∈ tables_1 from List.mem_append_right _ (List.mem_append_right _ (List.mem_append_left _ (List.mem_of_getElem? (i := 85) rfl)))), rfl⟩
theorem m_566 : (Jvm.Cond.lays "java/lang/IllegalStateException" "java/lang/Throwable" "stackTrace" "[Ljava/lang/StackTraceElement;") ∈ hj_tbl := List.mem_filter.mpr ⟨List.mem_append_right _ (show _ ∈ tables_1 from List.mem_append_right _ (List.mem_append_right _ (List.mem_append_left _ (List.mem_of_getElem? (i := 86) rfl)))), rfl⟩
theorem m_567 : (Jvm.Cond.lays "java/lang/IllegalStateException" "java/lang/Throwable" "suppressedExceptions" "Ljava/util/List;") ∈ hj_tbl := List.mem_filter.mpr ⟨List.mem_append_right _ (show _ ∈ tables_1 from List.mem_append_right _ (List.mem_append_right _ (List.mem_append_left _ (List.mem_of_getElem? (i := 87) rfl)))), rfl⟩
theorem m_568 : (Jvm.Cond.lays "java/lang/IllegalStateException" "java/lang/Throwable" "detailMessage" "Ljava/lang/String;") ∈ hj_tbl := List.mem_filter.mpr ⟨List.mem_append_right _ (show _ ∈ tables_1 from List.mem_append_right _ (List.mem_append_right _ (List.mem_append_left _ (List.mem_of_getElem? (i := 88) rfl)))), rfl⟩
theorem m_569 : (Jvm.Cond.lays "java/lang/IllegalStateException" "java/lang/Throwable" "backtrace" "Ljava/lang/Object;") ∈ hj_tbl := List.mem_filter.mpr ⟨List.mem_append_right _ (show _ ∈ tables_1 from List.mem_append_right _ (List.mem_append_right _ (List.mem_append_left _ (List.mem_of_getElem? (i := 89) rfl)))), rfl⟩
theorem m_571 : (Jvm.Cond.methodLink "HalfJournal" (66 : Nat) ({ cls := "java/lang/IllegalStateException", name := "<init>", desc := "(Ljava/lang/String;)V" } : Jvm.MethodName)) ∈ hj_tbl := List.mem_filter.mpr ⟨List.mem_append_right _ (show _ ∈ tables_1 from List.mem_append_right _ (List.mem_append_right _ (List.mem_append_left _ (List.mem_of_getElem? (i := 91) rfl)))), rfl⟩
theorem m_572 : (Jvm.Cond.instanceMethod ({ cls := "java/lang/IllegalStateException", name := "<init>", desc := "(Ljava/lang/String;)V" } : Jvm.MethodName)) ∈ hj_tbl := List.mem_filter.mpr ⟨List.mem_append_right _ (show _ ∈ tables_1 from List.mem_append_right _ (List.mem_append_right _ (List.mem_append_left _ (List.mem_of_getElem? (i := 92) rfl)))), rfl⟩
theorem m_573 : (Jvm.Cond.code ({ cls := "java/lang/IllegalStateException", name := "<init>", desc := "(Ljava/lang/String;)V" } : Jvm.MethodName) prog_10_method_2_code (2 : Nat) (Option.none : Option Jvm.ClassFile.FieldType)) ∈ hj_tbl := List.mem_filter.mpr ⟨List.mem_append_right _ (show _ ∈ tables_1 from List.mem_append_right _ (List.mem_append_right _ (List.mem_append_left _ (List.mem_of_getElem? (i := 93) rfl)))), rfl⟩
theorem m_574 : (Jvm.Cond.methodLink "java/lang/IllegalStateException" (7 : Nat) ({ cls := "java/lang/RuntimeException", name := "<init>", desc := "(Ljava/lang/String;)V" } : Jvm.MethodName)) ∈ hj_tbl := List.mem_filter.mpr ⟨List.mem_append_right _ (show _ ∈ tables_1 from List.mem_append_right _ (List.mem_append_right _ (List.mem_append_left _ (List.mem_of_getElem? (i := 94) rfl)))), rfl⟩
theorem m_575 : (Jvm.Cond.lays "java/lang/IllegalStateException" "java/lang/Throwable" "depth" "I") ∈ hj_tbl := List.mem_filter.mpr ⟨List.mem_append_right _ (show _ ∈ tables_1 from List.mem_append_right _ (List.mem_append_right _ (List.mem_append_left _ (List.mem_of_getElem? (i := 95) rfl)))), rfl⟩
theorem m_577 : (Jvm.Cond.classLink "HalfJournal" (69 : Nat) "java/lang/IllegalArgumentException") ∈ hj_tbl := List.mem_filter.mpr ⟨List.mem_append_right _ (show _ ∈ tables_1 from List.mem_append_right _ (List.mem_append_right _ (List.mem_append_left _ (List.mem_of_getElem? (i := 97) rfl)))), rfl⟩
theorem m_579 : (Jvm.Cond.methodLink "HalfJournal" (73 : Nat) ({ cls := "java/lang/IllegalArgumentException", name := "<init>", desc := "(Ljava/lang/String;)V" } : Jvm.MethodName)) ∈ hj_tbl := List.mem_filter.mpr ⟨List.mem_append_right _ (show _ ∈ tables_1 from List.mem_append_right _ (List.mem_append_right _ (List.mem_append_left _ (List.mem_of_getElem? (i := 99) rfl)))), rfl⟩
theorem m_580 : (Jvm.Cond.classLink "HalfJournal" (81 : Nat) "java/lang/UnsupportedOperationException") ∈ hj_tbl := List.mem_filter.mpr ⟨List.mem_append_right _ (show _ ∈ tables_1 from List.mem_append_right _ (List.mem_append_right _ (List.mem_append_left _ (List.mem_of_getElem? (i := 100) rfl)))), rfl⟩
theorem m_581 : (Jvm.Cond.instantiable "java/lang/UnsupportedOperationException" (6 : Nat)) ∈ hj_tbl := List.mem_filter.mpr ⟨List.mem_append_right _ (show _ ∈ tables_1 from List.mem_append_right _ (List.mem_append_right _ (List.mem_append_left _ (List.mem_of_getElem? (i := 101) rfl)))), rfl⟩
theorem m_583 : (Jvm.Cond.selects "java/lang/UnsupportedOperationException" ({ cls := "java/lang/Throwable", name := "fillInStackTrace", desc := "(I)Ljava/lang/Throwable;" } : Jvm.MethodName) ({ cls := "java/lang/Throwable", name := "fillInStackTrace", desc := "(I)Ljava/lang/Throwable;" } : Jvm.MethodName)) ∈ hj_tbl := List.mem_filter.mpr ⟨List.mem_append_right _ (show _ ∈ tables_1 from List.mem_append_right _ (List.mem_append_right _ (List.mem_append_left _ (List.mem_of_getElem? (i := 103) rfl)))), rfl⟩
theorem m_584 : (Jvm.Cond.lays "java/lang/UnsupportedOperationException" "java/lang/Throwable" "cause" "Ljava/lang/Throwable;") ∈ hj_tbl := List.mem_filter.mpr ⟨List.mem_append_right _ (show _ ∈ tables_1 from List.mem_append_right _ (List.mem_append_right _ (List.mem_append_left _ (List.mem_of_getElem? (i := 104) rfl)))), rfl⟩
theorem m_585 : (Jvm.Cond.lays "java/lang/UnsupportedOperationException" "java/lang/Throwable" "stackTrace" "[Ljava/lang/StackTraceElement;") ∈ hj_tbl := List.mem_filter.mpr ⟨List.mem_append_right _ (show _ ∈ tables_1 from List.mem_append_right _ (List.mem_append_right _ (List.mem_append_left _ (List.mem_of_getElem? (i := 105) rfl)))), rfl⟩
theorem m_586 : (Jvm.Cond.lays "java/lang/UnsupportedOperationException" "java/lang/Throwable" "suppressedExceptions" "Ljava/util/List;") ∈ hj_tbl := List.mem_filter.mpr ⟨List.mem_append_right _ (show _ ∈ tables_1 from List.mem_append_right _ (List.mem_append_right _ (List.mem_append_left _ (List.mem_of_getElem? (i := 106) rfl)))), rfl⟩
theorem m_587 : (Jvm.Cond.lays "java/lang/UnsupportedOperationException" "java/lang/Throwable" "detailMessage" "Ljava/lang/String;") ∈ hj_tbl := List.mem_filter.mpr ⟨List.mem_append_right _ (show _ ∈ tables_1 from List.mem_append_right _ (List.mem_append_right _ (List.mem_append_left _ (List.mem_of_getElem? (i := 107) rfl)))), rfl⟩
theorem m_588 : (Jvm.Cond.lays "java/lang/UnsupportedOperationException" "java/lang/Throwable" "backtrace" "Ljava/lang/Object;") ∈ hj_tbl := List.mem_filter.mpr ⟨List.mem_append_right _ (show _ ∈ tables_1 from List.mem_append_right _ (List.mem_append_right _ (List.mem_append_left _ (List.mem_of_getElem? (i := 108) rfl)))), rfl⟩
theorem m_590 : (Jvm.Cond.methodLink "HalfJournal" (85 : Nat) ({ cls := "java/lang/UnsupportedOperationException", name := "<init>", desc := "(Ljava/lang/String;)V" } : Jvm.MethodName)) ∈ hj_tbl := List.mem_filter.mpr ⟨List.mem_append_right _ (show _ ∈ tables_1 from List.mem_append_right _ (List.mem_append_right _ (List.mem_append_left _ (List.mem_of_getElem? (i := 110) rfl)))), rfl⟩
theorem m_591 : (Jvm.Cond.instanceMethod ({ cls := "java/lang/UnsupportedOperationException", name := "<init>", desc := "(Ljava/lang/String;)V" } : Jvm.MethodName)) ∈ hj_tbl := List.mem_filter.mpr ⟨List.mem_append_right _ (show _ ∈ tables_1 from List.mem_append_right _ (List.mem_append_right _ (List.mem_append_left _ (List.mem_of_getElem? (i := 111) rfl)))), rfl⟩
theorem m_592 : (Jvm.Cond.code ({ cls := "java/lang/UnsupportedOperationException", name := "<init>", desc := "(Ljava/lang/String;)V" } : Jvm.MethodName) prog_20_method_2_code (2 : Nat) (Option.none : Option Jvm.ClassFile.FieldType)) ∈ hj_tbl := List.mem_filter.mpr ⟨List.mem_append_right _ (show _ ∈ tables_1 from List.mem_append_right _ (List.mem_append_right _ (List.mem_append_left _ (List.mem_of_getElem? (i := 112) rfl)))), rfl⟩
theorem m_593 : (Jvm.Cond.methodLink "java/lang/UnsupportedOperationException" (7 : Nat) ({ cls := "java/lang/RuntimeException", name := "<init>", desc := "(Ljava/lang/String;)V" } : Jvm.MethodName)) ∈ hj_tbl := List.mem_filter.mpr ⟨List.mem_append_right _ (show _ ∈ tables_1 from List.mem_append_right _ (List.mem_append_right _ (List.mem_append_left _ (List.mem_of_getElem? (i := 113) rfl)))), rfl⟩
theorem m_594 : (Jvm.Cond.lays "java/lang/UnsupportedOperationException" "java/lang/Throwable" "depth" "I") ∈ hj_tbl := List.mem_filter.mpr ⟨List.mem_append_right _ (show _ ∈ tables_1 from List.mem_append_right _ (List.mem_append_right _ (List.mem_append_left _ (List.mem_of_getElem? (i := 114) rfl)))), rfl⟩
theorem m_596 : (Jvm.Cond.methodLink "HalfJournal" (86 : Nat) ({ cls := "HalfJournal", name := "lastBlockOf", desc := "(I)I" } : Jvm.MethodName)) ∈ hj_tbl := List.mem_filter.mpr ⟨List.mem_append_right _ (show _ ∈ tables_1 from List.mem_append_right _ (List.mem_append_right _ (List.mem_append_left _ (List.mem_of_getElem? (i := 116) rfl)))), rfl⟩
theorem m_597 : (Jvm.Cond.static ({ cls := "HalfJournal", name := "lastBlockOf", desc := "(I)I" } : Jvm.MethodName)) ∈ hj_tbl := List.mem_filter.mpr ⟨List.mem_append_right _ (show _ ∈ tables_1 from List.mem_append_right _ (List.mem_append_right _ (List.mem_append_left _ (List.mem_of_getElem? (i := 117) rfl)))), rfl⟩
theorem m_598 : (Jvm.Cond.code ({ cls := "HalfJournal", name := "lastBlockOf", desc := "(I)I" } : Jvm.MethodName) prog_1_method_32_code (1 : Nat) (Option.some Jvm.ClassFile.FieldType.int)) ∈ hj_tbl := List.mem_filter.mpr ⟨List.mem_append_right _ (show _ ∈ tables_1 from List.mem_append_right _ (List.mem_append_right _ (List.mem_append_left _ (List.mem_of_getElem? (i := 118) rfl)))), rfl⟩
theorem m_599 : (Jvm.Cond.methodLink "HalfJournal" (199 : Nat) ({ cls := "java/lang/Math", name := "min", desc := "(II)I" } : Jvm.MethodName)) ∈ hj_tbl := List.mem_filter.mpr ⟨List.mem_append_right _ (show _ ∈ tables_1 from List.mem_append_right _ (List.mem_append_right _ (List.mem_append_left _ (List.mem_of_getElem? (i := 119) rfl)))), rfl⟩
theorem m_600 : (Jvm.Cond.methodLink "HalfJournal" (89 : Nat) ({ cls := "HalfJournal", name := "planTape", desc := "(II)V" } : Jvm.MethodName)) ∈ hj_tbl := List.mem_filter.mpr ⟨List.mem_append_right _ (show _ ∈ tables_1 from List.mem_append_right _ (List.mem_append_right _ (List.mem_append_left _ (List.mem_of_getElem? (i := 120) rfl)))), rfl⟩
theorem m_602 : (Jvm.Cond.instanceMethod ({ cls := "HalfJournal", name := "planTape", desc := "(II)V" } : Jvm.MethodName)) ∈ hj_tbl := List.mem_filter.mpr ⟨List.mem_append_right _ (show _ ∈ tables_1 from List.mem_append_right _ (List.mem_append_right _ (List.mem_append_left _ (List.mem_of_getElem? (i := 122) rfl)))), rfl⟩
theorem m_603 : (Jvm.Cond.code ({ cls := "HalfJournal", name := "planTape", desc := "(II)V" } : Jvm.MethodName) prog_1_method_22_code (6 : Nat) (Option.none : Option Jvm.ClassFile.FieldType)) ∈ hj_tbl := List.mem_filter.mpr ⟨List.mem_append_right _ (show _ ∈ tables_1 from List.mem_append_right _ (List.mem_append_right _ (List.mem_append_left _ (List.mem_of_getElem? (i := 123) rfl)))), rfl⟩
theorem m_604 : (Jvm.Cond.methodLink "HalfJournal" (181 : Nat) ({ cls := "HalfJournal", name := "copyBytes", desc := "([BI[BII)V" } : Jvm.MethodName)) ∈ hj_tbl := List.mem_filter.mpr ⟨List.mem_append_right _ (show _ ∈ tables_1 from List.mem_append_right _ (List.mem_append_right _ (List.mem_append_left _ (List.mem_of_getElem? (i := 124) rfl)))), rfl⟩
theorem m_605 : (Jvm.Cond.static ({ cls := "HalfJournal", name := "copyBytes", desc := "([BI[BII)V" } : Jvm.MethodName)) ∈ hj_tbl := List.mem_filter.mpr ⟨List.mem_append_right _ (show _ ∈ tables_1 from List.mem_append_right _ (List.mem_append_right _ (List.mem_append_left _ (List.mem_of_getElem? (i := 125) rfl)))), rfl⟩
theorem m_606 : (Jvm.Cond.code ({ cls := "HalfJournal", name := "copyBytes", desc := "([BI[BII)V" } : Jvm.MethodName) prog_1_method_35_code (5 : Nat) (Option.none : Option Jvm.ClassFile.FieldType)) ∈ hj_tbl := List.mem_filter.mpr ⟨List.mem_append_right _ (show _ ∈ tables_1 from List.mem_append_right _ (List.mem_append_right _ (List.mem_append_left _ (List.mem_of_getElem? (i := 126) rfl)))), rfl⟩
theorem m_607 : (Jvm.Cond.methodLink "HalfJournal" (206 : Nat) ({ cls := "java/lang/System", name := "arraycopy", desc := "(Ljava/lang/Object;ILjava/lang/Object;II)V" } : Jvm.MethodName)) ∈ hj_tbl := List.mem_filter.mpr ⟨List.mem_append_right _ (show _ ∈ tables_1 from List.mem_append_right _ (List.mem_append_right _ (List.mem_append_left _ (List.mem_of_getElem? (i := 127) rfl)))), rfl⟩
theorem m_608 : (Jvm.Cond.methodLink "HalfJournal" (92 : Nat) ({ cls := "HalfJournal", name := "writeLastFirst", desc := "(II)Z" } : Jvm.MethodName)) ∈ hj_tbl := List.mem_filter.mpr ⟨List.mem_append_right _ (show _ ∈ tables_1 from List.mem_append_right _ (List.mem_append_right _ (List.mem_append_left _ (List.mem_of_getElem? (i := 128) rfl)))), rfl⟩
theorem m_610 : (Jvm.Cond.instanceMethod ({ cls := "HalfJournal", name := "writeLastFirst", desc := "(II)Z" } : Jvm.MethodName)) ∈ hj_tbl := List.mem_filter.mpr ⟨List.mem_append_right _ (show _ ∈ tables_1 from List.mem_append_right _ (List.mem_append_right _ (List.mem_append_left _ (List.mem_of_getElem? (i := 130) rfl)))), rfl⟩
theorem m_611 : (Jvm.Cond.code ({ cls := "HalfJournal", name := "writeLastFirst", desc := "(II)Z" } : Jvm.MethodName) prog_1_method_24_code (4 : Nat) (Option.some Jvm.ClassFile.FieldType.boolean)) ∈ hj_tbl := List.mem_filter.mpr ⟨List.mem_append_right _ (show _ ∈ tables_1 from List.mem_append_right _ (List.mem_append_right _ (List.mem_append_left _ (List.mem_of_getElem? (i := 131) rfl)))), rfl⟩
theorem m_612 : (Jvm.Cond.methodLinkNest "HalfJournal" (195 : Nat) ({ cls := "HalfJournal$Disk", name := "write", desc := "(I[BI)Z" } : Jvm.MethodName) "HalfJournal") ∈ hj_nest := List.mem_filter.mpr ⟨List.mem_append_right _ (show _ ∈ tables_1 from List.mem_append_right _ (List.mem_append_right _ (List.mem_append_left _ (List.mem_of_getElem? (i := 132) rfl)))), rfl⟩
theorem m_614 : (Jvm.Cond.instanceMethod ({ cls := "HalfJournal$Disk", name := "write", desc := "(I[BI)Z" } : Jvm.MethodName)) ∈ hj_tbl := List.mem_filter.mpr ⟨List.mem_append_right _ (show _ ∈ tables_1 from List.mem_append_right _ (List.mem_append_right _ (List.mem_append_left _ (List.mem_of_getElem? (i := 134) rfl)))), rfl⟩
theorem m_615 : (Jvm.Cond.code ({ cls := "HalfJournal$Disk", name := "write", desc := "(I[BI)Z" } : Jvm.MethodName) prog_2_method_2_code (4 : Nat) (Option.some Jvm.ClassFile.FieldType.boolean)) ∈ hj_tbl := List.mem_filter.mpr ⟨List.mem_append_right _ (show _ ∈ tables_1 from List.mem_append_right _ (List.mem_append_right _ (List.mem_append_left _ (List.mem_of_getElem? (i := 135) rfl)))), rfl⟩
theorem m_616 : (Jvm.Cond.methodLinkNest "HalfJournal$Disk" (23 : Nat) ({ cls := "HalfJournal", name := "copyBytes", desc := "([BI[BII)V" } : Jvm.MethodName) "HalfJournal") ∈ hj_nest := List.mem_filter.mpr ⟨List.mem_append_right _ (show _ ∈ tables_1 from List.mem_append_right _ (List.mem_append_right _ (List.mem_append_left _ (List.mem_of_getElem? (i := 136) rfl)))), rfl⟩
theorem m_617 : (Jvm.Cond.methodLink "HalfJournalLaw" (55 : Nat) ({ cls := "HalfJournalLaw", name := "compact", desc := "(LHalfJournal;[J)I" } : Jvm.MethodName)) ∈ hj_tbl := List.mem_filter.mpr ⟨List.mem_append_right _ (show _ ∈ tables_1 from List.mem_append_right _ (List.mem_append_right _ (List.mem_append_left _ (List.mem_of_getElem? (i := 137) rfl)))), rfl⟩
theorem m_618 : (Jvm.Cond.static ({ cls := "HalfJournalLaw", name := "compact", desc := "(LHalfJournal;[J)I" } : Jvm.MethodName)) ∈ hj_tbl := List.mem_filter.mpr ⟨List.mem_append_right _ (show _ ∈ tables_1 from List.mem_append_right _ (List.mem_append_right _ (List.mem_append_left _ (List.mem_of_getElem? (i := 138) rfl)))), rfl⟩
theorem m_620 : (Jvm.Cond.methodLink "HalfJournalLaw" (19 : Nat) ({ cls := "HalfJournal", name := "compact", desc := "()I" } : Jvm.MethodName)) ∈ hj_tbl := List.mem_filter.mpr ⟨List.mem_append_right _ (show _ ∈ tables_1 from List.mem_append_right _ (List.mem_append_right _ (List.mem_append_left _ (List.mem_of_getElem? (i := 140) rfl)))), rfl⟩
theorem m_621 : (Jvm.Cond.instanceMethod ({ cls := "HalfJournal", name := "compact", desc := "()I" } : Jvm.MethodName)) ∈ hj_tbl := List.mem_filter.mpr ⟨List.mem_append_right _ (show _ ∈ tables_1 from List.mem_append_right _ (List.mem_append_right _ (List.mem_append_left _ (List.mem_of_getElem? (i := 141) rfl)))), rfl⟩
theorem m_622 : (Jvm.Cond.selects "HalfJournal" ({ cls := "HalfJournal", name := "compact", desc := "()I" } : Jvm.MethodName) ({ cls := "HalfJournal", name := "compact", desc := "()I" } : Jvm.MethodName)) ∈ hj_tbl := List.mem_filter.mpr ⟨List.mem_append_right _ (show _ ∈ tables_1 from List.mem_append_right _ (List.mem_append_right _ (List.mem_append_left _ (List.mem_of_getElem? (i := 142) rfl)))), rfl⟩
theorem m_623 : (Jvm.Cond.code ({ cls := "HalfJournal", name := "compact", desc := "()I" } : Jvm.MethodName) prog_1_method_7_code (4 : Nat) (Option.some Jvm.ClassFile.FieldType.int)) ∈ hj_tbl := List.mem_filter.mpr ⟨List.mem_append_right _ (show _ ∈ tables_1 from List.mem_append_right _ (List.mem_append_right _ (List.mem_append_left _ (List.mem_of_getElem? (i := 143) rfl)))), rfl⟩
theorem m_624 : (Jvm.Cond.constant "HalfJournal" (114 : Nat) (2147483647 : Int32)) ∈ hj_tbl := List.mem_filter.mpr ⟨List.mem_append_right _ (show _ ∈ tables_1 from List.mem_append_right _ (List.mem_append_right _ (List.mem_append_left _ (List.mem_of_getElem? (i := 144) rfl)))), rfl⟩
theorem m_626 : (Jvm.Cond.methodLink "HalfJournal" (117 : Nat) ({ cls := "HalfJournal", name := "planUnmarked", desc := "()I" } : Jvm.MethodName)) ∈ hj_tbl := List.mem_filter.mpr ⟨List.mem_append_right _ (show _ ∈ tables_1 from List.mem_append_right _ (List.mem_append_right _ (List.mem_append_left _ (List.mem_of_getElem? (i := 146) rfl)))), rfl⟩
theorem m_628 : (Jvm.Cond.instanceMethod ({ cls := "HalfJournal", name := "planUnmarked", desc := "()I" } : Jvm.MethodName)) ∈ hj_tbl := List.mem_filter.mpr ⟨List.mem_append_right _ (show _ ∈ tables_1 from List.mem_append_right _ (List.mem_append_right _ (List.mem_append_left _ (List.mem_of_getElem? (i := 148) rfl)))), rfl⟩
theorem m_629 : (Jvm.Cond.code ({ cls := "HalfJournal", name := "planUnmarked", desc := "()I" } : Jvm.MethodName) prog_1_method_23_code (4 : Nat) (Option.some Jvm.ClassFile.FieldType.int)) ∈ hj_tbl := List.mem_filter.mpr ⟨List.mem_append_right _ (show _ ∈ tables_1 from List.mem_append_right _ (List.mem_append_right _ (List.mem_append_left _ (List.mem_of_getElem? (i := 149) rfl)))), rfl⟩
theorem m_630 : (Jvm.Cond.methodLink "HalfJournal" (121 : Nat) ({ cls := "HalfJournal", name := "writeFirstFirst", desc := "(II)Z" } : Jvm.MethodName)) ∈ hj_tbl := List.mem_filter.mpr ⟨List.mem_append_right _ (show _ ∈ tables_1 from List.mem_append_right _ (List.mem_append_right _ (List.mem_append_left _ (List.mem_of_getElem? (i := 150) rfl)))), rfl⟩
theorem m_632 : (Jvm.Cond.instanceMethod ({ cls := "HalfJournal", name := "writeFirstFirst", desc := "(II)Z" } : Jvm.MethodName)) ∈ hj_tbl := List.mem_filter.mpr ⟨List.mem_append_right _ (show _ ∈ tables_1 from List.mem_append_right _ (List.mem_append_right _ (List.mem_append_left _ (List.mem_of_getElem? (i := 152) rfl)))), rfl⟩
theorem m_633 : (Jvm.Cond.code ({ cls := "HalfJournal", name := "writeFirstFirst", desc := "(II)Z" } : Jvm.MethodName) prog_1_method_25_code (4 : Nat) (Option.some Jvm.ClassFile.FieldType.boolean)) ∈ hj_tbl := List.mem_filter.mpr ⟨List.mem_append_right _ (show _ ∈ tables_1 from List.mem_append_right _ (List.mem_append_right _ (List.mem_append_left _ (List.mem_of_getElem? (i := 153) rfl)))), rfl⟩
theorem m_634 : (Jvm.Cond.methodLink "HalfJournal" (124 : Nat) ({ cls := "HalfJournal", name := "writeHead", desc := "(II)Z" } : Jvm.MethodName)) ∈ hj_tbl := List.mem_filter.mpr ⟨List.mem_append_right _ (show _ ∈ tables_1 from List.mem_append_right _ (List.mem_append_right _ (List.mem_append_left _ (List.mem_of_getElem? (i := 154) rfl)))), rfl⟩
theorem m_636 : (Jvm.Cond.instanceMethod ({ cls := "HalfJournal", name := "writeHead", desc := "(II)Z" } : Jvm.MethodName)) ∈ hj_tbl := List.mem_filter.mpr ⟨List.mem_append_right _ (show _ ∈ tables_1 from List.mem_append_right _ (List.mem_append_right _ (List.mem_append_left _ (List.mem_of_getElem? (i := 156) rfl)))), rfl⟩
theorem m_637 : (Jvm.Cond.code ({ cls := "HalfJournal", name := "writeHead", desc := "(II)Z" } : Jvm.MethodName) prog_1_method_26_code (3 : Nat) (Option.some Jvm.ClassFile.FieldType.boolean)) ∈ hj_tbl := List.mem_filter.mpr ⟨List.mem_append_right _ (show _ ∈ tables_1 from List.mem_append_right _ (List.mem_append_right _ (List.mem_append_left _ (List.mem_of_getElem? (i := 157) rfl)))), rfl⟩
theorem m_638 : (Jvm.Cond.classLink "HalfJournalLaw" (23 : Nat) "HalfJournalModel") ∈ hj_tbl := List.mem_filter.mpr ⟨List.mem_append_right _ (show _ ∈ tables_1 from List.mem_append_right _ (List.mem_append_right _ (List.mem_append_left _ (List.mem_of_getElem? (i := 158) rfl)))), rfl⟩
theorem m_639 : (Jvm.Cond.instantiable "HalfJournalModel" (15 : Nat)) ∈ hj_tbl := List.mem_filter.mpr ⟨List.mem_append_right _ (show _ ∈ tables_1 from List.mem_append_right _ (List.mem_append_right _ (List.mem_append_left _ (List.mem_of_getElem? (i := 159) rfl)))), rfl⟩
theorem m_640 : (Jvm.Cond.methodLink "HalfJournalLaw" (25 : Nat) ({ cls := "HalfJournalModel", name := "<init>", desc := "()V" } : Jvm.MethodName)) ∈ hj_tbl := List.mem_filter.mpr ⟨List.mem_append_right _ (show _ ∈ tables_1 from List.mem_append_right _ (List.mem_append_right _ (List.mem_append_left _ (List.mem_of_getElem? (i := 160) rfl)))), rfl⟩
theorem m_641 : (Jvm.Cond.instanceMethod ({ cls := "HalfJournalModel", name := "<init>", desc := "()V" } : Jvm.MethodName)) ∈ hj_tbl := List.mem_filter.mpr ⟨List.mem_append_right _ (show _ ∈ tables_1 from List.mem_append_right _ (List.mem_append_right _ (List.mem_append_left _ (List.mem_of_getElem? (i := 161) rfl)))), rfl⟩
theorem m_642 : (Jvm.Cond.code ({ cls := "HalfJournalModel", name := "<init>", desc := "()V" } : Jvm.MethodName) prog_5_method_1_code (1 : Nat) (Option.none : Option Jvm.ClassFile.FieldType)) ∈ hj_tbl := List.mem_filter.mpr ⟨List.mem_append_right _ (show _ ∈ tables_1 from List.mem_append_right _ (List.mem_append_right _ (List.mem_append_left _ (List.mem_of_getElem? (i := 162) rfl)))), rfl⟩
theorem m_643 : (Jvm.Cond.methodLink "HalfJournalModel" (1 : Nat) ({ cls := "java/lang/Object", name := "<init>", desc := "()V" } : Jvm.MethodName)) ∈ hj_tbl := List.mem_filter.mpr ⟨List.mem_append_right _ (show _ ∈ tables_1 from List.mem_append_right _ (List.mem_append_right _ (List.mem_append_left _ (List.mem_of_getElem? (i := 163) rfl)))), rfl⟩
theorem m_644 : (Jvm.Cond.constant "HalfJournalModel" (7 : Nat) (32768 : Int32)) ∈ hj_tbl := List.mem_filter.mpr ⟨List.mem_append_right _ (show _ ∈ tables_1 from List.mem_append_right _ (List.mem_append_right _ (List.mem_append_left _ (List.mem_of_getElem? (i := 164) rfl)))), rfl⟩
theorem m_645 : (Jvm.Cond.fieldLink "HalfJournalModel" (38 : Nat) "HalfJournalModel" "thrown" "I") ∈ hj_tbl := List.mem_filter.mpr ⟨List.mem_append_right _ (show _ ∈ tables_1 from List.mem_append_right _ (List.mem_append_right _ (List.mem_append_left _ (List.mem_of_getElem? (i := 165) rfl)))), rfl⟩
theorem m_646 : (Jvm.Cond.fieldLink "HalfJournalModel" (8 : Nat) "HalfJournalModel" "disk" "[B") ∈ hj_tbl := List.mem_filter.mpr ⟨List.mem_append_right _ (show _ ∈ tables_1 from List.mem_append_right _ (List.mem_append_right _ (List.mem_append_left _ (List.mem_of_getElem? (i := 166) rfl)))), rfl⟩
theorem m_647 : (Jvm.Cond.fieldLink "HalfJournalModel" (14 : Nat) "HalfJournalModel" "state" "I") ∈ hj_tbl := List.mem_filter.mpr ⟨List.mem_append_right _ (show _ ∈ tables_1 from List.mem_append_right _ (List.mem_append_right _ (List.mem_append_left _ (List.mem_of_getElem? (i := 167) rfl)))), rfl⟩
theorem m_648 : (Jvm.Cond.fieldLink "HalfJournalModel" (72 : Nat) "HalfJournalModel" "generation" "I") ∈ hj_tbl := List.mem_filter.mpr ⟨List.mem_append_right _ (show _ ∈ tables_1 from List.mem_append_right _ (List.mem_append_right _ (List.mem_append_left _ (List.mem_of_getElem? (i := 168) rfl)))), rfl⟩
theorem m_649 : (Jvm.Cond.fieldLink "HalfJournalModel" (50 : Nat) "HalfJournalModel" "half" "I") ∈ hj_tbl := List.mem_filter.mpr ⟨List.mem_append_right _ (show _ ∈ tables_1 from List.mem_append_right _ (List.mem_append_right _ (List.mem_append_left _ (List.mem_of_getElem? (i := 169) rfl)))), rfl⟩
theorem m_650 : (Jvm.Cond.fieldLink "HalfJournalModel" (63 : Nat) "HalfJournalModel" "used" "I") ∈ hj_tbl := List.mem_filter.mpr ⟨List.mem_append_right _ (show _ ∈ tables_1 from List.mem_append_right _ (List.mem_append_right _ (List.mem_append_left _ (List.mem_of_getElem? (i := 170) rfl)))), rfl⟩
theorem m_651 : (Jvm.Cond.fieldLink "HalfJournalModel" (60 : Nat) "HalfJournalModel" "many" "I") ∈ hj_tbl := List.mem_filter.mpr ⟨List.mem_append_right _ (show _ ∈ tables_1 from List.mem_append_right _ (List.mem_append_right _ (List.mem_append_left _ (List.mem_of_getElem? (i := 171) rfl)))), rfl⟩
theorem m_652 : (Jvm.Cond.fieldLink "HalfJournalModel" (18 : Nat) "HalfJournalModel" "begins" "[I") ∈ hj_tbl := List.mem_filter.mpr ⟨List.mem_append_right _ (show _ ∈ tables_1 from List.mem_append_right _ (List.mem_append_right _ (List.mem_append_left _ (List.mem_of_getElem? (i := 172) rfl)))), rfl⟩
theorem m_653 : (Jvm.Cond.fieldLink "HalfJournalModel" (22 : Nat) "HalfJournalModel" "marked" "[Z") ∈ hj_tbl := List.mem_filter.mpr ⟨List.mem_append_right _ (show _ ∈ tables_1 from List.mem_append_right _ (List.mem_append_right _ (List.mem_append_left _ (List.mem_of_getElem? (i := 173) rfl)))), rfl⟩
theorem m_654 : (Jvm.Cond.fieldLink "HalfJournalModel" (26 : Nat) "HalfJournalModel" "tape" "[B") ∈ hj_tbl := List.mem_filter.mpr ⟨List.mem_append_right _ (show _ ∈ tables_1 from List.mem_append_right _ (List.mem_append_right _ (List.mem_append_left _ (List.mem_of_getElem? (i := 174) rfl)))), rfl⟩
theorem m_655 : (Jvm.Cond.fieldLink "HalfJournalModel" (103 : Nat) "HalfJournalModel" "onTape" "I") ∈ hj_tbl := List.mem_filter.mpr ⟨List.mem_append_right _ (show _ ∈ tables_1 from List.mem_append_right _ (List.mem_append_right _ (List.mem_append_left _ (List.mem_of_getElem? (i := 175) rfl)))), rfl⟩
theorem m_656 : (Jvm.Cond.fieldLink "HalfJournalModel" (29 : Nat) "HalfJournalModel" "due" "I") ∈ hj_tbl := List.mem_filter.mpr ⟨List.mem_append_right _ (show _ ∈ tables_1 from List.mem_append_right _ (List.mem_append_right _ (List.mem_append_left _ (List.mem_of_getElem? (i := 176) rfl)))), rfl⟩
theorem m_657 : (Jvm.Cond.fieldLink "HalfJournalModel" (100 : Nat) "HalfJournalModel" "written" "I") ∈ hj_tbl := List.mem_filter.mpr ⟨List.mem_append_right _ (show _ ∈ tables_1 from List.mem_append_right _ (List.mem_append_right _ (List.mem_append_left _ (List.mem_of_getElem? (i := 177) rfl)))), rfl⟩
theorem m_658 : (Jvm.Cond.fieldLink "HalfJournalModel" (32 : Nat) "HalfJournalModel" "next" "[B") ∈ hj_tbl := List.mem_filter.mpr ⟨List.mem_append_right _ (show _ ∈ tables_1 from List.mem_append_right _ (List.mem_append_right _ (List.mem_append_left _ (List.mem_of_getElem? (i := 178) rfl)))), rfl⟩
theorem m_659 : (Jvm.Cond.fieldLink "HalfJournalModel" (35 : Nat) "HalfJournalModel" "head" "[B") ∈ hj_tbl := List.mem_filter.mpr ⟨List.mem_append_right _ (show _ ∈ tables_1 from List.mem_append_right _ (List.mem_append_right _ (List.mem_append_left _ (List.mem_of_getElem? (i := 179) rfl)))), rfl⟩
theorem m_660 : (Jvm.Cond.lays "HalfJournalModel" "HalfJournalModel" "thrown" "I") ∈ hj_tbl := List.mem_filter.mpr ⟨List.mem_append_right _ (show _ ∈ tables_1 from List.mem_append_right _ (List.mem_append_right _ (List.mem_append_left _ (List.mem_of_getElem? (i := 180) rfl)))), rfl⟩
theorem m_662 : (Jvm.Cond.laysFinal "HalfJournalModel" "HalfJournalModel" "disk" "[B") ∈ hj_tbl := List.mem_filter.mpr ⟨List.mem_append_right _ (show _ ∈ tables_1 from List.mem_append_right _ (List.mem_append_right _ (List.mem_append_left _ (List.mem_of_getElem? (i := 182) rfl)))), rfl⟩
theorem m_664 : (Jvm.Cond.lays "HalfJournalModel" "HalfJournalModel" "state" "I") ∈ hj_tbl := List.mem_filter.mpr ⟨List.mem_append_right _ (show _ ∈ tables_1 from List.mem_append_right _ (List.mem_append_right _ (List.mem_append_left _ (List.mem_of_getElem? (i := 184) rfl)))), rfl⟩
theorem m_666 : (Jvm.Cond.lays "HalfJournalModel" "HalfJournalModel" "generation" "I") ∈ hj_tbl := List.mem_filter.mpr ⟨List.mem_append_right _ (show _ ∈ tables_1 from List.mem_append_right _ (List.mem_append_right _ (List.mem_append_left _ (List.mem_of_getElem? (i := 186) rfl)))), rfl⟩
theorem m_668 : (Jvm.Cond.lays "HalfJournalModel" "HalfJournalModel" "half" "I") ∈ hj_tbl := List.mem_filter.mpr ⟨List.mem_append_right _ (show _ ∈ tables_1 from List.mem_append_right _ (List.mem_append_right _ (List.mem_append_left _ (List.mem_of_getElem? (i := 188) rfl)))), rfl⟩
theorem m_670 : (Jvm.Cond.lays "HalfJournalModel" "HalfJournalModel" "used" "I") ∈ hj_tbl := List.mem_filter.mpr ⟨List.mem_append_right _ (show _ ∈ tables_1 from List.mem_append_right _ (List.mem_append_right _ (List.mem_append_left _ (List.mem_of_getElem? (i := 190) rfl)))), rfl⟩
theorem m_672 : (Jvm.Cond.lays "HalfJournalModel" "HalfJournalModel" "many" "I") ∈ hj_tbl := List.mem_filter.mpr ⟨List.mem_append_right _ (show _ ∈ tables_1 from List.mem_append_right _ (List.mem_append_right _ (List.mem_append_left _ (List.mem_of_getElem? (i := 192) rfl)))), rfl⟩
theorem m_674 : (Jvm.Cond.laysFinal "HalfJournalModel" "HalfJournalModel" "begins" "[I") ∈ hj_tbl := List.mem_filter.mpr ⟨List.mem_append_right _ (show _ ∈ tables_1 from List.mem_append_right _ (List.mem_append_right _ (List.mem_append_left _ (List.mem_of_getElem? (i := 194) rfl)))), rfl⟩
theorem m_676 : (Jvm.Cond.laysFinal "HalfJournalModel" "HalfJournalModel" "marked" "[Z") ∈ hj_tbl := List.mem_filter.mpr ⟨List.mem_append_right _ (show _ ∈ tables_1 from List.mem_append_right _ (List.mem_append_right _ (List.mem_append_left _ (List.mem_of_getElem? (i := 196) rfl)))), rfl⟩
theorem m_678 : (Jvm.Cond.laysFinal "HalfJournalModel" "HalfJournalModel" "tape" "[B") ∈ hj_tbl := List.mem_filter.mpr ⟨List.mem_append_right _ (show _ ∈ tables_1 from List.mem_append_right _ (List.mem_append_right _ (List.mem_append_left _ (List.mem_of_getElem? (i := 198) rfl)))), rfl⟩
theorem m_680 : (Jvm.Cond.lays "HalfJournalModel" "HalfJournalModel" "onTape" "I") ∈ hj_tbl := List.mem_filter.mpr ⟨List.mem_append_right _ (show _ ∈ tables_1 from List.mem_append_right _ (List.mem_append_right _ (List.mem_append_left _ (List.mem_of_getElem? (i := 200) rfl)))), rfl⟩
theorem m_682 : (Jvm.Cond.lays "HalfJournalModel" "HalfJournalModel" "due" "I") ∈ hj_tbl := List.mem_filter.mpr ⟨List.mem_append_right _ (show _ ∈ tables_1 from List.mem_append_right _ (List.mem_append_right _ (List.mem_append_left _ (List.mem_of_getElem? (i := 202) rfl)))), rfl⟩
theorem m_684 : (Jvm.Cond.lays "HalfJournalModel" "HalfJournalModel" "written" "I") ∈ hj_tbl := List.mem_filter.mpr ⟨List.mem_append_right _ (show _ ∈ tables_1 from List.mem_append_right _ (List.mem_append_right _ (List.mem_append_left _ (List.mem_of_getElem? (i := 204) rfl)))), rfl⟩
theorem m_686 : (Jvm.Cond.laysFinal "HalfJournalModel" "HalfJournalModel" "next" "[B") ∈ hj_tbl := List.mem_filter.mpr ⟨List.mem_append_right _ (show _ ∈ tables_1 from List.mem_append_right _ (List.mem_append_right _ (List.mem_append_left _ (List.mem_of_getElem? (i := 206) rfl)))), rfl⟩
theorem m_688 : (Jvm.Cond.laysFinal "HalfJournalModel" "HalfJournalModel" "head" "[B") ∈ hj_tbl := List.mem_filter.mpr ⟨List.mem_append_right _ (show _ ∈ tables_1 from List.mem_append_right _ (List.mem_append_right _ (List.mem_append_left _ (List.mem_of_getElem? (i := 208) rfl)))), rfl⟩
theorem m_691 : (Jvm.Cond.methodLink "HalfJournalLaw" (47 : Nat) ({ cls := "HalfJournalModel", name := "thrown", desc := "()I" } : Jvm.MethodName)) ∈ hj_tbl := List.mem_filter.mpr ⟨List.mem_append_right _ (show _ ∈ tables_1 from List.mem_append_right _ (List.mem_append_right _ (List.mem_append_left _ (List.mem_of_getElem? (i := 211) rfl)))), rfl⟩
theorem m_692 : (Jvm.Cond.instanceMethod ({ cls := "HalfJournalModel", name := "thrown", desc := "()I" } : Jvm.MethodName)) ∈ hj_tbl := List.mem_filter.mpr ⟨List.mem_append_right _ (show _ ∈ tables_1 from List.mem_append_right _ (List.mem_append_right _ (List.mem_append_left _ (List.mem_of_getElem? (i := 212) rfl)))), rfl⟩
theorem m_693 : (Jvm.Cond.selects "HalfJournalModel" ({ cls := "HalfJournalModel", name := "thrown", desc := "()I" } : Jvm.MethodName) ({ cls := "HalfJournalModel", name := "thrown", desc := "()I" } : Jvm.MethodName)) ∈ hj_tbl := List.mem_filter.mpr ⟨List.mem_append_right _ (show _ ∈ tables_1 from List.mem_append_right _ (List.mem_append_right _ (List.mem_append_left _ (List.mem_of_getElem? (i := 213) rfl)))), rfl⟩
theorem m_694 : (Jvm.Cond.code ({ cls := "HalfJournalModel", name := "thrown", desc := "()I" } : Jvm.MethodName) prog_5_method_2_code (1 : Nat) (Option.some Jvm.ClassFile.FieldType.int)) ∈ hj_tbl := List.mem_filter.mpr ⟨List.mem_append_right _ (show _ ∈ tables_1 from List.mem_append_right _ (List.mem_append_right _ (List.mem_append_left _ (List.mem_of_getElem? (i := 214) rfl)))), rfl⟩
theorem m_695 : (Jvm.Cond.methodLink "HalfJournalLaw" (70 : Nat) ({ cls := "HalfJournalModel", name := "recover", desc := "()I" } : Jvm.MethodName)) ∈ hj_tbl := List.mem_filter.mpr ⟨List.mem_append_right _ (show _ ∈ tables_1 from List.mem_append_right _ (List.mem_append_right _ (List.mem_append_left _ (List.mem_of_getElem? (i := 215) rfl)))), rfl⟩
theorem m_696 : (Jvm.Cond.instanceMethod ({ cls := "HalfJournalModel", name := "recover", desc := "()I" } : Jvm.MethodName)) ∈ hj_tbl := List.mem_filter.mpr ⟨List.mem_append_right _ (show _ ∈ tables_1 from List.mem_append_right _ (List.mem_append_right _ (List.mem_append_left _ (List.mem_of_getElem? (i := 216) rfl)))), rfl⟩
theorem m_697 : (Jvm.Cond.selects "HalfJournalModel" ({ cls := "HalfJournalModel", name := "recover", desc := "()I" } : Jvm.MethodName) ({ cls := "HalfJournalModel", name := "recover", desc := "()I" } : Jvm.MethodName)) ∈ hj_tbl := List.mem_filter.mpr ⟨List.mem_append_right _ (show _ ∈ tables_1 from List.mem_append_right _ (List.mem_append_right _ (List.mem_append_left _ (List.mem_of_getElem? (i := 217) rfl)))), rfl⟩
theorem m_698 : (Jvm.Cond.code ({ cls := "HalfJournalModel", name := "recover", desc := "()I" } : Jvm.MethodName) prog_5_method_14_code (4 : Nat) (Option.some Jvm.ClassFile.FieldType.int)) ∈ hj_tbl := List.mem_filter.mpr ⟨List.mem_append_right _ (show _ ∈ tables_1 from List.mem_append_right _ (List.mem_append_right _ (List.mem_append_left _ (List.mem_of_getElem? (i := 218) rfl)))), rfl⟩
theorem m_699 : (Jvm.Cond.methodLink "HalfJournalModel" (75 : Nat) ({ cls := "HalfJournalModel", name := "unmark", desc := "()V" } : Jvm.MethodName)) ∈ hj_tbl := List.mem_filter.mpr ⟨List.mem_append_right _ (show _ ∈ tables_1 from List.mem_append_right _ (List.mem_append_right _ (List.mem_append_left _ (List.mem_of_getElem? (i := 219) rfl)))), rfl⟩
theorem m_701 : (Jvm.Cond.instanceMethod ({ cls := "HalfJournalModel", name := "unmark", desc := "()V" } : Jvm.MethodName)) ∈ hj_tbl := List.mem_filter.mpr ⟨List.mem_append_right _ (show _ ∈ tables_1 from List.mem_append_right _ (List.mem_append_right _ (List.mem_append_left _ (List.mem_of_getElem? (i := 221) rfl)))), rfl⟩
theorem m_702 : (Jvm.Cond.code ({ cls := "HalfJournalModel", name := "unmark", desc := "()V" } : Jvm.MethodName) prog_5_method_13_code (2 : Nat) (Option.none : Option Jvm.ClassFile.FieldType)) ∈ hj_tbl := List.mem_filter.mpr ⟨List.mem_append_right _ (show _ ∈ tables_1 from List.mem_append_right _ (List.mem_append_right _ (List.mem_append_left _ (List.mem_of_getElem? (i := 222) rfl)))), rfl⟩
theorem m_703 : (Jvm.Cond.methodLink "HalfJournalModel" (78 : Nat) ({ cls := "HalfJournalModel", name := "isHead", desc := "(I)Z" } : Jvm.MethodName)) ∈ hj_tbl := List.mem_filter.mpr ⟨List.mem_append_right _ (show _ ∈ tables_1 from List.mem_append_right _ (List.mem_append_right _ (List.mem_append_left _ (List.mem_of_getElem? (i := 223) rfl)))), rfl⟩
theorem m_705 : (Jvm.Cond.instanceMethod ({ cls := "HalfJournalModel", name := "isHead", desc := "(I)Z" } : Jvm.MethodName)) ∈ hj_tbl := List.mem_filter.mpr ⟨List.mem_append_right _ (show _ ∈ tables_1 from List.mem_append_right _ (List.mem_append_right _ (List.mem_append_left _ (List.mem_of_getElem? (i := 225) rfl)))), rfl⟩
theorem m_706 : (Jvm.Cond.code ({ cls := "HalfJournalModel", name := "isHead", desc := "(I)Z" } : Jvm.MethodName) prog_5_method_7_code (4 : Nat) (Option.some Jvm.ClassFile.FieldType.boolean)) ∈ hj_tbl := List.mem_filter.mpr ⟨List.mem_append_right _ (show _ ∈ tables_1 from List.mem_append_right _ (List.mem_append_right _ (List.mem_append_left _ (List.mem_of_getElem? (i := 226) rfl)))), rfl⟩
theorem m_707 : (Jvm.Cond.methodLink "HalfJournalModel" (42 : Nat) ({ cls := "HalfJournalModel", name := "four", desc := "([BI)I" } : Jvm.MethodName)) ∈ hj_tbl := List.mem_filter.mpr ⟨List.mem_append_right _ (show _ ∈ tables_1 from List.mem_append_right _ (List.mem_append_right _ (List.mem_append_left _ (List.mem_of_getElem? (i := 227) rfl)))), rfl⟩
theorem m_708 : (Jvm.Cond.static ({ cls := "HalfJournalModel", name := "four", desc := "([BI)I" } : Jvm.MethodName)) ∈ hj_tbl := List.mem_filter.mpr ⟨List.mem_append_right _ (show _ ∈ tables_1 from List.mem_append_right _ (List.mem_append_right _ (List.mem_append_left _ (List.mem_of_getElem? (i := 228) rfl)))), rfl⟩
theorem m_709 : (Jvm.Cond.code ({ cls := "HalfJournalModel", name := "four", desc := "([BI)I" } : Jvm.MethodName) prog_5_method_4_code (2 : Nat) (Option.some Jvm.ClassFile.FieldType.int)) ∈ hj_tbl := List.mem_filter.mpr ⟨List.mem_append_right _ (show _ ∈ tables_1 from List.mem_append_right _ (List.mem_append_right _ (List.mem_append_left _ (List.mem_of_getElem? (i := 229) rfl)))), rfl⟩
theorem m_710 : (Jvm.Cond.methodLink "HalfJournalModel" (46 : Nat) ({ cls := "HalfJournalModel", name := "checkOf", desc := "([BII)I" } : Jvm.MethodName)) ∈ hj_tbl := List.mem_filter.mpr ⟨List.mem_append_right _ (show _ ∈ tables_1 from List.mem_append_right _ (List.mem_append_right _ (List.mem_append_left _ (List.mem_of_getElem? (i := 230) rfl)))), rfl⟩
theorem m_711 : (Jvm.Cond.static ({ cls := "HalfJournalModel", name := "checkOf", desc := "([BII)I" } : Jvm.MethodName)) ∈ hj_tbl := List.mem_filter.mpr ⟨List.mem_append_right _ (show _ ∈ tables_1 from List.mem_append_right _ (List.mem_append_right _ (List.mem_append_left _ (List.mem_of_getElem? (i := 231) rfl)))), rfl⟩
theorem m_712 : (Jvm.Cond.code ({ cls := "HalfJournalModel", name := "checkOf", desc := "([BII)I" } : Jvm.MethodName) prog_5_method_3_code (6 : Nat) (Option.some Jvm.ClassFile.FieldType.int)) ∈ hj_tbl := List.mem_filter.mpr ⟨List.mem_append_right _ (show _ ∈ tables_1 from List.mem_append_right _ (List.mem_append_right _ (List.mem_append_left _ (List.mem_of_getElem? (i := 232) rfl)))), rfl⟩
theorem m_713 : (Jvm.Cond.constant "HalfJournalModel" (41 : Nat) (-306674912 : Int32)) ∈ hj_tbl := List.mem_filter.mpr ⟨List.mem_append_right _ (show _ ∈ tables_1 from List.mem_append_right _ (List.mem_append_right _ (List.mem_append_left _ (List.mem_of_getElem? (i := 233) rfl)))), rfl⟩
theorem m_714 : (Jvm.Cond.methodLink "HalfJournalModel" (69 : Nat) ({ cls := "HalfJournalModel", name := "leave", desc := "()V" } : Jvm.MethodName)) ∈ hj_tbl := List.mem_filter.mpr ⟨List.mem_append_right _ (show _ ∈ tables_1 from List.mem_append_right _ (List.mem_append_right _ (List.mem_append_left _ (List.mem_of_getElem? (i := 234) rfl)))), rfl⟩
theorem m_716 : (Jvm.Cond.instanceMethod ({ cls := "HalfJournalModel", name := "leave", desc := "()V" } : Jvm.MethodName)) ∈ hj_tbl := List.mem_filter.mpr ⟨List.mem_append_right _ (show _ ∈ tables_1 from List.mem_append_right _ (List.mem_append_right _ (List.mem_append_left _ (List.mem_of_getElem? (i := 236) rfl)))), rfl⟩
theorem m_717 : (Jvm.Cond.code ({ cls := "HalfJournalModel", name := "leave", desc := "()V" } : Jvm.MethodName) prog_5_method_12_code (1 : Nat) (Option.none : Option Jvm.ClassFile.FieldType)) ∈ hj_tbl := List.mem_filter.mpr ⟨List.mem_append_right _ (show _ ∈ tables_1 from List.mem_append_right _ (List.mem_append_right _ (List.mem_append_left _ (List.mem_of_getElem? (i := 237) rfl)))), rfl⟩
theorem m_718 : (Jvm.Cond.methodLink "HalfJournalModel" (82 : Nat) ({ cls := "HalfJournalModel", name := "findRecords", desc := "()V" } : Jvm.MethodName)) ∈ hj_tbl := List.mem_filter.mpr ⟨List.mem_append_right _ (show _ ∈ tables_1 from List.mem_append_right _ (List.mem_append_right _ (List.mem_append_left _ (List.mem_of_getElem? (i := 238) rfl)))), rfl⟩
theorem m_720 : (Jvm.Cond.instanceMethod ({ cls := "HalfJournalModel", name := "findRecords", desc := "()V" } : Jvm.MethodName)) ∈ hj_tbl := List.mem_filter.mpr ⟨List.mem_append_right _ (show _ ∈ tables_1 from List.mem_append_right _ (List.mem_append_right _ (List.mem_append_right _ (List.mem_of_getElem? (i := 0) rfl)))), rfl⟩
theorem m_721 : (Jvm.Cond.code ({ cls := "HalfJournalModel", name := "findRecords", desc := "()V" } : Jvm.MethodName) prog_5_method_10_code (2 : Nat) (Option.none : Option Jvm.ClassFile.FieldType)) ∈ hj_tbl := List.mem_filter.mpr ⟨List.mem_append_right _ (show _ ∈ tables_1 from List.mem_append_right _ (List.mem_append_right _ (List.mem_append_right _ (List.mem_of_getElem? (i := 1) rfl)))), rfl⟩
theorem m_722 : (Jvm.Cond.methodLink "HalfJournalModel" (66 : Nat) ({ cls := "HalfJournalModel", name := "recordAt", desc := "(I)I" } : Jvm.MethodName)) ∈ hj_tbl := List.mem_filter.mpr ⟨List.mem_append_right _ (show _ ∈ tables_1 from List.mem_append_right _ (List.mem_append_right _ (List.mem_append_right _ (List.mem_of_getElem? (i := 2) rfl)))), rfl⟩
theorem m_724 : (Jvm.Cond.instanceMethod ({ cls := "HalfJournalModel", name := "recordAt", desc := "(I)I" } : Jvm.MethodName)) ∈ hj_tbl := List.mem_filter.mpr ⟨List.mem_append_right _ (show _ ∈ tables_1 from List.mem_append_right _ (List.mem_append_right _ (List.mem_append_right _ (List.mem_of_getElem? (i := 4) rfl)))), rfl⟩
theorem m_725 : (Jvm.Cond.code ({ cls := "HalfJournalModel", name := "recordAt", desc := "(I)I" } : Jvm.MethodName) prog_5_method_9_code (4 : Nat) (Option.some Jvm.ClassFile.FieldType.int)) ∈ hj_tbl := List.mem_filter.mpr ⟨List.mem_append_right _ (show _ ∈ tables_1 from List.mem_append_right _ (List.mem_append_right _ (List.mem_append_right _ (List.mem_of_getElem? (i := 5) rfl)))), rfl⟩
theorem m_726 : (Jvm.Cond.methodLink "HalfJournalModel" (53 : Nat) ({ cls := "HalfJournalModel", name := "begin", desc := "(I)I" } : Jvm.MethodName)) ∈ hj_tbl := List.mem_filter.mpr ⟨List.mem_append_right _ (show _ ∈ tables_1 from List.mem_append_right _ (List.mem_append_right _ (List.mem_append_right _ (List.mem_of_getElem? (i := 6) rfl)))), rfl⟩
theorem m_727 : (Jvm.Cond.static ({ cls := "HalfJournalModel", name := "begin", desc := "(I)I" } : Jvm.MethodName)) ∈ hj_tbl := List.mem_filter.mpr ⟨List.mem_append_right _ (show _ ∈ tables_1 from List.mem_append_right _ (List.mem_append_right _ (List.mem_append_right _ (List.mem_of_getElem? (i := 7) rfl)))), rfl⟩
theorem m_728 : (Jvm.Cond.code ({ cls := "HalfJournalModel", name := "begin", desc := "(I)I" } : Jvm.MethodName) prog_5_method_6_code (1 : Nat) (Option.some Jvm.ClassFile.FieldType.int)) ∈ hj_tbl := List.mem_filter.mpr ⟨List.mem_append_right _ (show _ ∈ tables_1 from List.mem_append_right _ (List.mem_append_right _ (List.mem_append_right _ (List.mem_of_getElem? (i := 8) rfl)))), rfl⟩
theorem m_729 : (Jvm.Cond.methodLink "HalfJournalModel" (57 : Nat) ({ cls := "HalfJournalModel", name := "sizeOf", desc := "(I)I" } : Jvm.MethodName)) ∈ hj_tbl := List.mem_filter.mpr ⟨List.mem_append_right _ (show _ ∈ tables_1 from List.mem_append_right _ (List.mem_append_right _ (List.mem_append_right _ (List.mem_of_getElem? (i := 9) rfl)))), rfl⟩
theorem m_730 : (Jvm.Cond.static ({ cls := "HalfJournalModel", name := "sizeOf", desc := "(I)I" } : Jvm.MethodName)) ∈ hj_tbl := List.mem_filter.mpr ⟨List.mem_append_right _ (show _ ∈ tables_1 from List.mem_append_right _ (List.mem_append_right _ (List.mem_append_right _ (List.mem_of_getElem? (i := 10) rfl)))), rfl⟩
theorem m_731 : (Jvm.Cond.code ({ cls := "HalfJournalModel", name := "sizeOf", desc := "(I)I" } : Jvm.MethodName) prog_5_method_8_code (1 : Nat) (Option.some Jvm.ClassFile.FieldType.int)) ∈ hj_tbl := List.mem_filter.mpr ⟨List.mem_append_right _ (show _ ∈ tables_1 from List.mem_append_right _ (List.mem_append_right _ (List.mem_append_right _ (List.mem_of_getElem? (i := 11) rfl)))), rfl⟩
theorem m_732 : (Jvm.Cond.methodLink "HalfJournalLaw" (29 : Nat) ({ cls := "HalfJournalModel", name := "format", desc := "()V" } : Jvm.MethodName)) ∈ hj_tbl := List.mem_filter.mpr ⟨List.mem_append_right _ (show _ ∈ tables_1 from List.mem_append_right _ (List.mem_append_right _ (List.mem_append_right _ (List.mem_of_getElem? (i := 12) rfl)))), rfl⟩
theorem m_733 : (Jvm.Cond.instanceMethod ({ cls := "HalfJournalModel", name := "format", desc := "()V" } : Jvm.MethodName)) ∈ hj_tbl := List.mem_filter.mpr ⟨List.mem_append_right _ (show _ ∈ tables_1 from List.mem_append_right _ (List.mem_append_right _ (List.mem_append_right _ (List.mem_of_getElem? (i := 13) rfl)))), rfl⟩
theorem m_734 : (Jvm.Cond.selects "HalfJournalModel" ({ cls := "HalfJournalModel", name := "format", desc := "()V" } : Jvm.MethodName) ({ cls := "HalfJournalModel", name := "format", desc := "()V" } : Jvm.MethodName)) ∈ hj_tbl := List.mem_filter.mpr ⟨List.mem_append_right _ (show _ ∈ tables_1 from List.mem_append_right _ (List.mem_append_right _ (List.mem_append_right _ (List.mem_of_getElem? (i := 14) rfl)))), rfl⟩
theorem m_735 : (Jvm.Cond.code ({ cls := "HalfJournalModel", name := "format", desc := "()V" } : Jvm.MethodName) prog_5_method_15_code (2 : Nat) (Option.none : Option Jvm.ClassFile.FieldType)) ∈ hj_tbl := List.mem_filter.mpr ⟨List.mem_append_right _ (show _ ∈ tables_1 from List.mem_append_right _ (List.mem_append_right _ (List.mem_append_right _ (List.mem_of_getElem? (i := 15) rfl)))), rfl⟩
theorem m_736 : (Jvm.Cond.methodLink "HalfJournalModel" (85 : Nat) ({ cls := "HalfJournalModel", name := "layHead", desc := "(II)V" } : Jvm.MethodName)) ∈ hj_tbl := List.mem_filter.mpr ⟨List.mem_append_right _ (show _ ∈ tables_1 from List.mem_append_right _ (List.mem_append_right _ (List.mem_append_right _ (List.mem_of_getElem? (i := 16) rfl)))), rfl⟩
theorem m_738 : (Jvm.Cond.instanceMethod ({ cls := "HalfJournalModel", name := "layHead", desc := "(II)V" } : Jvm.MethodName)) ∈ hj_tbl := List.mem_filter.mpr ⟨List.mem_append_right _ (show _ ∈ tables_1 from List.mem_append_right _ (List.mem_append_right _ (List.mem_append_right _ (List.mem_of_getElem? (i := 18) rfl)))), rfl⟩
theorem m_739 : (Jvm.Cond.code ({ cls := "HalfJournalModel", name := "layHead", desc := "(II)V" } : Jvm.MethodName) prog_5_method_16_code (4 : Nat) (Option.none : Option Jvm.ClassFile.FieldType)) ∈ hj_tbl := List.mem_filter.mpr ⟨List.mem_append_right _ (show _ ∈ tables_1 from List.mem_append_right _ (List.mem_append_right _ (List.mem_append_right _ (List.mem_of_getElem? (i := 19) rfl)))), rfl⟩
theorem m_740 : (Jvm.Cond.methodLink "HalfJournalModel" (93 : Nat) ({ cls := "HalfJournalModel", name := "putFour", desc := "([BII)V" } : Jvm.MethodName)) ∈ hj_tbl := List.mem_filter.mpr ⟨List.mem_append_right _ (show _ ∈ tables_1 from List.mem_append_right _ (List.mem_append_right _ (List.mem_append_right _ (List.mem_of_getElem? (i := 20) rfl)))), rfl⟩
theorem m_741 : (Jvm.Cond.static ({ cls := "HalfJournalModel", name := "putFour", desc := "([BII)V" } : Jvm.MethodName)) ∈ hj_tbl := List.mem_filter.mpr ⟨List.mem_append_right _ (show _ ∈ tables_1 from List.mem_append_right _ (List.mem_append_right _ (List.mem_append_right _ (List.mem_of_getElem? (i := 21) rfl)))), rfl⟩
theorem m_742 : (Jvm.Cond.code ({ cls := "HalfJournalModel", name := "putFour", desc := "([BII)V" } : Jvm.MethodName) prog_5_method_5_code (4 : Nat) (Option.none : Option Jvm.ClassFile.FieldType)) ∈ hj_tbl := List.mem_filter.mpr ⟨List.mem_append_right _ (show _ ∈ tables_1 from List.mem_append_right _ (List.mem_append_right _ (List.mem_append_right _ (List.mem_of_getElem? (i := 22) rfl)))), rfl⟩
theorem m_743 : (Jvm.Cond.methodLink "HalfJournalModel" (89 : Nat) ({ cls := "HalfJournalModel", name := "recover", desc := "()I" } : Jvm.MethodName)) ∈ hj_tbl := List.mem_filter.mpr ⟨List.mem_append_right _ (show _ ∈ tables_1 from List.mem_append_right _ (List.mem_append_right _ (List.mem_append_right _ (List.mem_of_getElem? (i := 23) rfl)))), rfl⟩
theorem m_744 : (Jvm.Cond.methodLink "HalfJournalLaw" (36 : Nat) ({ cls := "HalfJournalModel", name := "give", desc := "(JI)Z" } : Jvm.MethodName)) ∈ hj_tbl := List.mem_filter.mpr ⟨List.mem_append_right _ (show _ ∈ tables_1 from List.mem_append_right _ (List.mem_append_right _ (List.mem_append_right _ (List.mem_of_getElem? (i := 24) rfl)))), rfl⟩
theorem m_745 : (Jvm.Cond.instanceMethod ({ cls := "HalfJournalModel", name := "give", desc := "(JI)Z" } : Jvm.MethodName)) ∈ hj_tbl := List.mem_filter.mpr ⟨List.mem_append_right _ (show _ ∈ tables_1 from List.mem_append_right _ (List.mem_append_right _ (List.mem_append_right _ (List.mem_of_getElem? (i := 25) rfl)))), rfl⟩
theorem m_746 : (Jvm.Cond.selects "HalfJournalModel" ({ cls := "HalfJournalModel", name := "give", desc := "(JI)Z" } : Jvm.MethodName) ({ cls := "HalfJournalModel", name := "give", desc := "(JI)Z" } : Jvm.MethodName)) ∈ hj_tbl := List.mem_filter.mpr ⟨List.mem_append_right _ (show _ ∈ tables_1 from List.mem_append_right _ (List.mem_append_right _ (List.mem_append_right _ (List.mem_of_getElem? (i := 26) rfl)))), rfl⟩
theorem m_747 : (Jvm.Cond.code ({ cls := "HalfJournalModel", name := "give", desc := "(JI)Z" } : Jvm.MethodName) prog_5_method_18_code (5 : Nat) (Option.some Jvm.ClassFile.FieldType.boolean)) ∈ hj_tbl := List.mem_filter.mpr ⟨List.mem_append_right _ (show _ ∈ tables_1 from List.mem_append_right _ (List.mem_append_right _ (List.mem_append_right _ (List.mem_of_getElem? (i := 27) rfl)))), rfl⟩
theorem m_748 : (Jvm.Cond.methodLink "HalfJournalLaw" (40 : Nat) ({ cls := "HalfJournalModel", name := "wipe", desc := "()V" } : Jvm.MethodName)) ∈ hj_tbl := List.mem_filter.mpr ⟨List.mem_append_right _ (show _ ∈ tables_1 from List.mem_append_right _ (List.mem_append_right _ (List.mem_append_right _ (List.mem_of_getElem? (i := 28) rfl)))), rfl⟩
theorem m_749 : (Jvm.Cond.instanceMethod ({ cls := "HalfJournalModel", name := "wipe", desc := "()V" } : Jvm.MethodName)) ∈ hj_tbl := List.mem_filter.mpr ⟨List.mem_append_right _ (show _ ∈ tables_1 from List.mem_append_right _ (List.mem_append_right _ (List.mem_append_right _ (List.mem_of_getElem? (i := 29) rfl)))), rfl⟩
theorem m_750 : (Jvm.Cond.selects "HalfJournalModel" ({ cls := "HalfJournalModel", name := "wipe", desc := "()V" } : Jvm.MethodName) ({ cls := "HalfJournalModel", name := "wipe", desc := "()V" } : Jvm.MethodName)) ∈ hj_tbl := List.mem_filter.mpr ⟨List.mem_append_right _ (show _ ∈ tables_1 from List.mem_append_right _ (List.mem_append_right _ (List.mem_append_right _ (List.mem_of_getElem? (i := 30) rfl)))), rfl⟩
theorem m_751 : (Jvm.Cond.code ({ cls := "HalfJournalModel", name := "wipe", desc := "()V" } : Jvm.MethodName) prog_5_method_19_code (1 : Nat) (Option.none : Option Jvm.ClassFile.FieldType)) ∈ hj_tbl := List.mem_filter.mpr ⟨List.mem_append_right _ (show _ ∈ tables_1 from List.mem_append_right _ (List.mem_append_right _ (List.mem_append_right _ (List.mem_of_getElem? (i := 31) rfl)))), rfl⟩
theorem m_752 : (Jvm.Cond.methodLink "HalfJournalLaw" (46 : Nat) ({ cls := "HalfJournalModel", name := "append", desc := "()I" } : Jvm.MethodName)) ∈ hj_tbl := List.mem_filter.mpr ⟨List.mem_append_right _ (show _ ∈ tables_1 from List.mem_append_right _ (List.mem_append_right _ (List.mem_append_right _ (List.mem_of_getElem? (i := 32) rfl)))), rfl⟩
theorem m_753 : (Jvm.Cond.instanceMethod ({ cls := "HalfJournalModel", name := "append", desc := "()I" } : Jvm.MethodName)) ∈ hj_tbl := List.mem_filter.mpr ⟨List.mem_append_right _ (show _ ∈ tables_1 from List.mem_append_right _ (List.mem_append_right _ (List.mem_append_right _ (List.mem_of_getElem? (i := 33) rfl)))), rfl⟩
theorem m_754 : (Jvm.Cond.selects "HalfJournalModel" ({ cls := "HalfJournalModel", name := "append", desc := "()I" } : Jvm.MethodName) ({ cls := "HalfJournalModel", name := "append", desc := "()I" } : Jvm.MethodName)) ∈ hj_tbl := List.mem_filter.mpr ⟨List.mem_append_right _ (show _ ∈ tables_1 from List.mem_append_right _ (List.mem_append_right _ (List.mem_append_right _ (List.mem_of_getElem? (i := 34) rfl)))), rfl⟩
theorem m_755 : (Jvm.Cond.code ({ cls := "HalfJournalModel", name := "append", desc := "()I" } : Jvm.MethodName) prog_5_method_21_code (6 : Nat) (Option.some Jvm.ClassFile.FieldType.int)) ∈ hj_tbl := List.mem_filter.mpr ⟨List.mem_append_right _ (show _ ∈ tables_1 from List.mem_append_right _ (List.mem_append_right _ (List.mem_append_right _ (List.mem_of_getElem? (i := 35) rfl)))), rfl⟩
theorem m_756 : (Jvm.Cond.methodLink "HalfJournalModel" (106 : Nat) ({ cls := "HalfJournalModel", name := "lastBlock", desc := "(I)I" } : Jvm.MethodName)) ∈ hj_tbl := List.mem_filter.mpr ⟨List.mem_append_right _ (show _ ∈ tables_1 from List.mem_append_right _ (List.mem_append_right _ (List.mem_append_right _ (List.mem_of_getElem? (i := 36) rfl)))), rfl⟩
theorem m_757 : (Jvm.Cond.static ({ cls := "HalfJournalModel", name := "lastBlock", desc := "(I)I" } : Jvm.MethodName)) ∈ hj_tbl := List.mem_filter.mpr ⟨List.mem_append_right _ (show _ ∈ tables_1 from List.mem_append_right _ (List.mem_append_right _ (List.mem_append_right _ (List.mem_of_getElem? (i := 37) rfl)))), rfl⟩
theorem m_758 : (Jvm.Cond.code ({ cls := "HalfJournalModel", name := "lastBlock", desc := "(I)I" } : Jvm.MethodName) prog_5_method_20_code (2 : Nat) (Option.some Jvm.ClassFile.FieldType.int)) ∈ hj_tbl := List.mem_filter.mpr ⟨List.mem_append_right _ (show _ ∈ tables_1 from List.mem_append_right _ (List.mem_append_right _ (List.mem_append_right _ (List.mem_of_getElem? (i := 38) rfl)))), rfl⟩
theorem m_759 : (Jvm.Cond.methodLink "HalfJournalModel" (109 : Nat) ({ cls := "HalfJournalModel", name := "write", desc := "(I[BI)Z" } : Jvm.MethodName)) ∈ hj_tbl := List.mem_filter.mpr ⟨List.mem_append_right _ (show _ ∈ tables_1 from List.mem_append_right _ (List.mem_append_right _ (List.mem_append_right _ (List.mem_of_getElem? (i := 39) rfl)))), rfl⟩
theorem m_761 : (Jvm.Cond.instanceMethod ({ cls := "HalfJournalModel", name := "write", desc := "(I[BI)Z" } : Jvm.MethodName)) ∈ hj_tbl := List.mem_filter.mpr ⟨List.mem_append_right _ (show _ ∈ tables_1 from List.mem_append_right _ (List.mem_append_right _ (List.mem_append_right _ (List.mem_of_getElem? (i := 41) rfl)))), rfl⟩
theorem m_762 : (Jvm.Cond.code ({ cls := "HalfJournalModel", name := "write", desc := "(I[BI)Z" } : Jvm.MethodName) prog_5_method_17_code (5 : Nat) (Option.some Jvm.ClassFile.FieldType.boolean)) ∈ hj_tbl := List.mem_filter.mpr ⟨List.mem_append_right _ (show _ ∈ tables_1 from List.mem_append_right _ (List.mem_append_right _ (List.mem_append_right _ (List.mem_of_getElem? (i := 42) rfl)))), rfl⟩
theorem m_763 : (Jvm.Cond.methodLink "HalfJournalModel" (97 : Nat) ({ cls := "HalfJournalModel", name := "down", desc := "()V" } : Jvm.MethodName)) ∈ hj_tbl := List.mem_filter.mpr ⟨List.mem_append_right _ (show _ ∈ tables_1 from List.mem_append_right _ (List.mem_append_right _ (List.mem_append_right _ (List.mem_of_getElem? (i := 43) rfl)))), rfl⟩
theorem m_765 : (Jvm.Cond.instanceMethod ({ cls := "HalfJournalModel", name := "down", desc := "()V" } : Jvm.MethodName)) ∈ hj_tbl := List.mem_filter.mpr ⟨List.mem_append_right _ (show _ ∈ tables_1 from List.mem_append_right _ (List.mem_append_right _ (List.mem_append_right _ (List.mem_of_getElem? (i := 45) rfl)))), rfl⟩
theorem m_766 : (Jvm.Cond.code ({ cls := "HalfJournalModel", name := "down", desc := "()V" } : Jvm.MethodName) prog_5_method_11_code (1 : Nat) (Option.none : Option Jvm.ClassFile.FieldType)) ∈ hj_tbl := List.mem_filter.mpr ⟨List.mem_append_right _ (show _ ∈ tables_1 from List.mem_append_right _ (List.mem_append_right _ (List.mem_append_right _ (List.mem_of_getElem? (i := 46) rfl)))), rfl⟩
theorem m_767 : (Jvm.Cond.methodLink "HalfJournalLaw" (54 : Nat) ({ cls := "HalfJournalModel", name := "mark", desc := "(IZ)Z" } : Jvm.MethodName)) ∈ hj_tbl := List.mem_filter.mpr ⟨List.mem_append_right _ (show _ ∈ tables_1 from List.mem_append_right _ (List.mem_append_right _ (List.mem_append_right _ (List.mem_of_getElem? (i := 47) rfl)))), rfl⟩
theorem m_768 : (Jvm.Cond.instanceMethod ({ cls := "HalfJournalModel", name := "mark", desc := "(IZ)Z" } : Jvm.MethodName)) ∈ hj_tbl := List.mem_filter.mpr ⟨List.mem_append_right _ (show _ ∈ tables_1 from List.mem_append_right _ (List.mem_append_right _ (List.mem_append_right _ (List.mem_of_getElem? (i := 48) rfl)))), rfl⟩
theorem m_769 : (Jvm.Cond.selects "HalfJournalModel" ({ cls := "HalfJournalModel", name := "mark", desc := "(IZ)Z" } : Jvm.MethodName) ({ cls := "HalfJournalModel", name := "mark", desc := "(IZ)Z" } : Jvm.MethodName)) ∈ hj_tbl := List.mem_filter.mpr ⟨List.mem_append_right _ (show _ ∈ tables_1 from List.mem_append_right _ (List.mem_append_right _ (List.mem_append_right _ (List.mem_of_getElem? (i := 49) rfl)))), rfl⟩
theorem m_770 : (Jvm.Cond.code ({ cls := "HalfJournalModel", name := "mark", desc := "(IZ)Z" } : Jvm.MethodName) prog_5_method_22_code (3 : Nat) (Option.some Jvm.ClassFile.FieldType.boolean)) ∈ hj_tbl := List.mem_filter.mpr ⟨List.mem_append_right _ (show _ ∈ tables_1 from List.mem_append_right _ (List.mem_append_right _ (List.mem_append_right _ (List.mem_of_getElem? (i := 50) rfl)))), rfl⟩
theorem m_771 : (Jvm.Cond.methodLink "HalfJournalLaw" (57 : Nat) ({ cls := "HalfJournalModel", name := "compact", desc := "()I" } : Jvm.MethodName)) ∈ hj_tbl := List.mem_filter.mpr ⟨List.mem_append_right _ (show _ ∈ tables_1 from List.mem_append_right _ (List.mem_append_right _ (List.mem_append_right _ (List.mem_of_getElem? (i := 51) rfl)))), rfl⟩
theorem m_772 : (Jvm.Cond.instanceMethod ({ cls := "HalfJournalModel", name := "compact", desc := "()I" } : Jvm.MethodName)) ∈ hj_tbl := List.mem_filter.mpr ⟨List.mem_append_right _ (show _ ∈ tables_1 from List.mem_append_right _ (List.mem_append_right _ (List.mem_append_right _ (List.mem_of_getElem? (i := 52) rfl)))), rfl⟩
theorem m_773 : (Jvm.Cond.selects "HalfJournalModel" ({ cls := "HalfJournalModel", name := "compact", desc := "()I" } : Jvm.MethodName) ({ cls := "HalfJournalModel", name := "compact", desc := "()I" } : Jvm.MethodName)) ∈ hj_tbl := List.mem_filter.mpr ⟨List.mem_append_right _ (show _ ∈ tables_1 from List.mem_append_right _ (List.mem_append_right _ (List.mem_append_right _ (List.mem_of_getElem? (i := 53) rfl)))), rfl⟩
theorem m_774 : (Jvm.Cond.code ({ cls := "HalfJournalModel", name := "compact", desc := "()I" } : Jvm.MethodName) prog_5_method_24_code (6 : Nat) (Option.some Jvm.ClassFile.FieldType.int)) ∈ hj_tbl := List.mem_filter.mpr ⟨List.mem_append_right _ (show _ ∈ tables_1 from List.mem_append_right _ (List.mem_append_right _ (List.mem_append_right _ (List.mem_of_getElem? (i := 54) rfl)))), rfl⟩
theorem m_775 : (Jvm.Cond.constant "HalfJournalModel" (113 : Nat) (2147483647 : Int32)) ∈ hj_tbl := List.mem_filter.mpr ⟨List.mem_append_right _ (show _ ∈ tables_1 from List.mem_append_right _ (List.mem_append_right _ (List.mem_append_right _ (List.mem_of_getElem? (i := 55) rfl)))), rfl⟩
theorem m_776 : (Jvm.Cond.methodLink "HalfJournalModel" (114 : Nat) ({ cls := "HalfJournalModel", name := "lengthOf", desc := "(I)I" } : Jvm.MethodName)) ∈ hj_tbl := List.mem_filter.mpr ⟨List.mem_append_right _ (show _ ∈ tables_1 from List.mem_append_right _ (List.mem_append_right _ (List.mem_append_right _ (List.mem_of_getElem? (i := 56) rfl)))), rfl⟩
theorem m_778 : (Jvm.Cond.instanceMethod ({ cls := "HalfJournalModel", name := "lengthOf", desc := "(I)I" } : Jvm.MethodName)) ∈ hj_tbl := List.mem_filter.mpr ⟨List.mem_append_right _ (show _ ∈ tables_1 from List.mem_append_right _ (List.mem_append_right _ (List.mem_append_right _ (List.mem_of_getElem? (i := 58) rfl)))), rfl⟩
theorem m_779 : (Jvm.Cond.code ({ cls := "HalfJournalModel", name := "lengthOf", desc := "(I)I" } : Jvm.MethodName) prog_5_method_23_code (3 : Nat) (Option.some Jvm.ClassFile.FieldType.int)) ∈ hj_tbl := List.mem_filter.mpr ⟨List.mem_append_right _ (show _ ∈ tables_1 from List.mem_append_right _ (List.mem_append_right _ (List.mem_append_right _ (List.mem_of_getElem? (i := 59) rfl)))), rfl⟩
theorem m_780 : (Jvm.Cond.methodLink "HalfJournalLaw" (62 : Nat) ({ cls := "HalfJournalModel", name := "crashIn", desc := "(I)Z" } : Jvm.MethodName)) ∈ hj_tbl := List.mem_filter.mpr ⟨List.mem_append_right _ (show _ ∈ tables_1 from List.mem_append_right _ (List.mem_append_right _ (List.mem_append_right _ (List.mem_of_getElem? (i := 60) rfl)))), rfl⟩
theorem m_781 : (Jvm.Cond.instanceMethod ({ cls := "HalfJournalModel", name := "crashIn", desc := "(I)Z" } : Jvm.MethodName)) ∈ hj_tbl := List.mem_filter.mpr ⟨List.mem_append_right _ (show _ ∈ tables_1 from List.mem_append_right _ (List.mem_append_right _ (List.mem_append_right _ (List.mem_of_getElem? (i := 61) rfl)))), rfl⟩
theorem m_782 : (Jvm.Cond.selects "HalfJournalModel" ({ cls := "HalfJournalModel", name := "crashIn", desc := "(I)Z" } : Jvm.MethodName) ({ cls := "HalfJournalModel", name := "crashIn", desc := "(I)Z" } : Jvm.MethodName)) ∈ hj_tbl := List.mem_filter.mpr ⟨List.mem_append_right _ (show _ ∈ tables_1 from List.mem_append_right _ (List.mem_append_right _ (List.mem_append_right _ (List.mem_of_getElem? (i := 62) rfl)))), rfl⟩
theorem m_783 : (Jvm.Cond.code ({ cls := "HalfJournalModel", name := "crashIn", desc := "(I)Z" } : Jvm.MethodName) prog_5_method_25_code (2 : Nat) (Option.some Jvm.ClassFile.FieldType.boolean)) ∈ hj_tbl := List.mem_filter.mpr ⟨List.mem_append_right _ (show _ ∈ tables_1 from List.mem_append_right _ (List.mem_append_right _ (List.mem_append_right _ (List.mem_of_getElem? (i := 63) rfl)))), rfl⟩
theorem m_784 : (Jvm.Cond.methodLink "HalfJournalLaw" (66 : Nat) ({ cls := "HalfJournalModel", name := "crash", desc := "()V" } : Jvm.MethodName)) ∈ hj_tbl := List.mem_filter.mpr ⟨List.mem_append_right _ (show _ ∈ tables_1 from List.mem_append_right _ (List.mem_append_right _ (List.mem_append_right _ (List.mem_of_getElem? (i := 64) rfl)))), rfl⟩
theorem m_785 : (Jvm.Cond.instanceMethod ({ cls := "HalfJournalModel", name := "crash", desc := "()V" } : Jvm.MethodName)) ∈ hj_tbl := List.mem_filter.mpr ⟨List.mem_append_right _ (show _ ∈ tables_1 from List.mem_append_right _ (List.mem_append_right _ (List.mem_append_right _ (List.mem_of_getElem? (i := 65) rfl)))), rfl⟩
theorem m_786 : (Jvm.Cond.selects "HalfJournalModel" ({ cls := "HalfJournalModel", name := "crash", desc := "()V" } : Jvm.MethodName) ({ cls := "HalfJournalModel", name := "crash", desc := "()V" } : Jvm.MethodName)) ∈ hj_tbl := List.mem_filter.mpr ⟨List.mem_append_right _ (show _ ∈ tables_1 from List.mem_append_right _ (List.mem_append_right _ (List.mem_append_right _ (List.mem_of_getElem? (i := 66) rfl)))), rfl⟩
theorem m_787 : (Jvm.Cond.code ({ cls := "HalfJournalModel", name := "crash", desc := "()V" } : Jvm.MethodName) prog_5_method_26_code (1 : Nat) (Option.none : Option Jvm.ClassFile.FieldType)) ∈ hj_tbl := List.mem_filter.mpr ⟨List.mem_append_right _ (show _ ∈ tables_1 from List.mem_append_right _ (List.mem_append_right _ (List.mem_append_right _ (List.mem_of_getElem? (i := 67) rfl)))), rfl⟩
theorem m_788 : (Jvm.Cond.methodLink "HalfJournalLaw" (75 : Nat) ({ cls := "HalfJournalModel", name := "spoil", desc := "(III)Z" } : Jvm.MethodName)) ∈ hj_tbl := List.mem_filter.mpr ⟨List.mem_append_right _ (show _ ∈ tables_1 from List.mem_append_right _ (List.mem_append_right _ (List.mem_append_right _ (List.mem_of_getElem? (i := 68) rfl)))), rfl⟩
theorem m_789 : (Jvm.Cond.instanceMethod ({ cls := "HalfJournalModel", name := "spoil", desc := "(III)Z" } : Jvm.MethodName)) ∈ hj_tbl := List.mem_filter.mpr ⟨List.mem_append_right _ (show _ ∈ tables_1 from List.mem_append_right _ (List.mem_append_right _ (List.mem_append_right _ (List.mem_of_getElem? (i := 69) rfl)))), rfl⟩
theorem m_790 : (Jvm.Cond.selects "HalfJournalModel" ({ cls := "HalfJournalModel", name := "spoil", desc := "(III)Z" } : Jvm.MethodName) ({ cls := "HalfJournalModel", name := "spoil", desc := "(III)Z" } : Jvm.MethodName)) ∈ hj_tbl := List.mem_filter.mpr ⟨List.mem_append_right _ (show _ ∈ tables_1 from List.mem_append_right _ (List.mem_append_right _ (List.mem_append_right _ (List.mem_of_getElem? (i := 70) rfl)))), rfl⟩
theorem m_791 : (Jvm.Cond.code ({ cls := "HalfJournalModel", name := "spoil", desc := "(III)Z" } : Jvm.MethodName) prog_5_method_27_code (4 : Nat) (Option.some Jvm.ClassFile.FieldType.boolean)) ∈ hj_tbl := List.mem_filter.mpr ⟨List.mem_append_right _ (show _ ∈ tables_1 from List.mem_append_right _ (List.mem_append_right _ (List.mem_append_right _ (List.mem_of_getElem? (i := 71) rfl)))), rfl⟩
theorem m_792 : (Jvm.Cond.methodLink "HalfJournalLaw" (80 : Nat) ({ cls := "HalfJournalModel", name := "length", desc := "(I)I" } : Jvm.MethodName)) ∈ hj_tbl := List.mem_filter.mpr ⟨List.mem_append_right _ (show _ ∈ tables_1 from List.mem_append_right _ (List.mem_append_right _ (List.mem_append_right _ (List.mem_of_getElem? (i := 72) rfl)))), rfl⟩
theorem m_793 : (Jvm.Cond.instanceMethod ({ cls := "HalfJournalModel", name := "length", desc := "(I)I" } : Jvm.MethodName)) ∈ hj_tbl := List.mem_filter.mpr ⟨List.mem_append_right _ (show _ ∈ tables_1 from List.mem_append_right _ (List.mem_append_right _ (List.mem_append_right _ (List.mem_of_getElem? (i := 73) rfl)))), rfl⟩
theorem m_794 : (Jvm.Cond.selects "HalfJournalModel" ({ cls := "HalfJournalModel", name := "length", desc := "(I)I" } : Jvm.MethodName) ({ cls := "HalfJournalModel", name := "length", desc := "(I)I" } : Jvm.MethodName)) ∈ hj_tbl := List.mem_filter.mpr ⟨List.mem_append_right _ (show _ ∈ tables_1 from List.mem_append_right _ (List.mem_append_right _ (List.mem_append_right _ (List.mem_of_getElem? (i := 74) rfl)))), rfl⟩
theorem m_795 : (Jvm.Cond.code ({ cls := "HalfJournalModel", name := "length", desc := "(I)I" } : Jvm.MethodName) prog_5_method_28_code (2 : Nat) (Option.some Jvm.ClassFile.FieldType.int)) ∈ hj_tbl := List.mem_filter.mpr ⟨List.mem_append_right _ (show _ ∈ tables_1 from List.mem_append_right _ (List.mem_append_right _ (List.mem_append_right _ (List.mem_of_getElem? (i := 75) rfl)))), rfl⟩
theorem m_796 : (Jvm.Cond.methodLink "HalfJournalLaw" (85 : Nat) ({ cls := "HalfJournalModel", name := "record", desc := "(II)J" } : Jvm.MethodName)) ∈ hj_tbl := List.mem_filter.mpr ⟨List.mem_append_right _ (show _ ∈ tables_1 from List.mem_append_right _ (List.mem_append_right _ (List.mem_append_right _ (List.mem_of_getElem? (i := 76) rfl)))), rfl⟩
theorem m_797 : (Jvm.Cond.instanceMethod ({ cls := "HalfJournalModel", name := "record", desc := "(II)J" } : Jvm.MethodName)) ∈ hj_tbl := List.mem_filter.mpr ⟨List.mem_append_right _ (show _ ∈ tables_1 from List.mem_append_right _ (List.mem_append_right _ (List.mem_append_right _ (List.mem_of_getElem? (i := 77) rfl)))), rfl⟩
theorem m_798 : (Jvm.Cond.selects "HalfJournalModel" ({ cls := "HalfJournalModel", name := "record", desc := "(II)J" } : Jvm.MethodName) ({ cls := "HalfJournalModel", name := "record", desc := "(II)J" } : Jvm.MethodName)) ∈ hj_tbl := List.mem_filter.mpr ⟨List.mem_append_right _ (show _ ∈ tables_1 from List.mem_append_right _ (List.mem_append_right _ (List.mem_append_right _ (List.mem_of_getElem? (i := 78) rfl)))), rfl⟩
theorem m_799 : (Jvm.Cond.code ({ cls := "HalfJournalModel", name := "record", desc := "(II)J" } : Jvm.MethodName) prog_5_method_29_code (7 : Nat) (Option.some Jvm.ClassFile.FieldType.long)) ∈ hj_tbl := List.mem_filter.mpr ⟨List.mem_append_right _ (show _ ∈ tables_1 from List.mem_append_right _ (List.mem_append_right _ (List.mem_append_right _ (List.mem_of_getElem? (i := 79) rfl)))), rfl⟩
theorem m_800 : (Jvm.Cond.methodLink "HalfJournalLaw" (89 : Nat) ({ cls := "HalfJournalModel", name := "block", desc := "(II)J" } : Jvm.MethodName)) ∈ hj_tbl := List.mem_filter.mpr ⟨List.mem_append_right _ (show _ ∈ tables_1 from List.mem_append_right _ (List.mem_append_right _ (List.mem_append_right _ (List.mem_of_getElem? (i := 80) rfl)))), rfl⟩
theorem m_801 : (Jvm.Cond.instanceMethod ({ cls := "HalfJournalModel", name := "block", desc := "(II)J" } : Jvm.MethodName)) ∈ hj_tbl := List.mem_filter.mpr ⟨List.mem_append_right _ (show _ ∈ tables_1 from List.mem_append_right _ (List.mem_append_right _ (List.mem_append_right _ (List.mem_of_getElem? (i := 81) rfl)))), rfl⟩
theorem m_802 : (Jvm.Cond.selects "HalfJournalModel" ({ cls := "HalfJournalModel", name := "block", desc := "(II)J" } : Jvm.MethodName) ({ cls := "HalfJournalModel", name := "block", desc := "(II)J" } : Jvm.MethodName)) ∈ hj_tbl := List.mem_filter.mpr ⟨List.mem_append_right _ (show _ ∈ tables_1 from List.mem_append_right _ (List.mem_append_right _ (List.mem_append_right _ (List.mem_of_getElem? (i := 82) rfl)))), rfl⟩
theorem m_803 : (Jvm.Cond.code ({ cls := "HalfJournalModel", name := "block", desc := "(II)J" } : Jvm.MethodName) prog_5_method_30_code (6 : Nat) (Option.some Jvm.ClassFile.FieldType.long)) ∈ hj_tbl := List.mem_filter.mpr ⟨List.mem_append_right _ (show _ ∈ tables_1 from List.mem_append_right _ (List.mem_append_right _ (List.mem_append_right _ (List.mem_of_getElem? (i := 83) rfl)))), rfl⟩
theorem m_804 : (Jvm.Cond.methodLink "HalfJournalLaw" (93 : Nat) ({ cls := "HalfJournalModel", name := "look", desc := "(I)I" } : Jvm.MethodName)) ∈ hj_tbl := List.mem_filter.mpr ⟨List.mem_append_right _ (show _ ∈ tables_1 from List.mem_append_right _ (List.mem_append_right _ (List.mem_append_right _ (List.mem_of_getElem? (i := 84) rfl)))), rfl⟩
theorem m_805 : (Jvm.Cond.instanceMethod ({ cls := "HalfJournalModel", name := "look", desc := "(I)I" } : Jvm.MethodName)) ∈ hj_tbl := List.mem_filter.mpr ⟨List.mem_append_right _ (show _ ∈ tables_1 from List.mem_append_right _ (List.mem_append_right _ (List.mem_append_right _ (List.mem_of_getElem? (i := 85) rfl)))), rfl⟩
theorem m_806 : (Jvm.Cond.selects "HalfJournalModel" ({ cls := "HalfJournalModel", name := "look", desc := "(I)I" } : Jvm.MethodName) ({ cls := "HalfJournalModel", name := "look", desc := "(I)I" } : Jvm.MethodName)) ∈ hj_tbl := List.mem_filter.mpr ⟨List.mem_append_right _ (show _ ∈ tables_1 from List.mem_append_right _ (List.mem_append_right _ (List.mem_append_right _ (List.mem_of_getElem? (i := 86) rfl)))), rfl⟩
theorem m_807 : (Jvm.Cond.code ({ cls := "HalfJournalModel", name := "look", desc := "(I)I" } : Jvm.MethodName) prog_5_method_31_code (4 : Nat) (Option.some Jvm.ClassFile.FieldType.int)) ∈ hj_tbl := List.mem_filter.mpr ⟨List.mem_append_right _ (show _ ∈ tables_1 from List.mem_append_right _ (List.mem_append_right _ (List.mem_append_right _ (List.mem_of_getElem? (i := 87) rfl)))), rfl⟩
theorem m_808 : (Jvm.Cond.constantLong "HalfJournalLaw" (30 : Nat) (4294967295 : Int64)) ∈ hj_tbl := List.mem_filter.mpr ⟨List.mem_append_right _ (show _ ∈ tables_1 from List.mem_append_right _ (List.mem_append_right _ (List.mem_append_right _ (List.mem_of_getElem? (i := 88) rfl)))), rfl⟩
theorem m_809 : (Jvm.Cond.arrayClass Jvm.ClassFile.FieldType.long) ∈ hj_tbl := List.mem_filter.mpr ⟨List.mem_append_right _ (show _ ∈ tables_1 from List.mem_append_right _ (List.mem_append_right _ (List.mem_append_right _ (List.mem_of_getElem? (i := 89) rfl)))), rfl⟩
theorem s_J_goUp : Cond.selects "HalfJournal" y_J_goUp y_J_goUp ∈ hj_tbl := List.mem_filter.mpr ⟨List.mem_append_left _ (List.mem_map.mpr ⟨(y_J_goUp, 8), List.mem_append_left _ (List.mem_of_getElem? (i := 1) rfl), rfl⟩), rfl⟩
theorem s_J_readRecords : Cond.selects "HalfJournal" y_J_readRecords y_J_readRecords ∈ hj_tbl := List.mem_filter.mpr ⟨List.mem_append_left _ (List.mem_map.mpr ⟨(y_J_readRecords, 8), List.mem_append_left _ (List.mem_of_getElem? (i := 2) rfl), rfl⟩), rfl⟩
theorem s_R_clear : Cond.selects "HalfJournal$Records" y_R_clear y_R_clear ∈ hj_tbl := List.mem_filter.mpr ⟨List.mem_append_left _ (List.mem_map.mpr ⟨(y_R_clear, 6), List.mem_append_left _ (List.mem_of_getElem? (i := 3) rfl), rfl⟩), rfl⟩
theorem s_J_lengthOfRecordAt : Cond.selects "HalfJournal" y_J_lengthOfRecordAt y_J_lengthOfRecordAt ∈ hj_tbl := List.mem_filter.mpr ⟨List.mem_append_left _ (List.mem_map.mpr ⟨(y_J_lengthOfRecordAt, 8), List.mem_append_left _ (List.mem_of_getElem? (i := 4) rfl), rfl⟩), rfl⟩
theorem s_R_add : Cond.selects "HalfJournal$Records" y_R_add y_R_add ∈ hj_tbl := List.mem_filter.mpr ⟨List.mem_append_left _ (List.mem_map.mpr ⟨(y_R_add, 6), List.mem_append_left _ (List.mem_of_getElem? (i := 5) rfl), rfl⟩), rfl⟩
theorem s_R_has : Cond.selects "HalfJournal$Records" y_R_has y_R_has ∈ hj_tbl := List.mem_filter.mpr ⟨List.mem_append_left _ (List.mem_map.mpr ⟨(y_R_has, 6), List.mem_append_left _ (List.mem_of_getElem? (i := 6) rfl), rfl⟩), rfl⟩
theorem s_R_setMark : Cond.selects "HalfJournal$Records" y_R_setMark y_R_setMark ∈ hj_tbl := List.mem_filter.mpr ⟨List.mem_append_left _ (List.mem_map.mpr ⟨(y_R_setMark, 6), List.mem_append_left _ (List.mem_of_getElem? (i := 7) rfl), rfl⟩), rfl⟩
theorem s_J_leave : Cond.selects "HalfJournal" y_J_leave y_J_leave ∈ hj_tbl := List.mem_filter.mpr ⟨List.mem_append_left _ (List.mem_map.mpr ⟨(y_J_leave, 8), List.mem_append_left _ (List.mem_of_getElem? (i := 8) rfl), rfl⟩), rfl⟩
theorem s_J_generationOfHead : Cond.selects "HalfJournal" y_J_generationOfHead y_J_generationOfHead ∈ hj_tbl := List.mem_filter.mpr ⟨List.mem_append_left _ (List.mem_map.mpr ⟨(y_J_generationOfHead, 8), List.mem_append_left _ (List.mem_of_getElem? (i := 9) rfl), rfl⟩), rfl⟩
theorem s_J_halfOfHead : Cond.selects "HalfJournal" y_J_halfOfHead y_J_halfOfHead ∈ hj_tbl := List.mem_filter.mpr ⟨List.mem_append_left _ (List.mem_map.mpr ⟨(y_J_halfOfHead, 8), List.mem_append_left _ (List.mem_of_getElem? (i := 10) rfl), rfl⟩), rfl⟩
theorem s_J_planTape : Cond.selects "HalfJournal" y_J_planTape y_J_planTape ∈ hj_tbl := List.mem_filter.mpr ⟨List.mem_append_left _ (List.mem_map.mpr ⟨(y_J_planTape, 8), List.mem_append_left _ (List.mem_of_getElem? (i := 11) rfl), rfl⟩), rfl⟩
theorem s_J_writeLastFirst : Cond.selects "HalfJournal" y_J_writeLastFirst y_J_writeLastFirst ∈ hj_tbl := List.mem_filter.mpr ⟨List.mem_append_left _ (List.mem_map.mpr ⟨(y_J_writeLastFirst, 8), List.mem_append_left _ (List.mem_of_getElem? (i := 12) rfl), rfl⟩), rfl⟩
theorem s_D_write : Cond.selects "HalfJournal$Disk" y_D_write y_D_write ∈ hj_tbl := List.mem_filter.mpr ⟨List.mem_append_left _ (List.mem_map.mpr ⟨(y_D_write, 3), List.mem_append_left _ (List.mem_of_getElem? (i := 13) rfl), rfl⟩), rfl⟩
theorem s_J_planUnmarked : Cond.selects "HalfJournal" y_J_planUnmarked y_J_planUnmarked ∈ hj_tbl := List.mem_filter.mpr ⟨List.mem_append_left _ (List.mem_map.mpr ⟨(y_J_planUnmarked, 8), List.mem_append_left _ (List.mem_of_getElem? (i := 14) rfl), rfl⟩), rfl⟩
theorem s_J_writeFirstFirst : Cond.selects "HalfJournal" y_J_writeFirstFirst y_J_writeFirstFirst ∈ hj_tbl := List.mem_filter.mpr ⟨List.mem_append_left _ (List.mem_map.mpr ⟨(y_J_writeFirstFirst, 8), List.mem_append_left _ (List.mem_of_getElem? (i := 15) rfl), rfl⟩), rfl⟩
theorem s_J_writeHead : Cond.selects "HalfJournal" y_J_writeHead y_J_writeHead ∈ hj_tbl := List.mem_filter.mpr ⟨List.mem_append_left _ (List.mem_map.mpr ⟨(y_J_writeHead, 8), List.mem_append_right _ (List.mem_of_getElem? (i := 0) rfl), rfl⟩), rfl⟩
theorem s_M_unmark : Cond.selects "HalfJournalModel" y_M_unmark y_M_unmark ∈ hj_tbl := List.mem_filter.mpr ⟨List.mem_append_left _ (List.mem_map.mpr ⟨(y_M_unmark, 15), List.mem_append_right _ (List.mem_of_getElem? (i := 1) rfl), rfl⟩), rfl⟩
theorem s_M_isHead : Cond.selects "HalfJournalModel" y_M_isHead y_M_isHead ∈ hj_tbl := List.mem_filter.mpr ⟨List.mem_append_left _ (List.mem_map.mpr ⟨(y_M_isHead, 15), List.mem_append_right _ (List.mem_of_getElem? (i := 2) rfl), rfl⟩), rfl⟩
theorem s_M_leave : Cond.selects "HalfJournalModel" y_M_leave y_M_leave ∈ hj_tbl := List.mem_filter.mpr ⟨List.mem_append_left _ (List.mem_map.mpr ⟨(y_M_leave, 15), List.mem_append_right _ (List.mem_of_getElem? (i := 3) rfl), rfl⟩), rfl⟩
theorem s_M_findRecords : Cond.selects "HalfJournalModel" y_M_findRecords y_M_findRecords ∈ hj_tbl := List.mem_filter.mpr ⟨List.mem_append_left _ (List.mem_map.mpr ⟨(y_M_findRecords, 15), List.mem_append_right _ (List.mem_of_getElem? (i := 4) rfl), rfl⟩), rfl⟩
theorem s_M_recordAt : Cond.selects "HalfJournalModel" y_M_recordAt y_M_recordAt ∈ hj_tbl := List.mem_filter.mpr ⟨List.mem_append_left _ (List.mem_map.mpr ⟨(y_M_recordAt, 15), List.mem_append_right _ (List.mem_of_getElem? (i := 5) rfl), rfl⟩), rfl⟩
theorem s_M_layHead : Cond.selects "HalfJournalModel" y_M_layHead y_M_layHead ∈ hj_tbl := List.mem_filter.mpr ⟨List.mem_append_left _ (List.mem_map.mpr ⟨(y_M_layHead, 15), List.mem_append_right _ (List.mem_of_getElem? (i := 6) rfl), rfl⟩), rfl⟩
theorem s_M_write : Cond.selects "HalfJournalModel" y_M_write y_M_write ∈ hj_tbl := List.mem_filter.mpr ⟨List.mem_append_left _ (List.mem_map.mpr ⟨(y_M_write, 15), List.mem_append_right _ (List.mem_of_getElem? (i := 7) rfl), rfl⟩), rfl⟩
theorem s_M_down : Cond.selects "HalfJournalModel" y_M_down y_M_down ∈ hj_tbl := List.mem_filter.mpr ⟨List.mem_append_left _ (List.mem_map.mpr ⟨(y_M_down, 15), List.mem_append_right _ (List.mem_of_getElem? (i := 8) rfl), rfl⟩), rfl⟩
theorem s_M_lengthOf : Cond.selects "HalfJournalModel" y_M_lengthOf y_M_lengthOf ∈ hj_tbl := List.mem_filter.mpr ⟨List.mem_append_left _ (List.mem_map.mpr ⟨(y_M_lengthOf, 15), List.mem_append_right _ (List.mem_of_getElem? (i := 9) rfl), rfl⟩), rfl⟩
theorem i_D : ∀ w ∈ u_ws "HalfJournal$Disk" F_D 3, w ∈ hj_tbl := List.forall_mem_cons.mpr ⟨m_43, List.forall_mem_cons.mpr ⟨m_45, List.forall_mem_cons.mpr ⟨m_47, fun _ h => absurd h List.not_mem_nil⟩⟩⟩
theorem i_R : ∀ w ∈ u_ws "HalfJournal$Records" F_R 6, w ∈ hj_tbl := List.forall_mem_cons.mpr ⟨m_69, List.forall_mem_cons.mpr ⟨m_71, List.forall_mem_cons.mpr ⟨m_73, List.forall_mem_cons.mpr ⟨m_75, List.forall_mem_cons.mpr ⟨m_77, List.forall_mem_cons.mpr ⟨m_79, fun _ h => absurd h List.not_mem_nil⟩⟩⟩⟩⟩⟩
theorem i_J : ∀ w ∈ u_ws "HalfJournal" F_J 8, w ∈ hj_tbl := List.forall_mem_cons.mpr ⟨m_92, List.forall_mem_cons.mpr ⟨m_94, List.forall_mem_cons.mpr ⟨m_96, List.forall_mem_cons.mpr ⟨m_98, List.forall_mem_cons.mpr ⟨m_100, List.forall_mem_cons.mpr ⟨m_102, List.forall_mem_cons.mpr ⟨m_104, List.forall_mem_cons.mpr ⟨m_106, fun _ h => absurd h List.not_mem_nil⟩⟩⟩⟩⟩⟩⟩⟩
theorem i_M : ∀ w ∈ u_ws "HalfJournalModel" F_M 15, w ∈ hj_tbl := List.forall_mem_cons.mpr ⟨m_660, List.forall_mem_cons.mpr ⟨m_662, List.forall_mem_cons.mpr ⟨m_664, List.forall_mem_cons.mpr ⟨m_666, List.forall_mem_cons.mpr ⟨m_668, List.forall_mem_cons.mpr ⟨m_670, List.forall_mem_cons.mpr ⟨m_672, List.forall_mem_cons.mpr ⟨m_674, List.forall_mem_cons.mpr ⟨m_676, List.forall_mem_cons.mpr ⟨m_678, List.forall_mem_cons.mpr ⟨m_680, List.forall_mem_cons.mpr ⟨m_682, List.forall_mem_cons.mpr ⟨m_684, List.forall_mem_cons.mpr ⟨m_686, List.forall_mem_cons.mpr ⟨m_688, fun _ h => absurd h List.not_mem_nil⟩⟩⟩⟩⟩⟩⟩⟩⟩⟩⟩⟩⟩⟩⟩
end
section
theorem d_J_init_0 : decode b_J_init 0 = .ok (.aload_n 0, 1) := by decide +kernel
theorem d_J_init_1 : decode b_J_init 1 = .ok (.invokespecial 3, 3) := by decide +kernel
theorem d_J_init_4 : decode b_J_init 4 = .ok (.aload_n 0, 1) := by decide +kernel
theorem d_J_init_5 : decode b_J_init 5 = .ok (.new 9, 3) := by decide +kernel
theorem d_J_init_8 : decode b_J_init 8 = .ok (.dup, 1) := by decide +kernel
theorem d_J_init_9 : decode b_J_init 9 = .ok (.invokespecial 11, 3) := by decide +kernel
theorem d_J_init_12 : decode b_J_init 12 = .ok (.putfield 12, 3) := by decide +kernel
theorem d_J_init_15 : decode b_J_init 15 = .ok (.aload_n 0, 1) := by decide +kernel
theorem d_J_init_16 : decode b_J_init 16 = .ok (.new 16, 3) := by decide +kernel
theorem d_J_init_19 : decode b_J_init 19 = .ok (.dup, 1) := by decide +kernel
theorem d_J_init_20 : decode b_J_init 20 = .ok (.invokespecial 18, 3) := by decide +kernel
theorem d_J_init_23 : decode b_J_init 23 = .ok (.putfield 19, 3) := by decide +kernel
theorem d_J_init_26 : decode b_J_init 26 = .ok (.aload_n 0, 1) := by decide +kernel
theorem d_J_init_27 : decode b_J_init 27 = .ok (.sipush 1000, 3) := by decide +kernel
theorem d_J_init_30 : decode b_J_init 30 = .ok (.newarray .byte, 2) := by decide +kernel
theorem d_J_init_32 : decode b_J_init 32 = .ok (.putfield 23, 3) := by decide +kernel
theorem d_J_init_35 : decode b_J_init 35 = .ok (.aload_n 0, 1) := by decide +kernel
theorem d_J_init_36 : decode b_J_init 36 = .ok (.sipush 15872, 3) := by decide +kernel
theorem d_J_init_39 : decode b_J_init 39 = .ok (.newarray .byte, 2) := by decide +kernel
theorem d_J_init_41 : decode b_J_init 41 = .ok (.putfield 27, 3) := by decide +kernel
theorem d_J_init_44 : decode b_J_init 44 = .ok (.aload_n 0, 1) := by decide +kernel
theorem d_J_init_45 : decode b_J_init 45 = .ok (.iconst 0, 1) := by decide +kernel
theorem d_J_init_46 : decode b_J_init 46 = .ok (.putfield 30, 3) := by decide +kernel
theorem d_J_init_49 : decode b_J_init 49 = .ok (.aload_n 0, 1) := by decide +kernel
theorem d_J_init_50 : decode b_J_init 50 = .ok (.iconst 1, 1) := by decide +kernel
theorem d_J_init_51 : decode b_J_init 51 = .ok (.putfield 34, 3) := by decide +kernel
theorem d_J_init_54 : decode b_J_init 54 = .ok (.aload_n 0, 1) := by decide +kernel
theorem d_J_init_55 : decode b_J_init 55 = .ok (.iconst 0, 1) := by decide +kernel
theorem d_J_init_56 : decode b_J_init 56 = .ok (.putfield 37, 3) := by decide +kernel
theorem d_J_init_59 : decode b_J_init 59 = .ok (.aload_n 0, 1) := by decide +kernel
theorem d_J_init_60 : decode b_J_init 60 = .ok (.iconst 0, 1) := by decide +kernel
theorem d_J_init_61 : decode b_J_init 61 = .ok (.putfield 40, 3) := by decide +kernel
theorem d_J_init_64 : decode b_J_init 64 = .ok (.return_, 1) := by decide +kernel
theorem d_J_format_0 : decode b_J_format 0 = .ok (.aload_n 0, 1) := by decide +kernel
theorem d_J_format_1 : decode b_J_format 1 = .ok (.getfield 12, 3) := by decide +kernel
theorem d_J_format_4 : decode b_J_format 4 = .ok (.getfield 43, 3) := by decide +kernel
theorem d_J_format_7 : decode b_J_format 7 = .ok (.iconst 0, 1) := by decide +kernel
theorem d_J_format_8 : decode b_J_format 8 = .ok (.ldc 46, 2) := by decide +kernel
theorem d_J_format_10 : decode b_J_format 10 = .ok (.invokestatic 47, 3) := by decide +kernel
theorem d_J_format_13 : decode b_J_format 13 = .ok (.aload_n 0, 1) := by decide +kernel
theorem d_J_format_14 : decode b_J_format 14 = .ok (.getfield 12, 3) := by decide +kernel
theorem d_J_format_17 : decode b_J_format 17 = .ok (.getfield 43, 3) := by decide +kernel
theorem d_J_format_20 : decode b_J_format 20 = .ok (.sipush 512, 3) := by decide +kernel
theorem d_J_format_23 : decode b_J_format 23 = .ok (.iconst 1, 1) := by decide +kernel
theorem d_J_format_24 : decode b_J_format 24 = .ok (.iconst 0, 1) := by decide +kernel
theorem d_J_format_25 : decode b_J_format 25 = .ok (.invokestatic 51, 3) := by decide +kernel
theorem d_J_format_28 : decode b_J_format 28 = .ok (.aload_n 0, 1) := by decide +kernel
theorem d_J_format_29 : decode b_J_format 29 = .ok (.getfield 12, 3) := by decide +kernel
theorem d_J_format_32 : decode b_J_format 32 = .ok (.iconst (-1), 1) := by decide +kernel
theorem d_J_format_33 : decode b_J_format 33 = .ok (.putfield 55, 3) := by decide +kernel
theorem d_J_format_36 : decode b_J_format 36 = .ok (.aload_n 0, 1) := by decide +kernel
theorem d_J_format_37 : decode b_J_format 37 = .ok (.iconst 1, 1) := by decide +kernel
theorem d_J_format_38 : decode b_J_format 38 = .ok (.iconst 0, 1) := by decide +kernel
theorem d_J_format_39 : decode b_J_format 39 = .ok (.invokevirtual 58, 3) := by decide +kernel
theorem d_J_format_42 : decode b_J_format 42 = .ok (.return_, 1) := by decide +kernel
theorem d_J_give_0 : decode b_J_give 0 = .ok (.iload_n 3, 1) := by decide +kernel
theorem d_J_give_1 : decode b_J_give 1 = .ok (.iconst 1, 1) := by decide +kernel
theorem d_J_give_2 : decode b_J_give 2 = .ok (.if_icmp .lt 23, 3) := by decide +kernel
theorem d_J_give_5 : decode b_J_give 5 = .ok (.iload_n 3, 1) := by decide +kernel
theorem d_J_give_6 : decode b_J_give 6 = .ok (.bipush 8, 2) := by decide +kernel
theorem d_J_give_8 : decode b_J_give 8 = .ok (.if_icmp .gt 17, 3) := by decide +kernel
theorem d_J_give_11 : decode b_J_give 11 = .ok (.iload_n 3, 1) := by decide +kernel
theorem d_J_give_12 : decode b_J_give 12 = .ok (.aload_n 0, 1) := by decide +kernel
theorem d_J_give_13 : decode b_J_give 13 = .ok (.getfield 23, 3) := by decide +kernel
theorem d_J_give_16 : decode b_J_give 16 = .ok (.arraylength, 1) := by decide +kernel
theorem d_J_give_17 : decode b_J_give 17 = .ok (.aload_n 0, 1) := by decide +kernel
theorem d_J_give_18 : decode b_J_give 18 = .ok (.getfield 30, 3) := by decide +kernel
theorem d_J_give_21 : decode b_J_give 21 = .ok (.isub, 1) := by decide +kernel
theorem d_J_give_22 : decode b_J_give 22 = .ok (.if_icmp .le 5, 3) := by decide +kernel
theorem d_J_give_25 : decode b_J_give 25 = .ok (.iconst 0, 1) := by decide +kernel
theorem d_J_give_26 : decode b_J_give 26 = .ok (.ireturn, 1) := by decide +kernel
theorem d_J_give_27 : decode b_J_give 27 = .ok (.iload_n 3, 1) := by decide +kernel
theorem d_J_give_28 : decode b_J_give 28 = .ok (.iconst 1, 1) := by decide +kernel
theorem d_J_give_29 : decode b_J_give 29 = .ok (.isub, 1) := by decide +kernel
theorem d_J_give_30 : decode b_J_give 30 = .ok (.istore 4, 2) := by decide +kernel
theorem d_J_give_32 : decode b_J_give 32 = .ok (.iload 4, 2) := by decide +kernel
theorem d_J_give_34 : decode b_J_give 34 = .ok (.ifCond .lt 37, 3) := by decide +kernel
theorem d_J_give_37 : decode b_J_give 37 = .ok (.aload_n 0, 1) := by decide +kernel
theorem d_J_give_38 : decode b_J_give 38 = .ok (.getfield 23, 3) := by decide +kernel
theorem d_J_give_41 : decode b_J_give 41 = .ok (.aload_n 0, 1) := by decide +kernel
theorem d_J_give_42 : decode b_J_give 42 = .ok (.getfield 30, 3) := by decide +kernel
theorem d_J_give_45 : decode b_J_give 45 = .ok (.lload_n 1, 1) := by decide +kernel
theorem d_J_give_46 : decode b_J_give 46 = .ok (.bipush 8, 2) := by decide +kernel
theorem d_J_give_48 : decode b_J_give 48 = .ok (.iload 4, 2) := by decide +kernel
theorem d_J_give_50 : decode b_J_give 50 = .ok (.imul, 1) := by decide +kernel
theorem d_J_give_51 : decode b_J_give 51 = .ok (.lushr, 1) := by decide +kernel
theorem d_J_give_52 : decode b_J_give 52 = .ok (.l2i, 1) := by decide +kernel
theorem d_J_give_53 : decode b_J_give 53 = .ok (.i2b, 1) := by decide +kernel
theorem d_J_give_54 : decode b_J_give 54 = .ok (.bastore, 1) := by decide +kernel
theorem d_J_give_55 : decode b_J_give 55 = .ok (.aload_n 0, 1) := by decide +kernel
theorem d_J_give_56 : decode b_J_give 56 = .ok (.dup, 1) := by decide +kernel
theorem d_J_give_57 : decode b_J_give 57 = .ok (.getfield 30, 3) := by decide +kernel
theorem d_J_give_60 : decode b_J_give 60 = .ok (.iconst 1, 1) := by decide +kernel
theorem d_J_give_61 : decode b_J_give 61 = .ok (.iadd, 1) := by decide +kernel
theorem d_J_give_62 : decode b_J_give 62 = .ok (.putfield 30, 3) := by decide +kernel
theorem d_J_give_65 : decode b_J_give 65 = .ok (.iinc 4 (-1), 3) := by decide +kernel
theorem d_J_give_68 : decode b_J_give 68 = .ok (.goto (-36), 3) := by decide +kernel
theorem d_J_give_71 : decode b_J_give 71 = .ok (.iconst 1, 1) := by decide +kernel
theorem d_J_give_72 : decode b_J_give 72 = .ok (.ireturn, 1) := by decide +kernel
theorem d_J_wipe_0 : decode b_J_wipe 0 = .ok (.aload_n 0, 1) := by decide +kernel
theorem d_J_wipe_1 : decode b_J_wipe 1 = .ok (.iconst 0, 1) := by decide +kernel
theorem d_J_wipe_2 : decode b_J_wipe 2 = .ok (.putfield 30, 3) := by decide +kernel
theorem d_J_wipe_5 : decode b_J_wipe 5 = .ok (.return_, 1) := by decide +kernel
theorem d_J_append_0 : decode b_J_append 0 = .ok (.aload_n 0, 1) := by decide +kernel
theorem d_J_append_1 : decode b_J_append 1 = .ok (.getfield 34, 3) := by decide +kernel
theorem d_J_append_4 : decode b_J_append 4 = .ok (.iconst 2, 1) := by decide +kernel
theorem d_J_append_5 : decode b_J_append 5 = .ok (.if_icmp .eq 13, 3) := by decide +kernel
theorem d_J_append_8 : decode b_J_append 8 = .ok (.new 62, 3) := by decide +kernel
theorem d_J_append_11 : decode b_J_append 11 = .ok (.dup, 1) := by decide +kernel
theorem d_J_append_12 : decode b_J_append 12 = .ok (.ldc 64, 2) := by decide +kernel
theorem d_J_append_14 : decode b_J_append 14 = .ok (.invokespecial 66, 3) := by decide +kernel
theorem d_J_append_17 : decode b_J_append 17 = .ok (.athrow, 1) := by decide +kernel
theorem d_J_append_18 : decode b_J_append 18 = .ok (.aload_n 0, 1) := by decide +kernel
theorem d_J_append_19 : decode b_J_append 19 = .ok (.getfield 30, 3) := by decide +kernel
theorem d_J_append_22 : decode b_J_append 22 = .ok (.ifCond .ne 13, 3) := by decide +kernel
theorem d_J_append_25 : decode b_J_append 25 = .ok (.new 69, 3) := by decide +kernel
theorem d_J_append_28 : decode b_J_append 28 = .ok (.dup, 1) := by decide +kernel
theorem d_J_append_29 : decode b_J_append 29 = .ok (.ldc 71, 2) := by decide +kernel
theorem d_J_append_31 : decode b_J_append 31 = .ok (.invokespecial 73, 3) := by decide +kernel
theorem d_J_append_34 : decode b_J_append 34 = .ok (.athrow, 1) := by decide +kernel
theorem d_J_append_35 : decode b_J_append 35 = .ok (.aload_n 0, 1) := by decide +kernel
theorem d_J_append_36 : decode b_J_append 36 = .ok (.getfield 30, 3) := by decide +kernel
theorem d_J_append_39 : decode b_J_append 39 = .ok (.invokestatic 74, 3) := by decide +kernel
theorem d_J_append_42 : decode b_J_append 42 = .ok (.sipush 15872, 3) := by decide +kernel
theorem d_J_append_45 : decode b_J_append 45 = .ok (.aload_n 0, 1) := by decide +kernel
theorem d_J_append_46 : decode b_J_append 46 = .ok (.getfield 19, 3) := by decide +kernel
theorem d_J_append_49 : decode b_J_append 49 = .ok (.getfield 78, 3) := by decide +kernel
theorem d_J_append_52 : decode b_J_append 52 = .ok (.isub, 1) := by decide +kernel
theorem d_J_append_53 : decode b_J_append 53 = .ok (.if_icmp .le 13, 3) := by decide +kernel
theorem d_J_append_56 : decode b_J_append 56 = .ok (.new 81, 3) := by decide +kernel
theorem d_J_append_59 : decode b_J_append 59 = .ok (.dup, 1) := by decide +kernel
theorem d_J_append_60 : decode b_J_append 60 = .ok (.ldc 83, 2) := by decide +kernel
theorem d_J_append_62 : decode b_J_append 62 = .ok (.invokespecial 85, 3) := by decide +kernel
theorem d_J_append_65 : decode b_J_append 65 = .ok (.athrow, 1) := by decide +kernel
theorem d_J_append_66 : decode b_J_append 66 = .ok (.aload_n 0, 1) := by decide +kernel
theorem d_J_append_67 : decode b_J_append 67 = .ok (.getfield 30, 3) := by decide +kernel
theorem d_J_append_70 : decode b_J_append 70 = .ok (.istore_n 1, 1) := by decide +kernel
theorem d_J_append_71 : decode b_J_append 71 = .ok (.aload_n 0, 1) := by decide +kernel
theorem d_J_append_72 : decode b_J_append 72 = .ok (.getfield 19, 3) := by decide +kernel
theorem d_J_append_75 : decode b_J_append 75 = .ok (.getfield 78, 3) := by decide +kernel
theorem d_J_append_78 : decode b_J_append 78 = .ok (.sipush 512, 3) := by decide +kernel
theorem d_J_append_81 : decode b_J_append 81 = .ok (.idiv, 1) := by decide +kernel
theorem d_J_append_82 : decode b_J_append 82 = .ok (.istore_n 2, 1) := by decide +kernel
theorem d_J_append_83 : decode b_J_append 83 = .ok (.aload_n 0, 1) := by decide +kernel
theorem d_J_append_84 : decode b_J_append 84 = .ok (.getfield 19, 3) := by decide +kernel
theorem d_J_append_87 : decode b_J_append 87 = .ok (.getfield 78, 3) := by decide +kernel
theorem d_J_append_90 : decode b_J_append 90 = .ok (.iload_n 1, 1) := by decide +kernel
theorem d_J_append_91 : decode b_J_append 91 = .ok (.invokestatic 74, 3) := by decide +kernel
theorem d_J_append_94 : decode b_J_append 94 = .ok (.iadd, 1) := by decide +kernel
theorem d_J_append_95 : decode b_J_append 95 = .ok (.invokestatic 86, 3) := by decide +kernel
theorem d_J_append_98 : decode b_J_append 98 = .ok (.istore_n 3, 1) := by decide +kernel
theorem d_J_append_99 : decode b_J_append 99 = .ok (.aload_n 0, 1) := by decide +kernel
theorem d_J_append_100 : decode b_J_append 100 = .ok (.iload_n 2, 1) := by decide +kernel
theorem d_J_append_101 : decode b_J_append 101 = .ok (.iload_n 3, 1) := by decide +kernel
theorem d_J_append_102 : decode b_J_append 102 = .ok (.invokevirtual 89, 3) := by decide +kernel
theorem d_J_append_105 : decode b_J_append 105 = .ok (.aload_n 0, 1) := by decide +kernel
theorem d_J_append_106 : decode b_J_append 106 = .ok (.iconst 0, 1) := by decide +kernel
theorem d_J_append_107 : decode b_J_append 107 = .ok (.putfield 30, 3) := by decide +kernel
theorem d_J_append_110 : decode b_J_append 110 = .ok (.aload_n 0, 1) := by decide +kernel
theorem d_J_append_111 : decode b_J_append 111 = .ok (.iload_n 2, 1) := by decide +kernel
theorem d_J_append_112 : decode b_J_append 112 = .ok (.iload_n 3, 1) := by decide +kernel
theorem d_J_append_113 : decode b_J_append 113 = .ok (.invokevirtual 92, 3) := by decide +kernel
theorem d_J_append_116 : decode b_J_append 116 = .ok (.ifCond .ne 10, 3) := by decide +kernel
theorem d_J_append_119 : decode b_J_append 119 = .ok (.aload_n 0, 1) := by decide +kernel
theorem d_J_append_120 : decode b_J_append 120 = .ok (.iconst 0, 1) := by decide +kernel
theorem d_J_append_121 : decode b_J_append 121 = .ok (.invokevirtual 96, 3) := by decide +kernel
theorem d_J_append_124 : decode b_J_append 124 = .ok (.iconst (-1), 1) := by decide +kernel
theorem d_J_append_125 : decode b_J_append 125 = .ok (.ireturn, 1) := by decide +kernel
theorem d_J_append_126 : decode b_J_append 126 = .ok (.aload_n 0, 1) := by decide +kernel
theorem d_J_append_127 : decode b_J_append 127 = .ok (.getfield 19, 3) := by decide +kernel
theorem d_J_append_130 : decode b_J_append 130 = .ok (.iload_n 1, 1) := by decide +kernel
theorem d_J_append_131 : decode b_J_append 131 = .ok (.invokevirtual 100, 3) := by decide +kernel
theorem d_J_append_134 : decode b_J_append 134 = .ok (.aload_n 0, 1) := by decide +kernel
theorem d_J_append_135 : decode b_J_append 135 = .ok (.getfield 19, 3) := by decide +kernel
theorem d_J_append_138 : decode b_J_append 138 = .ok (.getfield 103, 3) := by decide +kernel
theorem d_J_append_141 : decode b_J_append 141 = .ok (.iconst 1, 1) := by decide +kernel
theorem d_J_append_142 : decode b_J_append 142 = .ok (.isub, 1) := by decide +kernel
theorem d_J_append_143 : decode b_J_append 143 = .ok (.ireturn, 1) := by decide +kernel
theorem d_J_mark_0 : decode b_J_mark 0 = .ok (.aload_n 0, 1) := by decide +kernel
theorem d_J_mark_1 : decode b_J_mark 1 = .ok (.getfield 19, 3) := by decide +kernel
theorem d_J_mark_4 : decode b_J_mark 4 = .ok (.iload_n 1, 1) := by decide +kernel
theorem d_J_mark_5 : decode b_J_mark 5 = .ok (.invokevirtual 106, 3) := by decide +kernel
theorem d_J_mark_8 : decode b_J_mark 8 = .ok (.ifCond .ne 5, 3) := by decide +kernel
theorem d_J_mark_11 : decode b_J_mark 11 = .ok (.iconst 0, 1) := by decide +kernel
theorem d_J_mark_12 : decode b_J_mark 12 = .ok (.ireturn, 1) := by decide +kernel
theorem d_J_mark_13 : decode b_J_mark 13 = .ok (.aload_n 0, 1) := by decide +kernel
theorem d_J_mark_14 : decode b_J_mark 14 = .ok (.getfield 19, 3) := by decide +kernel
theorem d_J_mark_17 : decode b_J_mark 17 = .ok (.iload_n 1, 1) := by decide +kernel
theorem d_J_mark_18 : decode b_J_mark 18 = .ok (.iload_n 2, 1) := by decide +kernel
theorem d_J_mark_19 : decode b_J_mark 19 = .ok (.invokevirtual 110, 3) := by decide +kernel
theorem d_J_mark_22 : decode b_J_mark 22 = .ok (.iconst 1, 1) := by decide +kernel
theorem d_J_mark_23 : decode b_J_mark 23 = .ok (.ireturn, 1) := by decide +kernel
theorem d_J_compact_0 : decode b_J_compact 0 = .ok (.aload_n 0, 1) := by decide +kernel
theorem d_J_compact_1 : decode b_J_compact 1 = .ok (.getfield 34, 3) := by decide +kernel
theorem d_J_compact_4 : decode b_J_compact 4 = .ok (.iconst 2, 1) := by decide +kernel
theorem d_J_compact_5 : decode b_J_compact 5 = .ok (.if_icmp .eq 13, 3) := by decide +kernel
theorem d_J_compact_8 : decode b_J_compact 8 = .ok (.new 62, 3) := by decide +kernel
theorem d_J_compact_11 : decode b_J_compact 11 = .ok (.dup, 1) := by decide +kernel
theorem d_J_compact_12 : decode b_J_compact 12 = .ok (.ldc 64, 2) := by decide +kernel
theorem d_J_compact_14 : decode b_J_compact 14 = .ok (.invokespecial 66, 3) := by decide +kernel
theorem d_J_compact_17 : decode b_J_compact 17 = .ok (.athrow, 1) := by decide +kernel
theorem d_J_compact_18 : decode b_J_compact 18 = .ok (.aload_n 0, 1) := by decide +kernel
theorem d_J_compact_19 : decode b_J_compact 19 = .ok (.getfield 37, 3) := by decide +kernel
theorem d_J_compact_22 : decode b_J_compact 22 = .ok (.ldc 114, 2) := by decide +kernel
theorem d_J_compact_24 : decode b_J_compact 24 = .ok (.if_icmp .ne 13, 3) := by decide +kernel
theorem d_J_compact_27 : decode b_J_compact 27 = .ok (.new 81, 3) := by decide +kernel
theorem d_J_compact_30 : decode b_J_compact 30 = .ok (.dup, 1) := by decide +kernel
theorem d_J_compact_31 : decode b_J_compact 31 = .ok (.ldc 115, 2) := by decide +kernel
theorem d_J_compact_33 : decode b_J_compact 33 = .ok (.invokespecial 85, 3) := by decide +kernel
theorem d_J_compact_36 : decode b_J_compact 36 = .ok (.athrow, 1) := by decide +kernel
theorem d_J_compact_37 : decode b_J_compact 37 = .ok (.aload_n 0, 1) := by decide +kernel
theorem d_J_compact_38 : decode b_J_compact 38 = .ok (.getfield 37, 3) := by decide +kernel
theorem d_J_compact_41 : decode b_J_compact 41 = .ok (.iconst 1, 1) := by decide +kernel
theorem d_J_compact_42 : decode b_J_compact 42 = .ok (.iadd, 1) := by decide +kernel
theorem d_J_compact_43 : decode b_J_compact 43 = .ok (.istore_n 1, 1) := by decide +kernel
theorem d_J_compact_44 : decode b_J_compact 44 = .ok (.iconst 1, 1) := by decide +kernel
theorem d_J_compact_45 : decode b_J_compact 45 = .ok (.aload_n 0, 1) := by decide +kernel
theorem d_J_compact_46 : decode b_J_compact 46 = .ok (.getfield 40, 3) := by decide +kernel
theorem d_J_compact_49 : decode b_J_compact 49 = .ok (.isub, 1) := by decide +kernel
theorem d_J_compact_50 : decode b_J_compact 50 = .ok (.istore_n 2, 1) := by decide +kernel
theorem d_J_compact_51 : decode b_J_compact 51 = .ok (.aload_n 0, 1) := by decide +kernel
theorem d_J_compact_52 : decode b_J_compact 52 = .ok (.invokevirtual 117, 3) := by decide +kernel
theorem d_J_compact_55 : decode b_J_compact 55 = .ok (.invokestatic 86, 3) := by decide +kernel
theorem d_J_compact_58 : decode b_J_compact 58 = .ok (.istore_n 3, 1) := by decide +kernel
theorem d_J_compact_59 : decode b_J_compact 59 = .ok (.aload_n 0, 1) := by decide +kernel
theorem d_J_compact_60 : decode b_J_compact 60 = .ok (.iload_n 2, 1) := by decide +kernel
theorem d_J_compact_61 : decode b_J_compact 61 = .ok (.iload_n 3, 1) := by decide +kernel
theorem d_J_compact_62 : decode b_J_compact 62 = .ok (.invokevirtual 121, 3) := by decide +kernel
theorem d_J_compact_65 : decode b_J_compact 65 = .ok (.ifCond .eq 12, 3) := by decide +kernel
theorem d_J_compact_68 : decode b_J_compact 68 = .ok (.aload_n 0, 1) := by decide +kernel
theorem d_J_compact_69 : decode b_J_compact 69 = .ok (.iload_n 1, 1) := by decide +kernel
theorem d_J_compact_70 : decode b_J_compact 70 = .ok (.iload_n 2, 1) := by decide +kernel
theorem d_J_compact_71 : decode b_J_compact 71 = .ok (.invokevirtual 124, 3) := by decide +kernel
theorem d_J_compact_74 : decode b_J_compact 74 = .ok (.ifCond .ne 10, 3) := by decide +kernel
theorem d_J_compact_77 : decode b_J_compact 77 = .ok (.aload_n 0, 1) := by decide +kernel
theorem d_J_compact_78 : decode b_J_compact 78 = .ok (.iconst 0, 1) := by decide +kernel
theorem d_J_compact_79 : decode b_J_compact 79 = .ok (.invokevirtual 96, 3) := by decide +kernel
theorem d_J_compact_82 : decode b_J_compact 82 = .ok (.iconst (-1), 1) := by decide +kernel
theorem d_J_compact_83 : decode b_J_compact 83 = .ok (.ireturn, 1) := by decide +kernel
theorem d_J_compact_84 : decode b_J_compact 84 = .ok (.aload_n 0, 1) := by decide +kernel
theorem d_J_compact_85 : decode b_J_compact 85 = .ok (.iload_n 1, 1) := by decide +kernel
theorem d_J_compact_86 : decode b_J_compact 86 = .ok (.iload_n 2, 1) := by decide +kernel
theorem d_J_compact_87 : decode b_J_compact 87 = .ok (.invokevirtual 58, 3) := by decide +kernel
theorem d_J_compact_90 : decode b_J_compact 90 = .ok (.aload_n 0, 1) := by decide +kernel
theorem d_J_compact_91 : decode b_J_compact 91 = .ok (.getfield 19, 3) := by decide +kernel
theorem d_J_compact_94 : decode b_J_compact 94 = .ok (.getfield 103, 3) := by decide +kernel
theorem d_J_compact_97 : decode b_J_compact 97 = .ok (.ireturn, 1) := by decide +kernel
theorem d_J_crashIn_0 : decode b_J_crashIn 0 = .ok (.iload_n 1, 1) := by decide +kernel
theorem d_J_crashIn_1 : decode b_J_crashIn 1 = .ok (.sipush 1000, 3) := by decide +kernel
theorem d_J_crashIn_4 : decode b_J_crashIn 4 = .ok (.if_icmp .le 5, 3) := by decide +kernel
theorem d_J_crashIn_7 : decode b_J_crashIn 7 = .ok (.iconst 0, 1) := by decide +kernel
theorem d_J_crashIn_8 : decode b_J_crashIn 8 = .ok (.ireturn, 1) := by decide +kernel
theorem d_J_crashIn_9 : decode b_J_crashIn 9 = .ok (.aload_n 0, 1) := by decide +kernel
theorem d_J_crashIn_10 : decode b_J_crashIn 10 = .ok (.getfield 12, 3) := by decide +kernel
theorem d_J_crashIn_13 : decode b_J_crashIn 13 = .ok (.iload_n 1, 1) := by decide +kernel
theorem d_J_crashIn_14 : decode b_J_crashIn 14 = .ok (.ifCond .ge 7, 3) := by decide +kernel
theorem d_J_crashIn_17 : decode b_J_crashIn 17 = .ok (.iconst (-1), 1) := by decide +kernel
theorem d_J_crashIn_18 : decode b_J_crashIn 18 = .ok (.goto 4, 3) := by decide +kernel
theorem d_J_crashIn_21 : decode b_J_crashIn 21 = .ok (.iload_n 1, 1) := by decide +kernel
theorem d_J_crashIn_22 : decode b_J_crashIn 22 = .ok (.putfield 55, 3) := by decide +kernel
theorem d_J_crashIn_25 : decode b_J_crashIn 25 = .ok (.iconst 1, 1) := by decide +kernel
theorem d_J_crashIn_26 : decode b_J_crashIn 26 = .ok (.ireturn, 1) := by decide +kernel
theorem d_J_crash_0 : decode b_J_crash 0 = .ok (.aload_n 0, 1) := by decide +kernel
theorem d_J_crash_1 : decode b_J_crash 1 = .ok (.iconst 0, 1) := by decide +kernel
theorem d_J_crash_2 : decode b_J_crash 2 = .ok (.invokevirtual 96, 3) := by decide +kernel
theorem d_J_crash_5 : decode b_J_crash 5 = .ok (.return_, 1) := by decide +kernel
theorem d_J_recover_0 : decode b_J_recover 0 = .ok (.aload_n 0, 1) := by decide +kernel
theorem d_J_recover_1 : decode b_J_recover 1 = .ok (.getfield 12, 3) := by decide +kernel
theorem d_J_recover_4 : decode b_J_recover 4 = .ok (.iconst (-1), 1) := by decide +kernel
theorem d_J_recover_5 : decode b_J_recover 5 = .ok (.putfield 55, 3) := by decide +kernel
theorem d_J_recover_8 : decode b_J_recover 8 = .ok (.aload_n 0, 1) := by decide +kernel
theorem d_J_recover_9 : decode b_J_recover 9 = .ok (.iconst 0, 1) := by decide +kernel
theorem d_J_recover_10 : decode b_J_recover 10 = .ok (.invokevirtual 127, 3) := by decide +kernel
theorem d_J_recover_13 : decode b_J_recover 13 = .ok (.istore_n 1, 1) := by decide +kernel
theorem d_J_recover_14 : decode b_J_recover 14 = .ok (.aload_n 0, 1) := by decide +kernel
theorem d_J_recover_15 : decode b_J_recover 15 = .ok (.iconst 1, 1) := by decide +kernel
theorem d_J_recover_16 : decode b_J_recover 16 = .ok (.invokevirtual 127, 3) := by decide +kernel
theorem d_J_recover_19 : decode b_J_recover 19 = .ok (.istore_n 2, 1) := by decide +kernel
theorem d_J_recover_20 : decode b_J_recover 20 = .ok (.iload_n 1, 1) := by decide +kernel
theorem d_J_recover_21 : decode b_J_recover 21 = .ok (.ifCond .ne 14, 3) := by decide +kernel
theorem d_J_recover_24 : decode b_J_recover 24 = .ok (.iload_n 2, 1) := by decide +kernel
theorem d_J_recover_25 : decode b_J_recover 25 = .ok (.ifCond .ne 10, 3) := by decide +kernel
theorem d_J_recover_28 : decode b_J_recover 28 = .ok (.aload_n 0, 1) := by decide +kernel
theorem d_J_recover_29 : decode b_J_recover 29 = .ok (.iconst 1, 1) := by decide +kernel
theorem d_J_recover_30 : decode b_J_recover 30 = .ok (.invokevirtual 96, 3) := by decide +kernel
theorem d_J_recover_33 : decode b_J_recover 33 = .ok (.iconst (-1), 1) := by decide +kernel
theorem d_J_recover_34 : decode b_J_recover 34 = .ok (.ireturn, 1) := by decide +kernel
theorem d_J_recover_35 : decode b_J_recover 35 = .ok (.iload_n 1, 1) := by decide +kernel
theorem d_J_recover_36 : decode b_J_recover 36 = .ok (.iload_n 2, 1) := by decide +kernel
theorem d_J_recover_37 : decode b_J_recover 37 = .ok (.if_icmp .lt 16, 3) := by decide +kernel
theorem d_J_recover_40 : decode b_J_recover 40 = .ok (.aload_n 0, 1) := by decide +kernel
theorem d_J_recover_41 : decode b_J_recover 41 = .ok (.iload_n 1, 1) := by decide +kernel
theorem d_J_recover_42 : decode b_J_recover 42 = .ok (.aload_n 0, 1) := by decide +kernel
theorem d_J_recover_43 : decode b_J_recover 43 = .ok (.iconst 0, 1) := by decide +kernel
theorem d_J_recover_44 : decode b_J_recover 44 = .ok (.invokevirtual 130, 3) := by decide +kernel
theorem d_J_recover_47 : decode b_J_recover 47 = .ok (.invokevirtual 58, 3) := by decide +kernel
theorem d_J_recover_50 : decode b_J_recover 50 = .ok (.goto 13, 3) := by decide +kernel
theorem d_J_recover_53 : decode b_J_recover 53 = .ok (.aload_n 0, 1) := by decide +kernel
theorem d_J_recover_54 : decode b_J_recover 54 = .ok (.iload_n 2, 1) := by decide +kernel
theorem d_J_recover_55 : decode b_J_recover 55 = .ok (.aload_n 0, 1) := by decide +kernel
theorem d_J_recover_56 : decode b_J_recover 56 = .ok (.iconst 1, 1) := by decide +kernel
theorem d_J_recover_57 : decode b_J_recover 57 = .ok (.invokevirtual 130, 3) := by decide +kernel
theorem d_J_recover_60 : decode b_J_recover 60 = .ok (.invokevirtual 58, 3) := by decide +kernel
theorem d_J_recover_63 : decode b_J_recover 63 = .ok (.aload_n 0, 1) := by decide +kernel
theorem d_J_recover_64 : decode b_J_recover 64 = .ok (.getfield 19, 3) := by decide +kernel
theorem d_J_recover_67 : decode b_J_recover 67 = .ok (.getfield 103, 3) := by decide +kernel
theorem d_J_recover_70 : decode b_J_recover 70 = .ok (.ireturn, 1) := by decide +kernel
theorem d_J_spoil_0 : decode b_J_spoil 0 = .ok (.aload_n 0, 1) := by decide +kernel
theorem d_J_spoil_1 : decode b_J_spoil 1 = .ok (.getfield 34, 3) := by decide +kernel
theorem d_J_spoil_4 : decode b_J_spoil 4 = .ok (.iconst 2, 1) := by decide +kernel
theorem d_J_spoil_5 : decode b_J_spoil 5 = .ok (.if_icmp .eq 21, 3) := by decide +kernel
theorem d_J_spoil_8 : decode b_J_spoil 8 = .ok (.iload_n 1, 1) := by decide +kernel
theorem d_J_spoil_9 : decode b_J_spoil 9 = .ok (.invokestatic 133, 3) := by decide +kernel
theorem d_J_spoil_12 : decode b_J_spoil 12 = .ok (.ifCond .eq 14, 3) := by decide +kernel
theorem d_J_spoil_15 : decode b_J_spoil 15 = .ok (.iload_n 2, 1) := by decide +kernel
theorem d_J_spoil_16 : decode b_J_spoil 16 = .ok (.ifCond .lt 10, 3) := by decide +kernel
theorem d_J_spoil_19 : decode b_J_spoil 19 = .ok (.iload_n 2, 1) := by decide +kernel
theorem d_J_spoil_20 : decode b_J_spoil 20 = .ok (.sipush 512, 3) := by decide +kernel
theorem d_J_spoil_23 : decode b_J_spoil 23 = .ok (.if_icmp .lt 5, 3) := by decide +kernel
theorem d_J_spoil_26 : decode b_J_spoil 26 = .ok (.iconst 0, 1) := by decide +kernel
theorem d_J_spoil_27 : decode b_J_spoil 27 = .ok (.ireturn, 1) := by decide +kernel
theorem d_J_spoil_28 : decode b_J_spoil 28 = .ok (.aload_n 0, 1) := by decide +kernel
theorem d_J_spoil_29 : decode b_J_spoil 29 = .ok (.getfield 12, 3) := by decide +kernel
theorem d_J_spoil_32 : decode b_J_spoil 32 = .ok (.getfield 43, 3) := by decide +kernel
theorem d_J_spoil_35 : decode b_J_spoil 35 = .ok (.iload_n 1, 1) := by decide +kernel
theorem d_J_spoil_36 : decode b_J_spoil 36 = .ok (.sipush 512, 3) := by decide +kernel
theorem d_J_spoil_39 : decode b_J_spoil 39 = .ok (.imul, 1) := by decide +kernel
theorem d_J_spoil_40 : decode b_J_spoil 40 = .ok (.iload_n 2, 1) := by decide +kernel
theorem d_J_spoil_41 : decode b_J_spoil 41 = .ok (.iadd, 1) := by decide +kernel
theorem d_J_spoil_42 : decode b_J_spoil 42 = .ok (.iload_n 3, 1) := by decide +kernel
theorem d_J_spoil_43 : decode b_J_spoil 43 = .ok (.i2b, 1) := by decide +kernel
theorem d_J_spoil_44 : decode b_J_spoil 44 = .ok (.bastore, 1) := by decide +kernel
theorem d_J_spoil_45 : decode b_J_spoil 45 = .ok (.iconst 1, 1) := by decide +kernel
theorem d_J_spoil_46 : decode b_J_spoil 46 = .ok (.ireturn, 1) := by decide +kernel
theorem d_J_length_0 : decode b_J_length 0 = .ok (.aload_n 0, 1) := by decide +kernel
theorem d_J_length_1 : decode b_J_length 1 = .ok (.getfield 19, 3) := by decide +kernel
theorem d_J_length_4 : decode b_J_length 4 = .ok (.iload_n 1, 1) := by decide +kernel
theorem d_J_length_5 : decode b_J_length 5 = .ok (.invokevirtual 106, 3) := by decide +kernel
theorem d_J_length_8 : decode b_J_length 8 = .ok (.ifCond .eq 15, 3) := by decide +kernel
theorem d_J_length_11 : decode b_J_length 11 = .ok (.aload_n 0, 1) := by decide +kernel
theorem d_J_length_12 : decode b_J_length 12 = .ok (.getfield 19, 3) := by decide +kernel
theorem d_J_length_15 : decode b_J_length 15 = .ok (.getfield 136, 3) := by decide +kernel
theorem d_J_length_18 : decode b_J_length 18 = .ok (.iload_n 1, 1) := by decide +kernel
theorem d_J_length_19 : decode b_J_length 19 = .ok (.iaload, 1) := by decide +kernel
theorem d_J_length_20 : decode b_J_length 20 = .ok (.goto 4, 3) := by decide +kernel
theorem d_J_length_23 : decode b_J_length 23 = .ok (.iconst (-1), 1) := by decide +kernel
theorem d_J_length_24 : decode b_J_length 24 = .ok (.ireturn, 1) := by decide +kernel
theorem d_J_record_0 : decode b_J_record 0 = .ok (.aload_n 0, 1) := by decide +kernel
theorem d_J_record_1 : decode b_J_record 1 = .ok (.getfield 19, 3) := by decide +kernel
theorem d_J_record_4 : decode b_J_record 4 = .ok (.iload_n 1, 1) := by decide +kernel
theorem d_J_record_5 : decode b_J_record 5 = .ok (.invokevirtual 106, 3) := by decide +kernel
theorem d_J_record_8 : decode b_J_record 8 = .ok (.ifCond .eq 13, 3) := by decide +kernel
theorem d_J_record_11 : decode b_J_record 11 = .ok (.iload_n 2, 1) := by decide +kernel
theorem d_J_record_12 : decode b_J_record 12 = .ok (.ifCond .lt 9, 3) := by decide +kernel
theorem d_J_record_15 : decode b_J_record 15 = .ok (.iload_n 2, 1) := by decide +kernel
theorem d_J_record_16 : decode b_J_record 16 = .ok (.bipush 125, 2) := by decide +kernel
theorem d_J_record_18 : decode b_J_record 18 = .ok (.if_icmp .lt 5, 3) := by decide +kernel
theorem d_J_record_21 : decode b_J_record 21 = .ok (.lconst 0, 1) := by decide +kernel
theorem d_J_record_22 : decode b_J_record 22 = .ok (.lreturn, 1) := by decide +kernel
theorem d_J_record_23 : decode b_J_record 23 = .ok (.aload_n 0, 1) := by decide +kernel
theorem d_J_record_24 : decode b_J_record 24 = .ok (.getfield 40, 3) := by decide +kernel
theorem d_J_record_27 : decode b_J_record 27 = .ok (.invokestatic 140, 3) := by decide +kernel
theorem d_J_record_30 : decode b_J_record 30 = .ok (.aload_n 0, 1) := by decide +kernel
theorem d_J_record_31 : decode b_J_record 31 = .ok (.getfield 19, 3) := by decide +kernel
theorem d_J_record_34 : decode b_J_record 34 = .ok (.getfield 143, 3) := by decide +kernel
theorem d_J_record_37 : decode b_J_record 37 = .ok (.iload_n 1, 1) := by decide +kernel
theorem d_J_record_38 : decode b_J_record 38 = .ok (.iaload, 1) := by decide +kernel
theorem d_J_record_39 : decode b_J_record 39 = .ok (.iadd, 1) := by decide +kernel
theorem d_J_record_40 : decode b_J_record 40 = .ok (.iconst 2, 1) := by decide +kernel
theorem d_J_record_41 : decode b_J_record 41 = .ok (.iadd, 1) := by decide +kernel
theorem d_J_record_42 : decode b_J_record 42 = .ok (.istore_n 3, 1) := by decide +kernel
theorem d_J_record_43 : decode b_J_record 43 = .ok (.aload_n 0, 1) := by decide +kernel
theorem d_J_record_44 : decode b_J_record 44 = .ok (.getfield 12, 3) := by decide +kernel
theorem d_J_record_47 : decode b_J_record 47 = .ok (.getfield 43, 3) := by decide +kernel
theorem d_J_record_50 : decode b_J_record 50 = .ok (.iload_n 3, 1) := by decide +kernel
theorem d_J_record_51 : decode b_J_record 51 = .ok (.bipush 8, 2) := by decide +kernel
theorem d_J_record_53 : decode b_J_record 53 = .ok (.iload_n 2, 1) := by decide +kernel
theorem d_J_record_54 : decode b_J_record 54 = .ok (.imul, 1) := by decide +kernel
theorem d_J_record_55 : decode b_J_record 55 = .ok (.iadd, 1) := by decide +kernel
theorem d_J_record_56 : decode b_J_record 56 = .ok (.iload_n 3, 1) := by decide +kernel
theorem d_J_record_57 : decode b_J_record 57 = .ok (.aload_n 0, 1) := by decide +kernel
theorem d_J_record_58 : decode b_J_record 58 = .ok (.getfield 19, 3) := by decide +kernel
theorem d_J_record_61 : decode b_J_record 61 = .ok (.getfield 136, 3) := by decide +kernel
theorem d_J_record_64 : decode b_J_record 64 = .ok (.iload_n 1, 1) := by decide +kernel
theorem d_J_record_65 : decode b_J_record 65 = .ok (.iaload, 1) := by decide +kernel
theorem d_J_record_66 : decode b_J_record 66 = .ok (.iadd, 1) := by decide +kernel
theorem d_J_record_67 : decode b_J_record 67 = .ok (.invokestatic 146, 3) := by decide +kernel
theorem d_J_record_70 : decode b_J_record 70 = .ok (.lreturn, 1) := by decide +kernel
theorem d_J_block_0 : decode b_J_block 0 = .ok (.iload_n 1, 1) := by decide +kernel
theorem d_J_block_1 : decode b_J_block 1 = .ok (.invokestatic 133, 3) := by decide +kernel
theorem d_J_block_4 : decode b_J_block 4 = .ok (.ifCond .eq 13, 3) := by decide +kernel
theorem d_J_block_7 : decode b_J_block 7 = .ok (.iload_n 2, 1) := by decide +kernel
theorem d_J_block_8 : decode b_J_block 8 = .ok (.ifCond .lt 9, 3) := by decide +kernel
theorem d_J_block_11 : decode b_J_block 11 = .ok (.iload_n 2, 1) := by decide +kernel
theorem d_J_block_12 : decode b_J_block 12 = .ok (.bipush 64, 2) := by decide +kernel
theorem d_J_block_14 : decode b_J_block 14 = .ok (.if_icmp .lt 5, 3) := by decide +kernel
theorem d_J_block_17 : decode b_J_block 17 = .ok (.lconst 0, 1) := by decide +kernel
theorem d_J_block_18 : decode b_J_block 18 = .ok (.lreturn, 1) := by decide +kernel
theorem d_J_block_19 : decode b_J_block 19 = .ok (.aload_n 0, 1) := by decide +kernel
theorem d_J_block_20 : decode b_J_block 20 = .ok (.getfield 12, 3) := by decide +kernel
theorem d_J_block_23 : decode b_J_block 23 = .ok (.getfield 43, 3) := by decide +kernel
theorem d_J_block_26 : decode b_J_block 26 = .ok (.iload_n 1, 1) := by decide +kernel
theorem d_J_block_27 : decode b_J_block 27 = .ok (.sipush 512, 3) := by decide +kernel
theorem d_J_block_30 : decode b_J_block 30 = .ok (.imul, 1) := by decide +kernel
theorem d_J_block_31 : decode b_J_block 31 = .ok (.bipush 8, 2) := by decide +kernel
theorem d_J_block_33 : decode b_J_block 33 = .ok (.iload_n 2, 1) := by decide +kernel
theorem d_J_block_34 : decode b_J_block 34 = .ok (.imul, 1) := by decide +kernel
theorem d_J_block_35 : decode b_J_block 35 = .ok (.iadd, 1) := by decide +kernel
theorem d_J_block_36 : decode b_J_block 36 = .ok (.ldc 46, 2) := by decide +kernel
theorem d_J_block_38 : decode b_J_block 38 = .ok (.invokestatic 146, 3) := by decide +kernel
theorem d_J_block_41 : decode b_J_block 41 = .ok (.lreturn, 1) := by decide +kernel
theorem d_J_look_0 : decode b_J_look 0 = .ok (.iload_n 1, 1) := by decide +kernel
theorem d_J_look_1 : decode b_J_look 1 = .ok (.tableswitch 111 0 8 #[51, 59, 67, 72, 77, 82, 90, 95, 103], 51) := by decide +kernel
theorem d_J_look_52 : decode b_J_look 52 = .ok (.aload_n 0, 1) := by decide +kernel
theorem d_J_look_53 : decode b_J_look 53 = .ok (.getfield 19, 3) := by decide +kernel
theorem d_J_look_56 : decode b_J_look 56 = .ok (.getfield 103, 3) := by decide +kernel
theorem d_J_look_59 : decode b_J_look 59 = .ok (.ireturn, 1) := by decide +kernel
theorem d_J_look_60 : decode b_J_look 60 = .ok (.aload_n 0, 1) := by decide +kernel
theorem d_J_look_61 : decode b_J_look 61 = .ok (.getfield 19, 3) := by decide +kernel
theorem d_J_look_64 : decode b_J_look 64 = .ok (.getfield 78, 3) := by decide +kernel
theorem d_J_look_67 : decode b_J_look 67 = .ok (.ireturn, 1) := by decide +kernel
theorem d_J_look_68 : decode b_J_look 68 = .ok (.aload_n 0, 1) := by decide +kernel
theorem d_J_look_69 : decode b_J_look 69 = .ok (.getfield 37, 3) := by decide +kernel
theorem d_J_look_72 : decode b_J_look 72 = .ok (.ireturn, 1) := by decide +kernel
theorem d_J_look_73 : decode b_J_look 73 = .ok (.aload_n 0, 1) := by decide +kernel
theorem d_J_look_74 : decode b_J_look 74 = .ok (.getfield 40, 3) := by decide +kernel
theorem d_J_look_77 : decode b_J_look 77 = .ok (.ireturn, 1) := by decide +kernel
theorem d_J_look_78 : decode b_J_look 78 = .ok (.aload_n 0, 1) := by decide +kernel
theorem d_J_look_79 : decode b_J_look 79 = .ok (.getfield 34, 3) := by decide +kernel
theorem d_J_look_82 : decode b_J_look 82 = .ok (.ireturn, 1) := by decide +kernel
theorem d_J_look_83 : decode b_J_look 83 = .ok (.aload_n 0, 1) := by decide +kernel
theorem d_J_look_84 : decode b_J_look 84 = .ok (.getfield 12, 3) := by decide +kernel
theorem d_J_look_87 : decode b_J_look 87 = .ok (.getfield 150, 3) := by decide +kernel
theorem d_J_look_90 : decode b_J_look 90 = .ok (.ireturn, 1) := by decide +kernel
theorem d_J_look_91 : decode b_J_look 91 = .ok (.aload_n 0, 1) := by decide +kernel
theorem d_J_look_92 : decode b_J_look 92 = .ok (.getfield 30, 3) := by decide +kernel
theorem d_J_look_95 : decode b_J_look 95 = .ok (.ireturn, 1) := by decide +kernel
theorem d_J_look_96 : decode b_J_look 96 = .ok (.aload_n 0, 1) := by decide +kernel
theorem d_J_look_97 : decode b_J_look 97 = .ok (.getfield 12, 3) := by decide +kernel
theorem d_J_look_100 : decode b_J_look 100 = .ok (.getfield 55, 3) := by decide +kernel
theorem d_J_look_103 : decode b_J_look 103 = .ok (.ireturn, 1) := by decide +kernel
theorem d_J_look_104 : decode b_J_look 104 = .ok (.aload_n 0, 1) := by decide +kernel
theorem d_J_look_105 : decode b_J_look 105 = .ok (.getfield 19, 3) := by decide +kernel
theorem d_J_look_108 : decode b_J_look 108 = .ok (.getfield 153, 3) := by decide +kernel
theorem d_J_look_111 : decode b_J_look 111 = .ok (.ireturn, 1) := by decide +kernel
theorem d_J_look_112 : decode b_J_look 112 = .ok (.iconst (-1), 1) := by decide +kernel
theorem d_J_look_113 : decode b_J_look 113 = .ok (.ireturn, 1) := by decide +kernel
theorem d_J_leave_0 : decode b_J_leave 0 = .ok (.aload_n 0, 1) := by decide +kernel
theorem d_J_leave_1 : decode b_J_leave 1 = .ok (.iload_n 1, 1) := by decide +kernel
theorem d_J_leave_2 : decode b_J_leave 2 = .ok (.putfield 34, 3) := by decide +kernel
theorem d_J_leave_5 : decode b_J_leave 5 = .ok (.aload_n 0, 1) := by decide +kernel
theorem d_J_leave_6 : decode b_J_leave 6 = .ok (.iconst 0, 1) := by decide +kernel
theorem d_J_leave_7 : decode b_J_leave 7 = .ok (.putfield 37, 3) := by decide +kernel
theorem d_J_leave_10 : decode b_J_leave 10 = .ok (.aload_n 0, 1) := by decide +kernel
theorem d_J_leave_11 : decode b_J_leave 11 = .ok (.iconst 0, 1) := by decide +kernel
theorem d_J_leave_12 : decode b_J_leave 12 = .ok (.putfield 40, 3) := by decide +kernel
theorem d_J_leave_15 : decode b_J_leave 15 = .ok (.aload_n 0, 1) := by decide +kernel
theorem d_J_leave_16 : decode b_J_leave 16 = .ok (.getfield 19, 3) := by decide +kernel
theorem d_J_leave_19 : decode b_J_leave 19 = .ok (.invokevirtual 156, 3) := by decide +kernel
theorem d_J_leave_22 : decode b_J_leave 22 = .ok (.return_, 1) := by decide +kernel
theorem d_J_goUp_0 : decode b_J_goUp 0 = .ok (.aload_n 0, 1) := by decide +kernel
theorem d_J_goUp_1 : decode b_J_goUp 1 = .ok (.iconst 2, 1) := by decide +kernel
theorem d_J_goUp_2 : decode b_J_goUp 2 = .ok (.putfield 34, 3) := by decide +kernel
theorem d_J_goUp_5 : decode b_J_goUp 5 = .ok (.aload_n 0, 1) := by decide +kernel
theorem d_J_goUp_6 : decode b_J_goUp 6 = .ok (.iload_n 1, 1) := by decide +kernel
theorem d_J_goUp_7 : decode b_J_goUp 7 = .ok (.putfield 37, 3) := by decide +kernel
theorem d_J_goUp_10 : decode b_J_goUp 10 = .ok (.aload_n 0, 1) := by decide +kernel
theorem d_J_goUp_11 : decode b_J_goUp 11 = .ok (.iload_n 2, 1) := by decide +kernel
theorem d_J_goUp_12 : decode b_J_goUp 12 = .ok (.putfield 40, 3) := by decide +kernel
theorem d_J_goUp_15 : decode b_J_goUp 15 = .ok (.aload_n 0, 1) := by decide +kernel
theorem d_J_goUp_16 : decode b_J_goUp 16 = .ok (.invokevirtual 159, 3) := by decide +kernel
theorem d_J_goUp_19 : decode b_J_goUp 19 = .ok (.return_, 1) := by decide +kernel
theorem d_J_readRecords_0 : decode b_J_readRecords 0 = .ok (.aload_n 0, 1) := by decide +kernel
theorem d_J_readRecords_1 : decode b_J_readRecords 1 = .ok (.getfield 19, 3) := by decide +kernel
theorem d_J_readRecords_4 : decode b_J_readRecords 4 = .ok (.invokevirtual 156, 3) := by decide +kernel
theorem d_J_readRecords_7 : decode b_J_readRecords 7 = .ok (.iconst 0, 1) := by decide +kernel
theorem d_J_readRecords_8 : decode b_J_readRecords 8 = .ok (.istore_n 1, 1) := by decide +kernel
theorem d_J_readRecords_9 : decode b_J_readRecords 9 = .ok (.iload_n 1, 1) := by decide +kernel
theorem d_J_readRecords_10 : decode b_J_readRecords 10 = .ok (.sipush 1984, 3) := by decide +kernel
theorem d_J_readRecords_13 : decode b_J_readRecords 13 = .ok (.if_icmp .ge 36, 3) := by decide +kernel
theorem d_J_readRecords_16 : decode b_J_readRecords 16 = .ok (.aload_n 0, 1) := by decide +kernel
theorem d_J_readRecords_17 : decode b_J_readRecords 17 = .ok (.aload_n 0, 1) := by decide +kernel
theorem d_J_readRecords_18 : decode b_J_readRecords 18 = .ok (.getfield 19, 3) := by decide +kernel
theorem d_J_readRecords_21 : decode b_J_readRecords 21 = .ok (.getfield 78, 3) := by decide +kernel
theorem d_J_readRecords_24 : decode b_J_readRecords 24 = .ok (.invokevirtual 162, 3) := by decide +kernel
theorem d_J_readRecords_27 : decode b_J_readRecords 27 = .ok (.istore_n 2, 1) := by decide +kernel
theorem d_J_readRecords_28 : decode b_J_readRecords 28 = .ok (.iload_n 2, 1) := by decide +kernel
theorem d_J_readRecords_29 : decode b_J_readRecords 29 = .ok (.ifCond .ne 6, 3) := by decide +kernel
theorem d_J_readRecords_32 : decode b_J_readRecords 32 = .ok (.goto 17, 3) := by decide +kernel
theorem d_J_readRecords_35 : decode b_J_readRecords 35 = .ok (.aload_n 0, 1) := by decide +kernel
theorem d_J_readRecords_36 : decode b_J_readRecords 36 = .ok (.getfield 19, 3) := by decide +kernel
theorem d_J_readRecords_39 : decode b_J_readRecords 39 = .ok (.iload_n 2, 1) := by decide +kernel
theorem d_J_readRecords_40 : decode b_J_readRecords 40 = .ok (.invokevirtual 100, 3) := by decide +kernel
theorem d_J_readRecords_43 : decode b_J_readRecords 43 = .ok (.iinc 1 1, 3) := by decide +kernel
theorem d_J_readRecords_46 : decode b_J_readRecords 46 = .ok (.goto (-37), 3) := by decide +kernel
theorem d_J_readRecords_49 : decode b_J_readRecords 49 = .ok (.return_, 1) := by decide +kernel
theorem d_J_lengthOfRecordAt_0 : decode b_J_lengthOfRecordAt 0 = .ok (.iload_n 1, 1) := by decide +kernel
theorem d_J_lengthOfRecordAt_1 : decode b_J_lengthOfRecordAt 1 = .ok (.sipush 15870, 3) := by decide +kernel
theorem d_J_lengthOfRecordAt_4 : decode b_J_lengthOfRecordAt 4 = .ok (.if_icmp .le 5, 3) := by decide +kernel
theorem d_J_lengthOfRecordAt_7 : decode b_J_lengthOfRecordAt 7 = .ok (.iconst 0, 1) := by decide +kernel
theorem d_J_lengthOfRecordAt_8 : decode b_J_lengthOfRecordAt 8 = .ok (.ireturn, 1) := by decide +kernel
theorem d_J_lengthOfRecordAt_9 : decode b_J_lengthOfRecordAt 9 = .ok (.aload_n 0, 1) := by decide +kernel
theorem d_J_lengthOfRecordAt_10 : decode b_J_lengthOfRecordAt 10 = .ok (.getfield 40, 3) := by decide +kernel
theorem d_J_lengthOfRecordAt_13 : decode b_J_lengthOfRecordAt 13 = .ok (.invokestatic 140, 3) := by decide +kernel
theorem d_J_lengthOfRecordAt_16 : decode b_J_lengthOfRecordAt 16 = .ok (.iload_n 1, 1) := by decide +kernel
theorem d_J_lengthOfRecordAt_17 : decode b_J_lengthOfRecordAt 17 = .ok (.iadd, 1) := by decide +kernel
theorem d_J_lengthOfRecordAt_18 : decode b_J_lengthOfRecordAt 18 = .ok (.istore_n 2, 1) := by decide +kernel
theorem d_J_lengthOfRecordAt_19 : decode b_J_lengthOfRecordAt 19 = .ok (.aload_n 0, 1) := by decide +kernel
theorem d_J_lengthOfRecordAt_20 : decode b_J_lengthOfRecordAt 20 = .ok (.getfield 12, 3) := by decide +kernel
theorem d_J_lengthOfRecordAt_23 : decode b_J_lengthOfRecordAt 23 = .ok (.getfield 43, 3) := by decide +kernel
theorem d_J_lengthOfRecordAt_26 : decode b_J_lengthOfRecordAt 26 = .ok (.iload_n 2, 1) := by decide +kernel
theorem d_J_lengthOfRecordAt_27 : decode b_J_lengthOfRecordAt 27 = .ok (.iconst 2, 1) := by decide +kernel
theorem d_J_lengthOfRecordAt_28 : decode b_J_lengthOfRecordAt 28 = .ok (.invokestatic 165, 3) := by decide +kernel
theorem d_J_lengthOfRecordAt_31 : decode b_J_lengthOfRecordAt 31 = .ok (.istore_n 3, 1) := by decide +kernel
theorem d_J_lengthOfRecordAt_32 : decode b_J_lengthOfRecordAt 32 = .ok (.iload_n 3, 1) := by decide +kernel
theorem d_J_lengthOfRecordAt_33 : decode b_J_lengthOfRecordAt 33 = .ok (.iconst 1, 1) := by decide +kernel
theorem d_J_lengthOfRecordAt_34 : decode b_J_lengthOfRecordAt 34 = .ok (.if_icmp .lt 22, 3) := by decide +kernel
theorem d_J_lengthOfRecordAt_37 : decode b_J_lengthOfRecordAt 37 = .ok (.iload_n 3, 1) := by decide +kernel
theorem d_J_lengthOfRecordAt_38 : decode b_J_lengthOfRecordAt 38 = .ok (.sipush 1000, 3) := by decide +kernel
theorem d_J_lengthOfRecordAt_41 : decode b_J_lengthOfRecordAt 41 = .ok (.if_icmp .gt 15, 3) := by decide +kernel
theorem d_J_lengthOfRecordAt_44 : decode b_J_lengthOfRecordAt 44 = .ok (.iload_n 3, 1) := by decide +kernel
theorem d_J_lengthOfRecordAt_45 : decode b_J_lengthOfRecordAt 45 = .ok (.invokestatic 74, 3) := by decide +kernel
theorem d_J_lengthOfRecordAt_48 : decode b_J_lengthOfRecordAt 48 = .ok (.sipush 15872, 3) := by decide +kernel
theorem d_J_lengthOfRecordAt_51 : decode b_J_lengthOfRecordAt 51 = .ok (.iload_n 1, 1) := by decide +kernel
theorem d_J_lengthOfRecordAt_52 : decode b_J_lengthOfRecordAt 52 = .ok (.isub, 1) := by decide +kernel
theorem d_J_lengthOfRecordAt_53 : decode b_J_lengthOfRecordAt 53 = .ok (.if_icmp .le 5, 3) := by decide +kernel
theorem d_J_lengthOfRecordAt_56 : decode b_J_lengthOfRecordAt 56 = .ok (.iconst 0, 1) := by decide +kernel
theorem d_J_lengthOfRecordAt_57 : decode b_J_lengthOfRecordAt 57 = .ok (.ireturn, 1) := by decide +kernel
theorem d_J_lengthOfRecordAt_58 : decode b_J_lengthOfRecordAt 58 = .ok (.iconst 2, 1) := by decide +kernel
theorem d_J_lengthOfRecordAt_59 : decode b_J_lengthOfRecordAt 59 = .ok (.iload_n 3, 1) := by decide +kernel
theorem d_J_lengthOfRecordAt_60 : decode b_J_lengthOfRecordAt 60 = .ok (.iadd, 1) := by decide +kernel
theorem d_J_lengthOfRecordAt_61 : decode b_J_lengthOfRecordAt 61 = .ok (.istore 4, 2) := by decide +kernel
theorem d_J_lengthOfRecordAt_63 : decode b_J_lengthOfRecordAt 63 = .ok (.aload_n 0, 1) := by decide +kernel
theorem d_J_lengthOfRecordAt_64 : decode b_J_lengthOfRecordAt 64 = .ok (.getfield 12, 3) := by decide +kernel
theorem d_J_lengthOfRecordAt_67 : decode b_J_lengthOfRecordAt 67 = .ok (.getfield 43, 3) := by decide +kernel
theorem d_J_lengthOfRecordAt_70 : decode b_J_lengthOfRecordAt 70 = .ok (.iload_n 2, 1) := by decide +kernel
theorem d_J_lengthOfRecordAt_71 : decode b_J_lengthOfRecordAt 71 = .ok (.iload 4, 2) := by decide +kernel
theorem d_J_lengthOfRecordAt_73 : decode b_J_lengthOfRecordAt 73 = .ok (.iadd, 1) := by decide +kernel
theorem d_J_lengthOfRecordAt_74 : decode b_J_lengthOfRecordAt 74 = .ok (.iconst 4, 1) := by decide +kernel
theorem d_J_lengthOfRecordAt_75 : decode b_J_lengthOfRecordAt 75 = .ok (.invokestatic 165, 3) := by decide +kernel
theorem d_J_lengthOfRecordAt_78 : decode b_J_lengthOfRecordAt 78 = .ok (.aload_n 0, 1) := by decide +kernel
theorem d_J_lengthOfRecordAt_79 : decode b_J_lengthOfRecordAt 79 = .ok (.getfield 12, 3) := by decide +kernel
theorem d_J_lengthOfRecordAt_82 : decode b_J_lengthOfRecordAt 82 = .ok (.getfield 43, 3) := by decide +kernel
theorem d_J_lengthOfRecordAt_85 : decode b_J_lengthOfRecordAt 85 = .ok (.iload_n 2, 1) := by decide +kernel
theorem d_J_lengthOfRecordAt_86 : decode b_J_lengthOfRecordAt 86 = .ok (.iload 4, 2) := by decide +kernel
theorem d_J_lengthOfRecordAt_88 : decode b_J_lengthOfRecordAt 88 = .ok (.invokestatic 169, 3) := by decide +kernel
theorem d_J_lengthOfRecordAt_91 : decode b_J_lengthOfRecordAt 91 = .ok (.if_icmp .ne 7, 3) := by decide +kernel
theorem d_J_lengthOfRecordAt_94 : decode b_J_lengthOfRecordAt 94 = .ok (.iconst 1, 1) := by decide +kernel
theorem d_J_lengthOfRecordAt_95 : decode b_J_lengthOfRecordAt 95 = .ok (.goto 4, 3) := by decide +kernel
theorem d_J_lengthOfRecordAt_98 : decode b_J_lengthOfRecordAt 98 = .ok (.iconst 0, 1) := by decide +kernel
theorem d_J_lengthOfRecordAt_99 : decode b_J_lengthOfRecordAt 99 = .ok (.istore 5, 2) := by decide +kernel
theorem d_J_lengthOfRecordAt_101 : decode b_J_lengthOfRecordAt 101 = .ok (.iload 5, 2) := by decide +kernel
theorem d_J_lengthOfRecordAt_103 : decode b_J_lengthOfRecordAt 103 = .ok (.ifCond .eq 7, 3) := by decide +kernel
theorem d_J_lengthOfRecordAt_106 : decode b_J_lengthOfRecordAt 106 = .ok (.iload_n 3, 1) := by decide +kernel
theorem d_J_lengthOfRecordAt_107 : decode b_J_lengthOfRecordAt 107 = .ok (.goto 4, 3) := by decide +kernel
theorem d_J_lengthOfRecordAt_110 : decode b_J_lengthOfRecordAt 110 = .ok (.iconst 0, 1) := by decide +kernel
theorem d_J_lengthOfRecordAt_111 : decode b_J_lengthOfRecordAt 111 = .ok (.ireturn, 1) := by decide +kernel
theorem d_J_generationOfHead_0 : decode b_J_generationOfHead 0 = .ok (.iload_n 1, 1) := by decide +kernel
theorem d_J_generationOfHead_1 : decode b_J_generationOfHead 1 = .ok (.sipush 512, 3) := by decide +kernel
theorem d_J_generationOfHead_4 : decode b_J_generationOfHead 4 = .ok (.imul, 1) := by decide +kernel
theorem d_J_generationOfHead_5 : decode b_J_generationOfHead 5 = .ok (.istore_n 2, 1) := by decide +kernel
theorem d_J_generationOfHead_6 : decode b_J_generationOfHead 6 = .ok (.aload_n 0, 1) := by decide +kernel
theorem d_J_generationOfHead_7 : decode b_J_generationOfHead 7 = .ok (.getfield 12, 3) := by decide +kernel
theorem d_J_generationOfHead_10 : decode b_J_generationOfHead 10 = .ok (.getfield 43, 3) := by decide +kernel
theorem d_J_generationOfHead_13 : decode b_J_generationOfHead 13 = .ok (.iload_n 2, 1) := by decide +kernel
theorem d_J_generationOfHead_14 : decode b_J_generationOfHead 14 = .ok (.iconst 4, 1) := by decide +kernel
theorem d_J_generationOfHead_15 : decode b_J_generationOfHead 15 = .ok (.invokestatic 165, 3) := by decide +kernel
theorem d_J_generationOfHead_18 : decode b_J_generationOfHead 18 = .ok (.istore_n 3, 1) := by decide +kernel
theorem d_J_generationOfHead_19 : decode b_J_generationOfHead 19 = .ok (.iload_n 3, 1) := by decide +kernel
theorem d_J_generationOfHead_20 : decode b_J_generationOfHead 20 = .ok (.iconst 0, 1) := by decide +kernel
theorem d_J_generationOfHead_21 : decode b_J_generationOfHead 21 = .ok (.invokestatic 172, 3) := by decide +kernel
theorem d_J_generationOfHead_24 : decode b_J_generationOfHead 24 = .ok (.if_icmp .eq 13, 3) := by decide +kernel
theorem d_J_generationOfHead_27 : decode b_J_generationOfHead 27 = .ok (.iload_n 3, 1) := by decide +kernel
theorem d_J_generationOfHead_28 : decode b_J_generationOfHead 28 = .ok (.iconst 1, 1) := by decide +kernel
theorem d_J_generationOfHead_29 : decode b_J_generationOfHead 29 = .ok (.invokestatic 172, 3) := by decide +kernel
theorem d_J_generationOfHead_32 : decode b_J_generationOfHead 32 = .ok (.if_icmp .eq 5, 3) := by decide +kernel
theorem d_J_generationOfHead_35 : decode b_J_generationOfHead 35 = .ok (.iconst 0, 1) := by decide +kernel
theorem d_J_generationOfHead_36 : decode b_J_generationOfHead 36 = .ok (.ireturn, 1) := by decide +kernel
theorem d_J_generationOfHead_37 : decode b_J_generationOfHead 37 = .ok (.aload_n 0, 1) := by decide +kernel
theorem d_J_generationOfHead_38 : decode b_J_generationOfHead 38 = .ok (.getfield 12, 3) := by decide +kernel
theorem d_J_generationOfHead_41 : decode b_J_generationOfHead 41 = .ok (.getfield 43, 3) := by decide +kernel
theorem d_J_generationOfHead_44 : decode b_J_generationOfHead 44 = .ok (.iload_n 2, 1) := by decide +kernel
theorem d_J_generationOfHead_45 : decode b_J_generationOfHead 45 = .ok (.bipush 8, 2) := by decide +kernel
theorem d_J_generationOfHead_47 : decode b_J_generationOfHead 47 = .ok (.iadd, 1) := by decide +kernel
theorem d_J_generationOfHead_48 : decode b_J_generationOfHead 48 = .ok (.iconst 4, 1) := by decide +kernel
theorem d_J_generationOfHead_49 : decode b_J_generationOfHead 49 = .ok (.invokestatic 165, 3) := by decide +kernel
theorem d_J_generationOfHead_52 : decode b_J_generationOfHead 52 = .ok (.aload_n 0, 1) := by decide +kernel
theorem d_J_generationOfHead_53 : decode b_J_generationOfHead 53 = .ok (.getfield 12, 3) := by decide +kernel
theorem d_J_generationOfHead_56 : decode b_J_generationOfHead 56 = .ok (.getfield 43, 3) := by decide +kernel
theorem d_J_generationOfHead_59 : decode b_J_generationOfHead 59 = .ok (.iload_n 2, 1) := by decide +kernel
theorem d_J_generationOfHead_60 : decode b_J_generationOfHead 60 = .ok (.bipush 8, 2) := by decide +kernel
theorem d_J_generationOfHead_62 : decode b_J_generationOfHead 62 = .ok (.invokestatic 169, 3) := by decide +kernel
theorem d_J_generationOfHead_65 : decode b_J_generationOfHead 65 = .ok (.if_icmp .eq 5, 3) := by decide +kernel
theorem d_J_generationOfHead_68 : decode b_J_generationOfHead 68 = .ok (.iconst 0, 1) := by decide +kernel
theorem d_J_generationOfHead_69 : decode b_J_generationOfHead 69 = .ok (.ireturn, 1) := by decide +kernel
theorem d_J_generationOfHead_70 : decode b_J_generationOfHead 70 = .ok (.aload_n 0, 1) := by decide +kernel
theorem d_J_generationOfHead_71 : decode b_J_generationOfHead 71 = .ok (.getfield 12, 3) := by decide +kernel
theorem d_J_generationOfHead_74 : decode b_J_generationOfHead 74 = .ok (.getfield 43, 3) := by decide +kernel
theorem d_J_generationOfHead_77 : decode b_J_generationOfHead 77 = .ok (.iload_n 2, 1) := by decide +kernel
theorem d_J_generationOfHead_78 : decode b_J_generationOfHead 78 = .ok (.iconst 4, 1) := by decide +kernel
theorem d_J_generationOfHead_79 : decode b_J_generationOfHead 79 = .ok (.iadd, 1) := by decide +kernel
theorem d_J_generationOfHead_80 : decode b_J_generationOfHead 80 = .ok (.iconst 4, 1) := by decide +kernel
theorem d_J_generationOfHead_81 : decode b_J_generationOfHead 81 = .ok (.invokestatic 165, 3) := by decide +kernel
theorem d_J_generationOfHead_84 : decode b_J_generationOfHead 84 = .ok (.iconst 0, 1) := by decide +kernel
theorem d_J_generationOfHead_85 : decode b_J_generationOfHead 85 = .ok (.invokestatic 175, 3) := by decide +kernel
theorem d_J_generationOfHead_88 : decode b_J_generationOfHead 88 = .ok (.ireturn, 1) := by decide +kernel
theorem d_J_halfOfHead_0 : decode b_J_halfOfHead 0 = .ok (.aload_n 0, 1) := by decide +kernel
theorem d_J_halfOfHead_1 : decode b_J_halfOfHead 1 = .ok (.getfield 12, 3) := by decide +kernel
theorem d_J_halfOfHead_4 : decode b_J_halfOfHead 4 = .ok (.getfield 43, 3) := by decide +kernel
theorem d_J_halfOfHead_7 : decode b_J_halfOfHead 7 = .ok (.iload_n 1, 1) := by decide +kernel
theorem d_J_halfOfHead_8 : decode b_J_halfOfHead 8 = .ok (.sipush 512, 3) := by decide +kernel
theorem d_J_halfOfHead_11 : decode b_J_halfOfHead 11 = .ok (.imul, 1) := by decide +kernel
theorem d_J_halfOfHead_12 : decode b_J_halfOfHead 12 = .ok (.iconst 2, 1) := by decide +kernel
theorem d_J_halfOfHead_13 : decode b_J_halfOfHead 13 = .ok (.iadd, 1) := by decide +kernel
theorem d_J_halfOfHead_14 : decode b_J_halfOfHead 14 = .ok (.iconst 1, 1) := by decide +kernel
theorem d_J_halfOfHead_15 : decode b_J_halfOfHead 15 = .ok (.invokestatic 165, 3) := by decide +kernel
theorem d_J_halfOfHead_18 : decode b_J_halfOfHead 18 = .ok (.ireturn, 1) := by decide +kernel
theorem d_J_planTape_0 : decode b_J_planTape 0 = .ok (.iload_n 1, 1) := by decide +kernel
theorem d_J_planTape_1 : decode b_J_planTape 1 = .ok (.sipush 512, 3) := by decide +kernel
theorem d_J_planTape_4 : decode b_J_planTape 4 = .ok (.imul, 1) := by decide +kernel
theorem d_J_planTape_5 : decode b_J_planTape 5 = .ok (.istore_n 3, 1) := by decide +kernel
theorem d_J_planTape_6 : decode b_J_planTape 6 = .ok (.aload_n 0, 1) := by decide +kernel
theorem d_J_planTape_7 : decode b_J_planTape 7 = .ok (.getfield 19, 3) := by decide +kernel
theorem d_J_planTape_10 : decode b_J_planTape 10 = .ok (.getfield 78, 3) := by decide +kernel
theorem d_J_planTape_13 : decode b_J_planTape 13 = .ok (.istore 4, 2) := by decide +kernel
theorem d_J_planTape_15 : decode b_J_planTape 15 = .ok (.aload_n 0, 1) := by decide +kernel
theorem d_J_planTape_16 : decode b_J_planTape 16 = .ok (.getfield 12, 3) := by decide +kernel
theorem d_J_planTape_19 : decode b_J_planTape 19 = .ok (.getfield 43, 3) := by decide +kernel
theorem d_J_planTape_22 : decode b_J_planTape 22 = .ok (.aload_n 0, 1) := by decide +kernel
theorem d_J_planTape_23 : decode b_J_planTape 23 = .ok (.getfield 40, 3) := by decide +kernel
theorem d_J_planTape_26 : decode b_J_planTape 26 = .ok (.invokestatic 140, 3) := by decide +kernel
theorem d_J_planTape_29 : decode b_J_planTape 29 = .ok (.iload_n 3, 1) := by decide +kernel
theorem d_J_planTape_30 : decode b_J_planTape 30 = .ok (.iadd, 1) := by decide +kernel
theorem d_J_planTape_31 : decode b_J_planTape 31 = .ok (.aload_n 0, 1) := by decide +kernel
theorem d_J_planTape_32 : decode b_J_planTape 32 = .ok (.getfield 27, 3) := by decide +kernel
theorem d_J_planTape_35 : decode b_J_planTape 35 = .ok (.iload_n 3, 1) := by decide +kernel
theorem d_J_planTape_36 : decode b_J_planTape 36 = .ok (.iload 4, 2) := by decide +kernel
theorem d_J_planTape_38 : decode b_J_planTape 38 = .ok (.iload_n 3, 1) := by decide +kernel
theorem d_J_planTape_39 : decode b_J_planTape 39 = .ok (.isub, 1) := by decide +kernel
theorem d_J_planTape_40 : decode b_J_planTape 40 = .ok (.invokestatic 181, 3) := by decide +kernel
theorem d_J_planTape_43 : decode b_J_planTape 43 = .ok (.aload_n 0, 1) := by decide +kernel
theorem d_J_planTape_44 : decode b_J_planTape 44 = .ok (.getfield 27, 3) := by decide +kernel
theorem d_J_planTape_47 : decode b_J_planTape 47 = .ok (.iload 4, 2) := by decide +kernel
theorem d_J_planTape_49 : decode b_J_planTape 49 = .ok (.iload_n 2, 1) := by decide +kernel
theorem d_J_planTape_50 : decode b_J_planTape 50 = .ok (.iconst 1, 1) := by decide +kernel
theorem d_J_planTape_51 : decode b_J_planTape 51 = .ok (.iadd, 1) := by decide +kernel
theorem d_J_planTape_52 : decode b_J_planTape 52 = .ok (.sipush 512, 3) := by decide +kernel
theorem d_J_planTape_55 : decode b_J_planTape 55 = .ok (.imul, 1) := by decide +kernel
theorem d_J_planTape_56 : decode b_J_planTape 56 = .ok (.invokestatic 47, 3) := by decide +kernel
theorem d_J_planTape_59 : decode b_J_planTape 59 = .ok (.aload_n 0, 1) := by decide +kernel
theorem d_J_planTape_60 : decode b_J_planTape 60 = .ok (.getfield 27, 3) := by decide +kernel
theorem d_J_planTape_63 : decode b_J_planTape 63 = .ok (.iload 4, 2) := by decide +kernel
theorem d_J_planTape_65 : decode b_J_planTape 65 = .ok (.iconst 2, 1) := by decide +kernel
theorem d_J_planTape_66 : decode b_J_planTape 66 = .ok (.aload_n 0, 1) := by decide +kernel
theorem d_J_planTape_67 : decode b_J_planTape 67 = .ok (.getfield 30, 3) := by decide +kernel
theorem d_J_planTape_70 : decode b_J_planTape 70 = .ok (.invokestatic 185, 3) := by decide +kernel
theorem d_J_planTape_73 : decode b_J_planTape 73 = .ok (.aload_n 0, 1) := by decide +kernel
theorem d_J_planTape_74 : decode b_J_planTape 74 = .ok (.getfield 23, 3) := by decide +kernel
theorem d_J_planTape_77 : decode b_J_planTape 77 = .ok (.iconst 0, 1) := by decide +kernel
theorem d_J_planTape_78 : decode b_J_planTape 78 = .ok (.aload_n 0, 1) := by decide +kernel
theorem d_J_planTape_79 : decode b_J_planTape 79 = .ok (.getfield 27, 3) := by decide +kernel
theorem d_J_planTape_82 : decode b_J_planTape 82 = .ok (.iload 4, 2) := by decide +kernel
theorem d_J_planTape_84 : decode b_J_planTape 84 = .ok (.iconst 2, 1) := by decide +kernel
theorem d_J_planTape_85 : decode b_J_planTape 85 = .ok (.iadd, 1) := by decide +kernel
theorem d_J_planTape_86 : decode b_J_planTape 86 = .ok (.aload_n 0, 1) := by decide +kernel
theorem d_J_planTape_87 : decode b_J_planTape 87 = .ok (.getfield 30, 3) := by decide +kernel
theorem d_J_planTape_90 : decode b_J_planTape 90 = .ok (.invokestatic 181, 3) := by decide +kernel
theorem d_J_planTape_93 : decode b_J_planTape 93 = .ok (.iconst 2, 1) := by decide +kernel
theorem d_J_planTape_94 : decode b_J_planTape 94 = .ok (.aload_n 0, 1) := by decide +kernel
theorem d_J_planTape_95 : decode b_J_planTape 95 = .ok (.getfield 30, 3) := by decide +kernel
theorem d_J_planTape_98 : decode b_J_planTape 98 = .ok (.iadd, 1) := by decide +kernel
theorem d_J_planTape_99 : decode b_J_planTape 99 = .ok (.istore 5, 2) := by decide +kernel
theorem d_J_planTape_101 : decode b_J_planTape 101 = .ok (.aload_n 0, 1) := by decide +kernel
theorem d_J_planTape_102 : decode b_J_planTape 102 = .ok (.getfield 27, 3) := by decide +kernel
theorem d_J_planTape_105 : decode b_J_planTape 105 = .ok (.iload 4, 2) := by decide +kernel
theorem d_J_planTape_107 : decode b_J_planTape 107 = .ok (.iload 5, 2) := by decide +kernel
theorem d_J_planTape_109 : decode b_J_planTape 109 = .ok (.iadd, 1) := by decide +kernel
theorem d_J_planTape_110 : decode b_J_planTape 110 = .ok (.iconst 4, 1) := by decide +kernel
theorem d_J_planTape_111 : decode b_J_planTape 111 = .ok (.aload_n 0, 1) := by decide +kernel
theorem d_J_planTape_112 : decode b_J_planTape 112 = .ok (.getfield 27, 3) := by decide +kernel
theorem d_J_planTape_115 : decode b_J_planTape 115 = .ok (.iload 4, 2) := by decide +kernel
theorem d_J_planTape_117 : decode b_J_planTape 117 = .ok (.iload 5, 2) := by decide +kernel
theorem d_J_planTape_119 : decode b_J_planTape 119 = .ok (.invokestatic 169, 3) := by decide +kernel
theorem d_J_planTape_122 : decode b_J_planTape 122 = .ok (.invokestatic 185, 3) := by decide +kernel
theorem d_J_planTape_125 : decode b_J_planTape 125 = .ok (.return_, 1) := by decide +kernel
theorem d_J_planUnmarked_0 : decode b_J_planUnmarked 0 = .ok (.aload_n 0, 1) := by decide +kernel
theorem d_J_planUnmarked_1 : decode b_J_planUnmarked 1 = .ok (.getfield 27, 3) := by decide +kernel
theorem d_J_planUnmarked_4 : decode b_J_planUnmarked 4 = .ok (.iconst 0, 1) := by decide +kernel
theorem d_J_planUnmarked_5 : decode b_J_planUnmarked 5 = .ok (.sipush 15872, 3) := by decide +kernel
theorem d_J_planUnmarked_8 : decode b_J_planUnmarked 8 = .ok (.invokestatic 47, 3) := by decide +kernel
theorem d_J_planUnmarked_11 : decode b_J_planUnmarked 11 = .ok (.iconst 0, 1) := by decide +kernel
theorem d_J_planUnmarked_12 : decode b_J_planUnmarked 12 = .ok (.istore_n 1, 1) := by decide +kernel
theorem d_J_planUnmarked_13 : decode b_J_planUnmarked 13 = .ok (.iconst 0, 1) := by decide +kernel
theorem d_J_planUnmarked_14 : decode b_J_planUnmarked 14 = .ok (.istore_n 2, 1) := by decide +kernel
theorem d_J_planUnmarked_15 : decode b_J_planUnmarked 15 = .ok (.iload_n 2, 1) := by decide +kernel
theorem d_J_planUnmarked_16 : decode b_J_planUnmarked 16 = .ok (.aload_n 0, 1) := by decide +kernel
theorem d_J_planUnmarked_17 : decode b_J_planUnmarked 17 = .ok (.getfield 19, 3) := by decide +kernel
theorem d_J_planUnmarked_20 : decode b_J_planUnmarked 20 = .ok (.getfield 103, 3) := by decide +kernel
theorem d_J_planUnmarked_23 : decode b_J_planUnmarked 23 = .ok (.if_icmp .ge 83, 3) := by decide +kernel
theorem d_J_planUnmarked_26 : decode b_J_planUnmarked 26 = .ok (.aload_n 0, 1) := by decide +kernel
theorem d_J_planUnmarked_27 : decode b_J_planUnmarked 27 = .ok (.getfield 19, 3) := by decide +kernel
theorem d_J_planUnmarked_30 : decode b_J_planUnmarked 30 = .ok (.getfield 188, 3) := by decide +kernel
theorem d_J_planUnmarked_33 : decode b_J_planUnmarked 33 = .ok (.iload_n 2, 1) := by decide +kernel
theorem d_J_planUnmarked_34 : decode b_J_planUnmarked 34 = .ok (.baload, 1) := by decide +kernel
theorem d_J_planUnmarked_35 : decode b_J_planUnmarked 35 = .ok (.ifCond .ne 65, 3) := by decide +kernel
theorem d_J_planUnmarked_38 : decode b_J_planUnmarked 38 = .ok (.iconst 2, 1) := by decide +kernel
theorem d_J_planUnmarked_39 : decode b_J_planUnmarked 39 = .ok (.aload_n 0, 1) := by decide +kernel
theorem d_J_planUnmarked_40 : decode b_J_planUnmarked 40 = .ok (.getfield 19, 3) := by decide +kernel
theorem d_J_planUnmarked_43 : decode b_J_planUnmarked 43 = .ok (.getfield 136, 3) := by decide +kernel
theorem d_J_planUnmarked_46 : decode b_J_planUnmarked 46 = .ok (.iload_n 2, 1) := by decide +kernel
theorem d_J_planUnmarked_47 : decode b_J_planUnmarked 47 = .ok (.iaload, 1) := by decide +kernel
theorem d_J_planUnmarked_48 : decode b_J_planUnmarked 48 = .ok (.iadd, 1) := by decide +kernel
theorem d_J_planUnmarked_49 : decode b_J_planUnmarked 49 = .ok (.iconst 4, 1) := by decide +kernel
theorem d_J_planUnmarked_50 : decode b_J_planUnmarked 50 = .ok (.iadd, 1) := by decide +kernel
theorem d_J_planUnmarked_51 : decode b_J_planUnmarked 51 = .ok (.istore_n 3, 1) := by decide +kernel
theorem d_J_planUnmarked_52 : decode b_J_planUnmarked 52 = .ok (.aload_n 0, 1) := by decide +kernel
theorem d_J_planUnmarked_53 : decode b_J_planUnmarked 53 = .ok (.getfield 12, 3) := by decide +kernel
theorem d_J_planUnmarked_56 : decode b_J_planUnmarked 56 = .ok (.getfield 43, 3) := by decide +kernel
theorem d_J_planUnmarked_59 : decode b_J_planUnmarked 59 = .ok (.aload_n 0, 1) := by decide +kernel
theorem d_J_planUnmarked_60 : decode b_J_planUnmarked 60 = .ok (.getfield 40, 3) := by decide +kernel
theorem d_J_planUnmarked_63 : decode b_J_planUnmarked 63 = .ok (.invokestatic 140, 3) := by decide +kernel
theorem d_J_planUnmarked_66 : decode b_J_planUnmarked 66 = .ok (.aload_n 0, 1) := by decide +kernel
theorem d_J_planUnmarked_67 : decode b_J_planUnmarked 67 = .ok (.getfield 19, 3) := by decide +kernel
theorem d_J_planUnmarked_70 : decode b_J_planUnmarked 70 = .ok (.getfield 143, 3) := by decide +kernel
theorem d_J_planUnmarked_73 : decode b_J_planUnmarked 73 = .ok (.iload_n 2, 1) := by decide +kernel
theorem d_J_planUnmarked_74 : decode b_J_planUnmarked 74 = .ok (.iaload, 1) := by decide +kernel
theorem d_J_planUnmarked_75 : decode b_J_planUnmarked 75 = .ok (.iadd, 1) := by decide +kernel
theorem d_J_planUnmarked_76 : decode b_J_planUnmarked 76 = .ok (.aload_n 0, 1) := by decide +kernel
theorem d_J_planUnmarked_77 : decode b_J_planUnmarked 77 = .ok (.getfield 27, 3) := by decide +kernel
theorem d_J_planUnmarked_80 : decode b_J_planUnmarked 80 = .ok (.iload_n 1, 1) := by decide +kernel
theorem d_J_planUnmarked_81 : decode b_J_planUnmarked 81 = .ok (.iload_n 3, 1) := by decide +kernel
theorem d_J_planUnmarked_82 : decode b_J_planUnmarked 82 = .ok (.invokestatic 181, 3) := by decide +kernel
theorem d_J_planUnmarked_85 : decode b_J_planUnmarked 85 = .ok (.iload_n 1, 1) := by decide +kernel
theorem d_J_planUnmarked_86 : decode b_J_planUnmarked 86 = .ok (.aload_n 0, 1) := by decide +kernel
theorem d_J_planUnmarked_87 : decode b_J_planUnmarked 87 = .ok (.getfield 19, 3) := by decide +kernel
theorem d_J_planUnmarked_90 : decode b_J_planUnmarked 90 = .ok (.getfield 136, 3) := by decide +kernel
theorem d_J_planUnmarked_93 : decode b_J_planUnmarked 93 = .ok (.iload_n 2, 1) := by decide +kernel
theorem d_J_planUnmarked_94 : decode b_J_planUnmarked 94 = .ok (.iaload, 1) := by decide +kernel
theorem d_J_planUnmarked_95 : decode b_J_planUnmarked 95 = .ok (.invokestatic 74, 3) := by decide +kernel
theorem d_J_planUnmarked_98 : decode b_J_planUnmarked 98 = .ok (.iadd, 1) := by decide +kernel
theorem d_J_planUnmarked_99 : decode b_J_planUnmarked 99 = .ok (.istore_n 1, 1) := by decide +kernel
theorem d_J_planUnmarked_100 : decode b_J_planUnmarked 100 = .ok (.iinc 2 1, 3) := by decide +kernel
theorem d_J_planUnmarked_103 : decode b_J_planUnmarked 103 = .ok (.goto (-88), 3) := by decide +kernel
theorem d_J_planUnmarked_106 : decode b_J_planUnmarked 106 = .ok (.iload_n 1, 1) := by decide +kernel
theorem d_J_planUnmarked_107 : decode b_J_planUnmarked 107 = .ok (.ireturn, 1) := by decide +kernel
theorem d_J_writeLastFirst_0 : decode b_J_writeLastFirst 0 = .ok (.iload_n 2, 1) := by decide +kernel
theorem d_J_writeLastFirst_1 : decode b_J_writeLastFirst 1 = .ok (.istore_n 3, 1) := by decide +kernel
theorem d_J_writeLastFirst_2 : decode b_J_writeLastFirst 2 = .ok (.iload_n 3, 1) := by decide +kernel
theorem d_J_writeLastFirst_3 : decode b_J_writeLastFirst 3 = .ok (.iload_n 1, 1) := by decide +kernel
theorem d_J_writeLastFirst_4 : decode b_J_writeLastFirst 4 = .ok (.if_icmp .lt 39, 3) := by decide +kernel
theorem d_J_writeLastFirst_7 : decode b_J_writeLastFirst 7 = .ok (.aload_n 0, 1) := by decide +kernel
theorem d_J_writeLastFirst_8 : decode b_J_writeLastFirst 8 = .ok (.getfield 12, 3) := by decide +kernel
theorem d_J_writeLastFirst_11 : decode b_J_writeLastFirst 11 = .ok (.aload_n 0, 1) := by decide +kernel
theorem d_J_writeLastFirst_12 : decode b_J_writeLastFirst 12 = .ok (.getfield 40, 3) := by decide +kernel
theorem d_J_writeLastFirst_15 : decode b_J_writeLastFirst 15 = .ok (.invokestatic 192, 3) := by decide +kernel
theorem d_J_writeLastFirst_18 : decode b_J_writeLastFirst 18 = .ok (.iload_n 3, 1) := by decide +kernel
theorem d_J_writeLastFirst_19 : decode b_J_writeLastFirst 19 = .ok (.iadd, 1) := by decide +kernel
theorem d_J_writeLastFirst_20 : decode b_J_writeLastFirst 20 = .ok (.aload_n 0, 1) := by decide +kernel
theorem d_J_writeLastFirst_21 : decode b_J_writeLastFirst 21 = .ok (.getfield 27, 3) := by decide +kernel
theorem d_J_writeLastFirst_24 : decode b_J_writeLastFirst 24 = .ok (.iload_n 3, 1) := by decide +kernel
theorem d_J_writeLastFirst_25 : decode b_J_writeLastFirst 25 = .ok (.sipush 512, 3) := by decide +kernel
theorem d_J_writeLastFirst_28 : decode b_J_writeLastFirst 28 = .ok (.imul, 1) := by decide +kernel
theorem d_J_writeLastFirst_29 : decode b_J_writeLastFirst 29 = .ok (.invokevirtual 195, 3) := by decide +kernel
theorem d_J_writeLastFirst_32 : decode b_J_writeLastFirst 32 = .ok (.ifCond .ne 5, 3) := by decide +kernel
theorem d_J_writeLastFirst_35 : decode b_J_writeLastFirst 35 = .ok (.iconst 0, 1) := by decide +kernel
theorem d_J_writeLastFirst_36 : decode b_J_writeLastFirst 36 = .ok (.ireturn, 1) := by decide +kernel
theorem d_J_writeLastFirst_37 : decode b_J_writeLastFirst 37 = .ok (.iinc 3 (-1), 3) := by decide +kernel
theorem d_J_writeLastFirst_40 : decode b_J_writeLastFirst 40 = .ok (.goto (-38), 3) := by decide +kernel
theorem d_J_writeLastFirst_43 : decode b_J_writeLastFirst 43 = .ok (.iconst 1, 1) := by decide +kernel
theorem d_J_writeLastFirst_44 : decode b_J_writeLastFirst 44 = .ok (.ireturn, 1) := by decide +kernel
theorem d_J_writeFirstFirst_0 : decode b_J_writeFirstFirst 0 = .ok (.iconst 0, 1) := by decide +kernel
theorem d_J_writeFirstFirst_1 : decode b_J_writeFirstFirst 1 = .ok (.istore_n 3, 1) := by decide +kernel
theorem d_J_writeFirstFirst_2 : decode b_J_writeFirstFirst 2 = .ok (.iload_n 3, 1) := by decide +kernel
theorem d_J_writeFirstFirst_3 : decode b_J_writeFirstFirst 3 = .ok (.iload_n 2, 1) := by decide +kernel
theorem d_J_writeFirstFirst_4 : decode b_J_writeFirstFirst 4 = .ok (.if_icmp .gt 36, 3) := by decide +kernel
theorem d_J_writeFirstFirst_7 : decode b_J_writeFirstFirst 7 = .ok (.aload_n 0, 1) := by decide +kernel
theorem d_J_writeFirstFirst_8 : decode b_J_writeFirstFirst 8 = .ok (.getfield 12, 3) := by decide +kernel
theorem d_J_writeFirstFirst_11 : decode b_J_writeFirstFirst 11 = .ok (.iload_n 1, 1) := by decide +kernel
theorem d_J_writeFirstFirst_12 : decode b_J_writeFirstFirst 12 = .ok (.invokestatic 192, 3) := by decide +kernel
theorem d_J_writeFirstFirst_15 : decode b_J_writeFirstFirst 15 = .ok (.iload_n 3, 1) := by decide +kernel
theorem d_J_writeFirstFirst_16 : decode b_J_writeFirstFirst 16 = .ok (.iadd, 1) := by decide +kernel
theorem d_J_writeFirstFirst_17 : decode b_J_writeFirstFirst 17 = .ok (.aload_n 0, 1) := by decide +kernel
theorem d_J_writeFirstFirst_18 : decode b_J_writeFirstFirst 18 = .ok (.getfield 27, 3) := by decide +kernel
theorem d_J_writeFirstFirst_21 : decode b_J_writeFirstFirst 21 = .ok (.iload_n 3, 1) := by decide +kernel
theorem d_J_writeFirstFirst_22 : decode b_J_writeFirstFirst 22 = .ok (.sipush 512, 3) := by decide +kernel
theorem d_J_writeFirstFirst_25 : decode b_J_writeFirstFirst 25 = .ok (.imul, 1) := by decide +kernel
theorem d_J_writeFirstFirst_26 : decode b_J_writeFirstFirst 26 = .ok (.invokevirtual 195, 3) := by decide +kernel
theorem d_J_writeFirstFirst_29 : decode b_J_writeFirstFirst 29 = .ok (.ifCond .ne 5, 3) := by decide +kernel
theorem d_J_writeFirstFirst_32 : decode b_J_writeFirstFirst 32 = .ok (.iconst 0, 1) := by decide +kernel
theorem d_J_writeFirstFirst_33 : decode b_J_writeFirstFirst 33 = .ok (.ireturn, 1) := by decide +kernel
theorem d_J_writeFirstFirst_34 : decode b_J_writeFirstFirst 34 = .ok (.iinc 3 1, 3) := by decide +kernel
theorem d_J_writeFirstFirst_37 : decode b_J_writeFirstFirst 37 = .ok (.goto (-35), 3) := by decide +kernel
theorem d_J_writeFirstFirst_40 : decode b_J_writeFirstFirst 40 = .ok (.iconst 1, 1) := by decide +kernel
theorem d_J_writeFirstFirst_41 : decode b_J_writeFirstFirst 41 = .ok (.ireturn, 1) := by decide +kernel
theorem d_J_writeHead_0 : decode b_J_writeHead 0 = .ok (.aload_n 0, 1) := by decide +kernel
theorem d_J_writeHead_1 : decode b_J_writeHead 1 = .ok (.getfield 27, 3) := by decide +kernel
theorem d_J_writeHead_4 : decode b_J_writeHead 4 = .ok (.iconst 0, 1) := by decide +kernel
theorem d_J_writeHead_5 : decode b_J_writeHead 5 = .ok (.sipush 512, 3) := by decide +kernel
theorem d_J_writeHead_8 : decode b_J_writeHead 8 = .ok (.invokestatic 47, 3) := by decide +kernel
theorem d_J_writeHead_11 : decode b_J_writeHead 11 = .ok (.aload_n 0, 1) := by decide +kernel
theorem d_J_writeHead_12 : decode b_J_writeHead 12 = .ok (.getfield 27, 3) := by decide +kernel
theorem d_J_writeHead_15 : decode b_J_writeHead 15 = .ok (.iconst 0, 1) := by decide +kernel
theorem d_J_writeHead_16 : decode b_J_writeHead 16 = .ok (.iload_n 1, 1) := by decide +kernel
theorem d_J_writeHead_17 : decode b_J_writeHead 17 = .ok (.iload_n 2, 1) := by decide +kernel
theorem d_J_writeHead_18 : decode b_J_writeHead 18 = .ok (.invokestatic 51, 3) := by decide +kernel
theorem d_J_writeHead_21 : decode b_J_writeHead 21 = .ok (.aload_n 0, 1) := by decide +kernel
theorem d_J_writeHead_22 : decode b_J_writeHead 22 = .ok (.getfield 12, 3) := by decide +kernel
theorem d_J_writeHead_25 : decode b_J_writeHead 25 = .ok (.iload_n 1, 1) := by decide +kernel
theorem d_J_writeHead_26 : decode b_J_writeHead 26 = .ok (.iconst 1, 1) := by decide +kernel
theorem d_J_writeHead_27 : decode b_J_writeHead 27 = .ok (.iand, 1) := by decide +kernel
theorem d_J_writeHead_28 : decode b_J_writeHead 28 = .ok (.aload_n 0, 1) := by decide +kernel
theorem d_J_writeHead_29 : decode b_J_writeHead 29 = .ok (.getfield 27, 3) := by decide +kernel
theorem d_J_writeHead_32 : decode b_J_writeHead 32 = .ok (.iconst 0, 1) := by decide +kernel
theorem d_J_writeHead_33 : decode b_J_writeHead 33 = .ok (.invokevirtual 195, 3) := by decide +kernel
theorem d_J_writeHead_36 : decode b_J_writeHead 36 = .ok (.ireturn, 1) := by decide +kernel
theorem d_J_putHead_0 : decode b_J_putHead 0 = .ok (.aload_n 0, 1) := by decide +kernel
theorem d_J_putHead_1 : decode b_J_putHead 1 = .ok (.iload_n 1, 1) := by decide +kernel
theorem d_J_putHead_2 : decode b_J_putHead 2 = .ok (.iconst 4, 1) := by decide +kernel
theorem d_J_putHead_3 : decode b_J_putHead 3 = .ok (.iload_n 3, 1) := by decide +kernel
theorem d_J_putHead_4 : decode b_J_putHead 4 = .ok (.invokestatic 172, 3) := by decide +kernel
theorem d_J_putHead_7 : decode b_J_putHead 7 = .ok (.invokestatic 185, 3) := by decide +kernel
theorem d_J_putHead_10 : decode b_J_putHead 10 = .ok (.aload_n 0, 1) := by decide +kernel
theorem d_J_putHead_11 : decode b_J_putHead 11 = .ok (.iload_n 1, 1) := by decide +kernel
theorem d_J_putHead_12 : decode b_J_putHead 12 = .ok (.iconst 4, 1) := by decide +kernel
theorem d_J_putHead_13 : decode b_J_putHead 13 = .ok (.iadd, 1) := by decide +kernel
theorem d_J_putHead_14 : decode b_J_putHead 14 = .ok (.iconst 4, 1) := by decide +kernel
theorem d_J_putHead_15 : decode b_J_putHead 15 = .ok (.iload_n 2, 1) := by decide +kernel
theorem d_J_putHead_16 : decode b_J_putHead 16 = .ok (.invokestatic 185, 3) := by decide +kernel
theorem d_J_putHead_19 : decode b_J_putHead 19 = .ok (.aload_n 0, 1) := by decide +kernel
theorem d_J_putHead_20 : decode b_J_putHead 20 = .ok (.iload_n 1, 1) := by decide +kernel
theorem d_J_putHead_21 : decode b_J_putHead 21 = .ok (.bipush 8, 2) := by decide +kernel
theorem d_J_putHead_23 : decode b_J_putHead 23 = .ok (.iadd, 1) := by decide +kernel
theorem d_J_putHead_24 : decode b_J_putHead 24 = .ok (.iconst 4, 1) := by decide +kernel
theorem d_J_putHead_25 : decode b_J_putHead 25 = .ok (.aload_n 0, 1) := by decide +kernel
theorem d_J_putHead_26 : decode b_J_putHead 26 = .ok (.iload_n 1, 1) := by decide +kernel
theorem d_J_putHead_27 : decode b_J_putHead 27 = .ok (.bipush 8, 2) := by decide +kernel
theorem d_J_putHead_29 : decode b_J_putHead 29 = .ok (.invokestatic 169, 3) := by decide +kernel
theorem d_J_putHead_32 : decode b_J_putHead 32 = .ok (.invokestatic 185, 3) := by decide +kernel
theorem d_J_putHead_35 : decode b_J_putHead 35 = .ok (.return_, 1) := by decide +kernel
theorem d_J_headBegin_0 : decode b_J_headBegin 0 = .ok (.sipush 12618, 3) := by decide +kernel
theorem d_J_headBegin_3 : decode b_J_headBegin 3 = .ok (.iload_n 0, 1) := by decide +kernel
theorem d_J_headBegin_4 : decode b_J_headBegin 4 = .ok (.bipush 16, 2) := by decide +kernel
theorem d_J_headBegin_6 : decode b_J_headBegin 6 = .ok (.ishl, 1) := by decide +kernel
theorem d_J_headBegin_7 : decode b_J_headBegin 7 = .ok (.ior, 1) := by decide +kernel
theorem d_J_headBegin_8 : decode b_J_headBegin 8 = .ok (.ireturn, 1) := by decide +kernel
theorem d_J_isBlock_0 : decode b_J_isBlock 0 = .ok (.iload_n 0, 1) := by decide +kernel
theorem d_J_isBlock_1 : decode b_J_isBlock 1 = .ok (.ifCond .lt 13, 3) := by decide +kernel
theorem d_J_isBlock_4 : decode b_J_isBlock 4 = .ok (.iload_n 0, 1) := by decide +kernel
theorem d_J_isBlock_5 : decode b_J_isBlock 5 = .ok (.bipush 64, 2) := by decide +kernel
theorem d_J_isBlock_7 : decode b_J_isBlock 7 = .ok (.if_icmp .ge 7, 3) := by decide +kernel
theorem d_J_isBlock_10 : decode b_J_isBlock 10 = .ok (.iconst 1, 1) := by decide +kernel
theorem d_J_isBlock_11 : decode b_J_isBlock 11 = .ok (.goto 4, 3) := by decide +kernel
theorem d_J_isBlock_14 : decode b_J_isBlock 14 = .ok (.iconst 0, 1) := by decide +kernel
theorem d_J_isBlock_15 : decode b_J_isBlock 15 = .ok (.ireturn, 1) := by decide +kernel
theorem d_J_firstBlockOf_0 : decode b_J_firstBlockOf 0 = .ok (.iconst 2, 1) := by decide +kernel
theorem d_J_firstBlockOf_1 : decode b_J_firstBlockOf 1 = .ok (.iload_n 0, 1) := by decide +kernel
theorem d_J_firstBlockOf_2 : decode b_J_firstBlockOf 2 = .ok (.bipush 31, 2) := by decide +kernel
theorem d_J_firstBlockOf_4 : decode b_J_firstBlockOf 4 = .ok (.imul, 1) := by decide +kernel
theorem d_J_firstBlockOf_5 : decode b_J_firstBlockOf 5 = .ok (.iadd, 1) := by decide +kernel
theorem d_J_firstBlockOf_6 : decode b_J_firstBlockOf 6 = .ok (.ireturn, 1) := by decide +kernel
theorem d_J_firstByteOf_0 : decode b_J_firstByteOf 0 = .ok (.iload_n 0, 1) := by decide +kernel
theorem d_J_firstByteOf_1 : decode b_J_firstByteOf 1 = .ok (.invokestatic 192, 3) := by decide +kernel
theorem d_J_firstByteOf_4 : decode b_J_firstByteOf 4 = .ok (.sipush 512, 3) := by decide +kernel
theorem d_J_firstByteOf_7 : decode b_J_firstByteOf 7 = .ok (.imul, 1) := by decide +kernel
theorem d_J_firstByteOf_8 : decode b_J_firstByteOf 8 = .ok (.ireturn, 1) := by decide +kernel
theorem d_J_lastBlockOf_0 : decode b_J_lastBlockOf 0 = .ok (.iload_n 0, 1) := by decide +kernel
theorem d_J_lastBlockOf_1 : decode b_J_lastBlockOf 1 = .ok (.iconst 2, 1) := by decide +kernel
theorem d_J_lastBlockOf_2 : decode b_J_lastBlockOf 2 = .ok (.iadd, 1) := by decide +kernel
theorem d_J_lastBlockOf_3 : decode b_J_lastBlockOf 3 = .ok (.sipush 15872, 3) := by decide +kernel
theorem d_J_lastBlockOf_6 : decode b_J_lastBlockOf 6 = .ok (.invokestatic 199, 3) := by decide +kernel
theorem d_J_lastBlockOf_9 : decode b_J_lastBlockOf 9 = .ok (.iconst 1, 1) := by decide +kernel
theorem d_J_lastBlockOf_10 : decode b_J_lastBlockOf 10 = .ok (.isub, 1) := by decide +kernel
theorem d_J_lastBlockOf_11 : decode b_J_lastBlockOf 11 = .ok (.sipush 512, 3) := by decide +kernel
theorem d_J_lastBlockOf_14 : decode b_J_lastBlockOf 14 = .ok (.idiv, 1) := by decide +kernel
theorem d_J_lastBlockOf_15 : decode b_J_lastBlockOf 15 = .ok (.ireturn, 1) := by decide +kernel
theorem d_J_sizeOf_0 : decode b_J_sizeOf 0 = .ok (.iconst 2, 1) := by decide +kernel
theorem d_J_sizeOf_1 : decode b_J_sizeOf 1 = .ok (.iload_n 0, 1) := by decide +kernel
theorem d_J_sizeOf_2 : decode b_J_sizeOf 2 = .ok (.iadd, 1) := by decide +kernel
theorem d_J_sizeOf_3 : decode b_J_sizeOf 3 = .ok (.iconst 4, 1) := by decide +kernel
theorem d_J_sizeOf_4 : decode b_J_sizeOf 4 = .ok (.iadd, 1) := by decide +kernel
theorem d_J_sizeOf_5 : decode b_J_sizeOf 5 = .ok (.iload_n 0, 1) := by decide +kernel
theorem d_J_sizeOf_6 : decode b_J_sizeOf 6 = .ok (.iconst 1, 1) := by decide +kernel
theorem d_J_sizeOf_7 : decode b_J_sizeOf 7 = .ok (.iand, 1) := by decide +kernel
theorem d_J_sizeOf_8 : decode b_J_sizeOf 8 = .ok (.iadd, 1) := by decide +kernel
theorem d_J_sizeOf_9 : decode b_J_sizeOf 9 = .ok (.ireturn, 1) := by decide +kernel
theorem d_J_hasBytes_0 : decode b_J_hasBytes 0 = .ok (.iload_n 1, 1) := by decide +kernel
theorem d_J_hasBytes_1 : decode b_J_hasBytes 1 = .ok (.ifCond .lt 19, 3) := by decide +kernel
theorem d_J_hasBytes_4 : decode b_J_hasBytes 4 = .ok (.iload_n 2, 1) := by decide +kernel
theorem d_J_hasBytes_5 : decode b_J_hasBytes 5 = .ok (.ifCond .lt 15, 3) := by decide +kernel
theorem d_J_hasBytes_8 : decode b_J_hasBytes 8 = .ok (.iload_n 2, 1) := by decide +kernel
theorem d_J_hasBytes_9 : decode b_J_hasBytes 9 = .ok (.aload_n 0, 1) := by decide +kernel
theorem d_J_hasBytes_10 : decode b_J_hasBytes 10 = .ok (.arraylength, 1) := by decide +kernel
theorem d_J_hasBytes_11 : decode b_J_hasBytes 11 = .ok (.iload_n 1, 1) := by decide +kernel
theorem d_J_hasBytes_12 : decode b_J_hasBytes 12 = .ok (.isub, 1) := by decide +kernel
theorem d_J_hasBytes_13 : decode b_J_hasBytes 13 = .ok (.if_icmp .gt 7, 3) := by decide +kernel
theorem d_J_hasBytes_16 : decode b_J_hasBytes 16 = .ok (.iconst 1, 1) := by decide +kernel
theorem d_J_hasBytes_17 : decode b_J_hasBytes 17 = .ok (.goto 4, 3) := by decide +kernel
theorem d_J_hasBytes_20 : decode b_J_hasBytes 20 = .ok (.iconst 0, 1) := by decide +kernel
theorem d_J_hasBytes_21 : decode b_J_hasBytes 21 = .ok (.ireturn, 1) := by decide +kernel
theorem d_J_copyBytes_0 : decode b_J_copyBytes 0 = .ok (.aload_n 0, 1) := by decide +kernel
theorem d_J_copyBytes_1 : decode b_J_copyBytes 1 = .ok (.iload_n 1, 1) := by decide +kernel
theorem d_J_copyBytes_2 : decode b_J_copyBytes 2 = .ok (.iload 4, 2) := by decide +kernel
theorem d_J_copyBytes_4 : decode b_J_copyBytes 4 = .ok (.invokestatic 202, 3) := by decide +kernel
theorem d_J_copyBytes_7 : decode b_J_copyBytes 7 = .ok (.ifCond .eq 22, 3) := by decide +kernel
theorem d_J_copyBytes_10 : decode b_J_copyBytes 10 = .ok (.aload_n 2, 1) := by decide +kernel
theorem d_J_copyBytes_11 : decode b_J_copyBytes 11 = .ok (.iload_n 3, 1) := by decide +kernel
theorem d_J_copyBytes_12 : decode b_J_copyBytes 12 = .ok (.iload 4, 2) := by decide +kernel
theorem d_J_copyBytes_14 : decode b_J_copyBytes 14 = .ok (.invokestatic 202, 3) := by decide +kernel
theorem d_J_copyBytes_17 : decode b_J_copyBytes 17 = .ok (.ifCond .eq 12, 3) := by decide +kernel
theorem d_J_copyBytes_20 : decode b_J_copyBytes 20 = .ok (.aload_n 0, 1) := by decide +kernel
theorem d_J_copyBytes_21 : decode b_J_copyBytes 21 = .ok (.iload_n 1, 1) := by decide +kernel
theorem d_J_copyBytes_22 : decode b_J_copyBytes 22 = .ok (.aload_n 2, 1) := by decide +kernel
theorem d_J_copyBytes_23 : decode b_J_copyBytes 23 = .ok (.iload_n 3, 1) := by decide +kernel
theorem d_J_copyBytes_24 : decode b_J_copyBytes 24 = .ok (.iload 4, 2) := by decide +kernel
theorem d_J_copyBytes_26 : decode b_J_copyBytes 26 = .ok (.invokestatic 206, 3) := by decide +kernel
theorem d_J_copyBytes_29 : decode b_J_copyBytes 29 = .ok (.return_, 1) := by decide +kernel
theorem d_J_clearBytes_0 : decode b_J_clearBytes 0 = .ok (.aload_n 0, 1) := by decide +kernel
theorem d_J_clearBytes_1 : decode b_J_clearBytes 1 = .ok (.iload_n 1, 1) := by decide +kernel
theorem d_J_clearBytes_2 : decode b_J_clearBytes 2 = .ok (.iload_n 2, 1) := by decide +kernel
theorem d_J_clearBytes_3 : decode b_J_clearBytes 3 = .ok (.iload_n 1, 1) := by decide +kernel
theorem d_J_clearBytes_4 : decode b_J_clearBytes 4 = .ok (.isub, 1) := by decide +kernel
theorem d_J_clearBytes_5 : decode b_J_clearBytes 5 = .ok (.invokestatic 202, 3) := by decide +kernel
theorem d_J_clearBytes_8 : decode b_J_clearBytes 8 = .ok (.ifCond .eq 10, 3) := by decide +kernel
theorem d_J_clearBytes_11 : decode b_J_clearBytes 11 = .ok (.aload_n 0, 1) := by decide +kernel
theorem d_J_clearBytes_12 : decode b_J_clearBytes 12 = .ok (.iload_n 1, 1) := by decide +kernel
theorem d_J_clearBytes_13 : decode b_J_clearBytes 13 = .ok (.iload_n 2, 1) := by decide +kernel
theorem d_J_clearBytes_14 : decode b_J_clearBytes 14 = .ok (.iconst 0, 1) := by decide +kernel
theorem d_J_clearBytes_15 : decode b_J_clearBytes 15 = .ok (.invokestatic 212, 3) := by decide +kernel
theorem d_J_clearBytes_18 : decode b_J_clearBytes 18 = .ok (.return_, 1) := by decide +kernel
theorem d_J_checkOf_0 : decode b_J_checkOf 0 = .ok (.aload_n 0, 1) := by decide +kernel
theorem d_J_checkOf_1 : decode b_J_checkOf 1 = .ok (.iload_n 1, 1) := by decide +kernel
theorem d_J_checkOf_2 : decode b_J_checkOf 2 = .ok (.iload_n 2, 1) := by decide +kernel
theorem d_J_checkOf_3 : decode b_J_checkOf 3 = .ok (.invokestatic 202, 3) := by decide +kernel
theorem d_J_checkOf_6 : decode b_J_checkOf 6 = .ok (.ifCond .ne 5, 3) := by decide +kernel
theorem d_J_checkOf_9 : decode b_J_checkOf 9 = .ok (.iconst 0, 1) := by decide +kernel
theorem d_J_checkOf_10 : decode b_J_checkOf 10 = .ok (.ireturn, 1) := by decide +kernel
theorem d_J_checkOf_11 : decode b_J_checkOf 11 = .ok (.iconst (-1), 1) := by decide +kernel
theorem d_J_checkOf_12 : decode b_J_checkOf 12 = .ok (.istore_n 3, 1) := by decide +kernel
theorem d_J_checkOf_13 : decode b_J_checkOf 13 = .ok (.iload_n 1, 1) := by decide +kernel
theorem d_J_checkOf_14 : decode b_J_checkOf 14 = .ok (.istore 4, 2) := by decide +kernel
theorem d_J_checkOf_16 : decode b_J_checkOf 16 = .ok (.iload 4, 2) := by decide +kernel
theorem d_J_checkOf_18 : decode b_J_checkOf 18 = .ok (.iload_n 1, 1) := by decide +kernel
theorem d_J_checkOf_19 : decode b_J_checkOf 19 = .ok (.iload_n 2, 1) := by decide +kernel
theorem d_J_checkOf_20 : decode b_J_checkOf 20 = .ok (.iadd, 1) := by decide +kernel
theorem d_J_checkOf_21 : decode b_J_checkOf 21 = .ok (.if_icmp .ge 46, 3) := by decide +kernel
theorem d_J_checkOf_24 : decode b_J_checkOf 24 = .ok (.iload_n 3, 1) := by decide +kernel
theorem d_J_checkOf_25 : decode b_J_checkOf 25 = .ok (.aload_n 0, 1) := by decide +kernel
theorem d_J_checkOf_26 : decode b_J_checkOf 26 = .ok (.iload 4, 2) := by decide +kernel
theorem d_J_checkOf_28 : decode b_J_checkOf 28 = .ok (.baload, 1) := by decide +kernel
theorem d_J_checkOf_29 : decode b_J_checkOf 29 = .ok (.sipush 255, 3) := by decide +kernel
theorem d_J_checkOf_32 : decode b_J_checkOf 32 = .ok (.iand, 1) := by decide +kernel
theorem d_J_checkOf_33 : decode b_J_checkOf 33 = .ok (.ixor, 1) := by decide +kernel
theorem d_J_checkOf_34 : decode b_J_checkOf 34 = .ok (.istore_n 3, 1) := by decide +kernel
theorem d_J_checkOf_35 : decode b_J_checkOf 35 = .ok (.iload_n 3, 1) := by decide +kernel
theorem d_J_checkOf_36 : decode b_J_checkOf 36 = .ok (.iconst 4, 1) := by decide +kernel
theorem d_J_checkOf_37 : decode b_J_checkOf 37 = .ok (.iushr, 1) := by decide +kernel
theorem d_J_checkOf_38 : decode b_J_checkOf 38 = .ok (.getstatic 218, 3) := by decide +kernel
theorem d_J_checkOf_41 : decode b_J_checkOf 41 = .ok (.iload_n 3, 1) := by decide +kernel
theorem d_J_checkOf_42 : decode b_J_checkOf 42 = .ok (.bipush 15, 2) := by decide +kernel
theorem d_J_checkOf_44 : decode b_J_checkOf 44 = .ok (.iand, 1) := by decide +kernel
theorem d_J_checkOf_45 : decode b_J_checkOf 45 = .ok (.iaload, 1) := by decide +kernel
theorem d_J_checkOf_46 : decode b_J_checkOf 46 = .ok (.ixor, 1) := by decide +kernel
theorem d_J_checkOf_47 : decode b_J_checkOf 47 = .ok (.istore_n 3, 1) := by decide +kernel
theorem d_J_checkOf_48 : decode b_J_checkOf 48 = .ok (.iload_n 3, 1) := by decide +kernel
theorem d_J_checkOf_49 : decode b_J_checkOf 49 = .ok (.iconst 4, 1) := by decide +kernel
theorem d_J_checkOf_50 : decode b_J_checkOf 50 = .ok (.iushr, 1) := by decide +kernel
theorem d_J_checkOf_51 : decode b_J_checkOf 51 = .ok (.getstatic 218, 3) := by decide +kernel
theorem d_J_checkOf_54 : decode b_J_checkOf 54 = .ok (.iload_n 3, 1) := by decide +kernel
theorem d_J_checkOf_55 : decode b_J_checkOf 55 = .ok (.bipush 15, 2) := by decide +kernel
theorem d_J_checkOf_57 : decode b_J_checkOf 57 = .ok (.iand, 1) := by decide +kernel
theorem d_J_checkOf_58 : decode b_J_checkOf 58 = .ok (.iaload, 1) := by decide +kernel
theorem d_J_checkOf_59 : decode b_J_checkOf 59 = .ok (.ixor, 1) := by decide +kernel
theorem d_J_checkOf_60 : decode b_J_checkOf 60 = .ok (.istore_n 3, 1) := by decide +kernel
theorem d_J_checkOf_61 : decode b_J_checkOf 61 = .ok (.iinc 4 1, 3) := by decide +kernel
theorem d_J_checkOf_64 : decode b_J_checkOf 64 = .ok (.goto (-48), 3) := by decide +kernel
theorem d_J_checkOf_67 : decode b_J_checkOf 67 = .ok (.iload_n 3, 1) := by decide +kernel
theorem d_J_checkOf_68 : decode b_J_checkOf 68 = .ok (.iconst (-1), 1) := by decide +kernel
theorem d_J_checkOf_69 : decode b_J_checkOf 69 = .ok (.ixor, 1) := by decide +kernel
theorem d_J_checkOf_70 : decode b_J_checkOf 70 = .ok (.ireturn, 1) := by decide +kernel
theorem d_J_number_0 : decode b_J_number 0 = .ok (.aload_n 0, 1) := by decide +kernel
theorem d_J_number_1 : decode b_J_number 1 = .ok (.iload_n 1, 1) := by decide +kernel
theorem d_J_number_2 : decode b_J_number 2 = .ok (.iload_n 2, 1) := by decide +kernel
theorem d_J_number_3 : decode b_J_number 3 = .ok (.invokestatic 202, 3) := by decide +kernel
theorem d_J_number_6 : decode b_J_number 6 = .ok (.ifCond .ne 5, 3) := by decide +kernel
theorem d_J_number_9 : decode b_J_number 9 = .ok (.iconst 0, 1) := by decide +kernel
theorem d_J_number_10 : decode b_J_number 10 = .ok (.ireturn, 1) := by decide +kernel
theorem d_J_number_11 : decode b_J_number 11 = .ok (.iconst 0, 1) := by decide +kernel
theorem d_J_number_12 : decode b_J_number 12 = .ok (.istore_n 3, 1) := by decide +kernel
theorem d_J_number_13 : decode b_J_number 13 = .ok (.iload_n 2, 1) := by decide +kernel
theorem d_J_number_14 : decode b_J_number 14 = .ok (.iconst 1, 1) := by decide +kernel
theorem d_J_number_15 : decode b_J_number 15 = .ok (.isub, 1) := by decide +kernel
theorem d_J_number_16 : decode b_J_number 16 = .ok (.istore 4, 2) := by decide +kernel
theorem d_J_number_18 : decode b_J_number 18 = .ok (.iload 4, 2) := by decide +kernel
theorem d_J_number_20 : decode b_J_number 20 = .ok (.ifCond .lt 25, 3) := by decide +kernel
theorem d_J_number_23 : decode b_J_number 23 = .ok (.iload_n 3, 1) := by decide +kernel
theorem d_J_number_24 : decode b_J_number 24 = .ok (.bipush 8, 2) := by decide +kernel
theorem d_J_number_26 : decode b_J_number 26 = .ok (.ishl, 1) := by decide +kernel
theorem d_J_number_27 : decode b_J_number 27 = .ok (.aload_n 0, 1) := by decide +kernel
theorem d_J_number_28 : decode b_J_number 28 = .ok (.iload_n 1, 1) := by decide +kernel
theorem d_J_number_29 : decode b_J_number 29 = .ok (.iload 4, 2) := by decide +kernel
theorem d_J_number_31 : decode b_J_number 31 = .ok (.iadd, 1) := by decide +kernel
theorem d_J_number_32 : decode b_J_number 32 = .ok (.baload, 1) := by decide +kernel
theorem d_J_number_33 : decode b_J_number 33 = .ok (.sipush 255, 3) := by decide +kernel
theorem d_J_number_36 : decode b_J_number 36 = .ok (.iand, 1) := by decide +kernel
theorem d_J_number_37 : decode b_J_number 37 = .ok (.ior, 1) := by decide +kernel
theorem d_J_number_38 : decode b_J_number 38 = .ok (.istore_n 3, 1) := by decide +kernel
theorem d_J_number_39 : decode b_J_number 39 = .ok (.iinc 4 (-1), 3) := by decide +kernel
theorem d_J_number_42 : decode b_J_number 42 = .ok (.goto (-24), 3) := by decide +kernel
theorem d_J_number_45 : decode b_J_number 45 = .ok (.iload_n 3, 1) := by decide +kernel
theorem d_J_number_46 : decode b_J_number 46 = .ok (.ireturn, 1) := by decide +kernel
theorem d_J_putNumber_0 : decode b_J_putNumber 0 = .ok (.aload_n 0, 1) := by decide +kernel
theorem d_J_putNumber_1 : decode b_J_putNumber 1 = .ok (.iload_n 1, 1) := by decide +kernel
theorem d_J_putNumber_2 : decode b_J_putNumber 2 = .ok (.iload_n 2, 1) := by decide +kernel
theorem d_J_putNumber_3 : decode b_J_putNumber 3 = .ok (.invokestatic 202, 3) := by decide +kernel
theorem d_J_putNumber_6 : decode b_J_putNumber 6 = .ok (.ifCond .ne 4, 3) := by decide +kernel
theorem d_J_putNumber_9 : decode b_J_putNumber 9 = .ok (.return_, 1) := by decide +kernel
theorem d_J_putNumber_10 : decode b_J_putNumber 10 = .ok (.iconst 0, 1) := by decide +kernel
theorem d_J_putNumber_11 : decode b_J_putNumber 11 = .ok (.istore 4, 2) := by decide +kernel
theorem d_J_putNumber_13 : decode b_J_putNumber 13 = .ok (.iload 4, 2) := by decide +kernel
theorem d_J_putNumber_15 : decode b_J_putNumber 15 = .ok (.iload_n 2, 1) := by decide +kernel
theorem d_J_putNumber_16 : decode b_J_putNumber 16 = .ok (.if_icmp .ge 23, 3) := by decide +kernel
theorem d_J_putNumber_19 : decode b_J_putNumber 19 = .ok (.aload_n 0, 1) := by decide +kernel
theorem d_J_putNumber_20 : decode b_J_putNumber 20 = .ok (.iload_n 1, 1) := by decide +kernel
theorem d_J_putNumber_21 : decode b_J_putNumber 21 = .ok (.iload 4, 2) := by decide +kernel
theorem d_J_putNumber_23 : decode b_J_putNumber 23 = .ok (.iadd, 1) := by decide +kernel
theorem d_J_putNumber_24 : decode b_J_putNumber 24 = .ok (.iload_n 3, 1) := by decide +kernel
theorem d_J_putNumber_25 : decode b_J_putNumber 25 = .ok (.bipush 8, 2) := by decide +kernel
theorem d_J_putNumber_27 : decode b_J_putNumber 27 = .ok (.iload 4, 2) := by decide +kernel
theorem d_J_putNumber_29 : decode b_J_putNumber 29 = .ok (.imul, 1) := by decide +kernel
theorem d_J_putNumber_30 : decode b_J_putNumber 30 = .ok (.iushr, 1) := by decide +kernel
theorem d_J_putNumber_31 : decode b_J_putNumber 31 = .ok (.i2b, 1) := by decide +kernel
theorem d_J_putNumber_32 : decode b_J_putNumber 32 = .ok (.bastore, 1) := by decide +kernel
theorem d_J_putNumber_33 : decode b_J_putNumber 33 = .ok (.iinc 4 1, 3) := by decide +kernel
theorem d_J_putNumber_36 : decode b_J_putNumber 36 = .ok (.goto (-23), 3) := by decide +kernel
theorem d_J_putNumber_39 : decode b_J_putNumber 39 = .ok (.return_, 1) := by decide +kernel
theorem d_J_word_0 : decode b_J_word 0 = .ok (.lconst 0, 1) := by decide +kernel
theorem d_J_word_1 : decode b_J_word 1 = .ok (.lstore_n 3, 1) := by decide +kernel
theorem d_J_word_2 : decode b_J_word 2 = .ok (.iload_n 1, 1) := by decide +kernel
theorem d_J_word_3 : decode b_J_word 3 = .ok (.istore 5, 2) := by decide +kernel
theorem d_J_word_5 : decode b_J_word 5 = .ok (.iload 5, 2) := by decide +kernel
theorem d_J_word_7 : decode b_J_word 7 = .ok (.iload_n 1, 1) := by decide +kernel
theorem d_J_word_8 : decode b_J_word 8 = .ok (.bipush 8, 2) := by decide +kernel
theorem d_J_word_10 : decode b_J_word 10 = .ok (.iadd, 1) := by decide +kernel
theorem d_J_word_11 : decode b_J_word 11 = .ok (.if_icmp .ge 58, 3) := by decide +kernel
theorem d_J_word_14 : decode b_J_word 14 = .ok (.iload 5, 2) := by decide +kernel
theorem d_J_word_16 : decode b_J_word 16 = .ok (.ifCond .lt 20, 3) := by decide +kernel
theorem d_J_word_19 : decode b_J_word 19 = .ok (.iload 5, 2) := by decide +kernel
theorem d_J_word_21 : decode b_J_word 21 = .ok (.iload_n 2, 1) := by decide +kernel
theorem d_J_word_22 : decode b_J_word 22 = .ok (.if_icmp .ge 14, 3) := by decide +kernel
theorem d_J_word_25 : decode b_J_word 25 = .ok (.iload 5, 2) := by decide +kernel
theorem d_J_word_27 : decode b_J_word 27 = .ok (.aload_n 0, 1) := by decide +kernel
theorem d_J_word_28 : decode b_J_word 28 = .ok (.arraylength, 1) := by decide +kernel
theorem d_J_word_29 : decode b_J_word 29 = .ok (.if_icmp .ge 7, 3) := by decide +kernel
theorem d_J_word_32 : decode b_J_word 32 = .ok (.iconst 1, 1) := by decide +kernel
theorem d_J_word_33 : decode b_J_word 33 = .ok (.goto 4, 3) := by decide +kernel
theorem d_J_word_36 : decode b_J_word 36 = .ok (.iconst 0, 1) := by decide +kernel
theorem d_J_word_37 : decode b_J_word 37 = .ok (.istore 6, 2) := by decide +kernel
theorem d_J_word_39 : decode b_J_word 39 = .ok (.lload_n 3, 1) := by decide +kernel
theorem d_J_word_40 : decode b_J_word 40 = .ok (.bipush 8, 2) := by decide +kernel
theorem d_J_word_42 : decode b_J_word 42 = .ok (.lshl, 1) := by decide +kernel
theorem d_J_word_43 : decode b_J_word 43 = .ok (.iload 6, 2) := by decide +kernel
theorem d_J_word_45 : decode b_J_word 45 = .ok (.ifCond .eq 14, 3) := by decide +kernel
theorem d_J_word_48 : decode b_J_word 48 = .ok (.aload_n 0, 1) := by decide +kernel
theorem d_J_word_49 : decode b_J_word 49 = .ok (.iload 5, 2) := by decide +kernel
theorem d_J_word_51 : decode b_J_word 51 = .ok (.baload, 1) := by decide +kernel
theorem d_J_word_52 : decode b_J_word 52 = .ok (.sipush 255, 3) := by decide +kernel
theorem d_J_word_55 : decode b_J_word 55 = .ok (.iand, 1) := by decide +kernel
theorem d_J_word_56 : decode b_J_word 56 = .ok (.goto 4, 3) := by decide +kernel
theorem d_J_word_59 : decode b_J_word 59 = .ok (.iconst 0, 1) := by decide +kernel
theorem d_J_word_60 : decode b_J_word 60 = .ok (.i2l, 1) := by decide +kernel
theorem d_J_word_61 : decode b_J_word 61 = .ok (.lor, 1) := by decide +kernel
theorem d_J_word_62 : decode b_J_word 62 = .ok (.lstore_n 3, 1) := by decide +kernel
theorem d_J_word_63 : decode b_J_word 63 = .ok (.iinc 5 1, 3) := by decide +kernel
theorem d_J_word_66 : decode b_J_word 66 = .ok (.goto (-61), 3) := by decide +kernel
theorem d_J_word_69 : decode b_J_word 69 = .ok (.lload_n 3, 1) := by decide +kernel
theorem d_J_word_70 : decode b_J_word 70 = .ok (.lreturn, 1) := by decide +kernel
theorem d_D_init_0 : decode b_D_init 0 = .ok (.aload_n 0, 1) := by decide +kernel
theorem d_D_init_1 : decode b_D_init 1 = .ok (.invokespecial 3, 3) := by decide +kernel
theorem d_D_init_4 : decode b_D_init 4 = .ok (.aload_n 0, 1) := by decide +kernel
theorem d_D_init_5 : decode b_D_init 5 = .ok (.ldc 9, 2) := by decide +kernel
theorem d_D_init_7 : decode b_D_init 7 = .ok (.newarray .byte, 2) := by decide +kernel
theorem d_D_init_9 : decode b_D_init 9 = .ok (.putfield 10, 3) := by decide +kernel
theorem d_D_init_12 : decode b_D_init 12 = .ok (.aload_n 0, 1) := by decide +kernel
theorem d_D_init_13 : decode b_D_init 13 = .ok (.iconst (-1), 1) := by decide +kernel
theorem d_D_init_14 : decode b_D_init 14 = .ok (.putfield 16, 3) := by decide +kernel
theorem d_D_init_17 : decode b_D_init 17 = .ok (.aload_n 0, 1) := by decide +kernel
theorem d_D_init_18 : decode b_D_init 18 = .ok (.iconst 0, 1) := by decide +kernel
theorem d_D_init_19 : decode b_D_init 19 = .ok (.putfield 20, 3) := by decide +kernel
theorem d_D_init_22 : decode b_D_init 22 = .ok (.return_, 1) := by decide +kernel
theorem d_D_write_0 : decode b_D_write 0 = .ok (.aload_n 0, 1) := by decide +kernel
theorem d_D_write_1 : decode b_D_write 1 = .ok (.getfield 16, 3) := by decide +kernel
theorem d_D_write_4 : decode b_D_write 4 = .ok (.ifCond .ne 10, 3) := by decide +kernel
theorem d_D_write_7 : decode b_D_write 7 = .ok (.aload_n 0, 1) := by decide +kernel
theorem d_D_write_8 : decode b_D_write 8 = .ok (.iconst (-1), 1) := by decide +kernel
theorem d_D_write_9 : decode b_D_write 9 = .ok (.putfield 16, 3) := by decide +kernel
theorem d_D_write_12 : decode b_D_write 12 = .ok (.iconst 0, 1) := by decide +kernel
theorem d_D_write_13 : decode b_D_write 13 = .ok (.ireturn, 1) := by decide +kernel
theorem d_D_write_14 : decode b_D_write 14 = .ok (.aload_n 0, 1) := by decide +kernel
theorem d_D_write_15 : decode b_D_write 15 = .ok (.getfield 16, 3) := by decide +kernel
theorem d_D_write_18 : decode b_D_write 18 = .ok (.ifCond .le 13, 3) := by decide +kernel
theorem d_D_write_21 : decode b_D_write 21 = .ok (.aload_n 0, 1) := by decide +kernel
theorem d_D_write_22 : decode b_D_write 22 = .ok (.dup, 1) := by decide +kernel
theorem d_D_write_23 : decode b_D_write 23 = .ok (.getfield 16, 3) := by decide +kernel
theorem d_D_write_26 : decode b_D_write 26 = .ok (.iconst 1, 1) := by decide +kernel
theorem d_D_write_27 : decode b_D_write 27 = .ok (.isub, 1) := by decide +kernel
theorem d_D_write_28 : decode b_D_write 28 = .ok (.putfield 16, 3) := by decide +kernel
theorem d_D_write_31 : decode b_D_write 31 = .ok (.aload_n 2, 1) := by decide +kernel
theorem d_D_write_32 : decode b_D_write 32 = .ok (.iload_n 3, 1) := by decide +kernel
theorem d_D_write_33 : decode b_D_write 33 = .ok (.aload_n 0, 1) := by decide +kernel
theorem d_D_write_34 : decode b_D_write 34 = .ok (.getfield 10, 3) := by decide +kernel
theorem d_D_write_37 : decode b_D_write 37 = .ok (.iload_n 1, 1) := by decide +kernel
theorem d_D_write_38 : decode b_D_write 38 = .ok (.sipush 512, 3) := by decide +kernel
theorem d_D_write_41 : decode b_D_write 41 = .ok (.imul, 1) := by decide +kernel
theorem d_D_write_42 : decode b_D_write 42 = .ok (.sipush 512, 3) := by decide +kernel
theorem d_D_write_45 : decode b_D_write 45 = .ok (.invokestatic 23, 3) := by decide +kernel
theorem d_D_write_48 : decode b_D_write 48 = .ok (.aload_n 0, 1) := by decide +kernel
theorem d_D_write_49 : decode b_D_write 49 = .ok (.dup, 1) := by decide +kernel
theorem d_D_write_50 : decode b_D_write 50 = .ok (.getfield 20, 3) := by decide +kernel
theorem d_D_write_53 : decode b_D_write 53 = .ok (.iconst 1, 1) := by decide +kernel
theorem d_D_write_54 : decode b_D_write 54 = .ok (.iadd, 1) := by decide +kernel
theorem d_D_write_55 : decode b_D_write 55 = .ok (.putfield 20, 3) := by decide +kernel
theorem d_D_write_58 : decode b_D_write 58 = .ok (.iconst 1, 1) := by decide +kernel
theorem d_D_write_59 : decode b_D_write 59 = .ok (.ireturn, 1) := by decide +kernel
theorem d_R_init_0 : decode b_R_init 0 = .ok (.aload_n 0, 1) := by decide +kernel
theorem d_R_init_1 : decode b_R_init 1 = .ok (.invokespecial 3, 3) := by decide +kernel
theorem d_R_init_4 : decode b_R_init 4 = .ok (.aload_n 0, 1) := by decide +kernel
theorem d_R_init_5 : decode b_R_init 5 = .ok (.sipush 1984, 3) := by decide +kernel
theorem d_R_init_8 : decode b_R_init 8 = .ok (.newarray .int, 2) := by decide +kernel
theorem d_R_init_10 : decode b_R_init 10 = .ok (.putfield 9, 3) := by decide +kernel
theorem d_R_init_13 : decode b_R_init 13 = .ok (.aload_n 0, 1) := by decide +kernel
theorem d_R_init_14 : decode b_R_init 14 = .ok (.sipush 1984, 3) := by decide +kernel
theorem d_R_init_17 : decode b_R_init 17 = .ok (.newarray .int, 2) := by decide +kernel
theorem d_R_init_19 : decode b_R_init 19 = .ok (.putfield 15, 3) := by decide +kernel
theorem d_R_init_22 : decode b_R_init 22 = .ok (.aload_n 0, 1) := by decide +kernel
theorem d_R_init_23 : decode b_R_init 23 = .ok (.sipush 1984, 3) := by decide +kernel
theorem d_R_init_26 : decode b_R_init 26 = .ok (.newarray .boolean, 2) := by decide +kernel
theorem d_R_init_28 : decode b_R_init 28 = .ok (.putfield 18, 3) := by decide +kernel
theorem d_R_init_31 : decode b_R_init 31 = .ok (.aload_n 0, 1) := by decide +kernel
theorem d_R_init_32 : decode b_R_init 32 = .ok (.iconst 0, 1) := by decide +kernel
theorem d_R_init_33 : decode b_R_init 33 = .ok (.putfield 22, 3) := by decide +kernel
theorem d_R_init_36 : decode b_R_init 36 = .ok (.aload_n 0, 1) := by decide +kernel
theorem d_R_init_37 : decode b_R_init 37 = .ok (.iconst 0, 1) := by decide +kernel
theorem d_R_init_38 : decode b_R_init 38 = .ok (.putfield 26, 3) := by decide +kernel
theorem d_R_init_41 : decode b_R_init 41 = .ok (.aload_n 0, 1) := by decide +kernel
theorem d_R_init_42 : decode b_R_init 42 = .ok (.iconst 0, 1) := by decide +kernel
theorem d_R_init_43 : decode b_R_init 43 = .ok (.putfield 29, 3) := by decide +kernel
theorem d_R_init_46 : decode b_R_init 46 = .ok (.return_, 1) := by decide +kernel
theorem d_R_has_0 : decode b_R_has 0 = .ok (.iload_n 1, 1) := by decide +kernel
theorem d_R_has_1 : decode b_R_has 1 = .ok (.ifCond .lt 15, 3) := by decide +kernel
theorem d_R_has_4 : decode b_R_has 4 = .ok (.iload_n 1, 1) := by decide +kernel
theorem d_R_has_5 : decode b_R_has 5 = .ok (.aload_n 0, 1) := by decide +kernel
theorem d_R_has_6 : decode b_R_has 6 = .ok (.getfield 22, 3) := by decide +kernel
theorem d_R_has_9 : decode b_R_has 9 = .ok (.if_icmp .ge 7, 3) := by decide +kernel
theorem d_R_has_12 : decode b_R_has 12 = .ok (.iconst 1, 1) := by decide +kernel
theorem d_R_has_13 : decode b_R_has 13 = .ok (.goto 4, 3) := by decide +kernel
theorem d_R_has_16 : decode b_R_has 16 = .ok (.iconst 0, 1) := by decide +kernel
theorem d_R_has_17 : decode b_R_has 17 = .ok (.ireturn, 1) := by decide +kernel
theorem d_R_clear_0 : decode b_R_clear 0 = .ok (.aload_n 0, 1) := by decide +kernel
theorem d_R_clear_1 : decode b_R_clear 1 = .ok (.iconst 0, 1) := by decide +kernel
theorem d_R_clear_2 : decode b_R_clear 2 = .ok (.putfield 22, 3) := by decide +kernel
theorem d_R_clear_5 : decode b_R_clear 5 = .ok (.aload_n 0, 1) := by decide +kernel
theorem d_R_clear_6 : decode b_R_clear 6 = .ok (.iconst 0, 1) := by decide +kernel
theorem d_R_clear_7 : decode b_R_clear 7 = .ok (.putfield 26, 3) := by decide +kernel
theorem d_R_clear_10 : decode b_R_clear 10 = .ok (.aload_n 0, 1) := by decide +kernel
theorem d_R_clear_11 : decode b_R_clear 11 = .ok (.iconst 0, 1) := by decide +kernel
theorem d_R_clear_12 : decode b_R_clear 12 = .ok (.putfield 29, 3) := by decide +kernel
theorem d_R_clear_15 : decode b_R_clear 15 = .ok (.return_, 1) := by decide +kernel
theorem d_R_add_0 : decode b_R_add 0 = .ok (.aload_n 0, 1) := by decide +kernel
theorem d_R_add_1 : decode b_R_add 1 = .ok (.getfield 22, 3) := by decide +kernel
theorem d_R_add_4 : decode b_R_add 4 = .ok (.sipush 1984, 3) := by decide +kernel
theorem d_R_add_7 : decode b_R_add 7 = .ok (.if_icmp .lt 4, 3) := by decide +kernel
theorem d_R_add_10 : decode b_R_add 10 = .ok (.return_, 1) := by decide +kernel
theorem d_R_add_11 : decode b_R_add 11 = .ok (.aload_n 0, 1) := by decide +kernel
theorem d_R_add_12 : decode b_R_add 12 = .ok (.getfield 9, 3) := by decide +kernel
theorem d_R_add_15 : decode b_R_add 15 = .ok (.aload_n 0, 1) := by decide +kernel
theorem d_R_add_16 : decode b_R_add 16 = .ok (.getfield 22, 3) := by decide +kernel
theorem d_R_add_19 : decode b_R_add 19 = .ok (.aload_n 0, 1) := by decide +kernel
theorem d_R_add_20 : decode b_R_add 20 = .ok (.getfield 26, 3) := by decide +kernel
theorem d_R_add_23 : decode b_R_add 23 = .ok (.iastore, 1) := by decide +kernel
theorem d_R_add_24 : decode b_R_add 24 = .ok (.aload_n 0, 1) := by decide +kernel
theorem d_R_add_25 : decode b_R_add 25 = .ok (.getfield 15, 3) := by decide +kernel
theorem d_R_add_28 : decode b_R_add 28 = .ok (.aload_n 0, 1) := by decide +kernel
theorem d_R_add_29 : decode b_R_add 29 = .ok (.getfield 22, 3) := by decide +kernel
theorem d_R_add_32 : decode b_R_add 32 = .ok (.iload_n 1, 1) := by decide +kernel
theorem d_R_add_33 : decode b_R_add 33 = .ok (.iastore, 1) := by decide +kernel
theorem d_R_add_34 : decode b_R_add 34 = .ok (.aload_n 0, 1) := by decide +kernel
theorem d_R_add_35 : decode b_R_add 35 = .ok (.getfield 18, 3) := by decide +kernel
theorem d_R_add_38 : decode b_R_add 38 = .ok (.aload_n 0, 1) := by decide +kernel
theorem d_R_add_39 : decode b_R_add 39 = .ok (.getfield 22, 3) := by decide +kernel
theorem d_R_add_42 : decode b_R_add 42 = .ok (.iconst 0, 1) := by decide +kernel
theorem d_R_add_43 : decode b_R_add 43 = .ok (.bastore, 1) := by decide +kernel
theorem d_R_add_44 : decode b_R_add 44 = .ok (.aload_n 0, 1) := by decide +kernel
theorem d_R_add_45 : decode b_R_add 45 = .ok (.dup, 1) := by decide +kernel
theorem d_R_add_46 : decode b_R_add 46 = .ok (.getfield 22, 3) := by decide +kernel
theorem d_R_add_49 : decode b_R_add 49 = .ok (.iconst 1, 1) := by decide +kernel
theorem d_R_add_50 : decode b_R_add 50 = .ok (.iadd, 1) := by decide +kernel
theorem d_R_add_51 : decode b_R_add 51 = .ok (.putfield 22, 3) := by decide +kernel
theorem d_R_add_54 : decode b_R_add 54 = .ok (.aload_n 0, 1) := by decide +kernel
theorem d_R_add_55 : decode b_R_add 55 = .ok (.dup, 1) := by decide +kernel
theorem d_R_add_56 : decode b_R_add 56 = .ok (.getfield 26, 3) := by decide +kernel
theorem d_R_add_59 : decode b_R_add 59 = .ok (.iload_n 1, 1) := by decide +kernel
theorem d_R_add_60 : decode b_R_add 60 = .ok (.invokestatic 32, 3) := by decide +kernel
theorem d_R_add_63 : decode b_R_add 63 = .ok (.iadd, 1) := by decide +kernel
theorem d_R_add_64 : decode b_R_add 64 = .ok (.putfield 26, 3) := by decide +kernel
theorem d_R_add_67 : decode b_R_add 67 = .ok (.return_, 1) := by decide +kernel
theorem d_R_setMark_0 : decode b_R_setMark 0 = .ok (.aload_n 0, 1) := by decide +kernel
theorem d_R_setMark_1 : decode b_R_setMark 1 = .ok (.iload_n 1, 1) := by decide +kernel
theorem d_R_setMark_2 : decode b_R_setMark 2 = .ok (.invokevirtual 36, 3) := by decide +kernel
theorem d_R_setMark_5 : decode b_R_setMark 5 = .ok (.ifCond .eq 38, 3) := by decide +kernel
theorem d_R_setMark_8 : decode b_R_setMark 8 = .ok (.aload_n 0, 1) := by decide +kernel
theorem d_R_setMark_9 : decode b_R_setMark 9 = .ok (.getfield 18, 3) := by decide +kernel
theorem d_R_setMark_12 : decode b_R_setMark 12 = .ok (.iload_n 1, 1) := by decide +kernel
theorem d_R_setMark_13 : decode b_R_setMark 13 = .ok (.baload, 1) := by decide +kernel
theorem d_R_setMark_14 : decode b_R_setMark 14 = .ok (.iload_n 2, 1) := by decide +kernel
theorem d_R_setMark_15 : decode b_R_setMark 15 = .ok (.if_icmp .eq 28, 3) := by decide +kernel
theorem d_R_setMark_18 : decode b_R_setMark 18 = .ok (.aload_n 0, 1) := by decide +kernel
theorem d_R_setMark_19 : decode b_R_setMark 19 = .ok (.getfield 18, 3) := by decide +kernel
theorem d_R_setMark_22 : decode b_R_setMark 22 = .ok (.iload_n 1, 1) := by decide +kernel
theorem d_R_setMark_23 : decode b_R_setMark 23 = .ok (.iload_n 2, 1) := by decide +kernel
theorem d_R_setMark_24 : decode b_R_setMark 24 = .ok (.bastore, 1) := by decide +kernel
theorem d_R_setMark_25 : decode b_R_setMark 25 = .ok (.aload_n 0, 1) := by decide +kernel
theorem d_R_setMark_26 : decode b_R_setMark 26 = .ok (.dup, 1) := by decide +kernel
theorem d_R_setMark_27 : decode b_R_setMark 27 = .ok (.getfield 29, 3) := by decide +kernel
theorem d_R_setMark_30 : decode b_R_setMark 30 = .ok (.iload_n 2, 1) := by decide +kernel
theorem d_R_setMark_31 : decode b_R_setMark 31 = .ok (.ifCond .eq 7, 3) := by decide +kernel
theorem d_R_setMark_34 : decode b_R_setMark 34 = .ok (.iconst 1, 1) := by decide +kernel
theorem d_R_setMark_35 : decode b_R_setMark 35 = .ok (.goto 4, 3) := by decide +kernel
theorem d_R_setMark_38 : decode b_R_setMark 38 = .ok (.iconst (-1), 1) := by decide +kernel
theorem d_R_setMark_39 : decode b_R_setMark 39 = .ok (.iadd, 1) := by decide +kernel
theorem d_R_setMark_40 : decode b_R_setMark 40 = .ok (.putfield 29, 3) := by decide +kernel
theorem d_R_setMark_43 : decode b_R_setMark 43 = .ok (.return_, 1) := by decide +kernel
theorem d_A_fill_0 : decode b_A_fill 0 = .ok (.aload_n 0, 1) := by decide +kernel
theorem d_A_fill_1 : decode b_A_fill 1 = .ok (.arraylength, 1) := by decide +kernel
theorem d_A_fill_2 : decode b_A_fill 2 = .ok (.iload_n 1, 1) := by decide +kernel
theorem d_A_fill_3 : decode b_A_fill 3 = .ok (.iload_n 2, 1) := by decide +kernel
theorem d_A_fill_4 : decode b_A_fill 4 = .ok (.invokestatic 13, 3) := by decide +kernel
theorem d_A_fill_7 : decode b_A_fill 7 = .ok (.iload_n 1, 1) := by decide +kernel
theorem d_A_fill_8 : decode b_A_fill 8 = .ok (.istore 4, 2) := by decide +kernel
theorem d_A_fill_10 : decode b_A_fill 10 = .ok (.iload 4, 2) := by decide +kernel
theorem d_A_fill_12 : decode b_A_fill 12 = .ok (.iload_n 2, 1) := by decide +kernel
theorem d_A_fill_13 : decode b_A_fill 13 = .ok (.if_icmp .ge 14, 3) := by decide +kernel
theorem d_A_fill_16 : decode b_A_fill 16 = .ok (.aload_n 0, 1) := by decide +kernel
theorem d_A_fill_17 : decode b_A_fill 17 = .ok (.iload 4, 2) := by decide +kernel
theorem d_A_fill_19 : decode b_A_fill 19 = .ok (.iload_n 3, 1) := by decide +kernel
theorem d_A_fill_20 : decode b_A_fill 20 = .ok (.bastore, 1) := by decide +kernel
theorem d_A_fill_21 : decode b_A_fill 21 = .ok (.iinc 4 1, 3) := by decide +kernel
theorem d_A_fill_24 : decode b_A_fill 24 = .ok (.goto (-14), 3) := by decide +kernel
theorem d_A_fill_27 : decode b_A_fill 27 = .ok (.return_, 1) := by decide +kernel
theorem d_A_rangeCheck_0 : decode b_A_rangeCheck 0 = .ok (.iload_n 1, 1) := by decide +kernel
theorem d_A_rangeCheck_1 : decode b_A_rangeCheck 1 = .ok (.iload_n 2, 1) := by decide +kernel
theorem d_A_rangeCheck_2 : decode b_A_rangeCheck 2 = .ok (.if_icmp .le 44, 3) := by decide +kernel
theorem d_A_rangeCheck_46 : decode b_A_rangeCheck 46 = .ok (.iload_n 1, 1) := by decide +kernel
theorem d_A_rangeCheck_47 : decode b_A_rangeCheck 47 = .ok (.ifCond .ge 12, 3) := by decide +kernel
theorem d_A_rangeCheck_59 : decode b_A_rangeCheck 59 = .ok (.iload_n 2, 1) := by decide +kernel
theorem d_A_rangeCheck_60 : decode b_A_rangeCheck 60 = .ok (.iload_n 0, 1) := by decide +kernel
theorem d_A_rangeCheck_61 : decode b_A_rangeCheck 61 = .ok (.if_icmp .le 12, 3) := by decide +kernel
theorem d_A_rangeCheck_73 : decode b_A_rangeCheck 73 = .ok (.return_, 1) := by decide +kernel
end
section
theorem d_L_append_0 : decode b_L_append 0 = .ok (.aload_n 1, 1) := by decide +kernel
theorem d_L_append_1 : decode b_L_append 1 = .ok (.iconst 0, 1) := by decide +kernel
theorem d_L_append_2 : decode b_L_append 2 = .ok (.aload_n 0, 1) := by decide +kernel
theorem d_L_append_3 : decode b_L_append 3 = .ok (.invokevirtual 7, 3) := by decide +kernel
theorem d_L_append_6 : decode b_L_append 6 = .ok (.i2l, 1) := by decide +kernel
theorem d_L_append_7 : decode b_L_append 7 = .ok (.lastore, 1) := by decide +kernel
theorem d_L_append_8 : decode b_L_append 8 = .ok (.goto 12, 3) := by decide +kernel
theorem d_L_append_11 : decode b_L_append 11 = .ok (.astore_n 2, 1) := by decide +kernel
theorem d_L_append_12 : decode b_L_append 12 = .ok (.iconst 1, 1) := by decide +kernel
theorem d_L_append_13 : decode b_L_append 13 = .ok (.ireturn, 1) := by decide +kernel
theorem d_L_append_14 : decode b_L_append 14 = .ok (.astore_n 2, 1) := by decide +kernel
theorem d_L_append_15 : decode b_L_append 15 = .ok (.iconst 2, 1) := by decide +kernel
theorem d_L_append_16 : decode b_L_append 16 = .ok (.ireturn, 1) := by decide +kernel
theorem d_L_append_17 : decode b_L_append 17 = .ok (.astore_n 2, 1) := by decide +kernel
theorem d_L_append_18 : decode b_L_append 18 = .ok (.iconst 3, 1) := by decide +kernel
theorem d_L_append_19 : decode b_L_append 19 = .ok (.ireturn, 1) := by decide +kernel
theorem d_L_append_20 : decode b_L_append 20 = .ok (.iconst 0, 1) := by decide +kernel
theorem d_L_append_21 : decode b_L_append 21 = .ok (.ireturn, 1) := by decide +kernel
theorem d_L_compact_0 : decode b_L_compact 0 = .ok (.aload_n 1, 1) := by decide +kernel
theorem d_L_compact_1 : decode b_L_compact 1 = .ok (.iconst 0, 1) := by decide +kernel
theorem d_L_compact_2 : decode b_L_compact 2 = .ok (.aload_n 0, 1) := by decide +kernel
theorem d_L_compact_3 : decode b_L_compact 3 = .ok (.invokevirtual 19, 3) := by decide +kernel
theorem d_L_compact_6 : decode b_L_compact 6 = .ok (.i2l, 1) := by decide +kernel
theorem d_L_compact_7 : decode b_L_compact 7 = .ok (.lastore, 1) := by decide +kernel
theorem d_L_compact_8 : decode b_L_compact 8 = .ok (.goto 9, 3) := by decide +kernel
theorem d_L_compact_11 : decode b_L_compact 11 = .ok (.astore_n 2, 1) := by decide +kernel
theorem d_L_compact_12 : decode b_L_compact 12 = .ok (.iconst 1, 1) := by decide +kernel
theorem d_L_compact_13 : decode b_L_compact 13 = .ok (.ireturn, 1) := by decide +kernel
theorem d_L_compact_14 : decode b_L_compact 14 = .ok (.astore_n 2, 1) := by decide +kernel
theorem d_L_compact_15 : decode b_L_compact 15 = .ok (.iconst 2, 1) := by decide +kernel
theorem d_L_compact_16 : decode b_L_compact 16 = .ok (.ireturn, 1) := by decide +kernel
theorem d_L_compact_17 : decode b_L_compact 17 = .ok (.iconst 0, 1) := by decide +kernel
theorem d_L_compact_18 : decode b_L_compact 18 = .ok (.ireturn, 1) := by decide +kernel
theorem d_L_law_0 : decode b_L_law 0 = .ok (.new 8, 3) := by decide +kernel
theorem d_L_law_3 : decode b_L_law 3 = .ok (.dup, 1) := by decide +kernel
theorem d_L_law_4 : decode b_L_law 4 = .ok (.invokespecial 22, 3) := by decide +kernel
theorem d_L_law_7 : decode b_L_law 7 = .ok (.astore_n 1, 1) := by decide +kernel
theorem d_L_law_8 : decode b_L_law 8 = .ok (.new 23, 3) := by decide +kernel
theorem d_L_law_11 : decode b_L_law 11 = .ok (.dup, 1) := by decide +kernel
theorem d_L_law_12 : decode b_L_law 12 = .ok (.invokespecial 25, 3) := by decide +kernel
theorem d_L_law_15 : decode b_L_law 15 = .ok (.astore_n 2, 1) := by decide +kernel
theorem d_L_law_16 : decode b_L_law 16 = .ok (.iconst 1, 1) := by decide +kernel
theorem d_L_law_17 : decode b_L_law 17 = .ok (.newarray .long, 2) := by decide +kernel
theorem d_L_law_19 : decode b_L_law 19 = .ok (.astore_n 3, 1) := by decide +kernel
theorem d_L_law_20 : decode b_L_law 20 = .ok (.iconst 0, 1) := by decide +kernel
theorem d_L_law_21 : decode b_L_law 21 = .ok (.istore 4, 2) := by decide +kernel
theorem d_L_law_23 : decode b_L_law 23 = .ok (.iload 4, 2) := by decide +kernel
theorem d_L_law_25 : decode b_L_law 25 = .ok (.aload_n 0, 1) := by decide +kernel
theorem d_L_law_26 : decode b_L_law 26 = .ok (.arraylength, 1) := by decide +kernel
theorem d_L_law_27 : decode b_L_law 27 = .ok (.iconst 4, 1) := by decide +kernel
theorem d_L_law_28 : decode b_L_law 28 = .ok (.isub, 1) := by decide +kernel
theorem d_L_law_29 : decode b_L_law 29 = .ok (.if_icmp .gt 541, 3) := by decide +kernel
theorem d_L_law_32 : decode b_L_law 32 = .ok (.aload_n 0, 1) := by decide +kernel
theorem d_L_law_33 : decode b_L_law 33 = .ok (.iload 4, 2) := by decide +kernel
theorem d_L_law_35 : decode b_L_law 35 = .ok (.iaload, 1) := by decide +kernel
theorem d_L_law_36 : decode b_L_law 36 = .ok (.bipush 15, 2) := by decide +kernel
theorem d_L_law_38 : decode b_L_law 38 = .ok (.iand, 1) := by decide +kernel
theorem d_L_law_39 : decode b_L_law 39 = .ok (.tableswitch 525 0 13 #[69, 80, 149, 160, 204, 257, 301, 326, 337, 350, 399, 424, 462, 500], 69) := by decide +kernel
theorem d_L_law_108 : decode b_L_law 108 = .ok (.aload_n 1, 1) := by decide +kernel
theorem d_L_law_109 : decode b_L_law 109 = .ok (.invokevirtual 26, 3) := by decide +kernel
theorem d_L_law_112 : decode b_L_law 112 = .ok (.aload_n 2, 1) := by decide +kernel
theorem d_L_law_113 : decode b_L_law 113 = .ok (.invokevirtual 29, 3) := by decide +kernel
theorem d_L_law_116 : decode b_L_law 116 = .ok (.goto 448, 3) := by decide +kernel
theorem d_L_law_119 : decode b_L_law 119 = .ok (.aload_n 1, 1) := by decide +kernel
theorem d_L_law_120 : decode b_L_law 120 = .ok (.aload_n 0, 1) := by decide +kernel
theorem d_L_law_121 : decode b_L_law 121 = .ok (.iload 4, 2) := by decide +kernel
theorem d_L_law_123 : decode b_L_law 123 = .ok (.iconst 1, 1) := by decide +kernel
theorem d_L_law_124 : decode b_L_law 124 = .ok (.iadd, 1) := by decide +kernel
theorem d_L_law_125 : decode b_L_law 125 = .ok (.iaload, 1) := by decide +kernel
theorem d_L_law_126 : decode b_L_law 126 = .ok (.i2l, 1) := by decide +kernel
theorem d_L_law_127 : decode b_L_law 127 = .ok (.bipush 32, 2) := by decide +kernel
theorem d_L_law_129 : decode b_L_law 129 = .ok (.lshl, 1) := by decide +kernel
theorem d_L_law_130 : decode b_L_law 130 = .ok (.aload_n 0, 1) := by decide +kernel
theorem d_L_law_131 : decode b_L_law 131 = .ok (.iload 4, 2) := by decide +kernel
theorem d_L_law_133 : decode b_L_law 133 = .ok (.iconst 2, 1) := by decide +kernel
theorem d_L_law_134 : decode b_L_law 134 = .ok (.iadd, 1) := by decide +kernel
theorem d_L_law_135 : decode b_L_law 135 = .ok (.iaload, 1) := by decide +kernel
theorem d_L_law_136 : decode b_L_law 136 = .ok (.i2l, 1) := by decide +kernel
theorem d_L_law_137 : decode b_L_law 137 = .ok (.ldc2_w 30, 3) := by decide +kernel
theorem d_L_law_140 : decode b_L_law 140 = .ok (.land, 1) := by decide +kernel
theorem d_L_law_141 : decode b_L_law 141 = .ok (.lor, 1) := by decide +kernel
theorem d_L_law_142 : decode b_L_law 142 = .ok (.aload_n 0, 1) := by decide +kernel
theorem d_L_law_143 : decode b_L_law 143 = .ok (.iload 4, 2) := by decide +kernel
theorem d_L_law_145 : decode b_L_law 145 = .ok (.iconst 3, 1) := by decide +kernel
theorem d_L_law_146 : decode b_L_law 146 = .ok (.iadd, 1) := by decide +kernel
theorem d_L_law_147 : decode b_L_law 147 = .ok (.iaload, 1) := by decide +kernel
theorem d_L_law_148 : decode b_L_law 148 = .ok (.invokevirtual 32, 3) := by decide +kernel
theorem d_L_law_151 : decode b_L_law 151 = .ok (.aload_n 2, 1) := by decide +kernel
theorem d_L_law_152 : decode b_L_law 152 = .ok (.aload_n 0, 1) := by decide +kernel
theorem d_L_law_153 : decode b_L_law 153 = .ok (.iload 4, 2) := by decide +kernel
theorem d_L_law_155 : decode b_L_law 155 = .ok (.iconst 1, 1) := by decide +kernel
theorem d_L_law_156 : decode b_L_law 156 = .ok (.iadd, 1) := by decide +kernel
theorem d_L_law_157 : decode b_L_law 157 = .ok (.iaload, 1) := by decide +kernel
theorem d_L_law_158 : decode b_L_law 158 = .ok (.i2l, 1) := by decide +kernel
theorem d_L_law_159 : decode b_L_law 159 = .ok (.bipush 32, 2) := by decide +kernel
theorem d_L_law_161 : decode b_L_law 161 = .ok (.lshl, 1) := by decide +kernel
theorem d_L_law_162 : decode b_L_law 162 = .ok (.aload_n 0, 1) := by decide +kernel
theorem d_L_law_163 : decode b_L_law 163 = .ok (.iload 4, 2) := by decide +kernel
theorem d_L_law_165 : decode b_L_law 165 = .ok (.iconst 2, 1) := by decide +kernel
theorem d_L_law_166 : decode b_L_law 166 = .ok (.iadd, 1) := by decide +kernel
theorem d_L_law_167 : decode b_L_law 167 = .ok (.iaload, 1) := by decide +kernel
theorem d_L_law_168 : decode b_L_law 168 = .ok (.i2l, 1) := by decide +kernel
theorem d_L_law_169 : decode b_L_law 169 = .ok (.ldc2_w 30, 3) := by decide +kernel
theorem d_L_law_172 : decode b_L_law 172 = .ok (.land, 1) := by decide +kernel
theorem d_L_law_173 : decode b_L_law 173 = .ok (.lor, 1) := by decide +kernel
theorem d_L_law_174 : decode b_L_law 174 = .ok (.aload_n 0, 1) := by decide +kernel
theorem d_L_law_175 : decode b_L_law 175 = .ok (.iload 4, 2) := by decide +kernel
theorem d_L_law_177 : decode b_L_law 177 = .ok (.iconst 3, 1) := by decide +kernel
theorem d_L_law_178 : decode b_L_law 178 = .ok (.iadd, 1) := by decide +kernel
theorem d_L_law_179 : decode b_L_law 179 = .ok (.iaload, 1) := by decide +kernel
theorem d_L_law_180 : decode b_L_law 180 = .ok (.invokevirtual 36, 3) := by decide +kernel
theorem d_L_law_183 : decode b_L_law 183 = .ok (.if_icmp .eq 381, 3) := by decide +kernel
theorem d_L_law_186 : decode b_L_law 186 = .ok (.iconst 0, 1) := by decide +kernel
theorem d_L_law_187 : decode b_L_law 187 = .ok (.ireturn, 1) := by decide +kernel
theorem d_L_law_188 : decode b_L_law 188 = .ok (.aload_n 1, 1) := by decide +kernel
theorem d_L_law_189 : decode b_L_law 189 = .ok (.invokevirtual 37, 3) := by decide +kernel
theorem d_L_law_192 : decode b_L_law 192 = .ok (.aload_n 2, 1) := by decide +kernel
theorem d_L_law_193 : decode b_L_law 193 = .ok (.invokevirtual 40, 3) := by decide +kernel
theorem d_L_law_196 : decode b_L_law 196 = .ok (.goto 368, 3) := by decide +kernel
theorem d_L_law_199 : decode b_L_law 199 = .ok (.aload_n 1, 1) := by decide +kernel
theorem d_L_law_200 : decode b_L_law 200 = .ok (.aload_n 3, 1) := by decide +kernel
theorem d_L_law_201 : decode b_L_law 201 = .ok (.invokestatic 41, 3) := by decide +kernel
theorem d_L_law_204 : decode b_L_law 204 = .ok (.istore 5, 2) := by decide +kernel
theorem d_L_law_206 : decode b_L_law 206 = .ok (.aload_n 2, 1) := by decide +kernel
theorem d_L_law_207 : decode b_L_law 207 = .ok (.invokevirtual 46, 3) := by decide +kernel
theorem d_L_law_210 : decode b_L_law 210 = .ok (.istore 6, 2) := by decide +kernel
theorem d_L_law_212 : decode b_L_law 212 = .ok (.aload_n 2, 1) := by decide +kernel
theorem d_L_law_213 : decode b_L_law 213 = .ok (.invokevirtual 47, 3) := by decide +kernel
theorem d_L_law_216 : decode b_L_law 216 = .ok (.iload 5, 2) := by decide +kernel
theorem d_L_law_218 : decode b_L_law 218 = .ok (.if_icmp .eq 5, 3) := by decide +kernel
theorem d_L_law_221 : decode b_L_law 221 = .ok (.iconst 0, 1) := by decide +kernel
theorem d_L_law_222 : decode b_L_law 222 = .ok (.ireturn, 1) := by decide +kernel
theorem d_L_law_223 : decode b_L_law 223 = .ok (.iload 5, 2) := by decide +kernel
theorem d_L_law_225 : decode b_L_law 225 = .ok (.ifCond .ne 15, 3) := by decide +kernel
theorem d_L_law_228 : decode b_L_law 228 = .ok (.aload_n 3, 1) := by decide +kernel
theorem d_L_law_229 : decode b_L_law 229 = .ok (.iconst 0, 1) := by decide +kernel
theorem d_L_law_230 : decode b_L_law 230 = .ok (.laload, 1) := by decide +kernel
theorem d_L_law_231 : decode b_L_law 231 = .ok (.iload 6, 2) := by decide +kernel
theorem d_L_law_233 : decode b_L_law 233 = .ok (.i2l, 1) := by decide +kernel
theorem d_L_law_234 : decode b_L_law 234 = .ok (.lcmp, 1) := by decide +kernel
theorem d_L_law_235 : decode b_L_law 235 = .ok (.ifCond .eq 5, 3) := by decide +kernel
theorem d_L_law_238 : decode b_L_law 238 = .ok (.iconst 0, 1) := by decide +kernel
theorem d_L_law_239 : decode b_L_law 239 = .ok (.ireturn, 1) := by decide +kernel
theorem d_L_law_240 : decode b_L_law 240 = .ok (.goto 324, 3) := by decide +kernel
theorem d_L_law_243 : decode b_L_law 243 = .ok (.aload_n 1, 1) := by decide +kernel
theorem d_L_law_244 : decode b_L_law 244 = .ok (.aload_n 0, 1) := by decide +kernel
theorem d_L_law_245 : decode b_L_law 245 = .ok (.iload 4, 2) := by decide +kernel
theorem d_L_law_247 : decode b_L_law 247 = .ok (.iconst 1, 1) := by decide +kernel
theorem d_L_law_248 : decode b_L_law 248 = .ok (.iadd, 1) := by decide +kernel
theorem d_L_law_249 : decode b_L_law 249 = .ok (.iaload, 1) := by decide +kernel
theorem d_L_law_250 : decode b_L_law 250 = .ok (.aload_n 0, 1) := by decide +kernel
theorem d_L_law_251 : decode b_L_law 251 = .ok (.iload 4, 2) := by decide +kernel
theorem d_L_law_253 : decode b_L_law 253 = .ok (.iconst 2, 1) := by decide +kernel
theorem d_L_law_254 : decode b_L_law 254 = .ok (.iadd, 1) := by decide +kernel
theorem d_L_law_255 : decode b_L_law 255 = .ok (.iaload, 1) := by decide +kernel
theorem d_L_law_256 : decode b_L_law 256 = .ok (.ifCond .eq 7, 3) := by decide +kernel
theorem d_L_law_259 : decode b_L_law 259 = .ok (.iconst 1, 1) := by decide +kernel
theorem d_L_law_260 : decode b_L_law 260 = .ok (.goto 4, 3) := by decide +kernel
theorem d_L_law_263 : decode b_L_law 263 = .ok (.iconst 0, 1) := by decide +kernel
theorem d_L_law_264 : decode b_L_law 264 = .ok (.invokevirtual 50, 3) := by decide +kernel
theorem d_L_law_267 : decode b_L_law 267 = .ok (.aload_n 2, 1) := by decide +kernel
theorem d_L_law_268 : decode b_L_law 268 = .ok (.aload_n 0, 1) := by decide +kernel
theorem d_L_law_269 : decode b_L_law 269 = .ok (.iload 4, 2) := by decide +kernel
theorem d_L_law_271 : decode b_L_law 271 = .ok (.iconst 1, 1) := by decide +kernel
theorem d_L_law_272 : decode b_L_law 272 = .ok (.iadd, 1) := by decide +kernel
theorem d_L_law_273 : decode b_L_law 273 = .ok (.iaload, 1) := by decide +kernel
theorem d_L_law_274 : decode b_L_law 274 = .ok (.aload_n 0, 1) := by decide +kernel
theorem d_L_law_275 : decode b_L_law 275 = .ok (.iload 4, 2) := by decide +kernel
theorem d_L_law_277 : decode b_L_law 277 = .ok (.iconst 2, 1) := by decide +kernel
theorem d_L_law_278 : decode b_L_law 278 = .ok (.iadd, 1) := by decide +kernel
theorem d_L_law_279 : decode b_L_law 279 = .ok (.iaload, 1) := by decide +kernel
theorem d_L_law_280 : decode b_L_law 280 = .ok (.ifCond .eq 7, 3) := by decide +kernel
theorem d_L_law_283 : decode b_L_law 283 = .ok (.iconst 1, 1) := by decide +kernel
theorem d_L_law_284 : decode b_L_law 284 = .ok (.goto 4, 3) := by decide +kernel
theorem d_L_law_287 : decode b_L_law 287 = .ok (.iconst 0, 1) := by decide +kernel
theorem d_L_law_288 : decode b_L_law 288 = .ok (.invokevirtual 54, 3) := by decide +kernel
theorem d_L_law_291 : decode b_L_law 291 = .ok (.if_icmp .eq 273, 3) := by decide +kernel
theorem d_L_law_294 : decode b_L_law 294 = .ok (.iconst 0, 1) := by decide +kernel
theorem d_L_law_295 : decode b_L_law 295 = .ok (.ireturn, 1) := by decide +kernel
theorem d_L_law_296 : decode b_L_law 296 = .ok (.aload_n 1, 1) := by decide +kernel
theorem d_L_law_297 : decode b_L_law 297 = .ok (.aload_n 3, 1) := by decide +kernel
theorem d_L_law_298 : decode b_L_law 298 = .ok (.invokestatic 55, 3) := by decide +kernel
theorem d_L_law_301 : decode b_L_law 301 = .ok (.istore 5, 2) := by decide +kernel
theorem d_L_law_303 : decode b_L_law 303 = .ok (.aload_n 2, 1) := by decide +kernel
theorem d_L_law_304 : decode b_L_law 304 = .ok (.invokevirtual 57, 3) := by decide +kernel
theorem d_L_law_307 : decode b_L_law 307 = .ok (.istore 6, 2) := by decide +kernel
theorem d_L_law_309 : decode b_L_law 309 = .ok (.aload_n 2, 1) := by decide +kernel
theorem d_L_law_310 : decode b_L_law 310 = .ok (.invokevirtual 47, 3) := by decide +kernel
theorem d_L_law_313 : decode b_L_law 313 = .ok (.iload 5, 2) := by decide +kernel
theorem d_L_law_315 : decode b_L_law 315 = .ok (.if_icmp .eq 5, 3) := by decide +kernel
theorem d_L_law_318 : decode b_L_law 318 = .ok (.iconst 0, 1) := by decide +kernel
theorem d_L_law_319 : decode b_L_law 319 = .ok (.ireturn, 1) := by decide +kernel
theorem d_L_law_320 : decode b_L_law 320 = .ok (.iload 5, 2) := by decide +kernel
theorem d_L_law_322 : decode b_L_law 322 = .ok (.ifCond .ne 15, 3) := by decide +kernel
theorem d_L_law_325 : decode b_L_law 325 = .ok (.aload_n 3, 1) := by decide +kernel
theorem d_L_law_326 : decode b_L_law 326 = .ok (.iconst 0, 1) := by decide +kernel
theorem d_L_law_327 : decode b_L_law 327 = .ok (.laload, 1) := by decide +kernel
theorem d_L_law_328 : decode b_L_law 328 = .ok (.iload 6, 2) := by decide +kernel
theorem d_L_law_330 : decode b_L_law 330 = .ok (.i2l, 1) := by decide +kernel
theorem d_L_law_331 : decode b_L_law 331 = .ok (.lcmp, 1) := by decide +kernel
theorem d_L_law_332 : decode b_L_law 332 = .ok (.ifCond .eq 5, 3) := by decide +kernel
theorem d_L_law_335 : decode b_L_law 335 = .ok (.iconst 0, 1) := by decide +kernel
theorem d_L_law_336 : decode b_L_law 336 = .ok (.ireturn, 1) := by decide +kernel
theorem d_L_law_337 : decode b_L_law 337 = .ok (.goto 227, 3) := by decide +kernel
theorem d_L_law_340 : decode b_L_law 340 = .ok (.aload_n 1, 1) := by decide +kernel
theorem d_L_law_341 : decode b_L_law 341 = .ok (.aload_n 0, 1) := by decide +kernel
theorem d_L_law_342 : decode b_L_law 342 = .ok (.iload 4, 2) := by decide +kernel
theorem d_L_law_344 : decode b_L_law 344 = .ok (.iconst 1, 1) := by decide +kernel
theorem d_L_law_345 : decode b_L_law 345 = .ok (.iadd, 1) := by decide +kernel
theorem d_L_law_346 : decode b_L_law 346 = .ok (.iaload, 1) := by decide +kernel
theorem d_L_law_347 : decode b_L_law 347 = .ok (.invokevirtual 58, 3) := by decide +kernel
theorem d_L_law_350 : decode b_L_law 350 = .ok (.aload_n 2, 1) := by decide +kernel
theorem d_L_law_351 : decode b_L_law 351 = .ok (.aload_n 0, 1) := by decide +kernel
theorem d_L_law_352 : decode b_L_law 352 = .ok (.iload 4, 2) := by decide +kernel
theorem d_L_law_354 : decode b_L_law 354 = .ok (.iconst 1, 1) := by decide +kernel
theorem d_L_law_355 : decode b_L_law 355 = .ok (.iadd, 1) := by decide +kernel
theorem d_L_law_356 : decode b_L_law 356 = .ok (.iaload, 1) := by decide +kernel
theorem d_L_law_357 : decode b_L_law 357 = .ok (.invokevirtual 62, 3) := by decide +kernel
theorem d_L_law_360 : decode b_L_law 360 = .ok (.if_icmp .eq 204, 3) := by decide +kernel
theorem d_L_law_363 : decode b_L_law 363 = .ok (.iconst 0, 1) := by decide +kernel
theorem d_L_law_364 : decode b_L_law 364 = .ok (.ireturn, 1) := by decide +kernel
theorem d_L_law_365 : decode b_L_law 365 = .ok (.aload_n 1, 1) := by decide +kernel
theorem d_L_law_366 : decode b_L_law 366 = .ok (.invokevirtual 63, 3) := by decide +kernel
theorem d_L_law_369 : decode b_L_law 369 = .ok (.aload_n 2, 1) := by decide +kernel
theorem d_L_law_370 : decode b_L_law 370 = .ok (.invokevirtual 66, 3) := by decide +kernel
theorem d_L_law_373 : decode b_L_law 373 = .ok (.goto 191, 3) := by decide +kernel
theorem d_L_law_376 : decode b_L_law 376 = .ok (.aload_n 1, 1) := by decide +kernel
theorem d_L_law_377 : decode b_L_law 377 = .ok (.invokevirtual 67, 3) := by decide +kernel
theorem d_L_law_380 : decode b_L_law 380 = .ok (.aload_n 2, 1) := by decide +kernel
theorem d_L_law_381 : decode b_L_law 381 = .ok (.invokevirtual 70, 3) := by decide +kernel
theorem d_L_law_384 : decode b_L_law 384 = .ok (.if_icmp .eq 180, 3) := by decide +kernel
theorem d_L_law_387 : decode b_L_law 387 = .ok (.iconst 0, 1) := by decide +kernel
theorem d_L_law_388 : decode b_L_law 388 = .ok (.ireturn, 1) := by decide +kernel
theorem d_L_law_389 : decode b_L_law 389 = .ok (.aload_n 1, 1) := by decide +kernel
theorem d_L_law_390 : decode b_L_law 390 = .ok (.aload_n 0, 1) := by decide +kernel
theorem d_L_law_391 : decode b_L_law 391 = .ok (.iload 4, 2) := by decide +kernel
theorem d_L_law_393 : decode b_L_law 393 = .ok (.iconst 1, 1) := by decide +kernel
theorem d_L_law_394 : decode b_L_law 394 = .ok (.iadd, 1) := by decide +kernel
theorem d_L_law_395 : decode b_L_law 395 = .ok (.iaload, 1) := by decide +kernel
theorem d_L_law_396 : decode b_L_law 396 = .ok (.aload_n 0, 1) := by decide +kernel
theorem d_L_law_397 : decode b_L_law 397 = .ok (.iload 4, 2) := by decide +kernel
theorem d_L_law_399 : decode b_L_law 399 = .ok (.iconst 2, 1) := by decide +kernel
theorem d_L_law_400 : decode b_L_law 400 = .ok (.iadd, 1) := by decide +kernel
theorem d_L_law_401 : decode b_L_law 401 = .ok (.iaload, 1) := by decide +kernel
theorem d_L_law_402 : decode b_L_law 402 = .ok (.aload_n 0, 1) := by decide +kernel
theorem d_L_law_403 : decode b_L_law 403 = .ok (.iload 4, 2) := by decide +kernel
theorem d_L_law_405 : decode b_L_law 405 = .ok (.iconst 3, 1) := by decide +kernel
theorem d_L_law_406 : decode b_L_law 406 = .ok (.iadd, 1) := by decide +kernel
theorem d_L_law_407 : decode b_L_law 407 = .ok (.iaload, 1) := by decide +kernel
theorem d_L_law_408 : decode b_L_law 408 = .ok (.invokevirtual 71, 3) := by decide +kernel
theorem d_L_law_411 : decode b_L_law 411 = .ok (.aload_n 2, 1) := by decide +kernel
theorem d_L_law_412 : decode b_L_law 412 = .ok (.aload_n 0, 1) := by decide +kernel
theorem d_L_law_413 : decode b_L_law 413 = .ok (.iload 4, 2) := by decide +kernel
theorem d_L_law_415 : decode b_L_law 415 = .ok (.iconst 1, 1) := by decide +kernel
theorem d_L_law_416 : decode b_L_law 416 = .ok (.iadd, 1) := by decide +kernel
theorem d_L_law_417 : decode b_L_law 417 = .ok (.iaload, 1) := by decide +kernel
theorem d_L_law_418 : decode b_L_law 418 = .ok (.aload_n 0, 1) := by decide +kernel
theorem d_L_law_419 : decode b_L_law 419 = .ok (.iload 4, 2) := by decide +kernel
theorem d_L_law_421 : decode b_L_law 421 = .ok (.iconst 2, 1) := by decide +kernel
theorem d_L_law_422 : decode b_L_law 422 = .ok (.iadd, 1) := by decide +kernel
theorem d_L_law_423 : decode b_L_law 423 = .ok (.iaload, 1) := by decide +kernel
theorem d_L_law_424 : decode b_L_law 424 = .ok (.aload_n 0, 1) := by decide +kernel
theorem d_L_law_425 : decode b_L_law 425 = .ok (.iload 4, 2) := by decide +kernel
theorem d_L_law_427 : decode b_L_law 427 = .ok (.iconst 3, 1) := by decide +kernel
theorem d_L_law_428 : decode b_L_law 428 = .ok (.iadd, 1) := by decide +kernel
theorem d_L_law_429 : decode b_L_law 429 = .ok (.iaload, 1) := by decide +kernel
theorem d_L_law_430 : decode b_L_law 430 = .ok (.invokevirtual 75, 3) := by decide +kernel
theorem d_L_law_433 : decode b_L_law 433 = .ok (.if_icmp .eq 131, 3) := by decide +kernel
theorem d_L_law_436 : decode b_L_law 436 = .ok (.iconst 0, 1) := by decide +kernel
theorem d_L_law_437 : decode b_L_law 437 = .ok (.ireturn, 1) := by decide +kernel
theorem d_L_law_438 : decode b_L_law 438 = .ok (.aload_n 1, 1) := by decide +kernel
theorem d_L_law_439 : decode b_L_law 439 = .ok (.aload_n 0, 1) := by decide +kernel
theorem d_L_law_440 : decode b_L_law 440 = .ok (.iload 4, 2) := by decide +kernel
theorem d_L_law_442 : decode b_L_law 442 = .ok (.iconst 1, 1) := by decide +kernel
theorem d_L_law_443 : decode b_L_law 443 = .ok (.iadd, 1) := by decide +kernel
theorem d_L_law_444 : decode b_L_law 444 = .ok (.iaload, 1) := by decide +kernel
theorem d_L_law_445 : decode b_L_law 445 = .ok (.invokevirtual 76, 3) := by decide +kernel
theorem d_L_law_448 : decode b_L_law 448 = .ok (.aload_n 2, 1) := by decide +kernel
theorem d_L_law_449 : decode b_L_law 449 = .ok (.aload_n 0, 1) := by decide +kernel
theorem d_L_law_450 : decode b_L_law 450 = .ok (.iload 4, 2) := by decide +kernel
theorem d_L_law_452 : decode b_L_law 452 = .ok (.iconst 1, 1) := by decide +kernel
theorem d_L_law_453 : decode b_L_law 453 = .ok (.iadd, 1) := by decide +kernel
theorem d_L_law_454 : decode b_L_law 454 = .ok (.iaload, 1) := by decide +kernel
theorem d_L_law_455 : decode b_L_law 455 = .ok (.invokevirtual 80, 3) := by decide +kernel
theorem d_L_law_458 : decode b_L_law 458 = .ok (.if_icmp .eq 106, 3) := by decide +kernel
theorem d_L_law_461 : decode b_L_law 461 = .ok (.iconst 0, 1) := by decide +kernel
theorem d_L_law_462 : decode b_L_law 462 = .ok (.ireturn, 1) := by decide +kernel
theorem d_L_law_463 : decode b_L_law 463 = .ok (.aload_n 1, 1) := by decide +kernel
theorem d_L_law_464 : decode b_L_law 464 = .ok (.aload_n 0, 1) := by decide +kernel
theorem d_L_law_465 : decode b_L_law 465 = .ok (.iload 4, 2) := by decide +kernel
theorem d_L_law_467 : decode b_L_law 467 = .ok (.iconst 1, 1) := by decide +kernel
theorem d_L_law_468 : decode b_L_law 468 = .ok (.iadd, 1) := by decide +kernel
theorem d_L_law_469 : decode b_L_law 469 = .ok (.iaload, 1) := by decide +kernel
theorem d_L_law_470 : decode b_L_law 470 = .ok (.aload_n 0, 1) := by decide +kernel
theorem d_L_law_471 : decode b_L_law 471 = .ok (.iload 4, 2) := by decide +kernel
theorem d_L_law_473 : decode b_L_law 473 = .ok (.iconst 2, 1) := by decide +kernel
theorem d_L_law_474 : decode b_L_law 474 = .ok (.iadd, 1) := by decide +kernel
theorem d_L_law_475 : decode b_L_law 475 = .ok (.iaload, 1) := by decide +kernel
theorem d_L_law_476 : decode b_L_law 476 = .ok (.invokevirtual 81, 3) := by decide +kernel
theorem d_L_law_479 : decode b_L_law 479 = .ok (.aload_n 2, 1) := by decide +kernel
theorem d_L_law_480 : decode b_L_law 480 = .ok (.aload_n 0, 1) := by decide +kernel
theorem d_L_law_481 : decode b_L_law 481 = .ok (.iload 4, 2) := by decide +kernel
theorem d_L_law_483 : decode b_L_law 483 = .ok (.iconst 1, 1) := by decide +kernel
theorem d_L_law_484 : decode b_L_law 484 = .ok (.iadd, 1) := by decide +kernel
theorem d_L_law_485 : decode b_L_law 485 = .ok (.iaload, 1) := by decide +kernel
theorem d_L_law_486 : decode b_L_law 486 = .ok (.aload_n 0, 1) := by decide +kernel
theorem d_L_law_487 : decode b_L_law 487 = .ok (.iload 4, 2) := by decide +kernel
theorem d_L_law_489 : decode b_L_law 489 = .ok (.iconst 2, 1) := by decide +kernel
theorem d_L_law_490 : decode b_L_law 490 = .ok (.iadd, 1) := by decide +kernel
theorem d_L_law_491 : decode b_L_law 491 = .ok (.iaload, 1) := by decide +kernel
theorem d_L_law_492 : decode b_L_law 492 = .ok (.invokevirtual 85, 3) := by decide +kernel
theorem d_L_law_495 : decode b_L_law 495 = .ok (.lcmp, 1) := by decide +kernel
theorem d_L_law_496 : decode b_L_law 496 = .ok (.ifCond .eq 68, 3) := by decide +kernel
theorem d_L_law_499 : decode b_L_law 499 = .ok (.iconst 0, 1) := by decide +kernel
theorem d_L_law_500 : decode b_L_law 500 = .ok (.ireturn, 1) := by decide +kernel
theorem d_L_law_501 : decode b_L_law 501 = .ok (.aload_n 1, 1) := by decide +kernel
theorem d_L_law_502 : decode b_L_law 502 = .ok (.aload_n 0, 1) := by decide +kernel
theorem d_L_law_503 : decode b_L_law 503 = .ok (.iload 4, 2) := by decide +kernel
theorem d_L_law_505 : decode b_L_law 505 = .ok (.iconst 1, 1) := by decide +kernel
theorem d_L_law_506 : decode b_L_law 506 = .ok (.iadd, 1) := by decide +kernel
theorem d_L_law_507 : decode b_L_law 507 = .ok (.iaload, 1) := by decide +kernel
theorem d_L_law_508 : decode b_L_law 508 = .ok (.aload_n 0, 1) := by decide +kernel
theorem d_L_law_509 : decode b_L_law 509 = .ok (.iload 4, 2) := by decide +kernel
theorem d_L_law_511 : decode b_L_law 511 = .ok (.iconst 2, 1) := by decide +kernel
theorem d_L_law_512 : decode b_L_law 512 = .ok (.iadd, 1) := by decide +kernel
theorem d_L_law_513 : decode b_L_law 513 = .ok (.iaload, 1) := by decide +kernel
theorem d_L_law_514 : decode b_L_law 514 = .ok (.invokevirtual 86, 3) := by decide +kernel
theorem d_L_law_517 : decode b_L_law 517 = .ok (.aload_n 2, 1) := by decide +kernel
theorem d_L_law_518 : decode b_L_law 518 = .ok (.aload_n 0, 1) := by decide +kernel
theorem d_L_law_519 : decode b_L_law 519 = .ok (.iload 4, 2) := by decide +kernel
theorem d_L_law_521 : decode b_L_law 521 = .ok (.iconst 1, 1) := by decide +kernel
theorem d_L_law_522 : decode b_L_law 522 = .ok (.iadd, 1) := by decide +kernel
theorem d_L_law_523 : decode b_L_law 523 = .ok (.iaload, 1) := by decide +kernel
theorem d_L_law_524 : decode b_L_law 524 = .ok (.aload_n 0, 1) := by decide +kernel
theorem d_L_law_525 : decode b_L_law 525 = .ok (.iload 4, 2) := by decide +kernel
theorem d_L_law_527 : decode b_L_law 527 = .ok (.iconst 2, 1) := by decide +kernel
theorem d_L_law_528 : decode b_L_law 528 = .ok (.iadd, 1) := by decide +kernel
theorem d_L_law_529 : decode b_L_law 529 = .ok (.iaload, 1) := by decide +kernel
theorem d_L_law_530 : decode b_L_law 530 = .ok (.invokevirtual 89, 3) := by decide +kernel
theorem d_L_law_533 : decode b_L_law 533 = .ok (.lcmp, 1) := by decide +kernel
theorem d_L_law_534 : decode b_L_law 534 = .ok (.ifCond .eq 30, 3) := by decide +kernel
theorem d_L_law_537 : decode b_L_law 537 = .ok (.iconst 0, 1) := by decide +kernel
theorem d_L_law_538 : decode b_L_law 538 = .ok (.ireturn, 1) := by decide +kernel
theorem d_L_law_539 : decode b_L_law 539 = .ok (.aload_n 1, 1) := by decide +kernel
theorem d_L_law_540 : decode b_L_law 540 = .ok (.aload_n 0, 1) := by decide +kernel
theorem d_L_law_541 : decode b_L_law 541 = .ok (.iload 4, 2) := by decide +kernel
theorem d_L_law_543 : decode b_L_law 543 = .ok (.iconst 1, 1) := by decide +kernel
theorem d_L_law_544 : decode b_L_law 544 = .ok (.iadd, 1) := by decide +kernel
theorem d_L_law_545 : decode b_L_law 545 = .ok (.iaload, 1) := by decide +kernel
theorem d_L_law_546 : decode b_L_law 546 = .ok (.invokevirtual 90, 3) := by decide +kernel
theorem d_L_law_549 : decode b_L_law 549 = .ok (.aload_n 2, 1) := by decide +kernel
theorem d_L_law_550 : decode b_L_law 550 = .ok (.aload_n 0, 1) := by decide +kernel
theorem d_L_law_551 : decode b_L_law 551 = .ok (.iload 4, 2) := by decide +kernel
theorem d_L_law_553 : decode b_L_law 553 = .ok (.iconst 1, 1) := by decide +kernel
theorem d_L_law_554 : decode b_L_law 554 = .ok (.iadd, 1) := by decide +kernel
theorem d_L_law_555 : decode b_L_law 555 = .ok (.iaload, 1) := by decide +kernel
theorem d_L_law_556 : decode b_L_law 556 = .ok (.invokevirtual 93, 3) := by decide +kernel
theorem d_L_law_559 : decode b_L_law 559 = .ok (.if_icmp .eq 5, 3) := by decide +kernel
theorem d_L_law_562 : decode b_L_law 562 = .ok (.iconst 0, 1) := by decide +kernel
theorem d_L_law_563 : decode b_L_law 563 = .ok (.ireturn, 1) := by decide +kernel
theorem d_L_law_564 : decode b_L_law 564 = .ok (.iinc 4 4, 3) := by decide +kernel
theorem d_L_law_567 : decode b_L_law 567 = .ok (.goto (-544), 3) := by decide +kernel
theorem d_L_law_570 : decode b_L_law 570 = .ok (.iconst 1, 1) := by decide +kernel
theorem d_L_law_571 : decode b_L_law 571 = .ok (.ireturn, 1) := by decide +kernel
end
section
theorem d_M_init_0 : decode b_M_init 0 = .ok (.aload_n 0, 1) := by decide +kernel
theorem d_M_init_1 : decode b_M_init 1 = .ok (.invokespecial 1, 3) := by decide +kernel
theorem d_M_init_4 : decode b_M_init 4 = .ok (.aload_n 0, 1) := by decide +kernel
theorem d_M_init_5 : decode b_M_init 5 = .ok (.ldc 7, 2) := by decide +kernel
theorem d_M_init_7 : decode b_M_init 7 = .ok (.newarray .byte, 2) := by decide +kernel
theorem d_M_init_9 : decode b_M_init 9 = .ok (.putfield 8, 3) := by decide +kernel
theorem d_M_init_12 : decode b_M_init 12 = .ok (.aload_n 0, 1) := by decide +kernel
theorem d_M_init_13 : decode b_M_init 13 = .ok (.iconst 1, 1) := by decide +kernel
theorem d_M_init_14 : decode b_M_init 14 = .ok (.putfield 14, 3) := by decide +kernel
theorem d_M_init_17 : decode b_M_init 17 = .ok (.aload_n 0, 1) := by decide +kernel
theorem d_M_init_18 : decode b_M_init 18 = .ok (.sipush 2000, 3) := by decide +kernel
theorem d_M_init_21 : decode b_M_init 21 = .ok (.newarray .int, 2) := by decide +kernel
theorem d_M_init_23 : decode b_M_init 23 = .ok (.putfield 18, 3) := by decide +kernel
theorem d_M_init_26 : decode b_M_init 26 = .ok (.aload_n 0, 1) := by decide +kernel
theorem d_M_init_27 : decode b_M_init 27 = .ok (.sipush 2000, 3) := by decide +kernel
theorem d_M_init_30 : decode b_M_init 30 = .ok (.newarray .boolean, 2) := by decide +kernel
theorem d_M_init_32 : decode b_M_init 32 = .ok (.putfield 22, 3) := by decide +kernel
theorem d_M_init_35 : decode b_M_init 35 = .ok (.aload_n 0, 1) := by decide +kernel
theorem d_M_init_36 : decode b_M_init 36 = .ok (.sipush 1000, 3) := by decide +kernel
theorem d_M_init_39 : decode b_M_init 39 = .ok (.newarray .byte, 2) := by decide +kernel
theorem d_M_init_41 : decode b_M_init 41 = .ok (.putfield 26, 3) := by decide +kernel
theorem d_M_init_44 : decode b_M_init 44 = .ok (.aload_n 0, 1) := by decide +kernel
theorem d_M_init_45 : decode b_M_init 45 = .ok (.iconst (-1), 1) := by decide +kernel
theorem d_M_init_46 : decode b_M_init 46 = .ok (.putfield 29, 3) := by decide +kernel
theorem d_M_init_49 : decode b_M_init 49 = .ok (.aload_n 0, 1) := by decide +kernel
theorem d_M_init_50 : decode b_M_init 50 = .ok (.sipush 15872, 3) := by decide +kernel
theorem d_M_init_53 : decode b_M_init 53 = .ok (.newarray .byte, 2) := by decide +kernel
theorem d_M_init_55 : decode b_M_init 55 = .ok (.putfield 32, 3) := by decide +kernel
theorem d_M_init_58 : decode b_M_init 58 = .ok (.aload_n 0, 1) := by decide +kernel
theorem d_M_init_59 : decode b_M_init 59 = .ok (.sipush 512, 3) := by decide +kernel
theorem d_M_init_62 : decode b_M_init 62 = .ok (.newarray .byte, 2) := by decide +kernel
theorem d_M_init_64 : decode b_M_init 64 = .ok (.putfield 35, 3) := by decide +kernel
theorem d_M_init_67 : decode b_M_init 67 = .ok (.return_, 1) := by decide +kernel
theorem d_M_thrown_0 : decode b_M_thrown 0 = .ok (.aload_n 0, 1) := by decide +kernel
theorem d_M_thrown_1 : decode b_M_thrown 1 = .ok (.getfield 38, 3) := by decide +kernel
theorem d_M_thrown_4 : decode b_M_thrown 4 = .ok (.ireturn, 1) := by decide +kernel
theorem d_M_checkOf_0 : decode b_M_checkOf 0 = .ok (.iconst (-1), 1) := by decide +kernel
theorem d_M_checkOf_1 : decode b_M_checkOf 1 = .ok (.istore_n 3, 1) := by decide +kernel
theorem d_M_checkOf_2 : decode b_M_checkOf 2 = .ok (.iload_n 1, 1) := by decide +kernel
theorem d_M_checkOf_3 : decode b_M_checkOf 3 = .ok (.istore 4, 2) := by decide +kernel
theorem d_M_checkOf_5 : decode b_M_checkOf 5 = .ok (.iload 4, 2) := by decide +kernel
theorem d_M_checkOf_7 : decode b_M_checkOf 7 = .ok (.iload_n 2, 1) := by decide +kernel
theorem d_M_checkOf_8 : decode b_M_checkOf 8 = .ok (.if_icmp .ge 56, 3) := by decide +kernel
theorem d_M_checkOf_11 : decode b_M_checkOf 11 = .ok (.iload_n 3, 1) := by decide +kernel
theorem d_M_checkOf_12 : decode b_M_checkOf 12 = .ok (.aload_n 0, 1) := by decide +kernel
theorem d_M_checkOf_13 : decode b_M_checkOf 13 = .ok (.iload 4, 2) := by decide +kernel
theorem d_M_checkOf_15 : decode b_M_checkOf 15 = .ok (.baload, 1) := by decide +kernel
theorem d_M_checkOf_16 : decode b_M_checkOf 16 = .ok (.sipush 255, 3) := by decide +kernel
theorem d_M_checkOf_19 : decode b_M_checkOf 19 = .ok (.iand, 1) := by decide +kernel
theorem d_M_checkOf_20 : decode b_M_checkOf 20 = .ok (.ixor, 1) := by decide +kernel
theorem d_M_checkOf_21 : decode b_M_checkOf 21 = .ok (.istore_n 3, 1) := by decide +kernel
theorem d_M_checkOf_22 : decode b_M_checkOf 22 = .ok (.iconst 0, 1) := by decide +kernel
theorem d_M_checkOf_23 : decode b_M_checkOf 23 = .ok (.istore 5, 2) := by decide +kernel
theorem d_M_checkOf_25 : decode b_M_checkOf 25 = .ok (.iload 5, 2) := by decide +kernel
theorem d_M_checkOf_27 : decode b_M_checkOf 27 = .ok (.bipush 8, 2) := by decide +kernel
theorem d_M_checkOf_29 : decode b_M_checkOf 29 = .ok (.if_icmp .ge 29, 3) := by decide +kernel
theorem d_M_checkOf_32 : decode b_M_checkOf 32 = .ok (.iload_n 3, 1) := by decide +kernel
theorem d_M_checkOf_33 : decode b_M_checkOf 33 = .ok (.iconst 1, 1) := by decide +kernel
theorem d_M_checkOf_34 : decode b_M_checkOf 34 = .ok (.iand, 1) := by decide +kernel
theorem d_M_checkOf_35 : decode b_M_checkOf 35 = .ok (.iconst 1, 1) := by decide +kernel
theorem d_M_checkOf_36 : decode b_M_checkOf 36 = .ok (.if_icmp .ne 12, 3) := by decide +kernel
theorem d_M_checkOf_39 : decode b_M_checkOf 39 = .ok (.iload_n 3, 1) := by decide +kernel
theorem d_M_checkOf_40 : decode b_M_checkOf 40 = .ok (.iconst 1, 1) := by decide +kernel
theorem d_M_checkOf_41 : decode b_M_checkOf 41 = .ok (.iushr, 1) := by decide +kernel
theorem d_M_checkOf_42 : decode b_M_checkOf 42 = .ok (.ldc 41, 2) := by decide +kernel
theorem d_M_checkOf_44 : decode b_M_checkOf 44 = .ok (.ixor, 1) := by decide +kernel
theorem d_M_checkOf_45 : decode b_M_checkOf 45 = .ok (.goto 6, 3) := by decide +kernel
theorem d_M_checkOf_48 : decode b_M_checkOf 48 = .ok (.iload_n 3, 1) := by decide +kernel
theorem d_M_checkOf_49 : decode b_M_checkOf 49 = .ok (.iconst 1, 1) := by decide +kernel
theorem d_M_checkOf_50 : decode b_M_checkOf 50 = .ok (.iushr, 1) := by decide +kernel
theorem d_M_checkOf_51 : decode b_M_checkOf 51 = .ok (.istore_n 3, 1) := by decide +kernel
theorem d_M_checkOf_52 : decode b_M_checkOf 52 = .ok (.iinc 5 1, 3) := by decide +kernel
theorem d_M_checkOf_55 : decode b_M_checkOf 55 = .ok (.goto (-30), 3) := by decide +kernel
theorem d_M_checkOf_58 : decode b_M_checkOf 58 = .ok (.iinc 4 1, 3) := by decide +kernel
theorem d_M_checkOf_61 : decode b_M_checkOf 61 = .ok (.goto (-56), 3) := by decide +kernel
theorem d_M_checkOf_64 : decode b_M_checkOf 64 = .ok (.iload_n 3, 1) := by decide +kernel
theorem d_M_checkOf_65 : decode b_M_checkOf 65 = .ok (.iconst (-1), 1) := by decide +kernel
theorem d_M_checkOf_66 : decode b_M_checkOf 66 = .ok (.ixor, 1) := by decide +kernel
theorem d_M_checkOf_67 : decode b_M_checkOf 67 = .ok (.ireturn, 1) := by decide +kernel
theorem d_M_four_0 : decode b_M_four 0 = .ok (.aload_n 0, 1) := by decide +kernel
theorem d_M_four_1 : decode b_M_four 1 = .ok (.iload_n 1, 1) := by decide +kernel
theorem d_M_four_2 : decode b_M_four 2 = .ok (.baload, 1) := by decide +kernel
theorem d_M_four_3 : decode b_M_four 3 = .ok (.sipush 255, 3) := by decide +kernel
theorem d_M_four_6 : decode b_M_four 6 = .ok (.iand, 1) := by decide +kernel
theorem d_M_four_7 : decode b_M_four 7 = .ok (.aload_n 0, 1) := by decide +kernel
theorem d_M_four_8 : decode b_M_four 8 = .ok (.iload_n 1, 1) := by decide +kernel
theorem d_M_four_9 : decode b_M_four 9 = .ok (.iconst 1, 1) := by decide +kernel
theorem d_M_four_10 : decode b_M_four 10 = .ok (.iadd, 1) := by decide +kernel
theorem d_M_four_11 : decode b_M_four 11 = .ok (.baload, 1) := by decide +kernel
theorem d_M_four_12 : decode b_M_four 12 = .ok (.sipush 255, 3) := by decide +kernel
theorem d_M_four_15 : decode b_M_four 15 = .ok (.iand, 1) := by decide +kernel
theorem d_M_four_16 : decode b_M_four 16 = .ok (.bipush 8, 2) := by decide +kernel
theorem d_M_four_18 : decode b_M_four 18 = .ok (.ishl, 1) := by decide +kernel
theorem d_M_four_19 : decode b_M_four 19 = .ok (.ior, 1) := by decide +kernel
theorem d_M_four_20 : decode b_M_four 20 = .ok (.aload_n 0, 1) := by decide +kernel
theorem d_M_four_21 : decode b_M_four 21 = .ok (.iload_n 1, 1) := by decide +kernel
theorem d_M_four_22 : decode b_M_four 22 = .ok (.iconst 2, 1) := by decide +kernel
theorem d_M_four_23 : decode b_M_four 23 = .ok (.iadd, 1) := by decide +kernel
theorem d_M_four_24 : decode b_M_four 24 = .ok (.baload, 1) := by decide +kernel
theorem d_M_four_25 : decode b_M_four 25 = .ok (.sipush 255, 3) := by decide +kernel
theorem d_M_four_28 : decode b_M_four 28 = .ok (.iand, 1) := by decide +kernel
theorem d_M_four_29 : decode b_M_four 29 = .ok (.bipush 16, 2) := by decide +kernel
theorem d_M_four_31 : decode b_M_four 31 = .ok (.ishl, 1) := by decide +kernel
theorem d_M_four_32 : decode b_M_four 32 = .ok (.ior, 1) := by decide +kernel
theorem d_M_four_33 : decode b_M_four 33 = .ok (.aload_n 0, 1) := by decide +kernel
theorem d_M_four_34 : decode b_M_four 34 = .ok (.iload_n 1, 1) := by decide +kernel
theorem d_M_four_35 : decode b_M_four 35 = .ok (.iconst 3, 1) := by decide +kernel
theorem d_M_four_36 : decode b_M_four 36 = .ok (.iadd, 1) := by decide +kernel
theorem d_M_four_37 : decode b_M_four 37 = .ok (.baload, 1) := by decide +kernel
theorem d_M_four_38 : decode b_M_four 38 = .ok (.sipush 255, 3) := by decide +kernel
theorem d_M_four_41 : decode b_M_four 41 = .ok (.iand, 1) := by decide +kernel
theorem d_M_four_42 : decode b_M_four 42 = .ok (.bipush 24, 2) := by decide +kernel
theorem d_M_four_44 : decode b_M_four 44 = .ok (.ishl, 1) := by decide +kernel
theorem d_M_four_45 : decode b_M_four 45 = .ok (.ior, 1) := by decide +kernel
theorem d_M_four_46 : decode b_M_four 46 = .ok (.ireturn, 1) := by decide +kernel
theorem d_M_putFour_0 : decode b_M_putFour 0 = .ok (.iconst 0, 1) := by decide +kernel
theorem d_M_putFour_1 : decode b_M_putFour 1 = .ok (.istore_n 3, 1) := by decide +kernel
theorem d_M_putFour_2 : decode b_M_putFour 2 = .ok (.iload_n 3, 1) := by decide +kernel
theorem d_M_putFour_3 : decode b_M_putFour 3 = .ok (.iconst 4, 1) := by decide +kernel
theorem d_M_putFour_4 : decode b_M_putFour 4 = .ok (.if_icmp .ge 21, 3) := by decide +kernel
theorem d_M_putFour_7 : decode b_M_putFour 7 = .ok (.aload_n 0, 1) := by decide +kernel
theorem d_M_putFour_8 : decode b_M_putFour 8 = .ok (.iload_n 1, 1) := by decide +kernel
theorem d_M_putFour_9 : decode b_M_putFour 9 = .ok (.iload_n 3, 1) := by decide +kernel
theorem d_M_putFour_10 : decode b_M_putFour 10 = .ok (.iadd, 1) := by decide +kernel
theorem d_M_putFour_11 : decode b_M_putFour 11 = .ok (.iload_n 2, 1) := by decide +kernel
theorem d_M_putFour_12 : decode b_M_putFour 12 = .ok (.bipush 8, 2) := by decide +kernel
theorem d_M_putFour_14 : decode b_M_putFour 14 = .ok (.iload_n 3, 1) := by decide +kernel
theorem d_M_putFour_15 : decode b_M_putFour 15 = .ok (.imul, 1) := by decide +kernel
theorem d_M_putFour_16 : decode b_M_putFour 16 = .ok (.ishr, 1) := by decide +kernel
theorem d_M_putFour_17 : decode b_M_putFour 17 = .ok (.i2b, 1) := by decide +kernel
theorem d_M_putFour_18 : decode b_M_putFour 18 = .ok (.bastore, 1) := by decide +kernel
theorem d_M_putFour_19 : decode b_M_putFour 19 = .ok (.iinc 3 1, 3) := by decide +kernel
theorem d_M_putFour_22 : decode b_M_putFour 22 = .ok (.goto (-20), 3) := by decide +kernel
theorem d_M_putFour_25 : decode b_M_putFour 25 = .ok (.return_, 1) := by decide +kernel
theorem d_M_begin_0 : decode b_M_begin 0 = .ok (.sipush 512, 3) := by decide +kernel
theorem d_M_begin_3 : decode b_M_begin 3 = .ok (.iload_n 0, 1) := by decide +kernel
theorem d_M_begin_4 : decode b_M_begin 4 = .ok (.ifCond .ne 7, 3) := by decide +kernel
theorem d_M_begin_7 : decode b_M_begin 7 = .ok (.iconst 2, 1) := by decide +kernel
theorem d_M_begin_8 : decode b_M_begin 8 = .ok (.goto 5, 3) := by decide +kernel
theorem d_M_begin_11 : decode b_M_begin 11 = .ok (.bipush 33, 2) := by decide +kernel
theorem d_M_begin_13 : decode b_M_begin 13 = .ok (.imul, 1) := by decide +kernel
theorem d_M_begin_14 : decode b_M_begin 14 = .ok (.ireturn, 1) := by decide +kernel
theorem d_M_isHead_0 : decode b_M_isHead 0 = .ok (.sipush 512, 3) := by decide +kernel
theorem d_M_isHead_3 : decode b_M_isHead 3 = .ok (.iload_n 1, 1) := by decide +kernel
theorem d_M_isHead_4 : decode b_M_isHead 4 = .ok (.imul, 1) := by decide +kernel
theorem d_M_isHead_5 : decode b_M_isHead 5 = .ok (.istore_n 2, 1) := by decide +kernel
theorem d_M_isHead_6 : decode b_M_isHead 6 = .ok (.aload_n 0, 1) := by decide +kernel
theorem d_M_isHead_7 : decode b_M_isHead 7 = .ok (.getfield 8, 3) := by decide +kernel
theorem d_M_isHead_10 : decode b_M_isHead 10 = .ok (.iload_n 2, 1) := by decide +kernel
theorem d_M_isHead_11 : decode b_M_isHead 11 = .ok (.baload, 1) := by decide +kernel
theorem d_M_isHead_12 : decode b_M_isHead 12 = .ok (.bipush 74, 2) := by decide +kernel
theorem d_M_isHead_14 : decode b_M_isHead 14 = .ok (.if_icmp .ne 54, 3) := by decide +kernel
theorem d_M_isHead_17 : decode b_M_isHead 17 = .ok (.aload_n 0, 1) := by decide +kernel
theorem d_M_isHead_18 : decode b_M_isHead 18 = .ok (.getfield 8, 3) := by decide +kernel
theorem d_M_isHead_21 : decode b_M_isHead 21 = .ok (.iload_n 2, 1) := by decide +kernel
theorem d_M_isHead_22 : decode b_M_isHead 22 = .ok (.iconst 1, 1) := by decide +kernel
theorem d_M_isHead_23 : decode b_M_isHead 23 = .ok (.iadd, 1) := by decide +kernel
theorem d_M_isHead_24 : decode b_M_isHead 24 = .ok (.baload, 1) := by decide +kernel
theorem d_M_isHead_25 : decode b_M_isHead 25 = .ok (.bipush 49, 2) := by decide +kernel
theorem d_M_isHead_27 : decode b_M_isHead 27 = .ok (.if_icmp .ne 41, 3) := by decide +kernel
theorem d_M_isHead_30 : decode b_M_isHead 30 = .ok (.aload_n 0, 1) := by decide +kernel
theorem d_M_isHead_31 : decode b_M_isHead 31 = .ok (.getfield 8, 3) := by decide +kernel
theorem d_M_isHead_34 : decode b_M_isHead 34 = .ok (.iload_n 2, 1) := by decide +kernel
theorem d_M_isHead_35 : decode b_M_isHead 35 = .ok (.iconst 2, 1) := by decide +kernel
theorem d_M_isHead_36 : decode b_M_isHead 36 = .ok (.iadd, 1) := by decide +kernel
theorem d_M_isHead_37 : decode b_M_isHead 37 = .ok (.baload, 1) := by decide +kernel
theorem d_M_isHead_38 : decode b_M_isHead 38 = .ok (.ifCond .lt 30, 3) := by decide +kernel
theorem d_M_isHead_41 : decode b_M_isHead 41 = .ok (.aload_n 0, 1) := by decide +kernel
theorem d_M_isHead_42 : decode b_M_isHead 42 = .ok (.getfield 8, 3) := by decide +kernel
theorem d_M_isHead_45 : decode b_M_isHead 45 = .ok (.iload_n 2, 1) := by decide +kernel
theorem d_M_isHead_46 : decode b_M_isHead 46 = .ok (.iconst 2, 1) := by decide +kernel
theorem d_M_isHead_47 : decode b_M_isHead 47 = .ok (.iadd, 1) := by decide +kernel
theorem d_M_isHead_48 : decode b_M_isHead 48 = .ok (.baload, 1) := by decide +kernel
theorem d_M_isHead_49 : decode b_M_isHead 49 = .ok (.iconst 2, 1) := by decide +kernel
theorem d_M_isHead_50 : decode b_M_isHead 50 = .ok (.if_icmp .ge 18, 3) := by decide +kernel
theorem d_M_isHead_53 : decode b_M_isHead 53 = .ok (.aload_n 0, 1) := by decide +kernel
theorem d_M_isHead_54 : decode b_M_isHead 54 = .ok (.getfield 8, 3) := by decide +kernel
theorem d_M_isHead_57 : decode b_M_isHead 57 = .ok (.iload_n 2, 1) := by decide +kernel
theorem d_M_isHead_58 : decode b_M_isHead 58 = .ok (.iconst 3, 1) := by decide +kernel
theorem d_M_isHead_59 : decode b_M_isHead 59 = .ok (.iadd, 1) := by decide +kernel
theorem d_M_isHead_60 : decode b_M_isHead 60 = .ok (.baload, 1) := by decide +kernel
theorem d_M_isHead_61 : decode b_M_isHead 61 = .ok (.ifCond .ne 7, 3) := by decide +kernel
theorem d_M_isHead_64 : decode b_M_isHead 64 = .ok (.iconst 1, 1) := by decide +kernel
theorem d_M_isHead_65 : decode b_M_isHead 65 = .ok (.goto 4, 3) := by decide +kernel
theorem d_M_isHead_68 : decode b_M_isHead 68 = .ok (.iconst 0, 1) := by decide +kernel
theorem d_M_isHead_69 : decode b_M_isHead 69 = .ok (.istore_n 3, 1) := by decide +kernel
theorem d_M_isHead_70 : decode b_M_isHead 70 = .ok (.iload_n 3, 1) := by decide +kernel
theorem d_M_isHead_71 : decode b_M_isHead 71 = .ok (.ifCond .eq 46, 3) := by decide +kernel
theorem d_M_isHead_74 : decode b_M_isHead 74 = .ok (.aload_n 0, 1) := by decide +kernel
theorem d_M_isHead_75 : decode b_M_isHead 75 = .ok (.getfield 8, 3) := by decide +kernel
theorem d_M_isHead_78 : decode b_M_isHead 78 = .ok (.iload_n 2, 1) := by decide +kernel
theorem d_M_isHead_79 : decode b_M_isHead 79 = .ok (.iconst 4, 1) := by decide +kernel
theorem d_M_isHead_80 : decode b_M_isHead 80 = .ok (.iadd, 1) := by decide +kernel
theorem d_M_isHead_81 : decode b_M_isHead 81 = .ok (.invokestatic 42, 3) := by decide +kernel
theorem d_M_isHead_84 : decode b_M_isHead 84 = .ok (.ifCond .le 33, 3) := by decide +kernel
theorem d_M_isHead_87 : decode b_M_isHead 87 = .ok (.aload_n 0, 1) := by decide +kernel
theorem d_M_isHead_88 : decode b_M_isHead 88 = .ok (.getfield 8, 3) := by decide +kernel
theorem d_M_isHead_91 : decode b_M_isHead 91 = .ok (.iload_n 2, 1) := by decide +kernel
theorem d_M_isHead_92 : decode b_M_isHead 92 = .ok (.bipush 8, 2) := by decide +kernel
theorem d_M_isHead_94 : decode b_M_isHead 94 = .ok (.iadd, 1) := by decide +kernel
theorem d_M_isHead_95 : decode b_M_isHead 95 = .ok (.invokestatic 42, 3) := by decide +kernel
theorem d_M_isHead_98 : decode b_M_isHead 98 = .ok (.aload_n 0, 1) := by decide +kernel
theorem d_M_isHead_99 : decode b_M_isHead 99 = .ok (.getfield 8, 3) := by decide +kernel
theorem d_M_isHead_102 : decode b_M_isHead 102 = .ok (.iload_n 2, 1) := by decide +kernel
theorem d_M_isHead_103 : decode b_M_isHead 103 = .ok (.iload_n 2, 1) := by decide +kernel
theorem d_M_isHead_104 : decode b_M_isHead 104 = .ok (.bipush 8, 2) := by decide +kernel
theorem d_M_isHead_106 : decode b_M_isHead 106 = .ok (.iadd, 1) := by decide +kernel
theorem d_M_isHead_107 : decode b_M_isHead 107 = .ok (.invokestatic 46, 3) := by decide +kernel
theorem d_M_isHead_110 : decode b_M_isHead 110 = .ok (.if_icmp .ne 7, 3) := by decide +kernel
theorem d_M_isHead_113 : decode b_M_isHead 113 = .ok (.iconst 1, 1) := by decide +kernel
theorem d_M_isHead_114 : decode b_M_isHead 114 = .ok (.goto 4, 3) := by decide +kernel
theorem d_M_isHead_117 : decode b_M_isHead 117 = .ok (.iconst 0, 1) := by decide +kernel
theorem d_M_isHead_118 : decode b_M_isHead 118 = .ok (.ireturn, 1) := by decide +kernel
theorem d_M_sizeOf_0 : decode b_M_sizeOf 0 = .ok (.bipush 6, 2) := by decide +kernel
theorem d_M_sizeOf_2 : decode b_M_sizeOf 2 = .ok (.iload_n 0, 1) := by decide +kernel
theorem d_M_sizeOf_3 : decode b_M_sizeOf 3 = .ok (.iadd, 1) := by decide +kernel
theorem d_M_sizeOf_4 : decode b_M_sizeOf 4 = .ok (.iload_n 0, 1) := by decide +kernel
theorem d_M_sizeOf_5 : decode b_M_sizeOf 5 = .ok (.iconst 2, 1) := by decide +kernel
theorem d_M_sizeOf_6 : decode b_M_sizeOf 6 = .ok (.irem, 1) := by decide +kernel
theorem d_M_sizeOf_7 : decode b_M_sizeOf 7 = .ok (.iadd, 1) := by decide +kernel
theorem d_M_sizeOf_8 : decode b_M_sizeOf 8 = .ok (.ireturn, 1) := by decide +kernel
theorem d_M_recordAt_0 : decode b_M_recordAt 0 = .ok (.iload_n 1, 1) := by decide +kernel
theorem d_M_recordAt_1 : decode b_M_recordAt 1 = .ok (.iconst 2, 1) := by decide +kernel
theorem d_M_recordAt_2 : decode b_M_recordAt 2 = .ok (.iadd, 1) := by decide +kernel
theorem d_M_recordAt_3 : decode b_M_recordAt 3 = .ok (.sipush 15872, 3) := by decide +kernel
theorem d_M_recordAt_6 : decode b_M_recordAt 6 = .ok (.if_icmp .le 5, 3) := by decide +kernel
theorem d_M_recordAt_9 : decode b_M_recordAt 9 = .ok (.iconst 0, 1) := by decide +kernel
theorem d_M_recordAt_10 : decode b_M_recordAt 10 = .ok (.ireturn, 1) := by decide +kernel
theorem d_M_recordAt_11 : decode b_M_recordAt 11 = .ok (.aload_n 0, 1) := by decide +kernel
theorem d_M_recordAt_12 : decode b_M_recordAt 12 = .ok (.getfield 50, 3) := by decide +kernel
theorem d_M_recordAt_15 : decode b_M_recordAt 15 = .ok (.invokestatic 53, 3) := by decide +kernel
theorem d_M_recordAt_18 : decode b_M_recordAt 18 = .ok (.iload_n 1, 1) := by decide +kernel
theorem d_M_recordAt_19 : decode b_M_recordAt 19 = .ok (.iadd, 1) := by decide +kernel
theorem d_M_recordAt_20 : decode b_M_recordAt 20 = .ok (.istore_n 2, 1) := by decide +kernel
theorem d_M_recordAt_21 : decode b_M_recordAt 21 = .ok (.aload_n 0, 1) := by decide +kernel
theorem d_M_recordAt_22 : decode b_M_recordAt 22 = .ok (.getfield 8, 3) := by decide +kernel
theorem d_M_recordAt_25 : decode b_M_recordAt 25 = .ok (.iload_n 2, 1) := by decide +kernel
theorem d_M_recordAt_26 : decode b_M_recordAt 26 = .ok (.baload, 1) := by decide +kernel
theorem d_M_recordAt_27 : decode b_M_recordAt 27 = .ok (.sipush 255, 3) := by decide +kernel
theorem d_M_recordAt_30 : decode b_M_recordAt 30 = .ok (.iand, 1) := by decide +kernel
theorem d_M_recordAt_31 : decode b_M_recordAt 31 = .ok (.sipush 256, 3) := by decide +kernel
theorem d_M_recordAt_34 : decode b_M_recordAt 34 = .ok (.aload_n 0, 1) := by decide +kernel
theorem d_M_recordAt_35 : decode b_M_recordAt 35 = .ok (.getfield 8, 3) := by decide +kernel
theorem d_M_recordAt_38 : decode b_M_recordAt 38 = .ok (.iload_n 2, 1) := by decide +kernel
theorem d_M_recordAt_39 : decode b_M_recordAt 39 = .ok (.iconst 1, 1) := by decide +kernel
theorem d_M_recordAt_40 : decode b_M_recordAt 40 = .ok (.iadd, 1) := by decide +kernel
theorem d_M_recordAt_41 : decode b_M_recordAt 41 = .ok (.baload, 1) := by decide +kernel
theorem d_M_recordAt_42 : decode b_M_recordAt 42 = .ok (.sipush 255, 3) := by decide +kernel
theorem d_M_recordAt_45 : decode b_M_recordAt 45 = .ok (.iand, 1) := by decide +kernel
theorem d_M_recordAt_46 : decode b_M_recordAt 46 = .ok (.imul, 1) := by decide +kernel
theorem d_M_recordAt_47 : decode b_M_recordAt 47 = .ok (.iadd, 1) := by decide +kernel
theorem d_M_recordAt_48 : decode b_M_recordAt 48 = .ok (.istore_n 3, 1) := by decide +kernel
theorem d_M_recordAt_49 : decode b_M_recordAt 49 = .ok (.iload_n 3, 1) := by decide +kernel
theorem d_M_recordAt_50 : decode b_M_recordAt 50 = .ok (.iconst 1, 1) := by decide +kernel
theorem d_M_recordAt_51 : decode b_M_recordAt 51 = .ok (.if_icmp .lt 22, 3) := by decide +kernel
theorem d_M_recordAt_54 : decode b_M_recordAt 54 = .ok (.iload_n 3, 1) := by decide +kernel
theorem d_M_recordAt_55 : decode b_M_recordAt 55 = .ok (.sipush 1000, 3) := by decide +kernel
theorem d_M_recordAt_58 : decode b_M_recordAt 58 = .ok (.if_icmp .gt 15, 3) := by decide +kernel
theorem d_M_recordAt_61 : decode b_M_recordAt 61 = .ok (.iload_n 1, 1) := by decide +kernel
theorem d_M_recordAt_62 : decode b_M_recordAt 62 = .ok (.iload_n 3, 1) := by decide +kernel
theorem d_M_recordAt_63 : decode b_M_recordAt 63 = .ok (.invokestatic 57, 3) := by decide +kernel
theorem d_M_recordAt_66 : decode b_M_recordAt 66 = .ok (.iadd, 1) := by decide +kernel
theorem d_M_recordAt_67 : decode b_M_recordAt 67 = .ok (.sipush 15872, 3) := by decide +kernel
theorem d_M_recordAt_70 : decode b_M_recordAt 70 = .ok (.if_icmp .le 5, 3) := by decide +kernel
theorem d_M_recordAt_73 : decode b_M_recordAt 73 = .ok (.iconst 0, 1) := by decide +kernel
theorem d_M_recordAt_74 : decode b_M_recordAt 74 = .ok (.ireturn, 1) := by decide +kernel
theorem d_M_recordAt_75 : decode b_M_recordAt 75 = .ok (.aload_n 0, 1) := by decide +kernel
theorem d_M_recordAt_76 : decode b_M_recordAt 76 = .ok (.getfield 8, 3) := by decide +kernel
theorem d_M_recordAt_79 : decode b_M_recordAt 79 = .ok (.iload_n 2, 1) := by decide +kernel
theorem d_M_recordAt_80 : decode b_M_recordAt 80 = .ok (.iconst 2, 1) := by decide +kernel
theorem d_M_recordAt_81 : decode b_M_recordAt 81 = .ok (.iadd, 1) := by decide +kernel
theorem d_M_recordAt_82 : decode b_M_recordAt 82 = .ok (.iload_n 3, 1) := by decide +kernel
theorem d_M_recordAt_83 : decode b_M_recordAt 83 = .ok (.iadd, 1) := by decide +kernel
theorem d_M_recordAt_84 : decode b_M_recordAt 84 = .ok (.invokestatic 42, 3) := by decide +kernel
theorem d_M_recordAt_87 : decode b_M_recordAt 87 = .ok (.aload_n 0, 1) := by decide +kernel
theorem d_M_recordAt_88 : decode b_M_recordAt 88 = .ok (.getfield 8, 3) := by decide +kernel
theorem d_M_recordAt_91 : decode b_M_recordAt 91 = .ok (.iload_n 2, 1) := by decide +kernel
theorem d_M_recordAt_92 : decode b_M_recordAt 92 = .ok (.iload_n 2, 1) := by decide +kernel
theorem d_M_recordAt_93 : decode b_M_recordAt 93 = .ok (.iconst 2, 1) := by decide +kernel
theorem d_M_recordAt_94 : decode b_M_recordAt 94 = .ok (.iadd, 1) := by decide +kernel
theorem d_M_recordAt_95 : decode b_M_recordAt 95 = .ok (.iload_n 3, 1) := by decide +kernel
theorem d_M_recordAt_96 : decode b_M_recordAt 96 = .ok (.iadd, 1) := by decide +kernel
theorem d_M_recordAt_97 : decode b_M_recordAt 97 = .ok (.invokestatic 46, 3) := by decide +kernel
theorem d_M_recordAt_100 : decode b_M_recordAt 100 = .ok (.if_icmp .ne 7, 3) := by decide +kernel
theorem d_M_recordAt_103 : decode b_M_recordAt 103 = .ok (.iload_n 3, 1) := by decide +kernel
theorem d_M_recordAt_104 : decode b_M_recordAt 104 = .ok (.goto 4, 3) := by decide +kernel
theorem d_M_recordAt_107 : decode b_M_recordAt 107 = .ok (.iconst 0, 1) := by decide +kernel
theorem d_M_recordAt_108 : decode b_M_recordAt 108 = .ok (.ireturn, 1) := by decide +kernel
theorem d_M_findRecords_0 : decode b_M_findRecords 0 = .ok (.aload_n 0, 1) := by decide +kernel
theorem d_M_findRecords_1 : decode b_M_findRecords 1 = .ok (.iconst 0, 1) := by decide +kernel
theorem d_M_findRecords_2 : decode b_M_findRecords 2 = .ok (.putfield 60, 3) := by decide +kernel
theorem d_M_findRecords_5 : decode b_M_findRecords 5 = .ok (.aload_n 0, 1) := by decide +kernel
theorem d_M_findRecords_6 : decode b_M_findRecords 6 = .ok (.iconst 0, 1) := by decide +kernel
theorem d_M_findRecords_7 : decode b_M_findRecords 7 = .ok (.putfield 63, 3) := by decide +kernel
theorem d_M_findRecords_10 : decode b_M_findRecords 10 = .ok (.aload_n 0, 1) := by decide +kernel
theorem d_M_findRecords_11 : decode b_M_findRecords 11 = .ok (.iconst 0, 1) := by decide +kernel
theorem d_M_findRecords_12 : decode b_M_findRecords 12 = .ok (.invokevirtual 66, 3) := by decide +kernel
theorem d_M_findRecords_15 : decode b_M_findRecords 15 = .ok (.istore_n 1, 1) := by decide +kernel
theorem d_M_findRecords_16 : decode b_M_findRecords 16 = .ok (.iload_n 1, 1) := by decide +kernel
theorem d_M_findRecords_17 : decode b_M_findRecords 17 = .ok (.ifCond .le 51, 3) := by decide +kernel
theorem d_M_findRecords_20 : decode b_M_findRecords 20 = .ok (.aload_n 0, 1) := by decide +kernel
theorem d_M_findRecords_21 : decode b_M_findRecords 21 = .ok (.getfield 18, 3) := by decide +kernel
theorem d_M_findRecords_24 : decode b_M_findRecords 24 = .ok (.aload_n 0, 1) := by decide +kernel
theorem d_M_findRecords_25 : decode b_M_findRecords 25 = .ok (.getfield 60, 3) := by decide +kernel
theorem d_M_findRecords_28 : decode b_M_findRecords 28 = .ok (.aload_n 0, 1) := by decide +kernel
theorem d_M_findRecords_29 : decode b_M_findRecords 29 = .ok (.getfield 63, 3) := by decide +kernel
theorem d_M_findRecords_32 : decode b_M_findRecords 32 = .ok (.iastore, 1) := by decide +kernel
theorem d_M_findRecords_33 : decode b_M_findRecords 33 = .ok (.aload_n 0, 1) := by decide +kernel
theorem d_M_findRecords_34 : decode b_M_findRecords 34 = .ok (.dup, 1) := by decide +kernel
theorem d_M_findRecords_35 : decode b_M_findRecords 35 = .ok (.getfield 60, 3) := by decide +kernel
theorem d_M_findRecords_38 : decode b_M_findRecords 38 = .ok (.iconst 1, 1) := by decide +kernel
theorem d_M_findRecords_39 : decode b_M_findRecords 39 = .ok (.iadd, 1) := by decide +kernel
theorem d_M_findRecords_40 : decode b_M_findRecords 40 = .ok (.putfield 60, 3) := by decide +kernel
theorem d_M_findRecords_43 : decode b_M_findRecords 43 = .ok (.aload_n 0, 1) := by decide +kernel
theorem d_M_findRecords_44 : decode b_M_findRecords 44 = .ok (.dup, 1) := by decide +kernel
theorem d_M_findRecords_45 : decode b_M_findRecords 45 = .ok (.getfield 63, 3) := by decide +kernel
theorem d_M_findRecords_48 : decode b_M_findRecords 48 = .ok (.iload_n 1, 1) := by decide +kernel
theorem d_M_findRecords_49 : decode b_M_findRecords 49 = .ok (.invokestatic 57, 3) := by decide +kernel
theorem d_M_findRecords_52 : decode b_M_findRecords 52 = .ok (.iadd, 1) := by decide +kernel
theorem d_M_findRecords_53 : decode b_M_findRecords 53 = .ok (.putfield 63, 3) := by decide +kernel
theorem d_M_findRecords_56 : decode b_M_findRecords 56 = .ok (.aload_n 0, 1) := by decide +kernel
theorem d_M_findRecords_57 : decode b_M_findRecords 57 = .ok (.aload_n 0, 1) := by decide +kernel
theorem d_M_findRecords_58 : decode b_M_findRecords 58 = .ok (.getfield 63, 3) := by decide +kernel
theorem d_M_findRecords_61 : decode b_M_findRecords 61 = .ok (.invokevirtual 66, 3) := by decide +kernel
theorem d_M_findRecords_64 : decode b_M_findRecords 64 = .ok (.istore_n 1, 1) := by decide +kernel
theorem d_M_findRecords_65 : decode b_M_findRecords 65 = .ok (.goto (-49), 3) := by decide +kernel
theorem d_M_findRecords_68 : decode b_M_findRecords 68 = .ok (.return_, 1) := by decide +kernel
theorem d_M_down_0 : decode b_M_down 0 = .ok (.aload_n 0, 1) := by decide +kernel
theorem d_M_down_1 : decode b_M_down 1 = .ok (.iconst 0, 1) := by decide +kernel
theorem d_M_down_2 : decode b_M_down 2 = .ok (.putfield 14, 3) := by decide +kernel
theorem d_M_down_5 : decode b_M_down 5 = .ok (.aload_n 0, 1) := by decide +kernel
theorem d_M_down_6 : decode b_M_down 6 = .ok (.invokevirtual 69, 3) := by decide +kernel
theorem d_M_down_9 : decode b_M_down 9 = .ok (.return_, 1) := by decide +kernel
theorem d_M_leave_0 : decode b_M_leave 0 = .ok (.aload_n 0, 1) := by decide +kernel
theorem d_M_leave_1 : decode b_M_leave 1 = .ok (.iconst 0, 1) := by decide +kernel
theorem d_M_leave_2 : decode b_M_leave 2 = .ok (.putfield 72, 3) := by decide +kernel
theorem d_M_leave_5 : decode b_M_leave 5 = .ok (.aload_n 0, 1) := by decide +kernel
theorem d_M_leave_6 : decode b_M_leave 6 = .ok (.iconst 0, 1) := by decide +kernel
theorem d_M_leave_7 : decode b_M_leave 7 = .ok (.putfield 50, 3) := by decide +kernel
theorem d_M_leave_10 : decode b_M_leave 10 = .ok (.aload_n 0, 1) := by decide +kernel
theorem d_M_leave_11 : decode b_M_leave 11 = .ok (.iconst 0, 1) := by decide +kernel
theorem d_M_leave_12 : decode b_M_leave 12 = .ok (.putfield 63, 3) := by decide +kernel
theorem d_M_leave_15 : decode b_M_leave 15 = .ok (.aload_n 0, 1) := by decide +kernel
theorem d_M_leave_16 : decode b_M_leave 16 = .ok (.iconst 0, 1) := by decide +kernel
theorem d_M_leave_17 : decode b_M_leave 17 = .ok (.putfield 60, 3) := by decide +kernel
theorem d_M_leave_20 : decode b_M_leave 20 = .ok (.return_, 1) := by decide +kernel
theorem d_M_unmark_0 : decode b_M_unmark 0 = .ok (.iconst 0, 1) := by decide +kernel
theorem d_M_unmark_1 : decode b_M_unmark 1 = .ok (.istore_n 1, 1) := by decide +kernel
theorem d_M_unmark_2 : decode b_M_unmark 2 = .ok (.iload_n 1, 1) := by decide +kernel
theorem d_M_unmark_3 : decode b_M_unmark 3 = .ok (.sipush 2000, 3) := by decide +kernel
theorem d_M_unmark_6 : decode b_M_unmark 6 = .ok (.if_icmp .ge 16, 3) := by decide +kernel
theorem d_M_unmark_9 : decode b_M_unmark 9 = .ok (.aload_n 0, 1) := by decide +kernel
theorem d_M_unmark_10 : decode b_M_unmark 10 = .ok (.getfield 22, 3) := by decide +kernel
theorem d_M_unmark_13 : decode b_M_unmark 13 = .ok (.iload_n 1, 1) := by decide +kernel
theorem d_M_unmark_14 : decode b_M_unmark 14 = .ok (.iconst 0, 1) := by decide +kernel
theorem d_M_unmark_15 : decode b_M_unmark 15 = .ok (.bastore, 1) := by decide +kernel
theorem d_M_unmark_16 : decode b_M_unmark 16 = .ok (.iinc 1 1, 3) := by decide +kernel
theorem d_M_unmark_19 : decode b_M_unmark 19 = .ok (.goto (-17), 3) := by decide +kernel
theorem d_M_unmark_22 : decode b_M_unmark 22 = .ok (.return_, 1) := by decide +kernel
theorem d_M_recover_0 : decode b_M_recover 0 = .ok (.aload_n 0, 1) := by decide +kernel
theorem d_M_recover_1 : decode b_M_recover 1 = .ok (.iconst 0, 1) := by decide +kernel
theorem d_M_recover_2 : decode b_M_recover 2 = .ok (.putfield 38, 3) := by decide +kernel
theorem d_M_recover_5 : decode b_M_recover 5 = .ok (.aload_n 0, 1) := by decide +kernel
theorem d_M_recover_6 : decode b_M_recover 6 = .ok (.iconst (-1), 1) := by decide +kernel
theorem d_M_recover_7 : decode b_M_recover 7 = .ok (.putfield 29, 3) := by decide +kernel
theorem d_M_recover_10 : decode b_M_recover 10 = .ok (.aload_n 0, 1) := by decide +kernel
theorem d_M_recover_11 : decode b_M_recover 11 = .ok (.invokevirtual 75, 3) := by decide +kernel
theorem d_M_recover_14 : decode b_M_recover 14 = .ok (.aload_n 0, 1) := by decide +kernel
theorem d_M_recover_15 : decode b_M_recover 15 = .ok (.iconst 0, 1) := by decide +kernel
theorem d_M_recover_16 : decode b_M_recover 16 = .ok (.invokevirtual 78, 3) := by decide +kernel
theorem d_M_recover_19 : decode b_M_recover 19 = .ok (.istore_n 1, 1) := by decide +kernel
theorem d_M_recover_20 : decode b_M_recover 20 = .ok (.aload_n 0, 1) := by decide +kernel
theorem d_M_recover_21 : decode b_M_recover 21 = .ok (.iconst 1, 1) := by decide +kernel
theorem d_M_recover_22 : decode b_M_recover 22 = .ok (.invokevirtual 78, 3) := by decide +kernel
theorem d_M_recover_25 : decode b_M_recover 25 = .ok (.istore_n 2, 1) := by decide +kernel
theorem d_M_recover_26 : decode b_M_recover 26 = .ok (.iload_n 1, 1) := by decide +kernel
theorem d_M_recover_27 : decode b_M_recover 27 = .ok (.ifCond .ne 18, 3) := by decide +kernel
theorem d_M_recover_30 : decode b_M_recover 30 = .ok (.iload_n 2, 1) := by decide +kernel
theorem d_M_recover_31 : decode b_M_recover 31 = .ok (.ifCond .ne 14, 3) := by decide +kernel
theorem d_M_recover_34 : decode b_M_recover 34 = .ok (.aload_n 0, 1) := by decide +kernel
theorem d_M_recover_35 : decode b_M_recover 35 = .ok (.iconst 1, 1) := by decide +kernel
theorem d_M_recover_36 : decode b_M_recover 36 = .ok (.putfield 14, 3) := by decide +kernel
theorem d_M_recover_39 : decode b_M_recover 39 = .ok (.aload_n 0, 1) := by decide +kernel
theorem d_M_recover_40 : decode b_M_recover 40 = .ok (.invokevirtual 69, 3) := by decide +kernel
theorem d_M_recover_43 : decode b_M_recover 43 = .ok (.iconst (-1), 1) := by decide +kernel
theorem d_M_recover_44 : decode b_M_recover 44 = .ok (.ireturn, 1) := by decide +kernel
theorem d_M_recover_45 : decode b_M_recover 45 = .ok (.iload_n 1, 1) := by decide +kernel
theorem d_M_recover_46 : decode b_M_recover 46 = .ok (.ifCond .eq 32, 3) := by decide +kernel
theorem d_M_recover_49 : decode b_M_recover 49 = .ok (.iload_n 2, 1) := by decide +kernel
theorem d_M_recover_50 : decode b_M_recover 50 = .ok (.ifCond .eq 24, 3) := by decide +kernel
theorem d_M_recover_53 : decode b_M_recover 53 = .ok (.aload_n 0, 1) := by decide +kernel
theorem d_M_recover_54 : decode b_M_recover 54 = .ok (.getfield 8, 3) := by decide +kernel
theorem d_M_recover_57 : decode b_M_recover 57 = .ok (.iconst 4, 1) := by decide +kernel
theorem d_M_recover_58 : decode b_M_recover 58 = .ok (.invokestatic 42, 3) := by decide +kernel
theorem d_M_recover_61 : decode b_M_recover 61 = .ok (.aload_n 0, 1) := by decide +kernel
theorem d_M_recover_62 : decode b_M_recover 62 = .ok (.getfield 8, 3) := by decide +kernel
theorem d_M_recover_65 : decode b_M_recover 65 = .ok (.sipush 516, 3) := by decide +kernel
theorem d_M_recover_68 : decode b_M_recover 68 = .ok (.invokestatic 42, 3) := by decide +kernel
theorem d_M_recover_71 : decode b_M_recover 71 = .ok (.if_icmp .lt 7, 3) := by decide +kernel
theorem d_M_recover_74 : decode b_M_recover 74 = .ok (.iconst 0, 1) := by decide +kernel
theorem d_M_recover_75 : decode b_M_recover 75 = .ok (.goto 4, 3) := by decide +kernel
theorem d_M_recover_78 : decode b_M_recover 78 = .ok (.iconst 1, 1) := by decide +kernel
theorem d_M_recover_79 : decode b_M_recover 79 = .ok (.istore_n 3, 1) := by decide +kernel
theorem d_M_recover_80 : decode b_M_recover 80 = .ok (.aload_n 0, 1) := by decide +kernel
theorem d_M_recover_81 : decode b_M_recover 81 = .ok (.iconst 2, 1) := by decide +kernel
theorem d_M_recover_82 : decode b_M_recover 82 = .ok (.putfield 14, 3) := by decide +kernel
theorem d_M_recover_85 : decode b_M_recover 85 = .ok (.aload_n 0, 1) := by decide +kernel
theorem d_M_recover_86 : decode b_M_recover 86 = .ok (.aload_n 0, 1) := by decide +kernel
theorem d_M_recover_87 : decode b_M_recover 87 = .ok (.getfield 8, 3) := by decide +kernel
theorem d_M_recover_90 : decode b_M_recover 90 = .ok (.sipush 512, 3) := by decide +kernel
theorem d_M_recover_93 : decode b_M_recover 93 = .ok (.iload_n 3, 1) := by decide +kernel
theorem d_M_recover_94 : decode b_M_recover 94 = .ok (.imul, 1) := by decide +kernel
theorem d_M_recover_95 : decode b_M_recover 95 = .ok (.iconst 4, 1) := by decide +kernel
theorem d_M_recover_96 : decode b_M_recover 96 = .ok (.iadd, 1) := by decide +kernel
theorem d_M_recover_97 : decode b_M_recover 97 = .ok (.invokestatic 42, 3) := by decide +kernel
theorem d_M_recover_100 : decode b_M_recover 100 = .ok (.putfield 72, 3) := by decide +kernel
theorem d_M_recover_103 : decode b_M_recover 103 = .ok (.aload_n 0, 1) := by decide +kernel
theorem d_M_recover_104 : decode b_M_recover 104 = .ok (.aload_n 0, 1) := by decide +kernel
theorem d_M_recover_105 : decode b_M_recover 105 = .ok (.getfield 8, 3) := by decide +kernel
theorem d_M_recover_108 : decode b_M_recover 108 = .ok (.sipush 512, 3) := by decide +kernel
theorem d_M_recover_111 : decode b_M_recover 111 = .ok (.iload_n 3, 1) := by decide +kernel
theorem d_M_recover_112 : decode b_M_recover 112 = .ok (.imul, 1) := by decide +kernel
theorem d_M_recover_113 : decode b_M_recover 113 = .ok (.iconst 2, 1) := by decide +kernel
theorem d_M_recover_114 : decode b_M_recover 114 = .ok (.iadd, 1) := by decide +kernel
theorem d_M_recover_115 : decode b_M_recover 115 = .ok (.baload, 1) := by decide +kernel
theorem d_M_recover_116 : decode b_M_recover 116 = .ok (.putfield 50, 3) := by decide +kernel
theorem d_M_recover_119 : decode b_M_recover 119 = .ok (.aload_n 0, 1) := by decide +kernel
theorem d_M_recover_120 : decode b_M_recover 120 = .ok (.invokevirtual 82, 3) := by decide +kernel
theorem d_M_recover_123 : decode b_M_recover 123 = .ok (.aload_n 0, 1) := by decide +kernel
theorem d_M_recover_124 : decode b_M_recover 124 = .ok (.getfield 60, 3) := by decide +kernel
theorem d_M_recover_127 : decode b_M_recover 127 = .ok (.ireturn, 1) := by decide +kernel
theorem d_M_format_0 : decode b_M_format 0 = .ok (.aload_n 0, 1) := by decide +kernel
theorem d_M_format_1 : decode b_M_format 1 = .ok (.iconst 0, 1) := by decide +kernel
theorem d_M_format_2 : decode b_M_format 2 = .ok (.putfield 38, 3) := by decide +kernel
theorem d_M_format_5 : decode b_M_format 5 = .ok (.iconst 0, 1) := by decide +kernel
theorem d_M_format_6 : decode b_M_format 6 = .ok (.istore_n 1, 1) := by decide +kernel
theorem d_M_format_7 : decode b_M_format 7 = .ok (.iload_n 1, 1) := by decide +kernel
theorem d_M_format_8 : decode b_M_format 8 = .ok (.ldc 7, 2) := by decide +kernel
theorem d_M_format_10 : decode b_M_format 10 = .ok (.if_icmp .ge 16, 3) := by decide +kernel
theorem d_M_format_13 : decode b_M_format 13 = .ok (.aload_n 0, 1) := by decide +kernel
theorem d_M_format_14 : decode b_M_format 14 = .ok (.getfield 8, 3) := by decide +kernel
theorem d_M_format_17 : decode b_M_format 17 = .ok (.iload_n 1, 1) := by decide +kernel
theorem d_M_format_18 : decode b_M_format 18 = .ok (.iconst 0, 1) := by decide +kernel
theorem d_M_format_19 : decode b_M_format 19 = .ok (.bastore, 1) := by decide +kernel
theorem d_M_format_20 : decode b_M_format 20 = .ok (.iinc 1 1, 3) := by decide +kernel
theorem d_M_format_23 : decode b_M_format 23 = .ok (.goto (-16), 3) := by decide +kernel
theorem d_M_format_26 : decode b_M_format 26 = .ok (.aload_n 0, 1) := by decide +kernel
theorem d_M_format_27 : decode b_M_format 27 = .ok (.iconst 0, 1) := by decide +kernel
theorem d_M_format_28 : decode b_M_format 28 = .ok (.iconst 1, 1) := by decide +kernel
theorem d_M_format_29 : decode b_M_format 29 = .ok (.invokevirtual 85, 3) := by decide +kernel
theorem d_M_format_32 : decode b_M_format 32 = .ok (.iconst 0, 1) := by decide +kernel
theorem d_M_format_33 : decode b_M_format 33 = .ok (.istore_n 1, 1) := by decide +kernel
theorem d_M_format_34 : decode b_M_format 34 = .ok (.iload_n 1, 1) := by decide +kernel
theorem d_M_format_35 : decode b_M_format 35 = .ok (.bipush 12, 2) := by decide +kernel
theorem d_M_format_37 : decode b_M_format 37 = .ok (.if_icmp .ge 25, 3) := by decide +kernel
theorem d_M_format_40 : decode b_M_format 40 = .ok (.aload_n 0, 1) := by decide +kernel
theorem d_M_format_41 : decode b_M_format 41 = .ok (.getfield 8, 3) := by decide +kernel
theorem d_M_format_44 : decode b_M_format 44 = .ok (.sipush 512, 3) := by decide +kernel
theorem d_M_format_47 : decode b_M_format 47 = .ok (.iload_n 1, 1) := by decide +kernel
theorem d_M_format_48 : decode b_M_format 48 = .ok (.iadd, 1) := by decide +kernel
theorem d_M_format_49 : decode b_M_format 49 = .ok (.aload_n 0, 1) := by decide +kernel
theorem d_M_format_50 : decode b_M_format 50 = .ok (.getfield 35, 3) := by decide +kernel
theorem d_M_format_53 : decode b_M_format 53 = .ok (.iload_n 1, 1) := by decide +kernel
theorem d_M_format_54 : decode b_M_format 54 = .ok (.baload, 1) := by decide +kernel
theorem d_M_format_55 : decode b_M_format 55 = .ok (.bastore, 1) := by decide +kernel
theorem d_M_format_56 : decode b_M_format 56 = .ok (.iinc 1 1, 3) := by decide +kernel
theorem d_M_format_59 : decode b_M_format 59 = .ok (.goto (-25), 3) := by decide +kernel
theorem d_M_format_62 : decode b_M_format 62 = .ok (.aload_n 0, 1) := by decide +kernel
theorem d_M_format_63 : decode b_M_format 63 = .ok (.invokevirtual 89, 3) := by decide +kernel
theorem d_M_format_66 : decode b_M_format 66 = .ok (.istore_n 1, 1) := by decide +kernel
theorem d_M_format_67 : decode b_M_format 67 = .ok (.return_, 1) := by decide +kernel
theorem d_M_layHead_0 : decode b_M_layHead 0 = .ok (.iconst 0, 1) := by decide +kernel
theorem d_M_layHead_1 : decode b_M_layHead 1 = .ok (.istore_n 3, 1) := by decide +kernel
theorem d_M_layHead_2 : decode b_M_layHead 2 = .ok (.iload_n 3, 1) := by decide +kernel
theorem d_M_layHead_3 : decode b_M_layHead 3 = .ok (.sipush 512, 3) := by decide +kernel
theorem d_M_layHead_6 : decode b_M_layHead 6 = .ok (.if_icmp .ge 16, 3) := by decide +kernel
theorem d_M_layHead_9 : decode b_M_layHead 9 = .ok (.aload_n 0, 1) := by decide +kernel
theorem d_M_layHead_10 : decode b_M_layHead 10 = .ok (.getfield 35, 3) := by decide +kernel
theorem d_M_layHead_13 : decode b_M_layHead 13 = .ok (.iload_n 3, 1) := by decide +kernel
theorem d_M_layHead_14 : decode b_M_layHead 14 = .ok (.iconst 0, 1) := by decide +kernel
theorem d_M_layHead_15 : decode b_M_layHead 15 = .ok (.bastore, 1) := by decide +kernel
theorem d_M_layHead_16 : decode b_M_layHead 16 = .ok (.iinc 3 1, 3) := by decide +kernel
theorem d_M_layHead_19 : decode b_M_layHead 19 = .ok (.goto (-17), 3) := by decide +kernel
theorem d_M_layHead_22 : decode b_M_layHead 22 = .ok (.aload_n 0, 1) := by decide +kernel
theorem d_M_layHead_23 : decode b_M_layHead 23 = .ok (.getfield 35, 3) := by decide +kernel
theorem d_M_layHead_26 : decode b_M_layHead 26 = .ok (.iconst 0, 1) := by decide +kernel
theorem d_M_layHead_27 : decode b_M_layHead 27 = .ok (.bipush 74, 2) := by decide +kernel
theorem d_M_layHead_29 : decode b_M_layHead 29 = .ok (.bastore, 1) := by decide +kernel
theorem d_M_layHead_30 : decode b_M_layHead 30 = .ok (.aload_n 0, 1) := by decide +kernel
theorem d_M_layHead_31 : decode b_M_layHead 31 = .ok (.getfield 35, 3) := by decide +kernel
theorem d_M_layHead_34 : decode b_M_layHead 34 = .ok (.iconst 1, 1) := by decide +kernel
theorem d_M_layHead_35 : decode b_M_layHead 35 = .ok (.bipush 49, 2) := by decide +kernel
theorem d_M_layHead_37 : decode b_M_layHead 37 = .ok (.bastore, 1) := by decide +kernel
theorem d_M_layHead_38 : decode b_M_layHead 38 = .ok (.aload_n 0, 1) := by decide +kernel
theorem d_M_layHead_39 : decode b_M_layHead 39 = .ok (.getfield 35, 3) := by decide +kernel
theorem d_M_layHead_42 : decode b_M_layHead 42 = .ok (.iconst 2, 1) := by decide +kernel
theorem d_M_layHead_43 : decode b_M_layHead 43 = .ok (.iload_n 1, 1) := by decide +kernel
theorem d_M_layHead_44 : decode b_M_layHead 44 = .ok (.i2b, 1) := by decide +kernel
theorem d_M_layHead_45 : decode b_M_layHead 45 = .ok (.bastore, 1) := by decide +kernel
theorem d_M_layHead_46 : decode b_M_layHead 46 = .ok (.aload_n 0, 1) := by decide +kernel
theorem d_M_layHead_47 : decode b_M_layHead 47 = .ok (.getfield 35, 3) := by decide +kernel
theorem d_M_layHead_50 : decode b_M_layHead 50 = .ok (.iconst 4, 1) := by decide +kernel
theorem d_M_layHead_51 : decode b_M_layHead 51 = .ok (.iload_n 2, 1) := by decide +kernel
theorem d_M_layHead_52 : decode b_M_layHead 52 = .ok (.invokestatic 93, 3) := by decide +kernel
theorem d_M_layHead_55 : decode b_M_layHead 55 = .ok (.aload_n 0, 1) := by decide +kernel
theorem d_M_layHead_56 : decode b_M_layHead 56 = .ok (.getfield 35, 3) := by decide +kernel
theorem d_M_layHead_59 : decode b_M_layHead 59 = .ok (.bipush 8, 2) := by decide +kernel
theorem d_M_layHead_61 : decode b_M_layHead 61 = .ok (.aload_n 0, 1) := by decide +kernel
theorem d_M_layHead_62 : decode b_M_layHead 62 = .ok (.getfield 35, 3) := by decide +kernel
theorem d_M_layHead_65 : decode b_M_layHead 65 = .ok (.iconst 0, 1) := by decide +kernel
theorem d_M_layHead_66 : decode b_M_layHead 66 = .ok (.bipush 8, 2) := by decide +kernel
theorem d_M_layHead_68 : decode b_M_layHead 68 = .ok (.invokestatic 46, 3) := by decide +kernel
theorem d_M_layHead_71 : decode b_M_layHead 71 = .ok (.invokestatic 93, 3) := by decide +kernel
theorem d_M_layHead_74 : decode b_M_layHead 74 = .ok (.return_, 1) := by decide +kernel
theorem d_M_write_0 : decode b_M_write 0 = .ok (.aload_n 0, 1) := by decide +kernel
theorem d_M_write_1 : decode b_M_write 1 = .ok (.getfield 29, 3) := by decide +kernel
theorem d_M_write_4 : decode b_M_write 4 = .ok (.ifCond .ne 14, 3) := by decide +kernel
theorem d_M_write_7 : decode b_M_write 7 = .ok (.aload_n 0, 1) := by decide +kernel
theorem d_M_write_8 : decode b_M_write 8 = .ok (.iconst (-1), 1) := by decide +kernel
theorem d_M_write_9 : decode b_M_write 9 = .ok (.putfield 29, 3) := by decide +kernel
theorem d_M_write_12 : decode b_M_write 12 = .ok (.aload_n 0, 1) := by decide +kernel
theorem d_M_write_13 : decode b_M_write 13 = .ok (.invokevirtual 97, 3) := by decide +kernel
theorem d_M_write_16 : decode b_M_write 16 = .ok (.iconst 0, 1) := by decide +kernel
theorem d_M_write_17 : decode b_M_write 17 = .ok (.ireturn, 1) := by decide +kernel
theorem d_M_write_18 : decode b_M_write 18 = .ok (.aload_n 0, 1) := by decide +kernel
theorem d_M_write_19 : decode b_M_write 19 = .ok (.aload_n 0, 1) := by decide +kernel
theorem d_M_write_20 : decode b_M_write 20 = .ok (.getfield 29, 3) := by decide +kernel
theorem d_M_write_23 : decode b_M_write 23 = .ok (.ifCond .le 12, 3) := by decide +kernel
theorem d_M_write_26 : decode b_M_write 26 = .ok (.aload_n 0, 1) := by decide +kernel
theorem d_M_write_27 : decode b_M_write 27 = .ok (.getfield 29, 3) := by decide +kernel
theorem d_M_write_30 : decode b_M_write 30 = .ok (.iconst 1, 1) := by decide +kernel
theorem d_M_write_31 : decode b_M_write 31 = .ok (.isub, 1) := by decide +kernel
theorem d_M_write_32 : decode b_M_write 32 = .ok (.goto 7, 3) := by decide +kernel
theorem d_M_write_35 : decode b_M_write 35 = .ok (.aload_n 0, 1) := by decide +kernel
theorem d_M_write_36 : decode b_M_write 36 = .ok (.getfield 29, 3) := by decide +kernel
theorem d_M_write_39 : decode b_M_write 39 = .ok (.putfield 29, 3) := by decide +kernel
theorem d_M_write_42 : decode b_M_write 42 = .ok (.iconst 0, 1) := by decide +kernel
theorem d_M_write_43 : decode b_M_write 43 = .ok (.istore 4, 2) := by decide +kernel
theorem d_M_write_45 : decode b_M_write 45 = .ok (.iload 4, 2) := by decide +kernel
theorem d_M_write_47 : decode b_M_write 47 = .ok (.sipush 512, 3) := by decide +kernel
theorem d_M_write_50 : decode b_M_write 50 = .ok (.if_icmp .ge 28, 3) := by decide +kernel
theorem d_M_write_53 : decode b_M_write 53 = .ok (.aload_n 0, 1) := by decide +kernel
theorem d_M_write_54 : decode b_M_write 54 = .ok (.getfield 8, 3) := by decide +kernel
theorem d_M_write_57 : decode b_M_write 57 = .ok (.sipush 512, 3) := by decide +kernel
theorem d_M_write_60 : decode b_M_write 60 = .ok (.iload_n 1, 1) := by decide +kernel
theorem d_M_write_61 : decode b_M_write 61 = .ok (.imul, 1) := by decide +kernel
theorem d_M_write_62 : decode b_M_write 62 = .ok (.iload 4, 2) := by decide +kernel
theorem d_M_write_64 : decode b_M_write 64 = .ok (.iadd, 1) := by decide +kernel
theorem d_M_write_65 : decode b_M_write 65 = .ok (.aload_n 2, 1) := by decide +kernel
theorem d_M_write_66 : decode b_M_write 66 = .ok (.iload_n 3, 1) := by decide +kernel
theorem d_M_write_67 : decode b_M_write 67 = .ok (.iload 4, 2) := by decide +kernel
theorem d_M_write_69 : decode b_M_write 69 = .ok (.iadd, 1) := by decide +kernel
theorem d_M_write_70 : decode b_M_write 70 = .ok (.baload, 1) := by decide +kernel
theorem d_M_write_71 : decode b_M_write 71 = .ok (.bastore, 1) := by decide +kernel
theorem d_M_write_72 : decode b_M_write 72 = .ok (.iinc 4 1, 3) := by decide +kernel
theorem d_M_write_75 : decode b_M_write 75 = .ok (.goto (-30), 3) := by decide +kernel
theorem d_M_write_78 : decode b_M_write 78 = .ok (.aload_n 0, 1) := by decide +kernel
theorem d_M_write_79 : decode b_M_write 79 = .ok (.dup, 1) := by decide +kernel
theorem d_M_write_80 : decode b_M_write 80 = .ok (.getfield 100, 3) := by decide +kernel
theorem d_M_write_83 : decode b_M_write 83 = .ok (.iconst 1, 1) := by decide +kernel
theorem d_M_write_84 : decode b_M_write 84 = .ok (.iadd, 1) := by decide +kernel
theorem d_M_write_85 : decode b_M_write 85 = .ok (.putfield 100, 3) := by decide +kernel
theorem d_M_write_88 : decode b_M_write 88 = .ok (.iconst 1, 1) := by decide +kernel
theorem d_M_write_89 : decode b_M_write 89 = .ok (.ireturn, 1) := by decide +kernel
theorem d_M_give_0 : decode b_M_give 0 = .ok (.aload_n 0, 1) := by decide +kernel
theorem d_M_give_1 : decode b_M_give 1 = .ok (.iconst 0, 1) := by decide +kernel
theorem d_M_give_2 : decode b_M_give 2 = .ok (.putfield 38, 3) := by decide +kernel
theorem d_M_give_5 : decode b_M_give 5 = .ok (.iload_n 3, 1) := by decide +kernel
theorem d_M_give_6 : decode b_M_give 6 = .ok (.iconst 1, 1) := by decide +kernel
theorem d_M_give_7 : decode b_M_give 7 = .ok (.if_icmp .lt 21, 3) := by decide +kernel
theorem d_M_give_10 : decode b_M_give 10 = .ok (.iload_n 3, 1) := by decide +kernel
theorem d_M_give_11 : decode b_M_give 11 = .ok (.bipush 8, 2) := by decide +kernel
theorem d_M_give_13 : decode b_M_give 13 = .ok (.if_icmp .gt 15, 3) := by decide +kernel
theorem d_M_give_16 : decode b_M_give 16 = .ok (.aload_n 0, 1) := by decide +kernel
theorem d_M_give_17 : decode b_M_give 17 = .ok (.getfield 103, 3) := by decide +kernel
theorem d_M_give_20 : decode b_M_give 20 = .ok (.iload_n 3, 1) := by decide +kernel
theorem d_M_give_21 : decode b_M_give 21 = .ok (.iadd, 1) := by decide +kernel
theorem d_M_give_22 : decode b_M_give 22 = .ok (.sipush 1000, 3) := by decide +kernel
theorem d_M_give_25 : decode b_M_give 25 = .ok (.if_icmp .le 5, 3) := by decide +kernel
theorem d_M_give_28 : decode b_M_give 28 = .ok (.iconst 0, 1) := by decide +kernel
theorem d_M_give_29 : decode b_M_give 29 = .ok (.ireturn, 1) := by decide +kernel
theorem d_M_give_30 : decode b_M_give 30 = .ok (.iload_n 3, 1) := by decide +kernel
theorem d_M_give_31 : decode b_M_give 31 = .ok (.iconst 1, 1) := by decide +kernel
theorem d_M_give_32 : decode b_M_give 32 = .ok (.isub, 1) := by decide +kernel
theorem d_M_give_33 : decode b_M_give 33 = .ok (.istore 4, 2) := by decide +kernel
theorem d_M_give_35 : decode b_M_give 35 = .ok (.iload 4, 2) := by decide +kernel
theorem d_M_give_37 : decode b_M_give 37 = .ok (.ifCond .lt 37, 3) := by decide +kernel
theorem d_M_give_40 : decode b_M_give 40 = .ok (.aload_n 0, 1) := by decide +kernel
theorem d_M_give_41 : decode b_M_give 41 = .ok (.getfield 26, 3) := by decide +kernel
theorem d_M_give_44 : decode b_M_give 44 = .ok (.aload_n 0, 1) := by decide +kernel
theorem d_M_give_45 : decode b_M_give 45 = .ok (.getfield 103, 3) := by decide +kernel
theorem d_M_give_48 : decode b_M_give 48 = .ok (.lload_n 1, 1) := by decide +kernel
theorem d_M_give_49 : decode b_M_give 49 = .ok (.bipush 8, 2) := by decide +kernel
theorem d_M_give_51 : decode b_M_give 51 = .ok (.iload 4, 2) := by decide +kernel
theorem d_M_give_53 : decode b_M_give 53 = .ok (.imul, 1) := by decide +kernel
theorem d_M_give_54 : decode b_M_give 54 = .ok (.lshr, 1) := by decide +kernel
theorem d_M_give_55 : decode b_M_give 55 = .ok (.l2i, 1) := by decide +kernel
theorem d_M_give_56 : decode b_M_give 56 = .ok (.i2b, 1) := by decide +kernel
theorem d_M_give_57 : decode b_M_give 57 = .ok (.bastore, 1) := by decide +kernel
theorem d_M_give_58 : decode b_M_give 58 = .ok (.aload_n 0, 1) := by decide +kernel
theorem d_M_give_59 : decode b_M_give 59 = .ok (.dup, 1) := by decide +kernel
theorem d_M_give_60 : decode b_M_give 60 = .ok (.getfield 103, 3) := by decide +kernel
theorem d_M_give_63 : decode b_M_give 63 = .ok (.iconst 1, 1) := by decide +kernel
theorem d_M_give_64 : decode b_M_give 64 = .ok (.iadd, 1) := by decide +kernel
theorem d_M_give_65 : decode b_M_give 65 = .ok (.putfield 103, 3) := by decide +kernel
theorem d_M_give_68 : decode b_M_give 68 = .ok (.iinc 4 (-1), 3) := by decide +kernel
theorem d_M_give_71 : decode b_M_give 71 = .ok (.goto (-36), 3) := by decide +kernel
theorem d_M_give_74 : decode b_M_give 74 = .ok (.iconst 1, 1) := by decide +kernel
theorem d_M_give_75 : decode b_M_give 75 = .ok (.ireturn, 1) := by decide +kernel
theorem d_M_wipe_0 : decode b_M_wipe 0 = .ok (.aload_n 0, 1) := by decide +kernel
theorem d_M_wipe_1 : decode b_M_wipe 1 = .ok (.iconst 0, 1) := by decide +kernel
theorem d_M_wipe_2 : decode b_M_wipe 2 = .ok (.putfield 38, 3) := by decide +kernel
theorem d_M_wipe_5 : decode b_M_wipe 5 = .ok (.aload_n 0, 1) := by decide +kernel
theorem d_M_wipe_6 : decode b_M_wipe 6 = .ok (.iconst 0, 1) := by decide +kernel
theorem d_M_wipe_7 : decode b_M_wipe 7 = .ok (.putfield 103, 3) := by decide +kernel
theorem d_M_wipe_10 : decode b_M_wipe 10 = .ok (.return_, 1) := by decide +kernel
theorem d_M_lastBlock_0 : decode b_M_lastBlock 0 = .ok (.iload_n 0, 1) := by decide +kernel
theorem d_M_lastBlock_1 : decode b_M_lastBlock 1 = .ok (.iconst 2, 1) := by decide +kernel
theorem d_M_lastBlock_2 : decode b_M_lastBlock 2 = .ok (.iadd, 1) := by decide +kernel
theorem d_M_lastBlock_3 : decode b_M_lastBlock 3 = .ok (.sipush 15872, 3) := by decide +kernel
theorem d_M_lastBlock_6 : decode b_M_lastBlock 6 = .ok (.if_icmp .le 9, 3) := by decide +kernel
theorem d_M_lastBlock_9 : decode b_M_lastBlock 9 = .ok (.sipush 15871, 3) := by decide +kernel
theorem d_M_lastBlock_12 : decode b_M_lastBlock 12 = .ok (.goto 6, 3) := by decide +kernel
theorem d_M_lastBlock_15 : decode b_M_lastBlock 15 = .ok (.iload_n 0, 1) := by decide +kernel
theorem d_M_lastBlock_16 : decode b_M_lastBlock 16 = .ok (.iconst 1, 1) := by decide +kernel
theorem d_M_lastBlock_17 : decode b_M_lastBlock 17 = .ok (.iadd, 1) := by decide +kernel
theorem d_M_lastBlock_18 : decode b_M_lastBlock 18 = .ok (.istore_n 1, 1) := by decide +kernel
theorem d_M_lastBlock_19 : decode b_M_lastBlock 19 = .ok (.iload_n 1, 1) := by decide +kernel
theorem d_M_lastBlock_20 : decode b_M_lastBlock 20 = .ok (.sipush 512, 3) := by decide +kernel
theorem d_M_lastBlock_23 : decode b_M_lastBlock 23 = .ok (.idiv, 1) := by decide +kernel
theorem d_M_lastBlock_24 : decode b_M_lastBlock 24 = .ok (.ireturn, 1) := by decide +kernel
theorem d_M_append_0 : decode b_M_append 0 = .ok (.aload_n 0, 1) := by decide +kernel
theorem d_M_append_1 : decode b_M_append 1 = .ok (.aload_n 0, 1) := by decide +kernel
theorem d_M_append_2 : decode b_M_append 2 = .ok (.getfield 14, 3) := by decide +kernel
theorem d_M_append_5 : decode b_M_append 5 = .ok (.iconst 2, 1) := by decide +kernel
theorem d_M_append_6 : decode b_M_append 6 = .ok (.if_icmp .eq 7, 3) := by decide +kernel
theorem d_M_append_9 : decode b_M_append 9 = .ok (.iconst 1, 1) := by decide +kernel
theorem d_M_append_10 : decode b_M_append 10 = .ok (.goto 37, 3) := by decide +kernel
theorem d_M_append_13 : decode b_M_append 13 = .ok (.aload_n 0, 1) := by decide +kernel
theorem d_M_append_14 : decode b_M_append 14 = .ok (.getfield 103, 3) := by decide +kernel
theorem d_M_append_17 : decode b_M_append 17 = .ok (.ifCond .ne 7, 3) := by decide +kernel
theorem d_M_append_20 : decode b_M_append 20 = .ok (.iconst 2, 1) := by decide +kernel
theorem d_M_append_21 : decode b_M_append 21 = .ok (.goto 26, 3) := by decide +kernel
theorem d_M_append_24 : decode b_M_append 24 = .ok (.aload_n 0, 1) := by decide +kernel
theorem d_M_append_25 : decode b_M_append 25 = .ok (.getfield 63, 3) := by decide +kernel
theorem d_M_append_28 : decode b_M_append 28 = .ok (.aload_n 0, 1) := by decide +kernel
theorem d_M_append_29 : decode b_M_append 29 = .ok (.getfield 103, 3) := by decide +kernel
theorem d_M_append_32 : decode b_M_append 32 = .ok (.invokestatic 57, 3) := by decide +kernel
theorem d_M_append_35 : decode b_M_append 35 = .ok (.iadd, 1) := by decide +kernel
theorem d_M_append_36 : decode b_M_append 36 = .ok (.sipush 15872, 3) := by decide +kernel
theorem d_M_append_39 : decode b_M_append 39 = .ok (.if_icmp .le 7, 3) := by decide +kernel
theorem d_M_append_42 : decode b_M_append 42 = .ok (.iconst 3, 1) := by decide +kernel
theorem d_M_append_43 : decode b_M_append 43 = .ok (.goto 4, 3) := by decide +kernel
theorem d_M_append_46 : decode b_M_append 46 = .ok (.iconst 0, 1) := by decide +kernel
theorem d_M_append_47 : decode b_M_append 47 = .ok (.putfield 38, 3) := by decide +kernel
theorem d_M_append_50 : decode b_M_append 50 = .ok (.aload_n 0, 1) := by decide +kernel
theorem d_M_append_51 : decode b_M_append 51 = .ok (.getfield 38, 3) := by decide +kernel
theorem d_M_append_54 : decode b_M_append 54 = .ok (.ifCond .le 5, 3) := by decide +kernel
theorem d_M_append_57 : decode b_M_append 57 = .ok (.iconst 0, 1) := by decide +kernel
theorem d_M_append_58 : decode b_M_append 58 = .ok (.ireturn, 1) := by decide +kernel
theorem d_M_append_59 : decode b_M_append 59 = .ok (.iconst 0, 1) := by decide +kernel
theorem d_M_append_60 : decode b_M_append 60 = .ok (.istore_n 1, 1) := by decide +kernel
theorem d_M_append_61 : decode b_M_append 61 = .ok (.iload_n 1, 1) := by decide +kernel
theorem d_M_append_62 : decode b_M_append 62 = .ok (.sipush 15872, 3) := by decide +kernel
theorem d_M_append_65 : decode b_M_append 65 = .ok (.if_icmp .ge 41, 3) := by decide +kernel
theorem d_M_append_68 : decode b_M_append 68 = .ok (.aload_n 0, 1) := by decide +kernel
theorem d_M_append_69 : decode b_M_append 69 = .ok (.getfield 32, 3) := by decide +kernel
theorem d_M_append_72 : decode b_M_append 72 = .ok (.iload_n 1, 1) := by decide +kernel
theorem d_M_append_73 : decode b_M_append 73 = .ok (.iload_n 1, 1) := by decide +kernel
theorem d_M_append_74 : decode b_M_append 74 = .ok (.aload_n 0, 1) := by decide +kernel
theorem d_M_append_75 : decode b_M_append 75 = .ok (.getfield 63, 3) := by decide +kernel
theorem d_M_append_78 : decode b_M_append 78 = .ok (.if_icmp .ge 20, 3) := by decide +kernel
theorem d_M_append_81 : decode b_M_append 81 = .ok (.aload_n 0, 1) := by decide +kernel
theorem d_M_append_82 : decode b_M_append 82 = .ok (.getfield 8, 3) := by decide +kernel
theorem d_M_append_85 : decode b_M_append 85 = .ok (.aload_n 0, 1) := by decide +kernel
theorem d_M_append_86 : decode b_M_append 86 = .ok (.getfield 50, 3) := by decide +kernel
theorem d_M_append_89 : decode b_M_append 89 = .ok (.invokestatic 53, 3) := by decide +kernel
theorem d_M_append_92 : decode b_M_append 92 = .ok (.iload_n 1, 1) := by decide +kernel
theorem d_M_append_93 : decode b_M_append 93 = .ok (.iadd, 1) := by decide +kernel
theorem d_M_append_94 : decode b_M_append 94 = .ok (.baload, 1) := by decide +kernel
theorem d_M_append_95 : decode b_M_append 95 = .ok (.goto 4, 3) := by decide +kernel
theorem d_M_append_98 : decode b_M_append 98 = .ok (.iconst 0, 1) := by decide +kernel
theorem d_M_append_99 : decode b_M_append 99 = .ok (.bastore, 1) := by decide +kernel
theorem d_M_append_100 : decode b_M_append 100 = .ok (.iinc 1 1, 3) := by decide +kernel
theorem d_M_append_103 : decode b_M_append 103 = .ok (.goto (-42), 3) := by decide +kernel
theorem d_M_append_106 : decode b_M_append 106 = .ok (.aload_n 0, 1) := by decide +kernel
theorem d_M_append_107 : decode b_M_append 107 = .ok (.getfield 32, 3) := by decide +kernel
theorem d_M_append_110 : decode b_M_append 110 = .ok (.aload_n 0, 1) := by decide +kernel
theorem d_M_append_111 : decode b_M_append 111 = .ok (.getfield 63, 3) := by decide +kernel
theorem d_M_append_114 : decode b_M_append 114 = .ok (.aload_n 0, 1) := by decide +kernel
theorem d_M_append_115 : decode b_M_append 115 = .ok (.getfield 103, 3) := by decide +kernel
theorem d_M_append_118 : decode b_M_append 118 = .ok (.i2b, 1) := by decide +kernel
theorem d_M_append_119 : decode b_M_append 119 = .ok (.bastore, 1) := by decide +kernel
theorem d_M_append_120 : decode b_M_append 120 = .ok (.aload_n 0, 1) := by decide +kernel
theorem d_M_append_121 : decode b_M_append 121 = .ok (.getfield 32, 3) := by decide +kernel
theorem d_M_append_124 : decode b_M_append 124 = .ok (.aload_n 0, 1) := by decide +kernel
theorem d_M_append_125 : decode b_M_append 125 = .ok (.getfield 63, 3) := by decide +kernel
theorem d_M_append_128 : decode b_M_append 128 = .ok (.iconst 1, 1) := by decide +kernel
theorem d_M_append_129 : decode b_M_append 129 = .ok (.iadd, 1) := by decide +kernel
theorem d_M_append_130 : decode b_M_append 130 = .ok (.aload_n 0, 1) := by decide +kernel
theorem d_M_append_131 : decode b_M_append 131 = .ok (.getfield 103, 3) := by decide +kernel
theorem d_M_append_134 : decode b_M_append 134 = .ok (.bipush 8, 2) := by decide +kernel
theorem d_M_append_136 : decode b_M_append 136 = .ok (.ishr, 1) := by decide +kernel
theorem d_M_append_137 : decode b_M_append 137 = .ok (.i2b, 1) := by decide +kernel
theorem d_M_append_138 : decode b_M_append 138 = .ok (.bastore, 1) := by decide +kernel
theorem d_M_append_139 : decode b_M_append 139 = .ok (.iconst 0, 1) := by decide +kernel
theorem d_M_append_140 : decode b_M_append 140 = .ok (.istore_n 1, 1) := by decide +kernel
theorem d_M_append_141 : decode b_M_append 141 = .ok (.iload_n 1, 1) := by decide +kernel
theorem d_M_append_142 : decode b_M_append 142 = .ok (.aload_n 0, 1) := by decide +kernel
theorem d_M_append_143 : decode b_M_append 143 = .ok (.getfield 103, 3) := by decide +kernel
theorem d_M_append_146 : decode b_M_append 146 = .ok (.if_icmp .ge 28, 3) := by decide +kernel
theorem d_M_append_149 : decode b_M_append 149 = .ok (.aload_n 0, 1) := by decide +kernel
theorem d_M_append_150 : decode b_M_append 150 = .ok (.getfield 32, 3) := by decide +kernel
theorem d_M_append_153 : decode b_M_append 153 = .ok (.aload_n 0, 1) := by decide +kernel
theorem d_M_append_154 : decode b_M_append 154 = .ok (.getfield 63, 3) := by decide +kernel
theorem d_M_append_157 : decode b_M_append 157 = .ok (.iconst 2, 1) := by decide +kernel
theorem d_M_append_158 : decode b_M_append 158 = .ok (.iadd, 1) := by decide +kernel
theorem d_M_append_159 : decode b_M_append 159 = .ok (.iload_n 1, 1) := by decide +kernel
theorem d_M_append_160 : decode b_M_append 160 = .ok (.iadd, 1) := by decide +kernel
theorem d_M_append_161 : decode b_M_append 161 = .ok (.aload_n 0, 1) := by decide +kernel
theorem d_M_append_162 : decode b_M_append 162 = .ok (.getfield 26, 3) := by decide +kernel
theorem d_M_append_165 : decode b_M_append 165 = .ok (.iload_n 1, 1) := by decide +kernel
theorem d_M_append_166 : decode b_M_append 166 = .ok (.baload, 1) := by decide +kernel
theorem d_M_append_167 : decode b_M_append 167 = .ok (.bastore, 1) := by decide +kernel
theorem d_M_append_168 : decode b_M_append 168 = .ok (.iinc 1 1, 3) := by decide +kernel
theorem d_M_append_171 : decode b_M_append 171 = .ok (.goto (-30), 3) := by decide +kernel
theorem d_M_append_174 : decode b_M_append 174 = .ok (.aload_n 0, 1) := by decide +kernel
theorem d_M_append_175 : decode b_M_append 175 = .ok (.getfield 32, 3) := by decide +kernel
theorem d_M_append_178 : decode b_M_append 178 = .ok (.aload_n 0, 1) := by decide +kernel
theorem d_M_append_179 : decode b_M_append 179 = .ok (.getfield 63, 3) := by decide +kernel
theorem d_M_append_182 : decode b_M_append 182 = .ok (.iconst 2, 1) := by decide +kernel
theorem d_M_append_183 : decode b_M_append 183 = .ok (.iadd, 1) := by decide +kernel
theorem d_M_append_184 : decode b_M_append 184 = .ok (.aload_n 0, 1) := by decide +kernel
theorem d_M_append_185 : decode b_M_append 185 = .ok (.getfield 103, 3) := by decide +kernel
theorem d_M_append_188 : decode b_M_append 188 = .ok (.iadd, 1) := by decide +kernel
theorem d_M_append_189 : decode b_M_append 189 = .ok (.aload_n 0, 1) := by decide +kernel
theorem d_M_append_190 : decode b_M_append 190 = .ok (.getfield 32, 3) := by decide +kernel
theorem d_M_append_193 : decode b_M_append 193 = .ok (.aload_n 0, 1) := by decide +kernel
theorem d_M_append_194 : decode b_M_append 194 = .ok (.getfield 63, 3) := by decide +kernel
theorem d_M_append_197 : decode b_M_append 197 = .ok (.aload_n 0, 1) := by decide +kernel
theorem d_M_append_198 : decode b_M_append 198 = .ok (.getfield 63, 3) := by decide +kernel
theorem d_M_append_201 : decode b_M_append 201 = .ok (.iconst 2, 1) := by decide +kernel
theorem d_M_append_202 : decode b_M_append 202 = .ok (.iadd, 1) := by decide +kernel
theorem d_M_append_203 : decode b_M_append 203 = .ok (.aload_n 0, 1) := by decide +kernel
theorem d_M_append_204 : decode b_M_append 204 = .ok (.getfield 103, 3) := by decide +kernel
theorem d_M_append_207 : decode b_M_append 207 = .ok (.iadd, 1) := by decide +kernel
theorem d_M_append_208 : decode b_M_append 208 = .ok (.invokestatic 46, 3) := by decide +kernel
theorem d_M_append_211 : decode b_M_append 211 = .ok (.invokestatic 93, 3) := by decide +kernel
theorem d_M_append_214 : decode b_M_append 214 = .ok (.aload_n 0, 1) := by decide +kernel
theorem d_M_append_215 : decode b_M_append 215 = .ok (.getfield 63, 3) := by decide +kernel
theorem d_M_append_218 : decode b_M_append 218 = .ok (.sipush 512, 3) := by decide +kernel
theorem d_M_append_221 : decode b_M_append 221 = .ok (.idiv, 1) := by decide +kernel
theorem d_M_append_222 : decode b_M_append 222 = .ok (.istore_n 1, 1) := by decide +kernel
theorem d_M_append_223 : decode b_M_append 223 = .ok (.aload_n 0, 1) := by decide +kernel
theorem d_M_append_224 : decode b_M_append 224 = .ok (.getfield 63, 3) := by decide +kernel
theorem d_M_append_227 : decode b_M_append 227 = .ok (.aload_n 0, 1) := by decide +kernel
theorem d_M_append_228 : decode b_M_append 228 = .ok (.getfield 103, 3) := by decide +kernel
theorem d_M_append_231 : decode b_M_append 231 = .ok (.invokestatic 57, 3) := by decide +kernel
theorem d_M_append_234 : decode b_M_append 234 = .ok (.iadd, 1) := by decide +kernel
theorem d_M_append_235 : decode b_M_append 235 = .ok (.invokestatic 106, 3) := by decide +kernel
theorem d_M_append_238 : decode b_M_append 238 = .ok (.istore_n 2, 1) := by decide +kernel
theorem d_M_append_239 : decode b_M_append 239 = .ok (.aload_n 0, 1) := by decide +kernel
theorem d_M_append_240 : decode b_M_append 240 = .ok (.iconst 0, 1) := by decide +kernel
theorem d_M_append_241 : decode b_M_append 241 = .ok (.putfield 103, 3) := by decide +kernel
theorem d_M_append_244 : decode b_M_append 244 = .ok (.aload_n 0, 1) := by decide +kernel
theorem d_M_append_245 : decode b_M_append 245 = .ok (.getfield 60, 3) := by decide +kernel
theorem d_M_append_248 : decode b_M_append 248 = .ok (.istore_n 3, 1) := by decide +kernel
theorem d_M_append_249 : decode b_M_append 249 = .ok (.aload_n 0, 1) := by decide +kernel
theorem d_M_append_250 : decode b_M_append 250 = .ok (.getfield 50, 3) := by decide +kernel
theorem d_M_append_253 : decode b_M_append 253 = .ok (.invokestatic 53, 3) := by decide +kernel
theorem d_M_append_256 : decode b_M_append 256 = .ok (.sipush 512, 3) := by decide +kernel
theorem d_M_append_259 : decode b_M_append 259 = .ok (.idiv, 1) := by decide +kernel
theorem d_M_append_260 : decode b_M_append 260 = .ok (.istore 4, 2) := by decide +kernel
theorem d_M_append_262 : decode b_M_append 262 = .ok (.iload_n 2, 1) := by decide +kernel
theorem d_M_append_263 : decode b_M_append 263 = .ok (.istore 5, 2) := by decide +kernel
theorem d_M_append_265 : decode b_M_append 265 = .ok (.iload 5, 2) := by decide +kernel
theorem d_M_append_267 : decode b_M_append 267 = .ok (.iload_n 1, 1) := by decide +kernel
theorem d_M_append_268 : decode b_M_append 268 = .ok (.if_icmp .lt 33, 3) := by decide +kernel
theorem d_M_append_271 : decode b_M_append 271 = .ok (.aload_n 0, 1) := by decide +kernel
theorem d_M_append_272 : decode b_M_append 272 = .ok (.iload 4, 2) := by decide +kernel
theorem d_M_append_274 : decode b_M_append 274 = .ok (.iload 5, 2) := by decide +kernel
theorem d_M_append_276 : decode b_M_append 276 = .ok (.iadd, 1) := by decide +kernel
theorem d_M_append_277 : decode b_M_append 277 = .ok (.aload_n 0, 1) := by decide +kernel
theorem d_M_append_278 : decode b_M_append 278 = .ok (.getfield 32, 3) := by decide +kernel
theorem d_M_append_281 : decode b_M_append 281 = .ok (.sipush 512, 3) := by decide +kernel
theorem d_M_append_284 : decode b_M_append 284 = .ok (.iload 5, 2) := by decide +kernel
theorem d_M_append_286 : decode b_M_append 286 = .ok (.imul, 1) := by decide +kernel
theorem d_M_append_287 : decode b_M_append 287 = .ok (.invokevirtual 109, 3) := by decide +kernel
theorem d_M_append_290 : decode b_M_append 290 = .ok (.ifCond .ne 5, 3) := by decide +kernel
theorem d_M_append_293 : decode b_M_append 293 = .ok (.iconst (-1), 1) := by decide +kernel
theorem d_M_append_294 : decode b_M_append 294 = .ok (.ireturn, 1) := by decide +kernel
theorem d_M_append_295 : decode b_M_append 295 = .ok (.iinc 5 (-1), 3) := by decide +kernel
theorem d_M_append_298 : decode b_M_append 298 = .ok (.goto (-33), 3) := by decide +kernel
theorem d_M_append_301 : decode b_M_append 301 = .ok (.aload_n 0, 1) := by decide +kernel
theorem d_M_append_302 : decode b_M_append 302 = .ok (.invokevirtual 82, 3) := by decide +kernel
theorem d_M_append_305 : decode b_M_append 305 = .ok (.iload_n 3, 1) := by decide +kernel
theorem d_M_append_306 : decode b_M_append 306 = .ok (.ireturn, 1) := by decide +kernel
theorem d_M_mark_0 : decode b_M_mark 0 = .ok (.aload_n 0, 1) := by decide +kernel
theorem d_M_mark_1 : decode b_M_mark 1 = .ok (.iconst 0, 1) := by decide +kernel
theorem d_M_mark_2 : decode b_M_mark 2 = .ok (.putfield 38, 3) := by decide +kernel
theorem d_M_mark_5 : decode b_M_mark 5 = .ok (.iload_n 1, 1) := by decide +kernel
theorem d_M_mark_6 : decode b_M_mark 6 = .ok (.ifCond .lt 11, 3) := by decide +kernel
theorem d_M_mark_9 : decode b_M_mark 9 = .ok (.iload_n 1, 1) := by decide +kernel
theorem d_M_mark_10 : decode b_M_mark 10 = .ok (.aload_n 0, 1) := by decide +kernel
theorem d_M_mark_11 : decode b_M_mark 11 = .ok (.getfield 60, 3) := by decide +kernel
theorem d_M_mark_14 : decode b_M_mark 14 = .ok (.if_icmp .lt 5, 3) := by decide +kernel
theorem d_M_mark_17 : decode b_M_mark 17 = .ok (.iconst 0, 1) := by decide +kernel
theorem d_M_mark_18 : decode b_M_mark 18 = .ok (.ireturn, 1) := by decide +kernel
theorem d_M_mark_19 : decode b_M_mark 19 = .ok (.aload_n 0, 1) := by decide +kernel
theorem d_M_mark_20 : decode b_M_mark 20 = .ok (.getfield 22, 3) := by decide +kernel
theorem d_M_mark_23 : decode b_M_mark 23 = .ok (.iload_n 1, 1) := by decide +kernel
theorem d_M_mark_24 : decode b_M_mark 24 = .ok (.iload_n 2, 1) := by decide +kernel
theorem d_M_mark_25 : decode b_M_mark 25 = .ok (.bastore, 1) := by decide +kernel
theorem d_M_mark_26 : decode b_M_mark 26 = .ok (.iconst 1, 1) := by decide +kernel
theorem d_M_mark_27 : decode b_M_mark 27 = .ok (.ireturn, 1) := by decide +kernel
theorem d_M_lengthOf_0 : decode b_M_lengthOf 0 = .ok (.aload_n 0, 1) := by decide +kernel
theorem d_M_lengthOf_1 : decode b_M_lengthOf 1 = .ok (.getfield 50, 3) := by decide +kernel
theorem d_M_lengthOf_4 : decode b_M_lengthOf 4 = .ok (.invokestatic 53, 3) := by decide +kernel
theorem d_M_lengthOf_7 : decode b_M_lengthOf 7 = .ok (.aload_n 0, 1) := by decide +kernel
theorem d_M_lengthOf_8 : decode b_M_lengthOf 8 = .ok (.getfield 18, 3) := by decide +kernel
theorem d_M_lengthOf_11 : decode b_M_lengthOf 11 = .ok (.iload_n 1, 1) := by decide +kernel
theorem d_M_lengthOf_12 : decode b_M_lengthOf 12 = .ok (.iaload, 1) := by decide +kernel
theorem d_M_lengthOf_13 : decode b_M_lengthOf 13 = .ok (.iadd, 1) := by decide +kernel
theorem d_M_lengthOf_14 : decode b_M_lengthOf 14 = .ok (.istore_n 2, 1) := by decide +kernel
theorem d_M_lengthOf_15 : decode b_M_lengthOf 15 = .ok (.aload_n 0, 1) := by decide +kernel
theorem d_M_lengthOf_16 : decode b_M_lengthOf 16 = .ok (.getfield 8, 3) := by decide +kernel
theorem d_M_lengthOf_19 : decode b_M_lengthOf 19 = .ok (.iload_n 2, 1) := by decide +kernel
theorem d_M_lengthOf_20 : decode b_M_lengthOf 20 = .ok (.baload, 1) := by decide +kernel
theorem d_M_lengthOf_21 : decode b_M_lengthOf 21 = .ok (.sipush 255, 3) := by decide +kernel
theorem d_M_lengthOf_24 : decode b_M_lengthOf 24 = .ok (.iand, 1) := by decide +kernel
theorem d_M_lengthOf_25 : decode b_M_lengthOf 25 = .ok (.sipush 256, 3) := by decide +kernel
theorem d_M_lengthOf_28 : decode b_M_lengthOf 28 = .ok (.aload_n 0, 1) := by decide +kernel
theorem d_M_lengthOf_29 : decode b_M_lengthOf 29 = .ok (.getfield 8, 3) := by decide +kernel
theorem d_M_lengthOf_32 : decode b_M_lengthOf 32 = .ok (.iload_n 2, 1) := by decide +kernel
theorem d_M_lengthOf_33 : decode b_M_lengthOf 33 = .ok (.iconst 1, 1) := by decide +kernel
theorem d_M_lengthOf_34 : decode b_M_lengthOf 34 = .ok (.iadd, 1) := by decide +kernel
theorem d_M_lengthOf_35 : decode b_M_lengthOf 35 = .ok (.baload, 1) := by decide +kernel
theorem d_M_lengthOf_36 : decode b_M_lengthOf 36 = .ok (.sipush 255, 3) := by decide +kernel
theorem d_M_lengthOf_39 : decode b_M_lengthOf 39 = .ok (.iand, 1) := by decide +kernel
theorem d_M_lengthOf_40 : decode b_M_lengthOf 40 = .ok (.imul, 1) := by decide +kernel
theorem d_M_lengthOf_41 : decode b_M_lengthOf 41 = .ok (.iadd, 1) := by decide +kernel
theorem d_M_lengthOf_42 : decode b_M_lengthOf 42 = .ok (.ireturn, 1) := by decide +kernel
theorem d_M_compact_0 : decode b_M_compact 0 = .ok (.aload_n 0, 1) := by decide +kernel
theorem d_M_compact_1 : decode b_M_compact 1 = .ok (.aload_n 0, 1) := by decide +kernel
theorem d_M_compact_2 : decode b_M_compact 2 = .ok (.getfield 14, 3) := by decide +kernel
theorem d_M_compact_5 : decode b_M_compact 5 = .ok (.iconst 2, 1) := by decide +kernel
theorem d_M_compact_6 : decode b_M_compact 6 = .ok (.if_icmp .eq 7, 3) := by decide +kernel
theorem d_M_compact_9 : decode b_M_compact 9 = .ok (.iconst 1, 1) := by decide +kernel
theorem d_M_compact_10 : decode b_M_compact 10 = .ok (.goto 17, 3) := by decide +kernel
theorem d_M_compact_13 : decode b_M_compact 13 = .ok (.aload_n 0, 1) := by decide +kernel
theorem d_M_compact_14 : decode b_M_compact 14 = .ok (.getfield 72, 3) := by decide +kernel
theorem d_M_compact_17 : decode b_M_compact 17 = .ok (.ldc 113, 2) := by decide +kernel
theorem d_M_compact_19 : decode b_M_compact 19 = .ok (.if_icmp .ne 7, 3) := by decide +kernel
theorem d_M_compact_22 : decode b_M_compact 22 = .ok (.iconst 2, 1) := by decide +kernel
theorem d_M_compact_23 : decode b_M_compact 23 = .ok (.goto 4, 3) := by decide +kernel
theorem d_M_compact_26 : decode b_M_compact 26 = .ok (.iconst 0, 1) := by decide +kernel
theorem d_M_compact_27 : decode b_M_compact 27 = .ok (.putfield 38, 3) := by decide +kernel
theorem d_M_compact_30 : decode b_M_compact 30 = .ok (.aload_n 0, 1) := by decide +kernel
theorem d_M_compact_31 : decode b_M_compact 31 = .ok (.getfield 38, 3) := by decide +kernel
theorem d_M_compact_34 : decode b_M_compact 34 = .ok (.ifCond .le 5, 3) := by decide +kernel
theorem d_M_compact_37 : decode b_M_compact 37 = .ok (.iconst 0, 1) := by decide +kernel
theorem d_M_compact_38 : decode b_M_compact 38 = .ok (.ireturn, 1) := by decide +kernel
theorem d_M_compact_39 : decode b_M_compact 39 = .ok (.iconst 0, 1) := by decide +kernel
theorem d_M_compact_40 : decode b_M_compact 40 = .ok (.istore_n 1, 1) := by decide +kernel
theorem d_M_compact_41 : decode b_M_compact 41 = .ok (.iload_n 1, 1) := by decide +kernel
theorem d_M_compact_42 : decode b_M_compact 42 = .ok (.sipush 15872, 3) := by decide +kernel
theorem d_M_compact_45 : decode b_M_compact 45 = .ok (.if_icmp .ge 16, 3) := by decide +kernel
theorem d_M_compact_48 : decode b_M_compact 48 = .ok (.aload_n 0, 1) := by decide +kernel
theorem d_M_compact_49 : decode b_M_compact 49 = .ok (.getfield 32, 3) := by decide +kernel
theorem d_M_compact_52 : decode b_M_compact 52 = .ok (.iload_n 1, 1) := by decide +kernel
theorem d_M_compact_53 : decode b_M_compact 53 = .ok (.iconst 0, 1) := by decide +kernel
theorem d_M_compact_54 : decode b_M_compact 54 = .ok (.bastore, 1) := by decide +kernel
theorem d_M_compact_55 : decode b_M_compact 55 = .ok (.iinc 1 1, 3) := by decide +kernel
theorem d_M_compact_58 : decode b_M_compact 58 = .ok (.goto (-17), 3) := by decide +kernel
theorem d_M_compact_61 : decode b_M_compact 61 = .ok (.iconst 0, 1) := by decide +kernel
theorem d_M_compact_62 : decode b_M_compact 62 = .ok (.istore_n 1, 1) := by decide +kernel
theorem d_M_compact_63 : decode b_M_compact 63 = .ok (.iconst 0, 1) := by decide +kernel
theorem d_M_compact_64 : decode b_M_compact 64 = .ok (.istore_n 2, 1) := by decide +kernel
theorem d_M_compact_65 : decode b_M_compact 65 = .ok (.iload_n 2, 1) := by decide +kernel
theorem d_M_compact_66 : decode b_M_compact 66 = .ok (.aload_n 0, 1) := by decide +kernel
theorem d_M_compact_67 : decode b_M_compact 67 = .ok (.getfield 60, 3) := by decide +kernel
theorem d_M_compact_70 : decode b_M_compact 70 = .ok (.if_icmp .ge 106, 3) := by decide +kernel
theorem d_M_compact_73 : decode b_M_compact 73 = .ok (.aload_n 0, 1) := by decide +kernel
theorem d_M_compact_74 : decode b_M_compact 74 = .ok (.iload_n 2, 1) := by decide +kernel
theorem d_M_compact_75 : decode b_M_compact 75 = .ok (.invokevirtual 114, 3) := by decide +kernel
theorem d_M_compact_78 : decode b_M_compact 78 = .ok (.istore_n 3, 1) := by decide +kernel
theorem d_M_compact_79 : decode b_M_compact 79 = .ok (.iconst 0, 1) := by decide +kernel
theorem d_M_compact_80 : decode b_M_compact 80 = .ok (.istore 4, 2) := by decide +kernel
theorem d_M_compact_82 : decode b_M_compact 82 = .ok (.iload 4, 2) := by decide +kernel
theorem d_M_compact_84 : decode b_M_compact 84 = .ok (.iload_n 3, 1) := by decide +kernel
theorem d_M_compact_85 : decode b_M_compact 85 = .ok (.invokestatic 57, 3) := by decide +kernel
theorem d_M_compact_88 : decode b_M_compact 88 = .ok (.if_icmp .ge 62, 3) := by decide +kernel
theorem d_M_compact_91 : decode b_M_compact 91 = .ok (.aload_n 0, 1) := by decide +kernel
theorem d_M_compact_92 : decode b_M_compact 92 = .ok (.getfield 22, 3) := by decide +kernel
theorem d_M_compact_95 : decode b_M_compact 95 = .ok (.iload_n 2, 1) := by decide +kernel
theorem d_M_compact_96 : decode b_M_compact 96 = .ok (.baload, 1) := by decide +kernel
theorem d_M_compact_97 : decode b_M_compact 97 = .ok (.ifCond .ne 53, 3) := by decide +kernel
theorem d_M_compact_100 : decode b_M_compact 100 = .ok (.aload_n 0, 1) := by decide +kernel
theorem d_M_compact_101 : decode b_M_compact 101 = .ok (.getfield 32, 3) := by decide +kernel
theorem d_M_compact_104 : decode b_M_compact 104 = .ok (.iload_n 1, 1) := by decide +kernel
theorem d_M_compact_105 : decode b_M_compact 105 = .ok (.iload 4, 2) := by decide +kernel
theorem d_M_compact_107 : decode b_M_compact 107 = .ok (.iadd, 1) := by decide +kernel
theorem d_M_compact_108 : decode b_M_compact 108 = .ok (.iload 4, 2) := by decide +kernel
theorem d_M_compact_110 : decode b_M_compact 110 = .ok (.bipush 6, 2) := by decide +kernel
theorem d_M_compact_112 : decode b_M_compact 112 = .ok (.iload_n 3, 1) := by decide +kernel
theorem d_M_compact_113 : decode b_M_compact 113 = .ok (.iadd, 1) := by decide +kernel
theorem d_M_compact_114 : decode b_M_compact 114 = .ok (.if_icmp .ge 28, 3) := by decide +kernel
theorem d_M_compact_117 : decode b_M_compact 117 = .ok (.aload_n 0, 1) := by decide +kernel
theorem d_M_compact_118 : decode b_M_compact 118 = .ok (.getfield 8, 3) := by decide +kernel
theorem d_M_compact_121 : decode b_M_compact 121 = .ok (.aload_n 0, 1) := by decide +kernel
theorem d_M_compact_122 : decode b_M_compact 122 = .ok (.getfield 50, 3) := by decide +kernel
theorem d_M_compact_125 : decode b_M_compact 125 = .ok (.invokestatic 53, 3) := by decide +kernel
theorem d_M_compact_128 : decode b_M_compact 128 = .ok (.aload_n 0, 1) := by decide +kernel
theorem d_M_compact_129 : decode b_M_compact 129 = .ok (.getfield 18, 3) := by decide +kernel
theorem d_M_compact_132 : decode b_M_compact 132 = .ok (.iload_n 2, 1) := by decide +kernel
theorem d_M_compact_133 : decode b_M_compact 133 = .ok (.iaload, 1) := by decide +kernel
theorem d_M_compact_134 : decode b_M_compact 134 = .ok (.iadd, 1) := by decide +kernel
theorem d_M_compact_135 : decode b_M_compact 135 = .ok (.iload 4, 2) := by decide +kernel
theorem d_M_compact_137 : decode b_M_compact 137 = .ok (.iadd, 1) := by decide +kernel
theorem d_M_compact_138 : decode b_M_compact 138 = .ok (.baload, 1) := by decide +kernel
theorem d_M_compact_139 : decode b_M_compact 139 = .ok (.goto 4, 3) := by decide +kernel
theorem d_M_compact_142 : decode b_M_compact 142 = .ok (.iconst 0, 1) := by decide +kernel
theorem d_M_compact_143 : decode b_M_compact 143 = .ok (.bastore, 1) := by decide +kernel
theorem d_M_compact_144 : decode b_M_compact 144 = .ok (.iinc 4 1, 3) := by decide +kernel
theorem d_M_compact_147 : decode b_M_compact 147 = .ok (.goto (-65), 3) := by decide +kernel
theorem d_M_compact_150 : decode b_M_compact 150 = .ok (.iload_n 1, 1) := by decide +kernel
theorem d_M_compact_151 : decode b_M_compact 151 = .ok (.aload_n 0, 1) := by decide +kernel
theorem d_M_compact_152 : decode b_M_compact 152 = .ok (.getfield 22, 3) := by decide +kernel
theorem d_M_compact_155 : decode b_M_compact 155 = .ok (.iload_n 2, 1) := by decide +kernel
theorem d_M_compact_156 : decode b_M_compact 156 = .ok (.baload, 1) := by decide +kernel
theorem d_M_compact_157 : decode b_M_compact 157 = .ok (.ifCond .eq 7, 3) := by decide +kernel
theorem d_M_compact_160 : decode b_M_compact 160 = .ok (.iconst 0, 1) := by decide +kernel
theorem d_M_compact_161 : decode b_M_compact 161 = .ok (.goto 7, 3) := by decide +kernel
theorem d_M_compact_164 : decode b_M_compact 164 = .ok (.iload_n 3, 1) := by decide +kernel
theorem d_M_compact_165 : decode b_M_compact 165 = .ok (.invokestatic 57, 3) := by decide +kernel
theorem d_M_compact_168 : decode b_M_compact 168 = .ok (.iadd, 1) := by decide +kernel
theorem d_M_compact_169 : decode b_M_compact 169 = .ok (.istore_n 1, 1) := by decide +kernel
theorem d_M_compact_170 : decode b_M_compact 170 = .ok (.iinc 2 1, 3) := by decide +kernel
theorem d_M_compact_173 : decode b_M_compact 173 = .ok (.goto (-108), 3) := by decide +kernel
theorem d_M_compact_176 : decode b_M_compact 176 = .ok (.iconst 1, 1) := by decide +kernel
theorem d_M_compact_177 : decode b_M_compact 177 = .ok (.aload_n 0, 1) := by decide +kernel
theorem d_M_compact_178 : decode b_M_compact 178 = .ok (.getfield 50, 3) := by decide +kernel
theorem d_M_compact_181 : decode b_M_compact 181 = .ok (.isub, 1) := by decide +kernel
theorem d_M_compact_182 : decode b_M_compact 182 = .ok (.istore_n 2, 1) := by decide +kernel
theorem d_M_compact_183 : decode b_M_compact 183 = .ok (.aload_n 0, 1) := by decide +kernel
theorem d_M_compact_184 : decode b_M_compact 184 = .ok (.getfield 72, 3) := by decide +kernel
theorem d_M_compact_187 : decode b_M_compact 187 = .ok (.iconst 1, 1) := by decide +kernel
theorem d_M_compact_188 : decode b_M_compact 188 = .ok (.iadd, 1) := by decide +kernel
theorem d_M_compact_189 : decode b_M_compact 189 = .ok (.istore_n 3, 1) := by decide +kernel
theorem d_M_compact_190 : decode b_M_compact 190 = .ok (.iload_n 2, 1) := by decide +kernel
theorem d_M_compact_191 : decode b_M_compact 191 = .ok (.invokestatic 53, 3) := by decide +kernel
theorem d_M_compact_194 : decode b_M_compact 194 = .ok (.sipush 512, 3) := by decide +kernel
theorem d_M_compact_197 : decode b_M_compact 197 = .ok (.idiv, 1) := by decide +kernel
theorem d_M_compact_198 : decode b_M_compact 198 = .ok (.istore 4, 2) := by decide +kernel
theorem d_M_compact_200 : decode b_M_compact 200 = .ok (.iconst 0, 1) := by decide +kernel
theorem d_M_compact_201 : decode b_M_compact 201 = .ok (.istore 5, 2) := by decide +kernel
theorem d_M_compact_203 : decode b_M_compact 203 = .ok (.iload 5, 2) := by decide +kernel
theorem d_M_compact_205 : decode b_M_compact 205 = .ok (.iload_n 1, 1) := by decide +kernel
theorem d_M_compact_206 : decode b_M_compact 206 = .ok (.invokestatic 106, 3) := by decide +kernel
theorem d_M_compact_209 : decode b_M_compact 209 = .ok (.if_icmp .gt 33, 3) := by decide +kernel
theorem d_M_compact_212 : decode b_M_compact 212 = .ok (.aload_n 0, 1) := by decide +kernel
theorem d_M_compact_213 : decode b_M_compact 213 = .ok (.iload 4, 2) := by decide +kernel
theorem d_M_compact_215 : decode b_M_compact 215 = .ok (.iload 5, 2) := by decide +kernel
theorem d_M_compact_217 : decode b_M_compact 217 = .ok (.iadd, 1) := by decide +kernel
theorem d_M_compact_218 : decode b_M_compact 218 = .ok (.aload_n 0, 1) := by decide +kernel
theorem d_M_compact_219 : decode b_M_compact 219 = .ok (.getfield 32, 3) := by decide +kernel
theorem d_M_compact_222 : decode b_M_compact 222 = .ok (.sipush 512, 3) := by decide +kernel
theorem d_M_compact_225 : decode b_M_compact 225 = .ok (.iload 5, 2) := by decide +kernel
theorem d_M_compact_227 : decode b_M_compact 227 = .ok (.imul, 1) := by decide +kernel
theorem d_M_compact_228 : decode b_M_compact 228 = .ok (.invokevirtual 109, 3) := by decide +kernel
theorem d_M_compact_231 : decode b_M_compact 231 = .ok (.ifCond .ne 5, 3) := by decide +kernel
theorem d_M_compact_234 : decode b_M_compact 234 = .ok (.iconst (-1), 1) := by decide +kernel
theorem d_M_compact_235 : decode b_M_compact 235 = .ok (.ireturn, 1) := by decide +kernel
theorem d_M_compact_236 : decode b_M_compact 236 = .ok (.iinc 5 1, 3) := by decide +kernel
theorem d_M_compact_239 : decode b_M_compact 239 = .ok (.goto (-36), 3) := by decide +kernel
theorem d_M_compact_242 : decode b_M_compact 242 = .ok (.aload_n 0, 1) := by decide +kernel
theorem d_M_compact_243 : decode b_M_compact 243 = .ok (.iload_n 2, 1) := by decide +kernel
theorem d_M_compact_244 : decode b_M_compact 244 = .ok (.iload_n 3, 1) := by decide +kernel
theorem d_M_compact_245 : decode b_M_compact 245 = .ok (.invokevirtual 85, 3) := by decide +kernel
theorem d_M_compact_248 : decode b_M_compact 248 = .ok (.aload_n 0, 1) := by decide +kernel
theorem d_M_compact_249 : decode b_M_compact 249 = .ok (.iload_n 3, 1) := by decide +kernel
theorem d_M_compact_250 : decode b_M_compact 250 = .ok (.iconst 2, 1) := by decide +kernel
theorem d_M_compact_251 : decode b_M_compact 251 = .ok (.irem, 1) := by decide +kernel
theorem d_M_compact_252 : decode b_M_compact 252 = .ok (.ifCond .ne 7, 3) := by decide +kernel
theorem d_M_compact_255 : decode b_M_compact 255 = .ok (.iconst 0, 1) := by decide +kernel
theorem d_M_compact_256 : decode b_M_compact 256 = .ok (.goto 4, 3) := by decide +kernel
theorem d_M_compact_259 : decode b_M_compact 259 = .ok (.iconst 1, 1) := by decide +kernel
theorem d_M_compact_260 : decode b_M_compact 260 = .ok (.aload_n 0, 1) := by decide +kernel
theorem d_M_compact_261 : decode b_M_compact 261 = .ok (.getfield 35, 3) := by decide +kernel
theorem d_M_compact_264 : decode b_M_compact 264 = .ok (.iconst 0, 1) := by decide +kernel
theorem d_M_compact_265 : decode b_M_compact 265 = .ok (.invokevirtual 109, 3) := by decide +kernel
theorem d_M_compact_268 : decode b_M_compact 268 = .ok (.ifCond .ne 5, 3) := by decide +kernel
theorem d_M_compact_271 : decode b_M_compact 271 = .ok (.iconst (-1), 1) := by decide +kernel
theorem d_M_compact_272 : decode b_M_compact 272 = .ok (.ireturn, 1) := by decide +kernel
theorem d_M_compact_273 : decode b_M_compact 273 = .ok (.aload_n 0, 1) := by decide +kernel
theorem d_M_compact_274 : decode b_M_compact 274 = .ok (.iload_n 2, 1) := by decide +kernel
theorem d_M_compact_275 : decode b_M_compact 275 = .ok (.putfield 50, 3) := by decide +kernel
theorem d_M_compact_278 : decode b_M_compact 278 = .ok (.aload_n 0, 1) := by decide +kernel
theorem d_M_compact_279 : decode b_M_compact 279 = .ok (.iload_n 3, 1) := by decide +kernel
theorem d_M_compact_280 : decode b_M_compact 280 = .ok (.putfield 72, 3) := by decide +kernel
theorem d_M_compact_283 : decode b_M_compact 283 = .ok (.aload_n 0, 1) := by decide +kernel
theorem d_M_compact_284 : decode b_M_compact 284 = .ok (.invokevirtual 75, 3) := by decide +kernel
theorem d_M_compact_287 : decode b_M_compact 287 = .ok (.aload_n 0, 1) := by decide +kernel
theorem d_M_compact_288 : decode b_M_compact 288 = .ok (.invokevirtual 82, 3) := by decide +kernel
theorem d_M_compact_291 : decode b_M_compact 291 = .ok (.aload_n 0, 1) := by decide +kernel
theorem d_M_compact_292 : decode b_M_compact 292 = .ok (.getfield 60, 3) := by decide +kernel
theorem d_M_compact_295 : decode b_M_compact 295 = .ok (.ireturn, 1) := by decide +kernel
theorem d_M_crashIn_0 : decode b_M_crashIn 0 = .ok (.aload_n 0, 1) := by decide +kernel
theorem d_M_crashIn_1 : decode b_M_crashIn 1 = .ok (.iconst 0, 1) := by decide +kernel
theorem d_M_crashIn_2 : decode b_M_crashIn 2 = .ok (.putfield 38, 3) := by decide +kernel
theorem d_M_crashIn_5 : decode b_M_crashIn 5 = .ok (.iload_n 1, 1) := by decide +kernel
theorem d_M_crashIn_6 : decode b_M_crashIn 6 = .ok (.sipush 1000, 3) := by decide +kernel
theorem d_M_crashIn_9 : decode b_M_crashIn 9 = .ok (.if_icmp .le 5, 3) := by decide +kernel
theorem d_M_crashIn_12 : decode b_M_crashIn 12 = .ok (.iconst 0, 1) := by decide +kernel
theorem d_M_crashIn_13 : decode b_M_crashIn 13 = .ok (.ireturn, 1) := by decide +kernel
theorem d_M_crashIn_14 : decode b_M_crashIn 14 = .ok (.aload_n 0, 1) := by decide +kernel
theorem d_M_crashIn_15 : decode b_M_crashIn 15 = .ok (.iload_n 1, 1) := by decide +kernel
theorem d_M_crashIn_16 : decode b_M_crashIn 16 = .ok (.ifCond .ge 7, 3) := by decide +kernel
theorem d_M_crashIn_19 : decode b_M_crashIn 19 = .ok (.iconst (-1), 1) := by decide +kernel
theorem d_M_crashIn_20 : decode b_M_crashIn 20 = .ok (.goto 4, 3) := by decide +kernel
theorem d_M_crashIn_23 : decode b_M_crashIn 23 = .ok (.iload_n 1, 1) := by decide +kernel
theorem d_M_crashIn_24 : decode b_M_crashIn 24 = .ok (.putfield 29, 3) := by decide +kernel
theorem d_M_crashIn_27 : decode b_M_crashIn 27 = .ok (.iconst 1, 1) := by decide +kernel
theorem d_M_crashIn_28 : decode b_M_crashIn 28 = .ok (.ireturn, 1) := by decide +kernel
theorem d_M_crash_0 : decode b_M_crash 0 = .ok (.aload_n 0, 1) := by decide +kernel
theorem d_M_crash_1 : decode b_M_crash 1 = .ok (.iconst 0, 1) := by decide +kernel
theorem d_M_crash_2 : decode b_M_crash 2 = .ok (.putfield 38, 3) := by decide +kernel
theorem d_M_crash_5 : decode b_M_crash 5 = .ok (.aload_n 0, 1) := by decide +kernel
theorem d_M_crash_6 : decode b_M_crash 6 = .ok (.invokevirtual 97, 3) := by decide +kernel
theorem d_M_crash_9 : decode b_M_crash 9 = .ok (.return_, 1) := by decide +kernel
theorem d_M_spoil_0 : decode b_M_spoil 0 = .ok (.aload_n 0, 1) := by decide +kernel
theorem d_M_spoil_1 : decode b_M_spoil 1 = .ok (.iconst 0, 1) := by decide +kernel
theorem d_M_spoil_2 : decode b_M_spoil 2 = .ok (.putfield 38, 3) := by decide +kernel
theorem d_M_spoil_5 : decode b_M_spoil 5 = .ok (.iload_n 1, 1) := by decide +kernel
theorem d_M_spoil_6 : decode b_M_spoil 6 = .ok (.ifCond .lt 28, 3) := by decide +kernel
theorem d_M_spoil_9 : decode b_M_spoil 9 = .ok (.iload_n 1, 1) := by decide +kernel
theorem d_M_spoil_10 : decode b_M_spoil 10 = .ok (.bipush 63, 2) := by decide +kernel
theorem d_M_spoil_12 : decode b_M_spoil 12 = .ok (.if_icmp .gt 22, 3) := by decide +kernel
theorem d_M_spoil_15 : decode b_M_spoil 15 = .ok (.iload_n 2, 1) := by decide +kernel
theorem d_M_spoil_16 : decode b_M_spoil 16 = .ok (.ifCond .lt 18, 3) := by decide +kernel
theorem d_M_spoil_19 : decode b_M_spoil 19 = .ok (.iload_n 2, 1) := by decide +kernel
theorem d_M_spoil_20 : decode b_M_spoil 20 = .ok (.sipush 511, 3) := by decide +kernel
theorem d_M_spoil_23 : decode b_M_spoil 23 = .ok (.if_icmp .gt 11, 3) := by decide +kernel
theorem d_M_spoil_26 : decode b_M_spoil 26 = .ok (.aload_n 0, 1) := by decide +kernel
theorem d_M_spoil_27 : decode b_M_spoil 27 = .ok (.getfield 14, 3) := by decide +kernel
theorem d_M_spoil_30 : decode b_M_spoil 30 = .ok (.iconst 2, 1) := by decide +kernel
theorem d_M_spoil_31 : decode b_M_spoil 31 = .ok (.if_icmp .ne 5, 3) := by decide +kernel
theorem d_M_spoil_34 : decode b_M_spoil 34 = .ok (.iconst 0, 1) := by decide +kernel
theorem d_M_spoil_35 : decode b_M_spoil 35 = .ok (.ireturn, 1) := by decide +kernel
theorem d_M_spoil_36 : decode b_M_spoil 36 = .ok (.aload_n 0, 1) := by decide +kernel
theorem d_M_spoil_37 : decode b_M_spoil 37 = .ok (.getfield 8, 3) := by decide +kernel
theorem d_M_spoil_40 : decode b_M_spoil 40 = .ok (.sipush 512, 3) := by decide +kernel
theorem d_M_spoil_43 : decode b_M_spoil 43 = .ok (.iload_n 1, 1) := by decide +kernel
theorem d_M_spoil_44 : decode b_M_spoil 44 = .ok (.imul, 1) := by decide +kernel
theorem d_M_spoil_45 : decode b_M_spoil 45 = .ok (.iload_n 2, 1) := by decide +kernel
theorem d_M_spoil_46 : decode b_M_spoil 46 = .ok (.iadd, 1) := by decide +kernel
theorem d_M_spoil_47 : decode b_M_spoil 47 = .ok (.iload_n 3, 1) := by decide +kernel
theorem d_M_spoil_48 : decode b_M_spoil 48 = .ok (.i2b, 1) := by decide +kernel
theorem d_M_spoil_49 : decode b_M_spoil 49 = .ok (.bastore, 1) := by decide +kernel
theorem d_M_spoil_50 : decode b_M_spoil 50 = .ok (.iconst 1, 1) := by decide +kernel
theorem d_M_spoil_51 : decode b_M_spoil 51 = .ok (.ireturn, 1) := by decide +kernel
theorem d_M_length_0 : decode b_M_length 0 = .ok (.aload_n 0, 1) := by decide +kernel
theorem d_M_length_1 : decode b_M_length 1 = .ok (.iconst 0, 1) := by decide +kernel
theorem d_M_length_2 : decode b_M_length 2 = .ok (.putfield 38, 3) := by decide +kernel
theorem d_M_length_5 : decode b_M_length 5 = .ok (.iload_n 1, 1) := by decide +kernel
theorem d_M_length_6 : decode b_M_length 6 = .ok (.ifCond .lt 11, 3) := by decide +kernel
theorem d_M_length_9 : decode b_M_length 9 = .ok (.iload_n 1, 1) := by decide +kernel
theorem d_M_length_10 : decode b_M_length 10 = .ok (.aload_n 0, 1) := by decide +kernel
theorem d_M_length_11 : decode b_M_length 11 = .ok (.getfield 60, 3) := by decide +kernel
theorem d_M_length_14 : decode b_M_length 14 = .ok (.if_icmp .lt 7, 3) := by decide +kernel
theorem d_M_length_17 : decode b_M_length 17 = .ok (.iconst (-1), 1) := by decide +kernel
theorem d_M_length_18 : decode b_M_length 18 = .ok (.goto 8, 3) := by decide +kernel
theorem d_M_length_21 : decode b_M_length 21 = .ok (.aload_n 0, 1) := by decide +kernel
theorem d_M_length_22 : decode b_M_length 22 = .ok (.iload_n 1, 1) := by decide +kernel
theorem d_M_length_23 : decode b_M_length 23 = .ok (.invokevirtual 114, 3) := by decide +kernel
theorem d_M_length_26 : decode b_M_length 26 = .ok (.ireturn, 1) := by decide +kernel
theorem d_M_record_0 : decode b_M_record 0 = .ok (.aload_n 0, 1) := by decide +kernel
theorem d_M_record_1 : decode b_M_record 1 = .ok (.iconst 0, 1) := by decide +kernel
theorem d_M_record_2 : decode b_M_record 2 = .ok (.putfield 38, 3) := by decide +kernel
theorem d_M_record_5 : decode b_M_record 5 = .ok (.iload_n 1, 1) := by decide +kernel
theorem d_M_record_6 : decode b_M_record 6 = .ok (.ifCond .lt 21, 3) := by decide +kernel
theorem d_M_record_9 : decode b_M_record 9 = .ok (.iload_n 1, 1) := by decide +kernel
theorem d_M_record_10 : decode b_M_record 10 = .ok (.aload_n 0, 1) := by decide +kernel
theorem d_M_record_11 : decode b_M_record 11 = .ok (.getfield 60, 3) := by decide +kernel
theorem d_M_record_14 : decode b_M_record 14 = .ok (.if_icmp .ge 13, 3) := by decide +kernel
theorem d_M_record_17 : decode b_M_record 17 = .ok (.iload_n 2, 1) := by decide +kernel
theorem d_M_record_18 : decode b_M_record 18 = .ok (.ifCond .lt 9, 3) := by decide +kernel
theorem d_M_record_21 : decode b_M_record 21 = .ok (.iload_n 2, 1) := by decide +kernel
theorem d_M_record_22 : decode b_M_record 22 = .ok (.bipush 125, 2) := by decide +kernel
theorem d_M_record_24 : decode b_M_record 24 = .ok (.if_icmp .le 5, 3) := by decide +kernel
theorem d_M_record_27 : decode b_M_record 27 = .ok (.lconst 0, 1) := by decide +kernel
theorem d_M_record_28 : decode b_M_record 28 = .ok (.lreturn, 1) := by decide +kernel
theorem d_M_record_29 : decode b_M_record 29 = .ok (.aload_n 0, 1) := by decide +kernel
theorem d_M_record_30 : decode b_M_record 30 = .ok (.iload_n 1, 1) := by decide +kernel
theorem d_M_record_31 : decode b_M_record 31 = .ok (.invokevirtual 114, 3) := by decide +kernel
theorem d_M_record_34 : decode b_M_record 34 = .ok (.istore_n 3, 1) := by decide +kernel
theorem d_M_record_35 : decode b_M_record 35 = .ok (.lconst 0, 1) := by decide +kernel
theorem d_M_record_36 : decode b_M_record 36 = .ok (.lstore 4, 2) := by decide +kernel
theorem d_M_record_38 : decode b_M_record 38 = .ok (.bipush 8, 2) := by decide +kernel
theorem d_M_record_40 : decode b_M_record 40 = .ok (.iload_n 2, 1) := by decide +kernel
theorem d_M_record_41 : decode b_M_record 41 = .ok (.imul, 1) := by decide +kernel
theorem d_M_record_42 : decode b_M_record 42 = .ok (.istore 6, 2) := by decide +kernel
theorem d_M_record_44 : decode b_M_record 44 = .ok (.iload 6, 2) := by decide +kernel
theorem d_M_record_46 : decode b_M_record 46 = .ok (.bipush 8, 2) := by decide +kernel
theorem d_M_record_48 : decode b_M_record 48 = .ok (.iload_n 2, 1) := by decide +kernel
theorem d_M_record_49 : decode b_M_record 49 = .ok (.imul, 1) := by decide +kernel
theorem d_M_record_50 : decode b_M_record 50 = .ok (.bipush 8, 2) := by decide +kernel
theorem d_M_record_52 : decode b_M_record 52 = .ok (.iadd, 1) := by decide +kernel
theorem d_M_record_53 : decode b_M_record 53 = .ok (.if_icmp .ge 56, 3) := by decide +kernel
theorem d_M_record_56 : decode b_M_record 56 = .ok (.lload 4, 2) := by decide +kernel
theorem d_M_record_58 : decode b_M_record 58 = .ok (.bipush 8, 2) := by decide +kernel
theorem d_M_record_60 : decode b_M_record 60 = .ok (.lshl, 1) := by decide +kernel
theorem d_M_record_61 : decode b_M_record 61 = .ok (.iload 6, 2) := by decide +kernel
theorem d_M_record_63 : decode b_M_record 63 = .ok (.iload_n 3, 1) := by decide +kernel
theorem d_M_record_64 : decode b_M_record 64 = .ok (.if_icmp .ge 34, 3) := by decide +kernel
theorem d_M_record_67 : decode b_M_record 67 = .ok (.aload_n 0, 1) := by decide +kernel
theorem d_M_record_68 : decode b_M_record 68 = .ok (.getfield 8, 3) := by decide +kernel
theorem d_M_record_71 : decode b_M_record 71 = .ok (.aload_n 0, 1) := by decide +kernel
theorem d_M_record_72 : decode b_M_record 72 = .ok (.getfield 50, 3) := by decide +kernel
theorem d_M_record_75 : decode b_M_record 75 = .ok (.invokestatic 53, 3) := by decide +kernel
theorem d_M_record_78 : decode b_M_record 78 = .ok (.aload_n 0, 1) := by decide +kernel
theorem d_M_record_79 : decode b_M_record 79 = .ok (.getfield 18, 3) := by decide +kernel
theorem d_M_record_82 : decode b_M_record 82 = .ok (.iload_n 1, 1) := by decide +kernel
theorem d_M_record_83 : decode b_M_record 83 = .ok (.iaload, 1) := by decide +kernel
theorem d_M_record_84 : decode b_M_record 84 = .ok (.iadd, 1) := by decide +kernel
theorem d_M_record_85 : decode b_M_record 85 = .ok (.iconst 2, 1) := by decide +kernel
theorem d_M_record_86 : decode b_M_record 86 = .ok (.iadd, 1) := by decide +kernel
theorem d_M_record_87 : decode b_M_record 87 = .ok (.iload 6, 2) := by decide +kernel
theorem d_M_record_89 : decode b_M_record 89 = .ok (.iadd, 1) := by decide +kernel
theorem d_M_record_90 : decode b_M_record 90 = .ok (.baload, 1) := by decide +kernel
theorem d_M_record_91 : decode b_M_record 91 = .ok (.sipush 255, 3) := by decide +kernel
theorem d_M_record_94 : decode b_M_record 94 = .ok (.iand, 1) := by decide +kernel
theorem d_M_record_95 : decode b_M_record 95 = .ok (.goto 4, 3) := by decide +kernel
theorem d_M_record_98 : decode b_M_record 98 = .ok (.iconst 0, 1) := by decide +kernel
theorem d_M_record_99 : decode b_M_record 99 = .ok (.i2l, 1) := by decide +kernel
theorem d_M_record_100 : decode b_M_record 100 = .ok (.lor, 1) := by decide +kernel
theorem d_M_record_101 : decode b_M_record 101 = .ok (.lstore 4, 2) := by decide +kernel
theorem d_M_record_103 : decode b_M_record 103 = .ok (.iinc 6 1, 3) := by decide +kernel
theorem d_M_record_106 : decode b_M_record 106 = .ok (.goto (-62), 3) := by decide +kernel
theorem d_M_record_109 : decode b_M_record 109 = .ok (.lload 4, 2) := by decide +kernel
theorem d_M_record_111 : decode b_M_record 111 = .ok (.lreturn, 1) := by decide +kernel
theorem d_M_block_0 : decode b_M_block 0 = .ok (.aload_n 0, 1) := by decide +kernel
theorem d_M_block_1 : decode b_M_block 1 = .ok (.iconst 0, 1) := by decide +kernel
theorem d_M_block_2 : decode b_M_block 2 = .ok (.putfield 38, 3) := by decide +kernel
theorem d_M_block_5 : decode b_M_block 5 = .ok (.iload_n 1, 1) := by decide +kernel
theorem d_M_block_6 : decode b_M_block 6 = .ok (.ifCond .lt 19, 3) := by decide +kernel
theorem d_M_block_9 : decode b_M_block 9 = .ok (.iload_n 1, 1) := by decide +kernel
theorem d_M_block_10 : decode b_M_block 10 = .ok (.bipush 63, 2) := by decide +kernel
theorem d_M_block_12 : decode b_M_block 12 = .ok (.if_icmp .gt 13, 3) := by decide +kernel
theorem d_M_block_15 : decode b_M_block 15 = .ok (.iload_n 2, 1) := by decide +kernel
theorem d_M_block_16 : decode b_M_block 16 = .ok (.ifCond .lt 9, 3) := by decide +kernel
theorem d_M_block_19 : decode b_M_block 19 = .ok (.iload_n 2, 1) := by decide +kernel
theorem d_M_block_20 : decode b_M_block 20 = .ok (.bipush 63, 2) := by decide +kernel
theorem d_M_block_22 : decode b_M_block 22 = .ok (.if_icmp .le 5, 3) := by decide +kernel
theorem d_M_block_25 : decode b_M_block 25 = .ok (.lconst 0, 1) := by decide +kernel
theorem d_M_block_26 : decode b_M_block 26 = .ok (.lreturn, 1) := by decide +kernel
theorem d_M_block_27 : decode b_M_block 27 = .ok (.lconst 0, 1) := by decide +kernel
theorem d_M_block_28 : decode b_M_block 28 = .ok (.lstore_n 3, 1) := by decide +kernel
theorem d_M_block_29 : decode b_M_block 29 = .ok (.iconst 0, 1) := by decide +kernel
theorem d_M_block_30 : decode b_M_block 30 = .ok (.istore 5, 2) := by decide +kernel
theorem d_M_block_32 : decode b_M_block 32 = .ok (.iload 5, 2) := by decide +kernel
theorem d_M_block_34 : decode b_M_block 34 = .ok (.bipush 8, 2) := by decide +kernel
theorem d_M_block_36 : decode b_M_block 36 = .ok (.if_icmp .ge 38, 3) := by decide +kernel
theorem d_M_block_39 : decode b_M_block 39 = .ok (.lload_n 3, 1) := by decide +kernel
theorem d_M_block_40 : decode b_M_block 40 = .ok (.bipush 8, 2) := by decide +kernel
theorem d_M_block_42 : decode b_M_block 42 = .ok (.lshl, 1) := by decide +kernel
theorem d_M_block_43 : decode b_M_block 43 = .ok (.aload_n 0, 1) := by decide +kernel
theorem d_M_block_44 : decode b_M_block 44 = .ok (.getfield 8, 3) := by decide +kernel
theorem d_M_block_47 : decode b_M_block 47 = .ok (.sipush 512, 3) := by decide +kernel
theorem d_M_block_50 : decode b_M_block 50 = .ok (.iload_n 1, 1) := by decide +kernel
theorem d_M_block_51 : decode b_M_block 51 = .ok (.imul, 1) := by decide +kernel
theorem d_M_block_52 : decode b_M_block 52 = .ok (.bipush 8, 2) := by decide +kernel
theorem d_M_block_54 : decode b_M_block 54 = .ok (.iload_n 2, 1) := by decide +kernel
theorem d_M_block_55 : decode b_M_block 55 = .ok (.imul, 1) := by decide +kernel
theorem d_M_block_56 : decode b_M_block 56 = .ok (.iadd, 1) := by decide +kernel
theorem d_M_block_57 : decode b_M_block 57 = .ok (.iload 5, 2) := by decide +kernel
theorem d_M_block_59 : decode b_M_block 59 = .ok (.iadd, 1) := by decide +kernel
theorem d_M_block_60 : decode b_M_block 60 = .ok (.baload, 1) := by decide +kernel
theorem d_M_block_61 : decode b_M_block 61 = .ok (.sipush 255, 3) := by decide +kernel
theorem d_M_block_64 : decode b_M_block 64 = .ok (.iand, 1) := by decide +kernel
theorem d_M_block_65 : decode b_M_block 65 = .ok (.i2l, 1) := by decide +kernel
theorem d_M_block_66 : decode b_M_block 66 = .ok (.lor, 1) := by decide +kernel
theorem d_M_block_67 : decode b_M_block 67 = .ok (.lstore_n 3, 1) := by decide +kernel
theorem d_M_block_68 : decode b_M_block 68 = .ok (.iinc 5 1, 3) := by decide +kernel
theorem d_M_block_71 : decode b_M_block 71 = .ok (.goto (-39), 3) := by decide +kernel
theorem d_M_block_74 : decode b_M_block 74 = .ok (.lload_n 3, 1) := by decide +kernel
theorem d_M_block_75 : decode b_M_block 75 = .ok (.lreturn, 1) := by decide +kernel
theorem d_M_look_0 : decode b_M_look 0 = .ok (.aload_n 0, 1) := by decide +kernel
theorem d_M_look_1 : decode b_M_look 1 = .ok (.iconst 0, 1) := by decide +kernel
theorem d_M_look_2 : decode b_M_look 2 = .ok (.putfield 38, 3) := by decide +kernel
theorem d_M_look_5 : decode b_M_look 5 = .ok (.iconst 0, 1) := by decide +kernel
theorem d_M_look_6 : decode b_M_look 6 = .ok (.istore_n 2, 1) := by decide +kernel
theorem d_M_look_7 : decode b_M_look 7 = .ok (.iconst 0, 1) := by decide +kernel
theorem d_M_look_8 : decode b_M_look 8 = .ok (.istore_n 3, 1) := by decide +kernel
theorem d_M_look_9 : decode b_M_look 9 = .ok (.iload_n 3, 1) := by decide +kernel
theorem d_M_look_10 : decode b_M_look 10 = .ok (.aload_n 0, 1) := by decide +kernel
theorem d_M_look_11 : decode b_M_look 11 = .ok (.getfield 60, 3) := by decide +kernel
theorem d_M_look_14 : decode b_M_look 14 = .ok (.if_icmp .ge 26, 3) := by decide +kernel
theorem d_M_look_17 : decode b_M_look 17 = .ok (.iload_n 2, 1) := by decide +kernel
theorem d_M_look_18 : decode b_M_look 18 = .ok (.aload_n 0, 1) := by decide +kernel
theorem d_M_look_19 : decode b_M_look 19 = .ok (.getfield 22, 3) := by decide +kernel
theorem d_M_look_22 : decode b_M_look 22 = .ok (.iload_n 3, 1) := by decide +kernel
theorem d_M_look_23 : decode b_M_look 23 = .ok (.baload, 1) := by decide +kernel
theorem d_M_look_24 : decode b_M_look 24 = .ok (.ifCond .eq 7, 3) := by decide +kernel
theorem d_M_look_27 : decode b_M_look 27 = .ok (.iconst 1, 1) := by decide +kernel
theorem d_M_look_28 : decode b_M_look 28 = .ok (.goto 4, 3) := by decide +kernel
theorem d_M_look_31 : decode b_M_look 31 = .ok (.iconst 0, 1) := by decide +kernel
theorem d_M_look_32 : decode b_M_look 32 = .ok (.iadd, 1) := by decide +kernel
theorem d_M_look_33 : decode b_M_look 33 = .ok (.istore_n 2, 1) := by decide +kernel
theorem d_M_look_34 : decode b_M_look 34 = .ok (.iinc 3 1, 3) := by decide +kernel
theorem d_M_look_37 : decode b_M_look 37 = .ok (.goto (-28), 3) := by decide +kernel
theorem d_M_look_40 : decode b_M_look 40 = .ok (.iload_n 1, 1) := by decide +kernel
theorem d_M_look_41 : decode b_M_look 41 = .ok (.tableswitch 93 0 8 #[51, 56, 61, 66, 71, 76, 81, 86, 91], 51) := by decide +kernel
theorem d_M_look_92 : decode b_M_look 92 = .ok (.aload_n 0, 1) := by decide +kernel
theorem d_M_look_93 : decode b_M_look 93 = .ok (.getfield 60, 3) := by decide +kernel
theorem d_M_look_96 : decode b_M_look 96 = .ok (.ireturn, 1) := by decide +kernel
theorem d_M_look_97 : decode b_M_look 97 = .ok (.aload_n 0, 1) := by decide +kernel
theorem d_M_look_98 : decode b_M_look 98 = .ok (.getfield 63, 3) := by decide +kernel
theorem d_M_look_101 : decode b_M_look 101 = .ok (.ireturn, 1) := by decide +kernel
theorem d_M_look_102 : decode b_M_look 102 = .ok (.aload_n 0, 1) := by decide +kernel
theorem d_M_look_103 : decode b_M_look 103 = .ok (.getfield 72, 3) := by decide +kernel
theorem d_M_look_106 : decode b_M_look 106 = .ok (.ireturn, 1) := by decide +kernel
theorem d_M_look_107 : decode b_M_look 107 = .ok (.aload_n 0, 1) := by decide +kernel
theorem d_M_look_108 : decode b_M_look 108 = .ok (.getfield 50, 3) := by decide +kernel
theorem d_M_look_111 : decode b_M_look 111 = .ok (.ireturn, 1) := by decide +kernel
theorem d_M_look_112 : decode b_M_look 112 = .ok (.aload_n 0, 1) := by decide +kernel
theorem d_M_look_113 : decode b_M_look 113 = .ok (.getfield 14, 3) := by decide +kernel
theorem d_M_look_116 : decode b_M_look 116 = .ok (.ireturn, 1) := by decide +kernel
theorem d_M_look_117 : decode b_M_look 117 = .ok (.aload_n 0, 1) := by decide +kernel
theorem d_M_look_118 : decode b_M_look 118 = .ok (.getfield 100, 3) := by decide +kernel
theorem d_M_look_121 : decode b_M_look 121 = .ok (.ireturn, 1) := by decide +kernel
theorem d_M_look_122 : decode b_M_look 122 = .ok (.aload_n 0, 1) := by decide +kernel
theorem d_M_look_123 : decode b_M_look 123 = .ok (.getfield 103, 3) := by decide +kernel
theorem d_M_look_126 : decode b_M_look 126 = .ok (.ireturn, 1) := by decide +kernel
theorem d_M_look_127 : decode b_M_look 127 = .ok (.aload_n 0, 1) := by decide +kernel
theorem d_M_look_128 : decode b_M_look 128 = .ok (.getfield 29, 3) := by decide +kernel
theorem d_M_look_131 : decode b_M_look 131 = .ok (.ireturn, 1) := by decide +kernel
theorem d_M_look_132 : decode b_M_look 132 = .ok (.iload_n 2, 1) := by decide +kernel
theorem d_M_look_133 : decode b_M_look 133 = .ok (.ireturn, 1) := by decide +kernel
theorem d_M_look_134 : decode b_M_look 134 = .ok (.iconst (-1), 1) := by decide +kernel
theorem d_M_look_135 : decode b_M_look 135 = .ok (.ireturn, 1) := by decide +kernel
end
section
/-! the words of the journal, in naturals: bytes are 0 .. 255, a row of bytes d : Nat → Nat; hj_B d is the row as the machine holds it -/
def hj_B (d : Nat → Nat) : Nat → Int32 := fun q => sb_b (d q)
def hj_st (c : Nat) : Nat := (c / 2) ^^^ (if c % 2 = 1 then 3988292384 else 0)
def hj_sts : Nat → Nat → Nat
  | 0, c => c
  | k + 1, c => hj_sts k (hj_st c)
def hj_tab (k : Nat) : Nat := ([0, 498536548, 997073096, 651767980, 1994146192, 1802195444, 1303535960, 1342533948, 3988292384, 4027552580, 3604390888, 3412177804, 2607071920, 2262029012, 2685067896, 3183342108] : List Nat).getD k 0
theorem hj_st_xor (a b : Nat) : hj_st (a ^^^ b) = hj_st a ^^^ hj_st b := by
  unfold hj_st
  rw [Nat.xor_div_two]
  have h := @Nat.xor_mod_two_eq_one a b
  by_cases ha : a % 2 = 1 <;> by_cases hb : b % 2 = 1 <;> simp only [ha, hb, h, if_true, if_false, not_true_eq_false, not_false_eq_true, iff_self, iff_true, true_iff, iff_false, false_iff] <;> (apply Nat.eq_of_testBit_eq; intro i; simp only [Nat.testBit_xor, Nat.zero_testBit]; generalize Nat.testBit 3988292384 i = z; generalize Nat.testBit (a / 2) i = x; generalize Nat.testBit (b / 2) i = y; cases x <;> cases y <;> cases z <;> rfl)
theorem hj_sts_xor (k : Nat) : ∀ a b : Nat, hj_sts k (a ^^^ b) = hj_sts k a ^^^ hj_sts k b := by
  induction k with
  | zero => intro a b; rfl
  | succ k ih => intro a b; show hj_sts k (hj_st (a ^^^ b)) = _; rw [hj_st_xor]; exact ih _ _
theorem hj_st_even (m : Nat) : hj_st (2 * m) = m := by
  unfold hj_st
  rw [if_neg (by omega), Nat.xor_zero]
  omega
theorem hj_sts_16 (q : Nat) : hj_sts 4 (16 * q) = q := by
  show hj_st (hj_st (hj_st (hj_st (16 * q)))) = q
  rw [show 16 * q = 2 * (8 * q) by omega, hj_st_even, show 8 * q = 2 * (4 * q) by omega, hj_st_even, show 4 * q = 2 * (2 * q) by omega, hj_st_even, hj_st_even]
theorem hj_tab_sts : ∀ r, r < 16 → hj_tab r = hj_sts 4 r := by decide +kernel
theorem hj_split (c : Nat) : (16 * (c / 16)) ^^^ (c % 16) = c := by
  have h1 : ((16 * (c / 16)) ^^^ (c % 16)) / 2 ^ 4 = c / 16 := by
    rw [Nat.xor_div_two_pow, show (16 * (c / 16)) / 2 ^ 4 = c / 16 by omega, show (c % 16) / 2 ^ 4 = 0 by omega, Nat.xor_zero]
  have h2 : ((16 * (c / 16)) ^^^ (c % 16)) % 2 ^ 4 = c % 16 := by
    rw [Nat.xor_mod_two_pow, show (16 * (c / 16)) % 2 ^ 4 = 0 by omega, show c % 16 % 2 ^ 4 = c % 16 by omega, Nat.zero_xor]
  generalize ((16 * (c / 16)) ^^^ (c % 16)) = x at h1 h2
  omega
theorem hj_nib (c : Nat) : c / 16 ^^^ hj_tab (c % 16) = hj_sts 4 c := by
  have h : hj_sts 4 ((16 * (c / 16)) ^^^ (c % 16)) = c / 16 ^^^ hj_tab (c % 16) := by
    rw [hj_sts_xor, hj_sts_16, hj_tab_sts _ (Nat.mod_lt _ (by omega))]
  rw [← h, hj_split]
def hj_cb (c b : Nat) : Nat := hj_sts 8 (c ^^^ b)
theorem hj_cb_nib (c b : Nat) : hj_sts 4 (hj_sts 4 (c ^^^ b)) = hj_cb c b := rfl
theorem hj_st_lt {c : Nat} (h : c < 2 ^ 32) : hj_st c < 2 ^ 32 := by
  unfold hj_st
  refine Nat.xor_lt_two_pow (by omega) ?_
  split <;> decide
theorem hj_sts_lt (k : Nat) : ∀ {c : Nat}, c < 2 ^ 32 → hj_sts k c < 2 ^ 32 := by
  induction k with
  | zero => intro c h; exact h
  | succ k ih => intro c h; exact ih (hj_st_lt h)
theorem hj_xor_lt {c b : Nat} (h : c < 2 ^ 32) (hb : b < 256) : c ^^^ b < 2 ^ 32 := Nat.xor_lt_two_pow h (by omega)
theorem hj_cb_lt {c b : Nat} (h : c < 2 ^ 32) (hb : b < 256) : hj_cb c b < 2 ^ 32 := hj_sts_lt 8 (hj_xor_lt h hb)
def hj_crc (d : Nat → Nat) (a : Nat) : Nat → Nat
  | 0 => 4294967295
  | n + 1 => hj_cb (hj_crc d a n) (d (a + n))
def hj_chk (d : Nat → Nat) (a n : Nat) : Nat := hj_crc d a n ^^^ 4294967295
def hj_bs (d : Nat → Nat) : Prop := ∀ q, d q < 256
theorem hj_crc_lt {d : Nat → Nat} (hd : hj_bs d) (a : Nat) : ∀ n, hj_crc d a n < 2 ^ 32
  | 0 => by show 4294967295 < 2 ^ 32; decide
  | n + 1 => hj_cb_lt (hj_crc_lt hd a n) (hd _)
theorem hj_chk_lt {d : Nat → Nat} (hd : hj_bs d) (a n : Nat) : hj_chk d a n < 2 ^ 32 := Nat.xor_lt_two_pow (hj_crc_lt hd a n) (by decide)
theorem hj_crc_congr {d d' : Nat → Nat} {a a' : Nat} : ∀ n, (∀ j, j < n → d' (a' + j) = d (a + j)) → hj_crc d' a' n = hj_crc d a n
  | 0, _ => rfl
  | n + 1, h => by
    show hj_cb _ _ = hj_cb _ _
    rw [hj_crc_congr n (fun j hj => h j (by omega)), h n (by omega)]
theorem hj_chk_congr {d d' : Nat → Nat} {a a' n : Nat} (h : ∀ j, j < n → d' (a' + j) = d (a + j)) : hj_chk d' a' n = hj_chk d a n := by
  unfold hj_chk
  rw [hj_crc_congr n h]
/-! numbers of several bytes -/
def hj_len (d : Nat → Nat) (a : Nat) : Nat := d a + 256 * d (a + 1)
def hj_four (d : Nat → Nat) (a : Nat) : Nat := d a + 256 * d (a + 1) + 65536 * d (a + 2) + 16777216 * d (a + 3)
def hj_by (v j : Nat) : Nat := v / 256 ^ j % 256
theorem hj_by_lt (v j : Nat) : hj_by v j < 256 := Nat.mod_lt _ (by omega)
theorem hj_by0 (v : Nat) : hj_by v 0 = v % 256 := by simp [hj_by]
theorem hj_by1 (v : Nat) : hj_by v 1 = v / 256 % 256 := by simp [hj_by]
theorem hj_by2 (v : Nat) : hj_by v 2 = v / 65536 % 256 := by simp [hj_by]
theorem hj_by3 (v : Nat) : hj_by v 3 = v / 16777216 % 256 := by simp [hj_by]
theorem hj_four_lt {d : Nat → Nat} (hd : hj_bs d) (a : Nat) : hj_four d a < 2 ^ 32 := by
  have h0 := hd a; have h1 := hd (a + 1); have h2 := hd (a + 2); have h3 := hd (a + 3)
  unfold hj_four
  omega
theorem hj_len_lt {d : Nat → Nat} (hd : hj_bs d) (a : Nat) : hj_len d a < 65536 := by
  have h0 := hd a; have h1 := hd (a + 1)
  unfold hj_len
  omega
theorem hj_four_by {d : Nat → Nat} {a v : Nat} (hv : v < 2 ^ 32) (h : ∀ j, j < 4 → d (a + j) = hj_by v j) : hj_four d a = v := by
  have h0 := h 0 (by omega); have h1 := h 1 (by omega); have h2 := h 2 (by omega); have h3 := h 3 (by omega)
  rw [hj_by0] at h0; rw [hj_by1] at h1; rw [hj_by2] at h2; rw [hj_by3] at h3
  unfold hj_four
  rw [show a + 0 = a from rfl] at h0
  omega
theorem hj_four_congr {d d' : Nat → Nat} {a a' : Nat} (h : ∀ j, j < 4 → d' (a' + j) = d (a + j)) : hj_four d' a' = hj_four d a := by
  have h0 := h 0 (by omega); have h1 := h 1 (by omega); have h2 := h 2 (by omega); have h3 := h 3 (by omega)
  unfold hj_four
  simp only [Nat.add_zero] at h0
  rw [h0, h1, h2, h3]
/-! records -/
def hj_sz (n : Nat) : Nat := 6 + n + n % 2
def hj_hb (h : Nat) : Nat := 512 * (2 + 31 * h)
def hj_ok (d : Nat → Nat) (h a : Nat) : Prop := a + 2 ≤ 15872 ∧ 1 ≤ hj_len d (hj_hb h + a) ∧ hj_len d (hj_hb h + a) ≤ 1000 ∧ a + hj_sz (hj_len d (hj_hb h + a)) ≤ 15872 ∧ hj_four d (hj_hb h + a + 2 + hj_len d (hj_hb h + a)) = hj_chk d (hj_hb h + a) (2 + hj_len d (hj_hb h + a))
theorem hj_ok_dec (d : Nat → Nat) (h a : Nat) : hj_ok d h a ∨ ¬ hj_ok d h a := Classical.em _
noncomputable def hj_rl (d : Nat → Nat) (h a : Nat) : Nat := @ite _ (hj_ok d h a) (Classical.propDecidable _) (hj_len d (hj_hb h + a)) 0
theorem hj_rl_ok {d : Nat → Nat} {h a : Nat} (k : hj_ok d h a) : hj_rl d h a = hj_len d (hj_hb h + a) := by
  unfold hj_rl
  rw [if_pos k]
theorem hj_rl_no {d : Nat → Nat} {h a : Nat} (k : ¬ hj_ok d h a) : hj_rl d h a = 0 := by
  unfold hj_rl
  rw [if_neg k]
theorem hj_rl_pos {d : Nat → Nat} {h a : Nat} (k : 0 < hj_rl d h a) : hj_ok d h a := by
  rcases hj_ok_dec d h a with q | q
  · exact q
  · rw [hj_rl_no q] at k; omega
theorem hj_rl_in {d : Nat → Nat} {h a : Nat} (k : 0 < hj_rl d h a) : hj_rl d h a ≤ 1000 ∧ a + hj_sz (hj_rl d h a) ≤ 15872 ∧ hj_rl d h a = hj_len d (hj_hb h + a) := by
  have q := hj_rl_pos k
  rw [hj_rl_ok q]
  exact ⟨q.2.2.1, q.2.2.2.1, rfl⟩
theorem hj_sz_8 {n : Nat} (h : 1 ≤ n) : 8 ≤ hj_sz n := by unfold hj_sz; omega
theorem hj_sz_le (n : Nat) : hj_sz n ≤ n + 7 := by unfold hj_sz; omega
noncomputable def hj_pos (d : Nat → Nat) (h : Nat) : Nat → Nat
  | 0 => 0
  | i + 1 => hj_pos d h i + hj_sz (hj_rl d h (hj_pos d h i))
def hj_Is (d : Nat → Nat) (h n : Nat) : Prop := (∀ i, i < n → 0 < hj_rl d h (hj_pos d h i)) ∧ hj_rl d h (hj_pos d h n) = 0
theorem hj_pos_in {d : Nat → Nat} {h : Nat} : ∀ n, (∀ i, i < n → 0 < hj_rl d h (hj_pos d h i)) → 8 * n ≤ hj_pos d h n ∧ hj_pos d h n ≤ 15872 ∧ hj_pos d h n % 2 = 0
  | 0, _ => by simp [hj_pos]
  | n + 1, k => by
    obtain ⟨h1, h2, h3⟩ := hj_pos_in n (fun i hi => k i (by omega))
    have h4 := k n (by omega)
    obtain ⟨h5, h6, -⟩ := hj_rl_in h4
    show 8 * (n + 1) ≤ hj_pos d h n + hj_sz (hj_rl d h (hj_pos d h n)) ∧ hj_pos d h n + hj_sz (hj_rl d h (hj_pos d h n)) ≤ 15872 ∧ (hj_pos d h n + hj_sz (hj_rl d h (hj_pos d h n))) % 2 = 0
    generalize hj_rl d h (hj_pos d h n) = r at h4 h5 h6 ⊢
    unfold hj_sz at h6 ⊢
    omega
theorem hj_Is_uniq {d : Nat → Nat} {h n n' : Nat} (a : hj_Is d h n) (b : hj_Is d h n') : n = n' := by
  rcases Nat.lt_trichotomy n n' with q | q | q
  · have := b.1 n q; have := a.2; omega
  · exact q
  · have := a.1 n' q; have := b.2; omega
noncomputable def hj_cnt (d : Nat → Nat) (h : Nat) : Nat → Nat → Nat
  | 0, i => i
  | f + 1, i => if hj_rl d h (hj_pos d h i) = 0 then i else hj_cnt d h f (i + 1)
noncomputable def hj_N (d : Nat → Nat) (h : Nat) : Nat := hj_cnt d h 1984 0
theorem hj_rl_end {d : Nat → Nat} {h a : Nat} (k : 15872 < a + 2) : hj_rl d h a = 0 := hj_rl_no (fun q => by have := q.1; omega)
theorem hj_cnt_is {d : Nat → Nat} {h : Nat} : ∀ f i, i + f = 1984 → (∀ j, j < i → 0 < hj_rl d h (hj_pos d h j)) → hj_Is d h (hj_cnt d h f i)
  | 0, i, e, k => by
    refine ⟨k, ?_⟩
    have := hj_pos_in i k
    show hj_rl d h (hj_pos d h i) = 0
    exact hj_rl_end (by omega)
  | f + 1, i, e, k => by
    unfold hj_cnt
    by_cases q : hj_rl d h (hj_pos d h i) = 0
    · rw [if_pos q]; exact ⟨k, q⟩
    · rw [if_neg q]
      refine hj_cnt_is f (i + 1) (by omega) (fun j hj => ?_)
      rcases Nat.lt_or_ge j i with z | z
      · exact k j z
      · rw [show j = i by omega]; omega
theorem hj_N_is (d : Nat → Nat) (h : Nat) : hj_Is d h (hj_N d h) := hj_cnt_is 1984 0 rfl (fun j hj => by omega)
theorem hj_N_of {d : Nat → Nat} {h n : Nat} (k : hj_Is d h n) : n = hj_N d h := hj_Is_uniq k (hj_N_is d h)
theorem hj_N_le (d : Nat → Nat) (h : Nat) : hj_N d h ≤ 1984 := by
  have := hj_pos_in _ (hj_N_is d h).1
  omega
end
section
/-! writing blocks -/
def hj_blk (d : Nat → Nat) (b : Nat) (r : Nat → Nat) (a : Nat) : Nat → Nat := fun q => if 512 * b ≤ q ∧ q < 512 * b + 512 then r (a + (q - 512 * b)) else d q
def hj_dec (du : Int32) : Int32 := if 0 < du then du - 1 else du
abbrev hj_DS : Type := Bool × (Nat → Nat) × Int32 × Int32
/-- m blocks of the row r, from f + m - 1 down to f, on the disk from block b0 on -/
def hj_wdn (r : Nat → Nat) (b0 f : Nat) : Nat → (Nat → Nat) → Int32 → Int32 → hj_DS
  | 0, d, du, wr => (true, d, du, wr)
  | m + 1, d, du, wr => if du = 0 then (false, d, -1, wr) else hj_wdn r b0 f m (hj_blk d (b0 + f + m) r (512 * (f + m))) (hj_dec du) (wr + 1)
/-- m blocks of the row r, from b on upwards -/
def hj_wup (r : Nat → Nat) (b0 : Nat) : Nat → Nat → (Nat → Nat) → Int32 → Int32 → hj_DS
  | 0, _, d, du, wr => (true, d, du, wr)
  | m + 1, b, d, du, wr => if du = 0 then (false, d, -1, wr) else hj_wup r b0 m (b + 1) (hj_blk d (b0 + b) r (512 * b)) (hj_dec du) (wr + 1)
theorem hj_blk_congr {d : Nat → Nat} {b : Nat} {r r' : Nat → Nat} {a : Nat} (h : ∀ j, j < 512 → r' (a + j) = r (a + j)) : hj_blk d b r' a = hj_blk d b r a := by
  funext q
  unfold hj_blk
  by_cases k : 512 * b ≤ q ∧ q < 512 * b + 512
  · rw [if_pos k, if_pos k, h _ (by omega)]
  · rw [if_neg k, if_neg k]
theorem hj_blk_bs {d : Nat → Nat} {b : Nat} {r : Nat → Nat} {a : Nat} (hd : hj_bs d) (hr : hj_bs r) : hj_bs (hj_blk d b r a) := by
  intro q
  unfold hj_blk
  split
  · exact hr _
  · exact hd _
theorem hj_wdn_congr {r r' : Nat → Nat} {b0 f : Nat} : ∀ m d du wr, (∀ j, 512 * f ≤ j → j < 512 * (f + m) → r' j = r j) → hj_wdn r' b0 f m d du wr = hj_wdn r b0 f m d du wr
  | 0, _, _, _, _ => rfl
  | m + 1, d, du, wr, h => by
    unfold hj_wdn
    rw [hj_blk_congr (r := r) (r' := r') (fun j hj => h _ (by omega) (by omega)), hj_wdn_congr m _ _ _ (fun j h1 h2 => h j h1 (by omega))]
theorem hj_wup_congr {r r' : Nat → Nat} {b0 : Nat} : ∀ m b d du wr, (∀ j, 512 * b ≤ j → j < 512 * (b + m) → r' j = r j) → hj_wup r' b0 m b d du wr = hj_wup r b0 m b d du wr
  | 0, _, _, _, _, _ => rfl
  | m + 1, b, d, du, wr, h => by
    unfold hj_wup
    rw [hj_blk_congr (r := r) (r' := r') (fun j hj => h _ (by omega) (by omega)), hj_wup_congr m (b + 1) _ _ _ (fun j h1 h2 => h j (by omega) (by omega))]
theorem hj_wdn_bs {r : Nat → Nat} {b0 f : Nat} (hr : hj_bs r) : ∀ m d du wr, hj_bs d → hj_bs (hj_wdn r b0 f m d du wr).2.1
  | 0, _, _, _, h => h
  | m + 1, d, du, wr, h => by
    unfold hj_wdn
    split
    · exact h
    · exact hj_wdn_bs hr m _ _ _ (hj_blk_bs h hr)
theorem hj_wup_bs {r : Nat → Nat} {b0 : Nat} (hr : hj_bs r) : ∀ m b d du wr, hj_bs d → hj_bs (hj_wup r b0 m b d du wr).2.1
  | 0, _, _, _, _, h => h
  | m + 1, b, d, du, wr, h => by
    unfold hj_wup
    split
    · exact h
    · exact hj_wup_bs hr m _ _ _ _ (hj_blk_bs h hr)
theorem hj_wdn_at {r : Nat → Nat} {b0 f : Nat} : ∀ m d du wr, (hj_wdn r b0 f m d du wr).1 = true → ∀ q, (hj_wdn r b0 f m d du wr).2.1 q = if 512 * (b0 + f) ≤ q ∧ q < 512 * (b0 + f + m) then r (q - 512 * b0) else d q
  | 0, d, du, wr, _, q => by
    rw [if_neg (by omega)]; rfl
  | m + 1, d, du, wr, h, q => by
    unfold hj_wdn at h ⊢
    by_cases z : du = 0
    · rw [if_pos z] at h; cases h
    · rw [if_neg z] at h ⊢
      rw [hj_wdn_at m _ _ _ h q]
      unfold hj_blk
      by_cases k1 : 512 * (b0 + f) ≤ q ∧ q < 512 * (b0 + f + m)
      · rw [if_pos k1, if_pos (by omega)]
      · rw [if_neg k1]
        by_cases k2 : 512 * (b0 + f + m) ≤ q ∧ q < 512 * (b0 + f + m) + 512
        · rw [if_pos k2, if_pos (by omega)]
          congr 1
          omega
        · rw [if_neg k2, if_neg (by omega)]
/-! the row that append lays -/
def hj_im0 (d : Nat → Nat) (h u : Nat) (tp : Nat → Nat) (tl : Nat) : Nat → Nat := fun k => if k < u then d (hj_hb h + k) else if k < u + 2 then hj_by tl (k - u) else if k < u + 2 + tl then tp (k - u - 2) else 0
def hj_im (d : Nat → Nat) (h u : Nat) (tp : Nat → Nat) (tl : Nat) : Nat → Nat := fun k => if u + 2 + tl ≤ k ∧ k < u + 6 + tl then hj_by (hj_chk (hj_im0 d h u tp tl) u (2 + tl)) (k - (u + 2 + tl)) else hj_im0 d h u tp tl k
theorem hj_im0_bs {d tp : Nat → Nat} {h u tl : Nat} (hd : hj_bs d) (ht : hj_bs tp) : hj_bs (hj_im0 d h u tp tl) := by
  intro k
  unfold hj_im0
  split
  · exact hd _
  · split
    · exact hj_by_lt _ _
    · split
      · exact ht _
      · omega
theorem hj_im_bs {d tp : Nat → Nat} {h u tl : Nat} (hd : hj_bs d) (ht : hj_bs tp) : hj_bs (hj_im d h u tp tl) := by
  intro k
  unfold hj_im
  split
  · exact hj_by_lt _ _
  · exact hj_im0_bs hd ht _
theorem hj_ok_congr {d d' : Nat → Nat} {h a : Nat} (k : hj_ok d h a) (e : ∀ j, a ≤ j → j < a + 6 + hj_len d (hj_hb h + a) → d' (hj_hb h + j) = d (hj_hb h + j)) : hj_ok d' h a ∧ hj_len d' (hj_hb h + a) = hj_len d (hj_hb h + a) := by
  have el : hj_len d' (hj_hb h + a) = hj_len d (hj_hb h + a) := by
    have e0 := e a (by omega) (by omega)
    have e1 := e (a + 1) (by omega) (by omega)
    unfold hj_len
    rw [show hj_hb h + a + 1 = hj_hb h + (a + 1) by omega, e0, e1]
  refine ⟨?_, el⟩
  obtain ⟨k1, k2, k3, k4, k5⟩ := k
  unfold hj_ok
  rw [el]
  refine ⟨k1, k2, k3, k4, ?_⟩
  rw [hj_four_congr (d := d) (a := hj_hb h + a + 2 + hj_len d (hj_hb h + a)) (fun j hj => by
    have := e (a + 2 + hj_len d (hj_hb h + a) + j) (by omega) (by omega)
    rw [show hj_hb h + a + 2 + hj_len d (hj_hb h + a) + j = hj_hb h + (a + 2 + hj_len d (hj_hb h + a) + j) by omega]; exact this), k5]
  refine (hj_chk_congr (fun j hj => ?_)).symm
  rw [show hj_hb h + a + j = hj_hb h + (a + j) by omega]
  exact e (a + j) (by omega) (by omega)
theorem hj_rl_congr {d d' : Nat → Nat} {h a : Nat} (k : 0 < hj_rl d h a) (e : ∀ j, a ≤ j → j < a + 6 + hj_rl d h a → d' (hj_hb h + j) = d (hj_hb h + j)) : hj_rl d' h a = hj_rl d h a := by
  have q := hj_rl_pos k
  have q2 := (hj_rl_in k).2.2
  rw [q2] at e
  obtain ⟨a1, a2⟩ := hj_ok_congr q e
  rw [hj_rl_ok a1, hj_rl_ok q, a2]
theorem hj_pos_congr {d d' : Nat → Nat} {h n : Nat} (k : ∀ i, i < n → 0 < hj_rl d h (hj_pos d h i)) (e : ∀ j, j < hj_pos d h n → d' (hj_hb h + j) = d (hj_hb h + j)) : ∀ i, i ≤ n → hj_pos d' h i = hj_pos d h i ∧ (i < n → hj_rl d' h (hj_pos d h i) = hj_rl d h (hj_pos d h i)) := by
  have mono : ∀ i, i ≤ n → hj_pos d h i ≤ hj_pos d h n := by
    intro i hi
    induction hi with
    | refl => exact Nat.le_refl _
    | @step z hz ih =>
      have := ih (fun i hi => k i (by omega)) (fun j hj => e j (Nat.lt_of_lt_of_le hj (Nat.le_add_right _ _)))
      exact Nat.le_trans this (Nat.le_add_right _ _)
  have rle : ∀ i, i < n → hj_rl d' h (hj_pos d h i) = hj_rl d h (hj_pos d h i) := by
    intro i hi
    refine hj_rl_congr (k i hi) (fun j _ h2 => e j ?_)
    have h3 : hj_pos d h (i + 1) ≤ hj_pos d h n := mono (i + 1) hi
    have h4 : hj_pos d h (i + 1) = hj_pos d h i + hj_sz (hj_rl d h (hj_pos d h i)) := rfl
    unfold hj_sz at h4
    omega
  intro i
  induction i with
  | zero => intro _; exact ⟨rfl, fun q => rle 0 q⟩
  | succ i ih =>
    intro hi
    obtain ⟨a1, a2⟩ := ih (by omega)
    refine ⟨?_, fun q => rle _ q⟩
    show hj_pos d' h i + hj_sz (hj_rl d' h (hj_pos d' h i)) = hj_pos d h i + hj_sz (hj_rl d h (hj_pos d h i))
    rw [a1, a2 (by omega)]
/-- a row's records behind an append that was written whole -/
theorem hj_append {d d' tp : Nat → Nat} {h n u tl : Nat} (hd : hj_bs d) (ht : hj_bs tp) (hI : hj_Is d h n) (hu : u = hj_pos d h n) (h1 : 1 ≤ tl) (h2 : tl ≤ 1000) (h3 : u + hj_sz tl ≤ 15872)
    (e : ∀ j, j < u + hj_sz tl + 2 → j < 15872 → d' (hj_hb h + j) = hj_im d h u tp tl j) :
    hj_Is d' h (n + 1) ∧ (∀ i, i ≤ n → hj_pos d' h i = hj_pos d h i) ∧ (∀ i, i < n → hj_rl d' h (hj_pos d h i) = hj_rl d h (hj_pos d h i)) ∧ hj_rl d' h u = tl ∧ hj_pos d' h (n + 1) = u + hj_sz tl := by
  have hsz : hj_sz tl = 6 + tl + tl % 2 := rfl
  have elo : ∀ j, j < u → d' (hj_hb h + j) = d (hj_hb h + j) := by
    intro j hj
    rw [e j (by omega) (by omega)]
    unfold hj_im hj_im0
    rw [if_neg (by omega), if_pos hj]
  have hpc := hj_pos_congr hI.1 (fun j hj => elo j (by omega))
  have e0 : ∀ j, u ≤ j → j < u + 2 + tl → d' (hj_hb h + j) = hj_im0 d h u tp tl j := by
    intro j ha hb
    rw [e j (by omega) (by omega)]
    unfold hj_im
    rw [if_neg (by omega)]
  have eb0 : d' (hj_hb h + u) = hj_by tl 0 := by
    rw [e0 u (by omega) (by omega)]
    unfold hj_im0
    rw [if_neg (by omega), if_pos (by omega), Nat.sub_self]
  have eb1 : d' (hj_hb h + u + 1) = hj_by tl 1 := by
    rw [show hj_hb h + u + 1 = hj_hb h + (u + 1) by omega, e0 (u + 1) (by omega) (by omega)]
    unfold hj_im0
    rw [if_neg (by omega), if_pos (by omega), show u + 1 - u = 1 by omega]
  have elen : hj_len d' (hj_hb h + u) = tl := by
    unfold hj_len
    rw [eb0, eb1, hj_by0, hj_by1]
    omega
  have hok : hj_ok d' h u := by
    unfold hj_ok
    rw [elen]
    refine ⟨by omega, h1, h2, h3, ?_⟩
    have ec : hj_chk d' (hj_hb h + u) (2 + tl) = hj_chk (hj_im0 d h u tp tl) u (2 + tl) := by
      refine hj_chk_congr (fun j hj => ?_)
      rw [show hj_hb h + u + j = hj_hb h + (u + j) by omega]
      exact e0 (u + j) (by omega) (by omega)
    rw [ec]
    refine hj_four_by (hj_chk_lt (hj_im0_bs hd ht) _ _) (fun j hj => ?_)
    rw [show hj_hb h + u + 2 + tl + j = hj_hb h + (u + 2 + tl + j) by omega, e _ (by omega) (by omega)]
    unfold hj_im
    rw [if_pos (by omega), show u + 2 + tl + j - (u + 2 + tl) = j by omega]
  have erl : hj_rl d' h u = tl := by rw [hj_rl_ok hok, elen]
  have epn : hj_pos d' h n = u := by rw [(hpc n (Nat.le_refl n)).1, hu]
  have eps : hj_pos d' h (n + 1) = u + hj_sz tl := by
    show hj_pos d' h n + hj_sz (hj_rl d' h (hj_pos d' h n)) = _
    rw [epn, erl]
  refine ⟨⟨fun i hi => ?_, ?_⟩, fun i hi => (hpc i hi).1, fun i hi => (hpc i (by omega)).2 hi, erl, eps⟩
  · rcases Nat.lt_or_ge i n with q | q
    · rw [(hpc i (by omega)).1, (hpc i (by omega)).2 q]; exact hI.1 i q
    · rw [show i = n by omega, epn, erl]; omega
  · rw [eps]
    refine hj_rl_no (fun q => ?_)
    obtain ⟨q1, q2, -⟩ := q
    have z0 : d' (hj_hb h + (u + hj_sz tl)) = 0 := by
      rw [e _ (by omega) (by omega)]
      unfold hj_im hj_im0
      rw [if_neg (by omega), if_neg (by omega), if_neg (by omega), if_neg (by omega)]
    have z1 : d' (hj_hb h + (u + hj_sz tl) + 1) = 0 := by
      rw [show hj_hb h + (u + hj_sz tl) + 1 = hj_hb h + (u + hj_sz tl + 1) by omega, e _ (by omega) (by omega)]
      unfold hj_im hj_im0
      rw [if_neg (by omega), if_neg (by omega), if_neg (by omega), if_neg (by omega)]
    unfold hj_len at q2
    rw [z0, z1] at q2
    omega
/-! heads -/
def hj_hd0 (h g : Nat) : Nat → Nat := fun k => if k = 0 then 74 else if k = 1 then 49 else if k = 2 then h % 256 else if k = 3 then 0 else if k < 8 then hj_by g (k - 4) else 0
def hj_hd (h g : Nat) : Nat → Nat := fun k => if 8 ≤ k ∧ k < 12 then hj_by (hj_chk (hj_hd0 h g) 0 8) (k - 8) else hj_hd0 h g k
theorem hj_hd0_bs (h g : Nat) : hj_bs (hj_hd0 h g) := by
  intro k
  unfold hj_hd0
  repeat' split
  all_goals first | omega | exact hj_by_lt _ _
theorem hj_hd_bs (h g : Nat) : hj_bs (hj_hd h g) := by
  intro k
  unfold hj_hd
  split
  · exact hj_by_lt _ _
  · exact hj_hd0_bs _ _ _
def hj_right (d : Nat → Nat) (b : Nat) : Prop := d (512 * b) = 74 ∧ d (512 * b + 1) = 49 ∧ d (512 * b + 2) < 2 ∧ d (512 * b + 3) = 0 ∧ 0 < hj_four d (512 * b + 4) ∧ hj_four d (512 * b + 4) < 2 ^ 31 ∧ hj_four d (512 * b + 8) = hj_chk d (512 * b) 8
def hj_fd : Nat → Nat := hj_blk (fun _ => 0) 1 (hj_hd 0 1) 0
theorem hj_fd_bs : hj_bs hj_fd := hj_blk_bs (fun _ => by omega) (hj_hd_bs 0 1)
theorem hj_fd_0 : ¬ hj_right hj_fd 0 := by
  intro h
  have := h.1
  unfold hj_fd hj_blk at this
  rw [if_neg (by omega)] at this
  exact absurd this (by decide)
theorem hj_right_hd {d : Nat → Nat} {b h g : Nat} (hh : h < 2) (h0 : 0 < g) (hg : g < 2 ^ 31) (e : ∀ j, j < 512 → d (512 * b + j) = hj_hd h g j) : hj_right d b ∧ hj_four d (512 * b + 4) = g ∧ d (512 * b + 2) = h := by
  have hg4 : hj_four d (512 * b + 4) = g := by
    refine hj_four_by (by omega) (fun j hj => ?_)
    rw [show 512 * b + 4 + j = 512 * b + (4 + j) by omega, e _ (by omega)]
    unfold hj_hd hj_hd0
    rw [if_neg (by omega), if_neg (by omega), if_neg (by omega), if_neg (by omega), if_neg (by omega), if_pos (by omega), show 4 + j - 4 = j by omega]
  have e2 : d (512 * b + 2) = h := by
    rw [e 2 (by omega)]
    show h % 256 = h
    omega
  refine ⟨⟨?_, ?_, by omega, ?_, by omega, by omega, ?_⟩, hg4, e2⟩
  · have := e 0 (by omega); exact this
  · exact e 1 (by omega)
  · exact e 3 (by omega)
  · have ec : hj_chk d (512 * b) 8 = hj_chk (hj_hd0 h g) 0 8 := by
      refine hj_chk_congr (fun j hj => ?_)
      rw [e j (by omega)]
      unfold hj_hd
      rw [if_neg (by omega), Nat.zero_add]
    rw [ec]
    refine hj_four_by (hj_chk_lt (hj_hd0_bs h g) _ _) (fun j hj => ?_)
    rw [show 512 * b + 8 + j = 512 * b + (8 + j) by omega, e _ (by omega)]
    unfold hj_hd
    rw [if_pos (by omega), show 8 + j - 8 = j by omega]
theorem hj_fd_1 : hj_right hj_fd 1 ∧ hj_four hj_fd 516 = 1 ∧ hj_fd 514 = 0 := by
  refine hj_right_hd (d := hj_fd) (b := 1) (h := 0) (g := 1) (by omega) (by omega) (by omega) (fun j hj => ?_)
  unfold hj_fd hj_blk
  rw [if_pos (by omega), show 0 + (512 * 1 + j - 512 * 1) = j by omega]
end
section
/-! further words: numbers read and written, rows cleared, copied -/
def hj_num (d : Nat → Nat) : Nat → Nat → Nat
  | _, 0 => 0
  | a, k + 1 => d a + 256 * hj_num d (a + 1) k
theorem hj_num1 (d : Nat → Nat) (a : Nat) : hj_num d a 1 = d a := by simp [hj_num]
theorem hj_num2 (d : Nat → Nat) (a : Nat) : hj_num d a 2 = hj_len d a := by simp [hj_num, hj_len]
theorem hj_num4 (d : Nat → Nat) (a : Nat) : hj_num d a 4 = hj_four d a := by
  show d a + 256 * (d (a + 1) + 256 * (d (a + 2) + 256 * (d (a + 3) + 256 * 0))) = _
  unfold hj_four
  omega
theorem hj_num_lt {d : Nat → Nat} (hd : hj_bs d) : ∀ k a, hj_num d a k < 256 ^ k
  | 0, _ => by simp [hj_num]
  | k + 1, a => by
    have h := hj_num_lt hd k (a + 1)
    have h2 := hd a
    show d a + 256 * hj_num d (a + 1) k < 256 ^ (k + 1)
    rw [Nat.pow_succ]
    omega
theorem hj_num_lt24 {d : Nat → Nat} (hd : hj_bs d) {k a : Nat} (hk : k ≤ 3) : hj_num d a k < 2 ^ 24 := by
  have h := hj_num_lt hd k a
  have h2 : 256 ^ k ≤ 256 ^ 3 := Nat.pow_le_pow_right (by omega) hk
  have h3 : (256 : Nat) ^ 3 = 2 ^ 24 := by decide
  omega
theorem hj_num_lt32 {d : Nat → Nat} (hd : hj_bs d) {k a : Nat} (hk : k ≤ 4) : hj_num d a k < 2 ^ 32 := by
  have h := hj_num_lt hd k a
  have h2 : 256 ^ k ≤ 256 ^ 4 := Nat.pow_le_pow_right (by omega) hk
  have h3 : (256 : Nat) ^ 4 = 2 ^ 32 := by decide
  omega
def hj_pn (d : Nat → Nat) (a n w : Nat) : Nat → Nat := fun q => if a ≤ q ∧ q < a + n then hj_by w (q - a) else d q
theorem hj_pn0 (d : Nat → Nat) (a w : Nat) : hj_pn d a 0 w = d := by
  funext q
  unfold hj_pn
  rw [if_neg (by omega)]
theorem hj_pnS (d : Nat → Nat) (a n w : Nat) : va_up (hj_pn d a n w) (a + n) (hj_by w n) = hj_pn d a (n + 1) w := by
  funext q
  unfold hj_pn va_up
  try dsimp only
  by_cases h : q = a + n
  · rw [if_pos h, if_pos (by omega), show q - a = n by omega]
  · rw [if_neg h]
    by_cases h2 : a ≤ q ∧ q < a + n
    · rw [if_pos h2, if_pos (by omega)]
    · rw [if_neg h2, if_neg (by omega)]
theorem hj_pn_bs {d : Nat → Nat} {a n w : Nat} (hd : hj_bs d) : hj_bs (hj_pn d a n w) := by
  intro q
  unfold hj_pn
  split
  · exact hj_by_lt _ _
  · exact hd q
def hj_clr (d : Nat → Nat) (a b : Nat) : Nat → Nat := fun q => if a ≤ q ∧ q < b then 0 else d q
theorem hj_clr_bs {d : Nat → Nat} {a b : Nat} (hd : hj_bs d) : hj_bs (hj_clr d a b) := by
  intro q
  unfold hj_clr
  split
  · omega
  · exact hd q
theorem hj_clr0 (d : Nat → Nat) (a : Nat) : hj_clr d a a = d := by
  funext q
  unfold hj_clr
  rw [if_neg (by omega)]
theorem hj_clrS (d : Nat → Nat) {a b : Nat} (h : a ≤ b) : va_up (hj_clr d a b) b 0 = hj_clr d a (b + 1) := by
  funext q
  unfold hj_clr va_up
  try dsimp only
  by_cases k : q = b
  · rw [if_pos k, if_pos (by omega)]
  · rw [if_neg k]
    by_cases h2 : a ≤ q ∧ q < b
    · rw [if_pos h2, if_pos (by omega)]
    · rw [if_neg h2, if_neg (by omega)]
theorem hj_cpy_bs {f g : Nat → Nat} {sp dp n : Nat} (hf : hj_bs f) (hg : hj_bs g) : hj_bs (va_cpy f g sp dp n) := by
  intro q
  unfold va_cpy
  split
  · exact hf _
  · exact hg _
theorem hj_cpyB (f g : Nat → Nat) (sp dp n : Nat) : va_cpy (hj_B f) (hj_B g) sp dp n = hj_B (va_cpy f g sp dp n) := by
  funext q
  unfold va_cpy hj_B
  try dsimp only
  by_cases h : dp ≤ q ∧ q < dp + n
  · rw [if_pos h, if_pos h]
  · rw [if_neg h, if_neg h]
theorem hj_cpy0 (f g : Nat → Nat) (sp dp : Nat) : va_cpy f g sp dp 0 = g := by
  funext q
  unfold va_cpy
  rw [if_neg (by omega)]
theorem hj_cpyS (f g : Nat → Nat) (sp dp n : Nat) : va_up (va_cpy f g sp dp n) (dp + n) (f (sp + n)) = va_cpy f g sp dp (n + 1) := by
  funext q
  unfold va_cpy va_up
  try dsimp only
  by_cases h : q = dp + n
  · rw [if_pos h, if_pos (by omega), show q - dp = n by omega]
  · rw [if_neg h]
    by_cases h2 : dp ≤ q ∧ q < dp + n
    · rw [if_pos h2, if_pos (by omega)]
    · rw [if_neg h2, if_neg (by omega)]
theorem hj_blk_cpy (d : Nat → Nat) (b : Nat) (r : Nat → Nat) (a : Nat) : va_cpy r d a (512 * b) 512 = hj_blk d b r a := rfl
def hj_ph (d : Nat → Nat) (a h g : Nat) : Nat → Nat := fun q => if a ≤ q ∧ q < a + 12 then hj_hd h g (q - a) else d q
theorem hj_ph_bs {d : Nat → Nat} {a h g : Nat} (hd : hj_bs d) : hj_bs (hj_ph d a h g) := by
  intro q
  unfold hj_ph
  split
  · exact hj_hd_bs _ _ _
  · exact hd q
theorem hj_ph_of (d : Nat → Nat) (a g : Nat) {h : Nat} (hh : h < 2) : hj_pn (hj_pn (hj_pn d a 4 (12618 + 65536 * h)) (a + 4) 4 g) (a + 8) 4 (hj_chk (hj_pn (hj_pn d a 4 (12618 + 65536 * h)) (a + 4) 4 g) a 8) = hj_ph d a h g := by
  have e0 : ∀ j, j < 8 → hj_pn (hj_pn d a 4 (12618 + 65536 * h)) (a + 4) 4 g (a + j) = hj_hd0 h g j := by
    intro j hj
    unfold hj_pn hj_hd0
    rcases Nat.lt_or_ge j 4 with q | q
    · rw [if_neg (by omega), if_pos (by omega), show a + j - a = j by omega]
      rcases (show j = 0 ∨ j = 1 ∨ j = 2 ∨ j = 3 by omega) with rfl | rfl | rfl | rfl
      · rw [if_pos rfl, hj_by0]; omega
      · rw [if_neg (by omega), if_pos rfl, hj_by1]; omega
      · rw [if_neg (by omega), if_neg (by omega), if_pos rfl, hj_by2]; omega
      · rw [if_neg (by omega), if_neg (by omega), if_neg (by omega), if_pos rfl, hj_by3]; omega
    · rw [if_pos (by omega), if_neg (by omega), if_neg (by omega), if_neg (by omega), if_neg (by omega), if_pos (by omega), show a + j - (a + 4) = j - 4 by omega]
  have ec : hj_chk (hj_pn (hj_pn d a 4 (12618 + 65536 * h)) (a + 4) 4 g) a 8 = hj_chk (hj_hd0 h g) 0 8 := hj_chk_congr (fun j hj => by rw [e0 j hj, Nat.zero_add])
  funext q
  rw [ec]
  show (if a + 8 ≤ q ∧ q < a + 8 + 4 then hj_by (hj_chk (hj_hd0 h g) 0 8) (q - (a + 8)) else hj_pn (hj_pn d a 4 (12618 + 65536 * h)) (a + 4) 4 g q) = (if a ≤ q ∧ q < a + 12 then hj_hd h g (q - a) else d q)
  by_cases k : a + 8 ≤ q ∧ q < a + 8 + 4
  · rw [if_pos k, if_pos (by omega)]
    unfold hj_hd
    rw [if_pos (by omega), show q - (a + 8) = q - a - 8 by omega]
  · rw [if_neg k]
    by_cases k2 : a ≤ q ∧ q < a + 12
    · rw [if_pos k2]
      have := e0 (q - a) (by omega)
      rw [show a + (q - a) = q by omega] at this
      rw [this]
      unfold hj_hd
      rw [if_neg (by omega)]
    · rw [if_neg k2]
      unfold hj_pn
      rw [if_neg (by omega), if_neg (by omega)]
def hj_lb (t : Nat) : Nat := if t + 2 ≤ 15872 then (t + 1) / 512 else 30
theorem hj_lb_le (t : Nat) : hj_lb t ≤ 30 := by
  unfold hj_lb
  split <;> omega
def hj_w (g : Nat → Nat) : Nat → Int64
  | 0 => 0
  | j + 1 => (hj_w g j <<< ((nI 8).toInt64 &&& 63)) ||| lN (g j)
theorem hj_w_congr {g g' : Nat → Nat} : ∀ n, (∀ j, j < n → g' j = g j) → hj_w g' n = hj_w g n
  | 0, _ => rfl
  | n + 1, h => by
    show (hj_w g' n <<< _) ||| lN (g' n) = (hj_w g n <<< _) ||| lN (g n)
    rw [hj_w_congr n (fun j hj => h j (by omega)), h n (by omega)]
theorem hj_w0 : hj_w (fun _ => 0) 8 = 0 := by decide +kernel
noncomputable def hj_hg (d : Nat → Nat) (b : Nat) : Nat := @ite _ (hj_right d b) (Classical.propDecidable _) (hj_four d (512 * b + 4)) 0
theorem hj_hg_ok {d : Nat → Nat} {b : Nat} (h : hj_right d b) : hj_hg d b = hj_four d (512 * b + 4) := by
  unfold hj_hg
  rw [if_pos h]
theorem hj_hg_no {d : Nat → Nat} {b : Nat} (h : ¬ hj_right d b) : hj_hg d b = 0 := by
  unfold hj_hg
  rw [if_neg h]
theorem hj_hg_pos {d : Nat → Nat} {b : Nat} (h : 0 < hj_hg d b) : hj_right d b := by
  rcases Classical.em (hj_right d b) with q | q
  · exact q
  · rw [hj_hg_no q] at h; omega
theorem hj_hg_lt (d : Nat → Nat) (b : Nat) : hj_hg d b < 2 ^ 31 := by
  rcases Classical.em (hj_right d b) with q | q
  · rw [hj_hg_ok q]; exact q.2.2.2.2.2.1
  · rw [hj_hg_no q]; omega
/-! compact -/
noncomputable def hj_cto (d : Nat → Nat) (h : Nat) (mk : Nat → Nat) : Nat → Nat
  | 0 => 0
  | i + 1 => if mk i = 0 then hj_cto d h mk i + hj_sz (hj_rl d h (hj_pos d h i)) else hj_cto d h mk i
noncomputable def hj_cim (d : Nat → Nat) (h : Nat) (mk : Nat → Nat) : Nat → Nat → Nat
  | 0 => fun _ => 0
  | i + 1 => if mk i = 0 then va_cpy d (hj_cim d h mk i) (hj_hb h + hj_pos d h i) (hj_cto d h mk i) (6 + hj_rl d h (hj_pos d h i)) else hj_cim d h mk i
theorem hj_cto_le (d : Nat → Nat) (h : Nat) (mk : Nat → Nat) : ∀ i, hj_cto d h mk i ≤ hj_pos d h i
  | 0 => Nat.le_refl 0
  | i + 1 => by
    have := hj_cto_le d h mk i
    show (if mk i = 0 then hj_cto d h mk i + hj_sz (hj_rl d h (hj_pos d h i)) else hj_cto d h mk i) ≤ hj_pos d h i + hj_sz (hj_rl d h (hj_pos d h i))
    split <;> omega
theorem hj_cim_0 (d : Nat → Nat) (h : Nat) (mk : Nat → Nat) : ∀ i q, hj_cto d h mk i ≤ q → hj_cim d h mk i q = 0
  | 0, _, _ => rfl
  | i + 1, q, k => by
    have k1 : (if mk i = 0 then hj_cto d h mk i + hj_sz (hj_rl d h (hj_pos d h i)) else hj_cto d h mk i) ≤ q := k
    show (if mk i = 0 then va_cpy d (hj_cim d h mk i) (hj_hb h + hj_pos d h i) (hj_cto d h mk i) (6 + hj_rl d h (hj_pos d h i)) else hj_cim d h mk i) q = 0
    by_cases z : mk i = 0
    · rw [if_pos z] at k1 ⊢
      unfold va_cpy
      unfold hj_sz at k1
      rw [if_neg (by omega)]
      exact hj_cim_0 d h mk i q (by omega)
    · rw [if_neg z] at k1 ⊢
      exact hj_cim_0 d h mk i q k1
theorem hj_cim_bs {d : Nat → Nat} {h : Nat} {mk : Nat → Nat} (hd : hj_bs d) : ∀ i, hj_bs (hj_cim d h mk i)
  | 0 => fun _ => by show 0 < 256; omega
  | i + 1 => by
    show hj_bs (if mk i = 0 then va_cpy d (hj_cim d h mk i) (hj_hb h + hj_pos d h i) (hj_cto d h mk i) (6 + hj_rl d h (hj_pos d h i)) else hj_cim d h mk i)
    split
    · exact hj_cpy_bs hd (hj_cim_bs hd i)
    · exact hj_cim_bs hd i
def hj_ms (mk : Nat → Nat) : Nat → Nat
  | 0 => 0
  | i + 1 => hj_ms mk i + mk i
theorem hj_ms_congr {mk mk' : Nat → Nat} : ∀ n, (∀ i, i < n → mk' i = mk i) → hj_ms mk' n = hj_ms mk n
  | 0, _ => rfl
  | n + 1, h => by
    show hj_ms mk' n + mk' n = hj_ms mk n + mk n
    rw [hj_ms_congr n (fun i hi => h i (by omega)), h n (by omega)]
theorem hj_ms_up {mk : Nat → Nat} {k b : Nat} : ∀ n, k < n → hj_ms (va_up mk k b) n + mk k = hj_ms mk n + b
  | 0, h => by omega
  | n + 1, h => by
    show hj_ms (va_up mk k b) n + va_up mk k b n + mk k = hj_ms mk n + mk n + b
    by_cases q : k = n
    · subst q
      rw [va_up_self, hj_ms_congr k (mk := mk) (mk' := va_up mk k b) (fun i hi => va_up_ne mk b (by omega))]
      omega
    · have := hj_ms_up (mk := mk) (k := k) (b := b) n (by omega)
      rw [va_up_ne mk b (by omega)]
      omega
theorem hj_ms_le {mk : Nat → Nat} (h : ∀ i, mk i < 2) : ∀ n, hj_ms mk n ≤ n
  | 0 => Nat.le_refl 0
  | n + 1 => by
    have := hj_ms_le h n
    have := h n
    show hj_ms mk n + mk n ≤ n + 1
    omega
theorem hj_ms_0 {mk : Nat → Nat} : ∀ n, (∀ i, i < n → mk i = 0) → hj_ms mk n = 0
  | 0, _ => rfl
  | n + 1, h => by
    show hj_ms mk n + mk n = 0
    rw [hj_ms_0 n (fun i hi => h i (by omega)), h n (by omega)]
end
section
/-! rows of the kit, said of naturals: nI a for an int, sb_b a for a byte, hj_B d for a row of bytes -/
theorem hj_xor (a b : Nat) : nI a ^^^ nI b = nI (a ^^^ b) := by
  apply Int32.toBitVec_inj.1
  show BitVec.ofNat 32 a ^^^ BitVec.ofNat 32 b = BitVec.ofNat 32 (a ^^^ b)
  apply BitVec.eq_of_getLsbD_eq
  intro i hi
  simp [hi]
theorem hj_orN (a b : Nat) : nI a ||| nI b = nI (a ||| b) := by
  apply Int32.toBitVec_inj.1
  show BitVec.ofNat 32 a ||| BitVec.ofNat 32 b = BitVec.ofNat 32 (a ||| b)
  apply BitVec.eq_of_getLsbD_eq
  intro i hi
  simp [hi]
theorem hj_or {a b : Nat} (k : Nat) (ha : a % 2 ^ k = 0) (hb : b < 2 ^ k) : nI a ||| nI b = nI (a + b) := by
  have e : a = 2 ^ k * (a / 2 ^ k) := by
    have := Nat.div_add_mod a (2 ^ k)
    omega
  rw [hj_orN, e, ← Nat.two_pow_add_eq_or_of_lt hb]
theorem hj_or' {a b : Nat} (k : Nat) (ha : a < 2 ^ k) (hb : b % 2 ^ k = 0) : nI a ||| nI b = nI (a + b) := by
  have h := hj_or k hb ha
  rw [hj_orN] at h ⊢
  rw [Nat.or_comm, h, Nat.add_comm]
theorem hj_eq32 {a b : Nat} (ha : a < 2 ^ 32) (hb : b < 2 ^ 32) : nI a = nI b ↔ a = b := by
  constructor
  · intro h
    have := congrArg (fun x : Int32 => x.toBitVec.toNat) h
    simp only [pk_tn ha, pk_tn hb] at this
    exact this
  · intro h; rw [h]
theorem hj_b255 : ∀ c, c < 256 → sb_b c &&& nI 255 = nI c := fun c hc => (sb_byte c hc).1
theorem hj_b_mod (c : Nat) : sb_b c = sb_b (c % 256) := by
  unfold sb_b
  congr 1
  apply Int8.toBitVec_inj.1
  show (BitVec.ofNat 32 c).signExtend 8 = (BitVec.ofNat 32 (c % 256)).signExtend 8
  apply BitVec.eq_of_toNat_eq
  rw [BitVec.signExtend_eq_setWidth_of_le _ (by omega), BitVec.signExtend_eq_setWidth_of_le _ (by omega)]
  simp
theorem hj_bast_eq (d : Nat → Nat) (i c : Nat) : upd (hj_B d) i (vp_nar .byte (sb_b c)) = hj_B (va_up d i c) := by
  funext q
  unfold upd hj_B va_up
  by_cases h : q = i
  · rw [if_pos h, if_pos h]; exact pk_vb _
  · rw [if_neg h, if_neg h]
theorem hj_up_bs {d : Nat → Nat} {i c : Nat} (hd : hj_bs d) (hc : c < 256) : hj_bs (va_up d i c) := by
  intro q
  unfold va_up
  split
  · exact hc
  · exact hd q
theorem hj_fitB (d : Nat → Nat) (q : Nat) : fits .byte (.int (hj_B d q)) = true := sb_fitB _
section HJR
variable {p : Program} {l : Launch} {e : Env} {R : Room} {s : State} {m : MethodId} {args : Array Value} {below : List Frame} {meth : Method} {c : Code} {H : Heap} {locs : List Loc} {cells slots : Nat} {Q : State → Prop}
variable {cc : ByteArray} {pc : Nat} {ls : Array Slot} {rest : List Value}
theorem hj_iadd (hx : p.tables.exec = Jvm.exec) (hb : c.code = cc) {a b : Nat} (hdg : decode cc pc = .ok (.iadd, 1)) (k : W p l e R s m args below meth c H locs cells slots Q (F0 m (pc + 1) ls (.int (nI (a + b)) :: rest))) : W p l e R s m args below meth c H locs cells slots Q (F0 m pc ls (.int (nI b) :: .int (nI a) :: rest)) := lv_iadd hx hb hdg (by rw [nI_add]; exact k)
theorem hj_isub (hx : p.tables.exec = Jvm.exec) (hb : c.code = cc) {a b : Nat} (h : b ≤ a) (hdg : decode cc pc = .ok (.isub, 1)) (k : W p l e R s m args below meth c H locs cells slots Q (F0 m (pc + 1) ls (.int (nI (a - b)) :: rest))) : W p l e R s m args below meth c H locs cells slots Q (F0 m pc ls (.int (nI b) :: .int (nI a) :: rest)) := lv_isub hx hb hdg (by rw [pk_sub h]; exact k)
theorem hj_imul (hx : p.tables.exec = Jvm.exec) (hb : c.code = cc) {a b : Nat} (hdg : decode cc pc = .ok (.imul, 1)) (k : W p l e R s m args below meth c H locs cells slots Q (F0 m (pc + 1) ls (.int (nI (a * b)) :: rest))) : W p l e R s m args below meth c H locs cells slots Q (F0 m pc ls (.int (nI b) :: .int (nI a) :: rest)) := lv_imul hx hb hdg (by rw [pk_mul]; exact k)
theorem hj_idiv (hx : p.tables.exec = Jvm.exec) (hb : c.code = cc) {a b : Nat} (ha : a < 2 ^ 31) (h0 : 0 < b) (hb1 : b < 2 ^ 31) (hdg : decode cc pc = .ok (.idiv, 1)) (k : W p l e R s m args below meth c H locs cells slots Q (F0 m (pc + 1) ls (.int (nI (a / b)) :: rest))) : W p l e R s m args below meth c H locs cells slots Q (F0 m pc ls (.int (nI b) :: .int (nI a) :: rest)) := lv_idiv hx hb hdg (nI_ne0 h0 hb1) (by rw [pk_div ha h0 hb1]; exact k)
theorem hj_irem (hx : p.tables.exec = Jvm.exec) (hb : c.code = cc) {a b : Nat} (ha : a < 2 ^ 31) (h0 : 0 < b) (hb1 : b < 2 ^ 31) (hdg : decode cc pc = .ok (.irem, 1)) (k : W p l e R s m args below meth c H locs cells slots Q (F0 m (pc + 1) ls (.int (nI (a % b)) :: rest))) : W p l e R s m args below meth c H locs cells slots Q (F0 m pc ls (.int (nI b) :: .int (nI a) :: rest)) := lv_irem hx hb hdg (nI_ne0 h0 hb1) (by rw [pk_rem ha h0 hb1]; exact k)
theorem hj_iandM (hx : p.tables.exec = Jvm.exec) (hb : c.code = cc) {a b : Nat} (k0 : Nat) (ha : a < 2 ^ 32) (hm : (nI b).toBitVec.toNat = 2 ^ k0 - 1) (hdg : decode cc pc = .ok (.iand, 1)) (k : W p l e R s m args below meth c H locs cells slots Q (F0 m (pc + 1) ls (.int (nI (a % 2 ^ k0)) :: rest))) : W p l e R s m args below meth c H locs cells slots Q (F0 m pc ls (.int (nI b) :: .int (nI a) :: rest)) := lv_iand hx hb hdg (by rw [pk_andN ha k0 hm]; exact k)
theorem hj_band (hx : p.tables.exec = Jvm.exec) (hb : c.code = cc) {a : Nat} (ha : a < 256) (hdg : decode cc pc = .ok (.iand, 1)) (k : W p l e R s m args below meth c H locs cells slots Q (F0 m (pc + 1) ls (.int (nI a) :: rest))) : W p l e R s m args below meth c H locs cells slots Q (F0 m pc ls (.int (nI 255) :: .int (sb_b a) :: rest)) := lv_iand hx hb hdg (by rw [hj_b255 a ha]; exact k)
theorem hj_ixor (hx : p.tables.exec = Jvm.exec) (hb : c.code = cc) {a b : Nat} (hdg : decode cc pc = .ok (.ixor, 1)) (k : W p l e R s m args below meth c H locs cells slots Q (F0 m (pc + 1) ls (.int (nI (a ^^^ b)) :: rest))) : W p l e R s m args below meth c H locs cells slots Q (F0 m pc ls (.int (nI b) :: .int (nI a) :: rest)) := lv_ixor hx hb hdg (by rw [hj_xor]; exact k)
/-- a has its low bits free, b lies in them -/
theorem hj_ior (hx : p.tables.exec = Jvm.exec) (hb : c.code = cc) {a b : Nat} (k0 : Nat) (ha : a % 2 ^ k0 = 0) (hb1 : b < 2 ^ k0) (hdg : decode cc pc = .ok (.ior, 1)) (k : W p l e R s m args below meth c H locs cells slots Q (F0 m (pc + 1) ls (.int (nI (a + b)) :: rest))) : W p l e R s m args below meth c H locs cells slots Q (F0 m pc ls (.int (nI b) :: .int (nI a) :: rest)) := lv_ior hx hb hdg (by rw [hj_or k0 ha hb1]; exact k)
theorem hj_iorR (hx : p.tables.exec = Jvm.exec) (hb : c.code = cc) {a b : Nat} (k0 : Nat) (ha : a < 2 ^ k0) (hb1 : b % 2 ^ k0 = 0) (hdg : decode cc pc = .ok (.ior, 1)) (k : W p l e R s m args below meth c H locs cells slots Q (F0 m (pc + 1) ls (.int (nI (a + b)) :: rest))) : W p l e R s m args below meth c H locs cells slots Q (F0 m pc ls (.int (nI b) :: .int (nI a) :: rest)) := lv_ior hx hb hdg (by rw [hj_or' k0 ha hb1]; exact k)
theorem hj_ishl (hx : p.tables.exec = Jvm.exec) (hb : c.code = cc) {a b : Nat} (k0 : Nat) (hs : ((nI b &&& 31).toBitVec.smod 32).toNat = k0) (h : a * 2 ^ k0 < 2 ^ 32) (hdg : decode cc pc = .ok (.ishl, 1)) (k : W p l e R s m args below meth c H locs cells slots Q (F0 m (pc + 1) ls (.int (nI (a * 2 ^ k0)) :: rest))) : W p l e R s m args below meth c H locs cells slots Q (F0 m pc ls (.int (nI b) :: .int (nI a) :: rest)) := lv_ishl hx hb hdg (by rw [pk_shlN _ k0 hs h]; exact k)
theorem hj_iushr (hx : p.tables.exec = Jvm.exec) (hb : c.code = cc) {a b : Nat} (k0 : Nat) (hs : (((nI b).toUInt32 &&& Int32.toUInt32 31).toBitVec % 32).toNat = k0) (h : a < 2 ^ 32) (hdg : decode cc pc = .ok (.iushr, 1)) (k : W p l e R s m args below meth c H locs cells slots Q (F0 m (pc + 1) ls (.int (nI (a / 2 ^ k0)) :: rest))) : W p l e R s m args below meth c H locs cells slots Q (F0 m pc ls (.int (nI b) :: .int (nI a) :: rest)) := lv_iushr hx hb hdg (pk_ushrN h _ k0 hs) k
theorem hj_ishr (hx : p.tables.exec = Jvm.exec) (hb : c.code = cc) {a b : Nat} (k0 : Nat) (hs : ((nI b &&& 31).toBitVec.smod 32).toNat = k0) (h : a < 2 ^ 31) (hdg : decode cc pc = .ok (.ishr, 1)) (k : W p l e R s m args below meth c H locs cells slots Q (F0 m (pc + 1) ls (.int (nI (a / 2 ^ k0)) :: rest))) : W p l e R s m args below meth c H locs cells slots Q (F0 m pc ls (.int (nI b) :: .int (nI a) :: rest)) := lv_ishr hx hb hdg (by rw [pk_shrN h _ k0 hs]; exact k)
theorem hj_i2b (hx : p.tables.exec = Jvm.exec) (hb : c.code = cc) {a : Nat} (hdg : decode cc pc = .ok (.i2b, 1)) (k : W p l e R s m args below meth c H locs cells slots Q (F0 m (pc + 1) ls (.int (sb_b (a % 256)) :: rest))) : W p l e R s m args below meth c H locs cells slots Q (F0 m pc ls (.int (nI a) :: rest)) := lv_i2b hx hb hdg (v := sb_b (a % 256)) (by rw [← hj_b_mod]; rfl) k
theorem hj_i2l (hx : p.tables.exec = Jvm.exec) (hb : c.code = cc) {a : Nat} (h : a < 2 ^ 31) (hdg : decode cc pc = .ok (.i2l, 1)) (k : W p l e R s m args below meth c H locs cells slots Q (F0 m (pc + 1) ls (.long (lN a) :: rest))) : W p l e R s m args below meth c H locs cells slots Q (F0 m pc ls (.int (nI a) :: rest)) := lv_i2l hx hb hdg (nI_l h) k
theorem hj_icmp_eq (hx : p.tables.exec = Jvm.exec) (hb : c.code = cc) {a b : Nat} (ha : a < 2 ^ 32) (hb1 : b < 2 ^ 32) {off : Int} {tgt : Nat} (hdg : decode cc pc = .ok (.if_icmp .eq off, 3)) (ht : (pc : Int) + off = (tgt : Int)) (kt : a = b → W p l e R s m args below meth c H locs cells slots Q (F0 m tgt ls rest)) (kf : ¬ a = b → W p l e R s m args below meth c H locs cells slots Q (F0 m (pc + 3) ls rest)) : W p l e R s m args below meth c H locs cells slots Q (F0 m pc ls (.int (nI b) :: .int (nI a) :: rest)) := lv_icmp_eq hx hb hdg ht (fun h => kt ((hj_eq32 ha hb1).mp h)) (fun h => kf (fun q => h ((hj_eq32 ha hb1).mpr q)))
theorem hj_icmp_ne (hx : p.tables.exec = Jvm.exec) (hb : c.code = cc) {a b : Nat} (ha : a < 2 ^ 32) (hb1 : b < 2 ^ 32) {off : Int} {tgt : Nat} (hdg : decode cc pc = .ok (.if_icmp .ne off, 3)) (ht : (pc : Int) + off = (tgt : Int)) (kt : ¬ a = b → W p l e R s m args below meth c H locs cells slots Q (F0 m tgt ls rest)) (kf : a = b → W p l e R s m args below meth c H locs cells slots Q (F0 m (pc + 3) ls rest)) : W p l e R s m args below meth c H locs cells slots Q (F0 m pc ls (.int (nI b) :: .int (nI a) :: rest)) := lv_icmp_ne hx hb hdg ht (fun h => kt (fun q => h ((hj_eq32 ha hb1).mpr q))) (fun h => kf ((hj_eq32 ha hb1).mp h))
theorem hj_icmp_lt (hx : p.tables.exec = Jvm.exec) (hb : c.code = cc) {a b : Nat} (ha : a < 2 ^ 31) (hb1 : b < 2 ^ 31) {off : Int} {tgt : Nat} (hdg : decode cc pc = .ok (.if_icmp .lt off, 3)) (ht : (pc : Int) + off = (tgt : Int)) (kt : a < b → W p l e R s m args below meth c H locs cells slots Q (F0 m tgt ls rest)) (kf : b ≤ a → W p l e R s m args below meth c H locs cells slots Q (F0 m (pc + 3) ls rest)) : W p l e R s m args below meth c H locs cells slots Q (F0 m pc ls (.int (nI b) :: .int (nI a) :: rest)) := lv_icmp_lt hx hb hdg ht (fun h => kt ((nI_ltI ha hb1).mp h)) (fun h => kf (Nat.not_lt.mp fun q => h ((nI_ltI ha hb1).mpr q)))
theorem hj_icmp_ge (hx : p.tables.exec = Jvm.exec) (hb : c.code = cc) {a b : Nat} (ha : a < 2 ^ 31) (hb1 : b < 2 ^ 31) {off : Int} {tgt : Nat} (hdg : decode cc pc = .ok (.if_icmp .ge off, 3)) (ht : (pc : Int) + off = (tgt : Int)) (kt : b ≤ a → W p l e R s m args below meth c H locs cells slots Q (F0 m tgt ls rest)) (kf : a < b → W p l e R s m args below meth c H locs cells slots Q (F0 m (pc + 3) ls rest)) : W p l e R s m args below meth c H locs cells slots Q (F0 m pc ls (.int (nI b) :: .int (nI a) :: rest)) := lv_icmp_ge hx hb hdg ht (fun h => kt ((nI_leI hb1 ha).mp h)) (fun h => kf (Nat.not_le.mp fun q => h ((nI_leI hb1 ha).mpr q)))
theorem hj_icmp_gt (hx : p.tables.exec = Jvm.exec) (hb : c.code = cc) {a b : Nat} (ha : a < 2 ^ 31) (hb1 : b < 2 ^ 31) {off : Int} {tgt : Nat} (hdg : decode cc pc = .ok (.if_icmp .gt off, 3)) (ht : (pc : Int) + off = (tgt : Int)) (kt : b < a → W p l e R s m args below meth c H locs cells slots Q (F0 m tgt ls rest)) (kf : a ≤ b → W p l e R s m args below meth c H locs cells slots Q (F0 m (pc + 3) ls rest)) : W p l e R s m args below meth c H locs cells slots Q (F0 m pc ls (.int (nI b) :: .int (nI a) :: rest)) := lv_icmp_gt hx hb hdg ht (fun h => kt ((nI_ltI hb1 ha).mp h)) (fun h => kf (Nat.not_lt.mp fun q => h ((nI_ltI hb1 ha).mpr q)))
theorem hj_icmp_le (hx : p.tables.exec = Jvm.exec) (hb : c.code = cc) {a b : Nat} (ha : a < 2 ^ 31) (hb1 : b < 2 ^ 31) {off : Int} {tgt : Nat} (hdg : decode cc pc = .ok (.if_icmp .le off, 3)) (ht : (pc : Int) + off = (tgt : Int)) (kt : a ≤ b → W p l e R s m args below meth c H locs cells slots Q (F0 m tgt ls rest)) (kf : b < a → W p l e R s m args below meth c H locs cells slots Q (F0 m (pc + 3) ls rest)) : W p l e R s m args below meth c H locs cells slots Q (F0 m pc ls (.int (nI b) :: .int (nI a) :: rest)) := lv_icmp_le hx hb hdg ht (fun h => kt ((nI_leI ha hb1).mp h)) (fun h => kf (Nat.not_le.mp fun q => h ((nI_leI ha hb1).mpr q)))
theorem hj_if_eq (hx : p.tables.exec = Jvm.exec) (hb : c.code = cc) {a : Nat} (ha : a < 2 ^ 32) {off : Int} {tgt : Nat} (hdg : decode cc pc = .ok (.ifCond .eq off, 3)) (ht : (pc : Int) + off = (tgt : Int)) (kt : a = 0 → W p l e R s m args below meth c H locs cells slots Q (F0 m tgt ls rest)) (kf : 0 < a → W p l e R s m args below meth c H locs cells slots Q (F0 m (pc + 3) ls rest)) : W p l e R s m args below meth c H locs cells slots Q (F0 m pc ls (.int (nI a) :: rest)) := lv_if_eq hx hb hdg ht (fun h => kt ((hj_eq32 ha (by decide)).mp h)) (fun h => kf (Nat.pos_of_ne_zero fun q => h ((hj_eq32 ha (by decide)).mpr q)))
theorem hj_if_ne (hx : p.tables.exec = Jvm.exec) (hb : c.code = cc) {a : Nat} (ha : a < 2 ^ 32) {off : Int} {tgt : Nat} (hdg : decode cc pc = .ok (.ifCond .ne off, 3)) (ht : (pc : Int) + off = (tgt : Int)) (kt : 0 < a → W p l e R s m args below meth c H locs cells slots Q (F0 m tgt ls rest)) (kf : a = 0 → W p l e R s m args below meth c H locs cells slots Q (F0 m (pc + 3) ls rest)) : W p l e R s m args below meth c H locs cells slots Q (F0 m pc ls (.int (nI a) :: rest)) := lv_if_ne hx hb hdg ht (fun h => kt (Nat.pos_of_ne_zero fun q => h ((hj_eq32 ha (by decide)).mpr q))) (fun h => kf ((hj_eq32 ha (b := 0) (by decide)).mp h))
theorem hj_if_lt (hx : p.tables.exec = Jvm.exec) (hb : c.code = cc) {a : Nat} (ha : a < 2 ^ 31) {off : Int} {tgt : Nat} (hdg : decode cc pc = .ok (.ifCond .lt off, 3)) (kf : W p l e R s m args below meth c H locs cells slots Q (F0 m (pc + 3) ls rest)) (ht : (pc : Int) + off = (tgt : Int)) : W p l e R s m args below meth c H locs cells slots Q (F0 m pc ls (.int (nI a) :: rest)) := lv_if_lt hx hb hdg ht (fun h => absurd h (nI_pos ha)) (fun _ => kf)
theorem hj_if_ge (hx : p.tables.exec = Jvm.exec) (hb : c.code = cc) {a : Nat} (ha : a < 2 ^ 31) {off : Int} {tgt : Nat} (hdg : decode cc pc = .ok (.ifCond .ge off, 3)) (ht : (pc : Int) + off = (tgt : Int)) (kt : W p l e R s m args below meth c H locs cells slots Q (F0 m tgt ls rest)) : W p l e R s m args below meth c H locs cells slots Q (F0 m pc ls (.int (nI a) :: rest)) := lv_if_ge hx hb hdg ht (fun _ => kt) (fun h => absurd (nI_pos' ha) h)
theorem hj_if_gt (hx : p.tables.exec = Jvm.exec) (hb : c.code = cc) {a : Nat} (ha : a < 2 ^ 31) {off : Int} {tgt : Nat} (hdg : decode cc pc = .ok (.ifCond .gt off, 3)) (ht : (pc : Int) + off = (tgt : Int)) (kt : 0 < a → W p l e R s m args below meth c H locs cells slots Q (F0 m tgt ls rest)) (kf : a = 0 → W p l e R s m args below meth c H locs cells slots Q (F0 m (pc + 3) ls rest)) : W p l e R s m args below meth c H locs cells slots Q (F0 m pc ls (.int (nI a) :: rest)) := lv_if_gt hx hb hdg ht (fun h => kt ((nI_ltI (a := 0) (by decide) ha).mp h)) (fun h => kf (Nat.eq_zero_of_not_pos fun q => h ((nI_ltI (a := 0) (by decide) ha).mpr q)))
theorem hj_if_le (hx : p.tables.exec = Jvm.exec) (hb : c.code = cc) {a : Nat} (ha : a < 2 ^ 31) {off : Int} {tgt : Nat} (hdg : decode cc pc = .ok (.ifCond .le off, 3)) (ht : (pc : Int) + off = (tgt : Int)) (kt : a = 0 → W p l e R s m args below meth c H locs cells slots Q (F0 m tgt ls rest)) (kf : 0 < a → W p l e R s m args below meth c H locs cells slots Q (F0 m (pc + 3) ls rest)) : W p l e R s m args below meth c H locs cells slots Q (F0 m pc ls (.int (nI a) :: rest)) := lv_if_le hx hb hdg ht (fun h => kt (Nat.le_zero.mp ((nI_leI (b := 0) ha (by decide)).mp h))) (fun h => kf (Nat.pos_of_ne_zero fun q => h ((nI_leI (b := 0) ha (by decide)).mpr (Nat.le_of_eq q))))
theorem hj_topn {a b : Nat} (h : a = b) (k : W p l e R s m args below meth c H locs cells slots Q (F0 m pc ls (.int (nI b) :: rest))) : W p l e R s m args below meth c H locs cells slots Q (F0 m pc ls (.int (nI a) :: rest)) := by rw [h]; exact k
theorem hj_topv {x y : Int32} (h : x = y) (k : W p l e R s m args below meth c H locs cells slots Q (F0 m pc ls (.int y :: rest))) : W p l e R s m args below meth c H locs cells slots Q (F0 m pc ls (.int x :: rest)) := by rw [h]; exact k
theorem hj_topl {x y : Int64} (h : x = y) (k : W p l e R s m args below meth c H locs cells slots Q (F0 m pc ls (.long y :: rest))) : W p l e R s m args below meth c H locs cells slots Q (F0 m pc ls (.long x :: rest)) := by rw [h]; exact k
end HJR
section HJW
variable {p : Program} {l : Launch} {e : Env} {R : Room} {s : State} {m : MethodId} {args : Array Value} {below : List Frame} {meth : Method} {c : Code} {H : Heap} {locs : List Loc} {cells slots : Nat} {Q : State → Prop}
variable {cc : ByteArray} {pc : Nat} {ls : Array Slot} {rest : List Value} {D : va_G} {cl : List vw_C} {A : Nat → Prop} {a : Nat} {H0 : Heap} {ws : va_W} {tys : List (ClassId × FieldType)}
theorem hj_bald (hx : p.tables.exec = Jvm.exec) (hb : c.code = cc) (hK : va_K D cl tys s) (hP : va_P D cl ws H) (q0 t0 : Nat) {cA : ClassId} {n : Nat} {d : Nat → Nat} (ha : ws[q0]? = some (a, .inl (cA, n, .inl (hj_B d)))) (ht : tys[t0]? = some (cA, .byte)) {i : Nat} (hi : i < n) (hn : n < 2 ^ 31) (hdg : decode cc pc = .ok (.baload, 1))
    (kk : W p l e R s m args below meth c H locs cells slots Q (F0 m (pc + 1) ls (.int (sb_b (d i)) :: rest))) : W p l e R s m args below meth c H locs cells slots Q (F0 m pc ls (.int (nI i) :: .ref a :: rest)) :=
  va_bald hx hb hK hP q0 t0 ha ht (vp_in_nI hi hn) hdg (by rw [nI_clamp (by omega)]; exact kk)
theorem hj_iald (hx : p.tables.exec = Jvm.exec) (hb : c.code = cc) (hK : va_K D cl tys s) (hP : va_P D cl ws H) (q0 t0 : Nat) {cA : ClassId} {n : Nat} {f : Nat → Int32} (ha : ws[q0]? = some (a, .inl (cA, n, .inl f))) (ht : tys[t0]? = some (cA, .int)) {i : Nat} (hi : i < n) (hn : n < 2 ^ 31) {v : Int32} (hv : f i = v) (hdg : decode cc pc = .ok (.iaload, 1))
    (kk : W p l e R s m args below meth c H locs cells slots Q (F0 m (pc + 1) ls (.int v :: rest))) : W p l e R s m args below meth c H locs cells slots Q (F0 m pc ls (.int (nI i) :: .ref a :: rest)) :=
  va_iald hx hb hK hP q0 t0 ha ht (vp_in_nI hi hn) hdg (by rw [nI_clamp (by omega), hv]; exact kk)
theorem hj_zald (hx : p.tables.exec = Jvm.exec) (hb : c.code = cc) (hK : va_K D cl tys s) (hP : va_P D cl ws H) (q0 t0 : Nat) {cA : ClassId} {n : Nat} {f : Nat → Int32} (ha : ws[q0]? = some (a, .inl (cA, n, .inl f))) (ht : tys[t0]? = some (cA, .boolean)) {i : Nat} (hi : i < n) (hn : n < 2 ^ 31) {v : Int32} (hv : f i = v) (hdg : decode cc pc = .ok (.baload, 1))
    (kk : W p l e R s m args below meth c H locs cells slots Q (F0 m (pc + 1) ls (.int v :: rest))) : W p l e R s m args below meth c H locs cells slots Q (F0 m pc ls (.int (nI i) :: .ref a :: rest)) :=
  va_zald hx hb hK hP q0 t0 ha ht (vp_in_nI hi hn) hdg (by rw [nI_clamp (by omega), hv]; exact kk)
theorem hj_bast (hx : p.tables.exec = Jvm.exec) (hb : c.code = cc) (hK : va_K D cl tys s) (hP : va_P D cl ws H) (hD : va_D A ws) (hS : va_S A H0 H locs) (q0 t0 : Nat) {cA : ClassId} {n : Nat} {d : Nat → Nat} (ha : ws[q0]? = some (a, .inl (cA, n, .inl (hj_B d)))) (ht : tys[t0]? = some (cA, .byte)) {i b : Nat} (hi : i < n) (hn : n < 2 ^ 31) (hdg : decode cc pc = .ok (.bastore, 1))
    (kk : ∀ (H1 : Heap) (locs1 : List Loc), va_P D cl (ws.set q0 (a, .inl (cA, n, .inl (hj_B (va_up d i b))))) H1 → va_D A (ws.set q0 (a, .inl (cA, n, .inl (hj_B (va_up d i b))))) → va_S A H0 H1 locs1 → W p l e R s m args below meth c H1 locs1 cells slots Q (F0 m (pc + 1) ls rest)) : W p l e R s m args below meth c H locs cells slots Q (F0 m pc ls (.int (sb_b b) :: .int (nI i) :: .ref a :: rest)) := by
  refine va_bast hx hb hK hP hD hS q0 t0 ha ht (vp_in_nI hi hn) hdg ?_
  rw [nI_clamp (by omega), hj_bast_eq]
  exact kk
theorem hj_iast (hx : p.tables.exec = Jvm.exec) (hb : c.code = cc) (hK : va_K D cl tys s) (hP : va_P D cl ws H) (hD : va_D A ws) (hS : va_S A H0 H locs) (q0 t0 : Nat) {cA : ClassId} {n : Nat} {f : Nat → Int32} (ha : ws[q0]? = some (a, .inl (cA, n, .inl f))) (ht : tys[t0]? = some (cA, .int)) {i : Nat} {x : Int32} (hi : i < n) (hn : n < 2 ^ 31) (hdg : decode cc pc = .ok (.iastore, 1))
    (kk : ∀ (H1 : Heap) (locs1 : List Loc), va_P D cl (ws.set q0 (a, .inl (cA, n, .inl (va_up f i x)))) H1 → va_D A (ws.set q0 (a, .inl (cA, n, .inl (va_up f i x)))) → va_S A H0 H1 locs1 → W p l e R s m args below meth c H1 locs1 cells slots Q (F0 m (pc + 1) ls rest)) : W p l e R s m args below meth c H locs cells slots Q (F0 m pc ls (.int x :: .int (nI i) :: .ref a :: rest)) := by
  refine va_iast hx hb hK hP hD hS q0 t0 ha ht (vp_in_nI hi hn) hdg ?_
  rw [nI_clamp (by omega)]
  exact kk
theorem hj_narz : ∀ b, b < 2 → vp_nar .boolean (nI b) = nI b := by decide +kernel
theorem hj_zast (hx : p.tables.exec = Jvm.exec) (hb : c.code = cc) (hK : va_K D cl tys s) (hP : va_P D cl ws H) (hD : va_D A ws) (hS : va_S A H0 H locs) (q0 t0 : Nat) {cA : ClassId} {n : Nat} {f : Nat → Int32} (ha : ws[q0]? = some (a, .inl (cA, n, .inl f))) (ht : tys[t0]? = some (cA, .boolean)) {i b : Nat} (hb2 : b < 2) (hi : i < n) (hn : n < 2 ^ 31) (hdg : decode cc pc = .ok (.bastore, 1))
    (kk : ∀ (H1 : Heap) (locs1 : List Loc), va_P D cl (ws.set q0 (a, .inl (cA, n, .inl (va_up f i (nI b))))) H1 → va_D A (ws.set q0 (a, .inl (cA, n, .inl (va_up f i (nI b))))) → va_S A H0 H1 locs1 → W p l e R s m args below meth c H1 locs1 cells slots Q (F0 m (pc + 1) ls rest)) : W p l e R s m args below meth c H locs cells slots Q (F0 m pc ls (.int (nI b) :: .int (nI i) :: .ref a :: rest)) := by
  refine va_zast hx hb hK hP hD hS q0 t0 ha ht (vp_in_nI hi hn) hdg ?_
  rw [nI_clamp (by omega), hj_narz b hb2]
  exact kk
end HJW
end
section
/-! contracts in one form: the world wc (cells at given addresses) at the start, the world w1 u behind it; E: what is given of statics -/
abbrev hj_ET : Type := (Nat → Prop) → State → Heap → Prop
def hj_Eok (E : hj_ET) : Prop := (∀ (A : Nat → Prop) (u U : State) (H : Heap), u.WarmedH U.vm → E A u H → E A U H) ∧ (∀ (A : Nat → Prop) (U : State) (H H1 : Heap), (∀ q : Nat, q < H.size → ¬ A q → H1[q]? = H[q]?) → E A U H → E A U H1) ∧ (∀ (A B : Nat → Prop) (U : State) (H : Heap), (∀ q, B q → A q) → E A U H → E B U H)
def hj_E0 : hj_ET := fun _ _ _ => True
theorem hj_E0ok : hj_Eok hj_E0 := ⟨fun _ _ _ _ _ _ => trivial, fun _ _ _ _ _ _ => trivial, fun _ _ _ _ _ _ => trivial⟩
def hj_Pre (E : hj_ET) (D : va_G) (cl : List vw_C) (tys : List (ClassId × FieldType)) (wc : va_W) (sz : Nat) : State → Prop := fun U => U.heap.size = sz ∧ va_P D cl wc U.heap ∧ va_K D cl tys U ∧ va_D (fun _ => True) wc ∧ E (va_A wc sz) U U.heap
def hj_Bw {S : Type} (D : va_G) (cl : List vw_C) (t1 : S → List (ClassId × FieldType)) (A : Nat → Prop) (w1 : S → va_W) : S → State → Prop := fun u t => va_P D cl (w1 u) t.heap ∧ va_K D cl (t1 u) t ∧ va_D A (w1 u)
abbrev hj_Mi {S : Type} (l : Launch) (y : MethodName) (cc : ByteArray) (maxL : Nat) (ty : FieldType) (rm : Room) (E : hj_ET) (D : va_G) (cl : List vw_C) (tys : List (ClassId × FieldType)) (wc : va_W) (As : List Value) (post : Int32 → S → Prop) (w1 : S → va_W) (t1 : S → List (ClassId × FieldType)) (mc ms : Nat) : Prop := ∀ sz : Nat, Met l y (Cond.code y cc maxL (some ty) :: hj_tbl) rm (va_Pc As (hj_Pre E D cl tys wc sz)) (va_Qi post (hj_Bw D cl t1 (va_A wc sz) w1) (va_A wc sz)) mc ms (va_A wc sz)
abbrev hj_Ml {S : Type} (l : Launch) (y : MethodName) (cc : ByteArray) (maxL : Nat) (rm : Room) (E : hj_ET) (D : va_G) (cl : List vw_C) (tys : List (ClassId × FieldType)) (wc : va_W) (As : List Value) (post : Int64 → S → Prop) (w1 : S → va_W) (t1 : S → List (ClassId × FieldType)) (mc ms : Nat) : Prop := ∀ sz : Nat, Met l y (Cond.code y cc maxL (some .long) :: hj_tbl) rm (va_Pc As (hj_Pre E D cl tys wc sz)) (va_Ql post (hj_Bw D cl t1 (va_A wc sz) w1) (va_A wc sz)) mc ms (va_A wc sz)
abbrev hj_Mv {S : Type} (l : Launch) (y : MethodName) (cc : ByteArray) (maxL : Nat) (rm : Room) (E : hj_ET) (D : va_G) (cl : List vw_C) (tys : List (ClassId × FieldType)) (wc : va_W) (As : List Value) (post : S → Prop) (w1 : S → va_W) (t1 : S → List (ClassId × FieldType)) (mc ms : Nat) : Prop := ∀ sz : Nat, Met l y (Cond.code y cc maxL none :: hj_tbl) rm (va_Pc As (hj_Pre E D cl tys wc sz)) (va_Qv post (hj_Bw D cl t1 (va_A wc sz) w1) (va_A wc sz)) mc ms (va_A wc sz)
theorem hj_fm {α : Type} {f : Nat → Option α} : ∀ (is : List Nat) (w : List α), is.map f = w.map some → is.filterMap f = w
  | [], w, h => by
    cases w with
    | nil => rfl
    | cons a w => simp at h
  | i :: is, w, h => by
    cases w with
    | nil => simp at h
    | cons a w =>
      simp only [List.map_cons, List.cons.injEq] at h
      rw [List.filterMap_cons_some h.1, hj_fm is w h.2]
theorem hj_blind {E : hj_ET} (hE : hj_Eok E) {D : va_G} {cl : List vw_C} {tys : List (ClassId × FieldType)} {wc : va_W} {sz : Nat} {As : List Value} : FrameBlind (va_Pc As (hj_Pre E D cl tys wc sz)) := by
  intro a U g mk q
  obtain ⟨q0, q1, qP, qK, qD, qE⟩ := q
  exact ⟨q0, q1, qP, va_K.moved (u := U) (U := U.calling g mk a) (Vm.Alike.refl U.vm) qK, qD, hE.1 _ U (U.calling g mk a) _ (State.WarmedH.refl U) qE⟩
section HJC
variable {p : Program} {l : Launch} {e : Env} {R : Room} {s : State} {m : MethodId} {args : Array Value} {below : List Frame} {meth : Method} {c : Code} {H : Heap} {locs : List Loc} {cells slots : Nat} {Q : State → Prop}
variable {cc : ByteArray} {pc : Nat} {ls : Array Slot} {rest st0 : List Value} {D : va_G} {cl : List vw_C} {A : Nat → Prop} {ws wc wr : va_W} {tys tysc : List (ClassId × FieldType)} {E : hj_ET} {As : List Value}
theorem hj_startE (hE : hj_Eok E) (h0 : E A s s.heap) (hD : va_D A ws) (hS : va_S A s.heap H locs) (hA : ∀ q, s.heap.size ≤ q → A q) (isC : List Nat) (hC : isC.map (fun i => ws[i]?) = wc.map some) {U : State} (hU : U.heap = H) (hW : s.WarmedH U.vm) : E (va_A wc H.size) U U.heap := by
  rw [hU]
  exact hE.2.2 A _ U H (va_free hD hS hA isC hC) (hE.1 A s U H hW (hE.2.1 A s s.heap H hS.2.1 h0))
theorem hj_pre (hE : hj_Eok E) (h0 : E A s s.heap) (hP : va_P D cl ws H) (hD : va_D A ws) (hK : va_K D cl tys s) (hS : va_S A s.heap H locs) (hA : ∀ q, s.heap.size ≤ q → A q) (isC : List Nat) (hC : isC.map (fun i => ws[i]?) = wc.map some) (hnC : va_nd isC = true) (it : List Nat) (hT : it.filterMap (fun i => tys[i]?) = tysc) : ∀ U : State, U.heap = H → s.WarmedH U.vm → hj_Pre E D cl tysc wc H.size U := fun U hU hW =>
  ⟨by rw [hU], by rw [hU]; exact hP.sub isC (hj_fm _ _ hC), va_K.moved hW.alike (hK.sub it hT), (hD.sub isC hnC hC).weaken (fun _ _ _ _ => trivial), hj_startE hE h0 hD hS hA isC hC hU hW⟩
/-- a callee's start: its cells are the places isC of ours, its array classes the places it of ours -/
theorem hj_preS (hE : hj_Eok E) (h0 : E A s s.heap) (hP : va_P D cl ws H) (hD : va_D A ws) (hK : va_K D cl tys s) (hS : va_S A s.heap H locs) (hA : ∀ q, s.heap.size ≤ q → A q) (isC : List Nat) (hC : isC.map (fun i => ws[i]?) = wc.map some) (hnC : va_nd isC = true) (it : List Nat) (hT : it.filterMap (fun i => tys[i]?) = tysc) : PreS s H (va_Pc As (hj_Pre E D cl tysc wc H.size)) As := ⟨hj_blind hE, fun U hU hW => ⟨rfl, hj_pre hE h0 hP hD hK hS hA isC hC hnC it hT U hU hW⟩⟩
theorem hj_preV {b ci q0 : Nat} {q : vw_C} {fs : List Value} (hE : hj_Eok E) (h0 : E A s s.heap) (hP : va_P D cl ws H) (hD : va_D A ws) (hK : va_K D cl tys s) (hS : va_S A s.heap H locs) (hA : ∀ q, s.heap.size ≤ q → A q) (isC : List Nat) (hC : isC.map (fun i => ws[i]?) = wc.map some) (hnC : va_nd isC = true) (it : List Nat) (hT : it.filterMap (fun i => tys[i]?) = tysc) (hc : cl[ci]? = some q) (he : ws[q0]? = some (b, .inr (ci, fs))) : PreV s H q.1 b (va_Pc (.ref b :: As) (hj_Pre E D cl tysc wc H.size)) As := ⟨hj_blind hE, va_recv hK hP hc he, fun U hU hW => ⟨rfl, hj_pre hE h0 hP hD hK hS hA isC hC hnC it hT U hU hW⟩⟩
variable {S : Type} {w1 : S → va_W} {t1 : S → List (ClassId × FieldType)} {mc ms : Nat} {a : Array Value}
theorem hj_calli {post : Int32 → S → Prop} (isC isR : List Nat) (hP : va_P D cl ws H) (hD : va_D A ws) (hS : va_S A s.heap H locs) (hA : ∀ q, s.heap.size ≤ q → A q) (hC : isC.map (fun i => ws[i]?) = wc.map some) (hR : isR.map (fun i => ws[i]?) = wr.map some) (hn : va_nd isR = true) (hdis : ∀ i ∈ isR, i ∉ isC)
    (hr : va_Run p l e R s m args below meth c H locs cells slots mc ms (F0 m pc ls st0) rest (va_Qi post (hj_Bw D cl t1 (va_A wc H.size) w1) (va_A wc H.size) a) (va_A wc H.size))
    (kk : ∀ (r : Int32) (u : S) (H1 : Heap) (locs1 : List Loc), post r u → va_P D cl (wr ++ w1 u) H1 → va_D A (wr ++ w1 u) → va_K D cl (t1 u) s → va_S A s.heap H1 locs1 → W p l e R s m args below meth c H1 locs1 (cells + mc) (slots + ms) Q (F0 m (pc + 3) ls (.int r :: rest))) : W p l e R s m args below meth c H locs cells slots Q (F0 m pc ls st0) := by
  have hF := va_free (wc := wc) hD hS hA isC hC
  refine va_calli hr hS (fun q _ h => hF q h) hF (fun r u t H1 locs1 ht hvm hw hB hz hk hS1 => ?_)
  obtain ⟨hP1, hK1, hD1⟩ := hB
  rw [ht] at hP1
  obtain ⟨hP2, hD2⟩ := va_join (wr := wr) hP hD isC isR hC hR hn hdis hk hF hP1 hD1
  exact kk r u H1 locs1 hw hP2 hD2 (va_K.moved hvm.symm hK1) hS1
theorem hj_calll {post : Int64 → S → Prop} (isC isR : List Nat) (hP : va_P D cl ws H) (hD : va_D A ws) (hS : va_S A s.heap H locs) (hA : ∀ q, s.heap.size ≤ q → A q) (hC : isC.map (fun i => ws[i]?) = wc.map some) (hR : isR.map (fun i => ws[i]?) = wr.map some) (hn : va_nd isR = true) (hdis : ∀ i ∈ isR, i ∉ isC)
    (hr : va_Run p l e R s m args below meth c H locs cells slots mc ms (F0 m pc ls st0) rest (va_Ql post (hj_Bw D cl t1 (va_A wc H.size) w1) (va_A wc H.size) a) (va_A wc H.size))
    (kk : ∀ (r : Int64) (u : S) (H1 : Heap) (locs1 : List Loc), post r u → va_P D cl (wr ++ w1 u) H1 → va_D A (wr ++ w1 u) → va_K D cl (t1 u) s → va_S A s.heap H1 locs1 → W p l e R s m args below meth c H1 locs1 (cells + mc) (slots + ms) Q (F0 m (pc + 3) ls (.long r :: rest))) : W p l e R s m args below meth c H locs cells slots Q (F0 m pc ls st0) := by
  have hF := va_free (wc := wc) hD hS hA isC hC
  refine va_calll hr hS (fun q _ h => hF q h) hF (fun r u t H1 locs1 ht hvm hw hB hz hk hS1 => ?_)
  obtain ⟨hP1, hK1, hD1⟩ := hB
  rw [ht] at hP1
  obtain ⟨hP2, hD2⟩ := va_join (wr := wr) hP hD isC isR hC hR hn hdis hk hF hP1 hD1
  exact kk r u H1 locs1 hw hP2 hD2 (va_K.moved hvm.symm hK1) hS1
theorem hj_callv {post : S → Prop} (isC isR : List Nat) (hP : va_P D cl ws H) (hD : va_D A ws) (hS : va_S A s.heap H locs) (hA : ∀ q, s.heap.size ≤ q → A q) (hC : isC.map (fun i => ws[i]?) = wc.map some) (hR : isR.map (fun i => ws[i]?) = wr.map some) (hn : va_nd isR = true) (hdis : ∀ i ∈ isR, i ∉ isC)
    (hr : va_Run p l e R s m args below meth c H locs cells slots mc ms (F0 m pc ls st0) rest (va_Qv post (hj_Bw D cl t1 (va_A wc H.size) w1) (va_A wc H.size) a) (va_A wc H.size))
    (kk : ∀ (u : S) (H1 : Heap) (locs1 : List Loc), post u → va_P D cl (wr ++ w1 u) H1 → va_D A (wr ++ w1 u) → va_K D cl (t1 u) s → va_S A s.heap H1 locs1 → W p l e R s m args below meth c H1 locs1 (cells + mc) (slots + ms) Q (F0 m (pc + 3) ls rest)) : W p l e R s m args below meth c H locs cells slots Q (F0 m pc ls st0) := by
  have hF := va_free (wc := wc) hD hS hA isC hC
  refine va_callv hr hS (fun q _ h => hF q h) hF (fun u t H1 locs1 ht hvm hw hB hz hk hS1 => ?_)
  obtain ⟨hP1, hK1, hD1⟩ := hB
  rw [ht] at hP1
  obtain ⟨hP2, hD2⟩ := va_join (wr := wr) hP hD isC isR hC hR hn hdis hk hF hP1 hD1
  exact kk u H1 locs1 hw hP2 hD2 (va_K.moved hvm.symm hK1) hS1
end HJC
section HJM
variable {l : Launch} {y : MethodName} {rm : Room} {E : hj_ET} {D : va_G} {cl : List vw_C} {tys : List (ClassId × FieldType)} {wc : va_W} {As : List Value} {S : Type} {w1 : S → va_W} {t1 : S → List (ClassId × FieldType)} {mc ms : Nat} {cc : ByteArray} {maxL : Nat} {ty : FieldType}
set_option maxHeartbeats 1000000 in
theorem hj_bodyI {post : Int32 → S → Prop} (hy : plainFor y = true) (hlen : (lg_sl As).length ≤ maxL)
    (body : ∀ (p : Program) (e : Env) (s : State) (m : MethodId) (args : Array Value) (below : List Frame) (meth : Method) (c : Code) (A : Nat → Prop) (Q : State → Prop) (ls : Array Slot), p.tables.exec = Jvm.exec → c.code = cc → (∀ w ∈ hj_tbl, w.before args s = true) → s.vm.findClass y.cls = some m.cls → c.maxLocals = maxL → (∀ q, s.heap.size ≤ q → A q) → va_P D cl wc s.heap → va_K D cl tys s → va_D A wc → E A s s.heap → lv_has ls maxL (lv_args 0 As) →
      (∀ (r : Int32) (u : S) (H : Heap) (locs : List Loc) (pc : Nat) (ls : Array Slot), decode cc pc = .ok (.ireturn, 1) → narrow ty (.int r) = .int r → post r u → va_P D cl (w1 u) H → va_K D cl (t1 u) s → va_D A (w1 u) → va_S A s.heap H locs → W p l e rm s m args below meth c H locs mc ms Q (F0 m pc ls [.int r])) →
      W p l e rm s m args below meth c s.heap [] 0 0 Q (F0 m 0 ls [])) : hj_Mi l y cc maxL ty rm E D cl tys wc As post w1 t1 mc ms := by
  intro sz
  refine va_MetF (cc := cc) (maxL := maxL) (ret := some ty) hy rfl ?_
  intro p e s m args below meth c s₁ B hml hv
  obtain ⟨rfl, hsz, hP, hK, hD0, hE⟩ := hv
  have hlocks := B.notSynchronized
  have hr := B.returns
  subst hsz
  rw [lg_entry_eq]
  refine body p e s m _ below meth c (va_A wc s.heap.size) _ _ B.exec B.bytes (fun w h => atoms_spec B.pre w (List.mem_cons_of_mem _ h)) (findClass_of_methodNamed B.named) hml (fun q h => Or.inr h) hP hK hD0.self hE (lv_entry As hlen) ?_
  intro r u H locs pc ls hdg hn hp hP1 hK1 hD1 hS1
  exact W.zret B.exec B.bytes hr hn (fun t ht hW => ⟨⟨r, u, rfl, hp, by rw [ht]; exact hP1, va_K.moved hW.alike hK1, hD1⟩, hS1.F ht⟩) hS1.2.2 hdg hlocks
set_option maxHeartbeats 1000000 in
theorem hj_bodyL {post : Int64 → S → Prop} (hy : plainFor y = true) (hlen : (lg_sl As).length ≤ maxL)
    (body : ∀ (p : Program) (e : Env) (s : State) (m : MethodId) (args : Array Value) (below : List Frame) (meth : Method) (c : Code) (A : Nat → Prop) (Q : State → Prop) (ls : Array Slot), p.tables.exec = Jvm.exec → c.code = cc → (∀ w ∈ hj_tbl, w.before args s = true) → s.vm.findClass y.cls = some m.cls → c.maxLocals = maxL → (∀ q, s.heap.size ≤ q → A q) → va_P D cl wc s.heap → va_K D cl tys s → va_D A wc → E A s s.heap → lv_has ls maxL (lv_args 0 As) →
      (∀ (r : Int64) (u : S) (H : Heap) (locs : List Loc) (pc : Nat) (ls : Array Slot), decode cc pc = .ok (.lreturn, 1) → post r u → va_P D cl (w1 u) H → va_K D cl (t1 u) s → va_D A (w1 u) → va_S A s.heap H locs → W p l e rm s m args below meth c H locs mc ms Q (F0 m pc ls [.long r])) →
      W p l e rm s m args below meth c s.heap [] 0 0 Q (F0 m 0 ls [])) : hj_Ml l y cc maxL rm E D cl tys wc As post w1 t1 mc ms := by
  intro sz
  refine va_MetF (cc := cc) (maxL := maxL) (ret := some .long) hy rfl ?_
  intro p e s m args below meth c s₁ B hml hv
  obtain ⟨rfl, hsz, hP, hK, hD0, hE⟩ := hv
  have hlocks := B.notSynchronized
  have hr := B.returns
  subst hsz
  rw [lg_entry_eq]
  refine body p e s m _ below meth c (va_A wc s.heap.size) _ _ B.exec B.bytes (fun w h => atoms_spec B.pre w (List.mem_cons_of_mem _ h)) (findClass_of_methodNamed B.named) hml (fun q h => Or.inr h) hP hK hD0.self hE (lv_entry As hlen) ?_
  intro r u H locs pc ls hdg hp hP1 hK1 hD1 hS1
  exact W.lret B.exec B.bytes hr (fun t ht hW => ⟨⟨r, u, rfl, hp, by rw [ht]; exact hP1, va_K.moved hW.alike hK1, hD1⟩, hS1.F ht⟩) hS1.2.2 hdg hlocks
set_option maxHeartbeats 1000000 in
theorem hj_bodyV {post : S → Prop} (hy : plainFor y = true) (hlen : (lg_sl As).length ≤ maxL)
    (body : ∀ (p : Program) (e : Env) (s : State) (m : MethodId) (args : Array Value) (below : List Frame) (meth : Method) (c : Code) (A : Nat → Prop) (Q : State → Prop) (ls : Array Slot), p.tables.exec = Jvm.exec → c.code = cc → (∀ w ∈ hj_tbl, w.before args s = true) → s.vm.findClass y.cls = some m.cls → c.maxLocals = maxL → meth.name = y.name → (∀ q, s.heap.size ≤ q → A q) → va_P D cl wc s.heap → va_K D cl tys s → va_D A wc → E A s s.heap → lv_has ls maxL (lv_args 0 As) →
      (∀ (u : S) (H : Heap) (locs : List Loc) (pc : Nat) (ls : Array Slot), decode cc pc = .ok (.return_, 1) → post u → va_P D cl (w1 u) H → va_K D cl (t1 u) s → va_D A (w1 u) → va_S A s.heap H locs → W p l e rm s m args below meth c H locs mc ms Q (F0 m pc ls [])) →
      W p l e rm s m args below meth c s.heap [] 0 0 Q (F0 m 0 ls [])) : hj_Mv l y cc maxL rm E D cl tys wc As post w1 t1 mc ms := by
  intro sz
  refine va_MetF (cc := cc) (maxL := maxL) (ret := none) hy rfl ?_
  intro p e s m args below meth c s₁ B hml hv
  obtain ⟨rfl, hsz, hP, hK, hD0, hE⟩ := hv
  have hlocks := B.notSynchronized
  have hr := B.returns
  subst hsz
  rw [lg_entry_eq]
  refine body p e s m _ below meth c (va_A wc s.heap.size) _ _ B.exec B.bytes (fun w h => atoms_spec B.pre w (List.mem_cons_of_mem _ h)) (findClass_of_methodNamed B.named) hml (name_of_methodNamed B.named B.method).1 (fun q h => Or.inr h) hP hK hD0.self hE (lv_entry As hlen) ?_
  intro u H locs pc ls hdg hp hP1 hK1 hD1 hS1
  exact W.vret B.exec B.bytes hr (fun t ht hW => ⟨⟨u, rfl, hp, by rw [ht]; exact hP1, va_K.moved hW.alike hK1, hD1⟩, hS1.F ht⟩) hS1.2.2 hdg hlocks
end HJM
/-- another content of an array that says the same below its length -/
theorem hj_arr {D : va_G} {cl : List vw_C} {ws : va_W} {H : Heap} (hP : va_P D cl ws H) (k : Nat) {a n : Nat} {cA : ClassId} {f : Nat → Int32} (he : ws[k]? = some (a, .inl (cA, n, .inl f))) (g : Nat → Int32) (hg : ∀ j, j < n → f j = g j) : va_P D cl (ws.set k (a, .inl (cA, n, .inl g))) H := by
  intro i q hq
  by_cases hi : i = k
  · subst hi
    have hl : i < ws.length := (List.getElem?_eq_some_iff.mp he).1
    rw [List.getElem?_set_self hl] at hq
    cases hq
    have h1 := hP i _ he
    show H[a]? = some (vp_cell cA (n, .inl g))
    have h2 : H[a]? = some (vp_cell cA (n, .inl f)) := h1
    rw [h2]
    congr 1
    show arrV cA n (fun j => .int (f j)) = arrV cA n (fun j => .int (g j))
    unfold arrV
    congr 1
    apply Array.ext
    · simp
    · intro j h1 h2
      simp at h1
      simp [hg j h1]
  · rw [List.getElem?_set_ne (Ne.symm hi)] at hq
    exact hP i q hq
end
section
/-- what is given of the statics and of the nest: the words of nest mates; the table of the check -/
def hj_EX : hj_ET := fun A U H => (∀ w ∈ hj_nest, va_Nw w U) ∧ ∃ t : Nat, va_Z "HalfJournal" "CHECK_STEPS" "[I" (.ref t) A U H ∧ va_T .int t 16 (fun j => .int (nI (hj_tab j))) A U H
theorem hj_nest_warm {s U : State} (hW : s.WarmedH U.vm) : ∀ w ∈ hj_nest, va_Nw w s → va_Nw w U := by
  intro w hw h
  have h2 := (List.mem_filter.mp hw).2
  cases w with
  | fieldLinkNest a i b n d hh => exact va_Nw.warmF hW h
  | methodLinkNest a i x hh => exact va_Nw.warmM hW h
  | _ => exact absurd h2 (by simp [hj_isNest])
theorem hj_EXok : hj_Eok hj_EX := ⟨fun A u U H hW h => ⟨fun w hw => hj_nest_warm hW w hw (h.1 w hw), h.2.imp fun t q => ⟨va_Z.moved hW.alike q.1, va_T.moved hW.alike q.2⟩⟩,
  fun A U H H1 hq h => ⟨h.1, h.2.imp fun t q => ⟨va_Z.kept q.1 hq, va_T.kept q.2 hq⟩⟩,
  fun A B U H hq h => ⟨h.1, h.2.imp fun t q => ⟨va_Z.narrow q.1 hq, va_T.narrow q.2 hq⟩⟩⟩
abbrev rm_J_sizeOf : Room := { frames := 8, cells := 0, slots := 0, locals := 100 }
set_option maxHeartbeats 4000000 in
set_option maxRecDepth 100000 in
theorem c_J_sizeOf (l : Launch) (dC : Nat → ClassId) (dI : Nat → Nat → Nat) (n : Nat) (hn : n < 2 ^ 30) : hj_Mi l y_J_sizeOf b_J_sizeOf 1 .int rm_J_sizeOf hj_EX (dC, dI) vwCl [] [] [.int (nI n)] (fun r _ => r = nI (hj_sz n)) (fun _ : Unit => []) (fun _ => []) 0 0 := by
  refine hj_bodyI (by decide +kernel) (Nat.le_of_ble_eq_true rfl) ?_
  intro p e s m args below meth c A Q ls hx hb hts hown hml hA hP hK hD hE hl hret
  have hS : va_S A s.heap s.heap [] := va_S.rf
  have hown : s.vm.findClass "HalfJournal" = some m.cls := hown
  have hl : lv_has ls 1 [(0, .int (nI n))] := hl
  have hP : va_P (dC, dI) vwCl [] s.heap := hP
  have hD : va_D A [] := hD
  refine lv_iconst (v := nI 2) hx hb d_J_sizeOf_0 (by decide) ?_
  refine lv_iload_n hx hb d_J_sizeOf_1 rfl (lv_at hl 0 rfl) ?_
  refine hj_iadd hx hb d_J_sizeOf_2 ?_
  refine lv_iconst (v := nI 4) hx hb d_J_sizeOf_3 (by decide) ?_
  refine hj_iadd hx hb d_J_sizeOf_4 ?_
  refine lv_iload_n hx hb d_J_sizeOf_5 rfl (lv_at hl 0 rfl) ?_
  refine lv_iconst (v := nI 1) hx hb d_J_sizeOf_6 (by decide) ?_
  refine hj_iandM hx hb 1 (by first | assumption | omega) (by decide) d_J_sizeOf_7 ?_
  refine hj_iadd hx hb d_J_sizeOf_8 ?_
  refine hj_topn (b := hj_sz n) (by unfold hj_sz; omega) ?_
  exact hret (nI (hj_sz n)) () _ _ _ _ d_J_sizeOf_9 rfl (rfl) hP hK hD hS
abbrev rm_J_headBegin : Room := { frames := 8, cells := 0, slots := 0, locals := 100 }
set_option maxHeartbeats 4000000 in
set_option maxRecDepth 100000 in
theorem c_J_headBegin (l : Launch) (dC : Nat → ClassId) (dI : Nat → Nat → Nat) (h : Nat) (hh : h < 2) : hj_Mi l y_J_headBegin b_J_headBegin 1 .int rm_J_headBegin hj_EX (dC, dI) vwCl [] [] [.int (nI h)] (fun r _ => r = nI (12618 + 65536 * h)) (fun _ : Unit => []) (fun _ => []) 0 0 := by
  refine hj_bodyI (by decide +kernel) (Nat.le_of_ble_eq_true rfl) ?_
  intro p e s m args below meth c A Q ls hx hb hts hown hml hA hP hK hD hE hl hret
  have hS : va_S A s.heap s.heap [] := va_S.rf
  have hown : s.vm.findClass "HalfJournal" = some m.cls := hown
  have hl : lv_has ls 1 [(0, .int (nI h))] := hl
  have hP : va_P (dC, dI) vwCl [] s.heap := hP
  have hD : va_D A [] := hD
  refine lv_sipush (v := nI 12618) hx hb d_J_headBegin_0 (by decide) ?_
  refine lv_iload_n hx hb d_J_headBegin_3 rfl (lv_at hl 0 rfl) ?_
  refine lv_bipush (v := nI 16) hx hb d_J_headBegin_4 (by decide) ?_
  refine hj_ishl hx hb 16 (by decide) (by omega) d_J_headBegin_6 ?_
  refine hj_iorR hx hb 16 (by omega) (by omega) d_J_headBegin_7 ?_
  refine hj_topn (b := 12618 + 65536 * h) (by omega) ?_
  exact hret (nI (12618 + 65536 * h)) () _ _ _ _ d_J_headBegin_8 rfl (rfl) hP hK hD hS
abbrev rm_J_isBlock : Room := { frames := 8, cells := 0, slots := 0, locals := 100 }
set_option maxHeartbeats 4000000 in
set_option maxRecDepth 100000 in
theorem c_J_isBlock (l : Launch) (dC : Nat → ClassId) (dI : Nat → Nat → Nat) (x : Int32) : hj_Mi l y_J_isBlock b_J_isBlock 1 .boolean rm_J_isBlock hj_EX (dC, dI) vwCl [] [] [.int x] (fun r _ => (vp_in x 64 ∧ r = nI 1) ∨ (¬ vp_in x 64 ∧ r = nI 0)) (fun _ : Unit => []) (fun _ => []) 0 0 := by
  refine hj_bodyI (by decide +kernel) (Nat.le_of_ble_eq_true rfl) ?_
  intro p e s m args below meth c A Q ls hx hb hts hown hml hA hP hK hD hE hl hret
  have hS : va_S A s.heap s.heap [] := va_S.rf
  have hown : s.vm.findClass "HalfJournal" = some m.cls := hown
  have hl : lv_has ls 1 [(0, .int x)] := hl
  have hP : va_P (dC, dI) vwCl [] s.heap := hP
  have hD : va_D A [] := hD
  refine lv_iload_n hx hb d_J_isBlock_0 rfl (lv_at hl 0 rfl) ?_
  refine lv_if_lt (tgt := 14) hx hb d_J_isBlock_1 (by decide) (fun c_1 => ?_) (fun c_1 => ?_)
  · refine lv_iconst (v := nI 0) hx hb d_J_isBlock_14 (by decide) ?_
    exact hret (nI 0) () _ _ _ _ d_J_isBlock_15 rfl (Or.inr ⟨fun q => q (Or.inl c_1), rfl⟩) hP hK hD hS
  · obtain ⟨j, hj, rfl⟩ := nI_of c_1
    refine lv_iload_n hx hb d_J_isBlock_4 rfl (lv_at hl 0 rfl) ?_
    refine lv_bipush (v := nI 64) hx hb d_J_isBlock_5 (by decide) ?_
    refine hj_icmp_ge (tgt := 14) hx hb (by omega) (by omega) d_J_isBlock_7 (by decide) (fun c_2 => ?_) (fun c_2 => ?_)
    · refine lv_iconst (v := nI 0) hx hb d_J_isBlock_14 (by decide) ?_
      exact hret (nI 0) () _ _ _ _ d_J_isBlock_15 rfl (Or.inr ⟨fun q => q (Or.inr (by rw [nI_clamp hj]; exact c_2)), rfl⟩) hP hK hD hS
    · refine lv_iconst (v := nI 1) hx hb d_J_isBlock_10 (by decide) ?_
      refine lv_goto (tgt := 15) hx hb d_J_isBlock_11 (by decide) ?_
      exact hret (nI 1) () _ _ _ _ d_J_isBlock_15 rfl (Or.inl ⟨vp_in_nI c_2 (by omega), rfl⟩) hP hK hD hS
abbrev rm_J_firstBlockOf : Room := { frames := 8, cells := 0, slots := 0, locals := 100 }
set_option maxHeartbeats 4000000 in
set_option maxRecDepth 100000 in
theorem c_J_firstBlockOf (l : Launch) (dC : Nat → ClassId) (dI : Nat → Nat → Nat) (h : Nat) : hj_Mi l y_J_firstBlockOf b_J_firstBlockOf 1 .int rm_J_firstBlockOf hj_EX (dC, dI) vwCl [] [] [.int (nI h)] (fun r _ => r = nI (2 + h * 31)) (fun _ : Unit => []) (fun _ => []) 0 0 := by
  refine hj_bodyI (by decide +kernel) (Nat.le_of_ble_eq_true rfl) ?_
  intro p e s m args below meth c A Q ls hx hb hts hown hml hA hP hK hD hE hl hret
  have hS : va_S A s.heap s.heap [] := va_S.rf
  have hown : s.vm.findClass "HalfJournal" = some m.cls := hown
  have hl : lv_has ls 1 [(0, .int (nI h))] := hl
  have hP : va_P (dC, dI) vwCl [] s.heap := hP
  have hD : va_D A [] := hD
  refine lv_iconst (v := nI 2) hx hb d_J_firstBlockOf_0 (by decide) ?_
  refine lv_iload_n hx hb d_J_firstBlockOf_1 rfl (lv_at hl 0 rfl) ?_
  refine lv_bipush (v := nI 31) hx hb d_J_firstBlockOf_2 (by decide) ?_
  refine hj_imul hx hb d_J_firstBlockOf_4 ?_
  refine hj_iadd hx hb d_J_firstBlockOf_5 ?_
  exact hret (nI (2 + (h * 31))) () _ _ _ _ d_J_firstBlockOf_6 rfl (rfl) hP hK hD hS
abbrev rm_J_firstByteOf : Room := { frames := 16, cells := 0, slots := 0, locals := 200 }
set_option maxHeartbeats 4000000 in
set_option maxRecDepth 100000 in
theorem c_J_firstByteOf (l : Launch) (dC : Nat → ClassId) (dI : Nat → Nat → Nat) (h : Nat) : hj_Mi l y_J_firstByteOf b_J_firstByteOf 1 .int rm_J_firstByteOf hj_EX (dC, dI) vwCl [] [] [.int (nI h)] (fun r _ => r = nI (hj_hb h)) (fun _ : Unit => []) (fun _ => []) 0 0 := by
  refine hj_bodyI (by decide +kernel) (Nat.le_of_ble_eq_true rfl) ?_
  intro p e s m args below meth c A Q ls hx hb hts hown hml hA hP hK hD hE hl hret
  have hS : va_S A s.heap s.heap [] := va_S.rf
  have hown : s.vm.findClass "HalfJournal" = some m.cls := hown
  have hl : lv_has ls 1 [(0, .int (nI h))] := hl
  have hP : va_P (dC, dI) vwCl [] s.heap := hP
  have hD : va_D A [] := hD
  refine lv_iload_n hx hb d_J_firstByteOf_0 rfl (lv_at hl 0 rfl) ?_
  refine hj_calli (wc := []) (wr := []) [] [] hP hD hS hA rfl rfl rfl (by decide) (va_runS (As := [.int (nI h)]) (rest := []) ⟨hx, hb, hml, hown, hts⟩ (c_J_firstBlockOf l dC dI h s.heap.size) (cwS 1 hts (hj_gS m_465 m_466 m_1 m_467) rfl rfl rfl (by decide +kernel) ⟨Nat.le_of_ble_eq_true rfl, Nat.le_of_ble_eq_true rfl⟩) (hj_preS hj_EXok hE hP hD hK hS hA [] rfl rfl [] rfl) rfl rfl hl.1 rfl (lv_room (Nat.le_of_ble_eq_true rfl)) d_J_firstByteOf_1 ⟨Nat.le_of_ble_eq_true rfl, Nat.le_of_ble_eq_true rfl⟩) (fun r_1 u_2 H locs hw hP hD hK1 hS => ?_)
  subst hw
  have hP : va_P (dC, dI) vwCl [] H := hP.sub [] rfl
  have hD : va_D A [] := hD.sub [] (by decide) rfl
  refine lv_sipush (v := nI 512) hx hb d_J_firstByteOf_4 (by decide) ?_
  refine hj_imul hx hb d_J_firstByteOf_7 ?_
  refine hj_topn (b := hj_hb h) (by unfold hj_hb; omega) ?_
  exact hret (nI (hj_hb h)) () _ _ _ _ d_J_firstByteOf_8 rfl (rfl) hP hK hD hS
abbrev rm_J_lastBlockOf : Room := { frames := 8, cells := 0, slots := 0, locals := 100 }
set_option maxHeartbeats 4000000 in
set_option maxRecDepth 100000 in
theorem c_J_lastBlockOf (l : Launch) (dC : Nat → ClassId) (dI : Nat → Nat → Nat) (t : Nat) (ht : t ≤ 15872) : hj_Mi l y_J_lastBlockOf b_J_lastBlockOf 1 .int rm_J_lastBlockOf hj_EX (dC, dI) vwCl [] [] [.int (nI t)] (fun r _ => r = nI (hj_lb t)) (fun _ : Unit => []) (fun _ => []) 0 0 := by
  refine hj_bodyI (by decide +kernel) (Nat.le_of_ble_eq_true rfl) ?_
  intro p e s m args below meth c A Q ls hx hb hts hown hml hA hP hK hD hE hl hret
  have hS : va_S A s.heap s.heap [] := va_S.rf
  have hown : s.vm.findClass "HalfJournal" = some m.cls := hown
  have hl : lv_has ls 1 [(0, .int (nI t))] := hl
  have hP : va_P (dC, dI) vwCl [] s.heap := hP
  have hD : va_D A [] := hD
  refine lv_iload_n hx hb d_J_lastBlockOf_0 rfl (lv_at hl 0 rfl) ?_
  refine lv_iconst (v := nI 2) hx hb d_J_lastBlockOf_1 (by decide) ?_
  refine hj_iadd hx hb d_J_lastBlockOf_2 ?_
  refine lv_sipush (v := nI 15872) hx hb d_J_lastBlockOf_3 (by decide) ?_
  refine va_mmin hx hb (hml.trans hl.1.symm) hown (hts _ m_599) (hts _ m_240) (hts _ m_15) (hts _ m_241) (Nat.le_of_ble_eq_true rfl) (Nat.le_of_ble_eq_true rfl) (Nat.le_of_ble_eq_true rfl) (Nat.le_of_ble_eq_true rfl) d_J_lastBlockOf_6 ?_
  have h9 : (if nI 15872 < nI (t + 2) then nI 15872 else nI (t + 2)) = nI (if 15872 < t + 2 then 15872 else t + 2) := by
    by_cases q : 15872 < t + 2
    · rw [if_pos q, if_pos ((nI_ltI (by omega) (by omega)).mpr q)]
    · rw [if_neg q, if_neg (fun z => q ((nI_ltI (by omega) (by omega)).mp z))]
  rw [h9]
  obtain ⟨v, hv⟩ : ∃ v, v = (if 15872 < t + 2 then 15872 else t + 2) := ⟨_, rfl⟩
  rw [← hv]
  have hv1 : 2 ≤ v ∧ v ≤ 15872 := by rw [hv]; split <;> omega
  refine lv_iconst (v := nI 1) hx hb d_J_lastBlockOf_9 (by decide) ?_
  refine hj_isub hx hb (by omega) d_J_lastBlockOf_10 ?_
  refine lv_sipush (v := nI 512) hx hb d_J_lastBlockOf_11 (by decide) ?_
  refine hj_idiv hx hb (by omega) (by omega) (by omega) d_J_lastBlockOf_14 ?_
  refine hj_topn (b := hj_lb t) (by unfold hj_lb; rw [hv]; split <;> split <;> omega) ?_
  exact hret (nI (hj_lb t)) () _ _ _ _ d_J_lastBlockOf_15 rfl (rfl) hP hK hD hS
abbrev rm_J_hasBytes : Room := { frames := 8, cells := 0, slots := 0, locals := 100 }
set_option maxHeartbeats 4000000 in
set_option maxRecDepth 100000 in
theorem c_J_hasBytes (l : Launch) (dC : Nat → ClassId) (dI : Nat → Nat → Nat) (a : Nat) (cA : ClassId) (n : Nat) (d : Nat → Nat) (f w : Nat) (hn : n < 2 ^ 31) (hf : f + w ≤ n) : hj_Mi l y_J_hasBytes b_J_hasBytes 3 .boolean rm_J_hasBytes hj_EX (dC, dI) vwCl [(cA, .byte)] [(a, .inl (cA, n, .inl (hj_B d)))] [.ref a, .int (nI f), .int (nI w)] (fun r _ => r = nI 1) (fun _ : Unit => [(a, .inl (cA, n, .inl (hj_B d)))]) (fun _ => [(cA, .byte)]) 0 0 := by
  refine hj_bodyI (by decide +kernel) (Nat.le_of_ble_eq_true rfl) ?_
  intro p e s m args below meth c A Q ls hx hb hts hown hml hA hP hK hD hE hl hret
  have hS : va_S A s.heap s.heap [] := va_S.rf
  have hown : s.vm.findClass "HalfJournal" = some m.cls := hown
  have hl : lv_has ls 3 [(0, .ref a), (1, .int (nI f)), (2, .int (nI w))] := hl
  have hP : va_P (dC, dI) vwCl [(a, .inl (cA, n, .inl (hj_B d)))] s.heap := hP
  have hD : va_D A [(a, .inl (cA, n, .inl (hj_B d)))] := hD
  refine lv_iload_n hx hb d_J_hasBytes_0 rfl (lv_at hl 1 rfl) ?_
  refine hj_if_lt (tgt := 20) hx hb (by omega) d_J_hasBytes_1 ?_ (by decide)
  refine lv_iload_n hx hb d_J_hasBytes_4 rfl (lv_at hl 2 rfl) ?_
  refine hj_if_lt (tgt := 20) hx hb (by omega) d_J_hasBytes_5 ?_ (by decide)
  refine lv_iload_n hx hb d_J_hasBytes_8 rfl (lv_at hl 2 rfl) ?_
  refine lv_aload_n hx hb d_J_hasBytes_9 rfl (lv_at hl 0 rfl) ?_
  refine va_alen (v := nI n) hx hb hK hP 0 0 rfl rfl rfl d_J_hasBytes_10 ?_
  refine lv_iload_n hx hb d_J_hasBytes_11 rfl (lv_at hl 1 rfl) ?_
  refine hj_isub hx hb (by omega) d_J_hasBytes_12 ?_
  refine hj_icmp_gt (tgt := 20) hx hb (by omega) (by omega) d_J_hasBytes_13 (by decide) (fun c_1 => ?_) (fun c_1 => ?_)
  · omega
  · refine lv_iconst (v := nI 1) hx hb d_J_hasBytes_16 (by decide) ?_
    refine lv_goto (tgt := 21) hx hb d_J_hasBytes_17 (by decide) ?_
    exact hret (nI 1) () _ _ _ _ d_J_hasBytes_21 rfl (rfl) hP hK hD hS
abbrev rm_A_rangeCheck : Room := { frames := 8, cells := 0, slots := 0, locals := 100 }
set_option maxHeartbeats 4000000 in
set_option maxRecDepth 100000 in
theorem c_A_rangeCheck (l : Launch) (dC : Nat → ClassId) (dI : Nat → Nat → Nat) (n f t : Nat) (hn : n < 2 ^ 31) (hf : f ≤ t) (ht : t ≤ n) : hj_Mv l y_A_rangeCheck b_A_rangeCheck 3 rm_A_rangeCheck hj_EX (dC, dI) vwCl [] [] [.int (nI n), .int (nI f), .int (nI t)] (fun _ => True) (fun _ : Unit => []) (fun _ => []) 0 0 := by
  refine hj_bodyV (by decide +kernel) (Nat.le_of_ble_eq_true rfl) ?_
  intro p e s m args below meth c A Q ls hx hb hts hown hml hin hA hP hK hD hE hl hret
  have hS : va_S A s.heap s.heap [] := va_S.rf
  have hown : s.vm.findClass "java/util/Arrays" = some m.cls := hown
  have hl : lv_has ls 3 [(0, .int (nI n)), (1, .int (nI f)), (2, .int (nI t))] := hl
  have hP : va_P (dC, dI) vwCl [] s.heap := hP
  have hD : va_D A [] := hD
  refine lv_iload_n hx hb d_A_rangeCheck_0 rfl (lv_at hl 1 rfl) ?_
  refine lv_iload_n hx hb d_A_rangeCheck_1 rfl (lv_at hl 2 rfl) ?_
  refine hj_icmp_le (tgt := 46) hx hb (by omega) (by omega) d_A_rangeCheck_2 (by decide) (fun c_1 => ?_) (fun c_1 => ?_)
  · refine lv_iload_n hx hb d_A_rangeCheck_46 rfl (lv_at hl 1 rfl) ?_
    refine hj_if_ge (tgt := 59) hx hb (by omega) d_A_rangeCheck_47 (by decide) ?_
    refine lv_iload_n hx hb d_A_rangeCheck_59 rfl (lv_at hl 2 rfl) ?_
    refine lv_iload_n hx hb d_A_rangeCheck_60 rfl (lv_at hl 0 rfl) ?_
    refine hj_icmp_le (tgt := 73) hx hb (by omega) (by omega) d_A_rangeCheck_61 (by decide) (fun c_2 => ?_) (fun c_2 => ?_)
    · exact hret () _ _ _ _ d_A_rangeCheck_73 (trivial) hP hK hD hS
    · omega
  · omega
end
section
theorem hj_addm1 (x : Int32) : x + Int32.ofInt (-1) = x - 1 := by
  rw [Int32.sub_eq_add_neg]; rfl
theorem hj_m1_neg : nI 0 - 1 < (0 : Int32) := by decide +kernel
theorem hj_sh8u : ∀ i, i < 4 → (((nI (8 * i)).toUInt32 &&& Int32.toUInt32 31).toBitVec % 32).toNat = 8 * i := by decide +kernel
theorem hj_by_sh (v i : Nat) : v / 2 ^ (8 * i) % 256 = hj_by v i := by
  unfold hj_by
  rw [Nat.pow_mul]
abbrev rm_A_fill : Room := { frames := 16, cells := 0, slots := 0, locals := 200 }
set_option maxHeartbeats 4000000 in
set_option maxRecDepth 100000 in
theorem c_A_fill (l : Launch) (dC : Nat → ClassId) (dI : Nat → Nat → Nat) (a : Nat) (cA : ClassId) (n : Nat) (d : Nat → Nat) (f t : Nat) (hn : n < 2 ^ 31) (hf : f ≤ t) (ht : t ≤ n) : hj_Mv l y_A_fill b_A_fill 5 rm_A_fill hj_EX (dC, dI) vwCl [(cA, .byte)] [(a, .inl (cA, n, .inl (hj_B d)))] [.ref a, .int (nI f), .int (nI t), .int (nI 0)] (fun _ => True) (fun _ : Unit => [(a, .inl (cA, n, .inl (hj_B (hj_clr d f t))))]) (fun _ => [(cA, .byte)]) 0 0 := by
  refine hj_bodyV (by decide +kernel) (Nat.le_of_ble_eq_true rfl) ?_
  intro p e s m args below meth c A Q ls hx hb hts hown hml hin hA hP hK hD hE hl hret
  have hS : va_S A s.heap s.heap [] := va_S.rf
  have hown : s.vm.findClass "java/util/Arrays" = some m.cls := hown
  have hl : lv_has ls 5 [(0, .ref a), (1, .int (nI f)), (2, .int (nI t)), (3, .int (nI 0))] := hl
  have hP : va_P (dC, dI) vwCl [(a, .inl (cA, n, .inl (hj_B d)))] s.heap := hP
  have hD : va_D A [(a, .inl (cA, n, .inl (hj_B d)))] := hD
  refine lv_aload_n hx hb d_A_fill_0 rfl (lv_at hl 0 rfl) ?_
  refine va_alen (v := nI n) hx hb hK hP 0 0 rfl rfl rfl d_A_fill_1 ?_
  refine lv_iload_n hx hb d_A_fill_2 rfl (lv_at hl 1 rfl) ?_
  refine lv_iload_n hx hb d_A_fill_3 rfl (lv_at hl 2 rfl) ?_
  refine hj_callv (wc := []) (wr := [(a, .inl (cA, n, .inl (hj_B d)))]) [] [0] hP hD hS hA rfl rfl rfl (by decide) (va_runS (As := [.int (nI n), .int (nI f), .int (nI t)]) (rest := []) ⟨hx, hb, hml, hown, hts⟩ (c_A_rangeCheck l dC dI n f t hn hf ht s.heap.size) (cwS 3 hts (hj_gS m_123 m_124 m_5 m_125) rfl rfl rfl (by decide +kernel) ⟨Nat.le_of_ble_eq_true rfl, Nat.le_of_ble_eq_true rfl⟩) (hj_preS hj_EXok hE hP hD hK hS hA [] rfl rfl [] rfl) rfl rfl hl.1 rfl (lv_room (Nat.le_of_ble_eq_true rfl)) d_A_fill_4 ⟨Nat.le_of_ble_eq_true rfl, Nat.le_of_ble_eq_true rfl⟩) (fun u_2 H locs hw hP hD hK1 hS => ?_)
  have hP : va_P (dC, dI) vwCl [(a, .inl (cA, n, .inl (hj_B d)))] H := hP.sub [0] rfl
  have hD : va_D A [(a, .inl (cA, n, .inl (hj_B d)))] := hD.sub [0] (by decide) rfl
  refine lv_iload_n hx hb d_A_fill_7 rfl (lv_at hl 1 rfl) ?_
  refine lv_istore (lv' := [(4, .int (nI f)), (0, .ref a), (1, .int (nI f)), (2, .int (nI t)), (3, .int (nI 0))]) hx hb d_A_fill_8 hl (by decide) rfl (fun ls hl => ?_)
  have h9 : (d : Nat → Nat) = hj_clr d f f := (hj_clr0 d f).symm
  rw [h9] at hP hD
  have hP : va_P (dC, dI) vwCl [(a, .inl (cA, n, .inl (hj_B (hj_clr d f f))))] H := hP
  have hD : va_D A [(a, .inl (cA, n, .inl (hj_B (hj_clr d f f))))] := hD
  have lp : ∀ (n9 : Nat) (i : Nat), (f ≤ i) → (i ≤ t) → (t - i) < n9 → ∀ (H : Heap) (locs : List Loc), va_P (dC, dI) vwCl [(a, .inl (cA, n, .inl (hj_B (hj_clr d f i))))] H → va_D A [(a, .inl (cA, n, .inl (hj_B (hj_clr d f i))))] → va_S A s.heap H locs → ∀ (ls : Array Slot), lv_has ls 5 [(0, .ref a), (2, .int (nI t)), (3, .int (nI 0)), (4, .int (nI i))] → W p l e rm_A_fill s m args below meth c H locs 0 0 Q (F0 m 10 ls []) := by
    intro n9
    induction n9 with
    | zero =>
      intro i hi1 hi2 hm
      exact absurd hm (Nat.not_lt_zero _)
    | succ n9 ih =>
      intro i hi1 hi2 hm H locs hP hD hS ls hl
      refine lv_iload hx hb d_A_fill_10 (lv_at hl 3 rfl) ?_
      refine lv_iload_n hx hb d_A_fill_12 rfl (lv_at hl 1 rfl) ?_
      refine hj_icmp_ge (tgt := 27) hx hb (by omega) (by omega) d_A_fill_13 (by decide) (fun c_1 => ?_) (fun c_1 => ?_)
      · obtain rfl : i = t := by omega
        exact hret () _ _ _ _ d_A_fill_27 (trivial) hP hK hD hS
      · refine lv_aload_n hx hb d_A_fill_16 rfl (lv_at hl 0 rfl) ?_
        refine lv_iload hx hb d_A_fill_17 (lv_at hl 3 rfl) ?_
        refine lv_iload_n hx hb d_A_fill_19 rfl (lv_at hl 2 rfl) ?_
        refine hj_topv (y := sb_b 0) (by decide) ?_
        refine hj_bast hx hb hK hP hD hS 0 0 rfl rfl (by omega) (by omega) d_A_fill_20 (fun H locs hP hD hS => ?_)
        have hP : va_P (dC, dI) vwCl [(a, .inl (cA, n, .inl (hj_B (va_up (hj_clr d f i) i 0))))] H := hP
        have hD : va_D A [(a, .inl (cA, n, .inl (hj_B (va_up (hj_clr d f i) i 0))))] := hD
        have h9 : (va_up (hj_clr d f i) i 0 : Nat → Nat) = hj_clr d f (i + 1) := hj_clrS d hi1
        rw [h9] at hP hD
        have hP : va_P (dC, dI) vwCl [(a, .inl (cA, n, .inl (hj_B (hj_clr d f (i + 1)))))] H := hP
        have hD : va_D A [(a, .inl (cA, n, .inl (hj_B (hj_clr d f (i + 1)))))] := hD
        refine lv_iinc (v := nI (i + 1)) (lv' := [(4, .int (nI (i + 1))), (0, .ref a), (2, .int (nI t)), (3, .int (nI 0))]) hx hb d_A_fill_21 hl (k := 3) rfl (nI_1 _) (by decide) rfl (fun ls hl => ?_)
        refine lv_goto (tgt := 10) hx hb d_A_fill_24 (by decide) ?_
        exact ih (i + 1) (by omega) (by omega) (by omega) _ _ hP hD hS _ (lv_sub hl [1, 2, 3, 0] rfl)
  exact lp _ f (Nat.le_refl _) (hf) (Nat.lt_succ_self _) _ _ hP hD hS _ (lv_sub hl [1, 3, 4, 0] rfl)
abbrev rm_J_clearBytes : Room := { frames := 24, cells := 0, slots := 0, locals := 300 }
set_option maxHeartbeats 4000000 in
set_option maxRecDepth 100000 in
theorem c_J_clearBytes (l : Launch) (dC : Nat → ClassId) (dI : Nat → Nat → Nat) (a : Nat) (cA : ClassId) (n : Nat) (d : Nat → Nat) (f t : Nat) (hn : n < 2 ^ 31) (hf : f ≤ t) (ht : t ≤ n) : hj_Mv l y_J_clearBytes b_J_clearBytes 3 rm_J_clearBytes hj_EX (dC, dI) vwCl [(cA, .byte)] [(a, .inl (cA, n, .inl (hj_B d)))] [.ref a, .int (nI f), .int (nI t)] (fun _ => True) (fun _ : Unit => [(a, .inl (cA, n, .inl (hj_B (hj_clr d f t))))]) (fun _ => [(cA, .byte)]) 0 0 := by
  refine hj_bodyV (by decide +kernel) (Nat.le_of_ble_eq_true rfl) ?_
  intro p e s m args below meth c A Q ls hx hb hts hown hml hin hA hP hK hD hE hl hret
  have hS : va_S A s.heap s.heap [] := va_S.rf
  have hown : s.vm.findClass "HalfJournal" = some m.cls := hown
  have hl : lv_has ls 3 [(0, .ref a), (1, .int (nI f)), (2, .int (nI t))] := hl
  have hP : va_P (dC, dI) vwCl [(a, .inl (cA, n, .inl (hj_B d)))] s.heap := hP
  have hD : va_D A [(a, .inl (cA, n, .inl (hj_B d)))] := hD
  refine lv_aload_n hx hb d_J_clearBytes_0 rfl (lv_at hl 0 rfl) ?_
  refine lv_iload_n hx hb d_J_clearBytes_1 rfl (lv_at hl 1 rfl) ?_
  refine lv_iload_n hx hb d_J_clearBytes_2 rfl (lv_at hl 2 rfl) ?_
  refine lv_iload_n hx hb d_J_clearBytes_3 rfl (lv_at hl 1 rfl) ?_
  refine hj_isub hx hb (by omega) d_J_clearBytes_4 ?_
  refine hj_calli (wc := [(a, .inl (cA, n, .inl (hj_B d)))]) (wr := []) [0] [] hP hD hS hA rfl rfl rfl (by decide) (va_runS (As := [.ref a, .int (nI f), .int (nI (t - f))]) (rest := []) ⟨hx, hb, hml, hown, hts⟩ (c_J_hasBytes l dC dI a cA n d f (t - f) hn (by omega) s.heap.size) (cwS 3 hts (hj_gS m_117 m_118 m_1 m_119) rfl rfl rfl (by decide +kernel) ⟨Nat.le_of_ble_eq_true rfl, Nat.le_of_ble_eq_true rfl⟩) (hj_preS hj_EXok hE hP hD hK hS hA [0] rfl rfl [0] rfl) rfl rfl hl.1 rfl (lv_room (Nat.le_of_ble_eq_true rfl)) d_J_clearBytes_5 ⟨Nat.le_of_ble_eq_true rfl, Nat.le_of_ble_eq_true rfl⟩) (fun r_1 u_2 H locs hw hP hD hK1 hS => ?_)
  subst hw
  have hP : va_P (dC, dI) vwCl [(a, .inl (cA, n, .inl (hj_B d)))] H := hP.sub [0] rfl
  have hD : va_D A [(a, .inl (cA, n, .inl (hj_B d)))] := hD.sub [0] (by decide) rfl
  refine hj_if_eq (tgt := 18) hx hb (by omega) d_J_clearBytes_8 (by decide) (fun c_1 => ?_) (fun c_1 => ?_)
  · omega
  · refine lv_aload_n hx hb d_J_clearBytes_11 rfl (lv_at hl 0 rfl) ?_
    refine lv_iload_n hx hb d_J_clearBytes_12 rfl (lv_at hl 1 rfl) ?_
    refine lv_iload_n hx hb d_J_clearBytes_13 rfl (lv_at hl 2 rfl) ?_
    refine lv_iconst (v := nI 0) hx hb d_J_clearBytes_14 (by decide) ?_
    refine hj_callv (wc := [(a, .inl (cA, n, .inl (hj_B d)))]) (wr := []) [0] [] hP hD hS hA rfl rfl rfl (by decide) (va_runS (As := [.ref a, .int (nI f), .int (nI t), .int (nI 0)]) (rest := []) ⟨hx, hb, hml, hown, hts⟩ (c_A_fill l dC dI a cA n d f t hn hf ht H.size) (va_cwS 4 hts (hj_gA m_120 m_121 m_5 m_122) rfl rfl rfl (by decide +kernel) ⟨Nat.le_of_ble_eq_true rfl, Nat.le_of_ble_eq_true rfl⟩) (hj_preS hj_EXok hE hP hD hK hS hA [0] rfl rfl [0] rfl) rfl rfl hl.1 rfl (lv_room (Nat.le_of_ble_eq_true rfl)) d_J_clearBytes_15 ⟨Nat.le_of_ble_eq_true rfl, Nat.le_of_ble_eq_true rfl⟩) (fun u_4 H locs hw hP hD hK1 hS => ?_)
    have hP : va_P (dC, dI) vwCl [(a, .inl (cA, n, .inl (hj_B (hj_clr d f t))))] H := hP.sub [0] rfl
    have hD : va_D A [(a, .inl (cA, n, .inl (hj_B (hj_clr d f t))))] := hD.sub [0] (by decide) rfl
    exact hret () _ _ _ _ d_J_clearBytes_18 (trivial) hP hK hD hS
abbrev rm_J_copyBytes : Room := { frames := 16, cells := 0, slots := 0, locals := 200 }
set_option maxHeartbeats 4000000 in
set_option maxRecDepth 100000 in
theorem c_J_copyBytes (l : Launch) (dC : Nat → ClassId) (dI : Nat → Nat → Nat) (a : Nat) (cA : ClassId) (n : Nat) (d : Nat → Nat) (a2 : Nat) (cA2 : ClassId) (n2 : Nat) (d2 : Nat → Nat) (f t w : Nat) (hn : n < 2 ^ 31) (hn2 : n2 < 2 ^ 31) (hf : f + w ≤ n) (ht : t + w ≤ n2) : hj_Mv l y_J_copyBytes b_J_copyBytes 5 rm_J_copyBytes hj_EX (dC, dI) vwCl [(cA, .byte), (cA2, .byte)] [(a, .inl (cA, n, .inl (hj_B d))), (a2, .inl (cA2, n2, .inl (hj_B d2)))] [.ref a, .int (nI f), .ref a2, .int (nI t), .int (nI w)] (fun _ => True) (fun _ : Unit => [(a, .inl (cA, n, .inl (hj_B d))), (a2, .inl (cA2, n2, .inl (hj_B (va_cpy d d2 f t w))))]) (fun _ => [(cA, .byte), (cA2, .byte)]) 0 0 := by
  refine hj_bodyV (by decide +kernel) (Nat.le_of_ble_eq_true rfl) ?_
  intro p e s m args below meth c A Q ls hx hb hts hown hml hin hA hP hK hD hE hl hret
  have hS : va_S A s.heap s.heap [] := va_S.rf
  have hown : s.vm.findClass "HalfJournal" = some m.cls := hown
  have hl : lv_has ls 5 [(0, .ref a), (1, .int (nI f)), (2, .ref a2), (3, .int (nI t)), (4, .int (nI w))] := hl
  have hP : va_P (dC, dI) vwCl [(a, .inl (cA, n, .inl (hj_B d))), (a2, .inl (cA2, n2, .inl (hj_B d2)))] s.heap := hP
  have hD : va_D A [(a, .inl (cA, n, .inl (hj_B d))), (a2, .inl (cA2, n2, .inl (hj_B d2)))] := hD
  refine lv_aload_n hx hb d_J_copyBytes_0 rfl (lv_at hl 0 rfl) ?_
  refine lv_iload_n hx hb d_J_copyBytes_1 rfl (lv_at hl 1 rfl) ?_
  refine lv_iload hx hb d_J_copyBytes_2 (lv_at hl 4 rfl) ?_
  refine hj_calli (wc := [(a, .inl (cA, n, .inl (hj_B d)))]) (wr := [(a2, .inl (cA2, n2, .inl (hj_B d2)))]) [0] [1] hP hD hS hA rfl rfl rfl (by decide) (va_runS (As := [.ref a, .int (nI f), .int (nI w)]) (rest := []) ⟨hx, hb, hml, hown, hts⟩ (c_J_hasBytes l dC dI a cA n d f w hn hf s.heap.size) (cwS 3 hts (hj_gS m_117 m_118 m_1 m_119) rfl rfl rfl (by decide +kernel) ⟨Nat.le_of_ble_eq_true rfl, Nat.le_of_ble_eq_true rfl⟩) (hj_preS hj_EXok hE hP hD hK hS hA [0] rfl rfl [0] rfl) rfl rfl hl.1 rfl (lv_room (Nat.le_of_ble_eq_true rfl)) d_J_copyBytes_4 ⟨Nat.le_of_ble_eq_true rfl, Nat.le_of_ble_eq_true rfl⟩) (fun r_1 u_2 H locs hw hP hD hK1 hS => ?_)
  subst hw
  have hP : va_P (dC, dI) vwCl [(a, .inl (cA, n, .inl (hj_B d))), (a2, .inl (cA2, n2, .inl (hj_B d2)))] H := hP.sub [1, 0] rfl
  have hD : va_D A [(a, .inl (cA, n, .inl (hj_B d))), (a2, .inl (cA2, n2, .inl (hj_B d2)))] := hD.sub [1, 0] (by decide) rfl
  refine hj_if_eq (tgt := 29) hx hb (by omega) d_J_copyBytes_7 (by decide) (fun c_1 => ?_) (fun c_1 => ?_)
  · omega
  · refine lv_aload_n hx hb d_J_copyBytes_10 rfl (lv_at hl 2 rfl) ?_
    refine lv_iload_n hx hb d_J_copyBytes_11 rfl (lv_at hl 3 rfl) ?_
    refine lv_iload hx hb d_J_copyBytes_12 (lv_at hl 4 rfl) ?_
    refine hj_calli (wc := [(a2, .inl (cA2, n2, .inl (hj_B d2)))]) (wr := [(a, .inl (cA, n, .inl (hj_B d)))]) [1] [0] hP hD hS hA rfl rfl rfl (by decide) (va_runS (As := [.ref a2, .int (nI t), .int (nI w)]) (rest := []) ⟨hx, hb, hml, hown, hts⟩ (c_J_hasBytes l dC dI a2 cA2 n2 d2 t w hn2 ht H.size) (cwS 3 hts (hj_gS m_117 m_118 m_1 m_119) rfl rfl rfl (by decide +kernel) ⟨Nat.le_of_ble_eq_true rfl, Nat.le_of_ble_eq_true rfl⟩) (hj_preS hj_EXok hE hP hD hK hS hA [1] rfl rfl [1] rfl) rfl rfl hl.1 rfl (lv_room (Nat.le_of_ble_eq_true rfl)) d_J_copyBytes_14 ⟨Nat.le_of_ble_eq_true rfl, Nat.le_of_ble_eq_true rfl⟩) (fun r_3 u_4 H locs hw hP hD hK1 hS => ?_)
    subst hw
    have hP : va_P (dC, dI) vwCl [(a, .inl (cA, n, .inl (hj_B d))), (a2, .inl (cA2, n2, .inl (hj_B d2)))] H := hP.sub [0, 1] rfl
    have hD : va_D A [(a, .inl (cA, n, .inl (hj_B d))), (a2, .inl (cA2, n2, .inl (hj_B d2)))] := hD.sub [0, 1] (by decide) rfl
    refine hj_if_eq (tgt := 29) hx hb (by omega) d_J_copyBytes_17 (by decide) (fun c_2 => ?_) (fun c_2 => ?_)
    · omega
    · refine lv_aload_n hx hb d_J_copyBytes_20 rfl (lv_at hl 0 rfl) ?_
      refine lv_iload_n hx hb d_J_copyBytes_21 rfl (lv_at hl 1 rfl) ?_
      refine lv_aload_n hx hb d_J_copyBytes_22 rfl (lv_at hl 2 rfl) ?_
      refine lv_iload_n hx hb d_J_copyBytes_23 rfl (lv_at hl 3 rfl) ?_
      refine lv_iload hx hb d_J_copyBytes_24 (lv_at hl 4 rfl) ?_
      refine va_copyi (ty := .byte) hx hb (hml.trans hl.1.symm) hown (hts _ m_607) (hts _ m_244) (hts _ m_243) (hts _ m_16) hK hP hD hS 0 1 0 1 rfl rfl rfl rfl rfl (nI_pos (by omega)) (nI_pos (by omega)) (nI_pos (by omega)) (by rw [nI_clamp (by omega), nI_clamp (by omega)]; omega) (by rw [nI_clamp (by omega), nI_clamp (by omega)]; omega) (fun i hi => hj_fitB _ _) (Nat.le_of_ble_eq_true rfl) (by decide) d_J_copyBytes_26 (fun H locs hP hD hS => ?_)
      rw [nI_clamp (show f < 2 ^ 31 by omega), nI_clamp (show t < 2 ^ 31 by omega), nI_clamp (show w < 2 ^ 31 by omega), hj_cpyB] at hP hD
      have hP : va_P (dC, dI) vwCl [(a, .inl (cA, n, .inl (hj_B d))), (a2, .inl (cA2, n2, .inl (hj_B (va_cpy d d2 f t w))))] H := hP
      have hD : va_D A [(a, .inl (cA, n, .inl (hj_B d))), (a2, .inl (cA2, n2, .inl (hj_B (va_cpy d d2 f t w))))] := hD
      exact hret () _ _ _ _ d_J_copyBytes_29 (trivial) hP hK hD hS
abbrev rm_J_checkOf : Room := { frames := 16, cells := 0, slots := 0, locals := 200 }
set_option maxHeartbeats 4000000 in
set_option maxRecDepth 100000 in
theorem c_J_checkOf (l : Launch) (dC : Nat → ClassId) (dI : Nat → Nat → Nat) (a : Nat) (cA : ClassId) (n : Nat) (d : Nat → Nat) (f w : Nat) (hn : n < 2 ^ 31) (hf : f + w ≤ n) (hd : hj_bs d) : hj_Mi l y_J_checkOf b_J_checkOf 5 .int rm_J_checkOf hj_EX (dC, dI) vwCl [(cA, .byte)] [(a, .inl (cA, n, .inl (hj_B d)))] [.ref a, .int (nI f), .int (nI w)] (fun r _ => r = nI (hj_chk d f w)) (fun _ : Unit => [(a, .inl (cA, n, .inl (hj_B d)))]) (fun _ => [(cA, .byte)]) 0 0 := by
  refine hj_bodyI (by decide +kernel) (Nat.le_of_ble_eq_true rfl) ?_
  intro p e s m args below meth c A Q ls hx hb hts hown hml hA hP hK hD hE hl hret
  have hS : va_S A s.heap s.heap [] := va_S.rf
  have hown : s.vm.findClass "HalfJournal" = some m.cls := hown
  have hl : lv_has ls 5 [(0, .ref a), (1, .int (nI f)), (2, .int (nI w))] := hl
  have hP : va_P (dC, dI) vwCl [(a, .inl (cA, n, .inl (hj_B d)))] s.heap := hP
  have hD : va_D A [(a, .inl (cA, n, .inl (hj_B d)))] := hD
  refine lv_aload_n hx hb d_J_checkOf_0 rfl (lv_at hl 0 rfl) ?_
  refine lv_iload_n hx hb d_J_checkOf_1 rfl (lv_at hl 1 rfl) ?_
  refine lv_iload_n hx hb d_J_checkOf_2 rfl (lv_at hl 2 rfl) ?_
  refine hj_calli (wc := [(a, .inl (cA, n, .inl (hj_B d)))]) (wr := []) [0] [] hP hD hS hA rfl rfl rfl (by decide) (va_runS (As := [.ref a, .int (nI f), .int (nI w)]) (rest := []) ⟨hx, hb, hml, hown, hts⟩ (c_J_hasBytes l dC dI a cA n d f w hn hf s.heap.size) (cwS 3 hts (hj_gS m_117 m_118 m_1 m_119) rfl rfl rfl (by decide +kernel) ⟨Nat.le_of_ble_eq_true rfl, Nat.le_of_ble_eq_true rfl⟩) (hj_preS hj_EXok hE hP hD hK hS hA [0] rfl rfl [0] rfl) rfl rfl hl.1 rfl (lv_room (Nat.le_of_ble_eq_true rfl)) d_J_checkOf_3 ⟨Nat.le_of_ble_eq_true rfl, Nat.le_of_ble_eq_true rfl⟩) (fun r_1 u_2 H locs hw hP hD hK1 hS => ?_)
  subst hw
  have hP : va_P (dC, dI) vwCl [(a, .inl (cA, n, .inl (hj_B d)))] H := hP.sub [0] rfl
  have hD : va_D A [(a, .inl (cA, n, .inl (hj_B d)))] := hD.sub [0] (by decide) rfl
  refine hj_if_ne (tgt := 11) hx hb (by omega) d_J_checkOf_6 (by decide) (fun c_1 => ?_) (fun c_1 => ?_)
  · obtain ⟨t9, hZ, hT⟩ := hE.2
    refine lv_iconst (v := (-1)) hx hb d_J_checkOf_11 (by decide) ?_
    refine hj_topv (y := nI 4294967295) (by decide) ?_
    refine lv_istore_n (lv' := [(3, .int (nI 4294967295)), (0, .ref a), (1, .int (nI f)), (2, .int (nI w))]) hx hb d_J_checkOf_12 rfl hl (by decide) rfl (fun ls hl => ?_)
    refine lv_iload_n hx hb d_J_checkOf_13 rfl (lv_at hl 2 rfl) ?_
    refine hj_topn (b := f + 0) (rfl) ?_
    refine lv_istore (lv' := [(4, .int (nI (f + 0))), (3, .int (nI 4294967295)), (0, .ref a), (1, .int (nI f)), (2, .int (nI w))]) hx hb d_J_checkOf_14 hl (by decide) rfl (fun ls hl => ?_)
    have lp : ∀ (n9 : Nat) (j : Nat), (j ≤ w) → (w - j) < n9 → ∀ (H : Heap) (locs : List Loc), va_P (dC, dI) vwCl [(a, .inl (cA, n, .inl (hj_B d)))] H → va_D A [(a, .inl (cA, n, .inl (hj_B d)))] → va_S A s.heap H locs → ∀ (ls : Array Slot), lv_has ls 5 [(0, .ref a), (1, .int (nI f)), (2, .int (nI w)), (3, .int (nI (hj_crc d f j))), (4, .int (nI (f + j)))] → W p l e rm_J_checkOf s m args below meth c H locs 0 0 Q (F0 m 16 ls []) := by
      intro n9
      induction n9 with
      | zero =>
        intro j hj hm
        exact absurd hm (Nat.not_lt_zero _)
      | succ n9 ih =>
        intro j hj hm H locs hP hD hS ls hl
        refine lv_iload hx hb d_J_checkOf_16 (lv_at hl 4 rfl) ?_
        refine lv_iload_n hx hb d_J_checkOf_18 rfl (lv_at hl 1 rfl) ?_
        refine lv_iload_n hx hb d_J_checkOf_19 rfl (lv_at hl 2 rfl) ?_
        refine hj_iadd hx hb d_J_checkOf_20 ?_
        refine hj_icmp_ge (tgt := 67) hx hb (by omega) (by omega) d_J_checkOf_21 (by decide) (fun c_2 => ?_) (fun c_2 => ?_)
        · obtain rfl : j = w := by omega
          refine lv_iload_n hx hb d_J_checkOf_67 rfl (lv_at hl 3 rfl) ?_
          refine lv_iconst (v := (-1)) hx hb d_J_checkOf_68 (by decide) ?_
          refine hj_topv (y := nI 4294967295) (by decide) ?_
          refine hj_ixor hx hb d_J_checkOf_69 ?_
          exact hret (nI ((hj_crc d f j) ^^^ 4294967295)) () _ _ _ _ d_J_checkOf_70 rfl (rfl) hP hK hD hS
        · have h32 := hj_crc_lt hd f j
          refine lv_iload_n hx hb d_J_checkOf_24 rfl (lv_at hl 3 rfl) ?_
          refine lv_aload_n hx hb d_J_checkOf_25 rfl (lv_at hl 0 rfl) ?_
          refine lv_iload hx hb d_J_checkOf_26 (lv_at hl 4 rfl) ?_
          refine hj_bald hx hb hK hP 0 0 rfl rfl (by omega) (by omega) d_J_checkOf_28 ?_
          refine lv_sipush (v := nI 255) hx hb d_J_checkOf_29 (by decide) ?_
          refine hj_band hx hb (by first | assumption | exact hd _ | omega) d_J_checkOf_32 ?_
          refine hj_ixor hx hb d_J_checkOf_33 ?_
          obtain ⟨x, hxx⟩ : ∃ x, x = hj_crc d f j ^^^ d (f + j) := ⟨_, rfl⟩
          have hx32 : x < 2 ^ 32 := by rw [hxx]; exact hj_xor_lt h32 (hd _)
          refine hj_topn (b := x) (hxx.symm) ?_
          refine lv_istore_n (lv' := [(3, .int (nI x)), (0, .ref a), (1, .int (nI f)), (2, .int (nI w)), (4, .int (nI (f + j)))]) hx hb d_J_checkOf_34 rfl hl (by decide) rfl (fun ls hl => ?_)
          refine lv_iload_n hx hb d_J_checkOf_35 rfl (lv_at hl 0 rfl) ?_
          refine lv_iconst (v := nI 4) hx hb d_J_checkOf_36 (by decide) ?_
          refine hj_iushr hx hb 4 (by decide) (by first | assumption | omega) d_J_checkOf_37 ?_
          refine va_gets hx hb hZ hS hown (hts _ m_444) (fun _ h9 => h9) d_J_checkOf_38 ?_
          refine lv_iload_n hx hb d_J_checkOf_41 rfl (lv_at hl 0 rfl) ?_
          refine lv_bipush (v := nI 15) hx hb d_J_checkOf_42 (by decide) ?_
          refine hj_iandM hx hb 4 (by first | assumption | omega) (by decide) d_J_checkOf_44 ?_
          refine va_ti (v := .int (nI (hj_tab (x % 2 ^ 4)))) hx hb hT hS (vp_in_nI (by omega) (by decide)) (by rw [nI_clamp (by omega)]) d_J_checkOf_45 ?_
          refine hj_ixor hx hb d_J_checkOf_46 ?_
          refine hj_topn (b := hj_sts 4 x) (by rw [show (2 : Nat) ^ 4 = 16 from rfl]; exact hj_nib x) ?_
          obtain ⟨y, hyy⟩ : ∃ y, y = hj_sts 4 x := ⟨_, rfl⟩
          have hy32 : y < 2 ^ 32 := by rw [hyy]; exact hj_sts_lt 4 hx32
          refine hj_topn (b := y) (hyy.symm) ?_
          refine lv_istore_n (lv' := [(3, .int (nI y)), (0, .ref a), (1, .int (nI f)), (2, .int (nI w)), (4, .int (nI (f + j)))]) hx hb d_J_checkOf_47 rfl hl (by decide) rfl (fun ls hl => ?_)
          refine lv_iload_n hx hb d_J_checkOf_48 rfl (lv_at hl 0 rfl) ?_
          refine lv_iconst (v := nI 4) hx hb d_J_checkOf_49 (by decide) ?_
          refine hj_iushr hx hb 4 (by decide) (by first | assumption | omega) d_J_checkOf_50 ?_
          refine va_gets hx hb hZ hS hown (hts _ m_444) (fun _ h9 => h9) d_J_checkOf_51 ?_
          refine lv_iload_n hx hb d_J_checkOf_54 rfl (lv_at hl 0 rfl) ?_
          refine lv_bipush (v := nI 15) hx hb d_J_checkOf_55 (by decide) ?_
          refine hj_iandM hx hb 4 (by first | assumption | omega) (by decide) d_J_checkOf_57 ?_
          refine va_ti (v := .int (nI (hj_tab (y % 2 ^ 4)))) hx hb hT hS (vp_in_nI (by omega) (by decide)) (by rw [nI_clamp (by omega)]) d_J_checkOf_58 ?_
          refine hj_ixor hx hb d_J_checkOf_59 ?_
          refine hj_topn (b := hj_sts 4 y) (by rw [show (2 : Nat) ^ 4 = 16 from rfl]; exact hj_nib y) ?_
          refine hj_topn (b := hj_crc d f (j + 1)) (by rw [hyy, hxx]; rfl) ?_
          refine lv_istore_n (lv' := [(3, .int (nI (hj_crc d f (j + 1)))), (0, .ref a), (1, .int (nI f)), (2, .int (nI w)), (4, .int (nI (f + j)))]) hx hb d_J_checkOf_60 rfl hl (by decide) rfl (fun ls hl => ?_)
          refine lv_iinc (v := nI ((f + j) + 1)) (lv' := [(4, .int (nI ((f + j) + 1))), (3, .int (nI (hj_crc d f (j + 1)))), (0, .ref a), (1, .int (nI f)), (2, .int (nI w))]) hx hb d_J_checkOf_61 hl (k := 4) rfl (nI_1 _) (by decide) rfl (fun ls hl => ?_)
          refine lv_goto (tgt := 16) hx hb d_J_checkOf_64 (by decide) ?_
          exact ih (j + 1) (by omega) (by omega) _ _ hP hD hS _ (lv_sub hl [2, 3, 4, 1, 0] rfl)
    exact lp _ 0 (Nat.zero_le _) (Nat.lt_succ_self _) _ _ hP hD hS _ (lv_sub hl [2, 3, 4, 1, 0] rfl)
  · omega
abbrev rm_J_number : Room := { frames := 16, cells := 0, slots := 0, locals := 200 }
set_option maxHeartbeats 4000000 in
set_option maxRecDepth 100000 in
theorem c_J_number (l : Launch) (dC : Nat → ClassId) (dI : Nat → Nat → Nat) (a : Nat) (cA : ClassId) (n : Nat) (d : Nat → Nat) (f w : Nat) (hn : n < 2 ^ 31) (hf : f + w ≤ n) (hw4 : w ≤ 4) (hd : hj_bs d) : hj_Mi l y_J_number b_J_number 5 .int rm_J_number hj_EX (dC, dI) vwCl [(cA, .byte)] [(a, .inl (cA, n, .inl (hj_B d)))] [.ref a, .int (nI f), .int (nI w)] (fun r _ => r = nI (hj_num d f w)) (fun _ : Unit => [(a, .inl (cA, n, .inl (hj_B d)))]) (fun _ => [(cA, .byte)]) 0 0 := by
  refine hj_bodyI (by decide +kernel) (Nat.le_of_ble_eq_true rfl) ?_
  intro p e s m args below meth c A Q ls hx hb hts hown hml hA hP hK hD hE hl hret
  have hS : va_S A s.heap s.heap [] := va_S.rf
  have hown : s.vm.findClass "HalfJournal" = some m.cls := hown
  have hl : lv_has ls 5 [(0, .ref a), (1, .int (nI f)), (2, .int (nI w))] := hl
  have hP : va_P (dC, dI) vwCl [(a, .inl (cA, n, .inl (hj_B d)))] s.heap := hP
  have hD : va_D A [(a, .inl (cA, n, .inl (hj_B d)))] := hD
  refine lv_aload_n hx hb d_J_number_0 rfl (lv_at hl 0 rfl) ?_
  refine lv_iload_n hx hb d_J_number_1 rfl (lv_at hl 1 rfl) ?_
  refine lv_iload_n hx hb d_J_number_2 rfl (lv_at hl 2 rfl) ?_
  refine hj_calli (wc := [(a, .inl (cA, n, .inl (hj_B d)))]) (wr := []) [0] [] hP hD hS hA rfl rfl rfl (by decide) (va_runS (As := [.ref a, .int (nI f), .int (nI w)]) (rest := []) ⟨hx, hb, hml, hown, hts⟩ (c_J_hasBytes l dC dI a cA n d f w hn hf s.heap.size) (cwS 3 hts (hj_gS m_117 m_118 m_1 m_119) rfl rfl rfl (by decide +kernel) ⟨Nat.le_of_ble_eq_true rfl, Nat.le_of_ble_eq_true rfl⟩) (hj_preS hj_EXok hE hP hD hK hS hA [0] rfl rfl [0] rfl) rfl rfl hl.1 rfl (lv_room (Nat.le_of_ble_eq_true rfl)) d_J_number_3 ⟨Nat.le_of_ble_eq_true rfl, Nat.le_of_ble_eq_true rfl⟩) (fun r_1 u_2 H locs hw hP hD hK1 hS => ?_)
  subst hw
  have hP : va_P (dC, dI) vwCl [(a, .inl (cA, n, .inl (hj_B d)))] H := hP.sub [0] rfl
  have hD : va_D A [(a, .inl (cA, n, .inl (hj_B d)))] := hD.sub [0] (by decide) rfl
  refine hj_if_ne (tgt := 11) hx hb (by omega) d_J_number_6 (by decide) (fun c_1 => ?_) (fun c_1 => ?_)
  · refine lv_iconst (v := nI 0) hx hb d_J_number_11 (by decide) ?_
    refine hj_topn (b := hj_num d (f + w) (w - w)) (by rw [Nat.sub_self]; rfl) ?_
    refine lv_istore_n (lv' := [(3, .int (nI (hj_num d (f + w) (w - w)))), (0, .ref a), (1, .int (nI f)), (2, .int (nI w))]) hx hb d_J_number_12 rfl hl (by decide) rfl (fun ls hl => ?_)
    refine lv_iload_n hx hb d_J_number_13 rfl (lv_at hl 3 rfl) ?_
    refine lv_iconst (v := nI 1) hx hb d_J_number_14 (by decide) ?_
    refine lv_isub hx hb d_J_number_15 ?_
    refine hj_topv (y := nI w - 1) (rfl) ?_
    refine lv_istore (lv' := [(4, .int (nI w - 1)), (3, .int (nI (hj_num d (f + w) (w - w)))), (0, .ref a), (1, .int (nI f)), (2, .int (nI w))]) hx hb d_J_number_16 hl (by decide) rfl (fun ls hl => ?_)
    have lp : ∀ (n9 : Nat) (j : Nat), (j ≤ w) → j < n9 → ∀ (H : Heap) (locs : List Loc), va_P (dC, dI) vwCl [(a, .inl (cA, n, .inl (hj_B d)))] H → va_D A [(a, .inl (cA, n, .inl (hj_B d)))] → va_S A s.heap H locs → ∀ (ls : Array Slot), lv_has ls 5 [(0, .ref a), (1, .int (nI f)), (2, .int (nI w)), (3, .int (nI (hj_num d (f + j) (w - j)))), (4, .int (nI j - 1))] → W p l e rm_J_number s m args below meth c H locs 0 0 Q (F0 m 18 ls []) := by
      intro n9
      induction n9 with
      | zero =>
        intro j hj hm
        exact absurd hm (Nat.not_lt_zero _)
      | succ n9 ih =>
        intro j hj hm H locs hP hD hS ls hl
        rcases j with _ | j
        · refine lv_iload hx hb d_J_number_18 (lv_at hl 4 rfl) ?_
          refine lv_if_lt (tgt := 45) hx hb d_J_number_20 (by decide) (fun c_2 => ?_) (fun c_2 => ?_)
          · refine lv_iload_n hx hb d_J_number_45 rfl (lv_at hl 3 rfl) ?_
            exact hret (nI (hj_num d (f + 0) (w - 0))) () _ _ _ _ d_J_number_46 rfl (rfl) hP hK hD hS
          · exact absurd hj_m1_neg c_2
        · rw [nI_pred] at hl
          have hl : lv_has ls 5 [(0, .ref a), (1, .int (nI f)), (2, .int (nI w)), (3, .int (nI (hj_num d (f + (j + 1)) (w - (j + 1))))), (4, .int (nI j))] := hl
          have hv := hj_num_lt24 hd (k := w - (j + 1)) (a := f + (j + 1)) (by omega)
          refine lv_iload hx hb d_J_number_18 (lv_at hl 4 rfl) ?_
          refine hj_if_lt (tgt := 45) hx hb (by omega) d_J_number_20 ?_ (by decide)
          refine lv_iload_n hx hb d_J_number_23 rfl (lv_at hl 3 rfl) ?_
          refine lv_bipush (v := nI 8) hx hb d_J_number_24 (by decide) ?_
          refine hj_ishl hx hb 8 (by decide) (by omega) d_J_number_26 ?_
          refine lv_aload_n hx hb d_J_number_27 rfl (lv_at hl 0 rfl) ?_
          refine lv_iload_n hx hb d_J_number_28 rfl (lv_at hl 1 rfl) ?_
          refine lv_iload hx hb d_J_number_29 (lv_at hl 4 rfl) ?_
          refine hj_iadd hx hb d_J_number_31 ?_
          refine hj_bald hx hb hK hP 0 0 rfl rfl (by omega) (by omega) d_J_number_32 ?_
          refine lv_sipush (v := nI 255) hx hb d_J_number_33 (by decide) ?_
          refine hj_band hx hb (by first | assumption | exact hd _ | omega) d_J_number_36 ?_
          refine hj_ior hx hb 8 (by omega) (hd _) d_J_number_37 ?_
          refine hj_topn (b := hj_num d (f + j) (w - j)) (by rw [show w - j = (w - (j + 1)) + 1 by omega]; show _ = d (f + j) + 256 * hj_num d (f + j + 1) (w - (j + 1)); rw [show f + (j + 1) = f + j + 1 from rfl]; omega) ?_
          refine lv_istore_n (lv' := [(3, .int (nI (hj_num d (f + j) (w - j)))), (0, .ref a), (1, .int (nI f)), (2, .int (nI w)), (4, .int (nI j))]) hx hb d_J_number_38 rfl hl (by decide) rfl (fun ls hl => ?_)
          refine lv_iinc (v := nI j - 1) (lv' := [(4, .int (nI j - 1)), (3, .int (nI (hj_num d (f + j) (w - j)))), (0, .ref a), (1, .int (nI f)), (2, .int (nI w))]) hx hb d_J_number_39 hl (k := 4) rfl (hj_addm1 _) (by decide) rfl (fun ls hl => ?_)
          refine lv_goto (tgt := 18) hx hb d_J_number_42 (by decide) ?_
          exact ih j (by omega) (by omega) _ _ hP hD hS _ (lv_sub hl [2, 3, 4, 1, 0] rfl)
    exact lp _ w (Nat.le_refl _) (Nat.lt_succ_self _) _ _ hP hD hS _ (lv_sub hl [2, 3, 4, 1, 0] rfl)
  · omega
abbrev rm_J_putNumber : Room := { frames := 16, cells := 0, slots := 0, locals := 200 }
set_option maxHeartbeats 4000000 in
set_option maxRecDepth 100000 in
theorem c_J_putNumber (l : Launch) (dC : Nat → ClassId) (dI : Nat → Nat → Nat) (a : Nat) (cA : ClassId) (n : Nat) (d : Nat → Nat) (f w v : Nat) (hn : n < 2 ^ 31) (hf : f + w ≤ n) (hw4 : w ≤ 4) (hv : v < 2 ^ 32) : hj_Mv l y_J_putNumber b_J_putNumber 5 rm_J_putNumber hj_EX (dC, dI) vwCl [(cA, .byte)] [(a, .inl (cA, n, .inl (hj_B d)))] [.ref a, .int (nI f), .int (nI w), .int (nI v)] (fun _ => True) (fun _ : Unit => [(a, .inl (cA, n, .inl (hj_B (hj_pn d f w v))))]) (fun _ => [(cA, .byte)]) 0 0 := by
  refine hj_bodyV (by decide +kernel) (Nat.le_of_ble_eq_true rfl) ?_
  intro p e s m args below meth c A Q ls hx hb hts hown hml hin hA hP hK hD hE hl hret
  have hS : va_S A s.heap s.heap [] := va_S.rf
  have hown : s.vm.findClass "HalfJournal" = some m.cls := hown
  have hl : lv_has ls 5 [(0, .ref a), (1, .int (nI f)), (2, .int (nI w)), (3, .int (nI v))] := hl
  have hP : va_P (dC, dI) vwCl [(a, .inl (cA, n, .inl (hj_B d)))] s.heap := hP
  have hD : va_D A [(a, .inl (cA, n, .inl (hj_B d)))] := hD
  refine lv_aload_n hx hb d_J_putNumber_0 rfl (lv_at hl 0 rfl) ?_
  refine lv_iload_n hx hb d_J_putNumber_1 rfl (lv_at hl 1 rfl) ?_
  refine lv_iload_n hx hb d_J_putNumber_2 rfl (lv_at hl 2 rfl) ?_
  refine hj_calli (wc := [(a, .inl (cA, n, .inl (hj_B d)))]) (wr := []) [0] [] hP hD hS hA rfl rfl rfl (by decide) (va_runS (As := [.ref a, .int (nI f), .int (nI w)]) (rest := []) ⟨hx, hb, hml, hown, hts⟩ (c_J_hasBytes l dC dI a cA n d f w hn hf s.heap.size) (cwS 3 hts (hj_gS m_117 m_118 m_1 m_119) rfl rfl rfl (by decide +kernel) ⟨Nat.le_of_ble_eq_true rfl, Nat.le_of_ble_eq_true rfl⟩) (hj_preS hj_EXok hE hP hD hK hS hA [0] rfl rfl [0] rfl) rfl rfl hl.1 rfl (lv_room (Nat.le_of_ble_eq_true rfl)) d_J_putNumber_3 ⟨Nat.le_of_ble_eq_true rfl, Nat.le_of_ble_eq_true rfl⟩) (fun r_1 u_2 H locs hw hP hD hK1 hS => ?_)
  subst hw
  have hP : va_P (dC, dI) vwCl [(a, .inl (cA, n, .inl (hj_B d)))] H := hP.sub [0] rfl
  have hD : va_D A [(a, .inl (cA, n, .inl (hj_B d)))] := hD.sub [0] (by decide) rfl
  refine hj_if_ne (tgt := 10) hx hb (by omega) d_J_putNumber_6 (by decide) (fun c_1 => ?_) (fun c_1 => ?_)
  · refine lv_iconst (v := nI 0) hx hb d_J_putNumber_10 (by decide) ?_
    refine lv_istore (lv' := [(4, .int (nI 0)), (0, .ref a), (1, .int (nI f)), (2, .int (nI w)), (3, .int (nI v))]) hx hb d_J_putNumber_11 hl (by decide) rfl (fun ls hl => ?_)
    have h9 : (d : Nat → Nat) = hj_pn d f 0 v := (hj_pn0 d f v).symm
    rw [h9] at hP hD
    have hP : va_P (dC, dI) vwCl [(a, .inl (cA, n, .inl (hj_B (hj_pn d f 0 v))))] H := hP
    have hD : va_D A [(a, .inl (cA, n, .inl (hj_B (hj_pn d f 0 v))))] := hD
    have lp : ∀ (n9 : Nat) (i : Nat), (i ≤ w) → (w - i) < n9 → ∀ (H : Heap) (locs : List Loc), va_P (dC, dI) vwCl [(a, .inl (cA, n, .inl (hj_B (hj_pn d f i v))))] H → va_D A [(a, .inl (cA, n, .inl (hj_B (hj_pn d f i v))))] → va_S A s.heap H locs → ∀ (ls : Array Slot), lv_has ls 5 [(0, .ref a), (1, .int (nI f)), (2, .int (nI w)), (3, .int (nI v)), (4, .int (nI i))] → W p l e rm_J_putNumber s m args below meth c H locs 0 0 Q (F0 m 13 ls []) := by
      intro n9
      induction n9 with
      | zero =>
        intro i hi hm
        exact absurd hm (Nat.not_lt_zero _)
      | succ n9 ih =>
        intro i hi hm H locs hP hD hS ls hl
        refine lv_iload hx hb d_J_putNumber_13 (lv_at hl 4 rfl) ?_
        refine lv_iload_n hx hb d_J_putNumber_15 rfl (lv_at hl 2 rfl) ?_
        refine hj_icmp_ge (tgt := 39) hx hb (by omega) (by omega) d_J_putNumber_16 (by decide) (fun c_2 => ?_) (fun c_2 => ?_)
        · obtain rfl : i = w := by omega
          exact hret () _ _ _ _ d_J_putNumber_39 (trivial) hP hK hD hS
        · refine lv_aload_n hx hb d_J_putNumber_19 rfl (lv_at hl 0 rfl) ?_
          refine lv_iload_n hx hb d_J_putNumber_20 rfl (lv_at hl 1 rfl) ?_
          refine lv_iload hx hb d_J_putNumber_21 (lv_at hl 4 rfl) ?_
          refine hj_iadd hx hb d_J_putNumber_23 ?_
          refine lv_iload_n hx hb d_J_putNumber_24 rfl (lv_at hl 3 rfl) ?_
          refine lv_bipush (v := nI 8) hx hb d_J_putNumber_25 (by decide) ?_
          refine lv_iload hx hb d_J_putNumber_27 (lv_at hl 4 rfl) ?_
          refine hj_imul hx hb d_J_putNumber_29 ?_
          refine hj_iushr hx hb (8 * i) (hj_sh8u i (by omega)) hv d_J_putNumber_30 ?_
          refine hj_i2b hx hb d_J_putNumber_31 ?_
          refine hj_topv (y := sb_b (hj_by v i)) (congrArg sb_b (hj_by_sh v i)) ?_
          refine hj_bast hx hb hK hP hD hS 0 0 rfl rfl (by omega) (by omega) d_J_putNumber_32 (fun H locs hP hD hS => ?_)
          have hP : va_P (dC, dI) vwCl [(a, .inl (cA, n, .inl (hj_B (va_up (hj_pn d f i v) (f + i) (hj_by v i)))))] H := hP
          have hD : va_D A [(a, .inl (cA, n, .inl (hj_B (va_up (hj_pn d f i v) (f + i) (hj_by v i)))))] := hD
          have h9 : (va_up (hj_pn d f i v) (f + i) (hj_by v i) : Nat → Nat) = hj_pn d f (i + 1) v := hj_pnS d f i v
          rw [h9] at hP hD
          have hP : va_P (dC, dI) vwCl [(a, .inl (cA, n, .inl (hj_B (hj_pn d f (i + 1) v))))] H := hP
          have hD : va_D A [(a, .inl (cA, n, .inl (hj_B (hj_pn d f (i + 1) v))))] := hD
          refine lv_iinc (v := nI (i + 1)) (lv' := [(4, .int (nI (i + 1))), (0, .ref a), (1, .int (nI f)), (2, .int (nI w)), (3, .int (nI v))]) hx hb d_J_putNumber_33 hl (k := 4) rfl (nI_1 _) (by decide) rfl (fun ls hl => ?_)
          refine lv_goto (tgt := 13) hx hb d_J_putNumber_36 (by decide) ?_
          exact ih (i + 1) (by omega) (by omega) _ _ hP hD hS _ (lv_sub hl [1, 2, 3, 4, 0] rfl)
    exact lp _ 0 (Nat.zero_le _) (Nat.lt_succ_self _) _ _ hP hD hS _ (lv_sub hl [1, 2, 3, 4, 0] rfl)
  · omega
abbrev rm_J_word : Room := { frames := 8, cells := 0, slots := 0, locals := 100 }
set_option maxHeartbeats 4000000 in
set_option maxRecDepth 100000 in
theorem c_J_word (l : Launch) (dC : Nat → ClassId) (dI : Nat → Nat → Nat) (a : Nat) (cA : ClassId) (n : Nat) (d : Nat → Nat) (f t : Nat) (hn : n < 2 ^ 30) (hf : f < 2 ^ 30) (ht : t ≤ n) (hd : hj_bs d) : hj_Ml l y_J_word b_J_word 7 rm_J_word hj_EX (dC, dI) vwCl [(cA, .byte)] [(a, .inl (cA, n, .inl (hj_B d)))] [.ref a, .int (nI f), .int (nI t)] (fun r _ => r = hj_w (fun j => if f + j < t then d (f + j) else 0) 8) (fun _ : Unit => [(a, .inl (cA, n, .inl (hj_B d)))]) (fun _ => [(cA, .byte)]) 0 0 := by
  refine hj_bodyL (by decide +kernel) (Nat.le_of_ble_eq_true rfl) ?_
  intro p e s m args below meth c A Q ls hx hb hts hown hml hA hP hK hD hE hl hret
  have hS : va_S A s.heap s.heap [] := va_S.rf
  have hown : s.vm.findClass "HalfJournal" = some m.cls := hown
  have hl : lv_has ls 7 [(0, .ref a), (1, .int (nI f)), (2, .int (nI t))] := hl
  have hP : va_P (dC, dI) vwCl [(a, .inl (cA, n, .inl (hj_B d)))] s.heap := hP
  have hD : va_D A [(a, .inl (cA, n, .inl (hj_B d)))] := hD
  obtain ⟨g, hg⟩ : ∃ g : Nat → Nat, g = (fun j => if f + j < t then d (f + j) else 0) := ⟨_, rfl⟩
  rw [← hg] at hret
  refine lv_lconst (v := lN 0) hx hb d_J_word_0 (by decide) ?_
  refine hj_topl (y := hj_w g 0) (rfl) ?_
  refine lv_lstore_n (lv' := [(3, .long (hj_w g 0)), (0, .ref a), (1, .int (nI f)), (2, .int (nI t))]) hx hb d_J_word_1 rfl hl (by decide) rfl (fun ls hl => ?_)
  refine lv_iload_n hx hb d_J_word_2 rfl (lv_at hl 2 rfl) ?_
  refine hj_topn (b := f + 0) (rfl) ?_
  refine lv_istore (lv' := [(5, .int (nI (f + 0))), (3, .long (hj_w g 0)), (0, .ref a), (1, .int (nI f)), (2, .int (nI t))]) hx hb d_J_word_3 hl (by decide) rfl (fun ls hl => ?_)
  have lp : ∀ (n9 : Nat) (j : Nat), (j ≤ 8) → (8 - j) < n9 → ∀ (H : Heap) (locs : List Loc), va_P (dC, dI) vwCl [(a, .inl (cA, n, .inl (hj_B d)))] H → va_D A [(a, .inl (cA, n, .inl (hj_B d)))] → va_S A s.heap H locs → ∀ (ls : Array Slot), lv_has ls 7 [(0, .ref a), (1, .int (nI f)), (2, .int (nI t)), (3, .long (hj_w g j)), (5, .int (nI (f + j)))] → W p l e rm_J_word s m args below meth c H locs 0 0 Q (F0 m 5 ls []) := by
    intro n9
    induction n9 with
    | zero =>
      intro j hj hm
      exact absurd hm (Nat.not_lt_zero _)
    | succ n9 ih =>
      intro j hj hm H locs hP hD hS ls hl
      refine lv_iload hx hb d_J_word_5 (lv_at hl 4 rfl) ?_
      refine lv_iload_n hx hb d_J_word_7 rfl (lv_at hl 1 rfl) ?_
      refine lv_bipush (v := nI 8) hx hb d_J_word_8 (by decide) ?_
      refine hj_iadd hx hb d_J_word_10 ?_
      refine hj_icmp_ge (tgt := 69) hx hb (by omega) (by omega) d_J_word_11 (by decide) (fun c_1 => ?_) (fun c_1 => ?_)
      · obtain rfl : j = 8 := by omega
        refine lv_lload_n hx hb d_J_word_69 rfl (lv_at hl 3 rfl) ?_
        exact hret (hj_w g 8) () _ _ _ _ d_J_word_70 (rfl) hP hK hD hS
      · refine lv_iload hx hb d_J_word_14 (lv_at hl 4 rfl) ?_
        refine hj_if_lt (tgt := 36) hx hb (by omega) d_J_word_16 ?_ (by decide)
        refine lv_iload hx hb d_J_word_19 (lv_at hl 4 rfl) ?_
        refine lv_iload_n hx hb d_J_word_21 rfl (lv_at hl 2 rfl) ?_
        refine hj_icmp_ge (tgt := 36) hx hb (by omega) (by omega) d_J_word_22 (by decide) (fun c_2 => ?_) (fun c_2 => ?_)
        · refine lv_iconst (v := nI 0) hx hb d_J_word_36 (by decide) ?_
          refine lv_istore (lv' := [(6, .int (nI 0)), (0, .ref a), (1, .int (nI f)), (2, .int (nI t)), (3, .long (hj_w g j)), (5, .int (nI (f + j)))]) hx hb d_J_word_37 hl (by decide) rfl (fun ls hl => ?_)
          refine lv_lload_n hx hb d_J_word_39 rfl (lv_at hl 4 rfl) ?_
          refine lv_bipush (v := nI 8) hx hb d_J_word_40 (by decide) ?_
          refine lv_lshl hx hb d_J_word_42 rfl ?_
          refine lv_iload hx hb d_J_word_43 (lv_at hl 0 rfl) ?_
          refine hj_if_eq (tgt := 59) hx hb (by omega) d_J_word_45 (by decide) (fun c_3 => ?_) (fun c_3 => ?_)
          · refine lv_iconst (v := nI 0) hx hb d_J_word_59 (by decide) ?_
            refine hj_i2l hx hb (by omega) d_J_word_60 ?_
            refine lv_lor hx hb d_J_word_61 ?_
            refine hj_topl (y := hj_w g (j + 1)) (by show _ = (hj_w g j <<< ((nI 8).toInt64 &&& 63)) ||| lN (g j); rw [show g j = 0 by rw [hg]; exact if_neg (by omega)]) ?_
            refine lv_lstore_n (lv' := [(3, .long (hj_w g (j + 1))), (6, .int (nI 0)), (0, .ref a), (1, .int (nI f)), (2, .int (nI t)), (5, .int (nI (f + j)))]) hx hb d_J_word_62 rfl hl (by decide) rfl (fun ls hl => ?_)
            refine lv_iinc (v := nI ((f + j) + 1)) (lv' := [(5, .int (nI ((f + j) + 1))), (3, .long (hj_w g (j + 1))), (6, .int (nI 0)), (0, .ref a), (1, .int (nI f)), (2, .int (nI t))]) hx hb d_J_word_63 hl (k := 5) rfl (nI_1 _) (by decide) rfl (fun ls hl => ?_)
            refine lv_goto (tgt := 5) hx hb d_J_word_66 (by decide) ?_
            exact ih (j + 1) (by omega) (by omega) _ _ hP hD hS _ (lv_sub hl [3, 4, 5, 1, 0] rfl)
          · omega
        · refine lv_iload hx hb d_J_word_25 (lv_at hl 4 rfl) ?_
          refine lv_aload_n hx hb d_J_word_27 rfl (lv_at hl 0 rfl) ?_
          refine va_alen (v := nI n) hx hb hK hP 0 0 rfl rfl rfl d_J_word_28 ?_
          refine hj_icmp_ge (tgt := 36) hx hb (by omega) (by omega) d_J_word_29 (by decide) (fun c_5 => ?_) (fun c_5 => ?_)
          · omega
          · refine lv_iconst (v := nI 1) hx hb d_J_word_32 (by decide) ?_
            refine lv_goto (tgt := 37) hx hb d_J_word_33 (by decide) ?_
            refine lv_istore (lv' := [(6, .int (nI 1)), (0, .ref a), (1, .int (nI f)), (2, .int (nI t)), (3, .long (hj_w g j)), (5, .int (nI (f + j)))]) hx hb d_J_word_37 hl (by decide) rfl (fun ls hl => ?_)
            refine lv_lload_n hx hb d_J_word_39 rfl (lv_at hl 4 rfl) ?_
            refine lv_bipush (v := nI 8) hx hb d_J_word_40 (by decide) ?_
            refine lv_lshl hx hb d_J_word_42 rfl ?_
            refine lv_iload hx hb d_J_word_43 (lv_at hl 0 rfl) ?_
            refine hj_if_eq (tgt := 59) hx hb (by omega) d_J_word_45 (by decide) (fun c_4 => ?_) (fun c_4 => ?_)
            · omega
            · have hdb := hd (f + j)
              refine lv_aload_n hx hb d_J_word_48 rfl (lv_at hl 1 rfl) ?_
              refine lv_iload hx hb d_J_word_49 (lv_at hl 5 rfl) ?_
              refine hj_bald hx hb hK hP 0 0 rfl rfl (by omega) (by omega) d_J_word_51 ?_
              refine lv_sipush (v := nI 255) hx hb d_J_word_52 (by decide) ?_
              refine hj_band hx hb (by first | assumption | exact hd _ | omega) d_J_word_55 ?_
              refine lv_goto (tgt := 60) hx hb d_J_word_56 (by decide) ?_
              refine hj_i2l hx hb (by omega) d_J_word_60 ?_
              refine lv_lor hx hb d_J_word_61 ?_
              refine hj_topl (y := hj_w g (j + 1)) (by show _ = (hj_w g j <<< ((nI 8).toInt64 &&& 63)) ||| lN (g j); rw [show g j = d (f + j) by rw [hg]; exact if_pos (by omega)]) ?_
              refine lv_lstore_n (lv' := [(3, .long (hj_w g (j + 1))), (6, .int (nI 1)), (0, .ref a), (1, .int (nI f)), (2, .int (nI t)), (5, .int (nI (f + j)))]) hx hb d_J_word_62 rfl hl (by decide) rfl (fun ls hl => ?_)
              refine lv_iinc (v := nI ((f + j) + 1)) (lv' := [(5, .int (nI ((f + j) + 1))), (3, .long (hj_w g (j + 1))), (6, .int (nI 1)), (0, .ref a), (1, .int (nI f)), (2, .int (nI t))]) hx hb d_J_word_63 hl (k := 5) rfl (nI_1 _) (by decide) rfl (fun ls hl => ?_)
              refine lv_goto (tgt := 5) hx hb d_J_word_66 (by decide) ?_
              exact ih (j + 1) (by omega) (by omega) _ _ hP hD hS _ (lv_sub hl [3, 4, 5, 1, 0] rfl)
  exact lp _ 0 (by omega) (Nat.lt_succ_self _) _ _ hP hD hS _ (lv_sub hl [2, 3, 4, 1, 0] rfl)
abbrev rm_J_putHead : Room := { frames := 24, cells := 0, slots := 0, locals := 300 }
set_option maxHeartbeats 4000000 in
set_option maxRecDepth 100000 in
theorem c_J_putHead (l : Launch) (dC : Nat → ClassId) (dI : Nat → Nat → Nat) (a : Nat) (cA : ClassId) (n : Nat) (d : Nat → Nat) (f g h : Nat) (hn : n < 2 ^ 31) (hf : f + 12 ≤ n) (hd : hj_bs d) (hg : g < 2 ^ 32) (hh : h < 2) : hj_Mv l y_J_putHead b_J_putHead 4 rm_J_putHead hj_EX (dC, dI) vwCl [(cA, .byte)] [(a, .inl (cA, n, .inl (hj_B d)))] [.ref a, .int (nI f), .int (nI g), .int (nI h)] (fun _ => True) (fun _ : Unit => [(a, .inl (cA, n, .inl (hj_B (hj_ph d f h g))))]) (fun _ => [(cA, .byte)]) 0 0 := by
  refine hj_bodyV (by decide +kernel) (Nat.le_of_ble_eq_true rfl) ?_
  intro p e s m args below meth c A Q ls hx hb hts hown hml hin hA hP hK hD hE hl hret
  have hS : va_S A s.heap s.heap [] := va_S.rf
  have hown : s.vm.findClass "HalfJournal" = some m.cls := hown
  have hl : lv_has ls 4 [(0, .ref a), (1, .int (nI f)), (2, .int (nI g)), (3, .int (nI h))] := hl
  have hP : va_P (dC, dI) vwCl [(a, .inl (cA, n, .inl (hj_B d)))] s.heap := hP
  have hD : va_D A [(a, .inl (cA, n, .inl (hj_B d)))] := hD
  refine lv_aload_n hx hb d_J_putHead_0 rfl (lv_at hl 0 rfl) ?_
  refine lv_iload_n hx hb d_J_putHead_1 rfl (lv_at hl 1 rfl) ?_
  refine lv_iconst (v := nI 4) hx hb d_J_putHead_2 (by decide) ?_
  refine lv_iload_n hx hb d_J_putHead_3 rfl (lv_at hl 3 rfl) ?_
  refine hj_calli (wc := []) (wr := [(a, .inl (cA, n, .inl (hj_B d)))]) [] [0] hP hD hS hA rfl rfl rfl (by decide) (va_runS (As := [.int (nI h)]) (rest := [.int (nI 4), .int (nI f), .ref a]) ⟨hx, hb, hml, hown, hts⟩ (c_J_headBegin l dC dI h hh s.heap.size) (cwS 1 hts (hj_gS m_435 m_436 m_1 m_437) rfl rfl rfl (by decide +kernel) ⟨Nat.le_of_ble_eq_true rfl, Nat.le_of_ble_eq_true rfl⟩) (hj_preS hj_EXok hE hP hD hK hS hA [] rfl rfl [] rfl) rfl rfl hl.1 rfl (lv_room (Nat.le_of_ble_eq_true rfl)) d_J_putHead_4 ⟨Nat.le_of_ble_eq_true rfl, Nat.le_of_ble_eq_true rfl⟩) (fun r_1 u_2 H locs hw hP hD hK1 hS => ?_)
  subst hw
  have hP : va_P (dC, dI) vwCl [(a, .inl (cA, n, .inl (hj_B d)))] H := hP.sub [0] rfl
  have hD : va_D A [(a, .inl (cA, n, .inl (hj_B d)))] := hD.sub [0] (by decide) rfl
  refine hj_callv (wc := [(a, .inl (cA, n, .inl (hj_B d)))]) (wr := []) [0] [] hP hD hS hA rfl rfl rfl (by decide) (va_runS (As := [.ref a, .int (nI f), .int (nI 4), .int (nI (12618 + 65536 * h))]) (rest := []) ⟨hx, hb, hml, hown, hts⟩ (c_J_putNumber l dC dI a cA n d f 4 (12618 + 65536 * h) hn (by omega) (by omega) (by omega) H.size) (cwS 4 hts (hj_gS m_438 m_439 m_1 m_440) rfl rfl rfl (by decide +kernel) ⟨Nat.le_of_ble_eq_true rfl, Nat.le_of_ble_eq_true rfl⟩) (hj_preS hj_EXok hE hP hD hK hS hA [0] rfl rfl [0] rfl) rfl rfl hl.1 rfl (lv_room (Nat.le_of_ble_eq_true rfl)) d_J_putHead_7 ⟨Nat.le_of_ble_eq_true rfl, Nat.le_of_ble_eq_true rfl⟩) (fun u_4 H locs hw hP hD hK1 hS => ?_)
  have hP : va_P (dC, dI) vwCl [(a, .inl (cA, n, .inl (hj_B (hj_pn d f 4 (12618 + 65536 * h)))))] H := hP.sub [0] rfl
  have hD : va_D A [(a, .inl (cA, n, .inl (hj_B (hj_pn d f 4 (12618 + 65536 * h)))))] := hD.sub [0] (by decide) rfl
  refine lv_aload_n hx hb d_J_putHead_10 rfl (lv_at hl 0 rfl) ?_
  refine lv_iload_n hx hb d_J_putHead_11 rfl (lv_at hl 1 rfl) ?_
  refine lv_iconst (v := nI 4) hx hb d_J_putHead_12 (by decide) ?_
  refine hj_iadd hx hb d_J_putHead_13 ?_
  refine lv_iconst (v := nI 4) hx hb d_J_putHead_14 (by decide) ?_
  refine lv_iload_n hx hb d_J_putHead_15 rfl (lv_at hl 2 rfl) ?_
  refine hj_callv (wc := [(a, .inl (cA, n, .inl (hj_B (hj_pn d f 4 (12618 + 65536 * h)))))]) (wr := []) [0] [] hP hD hS hA rfl rfl rfl (by decide) (va_runS (As := [.ref a, .int (nI (f + 4)), .int (nI 4), .int (nI g)]) (rest := []) ⟨hx, hb, hml, hown, hts⟩ (c_J_putNumber l dC dI a cA n (hj_pn d f 4 (12618 + 65536 * h)) (f + 4) 4 g hn (by omega) (by omega) hg H.size) (cwS 4 hts (hj_gS m_438 m_439 m_1 m_440) rfl rfl rfl (by decide +kernel) ⟨Nat.le_of_ble_eq_true rfl, Nat.le_of_ble_eq_true rfl⟩) (hj_preS hj_EXok hE hP hD hK hS hA [0] rfl rfl [0] rfl) rfl rfl hl.1 rfl (lv_room (Nat.le_of_ble_eq_true rfl)) d_J_putHead_16 ⟨Nat.le_of_ble_eq_true rfl, Nat.le_of_ble_eq_true rfl⟩) (fun u_6 H locs hw hP hD hK1 hS => ?_)
  have hP : va_P (dC, dI) vwCl [(a, .inl (cA, n, .inl (hj_B (hj_pn (hj_pn d f 4 (12618 + 65536 * h)) (f + 4) 4 g))))] H := hP.sub [0] rfl
  have hD : va_D A [(a, .inl (cA, n, .inl (hj_B (hj_pn (hj_pn d f 4 (12618 + 65536 * h)) (f + 4) 4 g))))] := hD.sub [0] (by decide) rfl
  have hd2 : hj_bs (hj_pn (hj_pn d f 4 (12618 + 65536 * h)) (f + 4) 4 g) := hj_pn_bs (hj_pn_bs hd)
  refine lv_aload_n hx hb d_J_putHead_19 rfl (lv_at hl 0 rfl) ?_
  refine lv_iload_n hx hb d_J_putHead_20 rfl (lv_at hl 1 rfl) ?_
  refine lv_bipush (v := nI 8) hx hb d_J_putHead_21 (by decide) ?_
  refine hj_iadd hx hb d_J_putHead_23 ?_
  refine lv_iconst (v := nI 4) hx hb d_J_putHead_24 (by decide) ?_
  refine lv_aload_n hx hb d_J_putHead_25 rfl (lv_at hl 0 rfl) ?_
  refine lv_iload_n hx hb d_J_putHead_26 rfl (lv_at hl 1 rfl) ?_
  refine lv_bipush (v := nI 8) hx hb d_J_putHead_27 (by decide) ?_
  refine hj_calli (wc := [(a, .inl (cA, n, .inl (hj_B (hj_pn (hj_pn d f 4 (12618 + 65536 * h)) (f + 4) 4 g))))]) (wr := []) [0] [] hP hD hS hA rfl rfl rfl (by decide) (va_runS (As := [.ref a, .int (nI f), .int (nI 8)]) (rest := [.int (nI 4), .int (nI (f + 8)), .ref a]) ⟨hx, hb, hml, hown, hts⟩ (c_J_checkOf l dC dI a cA n (hj_pn (hj_pn d f 4 (12618 + 65536 * h)) (f + 4) 4 g) f 8 hn (by omega) hd2 H.size) (cwS 3 hts (hj_gS m_441 m_442 m_1 m_443) rfl rfl rfl (by decide +kernel) ⟨Nat.le_of_ble_eq_true rfl, Nat.le_of_ble_eq_true rfl⟩) (hj_preS hj_EXok hE hP hD hK hS hA [0] rfl rfl [0] rfl) rfl rfl hl.1 rfl (lv_room (Nat.le_of_ble_eq_true rfl)) d_J_putHead_29 ⟨Nat.le_of_ble_eq_true rfl, Nat.le_of_ble_eq_true rfl⟩) (fun r_7 u_8 H locs hw hP hD hK1 hS => ?_)
  subst hw
  have hP : va_P (dC, dI) vwCl [(a, .inl (cA, n, .inl (hj_B (hj_pn (hj_pn d f 4 (12618 + 65536 * h)) (f + 4) 4 g))))] H := hP.sub [0] rfl
  have hD : va_D A [(a, .inl (cA, n, .inl (hj_B (hj_pn (hj_pn d f 4 (12618 + 65536 * h)) (f + 4) 4 g))))] := hD.sub [0] (by decide) rfl
  refine hj_callv (wc := [(a, .inl (cA, n, .inl (hj_B (hj_pn (hj_pn d f 4 (12618 + 65536 * h)) (f + 4) 4 g))))]) (wr := []) [0] [] hP hD hS hA rfl rfl rfl (by decide) (va_runS (As := [.ref a, .int (nI (f + 8)), .int (nI 4), .int (nI (hj_chk (hj_pn (hj_pn d f 4 (12618 + 65536 * h)) (f + 4) 4 g) f 8))]) (rest := []) ⟨hx, hb, hml, hown, hts⟩ (c_J_putNumber l dC dI a cA n (hj_pn (hj_pn d f 4 (12618 + 65536 * h)) (f + 4) 4 g) (f + 8) 4 (hj_chk (hj_pn (hj_pn d f 4 (12618 + 65536 * h)) (f + 4) 4 g) f 8) hn (by omega) (by omega) (hj_chk_lt hd2 _ _) H.size) (cwS 4 hts (hj_gS m_438 m_439 m_1 m_440) rfl rfl rfl (by decide +kernel) ⟨Nat.le_of_ble_eq_true rfl, Nat.le_of_ble_eq_true rfl⟩) (hj_preS hj_EXok hE hP hD hK hS hA [0] rfl rfl [0] rfl) rfl rfl hl.1 rfl (lv_room (Nat.le_of_ble_eq_true rfl)) d_J_putHead_32 ⟨Nat.le_of_ble_eq_true rfl, Nat.le_of_ble_eq_true rfl⟩) (fun u_10 H locs hw hP hD hK1 hS => ?_)
  have hP : va_P (dC, dI) vwCl [(a, .inl (cA, n, .inl (hj_B (hj_pn (hj_pn (hj_pn d f 4 (12618 + 65536 * h)) (f + 4) 4 g) (f + 8) 4 (hj_chk (hj_pn (hj_pn d f 4 (12618 + 65536 * h)) (f + 4) 4 g) f 8)))))] H := hP.sub [0] rfl
  have hD : va_D A [(a, .inl (cA, n, .inl (hj_B (hj_pn (hj_pn (hj_pn d f 4 (12618 + 65536 * h)) (f + 4) 4 g) (f + 8) 4 (hj_chk (hj_pn (hj_pn d f 4 (12618 + 65536 * h)) (f + 4) 4 g) f 8)))))] := hD.sub [0] (by decide) rfl
  have h9 : (hj_pn (hj_pn (hj_pn d f 4 (12618 + 65536 * h)) (f + 4) 4 g) (f + 8) 4 (hj_chk (hj_pn (hj_pn d f 4 (12618 + 65536 * h)) (f + 4) 4 g) f 8) : Nat → Nat) = hj_ph d f h g := hj_ph_of d f g hh
  rw [h9] at hP hD
  have hP : va_P (dC, dI) vwCl [(a, .inl (cA, n, .inl (hj_B (hj_ph d f h g))))] H := hP
  have hD : va_D A [(a, .inl (cA, n, .inl (hj_B (hj_ph d f h g))))] := hD
  exact hret () _ _ _ _ d_J_putHead_35 (trivial) hP hK hD hS
end
section
theorem hj_new_b (N : Nat) : ∀ cA : ClassId, vp_cell cA (N, .inl (hj_B (fun _ => 0))) = arrV cA N (fun _ => defaultValue .byte) := by
  intro cA
  rw [vp_cell_i]
  have h : sb_b 0 = 0 := by decide
  show arrV cA N (fun _ => .int (sb_b 0)) = _
  rw [h]
  rfl
theorem hj_dec_le {du : Int32} (h : du ≤ 0) : hj_dec du = du := if_neg (fun q => Int32.lt_irrefl (Int32.lt_of_lt_of_le q h))
theorem hj_dec_gt {du : Int32} (h : ¬ du ≤ 0) : hj_dec du = du - 1 := if_pos (Int32.not_le.mp h)
theorem hj_up_same {f : Nat → Int32} {i : Nat} {x : Int32} (h : f i = x) : f = va_up f i x := by
  funext q
  unfold va_up
  by_cases z : q = i
  · rw [if_pos z, z, h]
  · rw [if_neg z]
abbrev rm_D_init : Room := { frames := 8, cells := 1, slots := 32768, locals := 100 }
set_option maxHeartbeats 4000000 in
set_option maxRecDepth 100000 in
theorem c_D_init (l : Launch) (dC : Nat → ClassId) (dI : Nat → Nat → Nat) (h0 : Nat) : hj_Mv l y_D_init b_D_init 1 rm_D_init hj_EX (dC, dI) vwCl [] [(h0, .inr (0, [.null, .int 0, .int 0]))] [.ref h0] (fun _ => True) (fun u : Nat × ClassId => [(h0, .inr (0, [.ref u.1, .int (-1), .int (nI 0)])), (u.1, .inl (u.2, 32768, .inl (hj_B (fun _ => 0))))]) (fun u => [(u.2, .byte)]) 1 32768 := by
  refine hj_bodyV (by decide +kernel) (Nat.le_of_ble_eq_true rfl) ?_
  intro p e s m args below meth c A Q ls hx hb hts hown hml hin hA hP hK hD hE hl hret
  have hS : va_S A s.heap s.heap [] := va_S.rf
  have hown : s.vm.findClass "HalfJournal$Disk" = some m.cls := hown
  have hl : lv_has ls 1 [(0, .ref h0)] := hl
  have hP : va_P (dC, dI) vwCl [(h0, .inr (0, [.null, .int 0, .int 0]))] s.heap := hP
  have hD : va_D A [(h0, .inr (0, [.null, .int 0, .int 0]))] := hD
  refine lv_aload_n hx hb d_D_init_0 rfl (lv_at hl 0 rfl) ?_
  refine W.objInit hx hb hown (hts _ m_35) (hts _ m_28) (hts _ m_29) rfl (by rw [hml]; exact hl.1) rfl d_D_init_1 (Nat.le_of_ble_eq_true rfl) (Nat.le_of_ble_eq_true rfl) ?_
  refine W.eq (g2 := F0 m 4 ls []) rfl ?_
  refine lv_aload_n hx hb d_D_init_4 rfl (lv_at hl 0 rfl) ?_
  refine lv_ldc (own := "HalfJournal$Disk") (v := (32768)) hx hb hown (hts _ m_36) d_D_init_5 ?_
  refine hj_topv (y := nI 32768) (by decide +kernel) ?_
  refine va_newa (a0 := (32768, .inl (hj_B (fun _ => 0)))) (N' := 32768) (atype := .byte) (ty := .byte) hx hb (hts _ m_50) rfl hK hP hD hS hA (hj_new_b _) (nI_pos (by decide)) (nI_clamp (by decide)) (by decide) (Nat.le_of_ble_eq_true rfl) (Nat.le_of_ble_eq_true rfl) d_D_init_7 (fun q cA H hK hP hD hS => ?_)
  have hP : va_P (dC, dI) vwCl [(h0, .inr (0, [.null, .int 0, .int 0])), (q, .inl (cA, 32768, .inl (hj_B (fun _ => 0))))] H := hP
  have hD : va_D A [(h0, .inr (0, [.null, .int 0, .int 0])), (q, .inl (cA, 32768, .inl (hj_B (fun _ => 0))))] := hD
  have hK : va_K (dC, dI) vwCl [(cA, .byte)] s := hK
  refine va_putF (D := (dC, dI)) (ci := 0) (v := .ref q) (ty := (.array .byte)) (C := "HalfJournal$Disk") (T := F_D) (N := 3) hx hb hts i_D t_D t_D_ok n_D hown hK hP hD hS 0 rfl rfl 0 (by decide) (hts _ m_37) (fun _ h9 => h9) rfl hin rfl (by decide +kernel) rfl rfl (Nat.le_of_ble_eq_true rfl) d_D_init_9 (fun H locs hP hD hS => ?_)
  have hP : va_P (dC, dI) vwCl [(h0, .inr (0, [.ref q, .int 0, .int 0])), (q, .inl (cA, 32768, .inl (hj_B (fun _ => 0))))] H := hP
  have hD : va_D A [(h0, .inr (0, [.ref q, .int 0, .int 0])), (q, .inl (cA, 32768, .inl (hj_B (fun _ => 0))))] := hD
  refine lv_aload_n hx hb d_D_init_12 rfl (lv_at hl 0 rfl) ?_
  refine lv_iconst (v := (-1)) hx hb d_D_init_13 (by decide) ?_
  refine va_put (D := (dC, dI)) (ci := 0) (v := .int (-1)) (ty := (.int)) (C := "HalfJournal$Disk") (T := F_D) (N := 3) hx hb hts i_D t_D t_D_ok n_D hown hK hP hD hS 0 rfl rfl 1 (by decide) (hts _ m_39) (fun _ h9 => h9) rfl (by decide +kernel) rfl rfl (Nat.le_of_ble_eq_true rfl) d_D_init_14 (fun H locs hP hD hS => ?_)
  have hP : va_P (dC, dI) vwCl [(h0, .inr (0, [.ref q, .int (-1), .int 0])), (q, .inl (cA, 32768, .inl (hj_B (fun _ => 0))))] H := hP
  have hD : va_D A [(h0, .inr (0, [.ref q, .int (-1), .int 0])), (q, .inl (cA, 32768, .inl (hj_B (fun _ => 0))))] := hD
  refine lv_aload_n hx hb d_D_init_17 rfl (lv_at hl 0 rfl) ?_
  refine lv_iconst (v := nI 0) hx hb d_D_init_18 (by decide) ?_
  refine va_put (D := (dC, dI)) (ci := 0) (v := .int (nI 0)) (ty := (.int)) (C := "HalfJournal$Disk") (T := F_D) (N := 3) hx hb hts i_D t_D t_D_ok n_D hown hK hP hD hS 0 rfl rfl 2 (by decide) (hts _ m_41) (fun _ h9 => h9) rfl (by decide +kernel) rfl rfl (Nat.le_of_ble_eq_true rfl) d_D_init_19 (fun H locs hP hD hS => ?_)
  have hP : va_P (dC, dI) vwCl [(h0, .inr (0, [.ref q, .int (-1), .int (nI 0)])), (q, .inl (cA, 32768, .inl (hj_B (fun _ => 0))))] H := hP
  have hD : va_D A [(h0, .inr (0, [.ref q, .int (-1), .int (nI 0)])), (q, .inl (cA, 32768, .inl (hj_B (fun _ => 0))))] := hD
  exact hret (q, cA) _ _ _ _ d_D_init_22 (trivial) hP hK hD hS
abbrev rm_D_write : Room := { frames := 24, cells := 0, slots := 0, locals := 300 }
set_option maxHeartbeats 4000000 in
set_option maxRecDepth 100000 in
theorem c_D_write (l : Launch) (dC : Nat → ClassId) (dI : Nat → Nat → Nat) (h0 a : Nat) (cA : ClassId) (d : Nat → Nat) (du wr : Int32) (a2 : Nat) (cA2 : ClassId) (n2 : Nat) (r9 : Nat → Nat) (b f : Nat) (hn2 : n2 < 2 ^ 31) (hb9 : b < 64) (hf : f + 512 ≤ n2) : hj_Mi l y_D_write b_D_write 4 .boolean rm_D_write hj_EX (dC, dI) vwCl [(cA, .byte), (cA2, .byte)] [(h0, .inr (0, [.ref a, .int du, .int wr])), (a, .inl (cA, 32768, .inl (hj_B d))), (a2, .inl (cA2, n2, .inl (hj_B r9)))] [.ref h0, .int (nI b), .ref a2, .int (nI f)] (fun r u => (du = 0 ∧ r = nI 0 ∧ u.1 = d ∧ u.2.1 = -1 ∧ u.2.2 = wr) ∨ (¬ du = 0 ∧ r = nI 1 ∧ u.1 = hj_blk d b r9 f ∧ u.2.1 = hj_dec du ∧ u.2.2 = wr + 1)) (fun u : (Nat → Nat) × Int32 × Int32 => [(h0, .inr (0, [.ref a, .int u.2.1, .int u.2.2])), (a, .inl (cA, 32768, .inl (hj_B u.1))), (a2, .inl (cA2, n2, .inl (hj_B r9)))]) (fun _ => [(cA, .byte), (cA2, .byte)]) 0 0 := by
  refine hj_bodyI (by decide +kernel) (Nat.le_of_ble_eq_true rfl) ?_
  intro p e s m args below meth c A Q ls hx hb hts hown hml hA hP hK hD hE hl hret
  have hS : va_S A s.heap s.heap [] := va_S.rf
  have hown : s.vm.findClass "HalfJournal$Disk" = some m.cls := hown
  have hl : lv_has ls 4 [(0, .ref h0), (1, .int (nI b)), (2, .ref a2), (3, .int (nI f))] := hl
  have hP : va_P (dC, dI) vwCl [(h0, .inr (0, [.ref a, .int du, .int wr])), (a, .inl (cA, 32768, .inl (hj_B d))), (a2, .inl (cA2, n2, .inl (hj_B r9)))] s.heap := hP
  have hD : va_D A [(h0, .inr (0, [.ref a, .int du, .int wr])), (a, .inl (cA, 32768, .inl (hj_B d))), (a2, .inl (cA2, n2, .inl (hj_B r9)))] := hD
  refine lv_aload_n hx hb d_D_write_0 rfl (lv_at hl 0 rfl) ?_
  refine va_get (D := (dC, dI)) (ci := 0) (v := .int du) (C := "HalfJournal$Disk") (T := F_D) (N := 3) hx hb hts i_D hown hK hP 0 rfl rfl 1 (by decide) (hts _ m_39) (fun _ h9 => h9) rfl d_D_write_1 ?_
  refine lv_if_ne (tgt := 14) hx hb d_D_write_4 (by decide) (fun c_1 => ?_) (fun c_1 => ?_)
  · refine lv_aload_n hx hb d_D_write_14 rfl (lv_at hl 0 rfl) ?_
    refine va_get (D := (dC, dI)) (ci := 0) (v := .int du) (C := "HalfJournal$Disk") (T := F_D) (N := 3) hx hb hts i_D hown hK hP 0 rfl rfl 1 (by decide) (hts _ m_39) (fun _ h9 => h9) rfl d_D_write_15 ?_
    refine lv_if_le (tgt := 31) hx hb d_D_write_18 (by decide) (fun c_2 => ?_) (fun c_2 => ?_)
    · refine lv_aload_n hx hb d_D_write_31 rfl (lv_at hl 2 rfl) ?_
      refine lv_iload_n hx hb d_D_write_32 rfl (lv_at hl 3 rfl) ?_
      refine lv_aload_n hx hb d_D_write_33 rfl (lv_at hl 0 rfl) ?_
      refine va_get (D := (dC, dI)) (ci := 0) (v := .ref a) (C := "HalfJournal$Disk") (T := F_D) (N := 3) hx hb hts i_D hown hK hP 0 rfl rfl 0 (by decide) (hts _ m_37) (fun _ h9 => h9) rfl d_D_write_34 ?_
      refine lv_iload_n hx hb d_D_write_37 rfl (lv_at hl 1 rfl) ?_
      refine lv_sipush (v := nI 512) hx hb d_D_write_38 (by decide) ?_
      refine hj_imul hx hb d_D_write_41 ?_
      refine lv_sipush (v := nI 512) hx hb d_D_write_42 (by decide) ?_
      refine hj_callv (wc := [(a2, .inl (cA2, n2, .inl (hj_B r9))), (a, .inl (cA, 32768, .inl (hj_B d)))]) (wr := [(h0, .inr (0, [.ref a, .int du, .int wr]))]) [2, 1] [0] hP hD hS hA rfl rfl rfl (by decide) (va_runSN (As := [.ref a2, .int (nI f), .ref a, .int (nI (b * 512)), .int (nI 512)]) (rest := []) ⟨hx, hb, hml, hown, hts⟩ (c_J_copyBytes l dC dI a2 cA2 n2 r9 a cA 32768 d f (b * 512) 512 hn2 (by omega) hf (by omega) s.heap.size) ⟨va_cnB 5 hts (hj_gC m_606) rfl rfl rfl (hE.1 _ m_616) (hts _ m_1) (by decide +kernel) ⟨Nat.le_of_ble_eq_true rfl, Nat.le_of_ble_eq_true rfl⟩, hts _ m_605, trivial⟩ (hj_preS hj_EXok hE hP hD hK hS hA [2, 1] rfl rfl [1, 0] rfl) rfl rfl hl.1 rfl (lv_room (Nat.le_of_ble_eq_true rfl)) d_D_write_45 ⟨Nat.le_of_ble_eq_true rfl, Nat.le_of_ble_eq_true rfl⟩) (fun u_2 H locs hw hP hD hK1 hS => ?_)
      have hP : va_P (dC, dI) vwCl [(h0, .inr (0, [.ref a, .int du, .int wr])), (a, .inl (cA, 32768, .inl (hj_B (va_cpy r9 d f (b * 512) 512)))), (a2, .inl (cA2, n2, .inl (hj_B r9)))] H := hP.sub [0, 2, 1] rfl
      have hD : va_D A [(h0, .inr (0, [.ref a, .int du, .int wr])), (a, .inl (cA, 32768, .inl (hj_B (va_cpy r9 d f (b * 512) 512)))), (a2, .inl (cA2, n2, .inl (hj_B r9)))] := hD.sub [0, 2, 1] (by decide) rfl
      have h9 : (va_cpy r9 d f (b * 512) 512 : Nat → Nat) = hj_blk d b r9 f := by rw [Nat.mul_comm b 512]; rfl
      rw [h9] at hP hD
      have hP : va_P (dC, dI) vwCl [(h0, .inr (0, [.ref a, .int du, .int wr])), (a, .inl (cA, 32768, .inl (hj_B (hj_blk d b r9 f)))), (a2, .inl (cA2, n2, .inl (hj_B r9)))] H := hP
      have hD : va_D A [(h0, .inr (0, [.ref a, .int du, .int wr])), (a, .inl (cA, 32768, .inl (hj_B (hj_blk d b r9 f)))), (a2, .inl (cA2, n2, .inl (hj_B r9)))] := hD
      refine lv_aload_n hx hb d_D_write_48 rfl (lv_at hl 0 rfl) ?_
      refine lv_dup hx hb d_D_write_49 rfl ?_
      refine va_get (D := (dC, dI)) (ci := 0) (v := .int wr) (C := "HalfJournal$Disk") (T := F_D) (N := 3) hx hb hts i_D hown hK hP 0 rfl rfl 2 (by decide) (hts _ m_41) (fun _ h9 => h9) rfl d_D_write_50 ?_
      refine lv_iconst (v := nI 1) hx hb d_D_write_53 (by decide) ?_
      refine lv_iadd hx hb d_D_write_54 ?_
      refine va_put (D := (dC, dI)) (ci := 0) (v := .int (wr + (nI 1))) (ty := (.int)) (C := "HalfJournal$Disk") (T := F_D) (N := 3) hx hb hts i_D t_D t_D_ok n_D hown hK hP hD hS 0 rfl rfl 2 (by decide) (hts _ m_41) (fun _ h9 => h9) rfl (by decide +kernel) rfl rfl (Nat.le_of_ble_eq_true rfl) d_D_write_55 (fun H locs hP hD hS => ?_)
      have hP : va_P (dC, dI) vwCl [(h0, .inr (0, [.ref a, .int du, .int (wr + (nI 1))])), (a, .inl (cA, 32768, .inl (hj_B (hj_blk d b r9 f)))), (a2, .inl (cA2, n2, .inl (hj_B r9)))] H := hP
      have hD : va_D A [(h0, .inr (0, [.ref a, .int du, .int (wr + (nI 1))])), (a, .inl (cA, 32768, .inl (hj_B (hj_blk d b r9 f)))), (a2, .inl (cA2, n2, .inl (hj_B r9)))] := hD
      refine lv_iconst (v := nI 1) hx hb d_D_write_58 (by decide) ?_
      exact hret (nI 1) (hj_blk d b r9 f, du, wr + nI 1) _ _ _ _ d_D_write_59 rfl (Or.inr ⟨c_1, rfl, rfl, (hj_dec_le c_2).symm, rfl⟩) hP hK hD hS
    · refine lv_aload_n hx hb d_D_write_21 rfl (lv_at hl 0 rfl) ?_
      refine lv_dup hx hb d_D_write_22 rfl ?_
      refine va_get (D := (dC, dI)) (ci := 0) (v := .int du) (C := "HalfJournal$Disk") (T := F_D) (N := 3) hx hb hts i_D hown hK hP 0 rfl rfl 1 (by decide) (hts _ m_39) (fun _ h9 => h9) rfl d_D_write_23 ?_
      refine lv_iconst (v := nI 1) hx hb d_D_write_26 (by decide) ?_
      refine lv_isub hx hb d_D_write_27 ?_
      refine va_put (D := (dC, dI)) (ci := 0) (v := .int (du - (nI 1))) (ty := (.int)) (C := "HalfJournal$Disk") (T := F_D) (N := 3) hx hb hts i_D t_D t_D_ok n_D hown hK hP hD hS 0 rfl rfl 1 (by decide) (hts _ m_39) (fun _ h9 => h9) rfl (by decide +kernel) rfl rfl (Nat.le_of_ble_eq_true rfl) d_D_write_28 (fun H locs hP hD hS => ?_)
      have hP : va_P (dC, dI) vwCl [(h0, .inr (0, [.ref a, .int (du - (nI 1)), .int wr])), (a, .inl (cA, 32768, .inl (hj_B d))), (a2, .inl (cA2, n2, .inl (hj_B r9)))] H := hP
      have hD : va_D A [(h0, .inr (0, [.ref a, .int (du - (nI 1)), .int wr])), (a, .inl (cA, 32768, .inl (hj_B d))), (a2, .inl (cA2, n2, .inl (hj_B r9)))] := hD
      refine lv_aload_n hx hb d_D_write_31 rfl (lv_at hl 2 rfl) ?_
      refine lv_iload_n hx hb d_D_write_32 rfl (lv_at hl 3 rfl) ?_
      refine lv_aload_n hx hb d_D_write_33 rfl (lv_at hl 0 rfl) ?_
      refine va_get (D := (dC, dI)) (ci := 0) (v := .ref a) (C := "HalfJournal$Disk") (T := F_D) (N := 3) hx hb hts i_D hown hK hP 0 rfl rfl 0 (by decide) (hts _ m_37) (fun _ h9 => h9) rfl d_D_write_34 ?_
      refine lv_iload_n hx hb d_D_write_37 rfl (lv_at hl 1 rfl) ?_
      refine lv_sipush (v := nI 512) hx hb d_D_write_38 (by decide) ?_
      refine hj_imul hx hb d_D_write_41 ?_
      refine lv_sipush (v := nI 512) hx hb d_D_write_42 (by decide) ?_
      refine hj_callv (wc := [(a2, .inl (cA2, n2, .inl (hj_B r9))), (a, .inl (cA, 32768, .inl (hj_B d)))]) (wr := [(h0, .inr (0, [.ref a, .int (du - (nI 1)), .int wr]))]) [2, 1] [0] hP hD hS hA rfl rfl rfl (by decide) (va_runSN (As := [.ref a2, .int (nI f), .ref a, .int (nI (b * 512)), .int (nI 512)]) (rest := []) ⟨hx, hb, hml, hown, hts⟩ (c_J_copyBytes l dC dI a2 cA2 n2 r9 a cA 32768 d f (b * 512) 512 hn2 (by omega) hf (by omega) H.size) ⟨va_cnB 5 hts (hj_gC m_606) rfl rfl rfl (hE.1 _ m_616) (hts _ m_1) (by decide +kernel) ⟨Nat.le_of_ble_eq_true rfl, Nat.le_of_ble_eq_true rfl⟩, hts _ m_605, trivial⟩ (hj_preS hj_EXok hE hP hD hK hS hA [2, 1] rfl rfl [1, 0] rfl) rfl rfl hl.1 rfl (lv_room (Nat.le_of_ble_eq_true rfl)) d_D_write_45 ⟨Nat.le_of_ble_eq_true rfl, Nat.le_of_ble_eq_true rfl⟩) (fun u_4 H locs hw hP hD hK1 hS => ?_)
      have hP : va_P (dC, dI) vwCl [(h0, .inr (0, [.ref a, .int (du - (nI 1)), .int wr])), (a, .inl (cA, 32768, .inl (hj_B (va_cpy r9 d f (b * 512) 512)))), (a2, .inl (cA2, n2, .inl (hj_B r9)))] H := hP.sub [0, 2, 1] rfl
      have hD : va_D A [(h0, .inr (0, [.ref a, .int (du - (nI 1)), .int wr])), (a, .inl (cA, 32768, .inl (hj_B (va_cpy r9 d f (b * 512) 512)))), (a2, .inl (cA2, n2, .inl (hj_B r9)))] := hD.sub [0, 2, 1] (by decide) rfl
      have h9 : (va_cpy r9 d f (b * 512) 512 : Nat → Nat) = hj_blk d b r9 f := by rw [Nat.mul_comm b 512]; rfl
      rw [h9] at hP hD
      have hP : va_P (dC, dI) vwCl [(h0, .inr (0, [.ref a, .int (du - (nI 1)), .int wr])), (a, .inl (cA, 32768, .inl (hj_B (hj_blk d b r9 f)))), (a2, .inl (cA2, n2, .inl (hj_B r9)))] H := hP
      have hD : va_D A [(h0, .inr (0, [.ref a, .int (du - (nI 1)), .int wr])), (a, .inl (cA, 32768, .inl (hj_B (hj_blk d b r9 f)))), (a2, .inl (cA2, n2, .inl (hj_B r9)))] := hD
      refine lv_aload_n hx hb d_D_write_48 rfl (lv_at hl 0 rfl) ?_
      refine lv_dup hx hb d_D_write_49 rfl ?_
      refine va_get (D := (dC, dI)) (ci := 0) (v := .int wr) (C := "HalfJournal$Disk") (T := F_D) (N := 3) hx hb hts i_D hown hK hP 0 rfl rfl 2 (by decide) (hts _ m_41) (fun _ h9 => h9) rfl d_D_write_50 ?_
      refine lv_iconst (v := nI 1) hx hb d_D_write_53 (by decide) ?_
      refine lv_iadd hx hb d_D_write_54 ?_
      refine va_put (D := (dC, dI)) (ci := 0) (v := .int (wr + (nI 1))) (ty := (.int)) (C := "HalfJournal$Disk") (T := F_D) (N := 3) hx hb hts i_D t_D t_D_ok n_D hown hK hP hD hS 0 rfl rfl 2 (by decide) (hts _ m_41) (fun _ h9 => h9) rfl (by decide +kernel) rfl rfl (Nat.le_of_ble_eq_true rfl) d_D_write_55 (fun H locs hP hD hS => ?_)
      have hP : va_P (dC, dI) vwCl [(h0, .inr (0, [.ref a, .int (du - (nI 1)), .int (wr + (nI 1))])), (a, .inl (cA, 32768, .inl (hj_B (hj_blk d b r9 f)))), (a2, .inl (cA2, n2, .inl (hj_B r9)))] H := hP
      have hD : va_D A [(h0, .inr (0, [.ref a, .int (du - (nI 1)), .int (wr + (nI 1))])), (a, .inl (cA, 32768, .inl (hj_B (hj_blk d b r9 f)))), (a2, .inl (cA2, n2, .inl (hj_B r9)))] := hD
      refine lv_iconst (v := nI 1) hx hb d_D_write_58 (by decide) ?_
      exact hret (nI 1) (hj_blk d b r9 f, du - nI 1, wr + nI 1) _ _ _ _ d_D_write_59 rfl (Or.inr ⟨c_1, rfl, rfl, (hj_dec_gt c_2).symm, rfl⟩) hP hK hD hS
  · refine lv_aload_n hx hb d_D_write_7 rfl (lv_at hl 0 rfl) ?_
    refine lv_iconst (v := (-1)) hx hb d_D_write_8 (by decide) ?_
    refine va_put (D := (dC, dI)) (ci := 0) (v := .int (-1)) (ty := (.int)) (C := "HalfJournal$Disk") (T := F_D) (N := 3) hx hb hts i_D t_D t_D_ok n_D hown hK hP hD hS 0 rfl rfl 1 (by decide) (hts _ m_39) (fun _ h9 => h9) rfl (by decide +kernel) rfl rfl (Nat.le_of_ble_eq_true rfl) d_D_write_9 (fun H locs hP hD hS => ?_)
    have hP : va_P (dC, dI) vwCl [(h0, .inr (0, [.ref a, .int (-1), .int wr])), (a, .inl (cA, 32768, .inl (hj_B d))), (a2, .inl (cA2, n2, .inl (hj_B r9)))] H := hP
    have hD : va_D A [(h0, .inr (0, [.ref a, .int (-1), .int wr])), (a, .inl (cA, 32768, .inl (hj_B d))), (a2, .inl (cA2, n2, .inl (hj_B r9)))] := hD
    refine lv_iconst (v := nI 0) hx hb d_D_write_12 (by decide) ?_
    exact hret (nI 0) (d, -1, wr) _ _ _ _ d_D_write_13 rfl (Or.inl ⟨c_1, rfl, rfl, rfl, rfl⟩) hP hK hD hS
abbrev rm_R_init : Room := { frames := 8, cells := 3, slots := 5952, locals := 100 }
set_option maxHeartbeats 4000000 in
set_option maxRecDepth 100000 in
theorem c_R_init (l : Launch) (dC : Nat → ClassId) (dI : Nat → Nat → Nat) (h0 : Nat) : hj_Mv l y_R_init b_R_init 1 rm_R_init hj_EX (dC, dI) vwCl [] [(h0, .inr (1, [.null, .null, .null, .int 0, .int 0, .int 0]))] [.ref h0] (fun _ => True) (fun u : (Nat × ClassId) × (Nat × ClassId) × (Nat × ClassId) => [(h0, .inr (1, [.ref u.1.1, .ref u.2.1.1, .ref u.2.2.1, .int (nI 0), .int (nI 0), .int (nI 0)])), (u.1.1, .inl (u.1.2, 1984, .inl (fun _ => 0))), (u.2.1.1, .inl (u.2.1.2, 1984, .inl (fun _ => 0))), (u.2.2.1, .inl (u.2.2.2, 1984, .inl (fun _ => 0)))]) (fun u => [(u.1.2, .int), (u.2.1.2, .int), (u.2.2.2, .boolean)]) 3 5952 := by
  refine hj_bodyV (by decide +kernel) (Nat.le_of_ble_eq_true rfl) ?_
  intro p e s m args below meth c A Q ls hx hb hts hown hml hin hA hP hK hD hE hl hret
  have hS : va_S A s.heap s.heap [] := va_S.rf
  have hown : s.vm.findClass "HalfJournal$Records" = some m.cls := hown
  have hl : lv_has ls 1 [(0, .ref h0)] := hl
  have hP : va_P (dC, dI) vwCl [(h0, .inr (1, [.null, .null, .null, .int 0, .int 0, .int 0]))] s.heap := hP
  have hD : va_D A [(h0, .inr (1, [.null, .null, .null, .int 0, .int 0, .int 0]))] := hD
  refine lv_aload_n hx hb d_R_init_0 rfl (lv_at hl 0 rfl) ?_
  refine W.objInit hx hb hown (hts _ m_56) (hts _ m_28) (hts _ m_29) rfl (by rw [hml]; exact hl.1) rfl d_R_init_1 (Nat.le_of_ble_eq_true rfl) (Nat.le_of_ble_eq_true rfl) ?_
  refine W.eq (g2 := F0 m 4 ls []) rfl ?_
  refine lv_aload_n hx hb d_R_init_4 rfl (lv_at hl 0 rfl) ?_
  refine lv_sipush (v := nI 1984) hx hb d_R_init_5 (by decide) ?_
  refine va_newa (a0 := (1984, .inl (fun _ => 0))) (N' := 1984) (atype := .int) (ty := .int) hx hb (hts _ m_82) rfl hK hP hD hS hA (fun _ => rfl) (nI_pos (by decide)) (nI_clamp (by decide)) (by decide) (Nat.le_of_ble_eq_true rfl) (Nat.le_of_ble_eq_true rfl) d_R_init_8 (fun q1 k1 H hK hP hD hS => ?_)
  have hP : va_P (dC, dI) vwCl [(h0, .inr (1, [.null, .null, .null, .int 0, .int 0, .int 0])), (q1, .inl (k1, 1984, .inl (fun _ => 0)))] H := hP
  have hD : va_D A [(h0, .inr (1, [.null, .null, .null, .int 0, .int 0, .int 0])), (q1, .inl (k1, 1984, .inl (fun _ => 0)))] := hD
  have hK : va_K (dC, dI) vwCl [(k1, .int)] s := hK
  refine va_putF (D := (dC, dI)) (ci := 1) (v := .ref q1) (ty := (.array .int)) (C := "HalfJournal$Records") (T := F_R) (N := 6) hx hb hts i_R t_R t_R_ok n_R hown hK hP hD hS 0 rfl rfl 0 (by decide) (hts _ m_57) (fun _ h9 => h9) rfl hin rfl (by decide +kernel) rfl rfl (Nat.le_of_ble_eq_true rfl) d_R_init_10 (fun H locs hP hD hS => ?_)
  have hP : va_P (dC, dI) vwCl [(h0, .inr (1, [.ref q1, .null, .null, .int 0, .int 0, .int 0])), (q1, .inl (k1, 1984, .inl (fun _ => 0)))] H := hP
  have hD : va_D A [(h0, .inr (1, [.ref q1, .null, .null, .int 0, .int 0, .int 0])), (q1, .inl (k1, 1984, .inl (fun _ => 0)))] := hD
  refine lv_aload_n hx hb d_R_init_13 rfl (lv_at hl 0 rfl) ?_
  refine lv_sipush (v := nI 1984) hx hb d_R_init_14 (by decide) ?_
  refine va_newa (a0 := (1984, .inl (fun _ => 0))) (N' := 1984) (atype := .int) (ty := .int) hx hb (hts _ m_82) rfl hK hP hD hS hA (fun _ => rfl) (nI_pos (by decide)) (nI_clamp (by decide)) (by decide) (Nat.le_of_ble_eq_true rfl) (Nat.le_of_ble_eq_true rfl) d_R_init_17 (fun q2 k2 H hK hP hD hS => ?_)
  have hP : va_P (dC, dI) vwCl [(h0, .inr (1, [.ref q1, .null, .null, .int 0, .int 0, .int 0])), (q1, .inl (k1, 1984, .inl (fun _ => 0))), (q2, .inl (k2, 1984, .inl (fun _ => 0)))] H := hP
  have hD : va_D A [(h0, .inr (1, [.ref q1, .null, .null, .int 0, .int 0, .int 0])), (q1, .inl (k1, 1984, .inl (fun _ => 0))), (q2, .inl (k2, 1984, .inl (fun _ => 0)))] := hD
  have hK : va_K (dC, dI) vwCl [(k1, .int), (k2, .int)] s := hK
  refine va_putF (D := (dC, dI)) (ci := 1) (v := .ref q2) (ty := (.array .int)) (C := "HalfJournal$Records") (T := F_R) (N := 6) hx hb hts i_R t_R t_R_ok n_R hown hK hP hD hS 0 rfl rfl 1 (by decide) (hts _ m_59) (fun _ h9 => h9) rfl hin rfl (by decide +kernel) rfl rfl (Nat.le_of_ble_eq_true rfl) d_R_init_19 (fun H locs hP hD hS => ?_)
  have hP : va_P (dC, dI) vwCl [(h0, .inr (1, [.ref q1, .ref q2, .null, .int 0, .int 0, .int 0])), (q1, .inl (k1, 1984, .inl (fun _ => 0))), (q2, .inl (k2, 1984, .inl (fun _ => 0)))] H := hP
  have hD : va_D A [(h0, .inr (1, [.ref q1, .ref q2, .null, .int 0, .int 0, .int 0])), (q1, .inl (k1, 1984, .inl (fun _ => 0))), (q2, .inl (k2, 1984, .inl (fun _ => 0)))] := hD
  refine lv_aload_n hx hb d_R_init_22 rfl (lv_at hl 0 rfl) ?_
  refine lv_sipush (v := nI 1984) hx hb d_R_init_23 (by decide) ?_
  refine va_newa (a0 := (1984, .inl (fun _ => 0))) (N' := 1984) (atype := .boolean) (ty := .boolean) hx hb (hts _ m_83) rfl hK hP hD hS hA (fun _ => rfl) (nI_pos (by decide)) (nI_clamp (by decide)) (by decide) (Nat.le_of_ble_eq_true rfl) (Nat.le_of_ble_eq_true rfl) d_R_init_26 (fun q3 k3 H hK hP hD hS => ?_)
  have hP : va_P (dC, dI) vwCl [(h0, .inr (1, [.ref q1, .ref q2, .null, .int 0, .int 0, .int 0])), (q1, .inl (k1, 1984, .inl (fun _ => 0))), (q2, .inl (k2, 1984, .inl (fun _ => 0))), (q3, .inl (k3, 1984, .inl (fun _ => 0)))] H := hP
  have hD : va_D A [(h0, .inr (1, [.ref q1, .ref q2, .null, .int 0, .int 0, .int 0])), (q1, .inl (k1, 1984, .inl (fun _ => 0))), (q2, .inl (k2, 1984, .inl (fun _ => 0))), (q3, .inl (k3, 1984, .inl (fun _ => 0)))] := hD
  have hK : va_K (dC, dI) vwCl [(k1, .int), (k2, .int), (k3, .boolean)] s := hK
  refine va_putF (D := (dC, dI)) (ci := 1) (v := .ref q3) (ty := (.array .boolean)) (C := "HalfJournal$Records") (T := F_R) (N := 6) hx hb hts i_R t_R t_R_ok n_R hown hK hP hD hS 0 rfl rfl 2 (by decide) (hts _ m_61) (fun _ h9 => h9) rfl hin rfl (by decide +kernel) rfl rfl (Nat.le_of_ble_eq_true rfl) d_R_init_28 (fun H locs hP hD hS => ?_)
  have hP : va_P (dC, dI) vwCl [(h0, .inr (1, [.ref q1, .ref q2, .ref q3, .int 0, .int 0, .int 0])), (q1, .inl (k1, 1984, .inl (fun _ => 0))), (q2, .inl (k2, 1984, .inl (fun _ => 0))), (q3, .inl (k3, 1984, .inl (fun _ => 0)))] H := hP
  have hD : va_D A [(h0, .inr (1, [.ref q1, .ref q2, .ref q3, .int 0, .int 0, .int 0])), (q1, .inl (k1, 1984, .inl (fun _ => 0))), (q2, .inl (k2, 1984, .inl (fun _ => 0))), (q3, .inl (k3, 1984, .inl (fun _ => 0)))] := hD
  refine lv_aload_n hx hb d_R_init_31 rfl (lv_at hl 0 rfl) ?_
  refine lv_iconst (v := nI 0) hx hb d_R_init_32 (by decide) ?_
  refine va_put (D := (dC, dI)) (ci := 1) (v := .int (nI 0)) (ty := (.int)) (C := "HalfJournal$Records") (T := F_R) (N := 6) hx hb hts i_R t_R t_R_ok n_R hown hK hP hD hS 0 rfl rfl 3 (by decide) (hts _ m_63) (fun _ h9 => h9) rfl (by decide +kernel) rfl rfl (Nat.le_of_ble_eq_true rfl) d_R_init_33 (fun H locs hP hD hS => ?_)
  have hP : va_P (dC, dI) vwCl [(h0, .inr (1, [.ref q1, .ref q2, .ref q3, .int (nI 0), .int 0, .int 0])), (q1, .inl (k1, 1984, .inl (fun _ => 0))), (q2, .inl (k2, 1984, .inl (fun _ => 0))), (q3, .inl (k3, 1984, .inl (fun _ => 0)))] H := hP
  have hD : va_D A [(h0, .inr (1, [.ref q1, .ref q2, .ref q3, .int (nI 0), .int 0, .int 0])), (q1, .inl (k1, 1984, .inl (fun _ => 0))), (q2, .inl (k2, 1984, .inl (fun _ => 0))), (q3, .inl (k3, 1984, .inl (fun _ => 0)))] := hD
  refine lv_aload_n hx hb d_R_init_36 rfl (lv_at hl 0 rfl) ?_
  refine lv_iconst (v := nI 0) hx hb d_R_init_37 (by decide) ?_
  refine va_put (D := (dC, dI)) (ci := 1) (v := .int (nI 0)) (ty := (.int)) (C := "HalfJournal$Records") (T := F_R) (N := 6) hx hb hts i_R t_R t_R_ok n_R hown hK hP hD hS 0 rfl rfl 4 (by decide) (hts _ m_65) (fun _ h9 => h9) rfl (by decide +kernel) rfl rfl (Nat.le_of_ble_eq_true rfl) d_R_init_38 (fun H locs hP hD hS => ?_)
  have hP : va_P (dC, dI) vwCl [(h0, .inr (1, [.ref q1, .ref q2, .ref q3, .int (nI 0), .int (nI 0), .int 0])), (q1, .inl (k1, 1984, .inl (fun _ => 0))), (q2, .inl (k2, 1984, .inl (fun _ => 0))), (q3, .inl (k3, 1984, .inl (fun _ => 0)))] H := hP
  have hD : va_D A [(h0, .inr (1, [.ref q1, .ref q2, .ref q3, .int (nI 0), .int (nI 0), .int 0])), (q1, .inl (k1, 1984, .inl (fun _ => 0))), (q2, .inl (k2, 1984, .inl (fun _ => 0))), (q3, .inl (k3, 1984, .inl (fun _ => 0)))] := hD
  refine lv_aload_n hx hb d_R_init_41 rfl (lv_at hl 0 rfl) ?_
  refine lv_iconst (v := nI 0) hx hb d_R_init_42 (by decide) ?_
  refine va_put (D := (dC, dI)) (ci := 1) (v := .int (nI 0)) (ty := (.int)) (C := "HalfJournal$Records") (T := F_R) (N := 6) hx hb hts i_R t_R t_R_ok n_R hown hK hP hD hS 0 rfl rfl 5 (by decide) (hts _ m_67) (fun _ h9 => h9) rfl (by decide +kernel) rfl rfl (Nat.le_of_ble_eq_true rfl) d_R_init_43 (fun H locs hP hD hS => ?_)
  have hP : va_P (dC, dI) vwCl [(h0, .inr (1, [.ref q1, .ref q2, .ref q3, .int (nI 0), .int (nI 0), .int (nI 0)])), (q1, .inl (k1, 1984, .inl (fun _ => 0))), (q2, .inl (k2, 1984, .inl (fun _ => 0))), (q3, .inl (k3, 1984, .inl (fun _ => 0)))] H := hP
  have hD : va_D A [(h0, .inr (1, [.ref q1, .ref q2, .ref q3, .int (nI 0), .int (nI 0), .int (nI 0)])), (q1, .inl (k1, 1984, .inl (fun _ => 0))), (q2, .inl (k2, 1984, .inl (fun _ => 0))), (q3, .inl (k3, 1984, .inl (fun _ => 0)))] := hD
  exact hret ((q1, k1), (q2, k2), (q3, k3)) _ _ _ _ d_R_init_46 (trivial) hP hK hD hS
abbrev rm_R_has : Room := { frames := 8, cells := 0, slots := 0, locals := 100 }
set_option maxHeartbeats 4000000 in
set_option maxRecDepth 100000 in
theorem c_R_has (l : Launch) (dC : Nat → ClassId) (dI : Nat → Nat → Nat) (h0 sa la ma : Nat) (n us mm : Nat) (x : Int32) (hn : n < 2 ^ 31) : hj_Mi l y_R_has b_R_has 2 .boolean rm_R_has hj_EX (dC, dI) vwCl [] [(h0, .inr (1, [.ref sa, .ref la, .ref ma, .int (nI n), .int (nI us), .int (nI mm)]))] [.ref h0, .int x] (fun r _ => (vp_in x n ∧ r = nI 1) ∨ (¬ vp_in x n ∧ r = nI 0)) (fun _ : Unit => [(h0, .inr (1, [.ref sa, .ref la, .ref ma, .int (nI n), .int (nI us), .int (nI mm)]))]) (fun _ => []) 0 0 := by
  refine hj_bodyI (by decide +kernel) (Nat.le_of_ble_eq_true rfl) ?_
  intro p e s m args below meth c A Q ls hx hb hts hown hml hA hP hK hD hE hl hret
  have hS : va_S A s.heap s.heap [] := va_S.rf
  have hown : s.vm.findClass "HalfJournal$Records" = some m.cls := hown
  have hl : lv_has ls 2 [(0, .ref h0), (1, .int x)] := hl
  have hP : va_P (dC, dI) vwCl [(h0, .inr (1, [.ref sa, .ref la, .ref ma, .int (nI n), .int (nI us), .int (nI mm)]))] s.heap := hP
  have hD : va_D A [(h0, .inr (1, [.ref sa, .ref la, .ref ma, .int (nI n), .int (nI us), .int (nI mm)]))] := hD
  refine lv_iload_n hx hb d_R_has_0 rfl (lv_at hl 1 rfl) ?_
  refine lv_if_lt (tgt := 16) hx hb d_R_has_1 (by decide) (fun c_1 => ?_) (fun c_1 => ?_)
  · refine lv_iconst (v := nI 0) hx hb d_R_has_16 (by decide) ?_
    exact hret (nI 0) () _ _ _ _ d_R_has_17 rfl (Or.inr ⟨fun q => q (Or.inl c_1), rfl⟩) hP hK hD hS
  · obtain ⟨j, hj, rfl⟩ := nI_of c_1
    refine lv_iload_n hx hb d_R_has_4 rfl (lv_at hl 1 rfl) ?_
    refine lv_aload_n hx hb d_R_has_5 rfl (lv_at hl 0 rfl) ?_
    refine va_get (D := (dC, dI)) (ci := 1) (v := .int (nI n)) (C := "HalfJournal$Records") (T := F_R) (N := 6) hx hb hts i_R hown hK hP 0 rfl rfl 3 (by decide) (hts _ m_63) (fun _ h9 => h9) rfl d_R_has_6 ?_
    refine hj_icmp_ge (tgt := 16) hx hb (by omega) (by omega) d_R_has_9 (by decide) (fun c_2 => ?_) (fun c_2 => ?_)
    · refine lv_iconst (v := nI 0) hx hb d_R_has_16 (by decide) ?_
      exact hret (nI 0) () _ _ _ _ d_R_has_17 rfl (Or.inr ⟨fun q => q (Or.inr (by rw [nI_clamp hj]; exact c_2)), rfl⟩) hP hK hD hS
    · refine lv_iconst (v := nI 1) hx hb d_R_has_12 (by decide) ?_
      refine lv_goto (tgt := 17) hx hb d_R_has_13 (by decide) ?_
      exact hret (nI 1) () _ _ _ _ d_R_has_17 rfl (Or.inl ⟨vp_in_nI c_2 (by omega), rfl⟩) hP hK hD hS
abbrev rm_R_clear : Room := { frames := 8, cells := 0, slots := 0, locals := 100 }
set_option maxHeartbeats 4000000 in
set_option maxRecDepth 100000 in
theorem c_R_clear (l : Launch) (dC : Nat → ClassId) (dI : Nat → Nat → Nat) (h0 sa la ma : Nat) (n us mm : Nat) : hj_Mv l y_R_clear b_R_clear 1 rm_R_clear hj_EX (dC, dI) vwCl [] [(h0, .inr (1, [.ref sa, .ref la, .ref ma, .int (nI n), .int (nI us), .int (nI mm)]))] [.ref h0] (fun _ => True) (fun _ : Unit => [(h0, .inr (1, [.ref sa, .ref la, .ref ma, .int (nI 0), .int (nI 0), .int (nI 0)]))]) (fun _ => []) 0 0 := by
  refine hj_bodyV (by decide +kernel) (Nat.le_of_ble_eq_true rfl) ?_
  intro p e s m args below meth c A Q ls hx hb hts hown hml hin hA hP hK hD hE hl hret
  have hS : va_S A s.heap s.heap [] := va_S.rf
  have hown : s.vm.findClass "HalfJournal$Records" = some m.cls := hown
  have hl : lv_has ls 1 [(0, .ref h0)] := hl
  have hP : va_P (dC, dI) vwCl [(h0, .inr (1, [.ref sa, .ref la, .ref ma, .int (nI n), .int (nI us), .int (nI mm)]))] s.heap := hP
  have hD : va_D A [(h0, .inr (1, [.ref sa, .ref la, .ref ma, .int (nI n), .int (nI us), .int (nI mm)]))] := hD
  refine lv_aload_n hx hb d_R_clear_0 rfl (lv_at hl 0 rfl) ?_
  refine lv_iconst (v := nI 0) hx hb d_R_clear_1 (by decide) ?_
  refine va_put (D := (dC, dI)) (ci := 1) (v := .int (nI 0)) (ty := (.int)) (C := "HalfJournal$Records") (T := F_R) (N := 6) hx hb hts i_R t_R t_R_ok n_R hown hK hP hD hS 0 rfl rfl 3 (by decide) (hts _ m_63) (fun _ h9 => h9) rfl (by decide +kernel) rfl rfl (Nat.le_of_ble_eq_true rfl) d_R_clear_2 (fun H locs hP hD hS => ?_)
  have hP : va_P (dC, dI) vwCl [(h0, .inr (1, [.ref sa, .ref la, .ref ma, .int (nI 0), .int (nI us), .int (nI mm)]))] H := hP
  have hD : va_D A [(h0, .inr (1, [.ref sa, .ref la, .ref ma, .int (nI 0), .int (nI us), .int (nI mm)]))] := hD
  refine lv_aload_n hx hb d_R_clear_5 rfl (lv_at hl 0 rfl) ?_
  refine lv_iconst (v := nI 0) hx hb d_R_clear_6 (by decide) ?_
  refine va_put (D := (dC, dI)) (ci := 1) (v := .int (nI 0)) (ty := (.int)) (C := "HalfJournal$Records") (T := F_R) (N := 6) hx hb hts i_R t_R t_R_ok n_R hown hK hP hD hS 0 rfl rfl 4 (by decide) (hts _ m_65) (fun _ h9 => h9) rfl (by decide +kernel) rfl rfl (Nat.le_of_ble_eq_true rfl) d_R_clear_7 (fun H locs hP hD hS => ?_)
  have hP : va_P (dC, dI) vwCl [(h0, .inr (1, [.ref sa, .ref la, .ref ma, .int (nI 0), .int (nI 0), .int (nI mm)]))] H := hP
  have hD : va_D A [(h0, .inr (1, [.ref sa, .ref la, .ref ma, .int (nI 0), .int (nI 0), .int (nI mm)]))] := hD
  refine lv_aload_n hx hb d_R_clear_10 rfl (lv_at hl 0 rfl) ?_
  refine lv_iconst (v := nI 0) hx hb d_R_clear_11 (by decide) ?_
  refine va_put (D := (dC, dI)) (ci := 1) (v := .int (nI 0)) (ty := (.int)) (C := "HalfJournal$Records") (T := F_R) (N := 6) hx hb hts i_R t_R t_R_ok n_R hown hK hP hD hS 0 rfl rfl 5 (by decide) (hts _ m_67) (fun _ h9 => h9) rfl (by decide +kernel) rfl rfl (Nat.le_of_ble_eq_true rfl) d_R_clear_12 (fun H locs hP hD hS => ?_)
  have hP : va_P (dC, dI) vwCl [(h0, .inr (1, [.ref sa, .ref la, .ref ma, .int (nI 0), .int (nI 0), .int (nI 0)]))] H := hP
  have hD : va_D A [(h0, .inr (1, [.ref sa, .ref la, .ref ma, .int (nI 0), .int (nI 0), .int (nI 0)]))] := hD
  exact hret () _ _ _ _ d_R_clear_15 (trivial) hP hK hD hS
abbrev rm_R_add : Room := { frames := 16, cells := 0, slots := 0, locals := 200 }
set_option maxHeartbeats 4000000 in
set_option maxRecDepth 100000 in
theorem c_R_add (l : Launch) (dC : Nat → ClassId) (dI : Nat → Nat → Nat) (h0 sa la ma : Nat) (n us mm : Nat) (cS cL cM : ClassId) (fs fl fm : Nat → Int32) (w : Nat) (hn : n < 1984) (hw : w < 2 ^ 30) : hj_Mv l y_R_add b_R_add 2 rm_R_add hj_EX (dC, dI) vwCl [(cS, .int), (cL, .int), (cM, .boolean)] [(h0, .inr (1, [.ref sa, .ref la, .ref ma, .int (nI n), .int (nI us), .int (nI mm)])), (sa, .inl (cS, 1984, .inl fs)), (la, .inl (cL, 1984, .inl fl)), (ma, .inl (cM, 1984, .inl fm))] [.ref h0, .int (nI w)] (fun _ => True) (fun _ : Unit => [(h0, .inr (1, [.ref sa, .ref la, .ref ma, .int (nI (n + 1)), .int (nI (us + hj_sz w)), .int (nI mm)])), (sa, .inl (cS, 1984, .inl (va_up fs n (nI us)))), (la, .inl (cL, 1984, .inl (va_up fl n (nI w)))), (ma, .inl (cM, 1984, .inl (va_up fm n (nI 0))))]) (fun _ => [(cS, .int), (cL, .int), (cM, .boolean)]) 0 0 := by
  refine hj_bodyV (by decide +kernel) (Nat.le_of_ble_eq_true rfl) ?_
  intro p e s m args below meth c A Q ls hx hb hts hown hml hin hA hP hK hD hE hl hret
  have hS : va_S A s.heap s.heap [] := va_S.rf
  have hown : s.vm.findClass "HalfJournal$Records" = some m.cls := hown
  have hl : lv_has ls 2 [(0, .ref h0), (1, .int (nI w))] := hl
  have hP : va_P (dC, dI) vwCl [(h0, .inr (1, [.ref sa, .ref la, .ref ma, .int (nI n), .int (nI us), .int (nI mm)])), (sa, .inl (cS, 1984, .inl fs)), (la, .inl (cL, 1984, .inl fl)), (ma, .inl (cM, 1984, .inl fm))] s.heap := hP
  have hD : va_D A [(h0, .inr (1, [.ref sa, .ref la, .ref ma, .int (nI n), .int (nI us), .int (nI mm)])), (sa, .inl (cS, 1984, .inl fs)), (la, .inl (cL, 1984, .inl fl)), (ma, .inl (cM, 1984, .inl fm))] := hD
  refine lv_aload_n hx hb d_R_add_0 rfl (lv_at hl 0 rfl) ?_
  refine va_get (D := (dC, dI)) (ci := 1) (v := .int (nI n)) (C := "HalfJournal$Records") (T := F_R) (N := 6) hx hb hts i_R hown hK hP 0 rfl rfl 3 (by decide) (hts _ m_63) (fun _ h9 => h9) rfl d_R_add_1 ?_
  refine lv_sipush (v := nI 1984) hx hb d_R_add_4 (by decide) ?_
  refine hj_icmp_lt (tgt := 11) hx hb (by omega) (by omega) d_R_add_7 (by decide) (fun c_1 => ?_) (fun c_1 => ?_)
  · refine lv_aload_n hx hb d_R_add_11 rfl (lv_at hl 0 rfl) ?_
    refine va_get (D := (dC, dI)) (ci := 1) (v := .ref sa) (C := "HalfJournal$Records") (T := F_R) (N := 6) hx hb hts i_R hown hK hP 0 rfl rfl 0 (by decide) (hts _ m_57) (fun _ h9 => h9) rfl d_R_add_12 ?_
    refine lv_aload_n hx hb d_R_add_15 rfl (lv_at hl 0 rfl) ?_
    refine va_get (D := (dC, dI)) (ci := 1) (v := .int (nI n)) (C := "HalfJournal$Records") (T := F_R) (N := 6) hx hb hts i_R hown hK hP 0 rfl rfl 3 (by decide) (hts _ m_63) (fun _ h9 => h9) rfl d_R_add_16 ?_
    refine lv_aload_n hx hb d_R_add_19 rfl (lv_at hl 0 rfl) ?_
    refine va_get (D := (dC, dI)) (ci := 1) (v := .int (nI us)) (C := "HalfJournal$Records") (T := F_R) (N := 6) hx hb hts i_R hown hK hP 0 rfl rfl 4 (by decide) (hts _ m_65) (fun _ h9 => h9) rfl d_R_add_20 ?_
    refine hj_iast hx hb hK hP hD hS 1 0 rfl rfl (by omega) (by decide) d_R_add_23 (fun H locs hP hD hS => ?_)
    have hP : va_P (dC, dI) vwCl [(h0, .inr (1, [.ref sa, .ref la, .ref ma, .int (nI n), .int (nI us), .int (nI mm)])), (sa, .inl (cS, 1984, .inl (va_up fs n (nI us)))), (la, .inl (cL, 1984, .inl fl)), (ma, .inl (cM, 1984, .inl fm))] H := hP
    have hD : va_D A [(h0, .inr (1, [.ref sa, .ref la, .ref ma, .int (nI n), .int (nI us), .int (nI mm)])), (sa, .inl (cS, 1984, .inl (va_up fs n (nI us)))), (la, .inl (cL, 1984, .inl fl)), (ma, .inl (cM, 1984, .inl fm))] := hD
    refine lv_aload_n hx hb d_R_add_24 rfl (lv_at hl 0 rfl) ?_
    refine va_get (D := (dC, dI)) (ci := 1) (v := .ref la) (C := "HalfJournal$Records") (T := F_R) (N := 6) hx hb hts i_R hown hK hP 0 rfl rfl 1 (by decide) (hts _ m_59) (fun _ h9 => h9) rfl d_R_add_25 ?_
    refine lv_aload_n hx hb d_R_add_28 rfl (lv_at hl 0 rfl) ?_
    refine va_get (D := (dC, dI)) (ci := 1) (v := .int (nI n)) (C := "HalfJournal$Records") (T := F_R) (N := 6) hx hb hts i_R hown hK hP 0 rfl rfl 3 (by decide) (hts _ m_63) (fun _ h9 => h9) rfl d_R_add_29 ?_
    refine lv_iload_n hx hb d_R_add_32 rfl (lv_at hl 1 rfl) ?_
    refine hj_iast hx hb hK hP hD hS 2 1 rfl rfl (by omega) (by decide) d_R_add_33 (fun H locs hP hD hS => ?_)
    have hP : va_P (dC, dI) vwCl [(h0, .inr (1, [.ref sa, .ref la, .ref ma, .int (nI n), .int (nI us), .int (nI mm)])), (sa, .inl (cS, 1984, .inl (va_up fs n (nI us)))), (la, .inl (cL, 1984, .inl (va_up fl n (nI w)))), (ma, .inl (cM, 1984, .inl fm))] H := hP
    have hD : va_D A [(h0, .inr (1, [.ref sa, .ref la, .ref ma, .int (nI n), .int (nI us), .int (nI mm)])), (sa, .inl (cS, 1984, .inl (va_up fs n (nI us)))), (la, .inl (cL, 1984, .inl (va_up fl n (nI w)))), (ma, .inl (cM, 1984, .inl fm))] := hD
    refine lv_aload_n hx hb d_R_add_34 rfl (lv_at hl 0 rfl) ?_
    refine va_get (D := (dC, dI)) (ci := 1) (v := .ref ma) (C := "HalfJournal$Records") (T := F_R) (N := 6) hx hb hts i_R hown hK hP 0 rfl rfl 2 (by decide) (hts _ m_61) (fun _ h9 => h9) rfl d_R_add_35 ?_
    refine lv_aload_n hx hb d_R_add_38 rfl (lv_at hl 0 rfl) ?_
    refine va_get (D := (dC, dI)) (ci := 1) (v := .int (nI n)) (C := "HalfJournal$Records") (T := F_R) (N := 6) hx hb hts i_R hown hK hP 0 rfl rfl 3 (by decide) (hts _ m_63) (fun _ h9 => h9) rfl d_R_add_39 ?_
    refine lv_iconst (v := nI 0) hx hb d_R_add_42 (by decide) ?_
    refine hj_zast hx hb hK hP hD hS 3 2 rfl rfl (by omega) (by omega) (by decide) d_R_add_43 (fun H locs hP hD hS => ?_)
    have hP : va_P (dC, dI) vwCl [(h0, .inr (1, [.ref sa, .ref la, .ref ma, .int (nI n), .int (nI us), .int (nI mm)])), (sa, .inl (cS, 1984, .inl (va_up fs n (nI us)))), (la, .inl (cL, 1984, .inl (va_up fl n (nI w)))), (ma, .inl (cM, 1984, .inl (va_up fm n (nI 0))))] H := hP
    have hD : va_D A [(h0, .inr (1, [.ref sa, .ref la, .ref ma, .int (nI n), .int (nI us), .int (nI mm)])), (sa, .inl (cS, 1984, .inl (va_up fs n (nI us)))), (la, .inl (cL, 1984, .inl (va_up fl n (nI w)))), (ma, .inl (cM, 1984, .inl (va_up fm n (nI 0))))] := hD
    refine lv_aload_n hx hb d_R_add_44 rfl (lv_at hl 0 rfl) ?_
    refine lv_dup hx hb d_R_add_45 rfl ?_
    refine va_get (D := (dC, dI)) (ci := 1) (v := .int (nI n)) (C := "HalfJournal$Records") (T := F_R) (N := 6) hx hb hts i_R hown hK hP 0 rfl rfl 3 (by decide) (hts _ m_63) (fun _ h9 => h9) rfl d_R_add_46 ?_
    refine lv_iconst (v := nI 1) hx hb d_R_add_49 (by decide) ?_
    refine hj_iadd hx hb d_R_add_50 ?_
    refine va_put (D := (dC, dI)) (ci := 1) (v := .int (nI (n + 1))) (ty := (.int)) (C := "HalfJournal$Records") (T := F_R) (N := 6) hx hb hts i_R t_R t_R_ok n_R hown hK hP hD hS 0 rfl rfl 3 (by decide) (hts _ m_63) (fun _ h9 => h9) rfl (by decide +kernel) rfl rfl (Nat.le_of_ble_eq_true rfl) d_R_add_51 (fun H locs hP hD hS => ?_)
    have hP : va_P (dC, dI) vwCl [(h0, .inr (1, [.ref sa, .ref la, .ref ma, .int (nI (n + 1)), .int (nI us), .int (nI mm)])), (sa, .inl (cS, 1984, .inl (va_up fs n (nI us)))), (la, .inl (cL, 1984, .inl (va_up fl n (nI w)))), (ma, .inl (cM, 1984, .inl (va_up fm n (nI 0))))] H := hP
    have hD : va_D A [(h0, .inr (1, [.ref sa, .ref la, .ref ma, .int (nI (n + 1)), .int (nI us), .int (nI mm)])), (sa, .inl (cS, 1984, .inl (va_up fs n (nI us)))), (la, .inl (cL, 1984, .inl (va_up fl n (nI w)))), (ma, .inl (cM, 1984, .inl (va_up fm n (nI 0))))] := hD
    refine lv_aload_n hx hb d_R_add_54 rfl (lv_at hl 0 rfl) ?_
    refine lv_dup hx hb d_R_add_55 rfl ?_
    refine va_get (D := (dC, dI)) (ci := 1) (v := .int (nI us)) (C := "HalfJournal$Records") (T := F_R) (N := 6) hx hb hts i_R hown hK hP 0 rfl rfl 4 (by decide) (hts _ m_65) (fun _ h9 => h9) rfl d_R_add_56 ?_
    refine lv_iload_n hx hb d_R_add_59 rfl (lv_at hl 1 rfl) ?_
    refine hj_calli (wc := []) (wr := [(h0, .inr (1, [.ref sa, .ref la, .ref ma, .int (nI (n + 1)), .int (nI us), .int (nI mm)])), (sa, .inl (cS, 1984, .inl (va_up fs n (nI us)))), (la, .inl (cL, 1984, .inl (va_up fl n (nI w)))), (ma, .inl (cM, 1984, .inl (va_up fm n (nI 0))))]) [] [0, 1, 2, 3] hP hD hS hA rfl rfl rfl (by decide) (va_runSN (As := [.int (nI w)]) (rest := [.int (nI us), .ref h0]) ⟨hx, hb, hml, hown, hts⟩ (c_J_sizeOf l dC dI w hw H.size) ⟨va_cnB 1 hts (hj_gC m_473) rfl rfl rfl (hE.1 _ m_478) (hts _ m_1) (by decide +kernel) ⟨Nat.le_of_ble_eq_true rfl, Nat.le_of_ble_eq_true rfl⟩, hts _ m_472, trivial⟩ (hj_preS hj_EXok hE hP hD hK hS hA [] rfl rfl [] rfl) rfl rfl hl.1 rfl (lv_room (Nat.le_of_ble_eq_true rfl)) d_R_add_60 ⟨Nat.le_of_ble_eq_true rfl, Nat.le_of_ble_eq_true rfl⟩) (fun r_1 u_2 H locs hw hP hD hK1 hS => ?_)
    subst hw
    have hP : va_P (dC, dI) vwCl [(h0, .inr (1, [.ref sa, .ref la, .ref ma, .int (nI (n + 1)), .int (nI us), .int (nI mm)])), (sa, .inl (cS, 1984, .inl (va_up fs n (nI us)))), (la, .inl (cL, 1984, .inl (va_up fl n (nI w)))), (ma, .inl (cM, 1984, .inl (va_up fm n (nI 0))))] H := hP.sub [0, 1, 2, 3] rfl
    have hD : va_D A [(h0, .inr (1, [.ref sa, .ref la, .ref ma, .int (nI (n + 1)), .int (nI us), .int (nI mm)])), (sa, .inl (cS, 1984, .inl (va_up fs n (nI us)))), (la, .inl (cL, 1984, .inl (va_up fl n (nI w)))), (ma, .inl (cM, 1984, .inl (va_up fm n (nI 0))))] := hD.sub [0, 1, 2, 3] (by decide) rfl
    refine hj_iadd hx hb d_R_add_63 ?_
    refine va_put (D := (dC, dI)) (ci := 1) (v := .int (nI (us + (hj_sz w)))) (ty := (.int)) (C := "HalfJournal$Records") (T := F_R) (N := 6) hx hb hts i_R t_R t_R_ok n_R hown hK hP hD hS 0 rfl rfl 4 (by decide) (hts _ m_65) (fun _ h9 => h9) rfl (by decide +kernel) rfl rfl (Nat.le_of_ble_eq_true rfl) d_R_add_64 (fun H locs hP hD hS => ?_)
    have hP : va_P (dC, dI) vwCl [(h0, .inr (1, [.ref sa, .ref la, .ref ma, .int (nI (n + 1)), .int (nI (us + (hj_sz w))), .int (nI mm)])), (sa, .inl (cS, 1984, .inl (va_up fs n (nI us)))), (la, .inl (cL, 1984, .inl (va_up fl n (nI w)))), (ma, .inl (cM, 1984, .inl (va_up fm n (nI 0))))] H := hP
    have hD : va_D A [(h0, .inr (1, [.ref sa, .ref la, .ref ma, .int (nI (n + 1)), .int (nI (us + (hj_sz w))), .int (nI mm)])), (sa, .inl (cS, 1984, .inl (va_up fs n (nI us)))), (la, .inl (cL, 1984, .inl (va_up fl n (nI w)))), (ma, .inl (cM, 1984, .inl (va_up fm n (nI 0))))] := hD
    exact hret () _ _ _ _ d_R_add_67 (trivial) hP hK hD hS
  · omega
abbrev rm_R_setMark : Room := { frames := 16, cells := 0, slots := 0, locals := 200 }
set_option maxHeartbeats 4000000 in
set_option maxRecDepth 100000 in
theorem c_R_setMark (l : Launch) (dC : Nat → ClassId) (dI : Nat → Nat → Nat) (h0 sa la ma : Nat) (n us mm : Nat) (cM : ClassId) (fm : Nat → Int32) (i b z : Nat) (hn : n ≤ 1984) (hi : i < n) (hb9 : b < 2) (hz : z < 2) (hfm : fm i = nI z) (hm : z ≤ mm) : hj_Mv l y_R_setMark b_R_setMark 3 rm_R_setMark hj_EX (dC, dI) vwCl [(cM, .boolean)] [(h0, .inr (1, [.ref sa, .ref la, .ref ma, .int (nI n), .int (nI us), .int (nI mm)])), (ma, .inl (cM, 1984, .inl fm))] [.ref h0, .int (nI i), .int (nI b)] (fun y => y = mm + b - z) (fun y : Nat => [(h0, .inr (1, [.ref sa, .ref la, .ref ma, .int (nI n), .int (nI us), .int (nI y)])), (ma, .inl (cM, 1984, .inl (va_up fm i (nI b))))]) (fun _ => [(cM, .boolean)]) 0 0 := by
  refine hj_bodyV (by decide +kernel) (Nat.le_of_ble_eq_true rfl) ?_
  intro p e s m args below meth c A Q ls hx hb hts hown hml hin hA hP hK hD hE hl hret
  have hS : va_S A s.heap s.heap [] := va_S.rf
  have hown : s.vm.findClass "HalfJournal$Records" = some m.cls := hown
  have hl : lv_has ls 3 [(0, .ref h0), (1, .int (nI i)), (2, .int (nI b))] := hl
  have hP : va_P (dC, dI) vwCl [(h0, .inr (1, [.ref sa, .ref la, .ref ma, .int (nI n), .int (nI us), .int (nI mm)])), (ma, .inl (cM, 1984, .inl fm))] s.heap := hP
  have hD : va_D A [(h0, .inr (1, [.ref sa, .ref la, .ref ma, .int (nI n), .int (nI us), .int (nI mm)])), (ma, .inl (cM, 1984, .inl fm))] := hD
  refine lv_aload_n hx hb d_R_setMark_0 rfl (lv_at hl 0 rfl) ?_
  refine lv_iload_n hx hb d_R_setMark_1 rfl (lv_at hl 1 rfl) ?_
  refine hj_calli (wc := [(h0, .inr (1, [.ref sa, .ref la, .ref ma, .int (nI n), .int (nI us), .int (nI mm)]))]) (wr := [(ma, .inl (cM, 1984, .inl fm))]) [0] [1] hP hD hS hA rfl rfl rfl (by decide) (va_runV (As := [.int (nI i)]) (rest := []) ⟨hx, hb, hml, hown, hts⟩ (c_R_has l dC dI h0 sa la ma n us mm (nI i) (by omega) s.heap.size) (cwV 1 hts (hj_gV m_499 m_493 s_R_has m_3 m_494) rfl rfl rfl (by decide +kernel) ⟨Nat.le_of_ble_eq_true rfl, Nat.le_of_ble_eq_true rfl⟩) (hj_preV (ci := 1) (q0 := 0) hj_EXok hE hP hD hK hS hA [0] rfl rfl [] rfl rfl rfl) rfl rfl hl.1 rfl (lv_room (Nat.le_of_ble_eq_true rfl)) d_R_setMark_2 ⟨Nat.le_of_ble_eq_true rfl, Nat.le_of_ble_eq_true rfl⟩) (fun r_1 u_2 H locs hw hP hD hK1 hS => ?_)
  have hP : va_P (dC, dI) vwCl [(h0, .inr (1, [.ref sa, .ref la, .ref ma, .int (nI n), .int (nI us), .int (nI mm)])), (ma, .inl (cM, 1984, .inl fm))] H := hP.sub [1, 0] rfl
  have hD : va_D A [(h0, .inr (1, [.ref sa, .ref la, .ref ma, .int (nI n), .int (nI us), .int (nI mm)])), (ma, .inl (cM, 1984, .inl fm))] := hD.sub [1, 0] (by decide) rfl
  obtain rfl : r_1 = nI 1 := by
    rcases hw with ⟨_, q⟩ | ⟨q, _⟩
    · exact q
    · exact absurd (vp_in_nI hi (by omega)) q
  refine hj_if_eq (tgt := 43) hx hb (by omega) d_R_setMark_5 (by decide) (fun c_1 => ?_) (fun c_1 => ?_)
  · omega
  · refine lv_aload_n hx hb d_R_setMark_8 rfl (lv_at hl 0 rfl) ?_
    refine va_get (D := (dC, dI)) (ci := 1) (v := .ref ma) (C := "HalfJournal$Records") (T := F_R) (N := 6) hx hb hts i_R hown hK hP 0 rfl rfl 2 (by decide) (hts _ m_61) (fun _ h9 => h9) rfl d_R_setMark_9 ?_
    refine lv_iload_n hx hb d_R_setMark_12 rfl (lv_at hl 1 rfl) ?_
    refine hj_zald (v := fm i) hx hb hK hP 1 0 rfl rfl (by omega) (by decide) rfl d_R_setMark_13 ?_
    refine hj_topv (y := nI z) (hfm) ?_
    refine lv_iload_n hx hb d_R_setMark_14 rfl (lv_at hl 2 rfl) ?_
    refine hj_icmp_eq (tgt := 43) hx hb (by omega) (by omega) d_R_setMark_15 (by decide) (fun c_2 => ?_) (fun c_2 => ?_)
    · have h9 : (fm : Nat → Int32) = va_up fm i (nI b) := hj_up_same (by rw [hfm, c_2])
      rw [h9] at hP hD
      have hP : va_P (dC, dI) vwCl [(h0, .inr (1, [.ref sa, .ref la, .ref ma, .int (nI n), .int (nI us), .int (nI mm)])), (ma, .inl (cM, 1984, .inl (va_up fm i (nI b))))] H := hP
      have hD : va_D A [(h0, .inr (1, [.ref sa, .ref la, .ref ma, .int (nI n), .int (nI us), .int (nI mm)])), (ma, .inl (cM, 1984, .inl (va_up fm i (nI b))))] := hD
      exact hret mm _ _ _ _ d_R_setMark_43 (by omega) hP hK hD hS
    · refine lv_aload_n hx hb d_R_setMark_18 rfl (lv_at hl 0 rfl) ?_
      refine va_get (D := (dC, dI)) (ci := 1) (v := .ref ma) (C := "HalfJournal$Records") (T := F_R) (N := 6) hx hb hts i_R hown hK hP 0 rfl rfl 2 (by decide) (hts _ m_61) (fun _ h9 => h9) rfl d_R_setMark_19 ?_
      refine lv_iload_n hx hb d_R_setMark_22 rfl (lv_at hl 1 rfl) ?_
      refine lv_iload_n hx hb d_R_setMark_23 rfl (lv_at hl 2 rfl) ?_
      refine hj_zast hx hb hK hP hD hS 1 0 rfl rfl (by omega) (by omega) (by decide) d_R_setMark_24 (fun H locs hP hD hS => ?_)
      have hP : va_P (dC, dI) vwCl [(h0, .inr (1, [.ref sa, .ref la, .ref ma, .int (nI n), .int (nI us), .int (nI mm)])), (ma, .inl (cM, 1984, .inl (va_up fm i (nI b))))] H := hP
      have hD : va_D A [(h0, .inr (1, [.ref sa, .ref la, .ref ma, .int (nI n), .int (nI us), .int (nI mm)])), (ma, .inl (cM, 1984, .inl (va_up fm i (nI b))))] := hD
      refine lv_aload_n hx hb d_R_setMark_25 rfl (lv_at hl 0 rfl) ?_
      refine lv_dup hx hb d_R_setMark_26 rfl ?_
      refine va_get (D := (dC, dI)) (ci := 1) (v := .int (nI mm)) (C := "HalfJournal$Records") (T := F_R) (N := 6) hx hb hts i_R hown hK hP 0 rfl rfl 5 (by decide) (hts _ m_67) (fun _ h9 => h9) rfl d_R_setMark_27 ?_
      refine lv_iload_n hx hb d_R_setMark_30 rfl (lv_at hl 2 rfl) ?_
      refine hj_if_eq (tgt := 38) hx hb (by omega) d_R_setMark_31 (by decide) (fun c_3 => ?_) (fun c_3 => ?_)
      · refine lv_iconst (v := (-1)) hx hb d_R_setMark_38 (by decide) ?_
        refine lv_iadd hx hb d_R_setMark_39 ?_
        refine hj_topv (y := nI (mm - 1)) (sb_m1 (by omega)) ?_
        refine va_put (D := (dC, dI)) (ci := 1) (v := .int (nI (mm - 1))) (ty := (.int)) (C := "HalfJournal$Records") (T := F_R) (N := 6) hx hb hts i_R t_R t_R_ok n_R hown hK hP hD hS 0 rfl rfl 5 (by decide) (hts _ m_67) (fun _ h9 => h9) rfl (by decide +kernel) rfl rfl (Nat.le_of_ble_eq_true rfl) d_R_setMark_40 (fun H locs hP hD hS => ?_)
        have hP : va_P (dC, dI) vwCl [(h0, .inr (1, [.ref sa, .ref la, .ref ma, .int (nI n), .int (nI us), .int (nI (mm - 1))])), (ma, .inl (cM, 1984, .inl (va_up fm i (nI b))))] H := hP
        have hD : va_D A [(h0, .inr (1, [.ref sa, .ref la, .ref ma, .int (nI n), .int (nI us), .int (nI (mm - 1))])), (ma, .inl (cM, 1984, .inl (va_up fm i (nI b))))] := hD
        exact hret (mm - 1) _ _ _ _ d_R_setMark_43 (by omega) hP hK hD hS
      · refine lv_iconst (v := nI 1) hx hb d_R_setMark_34 (by decide) ?_
        refine lv_goto (tgt := 39) hx hb d_R_setMark_35 (by decide) ?_
        refine hj_iadd hx hb d_R_setMark_39 ?_
        refine va_put (D := (dC, dI)) (ci := 1) (v := .int (nI (mm + 1))) (ty := (.int)) (C := "HalfJournal$Records") (T := F_R) (N := 6) hx hb hts i_R t_R t_R_ok n_R hown hK hP hD hS 0 rfl rfl 5 (by decide) (hts _ m_67) (fun _ h9 => h9) rfl (by decide +kernel) rfl rfl (Nat.le_of_ble_eq_true rfl) d_R_setMark_40 (fun H locs hP hD hS => ?_)
        have hP : va_P (dC, dI) vwCl [(h0, .inr (1, [.ref sa, .ref la, .ref ma, .int (nI n), .int (nI us), .int (nI (mm + 1))])), (ma, .inl (cM, 1984, .inl (va_up fm i (nI b))))] H := hP
        have hD : va_D A [(h0, .inr (1, [.ref sa, .ref la, .ref ma, .int (nI n), .int (nI us), .int (nI (mm + 1))])), (ma, .inl (cM, 1984, .inl (va_up fm i (nI b))))] := hD
        exact hret (mm + 1) _ _ _ _ d_R_setMark_43 (by omega) hP hK hD hS
end
section
theorem hj_hb_le {h : Nat} (hh : h < 2) : hj_hb h ≤ 16896 := by unfold hj_hb; omega
theorem hj_m1_lt {a : Nat} (h : a < 2 ^ 30) : nI a - 1 < nI a := by
  rw [Int32.lt_iff_toInt_lt]
  have h1 := pk_sub_toInt (a := a) (b := 1) h (by omega)
  rw [show nI a - 1 = nI a - nI 1 from rfl, h1, nI_toInt (by omega)]
  omega
theorem hj_four_bytes {d : Nat → Nat} (hd : hj_bs d) {k h : Nat} (hh : h < 256) : hj_four d k = 12618 + 65536 * h ↔ d k = 74 ∧ d (k + 1) = 49 ∧ d (k + 2) = h ∧ d (k + 3) = 0 := by
  have h0 := hd k; have h1 := hd (k + 1); have h2 := hd (k + 2); have h3 := hd (k + 3)
  unfold hj_four
  omega
theorem hj_max0 {v : Nat} (h : v < 2 ^ 32) : (if nI v < nI 0 then nI 0 else nI v) = nI (if v < 2 ^ 31 then v else 0) := by
  by_cases q : v < 2 ^ 31
  · rw [if_pos q, if_neg (show ¬ nI v < nI 0 from nI_pos q)]
  · rw [if_neg q, if_pos ?_]
    rw [Int32.lt_iff_toInt_lt]
    have h1 : (nI v).toInt = (v : Int) - 2 ^ 32 := by
      show (BitVec.ofNat 32 v).toInt = _
      rw [BitVec.toInt_eq_toNat_cond, BitVec.toNat_ofNat, Nat.mod_eq_of_lt h, if_neg (by omega)]
      rfl
    rw [h1, show (nI 0).toInt = 0 by decide]
    omega
theorem hj_hg_of {d : Nat → Nat} (hd : hj_bs d) {b : Nat} (h1 : hj_four d (512 * b) = 12618 + 65536 * 0 ∨ hj_four d (512 * b) = 12618 + 65536 * 1) (h2 : hj_four d (512 * b + 8) = hj_chk d (512 * b) 8) : (if hj_four d (512 * b + 4) < 2 ^ 31 then hj_four d (512 * b + 4) else 0) = hj_hg d b := by
  have h3 : d (512 * b) = 74 ∧ d (512 * b + 1) = 49 ∧ d (512 * b + 2) < 2 ∧ d (512 * b + 3) = 0 := by
    rcases h1 with h | h
    · have := (hj_four_bytes hd (by omega)).mp h; omega
    · have := (hj_four_bytes hd (by omega)).mp h; omega
  by_cases q : hj_four d (512 * b + 4) < 2 ^ 31
  · rw [if_pos q]
    by_cases z : 0 < hj_four d (512 * b + 4)
    · exact (hj_hg_ok ⟨h3.1, h3.2.1, h3.2.2.1, h3.2.2.2, z, q, h2⟩).symm
    · rw [hj_hg_no (fun r => z r.2.2.2.2.1)]; omega
  · rw [if_neg q, hj_hg_no (fun r => q r.2.2.2.2.2.1)]
theorem hj_hg_no1 {d : Nat → Nat} (hd : hj_bs d) {b : Nat} (h0 : ¬ hj_four d (512 * b) = 12618 + 65536 * 0) (h1 : ¬ hj_four d (512 * b) = 12618 + 65536 * 1) : hj_hg d b = 0 := by
  refine hj_hg_no (fun r => ?_)
  obtain ⟨r1, r2, r3, r4, -⟩ := r
  rcases (show d (512 * b + 2) = 0 ∨ d (512 * b + 2) = 1 by omega) with q | q
  · exact h0 ((hj_four_bytes hd (by omega)).mpr ⟨r1, r2, q, r4⟩)
  · exact h1 ((hj_four_bytes hd (by omega)).mpr ⟨r1, r2, q, r4⟩)
theorem hj_hd_ph (pl : Nat → Nat) (h g j : Nat) (hj : j < 512) : hj_ph (hj_clr pl 0 512) 0 h g (0 + j) = hj_hd h g (0 + j) := by
  unfold hj_ph
  rw [Nat.zero_add]
  by_cases q : j < 12
  · rw [if_pos (by omega)]; rfl
  · rw [if_neg (by omega)]
    unfold hj_clr hj_hd hj_hd0
    rw [if_pos (by omega), if_neg (by omega), if_neg (by omega), if_neg (by omega), if_neg (by omega), if_neg (by omega), if_neg (by omega)]
theorem hj_plan {d pl tp : Nat → Nat} {h us tl f1 l1 : Nat} (h1 : 512 * f1 ≤ us) (h2 : us + 6 + tl ≤ 512 * (l1 + 1)) :
    ∀ q, 512 * f1 ≤ q → q < 512 * (l1 + 1) → hj_pn (va_cpy tp (hj_pn (hj_clr (va_cpy d pl (hj_hb h + f1 * 512) (f1 * 512) (us - f1 * 512)) us ((l1 + 1) * 512)) us 2 tl) 0 (us + 2) tl) (us + (2 + tl)) 4 (hj_chk (va_cpy tp (hj_pn (hj_clr (va_cpy d pl (hj_hb h + f1 * 512) (f1 * 512) (us - f1 * 512)) us ((l1 + 1) * 512)) us 2 tl) 0 (us + 2) tl) us (2 + tl)) q = hj_im d h us tp tl q := by
  have e0 : ∀ q, 512 * f1 ≤ q → q < 512 * (l1 + 1) → va_cpy tp (hj_pn (hj_clr (va_cpy d pl (hj_hb h + f1 * 512) (f1 * 512) (us - f1 * 512)) us ((l1 + 1) * 512)) us 2 tl) 0 (us + 2) tl q = hj_im0 d h us tp tl q := by
    intro q q1 q2
    unfold hj_im0
    by_cases a1 : q < us
    · rw [if_pos a1]
      unfold va_cpy
      rw [if_neg (by omega)]
      unfold hj_pn
      rw [if_neg (by omega)]
      unfold hj_clr
      rw [if_neg (by omega)]
      dsimp only
      rw [if_pos (by omega)]
      congr 1
      omega
    · rw [if_neg a1]
      by_cases a2 : q < us + 2
      · rw [if_pos a2]
        unfold va_cpy
        rw [if_neg (by omega)]
        unfold hj_pn
        rw [if_pos (by omega)]
      · rw [if_neg a2]
        by_cases a3 : q < us + 2 + tl
        · rw [if_pos a3]
          unfold va_cpy
          rw [if_pos (by omega)]
          congr 1
          omega
        · rw [if_neg a3]
          unfold va_cpy
          rw [if_neg (by omega)]
          unfold hj_pn
          rw [if_neg (by omega)]
          unfold hj_clr
          rw [if_pos (by omega)]
  generalize va_cpy tp (hj_pn (hj_clr (va_cpy d pl (hj_hb h + f1 * 512) (f1 * 512) (us - f1 * 512)) us ((l1 + 1) * 512)) us 2 tl) 0 (us + 2) tl = P at e0 ⊢
  have ec : hj_chk P us (2 + tl) = hj_chk (hj_im0 d h us tp tl) us (2 + tl) := hj_chk_congr (fun j hj => e0 _ (by omega) (by omega))
  intro q q1 q2
  rw [ec]
  unfold hj_pn hj_im
  by_cases a : us + 2 + tl ≤ q ∧ q < us + 6 + tl
  · rw [if_pos a, if_pos (by omega), show us + (2 + tl) = us + 2 + tl by omega]
  · rw [if_neg a, if_neg (by omega)]; exact e0 q q1 q2
abbrev rm_J_leave : Room := { frames := 16, cells := 0, slots := 0, locals := 200 }
set_option maxHeartbeats 4000000 in
set_option maxRecDepth 100000 in
theorem c_J_leave (l : Launch) (dC : Nat → ClassId) (dI : Nat → Nat → Nat) (j dk rc ta pa : Nat) (tl st g h : Nat) (sa la ma : Nat) (n us mm : Nat) (z : Nat) : hj_Mv l y_J_leave b_J_leave 2 rm_J_leave hj_EX (dC, dI) vwCl [] [(j, .inr (2, [.ref dk, .ref rc, .ref ta, .ref pa, .int (nI tl), .int (nI st), .int (nI g), .int (nI h)])), (rc, .inr (1, [.ref sa, .ref la, .ref ma, .int (nI n), .int (nI us), .int (nI mm)]))] [.ref j, .int (nI z)] (fun _ => True) (fun _ : Unit => [(j, .inr (2, [.ref dk, .ref rc, .ref ta, .ref pa, .int (nI tl), .int (nI z), .int (nI 0), .int (nI 0)])), (rc, .inr (1, [.ref sa, .ref la, .ref ma, .int (nI 0), .int (nI 0), .int (nI 0)]))]) (fun _ => []) 0 0 := by
  refine hj_bodyV (by decide +kernel) (Nat.le_of_ble_eq_true rfl) ?_
  intro p e s m args below meth c A Q ls hx hb hts hown hml hin hA hP hK hD hE hl hret
  have hS : va_S A s.heap s.heap [] := va_S.rf
  have hown : s.vm.findClass "HalfJournal" = some m.cls := hown
  have hl : lv_has ls 2 [(0, .ref j), (1, .int (nI z))] := hl
  have hP : va_P (dC, dI) vwCl [(j, .inr (2, [.ref dk, .ref rc, .ref ta, .ref pa, .int (nI tl), .int (nI st), .int (nI g), .int (nI h)])), (rc, .inr (1, [.ref sa, .ref la, .ref ma, .int (nI n), .int (nI us), .int (nI mm)]))] s.heap := hP
  have hD : va_D A [(j, .inr (2, [.ref dk, .ref rc, .ref ta, .ref pa, .int (nI tl), .int (nI st), .int (nI g), .int (nI h)])), (rc, .inr (1, [.ref sa, .ref la, .ref ma, .int (nI n), .int (nI us), .int (nI mm)]))] := hD
  refine lv_aload_n hx hb d_J_leave_0 rfl (lv_at hl 0 rfl) ?_
  refine lv_iload_n hx hb d_J_leave_1 rfl (lv_at hl 1 rfl) ?_
  refine va_put (D := (dC, dI)) (ci := 2) (v := .int (nI z)) (ty := (.int)) (C := "HalfJournal") (T := F_J) (N := 8) hx hb hts i_J t_J t_J_ok n_J hown hK hP hD hS 0 rfl rfl 5 (by decide) (hts _ m_89) (fun _ h9 => h9) rfl (by decide +kernel) rfl rfl (Nat.le_of_ble_eq_true rfl) d_J_leave_2 (fun H locs hP hD hS => ?_)
  have hP : va_P (dC, dI) vwCl [(j, .inr (2, [.ref dk, .ref rc, .ref ta, .ref pa, .int (nI tl), .int (nI z), .int (nI g), .int (nI h)])), (rc, .inr (1, [.ref sa, .ref la, .ref ma, .int (nI n), .int (nI us), .int (nI mm)]))] H := hP
  have hD : va_D A [(j, .inr (2, [.ref dk, .ref rc, .ref ta, .ref pa, .int (nI tl), .int (nI z), .int (nI g), .int (nI h)])), (rc, .inr (1, [.ref sa, .ref la, .ref ma, .int (nI n), .int (nI us), .int (nI mm)]))] := hD
  refine lv_aload_n hx hb d_J_leave_5 rfl (lv_at hl 0 rfl) ?_
  refine lv_iconst (v := nI 0) hx hb d_J_leave_6 (by decide) ?_
  refine va_put (D := (dC, dI)) (ci := 2) (v := .int (nI 0)) (ty := (.int)) (C := "HalfJournal") (T := F_J) (N := 8) hx hb hts i_J t_J t_J_ok n_J hown hK hP hD hS 0 rfl rfl 6 (by decide) (hts _ m_90) (fun _ h9 => h9) rfl (by decide +kernel) rfl rfl (Nat.le_of_ble_eq_true rfl) d_J_leave_7 (fun H locs hP hD hS => ?_)
  have hP : va_P (dC, dI) vwCl [(j, .inr (2, [.ref dk, .ref rc, .ref ta, .ref pa, .int (nI tl), .int (nI z), .int (nI 0), .int (nI h)])), (rc, .inr (1, [.ref sa, .ref la, .ref ma, .int (nI n), .int (nI us), .int (nI mm)]))] H := hP
  have hD : va_D A [(j, .inr (2, [.ref dk, .ref rc, .ref ta, .ref pa, .int (nI tl), .int (nI z), .int (nI 0), .int (nI h)])), (rc, .inr (1, [.ref sa, .ref la, .ref ma, .int (nI n), .int (nI us), .int (nI mm)]))] := hD
  refine lv_aload_n hx hb d_J_leave_10 rfl (lv_at hl 0 rfl) ?_
  refine lv_iconst (v := nI 0) hx hb d_J_leave_11 (by decide) ?_
  refine va_put (D := (dC, dI)) (ci := 2) (v := .int (nI 0)) (ty := (.int)) (C := "HalfJournal") (T := F_J) (N := 8) hx hb hts i_J t_J t_J_ok n_J hown hK hP hD hS 0 rfl rfl 7 (by decide) (hts _ m_91) (fun _ h9 => h9) rfl (by decide +kernel) rfl rfl (Nat.le_of_ble_eq_true rfl) d_J_leave_12 (fun H locs hP hD hS => ?_)
  have hP : va_P (dC, dI) vwCl [(j, .inr (2, [.ref dk, .ref rc, .ref ta, .ref pa, .int (nI tl), .int (nI z), .int (nI 0), .int (nI 0)])), (rc, .inr (1, [.ref sa, .ref la, .ref ma, .int (nI n), .int (nI us), .int (nI mm)]))] H := hP
  have hD : va_D A [(j, .inr (2, [.ref dk, .ref rc, .ref ta, .ref pa, .int (nI tl), .int (nI z), .int (nI 0), .int (nI 0)])), (rc, .inr (1, [.ref sa, .ref la, .ref ma, .int (nI n), .int (nI us), .int (nI mm)]))] := hD
  refine lv_aload_n hx hb d_J_leave_15 rfl (lv_at hl 0 rfl) ?_
  refine va_get (D := (dC, dI)) (ci := 2) (v := .ref rc) (C := "HalfJournal") (T := F_J) (N := 8) hx hb hts i_J hown hK hP 0 rfl rfl 1 (by decide) (hts _ m_85) (fun _ h9 => h9) rfl d_J_leave_16 ?_
  refine hj_callv (wc := [(rc, .inr (1, [.ref sa, .ref la, .ref ma, .int (nI n), .int (nI us), .int (nI mm)]))]) (wr := [(j, .inr (2, [.ref dk, .ref rc, .ref ta, .ref pa, .int (nI tl), .int (nI z), .int (nI 0), .int (nI 0)]))]) [1] [0] hP hD hS hA rfl rfl rfl (by decide) (va_runVN (As := []) (rest := []) ⟨hx, hb, hml, hown, hts⟩ (c_R_clear l dC dI rc sa la ma n us mm H.size) ⟨va_cnB 0 hts (hj_gC m_457) rfl rfl rfl (hE.1 _ m_454) (hts _ m_3) (by decide +kernel) ⟨Nat.le_of_ble_eq_true rfl, Nat.le_of_ble_eq_true rfl⟩, hts _ m_456, hts _ s_R_clear⟩ (hj_preV (ci := 1) (q0 := 1) hj_EXok hE hP hD hK hS hA [1] rfl rfl [] rfl rfl rfl) rfl rfl hl.1 rfl (lv_room (Nat.le_of_ble_eq_true rfl)) d_J_leave_19 ⟨Nat.le_of_ble_eq_true rfl, Nat.le_of_ble_eq_true rfl⟩) (fun u_2 H locs hw hP hD hK1 hS => ?_)
  have hP : va_P (dC, dI) vwCl [(j, .inr (2, [.ref dk, .ref rc, .ref ta, .ref pa, .int (nI tl), .int (nI z), .int (nI 0), .int (nI 0)])), (rc, .inr (1, [.ref sa, .ref la, .ref ma, .int (nI 0), .int (nI 0), .int (nI 0)]))] H := hP.sub [0, 1] rfl
  have hD : va_D A [(j, .inr (2, [.ref dk, .ref rc, .ref ta, .ref pa, .int (nI tl), .int (nI z), .int (nI 0), .int (nI 0)])), (rc, .inr (1, [.ref sa, .ref la, .ref ma, .int (nI 0), .int (nI 0), .int (nI 0)]))] := hD.sub [0, 1] (by decide) rfl
  exact hret () _ _ _ _ d_J_leave_22 (trivial) hP hK hD hS
abbrev rm_J_lengthOfRecordAt : Room := { frames := 24, cells := 0, slots := 0, locals := 300 }
set_option maxHeartbeats 4000000 in
set_option maxRecDepth 100000 in
theorem c_J_lengthOfRecordAt (l : Launch) (dC : Nat → ClassId) (dI : Nat → Nat → Nat) (j dk rc ta pa : Nat) (tl st g h : Nat) (a : Nat) (cA : ClassId) (d : Nat → Nat) (du wr : Int32) (o : Nat) (hh : h < 2) (ho : o ≤ 15872) (hd : hj_bs d) : hj_Mi l y_J_lengthOfRecordAt b_J_lengthOfRecordAt 6 .int rm_J_lengthOfRecordAt hj_EX (dC, dI) vwCl [(cA, .byte)] [(j, .inr (2, [.ref dk, .ref rc, .ref ta, .ref pa, .int (nI tl), .int (nI st), .int (nI g), .int (nI h)])), (dk, .inr (0, [.ref a, .int du, .int wr])), (a, .inl (cA, 32768, .inl (hj_B d)))] [.ref j, .int (nI o)] (fun r _ => r = nI (hj_rl d h o)) (fun _ : Unit => [(j, .inr (2, [.ref dk, .ref rc, .ref ta, .ref pa, .int (nI tl), .int (nI st), .int (nI g), .int (nI h)])), (dk, .inr (0, [.ref a, .int du, .int wr])), (a, .inl (cA, 32768, .inl (hj_B d)))]) (fun _ => [(cA, .byte)]) 0 0 := by
  refine hj_bodyI (by decide +kernel) (Nat.le_of_ble_eq_true rfl) ?_
  intro p e s m args below meth c A Q ls hx hb hts hown hml hA hP hK hD hE hl hret
  have hS : va_S A s.heap s.heap [] := va_S.rf
  have hown : s.vm.findClass "HalfJournal" = some m.cls := hown
  have hl : lv_has ls 6 [(0, .ref j), (1, .int (nI o))] := hl
  have hP : va_P (dC, dI) vwCl [(j, .inr (2, [.ref dk, .ref rc, .ref ta, .ref pa, .int (nI tl), .int (nI st), .int (nI g), .int (nI h)])), (dk, .inr (0, [.ref a, .int du, .int wr])), (a, .inl (cA, 32768, .inl (hj_B d)))] s.heap := hP
  have hD : va_D A [(j, .inr (2, [.ref dk, .ref rc, .ref ta, .ref pa, .int (nI tl), .int (nI st), .int (nI g), .int (nI h)])), (dk, .inr (0, [.ref a, .int du, .int wr])), (a, .inl (cA, 32768, .inl (hj_B d)))] := hD
  have hhb := hj_hb_le hh
  refine lv_iload_n hx hb d_J_lengthOfRecordAt_0 rfl (lv_at hl 1 rfl) ?_
  refine lv_sipush (v := nI 15870) hx hb d_J_lengthOfRecordAt_1 (by decide) ?_
  refine hj_icmp_le (tgt := 9) hx hb (by omega) (by omega) d_J_lengthOfRecordAt_4 (by decide) (fun c_1 => ?_) (fun c_1 => ?_)
  · refine lv_aload_n hx hb d_J_lengthOfRecordAt_9 rfl (lv_at hl 0 rfl) ?_
    refine va_get (D := (dC, dI)) (ci := 2) (v := .int (nI h)) (C := "HalfJournal") (T := F_J) (N := 8) hx hb hts i_J hown hK hP 0 rfl rfl 7 (by decide) (hts _ m_91) (fun _ h9 => h9) rfl d_J_lengthOfRecordAt_10 ?_
    refine hj_calli (wc := []) (wr := [(j, .inr (2, [.ref dk, .ref rc, .ref ta, .ref pa, .int (nI tl), .int (nI st), .int (nI g), .int (nI h)])), (dk, .inr (0, [.ref a, .int du, .int wr])), (a, .inl (cA, 32768, .inl (hj_B d)))]) [] [0, 1, 2] hP hD hS hA rfl rfl rfl (by decide) (va_runS (As := [.int (nI h)]) (rest := []) ⟨hx, hb, hml, hown, hts⟩ (c_J_firstByteOf l dC dI h s.heap.size) (cwS 1 hts (hj_gS m_462 m_463 m_1 m_464) rfl rfl rfl (by decide +kernel) ⟨Nat.le_of_ble_eq_true rfl, Nat.le_of_ble_eq_true rfl⟩) (hj_preS hj_EXok hE hP hD hK hS hA [] rfl rfl [] rfl) rfl rfl hl.1 rfl (lv_room (Nat.le_of_ble_eq_true rfl)) d_J_lengthOfRecordAt_13 ⟨Nat.le_of_ble_eq_true rfl, Nat.le_of_ble_eq_true rfl⟩) (fun r_1 u_2 H locs hw hP hD hK1 hS => ?_)
    subst hw
    have hP : va_P (dC, dI) vwCl [(j, .inr (2, [.ref dk, .ref rc, .ref ta, .ref pa, .int (nI tl), .int (nI st), .int (nI g), .int (nI h)])), (dk, .inr (0, [.ref a, .int du, .int wr])), (a, .inl (cA, 32768, .inl (hj_B d)))] H := hP.sub [0, 1, 2] rfl
    have hD : va_D A [(j, .inr (2, [.ref dk, .ref rc, .ref ta, .ref pa, .int (nI tl), .int (nI st), .int (nI g), .int (nI h)])), (dk, .inr (0, [.ref a, .int du, .int wr])), (a, .inl (cA, 32768, .inl (hj_B d)))] := hD.sub [0, 1, 2] (by decide) rfl
    refine lv_iload_n hx hb d_J_lengthOfRecordAt_16 rfl (lv_at hl 1 rfl) ?_
    refine hj_iadd hx hb d_J_lengthOfRecordAt_17 ?_
    refine lv_istore_n (lv' := [(2, .int (nI ((hj_hb h) + o))), (0, .ref j), (1, .int (nI o))]) hx hb d_J_lengthOfRecordAt_18 rfl hl (by decide) rfl (fun ls hl => ?_)
    refine lv_aload_n hx hb d_J_lengthOfRecordAt_19 rfl (lv_at hl 1 rfl) ?_
    refine va_get (D := (dC, dI)) (ci := 2) (v := .ref dk) (C := "HalfJournal") (T := F_J) (N := 8) hx hb hts i_J hown hK hP 0 rfl rfl 0 (by decide) (hts _ m_84) (fun _ h9 => h9) rfl d_J_lengthOfRecordAt_20 ?_
    refine va_getN (D := (dC, dI)) (ci := 0) (v := .ref a) (C := "HalfJournal$Disk") (T := F_D) (N := 3) hx hb hts i_D hown hK hP 1 rfl rfl 0 (by decide) (va_Nw.use rfl (hE.1 _ m_38)) (fun _ h9 => h9) rfl d_J_lengthOfRecordAt_23 ?_
    refine lv_iload_n hx hb d_J_lengthOfRecordAt_26 rfl (lv_at hl 0 rfl) ?_
    refine lv_iconst (v := nI 2) hx hb d_J_lengthOfRecordAt_27 (by decide) ?_
    refine hj_calli (wc := [(a, .inl (cA, 32768, .inl (hj_B d)))]) (wr := [(j, .inr (2, [.ref dk, .ref rc, .ref ta, .ref pa, .int (nI tl), .int (nI st), .int (nI g), .int (nI h)])), (dk, .inr (0, [.ref a, .int du, .int wr]))]) [2] [0, 1] hP hD hS hA rfl rfl rfl (by decide) (va_runS (As := [.ref a, .int (nI ((hj_hb h) + o)), .int (nI 2)]) (rest := []) ⟨hx, hb, hml, hown, hts⟩ (c_J_number l dC dI a cA 32768 d (hj_hb h + o) 2 (by omega) (by omega) (by omega) hd H.size) (cwS 3 hts (hj_gS m_468 m_469 m_1 m_470) rfl rfl rfl (by decide +kernel) ⟨Nat.le_of_ble_eq_true rfl, Nat.le_of_ble_eq_true rfl⟩) (hj_preS hj_EXok hE hP hD hK hS hA [2] rfl rfl [0] rfl) rfl rfl hl.1 rfl (lv_room (Nat.le_of_ble_eq_true rfl)) d_J_lengthOfRecordAt_28 ⟨Nat.le_of_ble_eq_true rfl, Nat.le_of_ble_eq_true rfl⟩) (fun r_3 u_4 H locs hw hP hD hK1 hS => ?_)
    subst hw
    have hP : va_P (dC, dI) vwCl [(j, .inr (2, [.ref dk, .ref rc, .ref ta, .ref pa, .int (nI tl), .int (nI st), .int (nI g), .int (nI h)])), (dk, .inr (0, [.ref a, .int du, .int wr])), (a, .inl (cA, 32768, .inl (hj_B d)))] H := hP.sub [0, 1, 2] rfl
    have hD : va_D A [(j, .inr (2, [.ref dk, .ref rc, .ref ta, .ref pa, .int (nI tl), .int (nI st), .int (nI g), .int (nI h)])), (dk, .inr (0, [.ref a, .int du, .int wr])), (a, .inl (cA, 32768, .inl (hj_B d)))] := hD.sub [0, 1, 2] (by decide) rfl
    obtain ⟨x, hxx⟩ : ∃ x, x = hj_len d (hj_hb h + o) := ⟨_, rfl⟩
    have hx16 : x < 65536 := by rw [hxx]; exact hj_len_lt hd _
    refine hj_topn (b := x) (by rw [hj_num2, hxx]) ?_
    refine lv_istore_n (lv' := [(3, .int (nI x)), (2, .int (nI ((hj_hb h) + o))), (0, .ref j), (1, .int (nI o))]) hx hb d_J_lengthOfRecordAt_31 rfl hl (by decide) rfl (fun ls hl => ?_)
    refine lv_iload_n hx hb d_J_lengthOfRecordAt_32 rfl (lv_at hl 0 rfl) ?_
    refine lv_iconst (v := nI 1) hx hb d_J_lengthOfRecordAt_33 (by decide) ?_
    refine hj_icmp_lt (tgt := 56) hx hb (by omega) (by omega) d_J_lengthOfRecordAt_34 (by decide) (fun c_3 => ?_) (fun c_3 => ?_)
    · refine lv_iconst (v := nI 0) hx hb d_J_lengthOfRecordAt_56 (by decide) ?_
      exact hret (nI 0) () _ _ _ _ d_J_lengthOfRecordAt_57 rfl (by rw [hj_rl_no (fun q => by have := q.2.1; rw [← hxx] at this; omega)]) hP hK hD hS
    · refine lv_iload_n hx hb d_J_lengthOfRecordAt_37 rfl (lv_at hl 0 rfl) ?_
      refine lv_sipush (v := nI 1000) hx hb d_J_lengthOfRecordAt_38 (by decide) ?_
      refine hj_icmp_gt (tgt := 56) hx hb (by omega) (by omega) d_J_lengthOfRecordAt_41 (by decide) (fun c_4 => ?_) (fun c_4 => ?_)
      · refine lv_iconst (v := nI 0) hx hb d_J_lengthOfRecordAt_56 (by decide) ?_
        exact hret (nI 0) () _ _ _ _ d_J_lengthOfRecordAt_57 rfl (by rw [hj_rl_no (fun q => by have := q.2.2.1; rw [← hxx] at this; omega)]) hP hK hD hS
      · refine lv_iload_n hx hb d_J_lengthOfRecordAt_44 rfl (lv_at hl 0 rfl) ?_
        refine hj_calli (wc := []) (wr := [(j, .inr (2, [.ref dk, .ref rc, .ref ta, .ref pa, .int (nI tl), .int (nI st), .int (nI g), .int (nI h)])), (dk, .inr (0, [.ref a, .int du, .int wr])), (a, .inl (cA, 32768, .inl (hj_B d)))]) [] [0, 1, 2] hP hD hS hA rfl rfl rfl (by decide) (va_runS (As := [.int (nI x)]) (rest := []) ⟨hx, hb, hml, hown, hts⟩ (c_J_sizeOf l dC dI x (by omega) H.size) (cwS 1 hts (hj_gS m_471 m_472 m_1 m_473) rfl rfl rfl (by decide +kernel) ⟨Nat.le_of_ble_eq_true rfl, Nat.le_of_ble_eq_true rfl⟩) (hj_preS hj_EXok hE hP hD hK hS hA [] rfl rfl [] rfl) rfl rfl hl.1 rfl (lv_room (Nat.le_of_ble_eq_true rfl)) d_J_lengthOfRecordAt_45 ⟨Nat.le_of_ble_eq_true rfl, Nat.le_of_ble_eq_true rfl⟩) (fun r_5 u_6 H locs hw hP hD hK1 hS => ?_)
        subst hw
        have hP : va_P (dC, dI) vwCl [(j, .inr (2, [.ref dk, .ref rc, .ref ta, .ref pa, .int (nI tl), .int (nI st), .int (nI g), .int (nI h)])), (dk, .inr (0, [.ref a, .int du, .int wr])), (a, .inl (cA, 32768, .inl (hj_B d)))] H := hP.sub [0, 1, 2] rfl
        have hD : va_D A [(j, .inr (2, [.ref dk, .ref rc, .ref ta, .ref pa, .int (nI tl), .int (nI st), .int (nI g), .int (nI h)])), (dk, .inr (0, [.ref a, .int du, .int wr])), (a, .inl (cA, 32768, .inl (hj_B d)))] := hD.sub [0, 1, 2] (by decide) rfl
        have hsz := hj_sz_le x
        refine lv_sipush (v := nI 15872) hx hb d_J_lengthOfRecordAt_48 (by decide) ?_
        refine lv_iload_n hx hb d_J_lengthOfRecordAt_51 rfl (lv_at hl 3 rfl) ?_
        refine hj_isub hx hb (by omega) d_J_lengthOfRecordAt_52 ?_
        refine hj_icmp_le (tgt := 58) hx hb (by omega) (by omega) d_J_lengthOfRecordAt_53 (by decide) (fun c_5 => ?_) (fun c_5 => ?_)
        · have hsz6 : hj_sz x = 6 + x + x % 2 := rfl
          refine lv_iconst (v := nI 2) hx hb d_J_lengthOfRecordAt_58 (by decide) ?_
          refine lv_iload_n hx hb d_J_lengthOfRecordAt_59 rfl (lv_at hl 0 rfl) ?_
          refine hj_iadd hx hb d_J_lengthOfRecordAt_60 ?_
          refine lv_istore (lv' := [(4, .int (nI (2 + x))), (3, .int (nI x)), (2, .int (nI ((hj_hb h) + o))), (0, .ref j), (1, .int (nI o))]) hx hb d_J_lengthOfRecordAt_61 hl (by decide) rfl (fun ls hl => ?_)
          refine lv_aload_n hx hb d_J_lengthOfRecordAt_63 rfl (lv_at hl 3 rfl) ?_
          refine va_get (D := (dC, dI)) (ci := 2) (v := .ref dk) (C := "HalfJournal") (T := F_J) (N := 8) hx hb hts i_J hown hK hP 0 rfl rfl 0 (by decide) (hts _ m_84) (fun _ h9 => h9) rfl d_J_lengthOfRecordAt_64 ?_
          refine va_getN (D := (dC, dI)) (ci := 0) (v := .ref a) (C := "HalfJournal$Disk") (T := F_D) (N := 3) hx hb hts i_D hown hK hP 1 rfl rfl 0 (by decide) (va_Nw.use rfl (hE.1 _ m_38)) (fun _ h9 => h9) rfl d_J_lengthOfRecordAt_67 ?_
          refine lv_iload_n hx hb d_J_lengthOfRecordAt_70 rfl (lv_at hl 2 rfl) ?_
          refine lv_iload hx hb d_J_lengthOfRecordAt_71 (lv_at hl 0 rfl) ?_
          refine hj_iadd hx hb d_J_lengthOfRecordAt_73 ?_
          refine lv_iconst (v := nI 4) hx hb d_J_lengthOfRecordAt_74 (by decide) ?_
          refine hj_calli (wc := [(a, .inl (cA, 32768, .inl (hj_B d)))]) (wr := [(j, .inr (2, [.ref dk, .ref rc, .ref ta, .ref pa, .int (nI tl), .int (nI st), .int (nI g), .int (nI h)])), (dk, .inr (0, [.ref a, .int du, .int wr]))]) [2] [0, 1] hP hD hS hA rfl rfl rfl (by decide) (va_runS (As := [.ref a, .int (nI (((hj_hb h) + o) + (2 + x))), .int (nI 4)]) (rest := []) ⟨hx, hb, hml, hown, hts⟩ (c_J_number l dC dI a cA 32768 d (hj_hb h + o + (2 + x)) 4 (by omega) (by omega) (by omega) hd H.size) (cwS 3 hts (hj_gS m_468 m_469 m_1 m_470) rfl rfl rfl (by decide +kernel) ⟨Nat.le_of_ble_eq_true rfl, Nat.le_of_ble_eq_true rfl⟩) (hj_preS hj_EXok hE hP hD hK hS hA [2] rfl rfl [0] rfl) rfl rfl hl.1 rfl (lv_room (Nat.le_of_ble_eq_true rfl)) d_J_lengthOfRecordAt_75 ⟨Nat.le_of_ble_eq_true rfl, Nat.le_of_ble_eq_true rfl⟩) (fun r_7 u_8 H locs hw hP hD hK1 hS => ?_)
          subst hw
          have hP : va_P (dC, dI) vwCl [(j, .inr (2, [.ref dk, .ref rc, .ref ta, .ref pa, .int (nI tl), .int (nI st), .int (nI g), .int (nI h)])), (dk, .inr (0, [.ref a, .int du, .int wr])), (a, .inl (cA, 32768, .inl (hj_B d)))] H := hP.sub [0, 1, 2] rfl
          have hD : va_D A [(j, .inr (2, [.ref dk, .ref rc, .ref ta, .ref pa, .int (nI tl), .int (nI st), .int (nI g), .int (nI h)])), (dk, .inr (0, [.ref a, .int du, .int wr])), (a, .inl (cA, 32768, .inl (hj_B d)))] := hD.sub [0, 1, 2] (by decide) rfl
          refine hj_topn (b := hj_four d (hj_hb h + o + 2 + x)) (by rw [hj_num4, show hj_hb h + o + (2 + x) = hj_hb h + o + 2 + x by omega]) ?_
          refine lv_aload_n hx hb d_J_lengthOfRecordAt_78 rfl (lv_at hl 3 rfl) ?_
          refine va_get (D := (dC, dI)) (ci := 2) (v := .ref dk) (C := "HalfJournal") (T := F_J) (N := 8) hx hb hts i_J hown hK hP 0 rfl rfl 0 (by decide) (hts _ m_84) (fun _ h9 => h9) rfl d_J_lengthOfRecordAt_79 ?_
          refine va_getN (D := (dC, dI)) (ci := 0) (v := .ref a) (C := "HalfJournal$Disk") (T := F_D) (N := 3) hx hb hts i_D hown hK hP 1 rfl rfl 0 (by decide) (va_Nw.use rfl (hE.1 _ m_38)) (fun _ h9 => h9) rfl d_J_lengthOfRecordAt_82 ?_
          refine lv_iload_n hx hb d_J_lengthOfRecordAt_85 rfl (lv_at hl 2 rfl) ?_
          refine lv_iload hx hb d_J_lengthOfRecordAt_86 (lv_at hl 0 rfl) ?_
          refine hj_calli (wc := [(a, .inl (cA, 32768, .inl (hj_B d)))]) (wr := [(j, .inr (2, [.ref dk, .ref rc, .ref ta, .ref pa, .int (nI tl), .int (nI st), .int (nI g), .int (nI h)])), (dk, .inr (0, [.ref a, .int du, .int wr]))]) [2] [0, 1] hP hD hS hA rfl rfl rfl (by decide) (va_runS (As := [.ref a, .int (nI ((hj_hb h) + o)), .int (nI (2 + x))]) (rest := [.int (nI (hj_four d (hj_hb h + o + 2 + x)))]) ⟨hx, hb, hml, hown, hts⟩ (c_J_checkOf l dC dI a cA 32768 d (hj_hb h + o) (2 + x) (by omega) (by omega) hd H.size) (cwS 3 hts (hj_gS m_441 m_442 m_1 m_443) rfl rfl rfl (by decide +kernel) ⟨Nat.le_of_ble_eq_true rfl, Nat.le_of_ble_eq_true rfl⟩) (hj_preS hj_EXok hE hP hD hK hS hA [2] rfl rfl [0] rfl) rfl rfl hl.1 rfl (lv_room (Nat.le_of_ble_eq_true rfl)) d_J_lengthOfRecordAt_88 ⟨Nat.le_of_ble_eq_true rfl, Nat.le_of_ble_eq_true rfl⟩) (fun r_9 u_10 H locs hw hP hD hK1 hS => ?_)
          subst hw
          have hP : va_P (dC, dI) vwCl [(j, .inr (2, [.ref dk, .ref rc, .ref ta, .ref pa, .int (nI tl), .int (nI st), .int (nI g), .int (nI h)])), (dk, .inr (0, [.ref a, .int du, .int wr])), (a, .inl (cA, 32768, .inl (hj_B d)))] H := hP.sub [0, 1, 2] rfl
          have hD : va_D A [(j, .inr (2, [.ref dk, .ref rc, .ref ta, .ref pa, .int (nI tl), .int (nI st), .int (nI g), .int (nI h)])), (dk, .inr (0, [.ref a, .int du, .int wr])), (a, .inl (cA, 32768, .inl (hj_B d)))] := hD.sub [0, 1, 2] (by decide) rfl
          refine hj_icmp_ne (tgt := 98) hx hb (by first | exact hj_four_lt hd _ | exact hj_chk_lt hd _ _) (by first | exact hj_four_lt hd _ | exact hj_chk_lt hd _ _) d_J_lengthOfRecordAt_91 (by decide) (fun c_6 => ?_) (fun c_6 => ?_)
          · refine lv_iconst (v := nI 0) hx hb d_J_lengthOfRecordAt_98 (by decide) ?_
            refine lv_istore (lv' := [(5, .int (nI 0)), (4, .int (nI (2 + x))), (3, .int (nI x)), (2, .int (nI ((hj_hb h) + o))), (0, .ref j), (1, .int (nI o))]) hx hb d_J_lengthOfRecordAt_99 hl (by decide) rfl (fun ls hl => ?_)
            refine lv_iload hx hb d_J_lengthOfRecordAt_101 (lv_at hl 0 rfl) ?_
            refine hj_if_eq (tgt := 110) hx hb (by omega) d_J_lengthOfRecordAt_103 (by decide) (fun c_7 => ?_) (fun c_7 => ?_)
            · refine lv_iconst (v := nI 0) hx hb d_J_lengthOfRecordAt_110 (by decide) ?_
              exact hret (nI 0) () _ _ _ _ d_J_lengthOfRecordAt_111 rfl (by rw [hj_rl_no (fun q => c_6 (by have := q.2.2.2.2; rw [← hxx] at this; exact this))]) hP hK hD hS
            · omega
          · refine lv_iconst (v := nI 1) hx hb d_J_lengthOfRecordAt_94 (by decide) ?_
            refine lv_goto (tgt := 99) hx hb d_J_lengthOfRecordAt_95 (by decide) ?_
            refine lv_istore (lv' := [(5, .int (nI 1)), (4, .int (nI (2 + x))), (3, .int (nI x)), (2, .int (nI ((hj_hb h) + o))), (0, .ref j), (1, .int (nI o))]) hx hb d_J_lengthOfRecordAt_99 hl (by decide) rfl (fun ls hl => ?_)
            refine lv_iload hx hb d_J_lengthOfRecordAt_101 (lv_at hl 0 rfl) ?_
            refine hj_if_eq (tgt := 110) hx hb (by omega) d_J_lengthOfRecordAt_103 (by decide) (fun c_7 => ?_) (fun c_7 => ?_)
            · omega
            · refine lv_iload_n hx hb d_J_lengthOfRecordAt_106 rfl (lv_at hl 2 rfl) ?_
              refine lv_goto (tgt := 111) hx hb d_J_lengthOfRecordAt_107 (by decide) ?_
              exact hret (nI x) () _ _ _ _ d_J_lengthOfRecordAt_111 rfl (by rw [hj_rl_ok (show hj_ok d h o from ⟨by omega, by rw [← hxx]; omega, by rw [← hxx]; omega, by rw [← hxx]; omega, by rw [← hxx]; exact c_6⟩), ← hxx]) hP hK hD hS
        · refine lv_iconst (v := nI 0) hx hb d_J_lengthOfRecordAt_56 (by decide) ?_
          exact hret (nI 0) () _ _ _ _ d_J_lengthOfRecordAt_57 rfl (by rw [hj_rl_no (fun q => by have := q.2.2.2.1; rw [← hxx] at this; omega)]) hP hK hD hS
  · refine lv_iconst (v := nI 0) hx hb d_J_lengthOfRecordAt_7 (by decide) ?_
    exact hret (nI 0) () _ _ _ _ d_J_lengthOfRecordAt_8 rfl (by rw [hj_rl_end (by omega)]) hP hK hD hS
abbrev rm_J_readRecords : Room := { frames := 32, cells := 0, slots := 0, locals := 400 }
set_option maxHeartbeats 4000000 in
set_option maxRecDepth 100000 in
theorem c_J_readRecords (l : Launch) (dC : Nat → ClassId) (dI : Nat → Nat → Nat) (j dk rc ta pa : Nat) (tl st g h : Nat) (a : Nat) (cA : ClassId) (d : Nat → Nat) (du wr : Int32) (sa la ma : Nat) (n us mm : Nat) (cS cL cM : ClassId) (fs fl fm : Nat → Int32) (hh : h < 2) (hd : hj_bs d) : hj_Mv l y_J_readRecords b_J_readRecords 3 rm_J_readRecords hj_EX (dC, dI) vwCl [(cA, .byte), (cS, .int), (cL, .int), (cM, .boolean)] [(j, .inr (2, [.ref dk, .ref rc, .ref ta, .ref pa, .int (nI tl), .int (nI st), .int (nI g), .int (nI h)])), (dk, .inr (0, [.ref a, .int du, .int wr])), (a, .inl (cA, 32768, .inl (hj_B d))), (rc, .inr (1, [.ref sa, .ref la, .ref ma, .int (nI n), .int (nI us), .int (nI mm)])), (sa, .inl (cS, 1984, .inl fs)), (la, .inl (cL, 1984, .inl fl)), (ma, .inl (cM, 1984, .inl fm))] [.ref j] (fun u => ∀ i, i < hj_N d h → u.1 i = nI (hj_pos d h i) ∧ u.2.1 i = nI (hj_rl d h (hj_pos d h i)) ∧ u.2.2 i = nI 0) (fun u : (Nat → Int32) × (Nat → Int32) × (Nat → Int32) => [(j, .inr (2, [.ref dk, .ref rc, .ref ta, .ref pa, .int (nI tl), .int (nI st), .int (nI g), .int (nI h)])), (dk, .inr (0, [.ref a, .int du, .int wr])), (a, .inl (cA, 32768, .inl (hj_B d))), (rc, .inr (1, [.ref sa, .ref la, .ref ma, .int (nI (hj_N d h)), .int (nI (hj_pos d h (hj_N d h))), .int (nI 0)])), (sa, .inl (cS, 1984, .inl u.1)), (la, .inl (cL, 1984, .inl u.2.1)), (ma, .inl (cM, 1984, .inl u.2.2))]) (fun _ => [(cA, .byte), (cS, .int), (cL, .int), (cM, .boolean)]) 0 0 := by
  refine hj_bodyV (by decide +kernel) (Nat.le_of_ble_eq_true rfl) ?_
  intro p e s m args below meth c A Q ls hx hb hts hown hml hin hA hP hK hD hE hl hret
  have hS : va_S A s.heap s.heap [] := va_S.rf
  have hown : s.vm.findClass "HalfJournal" = some m.cls := hown
  have hl : lv_has ls 3 [(0, .ref j)] := hl
  have hP : va_P (dC, dI) vwCl [(j, .inr (2, [.ref dk, .ref rc, .ref ta, .ref pa, .int (nI tl), .int (nI st), .int (nI g), .int (nI h)])), (dk, .inr (0, [.ref a, .int du, .int wr])), (a, .inl (cA, 32768, .inl (hj_B d))), (rc, .inr (1, [.ref sa, .ref la, .ref ma, .int (nI n), .int (nI us), .int (nI mm)])), (sa, .inl (cS, 1984, .inl fs)), (la, .inl (cL, 1984, .inl fl)), (ma, .inl (cM, 1984, .inl fm))] s.heap := hP
  have hD : va_D A [(j, .inr (2, [.ref dk, .ref rc, .ref ta, .ref pa, .int (nI tl), .int (nI st), .int (nI g), .int (nI h)])), (dk, .inr (0, [.ref a, .int du, .int wr])), (a, .inl (cA, 32768, .inl (hj_B d))), (rc, .inr (1, [.ref sa, .ref la, .ref ma, .int (nI n), .int (nI us), .int (nI mm)])), (sa, .inl (cS, 1984, .inl fs)), (la, .inl (cL, 1984, .inl fl)), (ma, .inl (cM, 1984, .inl fm))] := hD
  refine lv_aload_n hx hb d_J_readRecords_0 rfl (lv_at hl 0 rfl) ?_
  refine va_get (D := (dC, dI)) (ci := 2) (v := .ref rc) (C := "HalfJournal") (T := F_J) (N := 8) hx hb hts i_J hown hK hP 0 rfl rfl 1 (by decide) (hts _ m_85) (fun _ h9 => h9) rfl d_J_readRecords_1 ?_
  refine hj_callv (wc := [(rc, .inr (1, [.ref sa, .ref la, .ref ma, .int (nI n), .int (nI us), .int (nI mm)]))]) (wr := [(j, .inr (2, [.ref dk, .ref rc, .ref ta, .ref pa, .int (nI tl), .int (nI st), .int (nI g), .int (nI h)])), (dk, .inr (0, [.ref a, .int du, .int wr])), (a, .inl (cA, 32768, .inl (hj_B d))), (sa, .inl (cS, 1984, .inl fs)), (la, .inl (cL, 1984, .inl fl)), (ma, .inl (cM, 1984, .inl fm))]) [3] [0, 1, 2, 4, 5, 6] hP hD hS hA rfl rfl rfl (by decide) (va_runVN (As := []) (rest := []) ⟨hx, hb, hml, hown, hts⟩ (c_R_clear l dC dI rc sa la ma n us mm s.heap.size) ⟨va_cnB 0 hts (hj_gC m_457) rfl rfl rfl (hE.1 _ m_454) (hts _ m_3) (by decide +kernel) ⟨Nat.le_of_ble_eq_true rfl, Nat.le_of_ble_eq_true rfl⟩, hts _ m_456, hts _ s_R_clear⟩ (hj_preV (ci := 1) (q0 := 3) hj_EXok hE hP hD hK hS hA [3] rfl rfl [] rfl rfl rfl) rfl rfl hl.1 rfl (lv_room (Nat.le_of_ble_eq_true rfl)) d_J_readRecords_4 ⟨Nat.le_of_ble_eq_true rfl, Nat.le_of_ble_eq_true rfl⟩) (fun u_2 H locs hw hP hD hK1 hS => ?_)
  have hP : va_P (dC, dI) vwCl [(j, .inr (2, [.ref dk, .ref rc, .ref ta, .ref pa, .int (nI tl), .int (nI st), .int (nI g), .int (nI h)])), (dk, .inr (0, [.ref a, .int du, .int wr])), (a, .inl (cA, 32768, .inl (hj_B d))), (rc, .inr (1, [.ref sa, .ref la, .ref ma, .int (nI 0), .int (nI 0), .int (nI 0)])), (sa, .inl (cS, 1984, .inl fs)), (la, .inl (cL, 1984, .inl fl)), (ma, .inl (cM, 1984, .inl fm))] H := hP.sub [0, 1, 2, 6, 3, 4, 5] rfl
  have hD : va_D A [(j, .inr (2, [.ref dk, .ref rc, .ref ta, .ref pa, .int (nI tl), .int (nI st), .int (nI g), .int (nI h)])), (dk, .inr (0, [.ref a, .int du, .int wr])), (a, .inl (cA, 32768, .inl (hj_B d))), (rc, .inr (1, [.ref sa, .ref la, .ref ma, .int (nI 0), .int (nI 0), .int (nI 0)])), (sa, .inl (cS, 1984, .inl fs)), (la, .inl (cL, 1984, .inl fl)), (ma, .inl (cM, 1984, .inl fm))] := hD.sub [0, 1, 2, 6, 3, 4, 5] (by decide) rfl
  refine lv_iconst (v := nI 0) hx hb d_J_readRecords_7 (by decide) ?_
  refine lv_istore_n (lv' := [(1, .int (nI 0)), (0, .ref j)]) hx hb d_J_readRecords_8 rfl hl (by decide) rfl (fun ls hl => ?_)
  have lp : ∀ (n9 : Nat) (i : Nat) (fs : Nat → Int32) (fl : Nat → Int32) (fm : Nat → Int32), (∀ k, k < i → 0 < hj_rl d h (hj_pos d h k)) → (∀ k, k < i → fs k = nI (hj_pos d h k) ∧ fl k = nI (hj_rl d h (hj_pos d h k)) ∧ fm k = nI 0) → (1985 - i) < n9 → ∀ (H : Heap) (locs : List Loc), va_P (dC, dI) vwCl [(j, .inr (2, [.ref dk, .ref rc, .ref ta, .ref pa, .int (nI tl), .int (nI st), .int (nI g), .int (nI h)])), (dk, .inr (0, [.ref a, .int du, .int wr])), (a, .inl (cA, 32768, .inl (hj_B d))), (rc, .inr (1, [.ref sa, .ref la, .ref ma, .int (nI i), .int (nI (hj_pos d h i)), .int (nI 0)])), (sa, .inl (cS, 1984, .inl fs)), (la, .inl (cL, 1984, .inl fl)), (ma, .inl (cM, 1984, .inl fm))] H → va_D A [(j, .inr (2, [.ref dk, .ref rc, .ref ta, .ref pa, .int (nI tl), .int (nI st), .int (nI g), .int (nI h)])), (dk, .inr (0, [.ref a, .int du, .int wr])), (a, .inl (cA, 32768, .inl (hj_B d))), (rc, .inr (1, [.ref sa, .ref la, .ref ma, .int (nI i), .int (nI (hj_pos d h i)), .int (nI 0)])), (sa, .inl (cS, 1984, .inl fs)), (la, .inl (cL, 1984, .inl fl)), (ma, .inl (cM, 1984, .inl fm))] → va_S A s.heap H locs → ∀ (ls : Array Slot), lv_has ls 3 [(0, .ref j), (1, .int (nI i))] → W p l e rm_J_readRecords s m args below meth c H locs 0 0 Q (F0 m 9 ls []) := by
    intro n9
    induction n9 with
    | zero =>
      intro i fs fl fm hv hc hm
      exact absurd hm (Nat.not_lt_zero _)
    | succ n9 ih =>
      intro i fs fl fm hv hc hm H locs hP hD hS ls hl
      obtain ⟨hp1, hp2, -⟩ := hj_pos_in i hv
      refine lv_iload_n hx hb d_J_readRecords_9 rfl (lv_at hl 1 rfl) ?_
      refine lv_sipush (v := nI 1984) hx hb d_J_readRecords_10 (by decide) ?_
      refine hj_icmp_ge (tgt := 49) hx hb (by omega) (by omega) d_J_readRecords_13 (by decide) (fun c_1 => ?_) (fun c_1 => ?_)
      · have hN : i = hj_N d h := hj_N_of ⟨hv, hj_rl_end (by omega)⟩
        subst hN
        exact hret (fs, fl, fm) _ _ _ _ d_J_readRecords_49 (hc) hP hK hD hS
      · refine lv_aload_n hx hb d_J_readRecords_16 rfl (lv_at hl 0 rfl) ?_
        refine lv_aload_n hx hb d_J_readRecords_17 rfl (lv_at hl 0 rfl) ?_
        refine va_get (D := (dC, dI)) (ci := 2) (v := .ref rc) (C := "HalfJournal") (T := F_J) (N := 8) hx hb hts i_J hown hK hP 0 rfl rfl 1 (by decide) (hts _ m_85) (fun _ h9 => h9) rfl d_J_readRecords_18 ?_
        refine va_getN (D := (dC, dI)) (ci := 1) (v := .int (nI (hj_pos d h i))) (C := "HalfJournal$Records") (T := F_R) (N := 6) hx hb hts i_R hown hK hP 3 rfl rfl 4 (by decide) (va_Nw.use rfl (hE.1 _ m_66)) (fun _ h9 => h9) rfl d_J_readRecords_21 ?_
        refine hj_calli (wc := [(j, .inr (2, [.ref dk, .ref rc, .ref ta, .ref pa, .int (nI tl), .int (nI st), .int (nI g), .int (nI h)])), (dk, .inr (0, [.ref a, .int du, .int wr])), (a, .inl (cA, 32768, .inl (hj_B d)))]) (wr := [(rc, .inr (1, [.ref sa, .ref la, .ref ma, .int (nI i), .int (nI (hj_pos d h i)), .int (nI 0)])), (sa, .inl (cS, 1984, .inl fs)), (la, .inl (cL, 1984, .inl fl)), (ma, .inl (cM, 1984, .inl fm))]) [0, 1, 2] [3, 4, 5, 6] hP hD hS hA rfl rfl rfl (by decide) (va_runV (As := [.int (nI (hj_pos d h i))]) (rest := []) ⟨hx, hb, hml, hown, hts⟩ (c_J_lengthOfRecordAt l dC dI j dk rc ta pa tl st g h a cA d du wr (hj_pos d h i) hh hp2 hd H.size) (cwV 1 hts (hj_gV m_458 m_460 s_J_lengthOfRecordAt m_1 m_461) rfl rfl rfl (by decide +kernel) ⟨Nat.le_of_ble_eq_true rfl, Nat.le_of_ble_eq_true rfl⟩) (hj_preV (ci := 2) (q0 := 0) hj_EXok hE hP hD hK hS hA [0, 1, 2] rfl rfl [0] rfl rfl rfl) rfl rfl hl.1 rfl (lv_room (Nat.le_of_ble_eq_true rfl)) d_J_readRecords_24 ⟨Nat.le_of_ble_eq_true rfl, Nat.le_of_ble_eq_true rfl⟩) (fun r_3 u_4 H locs hw hP hD hK1 hS => ?_)
        subst hw
        have hP : va_P (dC, dI) vwCl [(j, .inr (2, [.ref dk, .ref rc, .ref ta, .ref pa, .int (nI tl), .int (nI st), .int (nI g), .int (nI h)])), (dk, .inr (0, [.ref a, .int du, .int wr])), (a, .inl (cA, 32768, .inl (hj_B d))), (rc, .inr (1, [.ref sa, .ref la, .ref ma, .int (nI i), .int (nI (hj_pos d h i)), .int (nI 0)])), (sa, .inl (cS, 1984, .inl fs)), (la, .inl (cL, 1984, .inl fl)), (ma, .inl (cM, 1984, .inl fm))] H := hP.sub [4, 5, 6, 0, 1, 2, 3] rfl
        have hD : va_D A [(j, .inr (2, [.ref dk, .ref rc, .ref ta, .ref pa, .int (nI tl), .int (nI st), .int (nI g), .int (nI h)])), (dk, .inr (0, [.ref a, .int du, .int wr])), (a, .inl (cA, 32768, .inl (hj_B d))), (rc, .inr (1, [.ref sa, .ref la, .ref ma, .int (nI i), .int (nI (hj_pos d h i)), .int (nI 0)])), (sa, .inl (cS, 1984, .inl fs)), (la, .inl (cL, 1984, .inl fl)), (ma, .inl (cM, 1984, .inl fm))] := hD.sub [4, 5, 6, 0, 1, 2, 3] (by decide) rfl
        have hr1 : hj_rl d h (hj_pos d h i) ≤ 1000 := by
          rcases Nat.eq_zero_or_pos (hj_rl d h (hj_pos d h i)) with q | q
          · omega
          · exact (hj_rl_in q).1
        refine lv_istore_n (lv' := [(2, .int (nI (hj_rl d h (hj_pos d h i)))), (0, .ref j), (1, .int (nI i))]) hx hb d_J_readRecords_27 rfl hl (by decide) rfl (fun ls hl => ?_)
        refine lv_iload_n hx hb d_J_readRecords_28 rfl (lv_at hl 0 rfl) ?_
        refine hj_if_ne (tgt := 35) hx hb (by omega) d_J_readRecords_29 (by decide) (fun c_2 => ?_) (fun c_2 => ?_)
        · refine lv_aload_n hx hb d_J_readRecords_35 rfl (lv_at hl 1 rfl) ?_
          refine va_get (D := (dC, dI)) (ci := 2) (v := .ref rc) (C := "HalfJournal") (T := F_J) (N := 8) hx hb hts i_J hown hK hP 0 rfl rfl 1 (by decide) (hts _ m_85) (fun _ h9 => h9) rfl d_J_readRecords_36 ?_
          refine lv_iload_n hx hb d_J_readRecords_39 rfl (lv_at hl 0 rfl) ?_
          refine hj_callv (wc := [(rc, .inr (1, [.ref sa, .ref la, .ref ma, .int (nI i), .int (nI (hj_pos d h i)), .int (nI 0)])), (sa, .inl (cS, 1984, .inl fs)), (la, .inl (cL, 1984, .inl fl)), (ma, .inl (cM, 1984, .inl fm))]) (wr := [(j, .inr (2, [.ref dk, .ref rc, .ref ta, .ref pa, .int (nI tl), .int (nI st), .int (nI g), .int (nI h)])), (dk, .inr (0, [.ref a, .int du, .int wr])), (a, .inl (cA, 32768, .inl (hj_B d)))]) [3, 4, 5, 6] [0, 1, 2] hP hD hS hA rfl rfl rfl (by decide) (va_runVN (As := [.int (nI (hj_rl d h (hj_pos d h i)))]) (rest := []) ⟨hx, hb, hml, hown, hts⟩ (c_R_add l dC dI rc sa la ma i (hj_pos d h i) 0 cS cL cM fs fl fm (hj_rl d h (hj_pos d h i)) (by omega) (by omega) H.size) ⟨va_cnB 1 hts (hj_gC m_477) rfl rfl rfl (hE.1 _ m_474) (hts _ m_3) (by decide +kernel) ⟨Nat.le_of_ble_eq_true rfl, Nat.le_of_ble_eq_true rfl⟩, hts _ m_476, hts _ s_R_add⟩ (hj_preV (ci := 1) (q0 := 3) hj_EXok hE hP hD hK hS hA [3, 4, 5, 6] rfl rfl [1, 2, 3] rfl rfl rfl) rfl rfl hl.1 rfl (lv_room (Nat.le_of_ble_eq_true rfl)) d_J_readRecords_40 ⟨Nat.le_of_ble_eq_true rfl, Nat.le_of_ble_eq_true rfl⟩) (fun u_6 H locs hw hP hD hK1 hS => ?_)
          have hP : va_P (dC, dI) vwCl [(j, .inr (2, [.ref dk, .ref rc, .ref ta, .ref pa, .int (nI tl), .int (nI st), .int (nI g), .int (nI h)])), (dk, .inr (0, [.ref a, .int du, .int wr])), (a, .inl (cA, 32768, .inl (hj_B d))), (rc, .inr (1, [.ref sa, .ref la, .ref ma, .int (nI (i + 1)), .int (nI (hj_pos d h i + hj_sz (hj_rl d h (hj_pos d h i)))), .int (nI 0)])), (sa, .inl (cS, 1984, .inl (va_up fs i (nI (hj_pos d h i))))), (la, .inl (cL, 1984, .inl (va_up fl i (nI (hj_rl d h (hj_pos d h i)))))), (ma, .inl (cM, 1984, .inl (va_up fm i (nI 0))))] H := hP.sub [0, 1, 2, 3, 4, 5, 6] rfl
          have hD : va_D A [(j, .inr (2, [.ref dk, .ref rc, .ref ta, .ref pa, .int (nI tl), .int (nI st), .int (nI g), .int (nI h)])), (dk, .inr (0, [.ref a, .int du, .int wr])), (a, .inl (cA, 32768, .inl (hj_B d))), (rc, .inr (1, [.ref sa, .ref la, .ref ma, .int (nI (i + 1)), .int (nI (hj_pos d h i + hj_sz (hj_rl d h (hj_pos d h i)))), .int (nI 0)])), (sa, .inl (cS, 1984, .inl (va_up fs i (nI (hj_pos d h i))))), (la, .inl (cL, 1984, .inl (va_up fl i (nI (hj_rl d h (hj_pos d h i)))))), (ma, .inl (cM, 1984, .inl (va_up fm i (nI 0))))] := hD.sub [0, 1, 2, 3, 4, 5, 6] (by decide) rfl
          refine lv_iinc (v := nI (i + 1)) (lv' := [(1, .int (nI (i + 1))), (2, .int (nI (hj_rl d h (hj_pos d h i)))), (0, .ref j)]) hx hb d_J_readRecords_43 hl (k := 2) rfl (nI_1 _) (by decide) rfl (fun ls hl => ?_)
          refine lv_goto (tgt := 9) hx hb d_J_readRecords_46 (by decide) ?_
          exact ih (i + 1) (va_up fs i (nI (hj_pos d h i))) (va_up fl i (nI (hj_rl d h (hj_pos d h i)))) (va_up fm i (nI 0)) (fun k hk => by
            rcases Nat.lt_or_ge k i with q | q
            · exact hv k q
            · rw [show k = i by omega]; exact c_2) (fun k hk => by
            rcases Nat.lt_or_ge k i with q | q
            · rw [va_up_ne _ _ (by omega), va_up_ne _ _ (by omega), va_up_ne _ _ (by omega)]; exact hc k q
            · rw [show k = i by omega, va_up_self, va_up_self, va_up_self]; exact ⟨rfl, rfl, rfl⟩) (by omega) _ _ hP hD hS _ (lv_sub hl [2, 0] rfl)
        · refine lv_goto (tgt := 49) hx hb d_J_readRecords_32 (by decide) ?_
          have hN : i = hj_N d h := hj_N_of ⟨hv, c_2⟩
          subst hN
          exact hret (fs, fl, fm) _ _ _ _ d_J_readRecords_49 (hc) hP hK hD hS
  exact lp _ 0 fs fl fm (fun k hk => absurd hk (Nat.not_lt_zero k)) (fun k hk => absurd hk (Nat.not_lt_zero k)) (Nat.lt_succ_self _) _ _ hP hD hS _ (lv_sub hl [1, 0] rfl)
abbrev rm_J_goUp : Room := { frames := 40, cells := 0, slots := 0, locals := 500 }
set_option maxHeartbeats 4000000 in
set_option maxRecDepth 100000 in
theorem c_J_goUp (l : Launch) (dC : Nat → ClassId) (dI : Nat → Nat → Nat) (j dk rc ta pa : Nat) (tl st g h : Nat) (a : Nat) (cA : ClassId) (d : Nat → Nat) (du wr : Int32) (sa la ma : Nat) (n us mm : Nat) (cS cL cM : ClassId) (fs fl fm : Nat → Int32) (g9 h9 : Nat) (hh : h9 < 2) (hd : hj_bs d) : hj_Mv l y_J_goUp b_J_goUp 3 rm_J_goUp hj_EX (dC, dI) vwCl [(cA, .byte), (cS, .int), (cL, .int), (cM, .boolean)] [(j, .inr (2, [.ref dk, .ref rc, .ref ta, .ref pa, .int (nI tl), .int (nI st), .int (nI g), .int (nI h)])), (dk, .inr (0, [.ref a, .int du, .int wr])), (a, .inl (cA, 32768, .inl (hj_B d))), (rc, .inr (1, [.ref sa, .ref la, .ref ma, .int (nI n), .int (nI us), .int (nI mm)])), (sa, .inl (cS, 1984, .inl fs)), (la, .inl (cL, 1984, .inl fl)), (ma, .inl (cM, 1984, .inl fm))] [.ref j, .int (nI g9), .int (nI h9)] (fun u => ∀ i, i < hj_N d h9 → u.1 i = nI (hj_pos d h9 i) ∧ u.2.1 i = nI (hj_rl d h9 (hj_pos d h9 i)) ∧ u.2.2 i = nI 0) (fun u : (Nat → Int32) × (Nat → Int32) × (Nat → Int32) => [(j, .inr (2, [.ref dk, .ref rc, .ref ta, .ref pa, .int (nI tl), .int (nI 2), .int (nI g9), .int (nI h9)])), (dk, .inr (0, [.ref a, .int du, .int wr])), (a, .inl (cA, 32768, .inl (hj_B d))), (rc, .inr (1, [.ref sa, .ref la, .ref ma, .int (nI (hj_N d h9)), .int (nI (hj_pos d h9 (hj_N d h9))), .int (nI 0)])), (sa, .inl (cS, 1984, .inl u.1)), (la, .inl (cL, 1984, .inl u.2.1)), (ma, .inl (cM, 1984, .inl u.2.2))]) (fun _ => [(cA, .byte), (cS, .int), (cL, .int), (cM, .boolean)]) 0 0 := by
  refine hj_bodyV (by decide +kernel) (Nat.le_of_ble_eq_true rfl) ?_
  intro p e s m args below meth c A Q ls hx hb hts hown hml hin hA hP hK hD hE hl hret
  have hS : va_S A s.heap s.heap [] := va_S.rf
  have hown : s.vm.findClass "HalfJournal" = some m.cls := hown
  have hl : lv_has ls 3 [(0, .ref j), (1, .int (nI g9)), (2, .int (nI h9))] := hl
  have hP : va_P (dC, dI) vwCl [(j, .inr (2, [.ref dk, .ref rc, .ref ta, .ref pa, .int (nI tl), .int (nI st), .int (nI g), .int (nI h)])), (dk, .inr (0, [.ref a, .int du, .int wr])), (a, .inl (cA, 32768, .inl (hj_B d))), (rc, .inr (1, [.ref sa, .ref la, .ref ma, .int (nI n), .int (nI us), .int (nI mm)])), (sa, .inl (cS, 1984, .inl fs)), (la, .inl (cL, 1984, .inl fl)), (ma, .inl (cM, 1984, .inl fm))] s.heap := hP
  have hD : va_D A [(j, .inr (2, [.ref dk, .ref rc, .ref ta, .ref pa, .int (nI tl), .int (nI st), .int (nI g), .int (nI h)])), (dk, .inr (0, [.ref a, .int du, .int wr])), (a, .inl (cA, 32768, .inl (hj_B d))), (rc, .inr (1, [.ref sa, .ref la, .ref ma, .int (nI n), .int (nI us), .int (nI mm)])), (sa, .inl (cS, 1984, .inl fs)), (la, .inl (cL, 1984, .inl fl)), (ma, .inl (cM, 1984, .inl fm))] := hD
  refine lv_aload_n hx hb d_J_goUp_0 rfl (lv_at hl 0 rfl) ?_
  refine lv_iconst (v := nI 2) hx hb d_J_goUp_1 (by decide) ?_
  refine va_put (D := (dC, dI)) (ci := 2) (v := .int (nI 2)) (ty := (.int)) (C := "HalfJournal") (T := F_J) (N := 8) hx hb hts i_J t_J t_J_ok n_J hown hK hP hD hS 0 rfl rfl 5 (by decide) (hts _ m_89) (fun _ h9 => h9) rfl (by decide +kernel) rfl rfl (Nat.le_of_ble_eq_true rfl) d_J_goUp_2 (fun H locs hP hD hS => ?_)
  have hP : va_P (dC, dI) vwCl [(j, .inr (2, [.ref dk, .ref rc, .ref ta, .ref pa, .int (nI tl), .int (nI 2), .int (nI g), .int (nI h)])), (dk, .inr (0, [.ref a, .int du, .int wr])), (a, .inl (cA, 32768, .inl (hj_B d))), (rc, .inr (1, [.ref sa, .ref la, .ref ma, .int (nI n), .int (nI us), .int (nI mm)])), (sa, .inl (cS, 1984, .inl fs)), (la, .inl (cL, 1984, .inl fl)), (ma, .inl (cM, 1984, .inl fm))] H := hP
  have hD : va_D A [(j, .inr (2, [.ref dk, .ref rc, .ref ta, .ref pa, .int (nI tl), .int (nI 2), .int (nI g), .int (nI h)])), (dk, .inr (0, [.ref a, .int du, .int wr])), (a, .inl (cA, 32768, .inl (hj_B d))), (rc, .inr (1, [.ref sa, .ref la, .ref ma, .int (nI n), .int (nI us), .int (nI mm)])), (sa, .inl (cS, 1984, .inl fs)), (la, .inl (cL, 1984, .inl fl)), (ma, .inl (cM, 1984, .inl fm))] := hD
  refine lv_aload_n hx hb d_J_goUp_5 rfl (lv_at hl 0 rfl) ?_
  refine lv_iload_n hx hb d_J_goUp_6 rfl (lv_at hl 1 rfl) ?_
  refine va_put (D := (dC, dI)) (ci := 2) (v := .int (nI g9)) (ty := (.int)) (C := "HalfJournal") (T := F_J) (N := 8) hx hb hts i_J t_J t_J_ok n_J hown hK hP hD hS 0 rfl rfl 6 (by decide) (hts _ m_90) (fun _ h9 => h9) rfl (by decide +kernel) rfl rfl (Nat.le_of_ble_eq_true rfl) d_J_goUp_7 (fun H locs hP hD hS => ?_)
  have hP : va_P (dC, dI) vwCl [(j, .inr (2, [.ref dk, .ref rc, .ref ta, .ref pa, .int (nI tl), .int (nI 2), .int (nI g9), .int (nI h)])), (dk, .inr (0, [.ref a, .int du, .int wr])), (a, .inl (cA, 32768, .inl (hj_B d))), (rc, .inr (1, [.ref sa, .ref la, .ref ma, .int (nI n), .int (nI us), .int (nI mm)])), (sa, .inl (cS, 1984, .inl fs)), (la, .inl (cL, 1984, .inl fl)), (ma, .inl (cM, 1984, .inl fm))] H := hP
  have hD : va_D A [(j, .inr (2, [.ref dk, .ref rc, .ref ta, .ref pa, .int (nI tl), .int (nI 2), .int (nI g9), .int (nI h)])), (dk, .inr (0, [.ref a, .int du, .int wr])), (a, .inl (cA, 32768, .inl (hj_B d))), (rc, .inr (1, [.ref sa, .ref la, .ref ma, .int (nI n), .int (nI us), .int (nI mm)])), (sa, .inl (cS, 1984, .inl fs)), (la, .inl (cL, 1984, .inl fl)), (ma, .inl (cM, 1984, .inl fm))] := hD
  refine lv_aload_n hx hb d_J_goUp_10 rfl (lv_at hl 0 rfl) ?_
  refine lv_iload_n hx hb d_J_goUp_11 rfl (lv_at hl 2 rfl) ?_
  refine va_put (D := (dC, dI)) (ci := 2) (v := .int (nI h9)) (ty := (.int)) (C := "HalfJournal") (T := F_J) (N := 8) hx hb hts i_J t_J t_J_ok n_J hown hK hP hD hS 0 rfl rfl 7 (by decide) (hts _ m_91) (fun _ h9 => h9) rfl (by decide +kernel) rfl rfl (Nat.le_of_ble_eq_true rfl) d_J_goUp_12 (fun H locs hP hD hS => ?_)
  have hP : va_P (dC, dI) vwCl [(j, .inr (2, [.ref dk, .ref rc, .ref ta, .ref pa, .int (nI tl), .int (nI 2), .int (nI g9), .int (nI h9)])), (dk, .inr (0, [.ref a, .int du, .int wr])), (a, .inl (cA, 32768, .inl (hj_B d))), (rc, .inr (1, [.ref sa, .ref la, .ref ma, .int (nI n), .int (nI us), .int (nI mm)])), (sa, .inl (cS, 1984, .inl fs)), (la, .inl (cL, 1984, .inl fl)), (ma, .inl (cM, 1984, .inl fm))] H := hP
  have hD : va_D A [(j, .inr (2, [.ref dk, .ref rc, .ref ta, .ref pa, .int (nI tl), .int (nI 2), .int (nI g9), .int (nI h9)])), (dk, .inr (0, [.ref a, .int du, .int wr])), (a, .inl (cA, 32768, .inl (hj_B d))), (rc, .inr (1, [.ref sa, .ref la, .ref ma, .int (nI n), .int (nI us), .int (nI mm)])), (sa, .inl (cS, 1984, .inl fs)), (la, .inl (cL, 1984, .inl fl)), (ma, .inl (cM, 1984, .inl fm))] := hD
  refine lv_aload_n hx hb d_J_goUp_15 rfl (lv_at hl 0 rfl) ?_
  refine hj_callv (wc := [(j, .inr (2, [.ref dk, .ref rc, .ref ta, .ref pa, .int (nI tl), .int (nI 2), .int (nI g9), .int (nI h9)])), (dk, .inr (0, [.ref a, .int du, .int wr])), (a, .inl (cA, 32768, .inl (hj_B d))), (rc, .inr (1, [.ref sa, .ref la, .ref ma, .int (nI n), .int (nI us), .int (nI mm)])), (sa, .inl (cS, 1984, .inl fs)), (la, .inl (cL, 1984, .inl fl)), (ma, .inl (cM, 1984, .inl fm))]) (wr := []) [0, 1, 2, 3, 4, 5, 6] [] hP hD hS hA rfl rfl rfl (by decide) (va_runV (As := []) (rest := []) ⟨hx, hb, hml, hown, hts⟩ (c_J_readRecords l dC dI j dk rc ta pa tl 2 g9 h9 a cA d du wr sa la ma n us mm cS cL cM fs fl fm hh hd H.size) (cwV 0 hts (hj_gV m_450 m_452 s_J_readRecords m_1 m_453) rfl rfl rfl (by decide +kernel) ⟨Nat.le_of_ble_eq_true rfl, Nat.le_of_ble_eq_true rfl⟩) (hj_preV (ci := 2) (q0 := 0) hj_EXok hE hP hD hK hS hA [0, 1, 2, 3, 4, 5, 6] rfl rfl [0, 1, 2, 3] rfl rfl rfl) rfl rfl hl.1 rfl (lv_room (Nat.le_of_ble_eq_true rfl)) d_J_goUp_16 ⟨Nat.le_of_ble_eq_true rfl, Nat.le_of_ble_eq_true rfl⟩) (fun u_2 H locs hw hP hD hK1 hS => ?_)
  obtain ⟨f1, f2, f3⟩ := u_2
  have hP : va_P (dC, dI) vwCl [(j, .inr (2, [.ref dk, .ref rc, .ref ta, .ref pa, .int (nI tl), .int (nI 2), .int (nI g9), .int (nI h9)])), (dk, .inr (0, [.ref a, .int du, .int wr])), (a, .inl (cA, 32768, .inl (hj_B d))), (rc, .inr (1, [.ref sa, .ref la, .ref ma, .int (nI (hj_N d h9)), .int (nI (hj_pos d h9 (hj_N d h9))), .int (nI 0)])), (sa, .inl (cS, 1984, .inl f1)), (la, .inl (cL, 1984, .inl f2)), (ma, .inl (cM, 1984, .inl f3))] H := hP.sub [0, 1, 2, 3, 4, 5, 6] rfl
  have hD : va_D A [(j, .inr (2, [.ref dk, .ref rc, .ref ta, .ref pa, .int (nI tl), .int (nI 2), .int (nI g9), .int (nI h9)])), (dk, .inr (0, [.ref a, .int du, .int wr])), (a, .inl (cA, 32768, .inl (hj_B d))), (rc, .inr (1, [.ref sa, .ref la, .ref ma, .int (nI (hj_N d h9)), .int (nI (hj_pos d h9 (hj_N d h9))), .int (nI 0)])), (sa, .inl (cS, 1984, .inl f1)), (la, .inl (cL, 1984, .inl f2)), (ma, .inl (cM, 1984, .inl f3))] := hD.sub [0, 1, 2, 3, 4, 5, 6] (by decide) rfl
  exact hret (f1, f2, f3) _ _ _ _ d_J_goUp_19 (hw) hP hK hD hS
abbrev rm_J_generationOfHead : Room := { frames := 24, cells := 0, slots := 0, locals := 300 }
set_option maxHeartbeats 4000000 in
set_option maxRecDepth 100000 in
theorem c_J_generationOfHead (l : Launch) (dC : Nat → ClassId) (dI : Nat → Nat → Nat) (j dk rc ta pa : Nat) (tl st g h : Nat) (a : Nat) (cA : ClassId) (d : Nat → Nat) (du wr : Int32) (b : Nat) (hb9 : b < 2) (hd : hj_bs d) : hj_Mi l y_J_generationOfHead b_J_generationOfHead 4 .int rm_J_generationOfHead hj_EX (dC, dI) vwCl [(cA, .byte)] [(j, .inr (2, [.ref dk, .ref rc, .ref ta, .ref pa, .int (nI tl), .int (nI st), .int (nI g), .int (nI h)])), (dk, .inr (0, [.ref a, .int du, .int wr])), (a, .inl (cA, 32768, .inl (hj_B d)))] [.ref j, .int (nI b)] (fun r _ => r = nI (hj_hg d b)) (fun _ : Unit => [(j, .inr (2, [.ref dk, .ref rc, .ref ta, .ref pa, .int (nI tl), .int (nI st), .int (nI g), .int (nI h)])), (dk, .inr (0, [.ref a, .int du, .int wr])), (a, .inl (cA, 32768, .inl (hj_B d)))]) (fun _ => [(cA, .byte)]) 0 0 := by
  refine hj_bodyI (by decide +kernel) (Nat.le_of_ble_eq_true rfl) ?_
  intro p e s m args below meth c A Q ls hx hb hts hown hml hA hP hK hD hE hl hret
  have hS : va_S A s.heap s.heap [] := va_S.rf
  have hown : s.vm.findClass "HalfJournal" = some m.cls := hown
  have hl : lv_has ls 4 [(0, .ref j), (1, .int (nI b))] := hl
  have hP : va_P (dC, dI) vwCl [(j, .inr (2, [.ref dk, .ref rc, .ref ta, .ref pa, .int (nI tl), .int (nI st), .int (nI g), .int (nI h)])), (dk, .inr (0, [.ref a, .int du, .int wr])), (a, .inl (cA, 32768, .inl (hj_B d)))] s.heap := hP
  have hD : va_D A [(j, .inr (2, [.ref dk, .ref rc, .ref ta, .ref pa, .int (nI tl), .int (nI st), .int (nI g), .int (nI h)])), (dk, .inr (0, [.ref a, .int du, .int wr])), (a, .inl (cA, 32768, .inl (hj_B d)))] := hD
  refine lv_iload_n hx hb d_J_generationOfHead_0 rfl (lv_at hl 1 rfl) ?_
  refine lv_sipush (v := nI 512) hx hb d_J_generationOfHead_1 (by decide) ?_
  refine hj_imul hx hb d_J_generationOfHead_4 ?_
  refine hj_topn (b := 512 * b) (Nat.mul_comm _ _) ?_
  refine lv_istore_n (lv' := [(2, .int (nI (512 * b))), (0, .ref j), (1, .int (nI b))]) hx hb d_J_generationOfHead_5 rfl hl (by decide) rfl (fun ls hl => ?_)
  refine lv_aload_n hx hb d_J_generationOfHead_6 rfl (lv_at hl 1 rfl) ?_
  refine va_get (D := (dC, dI)) (ci := 2) (v := .ref dk) (C := "HalfJournal") (T := F_J) (N := 8) hx hb hts i_J hown hK hP 0 rfl rfl 0 (by decide) (hts _ m_84) (fun _ h9 => h9) rfl d_J_generationOfHead_7 ?_
  refine va_getN (D := (dC, dI)) (ci := 0) (v := .ref a) (C := "HalfJournal$Disk") (T := F_D) (N := 3) hx hb hts i_D hown hK hP 1 rfl rfl 0 (by decide) (va_Nw.use rfl (hE.1 _ m_38)) (fun _ h9 => h9) rfl d_J_generationOfHead_10 ?_
  refine lv_iload_n hx hb d_J_generationOfHead_13 rfl (lv_at hl 0 rfl) ?_
  refine lv_iconst (v := nI 4) hx hb d_J_generationOfHead_14 (by decide) ?_
  refine hj_calli (wc := [(a, .inl (cA, 32768, .inl (hj_B d)))]) (wr := [(j, .inr (2, [.ref dk, .ref rc, .ref ta, .ref pa, .int (nI tl), .int (nI st), .int (nI g), .int (nI h)])), (dk, .inr (0, [.ref a, .int du, .int wr]))]) [2] [0, 1] hP hD hS hA rfl rfl rfl (by decide) (va_runS (As := [.ref a, .int (nI (512 * b)), .int (nI 4)]) (rest := []) ⟨hx, hb, hml, hown, hts⟩ (c_J_number l dC dI a cA 32768 d (512 * b) 4 (by omega) (by omega) (by omega) hd s.heap.size) (cwS 3 hts (hj_gS m_468 m_469 m_1 m_470) rfl rfl rfl (by decide +kernel) ⟨Nat.le_of_ble_eq_true rfl, Nat.le_of_ble_eq_true rfl⟩) (hj_preS hj_EXok hE hP hD hK hS hA [2] rfl rfl [0] rfl) rfl rfl hl.1 rfl (lv_room (Nat.le_of_ble_eq_true rfl)) d_J_generationOfHead_15 ⟨Nat.le_of_ble_eq_true rfl, Nat.le_of_ble_eq_true rfl⟩) (fun r_1 u_2 H locs hw hP hD hK1 hS => ?_)
  subst hw
  have hP : va_P (dC, dI) vwCl [(j, .inr (2, [.ref dk, .ref rc, .ref ta, .ref pa, .int (nI tl), .int (nI st), .int (nI g), .int (nI h)])), (dk, .inr (0, [.ref a, .int du, .int wr])), (a, .inl (cA, 32768, .inl (hj_B d)))] H := hP.sub [0, 1, 2] rfl
  have hD : va_D A [(j, .inr (2, [.ref dk, .ref rc, .ref ta, .ref pa, .int (nI tl), .int (nI st), .int (nI g), .int (nI h)])), (dk, .inr (0, [.ref a, .int du, .int wr])), (a, .inl (cA, 32768, .inl (hj_B d)))] := hD.sub [0, 1, 2] (by decide) rfl
  refine hj_topn (b := hj_four d (512 * b)) (hj_num4 _ _) ?_
  refine lv_istore_n (lv' := [(3, .int (nI (hj_four d (512 * b)))), (2, .int (nI (512 * b))), (0, .ref j), (1, .int (nI b))]) hx hb d_J_generationOfHead_18 rfl hl (by decide) rfl (fun ls hl => ?_)
  refine lv_iload_n hx hb d_J_generationOfHead_19 rfl (lv_at hl 0 rfl) ?_
  refine lv_iconst (v := nI 0) hx hb d_J_generationOfHead_20 (by decide) ?_
  refine hj_calli (wc := []) (wr := [(j, .inr (2, [.ref dk, .ref rc, .ref ta, .ref pa, .int (nI tl), .int (nI st), .int (nI g), .int (nI h)])), (dk, .inr (0, [.ref a, .int du, .int wr])), (a, .inl (cA, 32768, .inl (hj_B d)))]) [] [0, 1, 2] hP hD hS hA rfl rfl rfl (by decide) (va_runS (As := [.int (nI 0)]) (rest := [.int (nI (hj_four d (512 * b)))]) ⟨hx, hb, hml, hown, hts⟩ (c_J_headBegin l dC dI 0 (by omega) H.size) (cwS 1 hts (hj_gS m_435 m_436 m_1 m_437) rfl rfl rfl (by decide +kernel) ⟨Nat.le_of_ble_eq_true rfl, Nat.le_of_ble_eq_true rfl⟩) (hj_preS hj_EXok hE hP hD hK hS hA [] rfl rfl [] rfl) rfl rfl hl.1 rfl (lv_room (Nat.le_of_ble_eq_true rfl)) d_J_generationOfHead_21 ⟨Nat.le_of_ble_eq_true rfl, Nat.le_of_ble_eq_true rfl⟩) (fun r_3 u_4 H locs hw hP hD hK1 hS => ?_)
  subst hw
  have hP : va_P (dC, dI) vwCl [(j, .inr (2, [.ref dk, .ref rc, .ref ta, .ref pa, .int (nI tl), .int (nI st), .int (nI g), .int (nI h)])), (dk, .inr (0, [.ref a, .int du, .int wr])), (a, .inl (cA, 32768, .inl (hj_B d)))] H := hP.sub [0, 1, 2] rfl
  have hD : va_D A [(j, .inr (2, [.ref dk, .ref rc, .ref ta, .ref pa, .int (nI tl), .int (nI st), .int (nI g), .int (nI h)])), (dk, .inr (0, [.ref a, .int du, .int wr])), (a, .inl (cA, 32768, .inl (hj_B d)))] := hD.sub [0, 1, 2] (by decide) rfl
  refine hj_icmp_eq (tgt := 37) hx hb (by first | exact hj_four_lt hd _ | exact hj_chk_lt hd _ _ | omega) (by first | exact hj_four_lt hd _ | exact hj_chk_lt hd _ _ | omega) d_J_generationOfHead_24 (by decide) (fun c_1 => ?_) (fun c_1 => ?_)
  · refine lv_aload_n hx hb d_J_generationOfHead_37 rfl (lv_at hl 2 rfl) ?_
    refine va_get (D := (dC, dI)) (ci := 2) (v := .ref dk) (C := "HalfJournal") (T := F_J) (N := 8) hx hb hts i_J hown hK hP 0 rfl rfl 0 (by decide) (hts _ m_84) (fun _ h9 => h9) rfl d_J_generationOfHead_38 ?_
    refine va_getN (D := (dC, dI)) (ci := 0) (v := .ref a) (C := "HalfJournal$Disk") (T := F_D) (N := 3) hx hb hts i_D hown hK hP 1 rfl rfl 0 (by decide) (va_Nw.use rfl (hE.1 _ m_38)) (fun _ h9 => h9) rfl d_J_generationOfHead_41 ?_
    refine lv_iload_n hx hb d_J_generationOfHead_44 rfl (lv_at hl 1 rfl) ?_
    refine lv_bipush (v := nI 8) hx hb d_J_generationOfHead_45 (by decide) ?_
    refine hj_iadd hx hb d_J_generationOfHead_47 ?_
    refine lv_iconst (v := nI 4) hx hb d_J_generationOfHead_48 (by decide) ?_
    refine hj_calli (wc := [(a, .inl (cA, 32768, .inl (hj_B d)))]) (wr := [(j, .inr (2, [.ref dk, .ref rc, .ref ta, .ref pa, .int (nI tl), .int (nI st), .int (nI g), .int (nI h)])), (dk, .inr (0, [.ref a, .int du, .int wr]))]) [2] [0, 1] hP hD hS hA rfl rfl rfl (by decide) (va_runS (As := [.ref a, .int (nI ((512 * b) + 8)), .int (nI 4)]) (rest := []) ⟨hx, hb, hml, hown, hts⟩ (c_J_number l dC dI a cA 32768 d (512 * b + 8) 4 (by omega) (by omega) (by omega) hd H.size) (cwS 3 hts (hj_gS m_468 m_469 m_1 m_470) rfl rfl rfl (by decide +kernel) ⟨Nat.le_of_ble_eq_true rfl, Nat.le_of_ble_eq_true rfl⟩) (hj_preS hj_EXok hE hP hD hK hS hA [2] rfl rfl [0] rfl) rfl rfl hl.1 rfl (lv_room (Nat.le_of_ble_eq_true rfl)) d_J_generationOfHead_49 ⟨Nat.le_of_ble_eq_true rfl, Nat.le_of_ble_eq_true rfl⟩) (fun r_5 u_6 H locs hw hP hD hK1 hS => ?_)
    subst hw
    have hP : va_P (dC, dI) vwCl [(j, .inr (2, [.ref dk, .ref rc, .ref ta, .ref pa, .int (nI tl), .int (nI st), .int (nI g), .int (nI h)])), (dk, .inr (0, [.ref a, .int du, .int wr])), (a, .inl (cA, 32768, .inl (hj_B d)))] H := hP.sub [0, 1, 2] rfl
    have hD : va_D A [(j, .inr (2, [.ref dk, .ref rc, .ref ta, .ref pa, .int (nI tl), .int (nI st), .int (nI g), .int (nI h)])), (dk, .inr (0, [.ref a, .int du, .int wr])), (a, .inl (cA, 32768, .inl (hj_B d)))] := hD.sub [0, 1, 2] (by decide) rfl
    refine hj_topn (b := hj_four d (512 * b + 8)) (hj_num4 _ _) ?_
    refine lv_aload_n hx hb d_J_generationOfHead_52 rfl (lv_at hl 2 rfl) ?_
    refine va_get (D := (dC, dI)) (ci := 2) (v := .ref dk) (C := "HalfJournal") (T := F_J) (N := 8) hx hb hts i_J hown hK hP 0 rfl rfl 0 (by decide) (hts _ m_84) (fun _ h9 => h9) rfl d_J_generationOfHead_53 ?_
    refine va_getN (D := (dC, dI)) (ci := 0) (v := .ref a) (C := "HalfJournal$Disk") (T := F_D) (N := 3) hx hb hts i_D hown hK hP 1 rfl rfl 0 (by decide) (va_Nw.use rfl (hE.1 _ m_38)) (fun _ h9 => h9) rfl d_J_generationOfHead_56 ?_
    refine lv_iload_n hx hb d_J_generationOfHead_59 rfl (lv_at hl 1 rfl) ?_
    refine lv_bipush (v := nI 8) hx hb d_J_generationOfHead_60 (by decide) ?_
    refine hj_calli (wc := [(a, .inl (cA, 32768, .inl (hj_B d)))]) (wr := [(j, .inr (2, [.ref dk, .ref rc, .ref ta, .ref pa, .int (nI tl), .int (nI st), .int (nI g), .int (nI h)])), (dk, .inr (0, [.ref a, .int du, .int wr]))]) [2] [0, 1] hP hD hS hA rfl rfl rfl (by decide) (va_runS (As := [.ref a, .int (nI (512 * b)), .int (nI 8)]) (rest := [.int (nI (hj_four d (512 * b + 8)))]) ⟨hx, hb, hml, hown, hts⟩ (c_J_checkOf l dC dI a cA 32768 d (512 * b) 8 (by omega) (by omega) hd H.size) (cwS 3 hts (hj_gS m_441 m_442 m_1 m_443) rfl rfl rfl (by decide +kernel) ⟨Nat.le_of_ble_eq_true rfl, Nat.le_of_ble_eq_true rfl⟩) (hj_preS hj_EXok hE hP hD hK hS hA [2] rfl rfl [0] rfl) rfl rfl hl.1 rfl (lv_room (Nat.le_of_ble_eq_true rfl)) d_J_generationOfHead_62 ⟨Nat.le_of_ble_eq_true rfl, Nat.le_of_ble_eq_true rfl⟩) (fun r_7 u_8 H locs hw hP hD hK1 hS => ?_)
    subst hw
    have hP : va_P (dC, dI) vwCl [(j, .inr (2, [.ref dk, .ref rc, .ref ta, .ref pa, .int (nI tl), .int (nI st), .int (nI g), .int (nI h)])), (dk, .inr (0, [.ref a, .int du, .int wr])), (a, .inl (cA, 32768, .inl (hj_B d)))] H := hP.sub [0, 1, 2] rfl
    have hD : va_D A [(j, .inr (2, [.ref dk, .ref rc, .ref ta, .ref pa, .int (nI tl), .int (nI st), .int (nI g), .int (nI h)])), (dk, .inr (0, [.ref a, .int du, .int wr])), (a, .inl (cA, 32768, .inl (hj_B d)))] := hD.sub [0, 1, 2] (by decide) rfl
    refine hj_icmp_eq (tgt := 70) hx hb (by first | exact hj_four_lt hd _ | exact hj_chk_lt hd _ _ | omega) (by first | exact hj_four_lt hd _ | exact hj_chk_lt hd _ _ | omega) d_J_generationOfHead_65 (by decide) (fun c_3 => ?_) (fun c_3 => ?_)
    · refine lv_aload_n hx hb d_J_generationOfHead_70 rfl (lv_at hl 2 rfl) ?_
      refine va_get (D := (dC, dI)) (ci := 2) (v := .ref dk) (C := "HalfJournal") (T := F_J) (N := 8) hx hb hts i_J hown hK hP 0 rfl rfl 0 (by decide) (hts _ m_84) (fun _ h9 => h9) rfl d_J_generationOfHead_71 ?_
      refine va_getN (D := (dC, dI)) (ci := 0) (v := .ref a) (C := "HalfJournal$Disk") (T := F_D) (N := 3) hx hb hts i_D hown hK hP 1 rfl rfl 0 (by decide) (va_Nw.use rfl (hE.1 _ m_38)) (fun _ h9 => h9) rfl d_J_generationOfHead_74 ?_
      refine lv_iload_n hx hb d_J_generationOfHead_77 rfl (lv_at hl 1 rfl) ?_
      refine lv_iconst (v := nI 4) hx hb d_J_generationOfHead_78 (by decide) ?_
      refine hj_iadd hx hb d_J_generationOfHead_79 ?_
      refine lv_iconst (v := nI 4) hx hb d_J_generationOfHead_80 (by decide) ?_
      refine hj_calli (wc := [(a, .inl (cA, 32768, .inl (hj_B d)))]) (wr := [(j, .inr (2, [.ref dk, .ref rc, .ref ta, .ref pa, .int (nI tl), .int (nI st), .int (nI g), .int (nI h)])), (dk, .inr (0, [.ref a, .int du, .int wr]))]) [2] [0, 1] hP hD hS hA rfl rfl rfl (by decide) (va_runS (As := [.ref a, .int (nI ((512 * b) + 4)), .int (nI 4)]) (rest := []) ⟨hx, hb, hml, hown, hts⟩ (c_J_number l dC dI a cA 32768 d (512 * b + 4) 4 (by omega) (by omega) (by omega) hd H.size) (cwS 3 hts (hj_gS m_468 m_469 m_1 m_470) rfl rfl rfl (by decide +kernel) ⟨Nat.le_of_ble_eq_true rfl, Nat.le_of_ble_eq_true rfl⟩) (hj_preS hj_EXok hE hP hD hK hS hA [2] rfl rfl [0] rfl) rfl rfl hl.1 rfl (lv_room (Nat.le_of_ble_eq_true rfl)) d_J_generationOfHead_81 ⟨Nat.le_of_ble_eq_true rfl, Nat.le_of_ble_eq_true rfl⟩) (fun r_9 u_10 H locs hw hP hD hK1 hS => ?_)
      subst hw
      have hP : va_P (dC, dI) vwCl [(j, .inr (2, [.ref dk, .ref rc, .ref ta, .ref pa, .int (nI tl), .int (nI st), .int (nI g), .int (nI h)])), (dk, .inr (0, [.ref a, .int du, .int wr])), (a, .inl (cA, 32768, .inl (hj_B d)))] H := hP.sub [0, 1, 2] rfl
      have hD : va_D A [(j, .inr (2, [.ref dk, .ref rc, .ref ta, .ref pa, .int (nI tl), .int (nI st), .int (nI g), .int (nI h)])), (dk, .inr (0, [.ref a, .int du, .int wr])), (a, .inl (cA, 32768, .inl (hj_B d)))] := hD.sub [0, 1, 2] (by decide) rfl
      refine hj_topn (b := hj_four d (512 * b + 4)) (hj_num4 _ _) ?_
      refine lv_iconst (v := nI 0) hx hb d_J_generationOfHead_84 (by decide) ?_
      refine va_mmax hx hb (hml.trans hl.1.symm) hown (hts _ m_520) (hts _ m_222) (hts _ m_15) (hts _ m_223) (Nat.le_of_ble_eq_true rfl) (Nat.le_of_ble_eq_true rfl) (Nat.le_of_ble_eq_true rfl) (Nat.le_of_ble_eq_true rfl) d_J_generationOfHead_85 ?_
      refine hj_topv (y := nI (hj_hg d b)) (by rw [hj_max0 (hj_four_lt hd _), hj_hg_of hd (Or.inl c_1) c_3]) ?_
      exact hret (nI (hj_hg d b)) () _ _ _ _ d_J_generationOfHead_88 rfl (rfl) hP hK hD hS
    · refine lv_iconst (v := nI 0) hx hb d_J_generationOfHead_68 (by decide) ?_
      exact hret (nI 0) () _ _ _ _ d_J_generationOfHead_69 rfl (by rw [hj_hg_no (fun r => c_3 r.2.2.2.2.2.2)]) hP hK hD hS
  · refine lv_iload_n hx hb d_J_generationOfHead_27 rfl (lv_at hl 0 rfl) ?_
    refine lv_iconst (v := nI 1) hx hb d_J_generationOfHead_28 (by decide) ?_
    refine hj_calli (wc := []) (wr := [(j, .inr (2, [.ref dk, .ref rc, .ref ta, .ref pa, .int (nI tl), .int (nI st), .int (nI g), .int (nI h)])), (dk, .inr (0, [.ref a, .int du, .int wr])), (a, .inl (cA, 32768, .inl (hj_B d)))]) [] [0, 1, 2] hP hD hS hA rfl rfl rfl (by decide) (va_runS (As := [.int (nI 1)]) (rest := [.int (nI (hj_four d (512 * b)))]) ⟨hx, hb, hml, hown, hts⟩ (c_J_headBegin l dC dI 1 (by omega) H.size) (cwS 1 hts (hj_gS m_435 m_436 m_1 m_437) rfl rfl rfl (by decide +kernel) ⟨Nat.le_of_ble_eq_true rfl, Nat.le_of_ble_eq_true rfl⟩) (hj_preS hj_EXok hE hP hD hK hS hA [] rfl rfl [] rfl) rfl rfl hl.1 rfl (lv_room (Nat.le_of_ble_eq_true rfl)) d_J_generationOfHead_29 ⟨Nat.le_of_ble_eq_true rfl, Nat.le_of_ble_eq_true rfl⟩) (fun r_11 u_12 H locs hw hP hD hK1 hS => ?_)
    subst hw
    have hP : va_P (dC, dI) vwCl [(j, .inr (2, [.ref dk, .ref rc, .ref ta, .ref pa, .int (nI tl), .int (nI st), .int (nI g), .int (nI h)])), (dk, .inr (0, [.ref a, .int du, .int wr])), (a, .inl (cA, 32768, .inl (hj_B d)))] H := hP.sub [0, 1, 2] rfl
    have hD : va_D A [(j, .inr (2, [.ref dk, .ref rc, .ref ta, .ref pa, .int (nI tl), .int (nI st), .int (nI g), .int (nI h)])), (dk, .inr (0, [.ref a, .int du, .int wr])), (a, .inl (cA, 32768, .inl (hj_B d)))] := hD.sub [0, 1, 2] (by decide) rfl
    refine hj_icmp_eq (tgt := 37) hx hb (by first | exact hj_four_lt hd _ | exact hj_chk_lt hd _ _ | omega) (by first | exact hj_four_lt hd _ | exact hj_chk_lt hd _ _ | omega) d_J_generationOfHead_32 (by decide) (fun c_2 => ?_) (fun c_2 => ?_)
    · refine lv_aload_n hx hb d_J_generationOfHead_37 rfl (lv_at hl 2 rfl) ?_
      refine va_get (D := (dC, dI)) (ci := 2) (v := .ref dk) (C := "HalfJournal") (T := F_J) (N := 8) hx hb hts i_J hown hK hP 0 rfl rfl 0 (by decide) (hts _ m_84) (fun _ h9 => h9) rfl d_J_generationOfHead_38 ?_
      refine va_getN (D := (dC, dI)) (ci := 0) (v := .ref a) (C := "HalfJournal$Disk") (T := F_D) (N := 3) hx hb hts i_D hown hK hP 1 rfl rfl 0 (by decide) (va_Nw.use rfl (hE.1 _ m_38)) (fun _ h9 => h9) rfl d_J_generationOfHead_41 ?_
      refine lv_iload_n hx hb d_J_generationOfHead_44 rfl (lv_at hl 1 rfl) ?_
      refine lv_bipush (v := nI 8) hx hb d_J_generationOfHead_45 (by decide) ?_
      refine hj_iadd hx hb d_J_generationOfHead_47 ?_
      refine lv_iconst (v := nI 4) hx hb d_J_generationOfHead_48 (by decide) ?_
      refine hj_calli (wc := [(a, .inl (cA, 32768, .inl (hj_B d)))]) (wr := [(j, .inr (2, [.ref dk, .ref rc, .ref ta, .ref pa, .int (nI tl), .int (nI st), .int (nI g), .int (nI h)])), (dk, .inr (0, [.ref a, .int du, .int wr]))]) [2] [0, 1] hP hD hS hA rfl rfl rfl (by decide) (va_runS (As := [.ref a, .int (nI ((512 * b) + 8)), .int (nI 4)]) (rest := []) ⟨hx, hb, hml, hown, hts⟩ (c_J_number l dC dI a cA 32768 d (512 * b + 8) 4 (by omega) (by omega) (by omega) hd H.size) (cwS 3 hts (hj_gS m_468 m_469 m_1 m_470) rfl rfl rfl (by decide +kernel) ⟨Nat.le_of_ble_eq_true rfl, Nat.le_of_ble_eq_true rfl⟩) (hj_preS hj_EXok hE hP hD hK hS hA [2] rfl rfl [0] rfl) rfl rfl hl.1 rfl (lv_room (Nat.le_of_ble_eq_true rfl)) d_J_generationOfHead_49 ⟨Nat.le_of_ble_eq_true rfl, Nat.le_of_ble_eq_true rfl⟩) (fun r_13 u_14 H locs hw hP hD hK1 hS => ?_)
      subst hw
      have hP : va_P (dC, dI) vwCl [(j, .inr (2, [.ref dk, .ref rc, .ref ta, .ref pa, .int (nI tl), .int (nI st), .int (nI g), .int (nI h)])), (dk, .inr (0, [.ref a, .int du, .int wr])), (a, .inl (cA, 32768, .inl (hj_B d)))] H := hP.sub [0, 1, 2] rfl
      have hD : va_D A [(j, .inr (2, [.ref dk, .ref rc, .ref ta, .ref pa, .int (nI tl), .int (nI st), .int (nI g), .int (nI h)])), (dk, .inr (0, [.ref a, .int du, .int wr])), (a, .inl (cA, 32768, .inl (hj_B d)))] := hD.sub [0, 1, 2] (by decide) rfl
      refine hj_topn (b := hj_four d (512 * b + 8)) (hj_num4 _ _) ?_
      refine lv_aload_n hx hb d_J_generationOfHead_52 rfl (lv_at hl 2 rfl) ?_
      refine va_get (D := (dC, dI)) (ci := 2) (v := .ref dk) (C := "HalfJournal") (T := F_J) (N := 8) hx hb hts i_J hown hK hP 0 rfl rfl 0 (by decide) (hts _ m_84) (fun _ h9 => h9) rfl d_J_generationOfHead_53 ?_
      refine va_getN (D := (dC, dI)) (ci := 0) (v := .ref a) (C := "HalfJournal$Disk") (T := F_D) (N := 3) hx hb hts i_D hown hK hP 1 rfl rfl 0 (by decide) (va_Nw.use rfl (hE.1 _ m_38)) (fun _ h9 => h9) rfl d_J_generationOfHead_56 ?_
      refine lv_iload_n hx hb d_J_generationOfHead_59 rfl (lv_at hl 1 rfl) ?_
      refine lv_bipush (v := nI 8) hx hb d_J_generationOfHead_60 (by decide) ?_
      refine hj_calli (wc := [(a, .inl (cA, 32768, .inl (hj_B d)))]) (wr := [(j, .inr (2, [.ref dk, .ref rc, .ref ta, .ref pa, .int (nI tl), .int (nI st), .int (nI g), .int (nI h)])), (dk, .inr (0, [.ref a, .int du, .int wr]))]) [2] [0, 1] hP hD hS hA rfl rfl rfl (by decide) (va_runS (As := [.ref a, .int (nI (512 * b)), .int (nI 8)]) (rest := [.int (nI (hj_four d (512 * b + 8)))]) ⟨hx, hb, hml, hown, hts⟩ (c_J_checkOf l dC dI a cA 32768 d (512 * b) 8 (by omega) (by omega) hd H.size) (cwS 3 hts (hj_gS m_441 m_442 m_1 m_443) rfl rfl rfl (by decide +kernel) ⟨Nat.le_of_ble_eq_true rfl, Nat.le_of_ble_eq_true rfl⟩) (hj_preS hj_EXok hE hP hD hK hS hA [2] rfl rfl [0] rfl) rfl rfl hl.1 rfl (lv_room (Nat.le_of_ble_eq_true rfl)) d_J_generationOfHead_62 ⟨Nat.le_of_ble_eq_true rfl, Nat.le_of_ble_eq_true rfl⟩) (fun r_15 u_16 H locs hw hP hD hK1 hS => ?_)
      subst hw
      have hP : va_P (dC, dI) vwCl [(j, .inr (2, [.ref dk, .ref rc, .ref ta, .ref pa, .int (nI tl), .int (nI st), .int (nI g), .int (nI h)])), (dk, .inr (0, [.ref a, .int du, .int wr])), (a, .inl (cA, 32768, .inl (hj_B d)))] H := hP.sub [0, 1, 2] rfl
      have hD : va_D A [(j, .inr (2, [.ref dk, .ref rc, .ref ta, .ref pa, .int (nI tl), .int (nI st), .int (nI g), .int (nI h)])), (dk, .inr (0, [.ref a, .int du, .int wr])), (a, .inl (cA, 32768, .inl (hj_B d)))] := hD.sub [0, 1, 2] (by decide) rfl
      refine hj_icmp_eq (tgt := 70) hx hb (by first | exact hj_four_lt hd _ | exact hj_chk_lt hd _ _ | omega) (by first | exact hj_four_lt hd _ | exact hj_chk_lt hd _ _ | omega) d_J_generationOfHead_65 (by decide) (fun c_3 => ?_) (fun c_3 => ?_)
      · refine lv_aload_n hx hb d_J_generationOfHead_70 rfl (lv_at hl 2 rfl) ?_
        refine va_get (D := (dC, dI)) (ci := 2) (v := .ref dk) (C := "HalfJournal") (T := F_J) (N := 8) hx hb hts i_J hown hK hP 0 rfl rfl 0 (by decide) (hts _ m_84) (fun _ h9 => h9) rfl d_J_generationOfHead_71 ?_
        refine va_getN (D := (dC, dI)) (ci := 0) (v := .ref a) (C := "HalfJournal$Disk") (T := F_D) (N := 3) hx hb hts i_D hown hK hP 1 rfl rfl 0 (by decide) (va_Nw.use rfl (hE.1 _ m_38)) (fun _ h9 => h9) rfl d_J_generationOfHead_74 ?_
        refine lv_iload_n hx hb d_J_generationOfHead_77 rfl (lv_at hl 1 rfl) ?_
        refine lv_iconst (v := nI 4) hx hb d_J_generationOfHead_78 (by decide) ?_
        refine hj_iadd hx hb d_J_generationOfHead_79 ?_
        refine lv_iconst (v := nI 4) hx hb d_J_generationOfHead_80 (by decide) ?_
        refine hj_calli (wc := [(a, .inl (cA, 32768, .inl (hj_B d)))]) (wr := [(j, .inr (2, [.ref dk, .ref rc, .ref ta, .ref pa, .int (nI tl), .int (nI st), .int (nI g), .int (nI h)])), (dk, .inr (0, [.ref a, .int du, .int wr]))]) [2] [0, 1] hP hD hS hA rfl rfl rfl (by decide) (va_runS (As := [.ref a, .int (nI ((512 * b) + 4)), .int (nI 4)]) (rest := []) ⟨hx, hb, hml, hown, hts⟩ (c_J_number l dC dI a cA 32768 d (512 * b + 4) 4 (by omega) (by omega) (by omega) hd H.size) (cwS 3 hts (hj_gS m_468 m_469 m_1 m_470) rfl rfl rfl (by decide +kernel) ⟨Nat.le_of_ble_eq_true rfl, Nat.le_of_ble_eq_true rfl⟩) (hj_preS hj_EXok hE hP hD hK hS hA [2] rfl rfl [0] rfl) rfl rfl hl.1 rfl (lv_room (Nat.le_of_ble_eq_true rfl)) d_J_generationOfHead_81 ⟨Nat.le_of_ble_eq_true rfl, Nat.le_of_ble_eq_true rfl⟩) (fun r_17 u_18 H locs hw hP hD hK1 hS => ?_)
        subst hw
        have hP : va_P (dC, dI) vwCl [(j, .inr (2, [.ref dk, .ref rc, .ref ta, .ref pa, .int (nI tl), .int (nI st), .int (nI g), .int (nI h)])), (dk, .inr (0, [.ref a, .int du, .int wr])), (a, .inl (cA, 32768, .inl (hj_B d)))] H := hP.sub [0, 1, 2] rfl
        have hD : va_D A [(j, .inr (2, [.ref dk, .ref rc, .ref ta, .ref pa, .int (nI tl), .int (nI st), .int (nI g), .int (nI h)])), (dk, .inr (0, [.ref a, .int du, .int wr])), (a, .inl (cA, 32768, .inl (hj_B d)))] := hD.sub [0, 1, 2] (by decide) rfl
        refine hj_topn (b := hj_four d (512 * b + 4)) (hj_num4 _ _) ?_
        refine lv_iconst (v := nI 0) hx hb d_J_generationOfHead_84 (by decide) ?_
        refine va_mmax hx hb (hml.trans hl.1.symm) hown (hts _ m_520) (hts _ m_222) (hts _ m_15) (hts _ m_223) (Nat.le_of_ble_eq_true rfl) (Nat.le_of_ble_eq_true rfl) (Nat.le_of_ble_eq_true rfl) (Nat.le_of_ble_eq_true rfl) d_J_generationOfHead_85 ?_
        refine hj_topv (y := nI (hj_hg d b)) (by rw [hj_max0 (hj_four_lt hd _), hj_hg_of hd (Or.inr c_2) c_3]) ?_
        exact hret (nI (hj_hg d b)) () _ _ _ _ d_J_generationOfHead_88 rfl (rfl) hP hK hD hS
      · refine lv_iconst (v := nI 0) hx hb d_J_generationOfHead_68 (by decide) ?_
        exact hret (nI 0) () _ _ _ _ d_J_generationOfHead_69 rfl (by rw [hj_hg_no (fun r => c_3 r.2.2.2.2.2.2)]) hP hK hD hS
    · refine lv_iconst (v := nI 0) hx hb d_J_generationOfHead_35 (by decide) ?_
      exact hret (nI 0) () _ _ _ _ d_J_generationOfHead_36 rfl (by rw [hj_hg_no1 hd c_1 c_2]) hP hK hD hS
abbrev rm_J_halfOfHead : Room := { frames := 24, cells := 0, slots := 0, locals := 300 }
set_option maxHeartbeats 4000000 in
set_option maxRecDepth 100000 in
theorem c_J_halfOfHead (l : Launch) (dC : Nat → ClassId) (dI : Nat → Nat → Nat) (j dk rc ta pa : Nat) (tl st g h : Nat) (a : Nat) (cA : ClassId) (d : Nat → Nat) (du wr : Int32) (b : Nat) (hb9 : b < 2) (hd : hj_bs d) : hj_Mi l y_J_halfOfHead b_J_halfOfHead 2 .int rm_J_halfOfHead hj_EX (dC, dI) vwCl [(cA, .byte)] [(j, .inr (2, [.ref dk, .ref rc, .ref ta, .ref pa, .int (nI tl), .int (nI st), .int (nI g), .int (nI h)])), (dk, .inr (0, [.ref a, .int du, .int wr])), (a, .inl (cA, 32768, .inl (hj_B d)))] [.ref j, .int (nI b)] (fun r _ => r = nI (d (512 * b + 2))) (fun _ : Unit => [(j, .inr (2, [.ref dk, .ref rc, .ref ta, .ref pa, .int (nI tl), .int (nI st), .int (nI g), .int (nI h)])), (dk, .inr (0, [.ref a, .int du, .int wr])), (a, .inl (cA, 32768, .inl (hj_B d)))]) (fun _ => [(cA, .byte)]) 0 0 := by
  refine hj_bodyI (by decide +kernel) (Nat.le_of_ble_eq_true rfl) ?_
  intro p e s m args below meth c A Q ls hx hb hts hown hml hA hP hK hD hE hl hret
  have hS : va_S A s.heap s.heap [] := va_S.rf
  have hown : s.vm.findClass "HalfJournal" = some m.cls := hown
  have hl : lv_has ls 2 [(0, .ref j), (1, .int (nI b))] := hl
  have hP : va_P (dC, dI) vwCl [(j, .inr (2, [.ref dk, .ref rc, .ref ta, .ref pa, .int (nI tl), .int (nI st), .int (nI g), .int (nI h)])), (dk, .inr (0, [.ref a, .int du, .int wr])), (a, .inl (cA, 32768, .inl (hj_B d)))] s.heap := hP
  have hD : va_D A [(j, .inr (2, [.ref dk, .ref rc, .ref ta, .ref pa, .int (nI tl), .int (nI st), .int (nI g), .int (nI h)])), (dk, .inr (0, [.ref a, .int du, .int wr])), (a, .inl (cA, 32768, .inl (hj_B d)))] := hD
  refine lv_aload_n hx hb d_J_halfOfHead_0 rfl (lv_at hl 0 rfl) ?_
  refine va_get (D := (dC, dI)) (ci := 2) (v := .ref dk) (C := "HalfJournal") (T := F_J) (N := 8) hx hb hts i_J hown hK hP 0 rfl rfl 0 (by decide) (hts _ m_84) (fun _ h9 => h9) rfl d_J_halfOfHead_1 ?_
  refine va_getN (D := (dC, dI)) (ci := 0) (v := .ref a) (C := "HalfJournal$Disk") (T := F_D) (N := 3) hx hb hts i_D hown hK hP 1 rfl rfl 0 (by decide) (va_Nw.use rfl (hE.1 _ m_38)) (fun _ h9 => h9) rfl d_J_halfOfHead_4 ?_
  refine lv_iload_n hx hb d_J_halfOfHead_7 rfl (lv_at hl 1 rfl) ?_
  refine lv_sipush (v := nI 512) hx hb d_J_halfOfHead_8 (by decide) ?_
  refine hj_imul hx hb d_J_halfOfHead_11 ?_
  refine lv_iconst (v := nI 2) hx hb d_J_halfOfHead_12 (by decide) ?_
  refine hj_iadd hx hb d_J_halfOfHead_13 ?_
  refine lv_iconst (v := nI 1) hx hb d_J_halfOfHead_14 (by decide) ?_
  refine hj_calli (wc := [(a, .inl (cA, 32768, .inl (hj_B d)))]) (wr := [(j, .inr (2, [.ref dk, .ref rc, .ref ta, .ref pa, .int (nI tl), .int (nI st), .int (nI g), .int (nI h)])), (dk, .inr (0, [.ref a, .int du, .int wr]))]) [2] [0, 1] hP hD hS hA rfl rfl rfl (by decide) (va_runS (As := [.ref a, .int (nI ((b * 512) + 2)), .int (nI 1)]) (rest := []) ⟨hx, hb, hml, hown, hts⟩ (c_J_number l dC dI a cA 32768 d (b * 512 + 2) 1 (by omega) (by omega) (by omega) hd s.heap.size) (cwS 3 hts (hj_gS m_468 m_469 m_1 m_470) rfl rfl rfl (by decide +kernel) ⟨Nat.le_of_ble_eq_true rfl, Nat.le_of_ble_eq_true rfl⟩) (hj_preS hj_EXok hE hP hD hK hS hA [2] rfl rfl [0] rfl) rfl rfl hl.1 rfl (lv_room (Nat.le_of_ble_eq_true rfl)) d_J_halfOfHead_15 ⟨Nat.le_of_ble_eq_true rfl, Nat.le_of_ble_eq_true rfl⟩) (fun r_1 u_2 H locs hw hP hD hK1 hS => ?_)
  subst hw
  have hP : va_P (dC, dI) vwCl [(j, .inr (2, [.ref dk, .ref rc, .ref ta, .ref pa, .int (nI tl), .int (nI st), .int (nI g), .int (nI h)])), (dk, .inr (0, [.ref a, .int du, .int wr])), (a, .inl (cA, 32768, .inl (hj_B d)))] H := hP.sub [0, 1, 2] rfl
  have hD : va_D A [(j, .inr (2, [.ref dk, .ref rc, .ref ta, .ref pa, .int (nI tl), .int (nI st), .int (nI g), .int (nI h)])), (dk, .inr (0, [.ref a, .int du, .int wr])), (a, .inl (cA, 32768, .inl (hj_B d)))] := hD.sub [0, 1, 2] (by decide) rfl
  refine hj_topn (b := d (512 * b + 2)) (by rw [hj_num1, Nat.mul_comm b 512]) ?_
  exact hret (nI (d (512 * b + 2))) () _ _ _ _ d_J_halfOfHead_18 rfl (rfl) hP hK hD hS
end
section
theorem hj_wdn_0 {r d : Nat → Nat} {b0 f m : Nat} {du wr : Int32} (h : du = 0) : hj_wdn r b0 f (m + 1) d du wr = (false, d, -1, wr) := if_pos h
theorem hj_wdn_s {r d : Nat → Nat} {b0 f m : Nat} {du wr : Int32} (h : ¬ du = 0) : hj_wdn r b0 f (m + 1) d du wr = hj_wdn r b0 f m (hj_blk d (b0 + (f + m)) r ((f + m) * 512)) (hj_dec du) (wr + 1) := by
  rw [show b0 + (f + m) = b0 + f + m by omega, Nat.mul_comm (f + m) 512]
  exact if_neg h
theorem hj_wup_0 {r d : Nat → Nat} {b0 b m : Nat} {du wr : Int32} (h : du = 0) : hj_wup r b0 (m + 1) b d du wr = (false, d, -1, wr) := if_pos h
theorem hj_wup_s {r d : Nat → Nat} {b0 b m : Nat} {du wr : Int32} (h : ¬ du = 0) : hj_wup r b0 (m + 1) b d du wr = hj_wup r b0 m (b + 1) (hj_blk d (b0 + b) r (b * 512)) (hj_dec du) (wr + 1) := by
  rw [Nat.mul_comm b 512]
  exact if_neg h
theorem hj_pnx_bs {d : Nat → Nat} {a n w : Nat} (hd : hj_bs d) : hj_bs (hj_pn d a n w) := hj_pn_bs hd
abbrev rm_J_planTape : Room := { frames := 32, cells := 0, slots := 0, locals := 400 }
set_option maxHeartbeats 4000000 in
set_option maxRecDepth 100000 in
theorem c_J_planTape (l : Launch) (dC : Nat → ClassId) (dI : Nat → Nat → Nat) (j dk rc ta pa : Nat) (tl st g h : Nat) (a : Nat) (cA : ClassId) (d : Nat → Nat) (du wr : Int32) (sa la ma : Nat) (n us mm : Nat) (cT cP : ClassId) (tp pl : Nat → Nat) (f1 l1 : Nat) (hh : h < 2) (hd : hj_bs d) (ht : hj_bs tp) (hp : hj_bs pl) (hf : 512 * f1 ≤ us) (hfl : us ≤ 512 * (l1 + 1)) (hl1 : l1 ≤ 30) (htl : tl ≤ 1000) (hend : us + 6 + tl ≤ 512 * (l1 + 1)) : hj_Mv l y_J_planTape b_J_planTape 6 rm_J_planTape hj_EX (dC, dI) vwCl [(cT, .byte), (cP, .byte), (cA, .byte)] [(j, .inr (2, [.ref dk, .ref rc, .ref ta, .ref pa, .int (nI tl), .int (nI st), .int (nI g), .int (nI h)])), (dk, .inr (0, [.ref a, .int du, .int wr])), (rc, .inr (1, [.ref sa, .ref la, .ref ma, .int (nI n), .int (nI us), .int (nI mm)])), (ta, .inl (cT, 1000, .inl (hj_B tp))), (pa, .inl (cP, 15872, .inl (hj_B pl))), (a, .inl (cA, 32768, .inl (hj_B d)))] [.ref j, .int (nI f1), .int (nI l1)] (fun y => hj_bs y ∧ ∀ q, 512 * f1 ≤ q → q < 512 * (l1 + 1) → y q = hj_im d h us tp tl q) (fun y : Nat → Nat => [(j, .inr (2, [.ref dk, .ref rc, .ref ta, .ref pa, .int (nI tl), .int (nI st), .int (nI g), .int (nI h)])), (dk, .inr (0, [.ref a, .int du, .int wr])), (rc, .inr (1, [.ref sa, .ref la, .ref ma, .int (nI n), .int (nI us), .int (nI mm)])), (ta, .inl (cT, 1000, .inl (hj_B tp))), (pa, .inl (cP, 15872, .inl (hj_B y))), (a, .inl (cA, 32768, .inl (hj_B d)))]) (fun _ => [(cT, .byte), (cP, .byte), (cA, .byte)]) 0 0 := by
  refine hj_bodyV (by decide +kernel) (Nat.le_of_ble_eq_true rfl) ?_
  intro p e s m args below meth c A Q ls hx hb hts hown hml hin hA hP hK hD hE hl hret
  have hS : va_S A s.heap s.heap [] := va_S.rf
  have hown : s.vm.findClass "HalfJournal" = some m.cls := hown
  have hl : lv_has ls 6 [(0, .ref j), (1, .int (nI f1)), (2, .int (nI l1))] := hl
  have hP : va_P (dC, dI) vwCl [(j, .inr (2, [.ref dk, .ref rc, .ref ta, .ref pa, .int (nI tl), .int (nI st), .int (nI g), .int (nI h)])), (dk, .inr (0, [.ref a, .int du, .int wr])), (rc, .inr (1, [.ref sa, .ref la, .ref ma, .int (nI n), .int (nI us), .int (nI mm)])), (ta, .inl (cT, 1000, .inl (hj_B tp))), (pa, .inl (cP, 15872, .inl (hj_B pl))), (a, .inl (cA, 32768, .inl (hj_B d)))] s.heap := hP
  have hD : va_D A [(j, .inr (2, [.ref dk, .ref rc, .ref ta, .ref pa, .int (nI tl), .int (nI st), .int (nI g), .int (nI h)])), (dk, .inr (0, [.ref a, .int du, .int wr])), (rc, .inr (1, [.ref sa, .ref la, .ref ma, .int (nI n), .int (nI us), .int (nI mm)])), (ta, .inl (cT, 1000, .inl (hj_B tp))), (pa, .inl (cP, 15872, .inl (hj_B pl))), (a, .inl (cA, 32768, .inl (hj_B d)))] := hD
  have hhb := hj_hb_le hh
  refine lv_iload_n hx hb d_J_planTape_0 rfl (lv_at hl 1 rfl) ?_
  refine lv_sipush (v := nI 512) hx hb d_J_planTape_1 (by decide) ?_
  refine hj_imul hx hb d_J_planTape_4 ?_
  refine lv_istore_n (lv' := [(3, .int (nI (f1 * 512))), (0, .ref j), (1, .int (nI f1)), (2, .int (nI l1))]) hx hb d_J_planTape_5 rfl hl (by decide) rfl (fun ls hl => ?_)
  refine lv_aload_n hx hb d_J_planTape_6 rfl (lv_at hl 1 rfl) ?_
  refine va_get (D := (dC, dI)) (ci := 2) (v := .ref rc) (C := "HalfJournal") (T := F_J) (N := 8) hx hb hts i_J hown hK hP 0 rfl rfl 1 (by decide) (hts _ m_85) (fun _ h9 => h9) rfl d_J_planTape_7 ?_
  refine va_getN (D := (dC, dI)) (ci := 1) (v := .int (nI us)) (C := "HalfJournal$Records") (T := F_R) (N := 6) hx hb hts i_R hown hK hP 2 rfl rfl 4 (by decide) (va_Nw.use rfl (hE.1 _ m_66)) (fun _ h9 => h9) rfl d_J_planTape_10 ?_
  refine lv_istore (lv' := [(4, .int (nI us)), (3, .int (nI (f1 * 512))), (0, .ref j), (1, .int (nI f1)), (2, .int (nI l1))]) hx hb d_J_planTape_13 hl (by decide) rfl (fun ls hl => ?_)
  refine lv_aload_n hx hb d_J_planTape_15 rfl (lv_at hl 2 rfl) ?_
  refine va_get (D := (dC, dI)) (ci := 2) (v := .ref dk) (C := "HalfJournal") (T := F_J) (N := 8) hx hb hts i_J hown hK hP 0 rfl rfl 0 (by decide) (hts _ m_84) (fun _ h9 => h9) rfl d_J_planTape_16 ?_
  refine va_getN (D := (dC, dI)) (ci := 0) (v := .ref a) (C := "HalfJournal$Disk") (T := F_D) (N := 3) hx hb hts i_D hown hK hP 1 rfl rfl 0 (by decide) (va_Nw.use rfl (hE.1 _ m_38)) (fun _ h9 => h9) rfl d_J_planTape_19 ?_
  refine lv_aload_n hx hb d_J_planTape_22 rfl (lv_at hl 2 rfl) ?_
  refine va_get (D := (dC, dI)) (ci := 2) (v := .int (nI h)) (C := "HalfJournal") (T := F_J) (N := 8) hx hb hts i_J hown hK hP 0 rfl rfl 7 (by decide) (hts _ m_91) (fun _ h9 => h9) rfl d_J_planTape_23 ?_
  refine hj_calli (wc := []) (wr := [(j, .inr (2, [.ref dk, .ref rc, .ref ta, .ref pa, .int (nI tl), .int (nI st), .int (nI g), .int (nI h)])), (dk, .inr (0, [.ref a, .int du, .int wr])), (rc, .inr (1, [.ref sa, .ref la, .ref ma, .int (nI n), .int (nI us), .int (nI mm)])), (ta, .inl (cT, 1000, .inl (hj_B tp))), (pa, .inl (cP, 15872, .inl (hj_B pl))), (a, .inl (cA, 32768, .inl (hj_B d)))]) [] [0, 1, 2, 3, 4, 5] hP hD hS hA rfl rfl rfl (by decide) (va_runS (As := [.int (nI h)]) (rest := [.ref a]) ⟨hx, hb, hml, hown, hts⟩ (c_J_firstByteOf l dC dI h s.heap.size) (cwS 1 hts (hj_gS m_462 m_463 m_1 m_464) rfl rfl rfl (by decide +kernel) ⟨Nat.le_of_ble_eq_true rfl, Nat.le_of_ble_eq_true rfl⟩) (hj_preS hj_EXok hE hP hD hK hS hA [] rfl rfl [] rfl) rfl rfl hl.1 rfl (lv_room (Nat.le_of_ble_eq_true rfl)) d_J_planTape_26 ⟨Nat.le_of_ble_eq_true rfl, Nat.le_of_ble_eq_true rfl⟩) (fun r_1 u_2 H locs hw hP hD hK1 hS => ?_)
  subst hw
  have hP : va_P (dC, dI) vwCl [(j, .inr (2, [.ref dk, .ref rc, .ref ta, .ref pa, .int (nI tl), .int (nI st), .int (nI g), .int (nI h)])), (dk, .inr (0, [.ref a, .int du, .int wr])), (rc, .inr (1, [.ref sa, .ref la, .ref ma, .int (nI n), .int (nI us), .int (nI mm)])), (ta, .inl (cT, 1000, .inl (hj_B tp))), (pa, .inl (cP, 15872, .inl (hj_B pl))), (a, .inl (cA, 32768, .inl (hj_B d)))] H := hP.sub [0, 1, 2, 3, 4, 5] rfl
  have hD : va_D A [(j, .inr (2, [.ref dk, .ref rc, .ref ta, .ref pa, .int (nI tl), .int (nI st), .int (nI g), .int (nI h)])), (dk, .inr (0, [.ref a, .int du, .int wr])), (rc, .inr (1, [.ref sa, .ref la, .ref ma, .int (nI n), .int (nI us), .int (nI mm)])), (ta, .inl (cT, 1000, .inl (hj_B tp))), (pa, .inl (cP, 15872, .inl (hj_B pl))), (a, .inl (cA, 32768, .inl (hj_B d)))] := hD.sub [0, 1, 2, 3, 4, 5] (by decide) rfl
  refine lv_iload_n hx hb d_J_planTape_29 rfl (lv_at hl 1 rfl) ?_
  refine hj_iadd hx hb d_J_planTape_30 ?_
  refine lv_aload_n hx hb d_J_planTape_31 rfl (lv_at hl 2 rfl) ?_
  refine va_get (D := (dC, dI)) (ci := 2) (v := .ref pa) (C := "HalfJournal") (T := F_J) (N := 8) hx hb hts i_J hown hK hP 0 rfl rfl 3 (by decide) (hts _ m_87) (fun _ h9 => h9) rfl d_J_planTape_32 ?_
  refine lv_iload_n hx hb d_J_planTape_35 rfl (lv_at hl 1 rfl) ?_
  refine lv_iload hx hb d_J_planTape_36 (lv_at hl 0 rfl) ?_
  refine lv_iload_n hx hb d_J_planTape_38 rfl (lv_at hl 1 rfl) ?_
  refine hj_isub hx hb (by omega) d_J_planTape_39 ?_
  refine hj_callv (wc := [(a, .inl (cA, 32768, .inl (hj_B d))), (pa, .inl (cP, 15872, .inl (hj_B pl)))]) (wr := [(j, .inr (2, [.ref dk, .ref rc, .ref ta, .ref pa, .int (nI tl), .int (nI st), .int (nI g), .int (nI h)])), (dk, .inr (0, [.ref a, .int du, .int wr])), (rc, .inr (1, [.ref sa, .ref la, .ref ma, .int (nI n), .int (nI us), .int (nI mm)])), (ta, .inl (cT, 1000, .inl (hj_B tp)))]) [5, 4] [0, 1, 2, 3] hP hD hS hA rfl rfl rfl (by decide) (va_runS (As := [.ref a, .int (nI ((hj_hb h) + (f1 * 512))), .ref pa, .int (nI (f1 * 512)), .int (nI (us - (f1 * 512)))]) (rest := []) ⟨hx, hb, hml, hown, hts⟩ (c_J_copyBytes l dC dI a cA 32768 d pa cP 15872 pl (hj_hb h + f1 * 512) (f1 * 512) (us - f1 * 512) (by omega) (by omega) (by omega) (by omega) H.size) (cwS 5 hts (hj_gS m_604 m_605 m_1 m_606) rfl rfl rfl (by decide +kernel) ⟨Nat.le_of_ble_eq_true rfl, Nat.le_of_ble_eq_true rfl⟩) (hj_preS hj_EXok hE hP hD hK hS hA [5, 4] rfl rfl [2, 1] rfl) rfl rfl hl.1 rfl (lv_room (Nat.le_of_ble_eq_true rfl)) d_J_planTape_40 ⟨Nat.le_of_ble_eq_true rfl, Nat.le_of_ble_eq_true rfl⟩) (fun u_4 H locs hw hP hD hK1 hS => ?_)
  have hP : va_P (dC, dI) vwCl [(j, .inr (2, [.ref dk, .ref rc, .ref ta, .ref pa, .int (nI tl), .int (nI st), .int (nI g), .int (nI h)])), (dk, .inr (0, [.ref a, .int du, .int wr])), (rc, .inr (1, [.ref sa, .ref la, .ref ma, .int (nI n), .int (nI us), .int (nI mm)])), (ta, .inl (cT, 1000, .inl (hj_B tp))), (pa, .inl (cP, 15872, .inl (hj_B (va_cpy d pl (hj_hb h + f1 * 512) (f1 * 512) (us - f1 * 512))))), (a, .inl (cA, 32768, .inl (hj_B d)))] H := hP.sub [0, 1, 2, 3, 5, 4] rfl
  have hD : va_D A [(j, .inr (2, [.ref dk, .ref rc, .ref ta, .ref pa, .int (nI tl), .int (nI st), .int (nI g), .int (nI h)])), (dk, .inr (0, [.ref a, .int du, .int wr])), (rc, .inr (1, [.ref sa, .ref la, .ref ma, .int (nI n), .int (nI us), .int (nI mm)])), (ta, .inl (cT, 1000, .inl (hj_B tp))), (pa, .inl (cP, 15872, .inl (hj_B (va_cpy d pl (hj_hb h + f1 * 512) (f1 * 512) (us - f1 * 512))))), (a, .inl (cA, 32768, .inl (hj_B d)))] := hD.sub [0, 1, 2, 3, 5, 4] (by decide) rfl
  refine lv_aload_n hx hb d_J_planTape_43 rfl (lv_at hl 2 rfl) ?_
  refine va_get (D := (dC, dI)) (ci := 2) (v := .ref pa) (C := "HalfJournal") (T := F_J) (N := 8) hx hb hts i_J hown hK hP 0 rfl rfl 3 (by decide) (hts _ m_87) (fun _ h9 => h9) rfl d_J_planTape_44 ?_
  refine lv_iload hx hb d_J_planTape_47 (lv_at hl 0 rfl) ?_
  refine lv_iload_n hx hb d_J_planTape_49 rfl (lv_at hl 4 rfl) ?_
  refine lv_iconst (v := nI 1) hx hb d_J_planTape_50 (by decide) ?_
  refine hj_iadd hx hb d_J_planTape_51 ?_
  refine lv_sipush (v := nI 512) hx hb d_J_planTape_52 (by decide) ?_
  refine hj_imul hx hb d_J_planTape_55 ?_
  refine hj_callv (wc := [(pa, .inl (cP, 15872, .inl (hj_B (va_cpy d pl (hj_hb h + f1 * 512) (f1 * 512) (us - f1 * 512)))))]) (wr := [(j, .inr (2, [.ref dk, .ref rc, .ref ta, .ref pa, .int (nI tl), .int (nI st), .int (nI g), .int (nI h)])), (dk, .inr (0, [.ref a, .int du, .int wr])), (rc, .inr (1, [.ref sa, .ref la, .ref ma, .int (nI n), .int (nI us), .int (nI mm)])), (ta, .inl (cT, 1000, .inl (hj_B tp))), (a, .inl (cA, 32768, .inl (hj_B d)))]) [4] [0, 1, 2, 3, 5] hP hD hS hA rfl rfl rfl (by decide) (va_runS (As := [.ref pa, .int (nI us), .int (nI ((l1 + 1) * 512))]) (rest := []) ⟨hx, hb, hml, hown, hts⟩ (c_J_clearBytes l dC dI pa cP 15872 (va_cpy d pl (hj_hb h + f1 * 512) (f1 * 512) (us - f1 * 512)) us ((l1 + 1) * 512) (by omega) (by omega) (by omega) H.size) (cwS 3 hts (hj_gS m_114 m_115 m_1 m_116) rfl rfl rfl (by decide +kernel) ⟨Nat.le_of_ble_eq_true rfl, Nat.le_of_ble_eq_true rfl⟩) (hj_preS hj_EXok hE hP hD hK hS hA [4] rfl rfl [1] rfl) rfl rfl hl.1 rfl (lv_room (Nat.le_of_ble_eq_true rfl)) d_J_planTape_56 ⟨Nat.le_of_ble_eq_true rfl, Nat.le_of_ble_eq_true rfl⟩) (fun u_6 H locs hw hP hD hK1 hS => ?_)
  have hP : va_P (dC, dI) vwCl [(j, .inr (2, [.ref dk, .ref rc, .ref ta, .ref pa, .int (nI tl), .int (nI st), .int (nI g), .int (nI h)])), (dk, .inr (0, [.ref a, .int du, .int wr])), (rc, .inr (1, [.ref sa, .ref la, .ref ma, .int (nI n), .int (nI us), .int (nI mm)])), (ta, .inl (cT, 1000, .inl (hj_B tp))), (pa, .inl (cP, 15872, .inl (hj_B (hj_clr (va_cpy d pl (hj_hb h + f1 * 512) (f1 * 512) (us - f1 * 512)) us ((l1 + 1) * 512))))), (a, .inl (cA, 32768, .inl (hj_B d)))] H := hP.sub [0, 1, 2, 3, 5, 4] rfl
  have hD : va_D A [(j, .inr (2, [.ref dk, .ref rc, .ref ta, .ref pa, .int (nI tl), .int (nI st), .int (nI g), .int (nI h)])), (dk, .inr (0, [.ref a, .int du, .int wr])), (rc, .inr (1, [.ref sa, .ref la, .ref ma, .int (nI n), .int (nI us), .int (nI mm)])), (ta, .inl (cT, 1000, .inl (hj_B tp))), (pa, .inl (cP, 15872, .inl (hj_B (hj_clr (va_cpy d pl (hj_hb h + f1 * 512) (f1 * 512) (us - f1 * 512)) us ((l1 + 1) * 512))))), (a, .inl (cA, 32768, .inl (hj_B d)))] := hD.sub [0, 1, 2, 3, 5, 4] (by decide) rfl
  refine lv_aload_n hx hb d_J_planTape_59 rfl (lv_at hl 2 rfl) ?_
  refine va_get (D := (dC, dI)) (ci := 2) (v := .ref pa) (C := "HalfJournal") (T := F_J) (N := 8) hx hb hts i_J hown hK hP 0 rfl rfl 3 (by decide) (hts _ m_87) (fun _ h9 => h9) rfl d_J_planTape_60 ?_
  refine lv_iload hx hb d_J_planTape_63 (lv_at hl 0 rfl) ?_
  refine lv_iconst (v := nI 2) hx hb d_J_planTape_65 (by decide) ?_
  refine lv_aload_n hx hb d_J_planTape_66 rfl (lv_at hl 2 rfl) ?_
  refine va_get (D := (dC, dI)) (ci := 2) (v := .int (nI tl)) (C := "HalfJournal") (T := F_J) (N := 8) hx hb hts i_J hown hK hP 0 rfl rfl 4 (by decide) (hts _ m_88) (fun _ h9 => h9) rfl d_J_planTape_67 ?_
  refine hj_callv (wc := [(pa, .inl (cP, 15872, .inl (hj_B (hj_clr (va_cpy d pl (hj_hb h + f1 * 512) (f1 * 512) (us - f1 * 512)) us ((l1 + 1) * 512)))))]) (wr := [(j, .inr (2, [.ref dk, .ref rc, .ref ta, .ref pa, .int (nI tl), .int (nI st), .int (nI g), .int (nI h)])), (dk, .inr (0, [.ref a, .int du, .int wr])), (rc, .inr (1, [.ref sa, .ref la, .ref ma, .int (nI n), .int (nI us), .int (nI mm)])), (ta, .inl (cT, 1000, .inl (hj_B tp))), (a, .inl (cA, 32768, .inl (hj_B d)))]) [4] [0, 1, 2, 3, 5] hP hD hS hA rfl rfl rfl (by decide) (va_runS (As := [.ref pa, .int (nI us), .int (nI 2), .int (nI tl)]) (rest := []) ⟨hx, hb, hml, hown, hts⟩ (c_J_putNumber l dC dI pa cP 15872 (hj_clr (va_cpy d pl (hj_hb h + f1 * 512) (f1 * 512) (us - f1 * 512)) us ((l1 + 1) * 512)) us 2 tl (by omega) (by omega) (by omega) (by omega) H.size) (cwS 4 hts (hj_gS m_438 m_439 m_1 m_440) rfl rfl rfl (by decide +kernel) ⟨Nat.le_of_ble_eq_true rfl, Nat.le_of_ble_eq_true rfl⟩) (hj_preS hj_EXok hE hP hD hK hS hA [4] rfl rfl [1] rfl) rfl rfl hl.1 rfl (lv_room (Nat.le_of_ble_eq_true rfl)) d_J_planTape_70 ⟨Nat.le_of_ble_eq_true rfl, Nat.le_of_ble_eq_true rfl⟩) (fun u_8 H locs hw hP hD hK1 hS => ?_)
  have hP : va_P (dC, dI) vwCl [(j, .inr (2, [.ref dk, .ref rc, .ref ta, .ref pa, .int (nI tl), .int (nI st), .int (nI g), .int (nI h)])), (dk, .inr (0, [.ref a, .int du, .int wr])), (rc, .inr (1, [.ref sa, .ref la, .ref ma, .int (nI n), .int (nI us), .int (nI mm)])), (ta, .inl (cT, 1000, .inl (hj_B tp))), (pa, .inl (cP, 15872, .inl (hj_B (hj_pn (hj_clr (va_cpy d pl (hj_hb h + f1 * 512) (f1 * 512) (us - f1 * 512)) us ((l1 + 1) * 512)) us 2 tl)))), (a, .inl (cA, 32768, .inl (hj_B d)))] H := hP.sub [0, 1, 2, 3, 5, 4] rfl
  have hD : va_D A [(j, .inr (2, [.ref dk, .ref rc, .ref ta, .ref pa, .int (nI tl), .int (nI st), .int (nI g), .int (nI h)])), (dk, .inr (0, [.ref a, .int du, .int wr])), (rc, .inr (1, [.ref sa, .ref la, .ref ma, .int (nI n), .int (nI us), .int (nI mm)])), (ta, .inl (cT, 1000, .inl (hj_B tp))), (pa, .inl (cP, 15872, .inl (hj_B (hj_pn (hj_clr (va_cpy d pl (hj_hb h + f1 * 512) (f1 * 512) (us - f1 * 512)) us ((l1 + 1) * 512)) us 2 tl)))), (a, .inl (cA, 32768, .inl (hj_B d)))] := hD.sub [0, 1, 2, 3, 5, 4] (by decide) rfl
  refine lv_aload_n hx hb d_J_planTape_73 rfl (lv_at hl 2 rfl) ?_
  refine va_get (D := (dC, dI)) (ci := 2) (v := .ref ta) (C := "HalfJournal") (T := F_J) (N := 8) hx hb hts i_J hown hK hP 0 rfl rfl 2 (by decide) (hts _ m_86) (fun _ h9 => h9) rfl d_J_planTape_74 ?_
  refine lv_iconst (v := nI 0) hx hb d_J_planTape_77 (by decide) ?_
  refine lv_aload_n hx hb d_J_planTape_78 rfl (lv_at hl 2 rfl) ?_
  refine va_get (D := (dC, dI)) (ci := 2) (v := .ref pa) (C := "HalfJournal") (T := F_J) (N := 8) hx hb hts i_J hown hK hP 0 rfl rfl 3 (by decide) (hts _ m_87) (fun _ h9 => h9) rfl d_J_planTape_79 ?_
  refine lv_iload hx hb d_J_planTape_82 (lv_at hl 0 rfl) ?_
  refine lv_iconst (v := nI 2) hx hb d_J_planTape_84 (by decide) ?_
  refine hj_iadd hx hb d_J_planTape_85 ?_
  refine lv_aload_n hx hb d_J_planTape_86 rfl (lv_at hl 2 rfl) ?_
  refine va_get (D := (dC, dI)) (ci := 2) (v := .int (nI tl)) (C := "HalfJournal") (T := F_J) (N := 8) hx hb hts i_J hown hK hP 0 rfl rfl 4 (by decide) (hts _ m_88) (fun _ h9 => h9) rfl d_J_planTape_87 ?_
  refine hj_callv (wc := [(ta, .inl (cT, 1000, .inl (hj_B tp))), (pa, .inl (cP, 15872, .inl (hj_B (hj_pn (hj_clr (va_cpy d pl (hj_hb h + f1 * 512) (f1 * 512) (us - f1 * 512)) us ((l1 + 1) * 512)) us 2 tl))))]) (wr := [(j, .inr (2, [.ref dk, .ref rc, .ref ta, .ref pa, .int (nI tl), .int (nI st), .int (nI g), .int (nI h)])), (dk, .inr (0, [.ref a, .int du, .int wr])), (rc, .inr (1, [.ref sa, .ref la, .ref ma, .int (nI n), .int (nI us), .int (nI mm)])), (a, .inl (cA, 32768, .inl (hj_B d)))]) [3, 4] [0, 1, 2, 5] hP hD hS hA rfl rfl rfl (by decide) (va_runS (As := [.ref ta, .int (nI 0), .ref pa, .int (nI (us + 2)), .int (nI tl)]) (rest := []) ⟨hx, hb, hml, hown, hts⟩ (c_J_copyBytes l dC dI ta cT 1000 tp pa cP 15872 (hj_pn (hj_clr (va_cpy d pl (hj_hb h + f1 * 512) (f1 * 512) (us - f1 * 512)) us ((l1 + 1) * 512)) us 2 tl) 0 (us + 2) tl (by omega) (by omega) (by omega) (by omega) H.size) (cwS 5 hts (hj_gS m_604 m_605 m_1 m_606) rfl rfl rfl (by decide +kernel) ⟨Nat.le_of_ble_eq_true rfl, Nat.le_of_ble_eq_true rfl⟩) (hj_preS hj_EXok hE hP hD hK hS hA [3, 4] rfl rfl [0, 1] rfl) rfl rfl hl.1 rfl (lv_room (Nat.le_of_ble_eq_true rfl)) d_J_planTape_90 ⟨Nat.le_of_ble_eq_true rfl, Nat.le_of_ble_eq_true rfl⟩) (fun u_10 H locs hw hP hD hK1 hS => ?_)
  have hP : va_P (dC, dI) vwCl [(j, .inr (2, [.ref dk, .ref rc, .ref ta, .ref pa, .int (nI tl), .int (nI st), .int (nI g), .int (nI h)])), (dk, .inr (0, [.ref a, .int du, .int wr])), (rc, .inr (1, [.ref sa, .ref la, .ref ma, .int (nI n), .int (nI us), .int (nI mm)])), (ta, .inl (cT, 1000, .inl (hj_B tp))), (pa, .inl (cP, 15872, .inl (hj_B (va_cpy tp (hj_pn (hj_clr (va_cpy d pl (hj_hb h + f1 * 512) (f1 * 512) (us - f1 * 512)) us ((l1 + 1) * 512)) us 2 tl) 0 (us + 2) tl)))), (a, .inl (cA, 32768, .inl (hj_B d)))] H := hP.sub [0, 1, 2, 4, 5, 3] rfl
  have hD : va_D A [(j, .inr (2, [.ref dk, .ref rc, .ref ta, .ref pa, .int (nI tl), .int (nI st), .int (nI g), .int (nI h)])), (dk, .inr (0, [.ref a, .int du, .int wr])), (rc, .inr (1, [.ref sa, .ref la, .ref ma, .int (nI n), .int (nI us), .int (nI mm)])), (ta, .inl (cT, 1000, .inl (hj_B tp))), (pa, .inl (cP, 15872, .inl (hj_B (va_cpy tp (hj_pn (hj_clr (va_cpy d pl (hj_hb h + f1 * 512) (f1 * 512) (us - f1 * 512)) us ((l1 + 1) * 512)) us 2 tl) 0 (us + 2) tl)))), (a, .inl (cA, 32768, .inl (hj_B d)))] := hD.sub [0, 1, 2, 4, 5, 3] (by decide) rfl
  have hb4 : hj_bs (va_cpy tp (hj_pn (hj_clr (va_cpy d pl (hj_hb h + f1 * 512) (f1 * 512) (us - f1 * 512)) us ((l1 + 1) * 512)) us 2 tl) 0 (us + 2) tl) := hj_cpy_bs ht (hj_pn_bs (hj_clr_bs (hj_cpy_bs hd hp)))
  refine lv_iconst (v := nI 2) hx hb d_J_planTape_93 (by decide) ?_
  refine lv_aload_n hx hb d_J_planTape_94 rfl (lv_at hl 2 rfl) ?_
  refine va_get (D := (dC, dI)) (ci := 2) (v := .int (nI tl)) (C := "HalfJournal") (T := F_J) (N := 8) hx hb hts i_J hown hK hP 0 rfl rfl 4 (by decide) (hts _ m_88) (fun _ h9 => h9) rfl d_J_planTape_95 ?_
  refine hj_iadd hx hb d_J_planTape_98 ?_
  refine lv_istore (lv' := [(5, .int (nI (2 + tl))), (4, .int (nI us)), (3, .int (nI (f1 * 512))), (0, .ref j), (1, .int (nI f1)), (2, .int (nI l1))]) hx hb d_J_planTape_99 hl (by decide) rfl (fun ls hl => ?_)
  refine lv_aload_n hx hb d_J_planTape_101 rfl (lv_at hl 3 rfl) ?_
  refine va_get (D := (dC, dI)) (ci := 2) (v := .ref pa) (C := "HalfJournal") (T := F_J) (N := 8) hx hb hts i_J hown hK hP 0 rfl rfl 3 (by decide) (hts _ m_87) (fun _ h9 => h9) rfl d_J_planTape_102 ?_
  refine lv_iload hx hb d_J_planTape_105 (lv_at hl 1 rfl) ?_
  refine lv_iload hx hb d_J_planTape_107 (lv_at hl 0 rfl) ?_
  refine hj_iadd hx hb d_J_planTape_109 ?_
  refine lv_iconst (v := nI 4) hx hb d_J_planTape_110 (by decide) ?_
  refine lv_aload_n hx hb d_J_planTape_111 rfl (lv_at hl 3 rfl) ?_
  refine va_get (D := (dC, dI)) (ci := 2) (v := .ref pa) (C := "HalfJournal") (T := F_J) (N := 8) hx hb hts i_J hown hK hP 0 rfl rfl 3 (by decide) (hts _ m_87) (fun _ h9 => h9) rfl d_J_planTape_112 ?_
  refine lv_iload hx hb d_J_planTape_115 (lv_at hl 1 rfl) ?_
  refine lv_iload hx hb d_J_planTape_117 (lv_at hl 0 rfl) ?_
  refine hj_calli (wc := [(pa, .inl (cP, 15872, .inl (hj_B (va_cpy tp (hj_pn (hj_clr (va_cpy d pl (hj_hb h + f1 * 512) (f1 * 512) (us - f1 * 512)) us ((l1 + 1) * 512)) us 2 tl) 0 (us + 2) tl))))]) (wr := [(j, .inr (2, [.ref dk, .ref rc, .ref ta, .ref pa, .int (nI tl), .int (nI st), .int (nI g), .int (nI h)])), (dk, .inr (0, [.ref a, .int du, .int wr])), (rc, .inr (1, [.ref sa, .ref la, .ref ma, .int (nI n), .int (nI us), .int (nI mm)])), (ta, .inl (cT, 1000, .inl (hj_B tp))), (a, .inl (cA, 32768, .inl (hj_B d)))]) [4] [0, 1, 2, 3, 5] hP hD hS hA rfl rfl rfl (by decide) (va_runS (As := [.ref pa, .int (nI us), .int (nI (2 + tl))]) (rest := [.int (nI 4), .int (nI (us + (2 + tl))), .ref pa]) ⟨hx, hb, hml, hown, hts⟩ (c_J_checkOf l dC dI pa cP 15872 (va_cpy tp (hj_pn (hj_clr (va_cpy d pl (hj_hb h + f1 * 512) (f1 * 512) (us - f1 * 512)) us ((l1 + 1) * 512)) us 2 tl) 0 (us + 2) tl) us (2 + tl) (by omega) (by omega) hb4 H.size) (cwS 3 hts (hj_gS m_441 m_442 m_1 m_443) rfl rfl rfl (by decide +kernel) ⟨Nat.le_of_ble_eq_true rfl, Nat.le_of_ble_eq_true rfl⟩) (hj_preS hj_EXok hE hP hD hK hS hA [4] rfl rfl [1] rfl) rfl rfl hl.1 rfl (lv_room (Nat.le_of_ble_eq_true rfl)) d_J_planTape_119 ⟨Nat.le_of_ble_eq_true rfl, Nat.le_of_ble_eq_true rfl⟩) (fun r_11 u_12 H locs hw hP hD hK1 hS => ?_)
  subst hw
  have hP : va_P (dC, dI) vwCl [(j, .inr (2, [.ref dk, .ref rc, .ref ta, .ref pa, .int (nI tl), .int (nI st), .int (nI g), .int (nI h)])), (dk, .inr (0, [.ref a, .int du, .int wr])), (rc, .inr (1, [.ref sa, .ref la, .ref ma, .int (nI n), .int (nI us), .int (nI mm)])), (ta, .inl (cT, 1000, .inl (hj_B tp))), (pa, .inl (cP, 15872, .inl (hj_B (va_cpy tp (hj_pn (hj_clr (va_cpy d pl (hj_hb h + f1 * 512) (f1 * 512) (us - f1 * 512)) us ((l1 + 1) * 512)) us 2 tl) 0 (us + 2) tl)))), (a, .inl (cA, 32768, .inl (hj_B d)))] H := hP.sub [0, 1, 2, 3, 5, 4] rfl
  have hD : va_D A [(j, .inr (2, [.ref dk, .ref rc, .ref ta, .ref pa, .int (nI tl), .int (nI st), .int (nI g), .int (nI h)])), (dk, .inr (0, [.ref a, .int du, .int wr])), (rc, .inr (1, [.ref sa, .ref la, .ref ma, .int (nI n), .int (nI us), .int (nI mm)])), (ta, .inl (cT, 1000, .inl (hj_B tp))), (pa, .inl (cP, 15872, .inl (hj_B (va_cpy tp (hj_pn (hj_clr (va_cpy d pl (hj_hb h + f1 * 512) (f1 * 512) (us - f1 * 512)) us ((l1 + 1) * 512)) us 2 tl) 0 (us + 2) tl)))), (a, .inl (cA, 32768, .inl (hj_B d)))] := hD.sub [0, 1, 2, 3, 5, 4] (by decide) rfl
  refine hj_callv (wc := [(pa, .inl (cP, 15872, .inl (hj_B (va_cpy tp (hj_pn (hj_clr (va_cpy d pl (hj_hb h + f1 * 512) (f1 * 512) (us - f1 * 512)) us ((l1 + 1) * 512)) us 2 tl) 0 (us + 2) tl))))]) (wr := [(j, .inr (2, [.ref dk, .ref rc, .ref ta, .ref pa, .int (nI tl), .int (nI st), .int (nI g), .int (nI h)])), (dk, .inr (0, [.ref a, .int du, .int wr])), (rc, .inr (1, [.ref sa, .ref la, .ref ma, .int (nI n), .int (nI us), .int (nI mm)])), (ta, .inl (cT, 1000, .inl (hj_B tp))), (a, .inl (cA, 32768, .inl (hj_B d)))]) [4] [0, 1, 2, 3, 5] hP hD hS hA rfl rfl rfl (by decide) (va_runS (As := [.ref pa, .int (nI (us + (2 + tl))), .int (nI 4), .int (nI (hj_chk (va_cpy tp (hj_pn (hj_clr (va_cpy d pl (hj_hb h + f1 * 512) (f1 * 512) (us - f1 * 512)) us ((l1 + 1) * 512)) us 2 tl) 0 (us + 2) tl) us (2 + tl)))]) (rest := []) ⟨hx, hb, hml, hown, hts⟩ (c_J_putNumber l dC dI pa cP 15872 (va_cpy tp (hj_pn (hj_clr (va_cpy d pl (hj_hb h + f1 * 512) (f1 * 512) (us - f1 * 512)) us ((l1 + 1) * 512)) us 2 tl) 0 (us + 2) tl) (us + (2 + tl)) 4 (hj_chk (va_cpy tp (hj_pn (hj_clr (va_cpy d pl (hj_hb h + f1 * 512) (f1 * 512) (us - f1 * 512)) us ((l1 + 1) * 512)) us 2 tl) 0 (us + 2) tl) us (2 + tl)) (by omega) (by omega) (by omega) (hj_chk_lt hb4 _ _) H.size) (cwS 4 hts (hj_gS m_438 m_439 m_1 m_440) rfl rfl rfl (by decide +kernel) ⟨Nat.le_of_ble_eq_true rfl, Nat.le_of_ble_eq_true rfl⟩) (hj_preS hj_EXok hE hP hD hK hS hA [4] rfl rfl [1] rfl) rfl rfl hl.1 rfl (lv_room (Nat.le_of_ble_eq_true rfl)) d_J_planTape_122 ⟨Nat.le_of_ble_eq_true rfl, Nat.le_of_ble_eq_true rfl⟩) (fun u_14 H locs hw hP hD hK1 hS => ?_)
  have hP : va_P (dC, dI) vwCl [(j, .inr (2, [.ref dk, .ref rc, .ref ta, .ref pa, .int (nI tl), .int (nI st), .int (nI g), .int (nI h)])), (dk, .inr (0, [.ref a, .int du, .int wr])), (rc, .inr (1, [.ref sa, .ref la, .ref ma, .int (nI n), .int (nI us), .int (nI mm)])), (ta, .inl (cT, 1000, .inl (hj_B tp))), (pa, .inl (cP, 15872, .inl (hj_B (hj_pn (va_cpy tp (hj_pn (hj_clr (va_cpy d pl (hj_hb h + f1 * 512) (f1 * 512) (us - f1 * 512)) us ((l1 + 1) * 512)) us 2 tl) 0 (us + 2) tl) (us + (2 + tl)) 4 (hj_chk (va_cpy tp (hj_pn (hj_clr (va_cpy d pl (hj_hb h + f1 * 512) (f1 * 512) (us - f1 * 512)) us ((l1 + 1) * 512)) us 2 tl) 0 (us + 2) tl) us (2 + tl)))))), (a, .inl (cA, 32768, .inl (hj_B d)))] H := hP.sub [0, 1, 2, 3, 5, 4] rfl
  have hD : va_D A [(j, .inr (2, [.ref dk, .ref rc, .ref ta, .ref pa, .int (nI tl), .int (nI st), .int (nI g), .int (nI h)])), (dk, .inr (0, [.ref a, .int du, .int wr])), (rc, .inr (1, [.ref sa, .ref la, .ref ma, .int (nI n), .int (nI us), .int (nI mm)])), (ta, .inl (cT, 1000, .inl (hj_B tp))), (pa, .inl (cP, 15872, .inl (hj_B (hj_pn (va_cpy tp (hj_pn (hj_clr (va_cpy d pl (hj_hb h + f1 * 512) (f1 * 512) (us - f1 * 512)) us ((l1 + 1) * 512)) us 2 tl) 0 (us + 2) tl) (us + (2 + tl)) 4 (hj_chk (va_cpy tp (hj_pn (hj_clr (va_cpy d pl (hj_hb h + f1 * 512) (f1 * 512) (us - f1 * 512)) us ((l1 + 1) * 512)) us 2 tl) 0 (us + 2) tl) us (2 + tl)))))), (a, .inl (cA, 32768, .inl (hj_B d)))] := hD.sub [0, 1, 2, 3, 5, 4] (by decide) rfl
  exact hret (hj_pn (va_cpy tp (hj_pn (hj_clr (va_cpy d pl (hj_hb h + f1 * 512) (f1 * 512) (us - f1 * 512)) us ((l1 + 1) * 512)) us 2 tl) 0 (us + 2) tl) (us + (2 + tl)) 4 (hj_chk (va_cpy tp (hj_pn (hj_clr (va_cpy d pl (hj_hb h + f1 * 512) (f1 * 512) (us - f1 * 512)) us ((l1 + 1) * 512)) us 2 tl) 0 (us + 2) tl) us (2 + tl))) _ _ _ _ d_J_planTape_125 (⟨hj_pn_bs hb4, hj_plan hf hend⟩) hP hK hD hS
abbrev rm_J_planUnmarked : Room := { frames := 32, cells := 0, slots := 0, locals := 400 }
set_option maxHeartbeats 4000000 in
set_option maxRecDepth 100000 in
theorem c_J_planUnmarked (l : Launch) (dC : Nat → ClassId) (dI : Nat → Nat → Nat) (j dk rc ta pa : Nat) (tl st g h : Nat) (a : Nat) (cA : ClassId) (d : Nat → Nat) (du wr : Int32) (sa la ma : Nat) (n us mm : Nat) (cS cL cM : ClassId) (fs fl fm : Nat → Int32) (cP : ClassId) (pl mk : Nat → Nat) (hh : h < 2) (hd : hj_bs d) (hn : n = hj_N d h) (hs : ∀ i, i < n → fs i = nI (hj_pos d h i)) (hl9 : ∀ i, i < n → fl i = nI (hj_rl d h (hj_pos d h i))) (hfm : ∀ i, i < n → fm i = nI (mk i)) (hm2 : ∀ i, mk i < 2) : hj_Mi l y_J_planUnmarked b_J_planUnmarked 4 .int rm_J_planUnmarked hj_EX (dC, dI) vwCl [(cS, .int), (cL, .int), (cM, .boolean), (cP, .byte), (cA, .byte)] [(j, .inr (2, [.ref dk, .ref rc, .ref ta, .ref pa, .int (nI tl), .int (nI st), .int (nI g), .int (nI h)])), (dk, .inr (0, [.ref a, .int du, .int wr])), (rc, .inr (1, [.ref sa, .ref la, .ref ma, .int (nI n), .int (nI us), .int (nI mm)])), (sa, .inl (cS, 1984, .inl fs)), (la, .inl (cL, 1984, .inl fl)), (ma, .inl (cM, 1984, .inl fm)), (pa, .inl (cP, 15872, .inl (hj_B pl))), (a, .inl (cA, 32768, .inl (hj_B d)))] [.ref j] (fun r _ => r = nI (hj_cto d h mk n)) (fun _ : Unit => [(j, .inr (2, [.ref dk, .ref rc, .ref ta, .ref pa, .int (nI tl), .int (nI st), .int (nI g), .int (nI h)])), (dk, .inr (0, [.ref a, .int du, .int wr])), (rc, .inr (1, [.ref sa, .ref la, .ref ma, .int (nI n), .int (nI us), .int (nI mm)])), (sa, .inl (cS, 1984, .inl fs)), (la, .inl (cL, 1984, .inl fl)), (ma, .inl (cM, 1984, .inl fm)), (pa, .inl (cP, 15872, .inl (hj_B (hj_cim d h mk n)))), (a, .inl (cA, 32768, .inl (hj_B d)))]) (fun _ => [(cS, .int), (cL, .int), (cM, .boolean), (cP, .byte), (cA, .byte)]) 0 0 := by
  refine hj_bodyI (by decide +kernel) (Nat.le_of_ble_eq_true rfl) ?_
  intro p e s m args below meth c A Q ls hx hb hts hown hml hA hP hK hD hE hl hret
  have hS : va_S A s.heap s.heap [] := va_S.rf
  have hown : s.vm.findClass "HalfJournal" = some m.cls := hown
  have hl : lv_has ls 4 [(0, .ref j)] := hl
  have hP : va_P (dC, dI) vwCl [(j, .inr (2, [.ref dk, .ref rc, .ref ta, .ref pa, .int (nI tl), .int (nI st), .int (nI g), .int (nI h)])), (dk, .inr (0, [.ref a, .int du, .int wr])), (rc, .inr (1, [.ref sa, .ref la, .ref ma, .int (nI n), .int (nI us), .int (nI mm)])), (sa, .inl (cS, 1984, .inl fs)), (la, .inl (cL, 1984, .inl fl)), (ma, .inl (cM, 1984, .inl fm)), (pa, .inl (cP, 15872, .inl (hj_B pl))), (a, .inl (cA, 32768, .inl (hj_B d)))] s.heap := hP
  have hD : va_D A [(j, .inr (2, [.ref dk, .ref rc, .ref ta, .ref pa, .int (nI tl), .int (nI st), .int (nI g), .int (nI h)])), (dk, .inr (0, [.ref a, .int du, .int wr])), (rc, .inr (1, [.ref sa, .ref la, .ref ma, .int (nI n), .int (nI us), .int (nI mm)])), (sa, .inl (cS, 1984, .inl fs)), (la, .inl (cL, 1984, .inl fl)), (ma, .inl (cM, 1984, .inl fm)), (pa, .inl (cP, 15872, .inl (hj_B pl))), (a, .inl (cA, 32768, .inl (hj_B d)))] := hD
  have hhb := hj_hb_le hh
  have hIs := hj_N_is d h
  rw [← hn] at hIs
  have hn84 : n ≤ 1984 := by rw [hn]; exact hj_N_le d h
  refine lv_aload_n hx hb d_J_planUnmarked_0 rfl (lv_at hl 0 rfl) ?_
  refine va_get (D := (dC, dI)) (ci := 2) (v := .ref pa) (C := "HalfJournal") (T := F_J) (N := 8) hx hb hts i_J hown hK hP 0 rfl rfl 3 (by decide) (hts _ m_87) (fun _ h9 => h9) rfl d_J_planUnmarked_1 ?_
  refine lv_iconst (v := nI 0) hx hb d_J_planUnmarked_4 (by decide) ?_
  refine lv_sipush (v := nI 15872) hx hb d_J_planUnmarked_5 (by decide) ?_
  refine hj_callv (wc := [(pa, .inl (cP, 15872, .inl (hj_B pl)))]) (wr := [(j, .inr (2, [.ref dk, .ref rc, .ref ta, .ref pa, .int (nI tl), .int (nI st), .int (nI g), .int (nI h)])), (dk, .inr (0, [.ref a, .int du, .int wr])), (rc, .inr (1, [.ref sa, .ref la, .ref ma, .int (nI n), .int (nI us), .int (nI mm)])), (sa, .inl (cS, 1984, .inl fs)), (la, .inl (cL, 1984, .inl fl)), (ma, .inl (cM, 1984, .inl fm)), (a, .inl (cA, 32768, .inl (hj_B d)))]) [6] [0, 1, 2, 3, 4, 5, 7] hP hD hS hA rfl rfl rfl (by decide) (va_runS (As := [.ref pa, .int (nI 0), .int (nI 15872)]) (rest := []) ⟨hx, hb, hml, hown, hts⟩ (c_J_clearBytes l dC dI pa cP 15872 pl 0 15872 (by omega) (by omega) (by omega) s.heap.size) (cwS 3 hts (hj_gS m_114 m_115 m_1 m_116) rfl rfl rfl (by decide +kernel) ⟨Nat.le_of_ble_eq_true rfl, Nat.le_of_ble_eq_true rfl⟩) (hj_preS hj_EXok hE hP hD hK hS hA [6] rfl rfl [3] rfl) rfl rfl hl.1 rfl (lv_room (Nat.le_of_ble_eq_true rfl)) d_J_planUnmarked_8 ⟨Nat.le_of_ble_eq_true rfl, Nat.le_of_ble_eq_true rfl⟩) (fun u_2 H locs hw hP hD hK1 hS => ?_)
  have hP : va_P (dC, dI) vwCl [(j, .inr (2, [.ref dk, .ref rc, .ref ta, .ref pa, .int (nI tl), .int (nI st), .int (nI g), .int (nI h)])), (dk, .inr (0, [.ref a, .int du, .int wr])), (rc, .inr (1, [.ref sa, .ref la, .ref ma, .int (nI n), .int (nI us), .int (nI mm)])), (sa, .inl (cS, 1984, .inl fs)), (la, .inl (cL, 1984, .inl fl)), (ma, .inl (cM, 1984, .inl fm)), (pa, .inl (cP, 15872, .inl (hj_B (hj_clr pl 0 15872)))), (a, .inl (cA, 32768, .inl (hj_B d)))] H := hP.sub [0, 1, 2, 3, 4, 5, 7, 6] rfl
  have hD : va_D A [(j, .inr (2, [.ref dk, .ref rc, .ref ta, .ref pa, .int (nI tl), .int (nI st), .int (nI g), .int (nI h)])), (dk, .inr (0, [.ref a, .int du, .int wr])), (rc, .inr (1, [.ref sa, .ref la, .ref ma, .int (nI n), .int (nI us), .int (nI mm)])), (sa, .inl (cS, 1984, .inl fs)), (la, .inl (cL, 1984, .inl fl)), (ma, .inl (cM, 1984, .inl fm)), (pa, .inl (cP, 15872, .inl (hj_B (hj_clr pl 0 15872)))), (a, .inl (cA, 32768, .inl (hj_B d)))] := hD.sub [0, 1, 2, 3, 4, 5, 7, 6] (by decide) rfl
  have h9 : ∀ j, j < 15872 → ((hj_clr pl 0 15872)) j = ((hj_cim d h mk 0)) j := fun j hj => if_pos ⟨Nat.zero_le _, hj⟩
  have hD := hD.set (p := 6) (e := .inl (cP, 15872, .inl (hj_B (hj_cim d h mk 0)))) rfl
  have hP := hj_arr hP 6 rfl (hj_B (hj_cim d h mk 0)) (fun j hj => congrArg sb_b (h9 j hj))
  have hP : va_P (dC, dI) vwCl [(j, .inr (2, [.ref dk, .ref rc, .ref ta, .ref pa, .int (nI tl), .int (nI st), .int (nI g), .int (nI h)])), (dk, .inr (0, [.ref a, .int du, .int wr])), (rc, .inr (1, [.ref sa, .ref la, .ref ma, .int (nI n), .int (nI us), .int (nI mm)])), (sa, .inl (cS, 1984, .inl fs)), (la, .inl (cL, 1984, .inl fl)), (ma, .inl (cM, 1984, .inl fm)), (pa, .inl (cP, 15872, .inl (hj_B (hj_cim d h mk 0)))), (a, .inl (cA, 32768, .inl (hj_B d)))] H := hP
  have hD : va_D A [(j, .inr (2, [.ref dk, .ref rc, .ref ta, .ref pa, .int (nI tl), .int (nI st), .int (nI g), .int (nI h)])), (dk, .inr (0, [.ref a, .int du, .int wr])), (rc, .inr (1, [.ref sa, .ref la, .ref ma, .int (nI n), .int (nI us), .int (nI mm)])), (sa, .inl (cS, 1984, .inl fs)), (la, .inl (cL, 1984, .inl fl)), (ma, .inl (cM, 1984, .inl fm)), (pa, .inl (cP, 15872, .inl (hj_B (hj_cim d h mk 0)))), (a, .inl (cA, 32768, .inl (hj_B d)))] := hD
  refine lv_iconst (v := nI 0) hx hb d_J_planUnmarked_11 (by decide) ?_
  refine hj_topn (b := hj_cto d h mk 0) (rfl) ?_
  refine lv_istore_n (lv' := [(1, .int (nI (hj_cto d h mk 0))), (0, .ref j)]) hx hb d_J_planUnmarked_12 rfl hl (by decide) rfl (fun ls hl => ?_)
  refine lv_iconst (v := nI 0) hx hb d_J_planUnmarked_13 (by decide) ?_
  refine lv_istore_n (lv' := [(2, .int (nI 0)), (1, .int (nI (hj_cto d h mk 0))), (0, .ref j)]) hx hb d_J_planUnmarked_14 rfl hl (by decide) rfl (fun ls hl => ?_)
  have lp : ∀ (n9 : Nat) (i : Nat), (i ≤ n) → (n - i) < n9 → ∀ (H : Heap) (locs : List Loc), va_P (dC, dI) vwCl [(j, .inr (2, [.ref dk, .ref rc, .ref ta, .ref pa, .int (nI tl), .int (nI st), .int (nI g), .int (nI h)])), (dk, .inr (0, [.ref a, .int du, .int wr])), (rc, .inr (1, [.ref sa, .ref la, .ref ma, .int (nI n), .int (nI us), .int (nI mm)])), (sa, .inl (cS, 1984, .inl fs)), (la, .inl (cL, 1984, .inl fl)), (ma, .inl (cM, 1984, .inl fm)), (pa, .inl (cP, 15872, .inl (hj_B (hj_cim d h mk i)))), (a, .inl (cA, 32768, .inl (hj_B d)))] H → va_D A [(j, .inr (2, [.ref dk, .ref rc, .ref ta, .ref pa, .int (nI tl), .int (nI st), .int (nI g), .int (nI h)])), (dk, .inr (0, [.ref a, .int du, .int wr])), (rc, .inr (1, [.ref sa, .ref la, .ref ma, .int (nI n), .int (nI us), .int (nI mm)])), (sa, .inl (cS, 1984, .inl fs)), (la, .inl (cL, 1984, .inl fl)), (ma, .inl (cM, 1984, .inl fm)), (pa, .inl (cP, 15872, .inl (hj_B (hj_cim d h mk i)))), (a, .inl (cA, 32768, .inl (hj_B d)))] → va_S A s.heap H locs → ∀ (ls : Array Slot), lv_has ls 4 [(0, .ref j), (1, .int (nI (hj_cto d h mk i))), (2, .int (nI i))] → W p l e rm_J_planUnmarked s m args below meth c H locs 0 0 Q (F0 m 15 ls []) := by
    intro n9
    induction n9 with
    | zero =>
      intro i hi hm
      exact absurd hm (Nat.not_lt_zero _)
    | succ n9 ih =>
      intro i hi hm H locs hP hD hS ls hl
      refine lv_iload_n hx hb d_J_planUnmarked_15 rfl (lv_at hl 2 rfl) ?_
      refine lv_aload_n hx hb d_J_planUnmarked_16 rfl (lv_at hl 0 rfl) ?_
      refine va_get (D := (dC, dI)) (ci := 2) (v := .ref rc) (C := "HalfJournal") (T := F_J) (N := 8) hx hb hts i_J hown hK hP 0 rfl rfl 1 (by decide) (hts _ m_85) (fun _ h9 => h9) rfl d_J_planUnmarked_17 ?_
      refine va_getN (D := (dC, dI)) (ci := 1) (v := .int (nI n)) (C := "HalfJournal$Records") (T := F_R) (N := 6) hx hb hts i_R hown hK hP 2 rfl rfl 3 (by decide) (va_Nw.use rfl (hE.1 _ m_64)) (fun _ h9 => h9) rfl d_J_planUnmarked_20 ?_
      refine hj_icmp_ge (tgt := 106) hx hb (by omega) (by omega) d_J_planUnmarked_23 (by decide) (fun c_1 => ?_) (fun c_1 => ?_)
      · obtain rfl : i = n := by omega
        refine lv_iload_n hx hb d_J_planUnmarked_106 rfl (lv_at hl 1 rfl) ?_
        exact hret (nI (hj_cto d h mk i)) () _ _ _ _ d_J_planUnmarked_107 rfl (rfl) hP hK hD hS
      · have hr0 := hIs.1 i c_1
        obtain ⟨hr1, hr2, -⟩ := hj_rl_in hr0
        obtain ⟨-, hp2, -⟩ := hj_pos_in i (fun k hk => hIs.1 k (by omega))
        have hct := hj_cto_le d h mk i
        have hsz6 : hj_sz (hj_rl d h (hj_pos d h i)) = 6 + hj_rl d h (hj_pos d h i) + hj_rl d h (hj_pos d h i) % 2 := rfl
        have hmi := hm2 i
        refine lv_aload_n hx hb d_J_planUnmarked_26 rfl (lv_at hl 0 rfl) ?_
        refine va_get (D := (dC, dI)) (ci := 2) (v := .ref rc) (C := "HalfJournal") (T := F_J) (N := 8) hx hb hts i_J hown hK hP 0 rfl rfl 1 (by decide) (hts _ m_85) (fun _ h9 => h9) rfl d_J_planUnmarked_27 ?_
        refine va_getN (D := (dC, dI)) (ci := 1) (v := .ref ma) (C := "HalfJournal$Records") (T := F_R) (N := 6) hx hb hts i_R hown hK hP 2 rfl rfl 2 (by decide) (va_Nw.use rfl (hE.1 _ m_62)) (fun _ h9 => h9) rfl d_J_planUnmarked_30 ?_
        refine lv_iload_n hx hb d_J_planUnmarked_33 rfl (lv_at hl 2 rfl) ?_
        refine hj_zald (v := fm i) hx hb hK hP 5 2 rfl rfl (by omega) (by decide) rfl d_J_planUnmarked_34 ?_
        refine hj_topv (y := nI (mk i)) (hfm i c_1) ?_
        refine hj_if_ne (tgt := 100) hx hb (by omega) d_J_planUnmarked_35 (by decide) (fun c_2 => ?_) (fun c_2 => ?_)
        · have h9 : (hj_cim d h mk i : Nat → Nat) = hj_cim d h mk (i + 1) := (show hj_cim d h mk (i + 1) = _ from if_neg (by omega)).symm
          rw [h9] at hP hD
          have hP : va_P (dC, dI) vwCl [(j, .inr (2, [.ref dk, .ref rc, .ref ta, .ref pa, .int (nI tl), .int (nI st), .int (nI g), .int (nI h)])), (dk, .inr (0, [.ref a, .int du, .int wr])), (rc, .inr (1, [.ref sa, .ref la, .ref ma, .int (nI n), .int (nI us), .int (nI mm)])), (sa, .inl (cS, 1984, .inl fs)), (la, .inl (cL, 1984, .inl fl)), (ma, .inl (cM, 1984, .inl fm)), (pa, .inl (cP, 15872, .inl (hj_B (hj_cim d h mk (i + 1))))), (a, .inl (cA, 32768, .inl (hj_B d)))] H := hP
          have hD : va_D A [(j, .inr (2, [.ref dk, .ref rc, .ref ta, .ref pa, .int (nI tl), .int (nI st), .int (nI g), .int (nI h)])), (dk, .inr (0, [.ref a, .int du, .int wr])), (rc, .inr (1, [.ref sa, .ref la, .ref ma, .int (nI n), .int (nI us), .int (nI mm)])), (sa, .inl (cS, 1984, .inl fs)), (la, .inl (cL, 1984, .inl fl)), (ma, .inl (cM, 1984, .inl fm)), (pa, .inl (cP, 15872, .inl (hj_B (hj_cim d h mk (i + 1))))), (a, .inl (cA, 32768, .inl (hj_B d)))] := hD
          refine lv_iinc (v := nI (i + 1)) (lv' := [(2, .int (nI (i + 1))), (0, .ref j), (1, .int (nI (hj_cto d h mk i)))]) hx hb d_J_planUnmarked_100 hl (k := 2) rfl (nI_1 _) (by decide) rfl (fun ls hl => ?_)
          refine lv_goto (tgt := 15) hx hb d_J_planUnmarked_103 (by decide) ?_
          have h8 : hj_cto d h mk i = hj_cto d h mk (i + 1) := (show hj_cto d h mk (i + 1) = _ from if_neg (by omega)).symm
          rw [h8] at hl
          exact ih (i + 1) (by omega) (by omega) _ _ hP hD hS _ (lv_sub hl [1, 2, 0] rfl)
        · refine lv_iconst (v := nI 2) hx hb d_J_planUnmarked_38 (by decide) ?_
          refine lv_aload_n hx hb d_J_planUnmarked_39 rfl (lv_at hl 0 rfl) ?_
          refine va_get (D := (dC, dI)) (ci := 2) (v := .ref rc) (C := "HalfJournal") (T := F_J) (N := 8) hx hb hts i_J hown hK hP 0 rfl rfl 1 (by decide) (hts _ m_85) (fun _ h9 => h9) rfl d_J_planUnmarked_40 ?_
          refine va_getN (D := (dC, dI)) (ci := 1) (v := .ref la) (C := "HalfJournal$Records") (T := F_R) (N := 6) hx hb hts i_R hown hK hP 2 rfl rfl 1 (by decide) (va_Nw.use rfl (hE.1 _ m_60)) (fun _ h9 => h9) rfl d_J_planUnmarked_43 ?_
          refine lv_iload_n hx hb d_J_planUnmarked_46 rfl (lv_at hl 2 rfl) ?_
          refine hj_iald (v := fl i) hx hb hK hP 4 1 rfl rfl (by omega) (by decide) rfl d_J_planUnmarked_47 ?_
          refine hj_topv (y := nI (hj_rl d h (hj_pos d h i))) (hl9 i c_1) ?_
          refine hj_iadd hx hb d_J_planUnmarked_48 ?_
          refine lv_iconst (v := nI 4) hx hb d_J_planUnmarked_49 (by decide) ?_
          refine hj_iadd hx hb d_J_planUnmarked_50 ?_
          refine lv_istore_n (lv' := [(3, .int (nI ((2 + (hj_rl d h (hj_pos d h i))) + 4))), (0, .ref j), (1, .int (nI (hj_cto d h mk i))), (2, .int (nI i))]) hx hb d_J_planUnmarked_51 rfl hl (by decide) rfl (fun ls hl => ?_)
          refine lv_aload_n hx hb d_J_planUnmarked_52 rfl (lv_at hl 1 rfl) ?_
          refine va_get (D := (dC, dI)) (ci := 2) (v := .ref dk) (C := "HalfJournal") (T := F_J) (N := 8) hx hb hts i_J hown hK hP 0 rfl rfl 0 (by decide) (hts _ m_84) (fun _ h9 => h9) rfl d_J_planUnmarked_53 ?_
          refine va_getN (D := (dC, dI)) (ci := 0) (v := .ref a) (C := "HalfJournal$Disk") (T := F_D) (N := 3) hx hb hts i_D hown hK hP 1 rfl rfl 0 (by decide) (va_Nw.use rfl (hE.1 _ m_38)) (fun _ h9 => h9) rfl d_J_planUnmarked_56 ?_
          refine lv_aload_n hx hb d_J_planUnmarked_59 rfl (lv_at hl 1 rfl) ?_
          refine va_get (D := (dC, dI)) (ci := 2) (v := .int (nI h)) (C := "HalfJournal") (T := F_J) (N := 8) hx hb hts i_J hown hK hP 0 rfl rfl 7 (by decide) (hts _ m_91) (fun _ h9 => h9) rfl d_J_planUnmarked_60 ?_
          refine hj_calli (wc := []) (wr := [(j, .inr (2, [.ref dk, .ref rc, .ref ta, .ref pa, .int (nI tl), .int (nI st), .int (nI g), .int (nI h)])), (dk, .inr (0, [.ref a, .int du, .int wr])), (rc, .inr (1, [.ref sa, .ref la, .ref ma, .int (nI n), .int (nI us), .int (nI mm)])), (sa, .inl (cS, 1984, .inl fs)), (la, .inl (cL, 1984, .inl fl)), (ma, .inl (cM, 1984, .inl fm)), (pa, .inl (cP, 15872, .inl (hj_B (hj_cim d h mk i)))), (a, .inl (cA, 32768, .inl (hj_B d)))]) [] [0, 1, 2, 3, 4, 5, 6, 7] hP hD hS hA rfl rfl rfl (by decide) (va_runS (As := [.int (nI h)]) (rest := [.ref a]) ⟨hx, hb, hml, hown, hts⟩ (c_J_firstByteOf l dC dI h H.size) (cwS 1 hts (hj_gS m_462 m_463 m_1 m_464) rfl rfl rfl (by decide +kernel) ⟨Nat.le_of_ble_eq_true rfl, Nat.le_of_ble_eq_true rfl⟩) (hj_preS hj_EXok hE hP hD hK hS hA [] rfl rfl [] rfl) rfl rfl hl.1 rfl (lv_room (Nat.le_of_ble_eq_true rfl)) d_J_planUnmarked_63 ⟨Nat.le_of_ble_eq_true rfl, Nat.le_of_ble_eq_true rfl⟩) (fun r_3 u_4 H locs hw hP hD hK1 hS => ?_)
          subst hw
          have hP : va_P (dC, dI) vwCl [(j, .inr (2, [.ref dk, .ref rc, .ref ta, .ref pa, .int (nI tl), .int (nI st), .int (nI g), .int (nI h)])), (dk, .inr (0, [.ref a, .int du, .int wr])), (rc, .inr (1, [.ref sa, .ref la, .ref ma, .int (nI n), .int (nI us), .int (nI mm)])), (sa, .inl (cS, 1984, .inl fs)), (la, .inl (cL, 1984, .inl fl)), (ma, .inl (cM, 1984, .inl fm)), (pa, .inl (cP, 15872, .inl (hj_B (hj_cim d h mk i)))), (a, .inl (cA, 32768, .inl (hj_B d)))] H := hP.sub [0, 1, 2, 3, 4, 5, 6, 7] rfl
          have hD : va_D A [(j, .inr (2, [.ref dk, .ref rc, .ref ta, .ref pa, .int (nI tl), .int (nI st), .int (nI g), .int (nI h)])), (dk, .inr (0, [.ref a, .int du, .int wr])), (rc, .inr (1, [.ref sa, .ref la, .ref ma, .int (nI n), .int (nI us), .int (nI mm)])), (sa, .inl (cS, 1984, .inl fs)), (la, .inl (cL, 1984, .inl fl)), (ma, .inl (cM, 1984, .inl fm)), (pa, .inl (cP, 15872, .inl (hj_B (hj_cim d h mk i)))), (a, .inl (cA, 32768, .inl (hj_B d)))] := hD.sub [0, 1, 2, 3, 4, 5, 6, 7] (by decide) rfl
          refine lv_aload_n hx hb d_J_planUnmarked_66 rfl (lv_at hl 1 rfl) ?_
          refine va_get (D := (dC, dI)) (ci := 2) (v := .ref rc) (C := "HalfJournal") (T := F_J) (N := 8) hx hb hts i_J hown hK hP 0 rfl rfl 1 (by decide) (hts _ m_85) (fun _ h9 => h9) rfl d_J_planUnmarked_67 ?_
          refine va_getN (D := (dC, dI)) (ci := 1) (v := .ref sa) (C := "HalfJournal$Records") (T := F_R) (N := 6) hx hb hts i_R hown hK hP 2 rfl rfl 0 (by decide) (va_Nw.use rfl (hE.1 _ m_58)) (fun _ h9 => h9) rfl d_J_planUnmarked_70 ?_
          refine lv_iload_n hx hb d_J_planUnmarked_73 rfl (lv_at hl 3 rfl) ?_
          refine hj_iald (v := fs i) hx hb hK hP 3 0 rfl rfl (by omega) (by decide) rfl d_J_planUnmarked_74 ?_
          refine hj_topv (y := nI (hj_pos d h i)) (hs i c_1) ?_
          refine hj_iadd hx hb d_J_planUnmarked_75 ?_
          refine lv_aload_n hx hb d_J_planUnmarked_76 rfl (lv_at hl 1 rfl) ?_
          refine va_get (D := (dC, dI)) (ci := 2) (v := .ref pa) (C := "HalfJournal") (T := F_J) (N := 8) hx hb hts i_J hown hK hP 0 rfl rfl 3 (by decide) (hts _ m_87) (fun _ h9 => h9) rfl d_J_planUnmarked_77 ?_
          refine lv_iload_n hx hb d_J_planUnmarked_80 rfl (lv_at hl 2 rfl) ?_
          refine lv_iload_n hx hb d_J_planUnmarked_81 rfl (lv_at hl 0 rfl) ?_
          refine hj_callv (wc := [(a, .inl (cA, 32768, .inl (hj_B d))), (pa, .inl (cP, 15872, .inl (hj_B (hj_cim d h mk i))))]) (wr := [(j, .inr (2, [.ref dk, .ref rc, .ref ta, .ref pa, .int (nI tl), .int (nI st), .int (nI g), .int (nI h)])), (dk, .inr (0, [.ref a, .int du, .int wr])), (rc, .inr (1, [.ref sa, .ref la, .ref ma, .int (nI n), .int (nI us), .int (nI mm)])), (sa, .inl (cS, 1984, .inl fs)), (la, .inl (cL, 1984, .inl fl)), (ma, .inl (cM, 1984, .inl fm))]) [7, 6] [0, 1, 2, 3, 4, 5] hP hD hS hA rfl rfl rfl (by decide) (va_runS (As := [.ref a, .int (nI ((hj_hb h) + (hj_pos d h i))), .ref pa, .int (nI (hj_cto d h mk i)), .int (nI ((2 + (hj_rl d h (hj_pos d h i))) + 4))]) (rest := []) ⟨hx, hb, hml, hown, hts⟩ (c_J_copyBytes l dC dI a cA 32768 d pa cP 15872 (hj_cim d h mk i) (hj_hb h + hj_pos d h i) (hj_cto d h mk i) (2 + hj_rl d h (hj_pos d h i) + 4) (by omega) (by omega) (by omega) (by omega) H.size) (cwS 5 hts (hj_gS m_604 m_605 m_1 m_606) rfl rfl rfl (by decide +kernel) ⟨Nat.le_of_ble_eq_true rfl, Nat.le_of_ble_eq_true rfl⟩) (hj_preS hj_EXok hE hP hD hK hS hA [7, 6] rfl rfl [4, 3] rfl) rfl rfl hl.1 rfl (lv_room (Nat.le_of_ble_eq_true rfl)) d_J_planUnmarked_82 ⟨Nat.le_of_ble_eq_true rfl, Nat.le_of_ble_eq_true rfl⟩) (fun u_6 H locs hw hP hD hK1 hS => ?_)
          have hP : va_P (dC, dI) vwCl [(j, .inr (2, [.ref dk, .ref rc, .ref ta, .ref pa, .int (nI tl), .int (nI st), .int (nI g), .int (nI h)])), (dk, .inr (0, [.ref a, .int du, .int wr])), (rc, .inr (1, [.ref sa, .ref la, .ref ma, .int (nI n), .int (nI us), .int (nI mm)])), (sa, .inl (cS, 1984, .inl fs)), (la, .inl (cL, 1984, .inl fl)), (ma, .inl (cM, 1984, .inl fm)), (pa, .inl (cP, 15872, .inl (hj_B (va_cpy d (hj_cim d h mk i) (hj_hb h + hj_pos d h i) (hj_cto d h mk i) (2 + hj_rl d h (hj_pos d h i) + 4))))), (a, .inl (cA, 32768, .inl (hj_B d)))] H := hP.sub [0, 1, 2, 3, 4, 5, 7, 6] rfl
          have hD : va_D A [(j, .inr (2, [.ref dk, .ref rc, .ref ta, .ref pa, .int (nI tl), .int (nI st), .int (nI g), .int (nI h)])), (dk, .inr (0, [.ref a, .int du, .int wr])), (rc, .inr (1, [.ref sa, .ref la, .ref ma, .int (nI n), .int (nI us), .int (nI mm)])), (sa, .inl (cS, 1984, .inl fs)), (la, .inl (cL, 1984, .inl fl)), (ma, .inl (cM, 1984, .inl fm)), (pa, .inl (cP, 15872, .inl (hj_B (va_cpy d (hj_cim d h mk i) (hj_hb h + hj_pos d h i) (hj_cto d h mk i) (2 + hj_rl d h (hj_pos d h i) + 4))))), (a, .inl (cA, 32768, .inl (hj_B d)))] := hD.sub [0, 1, 2, 3, 4, 5, 7, 6] (by decide) rfl
          have h9 : (va_cpy d (hj_cim d h mk i) (hj_hb h + hj_pos d h i) (hj_cto d h mk i) (2 + hj_rl d h (hj_pos d h i) + 4) : Nat → Nat) = hj_cim d h mk (i + 1) := by rw [show 2 + hj_rl d h (hj_pos d h i) + 4 = 6 + hj_rl d h (hj_pos d h i) by omega]; exact (show hj_cim d h mk (i + 1) = _ from if_pos (by omega)).symm
          rw [h9] at hP hD
          have hP : va_P (dC, dI) vwCl [(j, .inr (2, [.ref dk, .ref rc, .ref ta, .ref pa, .int (nI tl), .int (nI st), .int (nI g), .int (nI h)])), (dk, .inr (0, [.ref a, .int du, .int wr])), (rc, .inr (1, [.ref sa, .ref la, .ref ma, .int (nI n), .int (nI us), .int (nI mm)])), (sa, .inl (cS, 1984, .inl fs)), (la, .inl (cL, 1984, .inl fl)), (ma, .inl (cM, 1984, .inl fm)), (pa, .inl (cP, 15872, .inl (hj_B (hj_cim d h mk (i + 1))))), (a, .inl (cA, 32768, .inl (hj_B d)))] H := hP
          have hD : va_D A [(j, .inr (2, [.ref dk, .ref rc, .ref ta, .ref pa, .int (nI tl), .int (nI st), .int (nI g), .int (nI h)])), (dk, .inr (0, [.ref a, .int du, .int wr])), (rc, .inr (1, [.ref sa, .ref la, .ref ma, .int (nI n), .int (nI us), .int (nI mm)])), (sa, .inl (cS, 1984, .inl fs)), (la, .inl (cL, 1984, .inl fl)), (ma, .inl (cM, 1984, .inl fm)), (pa, .inl (cP, 15872, .inl (hj_B (hj_cim d h mk (i + 1))))), (a, .inl (cA, 32768, .inl (hj_B d)))] := hD
          refine lv_iload_n hx hb d_J_planUnmarked_85 rfl (lv_at hl 2 rfl) ?_
          refine lv_aload_n hx hb d_J_planUnmarked_86 rfl (lv_at hl 1 rfl) ?_
          refine va_get (D := (dC, dI)) (ci := 2) (v := .ref rc) (C := "HalfJournal") (T := F_J) (N := 8) hx hb hts i_J hown hK hP 0 rfl rfl 1 (by decide) (hts _ m_85) (fun _ h9 => h9) rfl d_J_planUnmarked_87 ?_
          refine va_getN (D := (dC, dI)) (ci := 1) (v := .ref la) (C := "HalfJournal$Records") (T := F_R) (N := 6) hx hb hts i_R hown hK hP 2 rfl rfl 1 (by decide) (va_Nw.use rfl (hE.1 _ m_60)) (fun _ h9 => h9) rfl d_J_planUnmarked_90 ?_
          refine lv_iload_n hx hb d_J_planUnmarked_93 rfl (lv_at hl 3 rfl) ?_
          refine hj_iald (v := fl i) hx hb hK hP 4 1 rfl rfl (by omega) (by decide) rfl d_J_planUnmarked_94 ?_
          refine hj_topv (y := nI (hj_rl d h (hj_pos d h i))) (hl9 i c_1) ?_
          refine hj_calli (wc := []) (wr := [(j, .inr (2, [.ref dk, .ref rc, .ref ta, .ref pa, .int (nI tl), .int (nI st), .int (nI g), .int (nI h)])), (dk, .inr (0, [.ref a, .int du, .int wr])), (rc, .inr (1, [.ref sa, .ref la, .ref ma, .int (nI n), .int (nI us), .int (nI mm)])), (sa, .inl (cS, 1984, .inl fs)), (la, .inl (cL, 1984, .inl fl)), (ma, .inl (cM, 1984, .inl fm)), (pa, .inl (cP, 15872, .inl (hj_B (hj_cim d h mk (i + 1))))), (a, .inl (cA, 32768, .inl (hj_B d)))]) [] [0, 1, 2, 3, 4, 5, 6, 7] hP hD hS hA rfl rfl rfl (by decide) (va_runS (As := [.int (nI (hj_rl d h (hj_pos d h i)))]) (rest := [.int (nI (hj_cto d h mk i))]) ⟨hx, hb, hml, hown, hts⟩ (c_J_sizeOf l dC dI (hj_rl d h (hj_pos d h i)) (by omega) H.size) (cwS 1 hts (hj_gS m_471 m_472 m_1 m_473) rfl rfl rfl (by decide +kernel) ⟨Nat.le_of_ble_eq_true rfl, Nat.le_of_ble_eq_true rfl⟩) (hj_preS hj_EXok hE hP hD hK hS hA [] rfl rfl [] rfl) rfl rfl hl.1 rfl (lv_room (Nat.le_of_ble_eq_true rfl)) d_J_planUnmarked_95 ⟨Nat.le_of_ble_eq_true rfl, Nat.le_of_ble_eq_true rfl⟩) (fun r_7 u_8 H locs hw hP hD hK1 hS => ?_)
          subst hw
          have hP : va_P (dC, dI) vwCl [(j, .inr (2, [.ref dk, .ref rc, .ref ta, .ref pa, .int (nI tl), .int (nI st), .int (nI g), .int (nI h)])), (dk, .inr (0, [.ref a, .int du, .int wr])), (rc, .inr (1, [.ref sa, .ref la, .ref ma, .int (nI n), .int (nI us), .int (nI mm)])), (sa, .inl (cS, 1984, .inl fs)), (la, .inl (cL, 1984, .inl fl)), (ma, .inl (cM, 1984, .inl fm)), (pa, .inl (cP, 15872, .inl (hj_B (hj_cim d h mk (i + 1))))), (a, .inl (cA, 32768, .inl (hj_B d)))] H := hP.sub [0, 1, 2, 3, 4, 5, 6, 7] rfl
          have hD : va_D A [(j, .inr (2, [.ref dk, .ref rc, .ref ta, .ref pa, .int (nI tl), .int (nI st), .int (nI g), .int (nI h)])), (dk, .inr (0, [.ref a, .int du, .int wr])), (rc, .inr (1, [.ref sa, .ref la, .ref ma, .int (nI n), .int (nI us), .int (nI mm)])), (sa, .inl (cS, 1984, .inl fs)), (la, .inl (cL, 1984, .inl fl)), (ma, .inl (cM, 1984, .inl fm)), (pa, .inl (cP, 15872, .inl (hj_B (hj_cim d h mk (i + 1))))), (a, .inl (cA, 32768, .inl (hj_B d)))] := hD.sub [0, 1, 2, 3, 4, 5, 6, 7] (by decide) rfl
          refine hj_iadd hx hb d_J_planUnmarked_98 ?_
          refine hj_topn (b := hj_cto d h mk (i + 1)) ((show hj_cto d h mk (i + 1) = _ from if_pos (by omega)).symm) ?_
          refine lv_istore_n (lv' := [(1, .int (nI (hj_cto d h mk (i + 1)))), (3, .int (nI ((2 + (hj_rl d h (hj_pos d h i))) + 4))), (0, .ref j), (2, .int (nI i))]) hx hb d_J_planUnmarked_99 rfl hl (by decide) rfl (fun ls hl => ?_)
          refine lv_iinc (v := nI (i + 1)) (lv' := [(2, .int (nI (i + 1))), (1, .int (nI (hj_cto d h mk (i + 1)))), (3, .int (nI ((2 + (hj_rl d h (hj_pos d h i))) + 4))), (0, .ref j)]) hx hb d_J_planUnmarked_100 hl (k := 3) rfl (nI_1 _) (by decide) rfl (fun ls hl => ?_)
          refine lv_goto (tgt := 15) hx hb d_J_planUnmarked_103 (by decide) ?_
          exact ih (i + 1) (by omega) (by omega) _ _ hP hD hS _ (lv_sub hl [3, 1, 0] rfl)
  exact lp _ 0 (Nat.zero_le _) (Nat.lt_succ_self _) _ _ hP hD hS _ (lv_sub hl [2, 1, 0] rfl)
abbrev rm_J_writeLastFirst : Room := { frames := 32, cells := 0, slots := 0, locals := 400 }
set_option maxHeartbeats 4000000 in
set_option maxRecDepth 100000 in
theorem c_J_writeLastFirst (l : Launch) (dC : Nat → ClassId) (dI : Nat → Nat → Nat) (j dk rc ta pa : Nat) (tl st g h : Nat) (a : Nat) (cA : ClassId) (d : Nat → Nat) (du wr : Int32) (cP : ClassId) (pl : Nat → Nat) (f1 l1 : Nat) (hh : h < 2) (hf : f1 ≤ l1) (hl1 : l1 ≤ 30) : hj_Mi l y_J_writeLastFirst b_J_writeLastFirst 4 .boolean rm_J_writeLastFirst hj_EX (dC, dI) vwCl [(cP, .byte), (cA, .byte)] [(j, .inr (2, [.ref dk, .ref rc, .ref ta, .ref pa, .int (nI tl), .int (nI st), .int (nI g), .int (nI h)])), (dk, .inr (0, [.ref a, .int du, .int wr])), (pa, .inl (cP, 15872, .inl (hj_B pl))), (a, .inl (cA, 32768, .inl (hj_B d)))] [.ref j, .int (nI f1), .int (nI l1)] (fun r u => ((hj_wdn pl (2 + h * 31) f1 (l1 + 1 - f1) d du wr).1 = true ∧ r = nI 1 ∨ (hj_wdn pl (2 + h * 31) f1 (l1 + 1 - f1) d du wr).1 = false ∧ r = nI 0) ∧ u.1 = (hj_wdn pl (2 + h * 31) f1 (l1 + 1 - f1) d du wr).2.1 ∧ u.2.1 = (hj_wdn pl (2 + h * 31) f1 (l1 + 1 - f1) d du wr).2.2.1 ∧ u.2.2 = (hj_wdn pl (2 + h * 31) f1 (l1 + 1 - f1) d du wr).2.2.2) (fun u : (Nat → Nat) × Int32 × Int32 => [(j, .inr (2, [.ref dk, .ref rc, .ref ta, .ref pa, .int (nI tl), .int (nI st), .int (nI g), .int (nI h)])), (dk, .inr (0, [.ref a, .int u.2.1, .int u.2.2])), (pa, .inl (cP, 15872, .inl (hj_B pl))), (a, .inl (cA, 32768, .inl (hj_B u.1)))]) (fun _ => [(cP, .byte), (cA, .byte)]) 0 0 := by
  refine hj_bodyI (by decide +kernel) (Nat.le_of_ble_eq_true rfl) ?_
  intro p e s m args below meth c A Q ls hx hb hts hown hml hA hP hK hD hE hl hret
  have hS : va_S A s.heap s.heap [] := va_S.rf
  have hown : s.vm.findClass "HalfJournal" = some m.cls := hown
  have hl : lv_has ls 4 [(0, .ref j), (1, .int (nI f1)), (2, .int (nI l1))] := hl
  have hP : va_P (dC, dI) vwCl [(j, .inr (2, [.ref dk, .ref rc, .ref ta, .ref pa, .int (nI tl), .int (nI st), .int (nI g), .int (nI h)])), (dk, .inr (0, [.ref a, .int du, .int wr])), (pa, .inl (cP, 15872, .inl (hj_B pl))), (a, .inl (cA, 32768, .inl (hj_B d)))] s.heap := hP
  have hD : va_D A [(j, .inr (2, [.ref dk, .ref rc, .ref ta, .ref pa, .int (nI tl), .int (nI st), .int (nI g), .int (nI h)])), (dk, .inr (0, [.ref a, .int du, .int wr])), (pa, .inl (cP, 15872, .inl (hj_B pl))), (a, .inl (cA, 32768, .inl (hj_B d)))] := hD
  refine lv_iload_n hx hb d_J_writeLastFirst_0 rfl (lv_at hl 2 rfl) ?_
  have h8 : nI l1 = nI (f1 + (l1 + 1 - f1)) - 1 := by rw [show f1 + (l1 + 1 - f1) = l1 + 1 by omega, nI_pred]
  refine hj_topv (y := nI (f1 + (l1 + 1 - f1)) - 1) (h8) ?_
  refine lv_istore_n (lv' := [(3, .int (nI (f1 + (l1 + 1 - f1)) - 1)), (0, .ref j), (1, .int (nI f1)), (2, .int (nI l1))]) hx hb d_J_writeLastFirst_1 rfl hl (by decide) rfl (fun ls hl => ?_)
  have lp : ∀ (n9 : Nat) (y : Nat) (d1 : Nat → Nat) (du1 : Int32) (wr1 : Int32), (y ≤ l1 + 1 - f1) → (hj_wdn pl (2 + h * 31) f1 y d1 du1 wr1 = hj_wdn pl (2 + h * 31) f1 (l1 + 1 - f1) d du wr) → y < n9 → ∀ (H : Heap) (locs : List Loc), va_P (dC, dI) vwCl [(j, .inr (2, [.ref dk, .ref rc, .ref ta, .ref pa, .int (nI tl), .int (nI st), .int (nI g), .int (nI h)])), (dk, .inr (0, [.ref a, .int du1, .int wr1])), (pa, .inl (cP, 15872, .inl (hj_B pl))), (a, .inl (cA, 32768, .inl (hj_B d1)))] H → va_D A [(j, .inr (2, [.ref dk, .ref rc, .ref ta, .ref pa, .int (nI tl), .int (nI st), .int (nI g), .int (nI h)])), (dk, .inr (0, [.ref a, .int du1, .int wr1])), (pa, .inl (cP, 15872, .inl (hj_B pl))), (a, .inl (cA, 32768, .inl (hj_B d1)))] → va_S A s.heap H locs → ∀ (ls : Array Slot), lv_has ls 4 [(0, .ref j), (1, .int (nI f1)), (3, .int (nI (f1 + y) - 1))] → W p l e rm_J_writeLastFirst s m args below meth c H locs 0 0 Q (F0 m 2 ls []) := by
    intro n9
    induction n9 with
    | zero =>
      intro y d1 du1 wr1 hy hinv hm
      exact absurd hm (Nat.not_lt_zero _)
    | succ n9 ih =>
      intro y d1 du1 wr1 hy hinv hm H locs hP hD hS ls hl
      rcases y with _ | y
      · have hinv : (true, d1, du1, wr1) = hj_wdn pl (2 + h * 31) f1 (l1 + 1 - f1) d du wr := hinv
        refine lv_iload_n hx hb d_J_writeLastFirst_2 rfl (lv_at hl 2 rfl) ?_
        refine lv_iload_n hx hb d_J_writeLastFirst_3 rfl (lv_at hl 1 rfl) ?_
        refine lv_icmp_lt (tgt := 43) hx hb d_J_writeLastFirst_4 (by decide) (fun c_1 => ?_) (fun c_1 => ?_)
        · refine lv_iconst (v := nI 1) hx hb d_J_writeLastFirst_43 (by decide) ?_
          rw [← hinv] at hret
          exact hret (nI 1) (d1, du1, wr1) _ _ _ _ d_J_writeLastFirst_44 rfl (⟨Or.inl ⟨rfl, rfl⟩, rfl, rfl, rfl⟩) hP hK hD hS
        · exact absurd (hj_m1_lt (by omega)) c_1
      · rw [show f1 + (y + 1) = f1 + y + 1 from rfl, nI_pred] at hl
        refine lv_iload_n hx hb d_J_writeLastFirst_2 rfl (lv_at hl 2 rfl) ?_
        refine lv_iload_n hx hb d_J_writeLastFirst_3 rfl (lv_at hl 1 rfl) ?_
        refine hj_icmp_lt (tgt := 43) hx hb (by omega) (by omega) d_J_writeLastFirst_4 (by decide) (fun c_1 => ?_) (fun c_1 => ?_)
        · omega
        · refine lv_aload_n hx hb d_J_writeLastFirst_7 rfl (lv_at hl 0 rfl) ?_
          refine va_get (D := (dC, dI)) (ci := 2) (v := .ref dk) (C := "HalfJournal") (T := F_J) (N := 8) hx hb hts i_J hown hK hP 0 rfl rfl 0 (by decide) (hts _ m_84) (fun _ h9 => h9) rfl d_J_writeLastFirst_8 ?_
          refine lv_aload_n hx hb d_J_writeLastFirst_11 rfl (lv_at hl 0 rfl) ?_
          refine va_get (D := (dC, dI)) (ci := 2) (v := .int (nI h)) (C := "HalfJournal") (T := F_J) (N := 8) hx hb hts i_J hown hK hP 0 rfl rfl 7 (by decide) (hts _ m_91) (fun _ h9 => h9) rfl d_J_writeLastFirst_12 ?_
          refine hj_calli (wc := []) (wr := [(j, .inr (2, [.ref dk, .ref rc, .ref ta, .ref pa, .int (nI tl), .int (nI st), .int (nI g), .int (nI h)])), (dk, .inr (0, [.ref a, .int du1, .int wr1])), (pa, .inl (cP, 15872, .inl (hj_B pl))), (a, .inl (cA, 32768, .inl (hj_B d1)))]) [] [0, 1, 2, 3] hP hD hS hA rfl rfl rfl (by decide) (va_runS (As := [.int (nI h)]) (rest := [.ref dk]) ⟨hx, hb, hml, hown, hts⟩ (c_J_firstBlockOf l dC dI h H.size) (cwS 1 hts (hj_gS m_465 m_466 m_1 m_467) rfl rfl rfl (by decide +kernel) ⟨Nat.le_of_ble_eq_true rfl, Nat.le_of_ble_eq_true rfl⟩) (hj_preS hj_EXok hE hP hD hK hS hA [] rfl rfl [] rfl) rfl rfl hl.1 rfl (lv_room (Nat.le_of_ble_eq_true rfl)) d_J_writeLastFirst_15 ⟨Nat.le_of_ble_eq_true rfl, Nat.le_of_ble_eq_true rfl⟩) (fun r_1 u_2 H locs hw hP hD hK1 hS => ?_)
          subst hw
          have hP : va_P (dC, dI) vwCl [(j, .inr (2, [.ref dk, .ref rc, .ref ta, .ref pa, .int (nI tl), .int (nI st), .int (nI g), .int (nI h)])), (dk, .inr (0, [.ref a, .int du1, .int wr1])), (pa, .inl (cP, 15872, .inl (hj_B pl))), (a, .inl (cA, 32768, .inl (hj_B d1)))] H := hP.sub [0, 1, 2, 3] rfl
          have hD : va_D A [(j, .inr (2, [.ref dk, .ref rc, .ref ta, .ref pa, .int (nI tl), .int (nI st), .int (nI g), .int (nI h)])), (dk, .inr (0, [.ref a, .int du1, .int wr1])), (pa, .inl (cP, 15872, .inl (hj_B pl))), (a, .inl (cA, 32768, .inl (hj_B d1)))] := hD.sub [0, 1, 2, 3] (by decide) rfl
          refine lv_iload_n hx hb d_J_writeLastFirst_18 rfl (lv_at hl 2 rfl) ?_
          refine hj_iadd hx hb d_J_writeLastFirst_19 ?_
          refine lv_aload_n hx hb d_J_writeLastFirst_20 rfl (lv_at hl 0 rfl) ?_
          refine va_get (D := (dC, dI)) (ci := 2) (v := .ref pa) (C := "HalfJournal") (T := F_J) (N := 8) hx hb hts i_J hown hK hP 0 rfl rfl 3 (by decide) (hts _ m_87) (fun _ h9 => h9) rfl d_J_writeLastFirst_21 ?_
          refine lv_iload_n hx hb d_J_writeLastFirst_24 rfl (lv_at hl 2 rfl) ?_
          refine lv_sipush (v := nI 512) hx hb d_J_writeLastFirst_25 (by decide) ?_
          refine hj_imul hx hb d_J_writeLastFirst_28 ?_
          refine hj_calli (wc := [(dk, .inr (0, [.ref a, .int du1, .int wr1])), (a, .inl (cA, 32768, .inl (hj_B d1))), (pa, .inl (cP, 15872, .inl (hj_B pl)))]) (wr := [(j, .inr (2, [.ref dk, .ref rc, .ref ta, .ref pa, .int (nI tl), .int (nI st), .int (nI g), .int (nI h)]))]) [1, 3, 2] [0] hP hD hS hA rfl rfl rfl (by decide) (va_runVN (As := [.int (nI ((2 + h * 31) + (f1 + y))), .ref pa, .int (nI ((f1 + y) * 512))]) (rest := []) ⟨hx, hb, hml, hown, hts⟩ (c_D_write l dC dI dk a cA d1 du1 wr1 pa cP 15872 pl (2 + h * 31 + (f1 + y)) ((f1 + y) * 512) (by omega) (by omega) (by omega) H.size) ⟨va_cnB 3 hts (hj_gC m_615) rfl rfl rfl (hE.1 _ m_612) (hts _ m_2) (by decide +kernel) ⟨Nat.le_of_ble_eq_true rfl, Nat.le_of_ble_eq_true rfl⟩, hts _ m_614, hts _ s_D_write⟩ (hj_preV (ci := 0) (q0 := 1) hj_EXok hE hP hD hK hS hA [1, 3, 2] rfl rfl [1, 0] rfl rfl rfl) rfl rfl hl.1 rfl (lv_room (Nat.le_of_ble_eq_true rfl)) d_J_writeLastFirst_29 ⟨Nat.le_of_ble_eq_true rfl, Nat.le_of_ble_eq_true rfl⟩) (fun r_3 u_4 H locs hw hP hD hK1 hS => ?_)
          obtain ⟨d2, du2, wr2⟩ := u_4
          have hP : va_P (dC, dI) vwCl [(j, .inr (2, [.ref dk, .ref rc, .ref ta, .ref pa, .int (nI tl), .int (nI st), .int (nI g), .int (nI h)])), (dk, .inr (0, [.ref a, .int du2, .int wr2])), (pa, .inl (cP, 15872, .inl (hj_B pl))), (a, .inl (cA, 32768, .inl (hj_B d2)))] H := hP.sub [0, 1, 3, 2] rfl
          have hD : va_D A [(j, .inr (2, [.ref dk, .ref rc, .ref ta, .ref pa, .int (nI tl), .int (nI st), .int (nI g), .int (nI h)])), (dk, .inr (0, [.ref a, .int du2, .int wr2])), (pa, .inl (cP, 15872, .inl (hj_B pl))), (a, .inl (cA, 32768, .inl (hj_B d2)))] := hD.sub [0, 1, 3, 2] (by decide) rfl
          dsimp only at hw
          rcases hw with ⟨h7, rfl, h81, h82, h83⟩ | ⟨h7, rfl, rfl, rfl, rfl⟩
          · rw [h81, h82, h83] at hP hD
            rw [hj_wdn_0 h7] at hinv
            refine hj_if_ne (tgt := 37) hx hb (by omega) d_J_writeLastFirst_32 (by decide) (fun c_2 => ?_) (fun c_2 => ?_)
            · omega
            · refine lv_iconst (v := nI 0) hx hb d_J_writeLastFirst_35 (by decide) ?_
              rw [← hinv] at hret
              exact hret (nI 0) (d1, -1, wr1) _ _ _ _ d_J_writeLastFirst_36 rfl (⟨Or.inr ⟨rfl, rfl⟩, rfl, rfl, rfl⟩) hP hK hD hS
          · rw [hj_wdn_s h7] at hinv
            refine hj_if_ne (tgt := 37) hx hb (by omega) d_J_writeLastFirst_32 (by decide) (fun c_2 => ?_) (fun c_2 => ?_)
            · refine lv_iinc (v := nI (f1 + y) - 1) (lv' := [(3, .int (nI (f1 + y) - 1)), (0, .ref j), (1, .int (nI f1))]) hx hb d_J_writeLastFirst_37 hl (k := 2) rfl (hj_addm1 _) (by decide) rfl (fun ls hl => ?_)
              refine lv_goto (tgt := 2) hx hb d_J_writeLastFirst_40 (by decide) ?_
              exact ih y _ _ _ (by omega) (hinv) (by omega) _ _ hP hD hS _ (lv_sub hl [1, 2, 0] rfl)
            · omega
  exact lp _ (l1 + 1 - f1) d du wr (Nat.le_refl _) (rfl) (Nat.lt_succ_self _) _ _ hP hD hS _ (lv_sub hl [1, 2, 0] rfl)
abbrev rm_J_writeFirstFirst : Room := { frames := 32, cells := 0, slots := 0, locals := 400 }
set_option maxHeartbeats 4000000 in
set_option maxRecDepth 100000 in
theorem c_J_writeFirstFirst (l : Launch) (dC : Nat → ClassId) (dI : Nat → Nat → Nat) (j dk rc ta pa : Nat) (tl st g h : Nat) (a : Nat) (cA : ClassId) (d : Nat → Nat) (du wr : Int32) (cP : ClassId) (pl : Nat → Nat) (h9 l1 : Nat) (hh : h9 < 2) (hl1 : l1 ≤ 30) : hj_Mi l y_J_writeFirstFirst b_J_writeFirstFirst 4 .boolean rm_J_writeFirstFirst hj_EX (dC, dI) vwCl [(cP, .byte), (cA, .byte)] [(j, .inr (2, [.ref dk, .ref rc, .ref ta, .ref pa, .int (nI tl), .int (nI st), .int (nI g), .int (nI h)])), (dk, .inr (0, [.ref a, .int du, .int wr])), (pa, .inl (cP, 15872, .inl (hj_B pl))), (a, .inl (cA, 32768, .inl (hj_B d)))] [.ref j, .int (nI h9), .int (nI l1)] (fun r u => ((hj_wup pl (2 + h9 * 31) (l1 + 1) 0 d du wr).1 = true ∧ r = nI 1 ∨ (hj_wup pl (2 + h9 * 31) (l1 + 1) 0 d du wr).1 = false ∧ r = nI 0) ∧ u.1 = (hj_wup pl (2 + h9 * 31) (l1 + 1) 0 d du wr).2.1 ∧ u.2.1 = (hj_wup pl (2 + h9 * 31) (l1 + 1) 0 d du wr).2.2.1 ∧ u.2.2 = (hj_wup pl (2 + h9 * 31) (l1 + 1) 0 d du wr).2.2.2) (fun u : (Nat → Nat) × Int32 × Int32 => [(j, .inr (2, [.ref dk, .ref rc, .ref ta, .ref pa, .int (nI tl), .int (nI st), .int (nI g), .int (nI h)])), (dk, .inr (0, [.ref a, .int u.2.1, .int u.2.2])), (pa, .inl (cP, 15872, .inl (hj_B pl))), (a, .inl (cA, 32768, .inl (hj_B u.1)))]) (fun _ => [(cP, .byte), (cA, .byte)]) 0 0 := by
  refine hj_bodyI (by decide +kernel) (Nat.le_of_ble_eq_true rfl) ?_
  intro p e s m args below meth c A Q ls hx hb hts hown hml hA hP hK hD hE hl hret
  have hS : va_S A s.heap s.heap [] := va_S.rf
  have hown : s.vm.findClass "HalfJournal" = some m.cls := hown
  have hl : lv_has ls 4 [(0, .ref j), (1, .int (nI h9)), (2, .int (nI l1))] := hl
  have hP : va_P (dC, dI) vwCl [(j, .inr (2, [.ref dk, .ref rc, .ref ta, .ref pa, .int (nI tl), .int (nI st), .int (nI g), .int (nI h)])), (dk, .inr (0, [.ref a, .int du, .int wr])), (pa, .inl (cP, 15872, .inl (hj_B pl))), (a, .inl (cA, 32768, .inl (hj_B d)))] s.heap := hP
  have hD : va_D A [(j, .inr (2, [.ref dk, .ref rc, .ref ta, .ref pa, .int (nI tl), .int (nI st), .int (nI g), .int (nI h)])), (dk, .inr (0, [.ref a, .int du, .int wr])), (pa, .inl (cP, 15872, .inl (hj_B pl))), (a, .inl (cA, 32768, .inl (hj_B d)))] := hD
  refine lv_iconst (v := nI 0) hx hb d_J_writeFirstFirst_0 (by decide) ?_
  refine lv_istore_n (lv' := [(3, .int (nI 0)), (0, .ref j), (1, .int (nI h9)), (2, .int (nI l1))]) hx hb d_J_writeFirstFirst_1 rfl hl (by decide) rfl (fun ls hl => ?_)
  have lp : ∀ (n9 : Nat) (y : Nat) (d1 : Nat → Nat) (du1 : Int32) (wr1 : Int32), (y ≤ l1 + 1) → (hj_wup pl (2 + h9 * 31) (l1 + 1 - y) y d1 du1 wr1 = hj_wup pl (2 + h9 * 31) (l1 + 1) 0 d du wr) → (l1 + 1 - y) < n9 → ∀ (H : Heap) (locs : List Loc), va_P (dC, dI) vwCl [(j, .inr (2, [.ref dk, .ref rc, .ref ta, .ref pa, .int (nI tl), .int (nI st), .int (nI g), .int (nI h)])), (dk, .inr (0, [.ref a, .int du1, .int wr1])), (pa, .inl (cP, 15872, .inl (hj_B pl))), (a, .inl (cA, 32768, .inl (hj_B d1)))] H → va_D A [(j, .inr (2, [.ref dk, .ref rc, .ref ta, .ref pa, .int (nI tl), .int (nI st), .int (nI g), .int (nI h)])), (dk, .inr (0, [.ref a, .int du1, .int wr1])), (pa, .inl (cP, 15872, .inl (hj_B pl))), (a, .inl (cA, 32768, .inl (hj_B d1)))] → va_S A s.heap H locs → ∀ (ls : Array Slot), lv_has ls 4 [(0, .ref j), (1, .int (nI h9)), (2, .int (nI l1)), (3, .int (nI y))] → W p l e rm_J_writeFirstFirst s m args below meth c H locs 0 0 Q (F0 m 2 ls []) := by
    intro n9
    induction n9 with
    | zero =>
      intro y d1 du1 wr1 hy hinv hm
      exact absurd hm (Nat.not_lt_zero _)
    | succ n9 ih =>
      intro y d1 du1 wr1 hy hinv hm H locs hP hD hS ls hl
      refine lv_iload_n hx hb d_J_writeFirstFirst_2 rfl (lv_at hl 3 rfl) ?_
      refine lv_iload_n hx hb d_J_writeFirstFirst_3 rfl (lv_at hl 2 rfl) ?_
      refine hj_icmp_gt (tgt := 40) hx hb (by omega) (by omega) d_J_writeFirstFirst_4 (by decide) (fun c_1 => ?_) (fun c_1 => ?_)
      · obtain rfl : y = l1 + 1 := by omega
        rw [Nat.sub_self] at hinv
        have hinv : (true, d1, du1, wr1) = hj_wup pl (2 + h9 * 31) (l1 + 1) 0 d du wr := hinv
        refine lv_iconst (v := nI 1) hx hb d_J_writeFirstFirst_40 (by decide) ?_
        rw [← hinv] at hret
        exact hret (nI 1) (d1, du1, wr1) _ _ _ _ d_J_writeFirstFirst_41 rfl (⟨Or.inl ⟨rfl, rfl⟩, rfl, rfl, rfl⟩) hP hK hD hS
      · rw [show l1 + 1 - y = (l1 - y) + 1 by omega] at hinv
        refine lv_aload_n hx hb d_J_writeFirstFirst_7 rfl (lv_at hl 0 rfl) ?_
        refine va_get (D := (dC, dI)) (ci := 2) (v := .ref dk) (C := "HalfJournal") (T := F_J) (N := 8) hx hb hts i_J hown hK hP 0 rfl rfl 0 (by decide) (hts _ m_84) (fun _ h9 => h9) rfl d_J_writeFirstFirst_8 ?_
        refine lv_iload_n hx hb d_J_writeFirstFirst_11 rfl (lv_at hl 1 rfl) ?_
        refine hj_calli (wc := []) (wr := [(j, .inr (2, [.ref dk, .ref rc, .ref ta, .ref pa, .int (nI tl), .int (nI st), .int (nI g), .int (nI h)])), (dk, .inr (0, [.ref a, .int du1, .int wr1])), (pa, .inl (cP, 15872, .inl (hj_B pl))), (a, .inl (cA, 32768, .inl (hj_B d1)))]) [] [0, 1, 2, 3] hP hD hS hA rfl rfl rfl (by decide) (va_runS (As := [.int (nI h9)]) (rest := [.ref dk]) ⟨hx, hb, hml, hown, hts⟩ (c_J_firstBlockOf l dC dI h9 H.size) (cwS 1 hts (hj_gS m_465 m_466 m_1 m_467) rfl rfl rfl (by decide +kernel) ⟨Nat.le_of_ble_eq_true rfl, Nat.le_of_ble_eq_true rfl⟩) (hj_preS hj_EXok hE hP hD hK hS hA [] rfl rfl [] rfl) rfl rfl hl.1 rfl (lv_room (Nat.le_of_ble_eq_true rfl)) d_J_writeFirstFirst_12 ⟨Nat.le_of_ble_eq_true rfl, Nat.le_of_ble_eq_true rfl⟩) (fun r_1 u_2 H locs hw hP hD hK1 hS => ?_)
        subst hw
        have hP : va_P (dC, dI) vwCl [(j, .inr (2, [.ref dk, .ref rc, .ref ta, .ref pa, .int (nI tl), .int (nI st), .int (nI g), .int (nI h)])), (dk, .inr (0, [.ref a, .int du1, .int wr1])), (pa, .inl (cP, 15872, .inl (hj_B pl))), (a, .inl (cA, 32768, .inl (hj_B d1)))] H := hP.sub [0, 1, 2, 3] rfl
        have hD : va_D A [(j, .inr (2, [.ref dk, .ref rc, .ref ta, .ref pa, .int (nI tl), .int (nI st), .int (nI g), .int (nI h)])), (dk, .inr (0, [.ref a, .int du1, .int wr1])), (pa, .inl (cP, 15872, .inl (hj_B pl))), (a, .inl (cA, 32768, .inl (hj_B d1)))] := hD.sub [0, 1, 2, 3] (by decide) rfl
        refine lv_iload_n hx hb d_J_writeFirstFirst_15 rfl (lv_at hl 3 rfl) ?_
        refine hj_iadd hx hb d_J_writeFirstFirst_16 ?_
        refine lv_aload_n hx hb d_J_writeFirstFirst_17 rfl (lv_at hl 0 rfl) ?_
        refine va_get (D := (dC, dI)) (ci := 2) (v := .ref pa) (C := "HalfJournal") (T := F_J) (N := 8) hx hb hts i_J hown hK hP 0 rfl rfl 3 (by decide) (hts _ m_87) (fun _ h9 => h9) rfl d_J_writeFirstFirst_18 ?_
        refine lv_iload_n hx hb d_J_writeFirstFirst_21 rfl (lv_at hl 3 rfl) ?_
        refine lv_sipush (v := nI 512) hx hb d_J_writeFirstFirst_22 (by decide) ?_
        refine hj_imul hx hb d_J_writeFirstFirst_25 ?_
        refine hj_calli (wc := [(dk, .inr (0, [.ref a, .int du1, .int wr1])), (a, .inl (cA, 32768, .inl (hj_B d1))), (pa, .inl (cP, 15872, .inl (hj_B pl)))]) (wr := [(j, .inr (2, [.ref dk, .ref rc, .ref ta, .ref pa, .int (nI tl), .int (nI st), .int (nI g), .int (nI h)]))]) [1, 3, 2] [0] hP hD hS hA rfl rfl rfl (by decide) (va_runVN (As := [.int (nI ((2 + h9 * 31) + y)), .ref pa, .int (nI (y * 512))]) (rest := []) ⟨hx, hb, hml, hown, hts⟩ (c_D_write l dC dI dk a cA d1 du1 wr1 pa cP 15872 pl (2 + h9 * 31 + y) (y * 512) (by omega) (by omega) (by omega) H.size) ⟨va_cnB 3 hts (hj_gC m_615) rfl rfl rfl (hE.1 _ m_612) (hts _ m_2) (by decide +kernel) ⟨Nat.le_of_ble_eq_true rfl, Nat.le_of_ble_eq_true rfl⟩, hts _ m_614, hts _ s_D_write⟩ (hj_preV (ci := 0) (q0 := 1) hj_EXok hE hP hD hK hS hA [1, 3, 2] rfl rfl [1, 0] rfl rfl rfl) rfl rfl hl.1 rfl (lv_room (Nat.le_of_ble_eq_true rfl)) d_J_writeFirstFirst_26 ⟨Nat.le_of_ble_eq_true rfl, Nat.le_of_ble_eq_true rfl⟩) (fun r_3 u_4 H locs hw hP hD hK1 hS => ?_)
        obtain ⟨d2, du2, wr2⟩ := u_4
        have hP : va_P (dC, dI) vwCl [(j, .inr (2, [.ref dk, .ref rc, .ref ta, .ref pa, .int (nI tl), .int (nI st), .int (nI g), .int (nI h)])), (dk, .inr (0, [.ref a, .int du2, .int wr2])), (pa, .inl (cP, 15872, .inl (hj_B pl))), (a, .inl (cA, 32768, .inl (hj_B d2)))] H := hP.sub [0, 1, 3, 2] rfl
        have hD : va_D A [(j, .inr (2, [.ref dk, .ref rc, .ref ta, .ref pa, .int (nI tl), .int (nI st), .int (nI g), .int (nI h)])), (dk, .inr (0, [.ref a, .int du2, .int wr2])), (pa, .inl (cP, 15872, .inl (hj_B pl))), (a, .inl (cA, 32768, .inl (hj_B d2)))] := hD.sub [0, 1, 3, 2] (by decide) rfl
        dsimp only at hw
        rcases hw with ⟨h7, rfl, h81, h82, h83⟩ | ⟨h7, rfl, rfl, rfl, rfl⟩
        · rw [h81, h82, h83] at hP hD
          rw [hj_wup_0 h7] at hinv
          refine hj_if_ne (tgt := 34) hx hb (by omega) d_J_writeFirstFirst_29 (by decide) (fun c_2 => ?_) (fun c_2 => ?_)
          · omega
          · refine lv_iconst (v := nI 0) hx hb d_J_writeFirstFirst_32 (by decide) ?_
            rw [← hinv] at hret
            exact hret (nI 0) (d1, -1, wr1) _ _ _ _ d_J_writeFirstFirst_33 rfl (⟨Or.inr ⟨rfl, rfl⟩, rfl, rfl, rfl⟩) hP hK hD hS
        · rw [hj_wup_s h7, show l1 - y = l1 + 1 - (y + 1) by omega] at hinv
          refine hj_if_ne (tgt := 34) hx hb (by omega) d_J_writeFirstFirst_29 (by decide) (fun c_2 => ?_) (fun c_2 => ?_)
          · refine lv_iinc (v := nI (y + 1)) (lv' := [(3, .int (nI (y + 1))), (0, .ref j), (1, .int (nI h9)), (2, .int (nI l1))]) hx hb d_J_writeFirstFirst_34 hl (k := 3) rfl (nI_1 _) (by decide) rfl (fun ls hl => ?_)
            refine lv_goto (tgt := 2) hx hb d_J_writeFirstFirst_37 (by decide) ?_
            exact ih (y + 1) _ _ _ (by omega) (hinv) (by omega) _ _ hP hD hS _ (lv_sub hl [1, 2, 3, 0] rfl)
          · omega
  exact lp _ 0 d du wr (by omega) (rfl) (Nat.lt_succ_self _) _ _ hP hD hS _ (lv_sub hl [1, 2, 3, 0] rfl)
abbrev rm_J_writeHead : Room := { frames := 32, cells := 0, slots := 0, locals := 400 }
set_option maxHeartbeats 4000000 in
set_option maxRecDepth 100000 in
theorem c_J_writeHead (l : Launch) (dC : Nat → ClassId) (dI : Nat → Nat → Nat) (j dk rc ta pa : Nat) (tl st g h : Nat) (a : Nat) (cA : ClassId) (d : Nat → Nat) (du wr : Int32) (cP : ClassId) (pl : Nat → Nat) (g9 h9 : Nat) (hh : h9 < 2) (hg : g9 < 2 ^ 31) (hp : hj_bs pl) : hj_Mi l y_J_writeHead b_J_writeHead 3 .boolean rm_J_writeHead hj_EX (dC, dI) vwCl [(cP, .byte), (cA, .byte)] [(j, .inr (2, [.ref dk, .ref rc, .ref ta, .ref pa, .int (nI tl), .int (nI st), .int (nI g), .int (nI h)])), (dk, .inr (0, [.ref a, .int du, .int wr])), (pa, .inl (cP, 15872, .inl (hj_B pl))), (a, .inl (cA, 32768, .inl (hj_B d)))] [.ref j, .int (nI g9), .int (nI h9)] (fun r u => hj_bs u.2.2.2 ∧ ((du = 0 ∧ r = nI 0 ∧ u.1 = d ∧ u.2.1 = -1 ∧ u.2.2.1 = wr) ∨ (¬ du = 0 ∧ r = nI 1 ∧ u.1 = hj_blk d (g9 % 2) (hj_hd h9 g9) 0 ∧ u.2.1 = hj_dec du ∧ u.2.2.1 = wr + 1))) (fun u : (Nat → Nat) × Int32 × Int32 × (Nat → Nat) => [(j, .inr (2, [.ref dk, .ref rc, .ref ta, .ref pa, .int (nI tl), .int (nI st), .int (nI g), .int (nI h)])), (dk, .inr (0, [.ref a, .int u.2.1, .int u.2.2.1])), (pa, .inl (cP, 15872, .inl (hj_B u.2.2.2))), (a, .inl (cA, 32768, .inl (hj_B u.1)))]) (fun _ => [(cP, .byte), (cA, .byte)]) 0 0 := by
  refine hj_bodyI (by decide +kernel) (Nat.le_of_ble_eq_true rfl) ?_
  intro p e s m args below meth c A Q ls hx hb hts hown hml hA hP hK hD hE hl hret
  have hS : va_S A s.heap s.heap [] := va_S.rf
  have hown : s.vm.findClass "HalfJournal" = some m.cls := hown
  have hl : lv_has ls 3 [(0, .ref j), (1, .int (nI g9)), (2, .int (nI h9))] := hl
  have hP : va_P (dC, dI) vwCl [(j, .inr (2, [.ref dk, .ref rc, .ref ta, .ref pa, .int (nI tl), .int (nI st), .int (nI g), .int (nI h)])), (dk, .inr (0, [.ref a, .int du, .int wr])), (pa, .inl (cP, 15872, .inl (hj_B pl))), (a, .inl (cA, 32768, .inl (hj_B d)))] s.heap := hP
  have hD : va_D A [(j, .inr (2, [.ref dk, .ref rc, .ref ta, .ref pa, .int (nI tl), .int (nI st), .int (nI g), .int (nI h)])), (dk, .inr (0, [.ref a, .int du, .int wr])), (pa, .inl (cP, 15872, .inl (hj_B pl))), (a, .inl (cA, 32768, .inl (hj_B d)))] := hD
  refine lv_aload_n hx hb d_J_writeHead_0 rfl (lv_at hl 0 rfl) ?_
  refine va_get (D := (dC, dI)) (ci := 2) (v := .ref pa) (C := "HalfJournal") (T := F_J) (N := 8) hx hb hts i_J hown hK hP 0 rfl rfl 3 (by decide) (hts _ m_87) (fun _ h9 => h9) rfl d_J_writeHead_1 ?_
  refine lv_iconst (v := nI 0) hx hb d_J_writeHead_4 (by decide) ?_
  refine lv_sipush (v := nI 512) hx hb d_J_writeHead_5 (by decide) ?_
  refine hj_callv (wc := [(pa, .inl (cP, 15872, .inl (hj_B pl)))]) (wr := [(j, .inr (2, [.ref dk, .ref rc, .ref ta, .ref pa, .int (nI tl), .int (nI st), .int (nI g), .int (nI h)])), (dk, .inr (0, [.ref a, .int du, .int wr])), (a, .inl (cA, 32768, .inl (hj_B d)))]) [2] [0, 1, 3] hP hD hS hA rfl rfl rfl (by decide) (va_runS (As := [.ref pa, .int (nI 0), .int (nI 512)]) (rest := []) ⟨hx, hb, hml, hown, hts⟩ (c_J_clearBytes l dC dI pa cP 15872 pl 0 512 (by omega) (by omega) (by omega) s.heap.size) (cwS 3 hts (hj_gS m_114 m_115 m_1 m_116) rfl rfl rfl (by decide +kernel) ⟨Nat.le_of_ble_eq_true rfl, Nat.le_of_ble_eq_true rfl⟩) (hj_preS hj_EXok hE hP hD hK hS hA [2] rfl rfl [0] rfl) rfl rfl hl.1 rfl (lv_room (Nat.le_of_ble_eq_true rfl)) d_J_writeHead_8 ⟨Nat.le_of_ble_eq_true rfl, Nat.le_of_ble_eq_true rfl⟩) (fun u_2 H locs hw hP hD hK1 hS => ?_)
  have hP : va_P (dC, dI) vwCl [(j, .inr (2, [.ref dk, .ref rc, .ref ta, .ref pa, .int (nI tl), .int (nI st), .int (nI g), .int (nI h)])), (dk, .inr (0, [.ref a, .int du, .int wr])), (pa, .inl (cP, 15872, .inl (hj_B (hj_clr pl 0 512)))), (a, .inl (cA, 32768, .inl (hj_B d)))] H := hP.sub [0, 1, 3, 2] rfl
  have hD : va_D A [(j, .inr (2, [.ref dk, .ref rc, .ref ta, .ref pa, .int (nI tl), .int (nI st), .int (nI g), .int (nI h)])), (dk, .inr (0, [.ref a, .int du, .int wr])), (pa, .inl (cP, 15872, .inl (hj_B (hj_clr pl 0 512)))), (a, .inl (cA, 32768, .inl (hj_B d)))] := hD.sub [0, 1, 3, 2] (by decide) rfl
  refine lv_aload_n hx hb d_J_writeHead_11 rfl (lv_at hl 0 rfl) ?_
  refine va_get (D := (dC, dI)) (ci := 2) (v := .ref pa) (C := "HalfJournal") (T := F_J) (N := 8) hx hb hts i_J hown hK hP 0 rfl rfl 3 (by decide) (hts _ m_87) (fun _ h9 => h9) rfl d_J_writeHead_12 ?_
  refine lv_iconst (v := nI 0) hx hb d_J_writeHead_15 (by decide) ?_
  refine lv_iload_n hx hb d_J_writeHead_16 rfl (lv_at hl 1 rfl) ?_
  refine lv_iload_n hx hb d_J_writeHead_17 rfl (lv_at hl 2 rfl) ?_
  refine hj_callv (wc := [(pa, .inl (cP, 15872, .inl (hj_B (hj_clr pl 0 512))))]) (wr := [(j, .inr (2, [.ref dk, .ref rc, .ref ta, .ref pa, .int (nI tl), .int (nI st), .int (nI g), .int (nI h)])), (dk, .inr (0, [.ref a, .int du, .int wr])), (a, .inl (cA, 32768, .inl (hj_B d)))]) [2] [0, 1, 3] hP hD hS hA rfl rfl rfl (by decide) (va_runS (As := [.ref pa, .int (nI 0), .int (nI g9), .int (nI h9)]) (rest := []) ⟨hx, hb, hml, hown, hts⟩ (c_J_putHead l dC dI pa cP 15872 (hj_clr pl 0 512) 0 g9 h9 (by omega) (by omega) (hj_clr_bs hp) (by omega) hh H.size) (cwS 4 hts (hj_gS m_432 m_433 m_1 m_434) rfl rfl rfl (by decide +kernel) ⟨Nat.le_of_ble_eq_true rfl, Nat.le_of_ble_eq_true rfl⟩) (hj_preS hj_EXok hE hP hD hK hS hA [2] rfl rfl [0] rfl) rfl rfl hl.1 rfl (lv_room (Nat.le_of_ble_eq_true rfl)) d_J_writeHead_18 ⟨Nat.le_of_ble_eq_true rfl, Nat.le_of_ble_eq_true rfl⟩) (fun u_4 H locs hw hP hD hK1 hS => ?_)
  have hP : va_P (dC, dI) vwCl [(j, .inr (2, [.ref dk, .ref rc, .ref ta, .ref pa, .int (nI tl), .int (nI st), .int (nI g), .int (nI h)])), (dk, .inr (0, [.ref a, .int du, .int wr])), (pa, .inl (cP, 15872, .inl (hj_B (hj_ph (hj_clr pl 0 512) 0 h9 g9)))), (a, .inl (cA, 32768, .inl (hj_B d)))] H := hP.sub [0, 1, 3, 2] rfl
  have hD : va_D A [(j, .inr (2, [.ref dk, .ref rc, .ref ta, .ref pa, .int (nI tl), .int (nI st), .int (nI g), .int (nI h)])), (dk, .inr (0, [.ref a, .int du, .int wr])), (pa, .inl (cP, 15872, .inl (hj_B (hj_ph (hj_clr pl 0 512) 0 h9 g9)))), (a, .inl (cA, 32768, .inl (hj_B d)))] := hD.sub [0, 1, 3, 2] (by decide) rfl
  refine lv_aload_n hx hb d_J_writeHead_21 rfl (lv_at hl 0 rfl) ?_
  refine va_get (D := (dC, dI)) (ci := 2) (v := .ref dk) (C := "HalfJournal") (T := F_J) (N := 8) hx hb hts i_J hown hK hP 0 rfl rfl 0 (by decide) (hts _ m_84) (fun _ h9 => h9) rfl d_J_writeHead_22 ?_
  refine lv_iload_n hx hb d_J_writeHead_25 rfl (lv_at hl 1 rfl) ?_
  refine lv_iconst (v := nI 1) hx hb d_J_writeHead_26 (by decide) ?_
  refine hj_iandM hx hb 1 (by first | assumption | omega) (by decide) d_J_writeHead_27 ?_
  refine hj_topn (b := g9 % 2) (rfl) ?_
  refine lv_aload_n hx hb d_J_writeHead_28 rfl (lv_at hl 0 rfl) ?_
  refine va_get (D := (dC, dI)) (ci := 2) (v := .ref pa) (C := "HalfJournal") (T := F_J) (N := 8) hx hb hts i_J hown hK hP 0 rfl rfl 3 (by decide) (hts _ m_87) (fun _ h9 => h9) rfl d_J_writeHead_29 ?_
  refine lv_iconst (v := nI 0) hx hb d_J_writeHead_32 (by decide) ?_
  refine hj_calli (wc := [(dk, .inr (0, [.ref a, .int du, .int wr])), (a, .inl (cA, 32768, .inl (hj_B d))), (pa, .inl (cP, 15872, .inl (hj_B (hj_ph (hj_clr pl 0 512) 0 h9 g9))))]) (wr := [(j, .inr (2, [.ref dk, .ref rc, .ref ta, .ref pa, .int (nI tl), .int (nI st), .int (nI g), .int (nI h)]))]) [1, 3, 2] [0] hP hD hS hA rfl rfl rfl (by decide) (va_runVN (As := [.int (nI (g9 % 2)), .ref pa, .int (nI 0)]) (rest := []) ⟨hx, hb, hml, hown, hts⟩ (c_D_write l dC dI dk a cA d du wr pa cP 15872 (hj_ph (hj_clr pl 0 512) 0 h9 g9) (g9 % 2) 0 (by omega) (by omega) (by omega) H.size) ⟨va_cnB 3 hts (hj_gC m_615) rfl rfl rfl (hE.1 _ m_612) (hts _ m_2) (by decide +kernel) ⟨Nat.le_of_ble_eq_true rfl, Nat.le_of_ble_eq_true rfl⟩, hts _ m_614, hts _ s_D_write⟩ (hj_preV (ci := 0) (q0 := 1) hj_EXok hE hP hD hK hS hA [1, 3, 2] rfl rfl [1, 0] rfl rfl rfl) rfl rfl hl.1 rfl (lv_room (Nat.le_of_ble_eq_true rfl)) d_J_writeHead_33 ⟨Nat.le_of_ble_eq_true rfl, Nat.le_of_ble_eq_true rfl⟩) (fun r_5 u_6 H locs hw hP hD hK1 hS => ?_)
  obtain ⟨d2, du2, wr2⟩ := u_6
  have hP : va_P (dC, dI) vwCl [(j, .inr (2, [.ref dk, .ref rc, .ref ta, .ref pa, .int (nI tl), .int (nI st), .int (nI g), .int (nI h)])), (dk, .inr (0, [.ref a, .int du2, .int wr2])), (pa, .inl (cP, 15872, .inl (hj_B (hj_ph (hj_clr pl 0 512) 0 h9 g9)))), (a, .inl (cA, 32768, .inl (hj_B d2)))] H := hP.sub [0, 1, 3, 2] rfl
  have hD : va_D A [(j, .inr (2, [.ref dk, .ref rc, .ref ta, .ref pa, .int (nI tl), .int (nI st), .int (nI g), .int (nI h)])), (dk, .inr (0, [.ref a, .int du2, .int wr2])), (pa, .inl (cP, 15872, .inl (hj_B (hj_ph (hj_clr pl 0 512) 0 h9 g9)))), (a, .inl (cA, 32768, .inl (hj_B d2)))] := hD.sub [0, 1, 3, 2] (by decide) rfl
  dsimp only at hw
  rw [hj_blk_congr (r := hj_hd h9 g9) (fun j hj => hj_hd_ph pl h9 g9 j hj)] at hw
  rcases hw with ⟨h7, rfl, h8⟩ | ⟨h7, rfl, h8⟩
  · exact hret (nI 0) (d2, du2, wr2, hj_ph (hj_clr pl 0 512) 0 h9 g9) _ _ _ _ d_J_writeHead_36 rfl (⟨hj_ph_bs (hj_clr_bs hp), Or.inl ⟨h7, rfl, h8⟩⟩) hP hK hD hS
  · exact hret (nI 1) (d2, du2, wr2, hj_ph (hj_clr pl 0 512) 0 h9 g9) _ _ _ _ d_J_writeHead_36 rfl (⟨hj_ph_bs (hj_clr_bs hp), Or.inr ⟨h7, rfl, h8⟩⟩) hP hK hD hS
end
