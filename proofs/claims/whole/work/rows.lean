section
/-- a private method of a class that the tables say can be made, by its rows of tables_1 -/
def lw_okq (q : MethodName × Nat) : Prop := (q.1.cls ≠ "java/lang/invoke/MethodHandle" ∧ q.1.cls ≠ "java/lang/invoke/VarHandle") ∧ Cond.instantiable q.1.cls q.2 ∈ tables_1 ∧ Cond.privateMethod q.1 ∈ tables_1 ∧ Cond.instanceMethod q.1 ∈ tables_1
theorem lw_p0 : lw_okq (⟨"AdviceLinks$AdvisorRow", "settle", "(I)V"⟩, 3) := ⟨⟨by decide +kernel, by decide +kernel⟩, List.mem_of_getElem? (i := 16) (by decide +kernel), List.mem_of_getElem? (i := 182) (by decide +kernel), List.mem_of_getElem? (i := 183) (by decide +kernel)⟩
theorem lw_p1 : lw_okq (⟨"AdviceLinks$AdvisorRow", "swapWithNext", "(I)V"⟩, 3) := ⟨⟨by decide +kernel, by decide +kernel⟩, List.mem_of_getElem? (i := 16) (by decide +kernel), List.mem_of_getElem? (i := 190) (by decide +kernel), List.mem_of_getElem? (i := 191) (by decide +kernel)⟩
theorem lw_p2 : lw_okq (⟨"AdviceLinks", "workOf", "(II)LAdviceLinks$Work;"⟩, 11) := ⟨⟨by decide +kernel, by decide +kernel⟩, List.mem_of_getElem? (i := 8) (by decide +kernel), List.mem_of_getElem? (i := 240) (by decide +kernel), List.mem_of_getElem? (i := 241) (by decide +kernel)⟩
theorem lw_p3 : lw_okq (⟨"AdviceLinks", "begin", "(III)I"⟩, 11) := ⟨⟨by decide +kernel, by decide +kernel⟩, List.mem_of_getElem? (i := 8) (by decide +kernel), List.mem_of_getElem? (i := 264) (by decide +kernel), List.mem_of_getElem? (i := 265) (by decide +kernel)⟩
theorem lw_p4 : lw_okq (⟨"AdviceLinks", "thrown", "(I)I"⟩, 11) := ⟨⟨by decide +kernel, by decide +kernel⟩, List.mem_of_getElem? (i := 8) (by decide +kernel), List.mem_of_getElem? (i := 268) (by decide +kernel), List.mem_of_getElem? (i := 269) (by decide +kernel)⟩
theorem lw_p5 : lw_okq (⟨"AdviceLinks", "takeTarget", "()I"⟩, 11) := ⟨⟨by decide +kernel, by decide +kernel⟩, List.mem_of_getElem? (i := 8) (by decide +kernel), List.mem_of_getElem? (i := 272) (by decide +kernel), List.mem_of_getElem? (i := 273) (by decide +kernel)⟩
theorem lw_p6 : lw_okq (⟨"AdviceLinks", "goAlong", "(III)I"⟩, 11) := ⟨⟨by decide +kernel, by decide +kernel⟩, List.mem_of_getElem? (i := 8) (by decide +kernel), List.mem_of_getElem? (i := 276) (by decide +kernel), List.mem_of_getElem? (i := 277) (by decide +kernel)⟩
theorem lw_p7 : lw_okq (⟨"AdviceLinks", "workOn", "(II)I"⟩, 11) := ⟨⟨by decide +kernel, by decide +kernel⟩, List.mem_of_getElem? (i := 8) (by decide +kernel), List.mem_of_getElem? (i := 288) (by decide +kernel), List.mem_of_getElem? (i := 289) (by decide +kernel)⟩
theorem lw_p8 : lw_okq (⟨"AdviceLinks", "brokenOff", "()I"⟩, 11) := ⟨⟨by decide +kernel, by decide +kernel⟩, List.mem_of_getElem? (i := 8) (by decide +kernel), List.mem_of_getElem? (i := 296) (by decide +kernel), List.mem_of_getElem? (i := 297) (by decide +kernel)⟩
theorem lw_p9 : lw_okq (⟨"AdviceLinks", "returned", "(I)I"⟩, 11) := ⟨⟨by decide +kernel, by decide +kernel⟩, List.mem_of_getElem? (i := 8) (by decide +kernel), List.mem_of_getElem? (i := 308) (by decide +kernel), List.mem_of_getElem? (i := 309) (by decide +kernel)⟩
theorem lw_p10 : lw_okq (⟨"AdviceLinks", "act", "(LAdviceLinks$Advisor;III)I"⟩, 11) := ⟨⟨by decide +kernel, by decide +kernel⟩, List.mem_of_getElem? (i := 8) (by decide +kernel), List.mem_of_getElem? (i := 316) (by decide +kernel), List.mem_of_getElem? (i := 317) (by decide +kernel)⟩
theorem lw_p11 : lw_okq (⟨"AdviceLinks", "actBefore", "(LAdviceLinks$Advisor;III)I"⟩, 11) := ⟨⟨by decide +kernel, by decide +kernel⟩, List.mem_of_getElem? (i := 8) (by decide +kernel), List.mem_of_getElem? (i := 320) (by decide +kernel), List.mem_of_getElem? (i := 321) (by decide +kernel)⟩
theorem lw_p12 : lw_okq (⟨"AdviceLinks", "actChange", "(LAdviceLinks$Advisor;III)I"⟩, 11) := ⟨⟨by decide +kernel, by decide +kernel⟩, List.mem_of_getElem? (i := 8) (by decide +kernel), List.mem_of_getElem? (i := 324) (by decide +kernel), List.mem_of_getElem? (i := 325) (by decide +kernel)⟩
theorem lw_p13 : lw_okq (⟨"AdviceLinks", "actSkip", "(LAdviceLinks$Advisor;III)I"⟩, 11) := ⟨⟨by decide +kernel, by decide +kernel⟩, List.mem_of_getElem? (i := 8) (by decide +kernel), List.mem_of_getElem? (i := 328) (by decide +kernel), List.mem_of_getElem? (i := 329) (by decide +kernel)⟩
theorem lw_p14 : lw_okq (⟨"AdviceLinks", "actTwice", "(LAdviceLinks$Advisor;III)I"⟩, 11) := ⟨⟨by decide +kernel, by decide +kernel⟩, List.mem_of_getElem? (i := 8) (by decide +kernel), List.mem_of_getElem? (i := 332) (by decide +kernel), List.mem_of_getElem? (i := 333) (by decide +kernel)⟩
theorem lw_p15 : lw_okq (⟨"AdviceLinks", "actReturning", "(LAdviceLinks$Advisor;III)I"⟩, 11) := ⟨⟨by decide +kernel, by decide +kernel⟩, List.mem_of_getElem? (i := 8) (by decide +kernel), List.mem_of_getElem? (i := 336) (by decide +kernel), List.mem_of_getElem? (i := 337) (by decide +kernel)⟩
def lw_privs_1 : List (MethodName × Nat) := [(⟨"AdviceLinks$AdvisorRow", "settle", "(I)V"⟩, 3), (⟨"AdviceLinks$AdvisorRow", "swapWithNext", "(I)V"⟩, 3), (⟨"AdviceLinks", "workOf", "(II)LAdviceLinks$Work;"⟩, 11), (⟨"AdviceLinks", "begin", "(III)I"⟩, 11), (⟨"AdviceLinks", "thrown", "(I)I"⟩, 11), (⟨"AdviceLinks", "takeTarget", "()I"⟩, 11), (⟨"AdviceLinks", "goAlong", "(III)I"⟩, 11), (⟨"AdviceLinks", "workOn", "(II)I"⟩, 11), (⟨"AdviceLinks", "brokenOff", "()I"⟩, 11), (⟨"AdviceLinks", "returned", "(I)I"⟩, 11), (⟨"AdviceLinks", "act", "(LAdviceLinks$Advisor;III)I"⟩, 11), (⟨"AdviceLinks", "actBefore", "(LAdviceLinks$Advisor;III)I"⟩, 11), (⟨"AdviceLinks", "actChange", "(LAdviceLinks$Advisor;III)I"⟩, 11), (⟨"AdviceLinks", "actSkip", "(LAdviceLinks$Advisor;III)I"⟩, 11), (⟨"AdviceLinks", "actTwice", "(LAdviceLinks$Advisor;III)I"⟩, 11), (⟨"AdviceLinks", "actReturning", "(LAdviceLinks$Advisor;III)I"⟩, 11)]
theorem lw_r1 : ∀ q ∈ lw_privs_1, lw_okq q := List.forall_mem_cons.mpr ⟨lw_p0, List.forall_mem_cons.mpr ⟨lw_p1, List.forall_mem_cons.mpr ⟨lw_p2, List.forall_mem_cons.mpr ⟨lw_p3, List.forall_mem_cons.mpr ⟨lw_p4, List.forall_mem_cons.mpr ⟨lw_p5, List.forall_mem_cons.mpr ⟨lw_p6, List.forall_mem_cons.mpr ⟨lw_p7, List.forall_mem_cons.mpr ⟨lw_p8, List.forall_mem_cons.mpr ⟨lw_p9, List.forall_mem_cons.mpr ⟨lw_p10, List.forall_mem_cons.mpr ⟨lw_p11, List.forall_mem_cons.mpr ⟨lw_p12, List.forall_mem_cons.mpr ⟨lw_p13, List.forall_mem_cons.mpr ⟨lw_p14, List.forall_mem_cons.mpr ⟨lw_p15, fun _ h => absurd h List.not_mem_nil⟩⟩⟩⟩⟩⟩⟩⟩⟩⟩⟩⟩⟩⟩⟩⟩
theorem lw_p16 : lw_okq (⟨"AdviceLinks", "actThrowing", "(LAdviceLinks$Advisor;III)I"⟩, 11) := ⟨⟨by decide +kernel, by decide +kernel⟩, List.mem_of_getElem? (i := 8) (by decide +kernel), List.mem_of_getElem? (i := 340) (by decide +kernel), List.mem_of_getElem? (i := 341) (by decide +kernel)⟩
theorem lw_p17 : lw_okq (⟨"AdviceLinks", "actFinally", "(LAdviceLinks$Advisor;III)I"⟩, 11) := ⟨⟨by decide +kernel, by decide +kernel⟩, List.mem_of_getElem? (i := 8) (by decide +kernel), List.mem_of_getElem? (i := 347) (by decide +kernel), List.mem_of_getElem? (i := 348) (by decide +kernel)⟩
theorem lw_p18 : lw_okq (⟨"AdviceLinks", "actRecover", "(LAdviceLinks$Advisor;III)I"⟩, 11) := ⟨⟨by decide +kernel, by decide +kernel⟩, List.mem_of_getElem? (i := 8) (by decide +kernel), List.mem_of_getElem? (i := 351) (by decide +kernel), List.mem_of_getElem? (i := 352) (by decide +kernel)⟩
theorem lw_p19 : lw_okq (⟨"AdviceLinksModel", "find", "(I)I"⟩, 41) := ⟨⟨by decide +kernel, by decide +kernel⟩, List.mem_of_getElem? (i := 391) (by decide +kernel), List.mem_of_getElem? (i := 539) (by decide +kernel), List.mem_of_getElem? (i := 540) (by decide +kernel)⟩
theorem lw_p20 : lw_okq (⟨"AdviceLinksModel", "linked", "(II)I"⟩, 41) := ⟨⟨by decide +kernel, by decide +kernel⟩, List.mem_of_getElem? (i := 391) (by decide +kernel), List.mem_of_getElem? (i := 559) (by decide +kernel), List.mem_of_getElem? (i := 560) (by decide +kernel)⟩
theorem lw_p21 : lw_okq (⟨"AdviceLinksModel", "enter", "(II)V"⟩, 41) := ⟨⟨by decide +kernel, by decide +kernel⟩, List.mem_of_getElem? (i := 391) (by decide +kernel), List.mem_of_getElem? (i := 586) (by decide +kernel), List.mem_of_getElem? (i := 587) (by decide +kernel)⟩
theorem lw_p22 : lw_okq (⟨"AdviceLinksModel", "comes", "(ZI)V"⟩, 41) := ⟨⟨by decide +kernel, by decide +kernel⟩, List.mem_of_getElem? (i := 391) (by decide +kernel), List.mem_of_getElem? (i := 590) (by decide +kernel), List.mem_of_getElem? (i := 591) (by decide +kernel)⟩
theorem lw_p23 : lw_okq (⟨"AdviceLinksModel", "await", "(II)V"⟩, 41) := ⟨⟨by decide +kernel, by decide +kernel⟩, List.mem_of_getElem? (i := 391) (by decide +kernel), List.mem_of_getElem? (i := 594) (by decide +kernel), List.mem_of_getElem? (i := 595) (by decide +kernel)⟩
theorem lw_p24 : lw_okq (⟨"AdviceLinksModel", "go", "(II)V"⟩, 41) := ⟨⟨by decide +kernel, by decide +kernel⟩, List.mem_of_getElem? (i := 391) (by decide +kernel), List.mem_of_getElem? (i := 598) (by decide +kernel), List.mem_of_getElem? (i := 599) (by decide +kernel)⟩
theorem lw_p25 : lw_okq (⟨"AdviceLinksModel", "step", "()V"⟩, 41) := ⟨⟨by decide +kernel, by decide +kernel⟩, List.mem_of_getElem? (i := 391) (by decide +kernel), List.mem_of_getElem? (i := 602) (by decide +kernel), List.mem_of_getElem? (i := 603) (by decide +kernel)⟩
theorem lw_p26 : lw_okq (⟨"AdviceLinksModel", "work", "()V"⟩, 41) := ⟨⟨by decide +kernel, by decide +kernel⟩, List.mem_of_getElem? (i := 391) (by decide +kernel), List.mem_of_getElem? (i := 606) (by decide +kernel), List.mem_of_getElem? (i := 607) (by decide +kernel)⟩
theorem lw_p27 : lw_okq (⟨"AdviceLinksModel", "note", "(II)V"⟩, 41) := ⟨⟨by decide +kernel, by decide +kernel⟩, List.mem_of_getElem? (i := 391) (by decide +kernel), List.mem_of_getElem? (i := 610) (by decide +kernel), List.mem_of_getElem? (i := 611) (by decide +kernel)⟩
theorem lw_p28 : lw_okq (⟨"AdviceLinksModel", "back", "()V"⟩, 41) := ⟨⟨by decide +kernel, by decide +kernel⟩, List.mem_of_getElem? (i := 391) (by decide +kernel), List.mem_of_getElem? (i := 614) (by decide +kernel), List.mem_of_getElem? (i := 615) (by decide +kernel)⟩
theorem lw_p29 : lw_okq (⟨"AdviceLinksModel", "twice", "(I)V"⟩, 41) := ⟨⟨by decide +kernel, by decide +kernel⟩, List.mem_of_getElem? (i := 391) (by decide +kernel), List.mem_of_getElem? (i := 618) (by decide +kernel), List.mem_of_getElem? (i := 619) (by decide +kernel)⟩
def lw_privs_2 : List (MethodName × Nat) := [(⟨"AdviceLinks", "actThrowing", "(LAdviceLinks$Advisor;III)I"⟩, 11), (⟨"AdviceLinks", "actFinally", "(LAdviceLinks$Advisor;III)I"⟩, 11), (⟨"AdviceLinks", "actRecover", "(LAdviceLinks$Advisor;III)I"⟩, 11), (⟨"AdviceLinksModel", "find", "(I)I"⟩, 41), (⟨"AdviceLinksModel", "linked", "(II)I"⟩, 41), (⟨"AdviceLinksModel", "enter", "(II)V"⟩, 41), (⟨"AdviceLinksModel", "comes", "(ZI)V"⟩, 41), (⟨"AdviceLinksModel", "await", "(II)V"⟩, 41), (⟨"AdviceLinksModel", "go", "(II)V"⟩, 41), (⟨"AdviceLinksModel", "step", "()V"⟩, 41), (⟨"AdviceLinksModel", "work", "()V"⟩, 41), (⟨"AdviceLinksModel", "note", "(II)V"⟩, 41), (⟨"AdviceLinksModel", "back", "()V"⟩, 41), (⟨"AdviceLinksModel", "twice", "(I)V"⟩, 41)]
theorem lw_r2 : ∀ q ∈ lw_privs_2, lw_okq q := List.forall_mem_cons.mpr ⟨lw_p16, List.forall_mem_cons.mpr ⟨lw_p17, List.forall_mem_cons.mpr ⟨lw_p18, List.forall_mem_cons.mpr ⟨lw_p19, List.forall_mem_cons.mpr ⟨lw_p20, List.forall_mem_cons.mpr ⟨lw_p21, List.forall_mem_cons.mpr ⟨lw_p22, List.forall_mem_cons.mpr ⟨lw_p23, List.forall_mem_cons.mpr ⟨lw_p24, List.forall_mem_cons.mpr ⟨lw_p25, List.forall_mem_cons.mpr ⟨lw_p26, List.forall_mem_cons.mpr ⟨lw_p27, List.forall_mem_cons.mpr ⟨lw_p28, List.forall_mem_cons.mpr ⟨lw_p29, fun _ h => absurd h List.not_mem_nil⟩⟩⟩⟩⟩⟩⟩⟩⟩⟩⟩⟩⟩⟩
def lw_privs : List (MethodName × Nat) := lw_privs_1 ++ (lw_privs_2)
def lw_tbl : List Cond := k2_sels lw_privs ++ tables_1
theorem lw_privs_ok : ∀ q ∈ lw_privs, lw_okq q := by
  show ∀ q ∈ lw_privs_1 ++ (lw_privs_2), lw_okq q
  exact List.forall_mem_append.mpr ⟨lw_r1, lw_r2⟩
end
section
/-! names: classes, fields in the order of the slots, types; all words that keep: wA -/
def R0 : String := "AdviceLinks$Advisor"
def T0 : u_T := fun k => match k with
  | 0 => ("AdviceLinks$Advisor", "number", "I", false)
  | 1 => ("AdviceLinks$Advisor", "kind", "I", false)
  | 2 => ("AdviceLinks$Advisor", "order", "I", false)
  | 3 => ("AdviceLinks$Advisor", "methods", "I", false)
  | 4 => ("AdviceLinks$Advisor", "a", "I", false)
  | 5 => ("AdviceLinks$Advisor", "b", "I", false)
  | 6 => ("AdviceLinks$Advisor", "hasRange", "Z", false)
  | 7 => ("AdviceLinks$Advisor", "low", "I", false)
  | _ => ("AdviceLinks$Advisor", "high", "I", false)
def ty0 : Nat → FieldType := fun k => match k with
  | 0 => .int
  | 1 => .int
  | 2 => .int
  | 3 => .int
  | 4 => .int
  | 5 => .int
  | 6 => .boolean
  | 7 => .int
  | _ => .int
theorem nm0 : ∀ a, a < 9 → ∀ b, b < 9 → a ≠ b → (T0 a).2.1 ≠ (T0 b).2.1 := by decide +kernel
theorem ty0_ok : ∀ k, k < 9 → parseFieldDescriptor (T0 k).2.2.1 = some (ty0 k) := by decide +kernel
def R1 : String := "AdviceLinks$AdvisorRow"
def T1 : u_T := fun k => match k with
  | 0 => ("AdviceLinks$AdvisorRow", "row", "[LAdviceLinks$Advisor;", true)
  | 1 => ("AdviceLinks$AdvisorRow", "there", "I", false)
  | _ => ("AdviceLinks$AdvisorRow", "nextNumber", "I", false)
def ty1 : Nat → FieldType := fun k => match k with
  | 0 => .array (.object "AdviceLinks$Advisor")
  | 1 => .int
  | _ => .int
theorem nm1 : ∀ a, a < 3 → ∀ b, b < 3 → a ≠ b → (T1 a).2.1 ≠ (T1 b).2.1 := by decide +kernel
theorem ty1_ok : ∀ k, k < 3 → parseFieldDescriptor (T1 k).2.2.1 = some (ty1 k) := by decide +kernel
def R2 : String := "AdviceLinks$Trace"
def T2 : u_T := fun k => match k with
  | 0 => ("AdviceLinks$Trace", "noters", "[I", true)
  | 1 => ("AdviceLinks$Trace", "words", "[I", true)
  | _ => ("AdviceLinks$Trace", "length", "I", false)
def ty2 : Nat → FieldType := fun k => match k with
  | 0 => .array .int
  | 1 => .array .int
  | _ => .int
theorem nm2 : ∀ a, a < 3 → ∀ b, b < 3 → a ≠ b → (T2 a).2.1 ≠ (T2 b).2.1 := by decide +kernel
theorem ty2_ok : ∀ k, k < 3 → parseFieldDescriptor (T2 k).2.2.1 = some (ty2 k) := by decide +kernel
def R3 : String := "AdviceLinks$Work"
def T3 : u_T := fun k => match k with
  | 0 => ("AdviceLinks$Work", "factor", "I", false)
  | 1 => ("AdviceLinks$Work", "addend", "I", false)
  | 2 => ("AdviceLinks$Work", "failsAt", "I", false)
  | 3 => ("AdviceLinks$Work", "exception", "I", false)
  | _ => ("AdviceLinks$Work", "next", "I", false)
def ty3 : Nat → FieldType := fun k => match k with
  | 0 => .int
  | 1 => .int
  | 2 => .int
  | 3 => .int
  | _ => .int
theorem nm3 : ∀ a, a < 5 → ∀ b, b < 5 → a ≠ b → (T3 a).2.1 ≠ (T3 b).2.1 := by decide +kernel
theorem ty3_ok : ∀ k, k < 5 → parseFieldDescriptor (T3 k).2.2.1 = some (ty3 k) := by decide +kernel
def R4 : String := "AdviceLinks"
def T4 : u_T := fun k => match k with
  | 0 => ("AdviceLinks", "advisors", "LAdviceLinks$AdvisorRow;", true)
  | 1 => ("AdviceLinks", "works", "[LAdviceLinks$Work;", true)
  | 2 => ("AdviceLinks", "trace", "LAdviceLinks$Trace;", true)
  | 3 => ("AdviceLinks", "methodAt", "[I", true)
  | 4 => ("AdviceLinks", "targetAt", "[I", true)
  | 5 => ("AdviceLinks", "frozen", "Z", false)
  | 6 => ("AdviceLinks", "targetSource", "I", false)
  | 7 => ("AdviceLinks", "nextInTurn", "I", false)
  | 8 => ("AdviceLinks", "timesAsked", "I", false)
  | 9 => ("AdviceLinks", "targetsTaken", "I", false)
  | _ => ("AdviceLinks", "value", "I", false)
def ty4 : Nat → FieldType := fun k => match k with
  | 0 => .object "AdviceLinks$AdvisorRow"
  | 1 => .array (.object "AdviceLinks$Work")
  | 2 => .object "AdviceLinks$Trace"
  | 3 => .array .int
  | 4 => .array .int
  | 5 => .boolean
  | 6 => .int
  | 7 => .int
  | 8 => .int
  | 9 => .int
  | _ => .int
theorem nm4 : ∀ a, a < 11 → ∀ b, b < 11 → a ≠ b → (T4 a).2.1 ≠ (T4 b).2.1 := by decide +kernel
theorem ty4_ok : ∀ k, k < 11 → parseFieldDescriptor (T4 k).2.2.1 = some (ty4 k) := by decide +kernel
def R5 : String := "AdviceLinksModel"
def T5 : u_T := fun k => match k with
  | 0 => ("AdviceLinksModel", "there", "I", false)
  | 1 => ("AdviceLinksModel", "next", "I", false)
  | 2 => ("AdviceLinksModel", "frozen", "Z", false)
  | 3 => ("AdviceLinksModel", "name", "[I", false)
  | 4 => ("AdviceLinksModel", "kind", "[I", false)
  | 5 => ("AdviceLinksModel", "order", "[I", false)
  | 6 => ("AdviceLinksModel", "methods", "[I", false)
  | 7 => ("AdviceLinksModel", "first", "[I", false)
  | 8 => ("AdviceLinksModel", "second", "[I", false)
  | 9 => ("AdviceLinksModel", "ranged", "[Z", false)
  | 10 => ("AdviceLinksModel", "low", "[I", false)
  | 11 => ("AdviceLinksModel", "high", "[I", false)
  | 12 => ("AdviceLinksModel", "factor", "[I", false)
  | 13 => ("AdviceLinksModel", "addend", "[I", false)
  | 14 => ("AdviceLinksModel", "failsAt", "[I", false)
  | 15 => ("AdviceLinksModel", "failure", "[I", false)
  | 16 => ("AdviceLinksModel", "leads", "[I", false)
  | 17 => ("AdviceLinksModel", "source", "I", false)
  | 18 => ("AdviceLinksModel", "turns", "I", false)
  | 19 => ("AdviceLinksModel", "noted", "I", false)
  | 20 => ("AdviceLinksModel", "whoNoted", "[I", false)
  | 21 => ("AdviceLinksModel", "whatNoted", "[I", false)
  | 22 => ("AdviceLinksModel", "askedCount", "I", false)
  | 23 => ("AdviceLinksModel", "takenCount", "I", false)
  | 24 => ("AdviceLinksModel", "outcome", "I", false)
  | 25 => ("AdviceLinksModel", "broken", "Z", false)
  | 26 => ("AdviceLinksModel", "depth", "I", false)
  | 27 => ("AdviceLinksModel", "method", "[I", false)
  | 28 => ("AdviceLinksModel", "target", "[I", false)
  | 29 => ("AdviceLinksModel", "waiting", "I", false)
  | 30 => ("AdviceLinksModel", "waits", "[I", false)
  | 31 => ("AdviceLinksModel", "waitsPlace", "[I", false)
  | 32 => ("AdviceLinksModel", "waitsAdvisor", "[I", false)
  | 33 => ("AdviceLinksModel", "waitsX", "[I", false)
  | 34 => ("AdviceLinksModel", "waitsR", "[I", false)
  | 35 => ("AdviceLinksModel", "waitsAgain", "[Z", false)
  | 36 => ("AdviceLinksModel", "along", "Z", false)
  | 37 => ("AdviceLinksModel", "place", "I", false)
  | 38 => ("AdviceLinksModel", "x", "I", false)
  | 39 => ("AdviceLinksModel", "threw", "Z", false)
  | _ => ("AdviceLinksModel", "value", "I", false)
def ty5 : Nat → FieldType := fun k => match k with
  | 0 => .int
  | 1 => .int
  | 2 => .boolean
  | 3 => .array .int
  | 4 => .array .int
  | 5 => .array .int
  | 6 => .array .int
  | 7 => .array .int
  | 8 => .array .int
  | 9 => .array .boolean
  | 10 => .array .int
  | 11 => .array .int
  | 12 => .array .int
  | 13 => .array .int
  | 14 => .array .int
  | 15 => .array .int
  | 16 => .array .int
  | 17 => .int
  | 18 => .int
  | 19 => .int
  | 20 => .array .int
  | 21 => .array .int
  | 22 => .int
  | 23 => .int
  | 24 => .int
  | 25 => .boolean
  | 26 => .int
  | 27 => .array .int
  | 28 => .array .int
  | 29 => .int
  | 30 => .array .int
  | 31 => .array .int
  | 32 => .array .int
  | 33 => .array .int
  | 34 => .array .int
  | 35 => .array .boolean
  | 36 => .boolean
  | 37 => .int
  | 38 => .int
  | 39 => .boolean
  | _ => .int
theorem nm5 : ∀ a, a < 41 → ∀ b, b < 41 → a ≠ b → (T5 a).2.1 ≠ (T5 b).2.1 := by decide +kernel
theorem ty5_ok : ∀ k, k < 41 → parseFieldDescriptor (T5 k).2.2.1 = some (ty5 k) := by decide +kernel
def R6 : String := "AdviceLinksLaw"
abbrev clA : List vw_C := [(R0, T0, 9), (R1, T1, 3), (R2, T2, 3), (R3, T3, 5), (R4, T4, 11), (R5, T5, 41)]
def wA : List Cond := lw_tbl.filter goodWord
theorem in_wA {w : Cond} (h : w ∈ lw_tbl) (hg : goodWord w = true) : w ∈ wA := List.mem_filter.mpr ⟨h, hg⟩
theorem of_wA {w : Cond} (h : w ∈ wA) : w ∈ lw_tbl := (List.mem_filter.mp h).1
theorem wA_good : GoodIn wA wA := fun _ h => ⟨h, good_of_word (List.mem_filter.mp h).2⟩
theorem wA_all (ws : List Cond) (h : ws.all (fun w => decide (w ∈ lw_tbl) && goodWord w) = true) : ∀ w ∈ ws, w ∈ wA := by
  intro w hw
  have h1 := List.all_eq_true.mp h w hw
  simp only [Bool.and_eq_true, decide_eq_true_eq] at h1
  exact in_wA h1.1 h1.2
theorem inC0 : ∀ w ∈ u_ws R0 T0 9, w ∈ wA := wA_all _ (by decide +kernel)
theorem inC1 : ∀ w ∈ u_ws R1 T1 3, w ∈ wA := wA_all _ (by decide +kernel)
theorem inC2 : ∀ w ∈ u_ws R2 T2 3, w ∈ wA := wA_all _ (by decide +kernel)
theorem inC3 : ∀ w ∈ u_ws R3 T3 5, w ∈ wA := wA_all _ (by decide +kernel)
theorem inC4 : ∀ w ∈ u_ws R4 T4 11, w ∈ wA := wA_all _ (by decide +kernel)
theorem inC5 : ∀ w ∈ u_ws R5 T5 41, w ∈ wA := wA_all _ (by decide +kernel)
abbrev b_A_init : ByteArray := prog_2_method_1_code
def y_A_init : MethodName := ⟨R0, "<init>", "()V"⟩
set_option maxRecDepth 100000 in
theorem cd_A_init : Cond.code y_A_init b_A_init 1 none ∈ wA := in_wA (List.mem_of_getElem? (i := 56) rfl) rfl
abbrev b_A_giveRange : ByteArray := prog_2_method_2_code
def y_A_giveRange : MethodName := ⟨R0, "giveRange", "(II)V"⟩
set_option maxRecDepth 100000 in
theorem cd_A_giveRange : Cond.code y_A_giveRange b_A_giveRange 3 none ∈ wA := in_wA (List.mem_of_getElem? (i := 238) rfl) rfl
abbrev b_A_isInRange : ByteArray := prog_2_method_3_code
def y_A_isInRange : MethodName := ⟨R0, "isInRange", "(I)Z"⟩
set_option maxRecDepth 100000 in
theorem cd_A_isInRange : Cond.code y_A_isInRange b_A_isInRange 2 (some .boolean) ∈ wA := in_wA (List.mem_of_getElem? (i := 344) rfl) rfl
abbrev b_A_advises : ByteArray := prog_2_method_4_code
def y_A_advises : MethodName := ⟨R0, "advises", "(I)Z"⟩
set_option maxRecDepth 100000 in
theorem cd_A_advises : Cond.code y_A_advises b_A_advises 2 (some .boolean) ∈ wA := in_wA (List.mem_of_getElem? (i := 316) rfl) rfl
abbrev b_A_standsBefore : ByteArray := prog_2_method_5_code
def y_A_standsBefore : MethodName := ⟨R0, "standsBefore", "(LAdviceLinks$Advisor;)Z"⟩
set_option maxRecDepth 100000 in
theorem cd_A_standsBefore : Cond.code y_A_standsBefore b_A_standsBefore 2 (some .boolean) ∈ wA := in_wA (List.mem_of_getElem? (i := 218) rfl) rfl
abbrev b_R_init : ByteArray := prog_3_method_1_code
def y_R_init : MethodName := ⟨R1, "<init>", "()V"⟩
set_option maxRecDepth 100000 in
theorem cd_R_init : Cond.code y_R_init b_R_init 2 none ∈ wA := in_wA (List.mem_of_getElem? (i := 49) rfl) rfl
abbrev b_R_isFull : ByteArray := prog_3_method_2_code
def y_R_isFull : MethodName := ⟨R1, "isFull", "()Z"⟩
set_option maxRecDepth 100000 in
theorem cd_R_isFull : Cond.code y_R_isFull b_R_isFull 1 (some .boolean) ∈ wA := in_wA (List.mem_of_getElem? (i := 197) rfl) rfl
abbrev b_R_at : ByteArray := prog_3_method_3_code
def y_R_at : MethodName := ⟨R1, "at", "(I)LAdviceLinks$Advisor;"⟩
set_option maxRecDepth 100000 in
theorem cd_R_at : Cond.code y_R_at b_R_at 2 (some (.object "AdviceLinks$Advisor")) ∈ wA := in_wA (List.mem_of_getElem? (i := 234) rfl) rfl
abbrev b_R_placeOf : ByteArray := prog_3_method_4_code
def y_R_placeOf : MethodName := ⟨R1, "placeOf", "(I)I"⟩
set_option maxRecDepth 100000 in
theorem cd_R_placeOf : Cond.code y_R_placeOf b_R_placeOf 3 (some .int) ∈ wA := in_wA (List.mem_of_getElem? (i := 230) rfl) rfl
abbrev b_R_placeInChain : ByteArray := prog_3_method_5_code
def y_R_placeInChain : MethodName := ⟨R1, "placeInChain", "(II)I"⟩
set_option maxRecDepth 100000 in
theorem cd_R_placeInChain : Cond.code y_R_placeInChain b_R_placeInChain 4 (some .int) ∈ wA := in_wA (List.mem_of_getElem? (i := 312) rfl) rfl
abbrev b_R_numberInChain : ByteArray := prog_3_method_6_code
def y_R_numberInChain : MethodName := ⟨R1, "numberInChain", "(II)I"⟩
set_option maxRecDepth 100000 in
theorem cd_R_numberInChain : Cond.code y_R_numberInChain b_R_numberInChain 5 (some .int) ∈ wA := in_wA (List.mem_of_getElem? (i := 419) rfl) rfl
abbrev b_R_make : ByteArray := prog_3_method_7_code
def y_R_make : MethodName := ⟨R1, "make", "(IIIII)I"⟩
set_option maxRecDepth 100000 in
theorem cd_R_make : Cond.code y_R_make b_R_make 7 (some .int) ∈ wA := in_wA (List.mem_of_getElem? (i := 210) rfl) rfl
abbrev b_R_move : ByteArray := prog_3_method_8_code
def y_R_move : MethodName := ⟨R1, "move", "(II)V"⟩
set_option maxRecDepth 100000 in
theorem cd_R_move : Cond.code y_R_move b_R_move 3 none ∈ wA := in_wA (List.mem_of_getElem? (i := 246) rfl) rfl
abbrev b_R_takeAway : ByteArray := prog_3_method_9_code
def y_R_takeAway : MethodName := ⟨R1, "takeAway", "(I)V"⟩
set_option maxRecDepth 100000 in
theorem cd_R_takeAway : Cond.code y_R_takeAway b_R_takeAway 3 none ∈ wA := in_wA (List.mem_of_getElem? (i := 254) rfl) rfl
abbrev b_R_settle : ByteArray := prog_3_method_10_code
def y_R_settle : MethodName := ⟨R1, "settle", "(I)V"⟩
set_option maxRecDepth 100000 in
theorem cd_R_settle : Cond.code y_R_settle b_R_settle 3 none ∈ wA := in_wA (List.mem_of_getElem? (i := 214) rfl) rfl
abbrev b_R_swapWithNext : ByteArray := prog_3_method_11_code
def y_R_swapWithNext : MethodName := ⟨R1, "swapWithNext", "(I)V"⟩
set_option maxRecDepth 100000 in
theorem cd_R_swapWithNext : Cond.code y_R_swapWithNext b_R_swapWithNext 3 none ∈ wA := in_wA (List.mem_of_getElem? (i := 222) rfl) rfl
abbrev b_T_init : ByteArray := prog_4_method_1_code
def y_T_init : MethodName := ⟨R2, "<init>", "()V"⟩
set_option maxRecDepth 100000 in
theorem cd_T_init : Cond.code y_T_init b_T_init 1 none ∈ wA := in_wA (List.mem_of_getElem? (i := 114) rfl) rfl
abbrev b_T_clear : ByteArray := prog_4_method_2_code
def y_T_clear : MethodName := ⟨R2, "clear", "()V"⟩
set_option maxRecDepth 100000 in
theorem cd_T_clear : Cond.code y_T_clear b_T_clear 1 none ∈ wA := in_wA (List.mem_of_getElem? (i := 292) rfl) rfl
abbrev b_T_has : ByteArray := prog_4_method_3_code
def y_T_has : MethodName := ⟨R2, "has", "(I)Z"⟩
set_option maxRecDepth 100000 in
theorem cd_T_has : Cond.code y_T_has b_T_has 2 (some .boolean) ∈ wA := in_wA (List.mem_of_getElem? (i := 399) rfl) rfl
abbrev b_T_note : ByteArray := prog_4_method_4_code
def y_T_note : MethodName := ⟨R2, "note", "(II)Z"⟩
set_option maxRecDepth 100000 in
theorem cd_T_note : Cond.code y_T_note b_T_note 3 (some .boolean) ∈ wA := in_wA (List.mem_of_getElem? (i := 324) rfl) rfl
abbrev b_K_init : ByteArray := prog_5_method_1_code
def y_K_init : MethodName := ⟨R3, "<init>", "()V"⟩
set_option maxRecDepth 100000 in
theorem cd_K_init : Cond.code y_K_init b_K_init 1 none ∈ wA := in_wA (List.mem_of_getElem? (i := 133) rfl) rfl
abbrev b_K_failsOn : ByteArray := prog_5_method_2_code
def y_K_failsOn : MethodName := ⟨R3, "failsOn", "(I)Z"⟩
set_option maxRecDepth 100000 in
theorem cd_K_failsOn : Cond.code y_K_failsOn b_K_failsOn 2 (some .boolean) ∈ wA := in_wA (List.mem_of_getElem? (i := 332) rfl) rfl
abbrev b_K_reckon : ByteArray := prog_5_method_3_code
def y_K_reckon : MethodName := ⟨R3, "reckon", "(I)I"⟩
set_option maxRecDepth 100000 in
theorem cd_K_reckon : Cond.code y_K_reckon b_K_reckon 2 (some .int) ∈ wA := in_wA (List.mem_of_getElem? (i := 336) rfl) rfl
abbrev b_L_init : ByteArray := prog_1_method_1_code
def y_L_init : MethodName := ⟨R4, "<init>", "()V"⟩
set_option maxRecDepth 100000 in
theorem cd_L_init : Cond.code y_L_init b_L_init 2 none ∈ wA := in_wA (List.mem_of_getElem? (i := 41) rfl) rfl
abbrev b_L_advise : ByteArray := prog_1_method_2_code
def y_L_advise : MethodName := ⟨R4, "advise", "(IIIII)I"⟩
set_option maxRecDepth 100000 in
theorem cd_L_advise : Cond.code y_L_advise b_L_advise 6 (some .int) ∈ wA := in_wA (List.mem_of_getElem? (i := 193) rfl) rfl
abbrev b_L_when : ByteArray := prog_1_method_3_code
def y_L_when : MethodName := ⟨R4, "when", "(III)Z"⟩
set_option maxRecDepth 100000 in
theorem cd_L_when : Cond.code y_L_when b_L_when 5 (some .boolean) ∈ wA := in_wA (List.mem_of_getElem? (i := 226) rfl) rfl
abbrev b_L_reorder : ByteArray := prog_1_method_4_code
def y_L_reorder : MethodName := ⟨R4, "reorder", "(II)Z"⟩
set_option maxRecDepth 100000 in
theorem cd_L_reorder : Cond.code y_L_reorder b_L_reorder 4 (some .boolean) ∈ wA := in_wA (List.mem_of_getElem? (i := 242) rfl) rfl
abbrev b_L_remove : ByteArray := prog_1_method_5_code
def y_L_remove : MethodName := ⟨R4, "remove", "(I)Z"⟩
set_option maxRecDepth 100000 in
theorem cd_L_remove : Cond.code y_L_remove b_L_remove 3 (some .boolean) ∈ wA := in_wA (List.mem_of_getElem? (i := 250) rfl) rfl
abbrev b_L_freeze : ByteArray := prog_1_method_6_code
def y_L_freeze : MethodName := ⟨R4, "freeze", "(Z)V"⟩
set_option maxRecDepth 100000 in
theorem cd_L_freeze : Cond.code y_L_freeze b_L_freeze 2 none ∈ wA := in_wA (List.mem_of_getElem? (i := 258) rfl) rfl
abbrev b_L_plan : ByteArray := prog_1_method_7_code
def y_L_plan : MethodName := ⟨R4, "plan", "(IIII)Z"⟩
set_option maxRecDepth 100000 in
theorem cd_L_plan : Cond.code y_L_plan b_L_plan 6 (some .boolean) ∈ wA := in_wA (List.mem_of_getElem? (i := 262) rfl) rfl
abbrev b_L_fail : ByteArray := prog_1_method_8_code
def y_L_fail : MethodName := ⟨R4, "fail", "(IIII)Z"⟩
set_option maxRecDepth 100000 in
theorem cd_L_fail : Cond.code y_L_fail b_L_fail 6 (some .boolean) ∈ wA := in_wA (List.mem_of_getElem? (i := 276) rfl) rfl
abbrev b_L_calls : ByteArray := prog_1_method_9_code
def y_L_calls : MethodName := ⟨R4, "calls", "(III)Z"⟩
set_option maxRecDepth 100000 in
theorem cd_L_calls : Cond.code y_L_calls b_L_calls 4 (some .boolean) ∈ wA := in_wA (List.mem_of_getElem? (i := 280) rfl) rfl
abbrev b_L_source : ByteArray := prog_1_method_10_code
def y_L_source : MethodName := ⟨R4, "source", "(I)Z"⟩
set_option maxRecDepth 100000 in
theorem cd_L_source : Cond.code y_L_source b_L_source 2 (some .boolean) ∈ wA := in_wA (List.mem_of_getElem? (i := 284) rfl) rfl
abbrev b_L_invoke : ByteArray := prog_1_method_11_code
def y_L_invoke : MethodName := ⟨R4, "invoke", "(II)I"⟩
set_option maxRecDepth 100000 in
theorem cd_L_invoke : Cond.code y_L_invoke b_L_invoke 3 (some .int) ∈ wA := in_wA (List.mem_of_getElem? (i := 288) rfl) rfl
abbrev b_L_result : ByteArray := prog_1_method_12_code
def y_L_result : MethodName := ⟨R4, "result", "()I"⟩
set_option maxRecDepth 100000 in
theorem cd_L_result : Cond.code y_L_result b_L_result 1 (some .int) ∈ wA := in_wA (List.mem_of_getElem? (i := 387) rfl) rfl
abbrev b_L_events : ByteArray := prog_1_method_13_code
def y_L_events : MethodName := ⟨R4, "events", "()I"⟩
set_option maxRecDepth 100000 in
theorem cd_L_events : Cond.code y_L_events b_L_events 1 (some .int) ∈ wA := in_wA (List.mem_of_getElem? (i := 391) rfl) rfl
abbrev b_L_who : ByteArray := prog_1_method_14_code
def y_L_who : MethodName := ⟨R4, "who", "(I)I"⟩
set_option maxRecDepth 100000 in
theorem cd_L_who : Cond.code y_L_who b_L_who 2 (some .int) ∈ wA := in_wA (List.mem_of_getElem? (i := 395) rfl) rfl
abbrev b_L_what : ByteArray := prog_1_method_15_code
def y_L_what : MethodName := ⟨R4, "what", "(I)I"⟩
set_option maxRecDepth 100000 in
theorem cd_L_what : Cond.code y_L_what b_L_what 2 (some .int) ∈ wA := in_wA (List.mem_of_getElem? (i := 403) rfl) rfl
abbrev b_L_asked : ByteArray := prog_1_method_16_code
def y_L_asked : MethodName := ⟨R4, "asked", "()I"⟩
set_option maxRecDepth 100000 in
theorem cd_L_asked : Cond.code y_L_asked b_L_asked 1 (some .int) ∈ wA := in_wA (List.mem_of_getElem? (i := 407) rfl) rfl
abbrev b_L_taken : ByteArray := prog_1_method_17_code
def y_L_taken : MethodName := ⟨R4, "taken", "()I"⟩
set_option maxRecDepth 100000 in
theorem cd_L_taken : Cond.code y_L_taken b_L_taken 1 (some .int) ∈ wA := in_wA (List.mem_of_getElem? (i := 411) rfl) rfl
abbrev b_L_chain : ByteArray := prog_1_method_18_code
def y_L_chain : MethodName := ⟨R4, "chain", "(II)I"⟩
set_option maxRecDepth 100000 in
theorem cd_L_chain : Cond.code y_L_chain b_L_chain 3 (some .int) ∈ wA := in_wA (List.mem_of_getElem? (i := 415) rfl) rfl
abbrev b_L_isMethod : ByteArray := prog_1_method_19_code
def y_L_isMethod : MethodName := ⟨R4, "isMethod", "(I)Z"⟩
set_option maxRecDepth 100000 in
theorem cd_L_isMethod : Cond.code y_L_isMethod b_L_isMethod 1 (some .boolean) ∈ wA := in_wA (List.mem_of_getElem? (i := 268) rfl) rfl
abbrev b_L_isTarget : ByteArray := prog_1_method_20_code
def y_L_isTarget : MethodName := ⟨R4, "isTarget", "(I)Z"⟩
set_option maxRecDepth 100000 in
theorem cd_L_isTarget : Cond.code y_L_isTarget b_L_isTarget 1 (some .boolean) ∈ wA := in_wA (List.mem_of_getElem? (i := 265) rfl) rfl
abbrev b_L_isException : ByteArray := prog_1_method_21_code
def y_L_isException : MethodName := ⟨R4, "isException", "(I)Z"⟩
set_option maxRecDepth 100000 in
theorem cd_L_isException : Cond.code y_L_isException b_L_isException 1 (some .boolean) ∈ wA := in_wA (List.mem_of_getElem? (i := 203) rfl) rfl
abbrev b_L_isExceptionOrZero : ByteArray := prog_1_method_22_code
def y_L_isExceptionOrZero : MethodName := ⟨R4, "isExceptionOrZero", "(I)Z"⟩
set_option maxRecDepth 100000 in
theorem cd_L_isExceptionOrZero : Cond.code y_L_isExceptionOrZero b_L_isExceptionOrZero 1 (some .boolean) ∈ wA := in_wA (List.mem_of_getElem? (i := 206) rfl) rfl
abbrev b_L_areNumbersOf : ByteArray := prog_1_method_23_code
def y_L_areNumbersOf : MethodName := ⟨R4, "areNumbersOf", "(III)Z"⟩
set_option maxRecDepth 100000 in
theorem cd_L_areNumbersOf : Cond.code y_L_areNumbersOf b_L_areNumbersOf 3 (some .boolean) ∈ wA := in_wA (List.mem_of_getElem? (i := 200) rfl) rfl
abbrev b_L_isKindOf : ByteArray := prog_1_method_24_code
def y_L_isKindOf : MethodName := ⟨R4, "isKindOf", "(II)Z"⟩
set_option maxRecDepth 100000 in
theorem cd_L_isKindOf : Cond.code y_L_isKindOf b_L_isKindOf 3 (some .boolean) ∈ wA := in_wA (List.mem_of_getElem? (i := 375) rfl) rfl
abbrev b_L_workOf : ByteArray := prog_1_method_25_code
def y_L_workOf : MethodName := ⟨R4, "workOf", "(II)LAdviceLinks$Work;"⟩
set_option maxRecDepth 100000 in
theorem cd_L_workOf : Cond.code y_L_workOf b_L_workOf 3 (some (.object "AdviceLinks$Work")) ∈ wA := in_wA (List.mem_of_getElem? (i := 272) rfl) rfl
abbrev b_L_returned : ByteArray := prog_1_method_26_code
def y_L_returned : MethodName := ⟨R4, "returned", "(I)I"⟩
set_option maxRecDepth 100000 in
theorem cd_L_returned : Cond.code y_L_returned b_L_returned 2 (some .int) ∈ wA := in_wA (List.mem_of_getElem? (i := 340) rfl) rfl
abbrev b_L_thrown : ByteArray := prog_1_method_27_code
def y_L_thrown : MethodName := ⟨R4, "thrown", "(I)I"⟩
set_option maxRecDepth 100000 in
theorem cd_L_thrown : Cond.code y_L_thrown b_L_thrown 2 (some .int) ∈ wA := in_wA (List.mem_of_getElem? (i := 300) rfl) rfl
abbrev b_L_brokenOff : ByteArray := prog_1_method_28_code
def y_L_brokenOff : MethodName := ⟨R4, "brokenOff", "()I"⟩
set_option maxRecDepth 100000 in
theorem cd_L_brokenOff : Cond.code y_L_brokenOff b_L_brokenOff 1 (some .int) ∈ wA := in_wA (List.mem_of_getElem? (i := 328) rfl) rfl
abbrev b_L_takeTarget : ByteArray := prog_1_method_29_code
def y_L_takeTarget : MethodName := ⟨R4, "takeTarget", "()I"⟩
set_option maxRecDepth 100000 in
theorem cd_L_takeTarget : Cond.code y_L_takeTarget b_L_takeTarget 2 (some .int) ∈ wA := in_wA (List.mem_of_getElem? (i := 304) rfl) rfl
abbrev b_L_begin : ByteArray := prog_1_method_30_code
def y_L_begin : MethodName := ⟨R4, "begin", "(III)I"⟩
set_option maxRecDepth 100000 in
theorem cd_L_begin : Cond.code y_L_begin b_L_begin 4 (some .int) ∈ wA := in_wA (List.mem_of_getElem? (i := 296) rfl) rfl
abbrev b_L_goAlong : ByteArray := prog_1_method_31_code
def y_L_goAlong : MethodName := ⟨R4, "goAlong", "(III)I"⟩
set_option maxRecDepth 100000 in
theorem cd_L_goAlong : Cond.code y_L_goAlong b_L_goAlong 6 (some .int) ∈ wA := in_wA (List.mem_of_getElem? (i := 308) rfl) rfl
abbrev b_L_workOn : ByteArray := prog_1_method_32_code
def y_L_workOn : MethodName := ⟨R4, "workOn", "(II)I"⟩
set_option maxRecDepth 100000 in
theorem cd_L_workOn : Cond.code y_L_workOn b_L_workOn 6 (some .int) ∈ wA := in_wA (List.mem_of_getElem? (i := 320) rfl) rfl
abbrev b_L_act : ByteArray := prog_1_method_33_code
def y_L_act : MethodName := ⟨R4, "act", "(LAdviceLinks$Advisor;III)I"⟩
set_option maxRecDepth 100000 in
theorem cd_L_act : Cond.code y_L_act b_L_act 5 (some .int) ∈ wA := in_wA (List.mem_of_getElem? (i := 348) rfl) rfl
abbrev b_L_actBefore : ByteArray := prog_1_method_34_code
def y_L_actBefore : MethodName := ⟨R4, "actBefore", "(LAdviceLinks$Advisor;III)I"⟩
set_option maxRecDepth 100000 in
theorem cd_L_actBefore : Cond.code y_L_actBefore b_L_actBefore 5 (some .int) ∈ wA := in_wA (List.mem_of_getElem? (i := 352) rfl) rfl
abbrev b_L_actChange : ByteArray := prog_1_method_35_code
def y_L_actChange : MethodName := ⟨R4, "actChange", "(LAdviceLinks$Advisor;III)I"⟩
set_option maxRecDepth 100000 in
theorem cd_L_actChange : Cond.code y_L_actChange b_L_actChange 6 (some .int) ∈ wA := in_wA (List.mem_of_getElem? (i := 356) rfl) rfl
abbrev b_L_actSkip : ByteArray := prog_1_method_36_code
def y_L_actSkip : MethodName := ⟨R4, "actSkip", "(LAdviceLinks$Advisor;III)I"⟩
set_option maxRecDepth 100000 in
theorem cd_L_actSkip : Cond.code y_L_actSkip b_L_actSkip 5 (some .int) ∈ wA := in_wA (List.mem_of_getElem? (i := 360) rfl) rfl
abbrev b_L_actTwice : ByteArray := prog_1_method_37_code
def y_L_actTwice : MethodName := ⟨R4, "actTwice", "(LAdviceLinks$Advisor;III)I"⟩
set_option maxRecDepth 100000 in
theorem cd_L_actTwice : Cond.code y_L_actTwice b_L_actTwice 8 (some .int) ∈ wA := in_wA (List.mem_of_getElem? (i := 364) rfl) rfl
abbrev b_L_actReturning : ByteArray := prog_1_method_38_code
def y_L_actReturning : MethodName := ⟨R4, "actReturning", "(LAdviceLinks$Advisor;III)I"⟩
set_option maxRecDepth 100000 in
theorem cd_L_actReturning : Cond.code y_L_actReturning b_L_actReturning 6 (some .int) ∈ wA := in_wA (List.mem_of_getElem? (i := 368) rfl) rfl
abbrev b_L_actThrowing : ByteArray := prog_1_method_39_code
def y_L_actThrowing : MethodName := ⟨R4, "actThrowing", "(LAdviceLinks$Advisor;III)I"⟩
set_option maxRecDepth 100000 in
theorem cd_L_actThrowing : Cond.code y_L_actThrowing b_L_actThrowing 6 (some .int) ∈ wA := in_wA (List.mem_of_getElem? (i := 372) rfl) rfl
abbrev b_L_actFinally : ByteArray := prog_1_method_40_code
def y_L_actFinally : MethodName := ⟨R4, "actFinally", "(LAdviceLinks$Advisor;III)I"⟩
set_option maxRecDepth 100000 in
theorem cd_L_actFinally : Cond.code y_L_actFinally b_L_actFinally 6 (some .int) ∈ wA := in_wA (List.mem_of_getElem? (i := 379) rfl) rfl
abbrev b_L_actRecover : ByteArray := prog_1_method_41_code
def y_L_actRecover : MethodName := ⟨R4, "actRecover", "(LAdviceLinks$Advisor;III)I"⟩
set_option maxRecDepth 100000 in
theorem cd_L_actRecover : Cond.code y_L_actRecover b_L_actRecover 6 (some .int) ∈ wA := in_wA (List.mem_of_getElem? (i := 383) rfl) rfl
abbrev b_M_init : ByteArray := prog_7_method_1_code
def y_M_init : MethodName := ⟨R5, "<init>", "()V"⟩
set_option maxRecDepth 100000 in
theorem cd_M_init : Cond.code y_M_init b_M_init 2 none ∈ wA := in_wA (List.mem_of_getElem? (i := 424) rfl) rfl
abbrev b_M_within : ByteArray := prog_7_method_2_code
def y_M_within : MethodName := ⟨R5, "within", "(III)Z"⟩
set_option maxRecDepth 100000 in
theorem cd_M_within : Cond.code y_M_within b_M_within 3 (some .boolean) ∈ wA := in_wA (List.mem_of_getElem? (i := 557) rfl) rfl
abbrev b_M_isException : ByteArray := prog_7_method_3_code
def y_M_isException : MethodName := ⟨R5, "isException", "(I)Z"⟩
set_option maxRecDepth 100000 in
theorem cd_M_isException : Cond.code y_M_isException b_M_isException 1 (some .boolean) ∈ wA := in_wA (List.mem_of_getElem? (i := 563) rfl) rfl
abbrev b_M_fits : ByteArray := prog_7_method_4_code
def y_M_fits : MethodName := ⟨R5, "fits", "(III)Z"⟩
set_option maxRecDepth 100000 in
theorem cd_M_fits : Cond.code y_M_fits b_M_fits 3 (some .boolean) ∈ wA := in_wA (List.mem_of_getElem? (i := 560) rfl) rfl
abbrev b_M_advise : ByteArray := prog_7_method_5_code
def y_M_advise : MethodName := ⟨R5, "advise", "(IIIII)I"⟩
set_option maxRecDepth 100000 in
theorem cd_M_advise : Cond.code y_M_advise b_M_advise 6 (some .int) ∈ wA := in_wA (List.mem_of_getElem? (i := 554) rfl) rfl
abbrev b_M_find : ByteArray := prog_7_method_6_code
def y_M_find : MethodName := ⟨R5, "find", "(I)I"⟩
set_option maxRecDepth 100000 in
theorem cd_M_find : Cond.code y_M_find b_M_find 4 (some .int) ∈ wA := in_wA (List.mem_of_getElem? (i := 571) rfl) rfl
abbrev b_M_when : ByteArray := prog_7_method_7_code
def y_M_when : MethodName := ⟨R5, "when", "(III)Z"⟩
set_option maxRecDepth 100000 in
theorem cd_M_when : Cond.code y_M_when b_M_when 5 (some .boolean) ∈ wA := in_wA (List.mem_of_getElem? (i := 567) rfl) rfl
abbrev b_M_reorder : ByteArray := prog_7_method_8_code
def y_M_reorder : MethodName := ⟨R5, "reorder", "(II)Z"⟩
set_option maxRecDepth 100000 in
theorem cd_M_reorder : Cond.code y_M_reorder b_M_reorder 4 (some .boolean) ∈ wA := in_wA (List.mem_of_getElem? (i := 575) rfl) rfl
abbrev b_M_remove : ByteArray := prog_7_method_9_code
def y_M_remove : MethodName := ⟨R5, "remove", "(I)Z"⟩
set_option maxRecDepth 100000 in
theorem cd_M_remove : Cond.code y_M_remove b_M_remove 4 (some .boolean) ∈ wA := in_wA (List.mem_of_getElem? (i := 579) rfl) rfl
abbrev b_M_freeze : ByteArray := prog_7_method_10_code
def y_M_freeze : MethodName := ⟨R5, "freeze", "(Z)V"⟩
set_option maxRecDepth 100000 in
theorem cd_M_freeze : Cond.code y_M_freeze b_M_freeze 2 none ∈ wA := in_wA (List.mem_of_getElem? (i := 583) rfl) rfl
abbrev b_M_linked : ByteArray := prog_7_method_11_code
def y_M_linked : MethodName := ⟨R5, "linked", "(II)I"⟩
set_option maxRecDepth 100000 in
theorem cd_M_linked : Cond.code y_M_linked b_M_linked 7 (some .int) ∈ wA := in_wA (List.mem_of_getElem? (i := 591) rfl) rfl
abbrev b_M_chain : ByteArray := prog_7_method_12_code
def y_M_chain : MethodName := ⟨R5, "chain", "(II)I"⟩
set_option maxRecDepth 100000 in
theorem cd_M_chain : Cond.code y_M_chain b_M_chain 4 (some .int) ∈ wA := in_wA (List.mem_of_getElem? (i := 587) rfl) rfl
abbrev b_M_isCell : ByteArray := prog_7_method_13_code
def y_M_isCell : MethodName := ⟨R5, "isCell", "(II)Z"⟩
set_option maxRecDepth 100000 in
theorem cd_M_isCell : Cond.code y_M_isCell b_M_isCell 2 (some .boolean) ∈ wA := in_wA (List.mem_of_getElem? (i := 598) rfl) rfl
abbrev b_M_plan : ByteArray := prog_7_method_14_code
def y_M_plan : MethodName := ⟨R5, "plan", "(IIII)Z"⟩
set_option maxRecDepth 100000 in
theorem cd_M_plan : Cond.code y_M_plan b_M_plan 5 (some .boolean) ∈ wA := in_wA (List.mem_of_getElem? (i := 595) rfl) rfl
abbrev b_M_fail : ByteArray := prog_7_method_15_code
def y_M_fail : MethodName := ⟨R5, "fail", "(IIII)Z"⟩
set_option maxRecDepth 100000 in
theorem cd_M_fail : Cond.code y_M_fail b_M_fail 5 (some .boolean) ∈ wA := in_wA (List.mem_of_getElem? (i := 602) rfl) rfl
abbrev b_M_calls : ByteArray := prog_7_method_16_code
def y_M_calls : MethodName := ⟨R5, "calls", "(III)Z"⟩
set_option maxRecDepth 100000 in
theorem cd_M_calls : Cond.code y_M_calls b_M_calls 4 (some .boolean) ∈ wA := in_wA (List.mem_of_getElem? (i := 606) rfl) rfl
abbrev b_M_source : ByteArray := prog_7_method_17_code
def y_M_source : MethodName := ⟨R5, "source", "(I)Z"⟩
set_option maxRecDepth 100000 in
theorem cd_M_source : Cond.code y_M_source b_M_source 2 (some .boolean) ∈ wA := in_wA (List.mem_of_getElem? (i := 610) rfl) rfl
abbrev b_M_note : ByteArray := prog_7_method_18_code
def y_M_note : MethodName := ⟨R5, "note", "(II)V"⟩
set_option maxRecDepth 100000 in
theorem cd_M_note : Cond.code y_M_note b_M_note 3 none ∈ wA := in_wA (List.mem_of_getElem? (i := 642) rfl) rfl
abbrev b_M_isOne : ByteArray := prog_7_method_19_code
def y_M_isOne : MethodName := ⟨R5, "isOne", "(II)Z"⟩
set_option maxRecDepth 100000 in
theorem cd_M_isOne : Cond.code y_M_isOne b_M_isOne 3 (some .boolean) ∈ wA := in_wA (List.mem_of_getElem? (i := 653) rfl) rfl
abbrev b_M_go : ByteArray := prog_7_method_20_code
def y_M_go : MethodName := ⟨R5, "go", "(II)V"⟩
set_option maxRecDepth 100000 in
theorem cd_M_go : Cond.code y_M_go b_M_go 3 none ∈ wA := in_wA (List.mem_of_getElem? (i := 630) rfl) rfl
abbrev b_M_comes : ByteArray := prog_7_method_21_code
def y_M_comes : MethodName := ⟨R5, "comes", "(ZI)V"⟩
set_option maxRecDepth 100000 in
theorem cd_M_comes : Cond.code y_M_comes b_M_comes 3 none ∈ wA := in_wA (List.mem_of_getElem? (i := 622) rfl) rfl
abbrev b_M_await : ByteArray := prog_7_method_22_code
def y_M_await : MethodName := ⟨R5, "await", "(II)V"⟩
set_option maxRecDepth 100000 in
theorem cd_M_await : Cond.code y_M_await b_M_await 3 none ∈ wA := in_wA (List.mem_of_getElem? (i := 626) rfl) rfl
abbrev b_M_enter : ByteArray := prog_7_method_23_code
def y_M_enter : MethodName := ⟨R5, "enter", "(II)V"⟩
set_option maxRecDepth 100000 in
theorem cd_M_enter : Cond.code y_M_enter b_M_enter 3 none ∈ wA := in_wA (List.mem_of_getElem? (i := 618) rfl) rfl
abbrev b_M_work : ByteArray := prog_7_method_24_code
def y_M_work : MethodName := ⟨R5, "work", "()V"⟩
set_option maxRecDepth 100000 in
theorem cd_M_work : Cond.code y_M_work b_M_work 2 none ∈ wA := in_wA (List.mem_of_getElem? (i := 638) rfl) rfl
abbrev b_M_step : ByteArray := prog_7_method_25_code
def y_M_step : MethodName := ⟨R5, "step", "()V"⟩
set_option maxRecDepth 100000 in
theorem cd_M_step : Cond.code y_M_step b_M_step 2 none ∈ wA := in_wA (List.mem_of_getElem? (i := 634) rfl) rfl
abbrev b_M_back : ByteArray := prog_7_method_26_code
def y_M_back : MethodName := ⟨R5, "back", "()V"⟩
set_option maxRecDepth 100000 in
theorem cd_M_back : Cond.code y_M_back b_M_back 3 none ∈ wA := in_wA (List.mem_of_getElem? (i := 646) rfl) rfl
abbrev b_M_twice : ByteArray := prog_7_method_27_code
def y_M_twice : MethodName := ⟨R5, "twice", "(I)V"⟩
set_option maxRecDepth 100000 in
theorem cd_M_twice : Cond.code y_M_twice b_M_twice 2 none ∈ wA := in_wA (List.mem_of_getElem? (i := 650) rfl) rfl
abbrev b_M_invoke : ByteArray := prog_7_method_28_code
def y_M_invoke : MethodName := ⟨R5, "invoke", "(II)I"⟩
set_option maxRecDepth 100000 in
theorem cd_M_invoke : Cond.code y_M_invoke b_M_invoke 3 (some .int) ∈ wA := in_wA (List.mem_of_getElem? (i := 614) rfl) rfl
abbrev b_M_result : ByteArray := prog_7_method_29_code
def y_M_result : MethodName := ⟨R5, "result", "()I"⟩
set_option maxRecDepth 100000 in
theorem cd_M_result : Cond.code y_M_result b_M_result 1 (some .int) ∈ wA := in_wA (List.mem_of_getElem? (i := 657) rfl) rfl
abbrev b_M_events : ByteArray := prog_7_method_30_code
def y_M_events : MethodName := ⟨R5, "events", "()I"⟩
set_option maxRecDepth 100000 in
theorem cd_M_events : Cond.code y_M_events b_M_events 1 (some .int) ∈ wA := in_wA (List.mem_of_getElem? (i := 661) rfl) rfl
abbrev b_M_who : ByteArray := prog_7_method_31_code
def y_M_who : MethodName := ⟨R5, "who", "(I)I"⟩
set_option maxRecDepth 100000 in
theorem cd_M_who : Cond.code y_M_who b_M_who 2 (some .int) ∈ wA := in_wA (List.mem_of_getElem? (i := 665) rfl) rfl
abbrev b_M_what : ByteArray := prog_7_method_32_code
def y_M_what : MethodName := ⟨R5, "what", "(I)I"⟩
set_option maxRecDepth 100000 in
theorem cd_M_what : Cond.code y_M_what b_M_what 2 (some .int) ∈ wA := in_wA (List.mem_of_getElem? (i := 669) rfl) rfl
abbrev b_M_asked : ByteArray := prog_7_method_33_code
def y_M_asked : MethodName := ⟨R5, "asked", "()I"⟩
set_option maxRecDepth 100000 in
theorem cd_M_asked : Cond.code y_M_asked b_M_asked 1 (some .int) ∈ wA := in_wA (List.mem_of_getElem? (i := 673) rfl) rfl
abbrev b_M_taken : ByteArray := prog_7_method_34_code
def y_M_taken : MethodName := ⟨R5, "taken", "()I"⟩
set_option maxRecDepth 100000 in
theorem cd_M_taken : Cond.code y_M_taken b_M_taken 1 (some .int) ∈ wA := in_wA (List.mem_of_getElem? (i := 677) rfl) rfl
end
section
section VVS
variable {p : Program} {l : Launch} {e : Env} {R : Room} {s : State} {m : MethodId} {args : Array Value} {below : List Frame} {meth : Method} {c : Code} {cells slots : Nat} {Q : State → Prop}
variable {cc : ByteArray} {own : String} {Ts : List Cond} {nL : Nat} {D : va_G} {cl : List vw_C} {tys : List (ClassId × FieldType)} {A : Nat → Prop} {H0 : Heap} {ws : va_W} {pc : Nat} {lv : List (Nat × Value)} {st : List Value}
/-- what a method's walk has at hand -/
def cx (p : Program) (s : State) (m : MethodId) (args : Array Value) (c : Code) (cc : ByteArray) (own : String) (Ts : List Cond) (nL : Nat) (D : va_G) (cl : List vw_C) (tys : List (ClassId × FieldType)) : Prop :=
  p.tables.exec = Jvm.exec ∧ c.code = cc ∧ c.maxLocals = nL ∧ s.vm.findClass own = some m.cls ∧ (∀ w ∈ Ts, w.before args s = true) ∧ va_K D cl tys s
/-- from pc, with the locals lv, the stack st and the world ws, the machine comes to Q -/
def VV (p : Program) (l : Launch) (e : Env) (R : Room) (s : State) (m : MethodId) (args : Array Value) (below : List Frame) (meth : Method) (c : Code) (cells slots : Nat) (Q : State → Prop) (nL : Nat) (D : va_G) (cl : List vw_C) (A : Nat → Prop) (H0 : Heap) (ws : va_W) (pc : Nat) (lv : List (Nat × Value)) (st : List Value) : Prop :=
  ∀ (H : Heap) (locs : List Loc) (ls : Array Slot), va_P D cl ws H → va_D A ws → va_S A H0 H locs → lv_has ls nL lv → W p l e R s m args below meth c H locs cells slots Q (F0 m pc ls st)
def lvq : List (Nat × Value) → Nat → Option Value
  | [], _ => none
  | q :: r, i => if q.1 = i then some q.2 else lvq r i
theorem lvq_mem : ∀ {lv : List (Nat × Value)} {i : Nat} {v : Value}, lvq lv i = some v → (i, v) ∈ lv
  | [], _, _, h => by cases h
  | q :: r, i, v, h => by
    unfold lvq at h
    split at h
    · rename_i hq
      cases h
      subst hq
      exact List.mem_cons_self
    · exact List.mem_cons_of_mem _ (lvq_mem h)
theorem lvq_at {ls : Array Slot} {i : Nat} {v : Value} (h : lv_has ls nL lv) (hq : lvq lv i = some v) : ls[i]? = some (.val v) := h.2.2 (i, v) (lvq_mem hq)
theorem lv_has.to {ls : Array Slot} {lv' : List (Nat × Value)} (h : lv_has ls nL lv) (hs : ∀ q ∈ lv', lvq lv q.1 = some q.2) : lv_has ls nL lv' := ⟨h.1, h.2.1, fun q hq => lvq_at h (hs q hq)⟩
/-- other words for the locals: each of the new list stands in the old one -/
theorem vv_lv (lv' : List (Nat × Value)) (hs : ∀ q ∈ lv', lvq lv q.1 = some q.2) (kk : VV p l e R s m args below meth c cells slots Q nL D cl A H0 ws pc lv' st) : VV p l e R s m args below meth c cells slots Q nL D cl A H0 ws pc lv st :=
  fun H locs ls hP hD hS hl => kk H locs ls hP hD hS (hl.to hs)
theorem vv_pc {pc' : Nat} (h : pc = pc') (kk : VV p l e R s m args below meth c cells slots Q nL D cl A H0 ws pc' lv st) : VV p l e R s m args below meth c cells slots Q nL D cl A H0 ws pc lv st := h ▸ kk
theorem vv_ws {ws' : va_W} (h : ws = ws') (kk : VV p l e R s m args below meth c cells slots Q nL D cl A H0 ws' pc lv st) : VV p l e R s m args below meth c cells slots Q nL D cl A H0 ws pc lv st := h ▸ kk
theorem vv_st {st' : List Value} (h : st = st') (kk : VV p l e R s m args below meth c cells slots Q nL D cl A H0 ws pc lv st') : VV p l e R s m args below meth c cells slots Q nL D cl A H0 ws pc lv st := h ▸ kk

theorem vv_iconst (C : cx p s m args c cc own Ts nL D cl tys) {n : Int} (v : Int32) (hdg : decode cc pc = .ok (.iconst n, 1)) (hv : Int32.ofInt n = v) (kk : VV p l e R s m args below meth c cells slots Q nL D cl A H0 ws (pc + 1) lv (.int v :: st)) : VV p l e R s m args below meth c cells slots Q nL D cl A H0 ws pc lv st :=
  fun H locs ls hP hD hS hl => lv_iconst C.1 C.2.1 hdg hv (kk H locs ls hP hD hS hl)
theorem vv_bipush (C : cx p s m args c cc own Ts nL D cl tys) {n : Int} (v : Int32) (hdg : decode cc pc = .ok (.bipush n, 2)) (hv : (Int8.ofInt n).toInt32 = v) (kk : VV p l e R s m args below meth c cells slots Q nL D cl A H0 ws (pc + 2) lv (.int v :: st)) : VV p l e R s m args below meth c cells slots Q nL D cl A H0 ws pc lv st :=
  fun H locs ls hP hD hS hl => lv_bipush C.1 C.2.1 hdg hv (kk H locs ls hP hD hS hl)
theorem vv_sipush (C : cx p s m args c cc own Ts nL D cl tys) {n : Int} (v : Int32) (hdg : decode cc pc = .ok (.sipush n, 3)) (hv : (Int16.ofInt n).toInt32 = v) (kk : VV p l e R s m args below meth c cells slots Q nL D cl A H0 ws (pc + 3) lv (.int v :: st)) : VV p l e R s m args below meth c cells slots Q nL D cl A H0 ws pc lv st :=
  fun H locs ls hP hD hS hl => lv_sipush C.1 C.2.1 hdg hv (kk H locs ls hP hD hS hl)
theorem vv_iload_n (C : cx p s m args c cc own Ts nL D cl tys) {k : Fin 4} {x : Int32} (hdg : decode cc pc = .ok (.iload_n k, 1)) (hq : lvq lv (k : Nat) = some (.int x)) (kk : VV p l e R s m args below meth c cells slots Q nL D cl A H0 ws (pc + 1) lv (.int x :: st)) : VV p l e R s m args below meth c cells slots Q nL D cl A H0 ws pc lv st :=
  fun H locs ls hP hD hS hl => lv_iload_n C.1 C.2.1 hdg rfl (lvq_at hl hq) (kk H locs ls hP hD hS hl)
theorem vv_iload (C : cx p s m args c cc own Ts nL D cl tys) {i : Nat} {x : Int32} (hdg : decode cc pc = .ok (.iload i, 2)) (hq : lvq lv i = some (.int x)) (kk : VV p l e R s m args below meth c cells slots Q nL D cl A H0 ws (pc + 2) lv (.int x :: st)) : VV p l e R s m args below meth c cells slots Q nL D cl A H0 ws pc lv st :=
  fun H locs ls hP hD hS hl => lv_iload C.1 C.2.1 hdg (lvq_at hl hq) (kk H locs ls hP hD hS hl)
theorem vv_istore_n (C : cx p s m args c cc own Ts nL D cl tys) {k : Fin 4} {i : Nat} {x : Int32} {lv' : List (Nat × Value)} (hdg : decode cc pc = .ok (.istore_n k, 1)) (hi : (k : Nat) = i) (hn : i < nL) (hl' : (i, Value.int x) :: lv.filter (fun q => !(q.1 == i) && !(q.1 + 1 == i && q.2.category == 2)) = lv') (kk : VV p l e R s m args below meth c cells slots Q nL D cl A H0 ws (pc + 1) lv' st) : VV p l e R s m args below meth c cells slots Q nL D cl A H0 ws pc lv (.int x :: st) :=
  fun H locs ls hP hD hS hl => lv_istore_n C.1 C.2.1 hdg hi hl hn hl' (fun ls' h' => kk H locs ls' hP hD hS h')
theorem vv_istore (C : cx p s m args c cc own Ts nL D cl tys) {i : Nat} {x : Int32} {lv' : List (Nat × Value)} (hdg : decode cc pc = .ok (.istore i, 2)) (hn : i < nL) (hl' : (i, Value.int x) :: lv.filter (fun q => !(q.1 == i) && !(q.1 + 1 == i && q.2.category == 2)) = lv') (kk : VV p l e R s m args below meth c cells slots Q nL D cl A H0 ws (pc + 2) lv' st) : VV p l e R s m args below meth c cells slots Q nL D cl A H0 ws pc lv (.int x :: st) :=
  fun H locs ls hP hD hS hl => lv_istore C.1 C.2.1 hdg hl hn hl' (fun ls' h' => kk H locs ls' hP hD hS h')
theorem vv_aload_n (C : cx p s m args c cc own Ts nL D cl tys) {k : Fin 4} {x : Nat} (hdg : decode cc pc = .ok (.aload_n k, 1)) (hq : lvq lv (k : Nat) = some (.ref x)) (kk : VV p l e R s m args below meth c cells slots Q nL D cl A H0 ws (pc + 1) lv (.ref x :: st)) : VV p l e R s m args below meth c cells slots Q nL D cl A H0 ws pc lv st :=
  fun H locs ls hP hD hS hl => lv_aload_n C.1 C.2.1 hdg rfl (lvq_at hl hq) (kk H locs ls hP hD hS hl)
theorem vv_aload (C : cx p s m args c cc own Ts nL D cl tys) {i : Nat} {x : Nat} (hdg : decode cc pc = .ok (.aload i, 2)) (hq : lvq lv i = some (.ref x)) (kk : VV p l e R s m args below meth c cells slots Q nL D cl A H0 ws (pc + 2) lv (.ref x :: st)) : VV p l e R s m args below meth c cells slots Q nL D cl A H0 ws pc lv st :=
  fun H locs ls hP hD hS hl => lv_aload C.1 C.2.1 hdg (lvq_at hl hq) (kk H locs ls hP hD hS hl)
theorem vv_astore_n (C : cx p s m args c cc own Ts nL D cl tys) {k : Fin 4} {i : Nat} {x : Nat} {lv' : List (Nat × Value)} (hdg : decode cc pc = .ok (.astore_n k, 1)) (hi : (k : Nat) = i) (hn : i < nL) (hl' : (i, Value.ref x) :: lv.filter (fun q => !(q.1 == i) && !(q.1 + 1 == i && q.2.category == 2)) = lv') (kk : VV p l e R s m args below meth c cells slots Q nL D cl A H0 ws (pc + 1) lv' st) : VV p l e R s m args below meth c cells slots Q nL D cl A H0 ws pc lv (.ref x :: st) :=
  fun H locs ls hP hD hS hl => lv_astore_n C.1 C.2.1 hdg hi hl hn hl' (fun ls' h' => kk H locs ls' hP hD hS h')
theorem vv_astore (C : cx p s m args c cc own Ts nL D cl tys) {i : Nat} {x : Nat} {lv' : List (Nat × Value)} (hdg : decode cc pc = .ok (.astore i, 2)) (hn : i < nL) (hl' : (i, Value.ref x) :: lv.filter (fun q => !(q.1 == i) && !(q.1 + 1 == i && q.2.category == 2)) = lv') (kk : VV p l e R s m args below meth c cells slots Q nL D cl A H0 ws (pc + 2) lv' st) : VV p l e R s m args below meth c cells slots Q nL D cl A H0 ws pc lv (.ref x :: st) :=
  fun H locs ls hP hD hS hl => lv_astore C.1 C.2.1 hdg hl hn hl' (fun ls' h' => kk H locs ls' hP hD hS h')
theorem vv_iinc (C : cx p s m args c cc own Ts nL D cl tys) {i j : Nat} {n : Int} {x v : Int32} {lv' : List (Nat × Value)} (hdg : decode cc pc = .ok (.iinc i n, 3)) (hk : lv[j]? = some (i, .int x)) (hv : x + Int32.ofInt n = v) (hn : i < nL) (hl' : (i, Value.int v) :: lv.filter (fun q => !(q.1 == i) && !(q.1 + 1 == i && q.2.category == 2)) = lv') (kk : VV p l e R s m args below meth c cells slots Q nL D cl A H0 ws (pc + 3) lv' st) : VV p l e R s m args below meth c cells slots Q nL D cl A H0 ws pc lv st :=
  fun H locs ls hP hD hS hl => lv_iinc C.1 C.2.1 hdg hl hk hv hn hl' (fun ls' h' => kk H locs ls' hP hD hS h')
theorem vv_iadd (C : cx p s m args c cc own Ts nL D cl tys) {x y : Int32} (hdg : decode cc pc = .ok (.iadd, 1)) (kk : VV p l e R s m args below meth c cells slots Q nL D cl A H0 ws (pc + 1) lv (.int (x + y) :: st)) : VV p l e R s m args below meth c cells slots Q nL D cl A H0 ws pc lv (.int y :: .int x :: st) :=
  fun H locs ls hP hD hS hl => lv_iadd C.1 C.2.1 hdg (kk H locs ls hP hD hS hl)
theorem vv_isub (C : cx p s m args c cc own Ts nL D cl tys) {x y : Int32} (hdg : decode cc pc = .ok (.isub, 1)) (kk : VV p l e R s m args below meth c cells slots Q nL D cl A H0 ws (pc + 1) lv (.int (x - y) :: st)) : VV p l e R s m args below meth c cells slots Q nL D cl A H0 ws pc lv (.int y :: .int x :: st) :=
  fun H locs ls hP hD hS hl => lv_isub C.1 C.2.1 hdg (kk H locs ls hP hD hS hl)
theorem vv_imul (C : cx p s m args c cc own Ts nL D cl tys) {x y : Int32} (hdg : decode cc pc = .ok (.imul, 1)) (kk : VV p l e R s m args below meth c cells slots Q nL D cl A H0 ws (pc + 1) lv (.int (x * y) :: st)) : VV p l e R s m args below meth c cells slots Q nL D cl A H0 ws pc lv (.int y :: .int x :: st) :=
  fun H locs ls hP hD hS hl => lv_imul C.1 C.2.1 hdg (kk H locs ls hP hD hS hl)
theorem vv_iand (C : cx p s m args c cc own Ts nL D cl tys) {x y : Int32} (hdg : decode cc pc = .ok (.iand, 1)) (kk : VV p l e R s m args below meth c cells slots Q nL D cl A H0 ws (pc + 1) lv (.int (x &&& y) :: st)) : VV p l e R s m args below meth c cells slots Q nL D cl A H0 ws pc lv (.int y :: .int x :: st) :=
  fun H locs ls hP hD hS hl => lv_iand C.1 C.2.1 hdg (kk H locs ls hP hD hS hl)
theorem vv_ishl (C : cx p s m args c cc own Ts nL D cl tys) {x y : Int32} (hdg : decode cc pc = .ok (.ishl, 1)) (kk : VV p l e R s m args below meth c cells slots Q nL D cl A H0 ws (pc + 1) lv (.int (x <<< (y &&& 31)) :: st)) : VV p l e R s m args below meth c cells slots Q nL D cl A H0 ws pc lv (.int y :: .int x :: st) :=
  fun H locs ls hP hD hS hl => lv_ishl C.1 C.2.1 hdg (kk H locs ls hP hD hS hl)
theorem vv_ishr (C : cx p s m args c cc own Ts nL D cl tys) {x y : Int32} (hdg : decode cc pc = .ok (.ishr, 1)) (kk : VV p l e R s m args below meth c cells slots Q nL D cl A H0 ws (pc + 1) lv (.int (x >>> (y &&& 31)) :: st)) : VV p l e R s m args below meth c cells slots Q nL D cl A H0 ws pc lv (.int y :: .int x :: st) :=
  fun H locs ls hP hD hS hl => lv_ishr C.1 C.2.1 hdg (kk H locs ls hP hD hS hl)
theorem vv_idiv (C : cx p s m args c cc own Ts nL D cl tys) {x y : Int32} (hdg : decode cc pc = .ok (.idiv, 1)) (hne : ¬ y = 0) (kk : VV p l e R s m args below meth c cells slots Q nL D cl A H0 ws (pc + 1) lv (.int (x / y) :: st)) : VV p l e R s m args below meth c cells slots Q nL D cl A H0 ws pc lv (.int y :: .int x :: st) :=
  fun H locs ls hP hD hS hl => lv_idiv C.1 C.2.1 hdg hne (kk H locs ls hP hD hS hl)
theorem vv_dup (C : cx p s m args c cc own Ts nL D cl tys) {va : Value} (hdg : decode cc pc = .ok (.dup, 1)) (hva : va.category = 1) (kk : VV p l e R s m args below meth c cells slots Q nL D cl A H0 ws (pc + 1) lv (va :: va :: st)) : VV p l e R s m args below meth c cells slots Q nL D cl A H0 ws pc lv (va :: st) :=
  fun H locs ls hP hD hS hl => lv_dup C.1 C.2.1 hdg hva (kk H locs ls hP hD hS hl)
theorem vv_pop (C : cx p s m args c cc own Ts nL D cl tys) {va : Value} (hdg : decode cc pc = .ok (.pop, 1)) (hva : va.category = 1) (kk : VV p l e R s m args below meth c cells slots Q nL D cl A H0 ws (pc + 1) lv st) : VV p l e R s m args below meth c cells slots Q nL D cl A H0 ws pc lv (va :: st) :=
  fun H locs ls hP hD hS hl => lv_pop C.1 C.2.1 hdg hva (kk H locs ls hP hD hS hl)
theorem vv_goto (C : cx p s m args c cc own Ts nL D cl tys) {off : Int} (tgt : Nat) (hdg : decode cc pc = .ok (.goto off, 3)) (ht : (pc : Int) + off = (tgt : Int)) (kk : VV p l e R s m args below meth c cells slots Q nL D cl A H0 ws tgt lv st) : VV p l e R s m args below meth c cells slots Q nL D cl A H0 ws pc lv st :=
  fun H locs ls hP hD hS hl => lv_goto C.1 C.2.1 hdg ht (kk H locs ls hP hD hS hl)
theorem vv_if_eq (C : cx p s m args c cc own Ts nL D cl tys) {x : Int32} {off : Int} (tgt : Nat) (hdg : decode cc pc = .ok (.ifCond .eq off, 3)) (ht : (pc : Int) + off = (tgt : Int)) (kt : x = 0 → VV p l e R s m args below meth c cells slots Q nL D cl A H0 ws tgt lv st) (kf : ¬ x = 0 → VV p l e R s m args below meth c cells slots Q nL D cl A H0 ws (pc + 3) lv st) : VV p l e R s m args below meth c cells slots Q nL D cl A H0 ws pc lv (.int x :: st) :=
  fun H locs ls hP hD hS hl => lv_if_eq C.1 C.2.1 hdg ht (fun hc => kt hc H locs ls hP hD hS hl) (fun hc => kf hc H locs ls hP hD hS hl)
theorem vv_icmp_eq (C : cx p s m args c cc own Ts nL D cl tys) {x y : Int32} {off : Int} (tgt : Nat) (hdg : decode cc pc = .ok (.if_icmp .eq off, 3)) (ht : (pc : Int) + off = (tgt : Int)) (kt : x = y → VV p l e R s m args below meth c cells slots Q nL D cl A H0 ws tgt lv st) (kf : ¬ x = y → VV p l e R s m args below meth c cells slots Q nL D cl A H0 ws (pc + 3) lv st) : VV p l e R s m args below meth c cells slots Q nL D cl A H0 ws pc lv (.int y :: .int x :: st) :=
  fun H locs ls hP hD hS hl => lv_icmp_eq C.1 C.2.1 hdg ht (fun hc => kt hc H locs ls hP hD hS hl) (fun hc => kf hc H locs ls hP hD hS hl)
theorem vv_if_ne (C : cx p s m args c cc own Ts nL D cl tys) {x : Int32} {off : Int} (tgt : Nat) (hdg : decode cc pc = .ok (.ifCond .ne off, 3)) (ht : (pc : Int) + off = (tgt : Int)) (kt : ¬ x = 0 → VV p l e R s m args below meth c cells slots Q nL D cl A H0 ws tgt lv st) (kf : x = 0 → VV p l e R s m args below meth c cells slots Q nL D cl A H0 ws (pc + 3) lv st) : VV p l e R s m args below meth c cells slots Q nL D cl A H0 ws pc lv (.int x :: st) :=
  fun H locs ls hP hD hS hl => lv_if_ne C.1 C.2.1 hdg ht (fun hc => kt hc H locs ls hP hD hS hl) (fun hc => kf hc H locs ls hP hD hS hl)
theorem vv_icmp_ne (C : cx p s m args c cc own Ts nL D cl tys) {x y : Int32} {off : Int} (tgt : Nat) (hdg : decode cc pc = .ok (.if_icmp .ne off, 3)) (ht : (pc : Int) + off = (tgt : Int)) (kt : ¬ x = y → VV p l e R s m args below meth c cells slots Q nL D cl A H0 ws tgt lv st) (kf : x = y → VV p l e R s m args below meth c cells slots Q nL D cl A H0 ws (pc + 3) lv st) : VV p l e R s m args below meth c cells slots Q nL D cl A H0 ws pc lv (.int y :: .int x :: st) :=
  fun H locs ls hP hD hS hl => lv_icmp_ne C.1 C.2.1 hdg ht (fun hc => kt hc H locs ls hP hD hS hl) (fun hc => kf hc H locs ls hP hD hS hl)
theorem vv_if_lt (C : cx p s m args c cc own Ts nL D cl tys) {x : Int32} {off : Int} (tgt : Nat) (hdg : decode cc pc = .ok (.ifCond .lt off, 3)) (ht : (pc : Int) + off = (tgt : Int)) (kt : x < 0 → VV p l e R s m args below meth c cells slots Q nL D cl A H0 ws tgt lv st) (kf : ¬ x < 0 → VV p l e R s m args below meth c cells slots Q nL D cl A H0 ws (pc + 3) lv st) : VV p l e R s m args below meth c cells slots Q nL D cl A H0 ws pc lv (.int x :: st) :=
  fun H locs ls hP hD hS hl => lv_if_lt C.1 C.2.1 hdg ht (fun hc => kt hc H locs ls hP hD hS hl) (fun hc => kf hc H locs ls hP hD hS hl)
theorem vv_icmp_lt (C : cx p s m args c cc own Ts nL D cl tys) {x y : Int32} {off : Int} (tgt : Nat) (hdg : decode cc pc = .ok (.if_icmp .lt off, 3)) (ht : (pc : Int) + off = (tgt : Int)) (kt : x < y → VV p l e R s m args below meth c cells slots Q nL D cl A H0 ws tgt lv st) (kf : ¬ x < y → VV p l e R s m args below meth c cells slots Q nL D cl A H0 ws (pc + 3) lv st) : VV p l e R s m args below meth c cells slots Q nL D cl A H0 ws pc lv (.int y :: .int x :: st) :=
  fun H locs ls hP hD hS hl => lv_icmp_lt C.1 C.2.1 hdg ht (fun hc => kt hc H locs ls hP hD hS hl) (fun hc => kf hc H locs ls hP hD hS hl)
theorem vv_if_ge (C : cx p s m args c cc own Ts nL D cl tys) {x : Int32} {off : Int} (tgt : Nat) (hdg : decode cc pc = .ok (.ifCond .ge off, 3)) (ht : (pc : Int) + off = (tgt : Int)) (kt : 0 ≤ x → VV p l e R s m args below meth c cells slots Q nL D cl A H0 ws tgt lv st) (kf : ¬ 0 ≤ x → VV p l e R s m args below meth c cells slots Q nL D cl A H0 ws (pc + 3) lv st) : VV p l e R s m args below meth c cells slots Q nL D cl A H0 ws pc lv (.int x :: st) :=
  fun H locs ls hP hD hS hl => lv_if_ge C.1 C.2.1 hdg ht (fun hc => kt hc H locs ls hP hD hS hl) (fun hc => kf hc H locs ls hP hD hS hl)
theorem vv_icmp_ge (C : cx p s m args c cc own Ts nL D cl tys) {x y : Int32} {off : Int} (tgt : Nat) (hdg : decode cc pc = .ok (.if_icmp .ge off, 3)) (ht : (pc : Int) + off = (tgt : Int)) (kt : y ≤ x → VV p l e R s m args below meth c cells slots Q nL D cl A H0 ws tgt lv st) (kf : ¬ y ≤ x → VV p l e R s m args below meth c cells slots Q nL D cl A H0 ws (pc + 3) lv st) : VV p l e R s m args below meth c cells slots Q nL D cl A H0 ws pc lv (.int y :: .int x :: st) :=
  fun H locs ls hP hD hS hl => lv_icmp_ge C.1 C.2.1 hdg ht (fun hc => kt hc H locs ls hP hD hS hl) (fun hc => kf hc H locs ls hP hD hS hl)
theorem vv_if_gt (C : cx p s m args c cc own Ts nL D cl tys) {x : Int32} {off : Int} (tgt : Nat) (hdg : decode cc pc = .ok (.ifCond .gt off, 3)) (ht : (pc : Int) + off = (tgt : Int)) (kt : 0 < x → VV p l e R s m args below meth c cells slots Q nL D cl A H0 ws tgt lv st) (kf : ¬ 0 < x → VV p l e R s m args below meth c cells slots Q nL D cl A H0 ws (pc + 3) lv st) : VV p l e R s m args below meth c cells slots Q nL D cl A H0 ws pc lv (.int x :: st) :=
  fun H locs ls hP hD hS hl => lv_if_gt C.1 C.2.1 hdg ht (fun hc => kt hc H locs ls hP hD hS hl) (fun hc => kf hc H locs ls hP hD hS hl)
theorem vv_icmp_gt (C : cx p s m args c cc own Ts nL D cl tys) {x y : Int32} {off : Int} (tgt : Nat) (hdg : decode cc pc = .ok (.if_icmp .gt off, 3)) (ht : (pc : Int) + off = (tgt : Int)) (kt : y < x → VV p l e R s m args below meth c cells slots Q nL D cl A H0 ws tgt lv st) (kf : ¬ y < x → VV p l e R s m args below meth c cells slots Q nL D cl A H0 ws (pc + 3) lv st) : VV p l e R s m args below meth c cells slots Q nL D cl A H0 ws pc lv (.int y :: .int x :: st) :=
  fun H locs ls hP hD hS hl => lv_icmp_gt C.1 C.2.1 hdg ht (fun hc => kt hc H locs ls hP hD hS hl) (fun hc => kf hc H locs ls hP hD hS hl)
theorem vv_if_le (C : cx p s m args c cc own Ts nL D cl tys) {x : Int32} {off : Int} (tgt : Nat) (hdg : decode cc pc = .ok (.ifCond .le off, 3)) (ht : (pc : Int) + off = (tgt : Int)) (kt : x ≤ 0 → VV p l e R s m args below meth c cells slots Q nL D cl A H0 ws tgt lv st) (kf : ¬ x ≤ 0 → VV p l e R s m args below meth c cells slots Q nL D cl A H0 ws (pc + 3) lv st) : VV p l e R s m args below meth c cells slots Q nL D cl A H0 ws pc lv (.int x :: st) :=
  fun H locs ls hP hD hS hl => lv_if_le C.1 C.2.1 hdg ht (fun hc => kt hc H locs ls hP hD hS hl) (fun hc => kf hc H locs ls hP hD hS hl)
theorem vv_icmp_le (C : cx p s m args c cc own Ts nL D cl tys) {x y : Int32} {off : Int} (tgt : Nat) (hdg : decode cc pc = .ok (.if_icmp .le off, 3)) (ht : (pc : Int) + off = (tgt : Int)) (kt : x ≤ y → VV p l e R s m args below meth c cells slots Q nL D cl A H0 ws tgt lv st) (kf : ¬ x ≤ y → VV p l e R s m args below meth c cells slots Q nL D cl A H0 ws (pc + 3) lv st) : VV p l e R s m args below meth c cells slots Q nL D cl A H0 ws pc lv (.int y :: .int x :: st) :=
  fun H locs ls hP hD hS hl => lv_icmp_le C.1 C.2.1 hdg ht (fun hc => kt hc H locs ls hP hD hS hl) (fun hc => kf hc H locs ls hP hD hS hl)
theorem vv_tableOut (C : cx p s m args c cc own Ts nL D cl tys) {dflt lo hi : Int} {offs : Array Int} {len : Nat} {x : Int32} (tgt : Nat) (hdg : decode cc pc = .ok (.tableswitch dflt lo hi offs, len)) (h : x.toInt < lo ∨ hi < x.toInt) (ht : (pc : Int) + dflt = (tgt : Int)) (kk : VV p l e R s m args below meth c cells slots Q nL D cl A H0 ws tgt lv st) : VV p l e R s m args below meth c cells slots Q nL D cl A H0 ws pc lv (.int x :: st) :=
  fun H locs ls hP hD hS hl => lv_tableOut C.1 C.2.1 hdg h ht (kk H locs ls hP hD hS hl)
theorem vv_tableIn (C : cx p s m args c cc own Ts nL D cl tys) {dflt lo hi : Int} {offs : Array Int} {len : Nat} {x : Int32} {off : Int} (tgt : Nat) (hdg : decode cc pc = .ok (.tableswitch dflt lo hi offs, len)) (h1 : ¬ x.toInt < lo) (h2 : ¬ hi < x.toInt) (ho : offs[(x.toInt - lo).toNat]? = some off) (ht : (pc : Int) + off = (tgt : Int)) (kk : VV p l e R s m args below meth c cells slots Q nL D cl A H0 ws tgt lv st) : VV p l e R s m args below meth c cells slots Q nL D cl A H0 ws pc lv (.int x :: st) :=
  fun H locs ls hP hD hS hl => lv_tableIn C.1 C.2.1 hdg h1 h2 ho ht (kk H locs ls hP hD hS hl)
theorem vv_lookup (C : cx p s m args c cc own Ts nL D cl tys) {dflt : Int} {ps : Array (Int × Int)} {len : Nat} {x : Int32} {off : Int} (tgt : Nat) (hdg : decode cc pc = .ok (.lookupswitch dflt ps, len)) (hp : (ps.toList.zip (ps.toList.drop 1)).all (fun (a, next) => a.1 < next.1) = true) (ho : Op.lookupswitch.offset ps.toList dflt x.toInt = off) (ht : (pc : Int) + off = (tgt : Int)) (kk : VV p l e R s m args below meth c cells slots Q nL D cl A H0 ws tgt lv st) : VV p l e R s m args below meth c cells slots Q nL D cl A H0 ws pc lv (.int x :: st) :=
  fun H locs ls hP hD hS hl => lv_lookup C.1 C.2.1 hdg hp ho ht (kk H locs ls hP hD hS hl)
theorem vv_topi {x : Int32} (kk : ∀ y : Int32, y = x → VV p l e R s m args below meth c cells slots Q nL D cl A H0 ws pc lv (.int y :: st)) : VV p l e R s m args below meth c cells slots Q nL D cl A H0 ws pc lv (.int x :: st) := kk x rfl
theorem vv_get (C : cx p s m args c cc own Ts nL D cl tys) {ref K : String} {T : u_T} {N ci index a : Nat} (hin : ∀ w ∈ u_ws K T N, w ∈ Ts) (q0 : Nat) {fs : List Value} (he : ws[q0]? = some (a, .inr (ci, fs))) (hc : cl[ci]? = some (K, T, N)) (k : Nat) (hk : k < N) (hlink : Cond.fieldLink own index ref (T k).2.1 (T k).2.2.1 ∈ Ts) (hsame : (T k).1 = ref) {v : Value} (hv : fs[k]? = some v) (hdg : decode cc pc = .ok (.getfield index, 3)) (kk : VV p l e R s m args below meth c cells slots Q nL D cl A H0 ws (pc + 3) lv (v :: st)) : VV p l e R s m args below meth c cells slots Q nL D cl A H0 ws pc lv (.ref a :: st) :=
  fun H locs ls hP hD hS hl => va_get C.1 C.2.1 C.2.2.2.2.1 hin C.2.2.2.1 C.2.2.2.2.2 hP q0 he hc k hk (C.2.2.2.2.1 _ hlink) (fun _ h => hsame ▸ h) hv hdg (kk H locs ls hP hD hS hl)
theorem vv_put (C : cx p s m args c cc own Ts nL D cl tys) {ref K : String} {T : u_T} {N ci index a : Nat} (hin : ∀ w ∈ u_ws K T N, w ∈ Ts) (ty0 : Nat → FieldType) (hty : ∀ k, k < N → parseFieldDescriptor (T k).2.2.1 = some (ty0 k)) (hnm : ∀ a, a < N → ∀ b, b < N → a ≠ b → (T a).2.1 ≠ (T b).2.1) (q0 : Nat) {fs : List Value} (he : ws[q0]? = some (a, .inr (ci, fs))) (hc : cl[ci]? = some (K, T, N)) (k : Nat) (hk : k < N) (hlink : Cond.fieldLink own index ref (T k).2.1 (T k).2.2.1 ∈ Ts) (hsame : (T k).1 = ref) (hfin : (T k).2.2.2 = false) {ty : FieldType} {v : Value} (hd : parseFieldDescriptor (T k).2.2.1 = some ty) (hn : narrow ty v = v) (hfit : fits ty v = true) (hlf : k < fs.length) {ws' : va_W} (hset : ws.set q0 (a, .inr (ci, fs.set k v)) = ws') (hdg : decode cc pc = .ok (.putfield index, 3)) (kk : VV p l e R s m args below meth c cells slots Q nL D cl A H0 ws' (pc + 3) lv st) : VV p l e R s m args below meth c cells slots Q nL D cl A H0 ws pc lv (v :: .ref a :: st) :=
  fun H locs ls hP hD hS hl => va_put C.1 C.2.1 C.2.2.2.2.1 hin ty0 hty hnm C.2.2.2.1 C.2.2.2.2.2 hP hD hS q0 he hc k hk (C.2.2.2.2.1 _ hlink) (fun _ h => hsame ▸ h) hfin hd hn hfit hlf hdg (fun H1 locs1 hP1 hD1 hS1 => kk H1 locs1 ls (hset ▸ hP1) (hset ▸ hD1) hS1 hl)
theorem vv_iald (C : cx p s m args c cc own Ts nL D cl tys) {a : Nat} (q0 t0 : Nat) {cA : ClassId} {n : Nat} {f : Nat → Int32} (ha : ws[q0]? = some (a, .inl (cA, n, .inl f))) (ht : tys[t0]? = some (cA, .int)) {i : Int32} (hin : vp_in i n) (hdg : decode cc pc = .ok (.iaload, 1)) (kk : VV p l e R s m args below meth c cells slots Q nL D cl A H0 ws (pc + 1) lv (.int (f i.toNatClampNeg) :: st)) : VV p l e R s m args below meth c cells slots Q nL D cl A H0 ws pc lv (.int i :: .ref a :: st) :=
  fun H locs ls hP hD hS hl => va_iald C.1 C.2.1 C.2.2.2.2.2 hP q0 t0 ha ht hin hdg (kk H locs ls hP hD hS hl)
theorem vv_zald (C : cx p s m args c cc own Ts nL D cl tys) {a : Nat} (q0 t0 : Nat) {cA : ClassId} {n : Nat} {f : Nat → Int32} (ha : ws[q0]? = some (a, .inl (cA, n, .inl f))) (ht : tys[t0]? = some (cA, .boolean)) {i : Int32} (hin : vp_in i n) (hdg : decode cc pc = .ok (.baload, 1)) (kk : VV p l e R s m args below meth c cells slots Q nL D cl A H0 ws (pc + 1) lv (.int (f i.toNatClampNeg) :: st)) : VV p l e R s m args below meth c cells slots Q nL D cl A H0 ws pc lv (.int i :: .ref a :: st) :=
  fun H locs ls hP hD hS hl => va_zald C.1 C.2.1 C.2.2.2.2.2 hP q0 t0 ha ht hin hdg (kk H locs ls hP hD hS hl)
theorem vv_iast (C : cx p s m args c cc own Ts nL D cl tys) {a : Nat} (q0 t0 : Nat) {cA : ClassId} {n : Nat} {f : Nat → Int32} (ha : ws[q0]? = some (a, .inl (cA, n, .inl f))) (ht : tys[t0]? = some (cA, .int)) {i x : Int32} (hin : vp_in i n) {ws' : va_W} (hset : ws.set q0 (a, .inl (cA, n, .inl (upd f i.toNatClampNeg x))) = ws') (hdg : decode cc pc = .ok (.iastore, 1)) (kk : VV p l e R s m args below meth c cells slots Q nL D cl A H0 ws' (pc + 1) lv st) : VV p l e R s m args below meth c cells slots Q nL D cl A H0 ws pc lv (.int x :: .int i :: .ref a :: st) :=
  fun H locs ls hP hD hS hl => va_iast C.1 C.2.1 C.2.2.2.2.2 hP hD hS q0 t0 ha ht hin hdg (fun H1 locs1 hP1 hD1 hS1 => kk H1 locs1 ls (hset ▸ hP1) (hset ▸ hD1) hS1 hl)
theorem vv_zast (C : cx p s m args c cc own Ts nL D cl tys) {a : Nat} (q0 t0 : Nat) {cA : ClassId} {n : Nat} {f : Nat → Int32} (ha : ws[q0]? = some (a, .inl (cA, n, .inl f))) (ht : tys[t0]? = some (cA, .boolean)) {i x : Int32} (hin : vp_in i n) {ws' : va_W} (hset : ws.set q0 (a, .inl (cA, n, .inl (upd f i.toNatClampNeg (vp_nar .boolean x)))) = ws') (hdg : decode cc pc = .ok (.bastore, 1)) (kk : VV p l e R s m args below meth c cells slots Q nL D cl A H0 ws' (pc + 1) lv st) : VV p l e R s m args below meth c cells slots Q nL D cl A H0 ws pc lv (.int x :: .int i :: .ref a :: st) :=
  fun H locs ls hP hD hS hl => va_zast C.1 C.2.1 C.2.2.2.2.2 hP hD hS q0 t0 ha ht hin hdg (fun H1 locs1 hP1 hD1 hS1 => kk H1 locs1 ls (hset ▸ hP1) (hset ▸ hD1) hS1 hl)
theorem vv_aldq (C : cx p s m args c cc own Ts nL D cl tys) {a : Nat} (q0 t0 : Nat) {cA : ClassId} {K : String} {n : Nat} {f : Nat → Option Nat} (ha : ws[q0]? = some (a, .inl (cA, n, .inr (.inr (.inr (.inr f)))))) (ht : tys[t0]? = some (cA, .object K)) {i : Int32} (hin : vp_in i n) {v : Nat} (hv : f i.toNatClampNeg = some v) (hdg : decode cc pc = .ok (.aaload, 1)) (kk : VV p l e R s m args below meth c cells slots Q nL D cl A H0 ws (pc + 1) lv (.ref v :: st)) : VV p l e R s m args below meth c cells slots Q nL D cl A H0 ws pc lv (.int i :: .ref a :: st) :=
  fun H locs ls hP hD hS hl => va_aldq C.1 C.2.1 C.2.2.2.2.2 hP q0 t0 ha ht hin hdg (by rw [hv]; exact kk H locs ls hP hD hS hl)
theorem vv_astq (C : cx p s m args c cc own Ts nL D cl tys) {a : Nat} (q0 t0 qk ci : Nat) {cA : ClassId} {r : vw_C} {n v : Nat} {vs : List Value} {f : Nat → Option Nat} (ha : ws[q0]? = some (a, .inl (cA, n, .inr (.inr (.inr (.inr f)))))) (ht : tys[t0]? = some (cA, .object r.1)) (hv : ws[qk]? = some (v, .inr (ci, vs))) (hc : cl[ci]? = some r) {i : Int32} (hin : vp_in i n) {ws' : va_W} (hset : ws.set q0 (a, .inl (cA, n, .inr (.inr (.inr (.inr (va_up f i.toNatClampNeg (some v))))))) = ws') (hdg : decode cc pc = .ok (.aastore, 1)) (kk : VV p l e R s m args below meth c cells slots Q nL D cl A H0 ws' (pc + 1) lv st) : VV p l e R s m args below meth c cells slots Q nL D cl A H0 ws pc lv (.ref v :: .int i :: .ref a :: st) :=
  fun H locs ls hP hD hS hl => va_astq C.1 C.2.1 C.2.2.2.2.2 hP hD hS q0 t0 qk ci ha ht hv hc hin hdg (fun H1 locs1 hP1 hD1 hS1 => kk H1 locs1 ls (hset ▸ hP1) (hset ▸ hD1) hS1 hl)
theorem vv_alen (C : cx p s m args c cc own Ts nL D cl tys) {a : Nat} (q0 t0 : Nat) {cA : ClassId} {x : vp_A} (ha : ws[q0]? = some (a, .inl (cA, x))) {ty : FieldType} (ht : tys[t0]? = some (cA, ty)) {v : Int32} (hv : Int32.ofNat x.1 = v) (hdg : decode cc pc = .ok (.arraylength, 1)) (kk : VV p l e R s m args below meth c cells slots Q nL D cl A H0 ws (pc + 1) lv (.int v :: st)) : VV p l e R s m args below meth c cells slots Q nL D cl A H0 ws pc lv (.ref a :: st) :=
  fun H locs ls hP hD hS hl => va_alen C.1 C.2.1 C.2.2.2.2.2 hP q0 t0 ha ht hv hdg (kk H locs ls hP hD hS hl)
end VVS
end
section
/-! a contract without new cells: from the world ws with the arguments av the method answers rv and leaves the world ws'; nothing outside G changes -/
def ctQ (D : va_G) (cl : List vw_C) (G : Nat → Prop) (rv : Option Value) (ws' : va_W) : Array Value → State → Outcome → State → Prop := fun _ st oc t => (oc = .returned rv ∧ va_P D cl ws' t.heap) ∧ va_F G st t
def ctP (D : va_G) (cl : List vw_C) (tys : List (ClassId × FieldType)) (G : Nat → Prop) (ws : va_W) (U : State) : Prop := va_P D cl ws U.heap ∧ va_K D cl tys U ∧ va_D G ws
def Ct (l : Launch) (y : MethodName) (wsC : List Cond) (rm : Room) (D : va_G) (cl : List vw_C) (tys : List (ClassId × FieldType)) (G : Nat → Prop) (av : List Value) (ws : va_W) (rv : Option Value) (ws' : va_W) : Prop :=
  Met l y wsC rm (va_Pc av (ctP D cl tys G ws)) (ctQ D cl G rv ws') 0 0 G
/-- the room of a method whose calls nest at most d deep -/
def rmD (d : Nat) : Room := { frames := d, cells := 0, slots := 0, locals := 40 * d }
theorem ctP_blind {D : va_G} {cl : List vw_C} {tys : List (ClassId × FieldType)} {G : Nat → Prop} {ws : va_W} {av : List Value} : FrameBlind (va_Pc av (ctP D cl tys G ws)) := by
  intro a U g mk q
  obtain ⟨q0, qP, qK, qD⟩ := q
  exact ⟨q0, qP, va_K.moved (u := U) (U := U.calling g mk a) (Vm.Alike.refl U.vm) qK, qD⟩
section CTS
variable {p : Program} {l : Launch} {e : Env} {R : Room} {s : State} {m : MethodId} {args : Array Value} {below : List Frame} {meth : Method} {c : Code} {cells slots : Nat} {Q : State → Prop}
variable {cc : ByteArray} {own : String} {Ts : List Cond} {nL : Nat} {D : va_G} {cl : List vw_C} {tys tys' : List (ClassId × FieldType)} {A G : Nat → Prop} {H0 : Heap} {ws ws' : va_W} {pc : Nat} {lv : List (Nat × Value)} {st : List Value}
theorem ct_of {y : MethodName} {bytes : ByteArray} {maxL : Nat} {ret : Option FieldType} {wsC : List Cond} {rm : Room} {av : List Value} {rv : Option Value} (hy : plainName y.cls = true) (hlen : (lg_sl av).length ≤ maxL)
    (body : ∀ (p : Program) (e : Env) (s : State) (m : MethodId) (args : Array Value) (below : List Frame) (meth : Method) (c : Code), cx p s m args c bytes y.cls wsC maxL D cl tys → meth.sig.returnType = ret → meth.locks = false →
      VV p l e rm s m args below meth c 0 0 (MQ below (ctQ D cl G rv ws') args s 0 0 G) maxL D cl G s.heap ws 0 (lv_args 0 av) []) : Ct l y (Cond.code y bytes maxL ret :: wsC) rm D cl tys G av ws rv ws' := by
  refine Met.ofW (cc := bytes) (maxL := maxL) (ret := ret) hy rfl ?_
  intro p e s m args below meth c s₁ B hml hv
  obtain ⟨rfl, hP, hK, hD⟩ := hv
  have hts := atoms_spec (ws := Cond.code y bytes maxL ret :: wsC) B.pre
  have hown : s.vm.findClass y.cls = some m.cls := findClass_of_methodNamed B.named
  rw [lg_entry_eq]
  exact body p e s m _ below meth c ⟨B.exec, B.bytes, hml, hown, fun w h => hts w (List.mem_cons_of_mem _ h), hK⟩ B.returns B.notSynchronized s.heap [] _ hP hD va_S.rf (lv_entry av hlen)
theorem vv_iret (C : cx p s m args c cc own Ts nL D cl tys) (hr : meth.sig.returnType = some .int) (hlocks : meth.locks = false) {v : Int32} {rv : Option Value} (hrv : rv = some (.int v)) (hws : ws = ws') (hdg : decode cc pc = .ok (.ireturn, 1)) :
    VV p l e R s m args below meth c 0 0 (MQ below (ctQ D cl G rv ws') args s 0 0 G) nL D cl G s.heap ws pc lv [.int v] :=
  fun H locs ls hP hD hS hl => W.iret C.1 C.2.1 hr (fun t ht hW => ⟨⟨by rw [hrv], by rw [ht, ← hws]; exact hP⟩, hS.F ht⟩) hS.2.2 hdg hlocks
theorem vv_zret (C : cx p s m args c cc own Ts nL D cl tys) (hr : meth.sig.returnType = some .boolean) (hlocks : meth.locks = false) {v : Int32} {rv : Option Value} (hn : narrow .boolean (.int v) = .int v) (hrv : rv = some (.int v)) (hws : ws = ws') (hdg : decode cc pc = .ok (.ireturn, 1)) :
    VV p l e R s m args below meth c 0 0 (MQ below (ctQ D cl G rv ws') args s 0 0 G) nL D cl G s.heap ws pc lv [.int v] :=
  fun H locs ls hP hD hS hl => W.zret C.1 C.2.1 hr hn (fun t ht hW => ⟨⟨by rw [hrv], by rw [ht, ← hws]; exact hP⟩, hS.F ht⟩) hS.2.2 hdg hlocks
theorem vv_vret (C : cx p s m args c cc own Ts nL D cl tys) (hr : meth.sig.returnType = none) (hlocks : meth.locks = false) {rv : Option Value} (hrv : rv = none) (hws : ws = ws') (hdg : decode cc pc = .ok (.return_, 1)) :
    VV p l e R s m args below meth c 0 0 (MQ below (ctQ D cl G rv ws') args s 0 0 G) nL D cl G s.heap ws pc lv [] :=
  fun H locs ls hP hD hS hl => W.vret C.1 C.2.1 hr (fun t ht hW => ⟨⟨by rw [hrv], by rw [ht, ← hws]; exact hP⟩, hS.F ht⟩) hS.2.2 hdg hlocks
theorem vv_aret (C : cx p s m args c cc own Ts nL D cl tys) {K : String} (hr : meth.sig.returnType = some (.object K)) (hlocks : meth.locks = false) {a : Nat} {rv : Option Value} (hrv : rv = some (.ref a)) (hws : ws = ws') (hdg : decode cc pc = .ok (.areturn, 1)) :
    VV p l e R s m args below meth c 0 0 (MQ below (ctQ D cl G rv ws') args s 0 0 G) nL D cl G s.heap ws pc lv [.ref a] :=
  fun H locs ls hP hD hS hl => W.aret C.1 C.2.1 hr (Or.inl ⟨K, rfl⟩) (Or.inr ⟨a, rfl⟩) (fun t ht hW => ⟨⟨by rw [hrv], by rw [ht, ← hws]; exact hP⟩, hS.F ht⟩) hS.2.2 hdg hlocks
/-- behind a call -/
theorem ct_go {rest st0 : List Value} {rv : Option Value} {H : Heap} {locs : List Loc} {ls : Array Slot} {a : Array Value}
    (hr : va_Run p l e R s m args below meth c H locs cells slots 0 0 (F0 m pc ls st0) rest (ctQ D cl G rv ws' a) G) (hS : va_S A H0 H locs) (hG : ∀ q, G q → A q)
    (kk : ∀ (H1 : Heap) (locs1 : List Loc), va_P D cl ws' H1 → va_S A H0 H1 locs1 → H.size ≤ H1.size → (∀ q : Nat, q < H.size → ¬ G q → H1[q]? = H[q]?) → W p l e R s m args below meth c H1 locs1 cells slots Q (F0 m (pc + 3) ls (rv.toList ++ rest))) :
    W p l e R s m args below meth c H locs cells slots Q (F0 m pc ls st0) := by
  intro T hT X
  obtain ⟨v, st₀, t, T', L, h0, X', hL, e1, e2, ⟨⟨hv, hp⟩, hz, hk⟩, st⟩ := hr T hT X
  cases hv
  rw [h0] at hz hk
  obtain ⟨t2, a1, b1⟩ := kk T'.heap (locs ++ L) (by rw [e1]; exact hp)
    ⟨Nat.le_trans hS.1 (by rw [e1]; exact hz), fun q h1 h2 => by rw [e1, hk q (Nat.lt_of_lt_of_le h1 hS.1) (fun z => h2 (hG q z))]; exact hS.2.1 q h1 h2, fun q hq => by
      rcases List.mem_append.mp hq with h | h
      · exact hS.2.2 q h
      · exact hG _ (hL q h)⟩ (by rw [e1]; exact hz) (fun q h1 h2 => by rw [e1]; exact hk q h1 h2) T' rfl X'
  exact ⟨t2, st t2 a1, b1⟩
/-- the words of a call of an instance method of the class K, out of the caller's words -/
def callVw (own : String) (index : Nat) (K : String) (y : MethodName) (bytes : ByteArray) (maxL : Nat) (ret : Option FieldType) (Ts wsC : List Cond) (n : Nat) : Prop :=
  GoodIn Ts (wsV own index K y (Cond.code y bytes maxL ret :: wsC)) ∧ y.cls = K ∧ y.cls ≠ "java/lang/invoke/MethodHandle" ∧ y.cls ≠ "java/lang/invoke/VarHandle" ∧ (parseMethodDescriptor y.desc).map (fun d => d.parameters.length) = some n
def callSw (own : String) (index : Nat) (y : MethodName) (bytes : ByteArray) (maxL : Nat) (ret : Option FieldType) (Ts wsC : List Cond) (n : Nat) : Prop :=
  GoodIn Ts (wsS own index y (Cond.code y bytes maxL ret :: wsC)) ∧ y.cls = own ∧ y.cls ≠ "java/lang/invoke/MethodHandle" ∧ y.cls ≠ "java/lang/invoke/VarHandle" ∧ (parseMethodDescriptor y.desc).map (fun d => d.parameters.length) = some n
def fitsIn (maxL : Nat) (rm R : Room) : Prop := rm.cells = 0 ∧ rm.slots = 0 ∧ rm.frames + 1 ≤ R.frames ∧ 8 + (maxL + 11) + rm.locals ≤ R.locals
theorem fitsIn_D {maxL d d' : Nat} (hm : maxL ≤ 21) (hd : d + 1 ≤ d') : fitsIn maxL (rmD d) (rmD d') := ⟨rfl, rfl, hd, by show 8 + (maxL + 11) + 40 * d ≤ 40 * d'; omega⟩
theorem vv_callV (C : cx p s m args c cc own Ts nL D cl tys) {index maxL n : Nat} {K : String} {y : MethodName} {bytes : ByteArray} {ret : Option FieldType} {wsC : List Cond} {rm : Room} {b : Nat} {As rest : List Value} {rv : Option Value}
    (hM : Ct l y (Cond.code y bytes maxL ret :: wsC) rm D cl tys G (.ref b :: As) ws rv ws') (cw : callVw own index K y bytes maxL ret Ts wsC n) (hn : As.length = n) (q0 : Nat) {ci N : Nat} {T : u_T} {fs : List Value} (he : ws[q0]? = some (b, .inr (ci, fs))) (hc : cl[ci]? = some (K, T, N))
    (hst : st = As.reverse ++ .ref b :: rest) (hW : (rest.map fun v => v.category).sum ≤ 8) (hR : fitsIn maxL rm R) (hcs : cells ≤ R.cells ∧ slots ≤ R.slots) (hdg : decode cc pc = .ok (.invokevirtual index, 3)) (hG : ∀ q, G q → A q) (hDG : va_D A ws → va_D G ws) (hDA : va_D A ws → va_D A ws')
    (kk : VV p l e R s m args below meth c cells slots Q nL D cl A H0 ws' (pc + 3) lv (rv.toList ++ rest)) : VV p l e R s m args below meth c cells slots Q nL D cl A H0 ws pc lv st := by
  intro H locs ls hP hD hS hl
  obtain ⟨hx, hb, hml, hown, hts, hK⟩ := C
  obtain ⟨hR0, hR1, hR2⟩ := hR
  refine ct_go (G := G) (rest := rest) (va_runV (n := n) (C := K) ⟨hx, hb, hml, hown, hts⟩ hM (cwV n hts cw.1 rfl hR0 hR1 cw.2 hR2) ⟨ctP_blind, va_recv hK hP hc he, fun U hU hW => ⟨rfl, by rw [hU]; exact hP, va_K.moved hW.alike hK, hDG hD⟩⟩ rfl hn hl.1 hst (lv_room hW) hdg ⟨by omega, by omega⟩) hS hG (fun H1 locs1 hP1 hS1 _ _ => kk H1 locs1 ls hP1 (hDA hD) hS1 hl)
theorem vv_callS (C : cx p s m args c cc own Ts nL D cl tys) {index maxL n : Nat} {y : MethodName} {bytes : ByteArray} {ret : Option FieldType} {wsC : List Cond} {rm : Room} {As rest : List Value} {rv : Option Value}
    (hM : Ct l y (Cond.code y bytes maxL ret :: wsC) rm D cl tys G As ws rv ws') (cw : callSw own index y bytes maxL ret Ts wsC n) (hn : As.length = n)
    (hst : st = As.reverse ++ rest) (hW : (rest.map fun v => v.category).sum ≤ 8) (hR : fitsIn maxL rm R) (hcs : cells ≤ R.cells ∧ slots ≤ R.slots) (hdg : decode cc pc = .ok (.invokestatic index, 3)) (hG : ∀ q, G q → A q) (hDG : va_D A ws → va_D G ws) (hDA : va_D A ws → va_D A ws')
    (kk : VV p l e R s m args below meth c cells slots Q nL D cl A H0 ws' (pc + 3) lv (rv.toList ++ rest)) : VV p l e R s m args below meth c cells slots Q nL D cl A H0 ws pc lv st := by
  intro H locs ls hP hD hS hl
  obtain ⟨hx, hb, hml, hown, hts, hK⟩ := C
  obtain ⟨hR0, hR1, hR2⟩ := hR
  refine ct_go (G := G) (rest := rest) (va_runS (n := n) ⟨hx, hb, hml, hown, hts⟩ hM (cwS n hts cw.1 rfl hR0 hR1 cw.2 hR2) ⟨ctP_blind, fun U hU hW => ⟨rfl, by rw [hU]; exact hP, va_K.moved hW.alike hK, hDG hD⟩⟩ rfl hn hl.1 hst (lv_room hW) hdg ⟨by omega, by omega⟩) hS hG (fun H1 locs1 hP1 hS1 _ _ => kk H1 locs1 ls hP1 (hDA hD) hS1 hl)
end CTS
end
section
/-! the class and the reference as functions of numbers. A state is f : Nat → Nat → Int32 (which field, which element; a single field at 0); of the class also which advisor stands at which place of the row -/
abbrev M2 : Type := Nat → Nat → Int32
def up2 (f : M2) (k i : Nat) (v : Int32) : M2 := fun k' => if k' = k then upd (f k) i v else f k'
def bI (b : Bool) : Int32 := if b = true then 1 else 0
abbrev ix (x : Int32) : Nat := x.toNatClampNeg
theorem bI_t {b : Bool} (h : ¬ bI b = 0) : b = true := by cases b <;> simp_all [bI]
theorem bI_f {b : Bool} (h : bI b = 0) : b = false := by cases b <;> simp_all [bI]
theorem bI_nar (b : Bool) : narrow .boolean (.int (bI b)) = .int (bI b) := by cases b <;> rfl
theorem bI_fit (b : Bool) : fits .boolean (.int (bI b)) = true := by cases b <;> rfl
theorem bI_vp (b : Bool) : vp_nar .boolean (bI b) = bI b := by cases b <;> rfl
/- the class. Numbers of its fields: 0 frozen 1 targetSource 2 nextInTurn 3 timesAsked 4 targetsTaken 5 value 6 there 7 nextNumber 8 length 9 methodAt 10 targetAt 11 noters 12 words; of an advisor: 13 number 14 kind 15 order 16 methods 17 a 18 b 19 hasRange 20 low 21 high; of a work: 22 factor 23 addend 24 failsAt 25 exception 26 next -/
abbrev SC : Type := M2 × (Nat → Nat)
def wr (u : SC) (k i : Nat) (v : Int32) : SC := (up2 u.1 k i v, u.2)
def kIsMethod (m : Int32) : Bool := if m < 0 then false else if 6 ≤ m then false else true
def kIsTarget (t : Int32) : Bool := if t < 0 then false else if 2 ≤ t then false else true
def kIsExc (e : Int32) : Bool := if e < 1 then false else if 15 < e then false else true
def kIsExcZ (e : Int32) : Bool := if e = 0 then true else kIsExc e
def kNums (kind a b : Int32) : Bool := if kind = 0 then kIsExc b else if kind = 4 then kIsExc b else if kind = 6 then kIsExc b else if kind = 5 then (if kIsExc a = true then kIsExcZ b else false) else if kind = 7 then kIsExc a else true
def kKindL : Nat → Int32 → Int32 → Bool
  | 0, _, _ => false
  | n + 1, g, t => if g ≤ 0 then false else if g = t then true else kKindL n (g / 2) t
def kKindOf (e t : Int32) : Bool := kKindL 31 e t
-- Trace
def kHas (u : SC) (i : Int32) : Bool := if i < 0 then false else if u.1 8 0 ≤ i then false else true
def kNote (u : SC) (n w : Int32) : Bool × SC := if 100 ≤ u.1 8 0 then (false, u) else (true, wr (wr (wr u 11 (ix (u.1 8 0)) n) 12 (ix (u.1 8 0)) w) 8 0 (u.1 8 0 + 1))
-- Advisor
def kInRange (u : SC) (k : Nat) (x : Int32) : Bool := if x < u.1 20 k then false else if u.1 21 k < x then false else true
def kAdvises (u : SC) (k : Nat) (m : Int32) : Bool := if u.1 16 k &&& ((1 : Int32) <<< (m &&& 31)) = 0 then false else true
def kBefore (u : SC) (k j : Nat) : Bool := if u.1 15 k < u.1 15 j then true else if u.1 15 k = u.1 15 j then (if u.1 13 j ≤ u.1 13 k then false else true) else false
def kGive (u : SC) (k : Nat) (lo hi : Int32) : SC := wr (wr (wr u 19 k 1) 20 k lo) 21 k hi
-- AdvisorRow
def kIsFull (u : SC) : Bool := if u.1 6 0 = 6 then true else false
def kPlaceL (u : SC) (n : Int32) : Nat → Int32 → Int32
  | 0, _ => -1
  | f + 1, p => if u.1 6 0 ≤ p then -1 else if u.1 13 (u.2 (ix p)) = n then p else kPlaceL u n f (p + 1)
def kPlaceOf (u : SC) (n : Int32) : Int32 := kPlaceL u n 7 0
def kChainL (u : SC) (m : Int32) : Nat → Int32 → Int32
  | 0, _ => -1
  | f + 1, p => if u.1 6 0 ≤ p then -1 else if kAdvises u (u.2 (ix p)) m = true then p else kChainL u m f (p + 1)
def kChainP (u : SC) (m from_ : Int32) : Int32 := kChainL u m 7 from_
def kNumL (u : SC) (m i : Int32) : Nat → Int32 → Int32 → Int32
  | 0, _, _ => -1
  | f + 1, bef, p => if u.1 6 0 ≤ p then -1 else if kAdvises u (u.2 (ix p)) m = true then (if bef = i then u.1 13 (u.2 (ix p)) else kNumL u m i f (bef + 1) (p + 1)) else kNumL u m i f bef (p + 1)
def kNumIn (u : SC) (m i : Int32) : Int32 := kNumL u m i 7 0 0
def kSwap (u : SC) (p : Int32) : SC := (u.1, va_up (va_up u.2 (ix p) (u.2 (ix (p + 1)))) (ix (p + 1)) (u.2 (ix p)))
def kUpL : Nat → SC → Int32 → SC
  | 0, u, _ => u
  | f + 1, u, a => if a ≤ 0 then u else if kBefore u (u.2 (ix a)) (u.2 (ix (a - 1))) = true then kUpL f (kSwap u (a - 1)) (a + (-1)) else u
def kDownL : Nat → SC → Int32 → SC
  | 0, u, _ => u
  | f + 1, u, a => if u.1 6 0 ≤ a + 1 then u else if kBefore u (u.2 (ix (a + 1))) (u.2 (ix a)) = true then kDownL f (kSwap u a) (a + 1) else u
def kSettle (u : SC) (p : Int32) : SC := kDownL 7 (kUpL 7 u p) p
def kMake (u : SC) (kind order methods a b : Int32) : Int32 × SC :=
  let k := u.2 (ix (u.1 6 0))
  let v := wr (wr (wr (wr (wr (wr (wr u 13 k (u.1 7 0)) 14 k kind) 15 k order) 16 k methods) 17 k a) 18 k b) 19 k 0
  let w := wr (wr v 7 0 (u.1 7 0 + 1)) 6 0 (u.1 6 0 + 1)
  let z := kSettle w (u.1 6 0 + 1 - 1)
  (z.1 13 k, z)
def kMove (u : SC) (p o : Int32) : SC := kSettle (wr u 15 (u.2 (ix p)) o) p
def kTakeL : Nat → SC → Int32 → SC
  | 0, u, _ => u
  | f + 1, u, a => if u.1 6 0 ≤ a then u else kTakeL f (kSwap u a) (a + 1)
def kTakeAway (u : SC) (p : Int32) : SC := kTakeL 7 (wr u 6 0 (u.1 6 0 - 1)) p
-- Work
def kFailsOn (u : SC) (j : Nat) (x : Int32) : Bool := if u.1 25 j = 0 then false else if x = u.1 24 j then true else false
def kReckon (u : SC) (j : Nat) (x : Int32) : Int32 := u.1 22 j * x + u.1 23 j
-- AdviceLinks
def kTake (u : SC) : Int32 × SC := if u.1 1 0 = 2 then (u.1 2 0, wr (wr u 4 0 (u.1 4 0 + 1)) 2 0 (1 - u.1 2 0)) else (u.1 1 0, wr u 4 0 (u.1 4 0 + 1))
abbrev Go : Type := Int32 → Int32 → Int32 → SC → Int32 × SC
def kBegin (go : Go) (m a d : Int32) (u : SC) : Int32 × SC := if 3 ≤ d then (1, wr u 5 0 15) else go d 0 a (wr (kTake (wr u 9 (ix d) m)).2 10 (ix d) (kTake (wr u 9 (ix d) m)).1)
def kWorkR (go : Go) (j : Nat) (d x : Int32) (n : Bool × SC) : Int32 × SC :=
  if n.1 = false then (2, wr n.2 5 0 0) else if kFailsOn n.2 j x = true then (1, wr n.2 5 0 (n.2.1 25 j)) else if n.2.1 26 j = -1 then (0, wr n.2 5 0 (kReckon n.2 j x)) else if x ≤ 0 then (0, wr n.2 5 0 (kReckon n.2 j x))
  else if (kBegin go (n.2.1 26 j) (x - 1) (d + 1) n.2).1 = 0 then (0, wr (kBegin go (n.2.1 26 j) (x - 1) (d + 1) n.2).2 5 0 (kReckon (kBegin go (n.2.1 26 j) (x - 1) (d + 1) n.2).2 j ((kBegin go (n.2.1 26 j) (x - 1) (d + 1) n.2).2.1 5 0))) else kBegin go (n.2.1 26 j) (x - 1) (d + 1) n.2
def kWork (go : Go) (d x : Int32) (u : SC) : Int32 × SC := kWorkR go (ix (u.1 10 (ix d) * 6 + u.1 9 (ix d))) d x (kNote u (100 + u.1 9 (ix d)) x)
def kBef (go : Go) (k : Nat) (d b x : Int32) (u : SC) : Int32 × SC :=
  let n := kNote u (u.1 13 k) x
  if n.1 = false then (2, wr n.2 5 0 0) else if x = n.2.1 17 k then (1, wr n.2 5 0 (n.2.1 18 k)) else go d b x n.2
def kChg (go : Go) (k : Nat) (d b x : Int32) (u : SC) : Int32 × SC :=
  let n := kNote u (u.1 13 k) x
  if n.1 = false then (2, wr n.2 5 0 0) else
  let r := go d b (x + n.2.1 17 k) n.2
  if r.1 = 0 then (0, wr r.2 5 0 (r.2.1 5 0 + r.2.1 18 k)) else r
def kSkp (go : Go) (k : Nat) (d b x : Int32) (u : SC) : Int32 × SC :=
  let n := kNote u (u.1 13 k) x
  if n.1 = false then (2, wr n.2 5 0 0) else if x < n.2.1 17 k then (0, wr n.2 5 0 (n.2.1 18 k)) else go d b x n.2
def kTwi (go : Go) (k : Nat) (d b x : Int32) (u : SC) : Int32 × SC :=
  let n := kNote u (u.1 13 k) x
  if n.1 = false then (2, wr n.2 5 0 0) else
  let r := go d b x n.2
  if r.1 = 0 then
    let q := go d b (x + r.2.1 17 k) r.2
    if q.1 = 0 then (0, wr q.2 5 0 (r.2.1 5 0 + q.2.1 5 0 + q.2.1 18 k)) else q
  else r
def kRet (go : Go) (k : Nat) (d b x : Int32) (u : SC) : Int32 × SC :=
  let r := go d b x u
  if r.1 = 0 then
    let n := kNote r.2 (r.2.1 13 k) (r.2.1 5 0)
    if n.1 = false then (2, wr n.2 5 0 0) else if n.2.1 5 0 = n.2.1 17 k then (1, wr n.2 5 0 (n.2.1 18 k)) else (0, n.2)
  else r
def kThr (go : Go) (k : Nat) (d b x : Int32) (u : SC) : Int32 × SC :=
  let r := go d b x u
  if r.1 = 1 then
    if kKindOf (r.2.1 5 0) (r.2.1 17 k) = false then r else
    let n := kNote r.2 (r.2.1 13 k) (r.2.1 5 0)
    if n.1 = false then (2, wr n.2 5 0 0) else if n.2.1 18 k = 0 then (1, n.2) else (1, wr n.2 5 0 (n.2.1 18 k))
  else r
def kFin (go : Go) (k : Nat) (d b x : Int32) (u : SC) : Int32 × SC :=
  let r := go d b x u
  if r.1 = 2 then (2, r.2) else
  let n := kNote r.2 (r.2.1 13 k) x
  if n.1 = false then (2, wr n.2 5 0 0) else if x = n.2.1 17 k then (1, wr n.2 5 0 (n.2.1 18 k)) else (r.1, n.2)
def kRec (go : Go) (k : Nat) (d b x : Int32) (u : SC) : Int32 × SC :=
  let r := go d b x u
  if r.1 = 1 then
    if kKindOf (r.2.1 5 0) (r.2.1 17 k) = false then r else
    let n := kNote r.2 (r.2.1 13 k) (r.2.1 5 0)
    if n.1 = false then (2, wr n.2 5 0 0) else (0, wr n.2 5 0 (n.2.1 18 k))
  else r
def kAct (go : Go) (k : Nat) (d b x : Int32) (u : SC) : Int32 × SC :=
  if u.1 14 k = 0 then kBef go k d b x u else if u.1 14 k = 1 then kChg go k d b x u else if u.1 14 k = 2 then kSkp go k d b x u else if u.1 14 k = 3 then kTwi go k d b x u
  else if u.1 14 k = 4 then kRet go k d b x u else if u.1 14 k = 5 then kThr go k d b x u else if u.1 14 k = 6 then kFin go k d b x u else kRec go k d b x u
def kAlong (go : Go) (d from_ x : Int32) (u : SC) : Int32 × SC :=
  let p := kChainP u (u.1 9 (ix d)) from_
  if p = -1 then kWork go d x u else
  let k := u.2 (ix p)
  if u.1 19 k = 0 then kAct go k d (p + 1) x u else
  let v := wr u 3 0 (u.1 3 0 + 1)
  if kInRange v k x = true then kAct go k d (p + 1) x v else go d (p + 1) x v
def kGo : Nat → Go
  | 0 => fun _ _ _ u => (0, u)
  | n + 1 => kAlong (kGo n)
def kInvoke (u : SC) (m a : Int32) : Int32 × SC := if kIsMethod m = false then (-1, u) else kBegin (kGo 22) m a 0 (wr (wr (wr u 8 0 0) 3 0 0) 4 0 0)
def kAdvise (u : SC) (kind order methods a b : Int32) : Int32 × SC :=
  if u.1 0 0 = 0 then (if kIsFull u = true then (-1, u) else if kind < 0 then (-1, u) else if 7 < kind then (-1, u) else if methods < 1 then (-1, u) else if 63 < methods then (-1, u) else if kNums kind a b = false then (-1, u) else kMake u kind order methods a b) else (-1, u)
def kWhen (u : SC) (ad lo hi : Int32) : Bool × SC :=
  let p := kPlaceOf u ad
  if u.1 0 0 = 0 then (if p = -1 then (false, u) else if hi < lo then (false, u) else (true, kGive u (u.2 (ix p)) lo hi)) else (false, u)
def kReorder (u : SC) (ad o : Int32) : Bool × SC :=
  let p := kPlaceOf u ad
  if u.1 0 0 = 0 then (if p = -1 then (false, u) else (true, kMove u p o)) else (false, u)
def kRemove (u : SC) (ad : Int32) : Bool × SC :=
  let p := kPlaceOf u ad
  if u.1 0 0 = 0 then (if p = -1 then (false, u) else (true, kTakeAway u p)) else (false, u)
def kFreeze (u : SC) (b : Bool) : SC := wr u 0 0 (bI b)
def kPlan (u : SC) (t m f a : Int32) : Bool × SC := if kIsTarget t = false then (false, u) else if kIsMethod m = false then (false, u) else (true, wr (wr u 22 (ix (t * 6 + m)) f) 23 (ix (t * 6 + m)) a)
def kFail (u : SC) (t m a e : Int32) : Bool × SC := if kIsTarget t = false then (false, u) else if kIsMethod m = false then (false, u) else if kIsExcZ e = false then (false, u) else (true, wr (wr u 24 (ix (t * 6 + m)) a) 25 (ix (t * 6 + m)) e)
def kCalls (u : SC) (t m n : Int32) : Bool × SC := if kIsTarget t = false then (false, u) else if kIsMethod m = false then (false, u) else if n = -1 then (true, wr u 26 (ix (t * 6 + m)) n) else if kIsMethod n = false then (false, u) else (true, wr u 26 (ix (t * 6 + m)) n)
def kSource (u : SC) (s : Int32) : Bool × SC := if s < 0 then (false, u) else if 2 < s then (false, u) else (true, wr (wr u 1 0 s) 2 0 0)
def kWho (u : SC) (i : Int32) : Int32 := if kHas u i = true then u.1 11 (ix i) else -1
def kWhat (u : SC) (i : Int32) : Int32 := if kHas u i = true then u.1 12 (ix i) else 0
def kChain (u : SC) (m i : Int32) : Int32 := if kIsMethod m = true then kNumIn u m i else -1
/- the reference. Numbers of its fields: 0 there 1 next 2 frozen 3 name 4 kind 5 order 6 methods 7 first 8 second 9 ranged 10 low 11 high 12 factor 13 addend 14 failsAt 15 failure 16 leads 17 source 18 turns 19 noted 20 whoNoted 21 whatNoted 22 askedCount 23 takenCount 24 outcome 25 broken 26 depth 27 method 28 target 29 waiting 30 waits 31 waitsPlace 32 waitsAdvisor 33 waitsX 34 waitsR 35 waitsAgain 36 along 37 place 38 x 39 threw 40 value -/
def qWithin (v lo hi : Int32) : Bool := if v < lo then false else if hi < v then false else true
def qIsExc (e : Int32) : Bool := qWithin e 1 15
def qFits (kind a b : Int32) : Bool := if kind = 0 then qIsExc b else if kind = 4 then qIsExc b else if kind = 6 then qIsExc b else if kind = 5 then (if qIsExc a = true then qWithin b 0 15 else false) else if kind = 7 then qIsExc a else true
def qPut (t : M2) (k o set a b : Int32) : M2 := up2 (up2 (up2 (up2 (up2 (up2 (up2 (up2 (up2 t 3 (ix (t 0 0)) (t 1 0)) 4 (ix (t 0 0)) k) 5 (ix (t 0 0)) o) 6 (ix (t 0 0)) set) 7 (ix (t 0 0)) a) 8 (ix (t 0 0)) b) 9 (ix (t 0 0)) 0) 0 0 (t 0 0 + 1)) 1 0 (t 1 0 + 1)
def qAdvise (t : M2) (k o set a b : Int32) : Int32 × M2 :=
  if t 2 0 = 0 then (if t 0 0 = 6 then (-1, t) else if qWithin k 0 7 = false then (-1, t) else if qWithin set 1 63 = false then (-1, t) else if qFits k a b = false then (-1, t) else (t 1 0 + 1 - 1, qPut t k o set a b)) else (-1, t)
def qFindL (t : M2) (ad : Int32) : Nat → Int32 → Int32 → Int32
  | 0, _, r => r
  | f + 1, k, r => if t 0 0 ≤ k then r else qFindL t ad f (k + 1) (if t 3 (ix k) = ad then k else r)
def qFind (t : M2) (ad : Int32) : Int32 := qFindL t ad 7 0 (-1)
def qWhen (t : M2) (ad lo hi : Int32) : Bool × M2 :=
  if t 2 0 = 0 then (if qFind t ad < 0 then (false, t) else if hi < lo then (false, t) else (true, up2 (up2 (up2 t 9 (ix (qFind t ad)) 1) 10 (ix (qFind t ad)) lo) 11 (ix (qFind t ad)) hi)) else (false, t)
def qReorder (t : M2) (ad o : Int32) : Bool × M2 :=
  if t 2 0 = 0 then (if qFind t ad < 0 then (false, t) else (true, up2 t 5 (ix (qFind t ad)) o)) else (false, t)
def qShift (t : M2) (k : Int32) : M2 :=
  up2 (up2 (up2 (up2 (up2 (up2 (up2 (up2 (up2 t 3 (ix k) (t 3 (ix (k + 1)))) 4 (ix k) (t 4 (ix (k + 1)))) 5 (ix k) (t 5 (ix (k + 1)))) 6 (ix k) (t 6 (ix (k + 1)))) 7 (ix k) (t 7 (ix (k + 1)))) 8 (ix k) (t 8 (ix (k + 1)))) 9 (ix k) (vp_nar .boolean (t 9 (ix (k + 1))))) 10 (ix k) (t 10 (ix (k + 1)))) 11 (ix k) (t 11 (ix (k + 1)))
def qShiftL : Nat → M2 → Int32 → M2
  | 0, t, _ => t
  | f + 1, t, k => if t 0 0 ≤ k then t else qShiftL f (qShift t k) (k + 1)
def qRemove (t : M2) (ad : Int32) : Bool × M2 :=
  if t 2 0 = 0 then (if qFind t ad < 0 then (false, t) else (true, qShiftL 7 (up2 t 0 0 (t 0 0 - 1)) (qFind t ad))) else (false, t)
def qFreeze (t : M2) (b : Bool) : M2 := up2 t 2 0 (bI b)
def qAhead (t : M2) (q k : Int32) : Bool := if t 5 (ix q) < t 5 (ix k) then true else if t 5 (ix q) = t 5 (ix k) then (if q < k then true else false) else false
def qBit (t : M2) (q m : Int32) : Bool := if (t 6 (ix q) >>> (m &&& 31)) &&& 1 = 1 then true else false
def qCntL (t : M2) (m k : Int32) : Nat → Int32 → Int32 → Int32
  | 0, _, b => b
  | f + 1, q, b => if t 0 0 ≤ q then b else qCntL t m k f (q + 1) (if qAhead t q k = true then (if qBit t q m = true then b + 1 else b) else b)
def qCnt (t : M2) (m k : Int32) : Int32 := qCntL t m k 7 0 0
def qLinkL (t : M2) (m pl : Int32) : Nat → Int32 → Int32
  | 0, _ => -1
  | f + 1, k => if t 0 0 ≤ k then -1 else if qBit t k m = true then (if qCnt t m k = pl then k else qLinkL t m pl f (k + 1)) else qLinkL t m pl f (k + 1)
def qLinked (t : M2) (m pl : Int32) : Int32 := qLinkL t m pl 7 0
def qChain (t : M2) (m i : Int32) : Int32 := if qWithin m 0 5 = true then (if qLinked t m i < 0 then -1 else t 3 (ix (qLinked t m i))) else -1
def qIsCell (t m : Int32) : Bool := if qWithin t 0 1 = true then qWithin m 0 5 else false
def qPlan (u : M2) (t m f a : Int32) : Bool × M2 := if qIsCell t m = false then (false, u) else (true, up2 (up2 u 12 (ix (6 * t + m)) f) 13 (ix (6 * t + m)) a)
def qFail (u : M2) (t m a e : Int32) : Bool × M2 := if qIsCell t m = false then (false, u) else if qWithin e 0 15 = false then (false, u) else (true, up2 (up2 u 14 (ix (6 * t + m)) a) 15 (ix (6 * t + m)) e)
def qCalls (u : M2) (t m n : Int32) : Bool × M2 := if qIsCell t m = false then (false, u) else if qWithin n (-1) 5 = false then (false, u) else (true, up2 u 16 (ix (6 * t + m)) n)
def qSource (u : M2) (s : Int32) : Bool × M2 := if qWithin s 0 2 = false then (false, u) else (true, up2 (up2 u 17 0 s) 18 0 0)
def qNote (t : M2) (who what : Int32) : M2 := if t 19 0 = 100 then up2 t 25 0 1 else up2 (up2 (up2 t 20 (ix (t 19 0)) who) 21 (ix (t 19 0)) what) 19 0 (t 19 0 + 1)
def qIsOneL : Nat → Int32 → Int32 → Bool
  | 0, k, t => if k = t then true else false
  | f + 1, k, t => if k ≤ t then (if k = t then true else false) else qIsOneL f (k / 2) t
def qIsOne (e t : Int32) : Bool := qIsOneL 31 e t
def qGo (t : M2) (from_ z : Int32) : M2 := up2 (up2 (up2 t 36 0 1) 37 0 from_) 38 0 z
def qComes (t : M2) (b : Bool) (v : Int32) : M2 := up2 (up2 (up2 t 36 0 0) 39 0 (bI b)) 40 0 v
def qAwait (t : M2) (what adv : Int32) : M2 := up2 (up2 (up2 (up2 (up2 (up2 t 30 (ix (t 29 0)) what) 31 (ix (t 29 0)) (t 37 0)) 32 (ix (t 29 0)) adv) 33 (ix (t 29 0)) (t 38 0)) 35 (ix (t 29 0)) 0) 29 0 (t 29 0 + 1)
def qEnt (t : M2) (m : Int32) : M2 := up2 (up2 (up2 (up2 (up2 t 26 0 (t 26 0 + 1)) 23 0 (t 23 0 + 1)) 27 (ix (t 26 0 + 1)) m) 28 (ix (t 26 0 + 1)) (if t 17 0 = 2 then t 18 0 else t 17 0)) 18 0 (if t 17 0 = 2 then 1 - t 18 0 else t 18 0)
def qEnter (t : M2) (m a : Int32) : M2 := if t 26 0 = 3 then qComes t true 15 else qGo (qAwait (qEnt t m) 9 (-1)) 0 a
def qWorkR (t : M2) (c : Int32) : M2 :=
  if 0 < t 15 (ix c) ∧ t 14 (ix c) = t 38 0 then qComes t true (t 15 (ix c)) else if ¬ t 16 (ix c) = -1 ∧ 0 < t 38 0 then qEnter (qAwait t 8 c) (t 16 (ix c)) (t 38 0 - 1) else qComes t false (t 12 (ix c) * t 38 0 + t 13 (ix c))
def qWork (t : M2) : M2 :=
  if (qNote t (100 + t 27 (ix (t 26 0))) (t 38 0)) 25 0 = 0 then qWorkR (qNote t (100 + t 27 (ix (t 26 0))) (t 38 0)) (6 * t 28 (ix (t 26 0)) + t 27 (ix (t 26 0))) else qNote t (100 + t 27 (ix (t 26 0))) (t 38 0)
def qStepC (t : M2) (k : Int32) : M2 :=
  if t 25 0 = 0 then
    (if t 4 (ix k) = 0 ∧ t 38 0 = t 7 (ix k) then qComes t true (t 8 (ix k)) else if t 4 (ix k) = 2 ∧ t 38 0 < t 7 (ix k) then qComes t false (t 8 (ix k)) else if t 4 (ix k) = 0 ∨ t 4 (ix k) = 2 then up2 t 37 0 (t 37 0 + 1)
     else qGo (qAwait t (t 4 (ix k)) k) (t 37 0 + 1) (if t 4 (ix k) = 1 then t 38 0 + t 7 (ix k) else t 38 0))
  else t
def qStepB (t : M2) (k : Int32) : M2 := if t 4 (ix k) ≤ 3 then qStepC (qNote t (t 3 (ix k)) (t 38 0)) k else qStepC t k
def qStepA (t : M2) (k : Int32) : M2 :=
  if t 9 (ix k) = 0 then qStepB t k else if qWithin (t 38 0) (t 10 (ix k)) (t 11 (ix k)) = true then qStepB (up2 t 22 0 (t 22 0 + 1)) k else up2 (up2 t 22 0 (t 22 0 + 1)) 37 0 (t 37 0 + 1)
def qStep (t : M2) : M2 := if qLinked t (t 27 (ix (t 26 0))) (t 37 0) < 0 then qWork t else qStepA t (qLinked t (t 27 (ix (t 26 0))) (t 37 0))
def qTwice (t : M2) (k : Int32) : M2 :=
  if t 39 0 = 0 then
    (if t 35 (ix (t 29 0)) = 0 then (let v := qGo (up2 (up2 t 35 (ix (t 29 0)) 1) 34 (ix (t 29 0)) (t 40 0)) (t 31 (ix (t 29 0)) + 1) (t 33 (ix (t 29 0)) + t 7 (ix k)); up2 v 29 0 (t 29 0 + 1))
     else up2 t 40 0 (t 34 (ix (t 29 0)) + t 40 0 + t 8 (ix k)))
  else t
def qBackR (t : M2) (w k : Int32) : M2 :=
  if w = 9 then up2 t 26 0 (t 26 0 - 1)
  else if w = 8 then up2 t 40 0 (if t 39 0 = 0 then t 12 (ix k) * t 40 0 + t 13 (ix k) else t 40 0)
  else if w = 1 then up2 t 40 0 (if t 39 0 = 0 then t 40 0 + t 8 (ix k) else t 40 0)
  else if w = 3 then qTwice t k
  else if w = 6 then (let v := qNote t (t 3 (ix k)) (t 33 (ix (t 29 0))); if v 33 (ix (v 29 0)) = v 7 (ix k) then qComes v true (v 8 (ix k)) else v)
  else if w = 4 ∧ t 39 0 = 0 then (let v := qNote t (t 3 (ix k)) (t 40 0); if v 40 0 = v 7 (ix k) then qComes v true (v 8 (ix k)) else v)
  else if 5 ≤ w ∧ ¬ t 39 0 = 0 ∧ qIsOne (t 40 0) (t 7 (ix k)) = true then (let v := qNote t (t 3 (ix k)) (t 40 0); if w = 5 then qComes v true (if v 8 (ix k) = 0 then v 40 0 else v 8 (ix k)) else qComes v false (v 8 (ix k)))
  else t
def qBack (t : M2) : M2 := qBackR (up2 t 29 0 (t 29 0 - 1)) (t 30 (ix (t 29 0 - 1))) (t 32 (ix (t 29 0 - 1)))
def qMore (t : M2) : Bool := if t 25 0 = 0 then (if t 36 0 = 0 then (if t 29 0 ≤ 0 then false else true) else true) else false
def qRun (t : M2) : M2 := if t 36 0 = 0 then qBack t else qStep t
def qIt : Nat → M2 → M2
  | 0, t => t
  | n + 1, t => qIt n (qRun t)
def qStart (t : M2) (m a : Int32) : M2 := qEnter (up2 (up2 (up2 (up2 (up2 (up2 t 19 0 0) 22 0 0) 23 0 0) 25 0 0) 26 0 0) 29 0 0) m a
def qEnd (t : M2) : Int32 × M2 := (if t 25 0 = 0 then (if t 39 0 = 0 then 0 else 1) else 2, up2 t 24 0 (if t 25 0 = 0 then t 40 0 else 0))
def qWho (t : M2) (i : Int32) : Int32 := if qWithin i 0 (t 19 0 - 1) = true then t 20 (ix i) else -1
def qWhat (t : M2) (i : Int32) : Int32 := if qWithin i 0 (t 19 0 - 1) = true then t 21 (ix i) else 0
end
section
theorem d_A_init_0 : decode b_A_init 0 = .ok (.aload_n 0, 1) := by decide +kernel
theorem d_A_init_1 : decode b_A_init 1 = .ok (.invokespecial 3, 3) := by decide +kernel
theorem d_A_init_4 : decode b_A_init 4 = .ok (.aload_n 0, 1) := by decide +kernel
theorem d_A_init_5 : decode b_A_init 5 = .ok (.iconst (-1), 1) := by decide +kernel
theorem d_A_init_6 : decode b_A_init 6 = .ok (.putfield 9, 3) := by decide +kernel
theorem d_A_init_9 : decode b_A_init 9 = .ok (.aload_n 0, 1) := by decide +kernel
theorem d_A_init_10 : decode b_A_init 10 = .ok (.iconst 0, 1) := by decide +kernel
theorem d_A_init_11 : decode b_A_init 11 = .ok (.putfield 15, 3) := by decide +kernel
theorem d_A_init_14 : decode b_A_init 14 = .ok (.aload_n 0, 1) := by decide +kernel
theorem d_A_init_15 : decode b_A_init 15 = .ok (.iconst 0, 1) := by decide +kernel
theorem d_A_init_16 : decode b_A_init 16 = .ok (.putfield 18, 3) := by decide +kernel
theorem d_A_init_19 : decode b_A_init 19 = .ok (.aload_n 0, 1) := by decide +kernel
theorem d_A_init_20 : decode b_A_init 20 = .ok (.iconst 0, 1) := by decide +kernel
theorem d_A_init_21 : decode b_A_init 21 = .ok (.putfield 21, 3) := by decide +kernel
theorem d_A_init_24 : decode b_A_init 24 = .ok (.aload_n 0, 1) := by decide +kernel
theorem d_A_init_25 : decode b_A_init 25 = .ok (.iconst 0, 1) := by decide +kernel
theorem d_A_init_26 : decode b_A_init 26 = .ok (.putfield 24, 3) := by decide +kernel
theorem d_A_init_29 : decode b_A_init 29 = .ok (.aload_n 0, 1) := by decide +kernel
theorem d_A_init_30 : decode b_A_init 30 = .ok (.iconst 0, 1) := by decide +kernel
theorem d_A_init_31 : decode b_A_init 31 = .ok (.putfield 27, 3) := by decide +kernel
theorem d_A_init_34 : decode b_A_init 34 = .ok (.aload_n 0, 1) := by decide +kernel
theorem d_A_init_35 : decode b_A_init 35 = .ok (.iconst 0, 1) := by decide +kernel
theorem d_A_init_36 : decode b_A_init 36 = .ok (.putfield 30, 3) := by decide +kernel
theorem d_A_init_39 : decode b_A_init 39 = .ok (.aload_n 0, 1) := by decide +kernel
theorem d_A_init_40 : decode b_A_init 40 = .ok (.iconst 0, 1) := by decide +kernel
theorem d_A_init_41 : decode b_A_init 41 = .ok (.putfield 34, 3) := by decide +kernel
theorem d_A_init_44 : decode b_A_init 44 = .ok (.aload_n 0, 1) := by decide +kernel
theorem d_A_init_45 : decode b_A_init 45 = .ok (.iconst 0, 1) := by decide +kernel
theorem d_A_init_46 : decode b_A_init 46 = .ok (.putfield 37, 3) := by decide +kernel
theorem d_A_init_49 : decode b_A_init 49 = .ok (.return_, 1) := by decide +kernel
theorem d_A_giveRange_0 : decode b_A_giveRange 0 = .ok (.aload_n 0, 1) := by decide +kernel
theorem d_A_giveRange_1 : decode b_A_giveRange 1 = .ok (.iconst 1, 1) := by decide +kernel
theorem d_A_giveRange_2 : decode b_A_giveRange 2 = .ok (.putfield 30, 3) := by decide +kernel
theorem d_A_giveRange_5 : decode b_A_giveRange 5 = .ok (.aload_n 0, 1) := by decide +kernel
theorem d_A_giveRange_6 : decode b_A_giveRange 6 = .ok (.iload_n 1, 1) := by decide +kernel
theorem d_A_giveRange_7 : decode b_A_giveRange 7 = .ok (.putfield 34, 3) := by decide +kernel
theorem d_A_giveRange_10 : decode b_A_giveRange 10 = .ok (.aload_n 0, 1) := by decide +kernel
theorem d_A_giveRange_11 : decode b_A_giveRange 11 = .ok (.iload_n 2, 1) := by decide +kernel
theorem d_A_giveRange_12 : decode b_A_giveRange 12 = .ok (.putfield 37, 3) := by decide +kernel
theorem d_A_giveRange_15 : decode b_A_giveRange 15 = .ok (.return_, 1) := by decide +kernel
theorem d_A_isInRange_0 : decode b_A_isInRange 0 = .ok (.aload_n 0, 1) := by decide +kernel
theorem d_A_isInRange_1 : decode b_A_isInRange 1 = .ok (.getfield 34, 3) := by decide +kernel
theorem d_A_isInRange_4 : decode b_A_isInRange 4 = .ok (.iload_n 1, 1) := by decide +kernel
theorem d_A_isInRange_5 : decode b_A_isInRange 5 = .ok (.if_icmp .gt 15, 3) := by decide +kernel
theorem d_A_isInRange_8 : decode b_A_isInRange 8 = .ok (.iload_n 1, 1) := by decide +kernel
theorem d_A_isInRange_9 : decode b_A_isInRange 9 = .ok (.aload_n 0, 1) := by decide +kernel
theorem d_A_isInRange_10 : decode b_A_isInRange 10 = .ok (.getfield 37, 3) := by decide +kernel
theorem d_A_isInRange_13 : decode b_A_isInRange 13 = .ok (.if_icmp .gt 7, 3) := by decide +kernel
theorem d_A_isInRange_16 : decode b_A_isInRange 16 = .ok (.iconst 1, 1) := by decide +kernel
theorem d_A_isInRange_17 : decode b_A_isInRange 17 = .ok (.goto 4, 3) := by decide +kernel
theorem d_A_isInRange_20 : decode b_A_isInRange 20 = .ok (.iconst 0, 1) := by decide +kernel
theorem d_A_isInRange_21 : decode b_A_isInRange 21 = .ok (.ireturn, 1) := by decide +kernel
theorem d_A_advises_0 : decode b_A_advises 0 = .ok (.aload_n 0, 1) := by decide +kernel
theorem d_A_advises_1 : decode b_A_advises 1 = .ok (.getfield 21, 3) := by decide +kernel
theorem d_A_advises_4 : decode b_A_advises 4 = .ok (.iconst 1, 1) := by decide +kernel
theorem d_A_advises_5 : decode b_A_advises 5 = .ok (.iload_n 1, 1) := by decide +kernel
theorem d_A_advises_6 : decode b_A_advises 6 = .ok (.ishl, 1) := by decide +kernel
theorem d_A_advises_7 : decode b_A_advises 7 = .ok (.iand, 1) := by decide +kernel
theorem d_A_advises_8 : decode b_A_advises 8 = .ok (.ifCond .eq 7, 3) := by decide +kernel
theorem d_A_advises_11 : decode b_A_advises 11 = .ok (.iconst 1, 1) := by decide +kernel
theorem d_A_advises_12 : decode b_A_advises 12 = .ok (.goto 4, 3) := by decide +kernel
theorem d_A_advises_15 : decode b_A_advises 15 = .ok (.iconst 0, 1) := by decide +kernel
theorem d_A_advises_16 : decode b_A_advises 16 = .ok (.ireturn, 1) := by decide +kernel
theorem d_A_standsBefore_0 : decode b_A_standsBefore 0 = .ok (.aload_n 0, 1) := by decide +kernel
theorem d_A_standsBefore_1 : decode b_A_standsBefore 1 = .ok (.getfield 18, 3) := by decide +kernel
theorem d_A_standsBefore_4 : decode b_A_standsBefore 4 = .ok (.aload_n 1, 1) := by decide +kernel
theorem d_A_standsBefore_5 : decode b_A_standsBefore 5 = .ok (.getfield 18, 3) := by decide +kernel
theorem d_A_standsBefore_8 : decode b_A_standsBefore 8 = .ok (.if_icmp .lt 25, 3) := by decide +kernel
theorem d_A_standsBefore_11 : decode b_A_standsBefore 11 = .ok (.aload_n 0, 1) := by decide +kernel
theorem d_A_standsBefore_12 : decode b_A_standsBefore 12 = .ok (.getfield 18, 3) := by decide +kernel
theorem d_A_standsBefore_15 : decode b_A_standsBefore 15 = .ok (.aload_n 1, 1) := by decide +kernel
theorem d_A_standsBefore_16 : decode b_A_standsBefore 16 = .ok (.getfield 18, 3) := by decide +kernel
theorem d_A_standsBefore_19 : decode b_A_standsBefore 19 = .ok (.if_icmp .ne 18, 3) := by decide +kernel
theorem d_A_standsBefore_22 : decode b_A_standsBefore 22 = .ok (.aload_n 0, 1) := by decide +kernel
theorem d_A_standsBefore_23 : decode b_A_standsBefore 23 = .ok (.getfield 9, 3) := by decide +kernel
theorem d_A_standsBefore_26 : decode b_A_standsBefore 26 = .ok (.aload_n 1, 1) := by decide +kernel
theorem d_A_standsBefore_27 : decode b_A_standsBefore 27 = .ok (.getfield 9, 3) := by decide +kernel
theorem d_A_standsBefore_30 : decode b_A_standsBefore 30 = .ok (.if_icmp .ge 7, 3) := by decide +kernel
theorem d_A_standsBefore_33 : decode b_A_standsBefore 33 = .ok (.iconst 1, 1) := by decide +kernel
theorem d_A_standsBefore_34 : decode b_A_standsBefore 34 = .ok (.goto 4, 3) := by decide +kernel
theorem d_A_standsBefore_37 : decode b_A_standsBefore 37 = .ok (.iconst 0, 1) := by decide +kernel
theorem d_A_standsBefore_38 : decode b_A_standsBefore 38 = .ok (.ireturn, 1) := by decide +kernel
theorem d_R_init_0 : decode b_R_init 0 = .ok (.aload_n 0, 1) := by decide +kernel
theorem d_R_init_1 : decode b_R_init 1 = .ok (.invokespecial 3, 3) := by decide +kernel
theorem d_R_init_4 : decode b_R_init 4 = .ok (.aload_n 0, 1) := by decide +kernel
theorem d_R_init_5 : decode b_R_init 5 = .ok (.bipush 6, 2) := by decide +kernel
theorem d_R_init_7 : decode b_R_init 7 = .ok (.anewarray 9, 3) := by decide +kernel
theorem d_R_init_10 : decode b_R_init 10 = .ok (.putfield 11, 3) := by decide +kernel
theorem d_R_init_13 : decode b_R_init 13 = .ok (.aload_n 0, 1) := by decide +kernel
theorem d_R_init_14 : decode b_R_init 14 = .ok (.iconst 0, 1) := by decide +kernel
theorem d_R_init_15 : decode b_R_init 15 = .ok (.putfield 17, 3) := by decide +kernel
theorem d_R_init_18 : decode b_R_init 18 = .ok (.aload_n 0, 1) := by decide +kernel
theorem d_R_init_19 : decode b_R_init 19 = .ok (.iconst 0, 1) := by decide +kernel
theorem d_R_init_20 : decode b_R_init 20 = .ok (.putfield 21, 3) := by decide +kernel
theorem d_R_init_23 : decode b_R_init 23 = .ok (.iconst 0, 1) := by decide +kernel
theorem d_R_init_24 : decode b_R_init 24 = .ok (.istore_n 1, 1) := by decide +kernel
theorem d_R_init_25 : decode b_R_init 25 = .ok (.iload_n 1, 1) := by decide +kernel
theorem d_R_init_26 : decode b_R_init 26 = .ok (.aload_n 0, 1) := by decide +kernel
theorem d_R_init_27 : decode b_R_init 27 = .ok (.getfield 11, 3) := by decide +kernel
theorem d_R_init_30 : decode b_R_init 30 = .ok (.arraylength, 1) := by decide +kernel
theorem d_R_init_31 : decode b_R_init 31 = .ok (.if_icmp .ge 22, 3) := by decide +kernel
theorem d_R_init_34 : decode b_R_init 34 = .ok (.aload_n 0, 1) := by decide +kernel
theorem d_R_init_35 : decode b_R_init 35 = .ok (.getfield 11, 3) := by decide +kernel
theorem d_R_init_38 : decode b_R_init 38 = .ok (.iload_n 1, 1) := by decide +kernel
theorem d_R_init_39 : decode b_R_init 39 = .ok (.new 9, 3) := by decide +kernel
theorem d_R_init_42 : decode b_R_init 42 = .ok (.dup, 1) := by decide +kernel
theorem d_R_init_43 : decode b_R_init 43 = .ok (.invokespecial 24, 3) := by decide +kernel
theorem d_R_init_46 : decode b_R_init 46 = .ok (.aastore, 1) := by decide +kernel
theorem d_R_init_47 : decode b_R_init 47 = .ok (.iinc 1 1, 3) := by decide +kernel
theorem d_R_init_50 : decode b_R_init 50 = .ok (.goto (-25), 3) := by decide +kernel
theorem d_R_init_53 : decode b_R_init 53 = .ok (.return_, 1) := by decide +kernel
theorem d_R_isFull_0 : decode b_R_isFull 0 = .ok (.aload_n 0, 1) := by decide +kernel
theorem d_R_isFull_1 : decode b_R_isFull 1 = .ok (.getfield 17, 3) := by decide +kernel
theorem d_R_isFull_4 : decode b_R_isFull 4 = .ok (.bipush 6, 2) := by decide +kernel
theorem d_R_isFull_6 : decode b_R_isFull 6 = .ok (.if_icmp .ne 7, 3) := by decide +kernel
theorem d_R_isFull_9 : decode b_R_isFull 9 = .ok (.iconst 1, 1) := by decide +kernel
theorem d_R_isFull_10 : decode b_R_isFull 10 = .ok (.goto 4, 3) := by decide +kernel
theorem d_R_isFull_13 : decode b_R_isFull 13 = .ok (.iconst 0, 1) := by decide +kernel
theorem d_R_isFull_14 : decode b_R_isFull 14 = .ok (.ireturn, 1) := by decide +kernel
theorem d_R_at_0 : decode b_R_at 0 = .ok (.aload_n 0, 1) := by decide +kernel
theorem d_R_at_1 : decode b_R_at 1 = .ok (.getfield 11, 3) := by decide +kernel
theorem d_R_at_4 : decode b_R_at 4 = .ok (.iload_n 1, 1) := by decide +kernel
theorem d_R_at_5 : decode b_R_at 5 = .ok (.aaload, 1) := by decide +kernel
theorem d_R_at_6 : decode b_R_at 6 = .ok (.areturn, 1) := by decide +kernel
theorem d_R_placeOf_0 : decode b_R_placeOf 0 = .ok (.iconst 0, 1) := by decide +kernel
theorem d_R_placeOf_1 : decode b_R_placeOf 1 = .ok (.istore_n 2, 1) := by decide +kernel
theorem d_R_placeOf_2 : decode b_R_placeOf 2 = .ok (.iload_n 2, 1) := by decide +kernel
theorem d_R_placeOf_3 : decode b_R_placeOf 3 = .ok (.aload_n 0, 1) := by decide +kernel
theorem d_R_placeOf_4 : decode b_R_placeOf 4 = .ok (.getfield 17, 3) := by decide +kernel
theorem d_R_placeOf_7 : decode b_R_placeOf 7 = .ok (.if_icmp .ge 24, 3) := by decide +kernel
theorem d_R_placeOf_10 : decode b_R_placeOf 10 = .ok (.aload_n 0, 1) := by decide +kernel
theorem d_R_placeOf_11 : decode b_R_placeOf 11 = .ok (.getfield 11, 3) := by decide +kernel
theorem d_R_placeOf_14 : decode b_R_placeOf 14 = .ok (.iload_n 2, 1) := by decide +kernel
theorem d_R_placeOf_15 : decode b_R_placeOf 15 = .ok (.aaload, 1) := by decide +kernel
theorem d_R_placeOf_16 : decode b_R_placeOf 16 = .ok (.getfield 25, 3) := by decide +kernel
theorem d_R_placeOf_19 : decode b_R_placeOf 19 = .ok (.iload_n 1, 1) := by decide +kernel
theorem d_R_placeOf_20 : decode b_R_placeOf 20 = .ok (.if_icmp .ne 5, 3) := by decide +kernel
theorem d_R_placeOf_23 : decode b_R_placeOf 23 = .ok (.iload_n 2, 1) := by decide +kernel
theorem d_R_placeOf_24 : decode b_R_placeOf 24 = .ok (.ireturn, 1) := by decide +kernel
theorem d_R_placeOf_25 : decode b_R_placeOf 25 = .ok (.iinc 2 1, 3) := by decide +kernel
theorem d_R_placeOf_28 : decode b_R_placeOf 28 = .ok (.goto (-26), 3) := by decide +kernel
theorem d_R_placeOf_31 : decode b_R_placeOf 31 = .ok (.iconst (-1), 1) := by decide +kernel
theorem d_R_placeOf_32 : decode b_R_placeOf 32 = .ok (.ireturn, 1) := by decide +kernel
theorem d_R_placeInChain_0 : decode b_R_placeInChain 0 = .ok (.iload_n 2, 1) := by decide +kernel
theorem d_R_placeInChain_1 : decode b_R_placeInChain 1 = .ok (.istore_n 3, 1) := by decide +kernel
theorem d_R_placeInChain_2 : decode b_R_placeInChain 2 = .ok (.iload_n 3, 1) := by decide +kernel
theorem d_R_placeInChain_3 : decode b_R_placeInChain 3 = .ok (.aload_n 0, 1) := by decide +kernel
theorem d_R_placeInChain_4 : decode b_R_placeInChain 4 = .ok (.getfield 17, 3) := by decide +kernel
theorem d_R_placeInChain_7 : decode b_R_placeInChain 7 = .ok (.if_icmp .ge 24, 3) := by decide +kernel
theorem d_R_placeInChain_10 : decode b_R_placeInChain 10 = .ok (.aload_n 0, 1) := by decide +kernel
theorem d_R_placeInChain_11 : decode b_R_placeInChain 11 = .ok (.getfield 11, 3) := by decide +kernel
theorem d_R_placeInChain_14 : decode b_R_placeInChain 14 = .ok (.iload_n 3, 1) := by decide +kernel
theorem d_R_placeInChain_15 : decode b_R_placeInChain 15 = .ok (.aaload, 1) := by decide +kernel
theorem d_R_placeInChain_16 : decode b_R_placeInChain 16 = .ok (.iload_n 1, 1) := by decide +kernel
theorem d_R_placeInChain_17 : decode b_R_placeInChain 17 = .ok (.invokevirtual 28, 3) := by decide +kernel
theorem d_R_placeInChain_20 : decode b_R_placeInChain 20 = .ok (.ifCond .eq 5, 3) := by decide +kernel
theorem d_R_placeInChain_23 : decode b_R_placeInChain 23 = .ok (.iload_n 3, 1) := by decide +kernel
theorem d_R_placeInChain_24 : decode b_R_placeInChain 24 = .ok (.ireturn, 1) := by decide +kernel
theorem d_R_placeInChain_25 : decode b_R_placeInChain 25 = .ok (.iinc 3 1, 3) := by decide +kernel
theorem d_R_placeInChain_28 : decode b_R_placeInChain 28 = .ok (.goto (-26), 3) := by decide +kernel
theorem d_R_placeInChain_31 : decode b_R_placeInChain 31 = .ok (.iconst (-1), 1) := by decide +kernel
theorem d_R_placeInChain_32 : decode b_R_placeInChain 32 = .ok (.ireturn, 1) := by decide +kernel
theorem d_R_numberInChain_0 : decode b_R_numberInChain 0 = .ok (.iconst 0, 1) := by decide +kernel
theorem d_R_numberInChain_1 : decode b_R_numberInChain 1 = .ok (.istore_n 3, 1) := by decide +kernel
theorem d_R_numberInChain_2 : decode b_R_numberInChain 2 = .ok (.iconst 0, 1) := by decide +kernel
theorem d_R_numberInChain_3 : decode b_R_numberInChain 3 = .ok (.istore 4, 2) := by decide +kernel
theorem d_R_numberInChain_5 : decode b_R_numberInChain 5 = .ok (.iload 4, 2) := by decide +kernel
theorem d_R_numberInChain_7 : decode b_R_numberInChain 7 = .ok (.aload_n 0, 1) := by decide +kernel
theorem d_R_numberInChain_8 : decode b_R_numberInChain 8 = .ok (.getfield 17, 3) := by decide +kernel
theorem d_R_numberInChain_11 : decode b_R_numberInChain 11 = .ok (.if_icmp .ge 42, 3) := by decide +kernel
theorem d_R_numberInChain_14 : decode b_R_numberInChain 14 = .ok (.aload_n 0, 1) := by decide +kernel
theorem d_R_numberInChain_15 : decode b_R_numberInChain 15 = .ok (.getfield 11, 3) := by decide +kernel
theorem d_R_numberInChain_18 : decode b_R_numberInChain 18 = .ok (.iload 4, 2) := by decide +kernel
theorem d_R_numberInChain_20 : decode b_R_numberInChain 20 = .ok (.aaload, 1) := by decide +kernel
theorem d_R_numberInChain_21 : decode b_R_numberInChain 21 = .ok (.iload_n 1, 1) := by decide +kernel
theorem d_R_numberInChain_22 : decode b_R_numberInChain 22 = .ok (.invokevirtual 28, 3) := by decide +kernel
theorem d_R_numberInChain_25 : decode b_R_numberInChain 25 = .ok (.ifCond .eq 22, 3) := by decide +kernel
theorem d_R_numberInChain_28 : decode b_R_numberInChain 28 = .ok (.iload_n 3, 1) := by decide +kernel
theorem d_R_numberInChain_29 : decode b_R_numberInChain 29 = .ok (.iload_n 2, 1) := by decide +kernel
theorem d_R_numberInChain_30 : decode b_R_numberInChain 30 = .ok (.if_icmp .ne 14, 3) := by decide +kernel
theorem d_R_numberInChain_33 : decode b_R_numberInChain 33 = .ok (.aload_n 0, 1) := by decide +kernel
theorem d_R_numberInChain_34 : decode b_R_numberInChain 34 = .ok (.getfield 11, 3) := by decide +kernel
theorem d_R_numberInChain_37 : decode b_R_numberInChain 37 = .ok (.iload 4, 2) := by decide +kernel
theorem d_R_numberInChain_39 : decode b_R_numberInChain 39 = .ok (.aaload, 1) := by decide +kernel
theorem d_R_numberInChain_40 : decode b_R_numberInChain 40 = .ok (.getfield 25, 3) := by decide +kernel
theorem d_R_numberInChain_43 : decode b_R_numberInChain 43 = .ok (.ireturn, 1) := by decide +kernel
theorem d_R_numberInChain_44 : decode b_R_numberInChain 44 = .ok (.iinc 3 1, 3) := by decide +kernel
theorem d_R_numberInChain_47 : decode b_R_numberInChain 47 = .ok (.iinc 4 1, 3) := by decide +kernel
theorem d_R_numberInChain_50 : decode b_R_numberInChain 50 = .ok (.goto (-45), 3) := by decide +kernel
theorem d_R_numberInChain_53 : decode b_R_numberInChain 53 = .ok (.iconst (-1), 1) := by decide +kernel
theorem d_R_numberInChain_54 : decode b_R_numberInChain 54 = .ok (.ireturn, 1) := by decide +kernel
theorem d_R_make_0 : decode b_R_make 0 = .ok (.aload_n 0, 1) := by decide +kernel
theorem d_R_make_1 : decode b_R_make 1 = .ok (.getfield 11, 3) := by decide +kernel
theorem d_R_make_4 : decode b_R_make 4 = .ok (.aload_n 0, 1) := by decide +kernel
theorem d_R_make_5 : decode b_R_make 5 = .ok (.getfield 17, 3) := by decide +kernel
theorem d_R_make_8 : decode b_R_make 8 = .ok (.aaload, 1) := by decide +kernel
theorem d_R_make_9 : decode b_R_make 9 = .ok (.astore 6, 2) := by decide +kernel
theorem d_R_make_11 : decode b_R_make 11 = .ok (.aload 6, 2) := by decide +kernel
theorem d_R_make_13 : decode b_R_make 13 = .ok (.aload_n 0, 1) := by decide +kernel
theorem d_R_make_14 : decode b_R_make 14 = .ok (.getfield 21, 3) := by decide +kernel
theorem d_R_make_17 : decode b_R_make 17 = .ok (.putfield 25, 3) := by decide +kernel
theorem d_R_make_20 : decode b_R_make 20 = .ok (.aload 6, 2) := by decide +kernel
theorem d_R_make_22 : decode b_R_make 22 = .ok (.iload_n 1, 1) := by decide +kernel
theorem d_R_make_23 : decode b_R_make 23 = .ok (.putfield 32, 3) := by decide +kernel
theorem d_R_make_26 : decode b_R_make 26 = .ok (.aload 6, 2) := by decide +kernel
theorem d_R_make_28 : decode b_R_make 28 = .ok (.iload_n 2, 1) := by decide +kernel
theorem d_R_make_29 : decode b_R_make 29 = .ok (.putfield 35, 3) := by decide +kernel
theorem d_R_make_32 : decode b_R_make 32 = .ok (.aload 6, 2) := by decide +kernel
theorem d_R_make_34 : decode b_R_make 34 = .ok (.iload_n 3, 1) := by decide +kernel
theorem d_R_make_35 : decode b_R_make 35 = .ok (.putfield 38, 3) := by decide +kernel
theorem d_R_make_38 : decode b_R_make 38 = .ok (.aload 6, 2) := by decide +kernel
theorem d_R_make_40 : decode b_R_make 40 = .ok (.iload 4, 2) := by decide +kernel
theorem d_R_make_42 : decode b_R_make 42 = .ok (.putfield 41, 3) := by decide +kernel
theorem d_R_make_45 : decode b_R_make 45 = .ok (.aload 6, 2) := by decide +kernel
theorem d_R_make_47 : decode b_R_make 47 = .ok (.iload 5, 2) := by decide +kernel
theorem d_R_make_49 : decode b_R_make 49 = .ok (.putfield 44, 3) := by decide +kernel
theorem d_R_make_52 : decode b_R_make 52 = .ok (.aload 6, 2) := by decide +kernel
theorem d_R_make_54 : decode b_R_make 54 = .ok (.iconst 0, 1) := by decide +kernel
theorem d_R_make_55 : decode b_R_make 55 = .ok (.putfield 47, 3) := by decide +kernel
theorem d_R_make_58 : decode b_R_make 58 = .ok (.aload_n 0, 1) := by decide +kernel
theorem d_R_make_59 : decode b_R_make 59 = .ok (.dup, 1) := by decide +kernel
theorem d_R_make_60 : decode b_R_make 60 = .ok (.getfield 21, 3) := by decide +kernel
theorem d_R_make_63 : decode b_R_make 63 = .ok (.iconst 1, 1) := by decide +kernel
theorem d_R_make_64 : decode b_R_make 64 = .ok (.iadd, 1) := by decide +kernel
theorem d_R_make_65 : decode b_R_make 65 = .ok (.putfield 21, 3) := by decide +kernel
theorem d_R_make_68 : decode b_R_make 68 = .ok (.aload_n 0, 1) := by decide +kernel
theorem d_R_make_69 : decode b_R_make 69 = .ok (.dup, 1) := by decide +kernel
theorem d_R_make_70 : decode b_R_make 70 = .ok (.getfield 17, 3) := by decide +kernel
theorem d_R_make_73 : decode b_R_make 73 = .ok (.iconst 1, 1) := by decide +kernel
theorem d_R_make_74 : decode b_R_make 74 = .ok (.iadd, 1) := by decide +kernel
theorem d_R_make_75 : decode b_R_make 75 = .ok (.putfield 17, 3) := by decide +kernel
theorem d_R_make_78 : decode b_R_make 78 = .ok (.aload_n 0, 1) := by decide +kernel
theorem d_R_make_79 : decode b_R_make 79 = .ok (.aload_n 0, 1) := by decide +kernel
theorem d_R_make_80 : decode b_R_make 80 = .ok (.getfield 17, 3) := by decide +kernel
theorem d_R_make_83 : decode b_R_make 83 = .ok (.iconst 1, 1) := by decide +kernel
theorem d_R_make_84 : decode b_R_make 84 = .ok (.isub, 1) := by decide +kernel
theorem d_R_make_85 : decode b_R_make 85 = .ok (.invokevirtual 51, 3) := by decide +kernel
theorem d_R_make_88 : decode b_R_make 88 = .ok (.aload 6, 2) := by decide +kernel
theorem d_R_make_90 : decode b_R_make 90 = .ok (.getfield 25, 3) := by decide +kernel
theorem d_R_make_93 : decode b_R_make 93 = .ok (.ireturn, 1) := by decide +kernel
theorem d_R_move_0 : decode b_R_move 0 = .ok (.aload_n 0, 1) := by decide +kernel
theorem d_R_move_1 : decode b_R_move 1 = .ok (.getfield 11, 3) := by decide +kernel
theorem d_R_move_4 : decode b_R_move 4 = .ok (.iload_n 1, 1) := by decide +kernel
theorem d_R_move_5 : decode b_R_move 5 = .ok (.aaload, 1) := by decide +kernel
theorem d_R_move_6 : decode b_R_move 6 = .ok (.iload_n 2, 1) := by decide +kernel
theorem d_R_move_7 : decode b_R_move 7 = .ok (.putfield 35, 3) := by decide +kernel
theorem d_R_move_10 : decode b_R_move 10 = .ok (.aload_n 0, 1) := by decide +kernel
theorem d_R_move_11 : decode b_R_move 11 = .ok (.iload_n 1, 1) := by decide +kernel
theorem d_R_move_12 : decode b_R_move 12 = .ok (.invokevirtual 51, 3) := by decide +kernel
theorem d_R_move_15 : decode b_R_move 15 = .ok (.return_, 1) := by decide +kernel
theorem d_R_takeAway_0 : decode b_R_takeAway 0 = .ok (.aload_n 0, 1) := by decide +kernel
theorem d_R_takeAway_1 : decode b_R_takeAway 1 = .ok (.dup, 1) := by decide +kernel
theorem d_R_takeAway_2 : decode b_R_takeAway 2 = .ok (.getfield 17, 3) := by decide +kernel
theorem d_R_takeAway_5 : decode b_R_takeAway 5 = .ok (.iconst 1, 1) := by decide +kernel
theorem d_R_takeAway_6 : decode b_R_takeAway 6 = .ok (.isub, 1) := by decide +kernel
theorem d_R_takeAway_7 : decode b_R_takeAway 7 = .ok (.putfield 17, 3) := by decide +kernel
theorem d_R_takeAway_10 : decode b_R_takeAway 10 = .ok (.iload_n 1, 1) := by decide +kernel
theorem d_R_takeAway_11 : decode b_R_takeAway 11 = .ok (.istore_n 2, 1) := by decide +kernel
theorem d_R_takeAway_12 : decode b_R_takeAway 12 = .ok (.iload_n 2, 1) := by decide +kernel
theorem d_R_takeAway_13 : decode b_R_takeAway 13 = .ok (.aload_n 0, 1) := by decide +kernel
theorem d_R_takeAway_14 : decode b_R_takeAway 14 = .ok (.getfield 17, 3) := by decide +kernel
theorem d_R_takeAway_17 : decode b_R_takeAway 17 = .ok (.if_icmp .ge 14, 3) := by decide +kernel
theorem d_R_takeAway_20 : decode b_R_takeAway 20 = .ok (.aload_n 0, 1) := by decide +kernel
theorem d_R_takeAway_21 : decode b_R_takeAway 21 = .ok (.iload_n 2, 1) := by decide +kernel
theorem d_R_takeAway_22 : decode b_R_takeAway 22 = .ok (.invokevirtual 55, 3) := by decide +kernel
theorem d_R_takeAway_25 : decode b_R_takeAway 25 = .ok (.iinc 2 1, 3) := by decide +kernel
theorem d_R_takeAway_28 : decode b_R_takeAway 28 = .ok (.goto (-16), 3) := by decide +kernel
theorem d_R_takeAway_31 : decode b_R_takeAway 31 = .ok (.return_, 1) := by decide +kernel
theorem d_R_settle_0 : decode b_R_settle 0 = .ok (.iload_n 1, 1) := by decide +kernel
theorem d_R_settle_1 : decode b_R_settle 1 = .ok (.istore_n 2, 1) := by decide +kernel
theorem d_R_settle_2 : decode b_R_settle 2 = .ok (.iload_n 2, 1) := by decide +kernel
theorem d_R_settle_3 : decode b_R_settle 3 = .ok (.ifCond .le 36, 3) := by decide +kernel
theorem d_R_settle_6 : decode b_R_settle 6 = .ok (.aload_n 0, 1) := by decide +kernel
theorem d_R_settle_7 : decode b_R_settle 7 = .ok (.getfield 11, 3) := by decide +kernel
theorem d_R_settle_10 : decode b_R_settle 10 = .ok (.iload_n 2, 1) := by decide +kernel
theorem d_R_settle_11 : decode b_R_settle 11 = .ok (.aaload, 1) := by decide +kernel
theorem d_R_settle_12 : decode b_R_settle 12 = .ok (.aload_n 0, 1) := by decide +kernel
theorem d_R_settle_13 : decode b_R_settle 13 = .ok (.getfield 11, 3) := by decide +kernel
theorem d_R_settle_16 : decode b_R_settle 16 = .ok (.iload_n 2, 1) := by decide +kernel
theorem d_R_settle_17 : decode b_R_settle 17 = .ok (.iconst 1, 1) := by decide +kernel
theorem d_R_settle_18 : decode b_R_settle 18 = .ok (.isub, 1) := by decide +kernel
theorem d_R_settle_19 : decode b_R_settle 19 = .ok (.aaload, 1) := by decide +kernel
theorem d_R_settle_20 : decode b_R_settle 20 = .ok (.invokevirtual 58, 3) := by decide +kernel
theorem d_R_settle_23 : decode b_R_settle 23 = .ok (.ifCond .eq 16, 3) := by decide +kernel
theorem d_R_settle_26 : decode b_R_settle 26 = .ok (.aload_n 0, 1) := by decide +kernel
theorem d_R_settle_27 : decode b_R_settle 27 = .ok (.iload_n 2, 1) := by decide +kernel
theorem d_R_settle_28 : decode b_R_settle 28 = .ok (.iconst 1, 1) := by decide +kernel
theorem d_R_settle_29 : decode b_R_settle 29 = .ok (.isub, 1) := by decide +kernel
theorem d_R_settle_30 : decode b_R_settle 30 = .ok (.invokevirtual 55, 3) := by decide +kernel
theorem d_R_settle_33 : decode b_R_settle 33 = .ok (.iinc 2 (-1), 3) := by decide +kernel
theorem d_R_settle_36 : decode b_R_settle 36 = .ok (.goto (-34), 3) := by decide +kernel
theorem d_R_settle_39 : decode b_R_settle 39 = .ok (.iload_n 1, 1) := by decide +kernel
theorem d_R_settle_40 : decode b_R_settle 40 = .ok (.istore_n 2, 1) := by decide +kernel
theorem d_R_settle_41 : decode b_R_settle 41 = .ok (.iload_n 2, 1) := by decide +kernel
theorem d_R_settle_42 : decode b_R_settle 42 = .ok (.iconst 1, 1) := by decide +kernel
theorem d_R_settle_43 : decode b_R_settle 43 = .ok (.iadd, 1) := by decide +kernel
theorem d_R_settle_44 : decode b_R_settle 44 = .ok (.aload_n 0, 1) := by decide +kernel
theorem d_R_settle_45 : decode b_R_settle 45 = .ok (.getfield 17, 3) := by decide +kernel
theorem d_R_settle_48 : decode b_R_settle 48 = .ok (.if_icmp .ge 34, 3) := by decide +kernel
theorem d_R_settle_51 : decode b_R_settle 51 = .ok (.aload_n 0, 1) := by decide +kernel
theorem d_R_settle_52 : decode b_R_settle 52 = .ok (.getfield 11, 3) := by decide +kernel
theorem d_R_settle_55 : decode b_R_settle 55 = .ok (.iload_n 2, 1) := by decide +kernel
theorem d_R_settle_56 : decode b_R_settle 56 = .ok (.iconst 1, 1) := by decide +kernel
theorem d_R_settle_57 : decode b_R_settle 57 = .ok (.iadd, 1) := by decide +kernel
theorem d_R_settle_58 : decode b_R_settle 58 = .ok (.aaload, 1) := by decide +kernel
theorem d_R_settle_59 : decode b_R_settle 59 = .ok (.aload_n 0, 1) := by decide +kernel
theorem d_R_settle_60 : decode b_R_settle 60 = .ok (.getfield 11, 3) := by decide +kernel
theorem d_R_settle_63 : decode b_R_settle 63 = .ok (.iload_n 2, 1) := by decide +kernel
theorem d_R_settle_64 : decode b_R_settle 64 = .ok (.aaload, 1) := by decide +kernel
theorem d_R_settle_65 : decode b_R_settle 65 = .ok (.invokevirtual 58, 3) := by decide +kernel
theorem d_R_settle_68 : decode b_R_settle 68 = .ok (.ifCond .eq 14, 3) := by decide +kernel
theorem d_R_settle_71 : decode b_R_settle 71 = .ok (.aload_n 0, 1) := by decide +kernel
theorem d_R_settle_72 : decode b_R_settle 72 = .ok (.iload_n 2, 1) := by decide +kernel
theorem d_R_settle_73 : decode b_R_settle 73 = .ok (.invokevirtual 55, 3) := by decide +kernel
theorem d_R_settle_76 : decode b_R_settle 76 = .ok (.iinc 2 1, 3) := by decide +kernel
theorem d_R_settle_79 : decode b_R_settle 79 = .ok (.goto (-38), 3) := by decide +kernel
theorem d_R_settle_82 : decode b_R_settle 82 = .ok (.return_, 1) := by decide +kernel
theorem d_R_swapWithNext_0 : decode b_R_swapWithNext 0 = .ok (.aload_n 0, 1) := by decide +kernel
theorem d_R_swapWithNext_1 : decode b_R_swapWithNext 1 = .ok (.getfield 11, 3) := by decide +kernel
theorem d_R_swapWithNext_4 : decode b_R_swapWithNext 4 = .ok (.iload_n 1, 1) := by decide +kernel
theorem d_R_swapWithNext_5 : decode b_R_swapWithNext 5 = .ok (.aaload, 1) := by decide +kernel
theorem d_R_swapWithNext_6 : decode b_R_swapWithNext 6 = .ok (.astore_n 2, 1) := by decide +kernel
theorem d_R_swapWithNext_7 : decode b_R_swapWithNext 7 = .ok (.aload_n 0, 1) := by decide +kernel
theorem d_R_swapWithNext_8 : decode b_R_swapWithNext 8 = .ok (.getfield 11, 3) := by decide +kernel
theorem d_R_swapWithNext_11 : decode b_R_swapWithNext 11 = .ok (.iload_n 1, 1) := by decide +kernel
theorem d_R_swapWithNext_12 : decode b_R_swapWithNext 12 = .ok (.aload_n 0, 1) := by decide +kernel
theorem d_R_swapWithNext_13 : decode b_R_swapWithNext 13 = .ok (.getfield 11, 3) := by decide +kernel
theorem d_R_swapWithNext_16 : decode b_R_swapWithNext 16 = .ok (.iload_n 1, 1) := by decide +kernel
theorem d_R_swapWithNext_17 : decode b_R_swapWithNext 17 = .ok (.iconst 1, 1) := by decide +kernel
theorem d_R_swapWithNext_18 : decode b_R_swapWithNext 18 = .ok (.iadd, 1) := by decide +kernel
theorem d_R_swapWithNext_19 : decode b_R_swapWithNext 19 = .ok (.aaload, 1) := by decide +kernel
theorem d_R_swapWithNext_20 : decode b_R_swapWithNext 20 = .ok (.aastore, 1) := by decide +kernel
theorem d_R_swapWithNext_21 : decode b_R_swapWithNext 21 = .ok (.aload_n 0, 1) := by decide +kernel
theorem d_R_swapWithNext_22 : decode b_R_swapWithNext 22 = .ok (.getfield 11, 3) := by decide +kernel
theorem d_R_swapWithNext_25 : decode b_R_swapWithNext 25 = .ok (.iload_n 1, 1) := by decide +kernel
theorem d_R_swapWithNext_26 : decode b_R_swapWithNext 26 = .ok (.iconst 1, 1) := by decide +kernel
theorem d_R_swapWithNext_27 : decode b_R_swapWithNext 27 = .ok (.iadd, 1) := by decide +kernel
theorem d_R_swapWithNext_28 : decode b_R_swapWithNext 28 = .ok (.aload_n 2, 1) := by decide +kernel
theorem d_R_swapWithNext_29 : decode b_R_swapWithNext 29 = .ok (.aastore, 1) := by decide +kernel
theorem d_R_swapWithNext_30 : decode b_R_swapWithNext 30 = .ok (.return_, 1) := by decide +kernel
theorem d_T_init_0 : decode b_T_init 0 = .ok (.aload_n 0, 1) := by decide +kernel
theorem d_T_init_1 : decode b_T_init 1 = .ok (.invokespecial 3, 3) := by decide +kernel
theorem d_T_init_4 : decode b_T_init 4 = .ok (.aload_n 0, 1) := by decide +kernel
theorem d_T_init_5 : decode b_T_init 5 = .ok (.bipush 100, 2) := by decide +kernel
theorem d_T_init_7 : decode b_T_init 7 = .ok (.newarray .int, 2) := by decide +kernel
theorem d_T_init_9 : decode b_T_init 9 = .ok (.putfield 9, 3) := by decide +kernel
theorem d_T_init_12 : decode b_T_init 12 = .ok (.aload_n 0, 1) := by decide +kernel
theorem d_T_init_13 : decode b_T_init 13 = .ok (.bipush 100, 2) := by decide +kernel
theorem d_T_init_15 : decode b_T_init 15 = .ok (.newarray .int, 2) := by decide +kernel
theorem d_T_init_17 : decode b_T_init 17 = .ok (.putfield 15, 3) := by decide +kernel
theorem d_T_init_20 : decode b_T_init 20 = .ok (.aload_n 0, 1) := by decide +kernel
theorem d_T_init_21 : decode b_T_init 21 = .ok (.iconst 0, 1) := by decide +kernel
theorem d_T_init_22 : decode b_T_init 22 = .ok (.putfield 18, 3) := by decide +kernel
theorem d_T_init_25 : decode b_T_init 25 = .ok (.return_, 1) := by decide +kernel
theorem d_T_clear_0 : decode b_T_clear 0 = .ok (.aload_n 0, 1) := by decide +kernel
theorem d_T_clear_1 : decode b_T_clear 1 = .ok (.iconst 0, 1) := by decide +kernel
theorem d_T_clear_2 : decode b_T_clear 2 = .ok (.putfield 18, 3) := by decide +kernel
theorem d_T_clear_5 : decode b_T_clear 5 = .ok (.return_, 1) := by decide +kernel
theorem d_T_has_0 : decode b_T_has 0 = .ok (.iload_n 1, 1) := by decide +kernel
theorem d_T_has_1 : decode b_T_has 1 = .ok (.ifCond .lt 15, 3) := by decide +kernel
theorem d_T_has_4 : decode b_T_has 4 = .ok (.iload_n 1, 1) := by decide +kernel
theorem d_T_has_5 : decode b_T_has 5 = .ok (.aload_n 0, 1) := by decide +kernel
theorem d_T_has_6 : decode b_T_has 6 = .ok (.getfield 18, 3) := by decide +kernel
theorem d_T_has_9 : decode b_T_has 9 = .ok (.if_icmp .ge 7, 3) := by decide +kernel
theorem d_T_has_12 : decode b_T_has 12 = .ok (.iconst 1, 1) := by decide +kernel
theorem d_T_has_13 : decode b_T_has 13 = .ok (.goto 4, 3) := by decide +kernel
theorem d_T_has_16 : decode b_T_has 16 = .ok (.iconst 0, 1) := by decide +kernel
theorem d_T_has_17 : decode b_T_has 17 = .ok (.ireturn, 1) := by decide +kernel
theorem d_T_note_0 : decode b_T_note 0 = .ok (.aload_n 0, 1) := by decide +kernel
theorem d_T_note_1 : decode b_T_note 1 = .ok (.getfield 18, 3) := by decide +kernel
theorem d_T_note_4 : decode b_T_note 4 = .ok (.bipush 100, 2) := by decide +kernel
theorem d_T_note_6 : decode b_T_note 6 = .ok (.if_icmp .lt 5, 3) := by decide +kernel
theorem d_T_note_9 : decode b_T_note 9 = .ok (.iconst 0, 1) := by decide +kernel
theorem d_T_note_10 : decode b_T_note 10 = .ok (.ireturn, 1) := by decide +kernel
theorem d_T_note_11 : decode b_T_note 11 = .ok (.aload_n 0, 1) := by decide +kernel
theorem d_T_note_12 : decode b_T_note 12 = .ok (.getfield 9, 3) := by decide +kernel
theorem d_T_note_15 : decode b_T_note 15 = .ok (.aload_n 0, 1) := by decide +kernel
theorem d_T_note_16 : decode b_T_note 16 = .ok (.getfield 18, 3) := by decide +kernel
theorem d_T_note_19 : decode b_T_note 19 = .ok (.iload_n 1, 1) := by decide +kernel
theorem d_T_note_20 : decode b_T_note 20 = .ok (.iastore, 1) := by decide +kernel
theorem d_T_note_21 : decode b_T_note 21 = .ok (.aload_n 0, 1) := by decide +kernel
theorem d_T_note_22 : decode b_T_note 22 = .ok (.getfield 15, 3) := by decide +kernel
theorem d_T_note_25 : decode b_T_note 25 = .ok (.aload_n 0, 1) := by decide +kernel
theorem d_T_note_26 : decode b_T_note 26 = .ok (.getfield 18, 3) := by decide +kernel
theorem d_T_note_29 : decode b_T_note 29 = .ok (.iload_n 2, 1) := by decide +kernel
theorem d_T_note_30 : decode b_T_note 30 = .ok (.iastore, 1) := by decide +kernel
theorem d_T_note_31 : decode b_T_note 31 = .ok (.aload_n 0, 1) := by decide +kernel
theorem d_T_note_32 : decode b_T_note 32 = .ok (.dup, 1) := by decide +kernel
theorem d_T_note_33 : decode b_T_note 33 = .ok (.getfield 18, 3) := by decide +kernel
theorem d_T_note_36 : decode b_T_note 36 = .ok (.iconst 1, 1) := by decide +kernel
theorem d_T_note_37 : decode b_T_note 37 = .ok (.iadd, 1) := by decide +kernel
theorem d_T_note_38 : decode b_T_note 38 = .ok (.putfield 18, 3) := by decide +kernel
theorem d_T_note_41 : decode b_T_note 41 = .ok (.iconst 1, 1) := by decide +kernel
theorem d_T_note_42 : decode b_T_note 42 = .ok (.ireturn, 1) := by decide +kernel
theorem d_K_init_0 : decode b_K_init 0 = .ok (.aload_n 0, 1) := by decide +kernel
theorem d_K_init_1 : decode b_K_init 1 = .ok (.invokespecial 3, 3) := by decide +kernel
theorem d_K_init_4 : decode b_K_init 4 = .ok (.aload_n 0, 1) := by decide +kernel
theorem d_K_init_5 : decode b_K_init 5 = .ok (.iconst 1, 1) := by decide +kernel
theorem d_K_init_6 : decode b_K_init 6 = .ok (.putfield 9, 3) := by decide +kernel
theorem d_K_init_9 : decode b_K_init 9 = .ok (.aload_n 0, 1) := by decide +kernel
theorem d_K_init_10 : decode b_K_init 10 = .ok (.iconst 0, 1) := by decide +kernel
theorem d_K_init_11 : decode b_K_init 11 = .ok (.putfield 15, 3) := by decide +kernel
theorem d_K_init_14 : decode b_K_init 14 = .ok (.aload_n 0, 1) := by decide +kernel
theorem d_K_init_15 : decode b_K_init 15 = .ok (.iconst 0, 1) := by decide +kernel
theorem d_K_init_16 : decode b_K_init 16 = .ok (.putfield 18, 3) := by decide +kernel
theorem d_K_init_19 : decode b_K_init 19 = .ok (.aload_n 0, 1) := by decide +kernel
theorem d_K_init_20 : decode b_K_init 20 = .ok (.iconst 0, 1) := by decide +kernel
theorem d_K_init_21 : decode b_K_init 21 = .ok (.putfield 21, 3) := by decide +kernel
theorem d_K_init_24 : decode b_K_init 24 = .ok (.aload_n 0, 1) := by decide +kernel
theorem d_K_init_25 : decode b_K_init 25 = .ok (.iconst (-1), 1) := by decide +kernel
theorem d_K_init_26 : decode b_K_init 26 = .ok (.putfield 24, 3) := by decide +kernel
theorem d_K_init_29 : decode b_K_init 29 = .ok (.return_, 1) := by decide +kernel
theorem d_K_failsOn_0 : decode b_K_failsOn 0 = .ok (.aload_n 0, 1) := by decide +kernel
theorem d_K_failsOn_1 : decode b_K_failsOn 1 = .ok (.getfield 21, 3) := by decide +kernel
theorem d_K_failsOn_4 : decode b_K_failsOn 4 = .ok (.ifCond .eq 15, 3) := by decide +kernel
theorem d_K_failsOn_7 : decode b_K_failsOn 7 = .ok (.iload_n 1, 1) := by decide +kernel
theorem d_K_failsOn_8 : decode b_K_failsOn 8 = .ok (.aload_n 0, 1) := by decide +kernel
theorem d_K_failsOn_9 : decode b_K_failsOn 9 = .ok (.getfield 18, 3) := by decide +kernel
theorem d_K_failsOn_12 : decode b_K_failsOn 12 = .ok (.if_icmp .ne 7, 3) := by decide +kernel
theorem d_K_failsOn_15 : decode b_K_failsOn 15 = .ok (.iconst 1, 1) := by decide +kernel
theorem d_K_failsOn_16 : decode b_K_failsOn 16 = .ok (.goto 4, 3) := by decide +kernel
theorem d_K_failsOn_19 : decode b_K_failsOn 19 = .ok (.iconst 0, 1) := by decide +kernel
theorem d_K_failsOn_20 : decode b_K_failsOn 20 = .ok (.ireturn, 1) := by decide +kernel
theorem d_K_reckon_0 : decode b_K_reckon 0 = .ok (.aload_n 0, 1) := by decide +kernel
theorem d_K_reckon_1 : decode b_K_reckon 1 = .ok (.getfield 9, 3) := by decide +kernel
theorem d_K_reckon_4 : decode b_K_reckon 4 = .ok (.iload_n 1, 1) := by decide +kernel
theorem d_K_reckon_5 : decode b_K_reckon 5 = .ok (.imul, 1) := by decide +kernel
theorem d_K_reckon_6 : decode b_K_reckon 6 = .ok (.aload_n 0, 1) := by decide +kernel
theorem d_K_reckon_7 : decode b_K_reckon 7 = .ok (.getfield 15, 3) := by decide +kernel
theorem d_K_reckon_10 : decode b_K_reckon 10 = .ok (.iadd, 1) := by decide +kernel
theorem d_K_reckon_11 : decode b_K_reckon 11 = .ok (.ireturn, 1) := by decide +kernel
theorem d_L_init_0 : decode b_L_init 0 = .ok (.aload_n 0, 1) := by decide +kernel
theorem d_L_init_1 : decode b_L_init 1 = .ok (.invokespecial 3, 3) := by decide +kernel
theorem d_L_init_4 : decode b_L_init 4 = .ok (.aload_n 0, 1) := by decide +kernel
theorem d_L_init_5 : decode b_L_init 5 = .ok (.new 9, 3) := by decide +kernel
theorem d_L_init_8 : decode b_L_init 8 = .ok (.dup, 1) := by decide +kernel
theorem d_L_init_9 : decode b_L_init 9 = .ok (.invokespecial 11, 3) := by decide +kernel
theorem d_L_init_12 : decode b_L_init 12 = .ok (.putfield 12, 3) := by decide +kernel
theorem d_L_init_15 : decode b_L_init 15 = .ok (.aload_n 0, 1) := by decide +kernel
theorem d_L_init_16 : decode b_L_init 16 = .ok (.bipush 12, 2) := by decide +kernel
theorem d_L_init_18 : decode b_L_init 18 = .ok (.anewarray 16, 3) := by decide +kernel
theorem d_L_init_21 : decode b_L_init 21 = .ok (.putfield 18, 3) := by decide +kernel
theorem d_L_init_24 : decode b_L_init 24 = .ok (.aload_n 0, 1) := by decide +kernel
theorem d_L_init_25 : decode b_L_init 25 = .ok (.new 22, 3) := by decide +kernel
theorem d_L_init_28 : decode b_L_init 28 = .ok (.dup, 1) := by decide +kernel
theorem d_L_init_29 : decode b_L_init 29 = .ok (.invokespecial 24, 3) := by decide +kernel
theorem d_L_init_32 : decode b_L_init 32 = .ok (.putfield 25, 3) := by decide +kernel
theorem d_L_init_35 : decode b_L_init 35 = .ok (.aload_n 0, 1) := by decide +kernel
theorem d_L_init_36 : decode b_L_init 36 = .ok (.iconst 3, 1) := by decide +kernel
theorem d_L_init_37 : decode b_L_init 37 = .ok (.newarray .int, 2) := by decide +kernel
theorem d_L_init_39 : decode b_L_init 39 = .ok (.putfield 29, 3) := by decide +kernel
theorem d_L_init_42 : decode b_L_init 42 = .ok (.aload_n 0, 1) := by decide +kernel
theorem d_L_init_43 : decode b_L_init 43 = .ok (.iconst 3, 1) := by decide +kernel
theorem d_L_init_44 : decode b_L_init 44 = .ok (.newarray .int, 2) := by decide +kernel
theorem d_L_init_46 : decode b_L_init 46 = .ok (.putfield 33, 3) := by decide +kernel
theorem d_L_init_49 : decode b_L_init 49 = .ok (.aload_n 0, 1) := by decide +kernel
theorem d_L_init_50 : decode b_L_init 50 = .ok (.iconst 0, 1) := by decide +kernel
theorem d_L_init_51 : decode b_L_init 51 = .ok (.putfield 36, 3) := by decide +kernel
theorem d_L_init_54 : decode b_L_init 54 = .ok (.aload_n 0, 1) := by decide +kernel
theorem d_L_init_55 : decode b_L_init 55 = .ok (.iconst 0, 1) := by decide +kernel
theorem d_L_init_56 : decode b_L_init 56 = .ok (.putfield 40, 3) := by decide +kernel
theorem d_L_init_59 : decode b_L_init 59 = .ok (.aload_n 0, 1) := by decide +kernel
theorem d_L_init_60 : decode b_L_init 60 = .ok (.iconst 0, 1) := by decide +kernel
theorem d_L_init_61 : decode b_L_init 61 = .ok (.putfield 44, 3) := by decide +kernel
theorem d_L_init_64 : decode b_L_init 64 = .ok (.aload_n 0, 1) := by decide +kernel
theorem d_L_init_65 : decode b_L_init 65 = .ok (.iconst 0, 1) := by decide +kernel
theorem d_L_init_66 : decode b_L_init 66 = .ok (.putfield 47, 3) := by decide +kernel
theorem d_L_init_69 : decode b_L_init 69 = .ok (.aload_n 0, 1) := by decide +kernel
theorem d_L_init_70 : decode b_L_init 70 = .ok (.iconst 0, 1) := by decide +kernel
theorem d_L_init_71 : decode b_L_init 71 = .ok (.putfield 50, 3) := by decide +kernel
theorem d_L_init_74 : decode b_L_init 74 = .ok (.aload_n 0, 1) := by decide +kernel
theorem d_L_init_75 : decode b_L_init 75 = .ok (.iconst 0, 1) := by decide +kernel
theorem d_L_init_76 : decode b_L_init 76 = .ok (.putfield 53, 3) := by decide +kernel
theorem d_L_init_79 : decode b_L_init 79 = .ok (.iconst 0, 1) := by decide +kernel
theorem d_L_init_80 : decode b_L_init 80 = .ok (.istore_n 1, 1) := by decide +kernel
theorem d_L_init_81 : decode b_L_init 81 = .ok (.iload_n 1, 1) := by decide +kernel
theorem d_L_init_82 : decode b_L_init 82 = .ok (.aload_n 0, 1) := by decide +kernel
theorem d_L_init_83 : decode b_L_init 83 = .ok (.getfield 18, 3) := by decide +kernel
theorem d_L_init_86 : decode b_L_init 86 = .ok (.arraylength, 1) := by decide +kernel
theorem d_L_init_87 : decode b_L_init 87 = .ok (.if_icmp .ge 22, 3) := by decide +kernel
theorem d_L_init_90 : decode b_L_init 90 = .ok (.aload_n 0, 1) := by decide +kernel
theorem d_L_init_91 : decode b_L_init 91 = .ok (.getfield 18, 3) := by decide +kernel
theorem d_L_init_94 : decode b_L_init 94 = .ok (.iload_n 1, 1) := by decide +kernel
theorem d_L_init_95 : decode b_L_init 95 = .ok (.new 16, 3) := by decide +kernel
theorem d_L_init_98 : decode b_L_init 98 = .ok (.dup, 1) := by decide +kernel
theorem d_L_init_99 : decode b_L_init 99 = .ok (.invokespecial 56, 3) := by decide +kernel
theorem d_L_init_102 : decode b_L_init 102 = .ok (.aastore, 1) := by decide +kernel
theorem d_L_init_103 : decode b_L_init 103 = .ok (.iinc 1 1, 3) := by decide +kernel
theorem d_L_init_106 : decode b_L_init 106 = .ok (.goto (-25), 3) := by decide +kernel
theorem d_L_init_109 : decode b_L_init 109 = .ok (.return_, 1) := by decide +kernel
theorem d_L_advise_0 : decode b_L_advise 0 = .ok (.aload_n 0, 1) := by decide +kernel
theorem d_L_advise_1 : decode b_L_advise 1 = .ok (.getfield 36, 3) := by decide +kernel
theorem d_L_advise_4 : decode b_L_advise 4 = .ok (.ifCond .ne 23, 3) := by decide +kernel
theorem d_L_advise_7 : decode b_L_advise 7 = .ok (.aload_n 0, 1) := by decide +kernel
theorem d_L_advise_8 : decode b_L_advise 8 = .ok (.getfield 12, 3) := by decide +kernel
theorem d_L_advise_11 : decode b_L_advise 11 = .ok (.invokevirtual 57, 3) := by decide +kernel
theorem d_L_advise_14 : decode b_L_advise 14 = .ok (.ifCond .ne 13, 3) := by decide +kernel
theorem d_L_advise_17 : decode b_L_advise 17 = .ok (.iload_n 1, 1) := by decide +kernel
theorem d_L_advise_18 : decode b_L_advise 18 = .ok (.ifCond .lt 9, 3) := by decide +kernel
theorem d_L_advise_21 : decode b_L_advise 21 = .ok (.iload_n 1, 1) := by decide +kernel
theorem d_L_advise_22 : decode b_L_advise 22 = .ok (.bipush 7, 2) := by decide +kernel
theorem d_L_advise_24 : decode b_L_advise 24 = .ok (.if_icmp .le 5, 3) := by decide +kernel
theorem d_L_advise_27 : decode b_L_advise 27 = .ok (.iconst (-1), 1) := by decide +kernel
theorem d_L_advise_28 : decode b_L_advise 28 = .ok (.ireturn, 1) := by decide +kernel
theorem d_L_advise_29 : decode b_L_advise 29 = .ok (.iload_n 3, 1) := by decide +kernel
theorem d_L_advise_30 : decode b_L_advise 30 = .ok (.iconst 1, 1) := by decide +kernel
theorem d_L_advise_31 : decode b_L_advise 31 = .ok (.if_icmp .lt 20, 3) := by decide +kernel
theorem d_L_advise_34 : decode b_L_advise 34 = .ok (.iload_n 3, 1) := by decide +kernel
theorem d_L_advise_35 : decode b_L_advise 35 = .ok (.bipush 63, 2) := by decide +kernel
theorem d_L_advise_37 : decode b_L_advise 37 = .ok (.if_icmp .gt 14, 3) := by decide +kernel
theorem d_L_advise_40 : decode b_L_advise 40 = .ok (.iload_n 1, 1) := by decide +kernel
theorem d_L_advise_41 : decode b_L_advise 41 = .ok (.iload 4, 2) := by decide +kernel
theorem d_L_advise_43 : decode b_L_advise 43 = .ok (.iload 5, 2) := by decide +kernel
theorem d_L_advise_45 : decode b_L_advise 45 = .ok (.invokestatic 61, 3) := by decide +kernel
theorem d_L_advise_48 : decode b_L_advise 48 = .ok (.ifCond .ne 5, 3) := by decide +kernel
theorem d_L_advise_51 : decode b_L_advise 51 = .ok (.iconst (-1), 1) := by decide +kernel
theorem d_L_advise_52 : decode b_L_advise 52 = .ok (.ireturn, 1) := by decide +kernel
theorem d_L_advise_53 : decode b_L_advise 53 = .ok (.aload_n 0, 1) := by decide +kernel
theorem d_L_advise_54 : decode b_L_advise 54 = .ok (.getfield 12, 3) := by decide +kernel
theorem d_L_advise_57 : decode b_L_advise 57 = .ok (.iload_n 1, 1) := by decide +kernel
theorem d_L_advise_58 : decode b_L_advise 58 = .ok (.iload_n 2, 1) := by decide +kernel
theorem d_L_advise_59 : decode b_L_advise 59 = .ok (.iload_n 3, 1) := by decide +kernel
theorem d_L_advise_60 : decode b_L_advise 60 = .ok (.iload 4, 2) := by decide +kernel
theorem d_L_advise_62 : decode b_L_advise 62 = .ok (.iload 5, 2) := by decide +kernel
theorem d_L_advise_64 : decode b_L_advise 64 = .ok (.invokevirtual 65, 3) := by decide +kernel
theorem d_L_advise_67 : decode b_L_advise 67 = .ok (.ireturn, 1) := by decide +kernel
theorem d_L_when_0 : decode b_L_when 0 = .ok (.aload_n 0, 1) := by decide +kernel
theorem d_L_when_1 : decode b_L_when 1 = .ok (.getfield 12, 3) := by decide +kernel
theorem d_L_when_4 : decode b_L_when 4 = .ok (.iload_n 1, 1) := by decide +kernel
theorem d_L_when_5 : decode b_L_when 5 = .ok (.invokevirtual 69, 3) := by decide +kernel
theorem d_L_when_8 : decode b_L_when 8 = .ok (.istore 4, 2) := by decide +kernel
theorem d_L_when_10 : decode b_L_when 10 = .ok (.aload_n 0, 1) := by decide +kernel
theorem d_L_when_11 : decode b_L_when 11 = .ok (.getfield 36, 3) := by decide +kernel
theorem d_L_when_14 : decode b_L_when 14 = .ok (.ifCond .ne 14, 3) := by decide +kernel
theorem d_L_when_17 : decode b_L_when 17 = .ok (.iload 4, 2) := by decide +kernel
theorem d_L_when_19 : decode b_L_when 19 = .ok (.iconst (-1), 1) := by decide +kernel
theorem d_L_when_20 : decode b_L_when 20 = .ok (.if_icmp .eq 8, 3) := by decide +kernel
theorem d_L_when_23 : decode b_L_when 23 = .ok (.iload_n 2, 1) := by decide +kernel
theorem d_L_when_24 : decode b_L_when 24 = .ok (.iload_n 3, 1) := by decide +kernel
theorem d_L_when_25 : decode b_L_when 25 = .ok (.if_icmp .le 5, 3) := by decide +kernel
theorem d_L_when_28 : decode b_L_when 28 = .ok (.iconst 0, 1) := by decide +kernel
theorem d_L_when_29 : decode b_L_when 29 = .ok (.ireturn, 1) := by decide +kernel
theorem d_L_when_30 : decode b_L_when 30 = .ok (.aload_n 0, 1) := by decide +kernel
theorem d_L_when_31 : decode b_L_when 31 = .ok (.getfield 12, 3) := by decide +kernel
theorem d_L_when_34 : decode b_L_when 34 = .ok (.iload 4, 2) := by decide +kernel
theorem d_L_when_36 : decode b_L_when 36 = .ok (.invokevirtual 73, 3) := by decide +kernel
theorem d_L_when_39 : decode b_L_when 39 = .ok (.iload_n 2, 1) := by decide +kernel
theorem d_L_when_40 : decode b_L_when 40 = .ok (.iload_n 3, 1) := by decide +kernel
theorem d_L_when_41 : decode b_L_when 41 = .ok (.invokevirtual 77, 3) := by decide +kernel
theorem d_L_when_44 : decode b_L_when 44 = .ok (.iconst 1, 1) := by decide +kernel
theorem d_L_when_45 : decode b_L_when 45 = .ok (.ireturn, 1) := by decide +kernel
theorem d_L_reorder_0 : decode b_L_reorder 0 = .ok (.aload_n 0, 1) := by decide +kernel
theorem d_L_reorder_1 : decode b_L_reorder 1 = .ok (.getfield 12, 3) := by decide +kernel
theorem d_L_reorder_4 : decode b_L_reorder 4 = .ok (.iload_n 1, 1) := by decide +kernel
theorem d_L_reorder_5 : decode b_L_reorder 5 = .ok (.invokevirtual 69, 3) := by decide +kernel
theorem d_L_reorder_8 : decode b_L_reorder 8 = .ok (.istore_n 3, 1) := by decide +kernel
theorem d_L_reorder_9 : decode b_L_reorder 9 = .ok (.aload_n 0, 1) := by decide +kernel
theorem d_L_reorder_10 : decode b_L_reorder 10 = .ok (.getfield 36, 3) := by decide +kernel
theorem d_L_reorder_13 : decode b_L_reorder 13 = .ok (.ifCond .ne 8, 3) := by decide +kernel
theorem d_L_reorder_16 : decode b_L_reorder 16 = .ok (.iload_n 3, 1) := by decide +kernel
theorem d_L_reorder_17 : decode b_L_reorder 17 = .ok (.iconst (-1), 1) := by decide +kernel
theorem d_L_reorder_18 : decode b_L_reorder 18 = .ok (.if_icmp .ne 5, 3) := by decide +kernel
theorem d_L_reorder_21 : decode b_L_reorder 21 = .ok (.iconst 0, 1) := by decide +kernel
theorem d_L_reorder_22 : decode b_L_reorder 22 = .ok (.ireturn, 1) := by decide +kernel
theorem d_L_reorder_23 : decode b_L_reorder 23 = .ok (.aload_n 0, 1) := by decide +kernel
theorem d_L_reorder_24 : decode b_L_reorder 24 = .ok (.getfield 12, 3) := by decide +kernel
theorem d_L_reorder_27 : decode b_L_reorder 27 = .ok (.iload_n 3, 1) := by decide +kernel
theorem d_L_reorder_28 : decode b_L_reorder 28 = .ok (.iload_n 2, 1) := by decide +kernel
theorem d_L_reorder_29 : decode b_L_reorder 29 = .ok (.invokevirtual 83, 3) := by decide +kernel
theorem d_L_reorder_32 : decode b_L_reorder 32 = .ok (.iconst 1, 1) := by decide +kernel
theorem d_L_reorder_33 : decode b_L_reorder 33 = .ok (.ireturn, 1) := by decide +kernel
theorem d_L_remove_0 : decode b_L_remove 0 = .ok (.aload_n 0, 1) := by decide +kernel
theorem d_L_remove_1 : decode b_L_remove 1 = .ok (.getfield 12, 3) := by decide +kernel
theorem d_L_remove_4 : decode b_L_remove 4 = .ok (.iload_n 1, 1) := by decide +kernel
theorem d_L_remove_5 : decode b_L_remove 5 = .ok (.invokevirtual 69, 3) := by decide +kernel
theorem d_L_remove_8 : decode b_L_remove 8 = .ok (.istore_n 2, 1) := by decide +kernel
theorem d_L_remove_9 : decode b_L_remove 9 = .ok (.aload_n 0, 1) := by decide +kernel
theorem d_L_remove_10 : decode b_L_remove 10 = .ok (.getfield 36, 3) := by decide +kernel
theorem d_L_remove_13 : decode b_L_remove 13 = .ok (.ifCond .ne 8, 3) := by decide +kernel
theorem d_L_remove_16 : decode b_L_remove 16 = .ok (.iload_n 2, 1) := by decide +kernel
theorem d_L_remove_17 : decode b_L_remove 17 = .ok (.iconst (-1), 1) := by decide +kernel
theorem d_L_remove_18 : decode b_L_remove 18 = .ok (.if_icmp .ne 5, 3) := by decide +kernel
theorem d_L_remove_21 : decode b_L_remove 21 = .ok (.iconst 0, 1) := by decide +kernel
theorem d_L_remove_22 : decode b_L_remove 22 = .ok (.ireturn, 1) := by decide +kernel
theorem d_L_remove_23 : decode b_L_remove 23 = .ok (.aload_n 0, 1) := by decide +kernel
theorem d_L_remove_24 : decode b_L_remove 24 = .ok (.getfield 12, 3) := by decide +kernel
theorem d_L_remove_27 : decode b_L_remove 27 = .ok (.iload_n 2, 1) := by decide +kernel
theorem d_L_remove_28 : decode b_L_remove 28 = .ok (.invokevirtual 86, 3) := by decide +kernel
theorem d_L_remove_31 : decode b_L_remove 31 = .ok (.iconst 1, 1) := by decide +kernel
theorem d_L_remove_32 : decode b_L_remove 32 = .ok (.ireturn, 1) := by decide +kernel
theorem d_L_freeze_0 : decode b_L_freeze 0 = .ok (.aload_n 0, 1) := by decide +kernel
theorem d_L_freeze_1 : decode b_L_freeze 1 = .ok (.iload_n 1, 1) := by decide +kernel
theorem d_L_freeze_2 : decode b_L_freeze 2 = .ok (.putfield 36, 3) := by decide +kernel
theorem d_L_freeze_5 : decode b_L_freeze 5 = .ok (.return_, 1) := by decide +kernel
theorem d_L_plan_0 : decode b_L_plan 0 = .ok (.iload_n 1, 1) := by decide +kernel
theorem d_L_plan_1 : decode b_L_plan 1 = .ok (.invokestatic 90, 3) := by decide +kernel
theorem d_L_plan_4 : decode b_L_plan 4 = .ok (.ifCond .eq 10, 3) := by decide +kernel
theorem d_L_plan_7 : decode b_L_plan 7 = .ok (.iload_n 2, 1) := by decide +kernel
theorem d_L_plan_8 : decode b_L_plan 8 = .ok (.invokestatic 94, 3) := by decide +kernel
theorem d_L_plan_11 : decode b_L_plan 11 = .ok (.ifCond .ne 5, 3) := by decide +kernel
theorem d_L_plan_14 : decode b_L_plan 14 = .ok (.iconst 0, 1) := by decide +kernel
theorem d_L_plan_15 : decode b_L_plan 15 = .ok (.ireturn, 1) := by decide +kernel
theorem d_L_plan_16 : decode b_L_plan 16 = .ok (.aload_n 0, 1) := by decide +kernel
theorem d_L_plan_17 : decode b_L_plan 17 = .ok (.iload_n 1, 1) := by decide +kernel
theorem d_L_plan_18 : decode b_L_plan 18 = .ok (.iload_n 2, 1) := by decide +kernel
theorem d_L_plan_19 : decode b_L_plan 19 = .ok (.invokevirtual 97, 3) := by decide +kernel
theorem d_L_plan_22 : decode b_L_plan 22 = .ok (.astore 5, 2) := by decide +kernel
theorem d_L_plan_24 : decode b_L_plan 24 = .ok (.aload 5, 2) := by decide +kernel
theorem d_L_plan_26 : decode b_L_plan 26 = .ok (.iload_n 3, 1) := by decide +kernel
theorem d_L_plan_27 : decode b_L_plan 27 = .ok (.putfield 101, 3) := by decide +kernel
theorem d_L_plan_30 : decode b_L_plan 30 = .ok (.aload 5, 2) := by decide +kernel
theorem d_L_plan_32 : decode b_L_plan 32 = .ok (.iload 4, 2) := by decide +kernel
theorem d_L_plan_34 : decode b_L_plan 34 = .ok (.putfield 104, 3) := by decide +kernel
theorem d_L_plan_37 : decode b_L_plan 37 = .ok (.iconst 1, 1) := by decide +kernel
theorem d_L_plan_38 : decode b_L_plan 38 = .ok (.ireturn, 1) := by decide +kernel
theorem d_L_fail_0 : decode b_L_fail 0 = .ok (.iload_n 1, 1) := by decide +kernel
theorem d_L_fail_1 : decode b_L_fail 1 = .ok (.invokestatic 90, 3) := by decide +kernel
theorem d_L_fail_4 : decode b_L_fail 4 = .ok (.ifCond .eq 18, 3) := by decide +kernel
theorem d_L_fail_7 : decode b_L_fail 7 = .ok (.iload_n 2, 1) := by decide +kernel
theorem d_L_fail_8 : decode b_L_fail 8 = .ok (.invokestatic 94, 3) := by decide +kernel
theorem d_L_fail_11 : decode b_L_fail 11 = .ok (.ifCond .eq 11, 3) := by decide +kernel
theorem d_L_fail_14 : decode b_L_fail 14 = .ok (.iload 4, 2) := by decide +kernel
theorem d_L_fail_16 : decode b_L_fail 16 = .ok (.invokestatic 107, 3) := by decide +kernel
theorem d_L_fail_19 : decode b_L_fail 19 = .ok (.ifCond .ne 5, 3) := by decide +kernel
theorem d_L_fail_22 : decode b_L_fail 22 = .ok (.iconst 0, 1) := by decide +kernel
theorem d_L_fail_23 : decode b_L_fail 23 = .ok (.ireturn, 1) := by decide +kernel
theorem d_L_fail_24 : decode b_L_fail 24 = .ok (.aload_n 0, 1) := by decide +kernel
theorem d_L_fail_25 : decode b_L_fail 25 = .ok (.iload_n 1, 1) := by decide +kernel
theorem d_L_fail_26 : decode b_L_fail 26 = .ok (.iload_n 2, 1) := by decide +kernel
theorem d_L_fail_27 : decode b_L_fail 27 = .ok (.invokevirtual 97, 3) := by decide +kernel
theorem d_L_fail_30 : decode b_L_fail 30 = .ok (.astore 5, 2) := by decide +kernel
theorem d_L_fail_32 : decode b_L_fail 32 = .ok (.aload 5, 2) := by decide +kernel
theorem d_L_fail_34 : decode b_L_fail 34 = .ok (.iload_n 3, 1) := by decide +kernel
theorem d_L_fail_35 : decode b_L_fail 35 = .ok (.putfield 110, 3) := by decide +kernel
theorem d_L_fail_38 : decode b_L_fail 38 = .ok (.aload 5, 2) := by decide +kernel
theorem d_L_fail_40 : decode b_L_fail 40 = .ok (.iload 4, 2) := by decide +kernel
theorem d_L_fail_42 : decode b_L_fail 42 = .ok (.putfield 113, 3) := by decide +kernel
theorem d_L_fail_45 : decode b_L_fail 45 = .ok (.iconst 1, 1) := by decide +kernel
theorem d_L_fail_46 : decode b_L_fail 46 = .ok (.ireturn, 1) := by decide +kernel
theorem d_L_calls_0 : decode b_L_calls 0 = .ok (.iload_n 1, 1) := by decide +kernel
theorem d_L_calls_1 : decode b_L_calls 1 = .ok (.invokestatic 90, 3) := by decide +kernel
theorem d_L_calls_4 : decode b_L_calls 4 = .ok (.ifCond .eq 22, 3) := by decide +kernel
theorem d_L_calls_7 : decode b_L_calls 7 = .ok (.iload_n 2, 1) := by decide +kernel
theorem d_L_calls_8 : decode b_L_calls 8 = .ok (.invokestatic 94, 3) := by decide +kernel
theorem d_L_calls_11 : decode b_L_calls 11 = .ok (.ifCond .eq 15, 3) := by decide +kernel
theorem d_L_calls_14 : decode b_L_calls 14 = .ok (.iload_n 3, 1) := by decide +kernel
theorem d_L_calls_15 : decode b_L_calls 15 = .ok (.iconst (-1), 1) := by decide +kernel
theorem d_L_calls_16 : decode b_L_calls 16 = .ok (.if_icmp .eq 12, 3) := by decide +kernel
theorem d_L_calls_19 : decode b_L_calls 19 = .ok (.iload_n 3, 1) := by decide +kernel
theorem d_L_calls_20 : decode b_L_calls 20 = .ok (.invokestatic 94, 3) := by decide +kernel
theorem d_L_calls_23 : decode b_L_calls 23 = .ok (.ifCond .ne 5, 3) := by decide +kernel
theorem d_L_calls_26 : decode b_L_calls 26 = .ok (.iconst 0, 1) := by decide +kernel
theorem d_L_calls_27 : decode b_L_calls 27 = .ok (.ireturn, 1) := by decide +kernel
theorem d_L_calls_28 : decode b_L_calls 28 = .ok (.aload_n 0, 1) := by decide +kernel
theorem d_L_calls_29 : decode b_L_calls 29 = .ok (.iload_n 1, 1) := by decide +kernel
theorem d_L_calls_30 : decode b_L_calls 30 = .ok (.iload_n 2, 1) := by decide +kernel
theorem d_L_calls_31 : decode b_L_calls 31 = .ok (.invokevirtual 97, 3) := by decide +kernel
theorem d_L_calls_34 : decode b_L_calls 34 = .ok (.iload_n 3, 1) := by decide +kernel
theorem d_L_calls_35 : decode b_L_calls 35 = .ok (.putfield 116, 3) := by decide +kernel
theorem d_L_calls_38 : decode b_L_calls 38 = .ok (.iconst 1, 1) := by decide +kernel
theorem d_L_calls_39 : decode b_L_calls 39 = .ok (.ireturn, 1) := by decide +kernel
theorem d_L_source_0 : decode b_L_source 0 = .ok (.iload_n 1, 1) := by decide +kernel
theorem d_L_source_1 : decode b_L_source 1 = .ok (.ifCond .lt 8, 3) := by decide +kernel
theorem d_L_source_4 : decode b_L_source 4 = .ok (.iload_n 1, 1) := by decide +kernel
theorem d_L_source_5 : decode b_L_source 5 = .ok (.iconst 2, 1) := by decide +kernel
theorem d_L_source_6 : decode b_L_source 6 = .ok (.if_icmp .le 5, 3) := by decide +kernel
theorem d_L_source_9 : decode b_L_source 9 = .ok (.iconst 0, 1) := by decide +kernel
theorem d_L_source_10 : decode b_L_source 10 = .ok (.ireturn, 1) := by decide +kernel
theorem d_L_source_11 : decode b_L_source 11 = .ok (.aload_n 0, 1) := by decide +kernel
theorem d_L_source_12 : decode b_L_source 12 = .ok (.iload_n 1, 1) := by decide +kernel
theorem d_L_source_13 : decode b_L_source 13 = .ok (.putfield 40, 3) := by decide +kernel
theorem d_L_source_16 : decode b_L_source 16 = .ok (.aload_n 0, 1) := by decide +kernel
theorem d_L_source_17 : decode b_L_source 17 = .ok (.iconst 0, 1) := by decide +kernel
theorem d_L_source_18 : decode b_L_source 18 = .ok (.putfield 44, 3) := by decide +kernel
theorem d_L_source_21 : decode b_L_source 21 = .ok (.iconst 1, 1) := by decide +kernel
theorem d_L_source_22 : decode b_L_source 22 = .ok (.ireturn, 1) := by decide +kernel
theorem d_L_invoke_0 : decode b_L_invoke 0 = .ok (.iload_n 1, 1) := by decide +kernel
theorem d_L_invoke_1 : decode b_L_invoke 1 = .ok (.invokestatic 94, 3) := by decide +kernel
theorem d_L_invoke_4 : decode b_L_invoke 4 = .ok (.ifCond .ne 5, 3) := by decide +kernel
theorem d_L_invoke_7 : decode b_L_invoke 7 = .ok (.iconst (-1), 1) := by decide +kernel
theorem d_L_invoke_8 : decode b_L_invoke 8 = .ok (.ireturn, 1) := by decide +kernel
theorem d_L_invoke_9 : decode b_L_invoke 9 = .ok (.aload_n 0, 1) := by decide +kernel
theorem d_L_invoke_10 : decode b_L_invoke 10 = .ok (.getfield 25, 3) := by decide +kernel
theorem d_L_invoke_13 : decode b_L_invoke 13 = .ok (.invokevirtual 119, 3) := by decide +kernel
theorem d_L_invoke_16 : decode b_L_invoke 16 = .ok (.aload_n 0, 1) := by decide +kernel
theorem d_L_invoke_17 : decode b_L_invoke 17 = .ok (.iconst 0, 1) := by decide +kernel
theorem d_L_invoke_18 : decode b_L_invoke 18 = .ok (.putfield 47, 3) := by decide +kernel
theorem d_L_invoke_21 : decode b_L_invoke 21 = .ok (.aload_n 0, 1) := by decide +kernel
theorem d_L_invoke_22 : decode b_L_invoke 22 = .ok (.iconst 0, 1) := by decide +kernel
theorem d_L_invoke_23 : decode b_L_invoke 23 = .ok (.putfield 50, 3) := by decide +kernel
theorem d_L_invoke_26 : decode b_L_invoke 26 = .ok (.aload_n 0, 1) := by decide +kernel
theorem d_L_invoke_27 : decode b_L_invoke 27 = .ok (.iload_n 1, 1) := by decide +kernel
theorem d_L_invoke_28 : decode b_L_invoke 28 = .ok (.iload_n 2, 1) := by decide +kernel
theorem d_L_invoke_29 : decode b_L_invoke 29 = .ok (.iconst 0, 1) := by decide +kernel
theorem d_L_invoke_30 : decode b_L_invoke 30 = .ok (.invokevirtual 122, 3) := by decide +kernel
theorem d_L_invoke_33 : decode b_L_invoke 33 = .ok (.ireturn, 1) := by decide +kernel
theorem d_L_result_0 : decode b_L_result 0 = .ok (.aload_n 0, 1) := by decide +kernel
theorem d_L_result_1 : decode b_L_result 1 = .ok (.getfield 53, 3) := by decide +kernel
theorem d_L_result_4 : decode b_L_result 4 = .ok (.ireturn, 1) := by decide +kernel
theorem d_L_events_0 : decode b_L_events 0 = .ok (.aload_n 0, 1) := by decide +kernel
theorem d_L_events_1 : decode b_L_events 1 = .ok (.getfield 25, 3) := by decide +kernel
theorem d_L_events_4 : decode b_L_events 4 = .ok (.getfield 126, 3) := by decide +kernel
theorem d_L_events_7 : decode b_L_events 7 = .ok (.ireturn, 1) := by decide +kernel
theorem d_L_who_0 : decode b_L_who 0 = .ok (.aload_n 0, 1) := by decide +kernel
theorem d_L_who_1 : decode b_L_who 1 = .ok (.getfield 25, 3) := by decide +kernel
theorem d_L_who_4 : decode b_L_who 4 = .ok (.iload_n 1, 1) := by decide +kernel
theorem d_L_who_5 : decode b_L_who 5 = .ok (.invokevirtual 129, 3) := by decide +kernel
theorem d_L_who_8 : decode b_L_who 8 = .ok (.ifCond .eq 15, 3) := by decide +kernel
theorem d_L_who_11 : decode b_L_who 11 = .ok (.aload_n 0, 1) := by decide +kernel
theorem d_L_who_12 : decode b_L_who 12 = .ok (.getfield 25, 3) := by decide +kernel
theorem d_L_who_15 : decode b_L_who 15 = .ok (.getfield 132, 3) := by decide +kernel
theorem d_L_who_18 : decode b_L_who 18 = .ok (.iload_n 1, 1) := by decide +kernel
theorem d_L_who_19 : decode b_L_who 19 = .ok (.iaload, 1) := by decide +kernel
theorem d_L_who_20 : decode b_L_who 20 = .ok (.goto 4, 3) := by decide +kernel
theorem d_L_who_23 : decode b_L_who 23 = .ok (.iconst (-1), 1) := by decide +kernel
theorem d_L_who_24 : decode b_L_who 24 = .ok (.ireturn, 1) := by decide +kernel
theorem d_L_what_0 : decode b_L_what 0 = .ok (.aload_n 0, 1) := by decide +kernel
theorem d_L_what_1 : decode b_L_what 1 = .ok (.getfield 25, 3) := by decide +kernel
theorem d_L_what_4 : decode b_L_what 4 = .ok (.iload_n 1, 1) := by decide +kernel
theorem d_L_what_5 : decode b_L_what 5 = .ok (.invokevirtual 129, 3) := by decide +kernel
theorem d_L_what_8 : decode b_L_what 8 = .ok (.ifCond .eq 15, 3) := by decide +kernel
theorem d_L_what_11 : decode b_L_what 11 = .ok (.aload_n 0, 1) := by decide +kernel
theorem d_L_what_12 : decode b_L_what 12 = .ok (.getfield 25, 3) := by decide +kernel
theorem d_L_what_15 : decode b_L_what 15 = .ok (.getfield 135, 3) := by decide +kernel
theorem d_L_what_18 : decode b_L_what 18 = .ok (.iload_n 1, 1) := by decide +kernel
theorem d_L_what_19 : decode b_L_what 19 = .ok (.iaload, 1) := by decide +kernel
theorem d_L_what_20 : decode b_L_what 20 = .ok (.goto 4, 3) := by decide +kernel
theorem d_L_what_23 : decode b_L_what 23 = .ok (.iconst 0, 1) := by decide +kernel
theorem d_L_what_24 : decode b_L_what 24 = .ok (.ireturn, 1) := by decide +kernel
theorem d_L_asked_0 : decode b_L_asked 0 = .ok (.aload_n 0, 1) := by decide +kernel
theorem d_L_asked_1 : decode b_L_asked 1 = .ok (.getfield 47, 3) := by decide +kernel
theorem d_L_asked_4 : decode b_L_asked 4 = .ok (.ireturn, 1) := by decide +kernel
theorem d_L_taken_0 : decode b_L_taken 0 = .ok (.aload_n 0, 1) := by decide +kernel
theorem d_L_taken_1 : decode b_L_taken 1 = .ok (.getfield 50, 3) := by decide +kernel
theorem d_L_taken_4 : decode b_L_taken 4 = .ok (.ireturn, 1) := by decide +kernel
theorem d_L_chain_0 : decode b_L_chain 0 = .ok (.iload_n 1, 1) := by decide +kernel
theorem d_L_chain_1 : decode b_L_chain 1 = .ok (.invokestatic 94, 3) := by decide +kernel
theorem d_L_chain_4 : decode b_L_chain 4 = .ok (.ifCond .eq 15, 3) := by decide +kernel
theorem d_L_chain_7 : decode b_L_chain 7 = .ok (.aload_n 0, 1) := by decide +kernel
theorem d_L_chain_8 : decode b_L_chain 8 = .ok (.getfield 12, 3) := by decide +kernel
theorem d_L_chain_11 : decode b_L_chain 11 = .ok (.iload_n 1, 1) := by decide +kernel
theorem d_L_chain_12 : decode b_L_chain 12 = .ok (.iload_n 2, 1) := by decide +kernel
theorem d_L_chain_13 : decode b_L_chain 13 = .ok (.invokevirtual 138, 3) := by decide +kernel
theorem d_L_chain_16 : decode b_L_chain 16 = .ok (.goto 4, 3) := by decide +kernel
theorem d_L_chain_19 : decode b_L_chain 19 = .ok (.iconst (-1), 1) := by decide +kernel
theorem d_L_chain_20 : decode b_L_chain 20 = .ok (.ireturn, 1) := by decide +kernel
theorem d_L_isMethod_0 : decode b_L_isMethod 0 = .ok (.iload_n 0, 1) := by decide +kernel
theorem d_L_isMethod_1 : decode b_L_isMethod 1 = .ok (.ifCond .lt 13, 3) := by decide +kernel
theorem d_L_isMethod_4 : decode b_L_isMethod 4 = .ok (.iload_n 0, 1) := by decide +kernel
theorem d_L_isMethod_5 : decode b_L_isMethod 5 = .ok (.bipush 6, 2) := by decide +kernel
theorem d_L_isMethod_7 : decode b_L_isMethod 7 = .ok (.if_icmp .ge 7, 3) := by decide +kernel
theorem d_L_isMethod_10 : decode b_L_isMethod 10 = .ok (.iconst 1, 1) := by decide +kernel
theorem d_L_isMethod_11 : decode b_L_isMethod 11 = .ok (.goto 4, 3) := by decide +kernel
theorem d_L_isMethod_14 : decode b_L_isMethod 14 = .ok (.iconst 0, 1) := by decide +kernel
theorem d_L_isMethod_15 : decode b_L_isMethod 15 = .ok (.ireturn, 1) := by decide +kernel
theorem d_L_isTarget_0 : decode b_L_isTarget 0 = .ok (.iload_n 0, 1) := by decide +kernel
theorem d_L_isTarget_1 : decode b_L_isTarget 1 = .ok (.ifCond .lt 12, 3) := by decide +kernel
theorem d_L_isTarget_4 : decode b_L_isTarget 4 = .ok (.iload_n 0, 1) := by decide +kernel
theorem d_L_isTarget_5 : decode b_L_isTarget 5 = .ok (.iconst 2, 1) := by decide +kernel
theorem d_L_isTarget_6 : decode b_L_isTarget 6 = .ok (.if_icmp .ge 7, 3) := by decide +kernel
theorem d_L_isTarget_9 : decode b_L_isTarget 9 = .ok (.iconst 1, 1) := by decide +kernel
theorem d_L_isTarget_10 : decode b_L_isTarget 10 = .ok (.goto 4, 3) := by decide +kernel
theorem d_L_isTarget_13 : decode b_L_isTarget 13 = .ok (.iconst 0, 1) := by decide +kernel
theorem d_L_isTarget_14 : decode b_L_isTarget 14 = .ok (.ireturn, 1) := by decide +kernel
theorem d_L_isException_0 : decode b_L_isException 0 = .ok (.iload_n 0, 1) := by decide +kernel
theorem d_L_isException_1 : decode b_L_isException 1 = .ok (.iconst 1, 1) := by decide +kernel
theorem d_L_isException_2 : decode b_L_isException 2 = .ok (.if_icmp .lt 13, 3) := by decide +kernel
theorem d_L_isException_5 : decode b_L_isException 5 = .ok (.iload_n 0, 1) := by decide +kernel
theorem d_L_isException_6 : decode b_L_isException 6 = .ok (.bipush 15, 2) := by decide +kernel
theorem d_L_isException_8 : decode b_L_isException 8 = .ok (.if_icmp .gt 7, 3) := by decide +kernel
theorem d_L_isException_11 : decode b_L_isException 11 = .ok (.iconst 1, 1) := by decide +kernel
theorem d_L_isException_12 : decode b_L_isException 12 = .ok (.goto 4, 3) := by decide +kernel
theorem d_L_isException_15 : decode b_L_isException 15 = .ok (.iconst 0, 1) := by decide +kernel
theorem d_L_isException_16 : decode b_L_isException 16 = .ok (.ireturn, 1) := by decide +kernel
theorem d_L_isExceptionOrZero_0 : decode b_L_isExceptionOrZero 0 = .ok (.iload_n 0, 1) := by decide +kernel
theorem d_L_isExceptionOrZero_1 : decode b_L_isExceptionOrZero 1 = .ok (.ifCond .eq 10, 3) := by decide +kernel
theorem d_L_isExceptionOrZero_4 : decode b_L_isExceptionOrZero 4 = .ok (.iload_n 0, 1) := by decide +kernel
theorem d_L_isExceptionOrZero_5 : decode b_L_isExceptionOrZero 5 = .ok (.invokestatic 142, 3) := by decide +kernel
theorem d_L_isExceptionOrZero_8 : decode b_L_isExceptionOrZero 8 = .ok (.ifCond .eq 7, 3) := by decide +kernel
theorem d_L_isExceptionOrZero_11 : decode b_L_isExceptionOrZero 11 = .ok (.iconst 1, 1) := by decide +kernel
theorem d_L_isExceptionOrZero_12 : decode b_L_isExceptionOrZero 12 = .ok (.goto 4, 3) := by decide +kernel
theorem d_L_isExceptionOrZero_15 : decode b_L_isExceptionOrZero 15 = .ok (.iconst 0, 1) := by decide +kernel
theorem d_L_isExceptionOrZero_16 : decode b_L_isExceptionOrZero 16 = .ok (.ireturn, 1) := by decide +kernel
theorem d_L_areNumbersOf_0 : decode b_L_areNumbersOf 0 = .ok (.iload_n 0, 1) := by decide +kernel
theorem d_L_areNumbersOf_1 : decode b_L_areNumbersOf 1 = .ok (.tableswitch 77 0 7 #[47, 77, 77, 77, 47, 52, 47, 72], 47) := by decide +kernel
theorem d_L_areNumbersOf_48 : decode b_L_areNumbersOf 48 = .ok (.iload_n 2, 1) := by decide +kernel
theorem d_L_areNumbersOf_49 : decode b_L_areNumbersOf 49 = .ok (.invokestatic 142, 3) := by decide +kernel
theorem d_L_areNumbersOf_52 : decode b_L_areNumbersOf 52 = .ok (.ireturn, 1) := by decide +kernel
theorem d_L_areNumbersOf_53 : decode b_L_areNumbersOf 53 = .ok (.iload_n 1, 1) := by decide +kernel
theorem d_L_areNumbersOf_54 : decode b_L_areNumbersOf 54 = .ok (.invokestatic 142, 3) := by decide +kernel
theorem d_L_areNumbersOf_57 : decode b_L_areNumbersOf 57 = .ok (.ifCond .eq 14, 3) := by decide +kernel
theorem d_L_areNumbersOf_60 : decode b_L_areNumbersOf 60 = .ok (.iload_n 2, 1) := by decide +kernel
theorem d_L_areNumbersOf_61 : decode b_L_areNumbersOf 61 = .ok (.invokestatic 107, 3) := by decide +kernel
theorem d_L_areNumbersOf_64 : decode b_L_areNumbersOf 64 = .ok (.ifCond .eq 7, 3) := by decide +kernel
theorem d_L_areNumbersOf_67 : decode b_L_areNumbersOf 67 = .ok (.iconst 1, 1) := by decide +kernel
theorem d_L_areNumbersOf_68 : decode b_L_areNumbersOf 68 = .ok (.goto 4, 3) := by decide +kernel
theorem d_L_areNumbersOf_71 : decode b_L_areNumbersOf 71 = .ok (.iconst 0, 1) := by decide +kernel
theorem d_L_areNumbersOf_72 : decode b_L_areNumbersOf 72 = .ok (.ireturn, 1) := by decide +kernel
theorem d_L_areNumbersOf_73 : decode b_L_areNumbersOf 73 = .ok (.iload_n 1, 1) := by decide +kernel
theorem d_L_areNumbersOf_74 : decode b_L_areNumbersOf 74 = .ok (.invokestatic 142, 3) := by decide +kernel
theorem d_L_areNumbersOf_77 : decode b_L_areNumbersOf 77 = .ok (.ireturn, 1) := by decide +kernel
theorem d_L_areNumbersOf_78 : decode b_L_areNumbersOf 78 = .ok (.iconst 1, 1) := by decide +kernel
theorem d_L_areNumbersOf_79 : decode b_L_areNumbersOf 79 = .ok (.ireturn, 1) := by decide +kernel
theorem d_L_isKindOf_0 : decode b_L_isKindOf 0 = .ok (.iload_n 0, 1) := by decide +kernel
theorem d_L_isKindOf_1 : decode b_L_isKindOf 1 = .ok (.istore_n 2, 1) := by decide +kernel
theorem d_L_isKindOf_2 : decode b_L_isKindOf 2 = .ok (.iload_n 2, 1) := by decide +kernel
theorem d_L_isKindOf_3 : decode b_L_isKindOf 3 = .ok (.ifCond .le 17, 3) := by decide +kernel
theorem d_L_isKindOf_6 : decode b_L_isKindOf 6 = .ok (.iload_n 2, 1) := by decide +kernel
theorem d_L_isKindOf_7 : decode b_L_isKindOf 7 = .ok (.iload_n 1, 1) := by decide +kernel
theorem d_L_isKindOf_8 : decode b_L_isKindOf 8 = .ok (.if_icmp .ne 5, 3) := by decide +kernel
theorem d_L_isKindOf_11 : decode b_L_isKindOf 11 = .ok (.iconst 1, 1) := by decide +kernel
theorem d_L_isKindOf_12 : decode b_L_isKindOf 12 = .ok (.ireturn, 1) := by decide +kernel
theorem d_L_isKindOf_13 : decode b_L_isKindOf 13 = .ok (.iload_n 2, 1) := by decide +kernel
theorem d_L_isKindOf_14 : decode b_L_isKindOf 14 = .ok (.iconst 2, 1) := by decide +kernel
theorem d_L_isKindOf_15 : decode b_L_isKindOf 15 = .ok (.idiv, 1) := by decide +kernel
theorem d_L_isKindOf_16 : decode b_L_isKindOf 16 = .ok (.istore_n 2, 1) := by decide +kernel
theorem d_L_isKindOf_17 : decode b_L_isKindOf 17 = .ok (.goto (-15), 3) := by decide +kernel
theorem d_L_isKindOf_20 : decode b_L_isKindOf 20 = .ok (.iconst 0, 1) := by decide +kernel
theorem d_L_isKindOf_21 : decode b_L_isKindOf 21 = .ok (.ireturn, 1) := by decide +kernel
theorem d_L_workOf_0 : decode b_L_workOf 0 = .ok (.aload_n 0, 1) := by decide +kernel
theorem d_L_workOf_1 : decode b_L_workOf 1 = .ok (.getfield 18, 3) := by decide +kernel
theorem d_L_workOf_4 : decode b_L_workOf 4 = .ok (.iload_n 1, 1) := by decide +kernel
theorem d_L_workOf_5 : decode b_L_workOf 5 = .ok (.bipush 6, 2) := by decide +kernel
theorem d_L_workOf_7 : decode b_L_workOf 7 = .ok (.imul, 1) := by decide +kernel
theorem d_L_workOf_8 : decode b_L_workOf 8 = .ok (.iload_n 2, 1) := by decide +kernel
theorem d_L_workOf_9 : decode b_L_workOf 9 = .ok (.iadd, 1) := by decide +kernel
theorem d_L_workOf_10 : decode b_L_workOf 10 = .ok (.aaload, 1) := by decide +kernel
theorem d_L_workOf_11 : decode b_L_workOf 11 = .ok (.areturn, 1) := by decide +kernel
theorem d_L_returned_0 : decode b_L_returned 0 = .ok (.aload_n 0, 1) := by decide +kernel
theorem d_L_returned_1 : decode b_L_returned 1 = .ok (.iload_n 1, 1) := by decide +kernel
theorem d_L_returned_2 : decode b_L_returned 2 = .ok (.putfield 53, 3) := by decide +kernel
theorem d_L_returned_5 : decode b_L_returned 5 = .ok (.iconst 0, 1) := by decide +kernel
theorem d_L_returned_6 : decode b_L_returned 6 = .ok (.ireturn, 1) := by decide +kernel
theorem d_L_thrown_0 : decode b_L_thrown 0 = .ok (.aload_n 0, 1) := by decide +kernel
theorem d_L_thrown_1 : decode b_L_thrown 1 = .ok (.iload_n 1, 1) := by decide +kernel
theorem d_L_thrown_2 : decode b_L_thrown 2 = .ok (.putfield 53, 3) := by decide +kernel
theorem d_L_thrown_5 : decode b_L_thrown 5 = .ok (.iconst 1, 1) := by decide +kernel
theorem d_L_thrown_6 : decode b_L_thrown 6 = .ok (.ireturn, 1) := by decide +kernel
theorem d_L_brokenOff_0 : decode b_L_brokenOff 0 = .ok (.aload_n 0, 1) := by decide +kernel
theorem d_L_brokenOff_1 : decode b_L_brokenOff 1 = .ok (.iconst 0, 1) := by decide +kernel
theorem d_L_brokenOff_2 : decode b_L_brokenOff 2 = .ok (.putfield 53, 3) := by decide +kernel
theorem d_L_brokenOff_5 : decode b_L_brokenOff 5 = .ok (.iconst 2, 1) := by decide +kernel
theorem d_L_brokenOff_6 : decode b_L_brokenOff 6 = .ok (.ireturn, 1) := by decide +kernel
theorem d_L_takeTarget_0 : decode b_L_takeTarget 0 = .ok (.aload_n 0, 1) := by decide +kernel
theorem d_L_takeTarget_1 : decode b_L_takeTarget 1 = .ok (.dup, 1) := by decide +kernel
theorem d_L_takeTarget_2 : decode b_L_takeTarget 2 = .ok (.getfield 50, 3) := by decide +kernel
theorem d_L_takeTarget_5 : decode b_L_takeTarget 5 = .ok (.iconst 1, 1) := by decide +kernel
theorem d_L_takeTarget_6 : decode b_L_takeTarget 6 = .ok (.iadd, 1) := by decide +kernel
theorem d_L_takeTarget_7 : decode b_L_takeTarget 7 = .ok (.putfield 50, 3) := by decide +kernel
theorem d_L_takeTarget_10 : decode b_L_takeTarget 10 = .ok (.aload_n 0, 1) := by decide +kernel
theorem d_L_takeTarget_11 : decode b_L_takeTarget 11 = .ok (.getfield 40, 3) := by decide +kernel
theorem d_L_takeTarget_14 : decode b_L_takeTarget 14 = .ok (.iconst 2, 1) := by decide +kernel
theorem d_L_takeTarget_15 : decode b_L_takeTarget 15 = .ok (.if_icmp .eq 8, 3) := by decide +kernel
theorem d_L_takeTarget_18 : decode b_L_takeTarget 18 = .ok (.aload_n 0, 1) := by decide +kernel
theorem d_L_takeTarget_19 : decode b_L_takeTarget 19 = .ok (.getfield 40, 3) := by decide +kernel
theorem d_L_takeTarget_22 : decode b_L_takeTarget 22 = .ok (.ireturn, 1) := by decide +kernel
theorem d_L_takeTarget_23 : decode b_L_takeTarget 23 = .ok (.aload_n 0, 1) := by decide +kernel
theorem d_L_takeTarget_24 : decode b_L_takeTarget 24 = .ok (.getfield 44, 3) := by decide +kernel
theorem d_L_takeTarget_27 : decode b_L_takeTarget 27 = .ok (.istore_n 1, 1) := by decide +kernel
theorem d_L_takeTarget_28 : decode b_L_takeTarget 28 = .ok (.aload_n 0, 1) := by decide +kernel
theorem d_L_takeTarget_29 : decode b_L_takeTarget 29 = .ok (.iconst 1, 1) := by decide +kernel
theorem d_L_takeTarget_30 : decode b_L_takeTarget 30 = .ok (.iload_n 1, 1) := by decide +kernel
theorem d_L_takeTarget_31 : decode b_L_takeTarget 31 = .ok (.isub, 1) := by decide +kernel
theorem d_L_takeTarget_32 : decode b_L_takeTarget 32 = .ok (.putfield 44, 3) := by decide +kernel
theorem d_L_takeTarget_35 : decode b_L_takeTarget 35 = .ok (.iload_n 1, 1) := by decide +kernel
theorem d_L_takeTarget_36 : decode b_L_takeTarget 36 = .ok (.ireturn, 1) := by decide +kernel
theorem d_L_begin_0 : decode b_L_begin 0 = .ok (.iload_n 3, 1) := by decide +kernel
theorem d_L_begin_1 : decode b_L_begin 1 = .ok (.iconst 3, 1) := by decide +kernel
theorem d_L_begin_2 : decode b_L_begin 2 = .ok (.if_icmp .lt 10, 3) := by decide +kernel
theorem d_L_begin_5 : decode b_L_begin 5 = .ok (.aload_n 0, 1) := by decide +kernel
theorem d_L_begin_6 : decode b_L_begin 6 = .ok (.bipush 15, 2) := by decide +kernel
theorem d_L_begin_8 : decode b_L_begin 8 = .ok (.invokevirtual 145, 3) := by decide +kernel
theorem d_L_begin_11 : decode b_L_begin 11 = .ok (.ireturn, 1) := by decide +kernel
theorem d_L_begin_12 : decode b_L_begin 12 = .ok (.aload_n 0, 1) := by decide +kernel
theorem d_L_begin_13 : decode b_L_begin 13 = .ok (.getfield 29, 3) := by decide +kernel
theorem d_L_begin_16 : decode b_L_begin 16 = .ok (.iload_n 3, 1) := by decide +kernel
theorem d_L_begin_17 : decode b_L_begin 17 = .ok (.iload_n 1, 1) := by decide +kernel
theorem d_L_begin_18 : decode b_L_begin 18 = .ok (.iastore, 1) := by decide +kernel
theorem d_L_begin_19 : decode b_L_begin 19 = .ok (.aload_n 0, 1) := by decide +kernel
theorem d_L_begin_20 : decode b_L_begin 20 = .ok (.getfield 33, 3) := by decide +kernel
theorem d_L_begin_23 : decode b_L_begin 23 = .ok (.iload_n 3, 1) := by decide +kernel
theorem d_L_begin_24 : decode b_L_begin 24 = .ok (.aload_n 0, 1) := by decide +kernel
theorem d_L_begin_25 : decode b_L_begin 25 = .ok (.invokevirtual 148, 3) := by decide +kernel
theorem d_L_begin_28 : decode b_L_begin 28 = .ok (.iastore, 1) := by decide +kernel
theorem d_L_begin_29 : decode b_L_begin 29 = .ok (.aload_n 0, 1) := by decide +kernel
theorem d_L_begin_30 : decode b_L_begin 30 = .ok (.iload_n 3, 1) := by decide +kernel
theorem d_L_begin_31 : decode b_L_begin 31 = .ok (.iconst 0, 1) := by decide +kernel
theorem d_L_begin_32 : decode b_L_begin 32 = .ok (.iload_n 2, 1) := by decide +kernel
theorem d_L_begin_33 : decode b_L_begin 33 = .ok (.invokevirtual 152, 3) := by decide +kernel
theorem d_L_begin_36 : decode b_L_begin 36 = .ok (.ireturn, 1) := by decide +kernel
theorem d_L_goAlong_0 : decode b_L_goAlong 0 = .ok (.aload_n 0, 1) := by decide +kernel
theorem d_L_goAlong_1 : decode b_L_goAlong 1 = .ok (.getfield 12, 3) := by decide +kernel
theorem d_L_goAlong_4 : decode b_L_goAlong 4 = .ok (.aload_n 0, 1) := by decide +kernel
theorem d_L_goAlong_5 : decode b_L_goAlong 5 = .ok (.getfield 29, 3) := by decide +kernel
theorem d_L_goAlong_8 : decode b_L_goAlong 8 = .ok (.iload_n 1, 1) := by decide +kernel
theorem d_L_goAlong_9 : decode b_L_goAlong 9 = .ok (.iaload, 1) := by decide +kernel
theorem d_L_goAlong_10 : decode b_L_goAlong 10 = .ok (.iload_n 2, 1) := by decide +kernel
theorem d_L_goAlong_11 : decode b_L_goAlong 11 = .ok (.invokevirtual 155, 3) := by decide +kernel
theorem d_L_goAlong_14 : decode b_L_goAlong 14 = .ok (.istore 4, 2) := by decide +kernel
theorem d_L_goAlong_16 : decode b_L_goAlong 16 = .ok (.iload 4, 2) := by decide +kernel
theorem d_L_goAlong_18 : decode b_L_goAlong 18 = .ok (.iconst (-1), 1) := by decide +kernel
theorem d_L_goAlong_19 : decode b_L_goAlong 19 = .ok (.if_icmp .ne 10, 3) := by decide +kernel
theorem d_L_goAlong_22 : decode b_L_goAlong 22 = .ok (.aload_n 0, 1) := by decide +kernel
theorem d_L_goAlong_23 : decode b_L_goAlong 23 = .ok (.iload_n 1, 1) := by decide +kernel
theorem d_L_goAlong_24 : decode b_L_goAlong 24 = .ok (.iload_n 3, 1) := by decide +kernel
theorem d_L_goAlong_25 : decode b_L_goAlong 25 = .ok (.invokevirtual 158, 3) := by decide +kernel
theorem d_L_goAlong_28 : decode b_L_goAlong 28 = .ok (.ireturn, 1) := by decide +kernel
theorem d_L_goAlong_29 : decode b_L_goAlong 29 = .ok (.aload_n 0, 1) := by decide +kernel
theorem d_L_goAlong_30 : decode b_L_goAlong 30 = .ok (.getfield 12, 3) := by decide +kernel
theorem d_L_goAlong_33 : decode b_L_goAlong 33 = .ok (.iload 4, 2) := by decide +kernel
theorem d_L_goAlong_35 : decode b_L_goAlong 35 = .ok (.invokevirtual 73, 3) := by decide +kernel
theorem d_L_goAlong_38 : decode b_L_goAlong 38 = .ok (.astore 5, 2) := by decide +kernel
theorem d_L_goAlong_40 : decode b_L_goAlong 40 = .ok (.aload 5, 2) := by decide +kernel
theorem d_L_goAlong_42 : decode b_L_goAlong 42 = .ok (.getfield 161, 3) := by decide +kernel
theorem d_L_goAlong_45 : decode b_L_goAlong 45 = .ok (.ifCond .eq 33, 3) := by decide +kernel
theorem d_L_goAlong_48 : decode b_L_goAlong 48 = .ok (.aload_n 0, 1) := by decide +kernel
theorem d_L_goAlong_49 : decode b_L_goAlong 49 = .ok (.dup, 1) := by decide +kernel
theorem d_L_goAlong_50 : decode b_L_goAlong 50 = .ok (.getfield 47, 3) := by decide +kernel
theorem d_L_goAlong_53 : decode b_L_goAlong 53 = .ok (.iconst 1, 1) := by decide +kernel
theorem d_L_goAlong_54 : decode b_L_goAlong 54 = .ok (.iadd, 1) := by decide +kernel
theorem d_L_goAlong_55 : decode b_L_goAlong 55 = .ok (.putfield 47, 3) := by decide +kernel
theorem d_L_goAlong_58 : decode b_L_goAlong 58 = .ok (.aload 5, 2) := by decide +kernel
theorem d_L_goAlong_60 : decode b_L_goAlong 60 = .ok (.iload_n 3, 1) := by decide +kernel
theorem d_L_goAlong_61 : decode b_L_goAlong 61 = .ok (.invokevirtual 164, 3) := by decide +kernel
theorem d_L_goAlong_64 : decode b_L_goAlong 64 = .ok (.ifCond .ne 14, 3) := by decide +kernel
theorem d_L_goAlong_67 : decode b_L_goAlong 67 = .ok (.aload_n 0, 1) := by decide +kernel
theorem d_L_goAlong_68 : decode b_L_goAlong 68 = .ok (.iload_n 1, 1) := by decide +kernel
theorem d_L_goAlong_69 : decode b_L_goAlong 69 = .ok (.iload 4, 2) := by decide +kernel
theorem d_L_goAlong_71 : decode b_L_goAlong 71 = .ok (.iconst 1, 1) := by decide +kernel
theorem d_L_goAlong_72 : decode b_L_goAlong 72 = .ok (.iadd, 1) := by decide +kernel
theorem d_L_goAlong_73 : decode b_L_goAlong 73 = .ok (.iload_n 3, 1) := by decide +kernel
theorem d_L_goAlong_74 : decode b_L_goAlong 74 = .ok (.invokevirtual 152, 3) := by decide +kernel
theorem d_L_goAlong_77 : decode b_L_goAlong 77 = .ok (.ireturn, 1) := by decide +kernel
theorem d_L_goAlong_78 : decode b_L_goAlong 78 = .ok (.aload_n 0, 1) := by decide +kernel
theorem d_L_goAlong_79 : decode b_L_goAlong 79 = .ok (.aload 5, 2) := by decide +kernel
theorem d_L_goAlong_81 : decode b_L_goAlong 81 = .ok (.iload_n 1, 1) := by decide +kernel
theorem d_L_goAlong_82 : decode b_L_goAlong 82 = .ok (.iload 4, 2) := by decide +kernel
theorem d_L_goAlong_84 : decode b_L_goAlong 84 = .ok (.iconst 1, 1) := by decide +kernel
theorem d_L_goAlong_85 : decode b_L_goAlong 85 = .ok (.iadd, 1) := by decide +kernel
theorem d_L_goAlong_86 : decode b_L_goAlong 86 = .ok (.iload_n 3, 1) := by decide +kernel
theorem d_L_goAlong_87 : decode b_L_goAlong 87 = .ok (.invokevirtual 167, 3) := by decide +kernel
theorem d_L_goAlong_90 : decode b_L_goAlong 90 = .ok (.ireturn, 1) := by decide +kernel
theorem d_L_workOn_0 : decode b_L_workOn 0 = .ok (.aload_n 0, 1) := by decide +kernel
theorem d_L_workOn_1 : decode b_L_workOn 1 = .ok (.getfield 29, 3) := by decide +kernel
theorem d_L_workOn_4 : decode b_L_workOn 4 = .ok (.iload_n 1, 1) := by decide +kernel
theorem d_L_workOn_5 : decode b_L_workOn 5 = .ok (.iaload, 1) := by decide +kernel
theorem d_L_workOn_6 : decode b_L_workOn 6 = .ok (.istore_n 3, 1) := by decide +kernel
theorem d_L_workOn_7 : decode b_L_workOn 7 = .ok (.aload_n 0, 1) := by decide +kernel
theorem d_L_workOn_8 : decode b_L_workOn 8 = .ok (.aload_n 0, 1) := by decide +kernel
theorem d_L_workOn_9 : decode b_L_workOn 9 = .ok (.getfield 33, 3) := by decide +kernel
theorem d_L_workOn_12 : decode b_L_workOn 12 = .ok (.iload_n 1, 1) := by decide +kernel
theorem d_L_workOn_13 : decode b_L_workOn 13 = .ok (.iaload, 1) := by decide +kernel
theorem d_L_workOn_14 : decode b_L_workOn 14 = .ok (.iload_n 3, 1) := by decide +kernel
theorem d_L_workOn_15 : decode b_L_workOn 15 = .ok (.invokevirtual 97, 3) := by decide +kernel
theorem d_L_workOn_18 : decode b_L_workOn 18 = .ok (.astore 4, 2) := by decide +kernel
theorem d_L_workOn_20 : decode b_L_workOn 20 = .ok (.aload_n 0, 1) := by decide +kernel
theorem d_L_workOn_21 : decode b_L_workOn 21 = .ok (.getfield 25, 3) := by decide +kernel
theorem d_L_workOn_24 : decode b_L_workOn 24 = .ok (.bipush 100, 2) := by decide +kernel
theorem d_L_workOn_26 : decode b_L_workOn 26 = .ok (.iload_n 3, 1) := by decide +kernel
theorem d_L_workOn_27 : decode b_L_workOn 27 = .ok (.iadd, 1) := by decide +kernel
theorem d_L_workOn_28 : decode b_L_workOn 28 = .ok (.iload_n 2, 1) := by decide +kernel
theorem d_L_workOn_29 : decode b_L_workOn 29 = .ok (.invokevirtual 171, 3) := by decide +kernel
theorem d_L_workOn_32 : decode b_L_workOn 32 = .ok (.ifCond .ne 8, 3) := by decide +kernel
theorem d_L_workOn_35 : decode b_L_workOn 35 = .ok (.aload_n 0, 1) := by decide +kernel
theorem d_L_workOn_36 : decode b_L_workOn 36 = .ok (.invokevirtual 175, 3) := by decide +kernel
theorem d_L_workOn_39 : decode b_L_workOn 39 = .ok (.ireturn, 1) := by decide +kernel
theorem d_L_workOn_40 : decode b_L_workOn 40 = .ok (.aload 4, 2) := by decide +kernel
theorem d_L_workOn_42 : decode b_L_workOn 42 = .ok (.iload_n 2, 1) := by decide +kernel
theorem d_L_workOn_43 : decode b_L_workOn 43 = .ok (.invokevirtual 178, 3) := by decide +kernel
theorem d_L_workOn_46 : decode b_L_workOn 46 = .ok (.ifCond .eq 13, 3) := by decide +kernel
theorem d_L_workOn_49 : decode b_L_workOn 49 = .ok (.aload_n 0, 1) := by decide +kernel
theorem d_L_workOn_50 : decode b_L_workOn 50 = .ok (.aload 4, 2) := by decide +kernel
theorem d_L_workOn_52 : decode b_L_workOn 52 = .ok (.getfield 113, 3) := by decide +kernel
theorem d_L_workOn_55 : decode b_L_workOn 55 = .ok (.invokevirtual 145, 3) := by decide +kernel
theorem d_L_workOn_58 : decode b_L_workOn 58 = .ok (.ireturn, 1) := by decide +kernel
theorem d_L_workOn_59 : decode b_L_workOn 59 = .ok (.aload 4, 2) := by decide +kernel
theorem d_L_workOn_61 : decode b_L_workOn 61 = .ok (.getfield 116, 3) := by decide +kernel
theorem d_L_workOn_64 : decode b_L_workOn 64 = .ok (.iconst (-1), 1) := by decide +kernel
theorem d_L_workOn_65 : decode b_L_workOn 65 = .ok (.if_icmp .eq 7, 3) := by decide +kernel
theorem d_L_workOn_68 : decode b_L_workOn 68 = .ok (.iload_n 2, 1) := by decide +kernel
theorem d_L_workOn_69 : decode b_L_workOn 69 = .ok (.ifCond .gt 14, 3) := by decide +kernel
theorem d_L_workOn_72 : decode b_L_workOn 72 = .ok (.aload_n 0, 1) := by decide +kernel
theorem d_L_workOn_73 : decode b_L_workOn 73 = .ok (.aload 4, 2) := by decide +kernel
theorem d_L_workOn_75 : decode b_L_workOn 75 = .ok (.iload_n 2, 1) := by decide +kernel
theorem d_L_workOn_76 : decode b_L_workOn 76 = .ok (.invokevirtual 181, 3) := by decide +kernel
theorem d_L_workOn_79 : decode b_L_workOn 79 = .ok (.invokevirtual 184, 3) := by decide +kernel
theorem d_L_workOn_82 : decode b_L_workOn 82 = .ok (.ireturn, 1) := by decide +kernel
theorem d_L_workOn_83 : decode b_L_workOn 83 = .ok (.aload_n 0, 1) := by decide +kernel
theorem d_L_workOn_84 : decode b_L_workOn 84 = .ok (.aload 4, 2) := by decide +kernel
theorem d_L_workOn_86 : decode b_L_workOn 86 = .ok (.getfield 116, 3) := by decide +kernel
theorem d_L_workOn_89 : decode b_L_workOn 89 = .ok (.iload_n 2, 1) := by decide +kernel
theorem d_L_workOn_90 : decode b_L_workOn 90 = .ok (.iconst 1, 1) := by decide +kernel
theorem d_L_workOn_91 : decode b_L_workOn 91 = .ok (.isub, 1) := by decide +kernel
theorem d_L_workOn_92 : decode b_L_workOn 92 = .ok (.iload_n 1, 1) := by decide +kernel
theorem d_L_workOn_93 : decode b_L_workOn 93 = .ok (.iconst 1, 1) := by decide +kernel
theorem d_L_workOn_94 : decode b_L_workOn 94 = .ok (.iadd, 1) := by decide +kernel
theorem d_L_workOn_95 : decode b_L_workOn 95 = .ok (.invokevirtual 122, 3) := by decide +kernel
theorem d_L_workOn_98 : decode b_L_workOn 98 = .ok (.istore 5, 2) := by decide +kernel
theorem d_L_workOn_100 : decode b_L_workOn 100 = .ok (.iload 5, 2) := by decide +kernel
theorem d_L_workOn_102 : decode b_L_workOn 102 = .ok (.ifCond .ne 19, 3) := by decide +kernel
theorem d_L_workOn_105 : decode b_L_workOn 105 = .ok (.aload_n 0, 1) := by decide +kernel
theorem d_L_workOn_106 : decode b_L_workOn 106 = .ok (.aload 4, 2) := by decide +kernel
theorem d_L_workOn_108 : decode b_L_workOn 108 = .ok (.aload_n 0, 1) := by decide +kernel
theorem d_L_workOn_109 : decode b_L_workOn 109 = .ok (.getfield 53, 3) := by decide +kernel
theorem d_L_workOn_112 : decode b_L_workOn 112 = .ok (.invokevirtual 181, 3) := by decide +kernel
theorem d_L_workOn_115 : decode b_L_workOn 115 = .ok (.invokevirtual 184, 3) := by decide +kernel
theorem d_L_workOn_118 : decode b_L_workOn 118 = .ok (.goto 5, 3) := by decide +kernel
theorem d_L_workOn_121 : decode b_L_workOn 121 = .ok (.iload 5, 2) := by decide +kernel
theorem d_L_workOn_123 : decode b_L_workOn 123 = .ok (.ireturn, 1) := by decide +kernel
theorem d_L_act_0 : decode b_L_act 0 = .ok (.aload_n 1, 1) := by decide +kernel
theorem d_L_act_1 : decode b_L_act 1 = .ok (.getfield 187, 3) := by decide +kernel
theorem d_L_act_4 : decode b_L_act 4 = .ok (.tableswitch 114 0 6 #[44, 54, 64, 74, 84, 94, 104], 44) := by decide +kernel
theorem d_L_act_48 : decode b_L_act 48 = .ok (.aload_n 0, 1) := by decide +kernel
theorem d_L_act_49 : decode b_L_act 49 = .ok (.aload_n 1, 1) := by decide +kernel
theorem d_L_act_50 : decode b_L_act 50 = .ok (.iload_n 2, 1) := by decide +kernel
theorem d_L_act_51 : decode b_L_act 51 = .ok (.iload_n 3, 1) := by decide +kernel
theorem d_L_act_52 : decode b_L_act 52 = .ok (.iload 4, 2) := by decide +kernel
theorem d_L_act_54 : decode b_L_act 54 = .ok (.invokevirtual 190, 3) := by decide +kernel
theorem d_L_act_57 : decode b_L_act 57 = .ok (.ireturn, 1) := by decide +kernel
theorem d_L_act_58 : decode b_L_act 58 = .ok (.aload_n 0, 1) := by decide +kernel
theorem d_L_act_59 : decode b_L_act 59 = .ok (.aload_n 1, 1) := by decide +kernel
theorem d_L_act_60 : decode b_L_act 60 = .ok (.iload_n 2, 1) := by decide +kernel
theorem d_L_act_61 : decode b_L_act 61 = .ok (.iload_n 3, 1) := by decide +kernel
theorem d_L_act_62 : decode b_L_act 62 = .ok (.iload 4, 2) := by decide +kernel
theorem d_L_act_64 : decode b_L_act 64 = .ok (.invokevirtual 193, 3) := by decide +kernel
theorem d_L_act_67 : decode b_L_act 67 = .ok (.ireturn, 1) := by decide +kernel
theorem d_L_act_68 : decode b_L_act 68 = .ok (.aload_n 0, 1) := by decide +kernel
theorem d_L_act_69 : decode b_L_act 69 = .ok (.aload_n 1, 1) := by decide +kernel
theorem d_L_act_70 : decode b_L_act 70 = .ok (.iload_n 2, 1) := by decide +kernel
theorem d_L_act_71 : decode b_L_act 71 = .ok (.iload_n 3, 1) := by decide +kernel
theorem d_L_act_72 : decode b_L_act 72 = .ok (.iload 4, 2) := by decide +kernel
theorem d_L_act_74 : decode b_L_act 74 = .ok (.invokevirtual 196, 3) := by decide +kernel
theorem d_L_act_77 : decode b_L_act 77 = .ok (.ireturn, 1) := by decide +kernel
theorem d_L_act_78 : decode b_L_act 78 = .ok (.aload_n 0, 1) := by decide +kernel
theorem d_L_act_79 : decode b_L_act 79 = .ok (.aload_n 1, 1) := by decide +kernel
theorem d_L_act_80 : decode b_L_act 80 = .ok (.iload_n 2, 1) := by decide +kernel
theorem d_L_act_81 : decode b_L_act 81 = .ok (.iload_n 3, 1) := by decide +kernel
theorem d_L_act_82 : decode b_L_act 82 = .ok (.iload 4, 2) := by decide +kernel
theorem d_L_act_84 : decode b_L_act 84 = .ok (.invokevirtual 199, 3) := by decide +kernel
theorem d_L_act_87 : decode b_L_act 87 = .ok (.ireturn, 1) := by decide +kernel
theorem d_L_act_88 : decode b_L_act 88 = .ok (.aload_n 0, 1) := by decide +kernel
theorem d_L_act_89 : decode b_L_act 89 = .ok (.aload_n 1, 1) := by decide +kernel
theorem d_L_act_90 : decode b_L_act 90 = .ok (.iload_n 2, 1) := by decide +kernel
theorem d_L_act_91 : decode b_L_act 91 = .ok (.iload_n 3, 1) := by decide +kernel
theorem d_L_act_92 : decode b_L_act 92 = .ok (.iload 4, 2) := by decide +kernel
theorem d_L_act_94 : decode b_L_act 94 = .ok (.invokevirtual 202, 3) := by decide +kernel
theorem d_L_act_97 : decode b_L_act 97 = .ok (.ireturn, 1) := by decide +kernel
theorem d_L_act_98 : decode b_L_act 98 = .ok (.aload_n 0, 1) := by decide +kernel
theorem d_L_act_99 : decode b_L_act 99 = .ok (.aload_n 1, 1) := by decide +kernel
theorem d_L_act_100 : decode b_L_act 100 = .ok (.iload_n 2, 1) := by decide +kernel
theorem d_L_act_101 : decode b_L_act 101 = .ok (.iload_n 3, 1) := by decide +kernel
theorem d_L_act_102 : decode b_L_act 102 = .ok (.iload 4, 2) := by decide +kernel
theorem d_L_act_104 : decode b_L_act 104 = .ok (.invokevirtual 205, 3) := by decide +kernel
theorem d_L_act_107 : decode b_L_act 107 = .ok (.ireturn, 1) := by decide +kernel
theorem d_L_act_108 : decode b_L_act 108 = .ok (.aload_n 0, 1) := by decide +kernel
theorem d_L_act_109 : decode b_L_act 109 = .ok (.aload_n 1, 1) := by decide +kernel
theorem d_L_act_110 : decode b_L_act 110 = .ok (.iload_n 2, 1) := by decide +kernel
theorem d_L_act_111 : decode b_L_act 111 = .ok (.iload_n 3, 1) := by decide +kernel
theorem d_L_act_112 : decode b_L_act 112 = .ok (.iload 4, 2) := by decide +kernel
theorem d_L_act_114 : decode b_L_act 114 = .ok (.invokevirtual 208, 3) := by decide +kernel
theorem d_L_act_117 : decode b_L_act 117 = .ok (.ireturn, 1) := by decide +kernel
theorem d_L_act_118 : decode b_L_act 118 = .ok (.aload_n 0, 1) := by decide +kernel
theorem d_L_act_119 : decode b_L_act 119 = .ok (.aload_n 1, 1) := by decide +kernel
theorem d_L_act_120 : decode b_L_act 120 = .ok (.iload_n 2, 1) := by decide +kernel
theorem d_L_act_121 : decode b_L_act 121 = .ok (.iload_n 3, 1) := by decide +kernel
theorem d_L_act_122 : decode b_L_act 122 = .ok (.iload 4, 2) := by decide +kernel
theorem d_L_act_124 : decode b_L_act 124 = .ok (.invokevirtual 211, 3) := by decide +kernel
theorem d_L_act_127 : decode b_L_act 127 = .ok (.ireturn, 1) := by decide +kernel
theorem d_L_actBefore_0 : decode b_L_actBefore 0 = .ok (.aload_n 0, 1) := by decide +kernel
theorem d_L_actBefore_1 : decode b_L_actBefore 1 = .ok (.getfield 25, 3) := by decide +kernel
theorem d_L_actBefore_4 : decode b_L_actBefore 4 = .ok (.aload_n 1, 1) := by decide +kernel
theorem d_L_actBefore_5 : decode b_L_actBefore 5 = .ok (.getfield 214, 3) := by decide +kernel
theorem d_L_actBefore_8 : decode b_L_actBefore 8 = .ok (.iload 4, 2) := by decide +kernel
theorem d_L_actBefore_10 : decode b_L_actBefore 10 = .ok (.invokevirtual 171, 3) := by decide +kernel
theorem d_L_actBefore_13 : decode b_L_actBefore 13 = .ok (.ifCond .ne 8, 3) := by decide +kernel
theorem d_L_actBefore_16 : decode b_L_actBefore 16 = .ok (.aload_n 0, 1) := by decide +kernel
theorem d_L_actBefore_17 : decode b_L_actBefore 17 = .ok (.invokevirtual 175, 3) := by decide +kernel
theorem d_L_actBefore_20 : decode b_L_actBefore 20 = .ok (.ireturn, 1) := by decide +kernel
theorem d_L_actBefore_21 : decode b_L_actBefore 21 = .ok (.iload 4, 2) := by decide +kernel
theorem d_L_actBefore_23 : decode b_L_actBefore 23 = .ok (.aload_n 1, 1) := by decide +kernel
theorem d_L_actBefore_24 : decode b_L_actBefore 24 = .ok (.getfield 217, 3) := by decide +kernel
theorem d_L_actBefore_27 : decode b_L_actBefore 27 = .ok (.if_icmp .ne 14, 3) := by decide +kernel
theorem d_L_actBefore_30 : decode b_L_actBefore 30 = .ok (.aload_n 0, 1) := by decide +kernel
theorem d_L_actBefore_31 : decode b_L_actBefore 31 = .ok (.aload_n 1, 1) := by decide +kernel
theorem d_L_actBefore_32 : decode b_L_actBefore 32 = .ok (.getfield 220, 3) := by decide +kernel
theorem d_L_actBefore_35 : decode b_L_actBefore 35 = .ok (.invokevirtual 145, 3) := by decide +kernel
theorem d_L_actBefore_38 : decode b_L_actBefore 38 = .ok (.goto 11, 3) := by decide +kernel
theorem d_L_actBefore_41 : decode b_L_actBefore 41 = .ok (.aload_n 0, 1) := by decide +kernel
theorem d_L_actBefore_42 : decode b_L_actBefore 42 = .ok (.iload_n 2, 1) := by decide +kernel
theorem d_L_actBefore_43 : decode b_L_actBefore 43 = .ok (.iload_n 3, 1) := by decide +kernel
theorem d_L_actBefore_44 : decode b_L_actBefore 44 = .ok (.iload 4, 2) := by decide +kernel
theorem d_L_actBefore_46 : decode b_L_actBefore 46 = .ok (.invokevirtual 152, 3) := by decide +kernel
theorem d_L_actBefore_49 : decode b_L_actBefore 49 = .ok (.ireturn, 1) := by decide +kernel
theorem d_L_actChange_0 : decode b_L_actChange 0 = .ok (.aload_n 0, 1) := by decide +kernel
theorem d_L_actChange_1 : decode b_L_actChange 1 = .ok (.getfield 25, 3) := by decide +kernel
theorem d_L_actChange_4 : decode b_L_actChange 4 = .ok (.aload_n 1, 1) := by decide +kernel
theorem d_L_actChange_5 : decode b_L_actChange 5 = .ok (.getfield 214, 3) := by decide +kernel
theorem d_L_actChange_8 : decode b_L_actChange 8 = .ok (.iload 4, 2) := by decide +kernel
theorem d_L_actChange_10 : decode b_L_actChange 10 = .ok (.invokevirtual 171, 3) := by decide +kernel
theorem d_L_actChange_13 : decode b_L_actChange 13 = .ok (.ifCond .ne 8, 3) := by decide +kernel
theorem d_L_actChange_16 : decode b_L_actChange 16 = .ok (.aload_n 0, 1) := by decide +kernel
theorem d_L_actChange_17 : decode b_L_actChange 17 = .ok (.invokevirtual 175, 3) := by decide +kernel
theorem d_L_actChange_20 : decode b_L_actChange 20 = .ok (.ireturn, 1) := by decide +kernel
theorem d_L_actChange_21 : decode b_L_actChange 21 = .ok (.aload_n 0, 1) := by decide +kernel
theorem d_L_actChange_22 : decode b_L_actChange 22 = .ok (.iload_n 2, 1) := by decide +kernel
theorem d_L_actChange_23 : decode b_L_actChange 23 = .ok (.iload_n 3, 1) := by decide +kernel
theorem d_L_actChange_24 : decode b_L_actChange 24 = .ok (.iload 4, 2) := by decide +kernel
theorem d_L_actChange_26 : decode b_L_actChange 26 = .ok (.aload_n 1, 1) := by decide +kernel
theorem d_L_actChange_27 : decode b_L_actChange 27 = .ok (.getfield 217, 3) := by decide +kernel
theorem d_L_actChange_30 : decode b_L_actChange 30 = .ok (.iadd, 1) := by decide +kernel
theorem d_L_actChange_31 : decode b_L_actChange 31 = .ok (.invokevirtual 152, 3) := by decide +kernel
theorem d_L_actChange_34 : decode b_L_actChange 34 = .ok (.istore 5, 2) := by decide +kernel
theorem d_L_actChange_36 : decode b_L_actChange 36 = .ok (.iload 5, 2) := by decide +kernel
theorem d_L_actChange_38 : decode b_L_actChange 38 = .ok (.ifCond .ne 19, 3) := by decide +kernel
theorem d_L_actChange_41 : decode b_L_actChange 41 = .ok (.aload_n 0, 1) := by decide +kernel
theorem d_L_actChange_42 : decode b_L_actChange 42 = .ok (.aload_n 0, 1) := by decide +kernel
theorem d_L_actChange_43 : decode b_L_actChange 43 = .ok (.getfield 53, 3) := by decide +kernel
theorem d_L_actChange_46 : decode b_L_actChange 46 = .ok (.aload_n 1, 1) := by decide +kernel
theorem d_L_actChange_47 : decode b_L_actChange 47 = .ok (.getfield 220, 3) := by decide +kernel
theorem d_L_actChange_50 : decode b_L_actChange 50 = .ok (.iadd, 1) := by decide +kernel
theorem d_L_actChange_51 : decode b_L_actChange 51 = .ok (.invokevirtual 184, 3) := by decide +kernel
theorem d_L_actChange_54 : decode b_L_actChange 54 = .ok (.goto 5, 3) := by decide +kernel
theorem d_L_actChange_57 : decode b_L_actChange 57 = .ok (.iload 5, 2) := by decide +kernel
theorem d_L_actChange_59 : decode b_L_actChange 59 = .ok (.ireturn, 1) := by decide +kernel
theorem d_L_actSkip_0 : decode b_L_actSkip 0 = .ok (.aload_n 0, 1) := by decide +kernel
theorem d_L_actSkip_1 : decode b_L_actSkip 1 = .ok (.getfield 25, 3) := by decide +kernel
theorem d_L_actSkip_4 : decode b_L_actSkip 4 = .ok (.aload_n 1, 1) := by decide +kernel
theorem d_L_actSkip_5 : decode b_L_actSkip 5 = .ok (.getfield 214, 3) := by decide +kernel
theorem d_L_actSkip_8 : decode b_L_actSkip 8 = .ok (.iload 4, 2) := by decide +kernel
theorem d_L_actSkip_10 : decode b_L_actSkip 10 = .ok (.invokevirtual 171, 3) := by decide +kernel
theorem d_L_actSkip_13 : decode b_L_actSkip 13 = .ok (.ifCond .ne 8, 3) := by decide +kernel
theorem d_L_actSkip_16 : decode b_L_actSkip 16 = .ok (.aload_n 0, 1) := by decide +kernel
theorem d_L_actSkip_17 : decode b_L_actSkip 17 = .ok (.invokevirtual 175, 3) := by decide +kernel
theorem d_L_actSkip_20 : decode b_L_actSkip 20 = .ok (.ireturn, 1) := by decide +kernel
theorem d_L_actSkip_21 : decode b_L_actSkip 21 = .ok (.iload 4, 2) := by decide +kernel
theorem d_L_actSkip_23 : decode b_L_actSkip 23 = .ok (.aload_n 1, 1) := by decide +kernel
theorem d_L_actSkip_24 : decode b_L_actSkip 24 = .ok (.getfield 217, 3) := by decide +kernel
theorem d_L_actSkip_27 : decode b_L_actSkip 27 = .ok (.if_icmp .ge 14, 3) := by decide +kernel
theorem d_L_actSkip_30 : decode b_L_actSkip 30 = .ok (.aload_n 0, 1) := by decide +kernel
theorem d_L_actSkip_31 : decode b_L_actSkip 31 = .ok (.aload_n 1, 1) := by decide +kernel
theorem d_L_actSkip_32 : decode b_L_actSkip 32 = .ok (.getfield 220, 3) := by decide +kernel
theorem d_L_actSkip_35 : decode b_L_actSkip 35 = .ok (.invokevirtual 184, 3) := by decide +kernel
theorem d_L_actSkip_38 : decode b_L_actSkip 38 = .ok (.goto 11, 3) := by decide +kernel
theorem d_L_actSkip_41 : decode b_L_actSkip 41 = .ok (.aload_n 0, 1) := by decide +kernel
theorem d_L_actSkip_42 : decode b_L_actSkip 42 = .ok (.iload_n 2, 1) := by decide +kernel
theorem d_L_actSkip_43 : decode b_L_actSkip 43 = .ok (.iload_n 3, 1) := by decide +kernel
theorem d_L_actSkip_44 : decode b_L_actSkip 44 = .ok (.iload 4, 2) := by decide +kernel
theorem d_L_actSkip_46 : decode b_L_actSkip 46 = .ok (.invokevirtual 152, 3) := by decide +kernel
theorem d_L_actSkip_49 : decode b_L_actSkip 49 = .ok (.ireturn, 1) := by decide +kernel
theorem d_L_actTwice_0 : decode b_L_actTwice 0 = .ok (.aload_n 0, 1) := by decide +kernel
theorem d_L_actTwice_1 : decode b_L_actTwice 1 = .ok (.getfield 25, 3) := by decide +kernel
theorem d_L_actTwice_4 : decode b_L_actTwice 4 = .ok (.aload_n 1, 1) := by decide +kernel
theorem d_L_actTwice_5 : decode b_L_actTwice 5 = .ok (.getfield 214, 3) := by decide +kernel
theorem d_L_actTwice_8 : decode b_L_actTwice 8 = .ok (.iload 4, 2) := by decide +kernel
theorem d_L_actTwice_10 : decode b_L_actTwice 10 = .ok (.invokevirtual 171, 3) := by decide +kernel
theorem d_L_actTwice_13 : decode b_L_actTwice 13 = .ok (.ifCond .ne 8, 3) := by decide +kernel
theorem d_L_actTwice_16 : decode b_L_actTwice 16 = .ok (.aload_n 0, 1) := by decide +kernel
theorem d_L_actTwice_17 : decode b_L_actTwice 17 = .ok (.invokevirtual 175, 3) := by decide +kernel
theorem d_L_actTwice_20 : decode b_L_actTwice 20 = .ok (.ireturn, 1) := by decide +kernel
theorem d_L_actTwice_21 : decode b_L_actTwice 21 = .ok (.aload_n 0, 1) := by decide +kernel
theorem d_L_actTwice_22 : decode b_L_actTwice 22 = .ok (.iload_n 2, 1) := by decide +kernel
theorem d_L_actTwice_23 : decode b_L_actTwice 23 = .ok (.iload_n 3, 1) := by decide +kernel
theorem d_L_actTwice_24 : decode b_L_actTwice 24 = .ok (.iload 4, 2) := by decide +kernel
theorem d_L_actTwice_26 : decode b_L_actTwice 26 = .ok (.invokevirtual 152, 3) := by decide +kernel
theorem d_L_actTwice_29 : decode b_L_actTwice 29 = .ok (.istore 5, 2) := by decide +kernel
theorem d_L_actTwice_31 : decode b_L_actTwice 31 = .ok (.iload 5, 2) := by decide +kernel
theorem d_L_actTwice_33 : decode b_L_actTwice 33 = .ok (.ifCond .eq 6, 3) := by decide +kernel
theorem d_L_actTwice_36 : decode b_L_actTwice 36 = .ok (.iload 5, 2) := by decide +kernel
theorem d_L_actTwice_38 : decode b_L_actTwice 38 = .ok (.ireturn, 1) := by decide +kernel
theorem d_L_actTwice_39 : decode b_L_actTwice 39 = .ok (.aload_n 0, 1) := by decide +kernel
theorem d_L_actTwice_40 : decode b_L_actTwice 40 = .ok (.getfield 53, 3) := by decide +kernel
theorem d_L_actTwice_43 : decode b_L_actTwice 43 = .ok (.istore 6, 2) := by decide +kernel
theorem d_L_actTwice_45 : decode b_L_actTwice 45 = .ok (.aload_n 0, 1) := by decide +kernel
theorem d_L_actTwice_46 : decode b_L_actTwice 46 = .ok (.iload_n 2, 1) := by decide +kernel
theorem d_L_actTwice_47 : decode b_L_actTwice 47 = .ok (.iload_n 3, 1) := by decide +kernel
theorem d_L_actTwice_48 : decode b_L_actTwice 48 = .ok (.iload 4, 2) := by decide +kernel
theorem d_L_actTwice_50 : decode b_L_actTwice 50 = .ok (.aload_n 1, 1) := by decide +kernel
theorem d_L_actTwice_51 : decode b_L_actTwice 51 = .ok (.getfield 217, 3) := by decide +kernel
theorem d_L_actTwice_54 : decode b_L_actTwice 54 = .ok (.iadd, 1) := by decide +kernel
theorem d_L_actTwice_55 : decode b_L_actTwice 55 = .ok (.invokevirtual 152, 3) := by decide +kernel
theorem d_L_actTwice_58 : decode b_L_actTwice 58 = .ok (.istore 7, 2) := by decide +kernel
theorem d_L_actTwice_60 : decode b_L_actTwice 60 = .ok (.iload 7, 2) := by decide +kernel
theorem d_L_actTwice_62 : decode b_L_actTwice 62 = .ok (.ifCond .ne 22, 3) := by decide +kernel
theorem d_L_actTwice_65 : decode b_L_actTwice 65 = .ok (.aload_n 0, 1) := by decide +kernel
theorem d_L_actTwice_66 : decode b_L_actTwice 66 = .ok (.iload 6, 2) := by decide +kernel
theorem d_L_actTwice_68 : decode b_L_actTwice 68 = .ok (.aload_n 0, 1) := by decide +kernel
theorem d_L_actTwice_69 : decode b_L_actTwice 69 = .ok (.getfield 53, 3) := by decide +kernel
theorem d_L_actTwice_72 : decode b_L_actTwice 72 = .ok (.iadd, 1) := by decide +kernel
theorem d_L_actTwice_73 : decode b_L_actTwice 73 = .ok (.aload_n 1, 1) := by decide +kernel
theorem d_L_actTwice_74 : decode b_L_actTwice 74 = .ok (.getfield 220, 3) := by decide +kernel
theorem d_L_actTwice_77 : decode b_L_actTwice 77 = .ok (.iadd, 1) := by decide +kernel
theorem d_L_actTwice_78 : decode b_L_actTwice 78 = .ok (.invokevirtual 184, 3) := by decide +kernel
theorem d_L_actTwice_81 : decode b_L_actTwice 81 = .ok (.goto 5, 3) := by decide +kernel
theorem d_L_actTwice_84 : decode b_L_actTwice 84 = .ok (.iload 7, 2) := by decide +kernel
theorem d_L_actTwice_86 : decode b_L_actTwice 86 = .ok (.ireturn, 1) := by decide +kernel
theorem d_L_actReturning_0 : decode b_L_actReturning 0 = .ok (.aload_n 0, 1) := by decide +kernel
theorem d_L_actReturning_1 : decode b_L_actReturning 1 = .ok (.iload_n 2, 1) := by decide +kernel
theorem d_L_actReturning_2 : decode b_L_actReturning 2 = .ok (.iload_n 3, 1) := by decide +kernel
theorem d_L_actReturning_3 : decode b_L_actReturning 3 = .ok (.iload 4, 2) := by decide +kernel
theorem d_L_actReturning_5 : decode b_L_actReturning 5 = .ok (.invokevirtual 152, 3) := by decide +kernel
theorem d_L_actReturning_8 : decode b_L_actReturning 8 = .ok (.istore 5, 2) := by decide +kernel
theorem d_L_actReturning_10 : decode b_L_actReturning 10 = .ok (.iload 5, 2) := by decide +kernel
theorem d_L_actReturning_12 : decode b_L_actReturning 12 = .ok (.ifCond .eq 6, 3) := by decide +kernel
theorem d_L_actReturning_15 : decode b_L_actReturning 15 = .ok (.iload 5, 2) := by decide +kernel
theorem d_L_actReturning_17 : decode b_L_actReturning 17 = .ok (.ireturn, 1) := by decide +kernel
theorem d_L_actReturning_18 : decode b_L_actReturning 18 = .ok (.aload_n 0, 1) := by decide +kernel
theorem d_L_actReturning_19 : decode b_L_actReturning 19 = .ok (.getfield 25, 3) := by decide +kernel
theorem d_L_actReturning_22 : decode b_L_actReturning 22 = .ok (.aload_n 1, 1) := by decide +kernel
theorem d_L_actReturning_23 : decode b_L_actReturning 23 = .ok (.getfield 214, 3) := by decide +kernel
theorem d_L_actReturning_26 : decode b_L_actReturning 26 = .ok (.aload_n 0, 1) := by decide +kernel
theorem d_L_actReturning_27 : decode b_L_actReturning 27 = .ok (.getfield 53, 3) := by decide +kernel
theorem d_L_actReturning_30 : decode b_L_actReturning 30 = .ok (.invokevirtual 171, 3) := by decide +kernel
theorem d_L_actReturning_33 : decode b_L_actReturning 33 = .ok (.ifCond .ne 8, 3) := by decide +kernel
theorem d_L_actReturning_36 : decode b_L_actReturning 36 = .ok (.aload_n 0, 1) := by decide +kernel
theorem d_L_actReturning_37 : decode b_L_actReturning 37 = .ok (.invokevirtual 175, 3) := by decide +kernel
theorem d_L_actReturning_40 : decode b_L_actReturning 40 = .ok (.ireturn, 1) := by decide +kernel
theorem d_L_actReturning_41 : decode b_L_actReturning 41 = .ok (.aload_n 0, 1) := by decide +kernel
theorem d_L_actReturning_42 : decode b_L_actReturning 42 = .ok (.getfield 53, 3) := by decide +kernel
theorem d_L_actReturning_45 : decode b_L_actReturning 45 = .ok (.aload_n 1, 1) := by decide +kernel
theorem d_L_actReturning_46 : decode b_L_actReturning 46 = .ok (.getfield 217, 3) := by decide +kernel
theorem d_L_actReturning_49 : decode b_L_actReturning 49 = .ok (.if_icmp .ne 14, 3) := by decide +kernel
theorem d_L_actReturning_52 : decode b_L_actReturning 52 = .ok (.aload_n 0, 1) := by decide +kernel
theorem d_L_actReturning_53 : decode b_L_actReturning 53 = .ok (.aload_n 1, 1) := by decide +kernel
theorem d_L_actReturning_54 : decode b_L_actReturning 54 = .ok (.getfield 220, 3) := by decide +kernel
theorem d_L_actReturning_57 : decode b_L_actReturning 57 = .ok (.invokevirtual 145, 3) := by decide +kernel
theorem d_L_actReturning_60 : decode b_L_actReturning 60 = .ok (.goto 4, 3) := by decide +kernel
theorem d_L_actReturning_63 : decode b_L_actReturning 63 = .ok (.iconst 0, 1) := by decide +kernel
theorem d_L_actReturning_64 : decode b_L_actReturning 64 = .ok (.ireturn, 1) := by decide +kernel
theorem d_L_actThrowing_0 : decode b_L_actThrowing 0 = .ok (.aload_n 0, 1) := by decide +kernel
theorem d_L_actThrowing_1 : decode b_L_actThrowing 1 = .ok (.iload_n 2, 1) := by decide +kernel
theorem d_L_actThrowing_2 : decode b_L_actThrowing 2 = .ok (.iload_n 3, 1) := by decide +kernel
theorem d_L_actThrowing_3 : decode b_L_actThrowing 3 = .ok (.iload 4, 2) := by decide +kernel
theorem d_L_actThrowing_5 : decode b_L_actThrowing 5 = .ok (.invokevirtual 152, 3) := by decide +kernel
theorem d_L_actThrowing_8 : decode b_L_actThrowing 8 = .ok (.istore 5, 2) := by decide +kernel
theorem d_L_actThrowing_10 : decode b_L_actThrowing 10 = .ok (.iload 5, 2) := by decide +kernel
theorem d_L_actThrowing_12 : decode b_L_actThrowing 12 = .ok (.iconst 1, 1) := by decide +kernel
theorem d_L_actThrowing_13 : decode b_L_actThrowing 13 = .ok (.if_icmp .ne 17, 3) := by decide +kernel
theorem d_L_actThrowing_16 : decode b_L_actThrowing 16 = .ok (.aload_n 0, 1) := by decide +kernel
theorem d_L_actThrowing_17 : decode b_L_actThrowing 17 = .ok (.getfield 53, 3) := by decide +kernel
theorem d_L_actThrowing_20 : decode b_L_actThrowing 20 = .ok (.aload_n 1, 1) := by decide +kernel
theorem d_L_actThrowing_21 : decode b_L_actThrowing 21 = .ok (.getfield 217, 3) := by decide +kernel
theorem d_L_actThrowing_24 : decode b_L_actThrowing 24 = .ok (.invokestatic 223, 3) := by decide +kernel
theorem d_L_actThrowing_27 : decode b_L_actThrowing 27 = .ok (.ifCond .ne 6, 3) := by decide +kernel
theorem d_L_actThrowing_30 : decode b_L_actThrowing 30 = .ok (.iload 5, 2) := by decide +kernel
theorem d_L_actThrowing_32 : decode b_L_actThrowing 32 = .ok (.ireturn, 1) := by decide +kernel
theorem d_L_actThrowing_33 : decode b_L_actThrowing 33 = .ok (.aload_n 0, 1) := by decide +kernel
theorem d_L_actThrowing_34 : decode b_L_actThrowing 34 = .ok (.getfield 25, 3) := by decide +kernel
theorem d_L_actThrowing_37 : decode b_L_actThrowing 37 = .ok (.aload_n 1, 1) := by decide +kernel
theorem d_L_actThrowing_38 : decode b_L_actThrowing 38 = .ok (.getfield 214, 3) := by decide +kernel
theorem d_L_actThrowing_41 : decode b_L_actThrowing 41 = .ok (.aload_n 0, 1) := by decide +kernel
theorem d_L_actThrowing_42 : decode b_L_actThrowing 42 = .ok (.getfield 53, 3) := by decide +kernel
theorem d_L_actThrowing_45 : decode b_L_actThrowing 45 = .ok (.invokevirtual 171, 3) := by decide +kernel
theorem d_L_actThrowing_48 : decode b_L_actThrowing 48 = .ok (.ifCond .ne 8, 3) := by decide +kernel
theorem d_L_actThrowing_51 : decode b_L_actThrowing 51 = .ok (.aload_n 0, 1) := by decide +kernel
theorem d_L_actThrowing_52 : decode b_L_actThrowing 52 = .ok (.invokevirtual 175, 3) := by decide +kernel
theorem d_L_actThrowing_55 : decode b_L_actThrowing 55 = .ok (.ireturn, 1) := by decide +kernel
theorem d_L_actThrowing_56 : decode b_L_actThrowing 56 = .ok (.aload_n 1, 1) := by decide +kernel
theorem d_L_actThrowing_57 : decode b_L_actThrowing 57 = .ok (.getfield 220, 3) := by decide +kernel
theorem d_L_actThrowing_60 : decode b_L_actThrowing 60 = .ok (.ifCond .ne 7, 3) := by decide +kernel
theorem d_L_actThrowing_63 : decode b_L_actThrowing 63 = .ok (.iconst 1, 1) := by decide +kernel
theorem d_L_actThrowing_64 : decode b_L_actThrowing 64 = .ok (.goto 11, 3) := by decide +kernel
theorem d_L_actThrowing_67 : decode b_L_actThrowing 67 = .ok (.aload_n 0, 1) := by decide +kernel
theorem d_L_actThrowing_68 : decode b_L_actThrowing 68 = .ok (.aload_n 1, 1) := by decide +kernel
theorem d_L_actThrowing_69 : decode b_L_actThrowing 69 = .ok (.getfield 220, 3) := by decide +kernel
theorem d_L_actThrowing_72 : decode b_L_actThrowing 72 = .ok (.invokevirtual 145, 3) := by decide +kernel
theorem d_L_actThrowing_75 : decode b_L_actThrowing 75 = .ok (.ireturn, 1) := by decide +kernel
theorem d_L_actFinally_0 : decode b_L_actFinally 0 = .ok (.aload_n 0, 1) := by decide +kernel
theorem d_L_actFinally_1 : decode b_L_actFinally 1 = .ok (.iload_n 2, 1) := by decide +kernel
theorem d_L_actFinally_2 : decode b_L_actFinally 2 = .ok (.iload_n 3, 1) := by decide +kernel
theorem d_L_actFinally_3 : decode b_L_actFinally 3 = .ok (.iload 4, 2) := by decide +kernel
theorem d_L_actFinally_5 : decode b_L_actFinally 5 = .ok (.invokevirtual 152, 3) := by decide +kernel
theorem d_L_actFinally_8 : decode b_L_actFinally 8 = .ok (.istore 5, 2) := by decide +kernel
theorem d_L_actFinally_10 : decode b_L_actFinally 10 = .ok (.iload 5, 2) := by decide +kernel
theorem d_L_actFinally_12 : decode b_L_actFinally 12 = .ok (.iconst 2, 1) := by decide +kernel
theorem d_L_actFinally_13 : decode b_L_actFinally 13 = .ok (.if_icmp .ne 5, 3) := by decide +kernel
theorem d_L_actFinally_16 : decode b_L_actFinally 16 = .ok (.iconst 2, 1) := by decide +kernel
theorem d_L_actFinally_17 : decode b_L_actFinally 17 = .ok (.ireturn, 1) := by decide +kernel
theorem d_L_actFinally_18 : decode b_L_actFinally 18 = .ok (.aload_n 0, 1) := by decide +kernel
theorem d_L_actFinally_19 : decode b_L_actFinally 19 = .ok (.getfield 25, 3) := by decide +kernel
theorem d_L_actFinally_22 : decode b_L_actFinally 22 = .ok (.aload_n 1, 1) := by decide +kernel
theorem d_L_actFinally_23 : decode b_L_actFinally 23 = .ok (.getfield 214, 3) := by decide +kernel
theorem d_L_actFinally_26 : decode b_L_actFinally 26 = .ok (.iload 4, 2) := by decide +kernel
theorem d_L_actFinally_28 : decode b_L_actFinally 28 = .ok (.invokevirtual 171, 3) := by decide +kernel
theorem d_L_actFinally_31 : decode b_L_actFinally 31 = .ok (.ifCond .ne 8, 3) := by decide +kernel
theorem d_L_actFinally_34 : decode b_L_actFinally 34 = .ok (.aload_n 0, 1) := by decide +kernel
theorem d_L_actFinally_35 : decode b_L_actFinally 35 = .ok (.invokevirtual 175, 3) := by decide +kernel
theorem d_L_actFinally_38 : decode b_L_actFinally 38 = .ok (.ireturn, 1) := by decide +kernel
theorem d_L_actFinally_39 : decode b_L_actFinally 39 = .ok (.iload 4, 2) := by decide +kernel
theorem d_L_actFinally_41 : decode b_L_actFinally 41 = .ok (.aload_n 1, 1) := by decide +kernel
theorem d_L_actFinally_42 : decode b_L_actFinally 42 = .ok (.getfield 217, 3) := by decide +kernel
theorem d_L_actFinally_45 : decode b_L_actFinally 45 = .ok (.if_icmp .ne 14, 3) := by decide +kernel
theorem d_L_actFinally_48 : decode b_L_actFinally 48 = .ok (.aload_n 0, 1) := by decide +kernel
theorem d_L_actFinally_49 : decode b_L_actFinally 49 = .ok (.aload_n 1, 1) := by decide +kernel
theorem d_L_actFinally_50 : decode b_L_actFinally 50 = .ok (.getfield 220, 3) := by decide +kernel
theorem d_L_actFinally_53 : decode b_L_actFinally 53 = .ok (.invokevirtual 145, 3) := by decide +kernel
theorem d_L_actFinally_56 : decode b_L_actFinally 56 = .ok (.goto 5, 3) := by decide +kernel
theorem d_L_actFinally_59 : decode b_L_actFinally 59 = .ok (.iload 5, 2) := by decide +kernel
theorem d_L_actFinally_61 : decode b_L_actFinally 61 = .ok (.ireturn, 1) := by decide +kernel
theorem d_L_actRecover_0 : decode b_L_actRecover 0 = .ok (.aload_n 0, 1) := by decide +kernel
theorem d_L_actRecover_1 : decode b_L_actRecover 1 = .ok (.iload_n 2, 1) := by decide +kernel
theorem d_L_actRecover_2 : decode b_L_actRecover 2 = .ok (.iload_n 3, 1) := by decide +kernel
theorem d_L_actRecover_3 : decode b_L_actRecover 3 = .ok (.iload 4, 2) := by decide +kernel
theorem d_L_actRecover_5 : decode b_L_actRecover 5 = .ok (.invokevirtual 152, 3) := by decide +kernel
theorem d_L_actRecover_8 : decode b_L_actRecover 8 = .ok (.istore 5, 2) := by decide +kernel
theorem d_L_actRecover_10 : decode b_L_actRecover 10 = .ok (.iload 5, 2) := by decide +kernel
theorem d_L_actRecover_12 : decode b_L_actRecover 12 = .ok (.iconst 1, 1) := by decide +kernel
theorem d_L_actRecover_13 : decode b_L_actRecover 13 = .ok (.if_icmp .ne 17, 3) := by decide +kernel
theorem d_L_actRecover_16 : decode b_L_actRecover 16 = .ok (.aload_n 0, 1) := by decide +kernel
theorem d_L_actRecover_17 : decode b_L_actRecover 17 = .ok (.getfield 53, 3) := by decide +kernel
theorem d_L_actRecover_20 : decode b_L_actRecover 20 = .ok (.aload_n 1, 1) := by decide +kernel
theorem d_L_actRecover_21 : decode b_L_actRecover 21 = .ok (.getfield 217, 3) := by decide +kernel
theorem d_L_actRecover_24 : decode b_L_actRecover 24 = .ok (.invokestatic 223, 3) := by decide +kernel
theorem d_L_actRecover_27 : decode b_L_actRecover 27 = .ok (.ifCond .ne 6, 3) := by decide +kernel
theorem d_L_actRecover_30 : decode b_L_actRecover 30 = .ok (.iload 5, 2) := by decide +kernel
theorem d_L_actRecover_32 : decode b_L_actRecover 32 = .ok (.ireturn, 1) := by decide +kernel
theorem d_L_actRecover_33 : decode b_L_actRecover 33 = .ok (.aload_n 0, 1) := by decide +kernel
theorem d_L_actRecover_34 : decode b_L_actRecover 34 = .ok (.getfield 25, 3) := by decide +kernel
theorem d_L_actRecover_37 : decode b_L_actRecover 37 = .ok (.aload_n 1, 1) := by decide +kernel
theorem d_L_actRecover_38 : decode b_L_actRecover 38 = .ok (.getfield 214, 3) := by decide +kernel
theorem d_L_actRecover_41 : decode b_L_actRecover 41 = .ok (.aload_n 0, 1) := by decide +kernel
theorem d_L_actRecover_42 : decode b_L_actRecover 42 = .ok (.getfield 53, 3) := by decide +kernel
theorem d_L_actRecover_45 : decode b_L_actRecover 45 = .ok (.invokevirtual 171, 3) := by decide +kernel
theorem d_L_actRecover_48 : decode b_L_actRecover 48 = .ok (.ifCond .ne 8, 3) := by decide +kernel
theorem d_L_actRecover_51 : decode b_L_actRecover 51 = .ok (.aload_n 0, 1) := by decide +kernel
theorem d_L_actRecover_52 : decode b_L_actRecover 52 = .ok (.invokevirtual 175, 3) := by decide +kernel
theorem d_L_actRecover_55 : decode b_L_actRecover 55 = .ok (.ireturn, 1) := by decide +kernel
theorem d_L_actRecover_56 : decode b_L_actRecover 56 = .ok (.aload_n 0, 1) := by decide +kernel
theorem d_L_actRecover_57 : decode b_L_actRecover 57 = .ok (.aload_n 1, 1) := by decide +kernel
theorem d_L_actRecover_58 : decode b_L_actRecover 58 = .ok (.getfield 220, 3) := by decide +kernel
theorem d_L_actRecover_61 : decode b_L_actRecover 61 = .ok (.invokevirtual 184, 3) := by decide +kernel
theorem d_L_actRecover_64 : decode b_L_actRecover 64 = .ok (.ireturn, 1) := by decide +kernel
end
section
theorem d_M_init_0 : decode b_M_init 0 = .ok (.aload_n 0, 1) := by decide +kernel
theorem d_M_init_1 : decode b_M_init 1 = .ok (.invokespecial 1, 3) := by decide +kernel
theorem d_M_init_4 : decode b_M_init 4 = .ok (.aload_n 0, 1) := by decide +kernel
theorem d_M_init_5 : decode b_M_init 5 = .ok (.bipush 6, 2) := by decide +kernel
theorem d_M_init_7 : decode b_M_init 7 = .ok (.newarray .int, 2) := by decide +kernel
theorem d_M_init_9 : decode b_M_init 9 = .ok (.putfield 7, 3) := by decide +kernel
theorem d_M_init_12 : decode b_M_init 12 = .ok (.aload_n 0, 1) := by decide +kernel
theorem d_M_init_13 : decode b_M_init 13 = .ok (.bipush 6, 2) := by decide +kernel
theorem d_M_init_15 : decode b_M_init 15 = .ok (.newarray .int, 2) := by decide +kernel
theorem d_M_init_17 : decode b_M_init 17 = .ok (.putfield 13, 3) := by decide +kernel
theorem d_M_init_20 : decode b_M_init 20 = .ok (.aload_n 0, 1) := by decide +kernel
theorem d_M_init_21 : decode b_M_init 21 = .ok (.bipush 6, 2) := by decide +kernel
theorem d_M_init_23 : decode b_M_init 23 = .ok (.newarray .int, 2) := by decide +kernel
theorem d_M_init_25 : decode b_M_init 25 = .ok (.putfield 16, 3) := by decide +kernel
theorem d_M_init_28 : decode b_M_init 28 = .ok (.aload_n 0, 1) := by decide +kernel
theorem d_M_init_29 : decode b_M_init 29 = .ok (.bipush 6, 2) := by decide +kernel
theorem d_M_init_31 : decode b_M_init 31 = .ok (.newarray .int, 2) := by decide +kernel
theorem d_M_init_33 : decode b_M_init 33 = .ok (.putfield 19, 3) := by decide +kernel
theorem d_M_init_36 : decode b_M_init 36 = .ok (.aload_n 0, 1) := by decide +kernel
theorem d_M_init_37 : decode b_M_init 37 = .ok (.bipush 6, 2) := by decide +kernel
theorem d_M_init_39 : decode b_M_init 39 = .ok (.newarray .int, 2) := by decide +kernel
theorem d_M_init_41 : decode b_M_init 41 = .ok (.putfield 22, 3) := by decide +kernel
theorem d_M_init_44 : decode b_M_init 44 = .ok (.aload_n 0, 1) := by decide +kernel
theorem d_M_init_45 : decode b_M_init 45 = .ok (.bipush 6, 2) := by decide +kernel
theorem d_M_init_47 : decode b_M_init 47 = .ok (.newarray .int, 2) := by decide +kernel
theorem d_M_init_49 : decode b_M_init 49 = .ok (.putfield 25, 3) := by decide +kernel
theorem d_M_init_52 : decode b_M_init 52 = .ok (.aload_n 0, 1) := by decide +kernel
theorem d_M_init_53 : decode b_M_init 53 = .ok (.bipush 6, 2) := by decide +kernel
theorem d_M_init_55 : decode b_M_init 55 = .ok (.newarray .boolean, 2) := by decide +kernel
theorem d_M_init_57 : decode b_M_init 57 = .ok (.putfield 28, 3) := by decide +kernel
theorem d_M_init_60 : decode b_M_init 60 = .ok (.aload_n 0, 1) := by decide +kernel
theorem d_M_init_61 : decode b_M_init 61 = .ok (.bipush 6, 2) := by decide +kernel
theorem d_M_init_63 : decode b_M_init 63 = .ok (.newarray .int, 2) := by decide +kernel
theorem d_M_init_65 : decode b_M_init 65 = .ok (.putfield 32, 3) := by decide +kernel
theorem d_M_init_68 : decode b_M_init 68 = .ok (.aload_n 0, 1) := by decide +kernel
theorem d_M_init_69 : decode b_M_init 69 = .ok (.bipush 6, 2) := by decide +kernel
theorem d_M_init_71 : decode b_M_init 71 = .ok (.newarray .int, 2) := by decide +kernel
theorem d_M_init_73 : decode b_M_init 73 = .ok (.putfield 35, 3) := by decide +kernel
theorem d_M_init_76 : decode b_M_init 76 = .ok (.aload_n 0, 1) := by decide +kernel
theorem d_M_init_77 : decode b_M_init 77 = .ok (.bipush 12, 2) := by decide +kernel
theorem d_M_init_79 : decode b_M_init 79 = .ok (.newarray .int, 2) := by decide +kernel
theorem d_M_init_81 : decode b_M_init 81 = .ok (.putfield 38, 3) := by decide +kernel
theorem d_M_init_84 : decode b_M_init 84 = .ok (.aload_n 0, 1) := by decide +kernel
theorem d_M_init_85 : decode b_M_init 85 = .ok (.bipush 12, 2) := by decide +kernel
theorem d_M_init_87 : decode b_M_init 87 = .ok (.newarray .int, 2) := by decide +kernel
theorem d_M_init_89 : decode b_M_init 89 = .ok (.putfield 41, 3) := by decide +kernel
theorem d_M_init_92 : decode b_M_init 92 = .ok (.aload_n 0, 1) := by decide +kernel
theorem d_M_init_93 : decode b_M_init 93 = .ok (.bipush 12, 2) := by decide +kernel
theorem d_M_init_95 : decode b_M_init 95 = .ok (.newarray .int, 2) := by decide +kernel
theorem d_M_init_97 : decode b_M_init 97 = .ok (.putfield 44, 3) := by decide +kernel
theorem d_M_init_100 : decode b_M_init 100 = .ok (.aload_n 0, 1) := by decide +kernel
theorem d_M_init_101 : decode b_M_init 101 = .ok (.bipush 12, 2) := by decide +kernel
theorem d_M_init_103 : decode b_M_init 103 = .ok (.newarray .int, 2) := by decide +kernel
theorem d_M_init_105 : decode b_M_init 105 = .ok (.putfield 47, 3) := by decide +kernel
theorem d_M_init_108 : decode b_M_init 108 = .ok (.aload_n 0, 1) := by decide +kernel
theorem d_M_init_109 : decode b_M_init 109 = .ok (.bipush 12, 2) := by decide +kernel
theorem d_M_init_111 : decode b_M_init 111 = .ok (.newarray .int, 2) := by decide +kernel
theorem d_M_init_113 : decode b_M_init 113 = .ok (.putfield 50, 3) := by decide +kernel
theorem d_M_init_116 : decode b_M_init 116 = .ok (.aload_n 0, 1) := by decide +kernel
theorem d_M_init_117 : decode b_M_init 117 = .ok (.bipush 100, 2) := by decide +kernel
theorem d_M_init_119 : decode b_M_init 119 = .ok (.newarray .int, 2) := by decide +kernel
theorem d_M_init_121 : decode b_M_init 121 = .ok (.putfield 53, 3) := by decide +kernel
theorem d_M_init_124 : decode b_M_init 124 = .ok (.aload_n 0, 1) := by decide +kernel
theorem d_M_init_125 : decode b_M_init 125 = .ok (.bipush 100, 2) := by decide +kernel
theorem d_M_init_127 : decode b_M_init 127 = .ok (.newarray .int, 2) := by decide +kernel
theorem d_M_init_129 : decode b_M_init 129 = .ok (.putfield 56, 3) := by decide +kernel
theorem d_M_init_132 : decode b_M_init 132 = .ok (.aload_n 0, 1) := by decide +kernel
theorem d_M_init_133 : decode b_M_init 133 = .ok (.iconst 4, 1) := by decide +kernel
theorem d_M_init_134 : decode b_M_init 134 = .ok (.newarray .int, 2) := by decide +kernel
theorem d_M_init_136 : decode b_M_init 136 = .ok (.putfield 59, 3) := by decide +kernel
theorem d_M_init_139 : decode b_M_init 139 = .ok (.aload_n 0, 1) := by decide +kernel
theorem d_M_init_140 : decode b_M_init 140 = .ok (.iconst 4, 1) := by decide +kernel
theorem d_M_init_141 : decode b_M_init 141 = .ok (.newarray .int, 2) := by decide +kernel
theorem d_M_init_143 : decode b_M_init 143 = .ok (.putfield 62, 3) := by decide +kernel
theorem d_M_init_146 : decode b_M_init 146 = .ok (.aload_n 0, 1) := by decide +kernel
theorem d_M_init_147 : decode b_M_init 147 = .ok (.bipush 30, 2) := by decide +kernel
theorem d_M_init_149 : decode b_M_init 149 = .ok (.newarray .int, 2) := by decide +kernel
theorem d_M_init_151 : decode b_M_init 151 = .ok (.putfield 65, 3) := by decide +kernel
theorem d_M_init_154 : decode b_M_init 154 = .ok (.aload_n 0, 1) := by decide +kernel
theorem d_M_init_155 : decode b_M_init 155 = .ok (.bipush 30, 2) := by decide +kernel
theorem d_M_init_157 : decode b_M_init 157 = .ok (.newarray .int, 2) := by decide +kernel
theorem d_M_init_159 : decode b_M_init 159 = .ok (.putfield 68, 3) := by decide +kernel
theorem d_M_init_162 : decode b_M_init 162 = .ok (.aload_n 0, 1) := by decide +kernel
theorem d_M_init_163 : decode b_M_init 163 = .ok (.bipush 30, 2) := by decide +kernel
theorem d_M_init_165 : decode b_M_init 165 = .ok (.newarray .int, 2) := by decide +kernel
theorem d_M_init_167 : decode b_M_init 167 = .ok (.putfield 71, 3) := by decide +kernel
theorem d_M_init_170 : decode b_M_init 170 = .ok (.aload_n 0, 1) := by decide +kernel
theorem d_M_init_171 : decode b_M_init 171 = .ok (.bipush 30, 2) := by decide +kernel
theorem d_M_init_173 : decode b_M_init 173 = .ok (.newarray .int, 2) := by decide +kernel
theorem d_M_init_175 : decode b_M_init 175 = .ok (.putfield 74, 3) := by decide +kernel
theorem d_M_init_178 : decode b_M_init 178 = .ok (.aload_n 0, 1) := by decide +kernel
theorem d_M_init_179 : decode b_M_init 179 = .ok (.bipush 30, 2) := by decide +kernel
theorem d_M_init_181 : decode b_M_init 181 = .ok (.newarray .int, 2) := by decide +kernel
theorem d_M_init_183 : decode b_M_init 183 = .ok (.putfield 77, 3) := by decide +kernel
theorem d_M_init_186 : decode b_M_init 186 = .ok (.aload_n 0, 1) := by decide +kernel
theorem d_M_init_187 : decode b_M_init 187 = .ok (.bipush 30, 2) := by decide +kernel
theorem d_M_init_189 : decode b_M_init 189 = .ok (.newarray .boolean, 2) := by decide +kernel
theorem d_M_init_191 : decode b_M_init 191 = .ok (.putfield 80, 3) := by decide +kernel
theorem d_M_init_194 : decode b_M_init 194 = .ok (.iconst 0, 1) := by decide +kernel
theorem d_M_init_195 : decode b_M_init 195 = .ok (.istore_n 1, 1) := by decide +kernel
theorem d_M_init_196 : decode b_M_init 196 = .ok (.iload_n 1, 1) := by decide +kernel
theorem d_M_init_197 : decode b_M_init 197 = .ok (.bipush 12, 2) := by decide +kernel
theorem d_M_init_199 : decode b_M_init 199 = .ok (.if_icmp .ge 23, 3) := by decide +kernel
theorem d_M_init_202 : decode b_M_init 202 = .ok (.aload_n 0, 1) := by decide +kernel
theorem d_M_init_203 : decode b_M_init 203 = .ok (.getfield 38, 3) := by decide +kernel
theorem d_M_init_206 : decode b_M_init 206 = .ok (.iload_n 1, 1) := by decide +kernel
theorem d_M_init_207 : decode b_M_init 207 = .ok (.iconst 1, 1) := by decide +kernel
theorem d_M_init_208 : decode b_M_init 208 = .ok (.iastore, 1) := by decide +kernel
theorem d_M_init_209 : decode b_M_init 209 = .ok (.aload_n 0, 1) := by decide +kernel
theorem d_M_init_210 : decode b_M_init 210 = .ok (.getfield 50, 3) := by decide +kernel
theorem d_M_init_213 : decode b_M_init 213 = .ok (.iload_n 1, 1) := by decide +kernel
theorem d_M_init_214 : decode b_M_init 214 = .ok (.iconst (-1), 1) := by decide +kernel
theorem d_M_init_215 : decode b_M_init 215 = .ok (.iastore, 1) := by decide +kernel
theorem d_M_init_216 : decode b_M_init 216 = .ok (.iinc 1 1, 3) := by decide +kernel
theorem d_M_init_219 : decode b_M_init 219 = .ok (.goto (-23), 3) := by decide +kernel
theorem d_M_init_222 : decode b_M_init 222 = .ok (.return_, 1) := by decide +kernel
theorem d_M_within_0 : decode b_M_within 0 = .ok (.iload_n 0, 1) := by decide +kernel
theorem d_M_within_1 : decode b_M_within 1 = .ok (.iload_n 1, 1) := by decide +kernel
theorem d_M_within_2 : decode b_M_within 2 = .ok (.if_icmp .lt 12, 3) := by decide +kernel
theorem d_M_within_5 : decode b_M_within 5 = .ok (.iload_n 0, 1) := by decide +kernel
theorem d_M_within_6 : decode b_M_within 6 = .ok (.iload_n 2, 1) := by decide +kernel
theorem d_M_within_7 : decode b_M_within 7 = .ok (.if_icmp .gt 7, 3) := by decide +kernel
theorem d_M_within_10 : decode b_M_within 10 = .ok (.iconst 1, 1) := by decide +kernel
theorem d_M_within_11 : decode b_M_within 11 = .ok (.goto 4, 3) := by decide +kernel
theorem d_M_within_14 : decode b_M_within 14 = .ok (.iconst 0, 1) := by decide +kernel
theorem d_M_within_15 : decode b_M_within 15 = .ok (.ireturn, 1) := by decide +kernel
theorem d_M_isException_0 : decode b_M_isException 0 = .ok (.iload_n 0, 1) := by decide +kernel
theorem d_M_isException_1 : decode b_M_isException 1 = .ok (.iconst 1, 1) := by decide +kernel
theorem d_M_isException_2 : decode b_M_isException 2 = .ok (.bipush 15, 2) := by decide +kernel
theorem d_M_isException_4 : decode b_M_isException 4 = .ok (.invokestatic 83, 3) := by decide +kernel
theorem d_M_isException_7 : decode b_M_isException 7 = .ok (.ireturn, 1) := by decide +kernel
theorem d_M_fits_0 : decode b_M_fits 0 = .ok (.iload_n 0, 1) := by decide +kernel
theorem d_M_fits_1 : decode b_M_fits 1 = .ok (.ifCond .eq 14, 3) := by decide +kernel
theorem d_M_fits_4 : decode b_M_fits 4 = .ok (.iload_n 0, 1) := by decide +kernel
theorem d_M_fits_5 : decode b_M_fits 5 = .ok (.iconst 4, 1) := by decide +kernel
theorem d_M_fits_6 : decode b_M_fits 6 = .ok (.if_icmp .eq 9, 3) := by decide +kernel
theorem d_M_fits_9 : decode b_M_fits 9 = .ok (.iload_n 0, 1) := by decide +kernel
theorem d_M_fits_10 : decode b_M_fits 10 = .ok (.bipush 6, 2) := by decide +kernel
theorem d_M_fits_12 : decode b_M_fits 12 = .ok (.if_icmp .ne 8, 3) := by decide +kernel
theorem d_M_fits_15 : decode b_M_fits 15 = .ok (.iload_n 2, 1) := by decide +kernel
theorem d_M_fits_16 : decode b_M_fits 16 = .ok (.invokestatic 87, 3) := by decide +kernel
theorem d_M_fits_19 : decode b_M_fits 19 = .ok (.ireturn, 1) := by decide +kernel
theorem d_M_fits_20 : decode b_M_fits 20 = .ok (.iload_n 0, 1) := by decide +kernel
theorem d_M_fits_21 : decode b_M_fits 21 = .ok (.iconst 5, 1) := by decide +kernel
theorem d_M_fits_22 : decode b_M_fits 22 = .ok (.if_icmp .ne 26, 3) := by decide +kernel
theorem d_M_fits_25 : decode b_M_fits 25 = .ok (.iload_n 1, 1) := by decide +kernel
theorem d_M_fits_26 : decode b_M_fits 26 = .ok (.invokestatic 87, 3) := by decide +kernel
theorem d_M_fits_29 : decode b_M_fits 29 = .ok (.ifCond .eq 17, 3) := by decide +kernel
theorem d_M_fits_32 : decode b_M_fits 32 = .ok (.iload_n 2, 1) := by decide +kernel
theorem d_M_fits_33 : decode b_M_fits 33 = .ok (.iconst 0, 1) := by decide +kernel
theorem d_M_fits_34 : decode b_M_fits 34 = .ok (.bipush 15, 2) := by decide +kernel
theorem d_M_fits_36 : decode b_M_fits 36 = .ok (.invokestatic 83, 3) := by decide +kernel
theorem d_M_fits_39 : decode b_M_fits 39 = .ok (.ifCond .eq 7, 3) := by decide +kernel
theorem d_M_fits_42 : decode b_M_fits 42 = .ok (.iconst 1, 1) := by decide +kernel
theorem d_M_fits_43 : decode b_M_fits 43 = .ok (.goto 4, 3) := by decide +kernel
theorem d_M_fits_46 : decode b_M_fits 46 = .ok (.iconst 0, 1) := by decide +kernel
theorem d_M_fits_47 : decode b_M_fits 47 = .ok (.ireturn, 1) := by decide +kernel
theorem d_M_fits_48 : decode b_M_fits 48 = .ok (.iload_n 0, 1) := by decide +kernel
theorem d_M_fits_49 : decode b_M_fits 49 = .ok (.bipush 7, 2) := by decide +kernel
theorem d_M_fits_51 : decode b_M_fits 51 = .ok (.if_icmp .ne 10, 3) := by decide +kernel
theorem d_M_fits_54 : decode b_M_fits 54 = .ok (.iload_n 1, 1) := by decide +kernel
theorem d_M_fits_55 : decode b_M_fits 55 = .ok (.invokestatic 87, 3) := by decide +kernel
theorem d_M_fits_58 : decode b_M_fits 58 = .ok (.ifCond .eq 7, 3) := by decide +kernel
theorem d_M_fits_61 : decode b_M_fits 61 = .ok (.iconst 1, 1) := by decide +kernel
theorem d_M_fits_62 : decode b_M_fits 62 = .ok (.goto 4, 3) := by decide +kernel
theorem d_M_fits_65 : decode b_M_fits 65 = .ok (.iconst 0, 1) := by decide +kernel
theorem d_M_fits_66 : decode b_M_fits 66 = .ok (.ireturn, 1) := by decide +kernel
theorem d_M_advise_0 : decode b_M_advise 0 = .ok (.aload_n 0, 1) := by decide +kernel
theorem d_M_advise_1 : decode b_M_advise 1 = .ok (.getfield 91, 3) := by decide +kernel
theorem d_M_advise_4 : decode b_M_advise 4 = .ok (.ifCond .ne 43, 3) := by decide +kernel
theorem d_M_advise_7 : decode b_M_advise 7 = .ok (.aload_n 0, 1) := by decide +kernel
theorem d_M_advise_8 : decode b_M_advise 8 = .ok (.getfield 95, 3) := by decide +kernel
theorem d_M_advise_11 : decode b_M_advise 11 = .ok (.bipush 6, 2) := by decide +kernel
theorem d_M_advise_13 : decode b_M_advise 13 = .ok (.if_icmp .eq 34, 3) := by decide +kernel
theorem d_M_advise_16 : decode b_M_advise 16 = .ok (.iload_n 1, 1) := by decide +kernel
theorem d_M_advise_17 : decode b_M_advise 17 = .ok (.iconst 0, 1) := by decide +kernel
theorem d_M_advise_18 : decode b_M_advise 18 = .ok (.bipush 7, 2) := by decide +kernel
theorem d_M_advise_20 : decode b_M_advise 20 = .ok (.invokestatic 83, 3) := by decide +kernel
theorem d_M_advise_23 : decode b_M_advise 23 = .ok (.ifCond .eq 24, 3) := by decide +kernel
theorem d_M_advise_26 : decode b_M_advise 26 = .ok (.iload_n 3, 1) := by decide +kernel
theorem d_M_advise_27 : decode b_M_advise 27 = .ok (.iconst 1, 1) := by decide +kernel
theorem d_M_advise_28 : decode b_M_advise 28 = .ok (.bipush 63, 2) := by decide +kernel
theorem d_M_advise_30 : decode b_M_advise 30 = .ok (.invokestatic 83, 3) := by decide +kernel
theorem d_M_advise_33 : decode b_M_advise 33 = .ok (.ifCond .eq 14, 3) := by decide +kernel
theorem d_M_advise_36 : decode b_M_advise 36 = .ok (.iload_n 1, 1) := by decide +kernel
theorem d_M_advise_37 : decode b_M_advise 37 = .ok (.iload 4, 2) := by decide +kernel
theorem d_M_advise_39 : decode b_M_advise 39 = .ok (.iload 5, 2) := by decide +kernel
theorem d_M_advise_41 : decode b_M_advise 41 = .ok (.invokestatic 99, 3) := by decide +kernel
theorem d_M_advise_44 : decode b_M_advise 44 = .ok (.ifCond .ne 5, 3) := by decide +kernel
theorem d_M_advise_47 : decode b_M_advise 47 = .ok (.iconst (-1), 1) := by decide +kernel
theorem d_M_advise_48 : decode b_M_advise 48 = .ok (.ireturn, 1) := by decide +kernel
theorem d_M_advise_49 : decode b_M_advise 49 = .ok (.aload_n 0, 1) := by decide +kernel
theorem d_M_advise_50 : decode b_M_advise 50 = .ok (.getfield 7, 3) := by decide +kernel
theorem d_M_advise_53 : decode b_M_advise 53 = .ok (.aload_n 0, 1) := by decide +kernel
theorem d_M_advise_54 : decode b_M_advise 54 = .ok (.getfield 95, 3) := by decide +kernel
theorem d_M_advise_57 : decode b_M_advise 57 = .ok (.aload_n 0, 1) := by decide +kernel
theorem d_M_advise_58 : decode b_M_advise 58 = .ok (.getfield 102, 3) := by decide +kernel
theorem d_M_advise_61 : decode b_M_advise 61 = .ok (.iastore, 1) := by decide +kernel
theorem d_M_advise_62 : decode b_M_advise 62 = .ok (.aload_n 0, 1) := by decide +kernel
theorem d_M_advise_63 : decode b_M_advise 63 = .ok (.getfield 13, 3) := by decide +kernel
theorem d_M_advise_66 : decode b_M_advise 66 = .ok (.aload_n 0, 1) := by decide +kernel
theorem d_M_advise_67 : decode b_M_advise 67 = .ok (.getfield 95, 3) := by decide +kernel
theorem d_M_advise_70 : decode b_M_advise 70 = .ok (.iload_n 1, 1) := by decide +kernel
theorem d_M_advise_71 : decode b_M_advise 71 = .ok (.iastore, 1) := by decide +kernel
theorem d_M_advise_72 : decode b_M_advise 72 = .ok (.aload_n 0, 1) := by decide +kernel
theorem d_M_advise_73 : decode b_M_advise 73 = .ok (.getfield 16, 3) := by decide +kernel
theorem d_M_advise_76 : decode b_M_advise 76 = .ok (.aload_n 0, 1) := by decide +kernel
theorem d_M_advise_77 : decode b_M_advise 77 = .ok (.getfield 95, 3) := by decide +kernel
theorem d_M_advise_80 : decode b_M_advise 80 = .ok (.iload_n 2, 1) := by decide +kernel
theorem d_M_advise_81 : decode b_M_advise 81 = .ok (.iastore, 1) := by decide +kernel
theorem d_M_advise_82 : decode b_M_advise 82 = .ok (.aload_n 0, 1) := by decide +kernel
theorem d_M_advise_83 : decode b_M_advise 83 = .ok (.getfield 19, 3) := by decide +kernel
theorem d_M_advise_86 : decode b_M_advise 86 = .ok (.aload_n 0, 1) := by decide +kernel
theorem d_M_advise_87 : decode b_M_advise 87 = .ok (.getfield 95, 3) := by decide +kernel
theorem d_M_advise_90 : decode b_M_advise 90 = .ok (.iload_n 3, 1) := by decide +kernel
theorem d_M_advise_91 : decode b_M_advise 91 = .ok (.iastore, 1) := by decide +kernel
theorem d_M_advise_92 : decode b_M_advise 92 = .ok (.aload_n 0, 1) := by decide +kernel
theorem d_M_advise_93 : decode b_M_advise 93 = .ok (.getfield 22, 3) := by decide +kernel
theorem d_M_advise_96 : decode b_M_advise 96 = .ok (.aload_n 0, 1) := by decide +kernel
theorem d_M_advise_97 : decode b_M_advise 97 = .ok (.getfield 95, 3) := by decide +kernel
theorem d_M_advise_100 : decode b_M_advise 100 = .ok (.iload 4, 2) := by decide +kernel
theorem d_M_advise_102 : decode b_M_advise 102 = .ok (.iastore, 1) := by decide +kernel
theorem d_M_advise_103 : decode b_M_advise 103 = .ok (.aload_n 0, 1) := by decide +kernel
theorem d_M_advise_104 : decode b_M_advise 104 = .ok (.getfield 25, 3) := by decide +kernel
theorem d_M_advise_107 : decode b_M_advise 107 = .ok (.aload_n 0, 1) := by decide +kernel
theorem d_M_advise_108 : decode b_M_advise 108 = .ok (.getfield 95, 3) := by decide +kernel
theorem d_M_advise_111 : decode b_M_advise 111 = .ok (.iload 5, 2) := by decide +kernel
theorem d_M_advise_113 : decode b_M_advise 113 = .ok (.iastore, 1) := by decide +kernel
theorem d_M_advise_114 : decode b_M_advise 114 = .ok (.aload_n 0, 1) := by decide +kernel
theorem d_M_advise_115 : decode b_M_advise 115 = .ok (.getfield 28, 3) := by decide +kernel
theorem d_M_advise_118 : decode b_M_advise 118 = .ok (.aload_n 0, 1) := by decide +kernel
theorem d_M_advise_119 : decode b_M_advise 119 = .ok (.getfield 95, 3) := by decide +kernel
theorem d_M_advise_122 : decode b_M_advise 122 = .ok (.iconst 0, 1) := by decide +kernel
theorem d_M_advise_123 : decode b_M_advise 123 = .ok (.bastore, 1) := by decide +kernel
theorem d_M_advise_124 : decode b_M_advise 124 = .ok (.aload_n 0, 1) := by decide +kernel
theorem d_M_advise_125 : decode b_M_advise 125 = .ok (.dup, 1) := by decide +kernel
theorem d_M_advise_126 : decode b_M_advise 126 = .ok (.getfield 95, 3) := by decide +kernel
theorem d_M_advise_129 : decode b_M_advise 129 = .ok (.iconst 1, 1) := by decide +kernel
theorem d_M_advise_130 : decode b_M_advise 130 = .ok (.iadd, 1) := by decide +kernel
theorem d_M_advise_131 : decode b_M_advise 131 = .ok (.putfield 95, 3) := by decide +kernel
theorem d_M_advise_134 : decode b_M_advise 134 = .ok (.aload_n 0, 1) := by decide +kernel
theorem d_M_advise_135 : decode b_M_advise 135 = .ok (.dup, 1) := by decide +kernel
theorem d_M_advise_136 : decode b_M_advise 136 = .ok (.getfield 102, 3) := by decide +kernel
theorem d_M_advise_139 : decode b_M_advise 139 = .ok (.iconst 1, 1) := by decide +kernel
theorem d_M_advise_140 : decode b_M_advise 140 = .ok (.iadd, 1) := by decide +kernel
theorem d_M_advise_141 : decode b_M_advise 141 = .ok (.putfield 102, 3) := by decide +kernel
theorem d_M_advise_144 : decode b_M_advise 144 = .ok (.aload_n 0, 1) := by decide +kernel
theorem d_M_advise_145 : decode b_M_advise 145 = .ok (.getfield 102, 3) := by decide +kernel
theorem d_M_advise_148 : decode b_M_advise 148 = .ok (.iconst 1, 1) := by decide +kernel
theorem d_M_advise_149 : decode b_M_advise 149 = .ok (.isub, 1) := by decide +kernel
theorem d_M_advise_150 : decode b_M_advise 150 = .ok (.ireturn, 1) := by decide +kernel
theorem d_M_find_0 : decode b_M_find 0 = .ok (.iconst (-1), 1) := by decide +kernel
theorem d_M_find_1 : decode b_M_find 1 = .ok (.istore_n 2, 1) := by decide +kernel
theorem d_M_find_2 : decode b_M_find 2 = .ok (.iconst 0, 1) := by decide +kernel
theorem d_M_find_3 : decode b_M_find 3 = .ok (.istore_n 3, 1) := by decide +kernel
theorem d_M_find_4 : decode b_M_find 4 = .ok (.iload_n 3, 1) := by decide +kernel
theorem d_M_find_5 : decode b_M_find 5 = .ok (.aload_n 0, 1) := by decide +kernel
theorem d_M_find_6 : decode b_M_find 6 = .ok (.getfield 95, 3) := by decide +kernel
theorem d_M_find_9 : decode b_M_find 9 = .ok (.if_icmp .ge 25, 3) := by decide +kernel
theorem d_M_find_12 : decode b_M_find 12 = .ok (.aload_n 0, 1) := by decide +kernel
theorem d_M_find_13 : decode b_M_find 13 = .ok (.getfield 7, 3) := by decide +kernel
theorem d_M_find_16 : decode b_M_find 16 = .ok (.iload_n 3, 1) := by decide +kernel
theorem d_M_find_17 : decode b_M_find 17 = .ok (.iaload, 1) := by decide +kernel
theorem d_M_find_18 : decode b_M_find 18 = .ok (.iload_n 1, 1) := by decide +kernel
theorem d_M_find_19 : decode b_M_find 19 = .ok (.if_icmp .ne 7, 3) := by decide +kernel
theorem d_M_find_22 : decode b_M_find 22 = .ok (.iload_n 3, 1) := by decide +kernel
theorem d_M_find_23 : decode b_M_find 23 = .ok (.goto 4, 3) := by decide +kernel
theorem d_M_find_26 : decode b_M_find 26 = .ok (.iload_n 2, 1) := by decide +kernel
theorem d_M_find_27 : decode b_M_find 27 = .ok (.istore_n 2, 1) := by decide +kernel
theorem d_M_find_28 : decode b_M_find 28 = .ok (.iinc 3 1, 3) := by decide +kernel
theorem d_M_find_31 : decode b_M_find 31 = .ok (.goto (-27), 3) := by decide +kernel
theorem d_M_find_34 : decode b_M_find 34 = .ok (.iload_n 2, 1) := by decide +kernel
theorem d_M_find_35 : decode b_M_find 35 = .ok (.ireturn, 1) := by decide +kernel
theorem d_M_when_0 : decode b_M_when 0 = .ok (.aload_n 0, 1) := by decide +kernel
theorem d_M_when_1 : decode b_M_when 1 = .ok (.iload_n 1, 1) := by decide +kernel
theorem d_M_when_2 : decode b_M_when 2 = .ok (.invokevirtual 105, 3) := by decide +kernel
theorem d_M_when_5 : decode b_M_when 5 = .ok (.istore 4, 2) := by decide +kernel
theorem d_M_when_7 : decode b_M_when 7 = .ok (.aload_n 0, 1) := by decide +kernel
theorem d_M_when_8 : decode b_M_when 8 = .ok (.getfield 91, 3) := by decide +kernel
theorem d_M_when_11 : decode b_M_when 11 = .ok (.ifCond .ne 13, 3) := by decide +kernel
theorem d_M_when_14 : decode b_M_when 14 = .ok (.iload 4, 2) := by decide +kernel
theorem d_M_when_16 : decode b_M_when 16 = .ok (.ifCond .lt 8, 3) := by decide +kernel
theorem d_M_when_19 : decode b_M_when 19 = .ok (.iload_n 2, 1) := by decide +kernel
theorem d_M_when_20 : decode b_M_when 20 = .ok (.iload_n 3, 1) := by decide +kernel
theorem d_M_when_21 : decode b_M_when 21 = .ok (.if_icmp .le 5, 3) := by decide +kernel
theorem d_M_when_24 : decode b_M_when 24 = .ok (.iconst 0, 1) := by decide +kernel
theorem d_M_when_25 : decode b_M_when 25 = .ok (.ireturn, 1) := by decide +kernel
theorem d_M_when_26 : decode b_M_when 26 = .ok (.aload_n 0, 1) := by decide +kernel
theorem d_M_when_27 : decode b_M_when 27 = .ok (.getfield 28, 3) := by decide +kernel
theorem d_M_when_30 : decode b_M_when 30 = .ok (.iload 4, 2) := by decide +kernel
theorem d_M_when_32 : decode b_M_when 32 = .ok (.iconst 1, 1) := by decide +kernel
theorem d_M_when_33 : decode b_M_when 33 = .ok (.bastore, 1) := by decide +kernel
theorem d_M_when_34 : decode b_M_when 34 = .ok (.aload_n 0, 1) := by decide +kernel
theorem d_M_when_35 : decode b_M_when 35 = .ok (.getfield 32, 3) := by decide +kernel
theorem d_M_when_38 : decode b_M_when 38 = .ok (.iload 4, 2) := by decide +kernel
theorem d_M_when_40 : decode b_M_when 40 = .ok (.iload_n 2, 1) := by decide +kernel
theorem d_M_when_41 : decode b_M_when 41 = .ok (.iastore, 1) := by decide +kernel
theorem d_M_when_42 : decode b_M_when 42 = .ok (.aload_n 0, 1) := by decide +kernel
theorem d_M_when_43 : decode b_M_when 43 = .ok (.getfield 35, 3) := by decide +kernel
theorem d_M_when_46 : decode b_M_when 46 = .ok (.iload 4, 2) := by decide +kernel
theorem d_M_when_48 : decode b_M_when 48 = .ok (.iload_n 3, 1) := by decide +kernel
theorem d_M_when_49 : decode b_M_when 49 = .ok (.iastore, 1) := by decide +kernel
theorem d_M_when_50 : decode b_M_when 50 = .ok (.iconst 1, 1) := by decide +kernel
theorem d_M_when_51 : decode b_M_when 51 = .ok (.ireturn, 1) := by decide +kernel
theorem d_M_reorder_0 : decode b_M_reorder 0 = .ok (.aload_n 0, 1) := by decide +kernel
theorem d_M_reorder_1 : decode b_M_reorder 1 = .ok (.iload_n 1, 1) := by decide +kernel
theorem d_M_reorder_2 : decode b_M_reorder 2 = .ok (.invokevirtual 105, 3) := by decide +kernel
theorem d_M_reorder_5 : decode b_M_reorder 5 = .ok (.istore_n 3, 1) := by decide +kernel
theorem d_M_reorder_6 : decode b_M_reorder 6 = .ok (.aload_n 0, 1) := by decide +kernel
theorem d_M_reorder_7 : decode b_M_reorder 7 = .ok (.getfield 91, 3) := by decide +kernel
theorem d_M_reorder_10 : decode b_M_reorder 10 = .ok (.ifCond .ne 7, 3) := by decide +kernel
theorem d_M_reorder_13 : decode b_M_reorder 13 = .ok (.iload_n 3, 1) := by decide +kernel
theorem d_M_reorder_14 : decode b_M_reorder 14 = .ok (.ifCond .ge 5, 3) := by decide +kernel
theorem d_M_reorder_17 : decode b_M_reorder 17 = .ok (.iconst 0, 1) := by decide +kernel
theorem d_M_reorder_18 : decode b_M_reorder 18 = .ok (.ireturn, 1) := by decide +kernel
theorem d_M_reorder_19 : decode b_M_reorder 19 = .ok (.aload_n 0, 1) := by decide +kernel
theorem d_M_reorder_20 : decode b_M_reorder 20 = .ok (.getfield 16, 3) := by decide +kernel
theorem d_M_reorder_23 : decode b_M_reorder 23 = .ok (.iload_n 3, 1) := by decide +kernel
theorem d_M_reorder_24 : decode b_M_reorder 24 = .ok (.iload_n 2, 1) := by decide +kernel
theorem d_M_reorder_25 : decode b_M_reorder 25 = .ok (.iastore, 1) := by decide +kernel
theorem d_M_reorder_26 : decode b_M_reorder 26 = .ok (.iconst 1, 1) := by decide +kernel
theorem d_M_reorder_27 : decode b_M_reorder 27 = .ok (.ireturn, 1) := by decide +kernel
theorem d_M_remove_0 : decode b_M_remove 0 = .ok (.aload_n 0, 1) := by decide +kernel
theorem d_M_remove_1 : decode b_M_remove 1 = .ok (.iload_n 1, 1) := by decide +kernel
theorem d_M_remove_2 : decode b_M_remove 2 = .ok (.invokevirtual 105, 3) := by decide +kernel
theorem d_M_remove_5 : decode b_M_remove 5 = .ok (.istore_n 2, 1) := by decide +kernel
theorem d_M_remove_6 : decode b_M_remove 6 = .ok (.aload_n 0, 1) := by decide +kernel
theorem d_M_remove_7 : decode b_M_remove 7 = .ok (.getfield 91, 3) := by decide +kernel
theorem d_M_remove_10 : decode b_M_remove 10 = .ok (.ifCond .ne 7, 3) := by decide +kernel
theorem d_M_remove_13 : decode b_M_remove 13 = .ok (.iload_n 2, 1) := by decide +kernel
theorem d_M_remove_14 : decode b_M_remove 14 = .ok (.ifCond .ge 5, 3) := by decide +kernel
theorem d_M_remove_17 : decode b_M_remove 17 = .ok (.iconst 0, 1) := by decide +kernel
theorem d_M_remove_18 : decode b_M_remove 18 = .ok (.ireturn, 1) := by decide +kernel
theorem d_M_remove_19 : decode b_M_remove 19 = .ok (.aload_n 0, 1) := by decide +kernel
theorem d_M_remove_20 : decode b_M_remove 20 = .ok (.dup, 1) := by decide +kernel
theorem d_M_remove_21 : decode b_M_remove 21 = .ok (.getfield 95, 3) := by decide +kernel
theorem d_M_remove_24 : decode b_M_remove 24 = .ok (.iconst 1, 1) := by decide +kernel
theorem d_M_remove_25 : decode b_M_remove 25 = .ok (.isub, 1) := by decide +kernel
theorem d_M_remove_26 : decode b_M_remove 26 = .ok (.putfield 95, 3) := by decide +kernel
theorem d_M_remove_29 : decode b_M_remove 29 = .ok (.iload_n 2, 1) := by decide +kernel
theorem d_M_remove_30 : decode b_M_remove 30 = .ok (.istore_n 3, 1) := by decide +kernel
theorem d_M_remove_31 : decode b_M_remove 31 = .ok (.iload_n 3, 1) := by decide +kernel
theorem d_M_remove_32 : decode b_M_remove 32 = .ok (.aload_n 0, 1) := by decide +kernel
theorem d_M_remove_33 : decode b_M_remove 33 = .ok (.getfield 95, 3) := by decide +kernel
theorem d_M_remove_36 : decode b_M_remove 36 = .ok (.if_icmp .ge 135, 3) := by decide +kernel
theorem d_M_remove_39 : decode b_M_remove 39 = .ok (.aload_n 0, 1) := by decide +kernel
theorem d_M_remove_40 : decode b_M_remove 40 = .ok (.getfield 7, 3) := by decide +kernel
theorem d_M_remove_43 : decode b_M_remove 43 = .ok (.iload_n 3, 1) := by decide +kernel
theorem d_M_remove_44 : decode b_M_remove 44 = .ok (.aload_n 0, 1) := by decide +kernel
theorem d_M_remove_45 : decode b_M_remove 45 = .ok (.getfield 7, 3) := by decide +kernel
theorem d_M_remove_48 : decode b_M_remove 48 = .ok (.iload_n 3, 1) := by decide +kernel
theorem d_M_remove_49 : decode b_M_remove 49 = .ok (.iconst 1, 1) := by decide +kernel
theorem d_M_remove_50 : decode b_M_remove 50 = .ok (.iadd, 1) := by decide +kernel
theorem d_M_remove_51 : decode b_M_remove 51 = .ok (.iaload, 1) := by decide +kernel
theorem d_M_remove_52 : decode b_M_remove 52 = .ok (.iastore, 1) := by decide +kernel
theorem d_M_remove_53 : decode b_M_remove 53 = .ok (.aload_n 0, 1) := by decide +kernel
theorem d_M_remove_54 : decode b_M_remove 54 = .ok (.getfield 13, 3) := by decide +kernel
theorem d_M_remove_57 : decode b_M_remove 57 = .ok (.iload_n 3, 1) := by decide +kernel
theorem d_M_remove_58 : decode b_M_remove 58 = .ok (.aload_n 0, 1) := by decide +kernel
theorem d_M_remove_59 : decode b_M_remove 59 = .ok (.getfield 13, 3) := by decide +kernel
theorem d_M_remove_62 : decode b_M_remove 62 = .ok (.iload_n 3, 1) := by decide +kernel
theorem d_M_remove_63 : decode b_M_remove 63 = .ok (.iconst 1, 1) := by decide +kernel
theorem d_M_remove_64 : decode b_M_remove 64 = .ok (.iadd, 1) := by decide +kernel
theorem d_M_remove_65 : decode b_M_remove 65 = .ok (.iaload, 1) := by decide +kernel
theorem d_M_remove_66 : decode b_M_remove 66 = .ok (.iastore, 1) := by decide +kernel
theorem d_M_remove_67 : decode b_M_remove 67 = .ok (.aload_n 0, 1) := by decide +kernel
theorem d_M_remove_68 : decode b_M_remove 68 = .ok (.getfield 16, 3) := by decide +kernel
theorem d_M_remove_71 : decode b_M_remove 71 = .ok (.iload_n 3, 1) := by decide +kernel
theorem d_M_remove_72 : decode b_M_remove 72 = .ok (.aload_n 0, 1) := by decide +kernel
theorem d_M_remove_73 : decode b_M_remove 73 = .ok (.getfield 16, 3) := by decide +kernel
theorem d_M_remove_76 : decode b_M_remove 76 = .ok (.iload_n 3, 1) := by decide +kernel
theorem d_M_remove_77 : decode b_M_remove 77 = .ok (.iconst 1, 1) := by decide +kernel
theorem d_M_remove_78 : decode b_M_remove 78 = .ok (.iadd, 1) := by decide +kernel
theorem d_M_remove_79 : decode b_M_remove 79 = .ok (.iaload, 1) := by decide +kernel
theorem d_M_remove_80 : decode b_M_remove 80 = .ok (.iastore, 1) := by decide +kernel
theorem d_M_remove_81 : decode b_M_remove 81 = .ok (.aload_n 0, 1) := by decide +kernel
theorem d_M_remove_82 : decode b_M_remove 82 = .ok (.getfield 19, 3) := by decide +kernel
theorem d_M_remove_85 : decode b_M_remove 85 = .ok (.iload_n 3, 1) := by decide +kernel
theorem d_M_remove_86 : decode b_M_remove 86 = .ok (.aload_n 0, 1) := by decide +kernel
theorem d_M_remove_87 : decode b_M_remove 87 = .ok (.getfield 19, 3) := by decide +kernel
theorem d_M_remove_90 : decode b_M_remove 90 = .ok (.iload_n 3, 1) := by decide +kernel
theorem d_M_remove_91 : decode b_M_remove 91 = .ok (.iconst 1, 1) := by decide +kernel
theorem d_M_remove_92 : decode b_M_remove 92 = .ok (.iadd, 1) := by decide +kernel
theorem d_M_remove_93 : decode b_M_remove 93 = .ok (.iaload, 1) := by decide +kernel
theorem d_M_remove_94 : decode b_M_remove 94 = .ok (.iastore, 1) := by decide +kernel
theorem d_M_remove_95 : decode b_M_remove 95 = .ok (.aload_n 0, 1) := by decide +kernel
theorem d_M_remove_96 : decode b_M_remove 96 = .ok (.getfield 22, 3) := by decide +kernel
theorem d_M_remove_99 : decode b_M_remove 99 = .ok (.iload_n 3, 1) := by decide +kernel
theorem d_M_remove_100 : decode b_M_remove 100 = .ok (.aload_n 0, 1) := by decide +kernel
theorem d_M_remove_101 : decode b_M_remove 101 = .ok (.getfield 22, 3) := by decide +kernel
theorem d_M_remove_104 : decode b_M_remove 104 = .ok (.iload_n 3, 1) := by decide +kernel
theorem d_M_remove_105 : decode b_M_remove 105 = .ok (.iconst 1, 1) := by decide +kernel
theorem d_M_remove_106 : decode b_M_remove 106 = .ok (.iadd, 1) := by decide +kernel
theorem d_M_remove_107 : decode b_M_remove 107 = .ok (.iaload, 1) := by decide +kernel
theorem d_M_remove_108 : decode b_M_remove 108 = .ok (.iastore, 1) := by decide +kernel
theorem d_M_remove_109 : decode b_M_remove 109 = .ok (.aload_n 0, 1) := by decide +kernel
theorem d_M_remove_110 : decode b_M_remove 110 = .ok (.getfield 25, 3) := by decide +kernel
theorem d_M_remove_113 : decode b_M_remove 113 = .ok (.iload_n 3, 1) := by decide +kernel
theorem d_M_remove_114 : decode b_M_remove 114 = .ok (.aload_n 0, 1) := by decide +kernel
theorem d_M_remove_115 : decode b_M_remove 115 = .ok (.getfield 25, 3) := by decide +kernel
theorem d_M_remove_118 : decode b_M_remove 118 = .ok (.iload_n 3, 1) := by decide +kernel
theorem d_M_remove_119 : decode b_M_remove 119 = .ok (.iconst 1, 1) := by decide +kernel
theorem d_M_remove_120 : decode b_M_remove 120 = .ok (.iadd, 1) := by decide +kernel
theorem d_M_remove_121 : decode b_M_remove 121 = .ok (.iaload, 1) := by decide +kernel
theorem d_M_remove_122 : decode b_M_remove 122 = .ok (.iastore, 1) := by decide +kernel
theorem d_M_remove_123 : decode b_M_remove 123 = .ok (.aload_n 0, 1) := by decide +kernel
theorem d_M_remove_124 : decode b_M_remove 124 = .ok (.getfield 28, 3) := by decide +kernel
theorem d_M_remove_127 : decode b_M_remove 127 = .ok (.iload_n 3, 1) := by decide +kernel
theorem d_M_remove_128 : decode b_M_remove 128 = .ok (.aload_n 0, 1) := by decide +kernel
theorem d_M_remove_129 : decode b_M_remove 129 = .ok (.getfield 28, 3) := by decide +kernel
theorem d_M_remove_132 : decode b_M_remove 132 = .ok (.iload_n 3, 1) := by decide +kernel
theorem d_M_remove_133 : decode b_M_remove 133 = .ok (.iconst 1, 1) := by decide +kernel
theorem d_M_remove_134 : decode b_M_remove 134 = .ok (.iadd, 1) := by decide +kernel
theorem d_M_remove_135 : decode b_M_remove 135 = .ok (.baload, 1) := by decide +kernel
theorem d_M_remove_136 : decode b_M_remove 136 = .ok (.bastore, 1) := by decide +kernel
theorem d_M_remove_137 : decode b_M_remove 137 = .ok (.aload_n 0, 1) := by decide +kernel
theorem d_M_remove_138 : decode b_M_remove 138 = .ok (.getfield 32, 3) := by decide +kernel
theorem d_M_remove_141 : decode b_M_remove 141 = .ok (.iload_n 3, 1) := by decide +kernel
theorem d_M_remove_142 : decode b_M_remove 142 = .ok (.aload_n 0, 1) := by decide +kernel
theorem d_M_remove_143 : decode b_M_remove 143 = .ok (.getfield 32, 3) := by decide +kernel
theorem d_M_remove_146 : decode b_M_remove 146 = .ok (.iload_n 3, 1) := by decide +kernel
theorem d_M_remove_147 : decode b_M_remove 147 = .ok (.iconst 1, 1) := by decide +kernel
theorem d_M_remove_148 : decode b_M_remove 148 = .ok (.iadd, 1) := by decide +kernel
theorem d_M_remove_149 : decode b_M_remove 149 = .ok (.iaload, 1) := by decide +kernel
theorem d_M_remove_150 : decode b_M_remove 150 = .ok (.iastore, 1) := by decide +kernel
theorem d_M_remove_151 : decode b_M_remove 151 = .ok (.aload_n 0, 1) := by decide +kernel
theorem d_M_remove_152 : decode b_M_remove 152 = .ok (.getfield 35, 3) := by decide +kernel
theorem d_M_remove_155 : decode b_M_remove 155 = .ok (.iload_n 3, 1) := by decide +kernel
theorem d_M_remove_156 : decode b_M_remove 156 = .ok (.aload_n 0, 1) := by decide +kernel
theorem d_M_remove_157 : decode b_M_remove 157 = .ok (.getfield 35, 3) := by decide +kernel
theorem d_M_remove_160 : decode b_M_remove 160 = .ok (.iload_n 3, 1) := by decide +kernel
theorem d_M_remove_161 : decode b_M_remove 161 = .ok (.iconst 1, 1) := by decide +kernel
theorem d_M_remove_162 : decode b_M_remove 162 = .ok (.iadd, 1) := by decide +kernel
theorem d_M_remove_163 : decode b_M_remove 163 = .ok (.iaload, 1) := by decide +kernel
theorem d_M_remove_164 : decode b_M_remove 164 = .ok (.iastore, 1) := by decide +kernel
theorem d_M_remove_165 : decode b_M_remove 165 = .ok (.iinc 3 1, 3) := by decide +kernel
theorem d_M_remove_168 : decode b_M_remove 168 = .ok (.goto (-137), 3) := by decide +kernel
theorem d_M_remove_171 : decode b_M_remove 171 = .ok (.iconst 1, 1) := by decide +kernel
theorem d_M_remove_172 : decode b_M_remove 172 = .ok (.ireturn, 1) := by decide +kernel
theorem d_M_freeze_0 : decode b_M_freeze 0 = .ok (.aload_n 0, 1) := by decide +kernel
theorem d_M_freeze_1 : decode b_M_freeze 1 = .ok (.iload_n 1, 1) := by decide +kernel
theorem d_M_freeze_2 : decode b_M_freeze 2 = .ok (.putfield 91, 3) := by decide +kernel
theorem d_M_freeze_5 : decode b_M_freeze 5 = .ok (.return_, 1) := by decide +kernel
theorem d_M_linked_0 : decode b_M_linked 0 = .ok (.iconst 0, 1) := by decide +kernel
theorem d_M_linked_1 : decode b_M_linked 1 = .ok (.istore_n 3, 1) := by decide +kernel
theorem d_M_linked_2 : decode b_M_linked 2 = .ok (.iload_n 3, 1) := by decide +kernel
theorem d_M_linked_3 : decode b_M_linked 3 = .ok (.aload_n 0, 1) := by decide +kernel
theorem d_M_linked_4 : decode b_M_linked 4 = .ok (.getfield 95, 3) := by decide +kernel
theorem d_M_linked_7 : decode b_M_linked 7 = .ok (.if_icmp .ge 128, 3) := by decide +kernel
theorem d_M_linked_10 : decode b_M_linked 10 = .ok (.iconst 0, 1) := by decide +kernel
theorem d_M_linked_11 : decode b_M_linked 11 = .ok (.istore 4, 2) := by decide +kernel
theorem d_M_linked_13 : decode b_M_linked 13 = .ok (.iconst 0, 1) := by decide +kernel
theorem d_M_linked_14 : decode b_M_linked 14 = .ok (.istore 5, 2) := by decide +kernel
theorem d_M_linked_16 : decode b_M_linked 16 = .ok (.iload 5, 2) := by decide +kernel
theorem d_M_linked_18 : decode b_M_linked 18 = .ok (.aload_n 0, 1) := by decide +kernel
theorem d_M_linked_19 : decode b_M_linked 19 = .ok (.getfield 95, 3) := by decide +kernel
theorem d_M_linked_22 : decode b_M_linked 22 = .ok (.if_icmp .ge 85, 3) := by decide +kernel
theorem d_M_linked_25 : decode b_M_linked 25 = .ok (.aload_n 0, 1) := by decide +kernel
theorem d_M_linked_26 : decode b_M_linked 26 = .ok (.getfield 16, 3) := by decide +kernel
theorem d_M_linked_29 : decode b_M_linked 29 = .ok (.iload 5, 2) := by decide +kernel
theorem d_M_linked_31 : decode b_M_linked 31 = .ok (.iaload, 1) := by decide +kernel
theorem d_M_linked_32 : decode b_M_linked 32 = .ok (.aload_n 0, 1) := by decide +kernel
theorem d_M_linked_33 : decode b_M_linked 33 = .ok (.getfield 16, 3) := by decide +kernel
theorem d_M_linked_36 : decode b_M_linked 36 = .ok (.iload_n 3, 1) := by decide +kernel
theorem d_M_linked_37 : decode b_M_linked 37 = .ok (.iaload, 1) := by decide +kernel
theorem d_M_linked_38 : decode b_M_linked 38 = .ok (.if_icmp .lt 25, 3) := by decide +kernel
theorem d_M_linked_41 : decode b_M_linked 41 = .ok (.aload_n 0, 1) := by decide +kernel
theorem d_M_linked_42 : decode b_M_linked 42 = .ok (.getfield 16, 3) := by decide +kernel
theorem d_M_linked_45 : decode b_M_linked 45 = .ok (.iload 5, 2) := by decide +kernel
theorem d_M_linked_47 : decode b_M_linked 47 = .ok (.iaload, 1) := by decide +kernel
theorem d_M_linked_48 : decode b_M_linked 48 = .ok (.aload_n 0, 1) := by decide +kernel
theorem d_M_linked_49 : decode b_M_linked 49 = .ok (.getfield 16, 3) := by decide +kernel
theorem d_M_linked_52 : decode b_M_linked 52 = .ok (.iload_n 3, 1) := by decide +kernel
theorem d_M_linked_53 : decode b_M_linked 53 = .ok (.iaload, 1) := by decide +kernel
theorem d_M_linked_54 : decode b_M_linked 54 = .ok (.if_icmp .ne 13, 3) := by decide +kernel
theorem d_M_linked_57 : decode b_M_linked 57 = .ok (.iload 5, 2) := by decide +kernel
theorem d_M_linked_59 : decode b_M_linked 59 = .ok (.iload_n 3, 1) := by decide +kernel
theorem d_M_linked_60 : decode b_M_linked 60 = .ok (.if_icmp .ge 7, 3) := by decide +kernel
theorem d_M_linked_63 : decode b_M_linked 63 = .ok (.iconst 1, 1) := by decide +kernel
theorem d_M_linked_64 : decode b_M_linked 64 = .ok (.goto 4, 3) := by decide +kernel
theorem d_M_linked_67 : decode b_M_linked 67 = .ok (.iconst 0, 1) := by decide +kernel
theorem d_M_linked_68 : decode b_M_linked 68 = .ok (.istore 6, 2) := by decide +kernel
theorem d_M_linked_70 : decode b_M_linked 70 = .ok (.iload 6, 2) := by decide +kernel
theorem d_M_linked_72 : decode b_M_linked 72 = .ok (.ifCond .eq 25, 3) := by decide +kernel
theorem d_M_linked_75 : decode b_M_linked 75 = .ok (.aload_n 0, 1) := by decide +kernel
theorem d_M_linked_76 : decode b_M_linked 76 = .ok (.getfield 19, 3) := by decide +kernel
theorem d_M_linked_79 : decode b_M_linked 79 = .ok (.iload 5, 2) := by decide +kernel
theorem d_M_linked_81 : decode b_M_linked 81 = .ok (.iaload, 1) := by decide +kernel
theorem d_M_linked_82 : decode b_M_linked 82 = .ok (.iload_n 1, 1) := by decide +kernel
theorem d_M_linked_83 : decode b_M_linked 83 = .ok (.ishr, 1) := by decide +kernel
theorem d_M_linked_84 : decode b_M_linked 84 = .ok (.iconst 1, 1) := by decide +kernel
theorem d_M_linked_85 : decode b_M_linked 85 = .ok (.iand, 1) := by decide +kernel
theorem d_M_linked_86 : decode b_M_linked 86 = .ok (.iconst 1, 1) := by decide +kernel
theorem d_M_linked_87 : decode b_M_linked 87 = .ok (.if_icmp .ne 10, 3) := by decide +kernel
theorem d_M_linked_90 : decode b_M_linked 90 = .ok (.iload 4, 2) := by decide +kernel
theorem d_M_linked_92 : decode b_M_linked 92 = .ok (.iconst 1, 1) := by decide +kernel
theorem d_M_linked_93 : decode b_M_linked 93 = .ok (.iadd, 1) := by decide +kernel
theorem d_M_linked_94 : decode b_M_linked 94 = .ok (.goto 5, 3) := by decide +kernel
theorem d_M_linked_97 : decode b_M_linked 97 = .ok (.iload 4, 2) := by decide +kernel
theorem d_M_linked_99 : decode b_M_linked 99 = .ok (.istore 4, 2) := by decide +kernel
theorem d_M_linked_101 : decode b_M_linked 101 = .ok (.iinc 5 1, 3) := by decide +kernel
theorem d_M_linked_104 : decode b_M_linked 104 = .ok (.goto (-88), 3) := by decide +kernel
theorem d_M_linked_107 : decode b_M_linked 107 = .ok (.aload_n 0, 1) := by decide +kernel
theorem d_M_linked_108 : decode b_M_linked 108 = .ok (.getfield 19, 3) := by decide +kernel
theorem d_M_linked_111 : decode b_M_linked 111 = .ok (.iload_n 3, 1) := by decide +kernel
theorem d_M_linked_112 : decode b_M_linked 112 = .ok (.iaload, 1) := by decide +kernel
theorem d_M_linked_113 : decode b_M_linked 113 = .ok (.iload_n 1, 1) := by decide +kernel
theorem d_M_linked_114 : decode b_M_linked 114 = .ok (.ishr, 1) := by decide +kernel
theorem d_M_linked_115 : decode b_M_linked 115 = .ok (.iconst 1, 1) := by decide +kernel
theorem d_M_linked_116 : decode b_M_linked 116 = .ok (.iand, 1) := by decide +kernel
theorem d_M_linked_117 : decode b_M_linked 117 = .ok (.iconst 1, 1) := by decide +kernel
theorem d_M_linked_118 : decode b_M_linked 118 = .ok (.if_icmp .ne 11, 3) := by decide +kernel
theorem d_M_linked_121 : decode b_M_linked 121 = .ok (.iload 4, 2) := by decide +kernel
theorem d_M_linked_123 : decode b_M_linked 123 = .ok (.iload_n 2, 1) := by decide +kernel
theorem d_M_linked_124 : decode b_M_linked 124 = .ok (.if_icmp .ne 5, 3) := by decide +kernel
theorem d_M_linked_127 : decode b_M_linked 127 = .ok (.iload_n 3, 1) := by decide +kernel
theorem d_M_linked_128 : decode b_M_linked 128 = .ok (.ireturn, 1) := by decide +kernel
theorem d_M_linked_129 : decode b_M_linked 129 = .ok (.iinc 3 1, 3) := by decide +kernel
theorem d_M_linked_132 : decode b_M_linked 132 = .ok (.goto (-130), 3) := by decide +kernel
theorem d_M_linked_135 : decode b_M_linked 135 = .ok (.iconst (-1), 1) := by decide +kernel
theorem d_M_linked_136 : decode b_M_linked 136 = .ok (.ireturn, 1) := by decide +kernel
theorem d_M_chain_0 : decode b_M_chain 0 = .ok (.iload_n 1, 1) := by decide +kernel
theorem d_M_chain_1 : decode b_M_chain 1 = .ok (.iconst 0, 1) := by decide +kernel
theorem d_M_chain_2 : decode b_M_chain 2 = .ok (.iconst 5, 1) := by decide +kernel
theorem d_M_chain_3 : decode b_M_chain 3 = .ok (.invokestatic 83, 3) := by decide +kernel
theorem d_M_chain_6 : decode b_M_chain 6 = .ok (.ifCond .eq 12, 3) := by decide +kernel
theorem d_M_chain_9 : decode b_M_chain 9 = .ok (.aload_n 0, 1) := by decide +kernel
theorem d_M_chain_10 : decode b_M_chain 10 = .ok (.iload_n 1, 1) := by decide +kernel
theorem d_M_chain_11 : decode b_M_chain 11 = .ok (.iload_n 2, 1) := by decide +kernel
theorem d_M_chain_12 : decode b_M_chain 12 = .ok (.invokevirtual 109, 3) := by decide +kernel
theorem d_M_chain_15 : decode b_M_chain 15 = .ok (.goto 4, 3) := by decide +kernel
theorem d_M_chain_18 : decode b_M_chain 18 = .ok (.iconst (-1), 1) := by decide +kernel
theorem d_M_chain_19 : decode b_M_chain 19 = .ok (.istore_n 3, 1) := by decide +kernel
theorem d_M_chain_20 : decode b_M_chain 20 = .ok (.iload_n 3, 1) := by decide +kernel
theorem d_M_chain_21 : decode b_M_chain 21 = .ok (.ifCond .ge 7, 3) := by decide +kernel
theorem d_M_chain_24 : decode b_M_chain 24 = .ok (.iconst (-1), 1) := by decide +kernel
theorem d_M_chain_25 : decode b_M_chain 25 = .ok (.goto 9, 3) := by decide +kernel
theorem d_M_chain_28 : decode b_M_chain 28 = .ok (.aload_n 0, 1) := by decide +kernel
theorem d_M_chain_29 : decode b_M_chain 29 = .ok (.getfield 7, 3) := by decide +kernel
theorem d_M_chain_32 : decode b_M_chain 32 = .ok (.iload_n 3, 1) := by decide +kernel
theorem d_M_chain_33 : decode b_M_chain 33 = .ok (.iaload, 1) := by decide +kernel
theorem d_M_chain_34 : decode b_M_chain 34 = .ok (.ireturn, 1) := by decide +kernel
theorem d_M_isCell_0 : decode b_M_isCell 0 = .ok (.iload_n 0, 1) := by decide +kernel
theorem d_M_isCell_1 : decode b_M_isCell 1 = .ok (.iconst 0, 1) := by decide +kernel
theorem d_M_isCell_2 : decode b_M_isCell 2 = .ok (.iconst 1, 1) := by decide +kernel
theorem d_M_isCell_3 : decode b_M_isCell 3 = .ok (.invokestatic 83, 3) := by decide +kernel
theorem d_M_isCell_6 : decode b_M_isCell 6 = .ok (.ifCond .eq 16, 3) := by decide +kernel
theorem d_M_isCell_9 : decode b_M_isCell 9 = .ok (.iload_n 1, 1) := by decide +kernel
theorem d_M_isCell_10 : decode b_M_isCell 10 = .ok (.iconst 0, 1) := by decide +kernel
theorem d_M_isCell_11 : decode b_M_isCell 11 = .ok (.iconst 5, 1) := by decide +kernel
theorem d_M_isCell_12 : decode b_M_isCell 12 = .ok (.invokestatic 83, 3) := by decide +kernel
theorem d_M_isCell_15 : decode b_M_isCell 15 = .ok (.ifCond .eq 7, 3) := by decide +kernel
theorem d_M_isCell_18 : decode b_M_isCell 18 = .ok (.iconst 1, 1) := by decide +kernel
theorem d_M_isCell_19 : decode b_M_isCell 19 = .ok (.goto 4, 3) := by decide +kernel
theorem d_M_isCell_22 : decode b_M_isCell 22 = .ok (.iconst 0, 1) := by decide +kernel
theorem d_M_isCell_23 : decode b_M_isCell 23 = .ok (.ireturn, 1) := by decide +kernel
theorem d_M_plan_0 : decode b_M_plan 0 = .ok (.iload_n 1, 1) := by decide +kernel
theorem d_M_plan_1 : decode b_M_plan 1 = .ok (.iload_n 2, 1) := by decide +kernel
theorem d_M_plan_2 : decode b_M_plan 2 = .ok (.invokestatic 113, 3) := by decide +kernel
theorem d_M_plan_5 : decode b_M_plan 5 = .ok (.ifCond .ne 5, 3) := by decide +kernel
theorem d_M_plan_8 : decode b_M_plan 8 = .ok (.iconst 0, 1) := by decide +kernel
theorem d_M_plan_9 : decode b_M_plan 9 = .ok (.ireturn, 1) := by decide +kernel
theorem d_M_plan_10 : decode b_M_plan 10 = .ok (.aload_n 0, 1) := by decide +kernel
theorem d_M_plan_11 : decode b_M_plan 11 = .ok (.getfield 38, 3) := by decide +kernel
theorem d_M_plan_14 : decode b_M_plan 14 = .ok (.bipush 6, 2) := by decide +kernel
theorem d_M_plan_16 : decode b_M_plan 16 = .ok (.iload_n 1, 1) := by decide +kernel
theorem d_M_plan_17 : decode b_M_plan 17 = .ok (.imul, 1) := by decide +kernel
theorem d_M_plan_18 : decode b_M_plan 18 = .ok (.iload_n 2, 1) := by decide +kernel
theorem d_M_plan_19 : decode b_M_plan 19 = .ok (.iadd, 1) := by decide +kernel
theorem d_M_plan_20 : decode b_M_plan 20 = .ok (.iload_n 3, 1) := by decide +kernel
theorem d_M_plan_21 : decode b_M_plan 21 = .ok (.iastore, 1) := by decide +kernel
theorem d_M_plan_22 : decode b_M_plan 22 = .ok (.aload_n 0, 1) := by decide +kernel
theorem d_M_plan_23 : decode b_M_plan 23 = .ok (.getfield 41, 3) := by decide +kernel
theorem d_M_plan_26 : decode b_M_plan 26 = .ok (.bipush 6, 2) := by decide +kernel
theorem d_M_plan_28 : decode b_M_plan 28 = .ok (.iload_n 1, 1) := by decide +kernel
theorem d_M_plan_29 : decode b_M_plan 29 = .ok (.imul, 1) := by decide +kernel
theorem d_M_plan_30 : decode b_M_plan 30 = .ok (.iload_n 2, 1) := by decide +kernel
theorem d_M_plan_31 : decode b_M_plan 31 = .ok (.iadd, 1) := by decide +kernel
theorem d_M_plan_32 : decode b_M_plan 32 = .ok (.iload 4, 2) := by decide +kernel
theorem d_M_plan_34 : decode b_M_plan 34 = .ok (.iastore, 1) := by decide +kernel
theorem d_M_plan_35 : decode b_M_plan 35 = .ok (.iconst 1, 1) := by decide +kernel
theorem d_M_plan_36 : decode b_M_plan 36 = .ok (.ireturn, 1) := by decide +kernel
theorem d_M_fail_0 : decode b_M_fail 0 = .ok (.iload_n 1, 1) := by decide +kernel
theorem d_M_fail_1 : decode b_M_fail 1 = .ok (.iload_n 2, 1) := by decide +kernel
theorem d_M_fail_2 : decode b_M_fail 2 = .ok (.invokestatic 113, 3) := by decide +kernel
theorem d_M_fail_5 : decode b_M_fail 5 = .ok (.ifCond .eq 14, 3) := by decide +kernel
theorem d_M_fail_8 : decode b_M_fail 8 = .ok (.iload 4, 2) := by decide +kernel
theorem d_M_fail_10 : decode b_M_fail 10 = .ok (.iconst 0, 1) := by decide +kernel
theorem d_M_fail_11 : decode b_M_fail 11 = .ok (.bipush 15, 2) := by decide +kernel
theorem d_M_fail_13 : decode b_M_fail 13 = .ok (.invokestatic 83, 3) := by decide +kernel
theorem d_M_fail_16 : decode b_M_fail 16 = .ok (.ifCond .ne 5, 3) := by decide +kernel
theorem d_M_fail_19 : decode b_M_fail 19 = .ok (.iconst 0, 1) := by decide +kernel
theorem d_M_fail_20 : decode b_M_fail 20 = .ok (.ireturn, 1) := by decide +kernel
theorem d_M_fail_21 : decode b_M_fail 21 = .ok (.aload_n 0, 1) := by decide +kernel
theorem d_M_fail_22 : decode b_M_fail 22 = .ok (.getfield 44, 3) := by decide +kernel
theorem d_M_fail_25 : decode b_M_fail 25 = .ok (.bipush 6, 2) := by decide +kernel
theorem d_M_fail_27 : decode b_M_fail 27 = .ok (.iload_n 1, 1) := by decide +kernel
theorem d_M_fail_28 : decode b_M_fail 28 = .ok (.imul, 1) := by decide +kernel
theorem d_M_fail_29 : decode b_M_fail 29 = .ok (.iload_n 2, 1) := by decide +kernel
theorem d_M_fail_30 : decode b_M_fail 30 = .ok (.iadd, 1) := by decide +kernel
theorem d_M_fail_31 : decode b_M_fail 31 = .ok (.iload_n 3, 1) := by decide +kernel
theorem d_M_fail_32 : decode b_M_fail 32 = .ok (.iastore, 1) := by decide +kernel
theorem d_M_fail_33 : decode b_M_fail 33 = .ok (.aload_n 0, 1) := by decide +kernel
theorem d_M_fail_34 : decode b_M_fail 34 = .ok (.getfield 47, 3) := by decide +kernel
theorem d_M_fail_37 : decode b_M_fail 37 = .ok (.bipush 6, 2) := by decide +kernel
theorem d_M_fail_39 : decode b_M_fail 39 = .ok (.iload_n 1, 1) := by decide +kernel
theorem d_M_fail_40 : decode b_M_fail 40 = .ok (.imul, 1) := by decide +kernel
theorem d_M_fail_41 : decode b_M_fail 41 = .ok (.iload_n 2, 1) := by decide +kernel
theorem d_M_fail_42 : decode b_M_fail 42 = .ok (.iadd, 1) := by decide +kernel
theorem d_M_fail_43 : decode b_M_fail 43 = .ok (.iload 4, 2) := by decide +kernel
theorem d_M_fail_45 : decode b_M_fail 45 = .ok (.iastore, 1) := by decide +kernel
theorem d_M_fail_46 : decode b_M_fail 46 = .ok (.iconst 1, 1) := by decide +kernel
theorem d_M_fail_47 : decode b_M_fail 47 = .ok (.ireturn, 1) := by decide +kernel
theorem d_M_calls_0 : decode b_M_calls 0 = .ok (.iload_n 1, 1) := by decide +kernel
theorem d_M_calls_1 : decode b_M_calls 1 = .ok (.iload_n 2, 1) := by decide +kernel
theorem d_M_calls_2 : decode b_M_calls 2 = .ok (.invokestatic 113, 3) := by decide +kernel
theorem d_M_calls_5 : decode b_M_calls 5 = .ok (.ifCond .eq 12, 3) := by decide +kernel
theorem d_M_calls_8 : decode b_M_calls 8 = .ok (.iload_n 3, 1) := by decide +kernel
theorem d_M_calls_9 : decode b_M_calls 9 = .ok (.iconst (-1), 1) := by decide +kernel
theorem d_M_calls_10 : decode b_M_calls 10 = .ok (.iconst 5, 1) := by decide +kernel
theorem d_M_calls_11 : decode b_M_calls 11 = .ok (.invokestatic 83, 3) := by decide +kernel
theorem d_M_calls_14 : decode b_M_calls 14 = .ok (.ifCond .ne 5, 3) := by decide +kernel
theorem d_M_calls_17 : decode b_M_calls 17 = .ok (.iconst 0, 1) := by decide +kernel
theorem d_M_calls_18 : decode b_M_calls 18 = .ok (.ireturn, 1) := by decide +kernel
theorem d_M_calls_19 : decode b_M_calls 19 = .ok (.aload_n 0, 1) := by decide +kernel
theorem d_M_calls_20 : decode b_M_calls 20 = .ok (.getfield 50, 3) := by decide +kernel
theorem d_M_calls_23 : decode b_M_calls 23 = .ok (.bipush 6, 2) := by decide +kernel
theorem d_M_calls_25 : decode b_M_calls 25 = .ok (.iload_n 1, 1) := by decide +kernel
theorem d_M_calls_26 : decode b_M_calls 26 = .ok (.imul, 1) := by decide +kernel
theorem d_M_calls_27 : decode b_M_calls 27 = .ok (.iload_n 2, 1) := by decide +kernel
theorem d_M_calls_28 : decode b_M_calls 28 = .ok (.iadd, 1) := by decide +kernel
theorem d_M_calls_29 : decode b_M_calls 29 = .ok (.iload_n 3, 1) := by decide +kernel
theorem d_M_calls_30 : decode b_M_calls 30 = .ok (.iastore, 1) := by decide +kernel
theorem d_M_calls_31 : decode b_M_calls 31 = .ok (.iconst 1, 1) := by decide +kernel
theorem d_M_calls_32 : decode b_M_calls 32 = .ok (.ireturn, 1) := by decide +kernel
theorem d_M_source_0 : decode b_M_source 0 = .ok (.iload_n 1, 1) := by decide +kernel
theorem d_M_source_1 : decode b_M_source 1 = .ok (.iconst 0, 1) := by decide +kernel
theorem d_M_source_2 : decode b_M_source 2 = .ok (.iconst 2, 1) := by decide +kernel
theorem d_M_source_3 : decode b_M_source 3 = .ok (.invokestatic 83, 3) := by decide +kernel
theorem d_M_source_6 : decode b_M_source 6 = .ok (.ifCond .ne 5, 3) := by decide +kernel
theorem d_M_source_9 : decode b_M_source 9 = .ok (.iconst 0, 1) := by decide +kernel
theorem d_M_source_10 : decode b_M_source 10 = .ok (.ireturn, 1) := by decide +kernel
theorem d_M_source_11 : decode b_M_source 11 = .ok (.aload_n 0, 1) := by decide +kernel
theorem d_M_source_12 : decode b_M_source 12 = .ok (.iload_n 1, 1) := by decide +kernel
theorem d_M_source_13 : decode b_M_source 13 = .ok (.putfield 117, 3) := by decide +kernel
theorem d_M_source_16 : decode b_M_source 16 = .ok (.aload_n 0, 1) := by decide +kernel
theorem d_M_source_17 : decode b_M_source 17 = .ok (.iconst 0, 1) := by decide +kernel
theorem d_M_source_18 : decode b_M_source 18 = .ok (.putfield 120, 3) := by decide +kernel
theorem d_M_source_21 : decode b_M_source 21 = .ok (.iconst 1, 1) := by decide +kernel
theorem d_M_source_22 : decode b_M_source 22 = .ok (.ireturn, 1) := by decide +kernel
theorem d_M_note_0 : decode b_M_note 0 = .ok (.aload_n 0, 1) := by decide +kernel
theorem d_M_note_1 : decode b_M_note 1 = .ok (.getfield 123, 3) := by decide +kernel
theorem d_M_note_4 : decode b_M_note 4 = .ok (.bipush 100, 2) := by decide +kernel
theorem d_M_note_6 : decode b_M_note 6 = .ok (.if_icmp .ne 9, 3) := by decide +kernel
theorem d_M_note_9 : decode b_M_note 9 = .ok (.aload_n 0, 1) := by decide +kernel
theorem d_M_note_10 : decode b_M_note 10 = .ok (.iconst 1, 1) := by decide +kernel
theorem d_M_note_11 : decode b_M_note 11 = .ok (.putfield 126, 3) := by decide +kernel
theorem d_M_note_14 : decode b_M_note 14 = .ok (.return_, 1) := by decide +kernel
theorem d_M_note_15 : decode b_M_note 15 = .ok (.aload_n 0, 1) := by decide +kernel
theorem d_M_note_16 : decode b_M_note 16 = .ok (.getfield 53, 3) := by decide +kernel
theorem d_M_note_19 : decode b_M_note 19 = .ok (.aload_n 0, 1) := by decide +kernel
theorem d_M_note_20 : decode b_M_note 20 = .ok (.getfield 123, 3) := by decide +kernel
theorem d_M_note_23 : decode b_M_note 23 = .ok (.iload_n 1, 1) := by decide +kernel
theorem d_M_note_24 : decode b_M_note 24 = .ok (.iastore, 1) := by decide +kernel
theorem d_M_note_25 : decode b_M_note 25 = .ok (.aload_n 0, 1) := by decide +kernel
theorem d_M_note_26 : decode b_M_note 26 = .ok (.getfield 56, 3) := by decide +kernel
theorem d_M_note_29 : decode b_M_note 29 = .ok (.aload_n 0, 1) := by decide +kernel
theorem d_M_note_30 : decode b_M_note 30 = .ok (.getfield 123, 3) := by decide +kernel
theorem d_M_note_33 : decode b_M_note 33 = .ok (.iload_n 2, 1) := by decide +kernel
theorem d_M_note_34 : decode b_M_note 34 = .ok (.iastore, 1) := by decide +kernel
theorem d_M_note_35 : decode b_M_note 35 = .ok (.aload_n 0, 1) := by decide +kernel
theorem d_M_note_36 : decode b_M_note 36 = .ok (.dup, 1) := by decide +kernel
theorem d_M_note_37 : decode b_M_note 37 = .ok (.getfield 123, 3) := by decide +kernel
theorem d_M_note_40 : decode b_M_note 40 = .ok (.iconst 1, 1) := by decide +kernel
theorem d_M_note_41 : decode b_M_note 41 = .ok (.iadd, 1) := by decide +kernel
theorem d_M_note_42 : decode b_M_note 42 = .ok (.putfield 123, 3) := by decide +kernel
theorem d_M_note_45 : decode b_M_note 45 = .ok (.return_, 1) := by decide +kernel
theorem d_M_isOne_0 : decode b_M_isOne 0 = .ok (.iload_n 0, 1) := by decide +kernel
theorem d_M_isOne_1 : decode b_M_isOne 1 = .ok (.istore_n 2, 1) := by decide +kernel
theorem d_M_isOne_2 : decode b_M_isOne 2 = .ok (.iload_n 2, 1) := by decide +kernel
theorem d_M_isOne_3 : decode b_M_isOne 3 = .ok (.iload_n 1, 1) := by decide +kernel
theorem d_M_isOne_4 : decode b_M_isOne 4 = .ok (.if_icmp .le 10, 3) := by decide +kernel
theorem d_M_isOne_7 : decode b_M_isOne 7 = .ok (.iload_n 2, 1) := by decide +kernel
theorem d_M_isOne_8 : decode b_M_isOne 8 = .ok (.iconst 2, 1) := by decide +kernel
theorem d_M_isOne_9 : decode b_M_isOne 9 = .ok (.idiv, 1) := by decide +kernel
theorem d_M_isOne_10 : decode b_M_isOne 10 = .ok (.istore_n 2, 1) := by decide +kernel
theorem d_M_isOne_11 : decode b_M_isOne 11 = .ok (.goto (-9), 3) := by decide +kernel
theorem d_M_isOne_14 : decode b_M_isOne 14 = .ok (.iload_n 2, 1) := by decide +kernel
theorem d_M_isOne_15 : decode b_M_isOne 15 = .ok (.iload_n 1, 1) := by decide +kernel
theorem d_M_isOne_16 : decode b_M_isOne 16 = .ok (.if_icmp .ne 7, 3) := by decide +kernel
theorem d_M_isOne_19 : decode b_M_isOne 19 = .ok (.iconst 1, 1) := by decide +kernel
theorem d_M_isOne_20 : decode b_M_isOne 20 = .ok (.goto 4, 3) := by decide +kernel
theorem d_M_isOne_23 : decode b_M_isOne 23 = .ok (.iconst 0, 1) := by decide +kernel
theorem d_M_isOne_24 : decode b_M_isOne 24 = .ok (.ireturn, 1) := by decide +kernel
theorem d_M_go_0 : decode b_M_go 0 = .ok (.aload_n 0, 1) := by decide +kernel
theorem d_M_go_1 : decode b_M_go 1 = .ok (.iconst 1, 1) := by decide +kernel
theorem d_M_go_2 : decode b_M_go 2 = .ok (.putfield 129, 3) := by decide +kernel
theorem d_M_go_5 : decode b_M_go 5 = .ok (.aload_n 0, 1) := by decide +kernel
theorem d_M_go_6 : decode b_M_go 6 = .ok (.iload_n 1, 1) := by decide +kernel
theorem d_M_go_7 : decode b_M_go 7 = .ok (.putfield 132, 3) := by decide +kernel
theorem d_M_go_10 : decode b_M_go 10 = .ok (.aload_n 0, 1) := by decide +kernel
theorem d_M_go_11 : decode b_M_go 11 = .ok (.iload_n 2, 1) := by decide +kernel
theorem d_M_go_12 : decode b_M_go 12 = .ok (.putfield 135, 3) := by decide +kernel
theorem d_M_go_15 : decode b_M_go 15 = .ok (.return_, 1) := by decide +kernel
theorem d_M_comes_0 : decode b_M_comes 0 = .ok (.aload_n 0, 1) := by decide +kernel
theorem d_M_comes_1 : decode b_M_comes 1 = .ok (.iconst 0, 1) := by decide +kernel
theorem d_M_comes_2 : decode b_M_comes 2 = .ok (.putfield 129, 3) := by decide +kernel
theorem d_M_comes_5 : decode b_M_comes 5 = .ok (.aload_n 0, 1) := by decide +kernel
theorem d_M_comes_6 : decode b_M_comes 6 = .ok (.iload_n 1, 1) := by decide +kernel
theorem d_M_comes_7 : decode b_M_comes 7 = .ok (.putfield 138, 3) := by decide +kernel
theorem d_M_comes_10 : decode b_M_comes 10 = .ok (.aload_n 0, 1) := by decide +kernel
theorem d_M_comes_11 : decode b_M_comes 11 = .ok (.iload_n 2, 1) := by decide +kernel
theorem d_M_comes_12 : decode b_M_comes 12 = .ok (.putfield 141, 3) := by decide +kernel
theorem d_M_comes_15 : decode b_M_comes 15 = .ok (.return_, 1) := by decide +kernel
theorem d_M_await_0 : decode b_M_await 0 = .ok (.aload_n 0, 1) := by decide +kernel
theorem d_M_await_1 : decode b_M_await 1 = .ok (.getfield 65, 3) := by decide +kernel
theorem d_M_await_4 : decode b_M_await 4 = .ok (.aload_n 0, 1) := by decide +kernel
theorem d_M_await_5 : decode b_M_await 5 = .ok (.getfield 144, 3) := by decide +kernel
theorem d_M_await_8 : decode b_M_await 8 = .ok (.iload_n 1, 1) := by decide +kernel
theorem d_M_await_9 : decode b_M_await 9 = .ok (.iastore, 1) := by decide +kernel
theorem d_M_await_10 : decode b_M_await 10 = .ok (.aload_n 0, 1) := by decide +kernel
theorem d_M_await_11 : decode b_M_await 11 = .ok (.getfield 68, 3) := by decide +kernel
theorem d_M_await_14 : decode b_M_await 14 = .ok (.aload_n 0, 1) := by decide +kernel
theorem d_M_await_15 : decode b_M_await 15 = .ok (.getfield 144, 3) := by decide +kernel
theorem d_M_await_18 : decode b_M_await 18 = .ok (.aload_n 0, 1) := by decide +kernel
theorem d_M_await_19 : decode b_M_await 19 = .ok (.getfield 132, 3) := by decide +kernel
theorem d_M_await_22 : decode b_M_await 22 = .ok (.iastore, 1) := by decide +kernel
theorem d_M_await_23 : decode b_M_await 23 = .ok (.aload_n 0, 1) := by decide +kernel
theorem d_M_await_24 : decode b_M_await 24 = .ok (.getfield 71, 3) := by decide +kernel
theorem d_M_await_27 : decode b_M_await 27 = .ok (.aload_n 0, 1) := by decide +kernel
theorem d_M_await_28 : decode b_M_await 28 = .ok (.getfield 144, 3) := by decide +kernel
theorem d_M_await_31 : decode b_M_await 31 = .ok (.iload_n 2, 1) := by decide +kernel
theorem d_M_await_32 : decode b_M_await 32 = .ok (.iastore, 1) := by decide +kernel
theorem d_M_await_33 : decode b_M_await 33 = .ok (.aload_n 0, 1) := by decide +kernel
theorem d_M_await_34 : decode b_M_await 34 = .ok (.getfield 74, 3) := by decide +kernel
theorem d_M_await_37 : decode b_M_await 37 = .ok (.aload_n 0, 1) := by decide +kernel
theorem d_M_await_38 : decode b_M_await 38 = .ok (.getfield 144, 3) := by decide +kernel
theorem d_M_await_41 : decode b_M_await 41 = .ok (.aload_n 0, 1) := by decide +kernel
theorem d_M_await_42 : decode b_M_await 42 = .ok (.getfield 135, 3) := by decide +kernel
theorem d_M_await_45 : decode b_M_await 45 = .ok (.iastore, 1) := by decide +kernel
theorem d_M_await_46 : decode b_M_await 46 = .ok (.aload_n 0, 1) := by decide +kernel
theorem d_M_await_47 : decode b_M_await 47 = .ok (.getfield 80, 3) := by decide +kernel
theorem d_M_await_50 : decode b_M_await 50 = .ok (.aload_n 0, 1) := by decide +kernel
theorem d_M_await_51 : decode b_M_await 51 = .ok (.getfield 144, 3) := by decide +kernel
theorem d_M_await_54 : decode b_M_await 54 = .ok (.iconst 0, 1) := by decide +kernel
theorem d_M_await_55 : decode b_M_await 55 = .ok (.bastore, 1) := by decide +kernel
theorem d_M_await_56 : decode b_M_await 56 = .ok (.aload_n 0, 1) := by decide +kernel
theorem d_M_await_57 : decode b_M_await 57 = .ok (.dup, 1) := by decide +kernel
theorem d_M_await_58 : decode b_M_await 58 = .ok (.getfield 144, 3) := by decide +kernel
theorem d_M_await_61 : decode b_M_await 61 = .ok (.iconst 1, 1) := by decide +kernel
theorem d_M_await_62 : decode b_M_await 62 = .ok (.iadd, 1) := by decide +kernel
theorem d_M_await_63 : decode b_M_await 63 = .ok (.putfield 144, 3) := by decide +kernel
theorem d_M_await_66 : decode b_M_await 66 = .ok (.return_, 1) := by decide +kernel
theorem d_M_enter_0 : decode b_M_enter 0 = .ok (.aload_n 0, 1) := by decide +kernel
theorem d_M_enter_1 : decode b_M_enter 1 = .ok (.getfield 147, 3) := by decide +kernel
theorem d_M_enter_4 : decode b_M_enter 4 = .ok (.iconst 3, 1) := by decide +kernel
theorem d_M_enter_5 : decode b_M_enter 5 = .ok (.if_icmp .ne 11, 3) := by decide +kernel
theorem d_M_enter_8 : decode b_M_enter 8 = .ok (.aload_n 0, 1) := by decide +kernel
theorem d_M_enter_9 : decode b_M_enter 9 = .ok (.iconst 1, 1) := by decide +kernel
theorem d_M_enter_10 : decode b_M_enter 10 = .ok (.bipush 15, 2) := by decide +kernel
theorem d_M_enter_12 : decode b_M_enter 12 = .ok (.invokevirtual 150, 3) := by decide +kernel
theorem d_M_enter_15 : decode b_M_enter 15 = .ok (.return_, 1) := by decide +kernel
theorem d_M_enter_16 : decode b_M_enter 16 = .ok (.aload_n 0, 1) := by decide +kernel
theorem d_M_enter_17 : decode b_M_enter 17 = .ok (.dup, 1) := by decide +kernel
theorem d_M_enter_18 : decode b_M_enter 18 = .ok (.getfield 147, 3) := by decide +kernel
theorem d_M_enter_21 : decode b_M_enter 21 = .ok (.iconst 1, 1) := by decide +kernel
theorem d_M_enter_22 : decode b_M_enter 22 = .ok (.iadd, 1) := by decide +kernel
theorem d_M_enter_23 : decode b_M_enter 23 = .ok (.putfield 147, 3) := by decide +kernel
theorem d_M_enter_26 : decode b_M_enter 26 = .ok (.aload_n 0, 1) := by decide +kernel
theorem d_M_enter_27 : decode b_M_enter 27 = .ok (.dup, 1) := by decide +kernel
theorem d_M_enter_28 : decode b_M_enter 28 = .ok (.getfield 154, 3) := by decide +kernel
theorem d_M_enter_31 : decode b_M_enter 31 = .ok (.iconst 1, 1) := by decide +kernel
theorem d_M_enter_32 : decode b_M_enter 32 = .ok (.iadd, 1) := by decide +kernel
theorem d_M_enter_33 : decode b_M_enter 33 = .ok (.putfield 154, 3) := by decide +kernel
theorem d_M_enter_36 : decode b_M_enter 36 = .ok (.aload_n 0, 1) := by decide +kernel
theorem d_M_enter_37 : decode b_M_enter 37 = .ok (.getfield 59, 3) := by decide +kernel
theorem d_M_enter_40 : decode b_M_enter 40 = .ok (.aload_n 0, 1) := by decide +kernel
theorem d_M_enter_41 : decode b_M_enter 41 = .ok (.getfield 147, 3) := by decide +kernel
theorem d_M_enter_44 : decode b_M_enter 44 = .ok (.iload_n 1, 1) := by decide +kernel
theorem d_M_enter_45 : decode b_M_enter 45 = .ok (.iastore, 1) := by decide +kernel
theorem d_M_enter_46 : decode b_M_enter 46 = .ok (.aload_n 0, 1) := by decide +kernel
theorem d_M_enter_47 : decode b_M_enter 47 = .ok (.getfield 62, 3) := by decide +kernel
theorem d_M_enter_50 : decode b_M_enter 50 = .ok (.aload_n 0, 1) := by decide +kernel
theorem d_M_enter_51 : decode b_M_enter 51 = .ok (.getfield 147, 3) := by decide +kernel
theorem d_M_enter_54 : decode b_M_enter 54 = .ok (.aload_n 0, 1) := by decide +kernel
theorem d_M_enter_55 : decode b_M_enter 55 = .ok (.getfield 117, 3) := by decide +kernel
theorem d_M_enter_58 : decode b_M_enter 58 = .ok (.iconst 2, 1) := by decide +kernel
theorem d_M_enter_59 : decode b_M_enter 59 = .ok (.if_icmp .ne 10, 3) := by decide +kernel
theorem d_M_enter_62 : decode b_M_enter 62 = .ok (.aload_n 0, 1) := by decide +kernel
theorem d_M_enter_63 : decode b_M_enter 63 = .ok (.getfield 120, 3) := by decide +kernel
theorem d_M_enter_66 : decode b_M_enter 66 = .ok (.goto 7, 3) := by decide +kernel
theorem d_M_enter_69 : decode b_M_enter 69 = .ok (.aload_n 0, 1) := by decide +kernel
theorem d_M_enter_70 : decode b_M_enter 70 = .ok (.getfield 117, 3) := by decide +kernel
theorem d_M_enter_73 : decode b_M_enter 73 = .ok (.iastore, 1) := by decide +kernel
theorem d_M_enter_74 : decode b_M_enter 74 = .ok (.aload_n 0, 1) := by decide +kernel
theorem d_M_enter_75 : decode b_M_enter 75 = .ok (.aload_n 0, 1) := by decide +kernel
theorem d_M_enter_76 : decode b_M_enter 76 = .ok (.getfield 117, 3) := by decide +kernel
theorem d_M_enter_79 : decode b_M_enter 79 = .ok (.iconst 2, 1) := by decide +kernel
theorem d_M_enter_80 : decode b_M_enter 80 = .ok (.if_icmp .ne 12, 3) := by decide +kernel
theorem d_M_enter_83 : decode b_M_enter 83 = .ok (.iconst 1, 1) := by decide +kernel
theorem d_M_enter_84 : decode b_M_enter 84 = .ok (.aload_n 0, 1) := by decide +kernel
theorem d_M_enter_85 : decode b_M_enter 85 = .ok (.getfield 120, 3) := by decide +kernel
theorem d_M_enter_88 : decode b_M_enter 88 = .ok (.isub, 1) := by decide +kernel
theorem d_M_enter_89 : decode b_M_enter 89 = .ok (.goto 7, 3) := by decide +kernel
theorem d_M_enter_92 : decode b_M_enter 92 = .ok (.aload_n 0, 1) := by decide +kernel
theorem d_M_enter_93 : decode b_M_enter 93 = .ok (.getfield 120, 3) := by decide +kernel
theorem d_M_enter_96 : decode b_M_enter 96 = .ok (.putfield 120, 3) := by decide +kernel
theorem d_M_enter_99 : decode b_M_enter 99 = .ok (.aload_n 0, 1) := by decide +kernel
theorem d_M_enter_100 : decode b_M_enter 100 = .ok (.bipush 9, 2) := by decide +kernel
theorem d_M_enter_102 : decode b_M_enter 102 = .ok (.iconst (-1), 1) := by decide +kernel
theorem d_M_enter_103 : decode b_M_enter 103 = .ok (.invokevirtual 157, 3) := by decide +kernel
theorem d_M_enter_106 : decode b_M_enter 106 = .ok (.aload_n 0, 1) := by decide +kernel
theorem d_M_enter_107 : decode b_M_enter 107 = .ok (.iconst 0, 1) := by decide +kernel
theorem d_M_enter_108 : decode b_M_enter 108 = .ok (.iload_n 2, 1) := by decide +kernel
theorem d_M_enter_109 : decode b_M_enter 109 = .ok (.invokevirtual 161, 3) := by decide +kernel
theorem d_M_enter_112 : decode b_M_enter 112 = .ok (.return_, 1) := by decide +kernel
theorem d_M_work_0 : decode b_M_work 0 = .ok (.bipush 6, 2) := by decide +kernel
theorem d_M_work_2 : decode b_M_work 2 = .ok (.aload_n 0, 1) := by decide +kernel
theorem d_M_work_3 : decode b_M_work 3 = .ok (.getfield 62, 3) := by decide +kernel
theorem d_M_work_6 : decode b_M_work 6 = .ok (.aload_n 0, 1) := by decide +kernel
theorem d_M_work_7 : decode b_M_work 7 = .ok (.getfield 147, 3) := by decide +kernel
theorem d_M_work_10 : decode b_M_work 10 = .ok (.iaload, 1) := by decide +kernel
theorem d_M_work_11 : decode b_M_work 11 = .ok (.imul, 1) := by decide +kernel
theorem d_M_work_12 : decode b_M_work 12 = .ok (.aload_n 0, 1) := by decide +kernel
theorem d_M_work_13 : decode b_M_work 13 = .ok (.getfield 59, 3) := by decide +kernel
theorem d_M_work_16 : decode b_M_work 16 = .ok (.aload_n 0, 1) := by decide +kernel
theorem d_M_work_17 : decode b_M_work 17 = .ok (.getfield 147, 3) := by decide +kernel
theorem d_M_work_20 : decode b_M_work 20 = .ok (.iaload, 1) := by decide +kernel
theorem d_M_work_21 : decode b_M_work 21 = .ok (.iadd, 1) := by decide +kernel
theorem d_M_work_22 : decode b_M_work 22 = .ok (.istore_n 1, 1) := by decide +kernel
theorem d_M_work_23 : decode b_M_work 23 = .ok (.aload_n 0, 1) := by decide +kernel
theorem d_M_work_24 : decode b_M_work 24 = .ok (.bipush 100, 2) := by decide +kernel
theorem d_M_work_26 : decode b_M_work 26 = .ok (.aload_n 0, 1) := by decide +kernel
theorem d_M_work_27 : decode b_M_work 27 = .ok (.getfield 59, 3) := by decide +kernel
theorem d_M_work_30 : decode b_M_work 30 = .ok (.aload_n 0, 1) := by decide +kernel
theorem d_M_work_31 : decode b_M_work 31 = .ok (.getfield 147, 3) := by decide +kernel
theorem d_M_work_34 : decode b_M_work 34 = .ok (.iaload, 1) := by decide +kernel
theorem d_M_work_35 : decode b_M_work 35 = .ok (.iadd, 1) := by decide +kernel
theorem d_M_work_36 : decode b_M_work 36 = .ok (.aload_n 0, 1) := by decide +kernel
theorem d_M_work_37 : decode b_M_work 37 = .ok (.getfield 135, 3) := by decide +kernel
theorem d_M_work_40 : decode b_M_work 40 = .ok (.invokevirtual 164, 3) := by decide +kernel
theorem d_M_work_43 : decode b_M_work 43 = .ok (.aload_n 0, 1) := by decide +kernel
theorem d_M_work_44 : decode b_M_work 44 = .ok (.getfield 126, 3) := by decide +kernel
theorem d_M_work_47 : decode b_M_work 47 = .ok (.ifCond .eq 4, 3) := by decide +kernel
theorem d_M_work_50 : decode b_M_work 50 = .ok (.return_, 1) := by decide +kernel
theorem d_M_work_51 : decode b_M_work 51 = .ok (.aload_n 0, 1) := by decide +kernel
theorem d_M_work_52 : decode b_M_work 52 = .ok (.getfield 47, 3) := by decide +kernel
theorem d_M_work_55 : decode b_M_work 55 = .ok (.iload_n 1, 1) := by decide +kernel
theorem d_M_work_56 : decode b_M_work 56 = .ok (.iaload, 1) := by decide +kernel
theorem d_M_work_57 : decode b_M_work 57 = .ok (.ifCond .le 30, 3) := by decide +kernel
theorem d_M_work_60 : decode b_M_work 60 = .ok (.aload_n 0, 1) := by decide +kernel
theorem d_M_work_61 : decode b_M_work 61 = .ok (.getfield 44, 3) := by decide +kernel
theorem d_M_work_64 : decode b_M_work 64 = .ok (.iload_n 1, 1) := by decide +kernel
theorem d_M_work_65 : decode b_M_work 65 = .ok (.iaload, 1) := by decide +kernel
theorem d_M_work_66 : decode b_M_work 66 = .ok (.aload_n 0, 1) := by decide +kernel
theorem d_M_work_67 : decode b_M_work 67 = .ok (.getfield 135, 3) := by decide +kernel
theorem d_M_work_70 : decode b_M_work 70 = .ok (.if_icmp .ne 17, 3) := by decide +kernel
theorem d_M_work_73 : decode b_M_work 73 = .ok (.aload_n 0, 1) := by decide +kernel
theorem d_M_work_74 : decode b_M_work 74 = .ok (.iconst 1, 1) := by decide +kernel
theorem d_M_work_75 : decode b_M_work 75 = .ok (.aload_n 0, 1) := by decide +kernel
theorem d_M_work_76 : decode b_M_work 76 = .ok (.getfield 47, 3) := by decide +kernel
theorem d_M_work_79 : decode b_M_work 79 = .ok (.iload_n 1, 1) := by decide +kernel
theorem d_M_work_80 : decode b_M_work 80 = .ok (.iaload, 1) := by decide +kernel
theorem d_M_work_81 : decode b_M_work 81 = .ok (.invokevirtual 150, 3) := by decide +kernel
theorem d_M_work_84 : decode b_M_work 84 = .ok (.goto 69, 3) := by decide +kernel
theorem d_M_work_87 : decode b_M_work 87 = .ok (.aload_n 0, 1) := by decide +kernel
theorem d_M_work_88 : decode b_M_work 88 = .ok (.getfield 50, 3) := by decide +kernel
theorem d_M_work_91 : decode b_M_work 91 = .ok (.iload_n 1, 1) := by decide +kernel
theorem d_M_work_92 : decode b_M_work 92 = .ok (.iaload, 1) := by decide +kernel
theorem d_M_work_93 : decode b_M_work 93 = .ok (.iconst (-1), 1) := by decide +kernel
theorem d_M_work_94 : decode b_M_work 94 = .ok (.if_icmp .eq 36, 3) := by decide +kernel
theorem d_M_work_97 : decode b_M_work 97 = .ok (.aload_n 0, 1) := by decide +kernel
theorem d_M_work_98 : decode b_M_work 98 = .ok (.getfield 135, 3) := by decide +kernel
theorem d_M_work_101 : decode b_M_work 101 = .ok (.ifCond .le 29, 3) := by decide +kernel
theorem d_M_work_104 : decode b_M_work 104 = .ok (.aload_n 0, 1) := by decide +kernel
theorem d_M_work_105 : decode b_M_work 105 = .ok (.bipush 8, 2) := by decide +kernel
theorem d_M_work_107 : decode b_M_work 107 = .ok (.iload_n 1, 1) := by decide +kernel
theorem d_M_work_108 : decode b_M_work 108 = .ok (.invokevirtual 157, 3) := by decide +kernel
theorem d_M_work_111 : decode b_M_work 111 = .ok (.aload_n 0, 1) := by decide +kernel
theorem d_M_work_112 : decode b_M_work 112 = .ok (.aload_n 0, 1) := by decide +kernel
theorem d_M_work_113 : decode b_M_work 113 = .ok (.getfield 50, 3) := by decide +kernel
theorem d_M_work_116 : decode b_M_work 116 = .ok (.iload_n 1, 1) := by decide +kernel
theorem d_M_work_117 : decode b_M_work 117 = .ok (.iaload, 1) := by decide +kernel
theorem d_M_work_118 : decode b_M_work 118 = .ok (.aload_n 0, 1) := by decide +kernel
theorem d_M_work_119 : decode b_M_work 119 = .ok (.getfield 135, 3) := by decide +kernel
theorem d_M_work_122 : decode b_M_work 122 = .ok (.iconst 1, 1) := by decide +kernel
theorem d_M_work_123 : decode b_M_work 123 = .ok (.isub, 1) := by decide +kernel
theorem d_M_work_124 : decode b_M_work 124 = .ok (.invokevirtual 167, 3) := by decide +kernel
theorem d_M_work_127 : decode b_M_work 127 = .ok (.goto 26, 3) := by decide +kernel
theorem d_M_work_130 : decode b_M_work 130 = .ok (.aload_n 0, 1) := by decide +kernel
theorem d_M_work_131 : decode b_M_work 131 = .ok (.iconst 0, 1) := by decide +kernel
theorem d_M_work_132 : decode b_M_work 132 = .ok (.aload_n 0, 1) := by decide +kernel
theorem d_M_work_133 : decode b_M_work 133 = .ok (.getfield 38, 3) := by decide +kernel
theorem d_M_work_136 : decode b_M_work 136 = .ok (.iload_n 1, 1) := by decide +kernel
theorem d_M_work_137 : decode b_M_work 137 = .ok (.iaload, 1) := by decide +kernel
theorem d_M_work_138 : decode b_M_work 138 = .ok (.aload_n 0, 1) := by decide +kernel
theorem d_M_work_139 : decode b_M_work 139 = .ok (.getfield 135, 3) := by decide +kernel
theorem d_M_work_142 : decode b_M_work 142 = .ok (.imul, 1) := by decide +kernel
theorem d_M_work_143 : decode b_M_work 143 = .ok (.aload_n 0, 1) := by decide +kernel
theorem d_M_work_144 : decode b_M_work 144 = .ok (.getfield 41, 3) := by decide +kernel
theorem d_M_work_147 : decode b_M_work 147 = .ok (.iload_n 1, 1) := by decide +kernel
theorem d_M_work_148 : decode b_M_work 148 = .ok (.iaload, 1) := by decide +kernel
theorem d_M_work_149 : decode b_M_work 149 = .ok (.iadd, 1) := by decide +kernel
theorem d_M_work_150 : decode b_M_work 150 = .ok (.invokevirtual 150, 3) := by decide +kernel
theorem d_M_work_153 : decode b_M_work 153 = .ok (.return_, 1) := by decide +kernel
theorem d_M_step_0 : decode b_M_step 0 = .ok (.aload_n 0, 1) := by decide +kernel
theorem d_M_step_1 : decode b_M_step 1 = .ok (.aload_n 0, 1) := by decide +kernel
theorem d_M_step_2 : decode b_M_step 2 = .ok (.getfield 59, 3) := by decide +kernel
theorem d_M_step_5 : decode b_M_step 5 = .ok (.aload_n 0, 1) := by decide +kernel
theorem d_M_step_6 : decode b_M_step 6 = .ok (.getfield 147, 3) := by decide +kernel
theorem d_M_step_9 : decode b_M_step 9 = .ok (.iaload, 1) := by decide +kernel
theorem d_M_step_10 : decode b_M_step 10 = .ok (.aload_n 0, 1) := by decide +kernel
theorem d_M_step_11 : decode b_M_step 11 = .ok (.getfield 132, 3) := by decide +kernel
theorem d_M_step_14 : decode b_M_step 14 = .ok (.invokevirtual 109, 3) := by decide +kernel
theorem d_M_step_17 : decode b_M_step 17 = .ok (.istore_n 1, 1) := by decide +kernel
theorem d_M_step_18 : decode b_M_step 18 = .ok (.iload_n 1, 1) := by decide +kernel
theorem d_M_step_19 : decode b_M_step 19 = .ok (.ifCond .ge 8, 3) := by decide +kernel
theorem d_M_step_22 : decode b_M_step 22 = .ok (.aload_n 0, 1) := by decide +kernel
theorem d_M_step_23 : decode b_M_step 23 = .ok (.invokevirtual 170, 3) := by decide +kernel
theorem d_M_step_26 : decode b_M_step 26 = .ok (.return_, 1) := by decide +kernel
theorem d_M_step_27 : decode b_M_step 27 = .ok (.aload_n 0, 1) := by decide +kernel
theorem d_M_step_28 : decode b_M_step 28 = .ok (.getfield 28, 3) := by decide +kernel
theorem d_M_step_31 : decode b_M_step 31 = .ok (.iload_n 1, 1) := by decide +kernel
theorem d_M_step_32 : decode b_M_step 32 = .ok (.baload, 1) := by decide +kernel
theorem d_M_step_33 : decode b_M_step 33 = .ok (.ifCond .eq 46, 3) := by decide +kernel
theorem d_M_step_36 : decode b_M_step 36 = .ok (.aload_n 0, 1) := by decide +kernel
theorem d_M_step_37 : decode b_M_step 37 = .ok (.dup, 1) := by decide +kernel
theorem d_M_step_38 : decode b_M_step 38 = .ok (.getfield 173, 3) := by decide +kernel
theorem d_M_step_41 : decode b_M_step 41 = .ok (.iconst 1, 1) := by decide +kernel
theorem d_M_step_42 : decode b_M_step 42 = .ok (.iadd, 1) := by decide +kernel
theorem d_M_step_43 : decode b_M_step 43 = .ok (.putfield 173, 3) := by decide +kernel
theorem d_M_step_46 : decode b_M_step 46 = .ok (.aload_n 0, 1) := by decide +kernel
theorem d_M_step_47 : decode b_M_step 47 = .ok (.getfield 135, 3) := by decide +kernel
theorem d_M_step_50 : decode b_M_step 50 = .ok (.aload_n 0, 1) := by decide +kernel
theorem d_M_step_51 : decode b_M_step 51 = .ok (.getfield 32, 3) := by decide +kernel
theorem d_M_step_54 : decode b_M_step 54 = .ok (.iload_n 1, 1) := by decide +kernel
theorem d_M_step_55 : decode b_M_step 55 = .ok (.iaload, 1) := by decide +kernel
theorem d_M_step_56 : decode b_M_step 56 = .ok (.aload_n 0, 1) := by decide +kernel
theorem d_M_step_57 : decode b_M_step 57 = .ok (.getfield 35, 3) := by decide +kernel
theorem d_M_step_60 : decode b_M_step 60 = .ok (.iload_n 1, 1) := by decide +kernel
theorem d_M_step_61 : decode b_M_step 61 = .ok (.iaload, 1) := by decide +kernel
theorem d_M_step_62 : decode b_M_step 62 = .ok (.invokestatic 83, 3) := by decide +kernel
theorem d_M_step_65 : decode b_M_step 65 = .ok (.ifCond .ne 14, 3) := by decide +kernel
theorem d_M_step_68 : decode b_M_step 68 = .ok (.aload_n 0, 1) := by decide +kernel
theorem d_M_step_69 : decode b_M_step 69 = .ok (.dup, 1) := by decide +kernel
theorem d_M_step_70 : decode b_M_step 70 = .ok (.getfield 132, 3) := by decide +kernel
theorem d_M_step_73 : decode b_M_step 73 = .ok (.iconst 1, 1) := by decide +kernel
theorem d_M_step_74 : decode b_M_step 74 = .ok (.iadd, 1) := by decide +kernel
theorem d_M_step_75 : decode b_M_step 75 = .ok (.putfield 132, 3) := by decide +kernel
theorem d_M_step_78 : decode b_M_step 78 = .ok (.return_, 1) := by decide +kernel
theorem d_M_step_79 : decode b_M_step 79 = .ok (.aload_n 0, 1) := by decide +kernel
theorem d_M_step_80 : decode b_M_step 80 = .ok (.getfield 13, 3) := by decide +kernel
theorem d_M_step_83 : decode b_M_step 83 = .ok (.iload_n 1, 1) := by decide +kernel
theorem d_M_step_84 : decode b_M_step 84 = .ok (.iaload, 1) := by decide +kernel
theorem d_M_step_85 : decode b_M_step 85 = .ok (.iconst 3, 1) := by decide +kernel
theorem d_M_step_86 : decode b_M_step 86 = .ok (.if_icmp .gt 17, 3) := by decide +kernel
theorem d_M_step_89 : decode b_M_step 89 = .ok (.aload_n 0, 1) := by decide +kernel
theorem d_M_step_90 : decode b_M_step 90 = .ok (.aload_n 0, 1) := by decide +kernel
theorem d_M_step_91 : decode b_M_step 91 = .ok (.getfield 7, 3) := by decide +kernel
theorem d_M_step_94 : decode b_M_step 94 = .ok (.iload_n 1, 1) := by decide +kernel
theorem d_M_step_95 : decode b_M_step 95 = .ok (.iaload, 1) := by decide +kernel
theorem d_M_step_96 : decode b_M_step 96 = .ok (.aload_n 0, 1) := by decide +kernel
theorem d_M_step_97 : decode b_M_step 97 = .ok (.getfield 135, 3) := by decide +kernel
theorem d_M_step_100 : decode b_M_step 100 = .ok (.invokevirtual 164, 3) := by decide +kernel
theorem d_M_step_103 : decode b_M_step 103 = .ok (.aload_n 0, 1) := by decide +kernel
theorem d_M_step_104 : decode b_M_step 104 = .ok (.getfield 126, 3) := by decide +kernel
theorem d_M_step_107 : decode b_M_step 107 = .ok (.ifCond .eq 4, 3) := by decide +kernel
theorem d_M_step_110 : decode b_M_step 110 = .ok (.return_, 1) := by decide +kernel
theorem d_M_step_111 : decode b_M_step 111 = .ok (.aload_n 0, 1) := by decide +kernel
theorem d_M_step_112 : decode b_M_step 112 = .ok (.getfield 13, 3) := by decide +kernel
theorem d_M_step_115 : decode b_M_step 115 = .ok (.iload_n 1, 1) := by decide +kernel
theorem d_M_step_116 : decode b_M_step 116 = .ok (.iaload, 1) := by decide +kernel
theorem d_M_step_117 : decode b_M_step 117 = .ok (.ifCond .ne 30, 3) := by decide +kernel
theorem d_M_step_120 : decode b_M_step 120 = .ok (.aload_n 0, 1) := by decide +kernel
theorem d_M_step_121 : decode b_M_step 121 = .ok (.getfield 135, 3) := by decide +kernel
theorem d_M_step_124 : decode b_M_step 124 = .ok (.aload_n 0, 1) := by decide +kernel
theorem d_M_step_125 : decode b_M_step 125 = .ok (.getfield 22, 3) := by decide +kernel
theorem d_M_step_128 : decode b_M_step 128 = .ok (.iload_n 1, 1) := by decide +kernel
theorem d_M_step_129 : decode b_M_step 129 = .ok (.iaload, 1) := by decide +kernel
theorem d_M_step_130 : decode b_M_step 130 = .ok (.if_icmp .ne 17, 3) := by decide +kernel
theorem d_M_step_133 : decode b_M_step 133 = .ok (.aload_n 0, 1) := by decide +kernel
theorem d_M_step_134 : decode b_M_step 134 = .ok (.iconst 1, 1) := by decide +kernel
theorem d_M_step_135 : decode b_M_step 135 = .ok (.aload_n 0, 1) := by decide +kernel
theorem d_M_step_136 : decode b_M_step 136 = .ok (.getfield 25, 3) := by decide +kernel
theorem d_M_step_139 : decode b_M_step 139 = .ok (.iload_n 1, 1) := by decide +kernel
theorem d_M_step_140 : decode b_M_step 140 = .ok (.iaload, 1) := by decide +kernel
theorem d_M_step_141 : decode b_M_step 141 = .ok (.invokevirtual 150, 3) := by decide +kernel
theorem d_M_step_144 : decode b_M_step 144 = .ok (.goto 121, 3) := by decide +kernel
theorem d_M_step_147 : decode b_M_step 147 = .ok (.aload_n 0, 1) := by decide +kernel
theorem d_M_step_148 : decode b_M_step 148 = .ok (.getfield 13, 3) := by decide +kernel
theorem d_M_step_151 : decode b_M_step 151 = .ok (.iload_n 1, 1) := by decide +kernel
theorem d_M_step_152 : decode b_M_step 152 = .ok (.iaload, 1) := by decide +kernel
theorem d_M_step_153 : decode b_M_step 153 = .ok (.iconst 2, 1) := by decide +kernel
theorem d_M_step_154 : decode b_M_step 154 = .ok (.if_icmp .ne 30, 3) := by decide +kernel
theorem d_M_step_157 : decode b_M_step 157 = .ok (.aload_n 0, 1) := by decide +kernel
theorem d_M_step_158 : decode b_M_step 158 = .ok (.getfield 135, 3) := by decide +kernel
theorem d_M_step_161 : decode b_M_step 161 = .ok (.aload_n 0, 1) := by decide +kernel
theorem d_M_step_162 : decode b_M_step 162 = .ok (.getfield 22, 3) := by decide +kernel
theorem d_M_step_165 : decode b_M_step 165 = .ok (.iload_n 1, 1) := by decide +kernel
theorem d_M_step_166 : decode b_M_step 166 = .ok (.iaload, 1) := by decide +kernel
theorem d_M_step_167 : decode b_M_step 167 = .ok (.if_icmp .ge 17, 3) := by decide +kernel
theorem d_M_step_170 : decode b_M_step 170 = .ok (.aload_n 0, 1) := by decide +kernel
theorem d_M_step_171 : decode b_M_step 171 = .ok (.iconst 0, 1) := by decide +kernel
theorem d_M_step_172 : decode b_M_step 172 = .ok (.aload_n 0, 1) := by decide +kernel
theorem d_M_step_173 : decode b_M_step 173 = .ok (.getfield 25, 3) := by decide +kernel
theorem d_M_step_176 : decode b_M_step 176 = .ok (.iload_n 1, 1) := by decide +kernel
theorem d_M_step_177 : decode b_M_step 177 = .ok (.iaload, 1) := by decide +kernel
theorem d_M_step_178 : decode b_M_step 178 = .ok (.invokevirtual 150, 3) := by decide +kernel
theorem d_M_step_181 : decode b_M_step 181 = .ok (.goto 84, 3) := by decide +kernel
theorem d_M_step_184 : decode b_M_step 184 = .ok (.aload_n 0, 1) := by decide +kernel
theorem d_M_step_185 : decode b_M_step 185 = .ok (.getfield 13, 3) := by decide +kernel
theorem d_M_step_188 : decode b_M_step 188 = .ok (.iload_n 1, 1) := by decide +kernel
theorem d_M_step_189 : decode b_M_step 189 = .ok (.iaload, 1) := by decide +kernel
theorem d_M_step_190 : decode b_M_step 190 = .ok (.ifCond .eq 13, 3) := by decide +kernel
theorem d_M_step_193 : decode b_M_step 193 = .ok (.aload_n 0, 1) := by decide +kernel
theorem d_M_step_194 : decode b_M_step 194 = .ok (.getfield 13, 3) := by decide +kernel
theorem d_M_step_197 : decode b_M_step 197 = .ok (.iload_n 1, 1) := by decide +kernel
theorem d_M_step_198 : decode b_M_step 198 = .ok (.iaload, 1) := by decide +kernel
theorem d_M_step_199 : decode b_M_step 199 = .ok (.iconst 2, 1) := by decide +kernel
theorem d_M_step_200 : decode b_M_step 200 = .ok (.if_icmp .ne 16, 3) := by decide +kernel
theorem d_M_step_203 : decode b_M_step 203 = .ok (.aload_n 0, 1) := by decide +kernel
theorem d_M_step_204 : decode b_M_step 204 = .ok (.dup, 1) := by decide +kernel
theorem d_M_step_205 : decode b_M_step 205 = .ok (.getfield 132, 3) := by decide +kernel
theorem d_M_step_208 : decode b_M_step 208 = .ok (.iconst 1, 1) := by decide +kernel
theorem d_M_step_209 : decode b_M_step 209 = .ok (.iadd, 1) := by decide +kernel
theorem d_M_step_210 : decode b_M_step 210 = .ok (.putfield 132, 3) := by decide +kernel
theorem d_M_step_213 : decode b_M_step 213 = .ok (.goto 52, 3) := by decide +kernel
theorem d_M_step_216 : decode b_M_step 216 = .ok (.aload_n 0, 1) := by decide +kernel
theorem d_M_step_217 : decode b_M_step 217 = .ok (.aload_n 0, 1) := by decide +kernel
theorem d_M_step_218 : decode b_M_step 218 = .ok (.getfield 13, 3) := by decide +kernel
theorem d_M_step_221 : decode b_M_step 221 = .ok (.iload_n 1, 1) := by decide +kernel
theorem d_M_step_222 : decode b_M_step 222 = .ok (.iaload, 1) := by decide +kernel
theorem d_M_step_223 : decode b_M_step 223 = .ok (.iload_n 1, 1) := by decide +kernel
theorem d_M_step_224 : decode b_M_step 224 = .ok (.invokevirtual 157, 3) := by decide +kernel
theorem d_M_step_227 : decode b_M_step 227 = .ok (.aload_n 0, 1) := by decide +kernel
theorem d_M_step_228 : decode b_M_step 228 = .ok (.aload_n 0, 1) := by decide +kernel
theorem d_M_step_229 : decode b_M_step 229 = .ok (.getfield 132, 3) := by decide +kernel
theorem d_M_step_232 : decode b_M_step 232 = .ok (.iconst 1, 1) := by decide +kernel
theorem d_M_step_233 : decode b_M_step 233 = .ok (.iadd, 1) := by decide +kernel
theorem d_M_step_234 : decode b_M_step 234 = .ok (.aload_n 0, 1) := by decide +kernel
theorem d_M_step_235 : decode b_M_step 235 = .ok (.getfield 13, 3) := by decide +kernel
theorem d_M_step_238 : decode b_M_step 238 = .ok (.iload_n 1, 1) := by decide +kernel
theorem d_M_step_239 : decode b_M_step 239 = .ok (.iaload, 1) := by decide +kernel
theorem d_M_step_240 : decode b_M_step 240 = .ok (.iconst 1, 1) := by decide +kernel
theorem d_M_step_241 : decode b_M_step 241 = .ok (.if_icmp .ne 17, 3) := by decide +kernel
theorem d_M_step_244 : decode b_M_step 244 = .ok (.aload_n 0, 1) := by decide +kernel
theorem d_M_step_245 : decode b_M_step 245 = .ok (.getfield 135, 3) := by decide +kernel
theorem d_M_step_248 : decode b_M_step 248 = .ok (.aload_n 0, 1) := by decide +kernel
theorem d_M_step_249 : decode b_M_step 249 = .ok (.getfield 22, 3) := by decide +kernel
theorem d_M_step_252 : decode b_M_step 252 = .ok (.iload_n 1, 1) := by decide +kernel
theorem d_M_step_253 : decode b_M_step 253 = .ok (.iaload, 1) := by decide +kernel
theorem d_M_step_254 : decode b_M_step 254 = .ok (.iadd, 1) := by decide +kernel
theorem d_M_step_255 : decode b_M_step 255 = .ok (.goto 7, 3) := by decide +kernel
theorem d_M_step_258 : decode b_M_step 258 = .ok (.aload_n 0, 1) := by decide +kernel
theorem d_M_step_259 : decode b_M_step 259 = .ok (.getfield 135, 3) := by decide +kernel
theorem d_M_step_262 : decode b_M_step 262 = .ok (.invokevirtual 161, 3) := by decide +kernel
theorem d_M_step_265 : decode b_M_step 265 = .ok (.return_, 1) := by decide +kernel
theorem d_M_back_0 : decode b_M_back 0 = .ok (.aload_n 0, 1) := by decide +kernel
theorem d_M_back_1 : decode b_M_back 1 = .ok (.dup, 1) := by decide +kernel
theorem d_M_back_2 : decode b_M_back 2 = .ok (.getfield 144, 3) := by decide +kernel
theorem d_M_back_5 : decode b_M_back 5 = .ok (.iconst 1, 1) := by decide +kernel
theorem d_M_back_6 : decode b_M_back 6 = .ok (.isub, 1) := by decide +kernel
theorem d_M_back_7 : decode b_M_back 7 = .ok (.putfield 144, 3) := by decide +kernel
theorem d_M_back_10 : decode b_M_back 10 = .ok (.aload_n 0, 1) := by decide +kernel
theorem d_M_back_11 : decode b_M_back 11 = .ok (.getfield 65, 3) := by decide +kernel
theorem d_M_back_14 : decode b_M_back 14 = .ok (.aload_n 0, 1) := by decide +kernel
theorem d_M_back_15 : decode b_M_back 15 = .ok (.getfield 144, 3) := by decide +kernel
theorem d_M_back_18 : decode b_M_back 18 = .ok (.iaload, 1) := by decide +kernel
theorem d_M_back_19 : decode b_M_back 19 = .ok (.istore_n 1, 1) := by decide +kernel
theorem d_M_back_20 : decode b_M_back 20 = .ok (.aload_n 0, 1) := by decide +kernel
theorem d_M_back_21 : decode b_M_back 21 = .ok (.getfield 71, 3) := by decide +kernel
theorem d_M_back_24 : decode b_M_back 24 = .ok (.aload_n 0, 1) := by decide +kernel
theorem d_M_back_25 : decode b_M_back 25 = .ok (.getfield 144, 3) := by decide +kernel
theorem d_M_back_28 : decode b_M_back 28 = .ok (.iaload, 1) := by decide +kernel
theorem d_M_back_29 : decode b_M_back 29 = .ok (.istore_n 2, 1) := by decide +kernel
theorem d_M_back_30 : decode b_M_back 30 = .ok (.iload_n 1, 1) := by decide +kernel
theorem d_M_back_31 : decode b_M_back 31 = .ok (.bipush 9, 2) := by decide +kernel
theorem d_M_back_33 : decode b_M_back 33 = .ok (.if_icmp .ne 16, 3) := by decide +kernel
theorem d_M_back_36 : decode b_M_back 36 = .ok (.aload_n 0, 1) := by decide +kernel
theorem d_M_back_37 : decode b_M_back 37 = .ok (.dup, 1) := by decide +kernel
theorem d_M_back_38 : decode b_M_back 38 = .ok (.getfield 147, 3) := by decide +kernel
theorem d_M_back_41 : decode b_M_back 41 = .ok (.iconst 1, 1) := by decide +kernel
theorem d_M_back_42 : decode b_M_back 42 = .ok (.isub, 1) := by decide +kernel
theorem d_M_back_43 : decode b_M_back 43 = .ok (.putfield 147, 3) := by decide +kernel
theorem d_M_back_46 : decode b_M_back 46 = .ok (.goto 291, 3) := by decide +kernel
theorem d_M_back_49 : decode b_M_back 49 = .ok (.iload_n 1, 1) := by decide +kernel
theorem d_M_back_50 : decode b_M_back 50 = .ok (.bipush 8, 2) := by decide +kernel
theorem d_M_back_52 : decode b_M_back 52 = .ok (.if_icmp .ne 42, 3) := by decide +kernel
theorem d_M_back_55 : decode b_M_back 55 = .ok (.aload_n 0, 1) := by decide +kernel
theorem d_M_back_56 : decode b_M_back 56 = .ok (.aload_n 0, 1) := by decide +kernel
theorem d_M_back_57 : decode b_M_back 57 = .ok (.getfield 138, 3) := by decide +kernel
theorem d_M_back_60 : decode b_M_back 60 = .ok (.ifCond .eq 10, 3) := by decide +kernel
theorem d_M_back_63 : decode b_M_back 63 = .ok (.aload_n 0, 1) := by decide +kernel
theorem d_M_back_64 : decode b_M_back 64 = .ok (.getfield 141, 3) := by decide +kernel
theorem d_M_back_67 : decode b_M_back 67 = .ok (.goto 21, 3) := by decide +kernel
theorem d_M_back_70 : decode b_M_back 70 = .ok (.aload_n 0, 1) := by decide +kernel
theorem d_M_back_71 : decode b_M_back 71 = .ok (.getfield 38, 3) := by decide +kernel
theorem d_M_back_74 : decode b_M_back 74 = .ok (.iload_n 2, 1) := by decide +kernel
theorem d_M_back_75 : decode b_M_back 75 = .ok (.iaload, 1) := by decide +kernel
theorem d_M_back_76 : decode b_M_back 76 = .ok (.aload_n 0, 1) := by decide +kernel
theorem d_M_back_77 : decode b_M_back 77 = .ok (.getfield 141, 3) := by decide +kernel
theorem d_M_back_80 : decode b_M_back 80 = .ok (.imul, 1) := by decide +kernel
theorem d_M_back_81 : decode b_M_back 81 = .ok (.aload_n 0, 1) := by decide +kernel
theorem d_M_back_82 : decode b_M_back 82 = .ok (.getfield 41, 3) := by decide +kernel
theorem d_M_back_85 : decode b_M_back 85 = .ok (.iload_n 2, 1) := by decide +kernel
theorem d_M_back_86 : decode b_M_back 86 = .ok (.iaload, 1) := by decide +kernel
theorem d_M_back_87 : decode b_M_back 87 = .ok (.iadd, 1) := by decide +kernel
theorem d_M_back_88 : decode b_M_back 88 = .ok (.putfield 141, 3) := by decide +kernel
theorem d_M_back_91 : decode b_M_back 91 = .ok (.goto 246, 3) := by decide +kernel
theorem d_M_back_94 : decode b_M_back 94 = .ok (.iload_n 1, 1) := by decide +kernel
theorem d_M_back_95 : decode b_M_back 95 = .ok (.iconst 1, 1) := by decide +kernel
theorem d_M_back_96 : decode b_M_back 96 = .ok (.if_icmp .ne 35, 3) := by decide +kernel
theorem d_M_back_99 : decode b_M_back 99 = .ok (.aload_n 0, 1) := by decide +kernel
theorem d_M_back_100 : decode b_M_back 100 = .ok (.aload_n 0, 1) := by decide +kernel
theorem d_M_back_101 : decode b_M_back 101 = .ok (.getfield 138, 3) := by decide +kernel
theorem d_M_back_104 : decode b_M_back 104 = .ok (.ifCond .eq 10, 3) := by decide +kernel
theorem d_M_back_107 : decode b_M_back 107 = .ok (.aload_n 0, 1) := by decide +kernel
theorem d_M_back_108 : decode b_M_back 108 = .ok (.getfield 141, 3) := by decide +kernel
theorem d_M_back_111 : decode b_M_back 111 = .ok (.goto 14, 3) := by decide +kernel
theorem d_M_back_114 : decode b_M_back 114 = .ok (.aload_n 0, 1) := by decide +kernel
theorem d_M_back_115 : decode b_M_back 115 = .ok (.getfield 141, 3) := by decide +kernel
theorem d_M_back_118 : decode b_M_back 118 = .ok (.aload_n 0, 1) := by decide +kernel
theorem d_M_back_119 : decode b_M_back 119 = .ok (.getfield 25, 3) := by decide +kernel
theorem d_M_back_122 : decode b_M_back 122 = .ok (.iload_n 2, 1) := by decide +kernel
theorem d_M_back_123 : decode b_M_back 123 = .ok (.iaload, 1) := by decide +kernel
theorem d_M_back_124 : decode b_M_back 124 = .ok (.iadd, 1) := by decide +kernel
theorem d_M_back_125 : decode b_M_back 125 = .ok (.putfield 141, 3) := by decide +kernel
theorem d_M_back_128 : decode b_M_back 128 = .ok (.goto 209, 3) := by decide +kernel
theorem d_M_back_131 : decode b_M_back 131 = .ok (.iload_n 1, 1) := by decide +kernel
theorem d_M_back_132 : decode b_M_back 132 = .ok (.iconst 3, 1) := by decide +kernel
theorem d_M_back_133 : decode b_M_back 133 = .ok (.if_icmp .ne 11, 3) := by decide +kernel
theorem d_M_back_136 : decode b_M_back 136 = .ok (.aload_n 0, 1) := by decide +kernel
theorem d_M_back_137 : decode b_M_back 137 = .ok (.iload_n 2, 1) := by decide +kernel
theorem d_M_back_138 : decode b_M_back 138 = .ok (.invokevirtual 176, 3) := by decide +kernel
theorem d_M_back_141 : decode b_M_back 141 = .ok (.goto 196, 3) := by decide +kernel
theorem d_M_back_144 : decode b_M_back 144 = .ok (.iload_n 1, 1) := by decide +kernel
theorem d_M_back_145 : decode b_M_back 145 = .ok (.bipush 6, 2) := by decide +kernel
theorem d_M_back_147 : decode b_M_back 147 = .ok (.if_icmp .ne 54, 3) := by decide +kernel
theorem d_M_back_150 : decode b_M_back 150 = .ok (.aload_n 0, 1) := by decide +kernel
theorem d_M_back_151 : decode b_M_back 151 = .ok (.aload_n 0, 1) := by decide +kernel
theorem d_M_back_152 : decode b_M_back 152 = .ok (.getfield 7, 3) := by decide +kernel
theorem d_M_back_155 : decode b_M_back 155 = .ok (.iload_n 2, 1) := by decide +kernel
theorem d_M_back_156 : decode b_M_back 156 = .ok (.iaload, 1) := by decide +kernel
theorem d_M_back_157 : decode b_M_back 157 = .ok (.aload_n 0, 1) := by decide +kernel
theorem d_M_back_158 : decode b_M_back 158 = .ok (.getfield 74, 3) := by decide +kernel
theorem d_M_back_161 : decode b_M_back 161 = .ok (.aload_n 0, 1) := by decide +kernel
theorem d_M_back_162 : decode b_M_back 162 = .ok (.getfield 144, 3) := by decide +kernel
theorem d_M_back_165 : decode b_M_back 165 = .ok (.iaload, 1) := by decide +kernel
theorem d_M_back_166 : decode b_M_back 166 = .ok (.invokevirtual 164, 3) := by decide +kernel
theorem d_M_back_169 : decode b_M_back 169 = .ok (.aload_n 0, 1) := by decide +kernel
theorem d_M_back_170 : decode b_M_back 170 = .ok (.getfield 74, 3) := by decide +kernel
theorem d_M_back_173 : decode b_M_back 173 = .ok (.aload_n 0, 1) := by decide +kernel
theorem d_M_back_174 : decode b_M_back 174 = .ok (.getfield 144, 3) := by decide +kernel
theorem d_M_back_177 : decode b_M_back 177 = .ok (.iaload, 1) := by decide +kernel
theorem d_M_back_178 : decode b_M_back 178 = .ok (.aload_n 0, 1) := by decide +kernel
theorem d_M_back_179 : decode b_M_back 179 = .ok (.getfield 22, 3) := by decide +kernel
theorem d_M_back_182 : decode b_M_back 182 = .ok (.iload_n 2, 1) := by decide +kernel
theorem d_M_back_183 : decode b_M_back 183 = .ok (.iaload, 1) := by decide +kernel
theorem d_M_back_184 : decode b_M_back 184 = .ok (.if_icmp .ne 153, 3) := by decide +kernel
theorem d_M_back_187 : decode b_M_back 187 = .ok (.aload_n 0, 1) := by decide +kernel
theorem d_M_back_188 : decode b_M_back 188 = .ok (.iconst 1, 1) := by decide +kernel
theorem d_M_back_189 : decode b_M_back 189 = .ok (.aload_n 0, 1) := by decide +kernel
theorem d_M_back_190 : decode b_M_back 190 = .ok (.getfield 25, 3) := by decide +kernel
theorem d_M_back_193 : decode b_M_back 193 = .ok (.iload_n 2, 1) := by decide +kernel
theorem d_M_back_194 : decode b_M_back 194 = .ok (.iaload, 1) := by decide +kernel
theorem d_M_back_195 : decode b_M_back 195 = .ok (.invokevirtual 150, 3) := by decide +kernel
theorem d_M_back_198 : decode b_M_back 198 = .ok (.goto 139, 3) := by decide +kernel
theorem d_M_back_201 : decode b_M_back 201 = .ok (.iload_n 1, 1) := by decide +kernel
theorem d_M_back_202 : decode b_M_back 202 = .ok (.iconst 4, 1) := by decide +kernel
theorem d_M_back_203 : decode b_M_back 203 = .ok (.if_icmp .ne 51, 3) := by decide +kernel
theorem d_M_back_206 : decode b_M_back 206 = .ok (.aload_n 0, 1) := by decide +kernel
theorem d_M_back_207 : decode b_M_back 207 = .ok (.getfield 138, 3) := by decide +kernel
theorem d_M_back_210 : decode b_M_back 210 = .ok (.ifCond .ne 44, 3) := by decide +kernel
theorem d_M_back_213 : decode b_M_back 213 = .ok (.aload_n 0, 1) := by decide +kernel
theorem d_M_back_214 : decode b_M_back 214 = .ok (.aload_n 0, 1) := by decide +kernel
theorem d_M_back_215 : decode b_M_back 215 = .ok (.getfield 7, 3) := by decide +kernel
theorem d_M_back_218 : decode b_M_back 218 = .ok (.iload_n 2, 1) := by decide +kernel
theorem d_M_back_219 : decode b_M_back 219 = .ok (.iaload, 1) := by decide +kernel
theorem d_M_back_220 : decode b_M_back 220 = .ok (.aload_n 0, 1) := by decide +kernel
theorem d_M_back_221 : decode b_M_back 221 = .ok (.getfield 141, 3) := by decide +kernel
theorem d_M_back_224 : decode b_M_back 224 = .ok (.invokevirtual 164, 3) := by decide +kernel
theorem d_M_back_227 : decode b_M_back 227 = .ok (.aload_n 0, 1) := by decide +kernel
theorem d_M_back_228 : decode b_M_back 228 = .ok (.getfield 141, 3) := by decide +kernel
theorem d_M_back_231 : decode b_M_back 231 = .ok (.aload_n 0, 1) := by decide +kernel
theorem d_M_back_232 : decode b_M_back 232 = .ok (.getfield 22, 3) := by decide +kernel
theorem d_M_back_235 : decode b_M_back 235 = .ok (.iload_n 2, 1) := by decide +kernel
theorem d_M_back_236 : decode b_M_back 236 = .ok (.iaload, 1) := by decide +kernel
theorem d_M_back_237 : decode b_M_back 237 = .ok (.if_icmp .ne 100, 3) := by decide +kernel
theorem d_M_back_240 : decode b_M_back 240 = .ok (.aload_n 0, 1) := by decide +kernel
theorem d_M_back_241 : decode b_M_back 241 = .ok (.iconst 1, 1) := by decide +kernel
theorem d_M_back_242 : decode b_M_back 242 = .ok (.aload_n 0, 1) := by decide +kernel
theorem d_M_back_243 : decode b_M_back 243 = .ok (.getfield 25, 3) := by decide +kernel
theorem d_M_back_246 : decode b_M_back 246 = .ok (.iload_n 2, 1) := by decide +kernel
theorem d_M_back_247 : decode b_M_back 247 = .ok (.iaload, 1) := by decide +kernel
theorem d_M_back_248 : decode b_M_back 248 = .ok (.invokevirtual 150, 3) := by decide +kernel
theorem d_M_back_251 : decode b_M_back 251 = .ok (.goto 86, 3) := by decide +kernel
theorem d_M_back_254 : decode b_M_back 254 = .ok (.iload_n 1, 1) := by decide +kernel
theorem d_M_back_255 : decode b_M_back 255 = .ok (.iconst 5, 1) := by decide +kernel
theorem d_M_back_256 : decode b_M_back 256 = .ok (.if_icmp .lt 81, 3) := by decide +kernel
theorem d_M_back_259 : decode b_M_back 259 = .ok (.aload_n 0, 1) := by decide +kernel
theorem d_M_back_260 : decode b_M_back 260 = .ok (.getfield 138, 3) := by decide +kernel
theorem d_M_back_263 : decode b_M_back 263 = .ok (.ifCond .eq 74, 3) := by decide +kernel
theorem d_M_back_266 : decode b_M_back 266 = .ok (.aload_n 0, 1) := by decide +kernel
theorem d_M_back_267 : decode b_M_back 267 = .ok (.getfield 141, 3) := by decide +kernel
theorem d_M_back_270 : decode b_M_back 270 = .ok (.aload_n 0, 1) := by decide +kernel
theorem d_M_back_271 : decode b_M_back 271 = .ok (.getfield 22, 3) := by decide +kernel
theorem d_M_back_274 : decode b_M_back 274 = .ok (.iload_n 2, 1) := by decide +kernel
theorem d_M_back_275 : decode b_M_back 275 = .ok (.iaload, 1) := by decide +kernel
theorem d_M_back_276 : decode b_M_back 276 = .ok (.invokestatic 180, 3) := by decide +kernel
theorem d_M_back_279 : decode b_M_back 279 = .ok (.ifCond .eq 58, 3) := by decide +kernel
theorem d_M_back_282 : decode b_M_back 282 = .ok (.aload_n 0, 1) := by decide +kernel
theorem d_M_back_283 : decode b_M_back 283 = .ok (.aload_n 0, 1) := by decide +kernel
theorem d_M_back_284 : decode b_M_back 284 = .ok (.getfield 7, 3) := by decide +kernel
theorem d_M_back_287 : decode b_M_back 287 = .ok (.iload_n 2, 1) := by decide +kernel
theorem d_M_back_288 : decode b_M_back 288 = .ok (.iaload, 1) := by decide +kernel
theorem d_M_back_289 : decode b_M_back 289 = .ok (.aload_n 0, 1) := by decide +kernel
theorem d_M_back_290 : decode b_M_back 290 = .ok (.getfield 141, 3) := by decide +kernel
theorem d_M_back_293 : decode b_M_back 293 = .ok (.invokevirtual 164, 3) := by decide +kernel
theorem d_M_back_296 : decode b_M_back 296 = .ok (.aload_n 0, 1) := by decide +kernel
theorem d_M_back_297 : decode b_M_back 297 = .ok (.iload_n 1, 1) := by decide +kernel
theorem d_M_back_298 : decode b_M_back 298 = .ok (.iconst 5, 1) := by decide +kernel
theorem d_M_back_299 : decode b_M_back 299 = .ok (.if_icmp .ne 7, 3) := by decide +kernel
theorem d_M_back_302 : decode b_M_back 302 = .ok (.iconst 1, 1) := by decide +kernel
theorem d_M_back_303 : decode b_M_back 303 = .ok (.goto 4, 3) := by decide +kernel
theorem d_M_back_306 : decode b_M_back 306 = .ok (.iconst 0, 1) := by decide +kernel
theorem d_M_back_307 : decode b_M_back 307 = .ok (.iload_n 1, 1) := by decide +kernel
theorem d_M_back_308 : decode b_M_back 308 = .ok (.iconst 5, 1) := by decide +kernel
theorem d_M_back_309 : decode b_M_back 309 = .ok (.if_icmp .ne 19, 3) := by decide +kernel
theorem d_M_back_312 : decode b_M_back 312 = .ok (.aload_n 0, 1) := by decide +kernel
theorem d_M_back_313 : decode b_M_back 313 = .ok (.getfield 25, 3) := by decide +kernel
theorem d_M_back_316 : decode b_M_back 316 = .ok (.iload_n 2, 1) := by decide +kernel
theorem d_M_back_317 : decode b_M_back 317 = .ok (.iaload, 1) := by decide +kernel
theorem d_M_back_318 : decode b_M_back 318 = .ok (.ifCond .ne 10, 3) := by decide +kernel
theorem d_M_back_321 : decode b_M_back 321 = .ok (.aload_n 0, 1) := by decide +kernel
theorem d_M_back_322 : decode b_M_back 322 = .ok (.getfield 141, 3) := by decide +kernel
theorem d_M_back_325 : decode b_M_back 325 = .ok (.goto 9, 3) := by decide +kernel
theorem d_M_back_328 : decode b_M_back 328 = .ok (.aload_n 0, 1) := by decide +kernel
theorem d_M_back_329 : decode b_M_back 329 = .ok (.getfield 25, 3) := by decide +kernel
theorem d_M_back_332 : decode b_M_back 332 = .ok (.iload_n 2, 1) := by decide +kernel
theorem d_M_back_333 : decode b_M_back 333 = .ok (.iaload, 1) := by decide +kernel
theorem d_M_back_334 : decode b_M_back 334 = .ok (.invokevirtual 150, 3) := by decide +kernel
theorem d_M_back_337 : decode b_M_back 337 = .ok (.return_, 1) := by decide +kernel
theorem d_M_twice_0 : decode b_M_twice 0 = .ok (.aload_n 0, 1) := by decide +kernel
theorem d_M_twice_1 : decode b_M_twice 1 = .ok (.getfield 138, 3) := by decide +kernel
theorem d_M_twice_4 : decode b_M_twice 4 = .ok (.ifCond .eq 4, 3) := by decide +kernel
theorem d_M_twice_7 : decode b_M_twice 7 = .ok (.return_, 1) := by decide +kernel
theorem d_M_twice_8 : decode b_M_twice 8 = .ok (.aload_n 0, 1) := by decide +kernel
theorem d_M_twice_9 : decode b_M_twice 9 = .ok (.getfield 80, 3) := by decide +kernel
theorem d_M_twice_12 : decode b_M_twice 12 = .ok (.aload_n 0, 1) := by decide +kernel
theorem d_M_twice_13 : decode b_M_twice 13 = .ok (.getfield 144, 3) := by decide +kernel
theorem d_M_twice_16 : decode b_M_twice 16 = .ok (.baload, 1) := by decide +kernel
theorem d_M_twice_17 : decode b_M_twice 17 = .ok (.ifCond .eq 29, 3) := by decide +kernel
theorem d_M_twice_20 : decode b_M_twice 20 = .ok (.aload_n 0, 1) := by decide +kernel
theorem d_M_twice_21 : decode b_M_twice 21 = .ok (.aload_n 0, 1) := by decide +kernel
theorem d_M_twice_22 : decode b_M_twice 22 = .ok (.getfield 77, 3) := by decide +kernel
theorem d_M_twice_25 : decode b_M_twice 25 = .ok (.aload_n 0, 1) := by decide +kernel
theorem d_M_twice_26 : decode b_M_twice 26 = .ok (.getfield 144, 3) := by decide +kernel
theorem d_M_twice_29 : decode b_M_twice 29 = .ok (.iaload, 1) := by decide +kernel
theorem d_M_twice_30 : decode b_M_twice 30 = .ok (.aload_n 0, 1) := by decide +kernel
theorem d_M_twice_31 : decode b_M_twice 31 = .ok (.getfield 141, 3) := by decide +kernel
theorem d_M_twice_34 : decode b_M_twice 34 = .ok (.iadd, 1) := by decide +kernel
theorem d_M_twice_35 : decode b_M_twice 35 = .ok (.aload_n 0, 1) := by decide +kernel
theorem d_M_twice_36 : decode b_M_twice 36 = .ok (.getfield 25, 3) := by decide +kernel
theorem d_M_twice_39 : decode b_M_twice 39 = .ok (.iload_n 1, 1) := by decide +kernel
theorem d_M_twice_40 : decode b_M_twice 40 = .ok (.iaload, 1) := by decide +kernel
theorem d_M_twice_41 : decode b_M_twice 41 = .ok (.iadd, 1) := by decide +kernel
theorem d_M_twice_42 : decode b_M_twice 42 = .ok (.putfield 141, 3) := by decide +kernel
theorem d_M_twice_45 : decode b_M_twice 45 = .ok (.return_, 1) := by decide +kernel
theorem d_M_twice_46 : decode b_M_twice 46 = .ok (.aload_n 0, 1) := by decide +kernel
theorem d_M_twice_47 : decode b_M_twice 47 = .ok (.getfield 80, 3) := by decide +kernel
theorem d_M_twice_50 : decode b_M_twice 50 = .ok (.aload_n 0, 1) := by decide +kernel
theorem d_M_twice_51 : decode b_M_twice 51 = .ok (.getfield 144, 3) := by decide +kernel
theorem d_M_twice_54 : decode b_M_twice 54 = .ok (.iconst 1, 1) := by decide +kernel
theorem d_M_twice_55 : decode b_M_twice 55 = .ok (.bastore, 1) := by decide +kernel
theorem d_M_twice_56 : decode b_M_twice 56 = .ok (.aload_n 0, 1) := by decide +kernel
theorem d_M_twice_57 : decode b_M_twice 57 = .ok (.getfield 77, 3) := by decide +kernel
theorem d_M_twice_60 : decode b_M_twice 60 = .ok (.aload_n 0, 1) := by decide +kernel
theorem d_M_twice_61 : decode b_M_twice 61 = .ok (.getfield 144, 3) := by decide +kernel
theorem d_M_twice_64 : decode b_M_twice 64 = .ok (.aload_n 0, 1) := by decide +kernel
theorem d_M_twice_65 : decode b_M_twice 65 = .ok (.getfield 141, 3) := by decide +kernel
theorem d_M_twice_68 : decode b_M_twice 68 = .ok (.iastore, 1) := by decide +kernel
theorem d_M_twice_69 : decode b_M_twice 69 = .ok (.aload_n 0, 1) := by decide +kernel
theorem d_M_twice_70 : decode b_M_twice 70 = .ok (.aload_n 0, 1) := by decide +kernel
theorem d_M_twice_71 : decode b_M_twice 71 = .ok (.getfield 68, 3) := by decide +kernel
theorem d_M_twice_74 : decode b_M_twice 74 = .ok (.aload_n 0, 1) := by decide +kernel
theorem d_M_twice_75 : decode b_M_twice 75 = .ok (.getfield 144, 3) := by decide +kernel
theorem d_M_twice_78 : decode b_M_twice 78 = .ok (.iaload, 1) := by decide +kernel
theorem d_M_twice_79 : decode b_M_twice 79 = .ok (.iconst 1, 1) := by decide +kernel
theorem d_M_twice_80 : decode b_M_twice 80 = .ok (.iadd, 1) := by decide +kernel
theorem d_M_twice_81 : decode b_M_twice 81 = .ok (.aload_n 0, 1) := by decide +kernel
theorem d_M_twice_82 : decode b_M_twice 82 = .ok (.getfield 74, 3) := by decide +kernel
theorem d_M_twice_85 : decode b_M_twice 85 = .ok (.aload_n 0, 1) := by decide +kernel
theorem d_M_twice_86 : decode b_M_twice 86 = .ok (.getfield 144, 3) := by decide +kernel
theorem d_M_twice_89 : decode b_M_twice 89 = .ok (.iaload, 1) := by decide +kernel
theorem d_M_twice_90 : decode b_M_twice 90 = .ok (.aload_n 0, 1) := by decide +kernel
theorem d_M_twice_91 : decode b_M_twice 91 = .ok (.getfield 22, 3) := by decide +kernel
theorem d_M_twice_94 : decode b_M_twice 94 = .ok (.iload_n 1, 1) := by decide +kernel
theorem d_M_twice_95 : decode b_M_twice 95 = .ok (.iaload, 1) := by decide +kernel
theorem d_M_twice_96 : decode b_M_twice 96 = .ok (.iadd, 1) := by decide +kernel
theorem d_M_twice_97 : decode b_M_twice 97 = .ok (.invokevirtual 161, 3) := by decide +kernel
theorem d_M_twice_100 : decode b_M_twice 100 = .ok (.aload_n 0, 1) := by decide +kernel
theorem d_M_twice_101 : decode b_M_twice 101 = .ok (.dup, 1) := by decide +kernel
theorem d_M_twice_102 : decode b_M_twice 102 = .ok (.getfield 144, 3) := by decide +kernel
theorem d_M_twice_105 : decode b_M_twice 105 = .ok (.iconst 1, 1) := by decide +kernel
theorem d_M_twice_106 : decode b_M_twice 106 = .ok (.iadd, 1) := by decide +kernel
theorem d_M_twice_107 : decode b_M_twice 107 = .ok (.putfield 144, 3) := by decide +kernel
theorem d_M_twice_110 : decode b_M_twice 110 = .ok (.return_, 1) := by decide +kernel
theorem d_M_invoke_0 : decode b_M_invoke 0 = .ok (.iload_n 1, 1) := by decide +kernel
theorem d_M_invoke_1 : decode b_M_invoke 1 = .ok (.iconst 0, 1) := by decide +kernel
theorem d_M_invoke_2 : decode b_M_invoke 2 = .ok (.iconst 5, 1) := by decide +kernel
theorem d_M_invoke_3 : decode b_M_invoke 3 = .ok (.invokestatic 83, 3) := by decide +kernel
theorem d_M_invoke_6 : decode b_M_invoke 6 = .ok (.ifCond .ne 5, 3) := by decide +kernel
theorem d_M_invoke_9 : decode b_M_invoke 9 = .ok (.iconst (-1), 1) := by decide +kernel
theorem d_M_invoke_10 : decode b_M_invoke 10 = .ok (.ireturn, 1) := by decide +kernel
theorem d_M_invoke_11 : decode b_M_invoke 11 = .ok (.aload_n 0, 1) := by decide +kernel
theorem d_M_invoke_12 : decode b_M_invoke 12 = .ok (.iconst 0, 1) := by decide +kernel
theorem d_M_invoke_13 : decode b_M_invoke 13 = .ok (.putfield 123, 3) := by decide +kernel
theorem d_M_invoke_16 : decode b_M_invoke 16 = .ok (.aload_n 0, 1) := by decide +kernel
theorem d_M_invoke_17 : decode b_M_invoke 17 = .ok (.iconst 0, 1) := by decide +kernel
theorem d_M_invoke_18 : decode b_M_invoke 18 = .ok (.putfield 173, 3) := by decide +kernel
theorem d_M_invoke_21 : decode b_M_invoke 21 = .ok (.aload_n 0, 1) := by decide +kernel
theorem d_M_invoke_22 : decode b_M_invoke 22 = .ok (.iconst 0, 1) := by decide +kernel
theorem d_M_invoke_23 : decode b_M_invoke 23 = .ok (.putfield 154, 3) := by decide +kernel
theorem d_M_invoke_26 : decode b_M_invoke 26 = .ok (.aload_n 0, 1) := by decide +kernel
theorem d_M_invoke_27 : decode b_M_invoke 27 = .ok (.iconst 0, 1) := by decide +kernel
theorem d_M_invoke_28 : decode b_M_invoke 28 = .ok (.putfield 126, 3) := by decide +kernel
theorem d_M_invoke_31 : decode b_M_invoke 31 = .ok (.aload_n 0, 1) := by decide +kernel
theorem d_M_invoke_32 : decode b_M_invoke 32 = .ok (.iconst 0, 1) := by decide +kernel
theorem d_M_invoke_33 : decode b_M_invoke 33 = .ok (.putfield 147, 3) := by decide +kernel
theorem d_M_invoke_36 : decode b_M_invoke 36 = .ok (.aload_n 0, 1) := by decide +kernel
theorem d_M_invoke_37 : decode b_M_invoke 37 = .ok (.iconst 0, 1) := by decide +kernel
theorem d_M_invoke_38 : decode b_M_invoke 38 = .ok (.putfield 144, 3) := by decide +kernel
theorem d_M_invoke_41 : decode b_M_invoke 41 = .ok (.aload_n 0, 1) := by decide +kernel
theorem d_M_invoke_42 : decode b_M_invoke 42 = .ok (.iload_n 1, 1) := by decide +kernel
theorem d_M_invoke_43 : decode b_M_invoke 43 = .ok (.iload_n 2, 1) := by decide +kernel
theorem d_M_invoke_44 : decode b_M_invoke 44 = .ok (.invokevirtual 167, 3) := by decide +kernel
theorem d_M_invoke_47 : decode b_M_invoke 47 = .ok (.aload_n 0, 1) := by decide +kernel
theorem d_M_invoke_48 : decode b_M_invoke 48 = .ok (.getfield 126, 3) := by decide +kernel
theorem d_M_invoke_51 : decode b_M_invoke 51 = .ok (.ifCond .ne 38, 3) := by decide +kernel
theorem d_M_invoke_54 : decode b_M_invoke 54 = .ok (.aload_n 0, 1) := by decide +kernel
theorem d_M_invoke_55 : decode b_M_invoke 55 = .ok (.getfield 129, 3) := by decide +kernel
theorem d_M_invoke_58 : decode b_M_invoke 58 = .ok (.ifCond .ne 10, 3) := by decide +kernel
theorem d_M_invoke_61 : decode b_M_invoke 61 = .ok (.aload_n 0, 1) := by decide +kernel
theorem d_M_invoke_62 : decode b_M_invoke 62 = .ok (.getfield 144, 3) := by decide +kernel
theorem d_M_invoke_65 : decode b_M_invoke 65 = .ok (.ifCond .le 24, 3) := by decide +kernel
theorem d_M_invoke_68 : decode b_M_invoke 68 = .ok (.aload_n 0, 1) := by decide +kernel
theorem d_M_invoke_69 : decode b_M_invoke 69 = .ok (.getfield 129, 3) := by decide +kernel
theorem d_M_invoke_72 : decode b_M_invoke 72 = .ok (.ifCond .eq 10, 3) := by decide +kernel
theorem d_M_invoke_75 : decode b_M_invoke 75 = .ok (.aload_n 0, 1) := by decide +kernel
theorem d_M_invoke_76 : decode b_M_invoke 76 = .ok (.invokevirtual 183, 3) := by decide +kernel
theorem d_M_invoke_79 : decode b_M_invoke 79 = .ok (.goto (-32), 3) := by decide +kernel
theorem d_M_invoke_82 : decode b_M_invoke 82 = .ok (.aload_n 0, 1) := by decide +kernel
theorem d_M_invoke_83 : decode b_M_invoke 83 = .ok (.invokevirtual 186, 3) := by decide +kernel
theorem d_M_invoke_86 : decode b_M_invoke 86 = .ok (.goto (-39), 3) := by decide +kernel
theorem d_M_invoke_89 : decode b_M_invoke 89 = .ok (.aload_n 0, 1) := by decide +kernel
theorem d_M_invoke_90 : decode b_M_invoke 90 = .ok (.aload_n 0, 1) := by decide +kernel
theorem d_M_invoke_91 : decode b_M_invoke 91 = .ok (.getfield 126, 3) := by decide +kernel
theorem d_M_invoke_94 : decode b_M_invoke 94 = .ok (.ifCond .eq 7, 3) := by decide +kernel
theorem d_M_invoke_97 : decode b_M_invoke 97 = .ok (.iconst 0, 1) := by decide +kernel
theorem d_M_invoke_98 : decode b_M_invoke 98 = .ok (.goto 7, 3) := by decide +kernel
theorem d_M_invoke_101 : decode b_M_invoke 101 = .ok (.aload_n 0, 1) := by decide +kernel
theorem d_M_invoke_102 : decode b_M_invoke 102 = .ok (.getfield 141, 3) := by decide +kernel
theorem d_M_invoke_105 : decode b_M_invoke 105 = .ok (.putfield 189, 3) := by decide +kernel
theorem d_M_invoke_108 : decode b_M_invoke 108 = .ok (.aload_n 0, 1) := by decide +kernel
theorem d_M_invoke_109 : decode b_M_invoke 109 = .ok (.getfield 126, 3) := by decide +kernel
theorem d_M_invoke_112 : decode b_M_invoke 112 = .ok (.ifCond .eq 7, 3) := by decide +kernel
theorem d_M_invoke_115 : decode b_M_invoke 115 = .ok (.iconst 2, 1) := by decide +kernel
theorem d_M_invoke_116 : decode b_M_invoke 116 = .ok (.goto 15, 3) := by decide +kernel
theorem d_M_invoke_119 : decode b_M_invoke 119 = .ok (.aload_n 0, 1) := by decide +kernel
theorem d_M_invoke_120 : decode b_M_invoke 120 = .ok (.getfield 138, 3) := by decide +kernel
theorem d_M_invoke_123 : decode b_M_invoke 123 = .ok (.ifCond .eq 7, 3) := by decide +kernel
theorem d_M_invoke_126 : decode b_M_invoke 126 = .ok (.iconst 1, 1) := by decide +kernel
theorem d_M_invoke_127 : decode b_M_invoke 127 = .ok (.goto 4, 3) := by decide +kernel
theorem d_M_invoke_130 : decode b_M_invoke 130 = .ok (.iconst 0, 1) := by decide +kernel
theorem d_M_invoke_131 : decode b_M_invoke 131 = .ok (.ireturn, 1) := by decide +kernel
theorem d_M_result_0 : decode b_M_result 0 = .ok (.aload_n 0, 1) := by decide +kernel
theorem d_M_result_1 : decode b_M_result 1 = .ok (.getfield 189, 3) := by decide +kernel
theorem d_M_result_4 : decode b_M_result 4 = .ok (.ireturn, 1) := by decide +kernel
theorem d_M_events_0 : decode b_M_events 0 = .ok (.aload_n 0, 1) := by decide +kernel
theorem d_M_events_1 : decode b_M_events 1 = .ok (.getfield 123, 3) := by decide +kernel
theorem d_M_events_4 : decode b_M_events 4 = .ok (.ireturn, 1) := by decide +kernel
theorem d_M_who_0 : decode b_M_who 0 = .ok (.iload_n 1, 1) := by decide +kernel
theorem d_M_who_1 : decode b_M_who 1 = .ok (.iconst 0, 1) := by decide +kernel
theorem d_M_who_2 : decode b_M_who 2 = .ok (.aload_n 0, 1) := by decide +kernel
theorem d_M_who_3 : decode b_M_who 3 = .ok (.getfield 123, 3) := by decide +kernel
theorem d_M_who_6 : decode b_M_who 6 = .ok (.iconst 1, 1) := by decide +kernel
theorem d_M_who_7 : decode b_M_who 7 = .ok (.isub, 1) := by decide +kernel
theorem d_M_who_8 : decode b_M_who 8 = .ok (.invokestatic 83, 3) := by decide +kernel
theorem d_M_who_11 : decode b_M_who 11 = .ok (.ifCond .eq 12, 3) := by decide +kernel
theorem d_M_who_14 : decode b_M_who 14 = .ok (.aload_n 0, 1) := by decide +kernel
theorem d_M_who_15 : decode b_M_who 15 = .ok (.getfield 53, 3) := by decide +kernel
theorem d_M_who_18 : decode b_M_who 18 = .ok (.iload_n 1, 1) := by decide +kernel
theorem d_M_who_19 : decode b_M_who 19 = .ok (.iaload, 1) := by decide +kernel
theorem d_M_who_20 : decode b_M_who 20 = .ok (.goto 4, 3) := by decide +kernel
theorem d_M_who_23 : decode b_M_who 23 = .ok (.iconst (-1), 1) := by decide +kernel
theorem d_M_who_24 : decode b_M_who 24 = .ok (.ireturn, 1) := by decide +kernel
theorem d_M_what_0 : decode b_M_what 0 = .ok (.iload_n 1, 1) := by decide +kernel
theorem d_M_what_1 : decode b_M_what 1 = .ok (.iconst 0, 1) := by decide +kernel
theorem d_M_what_2 : decode b_M_what 2 = .ok (.aload_n 0, 1) := by decide +kernel
theorem d_M_what_3 : decode b_M_what 3 = .ok (.getfield 123, 3) := by decide +kernel
theorem d_M_what_6 : decode b_M_what 6 = .ok (.iconst 1, 1) := by decide +kernel
theorem d_M_what_7 : decode b_M_what 7 = .ok (.isub, 1) := by decide +kernel
theorem d_M_what_8 : decode b_M_what 8 = .ok (.invokestatic 83, 3) := by decide +kernel
theorem d_M_what_11 : decode b_M_what 11 = .ok (.ifCond .eq 12, 3) := by decide +kernel
theorem d_M_what_14 : decode b_M_what 14 = .ok (.aload_n 0, 1) := by decide +kernel
theorem d_M_what_15 : decode b_M_what 15 = .ok (.getfield 56, 3) := by decide +kernel
theorem d_M_what_18 : decode b_M_what 18 = .ok (.iload_n 1, 1) := by decide +kernel
theorem d_M_what_19 : decode b_M_what 19 = .ok (.iaload, 1) := by decide +kernel
theorem d_M_what_20 : decode b_M_what 20 = .ok (.goto 4, 3) := by decide +kernel
theorem d_M_what_23 : decode b_M_what 23 = .ok (.iconst 0, 1) := by decide +kernel
theorem d_M_what_24 : decode b_M_what 24 = .ok (.ireturn, 1) := by decide +kernel
theorem d_M_asked_0 : decode b_M_asked 0 = .ok (.aload_n 0, 1) := by decide +kernel
theorem d_M_asked_1 : decode b_M_asked 1 = .ok (.getfield 173, 3) := by decide +kernel
theorem d_M_asked_4 : decode b_M_asked 4 = .ok (.ireturn, 1) := by decide +kernel
theorem d_M_taken_0 : decode b_M_taken 0 = .ok (.aload_n 0, 1) := by decide +kernel
theorem d_M_taken_1 : decode b_M_taken 1 = .ok (.getfield 154, 3) := by decide +kernel
theorem d_M_taken_4 : decode b_M_taken 4 = .ok (.ireturn, 1) := by decide +kernel
end
section
theorem d_W_law_0 : decode code 0 = .ok (.new 7, 3) := by decide +kernel
theorem d_W_law_3 : decode code 3 = .ok (.dup, 1) := by decide +kernel
theorem d_W_law_4 : decode code 4 = .ok (.invokespecial 9, 3) := by decide +kernel
theorem d_W_law_7 : decode code 7 = .ok (.astore_n 1, 1) := by decide +kernel
theorem d_W_law_8 : decode code 8 = .ok (.new 10, 3) := by decide +kernel
theorem d_W_law_11 : decode code 11 = .ok (.dup, 1) := by decide +kernel
theorem d_W_law_12 : decode code 12 = .ok (.invokespecial 12, 3) := by decide +kernel
theorem d_W_law_15 : decode code 15 = .ok (.astore_n 2, 1) := by decide +kernel
theorem d_W_law_16 : decode code 16 = .ok (.iconst 0, 1) := by decide +kernel
theorem d_W_law_17 : decode code 17 = .ok (.istore_n 3, 1) := by decide +kernel
theorem d_W_law_18 : decode code 18 = .ok (.iload_n 3, 1) := by decide +kernel
theorem d_W_law_19 : decode code 19 = .ok (.aload_n 0, 1) := by decide +kernel
theorem d_W_law_20 : decode code 20 = .ok (.arraylength, 1) := by decide +kernel
theorem d_W_law_21 : decode code 21 = .ok (.bipush 6, 2) := by decide +kernel
theorem d_W_law_23 : decode code 23 = .ok (.isub, 1) := by decide +kernel
theorem d_W_law_24 : decode code 24 = .ok (.if_icmp .gt 633, 3) := by decide +kernel
theorem d_W_law_27 : decode code 27 = .ok (.aload_n 0, 1) := by decide +kernel
theorem d_W_law_28 : decode code 28 = .ok (.iload_n 3, 1) := by decide +kernel
theorem d_W_law_29 : decode code 29 = .ok (.iaload, 1) := by decide +kernel
theorem d_W_law_30 : decode code 30 = .ok (.bipush 31, 2) := by decide +kernel
theorem d_W_law_32 : decode code 32 = .ok (.iand, 1) := by decide +kernel
theorem d_W_law_33 : decode code 33 = .ok (.tableswitch 618 0 16 #[83, 146, 189, 222, 245, 282, 335, 388, 431, 454, 487, 500, 513, 536, 559, 572, 585], 83) := by decide +kernel
theorem d_W_law_116 : decode code 116 = .ok (.aload_n 1, 1) := by decide +kernel
theorem d_W_law_117 : decode code 117 = .ok (.aload_n 0, 1) := by decide +kernel
theorem d_W_law_118 : decode code 118 = .ok (.iload_n 3, 1) := by decide +kernel
theorem d_W_law_119 : decode code 119 = .ok (.iconst 1, 1) := by decide +kernel
theorem d_W_law_120 : decode code 120 = .ok (.iadd, 1) := by decide +kernel
theorem d_W_law_121 : decode code 121 = .ok (.iaload, 1) := by decide +kernel
theorem d_W_law_122 : decode code 122 = .ok (.aload_n 0, 1) := by decide +kernel
theorem d_W_law_123 : decode code 123 = .ok (.iload_n 3, 1) := by decide +kernel
theorem d_W_law_124 : decode code 124 = .ok (.iconst 2, 1) := by decide +kernel
theorem d_W_law_125 : decode code 125 = .ok (.iadd, 1) := by decide +kernel
theorem d_W_law_126 : decode code 126 = .ok (.iaload, 1) := by decide +kernel
theorem d_W_law_127 : decode code 127 = .ok (.aload_n 0, 1) := by decide +kernel
theorem d_W_law_128 : decode code 128 = .ok (.iload_n 3, 1) := by decide +kernel
theorem d_W_law_129 : decode code 129 = .ok (.iconst 3, 1) := by decide +kernel
theorem d_W_law_130 : decode code 130 = .ok (.iadd, 1) := by decide +kernel
theorem d_W_law_131 : decode code 131 = .ok (.iaload, 1) := by decide +kernel
theorem d_W_law_132 : decode code 132 = .ok (.aload_n 0, 1) := by decide +kernel
theorem d_W_law_133 : decode code 133 = .ok (.iload_n 3, 1) := by decide +kernel
theorem d_W_law_134 : decode code 134 = .ok (.iconst 4, 1) := by decide +kernel
theorem d_W_law_135 : decode code 135 = .ok (.iadd, 1) := by decide +kernel
theorem d_W_law_136 : decode code 136 = .ok (.iaload, 1) := by decide +kernel
theorem d_W_law_137 : decode code 137 = .ok (.aload_n 0, 1) := by decide +kernel
theorem d_W_law_138 : decode code 138 = .ok (.iload_n 3, 1) := by decide +kernel
theorem d_W_law_139 : decode code 139 = .ok (.iconst 5, 1) := by decide +kernel
theorem d_W_law_140 : decode code 140 = .ok (.iadd, 1) := by decide +kernel
theorem d_W_law_141 : decode code 141 = .ok (.iaload, 1) := by decide +kernel
theorem d_W_law_142 : decode code 142 = .ok (.invokevirtual 13, 3) := by decide +kernel
theorem d_W_law_145 : decode code 145 = .ok (.aload_n 2, 1) := by decide +kernel
theorem d_W_law_146 : decode code 146 = .ok (.aload_n 0, 1) := by decide +kernel
theorem d_W_law_147 : decode code 147 = .ok (.iload_n 3, 1) := by decide +kernel
theorem d_W_law_148 : decode code 148 = .ok (.iconst 1, 1) := by decide +kernel
theorem d_W_law_149 : decode code 149 = .ok (.iadd, 1) := by decide +kernel
theorem d_W_law_150 : decode code 150 = .ok (.iaload, 1) := by decide +kernel
theorem d_W_law_151 : decode code 151 = .ok (.aload_n 0, 1) := by decide +kernel
theorem d_W_law_152 : decode code 152 = .ok (.iload_n 3, 1) := by decide +kernel
theorem d_W_law_153 : decode code 153 = .ok (.iconst 2, 1) := by decide +kernel
theorem d_W_law_154 : decode code 154 = .ok (.iadd, 1) := by decide +kernel
theorem d_W_law_155 : decode code 155 = .ok (.iaload, 1) := by decide +kernel
theorem d_W_law_156 : decode code 156 = .ok (.aload_n 0, 1) := by decide +kernel
theorem d_W_law_157 : decode code 157 = .ok (.iload_n 3, 1) := by decide +kernel
theorem d_W_law_158 : decode code 158 = .ok (.iconst 3, 1) := by decide +kernel
theorem d_W_law_159 : decode code 159 = .ok (.iadd, 1) := by decide +kernel
theorem d_W_law_160 : decode code 160 = .ok (.iaload, 1) := by decide +kernel
theorem d_W_law_161 : decode code 161 = .ok (.aload_n 0, 1) := by decide +kernel
theorem d_W_law_162 : decode code 162 = .ok (.iload_n 3, 1) := by decide +kernel
theorem d_W_law_163 : decode code 163 = .ok (.iconst 4, 1) := by decide +kernel
theorem d_W_law_164 : decode code 164 = .ok (.iadd, 1) := by decide +kernel
theorem d_W_law_165 : decode code 165 = .ok (.iaload, 1) := by decide +kernel
theorem d_W_law_166 : decode code 166 = .ok (.aload_n 0, 1) := by decide +kernel
theorem d_W_law_167 : decode code 167 = .ok (.iload_n 3, 1) := by decide +kernel
theorem d_W_law_168 : decode code 168 = .ok (.iconst 5, 1) := by decide +kernel
theorem d_W_law_169 : decode code 169 = .ok (.iadd, 1) := by decide +kernel
theorem d_W_law_170 : decode code 170 = .ok (.iaload, 1) := by decide +kernel
theorem d_W_law_171 : decode code 171 = .ok (.invokevirtual 17, 3) := by decide +kernel
theorem d_W_law_174 : decode code 174 = .ok (.if_icmp .eq 477, 3) := by decide +kernel
theorem d_W_law_177 : decode code 177 = .ok (.iconst 0, 1) := by decide +kernel
theorem d_W_law_178 : decode code 178 = .ok (.ireturn, 1) := by decide +kernel
theorem d_W_law_179 : decode code 179 = .ok (.aload_n 1, 1) := by decide +kernel
theorem d_W_law_180 : decode code 180 = .ok (.aload_n 0, 1) := by decide +kernel
theorem d_W_law_181 : decode code 181 = .ok (.iload_n 3, 1) := by decide +kernel
theorem d_W_law_182 : decode code 182 = .ok (.iconst 1, 1) := by decide +kernel
theorem d_W_law_183 : decode code 183 = .ok (.iadd, 1) := by decide +kernel
theorem d_W_law_184 : decode code 184 = .ok (.iaload, 1) := by decide +kernel
theorem d_W_law_185 : decode code 185 = .ok (.aload_n 0, 1) := by decide +kernel
theorem d_W_law_186 : decode code 186 = .ok (.iload_n 3, 1) := by decide +kernel
theorem d_W_law_187 : decode code 187 = .ok (.iconst 2, 1) := by decide +kernel
theorem d_W_law_188 : decode code 188 = .ok (.iadd, 1) := by decide +kernel
theorem d_W_law_189 : decode code 189 = .ok (.iaload, 1) := by decide +kernel
theorem d_W_law_190 : decode code 190 = .ok (.aload_n 0, 1) := by decide +kernel
theorem d_W_law_191 : decode code 191 = .ok (.iload_n 3, 1) := by decide +kernel
theorem d_W_law_192 : decode code 192 = .ok (.iconst 3, 1) := by decide +kernel
theorem d_W_law_193 : decode code 193 = .ok (.iadd, 1) := by decide +kernel
theorem d_W_law_194 : decode code 194 = .ok (.iaload, 1) := by decide +kernel
theorem d_W_law_195 : decode code 195 = .ok (.invokevirtual 18, 3) := by decide +kernel
theorem d_W_law_198 : decode code 198 = .ok (.aload_n 2, 1) := by decide +kernel
theorem d_W_law_199 : decode code 199 = .ok (.aload_n 0, 1) := by decide +kernel
theorem d_W_law_200 : decode code 200 = .ok (.iload_n 3, 1) := by decide +kernel
theorem d_W_law_201 : decode code 201 = .ok (.iconst 1, 1) := by decide +kernel
theorem d_W_law_202 : decode code 202 = .ok (.iadd, 1) := by decide +kernel
theorem d_W_law_203 : decode code 203 = .ok (.iaload, 1) := by decide +kernel
theorem d_W_law_204 : decode code 204 = .ok (.aload_n 0, 1) := by decide +kernel
theorem d_W_law_205 : decode code 205 = .ok (.iload_n 3, 1) := by decide +kernel
theorem d_W_law_206 : decode code 206 = .ok (.iconst 2, 1) := by decide +kernel
theorem d_W_law_207 : decode code 207 = .ok (.iadd, 1) := by decide +kernel
theorem d_W_law_208 : decode code 208 = .ok (.iaload, 1) := by decide +kernel
theorem d_W_law_209 : decode code 209 = .ok (.aload_n 0, 1) := by decide +kernel
theorem d_W_law_210 : decode code 210 = .ok (.iload_n 3, 1) := by decide +kernel
theorem d_W_law_211 : decode code 211 = .ok (.iconst 3, 1) := by decide +kernel
theorem d_W_law_212 : decode code 212 = .ok (.iadd, 1) := by decide +kernel
theorem d_W_law_213 : decode code 213 = .ok (.iaload, 1) := by decide +kernel
theorem d_W_law_214 : decode code 214 = .ok (.invokevirtual 22, 3) := by decide +kernel
theorem d_W_law_217 : decode code 217 = .ok (.if_icmp .eq 434, 3) := by decide +kernel
theorem d_W_law_220 : decode code 220 = .ok (.iconst 0, 1) := by decide +kernel
theorem d_W_law_221 : decode code 221 = .ok (.ireturn, 1) := by decide +kernel
theorem d_W_law_222 : decode code 222 = .ok (.aload_n 1, 1) := by decide +kernel
theorem d_W_law_223 : decode code 223 = .ok (.aload_n 0, 1) := by decide +kernel
theorem d_W_law_224 : decode code 224 = .ok (.iload_n 3, 1) := by decide +kernel
theorem d_W_law_225 : decode code 225 = .ok (.iconst 1, 1) := by decide +kernel
theorem d_W_law_226 : decode code 226 = .ok (.iadd, 1) := by decide +kernel
theorem d_W_law_227 : decode code 227 = .ok (.iaload, 1) := by decide +kernel
theorem d_W_law_228 : decode code 228 = .ok (.aload_n 0, 1) := by decide +kernel
theorem d_W_law_229 : decode code 229 = .ok (.iload_n 3, 1) := by decide +kernel
theorem d_W_law_230 : decode code 230 = .ok (.iconst 2, 1) := by decide +kernel
theorem d_W_law_231 : decode code 231 = .ok (.iadd, 1) := by decide +kernel
theorem d_W_law_232 : decode code 232 = .ok (.iaload, 1) := by decide +kernel
theorem d_W_law_233 : decode code 233 = .ok (.invokevirtual 23, 3) := by decide +kernel
theorem d_W_law_236 : decode code 236 = .ok (.aload_n 2, 1) := by decide +kernel
theorem d_W_law_237 : decode code 237 = .ok (.aload_n 0, 1) := by decide +kernel
theorem d_W_law_238 : decode code 238 = .ok (.iload_n 3, 1) := by decide +kernel
theorem d_W_law_239 : decode code 239 = .ok (.iconst 1, 1) := by decide +kernel
theorem d_W_law_240 : decode code 240 = .ok (.iadd, 1) := by decide +kernel
theorem d_W_law_241 : decode code 241 = .ok (.iaload, 1) := by decide +kernel
theorem d_W_law_242 : decode code 242 = .ok (.aload_n 0, 1) := by decide +kernel
theorem d_W_law_243 : decode code 243 = .ok (.iload_n 3, 1) := by decide +kernel
theorem d_W_law_244 : decode code 244 = .ok (.iconst 2, 1) := by decide +kernel
theorem d_W_law_245 : decode code 245 = .ok (.iadd, 1) := by decide +kernel
theorem d_W_law_246 : decode code 246 = .ok (.iaload, 1) := by decide +kernel
theorem d_W_law_247 : decode code 247 = .ok (.invokevirtual 27, 3) := by decide +kernel
theorem d_W_law_250 : decode code 250 = .ok (.if_icmp .eq 401, 3) := by decide +kernel
theorem d_W_law_253 : decode code 253 = .ok (.iconst 0, 1) := by decide +kernel
theorem d_W_law_254 : decode code 254 = .ok (.ireturn, 1) := by decide +kernel
theorem d_W_law_255 : decode code 255 = .ok (.aload_n 1, 1) := by decide +kernel
theorem d_W_law_256 : decode code 256 = .ok (.aload_n 0, 1) := by decide +kernel
theorem d_W_law_257 : decode code 257 = .ok (.iload_n 3, 1) := by decide +kernel
theorem d_W_law_258 : decode code 258 = .ok (.iconst 1, 1) := by decide +kernel
theorem d_W_law_259 : decode code 259 = .ok (.iadd, 1) := by decide +kernel
theorem d_W_law_260 : decode code 260 = .ok (.iaload, 1) := by decide +kernel
theorem d_W_law_261 : decode code 261 = .ok (.invokevirtual 28, 3) := by decide +kernel
theorem d_W_law_264 : decode code 264 = .ok (.aload_n 2, 1) := by decide +kernel
theorem d_W_law_265 : decode code 265 = .ok (.aload_n 0, 1) := by decide +kernel
theorem d_W_law_266 : decode code 266 = .ok (.iload_n 3, 1) := by decide +kernel
theorem d_W_law_267 : decode code 267 = .ok (.iconst 1, 1) := by decide +kernel
theorem d_W_law_268 : decode code 268 = .ok (.iadd, 1) := by decide +kernel
theorem d_W_law_269 : decode code 269 = .ok (.iaload, 1) := by decide +kernel
theorem d_W_law_270 : decode code 270 = .ok (.invokevirtual 32, 3) := by decide +kernel
theorem d_W_law_273 : decode code 273 = .ok (.if_icmp .eq 378, 3) := by decide +kernel
theorem d_W_law_276 : decode code 276 = .ok (.iconst 0, 1) := by decide +kernel
theorem d_W_law_277 : decode code 277 = .ok (.ireturn, 1) := by decide +kernel
theorem d_W_law_278 : decode code 278 = .ok (.aload_n 1, 1) := by decide +kernel
theorem d_W_law_279 : decode code 279 = .ok (.aload_n 0, 1) := by decide +kernel
theorem d_W_law_280 : decode code 280 = .ok (.iload_n 3, 1) := by decide +kernel
theorem d_W_law_281 : decode code 281 = .ok (.iconst 1, 1) := by decide +kernel
theorem d_W_law_282 : decode code 282 = .ok (.iadd, 1) := by decide +kernel
theorem d_W_law_283 : decode code 283 = .ok (.iaload, 1) := by decide +kernel
theorem d_W_law_284 : decode code 284 = .ok (.ifCond .eq 7, 3) := by decide +kernel
theorem d_W_law_287 : decode code 287 = .ok (.iconst 1, 1) := by decide +kernel
theorem d_W_law_288 : decode code 288 = .ok (.goto 4, 3) := by decide +kernel
theorem d_W_law_291 : decode code 291 = .ok (.iconst 0, 1) := by decide +kernel
theorem d_W_law_292 : decode code 292 = .ok (.invokevirtual 33, 3) := by decide +kernel
theorem d_W_law_295 : decode code 295 = .ok (.aload_n 2, 1) := by decide +kernel
theorem d_W_law_296 : decode code 296 = .ok (.aload_n 0, 1) := by decide +kernel
theorem d_W_law_297 : decode code 297 = .ok (.iload_n 3, 1) := by decide +kernel
theorem d_W_law_298 : decode code 298 = .ok (.iconst 1, 1) := by decide +kernel
theorem d_W_law_299 : decode code 299 = .ok (.iadd, 1) := by decide +kernel
theorem d_W_law_300 : decode code 300 = .ok (.iaload, 1) := by decide +kernel
theorem d_W_law_301 : decode code 301 = .ok (.ifCond .eq 7, 3) := by decide +kernel
theorem d_W_law_304 : decode code 304 = .ok (.iconst 1, 1) := by decide +kernel
theorem d_W_law_305 : decode code 305 = .ok (.goto 4, 3) := by decide +kernel
theorem d_W_law_308 : decode code 308 = .ok (.iconst 0, 1) := by decide +kernel
theorem d_W_law_309 : decode code 309 = .ok (.invokevirtual 37, 3) := by decide +kernel
theorem d_W_law_312 : decode code 312 = .ok (.goto 339, 3) := by decide +kernel
theorem d_W_law_315 : decode code 315 = .ok (.aload_n 1, 1) := by decide +kernel
theorem d_W_law_316 : decode code 316 = .ok (.aload_n 0, 1) := by decide +kernel
theorem d_W_law_317 : decode code 317 = .ok (.iload_n 3, 1) := by decide +kernel
theorem d_W_law_318 : decode code 318 = .ok (.iconst 1, 1) := by decide +kernel
theorem d_W_law_319 : decode code 319 = .ok (.iadd, 1) := by decide +kernel
theorem d_W_law_320 : decode code 320 = .ok (.iaload, 1) := by decide +kernel
theorem d_W_law_321 : decode code 321 = .ok (.aload_n 0, 1) := by decide +kernel
theorem d_W_law_322 : decode code 322 = .ok (.iload_n 3, 1) := by decide +kernel
theorem d_W_law_323 : decode code 323 = .ok (.iconst 2, 1) := by decide +kernel
theorem d_W_law_324 : decode code 324 = .ok (.iadd, 1) := by decide +kernel
theorem d_W_law_325 : decode code 325 = .ok (.iaload, 1) := by decide +kernel
theorem d_W_law_326 : decode code 326 = .ok (.aload_n 0, 1) := by decide +kernel
theorem d_W_law_327 : decode code 327 = .ok (.iload_n 3, 1) := by decide +kernel
theorem d_W_law_328 : decode code 328 = .ok (.iconst 3, 1) := by decide +kernel
theorem d_W_law_329 : decode code 329 = .ok (.iadd, 1) := by decide +kernel
theorem d_W_law_330 : decode code 330 = .ok (.iaload, 1) := by decide +kernel
theorem d_W_law_331 : decode code 331 = .ok (.aload_n 0, 1) := by decide +kernel
theorem d_W_law_332 : decode code 332 = .ok (.iload_n 3, 1) := by decide +kernel
theorem d_W_law_333 : decode code 333 = .ok (.iconst 4, 1) := by decide +kernel
theorem d_W_law_334 : decode code 334 = .ok (.iadd, 1) := by decide +kernel
theorem d_W_law_335 : decode code 335 = .ok (.iaload, 1) := by decide +kernel
theorem d_W_law_336 : decode code 336 = .ok (.invokevirtual 38, 3) := by decide +kernel
theorem d_W_law_339 : decode code 339 = .ok (.aload_n 2, 1) := by decide +kernel
theorem d_W_law_340 : decode code 340 = .ok (.aload_n 0, 1) := by decide +kernel
theorem d_W_law_341 : decode code 341 = .ok (.iload_n 3, 1) := by decide +kernel
theorem d_W_law_342 : decode code 342 = .ok (.iconst 1, 1) := by decide +kernel
theorem d_W_law_343 : decode code 343 = .ok (.iadd, 1) := by decide +kernel
theorem d_W_law_344 : decode code 344 = .ok (.iaload, 1) := by decide +kernel
theorem d_W_law_345 : decode code 345 = .ok (.aload_n 0, 1) := by decide +kernel
theorem d_W_law_346 : decode code 346 = .ok (.iload_n 3, 1) := by decide +kernel
theorem d_W_law_347 : decode code 347 = .ok (.iconst 2, 1) := by decide +kernel
theorem d_W_law_348 : decode code 348 = .ok (.iadd, 1) := by decide +kernel
theorem d_W_law_349 : decode code 349 = .ok (.iaload, 1) := by decide +kernel
theorem d_W_law_350 : decode code 350 = .ok (.aload_n 0, 1) := by decide +kernel
theorem d_W_law_351 : decode code 351 = .ok (.iload_n 3, 1) := by decide +kernel
theorem d_W_law_352 : decode code 352 = .ok (.iconst 3, 1) := by decide +kernel
theorem d_W_law_353 : decode code 353 = .ok (.iadd, 1) := by decide +kernel
theorem d_W_law_354 : decode code 354 = .ok (.iaload, 1) := by decide +kernel
theorem d_W_law_355 : decode code 355 = .ok (.aload_n 0, 1) := by decide +kernel
theorem d_W_law_356 : decode code 356 = .ok (.iload_n 3, 1) := by decide +kernel
theorem d_W_law_357 : decode code 357 = .ok (.iconst 4, 1) := by decide +kernel
theorem d_W_law_358 : decode code 358 = .ok (.iadd, 1) := by decide +kernel
theorem d_W_law_359 : decode code 359 = .ok (.iaload, 1) := by decide +kernel
theorem d_W_law_360 : decode code 360 = .ok (.invokevirtual 42, 3) := by decide +kernel
theorem d_W_law_363 : decode code 363 = .ok (.if_icmp .eq 288, 3) := by decide +kernel
theorem d_W_law_366 : decode code 366 = .ok (.iconst 0, 1) := by decide +kernel
theorem d_W_law_367 : decode code 367 = .ok (.ireturn, 1) := by decide +kernel
theorem d_W_law_368 : decode code 368 = .ok (.aload_n 1, 1) := by decide +kernel
theorem d_W_law_369 : decode code 369 = .ok (.aload_n 0, 1) := by decide +kernel
theorem d_W_law_370 : decode code 370 = .ok (.iload_n 3, 1) := by decide +kernel
theorem d_W_law_371 : decode code 371 = .ok (.iconst 1, 1) := by decide +kernel
theorem d_W_law_372 : decode code 372 = .ok (.iadd, 1) := by decide +kernel
theorem d_W_law_373 : decode code 373 = .ok (.iaload, 1) := by decide +kernel
theorem d_W_law_374 : decode code 374 = .ok (.aload_n 0, 1) := by decide +kernel
theorem d_W_law_375 : decode code 375 = .ok (.iload_n 3, 1) := by decide +kernel
theorem d_W_law_376 : decode code 376 = .ok (.iconst 2, 1) := by decide +kernel
theorem d_W_law_377 : decode code 377 = .ok (.iadd, 1) := by decide +kernel
theorem d_W_law_378 : decode code 378 = .ok (.iaload, 1) := by decide +kernel
theorem d_W_law_379 : decode code 379 = .ok (.aload_n 0, 1) := by decide +kernel
theorem d_W_law_380 : decode code 380 = .ok (.iload_n 3, 1) := by decide +kernel
theorem d_W_law_381 : decode code 381 = .ok (.iconst 3, 1) := by decide +kernel
theorem d_W_law_382 : decode code 382 = .ok (.iadd, 1) := by decide +kernel
theorem d_W_law_383 : decode code 383 = .ok (.iaload, 1) := by decide +kernel
theorem d_W_law_384 : decode code 384 = .ok (.aload_n 0, 1) := by decide +kernel
theorem d_W_law_385 : decode code 385 = .ok (.iload_n 3, 1) := by decide +kernel
theorem d_W_law_386 : decode code 386 = .ok (.iconst 4, 1) := by decide +kernel
theorem d_W_law_387 : decode code 387 = .ok (.iadd, 1) := by decide +kernel
theorem d_W_law_388 : decode code 388 = .ok (.iaload, 1) := by decide +kernel
theorem d_W_law_389 : decode code 389 = .ok (.invokevirtual 43, 3) := by decide +kernel
theorem d_W_law_392 : decode code 392 = .ok (.aload_n 2, 1) := by decide +kernel
theorem d_W_law_393 : decode code 393 = .ok (.aload_n 0, 1) := by decide +kernel
theorem d_W_law_394 : decode code 394 = .ok (.iload_n 3, 1) := by decide +kernel
theorem d_W_law_395 : decode code 395 = .ok (.iconst 1, 1) := by decide +kernel
theorem d_W_law_396 : decode code 396 = .ok (.iadd, 1) := by decide +kernel
theorem d_W_law_397 : decode code 397 = .ok (.iaload, 1) := by decide +kernel
theorem d_W_law_398 : decode code 398 = .ok (.aload_n 0, 1) := by decide +kernel
theorem d_W_law_399 : decode code 399 = .ok (.iload_n 3, 1) := by decide +kernel
theorem d_W_law_400 : decode code 400 = .ok (.iconst 2, 1) := by decide +kernel
theorem d_W_law_401 : decode code 401 = .ok (.iadd, 1) := by decide +kernel
theorem d_W_law_402 : decode code 402 = .ok (.iaload, 1) := by decide +kernel
theorem d_W_law_403 : decode code 403 = .ok (.aload_n 0, 1) := by decide +kernel
theorem d_W_law_404 : decode code 404 = .ok (.iload_n 3, 1) := by decide +kernel
theorem d_W_law_405 : decode code 405 = .ok (.iconst 3, 1) := by decide +kernel
theorem d_W_law_406 : decode code 406 = .ok (.iadd, 1) := by decide +kernel
theorem d_W_law_407 : decode code 407 = .ok (.iaload, 1) := by decide +kernel
theorem d_W_law_408 : decode code 408 = .ok (.aload_n 0, 1) := by decide +kernel
theorem d_W_law_409 : decode code 409 = .ok (.iload_n 3, 1) := by decide +kernel
theorem d_W_law_410 : decode code 410 = .ok (.iconst 4, 1) := by decide +kernel
theorem d_W_law_411 : decode code 411 = .ok (.iadd, 1) := by decide +kernel
theorem d_W_law_412 : decode code 412 = .ok (.iaload, 1) := by decide +kernel
theorem d_W_law_413 : decode code 413 = .ok (.invokevirtual 46, 3) := by decide +kernel
theorem d_W_law_416 : decode code 416 = .ok (.if_icmp .eq 235, 3) := by decide +kernel
theorem d_W_law_419 : decode code 419 = .ok (.iconst 0, 1) := by decide +kernel
theorem d_W_law_420 : decode code 420 = .ok (.ireturn, 1) := by decide +kernel
theorem d_W_law_421 : decode code 421 = .ok (.aload_n 1, 1) := by decide +kernel
theorem d_W_law_422 : decode code 422 = .ok (.aload_n 0, 1) := by decide +kernel
theorem d_W_law_423 : decode code 423 = .ok (.iload_n 3, 1) := by decide +kernel
theorem d_W_law_424 : decode code 424 = .ok (.iconst 1, 1) := by decide +kernel
theorem d_W_law_425 : decode code 425 = .ok (.iadd, 1) := by decide +kernel
theorem d_W_law_426 : decode code 426 = .ok (.iaload, 1) := by decide +kernel
theorem d_W_law_427 : decode code 427 = .ok (.aload_n 0, 1) := by decide +kernel
theorem d_W_law_428 : decode code 428 = .ok (.iload_n 3, 1) := by decide +kernel
theorem d_W_law_429 : decode code 429 = .ok (.iconst 2, 1) := by decide +kernel
theorem d_W_law_430 : decode code 430 = .ok (.iadd, 1) := by decide +kernel
theorem d_W_law_431 : decode code 431 = .ok (.iaload, 1) := by decide +kernel
theorem d_W_law_432 : decode code 432 = .ok (.aload_n 0, 1) := by decide +kernel
theorem d_W_law_433 : decode code 433 = .ok (.iload_n 3, 1) := by decide +kernel
theorem d_W_law_434 : decode code 434 = .ok (.iconst 3, 1) := by decide +kernel
theorem d_W_law_435 : decode code 435 = .ok (.iadd, 1) := by decide +kernel
theorem d_W_law_436 : decode code 436 = .ok (.iaload, 1) := by decide +kernel
theorem d_W_law_437 : decode code 437 = .ok (.invokevirtual 47, 3) := by decide +kernel
theorem d_W_law_440 : decode code 440 = .ok (.aload_n 2, 1) := by decide +kernel
theorem d_W_law_441 : decode code 441 = .ok (.aload_n 0, 1) := by decide +kernel
theorem d_W_law_442 : decode code 442 = .ok (.iload_n 3, 1) := by decide +kernel
theorem d_W_law_443 : decode code 443 = .ok (.iconst 1, 1) := by decide +kernel
theorem d_W_law_444 : decode code 444 = .ok (.iadd, 1) := by decide +kernel
theorem d_W_law_445 : decode code 445 = .ok (.iaload, 1) := by decide +kernel
theorem d_W_law_446 : decode code 446 = .ok (.aload_n 0, 1) := by decide +kernel
theorem d_W_law_447 : decode code 447 = .ok (.iload_n 3, 1) := by decide +kernel
theorem d_W_law_448 : decode code 448 = .ok (.iconst 2, 1) := by decide +kernel
theorem d_W_law_449 : decode code 449 = .ok (.iadd, 1) := by decide +kernel
theorem d_W_law_450 : decode code 450 = .ok (.iaload, 1) := by decide +kernel
theorem d_W_law_451 : decode code 451 = .ok (.aload_n 0, 1) := by decide +kernel
theorem d_W_law_452 : decode code 452 = .ok (.iload_n 3, 1) := by decide +kernel
theorem d_W_law_453 : decode code 453 = .ok (.iconst 3, 1) := by decide +kernel
theorem d_W_law_454 : decode code 454 = .ok (.iadd, 1) := by decide +kernel
theorem d_W_law_455 : decode code 455 = .ok (.iaload, 1) := by decide +kernel
theorem d_W_law_456 : decode code 456 = .ok (.invokevirtual 50, 3) := by decide +kernel
theorem d_W_law_459 : decode code 459 = .ok (.if_icmp .eq 192, 3) := by decide +kernel
theorem d_W_law_462 : decode code 462 = .ok (.iconst 0, 1) := by decide +kernel
theorem d_W_law_463 : decode code 463 = .ok (.ireturn, 1) := by decide +kernel
theorem d_W_law_464 : decode code 464 = .ok (.aload_n 1, 1) := by decide +kernel
theorem d_W_law_465 : decode code 465 = .ok (.aload_n 0, 1) := by decide +kernel
theorem d_W_law_466 : decode code 466 = .ok (.iload_n 3, 1) := by decide +kernel
theorem d_W_law_467 : decode code 467 = .ok (.iconst 1, 1) := by decide +kernel
theorem d_W_law_468 : decode code 468 = .ok (.iadd, 1) := by decide +kernel
theorem d_W_law_469 : decode code 469 = .ok (.iaload, 1) := by decide +kernel
theorem d_W_law_470 : decode code 470 = .ok (.invokevirtual 51, 3) := by decide +kernel
theorem d_W_law_473 : decode code 473 = .ok (.aload_n 2, 1) := by decide +kernel
theorem d_W_law_474 : decode code 474 = .ok (.aload_n 0, 1) := by decide +kernel
theorem d_W_law_475 : decode code 475 = .ok (.iload_n 3, 1) := by decide +kernel
theorem d_W_law_476 : decode code 476 = .ok (.iconst 1, 1) := by decide +kernel
theorem d_W_law_477 : decode code 477 = .ok (.iadd, 1) := by decide +kernel
theorem d_W_law_478 : decode code 478 = .ok (.iaload, 1) := by decide +kernel
theorem d_W_law_479 : decode code 479 = .ok (.invokevirtual 54, 3) := by decide +kernel
theorem d_W_law_482 : decode code 482 = .ok (.if_icmp .eq 169, 3) := by decide +kernel
theorem d_W_law_485 : decode code 485 = .ok (.iconst 0, 1) := by decide +kernel
theorem d_W_law_486 : decode code 486 = .ok (.ireturn, 1) := by decide +kernel
theorem d_W_law_487 : decode code 487 = .ok (.aload_n 1, 1) := by decide +kernel
theorem d_W_law_488 : decode code 488 = .ok (.aload_n 0, 1) := by decide +kernel
theorem d_W_law_489 : decode code 489 = .ok (.iload_n 3, 1) := by decide +kernel
theorem d_W_law_490 : decode code 490 = .ok (.iconst 1, 1) := by decide +kernel
theorem d_W_law_491 : decode code 491 = .ok (.iadd, 1) := by decide +kernel
theorem d_W_law_492 : decode code 492 = .ok (.iaload, 1) := by decide +kernel
theorem d_W_law_493 : decode code 493 = .ok (.aload_n 0, 1) := by decide +kernel
theorem d_W_law_494 : decode code 494 = .ok (.iload_n 3, 1) := by decide +kernel
theorem d_W_law_495 : decode code 495 = .ok (.iconst 2, 1) := by decide +kernel
theorem d_W_law_496 : decode code 496 = .ok (.iadd, 1) := by decide +kernel
theorem d_W_law_497 : decode code 497 = .ok (.iaload, 1) := by decide +kernel
theorem d_W_law_498 : decode code 498 = .ok (.invokevirtual 55, 3) := by decide +kernel
theorem d_W_law_501 : decode code 501 = .ok (.aload_n 2, 1) := by decide +kernel
theorem d_W_law_502 : decode code 502 = .ok (.aload_n 0, 1) := by decide +kernel
theorem d_W_law_503 : decode code 503 = .ok (.iload_n 3, 1) := by decide +kernel
theorem d_W_law_504 : decode code 504 = .ok (.iconst 1, 1) := by decide +kernel
theorem d_W_law_505 : decode code 505 = .ok (.iadd, 1) := by decide +kernel
theorem d_W_law_506 : decode code 506 = .ok (.iaload, 1) := by decide +kernel
theorem d_W_law_507 : decode code 507 = .ok (.aload_n 0, 1) := by decide +kernel
theorem d_W_law_508 : decode code 508 = .ok (.iload_n 3, 1) := by decide +kernel
theorem d_W_law_509 : decode code 509 = .ok (.iconst 2, 1) := by decide +kernel
theorem d_W_law_510 : decode code 510 = .ok (.iadd, 1) := by decide +kernel
theorem d_W_law_511 : decode code 511 = .ok (.iaload, 1) := by decide +kernel
theorem d_W_law_512 : decode code 512 = .ok (.invokevirtual 59, 3) := by decide +kernel
theorem d_W_law_515 : decode code 515 = .ok (.if_icmp .eq 136, 3) := by decide +kernel
theorem d_W_law_518 : decode code 518 = .ok (.iconst 0, 1) := by decide +kernel
theorem d_W_law_519 : decode code 519 = .ok (.ireturn, 1) := by decide +kernel
theorem d_W_law_520 : decode code 520 = .ok (.aload_n 1, 1) := by decide +kernel
theorem d_W_law_521 : decode code 521 = .ok (.invokevirtual 60, 3) := by decide +kernel
theorem d_W_law_524 : decode code 524 = .ok (.aload_n 2, 1) := by decide +kernel
theorem d_W_law_525 : decode code 525 = .ok (.invokevirtual 64, 3) := by decide +kernel
theorem d_W_law_528 : decode code 528 = .ok (.if_icmp .eq 123, 3) := by decide +kernel
theorem d_W_law_531 : decode code 531 = .ok (.iconst 0, 1) := by decide +kernel
theorem d_W_law_532 : decode code 532 = .ok (.ireturn, 1) := by decide +kernel
theorem d_W_law_533 : decode code 533 = .ok (.aload_n 1, 1) := by decide +kernel
theorem d_W_law_534 : decode code 534 = .ok (.invokevirtual 65, 3) := by decide +kernel
theorem d_W_law_537 : decode code 537 = .ok (.aload_n 2, 1) := by decide +kernel
theorem d_W_law_538 : decode code 538 = .ok (.invokevirtual 68, 3) := by decide +kernel
theorem d_W_law_541 : decode code 541 = .ok (.if_icmp .eq 110, 3) := by decide +kernel
theorem d_W_law_544 : decode code 544 = .ok (.iconst 0, 1) := by decide +kernel
theorem d_W_law_545 : decode code 545 = .ok (.ireturn, 1) := by decide +kernel
theorem d_W_law_546 : decode code 546 = .ok (.aload_n 1, 1) := by decide +kernel
theorem d_W_law_547 : decode code 547 = .ok (.aload_n 0, 1) := by decide +kernel
theorem d_W_law_548 : decode code 548 = .ok (.iload_n 3, 1) := by decide +kernel
theorem d_W_law_549 : decode code 549 = .ok (.iconst 1, 1) := by decide +kernel
theorem d_W_law_550 : decode code 550 = .ok (.iadd, 1) := by decide +kernel
theorem d_W_law_551 : decode code 551 = .ok (.iaload, 1) := by decide +kernel
theorem d_W_law_552 : decode code 552 = .ok (.invokevirtual 69, 3) := by decide +kernel
theorem d_W_law_555 : decode code 555 = .ok (.aload_n 2, 1) := by decide +kernel
theorem d_W_law_556 : decode code 556 = .ok (.aload_n 0, 1) := by decide +kernel
theorem d_W_law_557 : decode code 557 = .ok (.iload_n 3, 1) := by decide +kernel
theorem d_W_law_558 : decode code 558 = .ok (.iconst 1, 1) := by decide +kernel
theorem d_W_law_559 : decode code 559 = .ok (.iadd, 1) := by decide +kernel
theorem d_W_law_560 : decode code 560 = .ok (.iaload, 1) := by decide +kernel
theorem d_W_law_561 : decode code 561 = .ok (.invokevirtual 73, 3) := by decide +kernel
theorem d_W_law_564 : decode code 564 = .ok (.if_icmp .eq 87, 3) := by decide +kernel
theorem d_W_law_567 : decode code 567 = .ok (.iconst 0, 1) := by decide +kernel
theorem d_W_law_568 : decode code 568 = .ok (.ireturn, 1) := by decide +kernel
theorem d_W_law_569 : decode code 569 = .ok (.aload_n 1, 1) := by decide +kernel
theorem d_W_law_570 : decode code 570 = .ok (.aload_n 0, 1) := by decide +kernel
theorem d_W_law_571 : decode code 571 = .ok (.iload_n 3, 1) := by decide +kernel
theorem d_W_law_572 : decode code 572 = .ok (.iconst 1, 1) := by decide +kernel
theorem d_W_law_573 : decode code 573 = .ok (.iadd, 1) := by decide +kernel
theorem d_W_law_574 : decode code 574 = .ok (.iaload, 1) := by decide +kernel
theorem d_W_law_575 : decode code 575 = .ok (.invokevirtual 74, 3) := by decide +kernel
theorem d_W_law_578 : decode code 578 = .ok (.aload_n 2, 1) := by decide +kernel
theorem d_W_law_579 : decode code 579 = .ok (.aload_n 0, 1) := by decide +kernel
theorem d_W_law_580 : decode code 580 = .ok (.iload_n 3, 1) := by decide +kernel
theorem d_W_law_581 : decode code 581 = .ok (.iconst 1, 1) := by decide +kernel
theorem d_W_law_582 : decode code 582 = .ok (.iadd, 1) := by decide +kernel
theorem d_W_law_583 : decode code 583 = .ok (.iaload, 1) := by decide +kernel
theorem d_W_law_584 : decode code 584 = .ok (.invokevirtual 77, 3) := by decide +kernel
theorem d_W_law_587 : decode code 587 = .ok (.if_icmp .eq 64, 3) := by decide +kernel
theorem d_W_law_590 : decode code 590 = .ok (.iconst 0, 1) := by decide +kernel
theorem d_W_law_591 : decode code 591 = .ok (.ireturn, 1) := by decide +kernel
theorem d_W_law_592 : decode code 592 = .ok (.aload_n 1, 1) := by decide +kernel
theorem d_W_law_593 : decode code 593 = .ok (.invokevirtual 78, 3) := by decide +kernel
theorem d_W_law_596 : decode code 596 = .ok (.aload_n 2, 1) := by decide +kernel
theorem d_W_law_597 : decode code 597 = .ok (.invokevirtual 81, 3) := by decide +kernel
theorem d_W_law_600 : decode code 600 = .ok (.if_icmp .eq 51, 3) := by decide +kernel
theorem d_W_law_603 : decode code 603 = .ok (.iconst 0, 1) := by decide +kernel
theorem d_W_law_604 : decode code 604 = .ok (.ireturn, 1) := by decide +kernel
theorem d_W_law_605 : decode code 605 = .ok (.aload_n 1, 1) := by decide +kernel
theorem d_W_law_606 : decode code 606 = .ok (.invokevirtual 82, 3) := by decide +kernel
theorem d_W_law_609 : decode code 609 = .ok (.aload_n 2, 1) := by decide +kernel
theorem d_W_law_610 : decode code 610 = .ok (.invokevirtual 85, 3) := by decide +kernel
theorem d_W_law_613 : decode code 613 = .ok (.if_icmp .eq 38, 3) := by decide +kernel
theorem d_W_law_616 : decode code 616 = .ok (.iconst 0, 1) := by decide +kernel
theorem d_W_law_617 : decode code 617 = .ok (.ireturn, 1) := by decide +kernel
theorem d_W_law_618 : decode code 618 = .ok (.aload_n 1, 1) := by decide +kernel
theorem d_W_law_619 : decode code 619 = .ok (.aload_n 0, 1) := by decide +kernel
theorem d_W_law_620 : decode code 620 = .ok (.iload_n 3, 1) := by decide +kernel
theorem d_W_law_621 : decode code 621 = .ok (.iconst 1, 1) := by decide +kernel
theorem d_W_law_622 : decode code 622 = .ok (.iadd, 1) := by decide +kernel
theorem d_W_law_623 : decode code 623 = .ok (.iaload, 1) := by decide +kernel
theorem d_W_law_624 : decode code 624 = .ok (.aload_n 0, 1) := by decide +kernel
theorem d_W_law_625 : decode code 625 = .ok (.iload_n 3, 1) := by decide +kernel
theorem d_W_law_626 : decode code 626 = .ok (.iconst 2, 1) := by decide +kernel
theorem d_W_law_627 : decode code 627 = .ok (.iadd, 1) := by decide +kernel
theorem d_W_law_628 : decode code 628 = .ok (.iaload, 1) := by decide +kernel
theorem d_W_law_629 : decode code 629 = .ok (.invokevirtual 86, 3) := by decide +kernel
theorem d_W_law_632 : decode code 632 = .ok (.aload_n 2, 1) := by decide +kernel
theorem d_W_law_633 : decode code 633 = .ok (.aload_n 0, 1) := by decide +kernel
theorem d_W_law_634 : decode code 634 = .ok (.iload_n 3, 1) := by decide +kernel
theorem d_W_law_635 : decode code 635 = .ok (.iconst 1, 1) := by decide +kernel
theorem d_W_law_636 : decode code 636 = .ok (.iadd, 1) := by decide +kernel
theorem d_W_law_637 : decode code 637 = .ok (.iaload, 1) := by decide +kernel
theorem d_W_law_638 : decode code 638 = .ok (.aload_n 0, 1) := by decide +kernel
theorem d_W_law_639 : decode code 639 = .ok (.iload_n 3, 1) := by decide +kernel
theorem d_W_law_640 : decode code 640 = .ok (.iconst 2, 1) := by decide +kernel
theorem d_W_law_641 : decode code 641 = .ok (.iadd, 1) := by decide +kernel
theorem d_W_law_642 : decode code 642 = .ok (.iaload, 1) := by decide +kernel
theorem d_W_law_643 : decode code 643 = .ok (.invokevirtual 89, 3) := by decide +kernel
theorem d_W_law_646 : decode code 646 = .ok (.if_icmp .eq 5, 3) := by decide +kernel
theorem d_W_law_649 : decode code 649 = .ok (.iconst 0, 1) := by decide +kernel
theorem d_W_law_650 : decode code 650 = .ok (.ireturn, 1) := by decide +kernel
theorem d_W_law_651 : decode code 651 = .ok (.iinc 3 6, 3) := by decide +kernel
theorem d_W_law_654 : decode code 654 = .ok (.goto (-636), 3) := by decide +kernel
theorem d_W_law_657 : decode code 657 = .ok (.iconst 1, 1) := by decide +kernel
theorem d_W_law_658 : decode code 658 = .ok (.ireturn, 1) := by decide +kernel
end
section
/-! pure rows: chains of the class and of the reference -/
theorem ixn {n : Nat} (h : n < 1000) : ix (nI n) = n := nI_clamp (by omega)
theorem nle {a b : Nat} (ha : a < 1000) (hb : b < 1000) : nI a ≤ nI b ↔ a ≤ b := nI_leI (by omega) (by omega)
theorem nlt {a b : Nat} (ha : a < 1000) (hb : b < 1000) : nI a < nI b ↔ a < b := nI_ltI (by omega) (by omega)
theorem neq {a b : Nat} (ha : a < 1000) (hb : b < 1000) : nI a = nI b ↔ a = b := nI_eq (by omega) (by omega)
theorem nI_ne_m1 {a : Nat} (ha : a < 1000) : ¬ nI a = -1 := fun h => nI_pos (n := a) (by omega) (by rw [h]; decide)
theorem nI_nneg {a : Nat} (ha : a < 1000) : ¬ nI a < 0 := nI_pos (by omega)
def cnt (b : Nat → Bool) : Nat → Nat
  | 0 => 0
  | i + 1 => cnt b i + (if b i = true then 1 else 0)
theorem cnt_le (b : Nat → Bool) : ∀ i, cnt b i ≤ i
  | 0 => Nat.le_refl _
  | i + 1 => by
    have := cnt_le b i
    unfold cnt
    split <;> omega
theorem cnt_mono {b : Nat → Bool} {i j : Nat} (h : i ≤ j) : cnt b i ≤ cnt b j := by
  induction h with
  | refl => exact Nat.le_refl _
  | step _ ih => exact Nat.le_trans ih (by show _ ≤ cnt b _ + _; omega)
theorem cnt_lt {b : Nat → Bool} {i j : Nat} (h : i < j) (hb : b i = true) : cnt b i < cnt b j := by
  have h1 : cnt b (i + 1) ≤ cnt b j := cnt_mono h
  have h2 : cnt b (i + 1) = cnt b i + 1 := by show cnt b i + _ = _; rw [if_pos hb]
  omega
theorem cnt_same {b : Nat → Bool} {i : Nat} : ∀ {j : Nat}, i ≤ j → (∀ k, i ≤ k → k < j → b k = false) → cnt b j = cnt b i
  | 0, h, _ => by rw [Nat.le_zero.mp h]
  | j + 1, h, hb => by
    by_cases hij : i = j + 1
    · rw [hij]
    · have hb1 := hb j (by omega) (by omega)
      show cnt b j + _ = _
      rw [hb1, cnt_same (by omega) (fun k h1 h2 => hb k h1 (by omega))]
      rfl
theorem cnt_congr {b c : Nat → Bool} : ∀ {n : Nat}, (∀ i, i < n → b i = c i) → cnt b n = cnt c n
  | 0, _ => rfl
  | n + 1, h => by
    show cnt b n + _ = cnt c n + _
    rw [cnt_congr (fun i hi => h i (by omega)), h n (by omega)]
theorem cnt_countP (b : Nat → Bool) : ∀ n, (List.range n).countP b = cnt b n
  | 0 => rfl
  | n + 1 => by
    rw [List.range_succ, List.countP_append, cnt_countP b n]
    show _ = cnt b n + _
    rw [List.countP_singleton]
theorem rho_perm {n : Nat} {r k : Nat → Nat} (h1 : ∀ i, i < n → r i < n) (h2 : ∀ i j, i < n → j < n → r i = r j → i = j) (h3 : ∀ q, q < n → k q < n ∧ r (k q) = q) : ((List.range n).map r).Perm (List.range n) := by
  refine (List.perm_ext_iff_of_nodup ?_ List.nodup_range).mpr ?_
  · have hn : (List.range n).Nodup := List.nodup_range
    unfold List.Nodup at hn ⊢
    rw [List.pairwise_map]
    refine List.Pairwise.imp_of_mem ?_ hn
    intro a b ha hb hab he
    exact hab (h2 a b (List.mem_range.mp ha) (List.mem_range.mp hb) he)
  · intro a
    constructor
    · intro h
      obtain ⟨i, hi, rfl⟩ := List.mem_map.mp h
      exact List.mem_range.mpr (h1 i (List.mem_range.mp hi))
    · intro h
      obtain ⟨h4, h5⟩ := h3 a (List.mem_range.mp h)
      exact List.mem_map.mpr ⟨k a, List.mem_range.mpr h4, h5⟩
theorem cnt_rho {n : Nat} {r k : Nat → Nat} (h1 : ∀ i, i < n → r i < n) (h2 : ∀ i j, i < n → j < n → r i = r j → i = j) (h3 : ∀ q, q < n → k q < n ∧ r (k q) = q) (b : Nat → Bool) : cnt b n = cnt (fun i => b (r i)) n := by
  rw [← cnt_countP, ← cnt_countP, ← (rho_perm h1 h2 h3).countP_eq, List.countP_map]
  rfl
theorem cnt_cut {b : Nat → Bool} {p n : Nat} (h : p ≤ n) : cnt (fun i => decide (i < p) && b i) n = cnt b p := by
  induction h with
  | refl => exact cnt_congr (fun i hi => by simp [hi])
  | step hm ih =>
    rename_i m
    show cnt _ m + _ = _
    rw [ih, if_neg (by simp; intro h; exact absurd h (by simpa using Nat.not_lt.mpr hm))]
    rfl
/-! the class: the next of the chain -/
theorem kChainL_spec (u : SC) (m : Int32) {n : Nat} (hn : n ≤ 6) (h6 : u.1 6 0 = nI n) : ∀ (f p : Nat), p ≤ n → n - p < f →
    (kChainL u m f (nI p) = -1 ∧ ∀ j, p ≤ j → j < n → kAdvises u (u.2 j) m = false) ∨ ∃ q, p ≤ q ∧ q < n ∧ kChainL u m f (nI p) = nI q ∧ kAdvises u (u.2 q) m = true ∧ ∀ j, p ≤ j → j < q → kAdvises u (u.2 j) m = false
  | 0, p, _, h => by omega
  | f + 1, p, hp, hf => by
    unfold kChainL
    rw [h6, ixn (by omega : p < 1000), nI_1]
    by_cases hnp : n ≤ p
    · rw [if_pos ((nle (by omega) (by omega)).mpr hnp)]
      exact Or.inl ⟨rfl, fun j h1 h2 => by omega⟩
    · rw [if_neg (fun h => hnp ((nle (by omega) (by omega)).mp h))]
      by_cases hb : kAdvises u (u.2 p) m = true
      · rw [if_pos hb]
        exact Or.inr ⟨p, Nat.le_refl _, by omega, rfl, hb, fun j h1 h2 => by omega⟩
      · rw [if_neg hb]
        have hb' : kAdvises u (u.2 p) m = false := by simpa using hb
        rcases kChainL_spec u m hn h6 f (p + 1) (by omega) (by omega) with ⟨h1, h2⟩ | ⟨q, h1, h2, h3, h4, h5⟩
        · refine Or.inl ⟨h1, fun j h3 h4 => ?_⟩
          by_cases hj : j = p
          · rw [hj]; exact hb'
          · exact h2 j (by omega) h4
        · refine Or.inr ⟨q, by omega, h2, h3, h4, fun j h6 h7 => ?_⟩
          by_cases hj : j = p
          · rw [hj]; exact hb'
          · exact h5 j (by omega) h7
/-! the class: the number at a place of the chain -/
theorem kNumL_spec (u : SC) (m i : Int32) {n : Nat} (hn : n ≤ 6) (h6 : u.1 6 0 = nI n) : ∀ (f b p : Nat), p ≤ n → n - p < f → b = cnt (fun j => kAdvises u (u.2 j) m) p →
    (kNumL u m i f (nI b) (nI p) = -1 ∧ ∀ j, p ≤ j → j < n → kAdvises u (u.2 j) m = true → ¬ nI (cnt (fun j => kAdvises u (u.2 j) m) j) = i) ∨ ∃ q, p ≤ q ∧ q < n ∧ kNumL u m i f (nI b) (nI p) = u.1 13 (u.2 q) ∧ kAdvises u (u.2 q) m = true ∧ nI (cnt (fun j => kAdvises u (u.2 j) m) q) = i
  | 0, b, p, _, h, _ => by omega
  | f + 1, b, p, hp, hf, hb0 => by
    unfold kNumL
    rw [h6, ixn (by omega : p < 1000), nI_1, nI_1]
    by_cases hnp : n ≤ p
    · rw [if_pos ((nle (by omega) (by omega)).mpr hnp)]
      exact Or.inl ⟨rfl, fun j h1 h2 => by omega⟩
    · rw [if_neg (fun h => hnp ((nle (by omega) (by omega)).mp h))]
      by_cases hb : kAdvises u (u.2 p) m = true
      · rw [if_pos hb]
        by_cases hi : nI b = i
        · rw [if_pos hi]
          exact Or.inr ⟨p, Nat.le_refl _, by omega, rfl, hb, by rw [← hb0]; exact hi⟩
        · rw [if_neg hi]
          have hc : b + 1 = cnt (fun j => kAdvises u (u.2 j) m) (p + 1) := by show _ = cnt _ p + _; rw [← hb0, if_pos hb]
          rcases kNumL_spec u m i hn h6 f (b + 1) (p + 1) (by omega) (by omega) hc with ⟨h1, h2⟩ | ⟨q, h1, h2, h3, h4⟩
          · refine Or.inl ⟨h1, fun j h3 h4 h5 => ?_⟩
            by_cases hj : j = p
            · rw [hj, ← hb0]; exact hi
            · exact h2 j (by omega) h4 h5
          · exact Or.inr ⟨q, by omega, h2, h3, h4⟩
      · rw [if_neg hb]
        have hc : b = cnt (fun j => kAdvises u (u.2 j) m) (p + 1) := by show _ = cnt _ p + _; rw [← hb0, if_neg hb]; rfl
        rcases kNumL_spec u m i hn h6 f b (p + 1) (by omega) (by omega) hc with ⟨h1, h2⟩ | ⟨q, h1, h2, h3, h4⟩
        · refine Or.inl ⟨h1, fun j h3 h4 h5 => ?_⟩
          by_cases hj : j = p
          · rw [hj] at h5; exact absurd h5 hb
          · exact h2 j (by omega) h4 h5
        · exact Or.inr ⟨q, by omega, h2, h3, h4⟩
/-! the reference: how many stand ahead -/
theorem qCntL_eq (t : M2) (m k : Int32) {n : Nat} (hn : n ≤ 6) (h0 : t 0 0 = nI n) : ∀ (f q b : Nat), q ≤ n → n - q < f → b = cnt (fun j => qAhead t (nI j) k && qBit t (nI j) m) q →
    qCntL t m k f (nI q) (nI b) = nI (cnt (fun j => qAhead t (nI j) k && qBit t (nI j) m) n)
  | 0, q, b, _, h, _ => by omega
  | f + 1, q, b, hq, hf, hb => by
    unfold qCntL
    rw [h0]
    by_cases hnq : n ≤ q
    · rw [if_pos ((nle (by omega) (by omega)).mpr hnq), hb, show q = n by omega]
    · rw [if_neg (fun h => hnq ((nle (by omega) (by omega)).mp h)), nI_1, nI_1]
      have hc : cnt (fun j => qAhead t (nI j) k && qBit t (nI j) m) (q + 1) = b + (if (qAhead t (nI q) k && qBit t (nI q) m) = true then 1 else 0) := by show cnt _ q + _ = _; rw [← hb]
      by_cases h1 : qAhead t (nI q) k = true
      · by_cases h2 : qBit t (nI q) m = true
        · rw [if_pos h1, if_pos h2]
          exact qCntL_eq t m k hn h0 f (q + 1) (b + 1) (by omega) (by omega) (by rw [hc]; simp [h1, h2])
        · rw [if_pos h1, if_neg h2]
          exact qCntL_eq t m k hn h0 f (q + 1) b (by omega) (by omega) (by rw [hc]; simp [h2])
      · rw [if_neg h1]
        exact qCntL_eq t m k hn h0 f (q + 1) b (by omega) (by omega) (by rw [hc]; simp [h1])
theorem qCnt_eq (t : M2) (m k : Int32) {n : Nat} (hn : n ≤ 6) (h0 : t 0 0 = nI n) : qCnt t m k = nI (cnt (fun j => qAhead t (nI j) k && qBit t (nI j) m) n) :=
  qCntL_eq t m k hn h0 7 0 0 (by omega) (by omega) rfl
theorem qLinkL_spec (t : M2) (m pl : Int32) {n : Nat} (hn : n ≤ 6) (h0 : t 0 0 = nI n) : ∀ (f q : Nat), q ≤ n → n - q < f →
    (qLinkL t m pl f (nI q) = -1 ∧ ∀ j, q ≤ j → j < n → qBit t (nI j) m = true → ¬ qCnt t m (nI j) = pl) ∨ ∃ j, q ≤ j ∧ j < n ∧ qLinkL t m pl f (nI q) = nI j ∧ qBit t (nI j) m = true ∧ qCnt t m (nI j) = pl
  | 0, q, _, h => by omega
  | f + 1, q, hq, hf => by
    unfold qLinkL
    rw [h0]
    by_cases hnq : n ≤ q
    · rw [if_pos ((nle (by omega) (by omega)).mpr hnq)]
      exact Or.inl ⟨rfl, fun j h1 h2 => by omega⟩
    · rw [if_neg (fun h => hnq ((nle (by omega) (by omega)).mp h)), nI_1]
      have ih := qLinkL_spec t m pl hn h0 f (q + 1) (by omega) (by omega)
      by_cases h1 : qBit t (nI q) m = true
      · rw [if_pos h1]
        by_cases h2 : qCnt t m (nI q) = pl
        · rw [if_pos h2]
          exact Or.inr ⟨q, Nat.le_refl _, by omega, rfl, h1, h2⟩
        · rw [if_neg h2]
          rcases ih with ⟨g1, g2⟩ | ⟨j, g1, g2, g3, g4⟩
          · refine Or.inl ⟨g1, fun j h3 h4 h5 => ?_⟩
            by_cases hj : j = q
            · rw [hj]; exact h2
            · exact g2 j (by omega) h4 h5
          · exact Or.inr ⟨j, by omega, g2, g3, g4⟩
      · rw [if_neg h1]
        rcases ih with ⟨g1, g2⟩ | ⟨j, g1, g2, g3, g4⟩
        · refine Or.inl ⟨g1, fun j h3 h4 h5 => ?_⟩
          by_cases hj : j = q
          · rw [hj] at h5; exact absurd h5 h1
          · exact g2 j (by omega) h4 h5
        · exact Or.inr ⟨j, by omega, g2, g3, g4⟩
theorem z_as {a b : Int32} (h : a < b) : ¬ b < a := by simp only [Int32.lt_iff_toInt_lt] at *; omega
theorem z_ne {a b : Int32} (h : a < b) : ¬ a = b := by intro e; subst e; exact z_as h h
/-- the advisors of both sides: place i of the class's row is the reference's number r i -/
def RA (n : Nat) (r k : Nat → Nat) (u : SC) (t : M2) : Prop :=
  n ≤ 6 ∧ u.1 6 0 = nI n ∧ t 0 0 = nI n ∧ (∀ i, i < n → r i < n) ∧ (∀ i j, i < n → j < n → r i = r j → i = j) ∧ (∀ q, q < n → k q < n ∧ r (k q) = q) ∧
  (∀ i, i < n → (u.1 13 (u.2 i) = t 3 (r i) ∧ u.1 14 (u.2 i) = t 4 (r i) ∧ u.1 15 (u.2 i) = t 5 (r i) ∧ u.1 16 (u.2 i) = t 6 (r i) ∧ u.1 17 (u.2 i) = t 7 (r i) ∧ u.1 18 (u.2 i) = t 8 (r i) ∧ u.1 19 (u.2 i) = t 9 (r i) ∧ (¬ t 9 (r i) = 0 → u.1 20 (u.2 i) = t 10 (r i) ∧ u.1 21 (u.2 i) = t 11 (r i)))) ∧
  (∀ i j, i < j → j < n → t 5 (r i) < t 5 (r j) ∨ (t 5 (r i) = t 5 (r j) ∧ r i < r j))
theorem ahead_iff {n : Nat} {r k : Nat → Nat} {u : SC} {t : M2} (h : RA n r k u t) {i j : Nat} (hi : i < n) (hj : j < n) : qAhead t (nI (r j)) (nI (r i)) = decide (j < i) := by
  obtain ⟨hn, h1, h2, h3, h4, h5, h6, h7⟩ := h
  have a1 := h3 i hi
  have a2 := h3 j hj
  unfold qAhead
  rw [ixn (by omega : r j < 1000), ixn (by omega : r i < 1000)]
  by_cases hlt : j < i
  · rcases h7 j i hlt hi with h | ⟨h, h'⟩
    · simp [h, hlt]
    · rw [h, if_neg (fun z => z_as z z), if_pos rfl, if_pos ((nlt (by omega) (by omega)).mpr h')]
      simp [hlt]
  · by_cases he : j = i
    · subst he
      rw [if_neg (fun z => z_as z z), if_pos rfl, if_neg (fun z => Nat.lt_irrefl _ ((nlt (by omega) (by omega)).mp z))]
      simp
    · rcases h7 i j (by omega) hj with h | ⟨h, h'⟩
      · rw [if_neg (z_as h), if_neg (fun e => z_ne h e.symm)]
        simp [hlt]
      · rw [h, if_neg (fun z => z_as z z), if_pos rfl, if_neg (fun z => by have := (nlt (by omega) (by omega)).mp z; omega)]
        simp [hlt]
/-- what is true of a bit on both sides -/
def bitsOk (m : Int32) : Prop := ∀ x : Int32, (x &&& ((1 : Int32) <<< (m &&& 31)) = 0) ↔ ¬ ((x >>> (m &&& 31)) &&& 1 = 1)
theorem bit_same {n : Nat} {r k : Nat → Nat} {u : SC} {t : M2} {m : Int32} (h : RA n r k u t) (hm : bitsOk m) {i : Nat} (hi : i < n) : qBit t (nI (r i)) m = kAdvises u (u.2 i) m := by
  have hn := h.1
  have h3 := h.2.2.2.1 i hi
  have h6 := (h.2.2.2.2.2.2.1 i hi).2.2.2.1
  unfold qBit kAdvises
  rw [ixn (by omega : r i < 1000), h6]
  by_cases hb : (t 6 (r i) >>> (m &&& 31)) &&& 1 = 1
  · rw [if_pos hb, if_neg (fun z => (hm _).mp z hb)]
  · rw [if_neg hb, if_pos ((hm _).mpr hb)]
theorem qCnt_at {n : Nat} {r k : Nat → Nat} {u : SC} {t : M2} {m : Int32} (h : RA n r k u t) (hm : bitsOk m) {i : Nat} (hi : i < n) : qCnt t m (nI (r i)) = nI (cnt (fun j => kAdvises u (u.2 j) m) i) := by
  rw [qCnt_eq t m _ h.1 h.2.2.1, cnt_rho h.2.2.2.1 h.2.2.2.2.1 h.2.2.2.2.2.1]
  congr 1
  rw [← cnt_cut (b := fun j => kAdvises u (u.2 j) m) (Nat.le_of_lt hi)]
  refine cnt_congr (fun j hj => ?_)
  rw [ahead_iff h hi hj, bit_same h hm hj]
theorem link_at {n : Nat} {r k : Nat → Nat} {u : SC} {t : M2} {m : Int32} (h : RA n r k u t) (hm : bitsOk m) {p : Nat} (hp : p < n) (hb : kAdvises u (u.2 p) m = true) : qLinked t m (nI (cnt (fun j => kAdvises u (u.2 j) m) p)) = nI (r p) := by
  have hn := h.1
  rcases qLinkL_spec t m (nI (cnt (fun j => kAdvises u (u.2 j) m) p)) h.1 h.2.2.1 7 0 (by omega) (by omega) with ⟨h1, h2⟩ | ⟨j, h1, h2, h3, h4, h5⟩
  · exact absurd (qCnt_at h hm hp) (h2 (r p) (by omega) (h.2.2.2.1 p hp) (by rw [bit_same h hm hp]; exact hb))
  · obtain ⟨g1, g2⟩ := h.2.2.2.2.2.1 j h2
    rw [← g2, qCnt_at h hm g1] at h5
    rw [← g2, bit_same h hm g1] at h4
    have c1 := cnt_le (fun j => kAdvises u (u.2 j) m) p
    have c2 := cnt_le (fun j => kAdvises u (u.2 j) m) (k j)
    have h6 := (neq (by omega) (by omega)).mp h5
    have h7 : k j = p := by
      rcases Nat.lt_trichotomy (k j) p with hlt | he | hlt
      · have := cnt_lt (b := fun j => kAdvises u (u.2 j) m) hlt h4
        omega
      · exact he
      · have := cnt_lt (b := fun j => kAdvises u (u.2 j) m) hlt hb
        omega
    show qLinkL _ _ _ 7 (nI 0) = _
    rw [h3, ← g2, h7]
theorem link_none {n : Nat} {r k : Nat → Nat} {u : SC} {t : M2} {m : Int32} (h : RA n r k u t) (hm : bitsOk m) {f : Nat} (hf : f ≤ n) (hb : ∀ j, f ≤ j → j < n → kAdvises u (u.2 j) m = false) : qLinked t m (nI (cnt (fun j => kAdvises u (u.2 j) m) f)) = -1 := by
  have hn := h.1
  rcases qLinkL_spec t m (nI (cnt (fun j => kAdvises u (u.2 j) m) f)) h.1 h.2.2.1 7 0 (by omega) (by omega) with ⟨h1, h2⟩ | ⟨j, h1, h2, h3, h4, h5⟩
  · exact h1
  · obtain ⟨g1, g2⟩ := h.2.2.2.2.2.1 j h2
    rw [← g2, qCnt_at h hm g1] at h5
    rw [← g2, bit_same h hm g1] at h4
    have c1 := cnt_le (fun j => kAdvises u (u.2 j) m) f
    have c2 := cnt_le (fun j => kAdvises u (u.2 j) m) (k j)
    have h6 := (neq (by omega) (by omega)).mp h5
    by_cases hlt : k j < f
    · have := cnt_lt (b := fun j => kAdvises u (u.2 j) m) hlt h4
      omega
    · rw [hb (k j) (by omega) g1] at h4
      cases h4
/-! chain(m, i) -/
theorem chain_same {n : Nat} {r k : Nat → Nat} {u : SC} {t : M2} {m : Int32} (h : RA n r k u t) (hm : bitsOk m) (i : Int32) : kNumIn u m i = (if qLinked t m i < 0 then -1 else t 3 (ix (qLinked t m i))) := by
  have hn := h.1
  unfold kNumIn
  rcases kNumL_spec u m i h.1 h.2.1 7 0 0 (by omega) (by omega) rfl with ⟨h1, h2⟩ | ⟨q, h1, h2, h3, h4, h5⟩
  · have e : qLinked t m i = -1 := by
      rcases qLinkL_spec t m i h.1 h.2.2.1 7 0 (by omega) (by omega) with ⟨g1, g2⟩ | ⟨j, g1, g2, g3, g4, g5⟩
      · exact g1
      · obtain ⟨f1, f2⟩ := h.2.2.2.2.2.1 j g2
        rw [← f2, qCnt_at h hm f1] at g5
        rw [← f2, bit_same h hm f1] at g4
        exact absurd g5 (h2 (k j) (by omega) f1 g4)
    rw [e, if_pos (by decide)]
    exact h1
  · have e : qLinked t m i = nI (r q) := by rw [← h5]; exact link_at h hm h2 h4
    have h8 := h.2.2.2.1 q h2
    rw [e, if_neg (nI_nneg (by omega)), ixn (by omega)]
    exact h3.trans (h.2.2.2.2.2.2.1 q h2).1
end
section
/-! pure rows: the class's row is kept in order -/
def bf (u : SC) (i j : Nat) : Bool := kBefore u (u.2 i) (u.2 j)
theorem kBefore_iff (u : SC) (k j : Nat) : kBefore u k j = true ↔ (u.1 15 k < u.1 15 j ∨ (u.1 15 k = u.1 15 j ∧ u.1 13 k < u.1 13 j)) := by
  unfold kBefore
  by_cases h1 : u.1 15 k < u.1 15 j
  · simp [h1]
  · rw [if_neg h1]
    by_cases h2 : u.1 15 k = u.1 15 j
    · rw [if_pos h2]
      by_cases h3 : u.1 13 j ≤ u.1 13 k
      · rw [if_pos h3]
        have h4 : ¬ u.1 13 k < u.1 13 j := by simp only [Int32.lt_iff_toInt_lt, Int32.le_iff_toInt_le] at *; omega
        simp [h1, h4]
      · rw [if_neg h3]
        have h4 : u.1 13 k < u.1 13 j := by simp only [Int32.lt_iff_toInt_lt, Int32.le_iff_toInt_le] at *; omega
        simp [h2, h4]
    · rw [if_neg h2]
      simp [h1, h2]
theorem kb_as {u : SC} {a b : Nat} (h : kBefore u a b = true) : kBefore u b a = false := by
  cases h2 : kBefore u b a with
  | false => rfl
  | true =>
    rw [kBefore_iff] at h h2
    have hx : u.1 15 a < u.1 15 b ∨ u.1 15 a = u.1 15 b := h.imp id And.left
    simp only [Int32.lt_iff_toInt_lt, ← Int32.toInt_inj] at *
    omega
theorem kb_tr {u : SC} {a b c : Nat} (h : kBefore u a b = true) (h2 : kBefore u b c = true) : kBefore u a c = true := by
  rw [kBefore_iff] at h h2 ⊢
  simp only [Int32.lt_iff_toInt_lt, ← Int32.toInt_inj] at *
  omega
theorem kb_tot {u : SC} {a b : Nat} (hd : ¬ u.1 13 a = u.1 13 b) (h : ¬ kBefore u a b = true) : kBefore u b a = true := by
  rw [kBefore_iff] at h ⊢
  simp only [Int32.lt_iff_toInt_lt, ← Int32.toInt_inj] at *
  omega
/-- u' is u with the places below n changed about -/
def PO (n : Nat) (u u' : SC) : Prop := u'.1 = u.1 ∧ (∀ i, n ≤ i → u'.2 i = u.2 i) ∧ ∃ s s' : Nat → Nat, (∀ i, i < n → s i < n ∧ s' i < n ∧ s (s' i) = i ∧ s' (s i) = i) ∧ ∀ i, i < n → u'.2 i = u.2 (s i)
theorem PO.rf (n : Nat) (u : SC) : PO n u u := ⟨rfl, fun _ _ => rfl, id, id, fun _ h => ⟨h, h, rfl, rfl⟩, fun _ _ => rfl⟩
theorem PO.tr {n : Nat} {u v w : SC} (h : PO n u v) (h2 : PO n v w) : PO n u w := by
  obtain ⟨a1, a2, s, s', a3, a4⟩ := h
  obtain ⟨b1, b2, z, z', b3, b4⟩ := h2
  refine ⟨b1.trans a1, fun i hi => (b2 i hi).trans (a2 i hi), fun i => s (z i), fun i => z' (s' i), fun i hi => ?_, fun i hi => ?_⟩
  · obtain ⟨c1, c2, c3, c4⟩ := a3 i hi
    obtain ⟨d1, d2, d3, d4⟩ := b3 i hi
    refine ⟨(a3 _ d1).1, (b3 _ c2).2.1, ?_, ?_⟩
    · show s (z (z' (s' i))) = i
      rw [(b3 _ c2).2.2.1, c3]
    · show z' (s' (s (z i))) = i
      rw [(a3 _ d1).2.2.2, d4]
  · rw [b4 i hi, a4 _ (b3 i hi).1]
theorem swap_at (u : SC) {p : Nat} (hp : p < 900) : (kSwap u (nI p)).1 = u.1 ∧ ∀ i, (kSwap u (nI p)).2 i = u.2 (if i = p then p + 1 else if i = p + 1 then p else i) := by
  refine ⟨rfl, fun i => ?_⟩
  unfold kSwap
  rw [nI_1, ixn (by omega : p < 1000), ixn (by omega : p + 1 < 1000)]
  show va_up (va_up u.2 p (u.2 (p + 1))) (p + 1) (u.2 p) i = _
  unfold va_up
  by_cases h1 : i = p
  · subst h1
    simp
  · by_cases h2 : i = p + 1
    · simp [h2]
    · simp [h1, h2]
theorem PO.swap {n : Nat} {u : SC} {p : Nat} (hn : n ≤ 6) (hp : p + 1 < n) : PO n u (kSwap u (nI p)) := by
  obtain ⟨h1, h2⟩ := swap_at u (p := p) (by omega)
  have hs : ∀ i, i < n → (fun i => if i = p then p + 1 else if i = p + 1 then p else i) i < n ∧ (fun i => if i = p then p + 1 else if i = p + 1 then p else i) ((fun i => if i = p then p + 1 else if i = p + 1 then p else i) i) = i := by
    intro i hi
    dsimp only
    by_cases h1 : i = p
    · subst h1
      simp
      exact hp
    · by_cases h2 : i = p + 1
      · subst h2
        simp
        omega
      · simp [h1, h2, hi]
  refine ⟨h1, fun i hi => ?_, _, _, fun i hi => ⟨(hs i hi).1, (hs i hi).1, (hs i hi).2, (hs i hi).2⟩, fun i _ => h2 i⟩
  rw [h2 i, if_neg (by omega), if_neg (by omega)]
/-- in order; in order but for the place a; numbers apart -/
def SO (n : Nat) (u : SC) : Prop := ∀ i j, i < j → j < n → kBefore u (u.2 i) (u.2 j) = true
def SX (n a : Nat) (u : SC) : Prop := ∀ i j, i < j → j < n → i ≠ a → j ≠ a → kBefore u (u.2 i) (u.2 j) = true
def DN (n : Nat) (u : SC) : Prop := ∀ i j, i < n → j < n → i ≠ j → ¬ u.1 13 (u.2 i) = u.1 13 (u.2 j)
theorem DN.po {n : Nat} {u u' : SC} (h : DN n u) (hp : PO n u u') : DN n u' := by
  obtain ⟨a1, -, s, s', a3, a4⟩ := hp
  intro i j hi hj hij
  rw [a1, a4 i hi, a4 j hj]
  refine h _ _ (a3 i hi).1 (a3 j hj).1 (fun e => hij ?_)
  have := congrArg s' e
  rwa [(a3 i hi).2.2.2, (a3 j hj).2.2.2] at this
theorem kBefore_swap (u : SC) (p : Nat) (a b : Nat) : kBefore (kSwap u (nI p)) a b = kBefore u a b := rfl
theorem up_spec {n : Nat} (hn : n ≤ 6) : ∀ (f a : Nat) (u : SC), a < n → a < f → SX n a u → DN n u →
    PO n u (kUpL f u (nI a)) ∧ ((kUpL f u (nI a) = u ∧ ∀ i, i < a → kBefore u (u.2 i) (u.2 a) = true) ∨ SO n (kUpL f u (nI a)))
  | 0, a, u, _, h, _, _ => by omega
  | f + 1, a, u, ha, hf, hX, hd => by
    unfold kUpL
    by_cases h0 : a = 0
    · subst h0
      rw [if_pos (by decide)]
      exact ⟨PO.rf _ _, Or.inl ⟨rfl, fun i hi => by omega⟩⟩
    · obtain ⟨b, rfl⟩ : ∃ b, a = b + 1 := ⟨a - 1, by omega⟩
      rw [if_neg (fun z => nI_nle (n := b + 1) (by omega) (by omega) z), nI_pred, pk_m1, ixn (by omega : b + 1 < 1000), ixn (by omega : b < 1000)]
      by_cases hb : kBefore u (u.2 (b + 1)) (u.2 b) = true
      · rw [if_pos hb]
        obtain ⟨s1, s2⟩ := swap_at u (p := b) (by omega)
        have hpo := PO.swap (u := u) hn (p := b) ha
        have hX1 : SX n b (kSwap u (nI b)) := by
          intro i j hij hj h1 h2
          rw [kBefore_swap, s2 i, s2 j]
          by_cases e1 : i = b + 1
          · subst e1
            rw [if_neg (by omega), if_pos rfl, if_neg (by omega), if_neg (by omega)]
            exact hX b j (by omega) hj (by omega) (by omega)
          · by_cases e2 : j = b + 1
            · subst e2
              rw [if_neg h1, if_neg e1, if_neg (by omega), if_pos rfl]
              exact hX i b (by omega) (by omega) (by omega) (by omega)
            · rw [if_neg h1, if_neg e1, if_neg h2, if_neg e2]
              exact hX i j hij hj e1 e2
        obtain ⟨q1, q2⟩ := up_spec hn f b (kSwap u (nI b)) (by omega) (by omega) hX1 (hd.po hpo)
        refine ⟨hpo.tr q1, Or.inr ?_⟩
        rcases q2 with ⟨q2, q3⟩ | q2
        · rw [q2]
          have key : ∀ j, b < j → j < n → kBefore (kSwap u (nI b)) ((kSwap u (nI b)).2 b) ((kSwap u (nI b)).2 j) = true := by
            intro j h1 h2
            rw [kBefore_swap, s2 b, s2 j, if_pos rfl, if_neg (by omega)]
            by_cases e : j = b + 1
            · rw [if_pos e]; exact hb
            · rw [if_neg e]
              exact kb_tr hb (hX b j (by omega) h2 (by omega) e)
          intro i j hij hj
          by_cases e1 : i = b
          · subst e1; exact key j hij hj
          · by_cases e2 : j = b
            · subst e2; exact q3 i hij
            · exact hX1 i j hij hj e1 e2
        · exact q2
      · rw [if_neg hb]
        refine ⟨PO.rf _ _, Or.inl ⟨rfl, fun i hi => ?_⟩⟩
        have hb2 : kBefore u (u.2 b) (u.2 (b + 1)) = true := kb_tot (hd (b + 1) b ha (by omega) (by omega)) hb
        by_cases e : i = b
        · rw [e]; exact hb2
        · exact kb_tr (hX i b (by omega) (by omega) (by omega) (by omega)) hb2
theorem down_so {n : Nat} (hn : n ≤ 6) {u : SC} (h6 : u.1 6 0 = nI n) (h : SO n u) {a : Nat} (ha : a < n) (f : Nat) : kDownL f u (nI a) = u := by
  cases f with
  | zero => rfl
  | succ f =>
    unfold kDownL
    rw [h6, nI_1, ixn (by omega : a < 1000), ixn (by omega : a + 1 < 1000)]
    by_cases h1 : n ≤ a + 1
    · rw [if_pos ((nle (by omega) (by omega)).mpr h1)]
    · rw [if_neg (fun z => h1 ((nle (by omega) (by omega)).mp z)), kb_as (h a (a + 1) (by omega) (by omega)), if_neg (by decide)]
theorem down_spec {n : Nat} (hn : n ≤ 6) : ∀ (f a : Nat) (u : SC), u.1 6 0 = nI n → a < n → n - a ≤ f → SX n a u → DN n u → (∀ i, i < a → kBefore u (u.2 i) (u.2 a) = true) →
    PO n u (kDownL f u (nI a)) ∧ SO n (kDownL f u (nI a))
  | 0, a, u, _, _, h, _, _, _ => by omega
  | f + 1, a, u, h6, ha, hf, hX, hd, hl => by
    unfold kDownL
    rw [h6, nI_1, ixn (by omega : a < 1000), ixn (by omega : a + 1 < 1000)]
    by_cases h1 : n ≤ a + 1
    · rw [if_pos ((nle (by omega) (by omega)).mpr h1)]
      refine ⟨PO.rf _ _, fun i j hij hj => ?_⟩
      by_cases e : j = a
      · subst e; exact hl i hij
      · exact hX i j hij hj (by omega) e
    · rw [if_neg (fun z => h1 ((nle (by omega) (by omega)).mp z))]
      by_cases hb : kBefore u (u.2 (a + 1)) (u.2 a) = true
      · rw [if_pos hb]
        obtain ⟨s1, s2⟩ := swap_at u (p := a) (by omega)
        have hpo := PO.swap (u := u) hn (p := a) (by omega)
        have hX1 : SX n (a + 1) (kSwap u (nI a)) := by
          intro i j hij hj h1 h2
          rw [kBefore_swap, s2 i, s2 j]
          by_cases e1 : i = a
          · subst e1
            rw [if_pos rfl, if_neg (by omega), if_neg h2]
            exact hX (i + 1) j (by omega) hj (by omega) (by omega)
          · by_cases e2 : j = a
            · subst e2
              rw [if_neg e1, if_neg h1, if_pos rfl]
              exact hX i (j + 1) (by omega) (by omega) (by omega) (by omega)
            · rw [if_neg e1, if_neg h1, if_neg e2, if_neg h2]
              exact hX i j hij hj e1 e2
        have hl1 : ∀ i, i < a + 1 → kBefore (kSwap u (nI a)) ((kSwap u (nI a)).2 i) ((kSwap u (nI a)).2 (a + 1)) = true := by
          intro i hi
          rw [kBefore_swap, s2 i, s2 (a + 1), if_neg (by omega : ¬ a + 1 = a), if_pos rfl]
          by_cases e : i = a
          · rw [if_pos e]; exact hb
          · rw [if_neg e, if_neg (by omega)]; exact hl i (by omega)
        obtain ⟨q1, q2⟩ := down_spec hn f (a + 1) (kSwap u (nI a)) h6 (by omega) (by omega) hX1 (hd.po hpo) hl1
        exact ⟨hpo.tr q1, q2⟩
      · rw [if_neg hb]
        have hb2 : kBefore u (u.2 a) (u.2 (a + 1)) = true := kb_tot (hd (a + 1) a (by omega) ha (by omega)) hb
        refine ⟨PO.rf _ _, fun i j hij hj => ?_⟩
        by_cases e : j = a
        · subst e; exact hl i hij
        · by_cases e2 : i = a
          · subst e2
            by_cases e3 : j = i + 1
            · rw [e3]; exact hb2
            · exact kb_tr hb2 (hX (i + 1) j (by omega) hj (by omega) (by omega))
          · exact hX i j hij hj e2 e
theorem settle_spec {n a : Nat} (hn : n ≤ 6) {u : SC} (h6 : u.1 6 0 = nI n) (ha : a < n) (hX : SX n a u) (hd : DN n u) : PO n u (kSettle u (nI a)) ∧ SO n (kSettle u (nI a)) := by
  obtain ⟨h1, h2⟩ := up_spec hn 7 a u ha (by omega) hX hd
  unfold kSettle
  rcases h2 with ⟨h2, h3⟩ | h2
  · rw [h2]
    exact down_spec hn 7 a u h6 ha (by omega) hX hd h3
  · rw [down_so hn (by rw [h1.1]; exact h6) h2 ha]
    exact ⟨h1, h2⟩
end
section
/-! pure rows: what the calls that change advisors do to both sides -/
def RM (n : Nat) (r k : Nat → Nat) (u : SC) (t : M2) : Prop :=
  n ≤ 6 ∧ u.1 6 0 = nI n ∧ t 0 0 = nI n ∧ (∀ i, i < n → r i < n) ∧ (∀ i j, i < n → j < n → r i = r j → i = j) ∧ (∀ q, q < n → k q < n ∧ r (k q) = q) ∧
  (∀ i, i < n → (u.1 13 (u.2 i) = t 3 (r i) ∧ u.1 14 (u.2 i) = t 4 (r i) ∧ u.1 15 (u.2 i) = t 5 (r i) ∧ u.1 16 (u.2 i) = t 6 (r i) ∧ u.1 17 (u.2 i) = t 7 (r i) ∧ u.1 18 (u.2 i) = t 8 (r i) ∧ u.1 19 (u.2 i) = t 9 (r i) ∧ (¬ t 9 (r i) = 0 → u.1 20 (u.2 i) = t 10 (r i) ∧ u.1 21 (u.2 i) = t 11 (r i))))
theorem RA.rm {n : Nat} {r k : Nat → Nat} {u : SC} {t : M2} (h : RA n r k u t) : RM n r k u t := ⟨h.1, h.2.1, h.2.2.1, h.2.2.2.1, h.2.2.2.2.1, h.2.2.2.2.2.1, h.2.2.2.2.2.2.1⟩
theorem RM.ra {n : Nat} {r k : Nat → Nat} {u : SC} {t : M2} (h : RM n r k u t) (hs : ∀ i j, i < j → j < n → t 5 (r i) < t 5 (r j) ∨ (t 5 (r i) = t 5 (r j) ∧ r i < r j)) : RA n r k u t := ⟨h.1, h.2.1, h.2.2.1, h.2.2.2.1, h.2.2.2.2.1, h.2.2.2.2.2.1, h.2.2.2.2.2.2, hs⟩
theorem RM.po {n : Nat} {r k : Nat → Nat} {u u' : SC} {t : M2} (h : RM n r k u t) (hp : PO n u u') : ∃ r' k', RM n r' k' u' t := by
  obtain ⟨h1, h2, h3, h4, h5, h6, h7⟩ := h
  obtain ⟨a1, -, s, s', a3, a4⟩ := hp
  refine ⟨fun i => r (s i), fun q => s' (k q), h1, by rw [a1]; exact h2, h3, fun i hi => h4 _ (a3 i hi).1, fun i j hi hj he => ?_, fun q hq => ?_, fun i hi => ?_⟩
  · have := congrArg s' (h5 _ _ (a3 i hi).1 (a3 j hj).1 he)
    rwa [(a3 i hi).2.2.2, (a3 j hj).2.2.2] at this
  · obtain ⟨g1, g2⟩ := h6 q hq
    refine ⟨(a3 _ g1).2.1, ?_⟩
    show r (s (s' (k q))) = q
    rw [(a3 _ g1).2.2.1, g2]
  · rw [a1, a4 i hi]
    exact h7 _ (a3 i hi).1
/-- the names of the reference grow with the index, and are below v -/
def NM (n v : Nat) (t : M2) : Prop := v < 1000 ∧ ∃ nm : Nat → Nat, (∀ a, a < n → t 3 a = nI (nm a) ∧ nm a < v) ∧ ∀ a b, a < b → b < n → nm a < nm b
theorem NM.inj {n v : Nat} {t : M2} (h : NM n v t) {a b : Nat} (ha : a < n) (hb : b < n) : (t 3 a = t 3 b ↔ a = b) ∧ (t 3 a < t 3 b ↔ a < b) := by
  obtain ⟨hv, nm, h1, h2⟩ := h
  have e1 := h1 a ha
  have e2 := h1 b hb
  rw [e1.1, e2.1, neq (by omega) (by omega), nlt (by omega) (by omega)]
  rcases Nat.lt_trichotomy a b with h | h | h
  · have := h2 a b h hb
    omega
  · subst h
    omega
  · have := h2 b a h ha
    omega
theorem RM.dn {n v : Nat} {r k : Nat → Nat} {u : SC} {t : M2} (h : RM n r k u t) (hN : NM n v t) : DN n u := by
  intro i j hi hj hij he
  rw [(h.2.2.2.2.2.2 i hi).1, (h.2.2.2.2.2.2 j hj).1] at he
  exact hij (h.2.2.2.2.1 i j hi hj ((hN.inj (h.2.2.2.1 i hi) (h.2.2.2.1 j hj)).1.mp he))
theorem RM.bf {n v : Nat} {r k : Nat → Nat} {u : SC} {t : M2} (h : RM n r k u t) (hN : NM n v t) {i j : Nat} (hi : i < n) (hj : j < n) : kBefore u (u.2 i) (u.2 j) = true ↔ (t 5 (r i) < t 5 (r j) ∨ (t 5 (r i) = t 5 (r j) ∧ r i < r j)) := by
  rw [kBefore_iff, (h.2.2.2.2.2.2 i hi).1, (h.2.2.2.2.2.2 j hj).1, (h.2.2.2.2.2.2 i hi).2.2.1, (h.2.2.2.2.2.2 j hj).2.2.1, (hN.inj (h.2.2.2.1 i hi) (h.2.2.2.1 j hj)).2]
theorem RA.so {n v : Nat} {r k : Nat → Nat} {u : SC} {t : M2} (h : RA n r k u t) (hN : NM n v t) : SO n u := fun i j hij hj => (h.rm.bf hN (by omega) hj).mpr (h.2.2.2.2.2.2.2 i j hij hj)
theorem RM.ofso {n v : Nat} {r k : Nat → Nat} {u : SC} {t : M2} (h : RM n r k u t) (hN : NM n v t) (hs : SO n u) : RA n r k u t := h.ra (fun i j hij hj => (h.bf hN (by omega) hj).mp (hs i j hij hj))
/-- settling the one that may stand wrong -/
theorem RM.settle {n v a : Nat} {r k : Nat → Nat} {u : SC} {t : M2} (h : RM n r k u t) (hN : NM n v t) (ha : a < n) (hX : SX n a u) : PO n u (kSettle u (nI a)) ∧ ∃ r' k', RA n r' k' (kSettle u (nI a)) t := by
  obtain ⟨h1, h2⟩ := settle_spec h.1 h.2.1 ha hX (h.dn hN)
  obtain ⟨r', k', h3⟩ := h.po h1
  exact ⟨h1, r', k', h3.ofso hN h2⟩
/-! which place, which index -/
theorem kPlaceL_spec {n : Nat} (u : SC) (x : Int32) (hn : n ≤ 6) (h6 : u.1 6 0 = nI n) : ∀ (f p : Nat), p ≤ n → n - p < f →
    (kPlaceL u x f (nI p) = -1 ∧ ∀ j, p ≤ j → j < n → ¬ u.1 13 (u.2 j) = x) ∨ ∃ q, p ≤ q ∧ q < n ∧ kPlaceL u x f (nI p) = nI q ∧ u.1 13 (u.2 q) = x
  | 0, p, _, h => by omega
  | f + 1, p, hp, hf => by
    unfold kPlaceL
    rw [h6, ixn (by omega : p < 1000), nI_1]
    by_cases hnp : n ≤ p
    · rw [if_pos ((nle (by omega) (by omega)).mpr hnp)]
      exact Or.inl ⟨rfl, fun j h1 h2 => by omega⟩
    · rw [if_neg (fun h => hnp ((nle (by omega) (by omega)).mp h))]
      by_cases hb : u.1 13 (u.2 p) = x
      · rw [if_pos hb]
        exact Or.inr ⟨p, Nat.le_refl _, by omega, rfl, hb⟩
      · rw [if_neg hb]
        rcases kPlaceL_spec u x hn h6 f (p + 1) (by omega) (by omega) with ⟨h1, h2⟩ | ⟨q, h1, h2, h3, h4⟩
        · refine Or.inl ⟨h1, fun j h3 h4 => ?_⟩
          by_cases hj : j = p
          · rw [hj]; exact hb
          · exact h2 j (by omega) h4
        · exact Or.inr ⟨q, by omega, h2, h3, h4⟩
theorem qFindL_spec {n : Nat} (t : M2) (x : Int32) (hn : n ≤ 6) (h0 : t 0 0 = nI n) : ∀ (f q : Nat) (z : Int32), q ≤ n → n - q < f →
    (qFindL t x f (nI q) z = z ∧ ∀ j, q ≤ j → j < n → ¬ t 3 j = x) ∨ ∃ j, q ≤ j ∧ j < n ∧ qFindL t x f (nI q) z = nI j ∧ t 3 j = x
  | 0, q, z, _, h => by omega
  | f + 1, q, z, hq, hf => by
    unfold qFindL
    rw [h0, ixn (by omega : q < 1000), nI_1]
    by_cases hnq : n ≤ q
    · rw [if_pos ((nle (by omega) (by omega)).mpr hnq)]
      exact Or.inl ⟨rfl, fun j h1 h2 => by omega⟩
    · rw [if_neg (fun h => hnq ((nle (by omega) (by omega)).mp h))]
      by_cases hb : t 3 q = x
      · rw [if_pos hb]
        rcases qFindL_spec t x hn h0 f (q + 1) (nI q) (by omega) (by omega) with ⟨h1, h2⟩ | ⟨j, h1, h2, h3, h4⟩
        · exact Or.inr ⟨q, Nat.le_refl _, by omega, h1, hb⟩
        · exact Or.inr ⟨j, by omega, h2, h3, h4⟩
      · rw [if_neg hb]
        rcases qFindL_spec t x hn h0 f (q + 1) z (by omega) (by omega) with ⟨h1, h2⟩ | ⟨j, h1, h2, h3, h4⟩
        · refine Or.inl ⟨h1, fun j h3 h4 => ?_⟩
          by_cases hj : j = q
          · rw [hj]; exact hb
          · exact h2 j (by omega) h4
        · exact Or.inr ⟨j, by omega, h2, h3, h4⟩
theorem find_same {n v : Nat} {r k : Nat → Nat} {u : SC} {t : M2} (h : RM n r k u t) (hN : NM n v t) (x : Int32) :
    (kPlaceOf u x = -1 ∧ qFind t x = -1) ∨ ∃ p, p < n ∧ kPlaceOf u x = nI p ∧ qFind t x = nI (r p) ∧ u.1 13 (u.2 p) = x := by
  have hn := h.1
  have hk := kPlaceL_spec u x h.1 h.2.1 7 0 (by omega) (by omega)
  have hq := qFindL_spec t x h.1 h.2.2.1 7 0 (-1) (by omega) (by omega)
  rcases hk with ⟨a1, a2⟩ | ⟨p, a1, a2, a3, a4⟩
  · rcases hq with ⟨b1, b2⟩ | ⟨j, b1, b2, b3, b4⟩
    · exact Or.inl ⟨a1, b1⟩
    · obtain ⟨g1, g2⟩ := h.2.2.2.2.2.1 j b2
      exact absurd (((h.2.2.2.2.2.2 _ g1).1.trans (by rw [g2])).trans b4) (a2 (k j) (by omega) g1)
  · rcases hq with ⟨b1, b2⟩ | ⟨j, b1, b2, b3, b4⟩
    · exact absurd ((h.2.2.2.2.2.2 p a2).1.symm.trans a4) (b2 (r p) (by omega) (h.2.2.2.1 p a2))
    · have e : j = r p := (hN.inj b2 (h.2.2.2.1 p a2)).1.mp (b4.trans (a4.symm.trans (h.2.2.2.2.2.2 p a2).1))
      subst e
      exact Or.inr ⟨p, a2, a3, b3, a4⟩
/-- the ids in the row are apart -/
def PI (u : SC) : Prop := (∀ i, i < 6 → u.2 i < 6) ∧ ∀ i j, i < 6 → j < 6 → u.2 i = u.2 j → i = j
theorem PI.po {n : Nat} {u u' : SC} (hn : n ≤ 6) (h : PI u) (hp : PO n u u') : PI u' := by
  obtain ⟨-, a2, s, s', a3, a4⟩ := hp
  have key : ∀ i, i < 6 → ∃ j, j < 6 ∧ u'.2 i = u.2 j ∧ (i < n → j < n ∧ s' j = i) ∧ (n ≤ i → j = i) := by
    intro i hi
    by_cases hl : i < n
    · exact ⟨s i, Nat.lt_of_lt_of_le (a3 i hl).1 hn, a4 i hl, fun _ => ⟨(a3 i hl).1, (a3 i hl).2.2.2⟩, fun h => absurd h (by omega)⟩
    · exact ⟨i, hi, a2 i (by omega), fun h => absurd h hl, fun _ => rfl⟩
  refine ⟨fun i hi => ?_, fun i j hi hj he => ?_⟩
  · obtain ⟨j, h1, h2, -⟩ := key i hi
    rw [h2]; exact h.1 j h1
  · obtain ⟨a, b1, b2, b3, b4⟩ := key i hi
    obtain ⟨b, c1, c2, c3, c4⟩ := key j hj
    rw [b2, c2] at he
    have hab := h.2 a b b1 c1 he
    subst hab
    by_cases hi' : i < n
    · by_cases hj' : j < n
      · rw [← (b3 hi').2, ← (c3 hj').2]
      · have := c4 (by omega)
        have := (b3 hi').1
        omega
    · have e1 := b4 (by omega)
      by_cases hj' : j < n
      · have := (c3 hj').1
        omega
      · have := c4 (by omega)
        omega
/-! advise -/
theorem advise_rm {n v : Nat} {r k : Nat → Nat} {u : SC} {t : M2} (h : RA n r k u t) (hN : NM n v t) (hv : t 1 0 = nI v) (hv2 : u.1 7 0 = nI v) (hv3 : v + 1 < 1000) (hP : PI u) (h6 : n < 6) (kd o ms a b : Int32) :
    ∃ r' k', RA (n + 1) r' k' (kMake u kd o ms a b).2 (qPut t kd o ms a b) ∧ NM (n + 1) (v + 1) (qPut t kd o ms a b) ∧ PI (kMake u kd o ms a b).2 ∧ (kMake u kd o ms a b).1 = nI v ∧ ∀ k', k' ≠ 6 → k' ≠ 7 → (k' < 13 ∨ 22 ≤ k') → (kMake u kd o ms a b).2.1 k' = u.1 k' := by
  have hN' := hN
  obtain ⟨hvb, nm, m1, m2⟩ := hN
  obtain ⟨h1, h2, h3, h4, h5, h7, h8, h9⟩ := h
  have hid : ∀ i, i < n → u.2 i ≠ u.2 n := fun i hi e => by have := hP.2 i n (by omega) h6 e; omega
  have hq : ∀ i, i < n → ¬ r i = n := fun i hi => by have := h4 i hi; omega
  generalize hw : wr (wr (wr (wr (wr (wr (wr (wr (wr u 13 (u.2 n) (nI v)) 14 (u.2 n) kd) 15 (u.2 n) o) 16 (u.2 n) ms) 17 (u.2 n) a) 18 (u.2 n) b) 19 (u.2 n) 0) 7 0 (nI v + 1)) 6 0 (nI n + 1) = w
  have hm : kMake u kd o ms a b = ((kSettle w (nI n)).1 13 (u.2 n), kSettle w (nI n)) := by
    unfold kMake
    simp only [h2, hv2, ixn (show n < 1000 by omega), hw]
    rw [nI_1, nI_pred]
  have ht : qPut t kd o ms a b = up2 (up2 (up2 (up2 (up2 (up2 (up2 (up2 (up2 t 3 n (nI v)) 4 n kd) 5 n o) 6 n ms) 7 n a) 8 n b) 9 n 0) 0 0 (nI n + 1)) 1 0 (nI v + 1) := by
    unfold qPut
    rw [h3, hv, ixn (show n < 1000 by omega)]
  have hRM : RM (n + 1) (fun i => if i = n then n else r i) (fun i => if i = n then n else k i) w (qPut t kd o ms a b) := by
    rw [ht, ← hw]
    refine ⟨h6, by show nI n + 1 = _; rw [nI_1], by show nI n + 1 = _; rw [nI_1], fun i hi => ?_, fun i j hi hj he => ?_, fun q hq => ?_, fun i hi => ?_⟩
    · dsimp only
      by_cases e : i = n
      · simp [e]
      · have := h4 i (by omega)
        simp only [e, if_false]; omega
    · dsimp only at he
      by_cases e : i = n
      · by_cases e2 : j = n
        · omega
        · simp only [e, e2, if_true, if_false] at he
          have := h4 j (by omega); omega
      · by_cases e2 : j = n
        · simp only [e, e2, if_true, if_false] at he
          have := h4 i (by omega); omega
        · simp only [e, e2, if_false] at he
          exact h5 i j (by omega) (by omega) he
    · dsimp only
      by_cases e : q = n
      · simp [e]
      · obtain ⟨g1, g2⟩ := h7 q (by omega)
        have e2 : ¬ k q = n := by omega
        simp only [e, e2, if_false]
        exact ⟨by omega, g2⟩
    · by_cases e : i = n
      · subst e
        dsimp only
        rw [if_pos rfl]
        show upd (u.1 13) (u.2 i) (nI v) (u.2 i) = upd (t 3) i (nI v) i ∧ upd (u.1 14) (u.2 i) kd (u.2 i) = upd (t 4) i kd i ∧ upd (u.1 15) (u.2 i) o (u.2 i) = upd (t 5) i o i ∧ upd (u.1 16) (u.2 i) ms (u.2 i) = upd (t 6) i ms i ∧ upd (u.1 17) (u.2 i) a (u.2 i) = upd (t 7) i a i ∧ upd (u.1 18) (u.2 i) b (u.2 i) = upd (t 8) i b i ∧ upd (u.1 19) (u.2 i) 0 (u.2 i) = upd (t 9) i 0 i ∧ (¬ upd (t 9) i 0 i = 0 → u.1 20 (u.2 i) = t 10 i ∧ u.1 21 (u.2 i) = t 11 i)
        simp only [pk_us]
        simp
      · have e1 := hid i (by omega)
        have e2 := hq i (by omega)
        dsimp only
        rw [if_neg e]
        show upd (u.1 13) (u.2 n) (nI v) (u.2 i) = upd (t 3) n (nI v) (r i) ∧ upd (u.1 14) (u.2 n) kd (u.2 i) = upd (t 4) n kd (r i) ∧ upd (u.1 15) (u.2 n) o (u.2 i) = upd (t 5) n o (r i) ∧ upd (u.1 16) (u.2 n) ms (u.2 i) = upd (t 6) n ms (r i) ∧ upd (u.1 17) (u.2 n) a (u.2 i) = upd (t 7) n a (r i) ∧ upd (u.1 18) (u.2 n) b (u.2 i) = upd (t 8) n b (r i) ∧ upd (u.1 19) (u.2 n) 0 (u.2 i) = upd (t 9) n 0 (r i) ∧ (¬ upd (t 9) n 0 (r i) = 0 → u.1 20 (u.2 i) = t 10 (r i) ∧ u.1 21 (u.2 i) = t 11 (r i))
        simp only [pk_un e1, pk_un e2]
        exact h8 i (by omega)
  have hNM : NM (n + 1) (v + 1) (qPut t kd o ms a b) := by
    rw [ht]
    refine ⟨hv3, fun i => if i = n then v else nm i, fun i hi => ?_, fun i j hij hj => ?_⟩
    · show upd _ _ _ _ = _ ∧ _
      dsimp only
      by_cases e : i = n
      · subst e
        rw [pk_us, if_pos rfl]
        exact ⟨rfl, by omega⟩
      · rw [pk_un e, if_neg e]
        have := m1 i (by omega)
        exact ⟨this.1, by omega⟩
    · dsimp only
      rw [if_neg (by omega)]
      by_cases e : j = n
      · rw [if_pos e]; exact (m1 i (by omega)).2
      · rw [if_neg e]; exact m2 i j hij (by omega)
  have hX : SX (n + 1) n w := by
    intro i j hij hj hi' hj'
    have e1 := hid i (by omega)
    have e2 := hid j (by omega)
    have hb := ((RA.so ⟨h1, h2, h3, h4, h5, h7, h8, h9⟩ hN') i j hij (by omega))
    rw [kBefore_iff] at hb ⊢
    rw [← hw]
    show (upd (u.1 15) (u.2 n) o (u.2 i) < upd (u.1 15) (u.2 n) o (u.2 j) ∨ (upd (u.1 15) (u.2 n) o (u.2 i) = upd (u.1 15) (u.2 n) o (u.2 j) ∧ upd (u.1 13) (u.2 n) (nI v) (u.2 i) < upd (u.1 13) (u.2 n) (nI v) (u.2 j)))
    simp only [pk_un e1, pk_un e2]
    exact hb
  obtain ⟨s1, r', k', s2⟩ := hRM.settle hNM (Nat.lt_succ_self n) hX
  have hPw : PI w := by rw [← hw]; exact hP
  refine ⟨r', k', by rw [hm]; exact s2, hNM, by rw [hm]; exact hPw.po h6 s1, ?_, fun k' c1 c2 c3 => ?_⟩
  · rw [hm]
    show (kSettle w (nI n)).1 13 (u.2 n) = nI v
    rw [s1.1, ← hw]
    exact pk_us
  · rw [hm]
    show (kSettle w (nI n)).1 k' = u.1 k'
    rw [s1.1, ← hw]
    simp only [wr, up2]
    rw [if_neg c1, if_neg c2, if_neg (by omega), if_neg (by omega), if_neg (by omega), if_neg (by omega), if_neg (by omega), if_neg (by omega), if_neg (by omega)]
end
section
/-! reorder -/
theorem reorder_ra {n v p : Nat} {r k : Nat → Nat} {u : SC} {t : M2} (h : RA n r k u t) (hN : NM n v t) (hP : PI u) (hp : p < n) (o : Int32) :
    ∃ r' k', RA n r' k' (kMove u (nI p) o) (up2 t 5 (r p) o) ∧ NM n v (up2 t 5 (r p) o) ∧ PI (kMove u (nI p) o) ∧ ∀ k', ¬ k' = 15 → (kMove u (nI p) o).1 k' = u.1 k' := by
  have hN' := hN
  have h' := h
  obtain ⟨h1, h2, h3, h4, h5, h7, h8, h9⟩ := h
  have hid : ∀ i, i < n → i ≠ p → u.2 i ≠ u.2 p := fun i hi hne e => hne (hP.2 i p (by omega) (by omega) e)
  have hq : ∀ i, i < n → i ≠ p → r i ≠ r p := fun i hi hne e => hne (h5 i p hi hp e)
  have hm : kMove u (nI p) o = kSettle (wr u 15 (u.2 p) o) (nI p) := by
    unfold kMove
    rw [ixn (by omega : p < 1000)]
  have hRM : RM n r k (wr u 15 (u.2 p) o) (up2 t 5 (r p) o) := by
    refine ⟨h1, h2, h3, h4, h5, h7, fun i hi => ?_⟩
    obtain ⟨g1, g2, g3, g4, g5, g6, g7, g8⟩ := h8 i hi
    refine ⟨g1, g2, ?_, g4, g5, g6, g7, g8⟩
    show upd (u.1 15) (u.2 p) o (u.2 i) = upd (t 5) (r p) o (r i)
    by_cases e : i = p
    · subst e
      rw [pk_us, pk_us]
    · rw [pk_un (hid i hi e), pk_un (hq i hi e)]
      exact g3
  have hX : SX n p (wr u 15 (u.2 p) o) := by
    intro i j hij hj hi' hj'
    have hb := (h'.so hN') i j hij hj
    rw [kBefore_iff] at hb ⊢
    show (upd (u.1 15) (u.2 p) o (u.2 i) < upd (u.1 15) (u.2 p) o (u.2 j) ∨ (upd (u.1 15) (u.2 p) o (u.2 i) = upd (u.1 15) (u.2 p) o (u.2 j) ∧ u.1 13 (u.2 i) < u.1 13 (u.2 j)))
    rw [pk_un (hid i (by omega) hi'), pk_un (hid j hj hj')]
    exact hb
  have hN1 : NM n v (up2 t 5 (r p) o) := hN'
  obtain ⟨s1, r', k', s2⟩ := hRM.settle hN1 hp hX
  refine ⟨r', k', by rw [hm]; exact s2, hN1, by rw [hm]; exact PI.po h1 (u := wr u 15 (u.2 p) o) hP s1, fun k' hk => ?_⟩
  rw [hm, s1.1]
  simp only [wr, up2]
  rw [if_neg hk]
/-! remove -/
theorem take_spec {n : Nat} (hn : n < 6) : ∀ (f a : Nat) (u : SC), u.1 6 0 = nI n → a ≤ n → n - a < f →
    (kTakeL f u (nI a)).1 = u.1 ∧ PO 6 u (kTakeL f u (nI a)) ∧ ∀ i, (kTakeL f u (nI a)).2 i = if i < a then u.2 i else if i < n then u.2 (i + 1) else if i = n then u.2 a else u.2 i
  | 0, a, u, _, _, h => by omega
  | f + 1, a, u, h6, ha, hf => by
    unfold kTakeL
    rw [h6]
    by_cases hna : n ≤ a
    · rw [if_pos ((nle (by omega) (by omega)).mpr hna)]
      refine ⟨rfl, PO.rf _ _, fun i => ?_⟩
      have : a = n := by omega
      subst this
      by_cases h1 : i < a
      · rw [if_pos h1]
      · rw [if_neg h1, if_neg h1]
        by_cases h2 : i = a
        · rw [if_pos h2, h2]
        · rw [if_neg h2]
    · rw [if_neg (fun h => hna ((nle (by omega) (by omega)).mp h)), nI_1]
      obtain ⟨s1, s2⟩ := swap_at u (p := a) (by omega)
      obtain ⟨q1, q2, q3⟩ := take_spec hn f (a + 1) (kSwap u (nI a)) h6 (by omega) (by omega)
      refine ⟨q1, (PO.swap (u := u) (n := 6) (by omega) (p := a) (by omega)).tr q2, fun i => ?_⟩
      rw [q3 i]
      by_cases c1 : i < a
      · rw [if_pos (by omega), if_pos c1, s2 i, if_neg (by omega), if_neg (by omega)]
      · by_cases c2 : i = a
        · subst c2
          rw [if_pos (by omega), if_neg (by omega), if_pos (by omega), s2 i, if_pos rfl]
        · rw [if_neg (by omega : ¬ i < a + 1), if_neg c1]
          by_cases c3 : i < n
          · rw [if_pos c3, if_pos c3, s2 (i + 1), if_neg (by omega), if_neg (by omega)]
          · rw [if_neg c3, if_neg c3]
            by_cases c4 : i = n
            · rw [if_pos c4, if_pos c4, s2 (a + 1), if_neg (by omega), if_pos rfl]
            · rw [if_neg c4, if_neg c4, s2 i, if_neg c2, if_neg (by omega)]
def shf (f : Nat → Int32) (a n : Nat) : Nat → Int32 := fun i => if i < a then f i else if i < n then f (i + 1) else f i
theorem shf_step {f : Nat → Int32} {a n : Nat} (h : a < n) : shf (upd f a (f (a + 1))) (a + 1) n = shf f a n := by
  funext i
  unfold shf
  by_cases c1 : i < a
  · rw [if_pos (by omega), if_pos c1, pk_un (by omega)]
  · rw [if_neg c1]
    by_cases c2 : i = a
    · subst c2
      rw [if_pos (by omega), if_pos h, pk_us]
    · rw [if_neg (by omega)]
      by_cases c3 : i < n
      · rw [if_pos c3, if_pos c3, pk_un (by omega)]
      · rw [if_neg c3, if_neg c3, pk_un (by omega)]
theorem shift_spec {n : Nat} (hn : n < 6) : ∀ (f a : Nat) (t : M2), t 0 0 = nI n → a ≤ n → n - a < f → (∀ i, i < 6 → vp_nar .boolean (t 9 i) = t 9 i) →
    qShiftL f t (nI a) = fun k => if 3 ≤ k ∧ k ≤ 11 then shf (t k) a n else t k
  | 0, a, t, _, _, h, _ => by omega
  | f + 1, a, t, h0, ha, hf, hz => by
    unfold qShiftL
    rw [h0]
    by_cases hna : n ≤ a
    · rw [if_pos ((nle (by omega) (by omega)).mpr hna)]
      funext k i
      by_cases hk : 3 ≤ k ∧ k ≤ 11
      · rw [if_pos hk]
        unfold shf
        by_cases c1 : i < a
        · rw [if_pos c1]
        · rw [if_neg c1, if_neg (by omega)]
      · rw [if_neg hk]
    · rw [if_neg (fun h => hna ((nle (by omega) (by omega)).mp h)), nI_1]
      have e : qShift t (nI a) = fun k => if 3 ≤ k ∧ k ≤ 11 then upd (t k) a (t k (a + 1)) else t k := by
        unfold qShift
        rw [nI_1, ixn (by omega : a < 1000), ixn (by omega : a + 1 < 1000), hz (a + 1) (by omega)]
        funext k
        by_cases hk : 3 ≤ k ∧ k ≤ 11
        · rw [if_pos hk]
          have : k = 3 ∨ k = 4 ∨ k = 5 ∨ k = 6 ∨ k = 7 ∨ k = 8 ∨ k = 9 ∨ k = 10 ∨ k = 11 := by omega
          rcases this with rfl | rfl | rfl | rfl | rfl | rfl | rfl | rfl | rfl <;> rfl
        · rw [if_neg hk]
          simp only [up2]
          rw [if_neg (by omega), if_neg (by omega), if_neg (by omega), if_neg (by omega), if_neg (by omega), if_neg (by omega), if_neg (by omega), if_neg (by omega), if_neg (by omega)]
      rw [shift_spec hn f (a + 1) (qShift t (nI a)) (by rw [e]; exact h0) (by omega) (by omega) (fun i hi => ?_), e]
      · funext k
        by_cases hk : 3 ≤ k ∧ k ≤ 11
        · simp only [if_pos hk]
          exact shf_step (by omega)
        · simp only [if_neg hk]
      · rw [e]
        show vp_nar .boolean (upd (t 9) a (t 9 (a + 1)) i) = upd (t 9) a (t 9 (a + 1)) i
        by_cases c : i = a
        · subst c
          rw [pk_us]; exact hz _ (by omega)
        · rw [pk_un c]; exact hz i hi
theorem remove_ra {n v p : Nat} {r k : Nat → Nat} {u : SC} {t : M2} (h : RA (n + 1) r k u t) (hN : NM (n + 1) v t) (hP : PI u) (hp : p < n + 1) (hz : ∀ i, i < 6 → vp_nar .boolean (t 9 i) = t 9 i) :
    ∃ r' k', RA n r' k' (kTakeAway u (nI p)) (qShiftL 7 (up2 t 0 0 (t 0 0 - 1)) (nI (r p))) ∧ NM n v (qShiftL 7 (up2 t 0 0 (t 0 0 - 1)) (nI (r p))) ∧ PI (kTakeAway u (nI p)) ∧ (∀ k', ¬ k' = 6 → (kTakeAway u (nI p)).1 k' = u.1 k') ∧ ∀ k', (k' = 1 ∨ k' = 2 ∨ 11 < k') → qShiftL 7 (up2 t 0 0 (t 0 0 - 1)) (nI (r p)) k' = t k' := by
  have hN' := hN
  have h' := h
  obtain ⟨h1, h2, h3, h4, h5, h7, h8, h9⟩ := h
  have hrp := h4 p hp
  have hkt : kTakeAway u (nI p) = kTakeL 7 (wr u 6 0 (nI n)) (nI p) := by
    unfold kTakeAway
    rw [h2, nI_pred]
  have hqt : up2 t 0 0 (t 0 0 - 1) = up2 t 0 0 (nI n) := by rw [h3, nI_pred]
  obtain ⟨t1, t2, t3⟩ := take_spec (n := n) (by omega) 7 p (wr u 6 0 (nI n)) rfl (by omega) (by omega)
  have s1 := shift_spec (n := n) (by omega) 7 (r p) (up2 t 0 0 (nI n)) rfl (by omega) (by omega) hz
  rw [hkt, hqt]
  have sk : ∀ k, 3 ≤ k → k ≤ 11 → qShiftL 7 (up2 t 0 0 (nI n)) (nI (r p)) k = shf (t k) (r p) n := by
    intro k hk1 hk2
    rw [s1]
    dsimp only
    rw [if_pos ⟨hk1, hk2⟩]
    unfold up2
    rw [if_neg (by omega)]
  have hu : ∀ i, i < n → (kTakeL 7 (wr u 6 0 (nI n)) (nI p)).2 i = u.2 (if i < p then i else i + 1) := by
    intro i hi
    rw [t3 i]
    by_cases c : i < p
    · rw [if_pos c, if_pos c]; rfl
    · rw [if_neg c, if_pos hi, if_neg c]; rfl
  have hj : ∀ i, i < n → (if i < p then i else i + 1) < n + 1 ∧ (if i < p then i else i + 1) ≠ p := by
    intro i hi
    by_cases c : i < p
    · rw [if_pos c]; omega
    · rw [if_neg c]; omega
  have hs : ∀ (f : Nat → Int32) (x : Nat), x < n + 1 → x ≠ r p → shf f (r p) n (if x < r p then x else x - 1) = f x := by
    intro f x hx hne
    unfold shf
    by_cases c : x < r p
    · rw [if_pos c, if_pos c]
    · rw [if_neg c, if_neg (by omega), if_pos (by omega), show x - 1 + 1 = x by omega]
  have hrj : ∀ i, i < n → r (if i < p then i else i + 1) < n + 1 ∧ r (if i < p then i else i + 1) ≠ r p := fun i hi => ⟨h4 _ (hj i hi).1, fun e => (hj i hi).2 (h5 _ _ (hj i hi).1 hp e)⟩
  have hmono : ∀ x y, x < n + 1 → y < n + 1 → x ≠ r p → y ≠ r p → x < y → (if x < r p then x else x - 1) < (if y < r p then y else y - 1) := by
    intro x y hx hy h1 h2 h3
    by_cases c1 : x < r p
    · by_cases c2 : y < r p
      · rw [if_pos c1, if_pos c2]; exact h3
      · rw [if_pos c1, if_neg c2]; omega
    · rw [if_neg c1, if_neg (by omega)]; omega
  have hN1 : NM n v (qShiftL 7 (up2 t 0 0 (nI n)) (nI (r p))) := by
    rw [s1]
    obtain ⟨hv, nm, m1, m2⟩ := hN'
    refine ⟨hv, fun a => nm (if a < r p then a else a + 1), fun a ha => ?_, fun a b hab hb => ?_⟩
    · dsimp only
      rw [if_pos (by omega)]
      unfold shf
      by_cases c : a < r p
      · rw [if_pos c, if_pos c]; exact m1 a (by omega)
      · rw [if_neg c, if_pos ha, if_neg c]; exact m1 (a + 1) (by omega)
    · dsimp only
      refine m2 _ _ ?_ ?_
      · by_cases c1 : a < r p
        · by_cases c2 : b < r p
          · rw [if_pos c1, if_pos c2]; exact hab
          · rw [if_pos c1, if_neg c2]; omega
        · rw [if_neg c1, if_neg (by omega)]; omega
      · by_cases c2 : b < r p
        · rw [if_pos c2]; omega
        · rw [if_neg c2]; omega
  refine ⟨fun i => if r (if i < p then i else i + 1) < r p then r (if i < p then i else i + 1) else r (if i < p then i else i + 1) - 1, fun q => if k (if q < r p then q else q + 1) < p then k (if q < r p then q else q + 1) else k (if q < r p then q else q + 1) - 1, ?_, hN1, ?_, ?_, ?_⟩
  · refine RM.ra ⟨by omega, by rw [t1]; rfl, by rw [s1]; rfl, fun i hi => ?_, fun i j hi hj' he => ?_, fun q hq => ?_, fun i hi => ?_⟩ (fun i j hij hj' => ?_)
    · obtain ⟨g1, g2⟩ := hrj i hi
      dsimp only
      by_cases c : r (if i < p then i else i + 1) < r p
      · rw [if_pos c]; omega
      · rw [if_neg c]; omega
    · obtain ⟨g1, g2⟩ := hrj i hi
      obtain ⟨g3, g4⟩ := hrj j hj'
      dsimp only at he
      have e : r (if i < p then i else i + 1) = r (if j < p then j else j + 1) := by
        rcases Nat.lt_trichotomy (r (if i < p then i else i + 1)) (r (if j < p then j else j + 1)) with c | c | c
        · have := hmono _ _ g1 g3 g2 g4 c; omega
        · exact c
        · have := hmono _ _ g3 g1 g4 g2 c; omega
      have e2 := h5 _ _ (hj i hi).1 (hj j hj').1 e
      by_cases c1 : i < p
      · by_cases c2 : j < p
        · rw [if_pos c1, if_pos c2] at e2; exact e2
        · rw [if_pos c1, if_neg c2] at e2; omega
      · by_cases c2 : j < p
        · rw [if_neg c1, if_pos c2] at e2; omega
        · rw [if_neg c1, if_neg c2] at e2; omega
    · have hq' : (if q < r p then q else q + 1) < n + 1 ∧ (if q < r p then q else q + 1) ≠ r p := by
        by_cases c : q < r p
        · rw [if_pos c]; omega
        · rw [if_neg c]; omega
      obtain ⟨g1, g2⟩ := h7 _ hq'.1
      have g3 : k (if q < r p then q else q + 1) ≠ p := fun e => hq'.2 (by rw [← g2, e])
      have e1 : (if (if k (if q < r p then q else q + 1) < p then k (if q < r p then q else q + 1) else k (if q < r p then q else q + 1) - 1) < p then (if k (if q < r p then q else q + 1) < p then k (if q < r p then q else q + 1) else k (if q < r p then q else q + 1) - 1) else (if k (if q < r p then q else q + 1) < p then k (if q < r p then q else q + 1) else k (if q < r p then q else q + 1) - 1) + 1) = k (if q < r p then q else q + 1) := by
        by_cases c : k (if q < r p then q else q + 1) < p
        · rw [if_pos c, if_pos c]
        · rw [if_neg c, if_neg (by omega)]; omega
      dsimp only
      refine ⟨?_, ?_⟩
      · by_cases c : k (if q < r p then q else q + 1) < p
        · rw [if_pos c]; omega
        · rw [if_neg c]; omega
      · rw [e1, g2]
        by_cases c : q < r p
        · rw [if_pos c, if_pos c]
        · rw [if_neg c, if_neg (by omega)]; omega
    · obtain ⟨g1, g2⟩ := hrj i hi
      rw [t1, hu i hi, sk 3 (by omega) (by omega), sk 4 (by omega) (by omega), sk 5 (by omega) (by omega), sk 6 (by omega) (by omega), sk 7 (by omega) (by omega), sk 8 (by omega) (by omega), sk 9 (by omega) (by omega), sk 10 (by omega) (by omega), sk 11 (by omega) (by omega)]
      dsimp only
      rw [hs _ _ g1 g2, hs _ _ g1 g2, hs _ _ g1 g2, hs _ _ g1 g2, hs _ _ g1 g2, hs _ _ g1 g2, hs _ _ g1 g2, hs _ _ g1 g2, hs _ _ g1 g2]
      exact h8 _ (hj i hi).1
    · obtain ⟨g1, g2⟩ := hrj i (by omega)
      obtain ⟨g3, g4⟩ := hrj j hj'
      rw [sk 5 (by omega) (by omega)]
      rw [hs _ _ g1 g2, hs _ _ g3 g4]
      have hlt : (if i < p then i else i + 1) < (if j < p then j else j + 1) := by
        by_cases c1 : i < p
        · by_cases c2 : j < p
          · rw [if_pos c1, if_pos c2]; exact hij
          · rw [if_pos c1, if_neg c2]; omega
        · rw [if_neg c1, if_neg (by omega)]; omega
      rcases h9 _ _ hlt (hj j hj').1 with c | ⟨c1, c2⟩
      · exact Or.inl c
      · exact Or.inr ⟨c1, hmono _ _ g1 g3 g2 g4 c2⟩
  · exact PI.po (n := 6) (Nat.le_refl _) (u := wr u 6 0 (nI n)) hP t2
  · intro k' hk
    rw [t1]
    simp only [wr, up2]
    rw [if_neg hk]
  · intro k' hk
    rw [s1]
    dsimp only
    rw [if_neg (by omega)]
    simp only [up2]
    rw [if_neg (by omega)]
end
section
/-! pure rows: the class's recursion and the reference's loop -/
def okBack (t : M2) : Prop := ∃ w, w < 30 ∧ t 29 0 = nI (w + 1) ∧ (t 30 w = 9 ∨ (t 30 w = 8 ∧ ∃ j, j < 12 ∧ t 32 w = nI j) ∨ (¬ t 30 w = 9 ∧ ¬ t 30 w = 8 ∧ ∃ j, j < 6 ∧ t 32 w = nI j ∧ (¬ t 30 w = 6 → 5 ≤ t 30 w → 0 ≤ t 7 j)))
def okStep (t : M2) : Prop := ∃ d w, 1 ≤ d ∧ d ≤ 3 ∧ t 26 0 = nI d ∧ w ≤ 28 ∧ t 29 0 = nI w ∧ (∃ a, a < 6 ∧ t 27 d = nI a) ∧ ∃ a, a < 2 ∧ t 28 d = nI a
def okRun (t : M2) : Prop := qMore t = true ∧ (∃ n, n ≤ 6 ∧ t 0 0 = nI n) ∧ (∃ n, n ≤ 100 ∧ t 19 0 = nI n) ∧ (t 36 0 = 0 → okBack t) ∧ (¬ t 36 0 = 0 → okStep t)
theorem qIt_add : ∀ (a b : Nat) (t : M2), qIt (a + b) t = qIt b (qIt a t)
  | 0, b, t => by rw [Nat.zero_add]; rfl
  | a + 1, b, t => by rw [show a + 1 + b = (a + b) + 1 by omega]; exact qIt_add a b (qRun t)
/-- the reference's loop comes from t to t', and each turn is within its bounds -/
def Rch (t t' : M2) : Prop := ∃ N, (∀ i, i < N → okRun (qIt i t)) ∧ qIt N t = t'
theorem Rch.rf (t : M2) : Rch t t := ⟨0, fun _ h => absurd h (by omega), rfl⟩
theorem Rch.one {t : M2} (h : okRun t) : Rch t (qRun t) := ⟨1, fun i hi => by rw [show i = 0 by omega]; exact h, rfl⟩
theorem Rch.tr {t t' t'' : M2} (h : Rch t t') (h2 : Rch t' t'') : Rch t t'' := by
  obtain ⟨a, a1, a2⟩ := h
  obtain ⟨b, b1, b2⟩ := h2
  refine ⟨a + b, fun i hi => ?_, by rw [qIt_add, a2, b2]⟩
  by_cases c : i < a
  · exact a1 i c
  · rw [show i = a + (i - a) by omega, qIt_add, a2]
    exact b1 _ (by omega)
/-- what stays on the class's side, and on the reference's -/
def Stat (u u' : SC) : Prop := u'.2 = u.2 ∧ ∀ k, (k = 0 ∨ k = 1 ∨ k = 6 ∨ k = 7 ∨ 13 ≤ k) → u'.1 k = u.1 k
def StatM (t t' : M2) : Prop := ∀ k, k ≤ 17 → t' k = t k
theorem Stat.rf (u : SC) : Stat u u := ⟨rfl, fun _ _ => rfl⟩
theorem Stat.tr {u v w : SC} (h : Stat u v) (h2 : Stat v w) : Stat u w := ⟨h2.1.trans h.1, fun k hk => (h2.2 k hk).trans (h.2 k hk)⟩
theorem StatM.rf (t : M2) : StatM t t := fun _ _ => rfl
theorem StatM.tr {u v w : M2} (h : StatM u v) (h2 : StatM v w) : StatM u w := fun k hk => (h2 k hk).trans (h k hk)
theorem Stat.wr {u v : SC} (h : Stat u v) {k i : Nat} {x : Int32} (hk : k = 2 ∨ k = 3 ∨ k = 4 ∨ k = 5 ∨ (8 ≤ k ∧ k ≤ 12)) : Stat u (wr v k i x) := ⟨h.1, fun k' hk' => by
  show up2 v.1 k i x k' = _
  unfold up2
  rw [if_neg (by omega)]
  exact h.2 k' hk'⟩
theorem StatM.up {t v : M2} (h : StatM t v) {k i : Nat} {x : Int32} (hk : 18 ≤ k) : StatM t (up2 v k i x) := fun k' hk' => by
  unfold up2
  rw [if_neg (by omega)]
  exact h k' hk'
/-- the trace, the counts and the turn agree -/
def RD (u : SC) (t : M2) : Prop := (∃ L, L ≤ 100 ∧ u.1 8 0 = nI L ∧ t 19 0 = nI L ∧ ∀ i, i < L → u.1 11 i = t 20 i ∧ u.1 12 i = t 21 i) ∧ u.1 3 0 = t 22 0 ∧ u.1 4 0 = t 23 0 ∧ u.1 2 0 = t 18 0
theorem note_same {u : SC} {t : M2} (h : RD u t) (a b : Int32) :
    (kNote u a b = (false, u) ∧ qNote t a b = up2 t 25 0 1) ∨
    ∃ L, L < 100 ∧ kNote u a b = (true, wr (wr (wr u 11 L a) 12 L b) 8 0 (nI (L + 1))) ∧ qNote t a b = up2 (up2 (up2 t 20 L a) 21 L b) 19 0 (nI (L + 1)) ∧ RD (wr (wr (wr u 11 L a) 12 L b) 8 0 (nI (L + 1))) (up2 (up2 (up2 t 20 L a) 21 L b) 19 0 (nI (L + 1))) := by
  obtain ⟨⟨L, h1, h2, h3, h4⟩, h5⟩ := h
  have e1 : (100 : Int32) = nI 100 := rfl
  unfold kNote qNote
  rw [h2, h3, e1]
  by_cases c : L = 100
  · subst c
    rw [if_pos ((nle (by omega) (by omega)).mpr (Nat.le_refl _)), if_pos rfl]
    exact Or.inl ⟨rfl, rfl⟩
  · rw [if_neg (fun z => c (by have := (nle (by omega) (by omega)).mp z; omega)), if_neg (fun z => c ((neq (by omega) (by omega)).mp z)), ixn (by omega : L < 1000), nI_1]
    refine Or.inr ⟨L, by omega, rfl, rfl, ⟨L + 1, by omega, rfl, rfl, fun i hi => ?_⟩, h5⟩
    show upd (u.1 11) L a i = upd (t 20) L a i ∧ upd (u.1 12) L b i = upd (t 21) L b i
    by_cases ci : i = L
    · subst ci
      rw [pk_us, pk_us, pk_us, pk_us]
      exact ⟨rfl, rfl⟩
    · rw [pk_un ci, pk_un ci, pk_un ci, pk_un ci]
      exact h4 i (by omega)
/-- the fixed part of both sides while an invocation runs -/
def SR (n : Nat) (r k : Nat → Nat) (u : SC) (t : M2) : Prop :=
  RA n r k u t ∧ u.1 1 0 = t 17 0 ∧ (∀ j, j < 12 → u.1 22 j = t 12 j ∧ u.1 23 j = t 13 j ∧ u.1 24 j = t 14 j ∧ u.1 25 j = t 15 j ∧ u.1 26 j = t 16 j) ∧
  (∀ j, j < 12 → ∃ e, e ≤ 15 ∧ t 15 j = nI e) ∧ (∀ j, j < 12 → t 16 j = -1 ∨ ∃ e, e < 6 ∧ t 16 j = nI e) ∧ (∃ e, e < 3 ∧ t 17 0 = nI e) ∧
  (∀ q, q < n → ∃ e, e < 8 ∧ t 4 q = nI e) ∧ (∀ q, q < n → qFits (t 4 q) (t 7 q) (t 8 q) = true)
theorem RA.stat {n : Nat} {r k : Nat → Nat} {u u' : SC} {t t' : M2} (h : RA n r k u t) (hu : Stat u u') (ht : StatM t t') : RA n r k u' t' := by
  obtain ⟨h1, h2, h3, h4, h5, h7, h8, h9⟩ := h
  refine ⟨h1, by rw [hu.2 6 (by omega)]; exact h2, by rw [ht 0 (by omega)]; exact h3, h4, h5, h7, fun i hi => ?_, fun i j hij hj => ?_⟩
  · rw [hu.1, hu.2 13 (by omega), hu.2 14 (by omega), hu.2 15 (by omega), hu.2 16 (by omega), hu.2 17 (by omega), hu.2 18 (by omega), hu.2 19 (by omega), hu.2 20 (by omega), hu.2 21 (by omega), ht 3 (by omega), ht 4 (by omega), ht 5 (by omega), ht 6 (by omega), ht 7 (by omega), ht 8 (by omega), ht 9 (by omega), ht 10 (by omega), ht 11 (by omega)]
    exact h8 i hi
  · rw [ht 5 (by omega)]
    exact h9 i j hij hj
theorem SR.stat {n : Nat} {r k : Nat → Nat} {u u' : SC} {t t' : M2} (h : SR n r k u t) (hu : Stat u u') (ht : StatM t t') : SR n r k u' t' := by
  obtain ⟨h1, h2, h3, h4, h5, h6, h7, h8⟩ := h
  refine ⟨h1.stat hu ht, ?_, ?_, ?_, ?_, ?_, ?_, ?_⟩
  · rw [hu.2 1 (by omega), ht 17 (by omega)]; exact h2
  · rw [hu.2 22 (by omega), hu.2 23 (by omega), hu.2 24 (by omega), hu.2 25 (by omega), hu.2 26 (by omega), ht 12 (by omega), ht 13 (by omega), ht 14 (by omega), ht 15 (by omega), ht 16 (by omega)]; exact h3
  · rw [ht 15 (by omega)]; exact h4
  · rw [ht 16 (by omega)]; exact h5
  · rw [ht 17 (by omega)]; exact h6
  · rw [ht 4 (by omega)]; exact h7
  · rw [ht 4 (by omega), ht 7 (by omega), ht 8 (by omega)]; exact h8
def IC (u : SC) : Prop :=
  (∃ n, n ≤ 6 ∧ u.1 6 0 = nI n) ∧ (∃ n, n ≤ 100 ∧ u.1 8 0 = nI n) ∧ (∀ i, i < 6 → u.2 i < 6) ∧ (∀ d, d < 3 → ∃ n, n < 6 ∧ u.1 9 d = nI n) ∧ (∀ d, d < 3 → ∃ n, n < 2 ∧ u.1 10 d = nI n) ∧ (∃ n, n < 3 ∧ u.1 1 0 = nI n) ∧ (∃ n, n < 2 ∧ u.1 2 0 = nI n) ∧ (∀ j, j < 12 → u.1 26 j = -1 ∨ ∃ n, n < 6 ∧ u.1 26 j = nI n)
theorem IC_note {u : SC} (h : IC u) (a b : Int32) : IC (kNote u a b).2 := by
  obtain ⟨h6, ⟨n, hn, e⟩, hr⟩ := h
  unfold kNote
  by_cases c : (100 : Int32) ≤ u.1 8 0
  · rw [if_pos c]
    exact ⟨h6, ⟨n, hn, e⟩, hr⟩
  · rw [if_neg c]
    have c2 : n < 100 := by
      rw [e, show (100 : Int32) = nI 100 from rfl, nle (by omega) (by omega)] at c
      omega
    exact ⟨h6, ⟨n + 1, c2, by show u.1 8 0 + 1 = _; rw [e, nI_1]⟩, hr⟩
theorem IC_take {u : SC} (h : IC u) : IC (kTake u).2 ∧ ∃ n, n < 2 ∧ (kTake u).1 = nI n := by
  obtain ⟨h1, h2, h3, h4, h5, ⟨a, ha, ea⟩, ⟨b, hb, eb⟩, h8⟩ := h
  unfold kTake
  by_cases c : u.1 1 0 = 2
  · rw [if_pos c]
    refine ⟨⟨h1, h2, h3, h4, h5, ⟨a, ha, ea⟩, ⟨1 - b, by omega, ?_⟩, h8⟩, b, hb, eb⟩
    show 1 - u.1 2 0 = _
    rw [eb]
    have : b = 0 ∨ b = 1 := by omega
    rcases this with rfl | rfl <;> rfl
  · rw [if_neg c]
    refine ⟨⟨h1, h2, h3, h4, h5, ⟨a, ha, ea⟩, ⟨b, hb, eb⟩, h8⟩, a, ?_, ea⟩
    have : ¬ a = 2 := fun z => c (by rw [ea, z]; rfl)
    omega
theorem IC_set9 {u : SC} (h : IC u) (i : Nat) {m : Nat} (hm : m < 6) : IC (wr u 9 i (nI m)) := by
  obtain ⟨h1, h2, h3, h4, hr⟩ := h
  refine ⟨h1, h2, h3, fun d hd => ?_, hr⟩
  show ∃ n, n < 6 ∧ upd (u.1 9) i (nI m) d = nI n
  by_cases c : d = i
  · subst c
    exact ⟨m, hm, pk_us⟩
  · rw [pk_un c]; exact h4 d hd
theorem IC_set10 {u : SC} (h : IC u) (i : Nat) {m : Nat} (hm : m < 2) : IC (wr u 10 i (nI m)) := by
  obtain ⟨h1, h2, h3, h4, h5, hr⟩ := h
  refine ⟨h1, h2, h3, h4, fun d hd => ?_, hr⟩
  show ∃ n, n < 2 ∧ upd (u.1 10) i (nI m) d = nI n
  by_cases c : d = i
  · subst c
    exact ⟨m, hm, pk_us⟩
  · rw [pk_un c]; exact h5 d hd
/-- go keeps the bounds -/
def GoD (go : Go) (d : Int32) : Prop := ∀ (f x : Int32) (u : SC), IC u → IC (go d f x u).2
theorem IC_begin {go : Go} {d : Int32} (hg : ¬ 3 ≤ d → GoD go d) {m : Nat} (hm : m < 6) (a : Int32) {u : SC} (h : IC u) : IC (kBegin go (nI m) a d u).2 := by
  unfold kBegin
  by_cases c : (3 : Int32) ≤ d
  · rw [if_pos c]; exact h
  · rw [if_neg c]
    obtain ⟨h1, n, hn, e⟩ := IC_take (IC_set9 h (ix d) hm)
    refine hg c _ _ _ ?_
    rw [e]
    exact IC_set10 h1 _ hn
theorem IC_work {go : Go} {d : Int32} (hg : ¬ 3 ≤ d + 1 → GoD go (d + 1)) (x : Int32) {j : Nat} (hj : j < 12) {n : Bool × SC} (h : IC n.2) : IC (kWorkR go j d x n).2 := by
  unfold kWorkR
  split
  · exact h
  · split
    · exact h
    · split
      · exact h
      · split
        · exact h
        · rename_i c1 c2
          rcases h.2.2.2.2.2.2.2 j hj with e | ⟨m, hm, e⟩
          · exact absurd e c1
          · rw [e]
            have hb := IC_begin hg hm (x - 1) h
            split
            · exact hb
            · exact hb
theorem IC_bef {go : Go} {d : Int32} (hg : GoD go d) (k : Nat) (b x : Int32) {u : SC} (h : IC u) : IC (kBef go k d b x u).2 := by
  have hn := IC_note h (u.1 13 k) x
  unfold kBef
  dsimp only
  split
  · exact hn
  · split
    · exact hn
    · exact hg _ _ _ hn
theorem IC_chg {go : Go} {d : Int32} (hg : GoD go d) (k : Nat) (b x : Int32) {u : SC} (h : IC u) : IC (kChg go k d b x u).2 := by
  have hn := IC_note h (u.1 13 k) x
  unfold kChg
  dsimp only
  split
  · exact hn
  · have h2 := hg b (x + (kNote u (u.1 13 k) x).2.1 17 k) _ hn
    split
    · exact h2
    · exact h2
theorem IC_skp {go : Go} {d : Int32} (hg : GoD go d) (k : Nat) (b x : Int32) {u : SC} (h : IC u) : IC (kSkp go k d b x u).2 := by
  have hn := IC_note h (u.1 13 k) x
  unfold kSkp
  dsimp only
  split
  · exact hn
  · split
    · exact hn
    · exact hg _ _ _ hn
theorem IC_twi {go : Go} {d : Int32} (hg : GoD go d) (k : Nat) (b x : Int32) {u : SC} (h : IC u) : IC (kTwi go k d b x u).2 := by
  have hn := IC_note h (u.1 13 k) x
  unfold kTwi
  dsimp only
  split
  · exact hn
  · have h2 := hg b x _ hn
    split
    · have h3 := hg b (x + (go d b x (kNote u (u.1 13 k) x).2).2.1 17 k) _ h2
      split
      · exact h3
      · exact h3
    · exact h2
theorem IC_ret {go : Go} {d : Int32} (hg : GoD go d) (k : Nat) (b x : Int32) {u : SC} (h : IC u) : IC (kRet go k d b x u).2 := by
  have h2 := hg b x _ h
  unfold kRet
  dsimp only
  split
  · have hn := IC_note h2 ((go d b x u).2.1 13 k) ((go d b x u).2.1 5 0)
    split
    · exact hn
    · split
      · exact hn
      · exact hn
  · exact h2
theorem IC_thr {go : Go} {d : Int32} (hg : GoD go d) (k : Nat) (b x : Int32) {u : SC} (h : IC u) : IC (kThr go k d b x u).2 := by
  have h2 := hg b x _ h
  unfold kThr
  dsimp only
  split
  · split
    · exact h2
    · have hn := IC_note h2 ((go d b x u).2.1 13 k) ((go d b x u).2.1 5 0)
      split
      · exact hn
      · split
        · exact hn
        · exact hn
  · exact h2
theorem IC_fin {go : Go} {d : Int32} (hg : GoD go d) (k : Nat) (b x : Int32) {u : SC} (h : IC u) : IC (kFin go k d b x u).2 := by
  have h2 := hg b x _ h
  unfold kFin
  dsimp only
  split
  · exact h2
  · have hn := IC_note h2 ((go d b x u).2.1 13 k) x
    split
    · exact hn
    · split
      · exact hn
      · exact hn
theorem IC_rec {go : Go} {d : Int32} (hg : GoD go d) (k : Nat) (b x : Int32) {u : SC} (h : IC u) : IC (kRec go k d b x u).2 := by
  have h2 := hg b x _ h
  unfold kRec
  dsimp only
  split
  · split
    · exact h2
    · have hn := IC_note h2 ((go d b x u).2.1 13 k) ((go d b x u).2.1 5 0)
      split
      · exact hn
      · exact hn
  · exact h2
theorem IC_act {go : Go} {d : Int32} (hg : GoD go d) (k : Nat) (b x : Int32) {u : SC} (h : IC u) : IC (kAct go k d b x u).2 := by
  unfold kAct
  split
  · exact IC_bef hg k b x h
  · split
    · exact IC_chg hg k b x h
    · split
      · exact IC_skp hg k b x h
      · split
        · exact IC_twi hg k b x h
        · split
          · exact IC_ret hg k b x h
          · split
            · exact IC_thr hg k b x h
            · split
              · exact IC_fin hg k b x h
              · exact IC_rec hg k b x h
theorem IC_along {go : Go} {dd : Nat} (hd : dd < 3) (hg : ∀ d, d < 3 → GoD go (nI d)) (f x : Int32) {u : SC} (h : IC u) : IC (kAlong go (nI dd) f x u).2 := by
  unfold kAlong
  dsimp only
  split
  · unfold kWork
    obtain ⟨a, ha, ea⟩ := h.2.2.2.1 dd hd
    obtain ⟨b, hb, eb⟩ := h.2.2.2.2.1 dd hd
    refine IC_work (fun c => ?_) x ?_ (IC_note h _ _)
    · rw [nI_1] at c ⊢
      refine hg (dd + 1) ?_
      rw [show (3 : Int32) = nI 3 from rfl, nle (by omega) (by omega)] at c
      omega
    · rw [ixn (by omega : dd < 1000), ea, eb, show (6 : Int32) = nI 6 from rfl, pk_mul, nI_add, ixn (by omega)]
      omega
  · split
    · exact IC_act (hg dd hd) _ _ _ h
    · split
      · exact IC_act (hg dd hd) _ _ _ h
      · exact hg dd hd _ _ _ h
theorem IC_go : ∀ (n : Nat) (dd : Nat), dd < 3 → GoD (kGo n) (nI dd)
  | 0, _, _ => fun _ _ _ h => h
  | n + 1, dd, hd => fun f x _ h => IC_along hd (fun d hd => IC_go n d hd) f x h
end
section
/-! pure rows: one invocation on both sides -/
def AtA (dd ff : Nat) (x : Int32) (w : Nat) (u : SC) (t : M2) : Prop := t 25 0 = 0 ∧ t 36 0 = 1 ∧ t 37 0 = nI (cnt (fun j => kAdvises u (u.2 j) (u.1 9 dd)) ff) ∧ t 38 0 = x ∧ t 26 0 = nI (dd + 1) ∧ t 27 (dd + 1) = u.1 9 dd ∧ t 28 (dd + 1) = u.1 10 dd ∧ t 29 0 = nI w
def Kp (dd w : Nat) (t t' : M2) : Prop := (∀ i, i < w → t' 30 i = t 30 i ∧ t' 31 i = t 31 i ∧ t' 32 i = t 32 i ∧ t' 33 i = t 33 i ∧ t' 34 i = t 34 i ∧ t' 35 i = t 35 i) ∧ ∀ i, i ≤ dd + 1 → t' 27 i = t 27 i ∧ t' 28 i = t 28 i
def KpC (dd : Nat) (u u' : SC) : Prop := ∀ i, i ≤ dd → u'.1 9 i = u.1 9 i ∧ u'.1 10 i = u.1 10 i
theorem Kp.rf (dd w : Nat) (t : M2) : Kp dd w t t := ⟨fun _ _ => ⟨rfl, rfl, rfl, rfl, rfl, rfl⟩, fun _ _ => ⟨rfl, rfl⟩⟩
theorem Kp.tr {dd w : Nat} {t t' t'' : M2} (h : Kp dd w t t') (h2 : Kp dd w t' t'') : Kp dd w t t'' := by
  refine ⟨fun i hi => ?_, fun i hi => ?_⟩
  · obtain ⟨a1, a2, a3, a4, a5, a6⟩ := h.1 i hi
    obtain ⟨b1, b2, b3, b4, b5, b6⟩ := h2.1 i hi
    exact ⟨b1.trans a1, b2.trans a2, b3.trans a3, b4.trans a4, b5.trans a5, b6.trans a6⟩
  · exact ⟨(h2.2 i hi).1.trans (h.2 i hi).1, (h2.2 i hi).2.trans (h.2 i hi).2⟩
theorem Kp.less {dd w w' : Nat} {t t' : M2} (h : Kp dd w t t') (hw : w' ≤ w) : Kp dd w' t t' := ⟨fun i hi => h.1 i (by omega), h.2⟩
/-- what was written isn't in the kept part -/
theorem Kp.of {dd w : Nat} {t t' : M2} (h : ∀ k, k = 27 ∨ k = 28 ∨ (30 ≤ k ∧ k ≤ 35) → t' k = t k) : Kp dd w t t' := by
  refine ⟨fun i _ => ?_, fun i _ => ?_⟩
  · rw [h 30 (by omega), h 31 (by omega), h 32 (by omega), h 33 (by omega), h 34 (by omega), h 35 (by omega)]
    exact ⟨rfl, rfl, rfl, rfl, rfl, rfl⟩
  · rw [h 27 (by omega), h 28 (by omega)]
    exact ⟨rfl, rfl⟩
theorem KpC.rf (dd : Nat) (u : SC) : KpC dd u u := fun _ _ => ⟨rfl, rfl⟩
theorem KpC.tr {dd : Nat} {u v w : SC} (h : KpC dd u v) (h2 : KpC dd v w) : KpC dd u w := fun i hi => ⟨(h2 i hi).1.trans (h i hi).1, (h2 i hi).2.trans (h i hi).2⟩
/-- how a part of an invocation ends on both sides -/
def End (dd w : Nat) (o : Int32) (u' : SC) (t' : M2) : Prop := t' 25 0 = 0 ∧ t' 36 0 = 0 ∧ t' 39 0 = o ∧ t' 40 0 = u'.1 5 0 ∧ t' 26 0 = nI (dd + 1) ∧ t' 29 0 = nI w ∧ (o = 0 ∨ (o = 1 ∧ ∃ e, 1 ≤ e ∧ e ≤ 15 ∧ u'.1 5 0 = nI e))
def Res (T : M2) (dd w : Nat) (u : SC) (t : M2) (o : Int32) (u' : SC) (t' : M2) : Prop :=
  Rch T t' ∧ Stat u u' ∧ StatM t t' ∧ RD u' t' ∧ IC u' ∧ ((o = 2 ∧ t' 25 0 = 1 ∧ u'.1 5 0 = 0) ∨ (End dd w o u' t' ∧ Kp dd w t t' ∧ KpC dd u u'))
theorem Res.pre {T T' : M2} {dd w : Nat} {u v u' : SC} {t s t' : M2} {o : Int32} (h1 : Rch T T') (h2 : Stat u v) (h3 : StatM t s) (h4 : Kp dd w t s) (h5 : KpC dd u v) (h : Res T' dd w v s o u' t') : Res T dd w u t o u' t' := by
  obtain ⟨a1, a2, a3, a4, a5, a6⟩ := h
  refine ⟨h1.tr a1, h2.tr a2, h3.tr a3, a4, a5, a6.imp id ?_⟩
  intro ⟨b1, b2, b3⟩
  exact ⟨b1, h4.tr b2, h5.tr b3⟩
def SimOK (n : Nat) (r k : Nat → Nat) (N : Nat) (go : Go) : Prop := ∀ (dd ff : Nat) (x : Int32) (w : Nat) (u : SC) (t : M2), dd < 3 → ff ≤ n → (2 - dd) * 7 + (6 - ff) < N → SR n r k u t → IC u → RD u t → AtA dd ff x w u t → w ≤ 8 * dd + 1 + ff →
  ∃ t', Res t dd w u t (go (nI dd) (nI ff) x u).1 (go (nI dd) (nI ff) x u).2 t'
theorem qAwait_at {t : M2} {w : Nat} (h : t 29 0 = nI w) (hw : w < 900) (a b : Int32) : qAwait t a b = up2 (up2 (up2 (up2 (up2 (up2 t 30 w a) 31 w (t 37 0)) 32 w b) 33 w (t 38 0)) 35 w 0) 29 0 (nI (w + 1)) := by
  unfold qAwait
  rw [h, ixn (by omega : w < 1000), nI_1]
theorem qBack_at {t : M2} {w : Nat} (h : t 29 0 = nI (w + 1)) (hw : w < 900) : qBack t = qBackR (up2 t 29 0 (nI w)) (t 30 w) (t 32 w) := by
  unfold qBack
  rw [h, nI_pred, ixn (by omega : w < 1000)]
theorem qRun_step {t : M2} (h : t 36 0 = 1) : qRun t = qStep t := by
  unfold qRun
  rw [if_neg (by rw [h]; decide)]
theorem qRun_back {t : M2} (h : t 36 0 = 0) : qRun t = qBack t := by
  unfold qRun
  rw [if_pos h]
/-- a turn of the loop that goes along -/
theorem ok_step {n dd w : Nat} {r k : Nat → Nat} {u : SC} {t : M2} (hd : dd < 3) (hS : SR n r k u t) (hI : IC u) (hD : RD u t) (h25 : t 25 0 = 0) (h36 : t 36 0 = 1) (h26 : t 26 0 = nI (dd + 1)) (h27 : t 27 (dd + 1) = u.1 9 dd) (h28 : t 28 (dd + 1) = u.1 10 dd) (h29 : t 29 0 = nI w) (hw : w ≤ 28) : okRun t := by
  have hne : ¬ t 36 0 = 0 := by rw [h36]; decide
  refine ⟨?_, ⟨n, hS.1.1, hS.1.2.2.1⟩, ?_, fun h => absurd h hne, fun _ => ⟨dd + 1, w, by omega, by omega, h26, hw, h29, by rw [h27]; exact hI.2.2.2.1 dd hd, by rw [h28]; exact hI.2.2.2.2.1 dd hd⟩⟩
  · unfold qMore
    rw [if_pos h25, if_neg hne]
  · obtain ⟨⟨L, h1, -, h3, -⟩, -⟩ := hD
    exact ⟨L, h1, h3⟩
/-- a turn of the loop that goes back -/
theorem ok_back {n w : Nat} {r k : Nat → Nat} {u : SC} {t : M2} (hS : SR n r k u t) (hD : RD u t) (h25 : t 25 0 = 0) (h36 : t 36 0 = 0) (h29 : t 29 0 = nI (w + 1)) (hw : w < 30) (h30 : t 30 w = 9 ∨ (t 30 w = 8 ∧ ∃ j, j < 12 ∧ t 32 w = nI j) ∨ (¬ t 30 w = 9 ∧ ¬ t 30 w = 8 ∧ ∃ j, j < 6 ∧ t 32 w = nI j ∧ (¬ t 30 w = 6 → 5 ≤ t 30 w → 0 ≤ t 7 j))) : okRun t := by
  refine ⟨?_, ⟨n, hS.1.1, hS.1.2.2.1⟩, ?_, fun _ => ⟨w, hw, h29, h30⟩, fun h => absurd h36 h⟩
  · unfold qMore
    rw [if_pos h25, if_pos h36, h29, if_neg (nI_nle (by omega) (by omega))]
  · obtain ⟨⟨L, h1, -, h3, -⟩, -⟩ := hD
    exact ⟨L, h1, h3⟩
/-- an entry is laid on the stack, and the way goes on -/
def psh (t : M2) (w : Nat) (kd q f x' : Int32) : M2 := qGo (up2 (up2 (up2 (up2 (up2 (up2 t 30 w kd) 31 w (t 37 0)) 32 w q) 33 w (t 38 0)) 35 w 0) 29 0 (nI (w + 1))) f x'
theorem psh_st {t : M2} {w : Nat} {kd q f x' : Int32} : StatM t (psh t w kd q f x') := ((((((((StatM.rf t).up (by omega)).up (by omega)).up (by omega)).up (by omega)).up (by omega)).up (by omega)).up (by omega)).up (by omega) |>.up (by omega)
theorem psh_kp {dd : Nat} {t : M2} {w : Nat} {kd q f x' : Int32} : Kp dd w t (psh t w kd q f x') := by
  refine ⟨fun i hi => ?_, fun i _ => ⟨rfl, rfl⟩⟩
  have h : ¬ i = w := by omega
  show upd _ _ _ _ = _ ∧ upd _ _ _ _ = _ ∧ upd _ _ _ _ = _ ∧ upd _ _ _ _ = _ ∧ _ ∧ upd _ _ _ _ = _
  rw [pk_un h, pk_un h, pk_un h, pk_un h, pk_un h]
  exact ⟨rfl, rfl, rfl, rfl, rfl, rfl⟩
theorem psh_at {t : M2} {w : Nat} {kd q f x' : Int32} : psh t w kd q f x' 30 w = kd ∧ psh t w kd q f x' 31 w = t 37 0 ∧ psh t w kd q f x' 32 w = q ∧ psh t w kd q f x' 33 w = t 38 0 ∧ psh t w kd q f x' 35 w = 0 := ⟨pk_us, pk_us, pk_us, pk_us, pk_us⟩
theorem push_sim {n N dd pp w : Nat} {r k : Nat → Nat} {go : Go} (hG : SimOK n r k N go) (hd : dd < 3) (hpp : pp < n) (hN : (2 - dd) * 7 + (6 - (pp + 1)) < N) (hw : w ≤ 8 * dd + 1 + pp) {u : SC} {t : M2} (hS : SR n r k u t) (hI : IC u) (hD : RD u t) (h25 : t 25 0 = 0) (h26 : t 26 0 = nI (dd + 1)) (h27 : t 27 (dd + 1) = u.1 9 dd) (h28 : t 28 (dd + 1) = u.1 10 dd)
    (h37 : t 37 0 = nI (cnt (fun j => kAdvises u (u.2 j) (u.1 9 dd)) pp)) (hB : kAdvises u (u.2 pp) (u.1 9 dd) = true) (kd q x' : Int32) :
    ∃ t3, Res (psh t w kd q (t 37 0 + 1) x') dd (w + 1) u (psh t w kd q (t 37 0 + 1) x') (go (nI dd) (nI (pp + 1)) x' u).1 (go (nI dd) (nI (pp + 1)) x' u).2 t3 := by
  have hn := hS.1.1
  refine hG dd (pp + 1) x' (w + 1) u _ hd (by omega) hN (hS.stat (Stat.rf u) psh_st) hI hD ⟨h25, rfl, ?_, rfl, h26, h27, h28, rfl⟩ (by omega)
  show t 37 0 + 1 = nI (cnt _ pp + _)
  rw [h37, nI_1, if_pos hB]
/-- behind the inner part: back to the entry that was laid -/
theorem pop_ok {n dd w : Nat} {r k : Nat → Nat} {u u3 : SC} {t2 t3 : M2} {o : Int32} {T : M2} (hS : SR n r k u t2) (hR : Res T dd (w + 1) u t2 o u3 t3) (ho : ¬ o = 2) (hw : w < 30) (h30 : t2 30 w = 9 ∨ (t2 30 w = 8 ∧ ∃ j, j < 12 ∧ t2 32 w = nI j) ∨ (¬ t2 30 w = 9 ∧ ¬ t2 30 w = 8 ∧ ∃ j, j < 6 ∧ t2 32 w = nI j ∧ (¬ t2 30 w = 6 → 5 ≤ t2 30 w → 0 ≤ t2 7 j))) :
    Rch t3 (qBackR (up2 t3 29 0 (nI w)) (t2 30 w) (t2 32 w)) ∧ End dd (w + 1) o u3 t3 ∧ Kp dd (w + 1) t2 t3 ∧ KpC dd u u3 ∧ SR n r k u3 t3 := by
  obtain ⟨a1, a2, a3, a4, a5, a6⟩ := hR
  rcases a6 with ⟨b1, -⟩ | ⟨b1, b2, b3⟩
  · exact absurd b1 ho
  · obtain ⟨c1, c2, c3, c4, c5, c6, c7⟩ := b1
    have hS3 := hS.stat a2 a3
    obtain ⟨d1, -, d3, -⟩ := b2.1 w (by omega)
    have hok := ok_back hS3 a4 c1 c2 c6 hw (by rw [d1, d3, a3 7 (by omega)]; exact h30)
    have e := Rch.one hok
    rw [qRun_back c2, qBack_at c6 (by omega), d1, d3] at e
    exact ⟨e, ⟨c1, c2, c3, c4, c5, c6, c7⟩, b2, b3, hS3⟩
end
section
/-! pure rows: what each kind of advisor does, on both sides -/
def ActCx (n : Nat) (r k : Nat → Nat) (N : Nat) (go : Go) (dd pp w : Nat) (x : Int32) (u : SC) (t : M2) : Prop :=
  SimOK n r k N go ∧ dd < 3 ∧ pp < n ∧ (2 - dd) * 7 + (6 - (pp + 1)) < N ∧ w ≤ 8 * dd + 1 + pp ∧ SR n r k u t ∧ IC u ∧ RD u t ∧ t 25 0 = 0 ∧ t 26 0 = nI (dd + 1) ∧ t 27 (dd + 1) = u.1 9 dd ∧ t 28 (dd + 1) = u.1 10 dd ∧ t 29 0 = nI w ∧
  t 37 0 = nI (cnt (fun j => kAdvises u (u.2 j) (u.1 9 dd)) pp) ∧ kAdvises u (u.2 pp) (u.1 9 dd) = true ∧ t 38 0 = x ∧ t 36 0 = 1
theorem ActCx.q {n N dd pp w : Nat} {r k : Nat → Nat} {go : Go} {x : Int32} {u : SC} {t : M2} (h : ActCx n r k N go dd pp w x u t) : r pp < 6 ∧ ix (nI (r pp)) = r pp ∧ u.1 13 (u.2 pp) = t 3 (r pp) ∧ u.1 14 (u.2 pp) = t 4 (r pp) ∧ u.1 17 (u.2 pp) = t 7 (r pp) ∧ u.1 18 (u.2 pp) = t 8 (r pp) ∧ qFits (t 4 (r pp)) (t 7 (r pp)) (t 8 (r pp)) = true := by
  obtain ⟨-, -, h1, -, -, h2, -⟩ := h
  have hn := h2.1.1
  have hr := h2.1.2.2.2.1 pp h1
  obtain ⟨a1, a2, a3, a4, a5, a6, -⟩ := h2.1.2.2.2.2.2.2.1 pp h1
  exact ⟨by omega, ixn (by omega), a1, a2, a5, a6, h2.2.2.2.2.2.2.2 _ hr⟩
theorem act_noted {n N dd pp w : Nat} {r k : Nat → Nat} {go : Go} {x : Int32} {u : SC} {t : M2} (h : ActCx n r k N go dd pp w x u t) :
    (kNote u (u.1 13 (u.2 pp)) x = (false, u) ∧ qNote t (t 3 (r pp)) (t 38 0) = up2 t 25 0 1) ∨
    ∃ u1 t1, kNote u (u.1 13 (u.2 pp)) x = (true, u1) ∧ qNote t (t 3 (r pp)) (t 38 0) = t1 ∧ ActCx n r k N go dd pp w x u1 t1 ∧ Stat u u1 ∧ StatM t t1 ∧ Kp dd w t t1 ∧ KpC dd u u1 ∧ u1.2 = u.2 := by
  have hq := h.q
  obtain ⟨g1, g2, g3, g4, g5, g6, g7, g8, g9, g10, g11, g12, g13, g14, g15, g16, g17⟩ := h
  rw [g16, ← hq.2.2.1]
  rcases note_same g8 (u.1 13 (u.2 pp)) x with ⟨a1, a2⟩ | ⟨L, a0, a1, a2, a3⟩
  · exact Or.inl ⟨a1, a2⟩
  · have hi := IC_note g7 (u.1 13 (u.2 pp)) x
    rw [a1] at hi
    have s1 : Stat u (wr (wr (wr u 11 L (u.1 13 (u.2 pp))) 12 L x) 8 0 (nI (L + 1))) := (((Stat.rf u).wr (by omega)).wr (by omega)).wr (by omega)
    have s2 : StatM t (up2 (up2 (up2 t 20 L (u.1 13 (u.2 pp))) 21 L x) 19 0 (nI (L + 1))) := (((StatM.rf t).up (by omega)).up (by omega)).up (by omega)
    exact Or.inr ⟨_, _, a1, a2, ⟨g1, g2, g3, g4, g5, g6.stat s1 s2, hi, a3, g9, g10, g11, g12, g13, g14, g15, g16, g17⟩, s1, s2, ⟨fun _ _ => ⟨rfl, rfl, rfl, rfl, rfl, rfl⟩, fun _ _ => ⟨rfl, rfl⟩⟩, fun _ _ => ⟨rfl, rfl⟩, rfl⟩
theorem stepB_lo {t : M2} {q : Nat} (hq : q < 6) {e : Nat} (he : e ≤ 3) (h : t 4 q = nI e) : qStepB t (nI q) = qStepC (qNote t (t 3 q) (t 38 0)) (nI q) := by
  unfold qStepB
  rw [ixn (by omega), h, if_pos (by rw [show (3 : Int32) = nI 3 from rfl]; exact (nle (by omega) (by omega)).mpr he)]
theorem stepB_hi {t : M2} {q : Nat} (hq : q < 6) {e : Nat} (he : 3 < e) (he2 : e < 8) (h : t 4 q = nI e) : qStepB t (nI q) = qStepC t (nI q) := by
  unfold qStepB
  rw [ixn (by omega), h, if_neg (by rw [show (3 : Int32) = nI 3 from rfl]; intro z; have := (nle (by omega) (by omega)).mp z; omega)]
theorem stepC_brk (t : M2) (k : Int32) : qStepC (up2 t 25 0 1) k = up2 t 25 0 1 := by
  unfold qStepC
  rw [if_neg (by show ¬ (1 : Int32) = 0; decide)]
theorem brk_res {dd w : Nat} {u : SC} {t : M2} (hD : RD u t) (hI : IC u) : Res (up2 t 25 0 1) dd w u t 2 (wr u 5 0 0) (up2 t 25 0 1) :=
  ⟨Rch.rf _, (Stat.rf u).wr (by omega), (StatM.rf t).up (by omega), hD, hI, Or.inl ⟨rfl, rfl, rfl⟩⟩
theorem exc_of {e : Int32} (h : qIsExc e = true) : ∃ j, 1 ≤ j ∧ j ≤ 15 ∧ e = nI j := by
  unfold qIsExc qWithin at h
  by_cases c1 : e < 1
  · rw [if_pos c1] at h; cases h
  · rw [if_neg c1] at h
    by_cases c2 : (15 : Int32) < e
    · rw [if_pos c2] at h; cases h
    · have h0 : ¬ e < 0 := by simp only [Int32.lt_iff_toInt_lt] at *; have : (1 : Int32).toInt = 1 := rfl; have : (0 : Int32).toInt = 0 := rfl; omega
      obtain ⟨j, hj, rfl⟩ := nI_of h0
      refine ⟨j, ?_, ?_, rfl⟩
      · rw [show (1 : Int32) = nI 1 from rfl, nI_ltI hj (by omega)] at c1; omega
      · rw [show (15 : Int32) = nI 15 from rfl, nI_ltI (by omega) hj] at c2; omega
/-- an answer at once -/
theorem comes_res {n dd w : Nat} {r k : Nat → Nat} {u : SC} {t : M2} (hS : SR n r k u t) (hD : RD u t) (hI : IC u) (h25 : t 25 0 = 0) (h26 : t 26 0 = nI (dd + 1)) (h29 : t 29 0 = nI w) (b : Bool) {v v' : Int32} (hv : v' = v) (he : b = true → ∃ e, 1 ≤ e ∧ e ≤ 15 ∧ v = nI e) :
    Res (qComes t b v') dd w u t (bI b) (wr u 5 0 v) (qComes t b v') := by
  subst hv
  refine ⟨Rch.rf _, (Stat.rf u).wr (by omega), (((StatM.rf t).up (by omega)).up (by omega)).up (by omega), hD, hI, Or.inr ⟨⟨h25, rfl, rfl, rfl, h26, h29, ?_⟩, ⟨fun _ _ => ⟨rfl, rfl, rfl, rfl, rfl, rfl⟩, fun _ _ => ⟨rfl, rfl⟩⟩, fun _ _ => ⟨rfl, rfl⟩⟩⟩
  cases b
  · exact Or.inl rfl
  · exact Or.inr ⟨rfl, he rfl⟩
/-- the way goes on at the next place -/
theorem next_res {n N dd pp w : Nat} {r k : Nat → Nat} {go : Go} {x : Int32} {u : SC} {t : M2} (h : ActCx n r k N go dd pp w x u t) : ∃ t', Res (up2 t 37 0 (t 37 0 + 1)) dd w u t (go (nI dd) (nI (pp + 1)) x u).1 (go (nI dd) (nI (pp + 1)) x u).2 t' := by
  obtain ⟨g1, g2, g3, g4, g5, g6, g7, g8, g9, g10, g11, g12, g13, g14, g15, g16, g17⟩ := h
  have hn := g6.1.1
  have s2 : StatM t (up2 t 37 0 (t 37 0 + 1)) := (StatM.rf t).up (by omega)
  obtain ⟨t', ht⟩ := g1 dd (pp + 1) x w u (up2 t 37 0 (t 37 0 + 1)) g2 (by omega) g4 (g6.stat (Stat.rf u) s2) g7 g8 ⟨g9, g17, by
    show t 37 0 + 1 = nI (cnt _ pp + _)
    rw [g14, nI_1, if_pos g15], g16, g10, g11, g12, g13⟩ (by omega)
  exact ⟨t', ht.pre (Rch.rf _) (Stat.rf u) s2 ⟨fun _ _ => ⟨rfl, rfl, rfl, rfl, rfl, rfl⟩, fun _ _ => ⟨rfl, rfl⟩⟩ (KpC.rf dd u)⟩
theorem fits0 {a b : Int32} (h : qFits 0 a b = true) : qIsExc b = true := h
theorem act_bef {n N dd pp w : Nat} {r k : Nat → Nat} {go : Go} {x : Int32} {u : SC} {t : M2} (h : ActCx n r k N go dd pp w x u t) (hk : t 4 (r pp) = 0) : ∃ t', Res (qStepB t (nI (r pp))) dd w u t (kBef go (u.2 pp) (nI dd) (nI (pp + 1)) x u).1 (kBef go (u.2 pp) (nI dd) (nI (pp + 1)) x u).2 t' := by
  rw [stepB_lo (e := 0) h.q.1 (by omega) hk]
  rcases act_noted h with ⟨e1, e2⟩ | ⟨u1, t1, e1, e2, h1, s1, s2, s3, s4, s5⟩
  · have e3 : kBef go (u.2 pp) (nI dd) (nI (pp + 1)) x u = (2, wr u 5 0 0) := by unfold kBef; rw [e1]; rfl
    rw [e2, e3, stepC_brk]
    exact ⟨_, brk_res h.2.2.2.2.2.2.2.1 h.2.2.2.2.2.2.1⟩
  · rw [e2]
    obtain ⟨q1, q2, q3, q4, q5, q6, q7⟩ := h1.q
    have hk1 : t1 4 (r pp) = 0 := by rw [s2 4 (by omega)]; exact hk
    have h1' := h1
    obtain ⟨g1, g2, g3, g4, g5, g6, g7, g8, g9, g10, g11, g12, g13, g14, g15, g16, g17⟩ := h1
    rw [s5] at q5 q6
    by_cases c : x = t1 7 (r pp)
    · have e3 : kBef go (u.2 pp) (nI dd) (nI (pp + 1)) x u = (1, wr u1 5 0 (t1 8 (r pp))) := by
        unfold kBef; rw [e1]; dsimp only; rw [if_neg (by decide), if_pos (by rw [q5]; exact c), q6]
      have e4 : qStepC t1 (nI (r pp)) = qComes t1 true (t1 8 (r pp)) := by
        unfold qStepC; rw [if_pos g9, q2, if_pos ⟨hk1, by rw [g16]; exact c⟩]
      rw [e3, e4]
      rw [hk1] at q7
      exact ⟨_, (comes_res g6 g8 g7 g9 g10 g13 true rfl (fun _ => exc_of (fits0 q7))).pre (Rch.rf _) s1 s2 s3 s4⟩
    · have e3 : kBef go (u.2 pp) (nI dd) (nI (pp + 1)) x u = go (nI dd) (nI (pp + 1)) x u1 := by
        unfold kBef; rw [e1]; dsimp only; rw [if_neg (by decide), if_neg (by rw [q5]; exact c)]
      have e4 : qStepC t1 (nI (r pp)) = up2 t1 37 0 (t1 37 0 + 1) := by
        unfold qStepC; rw [if_pos g9, q2, if_neg (fun z => c (by rw [← g16]; exact z.2)), if_neg (fun z => absurd (hk1.symm.trans z.1) (by decide)), if_pos (Or.inl hk1)]
      rw [e3, e4]
      obtain ⟨t', ht⟩ := next_res h1'
      exact ⟨t', ht.pre (Rch.rf _) s1 s2 s3 s4⟩
theorem act_skp {n N dd pp w : Nat} {r k : Nat → Nat} {go : Go} {x : Int32} {u : SC} {t : M2} (h : ActCx n r k N go dd pp w x u t) (hk : t 4 (r pp) = 2) : ∃ t', Res (qStepB t (nI (r pp))) dd w u t (kSkp go (u.2 pp) (nI dd) (nI (pp + 1)) x u).1 (kSkp go (u.2 pp) (nI dd) (nI (pp + 1)) x u).2 t' := by
  rw [stepB_lo (e := 2) h.q.1 (by omega) hk]
  rcases act_noted h with ⟨e1, e2⟩ | ⟨u1, t1, e1, e2, h1, s1, s2, s3, s4, s5⟩
  · have e3 : kSkp go (u.2 pp) (nI dd) (nI (pp + 1)) x u = (2, wr u 5 0 0) := by unfold kSkp; rw [e1]; rfl
    rw [e2, e3, stepC_brk]
    exact ⟨_, brk_res h.2.2.2.2.2.2.2.1 h.2.2.2.2.2.2.1⟩
  · rw [e2]
    obtain ⟨q1, q2, q3, q4, q5, q6, q7⟩ := h1.q
    have hk1 : t1 4 (r pp) = 2 := by rw [s2 4 (by omega)]; exact hk
    have h1' := h1
    obtain ⟨g1, g2, g3, g4, g5, g6, g7, g8, g9, g10, g11, g12, g13, g14, g15, g16, g17⟩ := h1
    rw [s5] at q5 q6
    by_cases c : x < t1 7 (r pp)
    · have e3 : kSkp go (u.2 pp) (nI dd) (nI (pp + 1)) x u = (0, wr u1 5 0 (t1 8 (r pp))) := by
        unfold kSkp; rw [e1]; dsimp only; rw [if_neg (by decide), if_pos (by rw [q5]; exact c), q6]
      have e4 : qStepC t1 (nI (r pp)) = qComes t1 false (t1 8 (r pp)) := by
        unfold qStepC; rw [if_pos g9, q2, if_neg (fun z => absurd (hk1.symm.trans z.1) (by decide)), if_pos ⟨hk1, by rw [g16]; exact c⟩]
      rw [e3, e4]
      exact ⟨_, (comes_res g6 g8 g7 g9 g10 g13 false rfl (fun z => by cases z)).pre (Rch.rf _) s1 s2 s3 s4⟩
    · have e3 : kSkp go (u.2 pp) (nI dd) (nI (pp + 1)) x u = go (nI dd) (nI (pp + 1)) x u1 := by
        unfold kSkp; rw [e1]; dsimp only; rw [if_neg (by decide), if_neg (by rw [q5]; exact c)]
      have e4 : qStepC t1 (nI (r pp)) = up2 t1 37 0 (t1 37 0 + 1) := by
        unfold qStepC; rw [if_pos g9, q2, if_neg (fun z => absurd (hk1.symm.trans z.1) (by decide)), if_neg (fun z => c (by rw [← g16]; exact z.2)), if_pos (Or.inr hk1)]
      rw [e3, e4]
      obtain ⟨t', ht⟩ := next_res h1'
      exact ⟨t', ht.pre (Rch.rf _) s1 s2 s3 s4⟩
/-- the stack's entry, and the way on -/
theorem stepC_psh {t : M2} {q w : Nat} {e : Nat} (hq : q < 6) (h25 : t 25 0 = 0) (h29 : t 29 0 = nI w) (hw : w < 900) (hk : t 4 q = nI e) (he : e < 8) (h0 : e ≠ 0) (h2 : e ≠ 2) : qStepC t (nI q) = psh t w (nI e) (nI q) (t 37 0 + 1) (if e = 1 then t 38 0 + t 7 q else t 38 0) := by
  have c0 : ¬ t 4 q = 0 := fun z => h0 ((neq (by omega) (by omega)).mp (hk.symm.trans z))
  have c2 : ¬ t 4 q = 2 := fun z => h2 ((neq (by omega) (by omega)).mp (hk.symm.trans z))
  unfold qStepC
  rw [if_pos h25, ixn (by omega), if_neg (fun z => c0 z.1), if_neg (fun z => c2 z.1), if_neg (fun z => z.elim c0 c2), hk, qAwait_at h29 hw]
  unfold psh
  by_cases c : e = 1
  · subst c
    rw [if_pos rfl, if_pos (show nI 1 = (1 : Int32) from rfl)]
  · rw [if_neg c, if_neg (show ¬ nI e = (1 : Int32) from fun z => c ((neq (b := 1) (by omega) (by omega)).mp z))]
end
section
theorem fin_res {T : M2} {dd w : Nat} {t1 t2 t3 t4 : M2} {u1 u3 u4 : SC} {o3 o : Int32} (hR : Res T dd (w + 1) u1 t2 o3 u3 t3) (k12 : Kp dd w t1 t2) (s12 : StatM t1 t2) (e : Rch t3 t4) (k23 : Kp dd (w + 1) t2 t3) (c3 : KpC dd u1 u3) (sU : Stat u3 u4) (sM : StatM t3 t4) (hD : RD u4 t4) (hI : IC u4) (hE : (o = 2 ∧ t4 25 0 = 1 ∧ u4.1 5 0 = 0) ∨ (End dd w o u4 t4 ∧ Kp dd w t3 t4 ∧ KpC dd u3 u4)) : Res T dd w u1 t1 o u4 t4 :=
  ⟨hR.1.tr e, hR.2.1.tr sU, (s12.tr hR.2.2.1).tr sM, hD, hI, hE.imp id (fun ⟨a, b, c⟩ => ⟨a, (k12.tr (k23.less (by omega))).tr b, c3.tr c⟩)⟩
/-- the inner part was broken off -/
theorem brk_up {T : M2} {dd w : Nat} {t1 t2 t3 : M2} {u1 u3 : SC} {o : Int32} (hR : Res T dd (w + 1) u1 t2 o u3 t3) (s12 : StatM t1 t2) (ho : o = 2) : Res T dd w u1 t1 o u3 t3 := by
  obtain ⟨a1, a2, a3, a4, a5, a6⟩ := hR
  refine ⟨a1, a2, s12.tr a3, a4, a5, Or.inl ?_⟩
  rcases a6 with b | ⟨b, -⟩
  · exact b
  · rcases b.2.2.2.2.2.2 with c | ⟨c, -⟩
    · rw [c] at ho; exact absurd ho (by decide)
    · rw [c] at ho; exact absurd ho (by decide)
theorem kp_w {dd w : Nat} {t3 t4 : M2} (h : ∀ k, k = 27 ∨ k = 28 ∨ (30 ≤ k ∧ k ≤ 35) → t4 k = t3 k) : Kp dd w t3 t4 := Kp.of h
theorem End.o {dd w : Nat} {o : Int32} {u : SC} {t : M2} (h : End dd w o u t) : o = 0 ∨ o = 1 := h.2.2.2.2.2.2.imp id And.left
theorem act_chg {n N dd pp w : Nat} {r k : Nat → Nat} {go : Go} {x : Int32} {u : SC} {t : M2} (h : ActCx n r k N go dd pp w x u t) (hk : t 4 (r pp) = 1) : ∃ t', Res (qStepB t (nI (r pp))) dd w u t (kChg go (u.2 pp) (nI dd) (nI (pp + 1)) x u).1 (kChg go (u.2 pp) (nI dd) (nI (pp + 1)) x u).2 t' := by
  rw [stepB_lo (e := 1) h.q.1 (by omega) hk]
  rcases act_noted h with ⟨e1, e2⟩ | ⟨u1, t1, e1, e2, h1, s1, s2, s3, s4, s5⟩
  · have e3 : kChg go (u.2 pp) (nI dd) (nI (pp + 1)) x u = (2, wr u 5 0 0) := by unfold kChg; rw [e1]; rfl
    rw [e2, e3, stepC_brk]
    exact ⟨_, brk_res h.2.2.2.2.2.2.2.1 h.2.2.2.2.2.2.1⟩
  · rw [e2]
    obtain ⟨q1, q2, q3, q4, q5, q6, q7⟩ := h1.q
    have hk1 : t1 4 (r pp) = nI 1 := by rw [s2 4 (by omega)]; exact hk
    obtain ⟨g1, g2, g3, g4, g5, g6, g7, g8, g9, g10, g11, g12, g13, g14, g15, g16, g17⟩ := h1
    have hn := g6.1.1
    rw [s5] at q5 q6
    rw [stepC_psh q1 g9 g13 (by omega) hk1 (by omega) (by omega) (by omega), if_pos rfl, g16]
    obtain ⟨t3, hR⟩ := push_sim g1 g2 g3 g4 g5 g6 g7 g8 g9 g10 g11 g12 g14 g15 (nI 1) (nI (r pp)) (x + t1 7 (r pp))
    have e3 : kChg go (u.2 pp) (nI dd) (nI (pp + 1)) x u = (if (go (nI dd) (nI (pp + 1)) (x + t1 7 (r pp)) u1).1 = 0 then (0, wr (go (nI dd) (nI (pp + 1)) (x + t1 7 (r pp)) u1).2 5 0 ((go (nI dd) (nI (pp + 1)) (x + t1 7 (r pp)) u1).2.1 5 0 + (go (nI dd) (nI (pp + 1)) (x + t1 7 (r pp)) u1).2.1 18 (u.2 pp))) else go (nI dd) (nI (pp + 1)) (x + t1 7 (r pp)) u1) := by
      unfold kChg; rw [e1]; dsimp only; rw [if_neg (by decide), q5]
    rw [e3]
    generalize go (nI dd) (nI (pp + 1)) (x + t1 7 (r pp)) u1 = rr at hR ⊢
    obtain ⟨o, u3⟩ := rr
    dsimp only at hR ⊢
    by_cases ho : o = 2
    · rw [if_neg (by rw [ho]; decide)]
      exact ⟨t3, (brk_up hR psh_st ho).pre (Rch.rf _) s1 s2 s3 s4⟩
    · have p := psh_at (t := t1) (w := w) (kd := nI 1) (q := nI (r pp)) (f := t1 37 0 + 1) (x' := x + t1 7 (r pp))
      obtain ⟨e5, E, k3, c3, S3⟩ := pop_ok (g6.stat (Stat.rf u1) psh_st) hR ho (by omega) (Or.inr (Or.inr (by rw [p.1, p.2.2.1]; exact ⟨by decide, by decide, r pp, q1, rfl, fun _ z => absurd z (by decide)⟩)))
      rw [p.1, p.2.2.1] at e5
      have e6 : qBackR (up2 t3 29 0 (nI w)) (nI 1) (nI (r pp)) = up2 (up2 t3 29 0 (nI w)) 40 0 (if t3 39 0 = 0 then t3 40 0 + t3 8 (r pp) else t3 40 0) := by
        unfold qBackR; rw [if_neg (by decide), if_neg (by decide), if_pos (by decide), q2]; rfl
      rw [e6] at e5
      have f8 : t3 8 (r pp) = u3.1 18 (u.2 pp) := by rw [hR.2.2.1 8 (by omega), hR.2.1.2 18 (by omega), q6]; rfl
      obtain ⟨E1, E2, E3, E4, E5, E6, E7⟩ := E
      by_cases o0 : o = 0
      · rw [if_pos o0]
        rw [if_pos (E3.trans o0), E4, f8] at e5
        exact ⟨_, (fin_res (t1 := t1) (u4 := wr u3 5 0 (u3.1 5 0 + u3.1 18 (u.2 pp))) hR psh_kp psh_st e5 k3 c3 ((Stat.rf u3).wr (by omega)) (((StatM.rf t3).up (by omega)).up (by omega)) hR.2.2.2.1 hR.2.2.2.2.1 (Or.inr ⟨⟨E1, E2, E3.trans o0, rfl, E5, rfl, Or.inl rfl⟩, Kp.of (fun k hk => by simp only [up2]; rw [if_neg (by omega), if_neg (by omega)]), fun _ _ => ⟨rfl, rfl⟩⟩)).pre (Rch.rf _) s1 s2 s3 s4⟩
      · rw [if_neg o0]
        rw [if_neg (by rw [E3]; exact o0)] at e5
        exact ⟨_, (fin_res (t1 := t1) hR psh_kp psh_st e5 k3 c3 (Stat.rf u3) (((StatM.rf t3).up (by omega)).up (by omega)) hR.2.2.2.1 hR.2.2.2.2.1 (Or.inr ⟨⟨E1, E2, E3, E4, E5, rfl, E7⟩, Kp.of (fun k hk => by simp only [up2]; rw [if_neg (by omega), if_neg (by omega)]), fun _ _ => ⟨rfl, rfl⟩⟩)).pre (Rch.rf _) s1 s2 s3 s4⟩
theorem after_note {u : SC} {t : M2} (hD : RD u t) (hI : IC u) (a b : Int32) :
    (kNote u a b = (false, u) ∧ qNote t a b = up2 t 25 0 1) ∨ ∃ u4 t4, kNote u a b = (true, u4) ∧ qNote t a b = t4 ∧ RD u4 t4 ∧ IC u4 ∧ Stat u u4 ∧ StatM t t4 ∧ (∀ k, ¬ k = 19 → ¬ k = 20 → ¬ k = 21 → t4 k = t k) ∧ (∀ k, ¬ k = 8 → ¬ k = 11 → ¬ k = 12 → u4.1 k = u.1 k) ∧ u4.2 = u.2 := by
  rcases note_same hD a b with h | ⟨L, a0, a1, a2, a3⟩
  · exact Or.inl h
  · have hi := IC_note hI a b
    rw [a1] at hi
    refine Or.inr ⟨_, _, a1, a2, a3, hi, (((Stat.rf u).wr (by omega)).wr (by omega)).wr (by omega), (((StatM.rf t).up (by omega)).up (by omega)).up (by omega), fun k h1 h2 h3 => ?_, fun k h1 h2 h3 => ?_, rfl⟩
    · simp only [up2]
      rw [if_neg h1, if_neg h3, if_neg h2]
    · simp only [wr, up2]
      rw [if_neg h1, if_neg h3, if_neg h2]
theorem psh_hi {n N dd pp w : Nat} {r k : Nat → Nat} {go : Go} {x : Int32} {u : SC} {t : M2} (h : ActCx n r k N go dd pp w x u t) {e : Nat} (he : 3 < e) (he2 : e < 8) (hk : t 4 (r pp) = nI e) :
    qStepB t (nI (r pp)) = psh t w (nI e) (nI (r pp)) (t 37 0 + 1) x ∧ ∃ t3, Res (psh t w (nI e) (nI (r pp)) (t 37 0 + 1) x) dd (w + 1) u (psh t w (nI e) (nI (r pp)) (t 37 0 + 1) x) (go (nI dd) (nI (pp + 1)) x u).1 (go (nI dd) (nI (pp + 1)) x u).2 t3 := by
  have hq := h.q
  obtain ⟨g1, g2, g3, g4, g5, g6, g7, g8, g9, g10, g11, g12, g13, g14, g15, g16, g17⟩ := h
  have hn := g6.1.1
  refine ⟨?_, push_sim g1 g2 g3 g4 g5 g6 g7 g8 g9 g10 g11 g12 g14 g15 (nI e) (nI (r pp)) x⟩
  rw [stepB_hi hq.1 he he2 hk, stepC_psh hq.1 g9 g13 (by omega) hk he2 (by omega) (by omega), if_neg (by omega), g16]
theorem act_ret {n N dd pp w : Nat} {r k : Nat → Nat} {go : Go} {x : Int32} {u : SC} {t : M2} (h : ActCx n r k N go dd pp w x u t) (hk : t 4 (r pp) = 4) : ∃ t', Res (qStepB t (nI (r pp))) dd w u t (kRet go (u.2 pp) (nI dd) (nI (pp + 1)) x u).1 (kRet go (u.2 pp) (nI dd) (nI (pp + 1)) x u).2 t' := by
  obtain ⟨e1, t3, hR⟩ := psh_hi h (e := 4) (by omega) (by omega) hk
  rw [e1]
  obtain ⟨q1, q2, q3, q4, q5, q6, q7⟩ := h.q
  obtain ⟨g1, g2, g3, g4, g5, g6, g7, g8, g9, g10, g11, g12, g13, g14, g15, g16, g17⟩ := h
  have hn := g6.1.1
  unfold kRet
  dsimp only
  generalize go (nI dd) (nI (pp + 1)) x u = rr at hR ⊢
  obtain ⟨o, u3⟩ := rr
  dsimp only at hR ⊢
  by_cases ho : o = 2
  · rw [if_neg (by rw [ho]; decide)]
    exact ⟨t3, brk_up hR psh_st ho⟩
  · have p := psh_at (t := t) (w := w) (kd := nI 4) (q := nI (r pp)) (f := t 37 0 + 1) (x' := x)
    obtain ⟨e5, E, k3, c3, S3⟩ := pop_ok (g6.stat (Stat.rf u) psh_st) hR ho (by omega) (Or.inr (Or.inr (by rw [p.1, p.2.2.1]; exact ⟨by decide, by decide, r pp, q1, rfl, fun _ z => absurd z (by decide)⟩)))
    rw [p.1, p.2.2.1] at e5
    have f3 : t3 3 (r pp) = u3.1 13 (u.2 pp) := by rw [hR.2.2.1 3 (by omega), hR.2.1.2 13 (by omega), q3]; rfl
    have f7 : t3 7 (r pp) = u3.1 17 (u.2 pp) := by rw [hR.2.2.1 7 (by omega), hR.2.1.2 17 (by omega), q5]; rfl
    have f8 : t3 8 (r pp) = u3.1 18 (u.2 pp) := by rw [hR.2.2.1 8 (by omega), hR.2.1.2 18 (by omega), q6]; rfl
    obtain ⟨E1, E2, E3, E4, E5, E6, E7⟩ := E
    by_cases o0 : o = 0
    · rw [if_pos o0]
      have e6 : qBackR (up2 t3 29 0 (nI w)) (nI 4) (nI (r pp)) = (if (qNote (up2 t3 29 0 (nI w)) (u3.1 13 (u.2 pp)) (u3.1 5 0)) 40 0 = (qNote (up2 t3 29 0 (nI w)) (u3.1 13 (u.2 pp)) (u3.1 5 0)) 7 (r pp) then qComes (qNote (up2 t3 29 0 (nI w)) (u3.1 13 (u.2 pp)) (u3.1 5 0)) true ((qNote (up2 t3 29 0 (nI w)) (u3.1 13 (u.2 pp)) (u3.1 5 0)) 8 (r pp)) else qNote (up2 t3 29 0 (nI w)) (u3.1 13 (u.2 pp)) (u3.1 5 0)) := by
        unfold qBackR; rw [if_neg (by decide), if_neg (by decide), if_neg (by decide), if_neg (by decide), if_neg (by decide), if_pos ⟨by decide, E3.trans o0⟩, q2, show (up2 t3 29 0 (nI w)) 3 (r pp) = u3.1 13 (u.2 pp) from f3, show (up2 t3 29 0 (nI w)) 40 0 = u3.1 5 0 from E4]
      rw [e6] at e5
      have hD' : RD u3 (up2 t3 29 0 (nI w)) := hR.2.2.2.1
      rcases after_note hD' hR.2.2.2.2.1 (u3.1 13 (u.2 pp)) (u3.1 5 0) with ⟨a1, a2⟩ | ⟨u4, t4, a1, a2, a3, a4, a5, a6, a7, a8, a9⟩
      · rw [a1]
        rw [a2] at e5
        dsimp only
        rw [if_pos rfl]
        by_cases c : (up2 (up2 t3 29 0 (nI w)) 25 0 1) 40 0 = (up2 (up2 t3 29 0 (nI w)) 25 0 1) 7 (r pp)
        · rw [if_pos c] at e5
          exact ⟨_, fin_res (t1 := t) hR psh_kp psh_st e5 k3 c3 ((Stat.rf u3).wr (by omega)) (((((StatM.rf t3).up (by omega)).up (by omega)).up (by omega)).up (by omega) |>.up (by omega)) hR.2.2.2.1 hR.2.2.2.2.1 (Or.inl ⟨rfl, rfl, rfl⟩)⟩
        · rw [if_neg c] at e5
          exact ⟨_, fin_res (t1 := t) hR psh_kp psh_st e5 k3 c3 ((Stat.rf u3).wr (by omega)) (((StatM.rf t3).up (by omega)).up (by omega)) hR.2.2.2.1 hR.2.2.2.2.1 (Or.inl ⟨rfl, rfl, rfl⟩)⟩
      · rw [a1]
        rw [a2, a7 40 (by omega) (by omega) (by omega), a7 7 (by omega) (by omega) (by omega), a7 8 (by omega) (by omega) (by omega)] at e5
        dsimp only
        rw [if_neg (by decide), a8 5 (by omega) (by omega) (by omega), a8 17 (by omega) (by omega) (by omega), a8 18 (by omega) (by omega) (by omega)]
        have e7 : (up2 t3 29 0 (nI w)) 40 0 = u3.1 5 0 := E4
        have e8 : (up2 t3 29 0 (nI w)) 7 (r pp) = u3.1 17 (u.2 pp) := f7
        have e9 : (up2 t3 29 0 (nI w)) 8 (r pp) = u3.1 18 (u.2 pp) := f8
        rw [e7, e8, e9] at e5
        have s4 : StatM t3 t4 := ((StatM.rf t3).up (by omega)).tr a6
        by_cases c : u3.1 5 0 = u3.1 17 (u.2 pp)
        · rw [if_pos c] at e5 ⊢
          have hx : ∃ e, 1 ≤ e ∧ e ≤ 15 ∧ u3.1 18 (u.2 pp) = nI e := by
            rw [hk] at q7
            obtain ⟨e, h1, h2, h3⟩ := exc_of (show qIsExc (t 8 (r pp)) = true from q7)
            exact ⟨e, h1, h2, by rw [← h3, ← f8, hR.2.2.1 8 (by omega)]; rfl⟩
          refine ⟨_, fin_res (t1 := t) hR psh_kp psh_st e5 k3 c3 (a5.wr (by omega)) (((s4.up (by omega)).up (by omega)).up (by omega)) a3 a4 (Or.inr ⟨⟨?_, rfl, rfl, rfl, ?_, ?_, Or.inr ⟨rfl, hx⟩⟩, Kp.of (fun k hk => ?_), fun i _ => ⟨?_, ?_⟩⟩)⟩
          · show t4 25 0 = 0; rw [a7 25 (by omega) (by omega) (by omega)]; exact E1
          · show t4 26 0 = _; rw [a7 26 (by omega) (by omega) (by omega)]; exact E5
          · show t4 29 0 = _; rw [a7 29 (by omega) (by omega) (by omega)]; rfl
          · simp only [qComes, up2]; rw [if_neg (by omega), if_neg (by omega), if_neg (by omega), a7 k (by omega) (by omega) (by omega)]; simp only [up2]; rw [if_neg (by omega)]
          · show u4.1 9 i = _; rw [a8 9 (by omega) (by omega) (by omega)]
          · show u4.1 10 i = _; rw [a8 10 (by omega) (by omega) (by omega)]
        · rw [if_neg c] at e5 ⊢
          refine ⟨_, fin_res (t1 := t) hR psh_kp psh_st e5 k3 c3 a5 s4 a3 a4 (Or.inr ⟨⟨?_, ?_, ?_, ?_, ?_, ?_, Or.inl rfl⟩, Kp.of (fun k hk => ?_), fun i _ => ⟨?_, ?_⟩⟩)⟩
          · rw [a7 25 (by omega) (by omega) (by omega)]; exact E1
          · rw [a7 36 (by omega) (by omega) (by omega)]; exact E2
          · rw [a7 39 (by omega) (by omega) (by omega)]; exact E3.trans o0
          · rw [a7 40 (by omega) (by omega) (by omega), a8 5 (by omega) (by omega) (by omega)]; exact E4
          · rw [a7 26 (by omega) (by omega) (by omega)]; exact E5
          · rw [a7 29 (by omega) (by omega) (by omega)]; rfl
          · rw [a7 k (by omega) (by omega) (by omega)]; simp only [up2]; rw [if_neg (by omega)]
          · rw [a8 9 (by omega) (by omega) (by omega)]
          · rw [a8 10 (by omega) (by omega) (by omega)]
    · rw [if_neg o0]
      have e6 : qBackR (up2 t3 29 0 (nI w)) (nI 4) (nI (r pp)) = up2 t3 29 0 (nI w) := by
        unfold qBackR; rw [if_neg (by decide), if_neg (by decide), if_neg (by decide), if_neg (by decide), if_neg (by decide), if_neg (fun z => o0 (E3.symm.trans z.2)), if_neg (fun z => absurd z.1 (by decide))]
      rw [e6] at e5
      exact ⟨_, fin_res (t1 := t) hR psh_kp psh_st e5 k3 c3 (Stat.rf u3) ((StatM.rf t3).up (by omega)) hR.2.2.2.1 hR.2.2.2.2.1 (Or.inr ⟨⟨E1, E2, E3, E4, E5, rfl, E7⟩, Kp.of (fun k hk => by simp only [up2]; rw [if_neg (by omega)]), fun _ _ => ⟨rfl, rfl⟩⟩)⟩
end
section
theorem kind_same : ∀ e, e < 16 → ∀ a, a < 16 → 1 ≤ e → 1 ≤ a → kKindOf (nI e) (nI a) = qIsOne (nI e) (nI a) := by decide +kernel
theorem z_nn {a : Nat} (h : a < 1000) : (0 : Int32) ≤ nI a := nI_pos' (by omega)
theorem fits5 {a b : Int32} (h : qFits 5 a b = true) : qIsExc a = true ∧ qWithin b 0 15 = true := by
  have h2 : (if qIsExc a = true then qWithin b 0 15 else false) = true := h
  by_cases c : qIsExc a = true
  · rw [if_pos c] at h2
    exact ⟨c, h2⟩
  · rw [if_neg c] at h2
    cases h2
theorem within_of {b : Int32} (h : qWithin b 0 15 = true) : ∃ j, j ≤ 15 ∧ b = nI j := by
  unfold qWithin at h
  by_cases c1 : b < 0
  · rw [if_pos c1] at h; cases h
  · rw [if_neg c1] at h
    by_cases c2 : (15 : Int32) < b
    · rw [if_pos c2] at h; cases h
    · obtain ⟨j, hj, rfl⟩ := nI_of c1
      refine ⟨j, ?_, rfl⟩
      rw [show (15 : Int32) = nI 15 from rfl, nI_ltI (by omega) hj] at c2; omega
theorem act_thr {n N dd pp w : Nat} {r k : Nat → Nat} {go : Go} {x : Int32} {u : SC} {t : M2} (h : ActCx n r k N go dd pp w x u t) (hk : t 4 (r pp) = 5) : ∃ t', Res (qStepB t (nI (r pp))) dd w u t (kThr go (u.2 pp) (nI dd) (nI (pp + 1)) x u).1 (kThr go (u.2 pp) (nI dd) (nI (pp + 1)) x u).2 t' := by
  obtain ⟨e1, t3, hR⟩ := psh_hi h (e := 5) (by omega) (by omega) hk
  rw [e1]
  obtain ⟨q1, q2, q3, q4, q5, q6, q7⟩ := h.q
  obtain ⟨g1, g2, g3, g4, g5, g6, g7, g8, g9, g10, g11, g12, g13, g14, g15, g16, g17⟩ := h
  have hn := g6.1.1
  rw [hk] at q7
  obtain ⟨ha, hb⟩ := fits5 q7
  obtain ⟨aa, ha1, ha2, ha3⟩ := exc_of ha
  obtain ⟨bb, hb1, hb2⟩ := within_of hb
  unfold kThr
  dsimp only
  generalize go (nI dd) (nI (pp + 1)) x u = rr at hR ⊢
  obtain ⟨o, u3⟩ := rr
  dsimp only at hR ⊢
  by_cases ho : o = 2
  · rw [if_neg (by rw [ho]; decide)]
    exact ⟨t3, brk_up hR psh_st ho⟩
  · have p := psh_at (t := t) (w := w) (kd := nI 5) (q := nI (r pp)) (f := t 37 0 + 1) (x' := x)
    obtain ⟨e5, E, k3, c3, S3⟩ := pop_ok (g6.stat (Stat.rf u) psh_st) hR ho (by omega) (Or.inr (Or.inr (by rw [p.1, p.2.2.1]; exact ⟨by decide, by decide, r pp, q1, rfl, fun _ _ => by rw [psh_st 7 (by omega), ha3]; exact z_nn (by omega)⟩)))
    rw [p.1, p.2.2.1] at e5
    have f3 : t3 3 (r pp) = u3.1 13 (u.2 pp) := by rw [hR.2.2.1 3 (by omega), hR.2.1.2 13 (by omega), q3]; rfl
    have f7 : t3 7 (r pp) = nI aa := by rw [hR.2.2.1 7 (by omega), ← ha3]; rfl
    have f7' : u3.1 17 (u.2 pp) = nI aa := by rw [hR.2.1.2 17 (by omega), q5, ha3]
    have f8 : t3 8 (r pp) = nI bb := by rw [hR.2.2.1 8 (by omega), ← hb2]; rfl
    have f8' : u3.1 18 (u.2 pp) = nI bb := by rw [hR.2.1.2 18 (by omega), q6, hb2]
    obtain ⟨E1, E2, E3, E4, E5, E6, E7⟩ := E
    by_cases o1 : o = 1
    · rw [if_pos o1]
      obtain ⟨ee, he1, he2, he3⟩ : ∃ e, 1 ≤ e ∧ e ≤ 15 ∧ u3.1 5 0 = nI e := by
        rcases E7 with z | z
        · rw [o1] at z; exact absurd z (by decide)
        · exact z.2
      have hks : kKindOf (u3.1 5 0) (u3.1 17 (u.2 pp)) = qIsOne (t3 40 0) (t3 7 (r pp)) := by
        rw [E4, he3, f7, f7']; exact kind_same ee (by omega) aa (by omega) he1 ha1
      rw [hks]
      by_cases hi : qIsOne (t3 40 0) (t3 7 (r pp)) = false
      · rw [if_pos hi]
        have e6 : qBackR (up2 t3 29 0 (nI w)) (nI 5) (nI (r pp)) = up2 t3 29 0 (nI w) := by
          unfold qBackR; rw [if_neg (by decide), if_neg (by decide), if_neg (by decide), if_neg (by decide), if_neg (by decide), if_neg (fun z => absurd z.1 (by decide)), q2, if_neg (fun z => by have := hi.symm.trans z.2.2; cases this)]
        rw [e6] at e5
        exact ⟨_, fin_res (t1 := t) hR psh_kp psh_st e5 k3 c3 (Stat.rf u3) ((StatM.rf t3).up (by omega)) hR.2.2.2.1 hR.2.2.2.2.1 (Or.inr ⟨⟨E1, E2, E3, E4, E5, rfl, E7⟩, Kp.of (fun k hk => by simp only [up2]; rw [if_neg (by omega)]), fun _ _ => ⟨rfl, rfl⟩⟩)⟩
      · rw [if_neg hi]
        have hi' : qIsOne (t3 40 0) (t3 7 (r pp)) = true := by simpa using hi
        have e6 : qBackR (up2 t3 29 0 (nI w)) (nI 5) (nI (r pp)) = qComes (qNote (up2 t3 29 0 (nI w)) (u3.1 13 (u.2 pp)) (u3.1 5 0)) true (if (qNote (up2 t3 29 0 (nI w)) (u3.1 13 (u.2 pp)) (u3.1 5 0)) 8 (r pp) = 0 then (qNote (up2 t3 29 0 (nI w)) (u3.1 13 (u.2 pp)) (u3.1 5 0)) 40 0 else (qNote (up2 t3 29 0 (nI w)) (u3.1 13 (u.2 pp)) (u3.1 5 0)) 8 (r pp)) := by
          unfold qBackR; rw [if_neg (by decide), if_neg (by decide), if_neg (by decide), if_neg (by decide), if_neg (by decide), if_neg (fun z => absurd z.1 (by decide)), q2, if_pos ⟨by decide, fun z => absurd ((E3.trans o1).symm.trans z) (by decide), hi'⟩, show (up2 t3 29 0 (nI w)) 3 (r pp) = u3.1 13 (u.2 pp) from f3, show (up2 t3 29 0 (nI w)) 40 0 = u3.1 5 0 from E4]
          dsimp only
          rw [if_pos (by decide)]
        rw [e6] at e5
        have hD' : RD u3 (up2 t3 29 0 (nI w)) := hR.2.2.2.1
        rcases after_note hD' hR.2.2.2.2.1 (u3.1 13 (u.2 pp)) (u3.1 5 0) with ⟨a1, a2⟩ | ⟨u4, t4, a1, a2, a3, a4, a5, a6, a7, a8, a9⟩
        · rw [a1]
          rw [a2] at e5
          dsimp only
          rw [if_pos rfl]
          exact ⟨_, fin_res (t1 := t) hR psh_kp psh_st e5 k3 c3 ((Stat.rf u3).wr (by omega)) (((((StatM.rf t3).up (by omega)).up (by omega)).up (by omega)).up (by omega) |>.up (by omega)) hR.2.2.2.1 hR.2.2.2.2.1 (Or.inl ⟨rfl, rfl, rfl⟩)⟩
        · rw [a1]
          rw [a2, a7 40 (by omega) (by omega) (by omega), a7 8 (by omega) (by omega) (by omega)] at e5
          dsimp only
          rw [if_neg (by decide), a8 18 (by omega) (by omega) (by omega)]
          have e7 : (up2 t3 29 0 (nI w)) 40 0 = u3.1 5 0 := E4
          have e9 : (up2 t3 29 0 (nI w)) 8 (r pp) = u3.1 18 (u.2 pp) := f8.trans f8'.symm
          rw [e7, e9] at e5
          have s4 : StatM t3 t4 := ((StatM.rf t3).up (by omega)).tr a6
          by_cases c : u3.1 18 (u.2 pp) = 0
          · rw [if_pos c] at e5 ⊢
            refine ⟨_, fin_res (t1 := t) (o := 1) (u4 := u4) hR psh_kp psh_st e5 k3 c3 a5 (((s4.up (by omega)).up (by omega)).up (by omega)) a3 a4 (Or.inr ⟨⟨?_, rfl, rfl, ?_, ?_, ?_, Or.inr ⟨rfl, ee, he1, he2, ?_⟩⟩, Kp.of (fun k hk => ?_), fun i _ => ⟨?_, ?_⟩⟩)⟩
            · show t4 25 0 = 0; rw [a7 25 (by omega) (by omega) (by omega)]; exact E1
            · rw [a8 5 (by omega) (by omega) (by omega)]; rfl
            · show t4 26 0 = _; rw [a7 26 (by omega) (by omega) (by omega)]; exact E5
            · show t4 29 0 = _; rw [a7 29 (by omega) (by omega) (by omega)]; rfl
            · rw [a8 5 (by omega) (by omega) (by omega)]; exact he3
            · simp only [qComes, up2]; rw [if_neg (by omega), if_neg (by omega), if_neg (by omega), a7 k (by omega) (by omega) (by omega)]; simp only [up2]; rw [if_neg (by omega)]
            · rw [a8 9 (by omega) (by omega) (by omega)]
            · rw [a8 10 (by omega) (by omega) (by omega)]
          · rw [if_neg c] at e5 ⊢
            have hbb : bb ≠ 0 := fun z => c (by rw [f8', z]; rfl)
            refine ⟨_, fin_res (t1 := t) (o := 1) (u4 := wr u4 5 0 (u3.1 18 (u.2 pp))) hR psh_kp psh_st e5 k3 c3 (a5.wr (by omega)) (((s4.up (by omega)).up (by omega)).up (by omega)) a3 a4 (Or.inr ⟨⟨?_, rfl, rfl, rfl, ?_, ?_, Or.inr ⟨rfl, bb, by omega, hb1, f8'⟩⟩, Kp.of (fun k hk => ?_), fun i _ => ⟨?_, ?_⟩⟩)⟩
            · show t4 25 0 = 0; rw [a7 25 (by omega) (by omega) (by omega)]; exact E1
            · show t4 26 0 = _; rw [a7 26 (by omega) (by omega) (by omega)]; exact E5
            · show t4 29 0 = _; rw [a7 29 (by omega) (by omega) (by omega)]; rfl
            · simp only [qComes, up2]; rw [if_neg (by omega), if_neg (by omega), if_neg (by omega), a7 k (by omega) (by omega) (by omega)]; simp only [up2]; rw [if_neg (by omega)]
            · show u4.1 9 i = _; rw [a8 9 (by omega) (by omega) (by omega)]
            · show u4.1 10 i = _; rw [a8 10 (by omega) (by omega) (by omega)]
    · rw [if_neg o1]
      have o0 : o = 0 := E7.elim id (fun z => absurd z.1 o1)
      have e6 : qBackR (up2 t3 29 0 (nI w)) (nI 5) (nI (r pp)) = up2 t3 29 0 (nI w) := by
        unfold qBackR; rw [if_neg (by decide), if_neg (by decide), if_neg (by decide), if_neg (by decide), if_neg (by decide), if_neg (fun z => absurd z.1 (by decide)), if_neg (fun z => z.2.1 (E3.trans o0))]
      rw [e6] at e5
      exact ⟨_, fin_res (t1 := t) hR psh_kp psh_st e5 k3 c3 (Stat.rf u3) ((StatM.rf t3).up (by omega)) hR.2.2.2.1 hR.2.2.2.2.1 (Or.inr ⟨⟨E1, E2, E3, E4, E5, rfl, E7⟩, Kp.of (fun k hk => by simp only [up2]; rw [if_neg (by omega)]), fun _ _ => ⟨rfl, rfl⟩⟩)⟩
end
section
theorem act_rec {n N dd pp w : Nat} {r k : Nat → Nat} {go : Go} {x : Int32} {u : SC} {t : M2} (h : ActCx n r k N go dd pp w x u t) (hk : t 4 (r pp) = 7) : ∃ t', Res (qStepB t (nI (r pp))) dd w u t (kRec go (u.2 pp) (nI dd) (nI (pp + 1)) x u).1 (kRec go (u.2 pp) (nI dd) (nI (pp + 1)) x u).2 t' := by
  obtain ⟨e1, t3, hR⟩ := psh_hi h (e := 7) (by omega) (by omega) hk
  rw [e1]
  obtain ⟨q1, q2, q3, q4, q5, q6, q7⟩ := h.q
  obtain ⟨g1, g2, g3, g4, g5, g6, g7, g8, g9, g10, g11, g12, g13, g14, g15, g16, g17⟩ := h
  have hn := g6.1.1
  rw [hk] at q7
  obtain ⟨aa, ha1, ha2, ha3⟩ := exc_of (show qIsExc (t 7 (r pp)) = true from q7)
  unfold kRec
  dsimp only
  generalize go (nI dd) (nI (pp + 1)) x u = rr at hR ⊢
  obtain ⟨o, u3⟩ := rr
  dsimp only at hR ⊢
  by_cases ho : o = 2
  · rw [if_neg (by rw [ho]; decide)]
    exact ⟨t3, brk_up hR psh_st ho⟩
  · have p := psh_at (t := t) (w := w) (kd := nI 7) (q := nI (r pp)) (f := t 37 0 + 1) (x' := x)
    obtain ⟨e5, E, k3, c3, S3⟩ := pop_ok (g6.stat (Stat.rf u) psh_st) hR ho (by omega) (Or.inr (Or.inr (by rw [p.1, p.2.2.1]; exact ⟨by decide, by decide, r pp, q1, rfl, fun _ _ => by rw [psh_st 7 (by omega), ha3]; exact z_nn (by omega)⟩)))
    rw [p.1, p.2.2.1] at e5
    have f3 : t3 3 (r pp) = u3.1 13 (u.2 pp) := by rw [hR.2.2.1 3 (by omega), hR.2.1.2 13 (by omega), q3]; rfl
    have f7 : t3 7 (r pp) = nI aa := by rw [hR.2.2.1 7 (by omega), ← ha3]; rfl
    have f7' : u3.1 17 (u.2 pp) = nI aa := by rw [hR.2.1.2 17 (by omega), q5, ha3]
    have f8 : t3 8 (r pp) = u3.1 18 (u.2 pp) := by rw [hR.2.2.1 8 (by omega), hR.2.1.2 18 (by omega), q6]; rfl
    obtain ⟨E1, E2, E3, E4, E5, E6, E7⟩ := E
    by_cases o1 : o = 1
    · rw [if_pos o1]
      obtain ⟨ee, he1, he2, he3⟩ : ∃ e, 1 ≤ e ∧ e ≤ 15 ∧ u3.1 5 0 = nI e := by
        rcases E7 with z | z
        · rw [o1] at z; exact absurd z (by decide)
        · exact z.2
      have hks : kKindOf (u3.1 5 0) (u3.1 17 (u.2 pp)) = qIsOne (t3 40 0) (t3 7 (r pp)) := by
        rw [E4, he3, f7, f7']; exact kind_same ee (by omega) aa (by omega) he1 ha1
      rw [hks]
      by_cases hi : qIsOne (t3 40 0) (t3 7 (r pp)) = false
      · rw [if_pos hi]
        have e6 : qBackR (up2 t3 29 0 (nI w)) (nI 7) (nI (r pp)) = up2 t3 29 0 (nI w) := by
          unfold qBackR; rw [if_neg (by decide), if_neg (by decide), if_neg (by decide), if_neg (by decide), if_neg (by decide), if_neg (fun z => absurd z.1 (by decide)), q2, if_neg (fun z => by have := hi.symm.trans z.2.2; cases this)]
        rw [e6] at e5
        exact ⟨_, fin_res (t1 := t) hR psh_kp psh_st e5 k3 c3 (Stat.rf u3) ((StatM.rf t3).up (by omega)) hR.2.2.2.1 hR.2.2.2.2.1 (Or.inr ⟨⟨E1, E2, E3, E4, E5, rfl, E7⟩, Kp.of (fun k hk => by simp only [up2]; rw [if_neg (by omega)]), fun _ _ => ⟨rfl, rfl⟩⟩)⟩
      · rw [if_neg hi]
        have hi' : qIsOne (t3 40 0) (t3 7 (r pp)) = true := by simpa using hi
        have e6 : qBackR (up2 t3 29 0 (nI w)) (nI 7) (nI (r pp)) = qComes (qNote (up2 t3 29 0 (nI w)) (u3.1 13 (u.2 pp)) (u3.1 5 0)) false ((qNote (up2 t3 29 0 (nI w)) (u3.1 13 (u.2 pp)) (u3.1 5 0)) 8 (r pp)) := by
          unfold qBackR; rw [if_neg (by decide), if_neg (by decide), if_neg (by decide), if_neg (by decide), if_neg (by decide), if_neg (fun z => absurd z.1 (by decide)), q2, if_pos ⟨by decide, fun z => absurd ((E3.trans o1).symm.trans z) (by decide), hi'⟩, show (up2 t3 29 0 (nI w)) 3 (r pp) = u3.1 13 (u.2 pp) from f3, show (up2 t3 29 0 (nI w)) 40 0 = u3.1 5 0 from E4]
          dsimp only
          rw [if_neg (by decide)]
        rw [e6] at e5
        have hD' : RD u3 (up2 t3 29 0 (nI w)) := hR.2.2.2.1
        rcases after_note hD' hR.2.2.2.2.1 (u3.1 13 (u.2 pp)) (u3.1 5 0) with ⟨a1, a2⟩ | ⟨u4, t4, a1, a2, a3, a4, a5, a6, a7, a8, a9⟩
        · rw [a1]
          rw [a2] at e5
          dsimp only
          rw [if_pos rfl]
          exact ⟨_, fin_res (t1 := t) hR psh_kp psh_st e5 k3 c3 ((Stat.rf u3).wr (by omega)) (((((StatM.rf t3).up (by omega)).up (by omega)).up (by omega)).up (by omega) |>.up (by omega)) hR.2.2.2.1 hR.2.2.2.2.1 (Or.inl ⟨rfl, rfl, rfl⟩)⟩
        · rw [a1]
          rw [a2, a7 8 (by omega) (by omega) (by omega)] at e5
          dsimp only
          rw [if_neg (by decide), a8 18 (by omega) (by omega) (by omega)]
          have e9 : (up2 t3 29 0 (nI w)) 8 (r pp) = u3.1 18 (u.2 pp) := f8
          rw [e9] at e5
          have s4 : StatM t3 t4 := ((StatM.rf t3).up (by omega)).tr a6
          refine ⟨_, fin_res (t1 := t) (o := 0) (u4 := wr u4 5 0 (u3.1 18 (u.2 pp))) hR psh_kp psh_st e5 k3 c3 (a5.wr (by omega)) (((s4.up (by omega)).up (by omega)).up (by omega)) a3 a4 (Or.inr ⟨⟨?_, rfl, rfl, rfl, ?_, ?_, Or.inl rfl⟩, Kp.of (fun k hk => ?_), fun i _ => ⟨?_, ?_⟩⟩)⟩
          · show t4 25 0 = 0; rw [a7 25 (by omega) (by omega) (by omega)]; exact E1
          · show t4 26 0 = _; rw [a7 26 (by omega) (by omega) (by omega)]; exact E5
          · show t4 29 0 = _; rw [a7 29 (by omega) (by omega) (by omega)]; rfl
          · simp only [qComes, up2]; rw [if_neg (by omega), if_neg (by omega), if_neg (by omega), a7 k (by omega) (by omega) (by omega)]; simp only [up2]; rw [if_neg (by omega)]
          · show u4.1 9 i = _; rw [a8 9 (by omega) (by omega) (by omega)]
          · show u4.1 10 i = _; rw [a8 10 (by omega) (by omega) (by omega)]
    · rw [if_neg o1]
      have o0 : o = 0 := E7.elim id (fun z => absurd z.1 o1)
      have e6 : qBackR (up2 t3 29 0 (nI w)) (nI 7) (nI (r pp)) = up2 t3 29 0 (nI w) := by
        unfold qBackR; rw [if_neg (by decide), if_neg (by decide), if_neg (by decide), if_neg (by decide), if_neg (by decide), if_neg (fun z => absurd z.1 (by decide)), if_neg (fun z => z.2.1 (E3.trans o0))]
      rw [e6] at e5
      exact ⟨_, fin_res (t1 := t) hR psh_kp psh_st e5 k3 c3 (Stat.rf u3) ((StatM.rf t3).up (by omega)) hR.2.2.2.1 hR.2.2.2.2.1 (Or.inr ⟨⟨E1, E2, E3, E4, E5, rfl, E7⟩, Kp.of (fun k hk => by simp only [up2]; rw [if_neg (by omega)]), fun _ _ => ⟨rfl, rfl⟩⟩)⟩
theorem act_fin {n N dd pp w : Nat} {r k : Nat → Nat} {go : Go} {x : Int32} {u : SC} {t : M2} (h : ActCx n r k N go dd pp w x u t) (hk : t 4 (r pp) = 6) : ∃ t', Res (qStepB t (nI (r pp))) dd w u t (kFin go (u.2 pp) (nI dd) (nI (pp + 1)) x u).1 (kFin go (u.2 pp) (nI dd) (nI (pp + 1)) x u).2 t' := by
  obtain ⟨e1, t3, hR⟩ := psh_hi h (e := 6) (by omega) (by omega) hk
  rw [e1]
  obtain ⟨q1, q2, q3, q4, q5, q6, q7⟩ := h.q
  obtain ⟨g1, g2, g3, g4, g5, g6, g7, g8, g9, g10, g11, g12, g13, g14, g15, g16, g17⟩ := h
  have hn := g6.1.1
  rw [hk] at q7
  obtain ⟨bb, hb1, hb2, hb3⟩ := exc_of (show qIsExc (t 8 (r pp)) = true from q7)
  unfold kFin
  dsimp only
  generalize go (nI dd) (nI (pp + 1)) x u = rr at hR ⊢
  obtain ⟨o, u3⟩ := rr
  dsimp only at hR ⊢
  by_cases ho : o = 2
  · rw [if_pos ho]
    subst ho
    exact ⟨t3, brk_up hR psh_st rfl⟩
  · rw [if_neg ho]
    have p := psh_at (t := t) (w := w) (kd := nI 6) (q := nI (r pp)) (f := t 37 0 + 1) (x' := x)
    obtain ⟨e5, E, k3, c3, S3⟩ := pop_ok (g6.stat (Stat.rf u) psh_st) hR ho (by omega) (Or.inr (Or.inr (by rw [p.1, p.2.2.1]; exact ⟨by decide, by decide, r pp, q1, rfl, fun z => absurd (by decide) z⟩)))
    have e33 : t3 33 w = x := by rw [(k3.1 w (by omega)).2.2.2.1, p.2.2.2.1, g16]
    rw [p.1, p.2.2.1] at e5
    have f3 : t3 3 (r pp) = u3.1 13 (u.2 pp) := by rw [hR.2.2.1 3 (by omega), hR.2.1.2 13 (by omega), q3]; rfl
    have f7 : t3 7 (r pp) = u3.1 17 (u.2 pp) := by rw [hR.2.2.1 7 (by omega), hR.2.1.2 17 (by omega), q5]; rfl
    have f8 : t3 8 (r pp) = u3.1 18 (u.2 pp) := by rw [hR.2.2.1 8 (by omega), hR.2.1.2 18 (by omega), q6]; rfl
    have f8' : u3.1 18 (u.2 pp) = nI bb := by rw [hR.2.1.2 18 (by omega), q6, hb3]
    obtain ⟨E1, E2, E3, E4, E5, E6, E7⟩ := E
    have e6 : qBackR (up2 t3 29 0 (nI w)) (nI 6) (nI (r pp)) = (if (qNote (up2 t3 29 0 (nI w)) (u3.1 13 (u.2 pp)) x) 33 (ix ((qNote (up2 t3 29 0 (nI w)) (u3.1 13 (u.2 pp)) x) 29 0)) = (qNote (up2 t3 29 0 (nI w)) (u3.1 13 (u.2 pp)) x) 7 (r pp) then qComes (qNote (up2 t3 29 0 (nI w)) (u3.1 13 (u.2 pp)) x) true ((qNote (up2 t3 29 0 (nI w)) (u3.1 13 (u.2 pp)) x) 8 (r pp)) else qNote (up2 t3 29 0 (nI w)) (u3.1 13 (u.2 pp)) x) := by
      unfold qBackR; rw [if_neg (by decide), if_neg (by decide), if_neg (by decide), if_neg (by decide), if_pos (by decide), q2, show (up2 t3 29 0 (nI w)) 3 (r pp) = u3.1 13 (u.2 pp) from f3, show (up2 t3 29 0 (nI w)) 29 0 = nI w from rfl, ixn (by omega : w < 1000), show (up2 t3 29 0 (nI w)) 33 w = x from e33]
    rw [e6] at e5
    have hD' : RD u3 (up2 t3 29 0 (nI w)) := hR.2.2.2.1
    rcases after_note hD' hR.2.2.2.2.1 (u3.1 13 (u.2 pp)) x with ⟨a1, a2⟩ | ⟨u4, t4, a1, a2, a3, a4, a5, a6, a7, a8, a9⟩
    · rw [a1]
      rw [a2] at e5
      dsimp only
      rw [if_pos rfl]
      by_cases c : (up2 (up2 t3 29 0 (nI w)) 25 0 1) 33 (ix ((up2 (up2 t3 29 0 (nI w)) 25 0 1) 29 0)) = (up2 (up2 t3 29 0 (nI w)) 25 0 1) 7 (r pp)
      · rw [if_pos c] at e5
        exact ⟨_, fin_res (t1 := t) hR psh_kp psh_st e5 k3 c3 ((Stat.rf u3).wr (by omega)) (((((StatM.rf t3).up (by omega)).up (by omega)).up (by omega)).up (by omega) |>.up (by omega)) hR.2.2.2.1 hR.2.2.2.2.1 (Or.inl ⟨rfl, rfl, rfl⟩)⟩
      · rw [if_neg c] at e5
        exact ⟨_, fin_res (t1 := t) hR psh_kp psh_st e5 k3 c3 ((Stat.rf u3).wr (by omega)) (((StatM.rf t3).up (by omega)).up (by omega)) hR.2.2.2.1 hR.2.2.2.2.1 (Or.inl ⟨rfl, rfl, rfl⟩)⟩
    · rw [a1]
      rw [a2, a7 33 (by omega) (by omega) (by omega), a7 29 (by omega) (by omega) (by omega), a7 7 (by omega) (by omega) (by omega), a7 8 (by omega) (by omega) (by omega)] at e5
      dsimp only
      rw [if_neg (by decide), a8 17 (by omega) (by omega) (by omega), a8 18 (by omega) (by omega) (by omega)]
      have e7 : (up2 t3 29 0 (nI w)) 33 (ix ((up2 t3 29 0 (nI w)) 29 0)) = x := by rw [show (up2 t3 29 0 (nI w)) 29 0 = nI w from rfl, ixn (by omega : w < 1000)]; exact e33
      have e8 : (up2 t3 29 0 (nI w)) 7 (r pp) = u3.1 17 (u.2 pp) := f7
      have e9 : (up2 t3 29 0 (nI w)) 8 (r pp) = u3.1 18 (u.2 pp) := f8
      rw [e7, e8, e9] at e5
      have s4 : StatM t3 t4 := ((StatM.rf t3).up (by omega)).tr a6
      by_cases c : x = u3.1 17 (u.2 pp)
      · rw [if_pos c] at e5 ⊢
        refine ⟨_, fin_res (t1 := t) (o := 1) (u4 := wr u4 5 0 (u3.1 18 (u.2 pp))) hR psh_kp psh_st e5 k3 c3 (a5.wr (by omega)) (((s4.up (by omega)).up (by omega)).up (by omega)) a3 a4 (Or.inr ⟨⟨?_, rfl, rfl, rfl, ?_, ?_, Or.inr ⟨rfl, bb, hb1, hb2, f8'⟩⟩, Kp.of (fun k hk => ?_), fun i _ => ⟨?_, ?_⟩⟩)⟩
        · show t4 25 0 = 0; rw [a7 25 (by omega) (by omega) (by omega)]; exact E1
        · show t4 26 0 = _; rw [a7 26 (by omega) (by omega) (by omega)]; exact E5
        · show t4 29 0 = _; rw [a7 29 (by omega) (by omega) (by omega)]; rfl
        · simp only [qComes, up2]; rw [if_neg (by omega), if_neg (by omega), if_neg (by omega), a7 k (by omega) (by omega) (by omega)]; simp only [up2]; rw [if_neg (by omega)]
        · show u4.1 9 i = _; rw [a8 9 (by omega) (by omega) (by omega)]
        · show u4.1 10 i = _; rw [a8 10 (by omega) (by omega) (by omega)]
      · rw [if_neg c] at e5 ⊢
        refine ⟨_, fin_res (t1 := t) hR psh_kp psh_st e5 k3 c3 a5 s4 a3 a4 (Or.inr ⟨⟨?_, ?_, ?_, ?_, ?_, ?_, ?_⟩, Kp.of (fun k hk => ?_), fun i _ => ⟨?_, ?_⟩⟩)⟩
        · rw [a7 25 (by omega) (by omega) (by omega)]; exact E1
        · rw [a7 36 (by omega) (by omega) (by omega)]; exact E2
        · rw [a7 39 (by omega) (by omega) (by omega)]; exact E3
        · rw [a7 40 (by omega) (by omega) (by omega), a8 5 (by omega) (by omega) (by omega)]; exact E4
        · rw [a7 26 (by omega) (by omega) (by omega)]; exact E5
        · rw [a7 29 (by omega) (by omega) (by omega)]; rfl
        · rw [a8 5 (by omega) (by omega) (by omega)]; exact E7
        · rw [a7 k (by omega) (by omega) (by omega)]; simp only [up2]; rw [if_neg (by omega)]
        · rw [a8 9 (by omega) (by omega) (by omega)]
        · rw [a8 10 (by omega) (by omega) (by omega)]
/-- the entry once more: the second time along -/
def psh2 (t : M2) (w : Nat) (v f x' : Int32) : M2 := up2 (qGo (up2 (up2 t 35 w 1) 34 w v) f x') 29 0 (nI (w + 1))
theorem act_twi {n N dd pp w : Nat} {r k : Nat → Nat} {go : Go} {x : Int32} {u : SC} {t : M2} (h : ActCx n r k N go dd pp w x u t) (hk : t 4 (r pp) = 3) : ∃ t', Res (qStepB t (nI (r pp))) dd w u t (kTwi go (u.2 pp) (nI dd) (nI (pp + 1)) x u).1 (kTwi go (u.2 pp) (nI dd) (nI (pp + 1)) x u).2 t' := by
  rw [stepB_lo (e := 3) h.q.1 (by omega) hk]
  rcases act_noted h with ⟨e1, e2⟩ | ⟨u1, t1, e1, e2, h1, s1, s2, s3, s4, s5⟩
  · have e3 : kTwi go (u.2 pp) (nI dd) (nI (pp + 1)) x u = (2, wr u 5 0 0) := by unfold kTwi; rw [e1]; rfl
    rw [e2, e3, stepC_brk]
    exact ⟨_, brk_res h.2.2.2.2.2.2.2.1 h.2.2.2.2.2.2.1⟩
  · rw [e2]
    obtain ⟨q1, q2, q3, q4, q5, q6, q7⟩ := h1.q
    have hk1 : t1 4 (r pp) = nI 3 := by rw [s2 4 (by omega)]; exact hk
    obtain ⟨g1, g2, g3, g4, g5, g6, g7, g8, g9, g10, g11, g12, g13, g14, g15, g16, g17⟩ := h1
    have hn := g6.1.1
    rw [s5] at q5 q6
    rw [stepC_psh q1 g9 g13 (by omega) hk1 (by omega) (by omega) (by omega), if_neg (by omega), g16]
    obtain ⟨t3, hR⟩ := push_sim g1 g2 g3 g4 g5 g6 g7 g8 g9 g10 g11 g12 g14 g15 (nI 3) (nI (r pp)) x
    have e3 : kTwi go (u.2 pp) (nI dd) (nI (pp + 1)) x u = (let rr := go (nI dd) (nI (pp + 1)) x u1; if rr.1 = 0 then (let qq := go (nI dd) (nI (pp + 1)) (x + rr.2.1 17 (u.2 pp)) rr.2; if qq.1 = 0 then (0, wr qq.2 5 0 (rr.2.1 5 0 + qq.2.1 5 0 + qq.2.1 18 (u.2 pp))) else qq) else rr) := by
      unfold kTwi; rw [e1]; dsimp only; rw [if_neg (by decide)]
    rw [e3]
    dsimp only
    generalize go (nI dd) (nI (pp + 1)) x u1 = rr at hR ⊢
    obtain ⟨o, u3⟩ := rr
    dsimp only at hR ⊢
    by_cases ho : o = 2
    · rw [if_neg (by rw [ho]; decide)]
      exact ⟨t3, (brk_up hR psh_st ho).pre (Rch.rf _) s1 s2 s3 s4⟩
    · have p := psh_at (t := t1) (w := w) (kd := nI 3) (q := nI (r pp)) (f := t1 37 0 + 1) (x' := x)
      obtain ⟨e5, E, k3, c3, S3⟩ := pop_ok (g6.stat (Stat.rf u1) psh_st) hR ho (by omega) (Or.inr (Or.inr (by rw [p.1, p.2.2.1]; exact ⟨by decide, by decide, r pp, q1, rfl, fun _ z => absurd z (by decide)⟩)))
      rw [p.1, p.2.2.1] at e5
      have e6 : qBackR (up2 t3 29 0 (nI w)) (nI 3) (nI (r pp)) = qTwice (up2 t3 29 0 (nI w)) (nI (r pp)) := by
        unfold qBackR; rw [if_neg (by decide), if_neg (by decide), if_neg (by decide), if_pos (by decide)]
      rw [e6] at e5
      have f7 : t3 7 (r pp) = u3.1 17 (u.2 pp) := by rw [hR.2.2.1 7 (by omega), hR.2.1.2 17 (by omega), q5]; rfl
      obtain ⟨d1, d2, d3, d4, d5, d6⟩ := k3.1 w (by omega)
      obtain ⟨E1, E2, E3, E4, E5, E6, E7⟩ := E
      by_cases o0 : o = 0
      · rw [if_pos o0]
        have e7 : qTwice (up2 t3 29 0 (nI w)) (nI (r pp)) = psh2 (up2 t3 29 0 (nI w)) w (t3 40 0) (t1 37 0 + 1) (x + u3.1 17 (u.2 pp)) := by
          unfold qTwice psh2
          rw [if_pos (show (up2 t3 29 0 (nI w)) 39 0 = 0 from E3.trans o0), show (up2 t3 29 0 (nI w)) 29 0 = nI w from rfl, ixn (by omega : w < 1000), if_pos (show (up2 t3 29 0 (nI w)) 35 w = 0 from d6.trans p.2.2.2.2), q2, nI_1, show (up2 t3 29 0 (nI w)) 31 w = t1 37 0 from d2.trans p.2.1, show (up2 t3 29 0 (nI w)) 33 w = x from (d4.trans p.2.2.2.1).trans g16, show (up2 t3 29 0 (nI w)) 7 (r pp) = u3.1 17 (u.2 pp) from f7]
          rfl
        rw [e7] at e5
        have sB : StatM t3 (psh2 (up2 t3 29 0 (nI w)) w (t3 40 0) (t1 37 0 + 1) (x + u3.1 17 (u.2 pp))) := ((((((((StatM.rf t3).up (by omega)).up (by omega)).up (by omega)).up (by omega)).up (by omega)).up (by omega)).up (by omega))
        have kB : Kp dd w t3 (psh2 (up2 t3 29 0 (nI w)) w (t3 40 0) (t1 37 0 + 1) (x + u3.1 17 (u.2 pp))) := by
          refine ⟨fun i hi => ?_, fun i _ => ⟨rfl, rfl⟩⟩
          have hne : ¬ i = w := by omega
          refine ⟨rfl, rfl, rfl, rfl, ?_, ?_⟩
          · show upd (t3 34) w (t3 40 0) i = _; rw [pk_un hne]
          · show upd (t3 35) w 1 i = _; rw [pk_un hne]
        have hS5 := S3.stat (Stat.rf u3) sB
        have hB3 : (fun j => kAdvises u3 (u3.2 j) (u3.1 9 dd)) = fun j => kAdvises u1 (u1.2 j) (u1.1 9 dd) := by
          funext j
          unfold kAdvises
          rw [hR.2.1.2 16 (by omega), hR.2.1.1, (c3 dd (Nat.le_refl _)).1]
        obtain ⟨t6, hR2⟩ := g1 dd (pp + 1) (x + u3.1 17 (u.2 pp)) (w + 1) u3 _ g2 (by omega) g4 hS5 hR.2.2.2.2.1 hR.2.2.2.1 ⟨E1, rfl, by
          show t1 37 0 + 1 = _
          rw [hB3, g14, nI_1]
          show _ = nI (cnt _ pp + _)
          rw [if_pos g15], rfl, E5, by
          show t3 27 (dd + 1) = _
          rw [(k3.2 (dd + 1) (Nat.le_refl _)).1, (c3 dd (Nat.le_refl _)).1]; exact g11, by
          show t3 28 (dd + 1) = _
          rw [(k3.2 (dd + 1) (Nat.le_refl _)).2, (c3 dd (Nat.le_refl _)).2]; exact g12, rfl⟩ (by omega)
        generalize go (nI dd) (nI (pp + 1)) (x + u3.1 17 (u.2 pp)) u3 = qq at hR2 ⊢
        obtain ⟨o6, u6⟩ := qq
        dsimp only at hR2 ⊢
        have k13 : Kp dd w t1 t3 := psh_kp.tr (k3.less (by omega))
        have s13 : StatM t1 t3 := psh_st.tr hR.2.2.1
        by_cases ho6 : o6 = 2
        · rw [if_neg (by rw [ho6]; decide)]
          exact ⟨t6, (((brk_up hR2 (StatM.rf _) ho6).pre (hR.1.tr e5) hR.2.1 (s13.tr sB) (k13.tr kB) c3)).pre (Rch.rf _) s1 s2 s3 s4⟩
        · have b30 : psh2 (up2 t3 29 0 (nI w)) w (t3 40 0) (t1 37 0 + 1) (x + u3.1 17 (u.2 pp)) 30 w = nI 3 := d1.trans p.1
          have b32 : psh2 (up2 t3 29 0 (nI w)) w (t3 40 0) (t1 37 0 + 1) (x + u3.1 17 (u.2 pp)) 32 w = nI (r pp) := d3.trans p.2.2.1
          obtain ⟨e8, F, k6, c6, S6⟩ := pop_ok hS5 hR2 ho6 (by omega) (Or.inr (Or.inr (by rw [b30, b32]; exact ⟨by decide, by decide, r pp, q1, rfl, fun _ z => absurd z (by decide)⟩)))
          rw [b30, b32] at e8
          have e9 : qBackR (up2 t6 29 0 (nI w)) (nI 3) (nI (r pp)) = qTwice (up2 t6 29 0 (nI w)) (nI (r pp)) := by
            unfold qBackR; rw [if_neg (by decide), if_neg (by decide), if_neg (by decide), if_pos (by decide)]
          rw [e9] at e8
          obtain ⟨F1, F2, F3, F4, F5, F6, F7⟩ := F
          obtain ⟨m1, m2, m3, m4, m5, m6⟩ := k6.1 w (by omega)
          have f8 : t6 8 (r pp) = u6.1 18 (u.2 pp) := by rw [hR2.2.2.1 8 (by omega), sB 8 (by omega), hR2.2.1.2 18 (by omega), hR.2.2.1 8 (by omega), hR.2.1.2 18 (by omega), q6]; rfl
          by_cases o60 : o6 = 0
          · rw [if_pos o60]
            have e10 : qTwice (up2 t6 29 0 (nI w)) (nI (r pp)) = up2 (up2 t6 29 0 (nI w)) 40 0 (u3.1 5 0 + u6.1 5 0 + u6.1 18 (u.2 pp)) := by
              have b35 : (up2 t6 29 0 (nI w)) 35 w = 1 := m6.trans (by show upd (t3 35) w 1 w = 1; exact pk_us)
              have b34 : (up2 t6 29 0 (nI w)) 34 w = u3.1 5 0 := (m5.trans (by show upd (t3 34) w (t3 40 0) w = t3 40 0; exact pk_us)).trans E4
              unfold qTwice
              rw [if_pos (show (up2 t6 29 0 (nI w)) 39 0 = 0 from F3.trans o60), show (up2 t6 29 0 (nI w)) 29 0 = nI w from rfl, ixn (by omega : w < 1000), if_neg (by rw [b35]; decide), q2, b34, show (up2 t6 29 0 (nI w)) 40 0 = u6.1 5 0 from F4, show (up2 t6 29 0 (nI w)) 8 (r pp) = u6.1 18 (u.2 pp) from f8]
            rw [e10] at e8
            exact ⟨_, ((fin_res (t1 := psh2 (up2 t3 29 0 (nI w)) w (t3 40 0) (t1 37 0 + 1) (x + u3.1 17 (u.2 pp))) (o := 0) (u4 := wr u6 5 0 (u3.1 5 0 + u6.1 5 0 + u6.1 18 (u.2 pp))) hR2 (Kp.rf _ _ _) (StatM.rf _) e8 k6 c6 ((Stat.rf u6).wr (by omega)) (((StatM.rf t6).up (by omega)).up (by omega)) hR2.2.2.2.1 hR2.2.2.2.2.1 (Or.inr ⟨⟨F1, F2, F3.trans o60, rfl, F5, rfl, Or.inl rfl⟩, Kp.of (fun k hk => by simp only [up2]; rw [if_neg (by omega), if_neg (by omega)]), fun _ _ => ⟨rfl, rfl⟩⟩)).pre (hR.1.tr e5) hR.2.1 (s13.tr sB) (k13.tr kB) c3).pre (Rch.rf _) s1 s2 s3 s4⟩
          · rw [if_neg o60]
            have e10 : qTwice (up2 t6 29 0 (nI w)) (nI (r pp)) = up2 t6 29 0 (nI w) := by
              unfold qTwice
              rw [if_neg (show ¬ (up2 t6 29 0 (nI w)) 39 0 = 0 from fun z => o60 (F3.symm.trans z))]
            rw [e10] at e8
            exact ⟨_, ((fin_res (t1 := psh2 (up2 t3 29 0 (nI w)) w (t3 40 0) (t1 37 0 + 1) (x + u3.1 17 (u.2 pp))) hR2 (Kp.rf _ _ _) (StatM.rf _) e8 k6 c6 (Stat.rf u6) ((StatM.rf t6).up (by omega)) hR2.2.2.2.1 hR2.2.2.2.2.1 (Or.inr ⟨⟨F1, F2, F3, F4, F5, rfl, F7⟩, Kp.of (fun k hk => by simp only [up2]; rw [if_neg (by omega)]), fun _ _ => ⟨rfl, rfl⟩⟩)).pre (hR.1.tr e5) hR.2.1 (s13.tr sB) (k13.tr kB) c3).pre (Rch.rf _) s1 s2 s3 s4⟩
      · rw [if_neg o0]
        have e7 : qTwice (up2 t3 29 0 (nI w)) (nI (r pp)) = up2 t3 29 0 (nI w) := by
          unfold qTwice
          rw [if_neg (show ¬ (up2 t3 29 0 (nI w)) 39 0 = 0 from fun z => o0 (E3.symm.trans z))]
        rw [e7] at e5
        exact ⟨_, (fin_res (t1 := t1) hR psh_kp psh_st e5 k3 c3 (Stat.rf u3) ((StatM.rf t3).up (by omega)) hR.2.2.2.1 hR.2.2.2.2.1 (Or.inr ⟨⟨E1, E2, E3, E4, E5, rfl, E7⟩, Kp.of (fun k hk => by simp only [up2]; rw [if_neg (by omega)]), fun _ _ => ⟨rfl, rfl⟩⟩)).pre (Rch.rf _) s1 s2 s3 s4⟩
end
section
/-! pure rows: along the chain; a whole invocation -/
theorem act_sim {n N dd pp w : Nat} {r k : Nat → Nat} {go : Go} {x : Int32} {u : SC} {t : M2} (h : ActCx n r k N go dd pp w x u t) : ∃ t', Res (qStepB t (nI (r pp))) dd w u t (kAct go (u.2 pp) (nI dd) (nI (pp + 1)) x u).1 (kAct go (u.2 pp) (nI dd) (nI (pp + 1)) x u).2 t' := by
  have hq := h.q
  have hr := h.2.2.2.2.2.1.1.2.2.2.1 pp h.2.2.1
  obtain ⟨e, he, hk⟩ := h.2.2.2.2.2.1.2.2.2.2.2.2.1 (r pp) hr
  have c : e = 0 ∨ e = 1 ∨ e = 2 ∨ e = 3 ∨ e = 4 ∨ e = 5 ∨ e = 6 ∨ e = 7 := by omega
  unfold kAct
  rw [hq.2.2.2.1, hk]
  rcases c with rfl | rfl | rfl | rfl | rfl | rfl | rfl | rfl
  · rw [if_pos (by decide)]; exact act_bef h hk
  · rw [if_neg (by decide), if_pos (by decide)]; exact act_chg h hk
  · rw [if_neg (by decide), if_neg (by decide), if_pos (by decide)]; exact act_skp h hk
  · rw [if_neg (by decide), if_neg (by decide), if_neg (by decide), if_pos (by decide)]; exact act_twi h hk
  · rw [if_neg (by decide), if_neg (by decide), if_neg (by decide), if_neg (by decide), if_pos (by decide)]; exact act_ret h hk
  · rw [if_neg (by decide), if_neg (by decide), if_neg (by decide), if_neg (by decide), if_neg (by decide), if_pos (by decide)]; exact act_thr h hk
  · rw [if_neg (by decide), if_neg (by decide), if_neg (by decide), if_neg (by decide), if_neg (by decide), if_neg (by decide), if_pos (by decide)]; exact act_fin h hk
  · rw [if_neg (by decide), if_neg (by decide), if_neg (by decide), if_neg (by decide), if_neg (by decide), if_neg (by decide), if_neg (by decide)]; exact act_rec h hk
def bt (x : Int32) (i : Nat) : Bool := x.toBitVec.getLsbD i
theorem b_ext {x y : Int32} (h : ∀ i, i < 32 → bt x i = bt y i) : x = y := Int32.toBitVec_inj.mp (BitVec.eq_of_getLsbD_eq (fun i hi => h i hi))
theorem b_and (x y : Int32) (i : Nat) : bt (x &&& y) i = (bt x i && bt y i) := by unfold bt; rw [Int32.toBitVec_and, BitVec.getLsbD_and]
theorem b_0 (i : Nat) : bt 0 i = false := BitVec.getLsbD_zero
theorem s_l : ∀ n, n < 32 → ((nI n &&& 31).toBitVec.smod 32).toNat = n := by decide +kernel
theorem b_shl (n : Nat) (hn : n < 32) (x : Int32) {i : Nat} (hi : i < 32) : bt (x <<< (nI n &&& 31)) i = (decide (n ≤ i) && bt x (i - n)) := by
  unfold bt
  rw [Int32.toBitVec_shiftLeft]
  show (x.toBitVec <<< ((nI n &&& 31).toBitVec.smod 32).toNat).getLsbD i = _
  rw [s_l n hn, BitVec.getLsbD_shiftLeft]
  rcases Nat.lt_or_ge i n with h | h
  · simp [h, Nat.not_le.mpr h]
  · simp [hi, h, Nat.not_lt.mpr h]
theorem b_sshr (n : Nat) (hn : n < 32) (x : Int32) {i : Nat} (hi : i < 32) : bt (x >>> (nI n &&& 31)) i = if n + i < 32 then bt x (n + i) else bt x 31 := by
  unfold bt
  rw [Int32.toBitVec_shiftRight]
  show (x.toBitVec.sshiftRight ((nI n &&& 31).toBitVec.smod 32).toNat).getLsbD i = _
  rw [s_l n hn, BitVec.getLsbD_sshiftRight, BitVec.msb_eq_getLsbD_last]
  simp [hi]
theorem b_1 : ∀ i, i < 32 → bt 1 i = decide (i = 0) := by decide +kernel
theorem bits_ok (m : Nat) (hm : m < 6) : bitsOk (nI m) := by
  intro x
  have h1 : (x &&& ((1 : Int32) <<< (nI m &&& 31)) = 0) ↔ bt x m = false := by
    constructor
    · intro h
      have h2 : bt (x &&& ((1 : Int32) <<< (nI m &&& 31))) m = bt 0 m := by rw [h]
      rw [b_and, b_shl m (by omega) 1 (by omega), b_0, Nat.sub_self, b_1 0 (by omega)] at h2
      simpa using h2
    · intro h
      refine b_ext (fun i hi => ?_)
      rw [b_and, b_shl m (by omega) 1 hi, b_0, b_1 _ (by omega)]
      by_cases c : i = m
      · rw [c, h]; rfl
      · by_cases c2 : m ≤ i
        · rw [decide_eq_false (by omega : ¬ i - m = 0)]; simp
        · rw [decide_eq_false c2]; simp
  have h3 : ((x >>> (nI m &&& 31)) &&& 1 = 1) ↔ bt x m = true := by
    constructor
    · intro h
      have h2 : bt ((x >>> (nI m &&& 31)) &&& 1) 0 = bt 1 0 := by rw [h]
      rw [b_and, b_sshr m (by omega) x (by omega), if_pos (by omega), b_1 0 (by omega)] at h2
      simpa using h2
    · intro h
      refine b_ext (fun i hi => ?_)
      rw [b_and, b_1 i hi]
      by_cases c : i = 0
      · subst c
        rw [b_sshr m (by omega) x (by omega), if_pos (by omega), Nat.add_zero, h]; rfl
      · rw [decide_eq_false c]; simp
  rw [h1, h3]
  cases bt x m <;> simp
def entS (t : M2) (d w m : Nat) (a : Int32) : M2 := qGo (up2 (up2 (up2 (up2 (up2 (up2 (up2 (up2 (up2 (up2 (up2 t 26 0 (nI (d + 1))) 23 0 (t 23 0 + 1)) 27 (d + 1) (nI m)) 28 (d + 1) (if t 17 0 = 2 then t 18 0 else t 17 0)) 18 0 (if t 17 0 = 2 then 1 - t 18 0 else t 18 0)) 30 w 9) 31 w (t 37 0)) 32 w (-1)) 33 w (t 38 0)) 35 w 0) 29 0 (nI (w + 1))) 0 a
/-- an invocation begins, on both sides -/
theorem enter_sim {n d w m : Nat} {r k : Nat → Nat} {u : SC} {t : M2} (hd : d < 3) (hm : m < 6) (hw : w < 800) (hS : SR n r k u t) (hI : IC u) (hD : RD u t) (h25 : t 25 0 = 0) (h26 : t 26 0 = nI d) (h29 : t 29 0 = nI w) (a : Int32) :
    ∃ t2, qGo (qAwait (qEnt t (nI m)) 9 (-1)) 0 a = t2 ∧ AtA d 0 a (w + 1) (wr (kTake (wr u 9 d (nI m))).2 10 d (kTake (wr u 9 d (nI m))).1) t2 ∧ RD (wr (kTake (wr u 9 d (nI m))).2 10 d (kTake (wr u 9 d (nI m))).1) t2 ∧ IC (wr (kTake (wr u 9 d (nI m))).2 10 d (kTake (wr u 9 d (nI m))).1) ∧ Stat u (wr (kTake (wr u 9 d (nI m))).2 10 d (kTake (wr u 9 d (nI m))).1) ∧ StatM t t2 ∧ t2 30 w = 9 ∧
      (∀ i, i < w → t2 30 i = t 30 i ∧ t2 31 i = t 31 i ∧ t2 32 i = t 32 i ∧ t2 33 i = t 33 i ∧ t2 34 i = t 34 i ∧ t2 35 i = t 35 i) ∧ (∀ i, i ≤ d → t2 27 i = t 27 i ∧ t2 28 i = t 28 i) ∧ (∀ i, i < d → (wr (kTake (wr u 9 d (nI m))).2 10 d (kTake (wr u 9 d (nI m))).1).1 9 i = u.1 9 i ∧ (wr (kTake (wr u 9 d (nI m))).2 10 d (kTake (wr u 9 d (nI m))).1).1 10 i = u.1 10 i) := by
  obtain ⟨i1, b, hb, eb⟩ := IC_take (IC_set9 hI d hm)
  have hIC : IC (wr (kTake (wr u 9 d (nI m))).2 10 d (kTake (wr u 9 d (nI m))).1) := by rw [eb]; exact IC_set10 i1 d hb
  have hent : qEnt t (nI m) = up2 (up2 (up2 (up2 (up2 t 26 0 (nI (d + 1))) 23 0 (t 23 0 + 1)) 27 (d + 1) (nI m)) 28 (d + 1) (if t 17 0 = 2 then t 18 0 else t 17 0)) 18 0 (if t 17 0 = 2 then 1 - t 18 0 else t 18 0) := by
    unfold qEnt
    rw [h26, nI_1, ixn (by omega : d + 1 < 1000)]
  have hent29 : (qEnt t (nI m)) 29 0 = nI w := by rw [hent]; exact h29
  have haw := qAwait_at hent29 (by omega) 9 (-1)
  refine ⟨entS t d w m a, by rw [haw, hent]; rfl, ?_⟩
  obtain ⟨hL, h3, h4, h2⟩ := hD
  have hsrc := hS.2.1
  have s2 : StatM t (entS t d w m a) := (((((((((((((StatM.rf t).up (by omega)).up (by omega)).up (by omega)).up (by omega)).up (by omega)).up (by omega)).up (by omega)).up (by omega)).up (by omega)).up (by omega)).up (by omega)).up (by omega)).up (by omega) |>.up (by omega)
  have hk30 : ∀ i, i < w → ∀ f : Nat → Int32, ∀ v, upd f w v i = f i := fun i hi f v => pk_un (by omega)
  have hk27 : ∀ i, i ≤ d → ∀ f : Nat → Int32, ∀ v, upd f (d + 1) v i = f i := fun i hi f v => pk_un (by omega)
  have hk9 : ∀ i, i < d → ∀ f : Nat → Int32, ∀ v, upd f d v i = f i := fun i hi f v => pk_un (by omega)
  have fin : ∀ u2 : SC, u2 = wr (kTake (wr u 9 d (nI m))).2 10 d (kTake (wr u 9 d (nI m))).1 → u2.1 9 = upd (u.1 9) d (nI m) → u2.1 10 = upd (u.1 10) d (if t 17 0 = 2 then t 18 0 else t 17 0) → u2.1 2 0 = (if t 17 0 = 2 then 1 - t 18 0 else t 18 0) → u2.1 4 0 = t 23 0 + 1 → u2.1 3 = u.1 3 → u2.1 8 = u.1 8 → u2.1 11 = u.1 11 → u2.1 12 = u.1 12 → Stat u u2 →
      AtA d 0 a (w + 1) u2 (entS t d w m a) ∧ RD u2 (entS t d w m a) ∧ (∀ i, i < d → u2.1 9 i = u.1 9 i ∧ u2.1 10 i = u.1 10 i) := by
    intro u2 _ e9 e10 e2 e4 e3 e8 e11 e12 _
    refine ⟨⟨h25, rfl, rfl, rfl, rfl, ?_, ?_, rfl⟩, ⟨?_, ?_, ?_, ?_⟩, fun i hi => ?_⟩
    · rw [e9, pk_us]; exact pk_us
    · rw [e10, pk_us]; exact pk_us
    · rw [e8, e11, e12]; exact hL
    · rw [e3]; exact h3
    · exact e4
    · exact e2
    · rw [e9, e10, hk9 i hi, hk9 i hi]; exact ⟨rfl, rfl⟩
  have key : AtA d 0 a (w + 1) (wr (kTake (wr u 9 d (nI m))).2 10 d (kTake (wr u 9 d (nI m))).1) (entS t d w m a) ∧ RD (wr (kTake (wr u 9 d (nI m))).2 10 d (kTake (wr u 9 d (nI m))).1) (entS t d w m a) ∧ (∀ i, i < d → (wr (kTake (wr u 9 d (nI m))).2 10 d (kTake (wr u 9 d (nI m))).1).1 9 i = u.1 9 i ∧ (wr (kTake (wr u 9 d (nI m))).2 10 d (kTake (wr u 9 d (nI m))).1).1 10 i = u.1 10 i) ∧ Stat u (wr (kTake (wr u 9 d (nI m))).2 10 d (kTake (wr u 9 d (nI m))).1) := by
    by_cases c : u.1 1 0 = 2
    · have ek : kTake (wr u 9 d (nI m)) = (u.1 2 0, wr (wr (wr u 9 d (nI m)) 4 0 (u.1 4 0 + 1)) 2 0 (1 - u.1 2 0)) := by
        unfold kTake
        rw [if_pos (show (wr u 9 d (nI m)).1 1 0 = 2 from c)]; rfl
      have c' : t 17 0 = 2 := by rw [← hsrc]; exact c
      have sU : Stat u (wr (wr (wr (wr u 9 d (nI m)) 4 0 (u.1 4 0 + 1)) 2 0 (1 - u.1 2 0)) 10 d (u.1 2 0)) := ((((Stat.rf u).wr (by omega)).wr (by omega)).wr (by omega)).wr (by omega)
      rw [ek]
      obtain ⟨z1, z2, z3⟩ := fin (wr (wr (wr (wr u 9 d (nI m)) 4 0 (u.1 4 0 + 1)) 2 0 (1 - u.1 2 0)) 10 d (u.1 2 0)) (by rw [ek]) rfl (by rw [if_pos c', ← h2]; rfl) (by rw [if_pos c', ← h2]; rfl) (by rw [← h4]; rfl) rfl rfl rfl rfl sU
      exact ⟨z1, z2, z3, sU⟩
    · have ek : kTake (wr u 9 d (nI m)) = (u.1 1 0, wr (wr u 9 d (nI m)) 4 0 (u.1 4 0 + 1)) := by
        unfold kTake
        rw [if_neg (show ¬ (wr u 9 d (nI m)).1 1 0 = 2 from c)]; rfl
      have c' : ¬ t 17 0 = 2 := by rw [← hsrc]; exact c
      have sU : Stat u (wr (wr (wr u 9 d (nI m)) 4 0 (u.1 4 0 + 1)) 10 d (u.1 1 0)) := (((Stat.rf u).wr (by omega)).wr (by omega)).wr (by omega)
      rw [ek]
      obtain ⟨z1, z2, z3⟩ := fin (wr (wr (wr u 9 d (nI m)) 4 0 (u.1 4 0 + 1)) 10 d (u.1 1 0)) (by rw [ek]) rfl (by rw [if_neg c', ← hsrc]; rfl) (by rw [if_neg c', ← h2]; rfl) (by rw [← h4]; rfl) rfl rfl rfl rfl sU
      exact ⟨z1, z2, z3, sU⟩
  obtain ⟨k1, k2, k3, k4⟩ := key
  refine ⟨k1, k2, hIC, k4, s2, pk_us, fun i hi => ⟨hk30 i hi _ _, hk30 i hi _ _, hk30 i hi _ _, hk30 i hi _ _, rfl, hk30 i hi _ _⟩, fun i hi => ⟨hk27 i hi _ _, hk27 i hi _ _⟩, k3⟩
end
section
/-! pure rows: the end of the chain, the chain, the whole invocation -/
theorem work_sim {n N dd w : Nat} {r k : Nat → Nat} {go : Go} {x : Int32} {u : SC} {t : M2} (hG : SimOK n r k N go) (hd : dd < 3) (hN : (2 - dd) * 7 ≤ N) (hw : w ≤ 8 * dd + 7) (hS : SR n r k u t) (hI : IC u) (hD : RD u t) (h25 : t 25 0 = 0) (h36 : t 36 0 = 1) (h26 : t 26 0 = nI (dd + 1)) (h27 : t 27 (dd + 1) = u.1 9 dd) (h28 : t 28 (dd + 1) = u.1 10 dd) (h29 : t 29 0 = nI w) (h38 : t 38 0 = x) :
    ∃ t', Res (qWork t) dd w u t (kWork go (nI dd) x u).1 (kWork go (nI dd) x u).2 t' := by
  obtain ⟨mm, hmm, em⟩ := hI.2.2.2.1 dd hd
  obtain ⟨tt, htt, et⟩ := hI.2.2.2.2.1 dd hd
  obtain ⟨j, hj, ej1, ej2⟩ : ∃ j, j < 12 ∧ tt * 6 + mm = j ∧ 6 * tt + mm = j := ⟨tt * 6 + mm, by omega, rfl, by omega⟩
  have ekw : kWork go (nI dd) x u = kWorkR go j (nI dd) x (kNote u (100 + nI mm) x) := by
    unfold kWork
    rw [ixn (by omega : dd < 1000), et, em, show (6 : Int32) = nI 6 from rfl, pk_mul, nI_add, ej1, ixn (by omega)]
  have eqw : qWork t = if (qNote t (100 + nI mm) x) 25 0 = 0 then qWorkR (qNote t (100 + nI mm) x) (nI j) else qNote t (100 + nI mm) x := by
    unfold qWork
    rw [h26, ixn (by omega : dd + 1 < 1000), h27, h28, et, em, h38, show (6 : Int32) = nI 6 from rfl, pk_mul, nI_add, ej2]
  rw [ekw, eqw]
  rcases after_note hD hI (100 + nI mm) x with ⟨a1, a2⟩ | ⟨u1, t1, a1, a2, a3, a4, a5, a6, a7, a8, a9⟩
  · rw [a1, a2, if_neg (by show ¬ (1 : Int32) = 0; decide)]
    exact ⟨_, brk_res hD hI⟩
  · have b25 : t1 25 0 = 0 := by rw [a7 25 (by omega) (by omega) (by omega)]; exact h25
    have b26 : t1 26 0 = nI (dd + 1) := by rw [a7 26 (by omega) (by omega) (by omega)]; exact h26
    have b29 : t1 29 0 = nI w := by rw [a7 29 (by omega) (by omega) (by omega)]; exact h29
    have b38 : t1 38 0 = x := by rw [a7 38 (by omega) (by omega) (by omega)]; exact h38
    have b36 : t1 36 0 = 1 := by rw [a7 36 (by omega) (by omega) (by omega)]; exact h36
    have S1 := hS.stat a5 a6
    have kp1 : Kp dd w t t1 := Kp.of (fun k hk => a7 k (by omega) (by omega) (by omega))
    have kc1 : KpC dd u u1 := fun i _ => ⟨by rw [a8 9 (by omega) (by omega) (by omega)], by rw [a8 10 (by omega) (by omega) (by omega)]⟩
    obtain ⟨w1, w2, w3, w4, w5⟩ := S1.2.2.1 j hj
    obtain ⟨ee, he, e15⟩ := S1.2.2.2.1 j hj
    rw [a1, a2, if_pos b25]
    have hix : ix (nI j) = j := ixn (by omega)
    by_cases f : 0 < t1 15 j ∧ t1 14 j = t1 38 0
    · have hfo : kFailsOn u1 j x = true := by
        unfold kFailsOn
        rw [w4, w3, if_neg (fun z => z_ne f.1 z.symm), if_pos (by rw [f.2]; exact b38.symm)]
      have e1 : kWorkR go j (nI dd) x (true, u1) = (1, wr u1 5 0 (t1 15 j)) := by
        unfold kWorkR; dsimp only; rw [if_neg (by decide), if_pos hfo, w4]
      have e2 : qWorkR t1 (nI j) = qComes t1 true (t1 15 j) := by
        unfold qWorkR; rw [hix, if_pos f]
      rw [e1, e2]
      have hpos : 1 ≤ ee := by
        have := f.1
        rw [e15, show (0 : Int32) = nI 0 from rfl, nlt (by omega) (by omega)] at this
        omega
      exact ⟨_, (comes_res S1 a3 a4 b25 b26 b29 true rfl (fun _ => ⟨ee, hpos, he, e15⟩)).pre (Rch.rf _) a5 a6 kp1 kc1⟩
    · have hfo : ¬ kFailsOn u1 j x = true := by
        unfold kFailsOn
        rw [w4, w3]
        by_cases z : t1 15 j = 0
        · rw [if_pos z]; decide
        · rw [if_neg z]
          by_cases z2 : x = t1 14 j
          · exfalso
            refine f ⟨?_, by rw [b38]; exact z2.symm⟩
            rw [e15, show (0 : Int32) = nI 0 from rfl, nlt (by omega) (by omega)]
            have : ee ≠ 0 := fun q => z (by rw [e15, q]; rfl)
            omega
          · rw [if_neg z2]; decide
      by_cases g : ¬ t1 16 j = -1 ∧ 0 < t1 38 0
      · obtain ⟨g1, g2⟩ := g
        obtain ⟨m2, hm2, em2⟩ : ∃ e, e < 6 ∧ t1 16 j = nI e := (S1.2.2.2.2.1 j hj).elim (fun z => absurd z g1) id
        have hx0 : ¬ x ≤ 0 := by
          rw [← b38]; intro z
          simp only [Int32.lt_iff_toInt_lt, Int32.le_iff_toInt_le] at *; omega
        have e1 : kWorkR go j (nI dd) x (true, u1) = (if (kBegin go (nI m2) (x - 1) (nI (dd + 1)) u1).1 = 0 then (0, wr (kBegin go (nI m2) (x - 1) (nI (dd + 1)) u1).2 5 0 (kReckon (kBegin go (nI m2) (x - 1) (nI (dd + 1)) u1).2 j ((kBegin go (nI m2) (x - 1) (nI (dd + 1)) u1).2.1 5 0))) else kBegin go (nI m2) (x - 1) (nI (dd + 1)) u1) := by
          unfold kWorkR; dsimp only; rw [if_neg (by decide), if_neg hfo, w5, if_neg g1, if_neg hx0, em2, nI_1]
        have e2 : qWorkR t1 (nI j) = qEnter (qAwait t1 8 (nI j)) (nI m2) (x - 1) := by
          unfold qWorkR; rw [hix, if_neg f, if_pos ⟨g1, g2⟩, em2, b38]
        rw [e1, e2]
        have eaw := qAwait_at b29 (by omega) 8 (nI j)
        rw [eaw]
        generalize hta : up2 (up2 (up2 (up2 (up2 (up2 t1 30 w 8) 31 w (t1 37 0)) 32 w (nI j)) 33 w (t1 38 0)) 35 w 0) 29 0 (nI (w + 1)) = ta
        have sA : StatM t1 ta := by rw [← hta]; exact ((((((StatM.rf t1).up (by omega)).up (by omega)).up (by omega)).up (by omega)).up (by omega)).up (by omega)
        have hkw : ∀ i, i < w → ∀ f : Nat → Int32, ∀ v, upd f w v i = f i := fun i hi f v => pk_un (by omega)
        have kA : Kp dd w t1 ta := by
          rw [← hta]
          exact ⟨fun i hi => ⟨hkw i hi _ _, hkw i hi _ _, hkw i hi _ _, hkw i hi _ _, rfl, hkw i hi _ _⟩, fun _ _ => ⟨rfl, rfl⟩⟩
        have A30 : ta 30 w = 8 := by rw [← hta]; exact pk_us
        have A32 : ta 32 w = nI j := by rw [← hta]; exact pk_us
        have A29 : ta 29 0 = nI (w + 1) := by rw [← hta]; rfl
        have A26 : ta 26 0 = nI (dd + 1) := by rw [← hta]; exact b26
        have A25 : ta 25 0 = 0 := by rw [← hta]; exact b25
        have SA := S1.stat (Stat.rf u1) sA
        have DA : RD u1 ta := by rw [← hta]; exact a3
        by_cases d2 : dd = 2
        · have e3 : kBegin go (nI m2) (x - 1) (nI (dd + 1)) u1 = (1, wr u1 5 0 15) := by
            unfold kBegin; rw [d2, if_pos (by decide)]
          have e4 : qEnter ta (nI m2) (x - 1) = qComes ta true 15 := by
            unfold qEnter; rw [if_pos (by rw [A26, d2]; rfl)]
          rw [e3, e4, if_neg (show ¬ ((1 : Int32), wr u1 5 0 15).1 = 0 from by show ¬ (1 : Int32) = 0; decide)]
          have sC : StatM ta (qComes ta true 15) := (((StatM.rf ta).up (by omega)).up (by omega)).up (by omega)
          have hok : okRun (qComes ta true 15) := ok_back (w := w) (SA.stat (Stat.rf u1) sC) DA A25 rfl A29 (by omega) (Or.inr (Or.inl ⟨A30, j, hj, A32⟩))
          have e5 := Rch.one hok
          rw [qRun_back rfl, qBack_at (t := qComes ta true 15) (w := w) A29 (by omega), show (qComes ta true 15) 30 w = 8 from A30, show (qComes ta true 15) 32 w = nI j from A32] at e5
          have e6 : qBackR (up2 (qComes ta true 15) 29 0 (nI w)) 8 (nI j) = up2 (up2 (qComes ta true 15) 29 0 (nI w)) 40 0 15 := by
            unfold qBackR; rw [if_neg (by decide), if_pos rfl, if_neg (show ¬ (up2 (qComes ta true 15) 29 0 (nI w)) 39 0 = 0 by show ¬ (1 : Int32) = 0; decide)]; rfl
          rw [e6] at e5
          refine ⟨_, e5, a5.wr (by omega), ((a6.tr sA).tr sC).up (by omega) |>.up (by omega), DA, a4, Or.inr ⟨⟨A25, rfl, rfl, rfl, A26, rfl, Or.inr ⟨rfl, 15, by omega, by omega, rfl⟩⟩, (kp1.tr kA).tr (Kp.of (fun k hk => ?_)), fun i hi => kc1 i hi⟩⟩
          simp only [qComes, up2]; rw [if_neg (by omega), if_neg (by omega), if_neg (by omega), if_neg (by omega), if_neg (by omega)]
        · have hd1 : dd + 1 < 3 := by omega
          obtain ⟨t2, f1, f2, f3, f4, f5, f6, f7, f8, f9, f10⟩ := enter_sim (w := w + 1) hd1 hm2 (by omega) SA a4 DA A25 A26 A29 (x - 1)
          generalize hu2 : wr (kTake (wr u1 9 (dd + 1) (nI m2))).2 10 (dd + 1) (kTake (wr u1 9 (dd + 1) (nI m2))).1 = u2 at f2 f3 f4 f5 f10
          have e3 : kBegin go (nI m2) (x - 1) (nI (dd + 1)) u1 = go (nI (dd + 1)) (nI 0) (x - 1) u2 := by
            unfold kBegin
            rw [if_neg (by rw [show (3 : Int32) = nI 3 from rfl, nle (by omega) (by omega)]; omega), ixn (by omega : dd + 1 < 1000), hu2]; rfl
          have e4 : qEnter ta (nI m2) (x - 1) = t2 := by
            unfold qEnter; rw [if_neg (by rw [A26, show (3 : Int32) = nI 3 from rfl, neq (by omega) (by omega)]; omega), f1]
          rw [e3, e4]
          have S2 := SA.stat f5 f6
          obtain ⟨t3, hR⟩ := hG (dd + 1) 0 (x - 1) (w + 1 + 1) u2 t2 hd1 (by omega) (by omega) S2 f4 f3 f2 (by omega)
          generalize go (nI (dd + 1)) (nI 0) (x - 1) u2 = rr at hR ⊢
          obtain ⟨o, u3⟩ := rr
          dsimp only at hR ⊢
          have kp2 : Kp dd w ta t2 := ⟨fun i hi => f8 i (by omega), fun i hi => f9 i (by omega)⟩
          have kc2 : KpC dd u1 u2 := fun i hi => f10 i (by omega)
          have s02 : StatM t t2 := (a6.tr sA).tr f6
          have k02 : Kp dd w t t2 := (kp1.tr kA).tr kp2
          by_cases ho : o = 2
          · rw [if_neg (by rw [ho]; decide)]
            obtain ⟨z1, z2, z3, z4, z5, z6⟩ := hR
            refine ⟨t3, z1, a5.tr (f5.tr z2), s02.tr z3, z4, z5, Or.inl ?_⟩
            rcases z6 with z | ⟨z, -⟩
            · exact z
            · rcases z.o with q | q
              · rw [q] at ho; exact absurd ho (by decide)
              · rw [q] at ho; exact absurd ho (by decide)
          · obtain ⟨e5, F, k3, c3, S3⟩ := pop_ok (w := w + 1) S2 hR ho (by omega) (Or.inl f7)
            obtain ⟨F1, F2, F3, F4, F5, F6, F7⟩ := F
            rw [f7] at e5
            have e6 : qBackR (up2 t3 29 0 (nI (w + 1))) 9 (t2 32 (w + 1)) = up2 (up2 t3 29 0 (nI (w + 1))) 26 0 (nI (dd + 1)) := by
              unfold qBackR; rw [if_pos rfl, show (up2 t3 29 0 (nI (w + 1))) 26 0 = nI (dd + 1 + 1) from F5, nI_pred]
            rw [e6] at e5
            generalize ht4 : up2 (up2 t3 29 0 (nI (w + 1))) 26 0 (nI (dd + 1)) = t4 at e5
            have s34 : StatM t3 t4 := by rw [← ht4]; exact ((StatM.rf t3).up (by omega)).up (by omega)
            have G25 : t4 25 0 = 0 := by rw [← ht4]; exact F1
            have G36 : t4 36 0 = 0 := by rw [← ht4]; exact F2
            have G39 : t4 39 0 = o := by rw [← ht4]; exact F3
            have G40 : t4 40 0 = u3.1 5 0 := by rw [← ht4]; exact F4
            have G26 : t4 26 0 = nI (dd + 1) := by rw [← ht4]; rfl
            have G29 : t4 29 0 = nI (w + 1) := by rw [← ht4]; rfl
            have G30 : t4 30 w = 8 := by
              have z : t4 30 w = t3 30 w := by rw [← ht4]; rfl
              rw [z, (k3.1 w (by omega)).1, (f8 w (by omega)).1, A30]
            have G32 : t4 32 w = nI j := by
              have z : t4 32 w = t3 32 w := by rw [← ht4]; rfl
              rw [z, (k3.1 w (by omega)).2.2.1, (f8 w (by omega)).2.2.1, A32]
            have k34 : Kp dd w t3 t4 := by rw [← ht4]; exact Kp.of (fun k hk => by simp only [up2]; rw [if_neg (by omega), if_neg (by omega)])
            have D4 : RD u3 t4 := by rw [← ht4]; exact hR.2.2.2.1
            have S4 := S3.stat (Stat.rf u3) s34
            have hok : okRun t4 := ok_back S4 D4 G25 G36 G29 (by omega) (Or.inr (Or.inl ⟨G30, j, hj, G32⟩))
            have e7 := Rch.one hok
            rw [qRun_back G36, qBack_at G29 (by omega), G30, G32] at e7
            have k23 : Kp dd w t2 t3 := ⟨fun i hi => k3.1 i (by omega), fun i hi => k3.2 i (by omega)⟩
            have c23 : KpC dd u2 u3 := fun i hi => c3 i (by omega)
            obtain ⟨v1, v2, v3, v4, v5⟩ := S4.2.2.1 j hj
            by_cases o0 : o = 0
            · rw [if_pos o0]
              have e8 : qBackR (up2 t4 29 0 (nI w)) 8 (nI j) = up2 (up2 t4 29 0 (nI w)) 40 0 (kReckon u3 j (u3.1 5 0)) := by
                unfold qBackR kReckon; rw [if_neg (by decide), if_pos rfl, if_pos (show (up2 t4 29 0 (nI w)) 39 0 = 0 from G39.trans o0), hix, show (up2 t4 29 0 (nI w)) 40 0 = u3.1 5 0 from G40, show (up2 t4 29 0 (nI w)) 12 j = u3.1 22 j from v1.symm, show (up2 t4 29 0 (nI w)) 13 j = u3.1 23 j from v2.symm]
              rw [e8] at e7
              refine ⟨_, (hR.1.tr e5).tr e7, (a5.tr (f5.tr hR.2.1)).wr (by omega), (((s02.tr hR.2.2.1).tr s34).up (by omega)).up (by omega), D4, hR.2.2.2.2.1, Or.inr ⟨⟨G25, G36, G39.trans o0, rfl, G26, rfl, Or.inl rfl⟩, ((k02.tr k23).tr k34).tr (Kp.of (fun k hk => ?_)), fun i hi => ((kc1.tr kc2).tr c23) i hi⟩⟩
              simp only [up2]; rw [if_neg (by omega), if_neg (by omega)]
            · rw [if_neg o0]
              have e8 : qBackR (up2 t4 29 0 (nI w)) 8 (nI j) = up2 (up2 t4 29 0 (nI w)) 40 0 (u3.1 5 0) := by
                unfold qBackR; rw [if_neg (by decide), if_pos rfl, if_neg (show ¬ (up2 t4 29 0 (nI w)) 39 0 = 0 from fun z => o0 (G39.symm.trans z)), show (up2 t4 29 0 (nI w)) 40 0 = u3.1 5 0 from G40]
              rw [e8] at e7
              refine ⟨_, (hR.1.tr e5).tr e7, a5.tr (f5.tr hR.2.1), (((s02.tr hR.2.2.1).tr s34).up (by omega)).up (by omega), D4, hR.2.2.2.2.1, Or.inr ⟨⟨G25, G36, G39, rfl, G26, rfl, F7⟩, ((k02.tr k23).tr k34).tr (Kp.of (fun k hk => ?_)), fun i hi => ((kc1.tr kc2).tr c23) i hi⟩⟩
              simp only [up2]; rw [if_neg (by omega), if_neg (by omega)]
      · have e1 : kWorkR go j (nI dd) x (true, u1) = (0, wr u1 5 0 (t1 12 j * x + t1 13 j)) := by
          unfold kWorkR kReckon; dsimp only; rw [if_neg (by decide), if_neg hfo, w5, w1, w2]
          by_cases z : t1 16 j = -1
          · rw [if_pos z]
          · rw [if_neg z, if_pos]
            have z2 : ¬ 0 < t1 38 0 := fun q => g ⟨z, q⟩
            rw [b38] at z2
            simp only [Int32.lt_iff_toInt_lt, Int32.le_iff_toInt_le] at *; omega
        have e2 : qWorkR t1 (nI j) = qComes t1 false (t1 12 j * x + t1 13 j) := by
          unfold qWorkR; rw [hix, if_neg f, if_neg g, b38]
        rw [e1, e2]
        exact ⟨_, (comes_res S1 a3 a4 b25 b26 b29 false rfl (fun z => by cases z)).pre (Rch.rf _) a5 a6 kp1 kc1⟩
theorem along_sim {n N : Nat} {r k : Nat → Nat} {go : Go} (hG : SimOK n r k N go) : SimOK n r k (N + 1) (kAlong go) := by
  intro dd ff x w u t hd hff hN hS hI hD hA hw
  have hn := hS.1.1
  obtain ⟨mm, hmm, em⟩ := hI.2.2.2.1 dd hd
  have hb : bitsOk (u.1 9 dd) := by rw [em]; exact bits_ok mm hmm
  obtain ⟨h25, h36, h37, h38, h26, h27, h28, h29⟩ := hA
  have hok : okRun t := ok_step hd hS hI hD h25 h36 h26 h27 h28 h29 (by omega)
  have e0 := Rch.one hok
  rw [qRun_step h36] at e0
  have est : qStep t = if qLinked t (u.1 9 dd) (t 37 0) < 0 then qWork t else qStepA t (qLinked t (u.1 9 dd) (t 37 0)) := by
    unfold qStep
    rw [h26, ixn (by omega : dd + 1 < 1000), h27]
  have eal : kAlong go (nI dd) (nI ff) x u = (if kChainP u (u.1 9 dd) (nI ff) = -1 then kWork go (nI dd) x u else if u.1 19 (u.2 (ix (kChainP u (u.1 9 dd) (nI ff)))) = 0 then kAct go (u.2 (ix (kChainP u (u.1 9 dd) (nI ff)))) (nI dd) (kChainP u (u.1 9 dd) (nI ff) + 1) x u else if kInRange (wr u 3 0 (u.1 3 0 + 1)) (u.2 (ix (kChainP u (u.1 9 dd) (nI ff)))) x = true then kAct go (u.2 (ix (kChainP u (u.1 9 dd) (nI ff)))) (nI dd) (kChainP u (u.1 9 dd) (nI ff) + 1) x (wr u 3 0 (u.1 3 0 + 1)) else go (nI dd) (kChainP u (u.1 9 dd) (nI ff) + 1) x (wr u 3 0 (u.1 3 0 + 1))) := by
    unfold kAlong
    rw [ixn (by omega : dd < 1000)]
  rw [eal]
  rcases kChainL_spec u (u.1 9 dd) hn hS.1.2.1 7 ff hff (by omega) with ⟨c1, c2⟩ | ⟨pp, c1, c2, c3, c4, c5⟩
  · have c1' : kChainP u (u.1 9 dd) (nI ff) = -1 := c1
    rw [if_pos c1']
    have el : qLinked t (u.1 9 dd) (t 37 0) = -1 := by rw [h37]; exact link_none hS.1 hb hff c2
    rw [est, el, if_pos (by decide)] at e0
    obtain ⟨t', ht⟩ := work_sim hG hd (by omega) (by omega) hS hI hD h25 h36 h26 h27 h28 h29 h38
    exact ⟨t', ht.pre e0 (Stat.rf u) (StatM.rf t) (Kp.rf _ _ _) (KpC.rf _ _)⟩
  · have c3' : kChainP u (u.1 9 dd) (nI ff) = nI pp := c3
    have hcn : cnt (fun j => kAdvises u (u.2 j) (u.1 9 dd)) pp = cnt (fun j => kAdvises u (u.2 j) (u.1 9 dd)) ff := cnt_same c1 c5
    have el : qLinked t (u.1 9 dd) (t 37 0) = nI (r pp) := by rw [h37, ← hcn]; exact link_at hS.1 hb c2 c4
    have hr := hS.1.2.2.2.1 pp c2
    rw [est, el, if_neg (nI_nneg (by omega))] at e0
    rw [c3', if_neg (nI_ne_m1 (by omega)), ixn (by omega : pp < 1000), nI_1]
    obtain ⟨q1, q2, q3, q4, q5, q6, q7, q8⟩ := hS.1.2.2.2.2.2.2.1 pp c2
    have esa : qStepA t (nI (r pp)) = if t 9 (r pp) = 0 then qStepB t (nI (r pp)) else if qWithin x (t 10 (r pp)) (t 11 (r pp)) = true then qStepB (up2 t 22 0 (t 22 0 + 1)) (nI (r pp)) else up2 (up2 t 22 0 (t 22 0 + 1)) 37 0 (t 37 0 + 1) := by
      unfold qStepA
      rw [ixn (by omega), h38]
    rw [esa] at e0
    have cx0 : ActCx n r k N go dd pp w x u t := ⟨hG, hd, c2, by omega, by omega, hS, hI, hD, h25, h26, h27, h28, h29, by rw [hcn]; exact h37, c4, h38, h36⟩
    rw [q7]
    by_cases z : t 9 (r pp) = 0
    · rw [if_pos z] at e0 ⊢
      obtain ⟨t', ht⟩ := act_sim cx0
      exact ⟨t', ht.pre e0 (Stat.rf u) (StatM.rf t) (Kp.rf _ _ _) (KpC.rf _ _)⟩
    · rw [if_neg z] at e0 ⊢
      obtain ⟨r1, r2⟩ := q8 z
      have sU : Stat u (wr u 3 0 (u.1 3 0 + 1)) := (Stat.rf u).wr (by omega)
      have sM : StatM t (up2 t 22 0 (t 22 0 + 1)) := (StatM.rf t).up (by omega)
      have hD1 : RD (wr u 3 0 (u.1 3 0 + 1)) (up2 t 22 0 (t 22 0 + 1)) := ⟨hD.1, by show u.1 3 0 + 1 = t 22 0 + 1; rw [hD.2.1], hD.2.2⟩
      have cx1 : ActCx n r k N go dd pp w x (wr u 3 0 (u.1 3 0 + 1)) (up2 t 22 0 (t 22 0 + 1)) := ⟨hG, hd, c2, by omega, by omega, hS.stat sU sM, hI, hD1, h25, h26, h27, h28, h29, by
        have z : (up2 t 22 0 (t 22 0 + 1)) 37 0 = nI (cnt (fun j => kAdvises u (u.2 j) (u.1 9 dd)) pp) := by rw [hcn]; exact h37
        exact z, c4, h38, h36⟩
      have ein : kInRange (wr u 3 0 (u.1 3 0 + 1)) (u.2 pp) x = qWithin x (t 10 (r pp)) (t 11 (r pp)) := by
        rw [← r1, ← r2]; rfl
      have kp : Kp dd w t (up2 t 22 0 (t 22 0 + 1)) := ⟨fun _ _ => ⟨rfl, rfl, rfl, rfl, rfl, rfl⟩, fun _ _ => ⟨rfl, rfl⟩⟩
      have kc : KpC dd u (wr u 3 0 (u.1 3 0 + 1)) := fun _ _ => ⟨rfl, rfl⟩
      rw [ein]
      by_cases z2 : qWithin x (t 10 (r pp)) (t 11 (r pp)) = true
      · rw [if_pos z2] at e0 ⊢
        obtain ⟨t', ht⟩ := act_sim cx1
        exact ⟨t', ht.pre e0 sU sM kp kc⟩
      · rw [if_neg z2] at e0 ⊢
        obtain ⟨t', ht⟩ := next_res cx1
        exact ⟨t', ht.pre e0 sU sM kp kc⟩
theorem sim_all (n : Nat) (r k : Nat → Nat) : ∀ N, SimOK n r k N (kGo N)
  | 0 => fun dd ff x w u t _ _ h => by omega
  | N + 1 => along_sim (sim_all n r k N)
/-- a whole invoke on both sides -/
theorem invoke_sim {n m : Nat} {r k : Nat → Nat} {u : SC} {t : M2} (hm : m < 6) (hS : SR n r k u t) (hI : IC u) (hT : u.1 2 0 = t 18 0) (a : Int32) :
    ∃ N tN, (∀ i, i < N → okRun (qIt i (qStart t (nI m) a))) ∧ qIt N (qStart t (nI m) a) = tN ∧ qMore tN = false ∧ (kInvoke u (nI m) a).1 = (qEnd tN).1 ∧ Stat u (kInvoke u (nI m) a).2 ∧ StatM t tN ∧ RD (kInvoke u (nI m) a).2 tN ∧ IC (kInvoke u (nI m) a).2 ∧ (kInvoke u (nI m) a).2.1 5 0 = (qEnd tN).2 24 0 := by
  have hn := hS.1.1
  have hmt : kIsMethod (nI m) = true := by
    have : m = 0 ∨ m = 1 ∨ m = 2 ∨ m = 3 ∨ m = 4 ∨ m = 5 := by omega
    rcases this with rfl | rfl | rfl | rfl | rfl | rfl <;> rfl
  generalize hu0 : wr (wr (wr u 8 0 0) 3 0 0) 4 0 0 = u0
  generalize ht0 : up2 (up2 (up2 (up2 (up2 (up2 t 19 0 0) 22 0 0) 23 0 0) 25 0 0) 26 0 0) 29 0 0 = t0
  have sU : Stat u u0 := by rw [← hu0]; exact (((Stat.rf u).wr (by omega)).wr (by omega)).wr (by omega)
  have sM : StatM t t0 := by rw [← ht0]; exact ((((((StatM.rf t).up (by omega)).up (by omega)).up (by omega)).up (by omega)).up (by omega)).up (by omega)
  have I0 : IC u0 := by rw [← hu0]; exact ⟨hI.1, ⟨0, by omega, rfl⟩, hI.2.2⟩
  have D0 : RD u0 t0 := by rw [← hu0, ← ht0]; exact ⟨⟨0, by omega, rfl, rfl, fun i hi => absurd hi (by omega)⟩, rfl, rfl, hT⟩
  have ek : kInvoke u (nI m) a = kBegin (kGo 22) (nI m) a 0 u0 := by
    unfold kInvoke
    rw [hmt, if_neg (by decide), hu0]
  have eb : kBegin (kGo 22) (nI m) a 0 u0 = kGo 22 (nI 0) (nI 0) a (wr (kTake (wr u0 9 0 (nI m))).2 10 0 (kTake (wr u0 9 0 (nI m))).1) := by
    unfold kBegin
    rw [if_neg (by decide)]; rfl
  have h26 : t0 26 0 = nI 0 := by rw [← ht0]; rfl
  have h29 : t0 29 0 = nI 0 := by rw [← ht0]; rfl
  have h25 : t0 25 0 = 0 := by rw [← ht0]; rfl
  obtain ⟨t2, f1, f2, f3, f4, f5, f6, f7, f8, f9, f10⟩ := enter_sim (d := 0) (w := 0) (by omega) hm (by omega) (hS.stat sU sM) I0 D0 h25 h26 h29 a
  have es : qStart t (nI m) a = t2 := by
    unfold qStart
    rw [ht0]
    unfold qEnter
    rw [if_neg (by rw [h26]; decide), f1]
  have S2 := (hS.stat sU sM).stat f5 f6
  obtain ⟨t3, hR⟩ := sim_all n r k 22 0 0 a 1 _ t2 (by omega) (by omega) (by omega) S2 f4 f3 f2 (by omega)
  rw [ek, eb, es]
  generalize kGo 22 (nI 0) (nI 0) a (wr (kTake (wr u0 9 0 (nI m))).2 10 0 (kTake (wr u0 9 0 (nI m))).1) = rr at hR ⊢
  obtain ⟨o, u3⟩ := rr
  dsimp only at hR ⊢
  by_cases ho : o = 2
  · obtain ⟨⟨N, z0, z1⟩, z2, z3, z4, z5, z6⟩ := hR
    have b25 : t3 25 0 = 1 ∧ u3.1 5 0 = 0 := by
      rcases z6 with z | ⟨z, -⟩
      · exact z.2
      · rcases z.o with q | q
        · rw [q] at ho; exact absurd ho (by decide)
        · rw [q] at ho; exact absurd ho (by decide)
    refine ⟨N, t3, z0, z1, ?_, ?_, sU.tr (f5.tr z2), sM.tr (f6.tr z3), z4, z5, ?_⟩
    · unfold qMore; rw [if_neg (by rw [b25.1]; decide)]
    · unfold qEnd; dsimp only; rw [if_neg (by rw [b25.1]; decide)]; exact ho
    · unfold qEnd; dsimp only; rw [if_neg (by rw [b25.1]; decide), b25.2]; rfl
  · obtain ⟨e5, F, k3, c3, S3⟩ := pop_ok (w := 0) S2 hR ho (by omega) (Or.inl f7)
    obtain ⟨F1, F2, F3, F4, F5, F6, F7⟩ := F
    rw [f7] at e5
    have e6 : qBackR (up2 t3 29 0 (nI 0)) 9 (t2 32 0) = up2 (up2 t3 29 0 (nI 0)) 26 0 (nI 0) := by
      unfold qBackR; rw [if_pos rfl, show (up2 t3 29 0 (nI 0)) 26 0 = nI (0 + 1) from F5, nI_pred]
    rw [e6] at e5
    obtain ⟨N, z0, z1⟩ := hR.1.tr e5
    refine ⟨N, _, z0, z1, ?_, ?_, sU.tr (f5.tr hR.2.1), ((sM.tr (f6.tr hR.2.2.1)).up (by omega)).up (by omega), hR.2.2.2.1, hR.2.2.2.2.1, ?_⟩
    · unfold qMore; rw [if_pos (show (up2 (up2 t3 29 0 (nI 0)) 26 0 (nI 0)) 25 0 = 0 from F1), if_pos (show (up2 (up2 t3 29 0 (nI 0)) 26 0 (nI 0)) 36 0 = 0 from F2)]; rfl
    · unfold qEnd; dsimp only
      rw [if_pos (show (up2 (up2 t3 29 0 (nI 0)) 26 0 (nI 0)) 25 0 = 0 from F1), show (up2 (up2 t3 29 0 (nI 0)) 26 0 (nI 0)) 39 0 = o from F3]
      rcases F7 with q | ⟨q, -⟩
      · rw [q]; rfl
      · rw [q]; rfl
    · unfold qEnd; dsimp only
      rw [if_pos (show (up2 (up2 t3 29 0 (nI 0)) 26 0 (nI 0)) 25 0 = 0 from F1)]
      exact F4.symm
end
section
/-! the class's cells: 0 the object, 1 the row's object, 2 the row, 3 the works' array, 4 the trace, 5 noters, 6 words, 7 methodAt, 8 targetAt, 9 .. 14 the advisors, 15 .. 26 the works; behind them (27 ..) the reference's -/
abbrev Geo : Type := va_G × (Nat → Nat) × ClassId × ClassId × ClassId × ClassId
abbrev tyA (Γ : Geo) : List (ClassId × FieldType) := [(Γ.2.2.1, .int), (Γ.2.2.2.1, .object R0), (Γ.2.2.2.2.1, .object R3), (Γ.2.2.2.2.2, .boolean)]
def advF (u : SC) (k : Nat) : List Value := [.int (u.1 13 k), .int (u.1 14 k), .int (u.1 15 k), .int (u.1 16 k), .int (u.1 17 k), .int (u.1 18 k), .int (u.1 19 k), .int (u.1 20 k), .int (u.1 21 k)]
def wrkF (u : SC) (k : Nat) : List Value := [.int (u.1 22 k), .int (u.1 23 k), .int (u.1 24 k), .int (u.1 25 k), .int (u.1 26 k)]
def eC (Γ : Geo) (u : SC) : Nat → va_E
  | 0 => .inr (4, [.ref (Γ.2.1 1), .ref (Γ.2.1 3), .ref (Γ.2.1 4), .ref (Γ.2.1 7), .ref (Γ.2.1 8), .int (u.1 0 0), .int (u.1 1 0), .int (u.1 2 0), .int (u.1 3 0), .int (u.1 4 0), .int (u.1 5 0)])
  | 1 => .inr (1, [.ref (Γ.2.1 2), .int (u.1 6 0), .int (u.1 7 0)])
  | 2 => .inl (Γ.2.2.2.1, 6, .inr (.inr (.inr (.inr fun i => some (Γ.2.1 (u.2 i + 9))))))
  | 3 => .inl (Γ.2.2.2.2.1, 12, .inr (.inr (.inr (.inr fun i => some (Γ.2.1 (i + 15))))))
  | 4 => .inr (2, [.ref (Γ.2.1 5), .ref (Γ.2.1 6), .int (u.1 8 0)])
  | 5 => .inl (Γ.2.2.1, 100, .inl (u.1 11))
  | 6 => .inl (Γ.2.2.1, 100, .inl (u.1 12))
  | 7 => .inl (Γ.2.2.1, 3, .inl (u.1 9))
  | 8 => .inl (Γ.2.2.1, 3, .inl (u.1 10))
  | 9 => .inr (0, advF u 0)
  | 10 => .inr (0, advF u 1)
  | 11 => .inr (0, advF u 2)
  | 12 => .inr (0, advF u 3)
  | 13 => .inr (0, advF u 4)
  | 14 => .inr (0, advF u 5)
  | k + 15 => .inr (3, wrkF u k)
def wC (Γ : Geo) (u : SC) : va_W := (List.range 27).map (fun k => (Γ.2.1 k, eC Γ u k))
def inC (Γ : Geo) : Nat → Prop := fun q => ∃ k, k < 27 ∧ q = Γ.2.1 k
theorem rg_at {n k : Nat} (f : Nat → Nat × va_E) (hk : k < n) : ((List.range n).map f)[k]? = some (f k) := by
  rw [List.getElem?_map, List.getElem?_range hk]; rfl
theorem rg_set {n k : Nat} (f g : Nat → Nat × va_E) (hk : k < n) (e : Nat × va_E) (h1 : g k = e) (h2 : ∀ j, j < n → j ≠ k → g j = f j) : ((List.range n).map f).set k e = (List.range n).map g := by
  refine List.ext_getElem? (fun i => ?_)
  by_cases hi : i < n
  · by_cases c : i = k
    · subst c
      rw [List.getElem?_set_self (by simpa using hi), rg_at g hi, h1]
    · rw [List.getElem?_set_ne (Ne.symm c), rg_at f hi, rg_at g hi, h2 i hi c]
  · rw [List.getElem?_eq_none (by simpa using hi), List.getElem?_eq_none (by simpa using hi)]
theorem wC_at {Γ : Geo} {u : SC} {k : Nat} (hk : k < 27) : (wC Γ u)[k]? = some (Γ.2.1 k, eC Γ u k) := rg_at _ hk
theorem wC_set {Γ : Geo} {u u' : SC} {k : Nat} {e : va_E} (hk : k < 27) (h1 : eC Γ u' k = e) (h2 : ∀ j, j ≠ k → eC Γ u' j = eC Γ u j) : (wC Γ u).set k (Γ.2.1 k, e) = wC Γ u' := rg_set _ _ hk _ (by rw [h1]) (fun j _ hj => by rw [h2 j hj])
theorem rg_D {n : Nat} {A : Nat → Prop} {a : Nat → Nat} {f g : Nat → va_E} (h : va_D A ((List.range n).map fun k => (a k, f k))) : va_D A ((List.range n).map fun k => (a k, g k)) := by
  have key : ∀ (i : Nat) (q : Nat × va_E), ((List.range n).map fun k => (a k, g k))[i]? = some q → ((List.range n).map fun k => (a k, f k))[i]? = some (q.1, f i) := by
    intro i q hq
    by_cases hi : i < n
    · rw [rg_at _ hi] at hq ⊢
      cases hq
      rfl
    · rw [List.getElem?_eq_none (by simpa using hi)] at hq
      cases hq
  exact ⟨fun i j x y hi hj hxy => h.1 i j _ _ (key i x hi) (key j y hj) hxy, fun i x hi => h.2 i (x.1, f i) (key i x hi)⟩
theorem wC_D {A : Nat → Prop} {Γ : Geo} {u u' : SC} (h : va_D A (wC Γ u)) : va_D A (wC Γ u') := rg_D h
theorem wC_G {A : Nat → Prop} {Γ : Geo} {u : SC} (h : va_D A (wC Γ u)) : va_D (inC Γ) (wC Γ u) := by
  refine ⟨h.1, fun k q hk => ?_⟩
  by_cases hi : k < 27
  · rw [wC_at hi] at hk
    cases hk
    exact ⟨k, hi, rfl⟩
  · rw [List.getElem?_eq_none (by simpa [wC] using hi)] at hk
    cases hk
theorem wC_A {A : Nat → Prop} {Γ : Geo} {u : SC} (h : va_D A (wC Γ u)) : ∀ q, inC Γ q → A q := fun q ⟨k, hk, e⟩ => by rw [e]; exact h.2 k _ (wC_at hk)
theorem eC_adv {Γ : Geo} {u : SC} {k : Nat} (hk : k < 6) : eC Γ u (k + 9) = .inr (0, advF u k) := by
  have : k = 0 ∨ k = 1 ∨ k = 2 ∨ k = 3 ∨ k = 4 ∨ k = 5 := by omega
  rcases this with rfl | rfl | rfl | rfl | rfl | rfl <;> rfl
theorem eC_wrk {Γ : Geo} {u : SC} {k : Nat} : eC Γ u (k + 15) = .inr (3, wrkF u k) := rfl
theorem oC_0 {Γ : Geo} {u : SC} {v : Int32} : ∀ j, j ≠ 0 → eC Γ (wr u 0 0 v) j = eC Γ u j
  | 0, h => absurd rfl h
  | 1, _ => rfl
  | 2, _ => rfl
  | 3, _ => rfl
  | 4, _ => rfl
  | 5, _ => rfl
  | 6, _ => rfl
  | 7, _ => rfl
  | 8, _ => rfl
  | 9, _ => rfl
  | 10, _ => rfl
  | 11, _ => rfl
  | 12, _ => rfl
  | 13, _ => rfl
  | 14, _ => rfl
  | j + 15, _ => rfl
theorem oC_1 {Γ : Geo} {u : SC} {v : Int32} : ∀ j, j ≠ 0 → eC Γ (wr u 1 0 v) j = eC Γ u j
  | 0, h => absurd rfl h
  | 1, _ => rfl
  | 2, _ => rfl
  | 3, _ => rfl
  | 4, _ => rfl
  | 5, _ => rfl
  | 6, _ => rfl
  | 7, _ => rfl
  | 8, _ => rfl
  | 9, _ => rfl
  | 10, _ => rfl
  | 11, _ => rfl
  | 12, _ => rfl
  | 13, _ => rfl
  | 14, _ => rfl
  | j + 15, _ => rfl
theorem oC_2 {Γ : Geo} {u : SC} {v : Int32} : ∀ j, j ≠ 0 → eC Γ (wr u 2 0 v) j = eC Γ u j
  | 0, h => absurd rfl h
  | 1, _ => rfl
  | 2, _ => rfl
  | 3, _ => rfl
  | 4, _ => rfl
  | 5, _ => rfl
  | 6, _ => rfl
  | 7, _ => rfl
  | 8, _ => rfl
  | 9, _ => rfl
  | 10, _ => rfl
  | 11, _ => rfl
  | 12, _ => rfl
  | 13, _ => rfl
  | 14, _ => rfl
  | j + 15, _ => rfl
theorem oC_3 {Γ : Geo} {u : SC} {v : Int32} : ∀ j, j ≠ 0 → eC Γ (wr u 3 0 v) j = eC Γ u j
  | 0, h => absurd rfl h
  | 1, _ => rfl
  | 2, _ => rfl
  | 3, _ => rfl
  | 4, _ => rfl
  | 5, _ => rfl
  | 6, _ => rfl
  | 7, _ => rfl
  | 8, _ => rfl
  | 9, _ => rfl
  | 10, _ => rfl
  | 11, _ => rfl
  | 12, _ => rfl
  | 13, _ => rfl
  | 14, _ => rfl
  | j + 15, _ => rfl
theorem oC_4 {Γ : Geo} {u : SC} {v : Int32} : ∀ j, j ≠ 0 → eC Γ (wr u 4 0 v) j = eC Γ u j
  | 0, h => absurd rfl h
  | 1, _ => rfl
  | 2, _ => rfl
  | 3, _ => rfl
  | 4, _ => rfl
  | 5, _ => rfl
  | 6, _ => rfl
  | 7, _ => rfl
  | 8, _ => rfl
  | 9, _ => rfl
  | 10, _ => rfl
  | 11, _ => rfl
  | 12, _ => rfl
  | 13, _ => rfl
  | 14, _ => rfl
  | j + 15, _ => rfl
theorem oC_5 {Γ : Geo} {u : SC} {v : Int32} : ∀ j, j ≠ 0 → eC Γ (wr u 5 0 v) j = eC Γ u j
  | 0, h => absurd rfl h
  | 1, _ => rfl
  | 2, _ => rfl
  | 3, _ => rfl
  | 4, _ => rfl
  | 5, _ => rfl
  | 6, _ => rfl
  | 7, _ => rfl
  | 8, _ => rfl
  | 9, _ => rfl
  | 10, _ => rfl
  | 11, _ => rfl
  | 12, _ => rfl
  | 13, _ => rfl
  | 14, _ => rfl
  | j + 15, _ => rfl
theorem oC_6 {Γ : Geo} {u : SC} {v : Int32} : ∀ j, j ≠ 1 → eC Γ (wr u 6 0 v) j = eC Γ u j
  | 0, _ => rfl
  | 1, h => absurd rfl h
  | 2, _ => rfl
  | 3, _ => rfl
  | 4, _ => rfl
  | 5, _ => rfl
  | 6, _ => rfl
  | 7, _ => rfl
  | 8, _ => rfl
  | 9, _ => rfl
  | 10, _ => rfl
  | 11, _ => rfl
  | 12, _ => rfl
  | 13, _ => rfl
  | 14, _ => rfl
  | j + 15, _ => rfl
theorem oC_7 {Γ : Geo} {u : SC} {v : Int32} : ∀ j, j ≠ 1 → eC Γ (wr u 7 0 v) j = eC Γ u j
  | 0, _ => rfl
  | 1, h => absurd rfl h
  | 2, _ => rfl
  | 3, _ => rfl
  | 4, _ => rfl
  | 5, _ => rfl
  | 6, _ => rfl
  | 7, _ => rfl
  | 8, _ => rfl
  | 9, _ => rfl
  | 10, _ => rfl
  | 11, _ => rfl
  | 12, _ => rfl
  | 13, _ => rfl
  | 14, _ => rfl
  | j + 15, _ => rfl
theorem oC_8 {Γ : Geo} {u : SC} {v : Int32} : ∀ j, j ≠ 4 → eC Γ (wr u 8 0 v) j = eC Γ u j
  | 0, _ => rfl
  | 1, _ => rfl
  | 2, _ => rfl
  | 3, _ => rfl
  | 4, h => absurd rfl h
  | 5, _ => rfl
  | 6, _ => rfl
  | 7, _ => rfl
  | 8, _ => rfl
  | 9, _ => rfl
  | 10, _ => rfl
  | 11, _ => rfl
  | 12, _ => rfl
  | 13, _ => rfl
  | 14, _ => rfl
  | j + 15, _ => rfl
theorem oC_11 {Γ : Geo} {u : SC} {i : Nat} {v : Int32} : ∀ j, j ≠ 5 → eC Γ (wr u 11 i v) j = eC Γ u j
  | 0, _ => rfl
  | 1, _ => rfl
  | 2, _ => rfl
  | 3, _ => rfl
  | 4, _ => rfl
  | 5, h => absurd rfl h
  | 6, _ => rfl
  | 7, _ => rfl
  | 8, _ => rfl
  | 9, _ => rfl
  | 10, _ => rfl
  | 11, _ => rfl
  | 12, _ => rfl
  | 13, _ => rfl
  | 14, _ => rfl
  | j + 15, _ => rfl
theorem oC_12 {Γ : Geo} {u : SC} {i : Nat} {v : Int32} : ∀ j, j ≠ 6 → eC Γ (wr u 12 i v) j = eC Γ u j
  | 0, _ => rfl
  | 1, _ => rfl
  | 2, _ => rfl
  | 3, _ => rfl
  | 4, _ => rfl
  | 5, _ => rfl
  | 6, h => absurd rfl h
  | 7, _ => rfl
  | 8, _ => rfl
  | 9, _ => rfl
  | 10, _ => rfl
  | 11, _ => rfl
  | 12, _ => rfl
  | 13, _ => rfl
  | 14, _ => rfl
  | j + 15, _ => rfl
theorem oC_9 {Γ : Geo} {u : SC} {i : Nat} {v : Int32} : ∀ j, j ≠ 7 → eC Γ (wr u 9 i v) j = eC Γ u j
  | 0, _ => rfl
  | 1, _ => rfl
  | 2, _ => rfl
  | 3, _ => rfl
  | 4, _ => rfl
  | 5, _ => rfl
  | 6, _ => rfl
  | 7, h => absurd rfl h
  | 8, _ => rfl
  | 9, _ => rfl
  | 10, _ => rfl
  | 11, _ => rfl
  | 12, _ => rfl
  | 13, _ => rfl
  | 14, _ => rfl
  | j + 15, _ => rfl
theorem oC_10 {Γ : Geo} {u : SC} {i : Nat} {v : Int32} : ∀ j, j ≠ 8 → eC Γ (wr u 10 i v) j = eC Γ u j
  | 0, _ => rfl
  | 1, _ => rfl
  | 2, _ => rfl
  | 3, _ => rfl
  | 4, _ => rfl
  | 5, _ => rfl
  | 6, _ => rfl
  | 7, _ => rfl
  | 8, h => absurd rfl h
  | 9, _ => rfl
  | 10, _ => rfl
  | 11, _ => rfl
  | 12, _ => rfl
  | 13, _ => rfl
  | 14, _ => rfl
  | j + 15, _ => rfl
theorem oC_13 {Γ : Geo} {u : SC} {k : Nat} {v : Int32} : ∀ j, j ≠ k + 9 → eC Γ (wr u 13 k v) j = eC Γ u j
  | 0, _ => rfl
  | 1, _ => rfl
  | 2, _ => rfl
  | 3, _ => rfl
  | 4, _ => rfl
  | 5, _ => rfl
  | 6, _ => rfl
  | 7, _ => rfl
  | 8, _ => rfl
  | 9, h => by
    have hk : 0 ≠ k := fun z => h (by omega)
    show Sum.inr (0, advF (wr u 13 k v) 0) = Sum.inr (0, advF u 0)
    have e : (wr u 13 k v).1 13 0 = u.1 13 0 := pk_un hk
    unfold advF
    rw [e]
    rfl
  | 10, h => by
    have hk : 1 ≠ k := fun z => h (by omega)
    show Sum.inr (0, advF (wr u 13 k v) 1) = Sum.inr (0, advF u 1)
    have e : (wr u 13 k v).1 13 1 = u.1 13 1 := pk_un hk
    unfold advF
    rw [e]
    rfl
  | 11, h => by
    have hk : 2 ≠ k := fun z => h (by omega)
    show Sum.inr (0, advF (wr u 13 k v) 2) = Sum.inr (0, advF u 2)
    have e : (wr u 13 k v).1 13 2 = u.1 13 2 := pk_un hk
    unfold advF
    rw [e]
    rfl
  | 12, h => by
    have hk : 3 ≠ k := fun z => h (by omega)
    show Sum.inr (0, advF (wr u 13 k v) 3) = Sum.inr (0, advF u 3)
    have e : (wr u 13 k v).1 13 3 = u.1 13 3 := pk_un hk
    unfold advF
    rw [e]
    rfl
  | 13, h => by
    have hk : 4 ≠ k := fun z => h (by omega)
    show Sum.inr (0, advF (wr u 13 k v) 4) = Sum.inr (0, advF u 4)
    have e : (wr u 13 k v).1 13 4 = u.1 13 4 := pk_un hk
    unfold advF
    rw [e]
    rfl
  | 14, h => by
    have hk : 5 ≠ k := fun z => h (by omega)
    show Sum.inr (0, advF (wr u 13 k v) 5) = Sum.inr (0, advF u 5)
    have e : (wr u 13 k v).1 13 5 = u.1 13 5 := pk_un hk
    unfold advF
    rw [e]
    rfl
  | j + 15, _ => rfl
theorem sC_13 {u : SC} {k : Nat} {v : Int32} : advF (wr u 13 k v) k = (advF u k).set 0 (.int v) := by
  have e : (wr u 13 k v).1 13 k = v := pk_us
  unfold advF
  rw [e]
  rfl
theorem oC_14 {Γ : Geo} {u : SC} {k : Nat} {v : Int32} : ∀ j, j ≠ k + 9 → eC Γ (wr u 14 k v) j = eC Γ u j
  | 0, _ => rfl
  | 1, _ => rfl
  | 2, _ => rfl
  | 3, _ => rfl
  | 4, _ => rfl
  | 5, _ => rfl
  | 6, _ => rfl
  | 7, _ => rfl
  | 8, _ => rfl
  | 9, h => by
    have hk : 0 ≠ k := fun z => h (by omega)
    show Sum.inr (0, advF (wr u 14 k v) 0) = Sum.inr (0, advF u 0)
    have e : (wr u 14 k v).1 14 0 = u.1 14 0 := pk_un hk
    unfold advF
    rw [e]
    rfl
  | 10, h => by
    have hk : 1 ≠ k := fun z => h (by omega)
    show Sum.inr (0, advF (wr u 14 k v) 1) = Sum.inr (0, advF u 1)
    have e : (wr u 14 k v).1 14 1 = u.1 14 1 := pk_un hk
    unfold advF
    rw [e]
    rfl
  | 11, h => by
    have hk : 2 ≠ k := fun z => h (by omega)
    show Sum.inr (0, advF (wr u 14 k v) 2) = Sum.inr (0, advF u 2)
    have e : (wr u 14 k v).1 14 2 = u.1 14 2 := pk_un hk
    unfold advF
    rw [e]
    rfl
  | 12, h => by
    have hk : 3 ≠ k := fun z => h (by omega)
    show Sum.inr (0, advF (wr u 14 k v) 3) = Sum.inr (0, advF u 3)
    have e : (wr u 14 k v).1 14 3 = u.1 14 3 := pk_un hk
    unfold advF
    rw [e]
    rfl
  | 13, h => by
    have hk : 4 ≠ k := fun z => h (by omega)
    show Sum.inr (0, advF (wr u 14 k v) 4) = Sum.inr (0, advF u 4)
    have e : (wr u 14 k v).1 14 4 = u.1 14 4 := pk_un hk
    unfold advF
    rw [e]
    rfl
  | 14, h => by
    have hk : 5 ≠ k := fun z => h (by omega)
    show Sum.inr (0, advF (wr u 14 k v) 5) = Sum.inr (0, advF u 5)
    have e : (wr u 14 k v).1 14 5 = u.1 14 5 := pk_un hk
    unfold advF
    rw [e]
    rfl
  | j + 15, _ => rfl
theorem sC_14 {u : SC} {k : Nat} {v : Int32} : advF (wr u 14 k v) k = (advF u k).set 1 (.int v) := by
  have e : (wr u 14 k v).1 14 k = v := pk_us
  unfold advF
  rw [e]
  rfl
theorem oC_15 {Γ : Geo} {u : SC} {k : Nat} {v : Int32} : ∀ j, j ≠ k + 9 → eC Γ (wr u 15 k v) j = eC Γ u j
  | 0, _ => rfl
  | 1, _ => rfl
  | 2, _ => rfl
  | 3, _ => rfl
  | 4, _ => rfl
  | 5, _ => rfl
  | 6, _ => rfl
  | 7, _ => rfl
  | 8, _ => rfl
  | 9, h => by
    have hk : 0 ≠ k := fun z => h (by omega)
    show Sum.inr (0, advF (wr u 15 k v) 0) = Sum.inr (0, advF u 0)
    have e : (wr u 15 k v).1 15 0 = u.1 15 0 := pk_un hk
    unfold advF
    rw [e]
    rfl
  | 10, h => by
    have hk : 1 ≠ k := fun z => h (by omega)
    show Sum.inr (0, advF (wr u 15 k v) 1) = Sum.inr (0, advF u 1)
    have e : (wr u 15 k v).1 15 1 = u.1 15 1 := pk_un hk
    unfold advF
    rw [e]
    rfl
  | 11, h => by
    have hk : 2 ≠ k := fun z => h (by omega)
    show Sum.inr (0, advF (wr u 15 k v) 2) = Sum.inr (0, advF u 2)
    have e : (wr u 15 k v).1 15 2 = u.1 15 2 := pk_un hk
    unfold advF
    rw [e]
    rfl
  | 12, h => by
    have hk : 3 ≠ k := fun z => h (by omega)
    show Sum.inr (0, advF (wr u 15 k v) 3) = Sum.inr (0, advF u 3)
    have e : (wr u 15 k v).1 15 3 = u.1 15 3 := pk_un hk
    unfold advF
    rw [e]
    rfl
  | 13, h => by
    have hk : 4 ≠ k := fun z => h (by omega)
    show Sum.inr (0, advF (wr u 15 k v) 4) = Sum.inr (0, advF u 4)
    have e : (wr u 15 k v).1 15 4 = u.1 15 4 := pk_un hk
    unfold advF
    rw [e]
    rfl
  | 14, h => by
    have hk : 5 ≠ k := fun z => h (by omega)
    show Sum.inr (0, advF (wr u 15 k v) 5) = Sum.inr (0, advF u 5)
    have e : (wr u 15 k v).1 15 5 = u.1 15 5 := pk_un hk
    unfold advF
    rw [e]
    rfl
  | j + 15, _ => rfl
theorem sC_15 {u : SC} {k : Nat} {v : Int32} : advF (wr u 15 k v) k = (advF u k).set 2 (.int v) := by
  have e : (wr u 15 k v).1 15 k = v := pk_us
  unfold advF
  rw [e]
  rfl
theorem oC_16 {Γ : Geo} {u : SC} {k : Nat} {v : Int32} : ∀ j, j ≠ k + 9 → eC Γ (wr u 16 k v) j = eC Γ u j
  | 0, _ => rfl
  | 1, _ => rfl
  | 2, _ => rfl
  | 3, _ => rfl
  | 4, _ => rfl
  | 5, _ => rfl
  | 6, _ => rfl
  | 7, _ => rfl
  | 8, _ => rfl
  | 9, h => by
    have hk : 0 ≠ k := fun z => h (by omega)
    show Sum.inr (0, advF (wr u 16 k v) 0) = Sum.inr (0, advF u 0)
    have e : (wr u 16 k v).1 16 0 = u.1 16 0 := pk_un hk
    unfold advF
    rw [e]
    rfl
  | 10, h => by
    have hk : 1 ≠ k := fun z => h (by omega)
    show Sum.inr (0, advF (wr u 16 k v) 1) = Sum.inr (0, advF u 1)
    have e : (wr u 16 k v).1 16 1 = u.1 16 1 := pk_un hk
    unfold advF
    rw [e]
    rfl
  | 11, h => by
    have hk : 2 ≠ k := fun z => h (by omega)
    show Sum.inr (0, advF (wr u 16 k v) 2) = Sum.inr (0, advF u 2)
    have e : (wr u 16 k v).1 16 2 = u.1 16 2 := pk_un hk
    unfold advF
    rw [e]
    rfl
  | 12, h => by
    have hk : 3 ≠ k := fun z => h (by omega)
    show Sum.inr (0, advF (wr u 16 k v) 3) = Sum.inr (0, advF u 3)
    have e : (wr u 16 k v).1 16 3 = u.1 16 3 := pk_un hk
    unfold advF
    rw [e]
    rfl
  | 13, h => by
    have hk : 4 ≠ k := fun z => h (by omega)
    show Sum.inr (0, advF (wr u 16 k v) 4) = Sum.inr (0, advF u 4)
    have e : (wr u 16 k v).1 16 4 = u.1 16 4 := pk_un hk
    unfold advF
    rw [e]
    rfl
  | 14, h => by
    have hk : 5 ≠ k := fun z => h (by omega)
    show Sum.inr (0, advF (wr u 16 k v) 5) = Sum.inr (0, advF u 5)
    have e : (wr u 16 k v).1 16 5 = u.1 16 5 := pk_un hk
    unfold advF
    rw [e]
    rfl
  | j + 15, _ => rfl
theorem sC_16 {u : SC} {k : Nat} {v : Int32} : advF (wr u 16 k v) k = (advF u k).set 3 (.int v) := by
  have e : (wr u 16 k v).1 16 k = v := pk_us
  unfold advF
  rw [e]
  rfl
theorem oC_17 {Γ : Geo} {u : SC} {k : Nat} {v : Int32} : ∀ j, j ≠ k + 9 → eC Γ (wr u 17 k v) j = eC Γ u j
  | 0, _ => rfl
  | 1, _ => rfl
  | 2, _ => rfl
  | 3, _ => rfl
  | 4, _ => rfl
  | 5, _ => rfl
  | 6, _ => rfl
  | 7, _ => rfl
  | 8, _ => rfl
  | 9, h => by
    have hk : 0 ≠ k := fun z => h (by omega)
    show Sum.inr (0, advF (wr u 17 k v) 0) = Sum.inr (0, advF u 0)
    have e : (wr u 17 k v).1 17 0 = u.1 17 0 := pk_un hk
    unfold advF
    rw [e]
    rfl
  | 10, h => by
    have hk : 1 ≠ k := fun z => h (by omega)
    show Sum.inr (0, advF (wr u 17 k v) 1) = Sum.inr (0, advF u 1)
    have e : (wr u 17 k v).1 17 1 = u.1 17 1 := pk_un hk
    unfold advF
    rw [e]
    rfl
  | 11, h => by
    have hk : 2 ≠ k := fun z => h (by omega)
    show Sum.inr (0, advF (wr u 17 k v) 2) = Sum.inr (0, advF u 2)
    have e : (wr u 17 k v).1 17 2 = u.1 17 2 := pk_un hk
    unfold advF
    rw [e]
    rfl
  | 12, h => by
    have hk : 3 ≠ k := fun z => h (by omega)
    show Sum.inr (0, advF (wr u 17 k v) 3) = Sum.inr (0, advF u 3)
    have e : (wr u 17 k v).1 17 3 = u.1 17 3 := pk_un hk
    unfold advF
    rw [e]
    rfl
  | 13, h => by
    have hk : 4 ≠ k := fun z => h (by omega)
    show Sum.inr (0, advF (wr u 17 k v) 4) = Sum.inr (0, advF u 4)
    have e : (wr u 17 k v).1 17 4 = u.1 17 4 := pk_un hk
    unfold advF
    rw [e]
    rfl
  | 14, h => by
    have hk : 5 ≠ k := fun z => h (by omega)
    show Sum.inr (0, advF (wr u 17 k v) 5) = Sum.inr (0, advF u 5)
    have e : (wr u 17 k v).1 17 5 = u.1 17 5 := pk_un hk
    unfold advF
    rw [e]
    rfl
  | j + 15, _ => rfl
theorem sC_17 {u : SC} {k : Nat} {v : Int32} : advF (wr u 17 k v) k = (advF u k).set 4 (.int v) := by
  have e : (wr u 17 k v).1 17 k = v := pk_us
  unfold advF
  rw [e]
  rfl
theorem oC_18 {Γ : Geo} {u : SC} {k : Nat} {v : Int32} : ∀ j, j ≠ k + 9 → eC Γ (wr u 18 k v) j = eC Γ u j
  | 0, _ => rfl
  | 1, _ => rfl
  | 2, _ => rfl
  | 3, _ => rfl
  | 4, _ => rfl
  | 5, _ => rfl
  | 6, _ => rfl
  | 7, _ => rfl
  | 8, _ => rfl
  | 9, h => by
    have hk : 0 ≠ k := fun z => h (by omega)
    show Sum.inr (0, advF (wr u 18 k v) 0) = Sum.inr (0, advF u 0)
    have e : (wr u 18 k v).1 18 0 = u.1 18 0 := pk_un hk
    unfold advF
    rw [e]
    rfl
  | 10, h => by
    have hk : 1 ≠ k := fun z => h (by omega)
    show Sum.inr (0, advF (wr u 18 k v) 1) = Sum.inr (0, advF u 1)
    have e : (wr u 18 k v).1 18 1 = u.1 18 1 := pk_un hk
    unfold advF
    rw [e]
    rfl
  | 11, h => by
    have hk : 2 ≠ k := fun z => h (by omega)
    show Sum.inr (0, advF (wr u 18 k v) 2) = Sum.inr (0, advF u 2)
    have e : (wr u 18 k v).1 18 2 = u.1 18 2 := pk_un hk
    unfold advF
    rw [e]
    rfl
  | 12, h => by
    have hk : 3 ≠ k := fun z => h (by omega)
    show Sum.inr (0, advF (wr u 18 k v) 3) = Sum.inr (0, advF u 3)
    have e : (wr u 18 k v).1 18 3 = u.1 18 3 := pk_un hk
    unfold advF
    rw [e]
    rfl
  | 13, h => by
    have hk : 4 ≠ k := fun z => h (by omega)
    show Sum.inr (0, advF (wr u 18 k v) 4) = Sum.inr (0, advF u 4)
    have e : (wr u 18 k v).1 18 4 = u.1 18 4 := pk_un hk
    unfold advF
    rw [e]
    rfl
  | 14, h => by
    have hk : 5 ≠ k := fun z => h (by omega)
    show Sum.inr (0, advF (wr u 18 k v) 5) = Sum.inr (0, advF u 5)
    have e : (wr u 18 k v).1 18 5 = u.1 18 5 := pk_un hk
    unfold advF
    rw [e]
    rfl
  | j + 15, _ => rfl
theorem sC_18 {u : SC} {k : Nat} {v : Int32} : advF (wr u 18 k v) k = (advF u k).set 5 (.int v) := by
  have e : (wr u 18 k v).1 18 k = v := pk_us
  unfold advF
  rw [e]
  rfl
theorem oC_19 {Γ : Geo} {u : SC} {k : Nat} {v : Int32} : ∀ j, j ≠ k + 9 → eC Γ (wr u 19 k v) j = eC Γ u j
  | 0, _ => rfl
  | 1, _ => rfl
  | 2, _ => rfl
  | 3, _ => rfl
  | 4, _ => rfl
  | 5, _ => rfl
  | 6, _ => rfl
  | 7, _ => rfl
  | 8, _ => rfl
  | 9, h => by
    have hk : 0 ≠ k := fun z => h (by omega)
    show Sum.inr (0, advF (wr u 19 k v) 0) = Sum.inr (0, advF u 0)
    have e : (wr u 19 k v).1 19 0 = u.1 19 0 := pk_un hk
    unfold advF
    rw [e]
    rfl
  | 10, h => by
    have hk : 1 ≠ k := fun z => h (by omega)
    show Sum.inr (0, advF (wr u 19 k v) 1) = Sum.inr (0, advF u 1)
    have e : (wr u 19 k v).1 19 1 = u.1 19 1 := pk_un hk
    unfold advF
    rw [e]
    rfl
  | 11, h => by
    have hk : 2 ≠ k := fun z => h (by omega)
    show Sum.inr (0, advF (wr u 19 k v) 2) = Sum.inr (0, advF u 2)
    have e : (wr u 19 k v).1 19 2 = u.1 19 2 := pk_un hk
    unfold advF
    rw [e]
    rfl
  | 12, h => by
    have hk : 3 ≠ k := fun z => h (by omega)
    show Sum.inr (0, advF (wr u 19 k v) 3) = Sum.inr (0, advF u 3)
    have e : (wr u 19 k v).1 19 3 = u.1 19 3 := pk_un hk
    unfold advF
    rw [e]
    rfl
  | 13, h => by
    have hk : 4 ≠ k := fun z => h (by omega)
    show Sum.inr (0, advF (wr u 19 k v) 4) = Sum.inr (0, advF u 4)
    have e : (wr u 19 k v).1 19 4 = u.1 19 4 := pk_un hk
    unfold advF
    rw [e]
    rfl
  | 14, h => by
    have hk : 5 ≠ k := fun z => h (by omega)
    show Sum.inr (0, advF (wr u 19 k v) 5) = Sum.inr (0, advF u 5)
    have e : (wr u 19 k v).1 19 5 = u.1 19 5 := pk_un hk
    unfold advF
    rw [e]
    rfl
  | j + 15, _ => rfl
theorem sC_19 {u : SC} {k : Nat} {v : Int32} : advF (wr u 19 k v) k = (advF u k).set 6 (.int v) := by
  have e : (wr u 19 k v).1 19 k = v := pk_us
  unfold advF
  rw [e]
  rfl
theorem oC_20 {Γ : Geo} {u : SC} {k : Nat} {v : Int32} : ∀ j, j ≠ k + 9 → eC Γ (wr u 20 k v) j = eC Γ u j
  | 0, _ => rfl
  | 1, _ => rfl
  | 2, _ => rfl
  | 3, _ => rfl
  | 4, _ => rfl
  | 5, _ => rfl
  | 6, _ => rfl
  | 7, _ => rfl
  | 8, _ => rfl
  | 9, h => by
    have hk : 0 ≠ k := fun z => h (by omega)
    show Sum.inr (0, advF (wr u 20 k v) 0) = Sum.inr (0, advF u 0)
    have e : (wr u 20 k v).1 20 0 = u.1 20 0 := pk_un hk
    unfold advF
    rw [e]
    rfl
  | 10, h => by
    have hk : 1 ≠ k := fun z => h (by omega)
    show Sum.inr (0, advF (wr u 20 k v) 1) = Sum.inr (0, advF u 1)
    have e : (wr u 20 k v).1 20 1 = u.1 20 1 := pk_un hk
    unfold advF
    rw [e]
    rfl
  | 11, h => by
    have hk : 2 ≠ k := fun z => h (by omega)
    show Sum.inr (0, advF (wr u 20 k v) 2) = Sum.inr (0, advF u 2)
    have e : (wr u 20 k v).1 20 2 = u.1 20 2 := pk_un hk
    unfold advF
    rw [e]
    rfl
  | 12, h => by
    have hk : 3 ≠ k := fun z => h (by omega)
    show Sum.inr (0, advF (wr u 20 k v) 3) = Sum.inr (0, advF u 3)
    have e : (wr u 20 k v).1 20 3 = u.1 20 3 := pk_un hk
    unfold advF
    rw [e]
    rfl
  | 13, h => by
    have hk : 4 ≠ k := fun z => h (by omega)
    show Sum.inr (0, advF (wr u 20 k v) 4) = Sum.inr (0, advF u 4)
    have e : (wr u 20 k v).1 20 4 = u.1 20 4 := pk_un hk
    unfold advF
    rw [e]
    rfl
  | 14, h => by
    have hk : 5 ≠ k := fun z => h (by omega)
    show Sum.inr (0, advF (wr u 20 k v) 5) = Sum.inr (0, advF u 5)
    have e : (wr u 20 k v).1 20 5 = u.1 20 5 := pk_un hk
    unfold advF
    rw [e]
    rfl
  | j + 15, _ => rfl
theorem sC_20 {u : SC} {k : Nat} {v : Int32} : advF (wr u 20 k v) k = (advF u k).set 7 (.int v) := by
  have e : (wr u 20 k v).1 20 k = v := pk_us
  unfold advF
  rw [e]
  rfl
theorem oC_21 {Γ : Geo} {u : SC} {k : Nat} {v : Int32} : ∀ j, j ≠ k + 9 → eC Γ (wr u 21 k v) j = eC Γ u j
  | 0, _ => rfl
  | 1, _ => rfl
  | 2, _ => rfl
  | 3, _ => rfl
  | 4, _ => rfl
  | 5, _ => rfl
  | 6, _ => rfl
  | 7, _ => rfl
  | 8, _ => rfl
  | 9, h => by
    have hk : 0 ≠ k := fun z => h (by omega)
    show Sum.inr (0, advF (wr u 21 k v) 0) = Sum.inr (0, advF u 0)
    have e : (wr u 21 k v).1 21 0 = u.1 21 0 := pk_un hk
    unfold advF
    rw [e]
    rfl
  | 10, h => by
    have hk : 1 ≠ k := fun z => h (by omega)
    show Sum.inr (0, advF (wr u 21 k v) 1) = Sum.inr (0, advF u 1)
    have e : (wr u 21 k v).1 21 1 = u.1 21 1 := pk_un hk
    unfold advF
    rw [e]
    rfl
  | 11, h => by
    have hk : 2 ≠ k := fun z => h (by omega)
    show Sum.inr (0, advF (wr u 21 k v) 2) = Sum.inr (0, advF u 2)
    have e : (wr u 21 k v).1 21 2 = u.1 21 2 := pk_un hk
    unfold advF
    rw [e]
    rfl
  | 12, h => by
    have hk : 3 ≠ k := fun z => h (by omega)
    show Sum.inr (0, advF (wr u 21 k v) 3) = Sum.inr (0, advF u 3)
    have e : (wr u 21 k v).1 21 3 = u.1 21 3 := pk_un hk
    unfold advF
    rw [e]
    rfl
  | 13, h => by
    have hk : 4 ≠ k := fun z => h (by omega)
    show Sum.inr (0, advF (wr u 21 k v) 4) = Sum.inr (0, advF u 4)
    have e : (wr u 21 k v).1 21 4 = u.1 21 4 := pk_un hk
    unfold advF
    rw [e]
    rfl
  | 14, h => by
    have hk : 5 ≠ k := fun z => h (by omega)
    show Sum.inr (0, advF (wr u 21 k v) 5) = Sum.inr (0, advF u 5)
    have e : (wr u 21 k v).1 21 5 = u.1 21 5 := pk_un hk
    unfold advF
    rw [e]
    rfl
  | j + 15, _ => rfl
theorem sC_21 {u : SC} {k : Nat} {v : Int32} : advF (wr u 21 k v) k = (advF u k).set 8 (.int v) := by
  have e : (wr u 21 k v).1 21 k = v := pk_us
  unfold advF
  rw [e]
  rfl
theorem oC_22 {Γ : Geo} {u : SC} {k : Nat} {v : Int32} : ∀ j, j ≠ k + 15 → eC Γ (wr u 22 k v) j = eC Γ u j
  | 0, _ => rfl
  | 1, _ => rfl
  | 2, _ => rfl
  | 3, _ => rfl
  | 4, _ => rfl
  | 5, _ => rfl
  | 6, _ => rfl
  | 7, _ => rfl
  | 8, _ => rfl
  | 9, _ => rfl
  | 10, _ => rfl
  | 11, _ => rfl
  | 12, _ => rfl
  | 13, _ => rfl
  | 14, _ => rfl
  | a + 15, h => by
    have hk : a ≠ k := fun z => h (by omega)
    show Sum.inr (3, wrkF (wr u 22 k v) a) = Sum.inr (3, wrkF u a)
    have e : (wr u 22 k v).1 22 a = u.1 22 a := pk_un hk
    unfold wrkF
    rw [e]
    rfl
theorem sC_22 {u : SC} {k : Nat} {v : Int32} : wrkF (wr u 22 k v) k = (wrkF u k).set 0 (.int v) := by
  have e : (wr u 22 k v).1 22 k = v := pk_us
  unfold wrkF
  rw [e]
  rfl
theorem oC_23 {Γ : Geo} {u : SC} {k : Nat} {v : Int32} : ∀ j, j ≠ k + 15 → eC Γ (wr u 23 k v) j = eC Γ u j
  | 0, _ => rfl
  | 1, _ => rfl
  | 2, _ => rfl
  | 3, _ => rfl
  | 4, _ => rfl
  | 5, _ => rfl
  | 6, _ => rfl
  | 7, _ => rfl
  | 8, _ => rfl
  | 9, _ => rfl
  | 10, _ => rfl
  | 11, _ => rfl
  | 12, _ => rfl
  | 13, _ => rfl
  | 14, _ => rfl
  | a + 15, h => by
    have hk : a ≠ k := fun z => h (by omega)
    show Sum.inr (3, wrkF (wr u 23 k v) a) = Sum.inr (3, wrkF u a)
    have e : (wr u 23 k v).1 23 a = u.1 23 a := pk_un hk
    unfold wrkF
    rw [e]
    rfl
theorem sC_23 {u : SC} {k : Nat} {v : Int32} : wrkF (wr u 23 k v) k = (wrkF u k).set 1 (.int v) := by
  have e : (wr u 23 k v).1 23 k = v := pk_us
  unfold wrkF
  rw [e]
  rfl
theorem oC_24 {Γ : Geo} {u : SC} {k : Nat} {v : Int32} : ∀ j, j ≠ k + 15 → eC Γ (wr u 24 k v) j = eC Γ u j
  | 0, _ => rfl
  | 1, _ => rfl
  | 2, _ => rfl
  | 3, _ => rfl
  | 4, _ => rfl
  | 5, _ => rfl
  | 6, _ => rfl
  | 7, _ => rfl
  | 8, _ => rfl
  | 9, _ => rfl
  | 10, _ => rfl
  | 11, _ => rfl
  | 12, _ => rfl
  | 13, _ => rfl
  | 14, _ => rfl
  | a + 15, h => by
    have hk : a ≠ k := fun z => h (by omega)
    show Sum.inr (3, wrkF (wr u 24 k v) a) = Sum.inr (3, wrkF u a)
    have e : (wr u 24 k v).1 24 a = u.1 24 a := pk_un hk
    unfold wrkF
    rw [e]
    rfl
theorem sC_24 {u : SC} {k : Nat} {v : Int32} : wrkF (wr u 24 k v) k = (wrkF u k).set 2 (.int v) := by
  have e : (wr u 24 k v).1 24 k = v := pk_us
  unfold wrkF
  rw [e]
  rfl
theorem oC_25 {Γ : Geo} {u : SC} {k : Nat} {v : Int32} : ∀ j, j ≠ k + 15 → eC Γ (wr u 25 k v) j = eC Γ u j
  | 0, _ => rfl
  | 1, _ => rfl
  | 2, _ => rfl
  | 3, _ => rfl
  | 4, _ => rfl
  | 5, _ => rfl
  | 6, _ => rfl
  | 7, _ => rfl
  | 8, _ => rfl
  | 9, _ => rfl
  | 10, _ => rfl
  | 11, _ => rfl
  | 12, _ => rfl
  | 13, _ => rfl
  | 14, _ => rfl
  | a + 15, h => by
    have hk : a ≠ k := fun z => h (by omega)
    show Sum.inr (3, wrkF (wr u 25 k v) a) = Sum.inr (3, wrkF u a)
    have e : (wr u 25 k v).1 25 a = u.1 25 a := pk_un hk
    unfold wrkF
    rw [e]
    rfl
theorem sC_25 {u : SC} {k : Nat} {v : Int32} : wrkF (wr u 25 k v) k = (wrkF u k).set 3 (.int v) := by
  have e : (wr u 25 k v).1 25 k = v := pk_us
  unfold wrkF
  rw [e]
  rfl
theorem oC_26 {Γ : Geo} {u : SC} {k : Nat} {v : Int32} : ∀ j, j ≠ k + 15 → eC Γ (wr u 26 k v) j = eC Γ u j
  | 0, _ => rfl
  | 1, _ => rfl
  | 2, _ => rfl
  | 3, _ => rfl
  | 4, _ => rfl
  | 5, _ => rfl
  | 6, _ => rfl
  | 7, _ => rfl
  | 8, _ => rfl
  | 9, _ => rfl
  | 10, _ => rfl
  | 11, _ => rfl
  | 12, _ => rfl
  | 13, _ => rfl
  | 14, _ => rfl
  | a + 15, h => by
    have hk : a ≠ k := fun z => h (by omega)
    show Sum.inr (3, wrkF (wr u 26 k v) a) = Sum.inr (3, wrkF u a)
    have e : (wr u 26 k v).1 26 a = u.1 26 a := pk_un hk
    unfold wrkF
    rw [e]
    rfl
theorem sC_26 {u : SC} {k : Nat} {v : Int32} : wrkF (wr u 26 k v) k = (wrkF u k).set 4 (.int v) := by
  have e : (wr u 26 k v).1 26 k = v := pk_us
  unfold wrkF
  rw [e]
  rfl
section FC
variable {p : Program} {l : Launch} {e : Env} {R : Room} {s : State} {m : MethodId} {args : Array Value} {below : List Frame} {meth : Method} {c : Code} {cells slots : Nat} {Q : State → Prop}
variable {cc : ByteArray} {nL : Nat} {A : Nat → Prop} {H0 : Heap} {pc : Nat} {lv : List (Nat × Value)} {st : List Value} {Γ : Geo}
variable {u : SC}
theorem g_L_L_advisors (C : cx p s m args c cc R4 wA nL Γ.1 clA (tyA Γ)) (hdg : decode cc pc = .ok (.getfield 12, 3)) (kk : VV p l e R s m args below meth c cells slots Q nL Γ.1 clA A H0 (wC Γ u) (pc + 3) lv (.ref (Γ.2.1 1) :: st)) : VV p l e R s m args below meth c cells slots Q nL Γ.1 clA A H0 (wC Γ u) pc lv (.ref (Γ.2.1 0) :: st) :=
  vv_get (N := 11) C inC4 0 (wC_at (by decide)) rfl 0 (by decide) (in_wA (by decide +kernel) rfl) rfl rfl hdg kk
theorem g_L_L_works (C : cx p s m args c cc R4 wA nL Γ.1 clA (tyA Γ)) (hdg : decode cc pc = .ok (.getfield 18, 3)) (kk : VV p l e R s m args below meth c cells slots Q nL Γ.1 clA A H0 (wC Γ u) (pc + 3) lv (.ref (Γ.2.1 3) :: st)) : VV p l e R s m args below meth c cells slots Q nL Γ.1 clA A H0 (wC Γ u) pc lv (.ref (Γ.2.1 0) :: st) :=
  vv_get (N := 11) C inC4 0 (wC_at (by decide)) rfl 1 (by decide) (in_wA (by decide +kernel) rfl) rfl rfl hdg kk
theorem g_L_L_trace (C : cx p s m args c cc R4 wA nL Γ.1 clA (tyA Γ)) (hdg : decode cc pc = .ok (.getfield 25, 3)) (kk : VV p l e R s m args below meth c cells slots Q nL Γ.1 clA A H0 (wC Γ u) (pc + 3) lv (.ref (Γ.2.1 4) :: st)) : VV p l e R s m args below meth c cells slots Q nL Γ.1 clA A H0 (wC Γ u) pc lv (.ref (Γ.2.1 0) :: st) :=
  vv_get (N := 11) C inC4 0 (wC_at (by decide)) rfl 2 (by decide) (in_wA (by decide +kernel) rfl) rfl rfl hdg kk
theorem g_L_L_methodAt (C : cx p s m args c cc R4 wA nL Γ.1 clA (tyA Γ)) (hdg : decode cc pc = .ok (.getfield 29, 3)) (kk : VV p l e R s m args below meth c cells slots Q nL Γ.1 clA A H0 (wC Γ u) (pc + 3) lv (.ref (Γ.2.1 7) :: st)) : VV p l e R s m args below meth c cells slots Q nL Γ.1 clA A H0 (wC Γ u) pc lv (.ref (Γ.2.1 0) :: st) :=
  vv_get (N := 11) C inC4 0 (wC_at (by decide)) rfl 3 (by decide) (in_wA (by decide +kernel) rfl) rfl rfl hdg kk
theorem g_L_L_targetAt (C : cx p s m args c cc R4 wA nL Γ.1 clA (tyA Γ)) (hdg : decode cc pc = .ok (.getfield 33, 3)) (kk : VV p l e R s m args below meth c cells slots Q nL Γ.1 clA A H0 (wC Γ u) (pc + 3) lv (.ref (Γ.2.1 8) :: st)) : VV p l e R s m args below meth c cells slots Q nL Γ.1 clA A H0 (wC Γ u) pc lv (.ref (Γ.2.1 0) :: st) :=
  vv_get (N := 11) C inC4 0 (wC_at (by decide)) rfl 4 (by decide) (in_wA (by decide +kernel) rfl) rfl rfl hdg kk
theorem g_L_L_frozen (C : cx p s m args c cc R4 wA nL Γ.1 clA (tyA Γ)) (hdg : decode cc pc = .ok (.getfield 36, 3)) (kk : VV p l e R s m args below meth c cells slots Q nL Γ.1 clA A H0 (wC Γ u) (pc + 3) lv (.int (u.1 0 0) :: st)) : VV p l e R s m args below meth c cells slots Q nL Γ.1 clA A H0 (wC Γ u) pc lv (.ref (Γ.2.1 0) :: st) :=
  vv_get (N := 11) C inC4 0 (wC_at (by decide)) rfl 5 (by decide) (in_wA (by decide +kernel) rfl) rfl rfl hdg kk
theorem p_L_L_frozen (C : cx p s m args c cc R4 wA nL Γ.1 clA (tyA Γ)) {v : Int32} (hn : narrow .boolean (.int v) = .int v) (hf : fits .boolean (.int v) = true) (hdg : decode cc pc = .ok (.putfield 36, 3)) (kk : VV p l e R s m args below meth c cells slots Q nL Γ.1 clA A H0 (wC Γ (wr u 0 0 v)) (pc + 3) lv st) : VV p l e R s m args below meth c cells slots Q nL Γ.1 clA A H0 (wC Γ u) pc lv (.int v :: .ref (Γ.2.1 0) :: st) :=
  vv_put (N := 11) C inC4 ty4 ty4_ok nm4 0 (wC_at (by decide)) rfl 5 (by decide) (in_wA (by decide +kernel) rfl) rfl rfl (ty4_ok 5 (by decide)) hn hf (Nat.le_of_ble_eq_true rfl) (wC_set (by decide) rfl oC_0) hdg kk
theorem g_L_L_targetSource (C : cx p s m args c cc R4 wA nL Γ.1 clA (tyA Γ)) (hdg : decode cc pc = .ok (.getfield 40, 3)) (kk : VV p l e R s m args below meth c cells slots Q nL Γ.1 clA A H0 (wC Γ u) (pc + 3) lv (.int (u.1 1 0) :: st)) : VV p l e R s m args below meth c cells slots Q nL Γ.1 clA A H0 (wC Γ u) pc lv (.ref (Γ.2.1 0) :: st) :=
  vv_get (N := 11) C inC4 0 (wC_at (by decide)) rfl 6 (by decide) (in_wA (by decide +kernel) rfl) rfl rfl hdg kk
theorem p_L_L_targetSource (C : cx p s m args c cc R4 wA nL Γ.1 clA (tyA Γ)) {v : Int32} (hdg : decode cc pc = .ok (.putfield 40, 3)) (kk : VV p l e R s m args below meth c cells slots Q nL Γ.1 clA A H0 (wC Γ (wr u 1 0 v)) (pc + 3) lv st) : VV p l e R s m args below meth c cells slots Q nL Γ.1 clA A H0 (wC Γ u) pc lv (.int v :: .ref (Γ.2.1 0) :: st) :=
  vv_put (N := 11) C inC4 ty4 ty4_ok nm4 0 (wC_at (by decide)) rfl 6 (by decide) (in_wA (by decide +kernel) rfl) rfl rfl (ty4_ok 6 (by decide)) rfl rfl (Nat.le_of_ble_eq_true rfl) (wC_set (by decide) rfl oC_1) hdg kk
theorem g_L_L_nextInTurn (C : cx p s m args c cc R4 wA nL Γ.1 clA (tyA Γ)) (hdg : decode cc pc = .ok (.getfield 44, 3)) (kk : VV p l e R s m args below meth c cells slots Q nL Γ.1 clA A H0 (wC Γ u) (pc + 3) lv (.int (u.1 2 0) :: st)) : VV p l e R s m args below meth c cells slots Q nL Γ.1 clA A H0 (wC Γ u) pc lv (.ref (Γ.2.1 0) :: st) :=
  vv_get (N := 11) C inC4 0 (wC_at (by decide)) rfl 7 (by decide) (in_wA (by decide +kernel) rfl) rfl rfl hdg kk
theorem p_L_L_nextInTurn (C : cx p s m args c cc R4 wA nL Γ.1 clA (tyA Γ)) {v : Int32} (hdg : decode cc pc = .ok (.putfield 44, 3)) (kk : VV p l e R s m args below meth c cells slots Q nL Γ.1 clA A H0 (wC Γ (wr u 2 0 v)) (pc + 3) lv st) : VV p l e R s m args below meth c cells slots Q nL Γ.1 clA A H0 (wC Γ u) pc lv (.int v :: .ref (Γ.2.1 0) :: st) :=
  vv_put (N := 11) C inC4 ty4 ty4_ok nm4 0 (wC_at (by decide)) rfl 7 (by decide) (in_wA (by decide +kernel) rfl) rfl rfl (ty4_ok 7 (by decide)) rfl rfl (Nat.le_of_ble_eq_true rfl) (wC_set (by decide) rfl oC_2) hdg kk
theorem g_L_L_timesAsked (C : cx p s m args c cc R4 wA nL Γ.1 clA (tyA Γ)) (hdg : decode cc pc = .ok (.getfield 47, 3)) (kk : VV p l e R s m args below meth c cells slots Q nL Γ.1 clA A H0 (wC Γ u) (pc + 3) lv (.int (u.1 3 0) :: st)) : VV p l e R s m args below meth c cells slots Q nL Γ.1 clA A H0 (wC Γ u) pc lv (.ref (Γ.2.1 0) :: st) :=
  vv_get (N := 11) C inC4 0 (wC_at (by decide)) rfl 8 (by decide) (in_wA (by decide +kernel) rfl) rfl rfl hdg kk
theorem p_L_L_timesAsked (C : cx p s m args c cc R4 wA nL Γ.1 clA (tyA Γ)) {v : Int32} (hdg : decode cc pc = .ok (.putfield 47, 3)) (kk : VV p l e R s m args below meth c cells slots Q nL Γ.1 clA A H0 (wC Γ (wr u 3 0 v)) (pc + 3) lv st) : VV p l e R s m args below meth c cells slots Q nL Γ.1 clA A H0 (wC Γ u) pc lv (.int v :: .ref (Γ.2.1 0) :: st) :=
  vv_put (N := 11) C inC4 ty4 ty4_ok nm4 0 (wC_at (by decide)) rfl 8 (by decide) (in_wA (by decide +kernel) rfl) rfl rfl (ty4_ok 8 (by decide)) rfl rfl (Nat.le_of_ble_eq_true rfl) (wC_set (by decide) rfl oC_3) hdg kk
theorem g_L_L_targetsTaken (C : cx p s m args c cc R4 wA nL Γ.1 clA (tyA Γ)) (hdg : decode cc pc = .ok (.getfield 50, 3)) (kk : VV p l e R s m args below meth c cells slots Q nL Γ.1 clA A H0 (wC Γ u) (pc + 3) lv (.int (u.1 4 0) :: st)) : VV p l e R s m args below meth c cells slots Q nL Γ.1 clA A H0 (wC Γ u) pc lv (.ref (Γ.2.1 0) :: st) :=
  vv_get (N := 11) C inC4 0 (wC_at (by decide)) rfl 9 (by decide) (in_wA (by decide +kernel) rfl) rfl rfl hdg kk
theorem p_L_L_targetsTaken (C : cx p s m args c cc R4 wA nL Γ.1 clA (tyA Γ)) {v : Int32} (hdg : decode cc pc = .ok (.putfield 50, 3)) (kk : VV p l e R s m args below meth c cells slots Q nL Γ.1 clA A H0 (wC Γ (wr u 4 0 v)) (pc + 3) lv st) : VV p l e R s m args below meth c cells slots Q nL Γ.1 clA A H0 (wC Γ u) pc lv (.int v :: .ref (Γ.2.1 0) :: st) :=
  vv_put (N := 11) C inC4 ty4 ty4_ok nm4 0 (wC_at (by decide)) rfl 9 (by decide) (in_wA (by decide +kernel) rfl) rfl rfl (ty4_ok 9 (by decide)) rfl rfl (Nat.le_of_ble_eq_true rfl) (wC_set (by decide) rfl oC_4) hdg kk
theorem g_L_L_value (C : cx p s m args c cc R4 wA nL Γ.1 clA (tyA Γ)) (hdg : decode cc pc = .ok (.getfield 53, 3)) (kk : VV p l e R s m args below meth c cells slots Q nL Γ.1 clA A H0 (wC Γ u) (pc + 3) lv (.int (u.1 5 0) :: st)) : VV p l e R s m args below meth c cells slots Q nL Γ.1 clA A H0 (wC Γ u) pc lv (.ref (Γ.2.1 0) :: st) :=
  vv_get (N := 11) C inC4 0 (wC_at (by decide)) rfl 10 (by decide) (in_wA (by decide +kernel) rfl) rfl rfl hdg kk
theorem p_L_L_value (C : cx p s m args c cc R4 wA nL Γ.1 clA (tyA Γ)) {v : Int32} (hdg : decode cc pc = .ok (.putfield 53, 3)) (kk : VV p l e R s m args below meth c cells slots Q nL Γ.1 clA A H0 (wC Γ (wr u 5 0 v)) (pc + 3) lv st) : VV p l e R s m args below meth c cells slots Q nL Γ.1 clA A H0 (wC Γ u) pc lv (.int v :: .ref (Γ.2.1 0) :: st) :=
  vv_put (N := 11) C inC4 ty4 ty4_ok nm4 0 (wC_at (by decide)) rfl 10 (by decide) (in_wA (by decide +kernel) rfl) rfl rfl (ty4_ok 10 (by decide)) rfl rfl (Nat.le_of_ble_eq_true rfl) (wC_set (by decide) rfl oC_5) hdg kk
theorem g_L_K_factor (C : cx p s m args c cc R4 wA nL Γ.1 clA (tyA Γ)) {k : Nat} (hk : k < 12) (hdg : decode cc pc = .ok (.getfield 101, 3)) (kk : VV p l e R s m args below meth c cells slots Q nL Γ.1 clA A H0 (wC Γ u) (pc + 3) lv (.int (u.1 22 k) :: st)) : VV p l e R s m args below meth c cells slots Q nL Γ.1 clA A H0 (wC Γ u) pc lv (.ref (Γ.2.1 (k + 15)) :: st) :=
  vv_get (N := 5) C inC3 (k + 15) ((wC_at (by omega)).trans (by rw [eC_wrk])) rfl 0 (by decide) (in_wA (by decide +kernel) rfl) rfl rfl hdg kk
theorem p_L_K_factor (C : cx p s m args c cc R4 wA nL Γ.1 clA (tyA Γ)) {k : Nat} {v : Int32} (hk : k < 12) (hdg : decode cc pc = .ok (.putfield 101, 3)) (kk : VV p l e R s m args below meth c cells slots Q nL Γ.1 clA A H0 (wC Γ (wr u 22 k v)) (pc + 3) lv st) : VV p l e R s m args below meth c cells slots Q nL Γ.1 clA A H0 (wC Γ u) pc lv (.int v :: .ref (Γ.2.1 (k + 15)) :: st) :=
  vv_put (N := 5) C inC3 ty3 ty3_ok nm3 (k + 15) ((wC_at (by omega)).trans (by rw [eC_wrk])) rfl 0 (by decide) (in_wA (by decide +kernel) rfl) rfl rfl (ty3_ok 0 (by decide)) rfl rfl (Nat.le_of_ble_eq_true rfl) (wC_set (by omega) (by rw [eC_wrk, sC_22]) oC_22) hdg kk
theorem g_L_K_addend (C : cx p s m args c cc R4 wA nL Γ.1 clA (tyA Γ)) {k : Nat} (hk : k < 12) (hdg : decode cc pc = .ok (.getfield 104, 3)) (kk : VV p l e R s m args below meth c cells slots Q nL Γ.1 clA A H0 (wC Γ u) (pc + 3) lv (.int (u.1 23 k) :: st)) : VV p l e R s m args below meth c cells slots Q nL Γ.1 clA A H0 (wC Γ u) pc lv (.ref (Γ.2.1 (k + 15)) :: st) :=
  vv_get (N := 5) C inC3 (k + 15) ((wC_at (by omega)).trans (by rw [eC_wrk])) rfl 1 (by decide) (in_wA (by decide +kernel) rfl) rfl rfl hdg kk
theorem p_L_K_addend (C : cx p s m args c cc R4 wA nL Γ.1 clA (tyA Γ)) {k : Nat} {v : Int32} (hk : k < 12) (hdg : decode cc pc = .ok (.putfield 104, 3)) (kk : VV p l e R s m args below meth c cells slots Q nL Γ.1 clA A H0 (wC Γ (wr u 23 k v)) (pc + 3) lv st) : VV p l e R s m args below meth c cells slots Q nL Γ.1 clA A H0 (wC Γ u) pc lv (.int v :: .ref (Γ.2.1 (k + 15)) :: st) :=
  vv_put (N := 5) C inC3 ty3 ty3_ok nm3 (k + 15) ((wC_at (by omega)).trans (by rw [eC_wrk])) rfl 1 (by decide) (in_wA (by decide +kernel) rfl) rfl rfl (ty3_ok 1 (by decide)) rfl rfl (Nat.le_of_ble_eq_true rfl) (wC_set (by omega) (by rw [eC_wrk, sC_23]) oC_23) hdg kk
theorem g_L_K_failsAt (C : cx p s m args c cc R4 wA nL Γ.1 clA (tyA Γ)) {k : Nat} (hk : k < 12) (hdg : decode cc pc = .ok (.getfield 110, 3)) (kk : VV p l e R s m args below meth c cells slots Q nL Γ.1 clA A H0 (wC Γ u) (pc + 3) lv (.int (u.1 24 k) :: st)) : VV p l e R s m args below meth c cells slots Q nL Γ.1 clA A H0 (wC Γ u) pc lv (.ref (Γ.2.1 (k + 15)) :: st) :=
  vv_get (N := 5) C inC3 (k + 15) ((wC_at (by omega)).trans (by rw [eC_wrk])) rfl 2 (by decide) (in_wA (by decide +kernel) rfl) rfl rfl hdg kk
theorem p_L_K_failsAt (C : cx p s m args c cc R4 wA nL Γ.1 clA (tyA Γ)) {k : Nat} {v : Int32} (hk : k < 12) (hdg : decode cc pc = .ok (.putfield 110, 3)) (kk : VV p l e R s m args below meth c cells slots Q nL Γ.1 clA A H0 (wC Γ (wr u 24 k v)) (pc + 3) lv st) : VV p l e R s m args below meth c cells slots Q nL Γ.1 clA A H0 (wC Γ u) pc lv (.int v :: .ref (Γ.2.1 (k + 15)) :: st) :=
  vv_put (N := 5) C inC3 ty3 ty3_ok nm3 (k + 15) ((wC_at (by omega)).trans (by rw [eC_wrk])) rfl 2 (by decide) (in_wA (by decide +kernel) rfl) rfl rfl (ty3_ok 2 (by decide)) rfl rfl (Nat.le_of_ble_eq_true rfl) (wC_set (by omega) (by rw [eC_wrk, sC_24]) oC_24) hdg kk
theorem g_L_K_exception (C : cx p s m args c cc R4 wA nL Γ.1 clA (tyA Γ)) {k : Nat} (hk : k < 12) (hdg : decode cc pc = .ok (.getfield 113, 3)) (kk : VV p l e R s m args below meth c cells slots Q nL Γ.1 clA A H0 (wC Γ u) (pc + 3) lv (.int (u.1 25 k) :: st)) : VV p l e R s m args below meth c cells slots Q nL Γ.1 clA A H0 (wC Γ u) pc lv (.ref (Γ.2.1 (k + 15)) :: st) :=
  vv_get (N := 5) C inC3 (k + 15) ((wC_at (by omega)).trans (by rw [eC_wrk])) rfl 3 (by decide) (in_wA (by decide +kernel) rfl) rfl rfl hdg kk
theorem p_L_K_exception (C : cx p s m args c cc R4 wA nL Γ.1 clA (tyA Γ)) {k : Nat} {v : Int32} (hk : k < 12) (hdg : decode cc pc = .ok (.putfield 113, 3)) (kk : VV p l e R s m args below meth c cells slots Q nL Γ.1 clA A H0 (wC Γ (wr u 25 k v)) (pc + 3) lv st) : VV p l e R s m args below meth c cells slots Q nL Γ.1 clA A H0 (wC Γ u) pc lv (.int v :: .ref (Γ.2.1 (k + 15)) :: st) :=
  vv_put (N := 5) C inC3 ty3 ty3_ok nm3 (k + 15) ((wC_at (by omega)).trans (by rw [eC_wrk])) rfl 3 (by decide) (in_wA (by decide +kernel) rfl) rfl rfl (ty3_ok 3 (by decide)) rfl rfl (Nat.le_of_ble_eq_true rfl) (wC_set (by omega) (by rw [eC_wrk, sC_25]) oC_25) hdg kk
theorem g_L_K_next (C : cx p s m args c cc R4 wA nL Γ.1 clA (tyA Γ)) {k : Nat} (hk : k < 12) (hdg : decode cc pc = .ok (.getfield 116, 3)) (kk : VV p l e R s m args below meth c cells slots Q nL Γ.1 clA A H0 (wC Γ u) (pc + 3) lv (.int (u.1 26 k) :: st)) : VV p l e R s m args below meth c cells slots Q nL Γ.1 clA A H0 (wC Γ u) pc lv (.ref (Γ.2.1 (k + 15)) :: st) :=
  vv_get (N := 5) C inC3 (k + 15) ((wC_at (by omega)).trans (by rw [eC_wrk])) rfl 4 (by decide) (in_wA (by decide +kernel) rfl) rfl rfl hdg kk
theorem p_L_K_next (C : cx p s m args c cc R4 wA nL Γ.1 clA (tyA Γ)) {k : Nat} {v : Int32} (hk : k < 12) (hdg : decode cc pc = .ok (.putfield 116, 3)) (kk : VV p l e R s m args below meth c cells slots Q nL Γ.1 clA A H0 (wC Γ (wr u 26 k v)) (pc + 3) lv st) : VV p l e R s m args below meth c cells slots Q nL Γ.1 clA A H0 (wC Γ u) pc lv (.int v :: .ref (Γ.2.1 (k + 15)) :: st) :=
  vv_put (N := 5) C inC3 ty3 ty3_ok nm3 (k + 15) ((wC_at (by omega)).trans (by rw [eC_wrk])) rfl 4 (by decide) (in_wA (by decide +kernel) rfl) rfl rfl (ty3_ok 4 (by decide)) rfl rfl (Nat.le_of_ble_eq_true rfl) (wC_set (by omega) (by rw [eC_wrk, sC_26]) oC_26) hdg kk
theorem g_L_T_length (C : cx p s m args c cc R4 wA nL Γ.1 clA (tyA Γ)) (hdg : decode cc pc = .ok (.getfield 126, 3)) (kk : VV p l e R s m args below meth c cells slots Q nL Γ.1 clA A H0 (wC Γ u) (pc + 3) lv (.int (u.1 8 0) :: st)) : VV p l e R s m args below meth c cells slots Q nL Γ.1 clA A H0 (wC Γ u) pc lv (.ref (Γ.2.1 4) :: st) :=
  vv_get (N := 3) C inC2 4 (wC_at (by decide)) rfl 2 (by decide) (in_wA (by decide +kernel) rfl) rfl rfl hdg kk
theorem p_L_T_length (C : cx p s m args c cc R4 wA nL Γ.1 clA (tyA Γ)) {v : Int32} (hdg : decode cc pc = .ok (.putfield 126, 3)) (kk : VV p l e R s m args below meth c cells slots Q nL Γ.1 clA A H0 (wC Γ (wr u 8 0 v)) (pc + 3) lv st) : VV p l e R s m args below meth c cells slots Q nL Γ.1 clA A H0 (wC Γ u) pc lv (.int v :: .ref (Γ.2.1 4) :: st) :=
  vv_put (N := 3) C inC2 ty2 ty2_ok nm2 4 (wC_at (by decide)) rfl 2 (by decide) (in_wA (by decide +kernel) rfl) rfl rfl (ty2_ok 2 (by decide)) rfl rfl (Nat.le_of_ble_eq_true rfl) (wC_set (by decide) rfl oC_8) hdg kk
theorem g_L_T_noters (C : cx p s m args c cc R4 wA nL Γ.1 clA (tyA Γ)) (hdg : decode cc pc = .ok (.getfield 132, 3)) (kk : VV p l e R s m args below meth c cells slots Q nL Γ.1 clA A H0 (wC Γ u) (pc + 3) lv (.ref (Γ.2.1 5) :: st)) : VV p l e R s m args below meth c cells slots Q nL Γ.1 clA A H0 (wC Γ u) pc lv (.ref (Γ.2.1 4) :: st) :=
  vv_get (N := 3) C inC2 4 (wC_at (by decide)) rfl 0 (by decide) (in_wA (by decide +kernel) rfl) rfl rfl hdg kk
theorem g_L_T_words (C : cx p s m args c cc R4 wA nL Γ.1 clA (tyA Γ)) (hdg : decode cc pc = .ok (.getfield 135, 3)) (kk : VV p l e R s m args below meth c cells slots Q nL Γ.1 clA A H0 (wC Γ u) (pc + 3) lv (.ref (Γ.2.1 6) :: st)) : VV p l e R s m args below meth c cells slots Q nL Γ.1 clA A H0 (wC Γ u) pc lv (.ref (Γ.2.1 4) :: st) :=
  vv_get (N := 3) C inC2 4 (wC_at (by decide)) rfl 1 (by decide) (in_wA (by decide +kernel) rfl) rfl rfl hdg kk
theorem g_L_A_hasRange (C : cx p s m args c cc R4 wA nL Γ.1 clA (tyA Γ)) {k : Nat} (hk : k < 6) (hdg : decode cc pc = .ok (.getfield 161, 3)) (kk : VV p l e R s m args below meth c cells slots Q nL Γ.1 clA A H0 (wC Γ u) (pc + 3) lv (.int (u.1 19 k) :: st)) : VV p l e R s m args below meth c cells slots Q nL Γ.1 clA A H0 (wC Γ u) pc lv (.ref (Γ.2.1 (k + 9)) :: st) :=
  vv_get (N := 9) C inC0 (k + 9) ((wC_at (by omega)).trans (by rw [eC_adv hk])) rfl 6 (by decide) (in_wA (by decide +kernel) rfl) rfl rfl hdg kk
theorem p_L_A_hasRange (C : cx p s m args c cc R4 wA nL Γ.1 clA (tyA Γ)) {k : Nat} {v : Int32} (hk : k < 6) (hn : narrow .boolean (.int v) = .int v) (hf : fits .boolean (.int v) = true) (hdg : decode cc pc = .ok (.putfield 161, 3)) (kk : VV p l e R s m args below meth c cells slots Q nL Γ.1 clA A H0 (wC Γ (wr u 19 k v)) (pc + 3) lv st) : VV p l e R s m args below meth c cells slots Q nL Γ.1 clA A H0 (wC Γ u) pc lv (.int v :: .ref (Γ.2.1 (k + 9)) :: st) :=
  vv_put (N := 9) C inC0 ty0 ty0_ok nm0 (k + 9) ((wC_at (by omega)).trans (by rw [eC_adv hk])) rfl 6 (by decide) (in_wA (by decide +kernel) rfl) rfl rfl (ty0_ok 6 (by decide)) hn hf (Nat.le_of_ble_eq_true rfl) (wC_set (by omega) (by rw [eC_adv hk, sC_19]) oC_19) hdg kk
theorem g_L_A_kind (C : cx p s m args c cc R4 wA nL Γ.1 clA (tyA Γ)) {k : Nat} (hk : k < 6) (hdg : decode cc pc = .ok (.getfield 187, 3)) (kk : VV p l e R s m args below meth c cells slots Q nL Γ.1 clA A H0 (wC Γ u) (pc + 3) lv (.int (u.1 14 k) :: st)) : VV p l e R s m args below meth c cells slots Q nL Γ.1 clA A H0 (wC Γ u) pc lv (.ref (Γ.2.1 (k + 9)) :: st) :=
  vv_get (N := 9) C inC0 (k + 9) ((wC_at (by omega)).trans (by rw [eC_adv hk])) rfl 1 (by decide) (in_wA (by decide +kernel) rfl) rfl rfl hdg kk
theorem p_L_A_kind (C : cx p s m args c cc R4 wA nL Γ.1 clA (tyA Γ)) {k : Nat} {v : Int32} (hk : k < 6) (hdg : decode cc pc = .ok (.putfield 187, 3)) (kk : VV p l e R s m args below meth c cells slots Q nL Γ.1 clA A H0 (wC Γ (wr u 14 k v)) (pc + 3) lv st) : VV p l e R s m args below meth c cells slots Q nL Γ.1 clA A H0 (wC Γ u) pc lv (.int v :: .ref (Γ.2.1 (k + 9)) :: st) :=
  vv_put (N := 9) C inC0 ty0 ty0_ok nm0 (k + 9) ((wC_at (by omega)).trans (by rw [eC_adv hk])) rfl 1 (by decide) (in_wA (by decide +kernel) rfl) rfl rfl (ty0_ok 1 (by decide)) rfl rfl (Nat.le_of_ble_eq_true rfl) (wC_set (by omega) (by rw [eC_adv hk, sC_14]) oC_14) hdg kk
theorem g_L_A_number (C : cx p s m args c cc R4 wA nL Γ.1 clA (tyA Γ)) {k : Nat} (hk : k < 6) (hdg : decode cc pc = .ok (.getfield 214, 3)) (kk : VV p l e R s m args below meth c cells slots Q nL Γ.1 clA A H0 (wC Γ u) (pc + 3) lv (.int (u.1 13 k) :: st)) : VV p l e R s m args below meth c cells slots Q nL Γ.1 clA A H0 (wC Γ u) pc lv (.ref (Γ.2.1 (k + 9)) :: st) :=
  vv_get (N := 9) C inC0 (k + 9) ((wC_at (by omega)).trans (by rw [eC_adv hk])) rfl 0 (by decide) (in_wA (by decide +kernel) rfl) rfl rfl hdg kk
theorem p_L_A_number (C : cx p s m args c cc R4 wA nL Γ.1 clA (tyA Γ)) {k : Nat} {v : Int32} (hk : k < 6) (hdg : decode cc pc = .ok (.putfield 214, 3)) (kk : VV p l e R s m args below meth c cells slots Q nL Γ.1 clA A H0 (wC Γ (wr u 13 k v)) (pc + 3) lv st) : VV p l e R s m args below meth c cells slots Q nL Γ.1 clA A H0 (wC Γ u) pc lv (.int v :: .ref (Γ.2.1 (k + 9)) :: st) :=
  vv_put (N := 9) C inC0 ty0 ty0_ok nm0 (k + 9) ((wC_at (by omega)).trans (by rw [eC_adv hk])) rfl 0 (by decide) (in_wA (by decide +kernel) rfl) rfl rfl (ty0_ok 0 (by decide)) rfl rfl (Nat.le_of_ble_eq_true rfl) (wC_set (by omega) (by rw [eC_adv hk, sC_13]) oC_13) hdg kk
theorem g_L_A_a (C : cx p s m args c cc R4 wA nL Γ.1 clA (tyA Γ)) {k : Nat} (hk : k < 6) (hdg : decode cc pc = .ok (.getfield 217, 3)) (kk : VV p l e R s m args below meth c cells slots Q nL Γ.1 clA A H0 (wC Γ u) (pc + 3) lv (.int (u.1 17 k) :: st)) : VV p l e R s m args below meth c cells slots Q nL Γ.1 clA A H0 (wC Γ u) pc lv (.ref (Γ.2.1 (k + 9)) :: st) :=
  vv_get (N := 9) C inC0 (k + 9) ((wC_at (by omega)).trans (by rw [eC_adv hk])) rfl 4 (by decide) (in_wA (by decide +kernel) rfl) rfl rfl hdg kk
theorem p_L_A_a (C : cx p s m args c cc R4 wA nL Γ.1 clA (tyA Γ)) {k : Nat} {v : Int32} (hk : k < 6) (hdg : decode cc pc = .ok (.putfield 217, 3)) (kk : VV p l e R s m args below meth c cells slots Q nL Γ.1 clA A H0 (wC Γ (wr u 17 k v)) (pc + 3) lv st) : VV p l e R s m args below meth c cells slots Q nL Γ.1 clA A H0 (wC Γ u) pc lv (.int v :: .ref (Γ.2.1 (k + 9)) :: st) :=
  vv_put (N := 9) C inC0 ty0 ty0_ok nm0 (k + 9) ((wC_at (by omega)).trans (by rw [eC_adv hk])) rfl 4 (by decide) (in_wA (by decide +kernel) rfl) rfl rfl (ty0_ok 4 (by decide)) rfl rfl (Nat.le_of_ble_eq_true rfl) (wC_set (by omega) (by rw [eC_adv hk, sC_17]) oC_17) hdg kk
theorem g_L_A_b (C : cx p s m args c cc R4 wA nL Γ.1 clA (tyA Γ)) {k : Nat} (hk : k < 6) (hdg : decode cc pc = .ok (.getfield 220, 3)) (kk : VV p l e R s m args below meth c cells slots Q nL Γ.1 clA A H0 (wC Γ u) (pc + 3) lv (.int (u.1 18 k) :: st)) : VV p l e R s m args below meth c cells slots Q nL Γ.1 clA A H0 (wC Γ u) pc lv (.ref (Γ.2.1 (k + 9)) :: st) :=
  vv_get (N := 9) C inC0 (k + 9) ((wC_at (by omega)).trans (by rw [eC_adv hk])) rfl 5 (by decide) (in_wA (by decide +kernel) rfl) rfl rfl hdg kk
theorem p_L_A_b (C : cx p s m args c cc R4 wA nL Γ.1 clA (tyA Γ)) {k : Nat} {v : Int32} (hk : k < 6) (hdg : decode cc pc = .ok (.putfield 220, 3)) (kk : VV p l e R s m args below meth c cells slots Q nL Γ.1 clA A H0 (wC Γ (wr u 18 k v)) (pc + 3) lv st) : VV p l e R s m args below meth c cells slots Q nL Γ.1 clA A H0 (wC Γ u) pc lv (.int v :: .ref (Γ.2.1 (k + 9)) :: st) :=
  vv_put (N := 9) C inC0 ty0 ty0_ok nm0 (k + 9) ((wC_at (by omega)).trans (by rw [eC_adv hk])) rfl 5 (by decide) (in_wA (by decide +kernel) rfl) rfl rfl (ty0_ok 5 (by decide)) rfl rfl (Nat.le_of_ble_eq_true rfl) (wC_set (by omega) (by rw [eC_adv hk, sC_18]) oC_18) hdg kk
theorem g_A_A_number (C : cx p s m args c cc R0 wA nL Γ.1 clA (tyA Γ)) {k : Nat} (hk : k < 6) (hdg : decode cc pc = .ok (.getfield 9, 3)) (kk : VV p l e R s m args below meth c cells slots Q nL Γ.1 clA A H0 (wC Γ u) (pc + 3) lv (.int (u.1 13 k) :: st)) : VV p l e R s m args below meth c cells slots Q nL Γ.1 clA A H0 (wC Γ u) pc lv (.ref (Γ.2.1 (k + 9)) :: st) :=
  vv_get (N := 9) C inC0 (k + 9) ((wC_at (by omega)).trans (by rw [eC_adv hk])) rfl 0 (by decide) (in_wA (by decide +kernel) rfl) rfl rfl hdg kk
theorem p_A_A_number (C : cx p s m args c cc R0 wA nL Γ.1 clA (tyA Γ)) {k : Nat} {v : Int32} (hk : k < 6) (hdg : decode cc pc = .ok (.putfield 9, 3)) (kk : VV p l e R s m args below meth c cells slots Q nL Γ.1 clA A H0 (wC Γ (wr u 13 k v)) (pc + 3) lv st) : VV p l e R s m args below meth c cells slots Q nL Γ.1 clA A H0 (wC Γ u) pc lv (.int v :: .ref (Γ.2.1 (k + 9)) :: st) :=
  vv_put (N := 9) C inC0 ty0 ty0_ok nm0 (k + 9) ((wC_at (by omega)).trans (by rw [eC_adv hk])) rfl 0 (by decide) (in_wA (by decide +kernel) rfl) rfl rfl (ty0_ok 0 (by decide)) rfl rfl (Nat.le_of_ble_eq_true rfl) (wC_set (by omega) (by rw [eC_adv hk, sC_13]) oC_13) hdg kk
theorem g_A_A_kind (C : cx p s m args c cc R0 wA nL Γ.1 clA (tyA Γ)) {k : Nat} (hk : k < 6) (hdg : decode cc pc = .ok (.getfield 15, 3)) (kk : VV p l e R s m args below meth c cells slots Q nL Γ.1 clA A H0 (wC Γ u) (pc + 3) lv (.int (u.1 14 k) :: st)) : VV p l e R s m args below meth c cells slots Q nL Γ.1 clA A H0 (wC Γ u) pc lv (.ref (Γ.2.1 (k + 9)) :: st) :=
  vv_get (N := 9) C inC0 (k + 9) ((wC_at (by omega)).trans (by rw [eC_adv hk])) rfl 1 (by decide) (in_wA (by decide +kernel) rfl) rfl rfl hdg kk
theorem p_A_A_kind (C : cx p s m args c cc R0 wA nL Γ.1 clA (tyA Γ)) {k : Nat} {v : Int32} (hk : k < 6) (hdg : decode cc pc = .ok (.putfield 15, 3)) (kk : VV p l e R s m args below meth c cells slots Q nL Γ.1 clA A H0 (wC Γ (wr u 14 k v)) (pc + 3) lv st) : VV p l e R s m args below meth c cells slots Q nL Γ.1 clA A H0 (wC Γ u) pc lv (.int v :: .ref (Γ.2.1 (k + 9)) :: st) :=
  vv_put (N := 9) C inC0 ty0 ty0_ok nm0 (k + 9) ((wC_at (by omega)).trans (by rw [eC_adv hk])) rfl 1 (by decide) (in_wA (by decide +kernel) rfl) rfl rfl (ty0_ok 1 (by decide)) rfl rfl (Nat.le_of_ble_eq_true rfl) (wC_set (by omega) (by rw [eC_adv hk, sC_14]) oC_14) hdg kk
theorem g_A_A_order (C : cx p s m args c cc R0 wA nL Γ.1 clA (tyA Γ)) {k : Nat} (hk : k < 6) (hdg : decode cc pc = .ok (.getfield 18, 3)) (kk : VV p l e R s m args below meth c cells slots Q nL Γ.1 clA A H0 (wC Γ u) (pc + 3) lv (.int (u.1 15 k) :: st)) : VV p l e R s m args below meth c cells slots Q nL Γ.1 clA A H0 (wC Γ u) pc lv (.ref (Γ.2.1 (k + 9)) :: st) :=
  vv_get (N := 9) C inC0 (k + 9) ((wC_at (by omega)).trans (by rw [eC_adv hk])) rfl 2 (by decide) (in_wA (by decide +kernel) rfl) rfl rfl hdg kk
theorem p_A_A_order (C : cx p s m args c cc R0 wA nL Γ.1 clA (tyA Γ)) {k : Nat} {v : Int32} (hk : k < 6) (hdg : decode cc pc = .ok (.putfield 18, 3)) (kk : VV p l e R s m args below meth c cells slots Q nL Γ.1 clA A H0 (wC Γ (wr u 15 k v)) (pc + 3) lv st) : VV p l e R s m args below meth c cells slots Q nL Γ.1 clA A H0 (wC Γ u) pc lv (.int v :: .ref (Γ.2.1 (k + 9)) :: st) :=
  vv_put (N := 9) C inC0 ty0 ty0_ok nm0 (k + 9) ((wC_at (by omega)).trans (by rw [eC_adv hk])) rfl 2 (by decide) (in_wA (by decide +kernel) rfl) rfl rfl (ty0_ok 2 (by decide)) rfl rfl (Nat.le_of_ble_eq_true rfl) (wC_set (by omega) (by rw [eC_adv hk, sC_15]) oC_15) hdg kk
theorem g_A_A_methods (C : cx p s m args c cc R0 wA nL Γ.1 clA (tyA Γ)) {k : Nat} (hk : k < 6) (hdg : decode cc pc = .ok (.getfield 21, 3)) (kk : VV p l e R s m args below meth c cells slots Q nL Γ.1 clA A H0 (wC Γ u) (pc + 3) lv (.int (u.1 16 k) :: st)) : VV p l e R s m args below meth c cells slots Q nL Γ.1 clA A H0 (wC Γ u) pc lv (.ref (Γ.2.1 (k + 9)) :: st) :=
  vv_get (N := 9) C inC0 (k + 9) ((wC_at (by omega)).trans (by rw [eC_adv hk])) rfl 3 (by decide) (in_wA (by decide +kernel) rfl) rfl rfl hdg kk
theorem p_A_A_methods (C : cx p s m args c cc R0 wA nL Γ.1 clA (tyA Γ)) {k : Nat} {v : Int32} (hk : k < 6) (hdg : decode cc pc = .ok (.putfield 21, 3)) (kk : VV p l e R s m args below meth c cells slots Q nL Γ.1 clA A H0 (wC Γ (wr u 16 k v)) (pc + 3) lv st) : VV p l e R s m args below meth c cells slots Q nL Γ.1 clA A H0 (wC Γ u) pc lv (.int v :: .ref (Γ.2.1 (k + 9)) :: st) :=
  vv_put (N := 9) C inC0 ty0 ty0_ok nm0 (k + 9) ((wC_at (by omega)).trans (by rw [eC_adv hk])) rfl 3 (by decide) (in_wA (by decide +kernel) rfl) rfl rfl (ty0_ok 3 (by decide)) rfl rfl (Nat.le_of_ble_eq_true rfl) (wC_set (by omega) (by rw [eC_adv hk, sC_16]) oC_16) hdg kk
theorem g_A_A_a (C : cx p s m args c cc R0 wA nL Γ.1 clA (tyA Γ)) {k : Nat} (hk : k < 6) (hdg : decode cc pc = .ok (.getfield 24, 3)) (kk : VV p l e R s m args below meth c cells slots Q nL Γ.1 clA A H0 (wC Γ u) (pc + 3) lv (.int (u.1 17 k) :: st)) : VV p l e R s m args below meth c cells slots Q nL Γ.1 clA A H0 (wC Γ u) pc lv (.ref (Γ.2.1 (k + 9)) :: st) :=
  vv_get (N := 9) C inC0 (k + 9) ((wC_at (by omega)).trans (by rw [eC_adv hk])) rfl 4 (by decide) (in_wA (by decide +kernel) rfl) rfl rfl hdg kk
theorem p_A_A_a (C : cx p s m args c cc R0 wA nL Γ.1 clA (tyA Γ)) {k : Nat} {v : Int32} (hk : k < 6) (hdg : decode cc pc = .ok (.putfield 24, 3)) (kk : VV p l e R s m args below meth c cells slots Q nL Γ.1 clA A H0 (wC Γ (wr u 17 k v)) (pc + 3) lv st) : VV p l e R s m args below meth c cells slots Q nL Γ.1 clA A H0 (wC Γ u) pc lv (.int v :: .ref (Γ.2.1 (k + 9)) :: st) :=
  vv_put (N := 9) C inC0 ty0 ty0_ok nm0 (k + 9) ((wC_at (by omega)).trans (by rw [eC_adv hk])) rfl 4 (by decide) (in_wA (by decide +kernel) rfl) rfl rfl (ty0_ok 4 (by decide)) rfl rfl (Nat.le_of_ble_eq_true rfl) (wC_set (by omega) (by rw [eC_adv hk, sC_17]) oC_17) hdg kk
theorem g_A_A_b (C : cx p s m args c cc R0 wA nL Γ.1 clA (tyA Γ)) {k : Nat} (hk : k < 6) (hdg : decode cc pc = .ok (.getfield 27, 3)) (kk : VV p l e R s m args below meth c cells slots Q nL Γ.1 clA A H0 (wC Γ u) (pc + 3) lv (.int (u.1 18 k) :: st)) : VV p l e R s m args below meth c cells slots Q nL Γ.1 clA A H0 (wC Γ u) pc lv (.ref (Γ.2.1 (k + 9)) :: st) :=
  vv_get (N := 9) C inC0 (k + 9) ((wC_at (by omega)).trans (by rw [eC_adv hk])) rfl 5 (by decide) (in_wA (by decide +kernel) rfl) rfl rfl hdg kk
theorem p_A_A_b (C : cx p s m args c cc R0 wA nL Γ.1 clA (tyA Γ)) {k : Nat} {v : Int32} (hk : k < 6) (hdg : decode cc pc = .ok (.putfield 27, 3)) (kk : VV p l e R s m args below meth c cells slots Q nL Γ.1 clA A H0 (wC Γ (wr u 18 k v)) (pc + 3) lv st) : VV p l e R s m args below meth c cells slots Q nL Γ.1 clA A H0 (wC Γ u) pc lv (.int v :: .ref (Γ.2.1 (k + 9)) :: st) :=
  vv_put (N := 9) C inC0 ty0 ty0_ok nm0 (k + 9) ((wC_at (by omega)).trans (by rw [eC_adv hk])) rfl 5 (by decide) (in_wA (by decide +kernel) rfl) rfl rfl (ty0_ok 5 (by decide)) rfl rfl (Nat.le_of_ble_eq_true rfl) (wC_set (by omega) (by rw [eC_adv hk, sC_18]) oC_18) hdg kk
theorem g_A_A_hasRange (C : cx p s m args c cc R0 wA nL Γ.1 clA (tyA Γ)) {k : Nat} (hk : k < 6) (hdg : decode cc pc = .ok (.getfield 30, 3)) (kk : VV p l e R s m args below meth c cells slots Q nL Γ.1 clA A H0 (wC Γ u) (pc + 3) lv (.int (u.1 19 k) :: st)) : VV p l e R s m args below meth c cells slots Q nL Γ.1 clA A H0 (wC Γ u) pc lv (.ref (Γ.2.1 (k + 9)) :: st) :=
  vv_get (N := 9) C inC0 (k + 9) ((wC_at (by omega)).trans (by rw [eC_adv hk])) rfl 6 (by decide) (in_wA (by decide +kernel) rfl) rfl rfl hdg kk
theorem p_A_A_hasRange (C : cx p s m args c cc R0 wA nL Γ.1 clA (tyA Γ)) {k : Nat} {v : Int32} (hk : k < 6) (hn : narrow .boolean (.int v) = .int v) (hf : fits .boolean (.int v) = true) (hdg : decode cc pc = .ok (.putfield 30, 3)) (kk : VV p l e R s m args below meth c cells slots Q nL Γ.1 clA A H0 (wC Γ (wr u 19 k v)) (pc + 3) lv st) : VV p l e R s m args below meth c cells slots Q nL Γ.1 clA A H0 (wC Γ u) pc lv (.int v :: .ref (Γ.2.1 (k + 9)) :: st) :=
  vv_put (N := 9) C inC0 ty0 ty0_ok nm0 (k + 9) ((wC_at (by omega)).trans (by rw [eC_adv hk])) rfl 6 (by decide) (in_wA (by decide +kernel) rfl) rfl rfl (ty0_ok 6 (by decide)) hn hf (Nat.le_of_ble_eq_true rfl) (wC_set (by omega) (by rw [eC_adv hk, sC_19]) oC_19) hdg kk
theorem g_A_A_low (C : cx p s m args c cc R0 wA nL Γ.1 clA (tyA Γ)) {k : Nat} (hk : k < 6) (hdg : decode cc pc = .ok (.getfield 34, 3)) (kk : VV p l e R s m args below meth c cells slots Q nL Γ.1 clA A H0 (wC Γ u) (pc + 3) lv (.int (u.1 20 k) :: st)) : VV p l e R s m args below meth c cells slots Q nL Γ.1 clA A H0 (wC Γ u) pc lv (.ref (Γ.2.1 (k + 9)) :: st) :=
  vv_get (N := 9) C inC0 (k + 9) ((wC_at (by omega)).trans (by rw [eC_adv hk])) rfl 7 (by decide) (in_wA (by decide +kernel) rfl) rfl rfl hdg kk
theorem p_A_A_low (C : cx p s m args c cc R0 wA nL Γ.1 clA (tyA Γ)) {k : Nat} {v : Int32} (hk : k < 6) (hdg : decode cc pc = .ok (.putfield 34, 3)) (kk : VV p l e R s m args below meth c cells slots Q nL Γ.1 clA A H0 (wC Γ (wr u 20 k v)) (pc + 3) lv st) : VV p l e R s m args below meth c cells slots Q nL Γ.1 clA A H0 (wC Γ u) pc lv (.int v :: .ref (Γ.2.1 (k + 9)) :: st) :=
  vv_put (N := 9) C inC0 ty0 ty0_ok nm0 (k + 9) ((wC_at (by omega)).trans (by rw [eC_adv hk])) rfl 7 (by decide) (in_wA (by decide +kernel) rfl) rfl rfl (ty0_ok 7 (by decide)) rfl rfl (Nat.le_of_ble_eq_true rfl) (wC_set (by omega) (by rw [eC_adv hk, sC_20]) oC_20) hdg kk
theorem g_A_A_high (C : cx p s m args c cc R0 wA nL Γ.1 clA (tyA Γ)) {k : Nat} (hk : k < 6) (hdg : decode cc pc = .ok (.getfield 37, 3)) (kk : VV p l e R s m args below meth c cells slots Q nL Γ.1 clA A H0 (wC Γ u) (pc + 3) lv (.int (u.1 21 k) :: st)) : VV p l e R s m args below meth c cells slots Q nL Γ.1 clA A H0 (wC Γ u) pc lv (.ref (Γ.2.1 (k + 9)) :: st) :=
  vv_get (N := 9) C inC0 (k + 9) ((wC_at (by omega)).trans (by rw [eC_adv hk])) rfl 8 (by decide) (in_wA (by decide +kernel) rfl) rfl rfl hdg kk
theorem p_A_A_high (C : cx p s m args c cc R0 wA nL Γ.1 clA (tyA Γ)) {k : Nat} {v : Int32} (hk : k < 6) (hdg : decode cc pc = .ok (.putfield 37, 3)) (kk : VV p l e R s m args below meth c cells slots Q nL Γ.1 clA A H0 (wC Γ (wr u 21 k v)) (pc + 3) lv st) : VV p l e R s m args below meth c cells slots Q nL Γ.1 clA A H0 (wC Γ u) pc lv (.int v :: .ref (Γ.2.1 (k + 9)) :: st) :=
  vv_put (N := 9) C inC0 ty0 ty0_ok nm0 (k + 9) ((wC_at (by omega)).trans (by rw [eC_adv hk])) rfl 8 (by decide) (in_wA (by decide +kernel) rfl) rfl rfl (ty0_ok 8 (by decide)) rfl rfl (Nat.le_of_ble_eq_true rfl) (wC_set (by omega) (by rw [eC_adv hk, sC_21]) oC_21) hdg kk
theorem g_R_R_row (C : cx p s m args c cc R1 wA nL Γ.1 clA (tyA Γ)) (hdg : decode cc pc = .ok (.getfield 11, 3)) (kk : VV p l e R s m args below meth c cells slots Q nL Γ.1 clA A H0 (wC Γ u) (pc + 3) lv (.ref (Γ.2.1 2) :: st)) : VV p l e R s m args below meth c cells slots Q nL Γ.1 clA A H0 (wC Γ u) pc lv (.ref (Γ.2.1 1) :: st) :=
  vv_get (N := 3) C inC1 1 (wC_at (by decide)) rfl 0 (by decide) (in_wA (by decide +kernel) rfl) rfl rfl hdg kk
theorem g_R_R_there (C : cx p s m args c cc R1 wA nL Γ.1 clA (tyA Γ)) (hdg : decode cc pc = .ok (.getfield 17, 3)) (kk : VV p l e R s m args below meth c cells slots Q nL Γ.1 clA A H0 (wC Γ u) (pc + 3) lv (.int (u.1 6 0) :: st)) : VV p l e R s m args below meth c cells slots Q nL Γ.1 clA A H0 (wC Γ u) pc lv (.ref (Γ.2.1 1) :: st) :=
  vv_get (N := 3) C inC1 1 (wC_at (by decide)) rfl 1 (by decide) (in_wA (by decide +kernel) rfl) rfl rfl hdg kk
theorem p_R_R_there (C : cx p s m args c cc R1 wA nL Γ.1 clA (tyA Γ)) {v : Int32} (hdg : decode cc pc = .ok (.putfield 17, 3)) (kk : VV p l e R s m args below meth c cells slots Q nL Γ.1 clA A H0 (wC Γ (wr u 6 0 v)) (pc + 3) lv st) : VV p l e R s m args below meth c cells slots Q nL Γ.1 clA A H0 (wC Γ u) pc lv (.int v :: .ref (Γ.2.1 1) :: st) :=
  vv_put (N := 3) C inC1 ty1 ty1_ok nm1 1 (wC_at (by decide)) rfl 1 (by decide) (in_wA (by decide +kernel) rfl) rfl rfl (ty1_ok 1 (by decide)) rfl rfl (Nat.le_of_ble_eq_true rfl) (wC_set (by decide) rfl oC_6) hdg kk
theorem g_R_R_nextNumber (C : cx p s m args c cc R1 wA nL Γ.1 clA (tyA Γ)) (hdg : decode cc pc = .ok (.getfield 21, 3)) (kk : VV p l e R s m args below meth c cells slots Q nL Γ.1 clA A H0 (wC Γ u) (pc + 3) lv (.int (u.1 7 0) :: st)) : VV p l e R s m args below meth c cells slots Q nL Γ.1 clA A H0 (wC Γ u) pc lv (.ref (Γ.2.1 1) :: st) :=
  vv_get (N := 3) C inC1 1 (wC_at (by decide)) rfl 2 (by decide) (in_wA (by decide +kernel) rfl) rfl rfl hdg kk
theorem p_R_R_nextNumber (C : cx p s m args c cc R1 wA nL Γ.1 clA (tyA Γ)) {v : Int32} (hdg : decode cc pc = .ok (.putfield 21, 3)) (kk : VV p l e R s m args below meth c cells slots Q nL Γ.1 clA A H0 (wC Γ (wr u 7 0 v)) (pc + 3) lv st) : VV p l e R s m args below meth c cells slots Q nL Γ.1 clA A H0 (wC Γ u) pc lv (.int v :: .ref (Γ.2.1 1) :: st) :=
  vv_put (N := 3) C inC1 ty1 ty1_ok nm1 1 (wC_at (by decide)) rfl 2 (by decide) (in_wA (by decide +kernel) rfl) rfl rfl (ty1_ok 2 (by decide)) rfl rfl (Nat.le_of_ble_eq_true rfl) (wC_set (by decide) rfl oC_7) hdg kk
theorem g_R_A_number (C : cx p s m args c cc R1 wA nL Γ.1 clA (tyA Γ)) {k : Nat} (hk : k < 6) (hdg : decode cc pc = .ok (.getfield 25, 3)) (kk : VV p l e R s m args below meth c cells slots Q nL Γ.1 clA A H0 (wC Γ u) (pc + 3) lv (.int (u.1 13 k) :: st)) : VV p l e R s m args below meth c cells slots Q nL Γ.1 clA A H0 (wC Γ u) pc lv (.ref (Γ.2.1 (k + 9)) :: st) :=
  vv_get (N := 9) C inC0 (k + 9) ((wC_at (by omega)).trans (by rw [eC_adv hk])) rfl 0 (by decide) (in_wA (by decide +kernel) rfl) rfl rfl hdg kk
theorem p_R_A_number (C : cx p s m args c cc R1 wA nL Γ.1 clA (tyA Γ)) {k : Nat} {v : Int32} (hk : k < 6) (hdg : decode cc pc = .ok (.putfield 25, 3)) (kk : VV p l e R s m args below meth c cells slots Q nL Γ.1 clA A H0 (wC Γ (wr u 13 k v)) (pc + 3) lv st) : VV p l e R s m args below meth c cells slots Q nL Γ.1 clA A H0 (wC Γ u) pc lv (.int v :: .ref (Γ.2.1 (k + 9)) :: st) :=
  vv_put (N := 9) C inC0 ty0 ty0_ok nm0 (k + 9) ((wC_at (by omega)).trans (by rw [eC_adv hk])) rfl 0 (by decide) (in_wA (by decide +kernel) rfl) rfl rfl (ty0_ok 0 (by decide)) rfl rfl (Nat.le_of_ble_eq_true rfl) (wC_set (by omega) (by rw [eC_adv hk, sC_13]) oC_13) hdg kk
theorem g_R_A_kind (C : cx p s m args c cc R1 wA nL Γ.1 clA (tyA Γ)) {k : Nat} (hk : k < 6) (hdg : decode cc pc = .ok (.getfield 32, 3)) (kk : VV p l e R s m args below meth c cells slots Q nL Γ.1 clA A H0 (wC Γ u) (pc + 3) lv (.int (u.1 14 k) :: st)) : VV p l e R s m args below meth c cells slots Q nL Γ.1 clA A H0 (wC Γ u) pc lv (.ref (Γ.2.1 (k + 9)) :: st) :=
  vv_get (N := 9) C inC0 (k + 9) ((wC_at (by omega)).trans (by rw [eC_adv hk])) rfl 1 (by decide) (in_wA (by decide +kernel) rfl) rfl rfl hdg kk
theorem p_R_A_kind (C : cx p s m args c cc R1 wA nL Γ.1 clA (tyA Γ)) {k : Nat} {v : Int32} (hk : k < 6) (hdg : decode cc pc = .ok (.putfield 32, 3)) (kk : VV p l e R s m args below meth c cells slots Q nL Γ.1 clA A H0 (wC Γ (wr u 14 k v)) (pc + 3) lv st) : VV p l e R s m args below meth c cells slots Q nL Γ.1 clA A H0 (wC Γ u) pc lv (.int v :: .ref (Γ.2.1 (k + 9)) :: st) :=
  vv_put (N := 9) C inC0 ty0 ty0_ok nm0 (k + 9) ((wC_at (by omega)).trans (by rw [eC_adv hk])) rfl 1 (by decide) (in_wA (by decide +kernel) rfl) rfl rfl (ty0_ok 1 (by decide)) rfl rfl (Nat.le_of_ble_eq_true rfl) (wC_set (by omega) (by rw [eC_adv hk, sC_14]) oC_14) hdg kk
theorem g_R_A_order (C : cx p s m args c cc R1 wA nL Γ.1 clA (tyA Γ)) {k : Nat} (hk : k < 6) (hdg : decode cc pc = .ok (.getfield 35, 3)) (kk : VV p l e R s m args below meth c cells slots Q nL Γ.1 clA A H0 (wC Γ u) (pc + 3) lv (.int (u.1 15 k) :: st)) : VV p l e R s m args below meth c cells slots Q nL Γ.1 clA A H0 (wC Γ u) pc lv (.ref (Γ.2.1 (k + 9)) :: st) :=
  vv_get (N := 9) C inC0 (k + 9) ((wC_at (by omega)).trans (by rw [eC_adv hk])) rfl 2 (by decide) (in_wA (by decide +kernel) rfl) rfl rfl hdg kk
theorem p_R_A_order (C : cx p s m args c cc R1 wA nL Γ.1 clA (tyA Γ)) {k : Nat} {v : Int32} (hk : k < 6) (hdg : decode cc pc = .ok (.putfield 35, 3)) (kk : VV p l e R s m args below meth c cells slots Q nL Γ.1 clA A H0 (wC Γ (wr u 15 k v)) (pc + 3) lv st) : VV p l e R s m args below meth c cells slots Q nL Γ.1 clA A H0 (wC Γ u) pc lv (.int v :: .ref (Γ.2.1 (k + 9)) :: st) :=
  vv_put (N := 9) C inC0 ty0 ty0_ok nm0 (k + 9) ((wC_at (by omega)).trans (by rw [eC_adv hk])) rfl 2 (by decide) (in_wA (by decide +kernel) rfl) rfl rfl (ty0_ok 2 (by decide)) rfl rfl (Nat.le_of_ble_eq_true rfl) (wC_set (by omega) (by rw [eC_adv hk, sC_15]) oC_15) hdg kk
theorem g_R_A_methods (C : cx p s m args c cc R1 wA nL Γ.1 clA (tyA Γ)) {k : Nat} (hk : k < 6) (hdg : decode cc pc = .ok (.getfield 38, 3)) (kk : VV p l e R s m args below meth c cells slots Q nL Γ.1 clA A H0 (wC Γ u) (pc + 3) lv (.int (u.1 16 k) :: st)) : VV p l e R s m args below meth c cells slots Q nL Γ.1 clA A H0 (wC Γ u) pc lv (.ref (Γ.2.1 (k + 9)) :: st) :=
  vv_get (N := 9) C inC0 (k + 9) ((wC_at (by omega)).trans (by rw [eC_adv hk])) rfl 3 (by decide) (in_wA (by decide +kernel) rfl) rfl rfl hdg kk
theorem p_R_A_methods (C : cx p s m args c cc R1 wA nL Γ.1 clA (tyA Γ)) {k : Nat} {v : Int32} (hk : k < 6) (hdg : decode cc pc = .ok (.putfield 38, 3)) (kk : VV p l e R s m args below meth c cells slots Q nL Γ.1 clA A H0 (wC Γ (wr u 16 k v)) (pc + 3) lv st) : VV p l e R s m args below meth c cells slots Q nL Γ.1 clA A H0 (wC Γ u) pc lv (.int v :: .ref (Γ.2.1 (k + 9)) :: st) :=
  vv_put (N := 9) C inC0 ty0 ty0_ok nm0 (k + 9) ((wC_at (by omega)).trans (by rw [eC_adv hk])) rfl 3 (by decide) (in_wA (by decide +kernel) rfl) rfl rfl (ty0_ok 3 (by decide)) rfl rfl (Nat.le_of_ble_eq_true rfl) (wC_set (by omega) (by rw [eC_adv hk, sC_16]) oC_16) hdg kk
theorem g_R_A_a (C : cx p s m args c cc R1 wA nL Γ.1 clA (tyA Γ)) {k : Nat} (hk : k < 6) (hdg : decode cc pc = .ok (.getfield 41, 3)) (kk : VV p l e R s m args below meth c cells slots Q nL Γ.1 clA A H0 (wC Γ u) (pc + 3) lv (.int (u.1 17 k) :: st)) : VV p l e R s m args below meth c cells slots Q nL Γ.1 clA A H0 (wC Γ u) pc lv (.ref (Γ.2.1 (k + 9)) :: st) :=
  vv_get (N := 9) C inC0 (k + 9) ((wC_at (by omega)).trans (by rw [eC_adv hk])) rfl 4 (by decide) (in_wA (by decide +kernel) rfl) rfl rfl hdg kk
theorem p_R_A_a (C : cx p s m args c cc R1 wA nL Γ.1 clA (tyA Γ)) {k : Nat} {v : Int32} (hk : k < 6) (hdg : decode cc pc = .ok (.putfield 41, 3)) (kk : VV p l e R s m args below meth c cells slots Q nL Γ.1 clA A H0 (wC Γ (wr u 17 k v)) (pc + 3) lv st) : VV p l e R s m args below meth c cells slots Q nL Γ.1 clA A H0 (wC Γ u) pc lv (.int v :: .ref (Γ.2.1 (k + 9)) :: st) :=
  vv_put (N := 9) C inC0 ty0 ty0_ok nm0 (k + 9) ((wC_at (by omega)).trans (by rw [eC_adv hk])) rfl 4 (by decide) (in_wA (by decide +kernel) rfl) rfl rfl (ty0_ok 4 (by decide)) rfl rfl (Nat.le_of_ble_eq_true rfl) (wC_set (by omega) (by rw [eC_adv hk, sC_17]) oC_17) hdg kk
theorem g_R_A_b (C : cx p s m args c cc R1 wA nL Γ.1 clA (tyA Γ)) {k : Nat} (hk : k < 6) (hdg : decode cc pc = .ok (.getfield 44, 3)) (kk : VV p l e R s m args below meth c cells slots Q nL Γ.1 clA A H0 (wC Γ u) (pc + 3) lv (.int (u.1 18 k) :: st)) : VV p l e R s m args below meth c cells slots Q nL Γ.1 clA A H0 (wC Γ u) pc lv (.ref (Γ.2.1 (k + 9)) :: st) :=
  vv_get (N := 9) C inC0 (k + 9) ((wC_at (by omega)).trans (by rw [eC_adv hk])) rfl 5 (by decide) (in_wA (by decide +kernel) rfl) rfl rfl hdg kk
theorem p_R_A_b (C : cx p s m args c cc R1 wA nL Γ.1 clA (tyA Γ)) {k : Nat} {v : Int32} (hk : k < 6) (hdg : decode cc pc = .ok (.putfield 44, 3)) (kk : VV p l e R s m args below meth c cells slots Q nL Γ.1 clA A H0 (wC Γ (wr u 18 k v)) (pc + 3) lv st) : VV p l e R s m args below meth c cells slots Q nL Γ.1 clA A H0 (wC Γ u) pc lv (.int v :: .ref (Γ.2.1 (k + 9)) :: st) :=
  vv_put (N := 9) C inC0 ty0 ty0_ok nm0 (k + 9) ((wC_at (by omega)).trans (by rw [eC_adv hk])) rfl 5 (by decide) (in_wA (by decide +kernel) rfl) rfl rfl (ty0_ok 5 (by decide)) rfl rfl (Nat.le_of_ble_eq_true rfl) (wC_set (by omega) (by rw [eC_adv hk, sC_18]) oC_18) hdg kk
theorem g_R_A_hasRange (C : cx p s m args c cc R1 wA nL Γ.1 clA (tyA Γ)) {k : Nat} (hk : k < 6) (hdg : decode cc pc = .ok (.getfield 47, 3)) (kk : VV p l e R s m args below meth c cells slots Q nL Γ.1 clA A H0 (wC Γ u) (pc + 3) lv (.int (u.1 19 k) :: st)) : VV p l e R s m args below meth c cells slots Q nL Γ.1 clA A H0 (wC Γ u) pc lv (.ref (Γ.2.1 (k + 9)) :: st) :=
  vv_get (N := 9) C inC0 (k + 9) ((wC_at (by omega)).trans (by rw [eC_adv hk])) rfl 6 (by decide) (in_wA (by decide +kernel) rfl) rfl rfl hdg kk
theorem p_R_A_hasRange (C : cx p s m args c cc R1 wA nL Γ.1 clA (tyA Γ)) {k : Nat} {v : Int32} (hk : k < 6) (hn : narrow .boolean (.int v) = .int v) (hf : fits .boolean (.int v) = true) (hdg : decode cc pc = .ok (.putfield 47, 3)) (kk : VV p l e R s m args below meth c cells slots Q nL Γ.1 clA A H0 (wC Γ (wr u 19 k v)) (pc + 3) lv st) : VV p l e R s m args below meth c cells slots Q nL Γ.1 clA A H0 (wC Γ u) pc lv (.int v :: .ref (Γ.2.1 (k + 9)) :: st) :=
  vv_put (N := 9) C inC0 ty0 ty0_ok nm0 (k + 9) ((wC_at (by omega)).trans (by rw [eC_adv hk])) rfl 6 (by decide) (in_wA (by decide +kernel) rfl) rfl rfl (ty0_ok 6 (by decide)) hn hf (Nat.le_of_ble_eq_true rfl) (wC_set (by omega) (by rw [eC_adv hk, sC_19]) oC_19) hdg kk
theorem g_T_T_noters (C : cx p s m args c cc R2 wA nL Γ.1 clA (tyA Γ)) (hdg : decode cc pc = .ok (.getfield 9, 3)) (kk : VV p l e R s m args below meth c cells slots Q nL Γ.1 clA A H0 (wC Γ u) (pc + 3) lv (.ref (Γ.2.1 5) :: st)) : VV p l e R s m args below meth c cells slots Q nL Γ.1 clA A H0 (wC Γ u) pc lv (.ref (Γ.2.1 4) :: st) :=
  vv_get (N := 3) C inC2 4 (wC_at (by decide)) rfl 0 (by decide) (in_wA (by decide +kernel) rfl) rfl rfl hdg kk
theorem g_T_T_words (C : cx p s m args c cc R2 wA nL Γ.1 clA (tyA Γ)) (hdg : decode cc pc = .ok (.getfield 15, 3)) (kk : VV p l e R s m args below meth c cells slots Q nL Γ.1 clA A H0 (wC Γ u) (pc + 3) lv (.ref (Γ.2.1 6) :: st)) : VV p l e R s m args below meth c cells slots Q nL Γ.1 clA A H0 (wC Γ u) pc lv (.ref (Γ.2.1 4) :: st) :=
  vv_get (N := 3) C inC2 4 (wC_at (by decide)) rfl 1 (by decide) (in_wA (by decide +kernel) rfl) rfl rfl hdg kk
theorem g_T_T_length (C : cx p s m args c cc R2 wA nL Γ.1 clA (tyA Γ)) (hdg : decode cc pc = .ok (.getfield 18, 3)) (kk : VV p l e R s m args below meth c cells slots Q nL Γ.1 clA A H0 (wC Γ u) (pc + 3) lv (.int (u.1 8 0) :: st)) : VV p l e R s m args below meth c cells slots Q nL Γ.1 clA A H0 (wC Γ u) pc lv (.ref (Γ.2.1 4) :: st) :=
  vv_get (N := 3) C inC2 4 (wC_at (by decide)) rfl 2 (by decide) (in_wA (by decide +kernel) rfl) rfl rfl hdg kk
theorem p_T_T_length (C : cx p s m args c cc R2 wA nL Γ.1 clA (tyA Γ)) {v : Int32} (hdg : decode cc pc = .ok (.putfield 18, 3)) (kk : VV p l e R s m args below meth c cells slots Q nL Γ.1 clA A H0 (wC Γ (wr u 8 0 v)) (pc + 3) lv st) : VV p l e R s m args below meth c cells slots Q nL Γ.1 clA A H0 (wC Γ u) pc lv (.int v :: .ref (Γ.2.1 4) :: st) :=
  vv_put (N := 3) C inC2 ty2 ty2_ok nm2 4 (wC_at (by decide)) rfl 2 (by decide) (in_wA (by decide +kernel) rfl) rfl rfl (ty2_ok 2 (by decide)) rfl rfl (Nat.le_of_ble_eq_true rfl) (wC_set (by decide) rfl oC_8) hdg kk
theorem g_K_K_factor (C : cx p s m args c cc R3 wA nL Γ.1 clA (tyA Γ)) {k : Nat} (hk : k < 12) (hdg : decode cc pc = .ok (.getfield 9, 3)) (kk : VV p l e R s m args below meth c cells slots Q nL Γ.1 clA A H0 (wC Γ u) (pc + 3) lv (.int (u.1 22 k) :: st)) : VV p l e R s m args below meth c cells slots Q nL Γ.1 clA A H0 (wC Γ u) pc lv (.ref (Γ.2.1 (k + 15)) :: st) :=
  vv_get (N := 5) C inC3 (k + 15) ((wC_at (by omega)).trans (by rw [eC_wrk])) rfl 0 (by decide) (in_wA (by decide +kernel) rfl) rfl rfl hdg kk
theorem p_K_K_factor (C : cx p s m args c cc R3 wA nL Γ.1 clA (tyA Γ)) {k : Nat} {v : Int32} (hk : k < 12) (hdg : decode cc pc = .ok (.putfield 9, 3)) (kk : VV p l e R s m args below meth c cells slots Q nL Γ.1 clA A H0 (wC Γ (wr u 22 k v)) (pc + 3) lv st) : VV p l e R s m args below meth c cells slots Q nL Γ.1 clA A H0 (wC Γ u) pc lv (.int v :: .ref (Γ.2.1 (k + 15)) :: st) :=
  vv_put (N := 5) C inC3 ty3 ty3_ok nm3 (k + 15) ((wC_at (by omega)).trans (by rw [eC_wrk])) rfl 0 (by decide) (in_wA (by decide +kernel) rfl) rfl rfl (ty3_ok 0 (by decide)) rfl rfl (Nat.le_of_ble_eq_true rfl) (wC_set (by omega) (by rw [eC_wrk, sC_22]) oC_22) hdg kk
theorem g_K_K_addend (C : cx p s m args c cc R3 wA nL Γ.1 clA (tyA Γ)) {k : Nat} (hk : k < 12) (hdg : decode cc pc = .ok (.getfield 15, 3)) (kk : VV p l e R s m args below meth c cells slots Q nL Γ.1 clA A H0 (wC Γ u) (pc + 3) lv (.int (u.1 23 k) :: st)) : VV p l e R s m args below meth c cells slots Q nL Γ.1 clA A H0 (wC Γ u) pc lv (.ref (Γ.2.1 (k + 15)) :: st) :=
  vv_get (N := 5) C inC3 (k + 15) ((wC_at (by omega)).trans (by rw [eC_wrk])) rfl 1 (by decide) (in_wA (by decide +kernel) rfl) rfl rfl hdg kk
theorem p_K_K_addend (C : cx p s m args c cc R3 wA nL Γ.1 clA (tyA Γ)) {k : Nat} {v : Int32} (hk : k < 12) (hdg : decode cc pc = .ok (.putfield 15, 3)) (kk : VV p l e R s m args below meth c cells slots Q nL Γ.1 clA A H0 (wC Γ (wr u 23 k v)) (pc + 3) lv st) : VV p l e R s m args below meth c cells slots Q nL Γ.1 clA A H0 (wC Γ u) pc lv (.int v :: .ref (Γ.2.1 (k + 15)) :: st) :=
  vv_put (N := 5) C inC3 ty3 ty3_ok nm3 (k + 15) ((wC_at (by omega)).trans (by rw [eC_wrk])) rfl 1 (by decide) (in_wA (by decide +kernel) rfl) rfl rfl (ty3_ok 1 (by decide)) rfl rfl (Nat.le_of_ble_eq_true rfl) (wC_set (by omega) (by rw [eC_wrk, sC_23]) oC_23) hdg kk
theorem g_K_K_failsAt (C : cx p s m args c cc R3 wA nL Γ.1 clA (tyA Γ)) {k : Nat} (hk : k < 12) (hdg : decode cc pc = .ok (.getfield 18, 3)) (kk : VV p l e R s m args below meth c cells slots Q nL Γ.1 clA A H0 (wC Γ u) (pc + 3) lv (.int (u.1 24 k) :: st)) : VV p l e R s m args below meth c cells slots Q nL Γ.1 clA A H0 (wC Γ u) pc lv (.ref (Γ.2.1 (k + 15)) :: st) :=
  vv_get (N := 5) C inC3 (k + 15) ((wC_at (by omega)).trans (by rw [eC_wrk])) rfl 2 (by decide) (in_wA (by decide +kernel) rfl) rfl rfl hdg kk
theorem p_K_K_failsAt (C : cx p s m args c cc R3 wA nL Γ.1 clA (tyA Γ)) {k : Nat} {v : Int32} (hk : k < 12) (hdg : decode cc pc = .ok (.putfield 18, 3)) (kk : VV p l e R s m args below meth c cells slots Q nL Γ.1 clA A H0 (wC Γ (wr u 24 k v)) (pc + 3) lv st) : VV p l e R s m args below meth c cells slots Q nL Γ.1 clA A H0 (wC Γ u) pc lv (.int v :: .ref (Γ.2.1 (k + 15)) :: st) :=
  vv_put (N := 5) C inC3 ty3 ty3_ok nm3 (k + 15) ((wC_at (by omega)).trans (by rw [eC_wrk])) rfl 2 (by decide) (in_wA (by decide +kernel) rfl) rfl rfl (ty3_ok 2 (by decide)) rfl rfl (Nat.le_of_ble_eq_true rfl) (wC_set (by omega) (by rw [eC_wrk, sC_24]) oC_24) hdg kk
theorem g_K_K_exception (C : cx p s m args c cc R3 wA nL Γ.1 clA (tyA Γ)) {k : Nat} (hk : k < 12) (hdg : decode cc pc = .ok (.getfield 21, 3)) (kk : VV p l e R s m args below meth c cells slots Q nL Γ.1 clA A H0 (wC Γ u) (pc + 3) lv (.int (u.1 25 k) :: st)) : VV p l e R s m args below meth c cells slots Q nL Γ.1 clA A H0 (wC Γ u) pc lv (.ref (Γ.2.1 (k + 15)) :: st) :=
  vv_get (N := 5) C inC3 (k + 15) ((wC_at (by omega)).trans (by rw [eC_wrk])) rfl 3 (by decide) (in_wA (by decide +kernel) rfl) rfl rfl hdg kk
theorem p_K_K_exception (C : cx p s m args c cc R3 wA nL Γ.1 clA (tyA Γ)) {k : Nat} {v : Int32} (hk : k < 12) (hdg : decode cc pc = .ok (.putfield 21, 3)) (kk : VV p l e R s m args below meth c cells slots Q nL Γ.1 clA A H0 (wC Γ (wr u 25 k v)) (pc + 3) lv st) : VV p l e R s m args below meth c cells slots Q nL Γ.1 clA A H0 (wC Γ u) pc lv (.int v :: .ref (Γ.2.1 (k + 15)) :: st) :=
  vv_put (N := 5) C inC3 ty3 ty3_ok nm3 (k + 15) ((wC_at (by omega)).trans (by rw [eC_wrk])) rfl 3 (by decide) (in_wA (by decide +kernel) rfl) rfl rfl (ty3_ok 3 (by decide)) rfl rfl (Nat.le_of_ble_eq_true rfl) (wC_set (by omega) (by rw [eC_wrk, sC_25]) oC_25) hdg kk
theorem g_K_K_next (C : cx p s m args c cc R3 wA nL Γ.1 clA (tyA Γ)) {k : Nat} (hk : k < 12) (hdg : decode cc pc = .ok (.getfield 24, 3)) (kk : VV p l e R s m args below meth c cells slots Q nL Γ.1 clA A H0 (wC Γ u) (pc + 3) lv (.int (u.1 26 k) :: st)) : VV p l e R s m args below meth c cells slots Q nL Γ.1 clA A H0 (wC Γ u) pc lv (.ref (Γ.2.1 (k + 15)) :: st) :=
  vv_get (N := 5) C inC3 (k + 15) ((wC_at (by omega)).trans (by rw [eC_wrk])) rfl 4 (by decide) (in_wA (by decide +kernel) rfl) rfl rfl hdg kk
theorem p_K_K_next (C : cx p s m args c cc R3 wA nL Γ.1 clA (tyA Γ)) {k : Nat} {v : Int32} (hk : k < 12) (hdg : decode cc pc = .ok (.putfield 24, 3)) (kk : VV p l e R s m args below meth c cells slots Q nL Γ.1 clA A H0 (wC Γ (wr u 26 k v)) (pc + 3) lv st) : VV p l e R s m args below meth c cells slots Q nL Γ.1 clA A H0 (wC Γ u) pc lv (.int v :: .ref (Γ.2.1 (k + 15)) :: st) :=
  vv_put (N := 5) C inC3 ty3 ty3_ok nm3 (k + 15) ((wC_at (by omega)).trans (by rw [eC_wrk])) rfl 4 (by decide) (in_wA (by decide +kernel) rfl) rfl rfl (ty3_ok 4 (by decide)) rfl rfl (Nat.le_of_ble_eq_true rfl) (wC_set (by omega) (by rw [eC_wrk, sC_26]) oC_26) hdg kk
theorem ld_4_5 (C : cx p s m args c cc R4 wA nL Γ.1 clA (tyA Γ)) {i : Int32} (hin : vp_in i 100) (hdg : decode cc pc = .ok (.iaload, 1)) (kk : VV p l e R s m args below meth c cells slots Q nL Γ.1 clA A H0 (wC Γ u) (pc + 1) lv (.int (u.1 11 i.toNatClampNeg) :: st)) : VV p l e R s m args below meth c cells slots Q nL Γ.1 clA A H0 (wC Γ u) pc lv (.int i :: .ref (Γ.2.1 5) :: st) :=
  vv_iald C 5 0 (wC_at (by decide)) rfl hin hdg kk
theorem sr_4_5 (C : cx p s m args c cc R4 wA nL Γ.1 clA (tyA Γ)) {i v : Int32} (hin : vp_in i 100) (hdg : decode cc pc = .ok (.iastore, 1)) (kk : VV p l e R s m args below meth c cells slots Q nL Γ.1 clA A H0 (wC Γ (wr u 11 i.toNatClampNeg v)) (pc + 1) lv st) : VV p l e R s m args below meth c cells slots Q nL Γ.1 clA A H0 (wC Γ u) pc lv (.int v :: .int i :: .ref (Γ.2.1 5) :: st) :=
  vv_iast C 5 0 (wC_at (by decide)) rfl hin (wC_set (by decide) rfl oC_11) hdg kk
theorem ld_2_5 (C : cx p s m args c cc R2 wA nL Γ.1 clA (tyA Γ)) {i : Int32} (hin : vp_in i 100) (hdg : decode cc pc = .ok (.iaload, 1)) (kk : VV p l e R s m args below meth c cells slots Q nL Γ.1 clA A H0 (wC Γ u) (pc + 1) lv (.int (u.1 11 i.toNatClampNeg) :: st)) : VV p l e R s m args below meth c cells slots Q nL Γ.1 clA A H0 (wC Γ u) pc lv (.int i :: .ref (Γ.2.1 5) :: st) :=
  vv_iald C 5 0 (wC_at (by decide)) rfl hin hdg kk
theorem sr_2_5 (C : cx p s m args c cc R2 wA nL Γ.1 clA (tyA Γ)) {i v : Int32} (hin : vp_in i 100) (hdg : decode cc pc = .ok (.iastore, 1)) (kk : VV p l e R s m args below meth c cells slots Q nL Γ.1 clA A H0 (wC Γ (wr u 11 i.toNatClampNeg v)) (pc + 1) lv st) : VV p l e R s m args below meth c cells slots Q nL Γ.1 clA A H0 (wC Γ u) pc lv (.int v :: .int i :: .ref (Γ.2.1 5) :: st) :=
  vv_iast C 5 0 (wC_at (by decide)) rfl hin (wC_set (by decide) rfl oC_11) hdg kk
theorem ld_4_6 (C : cx p s m args c cc R4 wA nL Γ.1 clA (tyA Γ)) {i : Int32} (hin : vp_in i 100) (hdg : decode cc pc = .ok (.iaload, 1)) (kk : VV p l e R s m args below meth c cells slots Q nL Γ.1 clA A H0 (wC Γ u) (pc + 1) lv (.int (u.1 12 i.toNatClampNeg) :: st)) : VV p l e R s m args below meth c cells slots Q nL Γ.1 clA A H0 (wC Γ u) pc lv (.int i :: .ref (Γ.2.1 6) :: st) :=
  vv_iald C 6 0 (wC_at (by decide)) rfl hin hdg kk
theorem sr_4_6 (C : cx p s m args c cc R4 wA nL Γ.1 clA (tyA Γ)) {i v : Int32} (hin : vp_in i 100) (hdg : decode cc pc = .ok (.iastore, 1)) (kk : VV p l e R s m args below meth c cells slots Q nL Γ.1 clA A H0 (wC Γ (wr u 12 i.toNatClampNeg v)) (pc + 1) lv st) : VV p l e R s m args below meth c cells slots Q nL Γ.1 clA A H0 (wC Γ u) pc lv (.int v :: .int i :: .ref (Γ.2.1 6) :: st) :=
  vv_iast C 6 0 (wC_at (by decide)) rfl hin (wC_set (by decide) rfl oC_12) hdg kk
theorem ld_2_6 (C : cx p s m args c cc R2 wA nL Γ.1 clA (tyA Γ)) {i : Int32} (hin : vp_in i 100) (hdg : decode cc pc = .ok (.iaload, 1)) (kk : VV p l e R s m args below meth c cells slots Q nL Γ.1 clA A H0 (wC Γ u) (pc + 1) lv (.int (u.1 12 i.toNatClampNeg) :: st)) : VV p l e R s m args below meth c cells slots Q nL Γ.1 clA A H0 (wC Γ u) pc lv (.int i :: .ref (Γ.2.1 6) :: st) :=
  vv_iald C 6 0 (wC_at (by decide)) rfl hin hdg kk
theorem sr_2_6 (C : cx p s m args c cc R2 wA nL Γ.1 clA (tyA Γ)) {i v : Int32} (hin : vp_in i 100) (hdg : decode cc pc = .ok (.iastore, 1)) (kk : VV p l e R s m args below meth c cells slots Q nL Γ.1 clA A H0 (wC Γ (wr u 12 i.toNatClampNeg v)) (pc + 1) lv st) : VV p l e R s m args below meth c cells slots Q nL Γ.1 clA A H0 (wC Γ u) pc lv (.int v :: .int i :: .ref (Γ.2.1 6) :: st) :=
  vv_iast C 6 0 (wC_at (by decide)) rfl hin (wC_set (by decide) rfl oC_12) hdg kk
theorem ld_4_7 (C : cx p s m args c cc R4 wA nL Γ.1 clA (tyA Γ)) {i : Int32} (hin : vp_in i 3) (hdg : decode cc pc = .ok (.iaload, 1)) (kk : VV p l e R s m args below meth c cells slots Q nL Γ.1 clA A H0 (wC Γ u) (pc + 1) lv (.int (u.1 9 i.toNatClampNeg) :: st)) : VV p l e R s m args below meth c cells slots Q nL Γ.1 clA A H0 (wC Γ u) pc lv (.int i :: .ref (Γ.2.1 7) :: st) :=
  vv_iald C 7 0 (wC_at (by decide)) rfl hin hdg kk
theorem sr_4_7 (C : cx p s m args c cc R4 wA nL Γ.1 clA (tyA Γ)) {i v : Int32} (hin : vp_in i 3) (hdg : decode cc pc = .ok (.iastore, 1)) (kk : VV p l e R s m args below meth c cells slots Q nL Γ.1 clA A H0 (wC Γ (wr u 9 i.toNatClampNeg v)) (pc + 1) lv st) : VV p l e R s m args below meth c cells slots Q nL Γ.1 clA A H0 (wC Γ u) pc lv (.int v :: .int i :: .ref (Γ.2.1 7) :: st) :=
  vv_iast C 7 0 (wC_at (by decide)) rfl hin (wC_set (by decide) rfl oC_9) hdg kk
theorem ld_4_8 (C : cx p s m args c cc R4 wA nL Γ.1 clA (tyA Γ)) {i : Int32} (hin : vp_in i 3) (hdg : decode cc pc = .ok (.iaload, 1)) (kk : VV p l e R s m args below meth c cells slots Q nL Γ.1 clA A H0 (wC Γ u) (pc + 1) lv (.int (u.1 10 i.toNatClampNeg) :: st)) : VV p l e R s m args below meth c cells slots Q nL Γ.1 clA A H0 (wC Γ u) pc lv (.int i :: .ref (Γ.2.1 8) :: st) :=
  vv_iald C 8 0 (wC_at (by decide)) rfl hin hdg kk
theorem sr_4_8 (C : cx p s m args c cc R4 wA nL Γ.1 clA (tyA Γ)) {i v : Int32} (hin : vp_in i 3) (hdg : decode cc pc = .ok (.iastore, 1)) (kk : VV p l e R s m args below meth c cells slots Q nL Γ.1 clA A H0 (wC Γ (wr u 10 i.toNatClampNeg v)) (pc + 1) lv st) : VV p l e R s m args below meth c cells slots Q nL Γ.1 clA A H0 (wC Γ u) pc lv (.int v :: .int i :: .ref (Γ.2.1 8) :: st) :=
  vv_iast C 8 0 (wC_at (by decide)) rfl hin (wC_set (by decide) rfl oC_10) hdg kk
theorem ld_1_2 (C : cx p s m args c cc R1 wA nL Γ.1 clA (tyA Γ)) {i : Int32} (hin : vp_in i 6) (hdg : decode cc pc = .ok (.aaload, 1)) (kk : VV p l e R s m args below meth c cells slots Q nL Γ.1 clA A H0 (wC Γ u) (pc + 1) lv (.ref (Γ.2.1 (u.2 i.toNatClampNeg + 9)) :: st)) : VV p l e R s m args below meth c cells slots Q nL Γ.1 clA A H0 (wC Γ u) pc lv (.int i :: .ref (Γ.2.1 2) :: st) :=
  vv_aldq C 2 1 (wC_at (by decide)) rfl hin rfl hdg kk
theorem ld_4_3 (C : cx p s m args c cc R4 wA nL Γ.1 clA (tyA Γ)) {i : Int32} (hin : vp_in i 12) (hdg : decode cc pc = .ok (.aaload, 1)) (kk : VV p l e R s m args below meth c cells slots Q nL Γ.1 clA A H0 (wC Γ u) (pc + 1) lv (.ref (Γ.2.1 (i.toNatClampNeg + 15)) :: st)) : VV p l e R s m args below meth c cells slots Q nL Γ.1 clA A H0 (wC Γ u) pc lv (.int i :: .ref (Γ.2.1 3) :: st) :=
  vv_aldq C 3 2 (wC_at (by decide)) rfl hin rfl hdg kk
theorem oC_row {Γ : Geo} {u : SC} {f : Nat → Nat} : ∀ j, j ≠ 2 → eC Γ (u.1, f) j = eC Γ u j
  | 0, _ => rfl
  | 1, _ => rfl
  | 2, h => absurd rfl h
  | 3, _ => rfl
  | 4, _ => rfl
  | 5, _ => rfl
  | 6, _ => rfl
  | 7, _ => rfl
  | 8, _ => rfl
  | 9, _ => rfl
  | 10, _ => rfl
  | 11, _ => rfl
  | 12, _ => rfl
  | 13, _ => rfl
  | 14, _ => rfl
  | j + 15, _ => rfl
theorem sC_row {Γ : Geo} {u : SC} {i k : Nat} : eC Γ (u.1, va_up u.2 i k) 2 = .inl (Γ.2.2.2.1, 6, .inr (.inr (.inr (.inr (va_up (fun i => some (Γ.2.1 (u.2 i + 9))) i (some (Γ.2.1 (k + 9)))))))) := by
  show Sum.inl (Γ.2.2.2.1, 6, Sum.inr (Sum.inr (Sum.inr (Sum.inr fun j => some (Γ.2.1 (va_up u.2 i k j + 9)))))) = _
  have e : (fun j => some (Γ.2.1 (va_up u.2 i k j + 9))) = va_up (fun i => some (Γ.2.1 (u.2 i + 9))) i (some (Γ.2.1 (k + 9))) := by
    funext j
    unfold va_up
    by_cases c : j = i
    · rw [if_pos c, if_pos c]
    · rw [if_neg c, if_neg c]
  rw [e]
theorem sr_1_2 (C : cx p s m args c cc R1 wA nL Γ.1 clA (tyA Γ)) {i : Int32} {k : Nat} (hk : k < 6) (hin : vp_in i 6) (hdg : decode cc pc = .ok (.aastore, 1)) (kk : VV p l e R s m args below meth c cells slots Q nL Γ.1 clA A H0 (wC Γ (u.1, va_up u.2 i.toNatClampNeg k)) (pc + 1) lv st) : VV p l e R s m args below meth c cells slots Q nL Γ.1 clA A H0 (wC Γ u) pc lv (.ref (Γ.2.1 (k + 9)) :: .int i :: .ref (Γ.2.1 2) :: st) :=
  vv_astq (r := (R0, T0, 9)) C 2 1 (k + 9) 0 (wC_at (by decide)) rfl ((wC_at (by omega)).trans (by rw [eC_adv hk])) rfl hin (wC_set (by decide) sC_row oC_row) hdg kk
end FC
/-- a contract of a method over the class's cells -/
abbrev CtC (l : Launch) (Γ : Geo) (y : MethodName) (bytes : ByteArray) (maxL : Nat) (ret : Option FieldType) (d : Nat) (av : List Value) (u : SC) (rv : Option Value) (u' : SC) : Prop :=
  Ct l y (Cond.code y bytes maxL ret :: wA) (rmD d) Γ.1 clA (tyA Γ) (inC Γ) av (wC Γ u) rv (wC Γ u')
theorem good_V {own K : String} {idx : Nat} {y : MethodName} {cd : Cond} (h : ∀ w ∈ ([.methodLink own idx y, .instanceMethod y, .selects K y y, .initialized K] : List Cond), w ∈ wA) (h5 : cd ∈ wA) : GoodIn wA (wsV own idx K y (cd :: wA)) := by
  intro w hw
  rcases List.mem_append.mp hw with h1 | h1
  · exact wA_good w (h w h1)
  · rcases List.mem_cons.mp h1 with rfl | h2
    · exact wA_good _ h5
    · exact wA_good _ h2
theorem good_S {own : String} {idx : Nat} {y : MethodName} {cd : Cond} (h : ∀ w ∈ ([.methodLink own idx y, .static y, .initialized own] : List Cond), w ∈ wA) (h5 : cd ∈ wA) : GoodIn wA (wsS own idx y (cd :: wA)) := by
  intro w hw
  rcases List.mem_append.mp hw with h1 | h1
  · exact wA_good w (h w h1)
  · rcases List.mem_cons.mp h1 with rfl | h2
    · exact wA_good _ h5
    · exact wA_good _ h2
section CC
variable {p : Program} {l : Launch} {e : Env} {d : Nat} {s : State} {m : MethodId} {args : Array Value} {below : List Frame} {meth : Method} {c : Code} {Q : State → Prop}
variable {cc : ByteArray} {own : String} {nL : Nat} {H0 : Heap} {pc : Nat} {lv : List (Nat × Value)} {st : List Value} {Γ : Geo} {u u' : SC}
theorem callC (C : cx p s m args c cc own wA nL Γ.1 clA (tyA Γ)) {index maxL n d' : Nat} {K : String} {y : MethodName} {bytes : ByteArray} {ret : Option FieldType} {b : Nat} {As rest : List Value} {rv : Option Value}
    (hM : CtC l Γ y bytes maxL ret d' (.ref b :: As) u rv u') (cw : callVw own index K y bytes maxL ret wA wA n) (hn : As.length = n) (k0 : Nat) (hk0 : k0 < 27) (hb : Γ.2.1 k0 = b) {ci N : Nat} {T : u_T} {fs : List Value} (he : eC Γ u k0 = .inr (ci, fs)) (hc : clA[ci]? = some (K, T, N))
    (hst : st = As.reverse ++ .ref b :: rest) (hW : (rest.map fun v => v.category).sum ≤ 8) (hm : maxL ≤ 21) (hd : d' + 1 ≤ d) (hdg : decode cc pc = .ok (.invokevirtual index, 3))
    (kk : VV p l e (rmD d) s m args below meth c 0 0 Q nL Γ.1 clA (inC Γ) H0 (wC Γ u') (pc + 3) lv (rv.toList ++ rest)) : VV p l e (rmD d) s m args below meth c 0 0 Q nL Γ.1 clA (inC Γ) H0 (wC Γ u) pc lv st := by
  subst hb
  exact vv_callV C hM cw hn k0 ((wC_at hk0).trans (by rw [he])) hc hst hW (fitsIn_D hm hd) ⟨Nat.le_refl _, Nat.le_refl _⟩ hdg (fun _ h => h) (fun h => h) wC_D kk
theorem callCS (C : cx p s m args c cc own wA nL Γ.1 clA (tyA Γ)) {index maxL n d' : Nat} {y : MethodName} {bytes : ByteArray} {ret : Option FieldType} {As rest : List Value} {rv : Option Value}
    (hM : CtC l Γ y bytes maxL ret d' As u rv u') (cw : callSw own index y bytes maxL ret wA wA n) (hn : As.length = n)
    (hst : st = As.reverse ++ rest) (hW : (rest.map fun v => v.category).sum ≤ 8) (hm : maxL ≤ 21) (hd : d' + 1 ≤ d) (hdg : decode cc pc = .ok (.invokestatic index, 3))
    (kk : VV p l e (rmD d) s m args below meth c 0 0 Q nL Γ.1 clA (inC Γ) H0 (wC Γ u') (pc + 3) lv (rv.toList ++ rest)) : VV p l e (rmD d) s m args below meth c 0 0 Q nL Γ.1 clA (inC Γ) H0 (wC Γ u) pc lv st :=
  vv_callS C hM cw hn hst hW (fitsIn_D hm hd) ⟨Nat.le_refl _, Nat.le_refl _⟩ hdg (fun _ h => h) (fun h => h) wC_D kk
end CC
theorem cw_L_R_isFull : callVw R4 57 R1 y_R_isFull b_R_isFull 1 (some .boolean) wA wA 0 := ⟨good_V (wA_all _ (by decide +kernel)) cd_R_isFull, rfl, by decide +kernel, by decide +kernel, by decide +kernel⟩
theorem cw_L_L_areNumbersOf : callSw R4 61 y_L_areNumbersOf b_L_areNumbersOf 3 (some .boolean) wA wA 3 := ⟨good_S (wA_all _ (by decide +kernel)) cd_L_areNumbersOf, rfl, by decide +kernel, by decide +kernel, by decide +kernel⟩
theorem cw_L_R_make : callVw R4 65 R1 y_R_make b_R_make 7 (some .int) wA wA 5 := ⟨good_V (wA_all _ (by decide +kernel)) cd_R_make, rfl, by decide +kernel, by decide +kernel, by decide +kernel⟩
theorem cw_L_R_placeOf : callVw R4 69 R1 y_R_placeOf b_R_placeOf 3 (some .int) wA wA 1 := ⟨good_V (wA_all _ (by decide +kernel)) cd_R_placeOf, rfl, by decide +kernel, by decide +kernel, by decide +kernel⟩
theorem cw_L_R_at : callVw R4 73 R1 y_R_at b_R_at 2 (some (.object "AdviceLinks$Advisor")) wA wA 1 := ⟨good_V (wA_all _ (by decide +kernel)) cd_R_at, rfl, by decide +kernel, by decide +kernel, by decide +kernel⟩
theorem cw_L_A_giveRange : callVw R4 77 R0 y_A_giveRange b_A_giveRange 3 none wA wA 2 := ⟨good_V (wA_all _ (by decide +kernel)) cd_A_giveRange, rfl, by decide +kernel, by decide +kernel, by decide +kernel⟩
theorem cw_L_R_move : callVw R4 83 R1 y_R_move b_R_move 3 none wA wA 2 := ⟨good_V (wA_all _ (by decide +kernel)) cd_R_move, rfl, by decide +kernel, by decide +kernel, by decide +kernel⟩
theorem cw_L_R_takeAway : callVw R4 86 R1 y_R_takeAway b_R_takeAway 3 none wA wA 1 := ⟨good_V (wA_all _ (by decide +kernel)) cd_R_takeAway, rfl, by decide +kernel, by decide +kernel, by decide +kernel⟩
theorem cw_L_L_isTarget : callSw R4 90 y_L_isTarget b_L_isTarget 1 (some .boolean) wA wA 1 := ⟨good_S (wA_all _ (by decide +kernel)) cd_L_isTarget, rfl, by decide +kernel, by decide +kernel, by decide +kernel⟩
theorem cw_L_L_isMethod : callSw R4 94 y_L_isMethod b_L_isMethod 1 (some .boolean) wA wA 1 := ⟨good_S (wA_all _ (by decide +kernel)) cd_L_isMethod, rfl, by decide +kernel, by decide +kernel, by decide +kernel⟩
theorem cw_L_L_workOf : callVw R4 97 R4 y_L_workOf b_L_workOf 3 (some (.object "AdviceLinks$Work")) wA wA 2 := ⟨good_V (wA_all _ (by decide +kernel)) cd_L_workOf, rfl, by decide +kernel, by decide +kernel, by decide +kernel⟩
theorem cw_L_L_isExceptionOrZero : callSw R4 107 y_L_isExceptionOrZero b_L_isExceptionOrZero 1 (some .boolean) wA wA 1 := ⟨good_S (wA_all _ (by decide +kernel)) cd_L_isExceptionOrZero, rfl, by decide +kernel, by decide +kernel, by decide +kernel⟩
theorem cw_L_T_clear : callVw R4 119 R2 y_T_clear b_T_clear 1 none wA wA 0 := ⟨good_V (wA_all _ (by decide +kernel)) cd_T_clear, rfl, by decide +kernel, by decide +kernel, by decide +kernel⟩
theorem cw_L_L_begin : callVw R4 122 R4 y_L_begin b_L_begin 4 (some .int) wA wA 3 := ⟨good_V (wA_all _ (by decide +kernel)) cd_L_begin, rfl, by decide +kernel, by decide +kernel, by decide +kernel⟩
theorem cw_L_T_has : callVw R4 129 R2 y_T_has b_T_has 2 (some .boolean) wA wA 1 := ⟨good_V (wA_all _ (by decide +kernel)) cd_T_has, rfl, by decide +kernel, by decide +kernel, by decide +kernel⟩
theorem cw_L_R_numberInChain : callVw R4 138 R1 y_R_numberInChain b_R_numberInChain 5 (some .int) wA wA 2 := ⟨good_V (wA_all _ (by decide +kernel)) cd_R_numberInChain, rfl, by decide +kernel, by decide +kernel, by decide +kernel⟩
theorem cw_L_L_isException : callSw R4 142 y_L_isException b_L_isException 1 (some .boolean) wA wA 1 := ⟨good_S (wA_all _ (by decide +kernel)) cd_L_isException, rfl, by decide +kernel, by decide +kernel, by decide +kernel⟩
theorem cw_L_L_thrown : callVw R4 145 R4 y_L_thrown b_L_thrown 2 (some .int) wA wA 1 := ⟨good_V (wA_all _ (by decide +kernel)) cd_L_thrown, rfl, by decide +kernel, by decide +kernel, by decide +kernel⟩
theorem cw_L_L_takeTarget : callVw R4 148 R4 y_L_takeTarget b_L_takeTarget 2 (some .int) wA wA 0 := ⟨good_V (wA_all _ (by decide +kernel)) cd_L_takeTarget, rfl, by decide +kernel, by decide +kernel, by decide +kernel⟩
theorem cw_L_L_goAlong : callVw R4 152 R4 y_L_goAlong b_L_goAlong 6 (some .int) wA wA 3 := ⟨good_V (wA_all _ (by decide +kernel)) cd_L_goAlong, rfl, by decide +kernel, by decide +kernel, by decide +kernel⟩
theorem cw_L_R_placeInChain : callVw R4 155 R1 y_R_placeInChain b_R_placeInChain 4 (some .int) wA wA 2 := ⟨good_V (wA_all _ (by decide +kernel)) cd_R_placeInChain, rfl, by decide +kernel, by decide +kernel, by decide +kernel⟩
theorem cw_L_L_workOn : callVw R4 158 R4 y_L_workOn b_L_workOn 6 (some .int) wA wA 2 := ⟨good_V (wA_all _ (by decide +kernel)) cd_L_workOn, rfl, by decide +kernel, by decide +kernel, by decide +kernel⟩
theorem cw_L_A_isInRange : callVw R4 164 R0 y_A_isInRange b_A_isInRange 2 (some .boolean) wA wA 1 := ⟨good_V (wA_all _ (by decide +kernel)) cd_A_isInRange, rfl, by decide +kernel, by decide +kernel, by decide +kernel⟩
theorem cw_L_L_act : callVw R4 167 R4 y_L_act b_L_act 5 (some .int) wA wA 4 := ⟨good_V (wA_all _ (by decide +kernel)) cd_L_act, rfl, by decide +kernel, by decide +kernel, by decide +kernel⟩
theorem cw_L_T_note : callVw R4 171 R2 y_T_note b_T_note 3 (some .boolean) wA wA 2 := ⟨good_V (wA_all _ (by decide +kernel)) cd_T_note, rfl, by decide +kernel, by decide +kernel, by decide +kernel⟩
theorem cw_L_L_brokenOff : callVw R4 175 R4 y_L_brokenOff b_L_brokenOff 1 (some .int) wA wA 0 := ⟨good_V (wA_all _ (by decide +kernel)) cd_L_brokenOff, rfl, by decide +kernel, by decide +kernel, by decide +kernel⟩
theorem cw_L_K_failsOn : callVw R4 178 R3 y_K_failsOn b_K_failsOn 2 (some .boolean) wA wA 1 := ⟨good_V (wA_all _ (by decide +kernel)) cd_K_failsOn, rfl, by decide +kernel, by decide +kernel, by decide +kernel⟩
theorem cw_L_K_reckon : callVw R4 181 R3 y_K_reckon b_K_reckon 2 (some .int) wA wA 1 := ⟨good_V (wA_all _ (by decide +kernel)) cd_K_reckon, rfl, by decide +kernel, by decide +kernel, by decide +kernel⟩
theorem cw_L_L_returned : callVw R4 184 R4 y_L_returned b_L_returned 2 (some .int) wA wA 1 := ⟨good_V (wA_all _ (by decide +kernel)) cd_L_returned, rfl, by decide +kernel, by decide +kernel, by decide +kernel⟩
theorem cw_L_L_actBefore : callVw R4 190 R4 y_L_actBefore b_L_actBefore 5 (some .int) wA wA 4 := ⟨good_V (wA_all _ (by decide +kernel)) cd_L_actBefore, rfl, by decide +kernel, by decide +kernel, by decide +kernel⟩
theorem cw_L_L_actChange : callVw R4 193 R4 y_L_actChange b_L_actChange 6 (some .int) wA wA 4 := ⟨good_V (wA_all _ (by decide +kernel)) cd_L_actChange, rfl, by decide +kernel, by decide +kernel, by decide +kernel⟩
theorem cw_L_L_actSkip : callVw R4 196 R4 y_L_actSkip b_L_actSkip 5 (some .int) wA wA 4 := ⟨good_V (wA_all _ (by decide +kernel)) cd_L_actSkip, rfl, by decide +kernel, by decide +kernel, by decide +kernel⟩
theorem cw_L_L_actTwice : callVw R4 199 R4 y_L_actTwice b_L_actTwice 8 (some .int) wA wA 4 := ⟨good_V (wA_all _ (by decide +kernel)) cd_L_actTwice, rfl, by decide +kernel, by decide +kernel, by decide +kernel⟩
theorem cw_L_L_actReturning : callVw R4 202 R4 y_L_actReturning b_L_actReturning 6 (some .int) wA wA 4 := ⟨good_V (wA_all _ (by decide +kernel)) cd_L_actReturning, rfl, by decide +kernel, by decide +kernel, by decide +kernel⟩
theorem cw_L_L_actThrowing : callVw R4 205 R4 y_L_actThrowing b_L_actThrowing 6 (some .int) wA wA 4 := ⟨good_V (wA_all _ (by decide +kernel)) cd_L_actThrowing, rfl, by decide +kernel, by decide +kernel, by decide +kernel⟩
theorem cw_L_L_actFinally : callVw R4 208 R4 y_L_actFinally b_L_actFinally 6 (some .int) wA wA 4 := ⟨good_V (wA_all _ (by decide +kernel)) cd_L_actFinally, rfl, by decide +kernel, by decide +kernel, by decide +kernel⟩
theorem cw_L_L_actRecover : callVw R4 211 R4 y_L_actRecover b_L_actRecover 6 (some .int) wA wA 4 := ⟨good_V (wA_all _ (by decide +kernel)) cd_L_actRecover, rfl, by decide +kernel, by decide +kernel, by decide +kernel⟩
theorem cw_L_L_isKindOf : callSw R4 223 y_L_isKindOf b_L_isKindOf 3 (some .boolean) wA wA 2 := ⟨good_S (wA_all _ (by decide +kernel)) cd_L_isKindOf, rfl, by decide +kernel, by decide +kernel, by decide +kernel⟩
theorem cw_R_A_advises : callVw R1 28 R0 y_A_advises b_A_advises 2 (some .boolean) wA wA 1 := ⟨good_V (wA_all _ (by decide +kernel)) cd_A_advises, rfl, by decide +kernel, by decide +kernel, by decide +kernel⟩
theorem cw_R_R_settle : callVw R1 51 R1 y_R_settle b_R_settle 3 none wA wA 1 := ⟨good_V (wA_all _ (by decide +kernel)) cd_R_settle, rfl, by decide +kernel, by decide +kernel, by decide +kernel⟩
theorem cw_R_R_swapWithNext : callVw R1 55 R1 y_R_swapWithNext b_R_swapWithNext 3 none wA wA 1 := ⟨good_V (wA_all _ (by decide +kernel)) cd_R_swapWithNext, rfl, by decide +kernel, by decide +kernel, by decide +kernel⟩
theorem cw_R_A_standsBefore : callVw R1 58 R0 y_A_standsBefore b_A_standsBefore 2 (some .boolean) wA wA 1 := ⟨good_V (wA_all _ (by decide +kernel)) cd_A_standsBefore, rfl, by decide +kernel, by decide +kernel, by decide +kernel⟩
theorem cw_W_L_advise : callVw R6 13 R4 y_L_advise b_L_advise 6 (some .int) wA wA 5 := ⟨good_V (wA_all _ (by decide +kernel)) cd_L_advise, rfl, by decide +kernel, by decide +kernel, by decide +kernel⟩
theorem cw_W_M_advise : callVw R6 17 R5 y_M_advise b_M_advise 6 (some .int) wA wA 5 := ⟨good_V (wA_all _ (by decide +kernel)) cd_M_advise, rfl, by decide +kernel, by decide +kernel, by decide +kernel⟩
theorem cw_W_L_when : callVw R6 18 R4 y_L_when b_L_when 5 (some .boolean) wA wA 3 := ⟨good_V (wA_all _ (by decide +kernel)) cd_L_when, rfl, by decide +kernel, by decide +kernel, by decide +kernel⟩
theorem cw_W_M_when : callVw R6 22 R5 y_M_when b_M_when 5 (some .boolean) wA wA 3 := ⟨good_V (wA_all _ (by decide +kernel)) cd_M_when, rfl, by decide +kernel, by decide +kernel, by decide +kernel⟩
theorem cw_W_L_reorder : callVw R6 23 R4 y_L_reorder b_L_reorder 4 (some .boolean) wA wA 2 := ⟨good_V (wA_all _ (by decide +kernel)) cd_L_reorder, rfl, by decide +kernel, by decide +kernel, by decide +kernel⟩
theorem cw_W_M_reorder : callVw R6 27 R5 y_M_reorder b_M_reorder 4 (some .boolean) wA wA 2 := ⟨good_V (wA_all _ (by decide +kernel)) cd_M_reorder, rfl, by decide +kernel, by decide +kernel, by decide +kernel⟩
theorem cw_W_L_remove : callVw R6 28 R4 y_L_remove b_L_remove 3 (some .boolean) wA wA 1 := ⟨good_V (wA_all _ (by decide +kernel)) cd_L_remove, rfl, by decide +kernel, by decide +kernel, by decide +kernel⟩
theorem cw_W_M_remove : callVw R6 32 R5 y_M_remove b_M_remove 4 (some .boolean) wA wA 1 := ⟨good_V (wA_all _ (by decide +kernel)) cd_M_remove, rfl, by decide +kernel, by decide +kernel, by decide +kernel⟩
theorem cw_W_L_freeze : callVw R6 33 R4 y_L_freeze b_L_freeze 2 none wA wA 1 := ⟨good_V (wA_all _ (by decide +kernel)) cd_L_freeze, rfl, by decide +kernel, by decide +kernel, by decide +kernel⟩
theorem cw_W_M_freeze : callVw R6 37 R5 y_M_freeze b_M_freeze 2 none wA wA 1 := ⟨good_V (wA_all _ (by decide +kernel)) cd_M_freeze, rfl, by decide +kernel, by decide +kernel, by decide +kernel⟩
theorem cw_W_L_plan : callVw R6 38 R4 y_L_plan b_L_plan 6 (some .boolean) wA wA 4 := ⟨good_V (wA_all _ (by decide +kernel)) cd_L_plan, rfl, by decide +kernel, by decide +kernel, by decide +kernel⟩
theorem cw_W_M_plan : callVw R6 42 R5 y_M_plan b_M_plan 5 (some .boolean) wA wA 4 := ⟨good_V (wA_all _ (by decide +kernel)) cd_M_plan, rfl, by decide +kernel, by decide +kernel, by decide +kernel⟩
theorem cw_W_L_fail : callVw R6 43 R4 y_L_fail b_L_fail 6 (some .boolean) wA wA 4 := ⟨good_V (wA_all _ (by decide +kernel)) cd_L_fail, rfl, by decide +kernel, by decide +kernel, by decide +kernel⟩
theorem cw_W_M_fail : callVw R6 46 R5 y_M_fail b_M_fail 5 (some .boolean) wA wA 4 := ⟨good_V (wA_all _ (by decide +kernel)) cd_M_fail, rfl, by decide +kernel, by decide +kernel, by decide +kernel⟩
theorem cw_W_L_calls : callVw R6 47 R4 y_L_calls b_L_calls 4 (some .boolean) wA wA 3 := ⟨good_V (wA_all _ (by decide +kernel)) cd_L_calls, rfl, by decide +kernel, by decide +kernel, by decide +kernel⟩
theorem cw_W_M_calls : callVw R6 50 R5 y_M_calls b_M_calls 4 (some .boolean) wA wA 3 := ⟨good_V (wA_all _ (by decide +kernel)) cd_M_calls, rfl, by decide +kernel, by decide +kernel, by decide +kernel⟩
theorem cw_W_L_source : callVw R6 51 R4 y_L_source b_L_source 2 (some .boolean) wA wA 1 := ⟨good_V (wA_all _ (by decide +kernel)) cd_L_source, rfl, by decide +kernel, by decide +kernel, by decide +kernel⟩
theorem cw_W_M_source : callVw R6 54 R5 y_M_source b_M_source 2 (some .boolean) wA wA 1 := ⟨good_V (wA_all _ (by decide +kernel)) cd_M_source, rfl, by decide +kernel, by decide +kernel, by decide +kernel⟩
theorem cw_W_L_invoke : callVw R6 55 R4 y_L_invoke b_L_invoke 3 (some .int) wA wA 2 := ⟨good_V (wA_all _ (by decide +kernel)) cd_L_invoke, rfl, by decide +kernel, by decide +kernel, by decide +kernel⟩
theorem cw_W_M_invoke : callVw R6 59 R5 y_M_invoke b_M_invoke 3 (some .int) wA wA 2 := ⟨good_V (wA_all _ (by decide +kernel)) cd_M_invoke, rfl, by decide +kernel, by decide +kernel, by decide +kernel⟩
theorem cw_W_L_result : callVw R6 60 R4 y_L_result b_L_result 1 (some .int) wA wA 0 := ⟨good_V (wA_all _ (by decide +kernel)) cd_L_result, rfl, by decide +kernel, by decide +kernel, by decide +kernel⟩
theorem cw_W_M_result : callVw R6 64 R5 y_M_result b_M_result 1 (some .int) wA wA 0 := ⟨good_V (wA_all _ (by decide +kernel)) cd_M_result, rfl, by decide +kernel, by decide +kernel, by decide +kernel⟩
theorem cw_W_L_events : callVw R6 65 R4 y_L_events b_L_events 1 (some .int) wA wA 0 := ⟨good_V (wA_all _ (by decide +kernel)) cd_L_events, rfl, by decide +kernel, by decide +kernel, by decide +kernel⟩
theorem cw_W_M_events : callVw R6 68 R5 y_M_events b_M_events 1 (some .int) wA wA 0 := ⟨good_V (wA_all _ (by decide +kernel)) cd_M_events, rfl, by decide +kernel, by decide +kernel, by decide +kernel⟩
theorem cw_W_L_who : callVw R6 69 R4 y_L_who b_L_who 2 (some .int) wA wA 1 := ⟨good_V (wA_all _ (by decide +kernel)) cd_L_who, rfl, by decide +kernel, by decide +kernel, by decide +kernel⟩
theorem cw_W_M_who : callVw R6 73 R5 y_M_who b_M_who 2 (some .int) wA wA 1 := ⟨good_V (wA_all _ (by decide +kernel)) cd_M_who, rfl, by decide +kernel, by decide +kernel, by decide +kernel⟩
theorem cw_W_L_what : callVw R6 74 R4 y_L_what b_L_what 2 (some .int) wA wA 1 := ⟨good_V (wA_all _ (by decide +kernel)) cd_L_what, rfl, by decide +kernel, by decide +kernel, by decide +kernel⟩
theorem cw_W_M_what : callVw R6 77 R5 y_M_what b_M_what 2 (some .int) wA wA 1 := ⟨good_V (wA_all _ (by decide +kernel)) cd_M_what, rfl, by decide +kernel, by decide +kernel, by decide +kernel⟩
theorem cw_W_L_asked : callVw R6 78 R4 y_L_asked b_L_asked 1 (some .int) wA wA 0 := ⟨good_V (wA_all _ (by decide +kernel)) cd_L_asked, rfl, by decide +kernel, by decide +kernel, by decide +kernel⟩
theorem cw_W_M_asked : callVw R6 81 R5 y_M_asked b_M_asked 1 (some .int) wA wA 0 := ⟨good_V (wA_all _ (by decide +kernel)) cd_M_asked, rfl, by decide +kernel, by decide +kernel, by decide +kernel⟩
theorem cw_W_L_taken : callVw R6 82 R4 y_L_taken b_L_taken 1 (some .int) wA wA 0 := ⟨good_V (wA_all _ (by decide +kernel)) cd_L_taken, rfl, by decide +kernel, by decide +kernel, by decide +kernel⟩
theorem cw_W_M_taken : callVw R6 85 R5 y_M_taken b_M_taken 1 (some .int) wA wA 0 := ⟨good_V (wA_all _ (by decide +kernel)) cd_M_taken, rfl, by decide +kernel, by decide +kernel, by decide +kernel⟩
theorem cw_W_L_chain : callVw R6 86 R4 y_L_chain b_L_chain 3 (some .int) wA wA 2 := ⟨good_V (wA_all _ (by decide +kernel)) cd_L_chain, rfl, by decide +kernel, by decide +kernel, by decide +kernel⟩
theorem cw_W_M_chain : callVw R6 89 R5 y_M_chain b_M_chain 4 (some .int) wA wA 2 := ⟨good_V (wA_all _ (by decide +kernel)) cd_M_chain, rfl, by decide +kernel, by decide +kernel, by decide +kernel⟩
end
section
theorem z_nle {a b : Int32} (h : a < b) : ¬ b ≤ a := by simp only [Int32.lt_iff_toInt_lt, Int32.le_iff_toInt_le] at *; omega
theorem z_le {a b : Int32} (h : ¬ a < b) : b ≤ a := by simp only [Int32.lt_iff_toInt_lt, Int32.le_iff_toInt_le] at *; omega
theorem z_nlt {a b : Int32} (h : a ≤ b) : ¬ b < a := by simp only [Int32.lt_iff_toInt_lt, Int32.le_iff_toInt_le] at *; omega
theorem z_lt {a b : Int32} (h : ¬ a ≤ b) : b < a := by simp only [Int32.lt_iff_toInt_lt, Int32.le_iff_toInt_le] at *; omega
theorem tf_t {b : Bool} (h : b = true) : ¬ b = false := by rw [h]; decide
theorem tf_f {b : Bool} (h : b = false) : ¬ b = true := by rw [h]; decide
set_option maxHeartbeats 4000000 in
set_option maxRecDepth 100000 in
theorem c_L_isMethod (l : Launch) (Γ : Geo) (u : SC) (x : Int32) : CtC l Γ y_L_isMethod b_L_isMethod 1 (some .boolean) 0 [.int x] u (some (.int (bI (kIsMethod x)))) u := by
  refine ct_of (by decide +kernel) (Nat.le_of_ble_eq_true rfl) ?_
  intro p e s m args below meth c C hr hlk
  refine vv_iload_n C d_L_isMethod_0 rfl ?_
  refine vv_if_lt C 14 d_L_isMethod_1 rfl (fun h1 => ?_) (fun h1 => ?_)
  · skip
    refine vv_iconst C (0) d_L_isMethod_14 (by decide) ?_
    have hE : kIsMethod x = false := by
      unfold kIsMethod
      try dsimp only
      first | rw [if_pos h1] | rw [if_neg h1] | rw [if_pos (by exact h1)] | rw [if_neg (by exact h1)] | rw [if_neg (by exact z_nle h1)] | rw [if_pos (by exact z_le h1)] | rw [if_neg (by exact z_nlt h1)] | rw [if_pos (by exact z_lt h1)] | rw [if_neg (by rw [h1]; decide)] | rw [if_pos (by rw [h1])] | rw [if_neg (by exact tf_t h1)] | rw [if_neg (by exact tf_f h1)] | simp only [h1] | skip
      try rfl
    exact vv_zret C hr hlk rfl (by rw [hE]; rfl) rfl d_L_isMethod_15
  · skip
    refine vv_iload_n C d_L_isMethod_4 rfl ?_
    refine vv_bipush C (6) d_L_isMethod_5 (by decide) ?_
    refine vv_icmp_ge C 14 d_L_isMethod_7 rfl (fun h2 => ?_) (fun h2 => ?_)
    · skip
      refine vv_iconst C (0) d_L_isMethod_14 (by decide) ?_
      have hE : kIsMethod x = false := by
        unfold kIsMethod
        try dsimp only
        first | rw [if_pos h1] | rw [if_neg h1] | rw [if_pos (by exact h1)] | rw [if_neg (by exact h1)] | rw [if_neg (by exact z_nle h1)] | rw [if_pos (by exact z_le h1)] | rw [if_neg (by exact z_nlt h1)] | rw [if_pos (by exact z_lt h1)] | rw [if_neg (by rw [h1]; decide)] | rw [if_pos (by rw [h1])] | rw [if_neg (by exact tf_t h1)] | rw [if_neg (by exact tf_f h1)] | simp only [h1] | skip
        first | rw [if_pos h2] | rw [if_neg h2] | rw [if_pos (by exact h2)] | rw [if_neg (by exact h2)] | rw [if_neg (by exact z_nle h2)] | rw [if_pos (by exact z_le h2)] | rw [if_neg (by exact z_nlt h2)] | rw [if_pos (by exact z_lt h2)] | rw [if_neg (by rw [h2]; decide)] | rw [if_pos (by rw [h2])] | rw [if_neg (by exact tf_t h2)] | rw [if_neg (by exact tf_f h2)] | simp only [h2] | skip
        try rfl
      exact vv_zret C hr hlk rfl (by rw [hE]; rfl) rfl d_L_isMethod_15
    · skip
      refine vv_iconst C (1) d_L_isMethod_10 (by decide) ?_
      refine vv_goto C 15 d_L_isMethod_11 rfl ?_
      have hE : kIsMethod x = true := by
        unfold kIsMethod
        try dsimp only
        first | rw [if_pos h1] | rw [if_neg h1] | rw [if_pos (by exact h1)] | rw [if_neg (by exact h1)] | rw [if_neg (by exact z_nle h1)] | rw [if_pos (by exact z_le h1)] | rw [if_neg (by exact z_nlt h1)] | rw [if_pos (by exact z_lt h1)] | rw [if_neg (by rw [h1]; decide)] | rw [if_pos (by rw [h1])] | rw [if_neg (by exact tf_t h1)] | rw [if_neg (by exact tf_f h1)] | simp only [h1] | skip
        first | rw [if_pos h2] | rw [if_neg h2] | rw [if_pos (by exact h2)] | rw [if_neg (by exact h2)] | rw [if_neg (by exact z_nle h2)] | rw [if_pos (by exact z_le h2)] | rw [if_neg (by exact z_nlt h2)] | rw [if_pos (by exact z_lt h2)] | rw [if_neg (by rw [h2]; decide)] | rw [if_pos (by rw [h2])] | rw [if_neg (by exact tf_t h2)] | rw [if_neg (by exact tf_f h2)] | simp only [h2] | skip
        try rfl
      exact vv_zret C hr hlk rfl (by rw [hE]; rfl) rfl d_L_isMethod_15
set_option maxHeartbeats 4000000 in
set_option maxRecDepth 100000 in
theorem c_L_isTarget (l : Launch) (Γ : Geo) (u : SC) (x : Int32) : CtC l Γ y_L_isTarget b_L_isTarget 1 (some .boolean) 0 [.int x] u (some (.int (bI (kIsTarget x)))) u := by
  refine ct_of (by decide +kernel) (Nat.le_of_ble_eq_true rfl) ?_
  intro p e s m args below meth c C hr hlk
  refine vv_iload_n C d_L_isTarget_0 rfl ?_
  refine vv_if_lt C 13 d_L_isTarget_1 rfl (fun h1 => ?_) (fun h1 => ?_)
  · skip
    refine vv_iconst C (0) d_L_isTarget_13 (by decide) ?_
    have hE : kIsTarget x = false := by
      unfold kIsTarget
      try dsimp only
      first | rw [if_pos h1] | rw [if_neg h1] | rw [if_pos (by exact h1)] | rw [if_neg (by exact h1)] | rw [if_neg (by exact z_nle h1)] | rw [if_pos (by exact z_le h1)] | rw [if_neg (by exact z_nlt h1)] | rw [if_pos (by exact z_lt h1)] | rw [if_neg (by rw [h1]; decide)] | rw [if_pos (by rw [h1])] | rw [if_neg (by exact tf_t h1)] | rw [if_neg (by exact tf_f h1)] | simp only [h1] | skip
      try rfl
    exact vv_zret C hr hlk rfl (by rw [hE]; rfl) rfl d_L_isTarget_14
  · skip
    refine vv_iload_n C d_L_isTarget_4 rfl ?_
    refine vv_iconst C (2) d_L_isTarget_5 (by decide) ?_
    refine vv_icmp_ge C 13 d_L_isTarget_6 rfl (fun h2 => ?_) (fun h2 => ?_)
    · skip
      refine vv_iconst C (0) d_L_isTarget_13 (by decide) ?_
      have hE : kIsTarget x = false := by
        unfold kIsTarget
        try dsimp only
        first | rw [if_pos h1] | rw [if_neg h1] | rw [if_pos (by exact h1)] | rw [if_neg (by exact h1)] | rw [if_neg (by exact z_nle h1)] | rw [if_pos (by exact z_le h1)] | rw [if_neg (by exact z_nlt h1)] | rw [if_pos (by exact z_lt h1)] | rw [if_neg (by rw [h1]; decide)] | rw [if_pos (by rw [h1])] | rw [if_neg (by exact tf_t h1)] | rw [if_neg (by exact tf_f h1)] | simp only [h1] | skip
        first | rw [if_pos h2] | rw [if_neg h2] | rw [if_pos (by exact h2)] | rw [if_neg (by exact h2)] | rw [if_neg (by exact z_nle h2)] | rw [if_pos (by exact z_le h2)] | rw [if_neg (by exact z_nlt h2)] | rw [if_pos (by exact z_lt h2)] | rw [if_neg (by rw [h2]; decide)] | rw [if_pos (by rw [h2])] | rw [if_neg (by exact tf_t h2)] | rw [if_neg (by exact tf_f h2)] | simp only [h2] | skip
        try rfl
      exact vv_zret C hr hlk rfl (by rw [hE]; rfl) rfl d_L_isTarget_14
    · skip
      refine vv_iconst C (1) d_L_isTarget_9 (by decide) ?_
      refine vv_goto C 14 d_L_isTarget_10 rfl ?_
      have hE : kIsTarget x = true := by
        unfold kIsTarget
        try dsimp only
        first | rw [if_pos h1] | rw [if_neg h1] | rw [if_pos (by exact h1)] | rw [if_neg (by exact h1)] | rw [if_neg (by exact z_nle h1)] | rw [if_pos (by exact z_le h1)] | rw [if_neg (by exact z_nlt h1)] | rw [if_pos (by exact z_lt h1)] | rw [if_neg (by rw [h1]; decide)] | rw [if_pos (by rw [h1])] | rw [if_neg (by exact tf_t h1)] | rw [if_neg (by exact tf_f h1)] | simp only [h1] | skip
        first | rw [if_pos h2] | rw [if_neg h2] | rw [if_pos (by exact h2)] | rw [if_neg (by exact h2)] | rw [if_neg (by exact z_nle h2)] | rw [if_pos (by exact z_le h2)] | rw [if_neg (by exact z_nlt h2)] | rw [if_pos (by exact z_lt h2)] | rw [if_neg (by rw [h2]; decide)] | rw [if_pos (by rw [h2])] | rw [if_neg (by exact tf_t h2)] | rw [if_neg (by exact tf_f h2)] | simp only [h2] | skip
        try rfl
      exact vv_zret C hr hlk rfl (by rw [hE]; rfl) rfl d_L_isTarget_14
set_option maxHeartbeats 4000000 in
set_option maxRecDepth 100000 in
theorem c_L_isException (l : Launch) (Γ : Geo) (u : SC) (x : Int32) : CtC l Γ y_L_isException b_L_isException 1 (some .boolean) 0 [.int x] u (some (.int (bI (kIsExc x)))) u := by
  refine ct_of (by decide +kernel) (Nat.le_of_ble_eq_true rfl) ?_
  intro p e s m args below meth c C hr hlk
  refine vv_iload_n C d_L_isException_0 rfl ?_
  refine vv_iconst C (1) d_L_isException_1 (by decide) ?_
  refine vv_icmp_lt C 15 d_L_isException_2 rfl (fun h1 => ?_) (fun h1 => ?_)
  · skip
    refine vv_iconst C (0) d_L_isException_15 (by decide) ?_
    have hE : kIsExc x = false := by
      unfold kIsExc
      try dsimp only
      first | rw [if_pos h1] | rw [if_neg h1] | rw [if_pos (by exact h1)] | rw [if_neg (by exact h1)] | rw [if_neg (by exact z_nle h1)] | rw [if_pos (by exact z_le h1)] | rw [if_neg (by exact z_nlt h1)] | rw [if_pos (by exact z_lt h1)] | rw [if_neg (by rw [h1]; decide)] | rw [if_pos (by rw [h1])] | rw [if_neg (by exact tf_t h1)] | rw [if_neg (by exact tf_f h1)] | simp only [h1] | skip
      try rfl
    exact vv_zret C hr hlk rfl (by rw [hE]; rfl) rfl d_L_isException_16
  · skip
    refine vv_iload_n C d_L_isException_5 rfl ?_
    refine vv_bipush C (15) d_L_isException_6 (by decide) ?_
    refine vv_icmp_gt C 15 d_L_isException_8 rfl (fun h2 => ?_) (fun h2 => ?_)
    · skip
      refine vv_iconst C (0) d_L_isException_15 (by decide) ?_
      have hE : kIsExc x = false := by
        unfold kIsExc
        try dsimp only
        first | rw [if_pos h1] | rw [if_neg h1] | rw [if_pos (by exact h1)] | rw [if_neg (by exact h1)] | rw [if_neg (by exact z_nle h1)] | rw [if_pos (by exact z_le h1)] | rw [if_neg (by exact z_nlt h1)] | rw [if_pos (by exact z_lt h1)] | rw [if_neg (by rw [h1]; decide)] | rw [if_pos (by rw [h1])] | rw [if_neg (by exact tf_t h1)] | rw [if_neg (by exact tf_f h1)] | simp only [h1] | skip
        first | rw [if_pos h2] | rw [if_neg h2] | rw [if_pos (by exact h2)] | rw [if_neg (by exact h2)] | rw [if_neg (by exact z_nle h2)] | rw [if_pos (by exact z_le h2)] | rw [if_neg (by exact z_nlt h2)] | rw [if_pos (by exact z_lt h2)] | rw [if_neg (by rw [h2]; decide)] | rw [if_pos (by rw [h2])] | rw [if_neg (by exact tf_t h2)] | rw [if_neg (by exact tf_f h2)] | simp only [h2] | skip
        try rfl
      exact vv_zret C hr hlk rfl (by rw [hE]; rfl) rfl d_L_isException_16
    · skip
      refine vv_iconst C (1) d_L_isException_11 (by decide) ?_
      refine vv_goto C 16 d_L_isException_12 rfl ?_
      have hE : kIsExc x = true := by
        unfold kIsExc
        try dsimp only
        first | rw [if_pos h1] | rw [if_neg h1] | rw [if_pos (by exact h1)] | rw [if_neg (by exact h1)] | rw [if_neg (by exact z_nle h1)] | rw [if_pos (by exact z_le h1)] | rw [if_neg (by exact z_nlt h1)] | rw [if_pos (by exact z_lt h1)] | rw [if_neg (by rw [h1]; decide)] | rw [if_pos (by rw [h1])] | rw [if_neg (by exact tf_t h1)] | rw [if_neg (by exact tf_f h1)] | simp only [h1] | skip
        first | rw [if_pos h2] | rw [if_neg h2] | rw [if_pos (by exact h2)] | rw [if_neg (by exact h2)] | rw [if_neg (by exact z_nle h2)] | rw [if_pos (by exact z_le h2)] | rw [if_neg (by exact z_nlt h2)] | rw [if_pos (by exact z_lt h2)] | rw [if_neg (by rw [h2]; decide)] | rw [if_pos (by rw [h2])] | rw [if_neg (by exact tf_t h2)] | rw [if_neg (by exact tf_f h2)] | simp only [h2] | skip
        try rfl
      exact vv_zret C hr hlk rfl (by rw [hE]; rfl) rfl d_L_isException_16
set_option maxHeartbeats 4000000 in
set_option maxRecDepth 100000 in
theorem c_L_isExceptionOrZero (l : Launch) (Γ : Geo) (u : SC) (x : Int32) : CtC l Γ y_L_isExceptionOrZero b_L_isExceptionOrZero 1 (some .boolean) 1 [.int x] u (some (.int (bI (kIsExcZ x)))) u := by
  refine ct_of (by decide +kernel) (Nat.le_of_ble_eq_true rfl) ?_
  intro p e s m args below meth c C hr hlk
  refine vv_iload_n C d_L_isExceptionOrZero_0 rfl ?_
  refine vv_if_eq C 11 d_L_isExceptionOrZero_1 rfl (fun h1 => ?_) (fun h1 => ?_)
  · skip
    refine vv_iconst C (1) d_L_isExceptionOrZero_11 (by decide) ?_
    refine vv_goto C 16 d_L_isExceptionOrZero_12 rfl ?_
    have hE : kIsExcZ x = true := by
      unfold kIsExcZ
      try dsimp only
      first | rw [if_pos h1] | rw [if_neg h1] | rw [if_pos (by exact h1)] | rw [if_neg (by exact h1)] | rw [if_neg (by exact z_nle h1)] | rw [if_pos (by exact z_le h1)] | rw [if_neg (by exact z_nlt h1)] | rw [if_pos (by exact z_lt h1)] | rw [if_neg (by rw [h1]; decide)] | rw [if_pos (by rw [h1])] | rw [if_neg (by exact tf_t h1)] | rw [if_neg (by exact tf_f h1)] | simp only [h1] | skip
      try rfl
    exact vv_zret C hr hlk rfl (by rw [hE]; rfl) rfl d_L_isExceptionOrZero_16
  · skip
    refine vv_iload_n C d_L_isExceptionOrZero_4 rfl ?_
    refine callCS (rest := []) C (c_L_isException l Γ u x) cw_L_L_isException rfl rfl (Nat.le_of_ble_eq_true rfl) (by decide) (by decide) d_L_isExceptionOrZero_5 ?_
    refine vv_st (st' := [.int (bI (kIsExc x))]) rfl ?_
    refine vv_if_eq C 15 d_L_isExceptionOrZero_8 rfl (fun h2 => ?_) (fun h2 => ?_)
    · skip
      replace h2 := bI_f h2
      refine vv_iconst C (0) d_L_isExceptionOrZero_15 (by decide) ?_
      have hE : kIsExcZ x = false := by
        unfold kIsExcZ
        try dsimp only
        first | rw [if_pos h1] | rw [if_neg h1] | rw [if_pos (by exact h1)] | rw [if_neg (by exact h1)] | rw [if_neg (by exact z_nle h1)] | rw [if_pos (by exact z_le h1)] | rw [if_neg (by exact z_nlt h1)] | rw [if_pos (by exact z_lt h1)] | rw [if_neg (by rw [h1]; decide)] | rw [if_pos (by rw [h1])] | rw [if_neg (by exact tf_t h1)] | rw [if_neg (by exact tf_f h1)] | simp only [h1] | skip
        first | rw [if_pos h2] | rw [if_neg h2] | rw [if_pos (by exact h2)] | rw [if_neg (by exact h2)] | rw [if_neg (by exact z_nle h2)] | rw [if_pos (by exact z_le h2)] | rw [if_neg (by exact z_nlt h2)] | rw [if_pos (by exact z_lt h2)] | rw [if_neg (by rw [h2]; decide)] | rw [if_pos (by rw [h2])] | rw [if_neg (by exact tf_t h2)] | rw [if_neg (by exact tf_f h2)] | simp only [h2] | skip
        try rfl
      exact vv_zret C hr hlk rfl (by rw [hE]; rfl) rfl d_L_isExceptionOrZero_16
    · skip
      replace h2 := bI_t h2
      refine vv_iconst C (1) d_L_isExceptionOrZero_11 (by decide) ?_
      refine vv_goto C 16 d_L_isExceptionOrZero_12 rfl ?_
      have hE : kIsExcZ x = true := by
        unfold kIsExcZ
        try dsimp only
        first | rw [if_pos h1] | rw [if_neg h1] | rw [if_pos (by exact h1)] | rw [if_neg (by exact h1)] | rw [if_neg (by exact z_nle h1)] | rw [if_pos (by exact z_le h1)] | rw [if_neg (by exact z_nlt h1)] | rw [if_pos (by exact z_lt h1)] | rw [if_neg (by rw [h1]; decide)] | rw [if_pos (by rw [h1])] | rw [if_neg (by exact tf_t h1)] | rw [if_neg (by exact tf_f h1)] | simp only [h1] | skip
        first | rw [if_pos h2] | rw [if_neg h2] | rw [if_pos (by exact h2)] | rw [if_neg (by exact h2)] | rw [if_neg (by exact z_nle h2)] | rw [if_pos (by exact z_le h2)] | rw [if_neg (by exact z_nlt h2)] | rw [if_pos (by exact z_lt h2)] | rw [if_neg (by rw [h2]; decide)] | rw [if_pos (by rw [h2])] | rw [if_neg (by exact tf_t h2)] | rw [if_neg (by exact tf_f h2)] | simp only [h2] | skip
        try rfl
      exact vv_zret C hr hlk rfl (by rw [hE]; rfl) rfl d_L_isExceptionOrZero_16
set_option maxHeartbeats 4000000 in
set_option maxRecDepth 100000 in
theorem c_A_giveRange (l : Launch) (Γ : Geo) (u : SC) (k : Nat) (hk : k < 6) (lo : Int32) (hi : Int32) : CtC l Γ y_A_giveRange b_A_giveRange 3 none 0 [.ref (Γ.2.1 (k + 9)), .int lo, .int hi] u none (kGive u k lo hi) := by
  refine ct_of (by decide +kernel) (Nat.le_of_ble_eq_true rfl) ?_
  intro p e s m args below meth c C hr hlk
  refine vv_aload_n C d_A_giveRange_0 rfl ?_
  refine vv_iconst C (1) d_A_giveRange_1 (by decide) ?_
  refine p_A_A_hasRange C hk rfl rfl d_A_giveRange_2 ?_
  refine vv_aload_n C d_A_giveRange_5 rfl ?_
  refine vv_iload_n C d_A_giveRange_6 rfl ?_
  refine p_A_A_low C hk d_A_giveRange_7 ?_
  refine vv_aload_n C d_A_giveRange_10 rfl ?_
  refine vv_iload_n C d_A_giveRange_11 rfl ?_
  refine p_A_A_high C hk d_A_giveRange_12 ?_
  have hE : kGive u k lo hi = (wr (wr (wr u 19 k 1) 20 k lo) 21 k hi) := by
    unfold kGive
    try dsimp only
    try rfl
  exact vv_vret C hr hlk rfl (by rw [hE]) d_A_giveRange_15
set_option maxHeartbeats 4000000 in
set_option maxRecDepth 100000 in
theorem c_A_isInRange (l : Launch) (Γ : Geo) (u : SC) (k : Nat) (hk : k < 6) (x : Int32) : CtC l Γ y_A_isInRange b_A_isInRange 2 (some .boolean) 0 [.ref (Γ.2.1 (k + 9)), .int x] u (some (.int (bI (kInRange u k x)))) u := by
  refine ct_of (by decide +kernel) (Nat.le_of_ble_eq_true rfl) ?_
  intro p e s m args below meth c C hr hlk
  refine vv_aload_n C d_A_isInRange_0 rfl ?_
  refine g_A_A_low C hk d_A_isInRange_1 ?_
  refine vv_iload_n C d_A_isInRange_4 rfl ?_
  refine vv_icmp_gt C 20 d_A_isInRange_5 rfl (fun h1 => ?_) (fun h1 => ?_)
  · skip
    refine vv_iconst C (0) d_A_isInRange_20 (by decide) ?_
    have hE : kInRange u k x = false := by
      unfold kInRange
      try dsimp only
      first | rw [if_pos h1] | rw [if_neg h1] | rw [if_pos (by exact h1)] | rw [if_neg (by exact h1)] | rw [if_neg (by exact z_nle h1)] | rw [if_pos (by exact z_le h1)] | rw [if_neg (by exact z_nlt h1)] | rw [if_pos (by exact z_lt h1)] | rw [if_neg (by rw [h1]; decide)] | rw [if_pos (by rw [h1])] | rw [if_neg (by exact tf_t h1)] | rw [if_neg (by exact tf_f h1)] | simp only [h1] | skip
      try rfl
    exact vv_zret C hr hlk rfl (by rw [hE]; rfl) rfl d_A_isInRange_21
  · skip
    refine vv_iload_n C d_A_isInRange_8 rfl ?_
    refine vv_aload_n C d_A_isInRange_9 rfl ?_
    refine g_A_A_high C hk d_A_isInRange_10 ?_
    refine vv_icmp_gt C 20 d_A_isInRange_13 rfl (fun h2 => ?_) (fun h2 => ?_)
    · skip
      refine vv_iconst C (0) d_A_isInRange_20 (by decide) ?_
      have hE : kInRange u k x = false := by
        unfold kInRange
        try dsimp only
        first | rw [if_pos h1] | rw [if_neg h1] | rw [if_pos (by exact h1)] | rw [if_neg (by exact h1)] | rw [if_neg (by exact z_nle h1)] | rw [if_pos (by exact z_le h1)] | rw [if_neg (by exact z_nlt h1)] | rw [if_pos (by exact z_lt h1)] | rw [if_neg (by rw [h1]; decide)] | rw [if_pos (by rw [h1])] | rw [if_neg (by exact tf_t h1)] | rw [if_neg (by exact tf_f h1)] | simp only [h1] | skip
        first | rw [if_pos h2] | rw [if_neg h2] | rw [if_pos (by exact h2)] | rw [if_neg (by exact h2)] | rw [if_neg (by exact z_nle h2)] | rw [if_pos (by exact z_le h2)] | rw [if_neg (by exact z_nlt h2)] | rw [if_pos (by exact z_lt h2)] | rw [if_neg (by rw [h2]; decide)] | rw [if_pos (by rw [h2])] | rw [if_neg (by exact tf_t h2)] | rw [if_neg (by exact tf_f h2)] | simp only [h2] | skip
        try rfl
      exact vv_zret C hr hlk rfl (by rw [hE]; rfl) rfl d_A_isInRange_21
    · skip
      refine vv_iconst C (1) d_A_isInRange_16 (by decide) ?_
      refine vv_goto C 21 d_A_isInRange_17 rfl ?_
      have hE : kInRange u k x = true := by
        unfold kInRange
        try dsimp only
        first | rw [if_pos h1] | rw [if_neg h1] | rw [if_pos (by exact h1)] | rw [if_neg (by exact h1)] | rw [if_neg (by exact z_nle h1)] | rw [if_pos (by exact z_le h1)] | rw [if_neg (by exact z_nlt h1)] | rw [if_pos (by exact z_lt h1)] | rw [if_neg (by rw [h1]; decide)] | rw [if_pos (by rw [h1])] | rw [if_neg (by exact tf_t h1)] | rw [if_neg (by exact tf_f h1)] | simp only [h1] | skip
        first | rw [if_pos h2] | rw [if_neg h2] | rw [if_pos (by exact h2)] | rw [if_neg (by exact h2)] | rw [if_neg (by exact z_nle h2)] | rw [if_pos (by exact z_le h2)] | rw [if_neg (by exact z_nlt h2)] | rw [if_pos (by exact z_lt h2)] | rw [if_neg (by rw [h2]; decide)] | rw [if_pos (by rw [h2])] | rw [if_neg (by exact tf_t h2)] | rw [if_neg (by exact tf_f h2)] | simp only [h2] | skip
        try rfl
      exact vv_zret C hr hlk rfl (by rw [hE]; rfl) rfl d_A_isInRange_21
set_option maxHeartbeats 4000000 in
set_option maxRecDepth 100000 in
theorem c_A_advises (l : Launch) (Γ : Geo) (u : SC) (k : Nat) (hk : k < 6) (x : Int32) : CtC l Γ y_A_advises b_A_advises 2 (some .boolean) 0 [.ref (Γ.2.1 (k + 9)), .int x] u (some (.int (bI (kAdvises u k x)))) u := by
  refine ct_of (by decide +kernel) (Nat.le_of_ble_eq_true rfl) ?_
  intro p e s m args below meth c C hr hlk
  refine vv_aload_n C d_A_advises_0 rfl ?_
  refine g_A_A_methods C hk d_A_advises_1 ?_
  refine vv_iconst C (1) d_A_advises_4 (by decide) ?_
  refine vv_iload_n C d_A_advises_5 rfl ?_
  refine vv_ishl C d_A_advises_6 ?_
  refine vv_iand C d_A_advises_7 ?_
  refine vv_if_eq C 15 d_A_advises_8 rfl (fun h1 => ?_) (fun h1 => ?_)
  · skip
    refine vv_iconst C (0) d_A_advises_15 (by decide) ?_
    have hE : kAdvises u k x = false := by
      unfold kAdvises
      try dsimp only
      first | rw [if_pos h1] | rw [if_neg h1] | rw [if_pos (by exact h1)] | rw [if_neg (by exact h1)] | rw [if_neg (by exact z_nle h1)] | rw [if_pos (by exact z_le h1)] | rw [if_neg (by exact z_nlt h1)] | rw [if_pos (by exact z_lt h1)] | rw [if_neg (by rw [h1]; decide)] | rw [if_pos (by rw [h1])] | rw [if_neg (by exact tf_t h1)] | rw [if_neg (by exact tf_f h1)] | simp only [h1] | skip
      try rfl
    exact vv_zret C hr hlk rfl (by rw [hE]; rfl) rfl d_A_advises_16
  · skip
    refine vv_iconst C (1) d_A_advises_11 (by decide) ?_
    refine vv_goto C 16 d_A_advises_12 rfl ?_
    have hE : kAdvises u k x = true := by
      unfold kAdvises
      try dsimp only
      first | rw [if_pos h1] | rw [if_neg h1] | rw [if_pos (by exact h1)] | rw [if_neg (by exact h1)] | rw [if_neg (by exact z_nle h1)] | rw [if_pos (by exact z_le h1)] | rw [if_neg (by exact z_nlt h1)] | rw [if_pos (by exact z_lt h1)] | rw [if_neg (by rw [h1]; decide)] | rw [if_pos (by rw [h1])] | rw [if_neg (by exact tf_t h1)] | rw [if_neg (by exact tf_f h1)] | simp only [h1] | skip
      try rfl
    exact vv_zret C hr hlk rfl (by rw [hE]; rfl) rfl d_A_advises_16
set_option maxHeartbeats 4000000 in
set_option maxRecDepth 100000 in
theorem c_A_standsBefore (l : Launch) (Γ : Geo) (u : SC) (k : Nat) (hk : k < 6) (j : Nat) (hj : j < 6) : CtC l Γ y_A_standsBefore b_A_standsBefore 2 (some .boolean) 0 [.ref (Γ.2.1 (k + 9)), .ref (Γ.2.1 (j + 9))] u (some (.int (bI (kBefore u k j)))) u := by
  refine ct_of (by decide +kernel) (Nat.le_of_ble_eq_true rfl) ?_
  intro p e s m args below meth c C hr hlk
  refine vv_aload_n C d_A_standsBefore_0 rfl ?_
  refine g_A_A_order C hk d_A_standsBefore_1 ?_
  refine vv_aload_n C d_A_standsBefore_4 rfl ?_
  refine g_A_A_order C hj d_A_standsBefore_5 ?_
  refine vv_icmp_lt C 33 d_A_standsBefore_8 rfl (fun h1 => ?_) (fun h1 => ?_)
  · skip
    refine vv_iconst C (1) d_A_standsBefore_33 (by decide) ?_
    refine vv_goto C 38 d_A_standsBefore_34 rfl ?_
    have hE : kBefore u k j = true := by
      unfold kBefore
      try dsimp only
      first | rw [if_pos h1] | rw [if_neg h1] | rw [if_pos (by exact h1)] | rw [if_neg (by exact h1)] | rw [if_neg (by exact z_nle h1)] | rw [if_pos (by exact z_le h1)] | rw [if_neg (by exact z_nlt h1)] | rw [if_pos (by exact z_lt h1)] | rw [if_neg (by rw [h1]; decide)] | rw [if_pos (by rw [h1])] | rw [if_neg (by exact tf_t h1)] | rw [if_neg (by exact tf_f h1)] | simp only [h1] | skip
      try rfl
    exact vv_zret C hr hlk rfl (by rw [hE]; rfl) rfl d_A_standsBefore_38
  · skip
    refine vv_aload_n C d_A_standsBefore_11 rfl ?_
    refine g_A_A_order C hk d_A_standsBefore_12 ?_
    refine vv_aload_n C d_A_standsBefore_15 rfl ?_
    refine g_A_A_order C hj d_A_standsBefore_16 ?_
    refine vv_icmp_ne C 37 d_A_standsBefore_19 rfl (fun h2 => ?_) (fun h2 => ?_)
    · skip
      refine vv_iconst C (0) d_A_standsBefore_37 (by decide) ?_
      have hE : kBefore u k j = false := by
        unfold kBefore
        try dsimp only
        first | rw [if_pos h1] | rw [if_neg h1] | rw [if_pos (by exact h1)] | rw [if_neg (by exact h1)] | rw [if_neg (by exact z_nle h1)] | rw [if_pos (by exact z_le h1)] | rw [if_neg (by exact z_nlt h1)] | rw [if_pos (by exact z_lt h1)] | rw [if_neg (by rw [h1]; decide)] | rw [if_pos (by rw [h1])] | rw [if_neg (by exact tf_t h1)] | rw [if_neg (by exact tf_f h1)] | simp only [h1] | skip
        first | rw [if_pos h2] | rw [if_neg h2] | rw [if_pos (by exact h2)] | rw [if_neg (by exact h2)] | rw [if_neg (by exact z_nle h2)] | rw [if_pos (by exact z_le h2)] | rw [if_neg (by exact z_nlt h2)] | rw [if_pos (by exact z_lt h2)] | rw [if_neg (by rw [h2]; decide)] | rw [if_pos (by rw [h2])] | rw [if_neg (by exact tf_t h2)] | rw [if_neg (by exact tf_f h2)] | simp only [h2] | skip
        try rfl
      exact vv_zret C hr hlk rfl (by rw [hE]; rfl) rfl d_A_standsBefore_38
    · skip
      refine vv_aload_n C d_A_standsBefore_22 rfl ?_
      refine g_A_A_number C hk d_A_standsBefore_23 ?_
      refine vv_aload_n C d_A_standsBefore_26 rfl ?_
      refine g_A_A_number C hj d_A_standsBefore_27 ?_
      refine vv_icmp_ge C 37 d_A_standsBefore_30 rfl (fun h3 => ?_) (fun h3 => ?_)
      · skip
        refine vv_iconst C (0) d_A_standsBefore_37 (by decide) ?_
        have hE : kBefore u k j = false := by
          unfold kBefore
          try dsimp only
          first | rw [if_pos h1] | rw [if_neg h1] | rw [if_pos (by exact h1)] | rw [if_neg (by exact h1)] | rw [if_neg (by exact z_nle h1)] | rw [if_pos (by exact z_le h1)] | rw [if_neg (by exact z_nlt h1)] | rw [if_pos (by exact z_lt h1)] | rw [if_neg (by rw [h1]; decide)] | rw [if_pos (by rw [h1])] | rw [if_neg (by exact tf_t h1)] | rw [if_neg (by exact tf_f h1)] | simp only [h1] | skip
          first | rw [if_pos h2] | rw [if_neg h2] | rw [if_pos (by exact h2)] | rw [if_neg (by exact h2)] | rw [if_neg (by exact z_nle h2)] | rw [if_pos (by exact z_le h2)] | rw [if_neg (by exact z_nlt h2)] | rw [if_pos (by exact z_lt h2)] | rw [if_neg (by rw [h2]; decide)] | rw [if_pos (by rw [h2])] | rw [if_neg (by exact tf_t h2)] | rw [if_neg (by exact tf_f h2)] | simp only [h2] | skip
          first | rw [if_pos h3] | rw [if_neg h3] | rw [if_pos (by exact h3)] | rw [if_neg (by exact h3)] | rw [if_neg (by exact z_nle h3)] | rw [if_pos (by exact z_le h3)] | rw [if_neg (by exact z_nlt h3)] | rw [if_pos (by exact z_lt h3)] | rw [if_neg (by rw [h3]; decide)] | rw [if_pos (by rw [h3])] | rw [if_neg (by exact tf_t h3)] | rw [if_neg (by exact tf_f h3)] | simp only [h3] | skip
          try rfl
        exact vv_zret C hr hlk rfl (by rw [hE]; rfl) rfl d_A_standsBefore_38
      · skip
        refine vv_iconst C (1) d_A_standsBefore_33 (by decide) ?_
        refine vv_goto C 38 d_A_standsBefore_34 rfl ?_
        have hE : kBefore u k j = true := by
          unfold kBefore
          try dsimp only
          first | rw [if_pos h1] | rw [if_neg h1] | rw [if_pos (by exact h1)] | rw [if_neg (by exact h1)] | rw [if_neg (by exact z_nle h1)] | rw [if_pos (by exact z_le h1)] | rw [if_neg (by exact z_nlt h1)] | rw [if_pos (by exact z_lt h1)] | rw [if_neg (by rw [h1]; decide)] | rw [if_pos (by rw [h1])] | rw [if_neg (by exact tf_t h1)] | rw [if_neg (by exact tf_f h1)] | simp only [h1] | skip
          first | rw [if_pos h2] | rw [if_neg h2] | rw [if_pos (by exact h2)] | rw [if_neg (by exact h2)] | rw [if_neg (by exact z_nle h2)] | rw [if_pos (by exact z_le h2)] | rw [if_neg (by exact z_nlt h2)] | rw [if_pos (by exact z_lt h2)] | rw [if_neg (by rw [h2]; decide)] | rw [if_pos (by rw [h2])] | rw [if_neg (by exact tf_t h2)] | rw [if_neg (by exact tf_f h2)] | simp only [h2] | skip
          first | rw [if_pos h3] | rw [if_neg h3] | rw [if_pos (by exact h3)] | rw [if_neg (by exact h3)] | rw [if_neg (by exact z_nle h3)] | rw [if_pos (by exact z_le h3)] | rw [if_neg (by exact z_nlt h3)] | rw [if_pos (by exact z_lt h3)] | rw [if_neg (by rw [h3]; decide)] | rw [if_pos (by rw [h3])] | rw [if_neg (by exact tf_t h3)] | rw [if_neg (by exact tf_f h3)] | simp only [h3] | skip
          try rfl
        exact vv_zret C hr hlk rfl (by rw [hE]; rfl) rfl d_A_standsBefore_38
set_option maxHeartbeats 4000000 in
set_option maxRecDepth 100000 in
theorem c_K_failsOn (l : Launch) (Γ : Geo) (u : SC) (k : Nat) (hk : k < 12) (x : Int32) : CtC l Γ y_K_failsOn b_K_failsOn 2 (some .boolean) 0 [.ref (Γ.2.1 (k + 15)), .int x] u (some (.int (bI (kFailsOn u k x)))) u := by
  refine ct_of (by decide +kernel) (Nat.le_of_ble_eq_true rfl) ?_
  intro p e s m args below meth c C hr hlk
  refine vv_aload_n C d_K_failsOn_0 rfl ?_
  refine g_K_K_exception C hk d_K_failsOn_1 ?_
  refine vv_if_eq C 19 d_K_failsOn_4 rfl (fun h1 => ?_) (fun h1 => ?_)
  · skip
    refine vv_iconst C (0) d_K_failsOn_19 (by decide) ?_
    have hE : kFailsOn u k x = false := by
      unfold kFailsOn
      try dsimp only
      first | rw [if_pos h1] | rw [if_neg h1] | rw [if_pos (by exact h1)] | rw [if_neg (by exact h1)] | rw [if_neg (by exact z_nle h1)] | rw [if_pos (by exact z_le h1)] | rw [if_neg (by exact z_nlt h1)] | rw [if_pos (by exact z_lt h1)] | rw [if_neg (by rw [h1]; decide)] | rw [if_pos (by rw [h1])] | rw [if_neg (by exact tf_t h1)] | rw [if_neg (by exact tf_f h1)] | simp only [h1] | skip
      try rfl
    exact vv_zret C hr hlk rfl (by rw [hE]; rfl) rfl d_K_failsOn_20
  · skip
    refine vv_iload_n C d_K_failsOn_7 rfl ?_
    refine vv_aload_n C d_K_failsOn_8 rfl ?_
    refine g_K_K_failsAt C hk d_K_failsOn_9 ?_
    refine vv_icmp_ne C 19 d_K_failsOn_12 rfl (fun h2 => ?_) (fun h2 => ?_)
    · skip
      refine vv_iconst C (0) d_K_failsOn_19 (by decide) ?_
      have hE : kFailsOn u k x = false := by
        unfold kFailsOn
        try dsimp only
        first | rw [if_pos h1] | rw [if_neg h1] | rw [if_pos (by exact h1)] | rw [if_neg (by exact h1)] | rw [if_neg (by exact z_nle h1)] | rw [if_pos (by exact z_le h1)] | rw [if_neg (by exact z_nlt h1)] | rw [if_pos (by exact z_lt h1)] | rw [if_neg (by rw [h1]; decide)] | rw [if_pos (by rw [h1])] | rw [if_neg (by exact tf_t h1)] | rw [if_neg (by exact tf_f h1)] | simp only [h1] | skip
        first | rw [if_pos h2] | rw [if_neg h2] | rw [if_pos (by exact h2)] | rw [if_neg (by exact h2)] | rw [if_neg (by exact z_nle h2)] | rw [if_pos (by exact z_le h2)] | rw [if_neg (by exact z_nlt h2)] | rw [if_pos (by exact z_lt h2)] | rw [if_neg (by rw [h2]; decide)] | rw [if_pos (by rw [h2])] | rw [if_neg (by exact tf_t h2)] | rw [if_neg (by exact tf_f h2)] | simp only [h2] | skip
        try rfl
      exact vv_zret C hr hlk rfl (by rw [hE]; rfl) rfl d_K_failsOn_20
    · skip
      refine vv_iconst C (1) d_K_failsOn_15 (by decide) ?_
      refine vv_goto C 20 d_K_failsOn_16 rfl ?_
      have hE : kFailsOn u k x = true := by
        unfold kFailsOn
        try dsimp only
        first | rw [if_pos h1] | rw [if_neg h1] | rw [if_pos (by exact h1)] | rw [if_neg (by exact h1)] | rw [if_neg (by exact z_nle h1)] | rw [if_pos (by exact z_le h1)] | rw [if_neg (by exact z_nlt h1)] | rw [if_pos (by exact z_lt h1)] | rw [if_neg (by rw [h1]; decide)] | rw [if_pos (by rw [h1])] | rw [if_neg (by exact tf_t h1)] | rw [if_neg (by exact tf_f h1)] | simp only [h1] | skip
        first | rw [if_pos h2] | rw [if_neg h2] | rw [if_pos (by exact h2)] | rw [if_neg (by exact h2)] | rw [if_neg (by exact z_nle h2)] | rw [if_pos (by exact z_le h2)] | rw [if_neg (by exact z_nlt h2)] | rw [if_pos (by exact z_lt h2)] | rw [if_neg (by rw [h2]; decide)] | rw [if_pos (by rw [h2])] | rw [if_neg (by exact tf_t h2)] | rw [if_neg (by exact tf_f h2)] | simp only [h2] | skip
        try rfl
      exact vv_zret C hr hlk rfl (by rw [hE]; rfl) rfl d_K_failsOn_20
set_option maxHeartbeats 4000000 in
set_option maxRecDepth 100000 in
theorem c_K_reckon (l : Launch) (Γ : Geo) (u : SC) (k : Nat) (hk : k < 12) (x : Int32) : CtC l Γ y_K_reckon b_K_reckon 2 (some .int) 0 [.ref (Γ.2.1 (k + 15)), .int x] u (some (.int (kReckon u k x))) u := by
  refine ct_of (by decide +kernel) (Nat.le_of_ble_eq_true rfl) ?_
  intro p e s m args below meth c C hr hlk
  refine vv_aload_n C d_K_reckon_0 rfl ?_
  refine g_K_K_factor C hk d_K_reckon_1 ?_
  refine vv_iload_n C d_K_reckon_4 rfl ?_
  refine vv_imul C d_K_reckon_5 ?_
  refine vv_aload_n C d_K_reckon_6 rfl ?_
  refine g_K_K_addend C hk d_K_reckon_7 ?_
  refine vv_iadd C d_K_reckon_10 ?_
  have hE : kReckon u k x = ((u.1 22 k) * x) + (u.1 23 k) := by
    unfold kReckon
    try dsimp only
    try rfl
  exact vv_iret C hr hlk (by rw [hE] <;> rfl) rfl d_K_reckon_11
set_option maxHeartbeats 4000000 in
set_option maxRecDepth 100000 in
theorem c_T_clear (l : Launch) (Γ : Geo) (u : SC) : CtC l Γ y_T_clear b_T_clear 1 none 0 [.ref (Γ.2.1 4)] u none (wr u 8 0 0) := by
  refine ct_of (by decide +kernel) (Nat.le_of_ble_eq_true rfl) ?_
  intro p e s m args below meth c C hr hlk
  refine vv_aload_n C d_T_clear_0 rfl ?_
  refine vv_iconst C (0) d_T_clear_1 (by decide) ?_
  refine p_T_T_length C d_T_clear_2 ?_
  have hE : wr u 8 0 0 = (wr u 8 0 0) := by
    try rfl
  exact vv_vret C hr hlk rfl (by rw [hE]) d_T_clear_5
set_option maxHeartbeats 4000000 in
set_option maxRecDepth 100000 in
theorem c_T_has (l : Launch) (Γ : Geo) (u : SC) (i : Int32) : CtC l Γ y_T_has b_T_has 2 (some .boolean) 0 [.ref (Γ.2.1 4), .int i] u (some (.int (bI (kHas u i)))) u := by
  refine ct_of (by decide +kernel) (Nat.le_of_ble_eq_true rfl) ?_
  intro p e s m args below meth c C hr hlk
  refine vv_iload_n C d_T_has_0 rfl ?_
  refine vv_if_lt C 16 d_T_has_1 rfl (fun h1 => ?_) (fun h1 => ?_)
  · skip
    refine vv_iconst C (0) d_T_has_16 (by decide) ?_
    have hE : kHas u i = false := by
      unfold kHas
      try dsimp only
      first | rw [if_pos h1] | rw [if_neg h1] | rw [if_pos (by exact h1)] | rw [if_neg (by exact h1)] | rw [if_neg (by exact z_nle h1)] | rw [if_pos (by exact z_le h1)] | rw [if_neg (by exact z_nlt h1)] | rw [if_pos (by exact z_lt h1)] | rw [if_neg (by rw [h1]; decide)] | rw [if_pos (by rw [h1])] | rw [if_neg (by exact tf_t h1)] | rw [if_neg (by exact tf_f h1)] | simp only [h1] | skip
      try rfl
    exact vv_zret C hr hlk rfl (by rw [hE]; rfl) rfl d_T_has_17
  · skip
    refine vv_iload_n C d_T_has_4 rfl ?_
    refine vv_aload_n C d_T_has_5 rfl ?_
    refine g_T_T_length C d_T_has_6 ?_
    refine vv_icmp_ge C 16 d_T_has_9 rfl (fun h2 => ?_) (fun h2 => ?_)
    · skip
      refine vv_iconst C (0) d_T_has_16 (by decide) ?_
      have hE : kHas u i = false := by
        unfold kHas
        try dsimp only
        first | rw [if_pos h1] | rw [if_neg h1] | rw [if_pos (by exact h1)] | rw [if_neg (by exact h1)] | rw [if_neg (by exact z_nle h1)] | rw [if_pos (by exact z_le h1)] | rw [if_neg (by exact z_nlt h1)] | rw [if_pos (by exact z_lt h1)] | rw [if_neg (by rw [h1]; decide)] | rw [if_pos (by rw [h1])] | rw [if_neg (by exact tf_t h1)] | rw [if_neg (by exact tf_f h1)] | simp only [h1] | skip
        first | rw [if_pos h2] | rw [if_neg h2] | rw [if_pos (by exact h2)] | rw [if_neg (by exact h2)] | rw [if_neg (by exact z_nle h2)] | rw [if_pos (by exact z_le h2)] | rw [if_neg (by exact z_nlt h2)] | rw [if_pos (by exact z_lt h2)] | rw [if_neg (by rw [h2]; decide)] | rw [if_pos (by rw [h2])] | rw [if_neg (by exact tf_t h2)] | rw [if_neg (by exact tf_f h2)] | simp only [h2] | skip
        try rfl
      exact vv_zret C hr hlk rfl (by rw [hE]; rfl) rfl d_T_has_17
    · skip
      refine vv_iconst C (1) d_T_has_12 (by decide) ?_
      refine vv_goto C 17 d_T_has_13 rfl ?_
      have hE : kHas u i = true := by
        unfold kHas
        try dsimp only
        first | rw [if_pos h1] | rw [if_neg h1] | rw [if_pos (by exact h1)] | rw [if_neg (by exact h1)] | rw [if_neg (by exact z_nle h1)] | rw [if_pos (by exact z_le h1)] | rw [if_neg (by exact z_nlt h1)] | rw [if_pos (by exact z_lt h1)] | rw [if_neg (by rw [h1]; decide)] | rw [if_pos (by rw [h1])] | rw [if_neg (by exact tf_t h1)] | rw [if_neg (by exact tf_f h1)] | simp only [h1] | skip
        first | rw [if_pos h2] | rw [if_neg h2] | rw [if_pos (by exact h2)] | rw [if_neg (by exact h2)] | rw [if_neg (by exact z_nle h2)] | rw [if_pos (by exact z_le h2)] | rw [if_neg (by exact z_nlt h2)] | rw [if_pos (by exact z_lt h2)] | rw [if_neg (by rw [h2]; decide)] | rw [if_pos (by rw [h2])] | rw [if_neg (by exact tf_t h2)] | rw [if_neg (by exact tf_f h2)] | simp only [h2] | skip
        try rfl
      exact vv_zret C hr hlk rfl (by rw [hE]; rfl) rfl d_T_has_17
theorem IC_len {u : SC} (h : IC u) (hl : u.1 8 0 < (100 : Int32)) : vp_in (u.1 8 0) 100 := by
  obtain ⟨-, ⟨n, hn, e⟩, -⟩ := h
  rw [e, show (100 : Int32) = nI 100 from rfl, nlt (by omega) (by omega)] at hl
  rw [e]
  exact vp_in_nI (by omega) (by omega)
set_option maxHeartbeats 4000000 in
set_option maxRecDepth 100000 in
theorem c_T_note (l : Launch) (Γ : Geo) (u : SC) (hI : IC u) (a b : Int32) : CtC l Γ y_T_note b_T_note 3 (some .boolean) 0 [.ref (Γ.2.1 4), .int a, .int b] u (some (.int (bI (kNote u a b).1))) (kNote u a b).2 := by
  refine ct_of (by decide +kernel) (Nat.le_of_ble_eq_true rfl) ?_
  intro p e s m args below meth c C hr hlk
  refine vv_aload_n C d_T_note_0 rfl ?_
  refine g_T_T_length C d_T_note_1 ?_
  refine vv_bipush C (100) d_T_note_4 (by decide) ?_
  refine vv_icmp_lt C 11 d_T_note_6 rfl (fun h1 => ?_) (fun h1 => ?_)
  · skip
    try have hb0 : vp_in (u.1 8 0) 100 := IC_len hI h1
    refine vv_aload_n C d_T_note_11 rfl ?_
    refine g_T_T_noters C d_T_note_12 ?_
    refine vv_aload_n C d_T_note_15 rfl ?_
    refine g_T_T_length C d_T_note_16 ?_
    refine vv_iload_n C d_T_note_19 rfl ?_
    refine sr_2_5 C hb0 d_T_note_20 ?_
    refine vv_aload_n C d_T_note_21 rfl ?_
    refine g_T_T_words C d_T_note_22 ?_
    refine vv_aload_n C d_T_note_25 rfl ?_
    refine g_T_T_length C d_T_note_26 ?_
    refine vv_iload_n C d_T_note_29 rfl ?_
    refine sr_2_6 C hb0 d_T_note_30 ?_
    refine vv_aload_n C d_T_note_31 rfl ?_
    refine vv_dup C d_T_note_32 rfl ?_
    refine g_T_T_length C d_T_note_33 ?_
    refine vv_iconst C (1) d_T_note_36 (by decide) ?_
    refine vv_iadd C d_T_note_37 ?_
    refine p_T_T_length C d_T_note_38 ?_
    refine vv_iconst C (1) d_T_note_41 (by decide) ?_
    have hE : kNote u a b = (true, (wr (wr (wr u 11 (ix (u.1 8 0)) a) 12 (ix ((wr u 11 (ix (u.1 8 0)) a).1 8 0)) b) 8 0 (((wr (wr u 11 (ix (u.1 8 0)) a) 12 (ix ((wr u 11 (ix (u.1 8 0)) a).1 8 0)) b).1 8 0) + 1))) := by
      unfold kNote
      try dsimp only
      first | rw [if_pos h1] | rw [if_neg h1] | rw [if_pos (by exact h1)] | rw [if_neg (by exact h1)] | rw [if_neg (by exact z_nle h1)] | rw [if_pos (by exact z_le h1)] | rw [if_neg (by exact z_nlt h1)] | rw [if_pos (by exact z_lt h1)] | rw [if_neg (by rw [h1]; decide)] | rw [if_pos (by rw [h1])] | rw [if_neg (by exact tf_t h1)] | rw [if_neg (by exact tf_f h1)] | simp only [h1] | skip
      try rfl
    exact vv_zret C hr hlk rfl (by rw [hE]; rfl) (by rw [hE] <;> rfl) d_T_note_42
  · skip
    try have hb0 : vp_in (u.1 8 0) 100 := IC_len hI h1
    refine vv_iconst C (0) d_T_note_9 (by decide) ?_
    have hE : kNote u a b = (false, u) := by
      unfold kNote
      try dsimp only
      first | rw [if_pos h1] | rw [if_neg h1] | rw [if_pos (by exact h1)] | rw [if_neg (by exact h1)] | rw [if_neg (by exact z_nle h1)] | rw [if_pos (by exact z_le h1)] | rw [if_neg (by exact z_nlt h1)] | rw [if_pos (by exact z_lt h1)] | rw [if_neg (by rw [h1]; decide)] | rw [if_pos (by rw [h1])] | rw [if_neg (by exact tf_t h1)] | rw [if_neg (by exact tf_f h1)] | simp only [h1] | skip
      try rfl
    exact vv_zret C hr hlk rfl (by rw [hE]; rfl) (by rw [hE] <;> rfl) d_T_note_10
set_option maxHeartbeats 4000000 in
set_option maxRecDepth 100000 in
theorem c_R_isFull (l : Launch) (Γ : Geo) (u : SC) : CtC l Γ y_R_isFull b_R_isFull 1 (some .boolean) 0 [.ref (Γ.2.1 1)] u (some (.int (bI (kIsFull u)))) u := by
  refine ct_of (by decide +kernel) (Nat.le_of_ble_eq_true rfl) ?_
  intro p e s m args below meth c C hr hlk
  refine vv_aload_n C d_R_isFull_0 rfl ?_
  refine g_R_R_there C d_R_isFull_1 ?_
  refine vv_bipush C (6) d_R_isFull_4 (by decide) ?_
  refine vv_icmp_ne C 13 d_R_isFull_6 rfl (fun h1 => ?_) (fun h1 => ?_)
  · skip
    refine vv_iconst C (0) d_R_isFull_13 (by decide) ?_
    have hE : kIsFull u = false := by
      unfold kIsFull
      try dsimp only
      first | rw [if_pos h1] | rw [if_neg h1] | rw [if_pos (by exact h1)] | rw [if_neg (by exact h1)] | rw [if_neg (by exact z_nle h1)] | rw [if_pos (by exact z_le h1)] | rw [if_neg (by exact z_nlt h1)] | rw [if_pos (by exact z_lt h1)] | rw [if_neg (by rw [h1]; decide)] | rw [if_pos (by rw [h1])] | rw [if_neg (by exact tf_t h1)] | rw [if_neg (by exact tf_f h1)] | simp only [h1] | skip
      try rfl
    exact vv_zret C hr hlk rfl (by rw [hE]; rfl) rfl d_R_isFull_14
  · skip
    refine vv_iconst C (1) d_R_isFull_9 (by decide) ?_
    refine vv_goto C 14 d_R_isFull_10 rfl ?_
    have hE : kIsFull u = true := by
      unfold kIsFull
      try dsimp only
      first | rw [if_pos h1] | rw [if_neg h1] | rw [if_pos (by exact h1)] | rw [if_neg (by exact h1)] | rw [if_neg (by exact z_nle h1)] | rw [if_pos (by exact z_le h1)] | rw [if_neg (by exact z_nlt h1)] | rw [if_pos (by exact z_lt h1)] | rw [if_neg (by rw [h1]; decide)] | rw [if_pos (by rw [h1])] | rw [if_neg (by exact tf_t h1)] | rw [if_neg (by exact tf_f h1)] | simp only [h1] | skip
      try rfl
    exact vv_zret C hr hlk rfl (by rw [hE]; rfl) rfl d_R_isFull_14
set_option maxHeartbeats 4000000 in
set_option maxRecDepth 100000 in
theorem c_R_at (l : Launch) (Γ : Geo) (u : SC) (x : Int32) (hx : vp_in x 6) : CtC l Γ y_R_at b_R_at 2 (some (.object "AdviceLinks$Advisor")) 0 [.ref (Γ.2.1 1), .int x] u (some (.ref (Γ.2.1 (u.2 (ix x) + 9)))) u := by
  refine ct_of (by decide +kernel) (Nat.le_of_ble_eq_true rfl) ?_
  intro p e s m args below meth c C hr hlk
  refine vv_aload_n C d_R_at_0 rfl ?_
  refine g_R_R_row C d_R_at_1 ?_
  refine vv_iload_n C d_R_at_4 rfl ?_
  refine ld_1_2 C hx d_R_at_5 ?_
  exact vv_aret C hr hlk rfl rfl d_R_at_6
theorem IC_pi {u : SC} (h : IC u) {x : Int32} (hx : vp_in x 6) : u.2 (ix x) < 6 := by
  obtain ⟨j, hj, rfl⟩ := vp_in_of hx (by omega)
  rw [ixn (by omega)]
  exact h.2.2.1 j hj
set_option maxHeartbeats 4000000 in
set_option maxRecDepth 100000 in
theorem c_R_swapWithNext (l : Launch) (Γ : Geo) (u : SC) (hI : IC u) (x : Int32) (hx : vp_in x 6) (hx2 : vp_in (x + 1) 6) : CtC l Γ y_R_swapWithNext b_R_swapWithNext 3 none 0 [.ref (Γ.2.1 1), .int x] u none (kSwap u x) := by
  refine ct_of (by decide +kernel) (Nat.le_of_ble_eq_true rfl) ?_
  intro p e s m args below meth c C hr hlk
  refine vv_aload_n C d_R_swapWithNext_0 rfl ?_
  refine g_R_R_row C d_R_swapWithNext_1 ?_
  refine vv_iload_n C d_R_swapWithNext_4 rfl ?_
  refine ld_1_2 C hx d_R_swapWithNext_5 ?_
  refine vv_astore_n (lv' := [(2, .ref (Γ.2.1 (u.2 (ix x) + 9))), (0, .ref (Γ.2.1 1)), (1, .int x)]) C d_R_swapWithNext_6 rfl (by decide) rfl ?_
  refine vv_aload_n C d_R_swapWithNext_7 rfl ?_
  refine g_R_R_row C d_R_swapWithNext_8 ?_
  refine vv_iload_n C d_R_swapWithNext_11 rfl ?_
  refine vv_aload_n C d_R_swapWithNext_12 rfl ?_
  refine g_R_R_row C d_R_swapWithNext_13 ?_
  refine vv_iload_n C d_R_swapWithNext_16 rfl ?_
  refine vv_iconst C (1) d_R_swapWithNext_17 (by decide) ?_
  refine vv_iadd C d_R_swapWithNext_18 ?_
  refine ld_1_2 C hx2 d_R_swapWithNext_19 ?_
  refine sr_1_2 C (IC_pi hI hx2) hx d_R_swapWithNext_20 ?_
  refine vv_aload_n C d_R_swapWithNext_21 rfl ?_
  refine g_R_R_row C d_R_swapWithNext_22 ?_
  refine vv_iload_n C d_R_swapWithNext_25 rfl ?_
  refine vv_iconst C (1) d_R_swapWithNext_26 (by decide) ?_
  refine vv_iadd C d_R_swapWithNext_27 ?_
  refine vv_aload_n C d_R_swapWithNext_28 rfl ?_
  refine sr_1_2 C (IC_pi hI hx) hx2 d_R_swapWithNext_29 ?_
  have hE : kSwap u x = ((u.1, va_up u.2 (ix x) (u.2 (ix (x + 1)))).1, va_up (u.1, va_up u.2 (ix x) (u.2 (ix (x + 1)))).2 (ix (x + 1)) (u.2 (ix x))) := by
    unfold kSwap
    try dsimp only
    try rfl
  exact vv_vret C hr hlk rfl (by rw [hE]) d_R_swapWithNext_30
set_option maxHeartbeats 4000000 in
set_option maxRecDepth 100000 in
theorem c_L_workOf (l : Launch) (Γ : Geo) (u : SC) (x y : Int32) (hx : vp_in (x * 6 + y) 12) : CtC l Γ y_L_workOf b_L_workOf 3 (some (.object "AdviceLinks$Work")) 0 [.ref (Γ.2.1 0), .int x, .int y] u (some (.ref (Γ.2.1 (ix (x * 6 + y) + 15)))) u := by
  refine ct_of (by decide +kernel) (Nat.le_of_ble_eq_true rfl) ?_
  intro p e s m args below meth c C hr hlk
  refine vv_aload_n C d_L_workOf_0 rfl ?_
  refine g_L_L_works C d_L_workOf_1 ?_
  refine vv_iload_n C d_L_workOf_4 rfl ?_
  refine vv_bipush C (6) d_L_workOf_5 (by decide) ?_
  refine vv_imul C d_L_workOf_7 ?_
  refine vv_iload_n C d_L_workOf_8 rfl ?_
  refine vv_iadd C d_L_workOf_9 ?_
  refine ld_4_3 C hx d_L_workOf_10 ?_
  exact vv_aret C hr hlk rfl rfl d_L_workOf_11
set_option maxHeartbeats 4000000 in
set_option maxRecDepth 100000 in
theorem c_L_returned (l : Launch) (Γ : Geo) (u : SC) (x : Int32) : CtC l Γ y_L_returned b_L_returned 2 (some .int) 0 [.ref (Γ.2.1 0), .int x] u (some (.int 0)) (wr u 5 0 x) := by
  refine ct_of (by decide +kernel) (Nat.le_of_ble_eq_true rfl) ?_
  intro p e s m args below meth c C hr hlk
  refine vv_aload_n C d_L_returned_0 rfl ?_
  refine vv_iload_n C d_L_returned_1 rfl ?_
  refine p_L_L_value C d_L_returned_2 ?_
  refine vv_iconst C (0) d_L_returned_5 (by decide) ?_
  exact vv_iret C hr hlk rfl rfl d_L_returned_6
set_option maxHeartbeats 4000000 in
set_option maxRecDepth 100000 in
theorem c_L_thrown (l : Launch) (Γ : Geo) (u : SC) (x : Int32) : CtC l Γ y_L_thrown b_L_thrown 2 (some .int) 0 [.ref (Γ.2.1 0), .int x] u (some (.int 1)) (wr u 5 0 x) := by
  refine ct_of (by decide +kernel) (Nat.le_of_ble_eq_true rfl) ?_
  intro p e s m args below meth c C hr hlk
  refine vv_aload_n C d_L_thrown_0 rfl ?_
  refine vv_iload_n C d_L_thrown_1 rfl ?_
  refine p_L_L_value C d_L_thrown_2 ?_
  refine vv_iconst C (1) d_L_thrown_5 (by decide) ?_
  exact vv_iret C hr hlk rfl rfl d_L_thrown_6
set_option maxHeartbeats 4000000 in
set_option maxRecDepth 100000 in
theorem c_L_brokenOff (l : Launch) (Γ : Geo) (u : SC) : CtC l Γ y_L_brokenOff b_L_brokenOff 1 (some .int) 0 [.ref (Γ.2.1 0)] u (some (.int 2)) (wr u 5 0 0) := by
  refine ct_of (by decide +kernel) (Nat.le_of_ble_eq_true rfl) ?_
  intro p e s m args below meth c C hr hlk
  refine vv_aload_n C d_L_brokenOff_0 rfl ?_
  refine vv_iconst C (0) d_L_brokenOff_1 (by decide) ?_
  refine p_L_L_value C d_L_brokenOff_2 ?_
  refine vv_iconst C (2) d_L_brokenOff_5 (by decide) ?_
  exact vv_iret C hr hlk rfl rfl d_L_brokenOff_6
set_option maxHeartbeats 4000000 in
set_option maxRecDepth 100000 in
theorem c_L_takeTarget (l : Launch) (Γ : Geo) (u : SC) : CtC l Γ y_L_takeTarget b_L_takeTarget 2 (some .int) 0 [.ref (Γ.2.1 0)] u (some (.int (kTake u).1)) (kTake u).2 := by
  refine ct_of (by decide +kernel) (Nat.le_of_ble_eq_true rfl) ?_
  intro p e s m args below meth c C hr hlk
  refine vv_aload_n C d_L_takeTarget_0 rfl ?_
  refine vv_dup C d_L_takeTarget_1 rfl ?_
  refine g_L_L_targetsTaken C d_L_takeTarget_2 ?_
  refine vv_iconst C (1) d_L_takeTarget_5 (by decide) ?_
  refine vv_iadd C d_L_takeTarget_6 ?_
  refine p_L_L_targetsTaken C d_L_takeTarget_7 ?_
  refine vv_aload_n C d_L_takeTarget_10 rfl ?_
  refine g_L_L_targetSource C d_L_takeTarget_11 ?_
  refine vv_iconst C (2) d_L_takeTarget_14 (by decide) ?_
  refine vv_icmp_eq C 23 d_L_takeTarget_15 rfl (fun h1 => ?_) (fun h1 => ?_)
  · skip
    refine vv_aload_n C d_L_takeTarget_23 rfl ?_
    refine g_L_L_nextInTurn C d_L_takeTarget_24 ?_
    refine vv_istore_n (lv' := [(1, .int ((wr u 4 0 ((u.1 4 0) + 1)).1 2 0)), (0, .ref (Γ.2.1 0))]) C d_L_takeTarget_27 rfl (by decide) rfl ?_
    refine vv_aload_n C d_L_takeTarget_28 rfl ?_
    refine vv_iconst C (1) d_L_takeTarget_29 (by decide) ?_
    refine vv_iload_n C d_L_takeTarget_30 rfl ?_
    refine vv_isub C d_L_takeTarget_31 ?_
    refine p_L_L_nextInTurn C d_L_takeTarget_32 ?_
    refine vv_iload_n C d_L_takeTarget_35 rfl ?_
    have hE : kTake u = ((wr u 4 0 ((u.1 4 0) + 1)).1 2 0, (wr (wr u 4 0 ((u.1 4 0) + 1)) 2 0 (1 - ((wr u 4 0 ((u.1 4 0) + 1)).1 2 0)))) := by
      unfold kTake
      try dsimp only
      first | rw [if_pos h1] | rw [if_neg h1] | rw [if_pos (by exact h1)] | rw [if_neg (by exact h1)] | rw [if_neg (by exact z_nle h1)] | rw [if_pos (by exact z_le h1)] | rw [if_neg (by exact z_nlt h1)] | rw [if_pos (by exact z_lt h1)] | rw [if_neg (by rw [h1]; decide)] | rw [if_pos (by rw [h1])] | rw [if_neg (by exact tf_t h1)] | rw [if_neg (by exact tf_f h1)] | simp only [h1] | skip
      try rfl
    exact vv_iret C hr hlk (by rw [hE] <;> rfl) (by rw [hE] <;> rfl) d_L_takeTarget_36
  · skip
    refine vv_aload_n C d_L_takeTarget_18 rfl ?_
    refine g_L_L_targetSource C d_L_takeTarget_19 ?_
    have hE : kTake u = ((wr u 4 0 ((u.1 4 0) + 1)).1 1 0, (wr u 4 0 ((u.1 4 0) + 1))) := by
      unfold kTake
      try dsimp only
      first | rw [if_pos h1] | rw [if_neg h1] | rw [if_pos (by exact h1)] | rw [if_neg (by exact h1)] | rw [if_neg (by exact z_nle h1)] | rw [if_pos (by exact z_le h1)] | rw [if_neg (by exact z_nlt h1)] | rw [if_pos (by exact z_lt h1)] | rw [if_neg (by rw [h1]; decide)] | rw [if_pos (by rw [h1])] | rw [if_neg (by exact tf_t h1)] | rw [if_neg (by exact tf_f h1)] | simp only [h1] | skip
      try rfl
    exact vv_iret C hr hlk (by rw [hE] <;> rfl) (by rw [hE] <;> rfl) d_L_takeTarget_22
set_option maxHeartbeats 4000000 in
set_option maxRecDepth 100000 in
theorem c_L_result (l : Launch) (Γ : Geo) (u : SC) : CtC l Γ y_L_result b_L_result 1 (some .int) 0 [.ref (Γ.2.1 0)] u (some (.int (u.1 5 0))) u := by
  refine ct_of (by decide +kernel) (Nat.le_of_ble_eq_true rfl) ?_
  intro p e s m args below meth c C hr hlk
  refine vv_aload_n C d_L_result_0 rfl ?_
  refine g_L_L_value C d_L_result_1 ?_
  exact vv_iret C hr hlk rfl rfl d_L_result_4
set_option maxHeartbeats 4000000 in
set_option maxRecDepth 100000 in
theorem c_L_asked (l : Launch) (Γ : Geo) (u : SC) : CtC l Γ y_L_asked b_L_asked 1 (some .int) 0 [.ref (Γ.2.1 0)] u (some (.int (u.1 3 0))) u := by
  refine ct_of (by decide +kernel) (Nat.le_of_ble_eq_true rfl) ?_
  intro p e s m args below meth c C hr hlk
  refine vv_aload_n C d_L_asked_0 rfl ?_
  refine g_L_L_timesAsked C d_L_asked_1 ?_
  exact vv_iret C hr hlk rfl rfl d_L_asked_4
set_option maxHeartbeats 4000000 in
set_option maxRecDepth 100000 in
theorem c_L_taken (l : Launch) (Γ : Geo) (u : SC) : CtC l Γ y_L_taken b_L_taken 1 (some .int) 0 [.ref (Γ.2.1 0)] u (some (.int (u.1 4 0))) u := by
  refine ct_of (by decide +kernel) (Nat.le_of_ble_eq_true rfl) ?_
  intro p e s m args below meth c C hr hlk
  refine vv_aload_n C d_L_taken_0 rfl ?_
  refine g_L_L_targetsTaken C d_L_taken_1 ?_
  exact vv_iret C hr hlk rfl rfl d_L_taken_4
set_option maxHeartbeats 4000000 in
set_option maxRecDepth 100000 in
theorem c_L_events (l : Launch) (Γ : Geo) (u : SC) : CtC l Γ y_L_events b_L_events 1 (some .int) 0 [.ref (Γ.2.1 0)] u (some (.int (u.1 8 0))) u := by
  refine ct_of (by decide +kernel) (Nat.le_of_ble_eq_true rfl) ?_
  intro p e s m args below meth c C hr hlk
  refine vv_aload_n C d_L_events_0 rfl ?_
  refine g_L_L_trace C d_L_events_1 ?_
  refine g_L_T_length C d_L_events_4 ?_
  exact vv_iret C hr hlk rfl rfl d_L_events_7
set_option maxHeartbeats 4000000 in
set_option maxRecDepth 100000 in
theorem c_L_freeze (l : Launch) (Γ : Geo) (u : SC) (b : Bool) : CtC l Γ y_L_freeze b_L_freeze 2 none 0 [.ref (Γ.2.1 0), .int (bI b)] u none (kFreeze u b) := by
  refine ct_of (by decide +kernel) (Nat.le_of_ble_eq_true rfl) ?_
  intro p e s m args below meth c C hr hlk
  refine vv_aload_n C d_L_freeze_0 rfl ?_
  refine vv_iload_n C d_L_freeze_1 rfl ?_
  refine p_L_L_frozen C (bI_nar _) (bI_fit _) d_L_freeze_2 ?_
  have hE : kFreeze u b = (wr u 0 0 (bI b)) := by
    unfold kFreeze
    try dsimp only
    try rfl
  exact vv_vret C hr hlk rfl (by rw [hE]) d_L_freeze_5
set_option maxHeartbeats 4000000 in
set_option maxRecDepth 100000 in
theorem c_L_source (l : Launch) (Γ : Geo) (u : SC) (x : Int32) : CtC l Γ y_L_source b_L_source 2 (some .boolean) 0 [.ref (Γ.2.1 0), .int x] u (some (.int (bI (kSource u x).1))) (kSource u x).2 := by
  refine ct_of (by decide +kernel) (Nat.le_of_ble_eq_true rfl) ?_
  intro p e s m args below meth c C hr hlk
  refine vv_iload_n C d_L_source_0 rfl ?_
  refine vv_if_lt C 9 d_L_source_1 rfl (fun h1 => ?_) (fun h1 => ?_)
  · skip
    refine vv_iconst C (0) d_L_source_9 (by decide) ?_
    have hE : kSource u x = (false, u) := by
      unfold kSource
      try dsimp only
      first | rw [if_pos h1] | rw [if_neg h1] | rw [if_pos (by exact h1)] | rw [if_neg (by exact h1)] | rw [if_neg (by exact z_nle h1)] | rw [if_pos (by exact z_le h1)] | rw [if_neg (by exact z_nlt h1)] | rw [if_pos (by exact z_lt h1)] | rw [if_neg (by rw [h1]; decide)] | rw [if_pos (by rw [h1])] | rw [if_neg (by exact tf_t h1)] | rw [if_neg (by exact tf_f h1)] | simp only [h1] | skip
      try rfl
    exact vv_zret C hr hlk rfl (by rw [hE]; rfl) (by rw [hE] <;> rfl) d_L_source_10
  · skip
    refine vv_iload_n C d_L_source_4 rfl ?_
    refine vv_iconst C (2) d_L_source_5 (by decide) ?_
    refine vv_icmp_le C 11 d_L_source_6 rfl (fun h2 => ?_) (fun h2 => ?_)
    · skip
      refine vv_aload_n C d_L_source_11 rfl ?_
      refine vv_iload_n C d_L_source_12 rfl ?_
      refine p_L_L_targetSource C d_L_source_13 ?_
      refine vv_aload_n C d_L_source_16 rfl ?_
      refine vv_iconst C (0) d_L_source_17 (by decide) ?_
      refine p_L_L_nextInTurn C d_L_source_18 ?_
      refine vv_iconst C (1) d_L_source_21 (by decide) ?_
      have hE : kSource u x = (true, (wr (wr u 1 0 x) 2 0 0)) := by
        unfold kSource
        try dsimp only
        first | rw [if_pos h1] | rw [if_neg h1] | rw [if_pos (by exact h1)] | rw [if_neg (by exact h1)] | rw [if_neg (by exact z_nle h1)] | rw [if_pos (by exact z_le h1)] | rw [if_neg (by exact z_nlt h1)] | rw [if_pos (by exact z_lt h1)] | rw [if_neg (by rw [h1]; decide)] | rw [if_pos (by rw [h1])] | rw [if_neg (by exact tf_t h1)] | rw [if_neg (by exact tf_f h1)] | simp only [h1] | skip
        first | rw [if_pos h2] | rw [if_neg h2] | rw [if_pos (by exact h2)] | rw [if_neg (by exact h2)] | rw [if_neg (by exact z_nle h2)] | rw [if_pos (by exact z_le h2)] | rw [if_neg (by exact z_nlt h2)] | rw [if_pos (by exact z_lt h2)] | rw [if_neg (by rw [h2]; decide)] | rw [if_pos (by rw [h2])] | rw [if_neg (by exact tf_t h2)] | rw [if_neg (by exact tf_f h2)] | simp only [h2] | skip
        try rfl
      exact vv_zret C hr hlk rfl (by rw [hE]; rfl) (by rw [hE] <;> rfl) d_L_source_22
    · skip
      refine vv_iconst C (0) d_L_source_9 (by decide) ?_
      have hE : kSource u x = (false, u) := by
        unfold kSource
        try dsimp only
        first | rw [if_pos h1] | rw [if_neg h1] | rw [if_pos (by exact h1)] | rw [if_neg (by exact h1)] | rw [if_neg (by exact z_nle h1)] | rw [if_pos (by exact z_le h1)] | rw [if_neg (by exact z_nlt h1)] | rw [if_pos (by exact z_lt h1)] | rw [if_neg (by rw [h1]; decide)] | rw [if_pos (by rw [h1])] | rw [if_neg (by exact tf_t h1)] | rw [if_neg (by exact tf_f h1)] | simp only [h1] | skip
        first | rw [if_pos h2] | rw [if_neg h2] | rw [if_pos (by exact h2)] | rw [if_neg (by exact h2)] | rw [if_neg (by exact z_nle h2)] | rw [if_pos (by exact z_le h2)] | rw [if_neg (by exact z_nlt h2)] | rw [if_pos (by exact z_lt h2)] | rw [if_neg (by rw [h2]; decide)] | rw [if_pos (by rw [h2])] | rw [if_neg (by exact tf_t h2)] | rw [if_neg (by exact tf_f h2)] | simp only [h2] | skip
        try rfl
      exact vv_zret C hr hlk rfl (by rw [hE]; rfl) (by rw [hE] <;> rfl) d_L_source_10
end
section
theorem IC_swap {u : SC} (h : IC u) {x : Int32} (hx : vp_in x 6) (hx2 : vp_in (x + 1) 6) : IC (kSwap u x) := by
  obtain ⟨h1, h2, h3, h4⟩ := h
  obtain ⟨j, hj, e1⟩ := vp_in_of hx (by omega)
  obtain ⟨j2, hj2, e2⟩ := vp_in_of hx2 (by omega)
  refine ⟨h1, h2, fun i hi => ?_, h4⟩
  unfold kSwap
  rw [e2, e1, ixn (by omega), ixn (by omega)]
  show va_up (va_up u.2 j (u.2 j2)) j2 (u.2 j) i < 6
  unfold va_up
  split
  · exact h3 j hj
  · split
    · exact h3 j2 hj2
    · exact h3 i hi
theorem bd_lt {u : SC} {t p : Nat} (ht : t ≤ 6) (h6 : u.1 6 0 = nI t) (hp : p < 900) (h : ¬ u.1 6 0 ≤ nI p) : p < t := by
  rw [h6, nle (by omega) (by omega)] at h
  omega
theorem bd_ge {u : SC} {t p : Nat} (ht : t ≤ 6) (h6 : u.1 6 0 = nI t) (hp : p < 900) (h : u.1 6 0 ≤ nI p) : t ≤ p := by
  rw [h6, nle (by omega) (by omega)] at h
  omega
theorem in6 {p : Nat} (h : p < 6) : vp_in (nI p) 6 := vp_in_nI h (by omega)
theorem kind_half {g : Int32} {n : Nat} (h : g.toInt < 2 ^ (n + 1)) (h0 : ¬ g ≤ 0) : (g / 2).toInt < 2 ^ n := by
  have h1 : ¬ g < 0 := fun z => h0 (by simp only [Int32.lt_iff_toInt_lt, Int32.le_iff_toInt_le] at *; omega)
  obtain ⟨j, hj, rfl⟩ := nI_of h1
  rw [nI_toInt hj] at h
  rw [show (2 : Int32) = nI 2 from rfl, pk_div hj (by omega) (by omega), nI_toInt (by omega)]
  rw [Int.pow_succ] at h
  have : ((j / 2 : Nat) : Int) = (j : Int) / 2 := by omega
  omega
set_option maxHeartbeats 4000000 in
set_option maxRecDepth 100000 in
theorem c_L_isKindOf (l : Launch) (Γ : Geo) (u : SC) (x y : Int32) : CtC l Γ y_L_isKindOf b_L_isKindOf 3 (some .boolean) 0 [.int x, .int y] u (some (.int (bI (kKindOf x y)))) u := by
  refine ct_of (by decide +kernel) (Nat.le_of_ble_eq_true rfl) ?_
  intro p e s m args below meth c C hr hlk
  have loop : ∀ (n : Nat) (g : Int32), g.toInt < 2 ^ n → kKindOf x y = kKindL n g y → VV p l e (rmD 0) s m args below meth c 0 0 (MQ below (ctQ Γ.1 clA (inC Γ) (some (.int (bI (kKindOf x y)))) (wC Γ u)) args s 0 0 (inC Γ)) 3 Γ.1 clA (inC Γ) s.heap (wC Γ u) 2 [(2, .int g), (0, .int x), (1, .int y)] [] := by
    intro n
    induction n with
    | zero =>
      intro g hg hE
      refine vv_iload_n C d_L_isKindOf_2 rfl ?_
      refine vv_if_le C 20 d_L_isKindOf_3 rfl (fun h1 => ?_) (fun h1 => ?_)
      · skip
        refine vv_iconst C (0) d_L_isKindOf_20 (by decide) ?_
        have hF : kKindOf x y = false := by
          rw [hE]
          try dsimp only
          first | rw [if_pos h1] | rw [if_neg h1] | rw [if_pos (by exact h1)] | rw [if_neg (by exact h1)] | rw [if_neg (by exact tf_f h1)] | rw [if_neg (by exact tf_t h1)] | skip
          try rfl
        exact vv_zret C hr hlk rfl (by rw [hF]; rfl) rfl d_L_isKindOf_21
      · skip
        refine vv_iload_n C d_L_isKindOf_6 rfl ?_
        refine vv_iload_n C d_L_isKindOf_7 rfl ?_
        refine vv_icmp_ne C 13 d_L_isKindOf_8 rfl (fun h2 => ?_) (fun h2 => ?_)
        · skip
          refine vv_iload_n C d_L_isKindOf_13 rfl ?_
          refine vv_iconst C (2) d_L_isKindOf_14 (by decide) ?_
          refine vv_idiv C d_L_isKindOf_15 (by decide) ?_
          refine vv_istore_n (lv' := [(2, .int (g / 2)), (0, .int x), (1, .int y)]) C d_L_isKindOf_16 rfl (by decide) rfl ?_
          refine vv_goto C 2 d_L_isKindOf_17 rfl ?_
          exact absurd hg (by simp only [Int32.le_iff_toInt_le] at *; have : (0 : Int32).toInt = 0 := rfl; omega)
        · skip
          refine vv_iconst C (1) d_L_isKindOf_11 (by decide) ?_
          exact absurd hg (by simp only [Int32.le_iff_toInt_le] at *; have : (0 : Int32).toInt = 0 := rfl; omega)
    | succ n ih =>
      intro g hg hE
      refine vv_iload_n C d_L_isKindOf_2 rfl ?_
      refine vv_if_le C 20 d_L_isKindOf_3 rfl (fun h1 => ?_) (fun h1 => ?_)
      · skip
        refine vv_iconst C (0) d_L_isKindOf_20 (by decide) ?_
        have hF : kKindOf x y = false := by
          rw [hE]
          rw [kKindL]
          try dsimp only
          first | rw [if_pos h1] | rw [if_neg h1] | rw [if_pos (by exact h1)] | rw [if_neg (by exact h1)] | rw [if_neg (by exact tf_f h1)] | rw [if_neg (by exact tf_t h1)] | skip
          try rfl
        exact vv_zret C hr hlk rfl (by rw [hF]; rfl) rfl d_L_isKindOf_21
      · skip
        refine vv_iload_n C d_L_isKindOf_6 rfl ?_
        refine vv_iload_n C d_L_isKindOf_7 rfl ?_
        refine vv_icmp_ne C 13 d_L_isKindOf_8 rfl (fun h2 => ?_) (fun h2 => ?_)
        · skip
          refine vv_iload_n C d_L_isKindOf_13 rfl ?_
          refine vv_iconst C (2) d_L_isKindOf_14 (by decide) ?_
          refine vv_idiv C d_L_isKindOf_15 (by decide) ?_
          refine vv_istore_n (lv' := [(2, .int (g / 2)), (0, .int x), (1, .int y)]) C d_L_isKindOf_16 rfl (by decide) rfl ?_
          refine vv_goto C 2 d_L_isKindOf_17 rfl ?_
          exact ih (g / 2) (kind_half hg h1) (hE.trans (by rw [kKindL]; (first | rw [if_pos h1] | rw [if_neg h1] | rw [if_pos (by exact h1)] | rw [if_neg (by exact h1)] | rw [if_neg (by exact tf_f h1)] | rw [if_neg (by exact tf_t h1)]); (first | rw [if_pos h2] | rw [if_neg h2] | rw [if_pos (by exact h2)] | rw [if_neg (by exact h2)] | rw [if_neg (by exact tf_f h2)] | rw [if_neg (by exact tf_t h2)])))
        · skip
          refine vv_iconst C (1) d_L_isKindOf_11 (by decide) ?_
          have hF : kKindOf x y = true := by
            rw [hE]
            rw [kKindL]
            try dsimp only
            first | rw [if_pos h1] | rw [if_neg h1] | rw [if_pos (by exact h1)] | rw [if_neg (by exact h1)] | rw [if_neg (by exact tf_f h1)] | rw [if_neg (by exact tf_t h1)] | skip
            first | rw [if_pos h2] | rw [if_neg h2] | rw [if_pos (by exact h2)] | rw [if_neg (by exact h2)] | rw [if_neg (by exact tf_f h2)] | rw [if_neg (by exact tf_t h2)] | skip
            try rfl
          exact vv_zret C hr hlk rfl (by rw [hF]; rfl) rfl d_L_isKindOf_12
  refine vv_iload_n C d_L_isKindOf_0 rfl ?_
  refine vv_istore_n (lv' := [(2, .int x), (0, .int x), (1, .int y)]) C d_L_isKindOf_1 rfl (by decide) rfl ?_
  exact loop 31 x (by have := Int32.toInt_lt x; omega) rfl
set_option maxHeartbeats 4000000 in
set_option maxRecDepth 100000 in
theorem c_R_placeOf (l : Launch) (Γ : Geo) (u : SC) (hI : IC u) (x : Int32) : CtC l Γ y_R_placeOf b_R_placeOf 3 (some .int) 0 [.ref (Γ.2.1 1), .int x] u (some (.int (kPlaceOf u x))) u := by
  refine ct_of (by decide +kernel) (Nat.le_of_ble_eq_true rfl) ?_
  intro p e s m args below meth c C hr hlk
  obtain ⟨t, ht, h6⟩ := hI.1
  have loop : ∀ (f p2 : Nat), p2 ≤ t → t - p2 < f → kPlaceOf u x = kPlaceL u x f (nI p2) → VV p l e (rmD 0) s m args below meth c 0 0 (MQ below (ctQ Γ.1 clA (inC Γ) (some (.int (kPlaceOf u x))) (wC Γ u)) args s 0 0 (inC Γ)) 3 Γ.1 clA (inC Γ) s.heap (wC Γ u) 2 [(2, .int (nI p2)), (0, .ref (Γ.2.1 1)), (1, .int x)] [] := by
    intro f
    induction f with
    | zero => intro p2 _ h _; omega
    | succ f ih =>
      intro p2 hp hf hE
      refine vv_iload_n C d_R_placeOf_2 rfl ?_
      refine vv_aload_n C d_R_placeOf_3 rfl ?_
      refine g_R_R_there C d_R_placeOf_4 ?_
      refine vv_icmp_ge C 31 d_R_placeOf_7 rfl (fun h1 => ?_) (fun h1 => ?_)
      · skip
        refine vv_iconst C (-1) d_R_placeOf_31 (by decide) ?_
        have hF : kPlaceOf u x = -1 := by
          rw [hE]
          rw [kPlaceL]
          try dsimp only
          first | rw [if_pos h1] | rw [if_neg h1] | rw [if_pos (by exact h1)] | rw [if_neg (by exact h1)] | rw [if_neg (by exact tf_f h1)] | rw [if_neg (by exact tf_t h1)] | skip
          try rfl
        exact vv_iret C hr hlk (by rw [hF]) rfl d_R_placeOf_32
      · skip
        have hp2 := bd_lt ht h6 (by omega) h1
        have hk2 : u.2 (ix (nI p2)) < 6 := IC_pi hI (in6 (by omega))
        refine vv_aload_n C d_R_placeOf_10 rfl ?_
        refine g_R_R_row C d_R_placeOf_11 ?_
        refine vv_iload_n C d_R_placeOf_14 rfl ?_
        refine ld_1_2 C (in6 (by omega)) d_R_placeOf_15 ?_
        refine g_R_A_number C hk2 d_R_placeOf_16 ?_
        refine vv_iload_n C d_R_placeOf_19 rfl ?_
        refine vv_icmp_ne C 25 d_R_placeOf_20 rfl (fun h2 => ?_) (fun h2 => ?_)
        · skip
          refine vv_iinc (j := 0) (v := nI (p2 + 1)) (lv' := [(2, .int (nI (p2 + 1))), (0, .ref (Γ.2.1 1)), (1, .int x)]) C d_R_placeOf_25 rfl (nI_1 p2) (by decide) rfl ?_
          refine vv_goto C 2 d_R_placeOf_28 rfl ?_
          exact ih (p2 + 1) (by omega) (by omega) (hE.trans (by rw [kPlaceL]; (first | rw [if_pos h1] | rw [if_neg h1] | rw [if_pos (by exact h1)] | rw [if_neg (by exact h1)] | rw [if_neg (by exact tf_f h1)] | rw [if_neg (by exact tf_t h1)]); (first | rw [if_pos h2] | rw [if_neg h2] | rw [if_pos (by exact h2)] | rw [if_neg (by exact h2)] | rw [if_neg (by exact tf_f h2)] | rw [if_neg (by exact tf_t h2)]); rw [nI_1]))
        · skip
          refine vv_iload_n C d_R_placeOf_23 rfl ?_
          have hF : kPlaceOf u x = nI p2 := by
            rw [hE]
            rw [kPlaceL]
            try dsimp only
            first | rw [if_pos h1] | rw [if_neg h1] | rw [if_pos (by exact h1)] | rw [if_neg (by exact h1)] | rw [if_neg (by exact tf_f h1)] | rw [if_neg (by exact tf_t h1)] | skip
            first | rw [if_pos h2] | rw [if_neg h2] | rw [if_pos (by exact h2)] | rw [if_neg (by exact h2)] | rw [if_neg (by exact tf_f h2)] | rw [if_neg (by exact tf_t h2)] | skip
            try rfl
          exact vv_iret C hr hlk (by rw [hF]) rfl d_R_placeOf_24
  refine vv_iconst C (0) d_R_placeOf_0 (by decide) ?_
  refine vv_istore_n (lv' := [(2, .int 0), (0, .ref (Γ.2.1 1)), (1, .int x)]) C d_R_placeOf_1 rfl (by decide) rfl ?_
  exact loop 7 0 (by omega) (by omega) rfl
set_option maxHeartbeats 4000000 in
set_option maxRecDepth 100000 in
theorem c_R_placeInChain (l : Launch) (Γ : Geo) (u : SC) (hI : IC u) (x : Int32) (b0 : Nat) (hb0 : b0 ≤ 6) : CtC l Γ y_R_placeInChain b_R_placeInChain 4 (some .int) 1 [.ref (Γ.2.1 1), .int x, .int (nI b0)] u (some (.int (kChainP u x (nI b0)))) u := by
  refine ct_of (by decide +kernel) (Nat.le_of_ble_eq_true rfl) ?_
  intro p e s m args below meth c C hr hlk
  obtain ⟨t, ht, h6⟩ := hI.1
  have loop : ∀ (f p2 : Nat), p2 ≤ 6 → 6 - p2 < f → kChainP u x (nI b0) = kChainL u x f (nI p2) → VV p l e (rmD 1) s m args below meth c 0 0 (MQ below (ctQ Γ.1 clA (inC Γ) (some (.int (kChainP u x (nI b0)))) (wC Γ u)) args s 0 0 (inC Γ)) 4 Γ.1 clA (inC Γ) s.heap (wC Γ u) 2 [(3, .int (nI p2)), (0, .ref (Γ.2.1 1)), (1, .int x), (2, .int (nI b0))] [] := by
    intro f
    induction f with
    | zero => intro p2 _ h _; omega
    | succ f ih =>
      intro p2 hp hf hE
      refine vv_iload_n C d_R_placeInChain_2 rfl ?_
      refine vv_aload_n C d_R_placeInChain_3 rfl ?_
      refine g_R_R_there C d_R_placeInChain_4 ?_
      refine vv_icmp_ge C 31 d_R_placeInChain_7 rfl (fun h1 => ?_) (fun h1 => ?_)
      · skip
        refine vv_iconst C (-1) d_R_placeInChain_31 (by decide) ?_
        have hF : kChainP u x (nI b0) = -1 := by
          rw [hE]
          rw [kChainL]
          try dsimp only
          first | rw [if_pos h1] | rw [if_neg h1] | rw [if_pos (by exact h1)] | rw [if_neg (by exact h1)] | rw [if_neg (by exact tf_f h1)] | rw [if_neg (by exact tf_t h1)] | skip
          try rfl
        exact vv_iret C hr hlk (by rw [hF]) rfl d_R_placeInChain_32
      · skip
        have hp2 := bd_lt ht h6 (by omega) h1
        have hk2 : u.2 (ix (nI p2)) < 6 := IC_pi hI (in6 (by omega))
        refine vv_aload_n C d_R_placeInChain_10 rfl ?_
        refine g_R_R_row C d_R_placeInChain_11 ?_
        refine vv_iload_n C d_R_placeInChain_14 rfl ?_
        refine ld_1_2 C (in6 (by omega)) d_R_placeInChain_15 ?_
        refine vv_iload_n C d_R_placeInChain_16 rfl ?_
        refine callC (rest := []) C (c_A_advises l Γ u (u.2 (ix (nI p2))) hk2 x) cw_R_A_advises rfl (u.2 (ix (nI p2)) + 9) (by have := hk2; omega) rfl (eC_adv hk2) rfl rfl (Nat.le_of_ble_eq_true rfl) (by decide) (by decide) d_R_placeInChain_17 ?_
        refine vv_st (st' := [.int (bI (kAdvises u (u.2 (ix (nI p2))) x))]) rfl ?_
        refine vv_if_eq C 25 d_R_placeInChain_20 rfl (fun h2 => ?_) (fun h2 => ?_)
        · skip
          replace h2 := bI_f h2
          refine vv_iinc (j := 0) (v := nI (p2 + 1)) (lv' := [(3, .int (nI (p2 + 1))), (0, .ref (Γ.2.1 1)), (1, .int x), (2, .int (nI b0))]) C d_R_placeInChain_25 rfl (nI_1 p2) (by decide) rfl ?_
          refine vv_goto C 2 d_R_placeInChain_28 rfl ?_
          exact ih (p2 + 1) (by omega) (by omega) (hE.trans (by rw [kChainL]; (first | rw [if_pos h1] | rw [if_neg h1] | rw [if_pos (by exact h1)] | rw [if_neg (by exact h1)] | rw [if_neg (by exact tf_f h1)] | rw [if_neg (by exact tf_t h1)]); (first | rw [if_pos h2] | rw [if_neg h2] | rw [if_pos (by exact h2)] | rw [if_neg (by exact h2)] | rw [if_neg (by exact tf_f h2)] | rw [if_neg (by exact tf_t h2)]); rw [nI_1]))
        · skip
          replace h2 := bI_t h2
          refine vv_iload_n C d_R_placeInChain_23 rfl ?_
          have hF : kChainP u x (nI b0) = nI p2 := by
            rw [hE]
            rw [kChainL]
            try dsimp only
            first | rw [if_pos h1] | rw [if_neg h1] | rw [if_pos (by exact h1)] | rw [if_neg (by exact h1)] | rw [if_neg (by exact tf_f h1)] | rw [if_neg (by exact tf_t h1)] | skip
            first | rw [if_pos h2] | rw [if_neg h2] | rw [if_pos (by exact h2)] | rw [if_neg (by exact h2)] | rw [if_neg (by exact tf_f h2)] | rw [if_neg (by exact tf_t h2)] | skip
            try rfl
          exact vv_iret C hr hlk (by rw [hF]) rfl d_R_placeInChain_24
  refine vv_iload_n C d_R_placeInChain_0 rfl ?_
  refine vv_istore_n (lv' := [(3, .int (nI b0)), (0, .ref (Γ.2.1 1)), (1, .int x), (2, .int (nI b0))]) C d_R_placeInChain_1 rfl (by decide) rfl ?_
  exact loop 7 b0 (by omega) (by omega) rfl
set_option maxHeartbeats 4000000 in
set_option maxRecDepth 100000 in
theorem c_R_numberInChain (l : Launch) (Γ : Geo) (u : SC) (hI : IC u) (x y : Int32) : CtC l Γ y_R_numberInChain b_R_numberInChain 5 (some .int) 1 [.ref (Γ.2.1 1), .int x, .int y] u (some (.int (kNumIn u x y))) u := by
  refine ct_of (by decide +kernel) (Nat.le_of_ble_eq_true rfl) ?_
  intro p e s m args below meth c C hr hlk
  obtain ⟨t, ht, h6⟩ := hI.1
  have loop : ∀ (f : Nat) (bf : Int32) (p2 : Nat), p2 ≤ t → t - p2 < f → kNumIn u x y = kNumL u x y f bf (nI p2) → VV p l e (rmD 1) s m args below meth c 0 0 (MQ below (ctQ Γ.1 clA (inC Γ) (some (.int (kNumIn u x y))) (wC Γ u)) args s 0 0 (inC Γ)) 5 Γ.1 clA (inC Γ) s.heap (wC Γ u) 5 [(4, .int (nI p2)), (3, .int bf), (0, .ref (Γ.2.1 1)), (1, .int x), (2, .int y)] [] := by
    intro f
    induction f with
    | zero => intro bf p2 _ h _; omega
    | succ f ih =>
      intro bf p2 hp hf hE
      refine vv_iload C d_R_numberInChain_5 rfl ?_
      refine vv_aload_n C d_R_numberInChain_7 rfl ?_
      refine g_R_R_there C d_R_numberInChain_8 ?_
      refine vv_icmp_ge C 53 d_R_numberInChain_11 rfl (fun h1 => ?_) (fun h1 => ?_)
      · skip
        refine vv_iconst C (-1) d_R_numberInChain_53 (by decide) ?_
        have hF : kNumIn u x y = -1 := by
          rw [hE]
          rw [kNumL]
          try dsimp only
          first | rw [if_pos h1] | rw [if_neg h1] | rw [if_pos (by exact h1)] | rw [if_neg (by exact h1)] | rw [if_neg (by exact tf_f h1)] | rw [if_neg (by exact tf_t h1)] | skip
          try rfl
        exact vv_iret C hr hlk (by rw [hF]) rfl d_R_numberInChain_54
      · skip
        have hp2 := bd_lt ht h6 (by omega) h1
        have hk2 : u.2 (ix (nI p2)) < 6 := IC_pi hI (in6 (by omega))
        refine vv_aload_n C d_R_numberInChain_14 rfl ?_
        refine g_R_R_row C d_R_numberInChain_15 ?_
        refine vv_iload C d_R_numberInChain_18 rfl ?_
        refine ld_1_2 C (in6 (by omega)) d_R_numberInChain_20 ?_
        refine vv_iload_n C d_R_numberInChain_21 rfl ?_
        refine callC (rest := []) C (c_A_advises l Γ u (u.2 (ix (nI p2))) hk2 x) cw_R_A_advises rfl (u.2 (ix (nI p2)) + 9) (by have := hk2; omega) rfl (eC_adv hk2) rfl rfl (Nat.le_of_ble_eq_true rfl) (by decide) (by decide) d_R_numberInChain_22 ?_
        refine vv_st (st' := [.int (bI (kAdvises u (u.2 (ix (nI p2))) x))]) rfl ?_
        refine vv_if_eq C 47 d_R_numberInChain_25 rfl (fun h2 => ?_) (fun h2 => ?_)
        · skip
          replace h2 := bI_f h2
          refine vv_iinc (j := 0) (v := nI (p2 + 1)) (lv' := [(4, .int (nI (p2 + 1))), (3, .int bf), (0, .ref (Γ.2.1 1)), (1, .int x), (2, .int y)]) C d_R_numberInChain_47 rfl (nI_1 p2) (by decide) rfl ?_
          refine vv_goto C 5 d_R_numberInChain_50 rfl ?_
          refine vv_lv [(4, .int (nI (p2 + 1))), (3, .int bf), (0, .ref (Γ.2.1 1)), (1, .int x), (2, .int y)] (by intro q hq; simp only [List.mem_cons, List.not_mem_nil, or_false] at hq; rcases hq with rfl | rfl | rfl | rfl | rfl <;> rfl) ?_
          exact ih bf (p2 + 1) (by omega) (by omega) (hE.trans (by rw [kNumL]; (first | rw [if_pos h1] | rw [if_neg h1] | rw [if_pos (by exact h1)] | rw [if_neg (by exact h1)] | rw [if_neg (by exact tf_f h1)] | rw [if_neg (by exact tf_t h1)]); (first | rw [if_pos h2] | rw [if_neg h2] | rw [if_pos (by exact h2)] | rw [if_neg (by exact h2)] | rw [if_neg (by exact tf_f h2)] | rw [if_neg (by exact tf_t h2)]); rw [nI_1]))
        · skip
          replace h2 := bI_t h2
          refine vv_iload_n C d_R_numberInChain_28 rfl ?_
          refine vv_iload_n C d_R_numberInChain_29 rfl ?_
          refine vv_icmp_ne C 44 d_R_numberInChain_30 rfl (fun h3 => ?_) (fun h3 => ?_)
          · skip
            refine vv_iinc (j := 1) (v := bf + 1) (lv' := [(3, .int (bf + 1)), (4, .int (nI p2)), (0, .ref (Γ.2.1 1)), (1, .int x), (2, .int y)]) C d_R_numberInChain_44 rfl rfl (by decide) rfl ?_
            refine vv_iinc (j := 1) (v := nI (p2 + 1)) (lv' := [(4, .int (nI (p2 + 1))), (3, .int (bf + 1)), (0, .ref (Γ.2.1 1)), (1, .int x), (2, .int y)]) C d_R_numberInChain_47 rfl (nI_1 p2) (by decide) rfl ?_
            refine vv_goto C 5 d_R_numberInChain_50 rfl ?_
            refine vv_lv [(4, .int (nI (p2 + 1))), (3, .int (bf + 1)), (0, .ref (Γ.2.1 1)), (1, .int x), (2, .int y)] (by intro q hq; simp only [List.mem_cons, List.not_mem_nil, or_false] at hq; rcases hq with rfl | rfl | rfl | rfl | rfl <;> rfl) ?_
            exact ih (bf + 1) (p2 + 1) (by omega) (by omega) (hE.trans (by rw [kNumL]; (first | rw [if_pos h1] | rw [if_neg h1] | rw [if_pos (by exact h1)] | rw [if_neg (by exact h1)] | rw [if_neg (by exact tf_f h1)] | rw [if_neg (by exact tf_t h1)]); (first | rw [if_pos h2] | rw [if_neg h2] | rw [if_pos (by exact h2)] | rw [if_neg (by exact h2)] | rw [if_neg (by exact tf_f h2)] | rw [if_neg (by exact tf_t h2)]); (first | rw [if_pos h3] | rw [if_neg h3] | rw [if_pos (by exact h3)] | rw [if_neg (by exact h3)] | rw [if_neg (by exact tf_f h3)] | rw [if_neg (by exact tf_t h3)]); rw [nI_1]))
          · skip
            refine vv_aload_n C d_R_numberInChain_33 rfl ?_
            refine g_R_R_row C d_R_numberInChain_34 ?_
            refine vv_iload C d_R_numberInChain_37 rfl ?_
            refine ld_1_2 C (in6 (by omega)) d_R_numberInChain_39 ?_
            refine g_R_A_number C hk2 d_R_numberInChain_40 ?_
            have hF : kNumIn u x y = u.1 13 (u.2 (ix (nI p2))) := by
              rw [hE]
              rw [kNumL]
              try dsimp only
              first | rw [if_pos h1] | rw [if_neg h1] | rw [if_pos (by exact h1)] | rw [if_neg (by exact h1)] | rw [if_neg (by exact tf_f h1)] | rw [if_neg (by exact tf_t h1)] | skip
              first | rw [if_pos h2] | rw [if_neg h2] | rw [if_pos (by exact h2)] | rw [if_neg (by exact h2)] | rw [if_neg (by exact tf_f h2)] | rw [if_neg (by exact tf_t h2)] | skip
              first | rw [if_pos h3] | rw [if_neg h3] | rw [if_pos (by exact h3)] | rw [if_neg (by exact h3)] | rw [if_neg (by exact tf_f h3)] | rw [if_neg (by exact tf_t h3)] | skip
              try rfl
            exact vv_iret C hr hlk (by rw [hF]) rfl d_R_numberInChain_43
  refine vv_iconst C (0) d_R_numberInChain_0 (by decide) ?_
  refine vv_istore_n (lv' := [(3, .int 0), (0, .ref (Γ.2.1 1)), (1, .int x), (2, .int y)]) C d_R_numberInChain_1 rfl (by decide) rfl ?_
  refine vv_iconst C (0) d_R_numberInChain_2 (by decide) ?_
  refine vv_istore (lv' := [(4, .int 0), (3, .int 0), (0, .ref (Γ.2.1 1)), (1, .int x), (2, .int y)]) C d_R_numberInChain_3 (by decide) rfl ?_
  exact loop 7 0 0 (by omega) (by omega) rfl
set_option maxHeartbeats 4000000 in
set_option maxRecDepth 100000 in
theorem c_R_settle (l : Launch) (Γ : Geo) (u : SC) (hI : IC u) (a0 t : Nat) (ht : t ≤ 6) (h6 : u.1 6 0 = nI t) (ha0 : a0 < t) : CtC l Γ y_R_settle b_R_settle 3 none 1 [.ref (Γ.2.1 1), .int (nI a0)] u none (kSettle u (nI a0)) := by
  refine ct_of (by decide +kernel) (Nat.le_of_ble_eq_true rfl) ?_
  intro p e s m args below meth c C hr hlk
  have loop2 : ∀ (f a : Nat) (v : SC), IC v → v.1 6 0 = nI t → a < t → t - a ≤ f → kSettle u (nI a0) = kDownL f v (nI a) → VV p l e (rmD 1) s m args below meth c 0 0 (MQ below (ctQ Γ.1 clA (inC Γ) none (wC Γ (kSettle u (nI a0)))) args s 0 0 (inC Γ)) 3 Γ.1 clA (inC Γ) s.heap (wC Γ v) 41 [(2, .int (nI a)), (0, .ref (Γ.2.1 1)), (1, .int (nI a0))] [] := by
    intro f
    induction f with
    | zero => intro a v _ _ h1 h2 _; omega
    | succ f ih =>
      intro a v hv hv6 ha hf hE
      refine vv_iload_n C d_R_settle_41 rfl ?_
      refine vv_iconst C (1) d_R_settle_42 (by decide) ?_
      refine vv_iadd C d_R_settle_43 ?_
      rw [nI_1]
      refine vv_aload_n C d_R_settle_44 rfl ?_
      refine g_R_R_there C d_R_settle_45 ?_
      refine vv_icmp_ge C 82 d_R_settle_48 rfl (fun h1 => ?_) (fun h1 => ?_)
      · skip
        have hF : kSettle u (nI a0) = v := by
          rw [hE]
          unfold kDownL
          rw [nI_1]
          first | rw [if_pos h1] | rw [if_neg h1] | rw [if_neg (by exact tf_f h1)]
        exact vv_vret C hr hlk rfl (by rw [hF]) d_R_settle_82
      · skip
        have hp2 := bd_lt ht hv6 (by omega) h1
        have hkA : v.2 (ix (nI (a + 1))) < 6 := IC_pi hv (in6 (by omega))
        have hkB : v.2 (ix (nI a)) < 6 := IC_pi hv (in6 (by omega))
        refine vv_aload_n C d_R_settle_51 rfl ?_
        refine g_R_R_row C d_R_settle_52 ?_
        refine vv_iload_n C d_R_settle_55 rfl ?_
        refine vv_iconst C (1) d_R_settle_56 (by decide) ?_
        refine vv_iadd C d_R_settle_57 ?_
        rw [nI_1]
        refine ld_1_2 C (in6 (by omega)) d_R_settle_58 ?_
        refine vv_aload_n C d_R_settle_59 rfl ?_
        refine g_R_R_row C d_R_settle_60 ?_
        refine vv_iload_n C d_R_settle_63 rfl ?_
        refine ld_1_2 C (in6 (by omega)) d_R_settle_64 ?_
        refine callC (rest := []) C (c_A_standsBefore l Γ v (v.2 (ix (nI (a + 1)))) hkA (v.2 (ix (nI a))) hkB) cw_R_A_standsBefore rfl (v.2 (ix (nI (a + 1))) + 9) (by have := hkA; omega) rfl (eC_adv hkA) rfl rfl (Nat.le_of_ble_eq_true rfl) (by decide) (by decide) d_R_settle_65 ?_
        refine vv_st (st' := [.int (bI (kBefore v (v.2 (ix (nI (a + 1)))) (v.2 (ix (nI a)))))]) rfl ?_
        refine vv_if_eq C 82 d_R_settle_68 rfl (fun h2 => ?_) (fun h2 => ?_)
        · skip
          replace h2 := bI_f h2
          have hF : kSettle u (nI a0) = v := by
            rw [hE]
            unfold kDownL
            rw [nI_1]
            first | rw [if_pos h1] | rw [if_neg h1] | rw [if_neg (by exact tf_f h1)]
            first | rw [if_pos h2] | rw [if_neg h2] | rw [if_neg (by exact tf_f h2)]
          exact vv_vret C hr hlk rfl (by rw [hF]) d_R_settle_82
        · skip
          replace h2 := bI_t h2
          refine vv_aload_n C d_R_settle_71 rfl ?_
          refine vv_iload_n C d_R_settle_72 rfl ?_
          refine callC (rest := []) C (c_R_swapWithNext l Γ v hv (nI a) (in6 (by omega)) (by rw [nI_1]; exact in6 (by omega))) cw_R_R_swapWithNext rfl 1 (by decide) rfl rfl rfl rfl (Nat.le_of_ble_eq_true rfl) (by decide) (by decide) d_R_settle_73 ?_
          refine vv_st (st' := []) rfl ?_
          refine vv_iinc (j := 0) (v := nI (a + 1)) (lv' := [(2, .int (nI (a + 1))), (0, .ref (Γ.2.1 1)), (1, .int (nI a0))]) C d_R_settle_76 rfl (nI_1 a) (by decide) rfl ?_
          refine vv_goto C 41 d_R_settle_79 rfl ?_
          exact ih (a + 1) (kSwap v (nI a)) (IC_swap hv (in6 (by omega)) (by rw [nI_1]; exact in6 (by omega))) hv6 (by omega) (by omega) (hE.trans (by rw [kDownL, nI_1, if_neg h1, if_pos h2]))
  have loop1 : ∀ (f a : Nat) (v : SC), IC v → v.1 6 0 = nI t → a < t → a < f → kSettle u (nI a0) = kDownL 7 (kUpL f v (nI a)) (nI a0) → VV p l e (rmD 1) s m args below meth c 0 0 (MQ below (ctQ Γ.1 clA (inC Γ) none (wC Γ (kSettle u (nI a0)))) args s 0 0 (inC Γ)) 3 Γ.1 clA (inC Γ) s.heap (wC Γ v) 2 [(2, .int (nI a)), (0, .ref (Γ.2.1 1)), (1, .int (nI a0))] [] := by
    intro f
    induction f with
    | zero => intro a v _ _ h1 h2 _; omega
    | succ f ih =>
      intro a v hv hv6 ha hf hE
      refine vv_iload_n C d_R_settle_2 rfl ?_
      refine vv_if_le C 39 d_R_settle_3 rfl (fun h1 => ?_) (fun h1 => ?_)
      · skip
        have hU : kUpL (f + 1) v (nI a) = v := by
          unfold kUpL
          first | rw [if_pos h1] | rw [if_neg h1] | rw [if_neg (by exact tf_f h1)]
        rw [hU] at hE
        refine vv_iload_n C d_R_settle_39 rfl ?_
        refine vv_istore_n (lv' := [(2, .int (nI a0)), (0, .ref (Γ.2.1 1)), (1, .int (nI a0))]) C d_R_settle_40 rfl (by decide) rfl ?_
        exact loop2 7 a0 v hv hv6 ha0 (by omega) hE
      · skip
        obtain ⟨b, rfl⟩ : ∃ b, a = b + 1 := ⟨a - 1, by have : a ≠ 0 := fun z => h1 (by rw [z]; decide); omega⟩
        have hkA : v.2 (ix (nI (b + 1))) < 6 := IC_pi hv (in6 (by omega))
        have hkB : v.2 (ix (nI b)) < 6 := IC_pi hv (in6 (by omega))
        refine vv_aload_n C d_R_settle_6 rfl ?_
        refine g_R_R_row C d_R_settle_7 ?_
        refine vv_iload_n C d_R_settle_10 rfl ?_
        refine ld_1_2 C (in6 (by omega)) d_R_settle_11 ?_
        refine vv_aload_n C d_R_settle_12 rfl ?_
        refine g_R_R_row C d_R_settle_13 ?_
        refine vv_iload_n C d_R_settle_16 rfl ?_
        refine vv_iconst C (1) d_R_settle_17 (by decide) ?_
        refine vv_isub C d_R_settle_18 ?_
        rw [nI_pred]
        refine ld_1_2 C (in6 (by omega)) d_R_settle_19 ?_
        refine callC (rest := []) C (c_A_standsBefore l Γ v (v.2 (ix (nI (b + 1)))) hkA (v.2 (ix (nI b))) hkB) cw_R_A_standsBefore rfl (v.2 (ix (nI (b + 1))) + 9) (by have := hkA; omega) rfl (eC_adv hkA) rfl rfl (Nat.le_of_ble_eq_true rfl) (by decide) (by decide) d_R_settle_20 ?_
        refine vv_st (st' := [.int (bI (kBefore v (v.2 (ix (nI (b + 1)))) (v.2 (ix (nI b)))))]) rfl ?_
        refine vv_if_eq C 39 d_R_settle_23 rfl (fun h2 => ?_) (fun h2 => ?_)
        · skip
          replace h2 := bI_f h2
          have hU : kUpL (f + 1) v (nI (b + 1)) = v := by
            unfold kUpL
            rw [nI_pred]
            first | rw [if_pos h1] | rw [if_neg h1] | rw [if_neg (by exact tf_f h1)]
            first | rw [if_pos h2] | rw [if_neg h2] | rw [if_neg (by exact tf_f h2)]
          rw [hU] at hE
          refine vv_iload_n C d_R_settle_39 rfl ?_
          refine vv_istore_n (lv' := [(2, .int (nI a0)), (0, .ref (Γ.2.1 1)), (1, .int (nI a0))]) C d_R_settle_40 rfl (by decide) rfl ?_
          exact loop2 7 a0 v hv hv6 ha0 (by omega) hE
        · skip
          replace h2 := bI_t h2
          refine vv_aload_n C d_R_settle_26 rfl ?_
          refine vv_iload_n C d_R_settle_27 rfl ?_
          refine vv_iconst C (1) d_R_settle_28 (by decide) ?_
          refine vv_isub C d_R_settle_29 ?_
          rw [nI_pred]
          refine callC (rest := []) C (c_R_swapWithNext l Γ v hv (nI b) (in6 (by omega)) (by rw [nI_1]; exact in6 (by omega))) cw_R_R_swapWithNext rfl 1 (by decide) rfl rfl rfl rfl (Nat.le_of_ble_eq_true rfl) (by decide) (by decide) d_R_settle_30 ?_
          refine vv_st (st' := []) rfl ?_
          refine vv_iinc (j := 0) (v := nI b) (lv' := [(2, .int (nI b)), (0, .ref (Γ.2.1 1)), (1, .int (nI a0))]) C d_R_settle_33 rfl (pk_m1 b) (by decide) rfl ?_
          refine vv_goto C 2 d_R_settle_36 rfl ?_
          exact ih b (kSwap v (nI b)) (IC_swap hv (in6 (by omega)) (by rw [nI_1]; exact in6 (by omega))) hv6 (by omega) (by omega) (hE.trans (by rw [kUpL, nI_pred, pk_m1, if_neg h1, if_pos h2]))
  refine vv_iload_n C d_R_settle_0 rfl ?_
  refine vv_istore_n (lv' := [(2, .int (nI a0)), (0, .ref (Γ.2.1 1)), (1, .int (nI a0))]) C d_R_settle_1 rfl (by decide) rfl ?_
  exact loop1 7 a0 u hI h6 ha0 (by omega) rfl
set_option maxHeartbeats 4000000 in
set_option maxRecDepth 100000 in
theorem c_R_takeAway (l : Launch) (Γ : Geo) (u : SC) (hI : IC u) (a0 t : Nat) (ht : t < 6) (h6 : u.1 6 0 = nI (t + 1)) (ha0 : a0 ≤ t) : CtC l Γ y_R_takeAway b_R_takeAway 3 none 1 [.ref (Γ.2.1 1), .int (nI a0)] u none (kTakeAway u (nI a0)) := by
  refine ct_of (by decide +kernel) (Nat.le_of_ble_eq_true rfl) ?_
  intro p e s m args below meth c C hr hlk
  have loop : ∀ (f a : Nat) (v : SC), IC v → v.1 6 0 = nI t → a ≤ t → t - a < f → kTakeAway u (nI a0) = kTakeL f v (nI a) → VV p l e (rmD 1) s m args below meth c 0 0 (MQ below (ctQ Γ.1 clA (inC Γ) none (wC Γ (kTakeAway u (nI a0)))) args s 0 0 (inC Γ)) 3 Γ.1 clA (inC Γ) s.heap (wC Γ v) 12 [(2, .int (nI a)), (0, .ref (Γ.2.1 1)), (1, .int (nI a0))] [] := by
    intro f
    induction f with
    | zero => intro a v _ _ h1 h2 _; omega
    | succ f ih =>
      intro a v hv hv6 ha hf hE
      refine vv_iload_n C d_R_takeAway_12 rfl ?_
      refine vv_aload_n C d_R_takeAway_13 rfl ?_
      refine g_R_R_there C d_R_takeAway_14 ?_
      refine vv_icmp_ge C 31 d_R_takeAway_17 rfl (fun h1 => ?_) (fun h1 => ?_)
      · skip
        have hF : kTakeAway u (nI a0) = v := by
          rw [hE]
          unfold kTakeL
          rw [if_pos h1]
        exact vv_vret C hr hlk rfl (by rw [hF]) d_R_takeAway_31
      · skip
        have hp2 := bd_lt (by omega) hv6 (by omega) h1
        refine vv_aload_n C d_R_takeAway_20 rfl ?_
        refine vv_iload_n C d_R_takeAway_21 rfl ?_
        refine callC (rest := []) C (c_R_swapWithNext l Γ v hv (nI a) (in6 (by omega)) (by rw [nI_1]; exact in6 (by omega))) cw_R_R_swapWithNext rfl 1 (by decide) rfl rfl rfl rfl (Nat.le_of_ble_eq_true rfl) (by decide) (by decide) d_R_takeAway_22 ?_
        refine vv_st (st' := []) rfl ?_
        refine vv_iinc (j := 0) (v := nI (a + 1)) (lv' := [(2, .int (nI (a + 1))), (0, .ref (Γ.2.1 1)), (1, .int (nI a0))]) C d_R_takeAway_25 rfl (nI_1 a) (by decide) rfl ?_
        refine vv_goto C 12 d_R_takeAway_28 rfl ?_
        exact ih (a + 1) (kSwap v (nI a)) (IC_swap hv (in6 (by omega)) (by rw [nI_1]; exact in6 (by omega))) hv6 (by omega) (by omega) (hE.trans (by rw [kTakeL, if_neg h1, nI_1]))
  refine vv_aload_n C d_R_takeAway_0 rfl ?_
  refine vv_dup C d_R_takeAway_1 rfl ?_
  refine g_R_R_there C d_R_takeAway_2 ?_
  refine vv_iconst C (1) d_R_takeAway_5 (by decide) ?_
  refine vv_isub C d_R_takeAway_6 ?_
  refine p_R_R_there C d_R_takeAway_7 ?_
  refine vv_iload_n C d_R_takeAway_10 rfl ?_
  refine vv_istore_n (lv' := [(2, .int (nI a0)), (0, .ref (Γ.2.1 1)), (1, .int (nI a0))]) C d_R_takeAway_11 rfl (by decide) rfl ?_
  refine loop 7 a0 (wr u 6 0 (u.1 6 0 - 1)) ⟨⟨t, by omega, ?_⟩, hI.2⟩ ?_ ha0 (by omega) rfl
  · show u.1 6 0 - 1 = nI t; rw [h6, nI_pred]
  · show u.1 6 0 - 1 = nI t; rw [h6, nI_pred]
set_option maxHeartbeats 4000000 in
set_option maxRecDepth 100000 in
theorem c_R_move (l : Launch) (Γ : Geo) (u : SC) (hI : IC u) (a0 t : Nat) (ht : t ≤ 6) (h6 : u.1 6 0 = nI t) (ha0 : a0 < t) (x : Int32) : CtC l Γ y_R_move b_R_move 3 none 2 [.ref (Γ.2.1 1), .int (nI a0), .int x] u none (kMove u (nI a0) x) := by
  refine ct_of (by decide +kernel) (Nat.le_of_ble_eq_true rfl) ?_
  intro p e s m args below meth c C hr hlk
  refine vv_aload_n C d_R_move_0 rfl ?_
  refine g_R_R_row C d_R_move_1 ?_
  refine vv_iload_n C d_R_move_4 rfl ?_
  refine ld_1_2 C (in6 (by omega)) d_R_move_5 ?_
  refine vv_iload_n C d_R_move_6 rfl ?_
  refine p_R_A_order C (IC_pi hI (in6 (by omega))) d_R_move_7 ?_
  refine vv_aload_n C d_R_move_10 rfl ?_
  refine vv_iload_n C d_R_move_11 rfl ?_
  refine callC (rest := []) C (c_R_settle l Γ (wr u 15 (u.2 (ix (nI a0))) x) hI a0 t ht h6 ha0) cw_R_R_settle rfl 1 (by decide) rfl rfl rfl rfl (Nat.le_of_ble_eq_true rfl) (by decide) (by decide) d_R_move_12 ?_
  refine vv_st (st' := []) rfl ?_
  exact vv_vret C hr hlk rfl rfl d_R_move_15
set_option maxHeartbeats 4000000 in
set_option maxRecDepth 100000 in
theorem c_R_make (l : Launch) (Γ : Geo) (u : SC) (hI : IC u) (t : Nat) (ht : t < 6) (h6 : u.1 6 0 = nI t) (kd od ms aa bb : Int32) : CtC l Γ y_R_make b_R_make 7 (some .int) 2 [.ref (Γ.2.1 1), .int kd, .int od, .int ms, .int aa, .int bb] u (some (.int (kMake u kd od ms aa bb).1)) (kMake u kd od ms aa bb).2 := by
  refine ct_of (by decide +kernel) (Nat.le_of_ble_eq_true rfl) ?_
  intro p e s m args below meth c C hr hlk
  have hb8 : vp_in (u.1 6 0) 6 := by rw [h6]; exact in6 ht
  have hk8 := IC_pi hI hb8
  have hW6 : (wr (wr (wr (wr (wr (wr (wr (wr (wr u 13 (u.2 (ix (u.1 6 0))) (u.1 7 0)) 14 (u.2 (ix (u.1 6 0))) kd) 15 (u.2 (ix (u.1 6 0))) od) 16 (u.2 (ix (u.1 6 0))) ms) 17 (u.2 (ix (u.1 6 0))) aa) 18 (u.2 (ix (u.1 6 0))) bb) 19 (u.2 (ix (u.1 6 0))) 0) 7 0 (u.1 7 0 + 1)) 6 0 (u.1 6 0 + 1)).1 6 0 = nI (t + 1) := by show u.1 6 0 + 1 = _; rw [h6, nI_1]
  have hW : IC (wr (wr (wr (wr (wr (wr (wr (wr (wr u 13 (u.2 (ix (u.1 6 0))) (u.1 7 0)) 14 (u.2 (ix (u.1 6 0))) kd) 15 (u.2 (ix (u.1 6 0))) od) 16 (u.2 (ix (u.1 6 0))) ms) 17 (u.2 (ix (u.1 6 0))) aa) 18 (u.2 (ix (u.1 6 0))) bb) 19 (u.2 (ix (u.1 6 0))) 0) 7 0 (u.1 7 0 + 1)) 6 0 (u.1 6 0 + 1)) := ⟨⟨t + 1, by omega, hW6⟩, hI.2⟩
  have hW85 : u.1 6 0 + 1 - 1 = nI t := by rw [h6, nI_1, nI_pred]
  refine vv_aload_n C d_R_make_0 rfl ?_
  refine g_R_R_row C d_R_make_1 ?_
  refine vv_aload_n C d_R_make_4 rfl ?_
  refine g_R_R_there C d_R_make_5 ?_
  refine ld_1_2 C hb8 d_R_make_8 ?_
  refine vv_astore (lv' := [(6, .ref (Γ.2.1 (u.2 (ix (u.1 6 0)) + 9))), (0, .ref (Γ.2.1 1)), (1, .int kd), (2, .int od), (3, .int ms), (4, .int aa), (5, .int bb)]) C d_R_make_9 (by decide) rfl ?_
  refine vv_aload C d_R_make_11 rfl ?_
  refine vv_aload_n C d_R_make_13 rfl ?_
  refine g_R_R_nextNumber C d_R_make_14 ?_
  refine p_R_A_number C hk8 d_R_make_17 ?_
  refine vv_aload C d_R_make_20 rfl ?_
  refine vv_iload_n C d_R_make_22 rfl ?_
  refine p_R_A_kind C hk8 d_R_make_23 ?_
  refine vv_aload C d_R_make_26 rfl ?_
  refine vv_iload_n C d_R_make_28 rfl ?_
  refine p_R_A_order C hk8 d_R_make_29 ?_
  refine vv_aload C d_R_make_32 rfl ?_
  refine vv_iload_n C d_R_make_34 rfl ?_
  refine p_R_A_methods C hk8 d_R_make_35 ?_
  refine vv_aload C d_R_make_38 rfl ?_
  refine vv_iload C d_R_make_40 rfl ?_
  refine p_R_A_a C hk8 d_R_make_42 ?_
  refine vv_aload C d_R_make_45 rfl ?_
  refine vv_iload C d_R_make_47 rfl ?_
  refine p_R_A_b C hk8 d_R_make_49 ?_
  refine vv_aload C d_R_make_52 rfl ?_
  refine vv_iconst C (0) d_R_make_54 (by decide) ?_
  refine p_R_A_hasRange C hk8 rfl rfl d_R_make_55 ?_
  refine vv_aload_n C d_R_make_58 rfl ?_
  refine vv_dup C d_R_make_59 rfl ?_
  refine g_R_R_nextNumber C d_R_make_60 ?_
  refine vv_iconst C (1) d_R_make_63 (by decide) ?_
  refine vv_iadd C d_R_make_64 ?_
  refine p_R_R_nextNumber C d_R_make_65 ?_
  refine vv_aload_n C d_R_make_68 rfl ?_
  refine vv_dup C d_R_make_69 rfl ?_
  refine g_R_R_there C d_R_make_70 ?_
  refine vv_iconst C (1) d_R_make_73 (by decide) ?_
  refine vv_iadd C d_R_make_74 ?_
  refine p_R_R_there C d_R_make_75 ?_
  refine vv_aload_n C d_R_make_78 rfl ?_
  refine vv_aload_n C d_R_make_79 rfl ?_
  refine g_R_R_there C d_R_make_80 ?_
  refine vv_iconst C (1) d_R_make_83 (by decide) ?_
  refine vv_isub C d_R_make_84 ?_
  refine vv_st (st' := [.int (nI t), .ref (Γ.2.1 1)]) (by show [Value.int (u.1 6 0 + 1 - 1), Value.ref (Γ.2.1 1)] = _; rw [hW85]) ?_
  refine callC (rest := []) C (c_R_settle l Γ (wr (wr (wr (wr (wr (wr (wr (wr (wr u 13 (u.2 (ix (u.1 6 0))) (u.1 7 0)) 14 (u.2 (ix (u.1 6 0))) kd) 15 (u.2 (ix (u.1 6 0))) od) 16 (u.2 (ix (u.1 6 0))) ms) 17 (u.2 (ix (u.1 6 0))) aa) 18 (u.2 (ix (u.1 6 0))) bb) 19 (u.2 (ix (u.1 6 0))) 0) 7 0 (((wr (wr (wr (wr (wr (wr (wr u 13 (u.2 (ix (u.1 6 0))) (u.1 7 0)) 14 (u.2 (ix (u.1 6 0))) kd) 15 (u.2 (ix (u.1 6 0))) od) 16 (u.2 (ix (u.1 6 0))) ms) 17 (u.2 (ix (u.1 6 0))) aa) 18 (u.2 (ix (u.1 6 0))) bb) 19 (u.2 (ix (u.1 6 0))) 0).1 7 0) + 1)) 6 0 (((wr (wr (wr (wr (wr (wr (wr (wr u 13 (u.2 (ix (u.1 6 0))) (u.1 7 0)) 14 (u.2 (ix (u.1 6 0))) kd) 15 (u.2 (ix (u.1 6 0))) od) 16 (u.2 (ix (u.1 6 0))) ms) 17 (u.2 (ix (u.1 6 0))) aa) 18 (u.2 (ix (u.1 6 0))) bb) 19 (u.2 (ix (u.1 6 0))) 0) 7 0 (((wr (wr (wr (wr (wr (wr (wr u 13 (u.2 (ix (u.1 6 0))) (u.1 7 0)) 14 (u.2 (ix (u.1 6 0))) kd) 15 (u.2 (ix (u.1 6 0))) od) 16 (u.2 (ix (u.1 6 0))) ms) 17 (u.2 (ix (u.1 6 0))) aa) 18 (u.2 (ix (u.1 6 0))) bb) 19 (u.2 (ix (u.1 6 0))) 0).1 7 0) + 1)).1 6 0) + 1)) hW t (t + 1) (by omega) hW6 (by omega)) cw_R_R_settle rfl 1 (by decide) rfl rfl rfl rfl (Nat.le_of_ble_eq_true rfl) (by decide) (by decide) d_R_make_85 ?_
  refine vv_st (st' := []) rfl ?_
  refine vv_aload C d_R_make_88 rfl ?_
  refine g_R_A_number C hk8 d_R_make_90 ?_
  exact vv_iret C hr hlk (by unfold kMake; dsimp only; rw [hW85]; rfl) (by unfold kMake; dsimp only; rw [hW85]; rfl) d_R_make_93
end
section
def GoC (n : Nat) : Prop := ∀ (l : Launch) (Γ : Geo) (u : SC) (dd ff : Nat) (x : Int32), dd < 3 → ff ≤ 6 → (2 - dd) * 7 + (6 - ff) < n → IC u → CtC l Γ y_L_goAlong b_L_goAlong 6 (some .int) (3 * n) [.ref (Γ.2.1 0), .int (nI dd), .int (nI ff), .int x] u (some (.int (kGo n (nI dd) (nI ff) x u).1)) (kGo n (nI dd) (nI ff) x u).2
theorem in3 {p : Nat} (h : p < 3) : vp_in (nI p) 3 := vp_in_nI h (by omega)
theorem lt3_of {d : Nat} (hd : d ≤ 3) (h : nI d < 3) : d < 3 := by
  rw [show (3 : Int32) = nI 3 from rfl, nlt (by omega) (by omega)] at h
  exact h
theorem IC_beg {u : SC} (h : IC u) {x : Int32} (hx : ∃ q, q < 6 ∧ x = nI q) (i : Nat) : IC (wr (kTake (wr u 9 i x)).2 10 i (kTake (wr u 9 i x)).1) := by
  obtain ⟨q, hq, rfl⟩ := hx
  obtain ⟨h1, b, hb, e⟩ := IC_take (IC_set9 h i hq)
  rw [e]
  exact IC_set10 h1 i hb
theorem w_in {u : SC} (h : IC u) {dd : Nat} (hd : dd < 3) : vp_in (u.1 10 (ix (nI dd)) * 6 + u.1 9 (ix (nI dd))) 12 ∧ ix (u.1 10 (ix (nI dd)) * 6 + u.1 9 (ix (nI dd))) < 12 := by
  obtain ⟨a, ha, ea⟩ := h.2.2.2.1 dd hd
  obtain ⟨b, hb, eb⟩ := h.2.2.2.2.1 dd hd
  rw [ixn (by omega : dd < 1000), ea, eb, show (6 : Int32) = nI 6 from rfl, pk_mul, nI_add]
  exact ⟨vp_in_nI (by omega) (by omega), by rw [ixn (by omega)]; omega⟩
theorem nx_ok {u : SC} (h : IC u) {j : Nat} (hj : j < 12) (hn : ¬ u.1 26 j = -1) : ∃ q, q < 6 ∧ u.1 26 j = nI q := (h.2.2.2.2.2.2.2 j hj).elim (fun z => absurd z hn) id
theorem ch_ok {u : SC} (h : IC u) {ff : Nat} {x : Int32} (hf : ff ≤ 6) (hn : ¬ kChainP u x (nI ff) = -1) : ∃ q, ff ≤ q ∧ q < 6 ∧ kChainP u x (nI ff) = nI q := by
  obtain ⟨t, ht, h6⟩ := h.1
  by_cases c : ff ≤ t
  · rcases kChainL_spec u x ht h6 7 ff c (by omega) with ⟨z, -⟩ | ⟨q, z1, z2, z3, -⟩
    · exact absurd z hn
    · exact ⟨q, z1, by omega, z3⟩
  · exfalso
    apply hn
    show kChainL u x 7 (nI ff) = -1
    rw [kChainL, h6, if_pos ((nle (by omega) (by omega)).mpr (by omega))]
theorem sw_out {x : Int32} {m : Nat} (hm : m < 20) (h : ∀ j, j ≤ m → ¬ x = nI j) : x.toInt < 0 ∨ (m : Int) < x.toInt := by
  by_cases c : x < 0
  · simp only [Int32.lt_iff_toInt_lt] at c
    exact Or.inl c
  · obtain ⟨j, hj, rfl⟩ := nI_of c
    rw [nI_toInt hj]
    right
    by_cases c2 : j ≤ m
    · exact absurd rfl (h j c2)
    · omega
set_option maxHeartbeats 4000000 in
set_option maxRecDepth 100000 in
theorem c_L_begin (l : Launch) (Γ : Geo) (u : SC) {n : Nat} (hG : GoC n) (x0 a : Int32) (d1 : Nat) (hd1 : d1 ≤ 3) (hmu : d1 < 3 → (2 - d1) * 7 + (6 - 0) < n) (hm : ∃ q, q < 6 ∧ x0 = nI q) (hI : IC u) : CtC l Γ y_L_begin b_L_begin 4 (some .int) (3 * n + 1) [.ref (Γ.2.1 0), .int x0, .int a, .int (nI d1)] u (some (.int (kBegin (kGo n) x0 a (nI d1) u).1)) (kBegin (kGo n) x0 a (nI d1) u).2 := by
  refine ct_of (by decide +kernel) (Nat.le_of_ble_eq_true rfl) ?_
  intro p e s m args below meth c C hr hlk
  refine vv_iload_n C d_L_begin_0 rfl ?_
  refine vv_iconst C (3) d_L_begin_1 (by decide) ?_
  refine vv_icmp_lt C 12 d_L_begin_2 rfl (fun h1 => ?_) (fun h1 => ?_)
  · skip
    have hd3 := lt3_of hd1 h1
    refine vv_aload_n C d_L_begin_12 rfl ?_
    refine g_L_L_methodAt C d_L_begin_13 ?_
    refine vv_iload_n C d_L_begin_16 rfl ?_
    refine vv_iload_n C d_L_begin_17 rfl ?_
    refine sr_4_7 C (in3 hd3) d_L_begin_18 ?_
    refine vv_aload_n C d_L_begin_19 rfl ?_
    refine g_L_L_targetAt C d_L_begin_20 ?_
    refine vv_iload_n C d_L_begin_23 rfl ?_
    refine vv_aload_n C d_L_begin_24 rfl ?_
    refine callC (rest := [.int (nI d1), .ref (Γ.2.1 8)]) C (c_L_takeTarget l Γ (wr u 9 (ix (nI d1)) x0)) cw_L_L_takeTarget rfl 0 (by decide) rfl rfl rfl rfl (Nat.le_of_ble_eq_true rfl) (by decide) (by omega) d_L_begin_25 ?_
    refine vv_st (st' := [.int ((kTake (wr u 9 (ix (nI d1)) x0)).1), .int (nI d1), .ref (Γ.2.1 8)]) rfl ?_
    refine sr_4_8 C (in3 hd3) d_L_begin_28 ?_
    refine vv_aload_n C d_L_begin_29 rfl ?_
    refine vv_iload_n C d_L_begin_30 rfl ?_
    refine vv_iconst C (0) d_L_begin_31 (by decide) ?_
    refine vv_iload_n C d_L_begin_32 rfl ?_
    refine callC (rest := []) C (hG l Γ (wr ((kTake (wr u 9 (ix (nI d1)) x0)).2) 10 (ix (nI d1)) ((kTake (wr u 9 (ix (nI d1)) x0)).1)) d1 0 a hd3 (by omega) (hmu hd3) (IC_beg hI hm (ix (nI d1)))) cw_L_L_goAlong rfl 0 (by decide) rfl rfl rfl rfl (Nat.le_of_ble_eq_true rfl) (by decide) (by omega) d_L_begin_33 ?_
    refine vv_st (st' := [.int ((kGo n (nI d1) 0 a (wr ((kTake (wr u 9 (ix (nI d1)) x0)).2) 10 (ix (nI d1)) ((kTake (wr u 9 (ix (nI d1)) x0)).1))).1)]) rfl ?_
    have hE : kBegin (kGo n) x0 a (nI d1) u = ((kGo n (nI d1) 0 a (wr ((kTake (wr u 9 (ix (nI d1)) x0)).2) 10 (ix (nI d1)) ((kTake (wr u 9 (ix (nI d1)) x0)).1))).1, ((kGo n (nI d1) 0 a (wr ((kTake (wr u 9 (ix (nI d1)) x0)).2) 10 (ix (nI d1)) ((kTake (wr u 9 (ix (nI d1)) x0)).1))).2)) := by
      unfold kBegin
      try dsimp only
      first | rw [if_pos h1] | rw [if_neg h1] | rw [if_pos (by exact h1)] | rw [if_neg (by exact h1)] | rw [if_neg (by exact z_nle h1)] | rw [if_pos (by exact z_le h1)] | rw [if_neg (by exact z_nlt h1)] | rw [if_pos (by exact z_lt h1)] | rw [if_neg (by rw [h1]; decide)] | rw [if_pos (by rw [h1])] | rw [if_neg (by exact tf_t h1)] | rw [if_neg (by exact tf_f h1)] | simp only [h1] | skip
      try rfl
    exact vv_iret C hr hlk (by rw [hE] <;> rfl) (by rw [hE] <;> rfl) d_L_begin_36
  · skip
    refine vv_aload_n C d_L_begin_5 rfl ?_
    refine vv_bipush C (15) d_L_begin_6 (by decide) ?_
    refine callC (rest := []) C (c_L_thrown l Γ u 15) cw_L_L_thrown rfl 0 (by decide) rfl rfl rfl rfl (Nat.le_of_ble_eq_true rfl) (by decide) (by omega) d_L_begin_8 ?_
    refine vv_st (st' := [.int 1]) rfl ?_
    have hE : kBegin (kGo n) x0 a (nI d1) u = (1, (wr u 5 0 15)) := by
      unfold kBegin
      try dsimp only
      first | rw [if_pos h1] | rw [if_neg h1] | rw [if_pos (by exact h1)] | rw [if_neg (by exact h1)] | rw [if_neg (by exact z_nle h1)] | rw [if_pos (by exact z_le h1)] | rw [if_neg (by exact z_nlt h1)] | rw [if_pos (by exact z_lt h1)] | rw [if_neg (by rw [h1]; decide)] | rw [if_pos (by rw [h1])] | rw [if_neg (by exact tf_t h1)] | rw [if_neg (by exact tf_f h1)] | simp only [h1] | skip
      try rfl
    exact vv_iret C hr hlk (by rw [hE] <;> rfl) (by rw [hE] <;> rfl) d_L_begin_11
set_option maxHeartbeats 4000000 in
set_option maxRecDepth 100000 in
theorem c_L_actBefore (l : Launch) (Γ : Geo) (u : SC) {n : Nat} (hG : GoC n) (k : Nat) (hk : k < 6) (dd bb : Nat) (x : Int32) (hdd : dd < 3) (hbb : bb ≤ 6) (hmu : (2 - dd) * 7 + (6 - bb) < n) (hI : IC u) : CtC l Γ y_L_actBefore b_L_actBefore 5 (some .int) (3 * n + 1) [.ref (Γ.2.1 0), .ref (Γ.2.1 (k + 9)), .int (nI dd), .int (nI bb), .int x] u (some (.int (kBef (kGo n) k (nI dd) (nI bb) x u).1)) (kBef (kGo n) k (nI dd) (nI bb) x u).2 := by
  refine ct_of (by decide +kernel) (Nat.le_of_ble_eq_true rfl) ?_
  intro p e s m args below meth c C hr hlk
  refine vv_aload_n C d_L_actBefore_0 rfl ?_
  refine g_L_L_trace C d_L_actBefore_1 ?_
  refine vv_aload_n C d_L_actBefore_4 rfl ?_
  refine g_L_A_number C hk d_L_actBefore_5 ?_
  refine vv_iload C d_L_actBefore_8 rfl ?_
  refine callC (rest := []) C (c_T_note l Γ u hI (u.1 13 k) x) cw_L_T_note rfl 4 (by decide) rfl rfl rfl rfl (Nat.le_of_ble_eq_true rfl) (by decide) (by omega) d_L_actBefore_10 ?_
  refine vv_st (st' := [.int (bI (kNote u (u.1 13 k) x).1)]) rfl ?_
  refine vv_if_ne C 21 d_L_actBefore_13 rfl (fun h1 => ?_) (fun h1 => ?_)
  · skip
    replace h1 := bI_t h1
    refine vv_iload C d_L_actBefore_21 rfl ?_
    refine vv_aload_n C d_L_actBefore_23 rfl ?_
    refine g_L_A_a C hk d_L_actBefore_24 ?_
    refine vv_icmp_ne C 41 d_L_actBefore_27 rfl (fun h2 => ?_) (fun h2 => ?_)
    · skip
      refine vv_aload_n C d_L_actBefore_41 rfl ?_
      refine vv_iload_n C d_L_actBefore_42 rfl ?_
      refine vv_iload_n C d_L_actBefore_43 rfl ?_
      refine vv_iload C d_L_actBefore_44 rfl ?_
      refine callC (rest := []) C (hG l Γ ((kNote u (u.1 13 k) x).2) dd bb x hdd hbb hmu (IC_note hI (u.1 13 k) x)) cw_L_L_goAlong rfl 0 (by decide) rfl rfl rfl rfl (Nat.le_of_ble_eq_true rfl) (by decide) (by omega) d_L_actBefore_46 ?_
      refine vv_st (st' := [.int ((kGo n (nI dd) (nI bb) x ((kNote u (u.1 13 k) x).2)).1)]) rfl ?_
      have hE : kBef (kGo n) k (nI dd) (nI bb) x u = ((kGo n (nI dd) (nI bb) x ((kNote u (u.1 13 k) x).2)).1, ((kGo n (nI dd) (nI bb) x ((kNote u (u.1 13 k) x).2)).2)) := by
        unfold kBef
        try dsimp only
        first | rw [if_pos h1] | rw [if_neg h1] | rw [if_pos (by exact h1)] | rw [if_neg (by exact h1)] | rw [if_neg (by exact z_nle h1)] | rw [if_pos (by exact z_le h1)] | rw [if_neg (by exact z_nlt h1)] | rw [if_pos (by exact z_lt h1)] | rw [if_neg (by rw [h1]; decide)] | rw [if_pos (by rw [h1])] | rw [if_neg (by exact tf_t h1)] | rw [if_neg (by exact tf_f h1)] | simp only [h1] | skip
        first | rw [if_pos h2] | rw [if_neg h2] | rw [if_pos (by exact h2)] | rw [if_neg (by exact h2)] | rw [if_neg (by exact z_nle h2)] | rw [if_pos (by exact z_le h2)] | rw [if_neg (by exact z_nlt h2)] | rw [if_pos (by exact z_lt h2)] | rw [if_neg (by rw [h2]; decide)] | rw [if_pos (by rw [h2])] | rw [if_neg (by exact tf_t h2)] | rw [if_neg (by exact tf_f h2)] | simp only [h2] | skip
        try rfl
      exact vv_iret C hr hlk (by rw [hE] <;> rfl) (by rw [hE] <;> rfl) d_L_actBefore_49
    · skip
      refine vv_aload_n C d_L_actBefore_30 rfl ?_
      refine vv_aload_n C d_L_actBefore_31 rfl ?_
      refine g_L_A_b C hk d_L_actBefore_32 ?_
      refine callC (rest := []) C (c_L_thrown l Γ ((kNote u (u.1 13 k) x).2) (((kNote u (u.1 13 k) x).2).1 18 k)) cw_L_L_thrown rfl 0 (by decide) rfl rfl rfl rfl (Nat.le_of_ble_eq_true rfl) (by decide) (by omega) d_L_actBefore_35 ?_
      refine vv_st (st' := [.int 1]) rfl ?_
      refine vv_goto C 49 d_L_actBefore_38 rfl ?_
      have hE : kBef (kGo n) k (nI dd) (nI bb) x u = (1, (wr ((kNote u (u.1 13 k) x).2) 5 0 (((kNote u (u.1 13 k) x).2).1 18 k))) := by
        unfold kBef
        try dsimp only
        first | rw [if_pos h1] | rw [if_neg h1] | rw [if_pos (by exact h1)] | rw [if_neg (by exact h1)] | rw [if_neg (by exact z_nle h1)] | rw [if_pos (by exact z_le h1)] | rw [if_neg (by exact z_nlt h1)] | rw [if_pos (by exact z_lt h1)] | rw [if_neg (by rw [h1]; decide)] | rw [if_pos (by rw [h1])] | rw [if_neg (by exact tf_t h1)] | rw [if_neg (by exact tf_f h1)] | simp only [h1] | skip
        first | rw [if_pos h2] | rw [if_neg h2] | rw [if_pos (by exact h2)] | rw [if_neg (by exact h2)] | rw [if_neg (by exact z_nle h2)] | rw [if_pos (by exact z_le h2)] | rw [if_neg (by exact z_nlt h2)] | rw [if_pos (by exact z_lt h2)] | rw [if_neg (by rw [h2]; decide)] | rw [if_pos (by rw [h2])] | rw [if_neg (by exact tf_t h2)] | rw [if_neg (by exact tf_f h2)] | simp only [h2] | skip
        try rfl
      exact vv_iret C hr hlk (by rw [hE] <;> rfl) (by rw [hE] <;> rfl) d_L_actBefore_49
  · skip
    replace h1 := bI_f h1
    refine vv_aload_n C d_L_actBefore_16 rfl ?_
    refine callC (rest := []) C (c_L_brokenOff l Γ ((kNote u (u.1 13 k) x).2)) cw_L_L_brokenOff rfl 0 (by decide) rfl rfl rfl rfl (Nat.le_of_ble_eq_true rfl) (by decide) (by omega) d_L_actBefore_17 ?_
    refine vv_st (st' := [.int 2]) rfl ?_
    have hE : kBef (kGo n) k (nI dd) (nI bb) x u = (2, (wr ((kNote u (u.1 13 k) x).2) 5 0 0)) := by
      unfold kBef
      try dsimp only
      first | rw [if_pos h1] | rw [if_neg h1] | rw [if_pos (by exact h1)] | rw [if_neg (by exact h1)] | rw [if_neg (by exact z_nle h1)] | rw [if_pos (by exact z_le h1)] | rw [if_neg (by exact z_nlt h1)] | rw [if_pos (by exact z_lt h1)] | rw [if_neg (by rw [h1]; decide)] | rw [if_pos (by rw [h1])] | rw [if_neg (by exact tf_t h1)] | rw [if_neg (by exact tf_f h1)] | simp only [h1] | skip
      try rfl
    exact vv_iret C hr hlk (by rw [hE] <;> rfl) (by rw [hE] <;> rfl) d_L_actBefore_20
set_option maxHeartbeats 4000000 in
set_option maxRecDepth 100000 in
theorem c_L_actChange (l : Launch) (Γ : Geo) (u : SC) {n : Nat} (hG : GoC n) (k : Nat) (hk : k < 6) (dd bb : Nat) (x : Int32) (hdd : dd < 3) (hbb : bb ≤ 6) (hmu : (2 - dd) * 7 + (6 - bb) < n) (hI : IC u) : CtC l Γ y_L_actChange b_L_actChange 6 (some .int) (3 * n + 1) [.ref (Γ.2.1 0), .ref (Γ.2.1 (k + 9)), .int (nI dd), .int (nI bb), .int x] u (some (.int (kChg (kGo n) k (nI dd) (nI bb) x u).1)) (kChg (kGo n) k (nI dd) (nI bb) x u).2 := by
  refine ct_of (by decide +kernel) (Nat.le_of_ble_eq_true rfl) ?_
  intro p e s m args below meth c C hr hlk
  refine vv_aload_n C d_L_actChange_0 rfl ?_
  refine g_L_L_trace C d_L_actChange_1 ?_
  refine vv_aload_n C d_L_actChange_4 rfl ?_
  refine g_L_A_number C hk d_L_actChange_5 ?_
  refine vv_iload C d_L_actChange_8 rfl ?_
  refine callC (rest := []) C (c_T_note l Γ u hI (u.1 13 k) x) cw_L_T_note rfl 4 (by decide) rfl rfl rfl rfl (Nat.le_of_ble_eq_true rfl) (by decide) (by omega) d_L_actChange_10 ?_
  refine vv_st (st' := [.int (bI (kNote u (u.1 13 k) x).1)]) rfl ?_
  refine vv_if_ne C 21 d_L_actChange_13 rfl (fun h1 => ?_) (fun h1 => ?_)
  · skip
    replace h1 := bI_t h1
    refine vv_aload_n C d_L_actChange_21 rfl ?_
    refine vv_iload_n C d_L_actChange_22 rfl ?_
    refine vv_iload_n C d_L_actChange_23 rfl ?_
    refine vv_iload C d_L_actChange_24 rfl ?_
    refine vv_aload_n C d_L_actChange_26 rfl ?_
    refine g_L_A_a C hk d_L_actChange_27 ?_
    refine vv_iadd C d_L_actChange_30 ?_
    refine callC (rest := []) C (hG l Γ ((kNote u (u.1 13 k) x).2) dd bb (x + (((kNote u (u.1 13 k) x).2).1 17 k)) hdd hbb hmu (IC_note hI (u.1 13 k) x)) cw_L_L_goAlong rfl 0 (by decide) rfl rfl rfl rfl (Nat.le_of_ble_eq_true rfl) (by decide) (by omega) d_L_actChange_31 ?_
    refine vv_st (st' := [.int ((kGo n (nI dd) (nI bb) (x + (((kNote u (u.1 13 k) x).2).1 17 k)) ((kNote u (u.1 13 k) x).2)).1)]) rfl ?_
    refine vv_istore (lv' := [(5, .int ((kGo n (nI dd) (nI bb) (x + (((kNote u (u.1 13 k) x).2).1 17 k)) ((kNote u (u.1 13 k) x).2)).1)), (0, .ref (Γ.2.1 0)), (1, .ref (Γ.2.1 (k + 9))), (2, .int (nI dd)), (3, .int (nI bb)), (4, .int x)]) C d_L_actChange_34 (by decide) rfl ?_
    refine vv_iload C d_L_actChange_36 rfl ?_
    refine vv_if_ne C 57 d_L_actChange_38 rfl (fun h2 => ?_) (fun h2 => ?_)
    · skip
      refine vv_iload C d_L_actChange_57 rfl ?_
      have hE : kChg (kGo n) k (nI dd) (nI bb) x u = ((kGo n (nI dd) (nI bb) (x + (((kNote u (u.1 13 k) x).2).1 17 k)) ((kNote u (u.1 13 k) x).2)).1, ((kGo n (nI dd) (nI bb) (x + (((kNote u (u.1 13 k) x).2).1 17 k)) ((kNote u (u.1 13 k) x).2)).2)) := by
        unfold kChg
        try dsimp only
        first | rw [if_pos h1] | rw [if_neg h1] | rw [if_pos (by exact h1)] | rw [if_neg (by exact h1)] | rw [if_neg (by exact z_nle h1)] | rw [if_pos (by exact z_le h1)] | rw [if_neg (by exact z_nlt h1)] | rw [if_pos (by exact z_lt h1)] | rw [if_neg (by rw [h1]; decide)] | rw [if_pos (by rw [h1])] | rw [if_neg (by exact tf_t h1)] | rw [if_neg (by exact tf_f h1)] | simp only [h1] | skip
        first | rw [if_pos h2] | rw [if_neg h2] | rw [if_pos (by exact h2)] | rw [if_neg (by exact h2)] | rw [if_neg (by exact z_nle h2)] | rw [if_pos (by exact z_le h2)] | rw [if_neg (by exact z_nlt h2)] | rw [if_pos (by exact z_lt h2)] | rw [if_neg (by rw [h2]; decide)] | rw [if_pos (by rw [h2])] | rw [if_neg (by exact tf_t h2)] | rw [if_neg (by exact tf_f h2)] | simp only [h2] | skip
        try rfl
      exact vv_iret C hr hlk (by rw [hE] <;> rfl) (by rw [hE] <;> rfl) d_L_actChange_59
    · skip
      refine vv_aload_n C d_L_actChange_41 rfl ?_
      refine vv_aload_n C d_L_actChange_42 rfl ?_
      refine g_L_L_value C d_L_actChange_43 ?_
      refine vv_aload_n C d_L_actChange_46 rfl ?_
      refine g_L_A_b C hk d_L_actChange_47 ?_
      refine vv_iadd C d_L_actChange_50 ?_
      refine callC (rest := []) C (c_L_returned l Γ ((kGo n (nI dd) (nI bb) (x + (((kNote u (u.1 13 k) x).2).1 17 k)) ((kNote u (u.1 13 k) x).2)).2) ((((kGo n (nI dd) (nI bb) (x + (((kNote u (u.1 13 k) x).2).1 17 k)) ((kNote u (u.1 13 k) x).2)).2).1 5 0) + (((kGo n (nI dd) (nI bb) (x + (((kNote u (u.1 13 k) x).2).1 17 k)) ((kNote u (u.1 13 k) x).2)).2).1 18 k))) cw_L_L_returned rfl 0 (by decide) rfl rfl rfl rfl (Nat.le_of_ble_eq_true rfl) (by decide) (by omega) d_L_actChange_51 ?_
      refine vv_st (st' := [.int 0]) rfl ?_
      refine vv_goto C 59 d_L_actChange_54 rfl ?_
      have hE : kChg (kGo n) k (nI dd) (nI bb) x u = (0, (wr ((kGo n (nI dd) (nI bb) (x + (((kNote u (u.1 13 k) x).2).1 17 k)) ((kNote u (u.1 13 k) x).2)).2) 5 0 ((((kGo n (nI dd) (nI bb) (x + (((kNote u (u.1 13 k) x).2).1 17 k)) ((kNote u (u.1 13 k) x).2)).2).1 5 0) + (((kGo n (nI dd) (nI bb) (x + (((kNote u (u.1 13 k) x).2).1 17 k)) ((kNote u (u.1 13 k) x).2)).2).1 18 k)))) := by
        unfold kChg
        try dsimp only
        first | rw [if_pos h1] | rw [if_neg h1] | rw [if_pos (by exact h1)] | rw [if_neg (by exact h1)] | rw [if_neg (by exact z_nle h1)] | rw [if_pos (by exact z_le h1)] | rw [if_neg (by exact z_nlt h1)] | rw [if_pos (by exact z_lt h1)] | rw [if_neg (by rw [h1]; decide)] | rw [if_pos (by rw [h1])] | rw [if_neg (by exact tf_t h1)] | rw [if_neg (by exact tf_f h1)] | simp only [h1] | skip
        first | rw [if_pos h2] | rw [if_neg h2] | rw [if_pos (by exact h2)] | rw [if_neg (by exact h2)] | rw [if_neg (by exact z_nle h2)] | rw [if_pos (by exact z_le h2)] | rw [if_neg (by exact z_nlt h2)] | rw [if_pos (by exact z_lt h2)] | rw [if_neg (by rw [h2]; decide)] | rw [if_pos (by rw [h2])] | rw [if_neg (by exact tf_t h2)] | rw [if_neg (by exact tf_f h2)] | simp only [h2] | skip
        try rfl
      exact vv_iret C hr hlk (by rw [hE] <;> rfl) (by rw [hE] <;> rfl) d_L_actChange_59
  · skip
    replace h1 := bI_f h1
    refine vv_aload_n C d_L_actChange_16 rfl ?_
    refine callC (rest := []) C (c_L_brokenOff l Γ ((kNote u (u.1 13 k) x).2)) cw_L_L_brokenOff rfl 0 (by decide) rfl rfl rfl rfl (Nat.le_of_ble_eq_true rfl) (by decide) (by omega) d_L_actChange_17 ?_
    refine vv_st (st' := [.int 2]) rfl ?_
    have hE : kChg (kGo n) k (nI dd) (nI bb) x u = (2, (wr ((kNote u (u.1 13 k) x).2) 5 0 0)) := by
      unfold kChg
      try dsimp only
      first | rw [if_pos h1] | rw [if_neg h1] | rw [if_pos (by exact h1)] | rw [if_neg (by exact h1)] | rw [if_neg (by exact z_nle h1)] | rw [if_pos (by exact z_le h1)] | rw [if_neg (by exact z_nlt h1)] | rw [if_pos (by exact z_lt h1)] | rw [if_neg (by rw [h1]; decide)] | rw [if_pos (by rw [h1])] | rw [if_neg (by exact tf_t h1)] | rw [if_neg (by exact tf_f h1)] | simp only [h1] | skip
      try rfl
    exact vv_iret C hr hlk (by rw [hE] <;> rfl) (by rw [hE] <;> rfl) d_L_actChange_20
set_option maxHeartbeats 4000000 in
set_option maxRecDepth 100000 in
theorem c_L_actSkip (l : Launch) (Γ : Geo) (u : SC) {n : Nat} (hG : GoC n) (k : Nat) (hk : k < 6) (dd bb : Nat) (x : Int32) (hdd : dd < 3) (hbb : bb ≤ 6) (hmu : (2 - dd) * 7 + (6 - bb) < n) (hI : IC u) : CtC l Γ y_L_actSkip b_L_actSkip 5 (some .int) (3 * n + 1) [.ref (Γ.2.1 0), .ref (Γ.2.1 (k + 9)), .int (nI dd), .int (nI bb), .int x] u (some (.int (kSkp (kGo n) k (nI dd) (nI bb) x u).1)) (kSkp (kGo n) k (nI dd) (nI bb) x u).2 := by
  refine ct_of (by decide +kernel) (Nat.le_of_ble_eq_true rfl) ?_
  intro p e s m args below meth c C hr hlk
  refine vv_aload_n C d_L_actSkip_0 rfl ?_
  refine g_L_L_trace C d_L_actSkip_1 ?_
  refine vv_aload_n C d_L_actSkip_4 rfl ?_
  refine g_L_A_number C hk d_L_actSkip_5 ?_
  refine vv_iload C d_L_actSkip_8 rfl ?_
  refine callC (rest := []) C (c_T_note l Γ u hI (u.1 13 k) x) cw_L_T_note rfl 4 (by decide) rfl rfl rfl rfl (Nat.le_of_ble_eq_true rfl) (by decide) (by omega) d_L_actSkip_10 ?_
  refine vv_st (st' := [.int (bI (kNote u (u.1 13 k) x).1)]) rfl ?_
  refine vv_if_ne C 21 d_L_actSkip_13 rfl (fun h1 => ?_) (fun h1 => ?_)
  · skip
    replace h1 := bI_t h1
    refine vv_iload C d_L_actSkip_21 rfl ?_
    refine vv_aload_n C d_L_actSkip_23 rfl ?_
    refine g_L_A_a C hk d_L_actSkip_24 ?_
    refine vv_icmp_ge C 41 d_L_actSkip_27 rfl (fun h2 => ?_) (fun h2 => ?_)
    · skip
      refine vv_aload_n C d_L_actSkip_41 rfl ?_
      refine vv_iload_n C d_L_actSkip_42 rfl ?_
      refine vv_iload_n C d_L_actSkip_43 rfl ?_
      refine vv_iload C d_L_actSkip_44 rfl ?_
      refine callC (rest := []) C (hG l Γ ((kNote u (u.1 13 k) x).2) dd bb x hdd hbb hmu (IC_note hI (u.1 13 k) x)) cw_L_L_goAlong rfl 0 (by decide) rfl rfl rfl rfl (Nat.le_of_ble_eq_true rfl) (by decide) (by omega) d_L_actSkip_46 ?_
      refine vv_st (st' := [.int ((kGo n (nI dd) (nI bb) x ((kNote u (u.1 13 k) x).2)).1)]) rfl ?_
      have hE : kSkp (kGo n) k (nI dd) (nI bb) x u = ((kGo n (nI dd) (nI bb) x ((kNote u (u.1 13 k) x).2)).1, ((kGo n (nI dd) (nI bb) x ((kNote u (u.1 13 k) x).2)).2)) := by
        unfold kSkp
        try dsimp only
        first | rw [if_pos h1] | rw [if_neg h1] | rw [if_pos (by exact h1)] | rw [if_neg (by exact h1)] | rw [if_neg (by exact z_nle h1)] | rw [if_pos (by exact z_le h1)] | rw [if_neg (by exact z_nlt h1)] | rw [if_pos (by exact z_lt h1)] | rw [if_neg (by rw [h1]; decide)] | rw [if_pos (by rw [h1])] | rw [if_neg (by exact tf_t h1)] | rw [if_neg (by exact tf_f h1)] | simp only [h1] | skip
        first | rw [if_pos h2] | rw [if_neg h2] | rw [if_pos (by exact h2)] | rw [if_neg (by exact h2)] | rw [if_neg (by exact z_nle h2)] | rw [if_pos (by exact z_le h2)] | rw [if_neg (by exact z_nlt h2)] | rw [if_pos (by exact z_lt h2)] | rw [if_neg (by rw [h2]; decide)] | rw [if_pos (by rw [h2])] | rw [if_neg (by exact tf_t h2)] | rw [if_neg (by exact tf_f h2)] | simp only [h2] | skip
        try rfl
      exact vv_iret C hr hlk (by rw [hE] <;> rfl) (by rw [hE] <;> rfl) d_L_actSkip_49
    · skip
      refine vv_aload_n C d_L_actSkip_30 rfl ?_
      refine vv_aload_n C d_L_actSkip_31 rfl ?_
      refine g_L_A_b C hk d_L_actSkip_32 ?_
      refine callC (rest := []) C (c_L_returned l Γ ((kNote u (u.1 13 k) x).2) (((kNote u (u.1 13 k) x).2).1 18 k)) cw_L_L_returned rfl 0 (by decide) rfl rfl rfl rfl (Nat.le_of_ble_eq_true rfl) (by decide) (by omega) d_L_actSkip_35 ?_
      refine vv_st (st' := [.int 0]) rfl ?_
      refine vv_goto C 49 d_L_actSkip_38 rfl ?_
      have hE : kSkp (kGo n) k (nI dd) (nI bb) x u = (0, (wr ((kNote u (u.1 13 k) x).2) 5 0 (((kNote u (u.1 13 k) x).2).1 18 k))) := by
        unfold kSkp
        try dsimp only
        first | rw [if_pos h1] | rw [if_neg h1] | rw [if_pos (by exact h1)] | rw [if_neg (by exact h1)] | rw [if_neg (by exact z_nle h1)] | rw [if_pos (by exact z_le h1)] | rw [if_neg (by exact z_nlt h1)] | rw [if_pos (by exact z_lt h1)] | rw [if_neg (by rw [h1]; decide)] | rw [if_pos (by rw [h1])] | rw [if_neg (by exact tf_t h1)] | rw [if_neg (by exact tf_f h1)] | simp only [h1] | skip
        first | rw [if_pos h2] | rw [if_neg h2] | rw [if_pos (by exact h2)] | rw [if_neg (by exact h2)] | rw [if_neg (by exact z_nle h2)] | rw [if_pos (by exact z_le h2)] | rw [if_neg (by exact z_nlt h2)] | rw [if_pos (by exact z_lt h2)] | rw [if_neg (by rw [h2]; decide)] | rw [if_pos (by rw [h2])] | rw [if_neg (by exact tf_t h2)] | rw [if_neg (by exact tf_f h2)] | simp only [h2] | skip
        try rfl
      exact vv_iret C hr hlk (by rw [hE] <;> rfl) (by rw [hE] <;> rfl) d_L_actSkip_49
  · skip
    replace h1 := bI_f h1
    refine vv_aload_n C d_L_actSkip_16 rfl ?_
    refine callC (rest := []) C (c_L_brokenOff l Γ ((kNote u (u.1 13 k) x).2)) cw_L_L_brokenOff rfl 0 (by decide) rfl rfl rfl rfl (Nat.le_of_ble_eq_true rfl) (by decide) (by omega) d_L_actSkip_17 ?_
    refine vv_st (st' := [.int 2]) rfl ?_
    have hE : kSkp (kGo n) k (nI dd) (nI bb) x u = (2, (wr ((kNote u (u.1 13 k) x).2) 5 0 0)) := by
      unfold kSkp
      try dsimp only
      first | rw [if_pos h1] | rw [if_neg h1] | rw [if_pos (by exact h1)] | rw [if_neg (by exact h1)] | rw [if_neg (by exact z_nle h1)] | rw [if_pos (by exact z_le h1)] | rw [if_neg (by exact z_nlt h1)] | rw [if_pos (by exact z_lt h1)] | rw [if_neg (by rw [h1]; decide)] | rw [if_pos (by rw [h1])] | rw [if_neg (by exact tf_t h1)] | rw [if_neg (by exact tf_f h1)] | simp only [h1] | skip
      try rfl
    exact vv_iret C hr hlk (by rw [hE] <;> rfl) (by rw [hE] <;> rfl) d_L_actSkip_20
set_option maxHeartbeats 4000000 in
set_option maxRecDepth 100000 in
theorem c_L_actTwice (l : Launch) (Γ : Geo) (u : SC) {n : Nat} (hG : GoC n) (k : Nat) (hk : k < 6) (dd bb : Nat) (x : Int32) (hdd : dd < 3) (hbb : bb ≤ 6) (hmu : (2 - dd) * 7 + (6 - bb) < n) (hI : IC u) : CtC l Γ y_L_actTwice b_L_actTwice 8 (some .int) (3 * n + 1) [.ref (Γ.2.1 0), .ref (Γ.2.1 (k + 9)), .int (nI dd), .int (nI bb), .int x] u (some (.int (kTwi (kGo n) k (nI dd) (nI bb) x u).1)) (kTwi (kGo n) k (nI dd) (nI bb) x u).2 := by
  refine ct_of (by decide +kernel) (Nat.le_of_ble_eq_true rfl) ?_
  intro p e s m args below meth c C hr hlk
  refine vv_aload_n C d_L_actTwice_0 rfl ?_
  refine g_L_L_trace C d_L_actTwice_1 ?_
  refine vv_aload_n C d_L_actTwice_4 rfl ?_
  refine g_L_A_number C hk d_L_actTwice_5 ?_
  refine vv_iload C d_L_actTwice_8 rfl ?_
  refine callC (rest := []) C (c_T_note l Γ u hI (u.1 13 k) x) cw_L_T_note rfl 4 (by decide) rfl rfl rfl rfl (Nat.le_of_ble_eq_true rfl) (by decide) (by omega) d_L_actTwice_10 ?_
  refine vv_st (st' := [.int (bI (kNote u (u.1 13 k) x).1)]) rfl ?_
  refine vv_if_ne C 21 d_L_actTwice_13 rfl (fun h1 => ?_) (fun h1 => ?_)
  · skip
    replace h1 := bI_t h1
    refine vv_aload_n C d_L_actTwice_21 rfl ?_
    refine vv_iload_n C d_L_actTwice_22 rfl ?_
    refine vv_iload_n C d_L_actTwice_23 rfl ?_
    refine vv_iload C d_L_actTwice_24 rfl ?_
    refine callC (rest := []) C (hG l Γ ((kNote u (u.1 13 k) x).2) dd bb x hdd hbb hmu (IC_note hI (u.1 13 k) x)) cw_L_L_goAlong rfl 0 (by decide) rfl rfl rfl rfl (Nat.le_of_ble_eq_true rfl) (by decide) (by omega) d_L_actTwice_26 ?_
    refine vv_st (st' := [.int ((kGo n (nI dd) (nI bb) x ((kNote u (u.1 13 k) x).2)).1)]) rfl ?_
    refine vv_istore (lv' := [(5, .int ((kGo n (nI dd) (nI bb) x ((kNote u (u.1 13 k) x).2)).1)), (0, .ref (Γ.2.1 0)), (1, .ref (Γ.2.1 (k + 9))), (2, .int (nI dd)), (3, .int (nI bb)), (4, .int x)]) C d_L_actTwice_29 (by decide) rfl ?_
    refine vv_iload C d_L_actTwice_31 rfl ?_
    refine vv_if_eq C 39 d_L_actTwice_33 rfl (fun h2 => ?_) (fun h2 => ?_)
    · skip
      refine vv_aload_n C d_L_actTwice_39 rfl ?_
      refine g_L_L_value C d_L_actTwice_40 ?_
      refine vv_istore (lv' := [(6, .int (((kGo n (nI dd) (nI bb) x ((kNote u (u.1 13 k) x).2)).2).1 5 0)), (5, .int ((kGo n (nI dd) (nI bb) x ((kNote u (u.1 13 k) x).2)).1)), (0, .ref (Γ.2.1 0)), (1, .ref (Γ.2.1 (k + 9))), (2, .int (nI dd)), (3, .int (nI bb)), (4, .int x)]) C d_L_actTwice_43 (by decide) rfl ?_
      refine vv_aload_n C d_L_actTwice_45 rfl ?_
      refine vv_iload_n C d_L_actTwice_46 rfl ?_
      refine vv_iload_n C d_L_actTwice_47 rfl ?_
      refine vv_iload C d_L_actTwice_48 rfl ?_
      refine vv_aload_n C d_L_actTwice_50 rfl ?_
      refine g_L_A_a C hk d_L_actTwice_51 ?_
      refine vv_iadd C d_L_actTwice_54 ?_
      refine callC (rest := []) C (hG l Γ ((kGo n (nI dd) (nI bb) x ((kNote u (u.1 13 k) x).2)).2) dd bb (x + (((kGo n (nI dd) (nI bb) x ((kNote u (u.1 13 k) x).2)).2).1 17 k)) hdd hbb hmu (IC_go n dd hdd (nI bb) x ((kNote u (u.1 13 k) x).2) (IC_note hI (u.1 13 k) x))) cw_L_L_goAlong rfl 0 (by decide) rfl rfl rfl rfl (Nat.le_of_ble_eq_true rfl) (by decide) (by omega) d_L_actTwice_55 ?_
      refine vv_st (st' := [.int ((kGo n (nI dd) (nI bb) (x + (((kGo n (nI dd) (nI bb) x ((kNote u (u.1 13 k) x).2)).2).1 17 k)) ((kGo n (nI dd) (nI bb) x ((kNote u (u.1 13 k) x).2)).2)).1)]) rfl ?_
      refine vv_istore (lv' := [(7, .int ((kGo n (nI dd) (nI bb) (x + (((kGo n (nI dd) (nI bb) x ((kNote u (u.1 13 k) x).2)).2).1 17 k)) ((kGo n (nI dd) (nI bb) x ((kNote u (u.1 13 k) x).2)).2)).1)), (6, .int (((kGo n (nI dd) (nI bb) x ((kNote u (u.1 13 k) x).2)).2).1 5 0)), (5, .int ((kGo n (nI dd) (nI bb) x ((kNote u (u.1 13 k) x).2)).1)), (0, .ref (Γ.2.1 0)), (1, .ref (Γ.2.1 (k + 9))), (2, .int (nI dd)), (3, .int (nI bb)), (4, .int x)]) C d_L_actTwice_58 (by decide) rfl ?_
      refine vv_iload C d_L_actTwice_60 rfl ?_
      refine vv_if_ne C 84 d_L_actTwice_62 rfl (fun h3 => ?_) (fun h3 => ?_)
      · skip
        refine vv_iload C d_L_actTwice_84 rfl ?_
        have hE : kTwi (kGo n) k (nI dd) (nI bb) x u = ((kGo n (nI dd) (nI bb) (x + (((kGo n (nI dd) (nI bb) x ((kNote u (u.1 13 k) x).2)).2).1 17 k)) ((kGo n (nI dd) (nI bb) x ((kNote u (u.1 13 k) x).2)).2)).1, ((kGo n (nI dd) (nI bb) (x + (((kGo n (nI dd) (nI bb) x ((kNote u (u.1 13 k) x).2)).2).1 17 k)) ((kGo n (nI dd) (nI bb) x ((kNote u (u.1 13 k) x).2)).2)).2)) := by
          unfold kTwi
          try dsimp only
          first | rw [if_pos h1] | rw [if_neg h1] | rw [if_pos (by exact h1)] | rw [if_neg (by exact h1)] | rw [if_neg (by exact z_nle h1)] | rw [if_pos (by exact z_le h1)] | rw [if_neg (by exact z_nlt h1)] | rw [if_pos (by exact z_lt h1)] | rw [if_neg (by rw [h1]; decide)] | rw [if_pos (by rw [h1])] | rw [if_neg (by exact tf_t h1)] | rw [if_neg (by exact tf_f h1)] | simp only [h1] | skip
          first | rw [if_pos h2] | rw [if_neg h2] | rw [if_pos (by exact h2)] | rw [if_neg (by exact h2)] | rw [if_neg (by exact z_nle h2)] | rw [if_pos (by exact z_le h2)] | rw [if_neg (by exact z_nlt h2)] | rw [if_pos (by exact z_lt h2)] | rw [if_neg (by rw [h2]; decide)] | rw [if_pos (by rw [h2])] | rw [if_neg (by exact tf_t h2)] | rw [if_neg (by exact tf_f h2)] | simp only [h2] | skip
          first | rw [if_pos h3] | rw [if_neg h3] | rw [if_pos (by exact h3)] | rw [if_neg (by exact h3)] | rw [if_neg (by exact z_nle h3)] | rw [if_pos (by exact z_le h3)] | rw [if_neg (by exact z_nlt h3)] | rw [if_pos (by exact z_lt h3)] | rw [if_neg (by rw [h3]; decide)] | rw [if_pos (by rw [h3])] | rw [if_neg (by exact tf_t h3)] | rw [if_neg (by exact tf_f h3)] | simp only [h3] | skip
          try rfl
        exact vv_iret C hr hlk (by rw [hE] <;> rfl) (by rw [hE] <;> rfl) d_L_actTwice_86
      · skip
        refine vv_aload_n C d_L_actTwice_65 rfl ?_
        refine vv_iload C d_L_actTwice_66 rfl ?_
        refine vv_aload_n C d_L_actTwice_68 rfl ?_
        refine g_L_L_value C d_L_actTwice_69 ?_
        refine vv_iadd C d_L_actTwice_72 ?_
        refine vv_aload_n C d_L_actTwice_73 rfl ?_
        refine g_L_A_b C hk d_L_actTwice_74 ?_
        refine vv_iadd C d_L_actTwice_77 ?_
        refine callC (rest := []) C (c_L_returned l Γ ((kGo n (nI dd) (nI bb) (x + (((kGo n (nI dd) (nI bb) x ((kNote u (u.1 13 k) x).2)).2).1 17 k)) ((kGo n (nI dd) (nI bb) x ((kNote u (u.1 13 k) x).2)).2)).2) (((((kGo n (nI dd) (nI bb) x ((kNote u (u.1 13 k) x).2)).2).1 5 0) + (((kGo n (nI dd) (nI bb) (x + (((kGo n (nI dd) (nI bb) x ((kNote u (u.1 13 k) x).2)).2).1 17 k)) ((kGo n (nI dd) (nI bb) x ((kNote u (u.1 13 k) x).2)).2)).2).1 5 0)) + (((kGo n (nI dd) (nI bb) (x + (((kGo n (nI dd) (nI bb) x ((kNote u (u.1 13 k) x).2)).2).1 17 k)) ((kGo n (nI dd) (nI bb) x ((kNote u (u.1 13 k) x).2)).2)).2).1 18 k))) cw_L_L_returned rfl 0 (by decide) rfl rfl rfl rfl (Nat.le_of_ble_eq_true rfl) (by decide) (by omega) d_L_actTwice_78 ?_
        refine vv_st (st' := [.int 0]) rfl ?_
        refine vv_goto C 86 d_L_actTwice_81 rfl ?_
        have hE : kTwi (kGo n) k (nI dd) (nI bb) x u = (0, (wr ((kGo n (nI dd) (nI bb) (x + (((kGo n (nI dd) (nI bb) x ((kNote u (u.1 13 k) x).2)).2).1 17 k)) ((kGo n (nI dd) (nI bb) x ((kNote u (u.1 13 k) x).2)).2)).2) 5 0 (((((kGo n (nI dd) (nI bb) x ((kNote u (u.1 13 k) x).2)).2).1 5 0) + (((kGo n (nI dd) (nI bb) (x + (((kGo n (nI dd) (nI bb) x ((kNote u (u.1 13 k) x).2)).2).1 17 k)) ((kGo n (nI dd) (nI bb) x ((kNote u (u.1 13 k) x).2)).2)).2).1 5 0)) + (((kGo n (nI dd) (nI bb) (x + (((kGo n (nI dd) (nI bb) x ((kNote u (u.1 13 k) x).2)).2).1 17 k)) ((kGo n (nI dd) (nI bb) x ((kNote u (u.1 13 k) x).2)).2)).2).1 18 k)))) := by
          unfold kTwi
          try dsimp only
          first | rw [if_pos h1] | rw [if_neg h1] | rw [if_pos (by exact h1)] | rw [if_neg (by exact h1)] | rw [if_neg (by exact z_nle h1)] | rw [if_pos (by exact z_le h1)] | rw [if_neg (by exact z_nlt h1)] | rw [if_pos (by exact z_lt h1)] | rw [if_neg (by rw [h1]; decide)] | rw [if_pos (by rw [h1])] | rw [if_neg (by exact tf_t h1)] | rw [if_neg (by exact tf_f h1)] | simp only [h1] | skip
          first | rw [if_pos h2] | rw [if_neg h2] | rw [if_pos (by exact h2)] | rw [if_neg (by exact h2)] | rw [if_neg (by exact z_nle h2)] | rw [if_pos (by exact z_le h2)] | rw [if_neg (by exact z_nlt h2)] | rw [if_pos (by exact z_lt h2)] | rw [if_neg (by rw [h2]; decide)] | rw [if_pos (by rw [h2])] | rw [if_neg (by exact tf_t h2)] | rw [if_neg (by exact tf_f h2)] | simp only [h2] | skip
          first | rw [if_pos h3] | rw [if_neg h3] | rw [if_pos (by exact h3)] | rw [if_neg (by exact h3)] | rw [if_neg (by exact z_nle h3)] | rw [if_pos (by exact z_le h3)] | rw [if_neg (by exact z_nlt h3)] | rw [if_pos (by exact z_lt h3)] | rw [if_neg (by rw [h3]; decide)] | rw [if_pos (by rw [h3])] | rw [if_neg (by exact tf_t h3)] | rw [if_neg (by exact tf_f h3)] | simp only [h3] | skip
          try rfl
        exact vv_iret C hr hlk (by rw [hE] <;> rfl) (by rw [hE] <;> rfl) d_L_actTwice_86
    · skip
      refine vv_iload C d_L_actTwice_36 rfl ?_
      have hE : kTwi (kGo n) k (nI dd) (nI bb) x u = ((kGo n (nI dd) (nI bb) x ((kNote u (u.1 13 k) x).2)).1, ((kGo n (nI dd) (nI bb) x ((kNote u (u.1 13 k) x).2)).2)) := by
        unfold kTwi
        try dsimp only
        first | rw [if_pos h1] | rw [if_neg h1] | rw [if_pos (by exact h1)] | rw [if_neg (by exact h1)] | rw [if_neg (by exact z_nle h1)] | rw [if_pos (by exact z_le h1)] | rw [if_neg (by exact z_nlt h1)] | rw [if_pos (by exact z_lt h1)] | rw [if_neg (by rw [h1]; decide)] | rw [if_pos (by rw [h1])] | rw [if_neg (by exact tf_t h1)] | rw [if_neg (by exact tf_f h1)] | simp only [h1] | skip
        first | rw [if_pos h2] | rw [if_neg h2] | rw [if_pos (by exact h2)] | rw [if_neg (by exact h2)] | rw [if_neg (by exact z_nle h2)] | rw [if_pos (by exact z_le h2)] | rw [if_neg (by exact z_nlt h2)] | rw [if_pos (by exact z_lt h2)] | rw [if_neg (by rw [h2]; decide)] | rw [if_pos (by rw [h2])] | rw [if_neg (by exact tf_t h2)] | rw [if_neg (by exact tf_f h2)] | simp only [h2] | skip
        try rfl
      exact vv_iret C hr hlk (by rw [hE] <;> rfl) (by rw [hE] <;> rfl) d_L_actTwice_38
  · skip
    replace h1 := bI_f h1
    refine vv_aload_n C d_L_actTwice_16 rfl ?_
    refine callC (rest := []) C (c_L_brokenOff l Γ ((kNote u (u.1 13 k) x).2)) cw_L_L_brokenOff rfl 0 (by decide) rfl rfl rfl rfl (Nat.le_of_ble_eq_true rfl) (by decide) (by omega) d_L_actTwice_17 ?_
    refine vv_st (st' := [.int 2]) rfl ?_
    have hE : kTwi (kGo n) k (nI dd) (nI bb) x u = (2, (wr ((kNote u (u.1 13 k) x).2) 5 0 0)) := by
      unfold kTwi
      try dsimp only
      first | rw [if_pos h1] | rw [if_neg h1] | rw [if_pos (by exact h1)] | rw [if_neg (by exact h1)] | rw [if_neg (by exact z_nle h1)] | rw [if_pos (by exact z_le h1)] | rw [if_neg (by exact z_nlt h1)] | rw [if_pos (by exact z_lt h1)] | rw [if_neg (by rw [h1]; decide)] | rw [if_pos (by rw [h1])] | rw [if_neg (by exact tf_t h1)] | rw [if_neg (by exact tf_f h1)] | simp only [h1] | skip
      try rfl
    exact vv_iret C hr hlk (by rw [hE] <;> rfl) (by rw [hE] <;> rfl) d_L_actTwice_20
set_option maxHeartbeats 4000000 in
set_option maxRecDepth 100000 in
theorem c_L_actReturning (l : Launch) (Γ : Geo) (u : SC) {n : Nat} (hG : GoC n) (k : Nat) (hk : k < 6) (dd bb : Nat) (x : Int32) (hdd : dd < 3) (hbb : bb ≤ 6) (hmu : (2 - dd) * 7 + (6 - bb) < n) (hI : IC u) : CtC l Γ y_L_actReturning b_L_actReturning 6 (some .int) (3 * n + 1) [.ref (Γ.2.1 0), .ref (Γ.2.1 (k + 9)), .int (nI dd), .int (nI bb), .int x] u (some (.int (kRet (kGo n) k (nI dd) (nI bb) x u).1)) (kRet (kGo n) k (nI dd) (nI bb) x u).2 := by
  refine ct_of (by decide +kernel) (Nat.le_of_ble_eq_true rfl) ?_
  intro p e s m args below meth c C hr hlk
  refine vv_aload_n C d_L_actReturning_0 rfl ?_
  refine vv_iload_n C d_L_actReturning_1 rfl ?_
  refine vv_iload_n C d_L_actReturning_2 rfl ?_
  refine vv_iload C d_L_actReturning_3 rfl ?_
  refine callC (rest := []) C (hG l Γ u dd bb x hdd hbb hmu hI) cw_L_L_goAlong rfl 0 (by decide) rfl rfl rfl rfl (Nat.le_of_ble_eq_true rfl) (by decide) (by omega) d_L_actReturning_5 ?_
  refine vv_st (st' := [.int ((kGo n (nI dd) (nI bb) x u).1)]) rfl ?_
  refine vv_istore (lv' := [(5, .int ((kGo n (nI dd) (nI bb) x u).1)), (0, .ref (Γ.2.1 0)), (1, .ref (Γ.2.1 (k + 9))), (2, .int (nI dd)), (3, .int (nI bb)), (4, .int x)]) C d_L_actReturning_8 (by decide) rfl ?_
  refine vv_iload C d_L_actReturning_10 rfl ?_
  refine vv_if_eq C 18 d_L_actReturning_12 rfl (fun h1 => ?_) (fun h1 => ?_)
  · skip
    refine vv_aload_n C d_L_actReturning_18 rfl ?_
    refine g_L_L_trace C d_L_actReturning_19 ?_
    refine vv_aload_n C d_L_actReturning_22 rfl ?_
    refine g_L_A_number C hk d_L_actReturning_23 ?_
    refine vv_aload_n C d_L_actReturning_26 rfl ?_
    refine g_L_L_value C d_L_actReturning_27 ?_
    refine callC (rest := []) C (c_T_note l Γ ((kGo n (nI dd) (nI bb) x u).2) (IC_go n dd hdd (nI bb) x u hI) (((kGo n (nI dd) (nI bb) x u).2).1 13 k) (((kGo n (nI dd) (nI bb) x u).2).1 5 0)) cw_L_T_note rfl 4 (by decide) rfl rfl rfl rfl (Nat.le_of_ble_eq_true rfl) (by decide) (by omega) d_L_actReturning_30 ?_
    refine vv_st (st' := [.int (bI (kNote ((kGo n (nI dd) (nI bb) x u).2) (((kGo n (nI dd) (nI bb) x u).2).1 13 k) (((kGo n (nI dd) (nI bb) x u).2).1 5 0)).1)]) rfl ?_
    refine vv_if_ne C 41 d_L_actReturning_33 rfl (fun h2 => ?_) (fun h2 => ?_)
    · skip
      replace h2 := bI_t h2
      refine vv_aload_n C d_L_actReturning_41 rfl ?_
      refine g_L_L_value C d_L_actReturning_42 ?_
      refine vv_aload_n C d_L_actReturning_45 rfl ?_
      refine g_L_A_a C hk d_L_actReturning_46 ?_
      refine vv_icmp_ne C 63 d_L_actReturning_49 rfl (fun h3 => ?_) (fun h3 => ?_)
      · skip
        refine vv_iconst C (0) d_L_actReturning_63 (by decide) ?_
        have hE : kRet (kGo n) k (nI dd) (nI bb) x u = (0, ((kNote ((kGo n (nI dd) (nI bb) x u).2) (((kGo n (nI dd) (nI bb) x u).2).1 13 k) (((kGo n (nI dd) (nI bb) x u).2).1 5 0)).2)) := by
          unfold kRet
          try dsimp only
          first | rw [if_pos h1] | rw [if_neg h1] | rw [if_pos (by exact h1)] | rw [if_neg (by exact h1)] | rw [if_neg (by exact z_nle h1)] | rw [if_pos (by exact z_le h1)] | rw [if_neg (by exact z_nlt h1)] | rw [if_pos (by exact z_lt h1)] | rw [if_neg (by rw [h1]; decide)] | rw [if_pos (by rw [h1])] | rw [if_neg (by exact tf_t h1)] | rw [if_neg (by exact tf_f h1)] | simp only [h1] | skip
          first | rw [if_pos h2] | rw [if_neg h2] | rw [if_pos (by exact h2)] | rw [if_neg (by exact h2)] | rw [if_neg (by exact z_nle h2)] | rw [if_pos (by exact z_le h2)] | rw [if_neg (by exact z_nlt h2)] | rw [if_pos (by exact z_lt h2)] | rw [if_neg (by rw [h2]; decide)] | rw [if_pos (by rw [h2])] | rw [if_neg (by exact tf_t h2)] | rw [if_neg (by exact tf_f h2)] | simp only [h2] | skip
          first | rw [if_pos h3] | rw [if_neg h3] | rw [if_pos (by exact h3)] | rw [if_neg (by exact h3)] | rw [if_neg (by exact z_nle h3)] | rw [if_pos (by exact z_le h3)] | rw [if_neg (by exact z_nlt h3)] | rw [if_pos (by exact z_lt h3)] | rw [if_neg (by rw [h3]; decide)] | rw [if_pos (by rw [h3])] | rw [if_neg (by exact tf_t h3)] | rw [if_neg (by exact tf_f h3)] | simp only [h3] | skip
          try rfl
        exact vv_iret C hr hlk (by rw [hE] <;> rfl) (by rw [hE] <;> rfl) d_L_actReturning_64
      · skip
        refine vv_aload_n C d_L_actReturning_52 rfl ?_
        refine vv_aload_n C d_L_actReturning_53 rfl ?_
        refine g_L_A_b C hk d_L_actReturning_54 ?_
        refine callC (rest := []) C (c_L_thrown l Γ ((kNote ((kGo n (nI dd) (nI bb) x u).2) (((kGo n (nI dd) (nI bb) x u).2).1 13 k) (((kGo n (nI dd) (nI bb) x u).2).1 5 0)).2) (((kNote ((kGo n (nI dd) (nI bb) x u).2) (((kGo n (nI dd) (nI bb) x u).2).1 13 k) (((kGo n (nI dd) (nI bb) x u).2).1 5 0)).2).1 18 k)) cw_L_L_thrown rfl 0 (by decide) rfl rfl rfl rfl (Nat.le_of_ble_eq_true rfl) (by decide) (by omega) d_L_actReturning_57 ?_
        refine vv_st (st' := [.int 1]) rfl ?_
        refine vv_goto C 64 d_L_actReturning_60 rfl ?_
        have hE : kRet (kGo n) k (nI dd) (nI bb) x u = (1, (wr ((kNote ((kGo n (nI dd) (nI bb) x u).2) (((kGo n (nI dd) (nI bb) x u).2).1 13 k) (((kGo n (nI dd) (nI bb) x u).2).1 5 0)).2) 5 0 (((kNote ((kGo n (nI dd) (nI bb) x u).2) (((kGo n (nI dd) (nI bb) x u).2).1 13 k) (((kGo n (nI dd) (nI bb) x u).2).1 5 0)).2).1 18 k))) := by
          unfold kRet
          try dsimp only
          first | rw [if_pos h1] | rw [if_neg h1] | rw [if_pos (by exact h1)] | rw [if_neg (by exact h1)] | rw [if_neg (by exact z_nle h1)] | rw [if_pos (by exact z_le h1)] | rw [if_neg (by exact z_nlt h1)] | rw [if_pos (by exact z_lt h1)] | rw [if_neg (by rw [h1]; decide)] | rw [if_pos (by rw [h1])] | rw [if_neg (by exact tf_t h1)] | rw [if_neg (by exact tf_f h1)] | simp only [h1] | skip
          first | rw [if_pos h2] | rw [if_neg h2] | rw [if_pos (by exact h2)] | rw [if_neg (by exact h2)] | rw [if_neg (by exact z_nle h2)] | rw [if_pos (by exact z_le h2)] | rw [if_neg (by exact z_nlt h2)] | rw [if_pos (by exact z_lt h2)] | rw [if_neg (by rw [h2]; decide)] | rw [if_pos (by rw [h2])] | rw [if_neg (by exact tf_t h2)] | rw [if_neg (by exact tf_f h2)] | simp only [h2] | skip
          first | rw [if_pos h3] | rw [if_neg h3] | rw [if_pos (by exact h3)] | rw [if_neg (by exact h3)] | rw [if_neg (by exact z_nle h3)] | rw [if_pos (by exact z_le h3)] | rw [if_neg (by exact z_nlt h3)] | rw [if_pos (by exact z_lt h3)] | rw [if_neg (by rw [h3]; decide)] | rw [if_pos (by rw [h3])] | rw [if_neg (by exact tf_t h3)] | rw [if_neg (by exact tf_f h3)] | simp only [h3] | skip
          try rfl
        exact vv_iret C hr hlk (by rw [hE] <;> rfl) (by rw [hE] <;> rfl) d_L_actReturning_64
    · skip
      replace h2 := bI_f h2
      refine vv_aload_n C d_L_actReturning_36 rfl ?_
      refine callC (rest := []) C (c_L_brokenOff l Γ ((kNote ((kGo n (nI dd) (nI bb) x u).2) (((kGo n (nI dd) (nI bb) x u).2).1 13 k) (((kGo n (nI dd) (nI bb) x u).2).1 5 0)).2)) cw_L_L_brokenOff rfl 0 (by decide) rfl rfl rfl rfl (Nat.le_of_ble_eq_true rfl) (by decide) (by omega) d_L_actReturning_37 ?_
      refine vv_st (st' := [.int 2]) rfl ?_
      have hE : kRet (kGo n) k (nI dd) (nI bb) x u = (2, (wr ((kNote ((kGo n (nI dd) (nI bb) x u).2) (((kGo n (nI dd) (nI bb) x u).2).1 13 k) (((kGo n (nI dd) (nI bb) x u).2).1 5 0)).2) 5 0 0)) := by
        unfold kRet
        try dsimp only
        first | rw [if_pos h1] | rw [if_neg h1] | rw [if_pos (by exact h1)] | rw [if_neg (by exact h1)] | rw [if_neg (by exact z_nle h1)] | rw [if_pos (by exact z_le h1)] | rw [if_neg (by exact z_nlt h1)] | rw [if_pos (by exact z_lt h1)] | rw [if_neg (by rw [h1]; decide)] | rw [if_pos (by rw [h1])] | rw [if_neg (by exact tf_t h1)] | rw [if_neg (by exact tf_f h1)] | simp only [h1] | skip
        first | rw [if_pos h2] | rw [if_neg h2] | rw [if_pos (by exact h2)] | rw [if_neg (by exact h2)] | rw [if_neg (by exact z_nle h2)] | rw [if_pos (by exact z_le h2)] | rw [if_neg (by exact z_nlt h2)] | rw [if_pos (by exact z_lt h2)] | rw [if_neg (by rw [h2]; decide)] | rw [if_pos (by rw [h2])] | rw [if_neg (by exact tf_t h2)] | rw [if_neg (by exact tf_f h2)] | simp only [h2] | skip
        try rfl
      exact vv_iret C hr hlk (by rw [hE] <;> rfl) (by rw [hE] <;> rfl) d_L_actReturning_40
  · skip
    refine vv_iload C d_L_actReturning_15 rfl ?_
    have hE : kRet (kGo n) k (nI dd) (nI bb) x u = ((kGo n (nI dd) (nI bb) x u).1, ((kGo n (nI dd) (nI bb) x u).2)) := by
      unfold kRet
      try dsimp only
      first | rw [if_pos h1] | rw [if_neg h1] | rw [if_pos (by exact h1)] | rw [if_neg (by exact h1)] | rw [if_neg (by exact z_nle h1)] | rw [if_pos (by exact z_le h1)] | rw [if_neg (by exact z_nlt h1)] | rw [if_pos (by exact z_lt h1)] | rw [if_neg (by rw [h1]; decide)] | rw [if_pos (by rw [h1])] | rw [if_neg (by exact tf_t h1)] | rw [if_neg (by exact tf_f h1)] | simp only [h1] | skip
      try rfl
    exact vv_iret C hr hlk (by rw [hE] <;> rfl) (by rw [hE] <;> rfl) d_L_actReturning_17
set_option maxHeartbeats 4000000 in
set_option maxRecDepth 100000 in
theorem c_L_actThrowing (l : Launch) (Γ : Geo) (u : SC) {n : Nat} (hG : GoC n) (k : Nat) (hk : k < 6) (dd bb : Nat) (x : Int32) (hdd : dd < 3) (hbb : bb ≤ 6) (hmu : (2 - dd) * 7 + (6 - bb) < n) (hI : IC u) : CtC l Γ y_L_actThrowing b_L_actThrowing 6 (some .int) (3 * n + 1) [.ref (Γ.2.1 0), .ref (Γ.2.1 (k + 9)), .int (nI dd), .int (nI bb), .int x] u (some (.int (kThr (kGo n) k (nI dd) (nI bb) x u).1)) (kThr (kGo n) k (nI dd) (nI bb) x u).2 := by
  refine ct_of (by decide +kernel) (Nat.le_of_ble_eq_true rfl) ?_
  intro p e s m args below meth c C hr hlk
  refine vv_aload_n C d_L_actThrowing_0 rfl ?_
  refine vv_iload_n C d_L_actThrowing_1 rfl ?_
  refine vv_iload_n C d_L_actThrowing_2 rfl ?_
  refine vv_iload C d_L_actThrowing_3 rfl ?_
  refine callC (rest := []) C (hG l Γ u dd bb x hdd hbb hmu hI) cw_L_L_goAlong rfl 0 (by decide) rfl rfl rfl rfl (Nat.le_of_ble_eq_true rfl) (by decide) (by omega) d_L_actThrowing_5 ?_
  refine vv_st (st' := [.int ((kGo n (nI dd) (nI bb) x u).1)]) rfl ?_
  refine vv_istore (lv' := [(5, .int ((kGo n (nI dd) (nI bb) x u).1)), (0, .ref (Γ.2.1 0)), (1, .ref (Γ.2.1 (k + 9))), (2, .int (nI dd)), (3, .int (nI bb)), (4, .int x)]) C d_L_actThrowing_8 (by decide) rfl ?_
  refine vv_iload C d_L_actThrowing_10 rfl ?_
  refine vv_iconst C (1) d_L_actThrowing_12 (by decide) ?_
  refine vv_icmp_ne C 30 d_L_actThrowing_13 rfl (fun h1 => ?_) (fun h1 => ?_)
  · skip
    refine vv_iload C d_L_actThrowing_30 rfl ?_
    have hE : kThr (kGo n) k (nI dd) (nI bb) x u = ((kGo n (nI dd) (nI bb) x u).1, ((kGo n (nI dd) (nI bb) x u).2)) := by
      unfold kThr
      try dsimp only
      first | rw [if_pos h1] | rw [if_neg h1] | rw [if_pos (by exact h1)] | rw [if_neg (by exact h1)] | rw [if_neg (by exact z_nle h1)] | rw [if_pos (by exact z_le h1)] | rw [if_neg (by exact z_nlt h1)] | rw [if_pos (by exact z_lt h1)] | rw [if_neg (by rw [h1]; decide)] | rw [if_pos (by rw [h1])] | rw [if_neg (by exact tf_t h1)] | rw [if_neg (by exact tf_f h1)] | simp only [h1] | skip
      try rfl
    exact vv_iret C hr hlk (by rw [hE] <;> rfl) (by rw [hE] <;> rfl) d_L_actThrowing_32
  · skip
    refine vv_aload_n C d_L_actThrowing_16 rfl ?_
    refine g_L_L_value C d_L_actThrowing_17 ?_
    refine vv_aload_n C d_L_actThrowing_20 rfl ?_
    refine g_L_A_a C hk d_L_actThrowing_21 ?_
    refine callCS (rest := []) C (c_L_isKindOf l Γ ((kGo n (nI dd) (nI bb) x u).2) (((kGo n (nI dd) (nI bb) x u).2).1 5 0) (((kGo n (nI dd) (nI bb) x u).2).1 17 k)) cw_L_L_isKindOf rfl rfl (Nat.le_of_ble_eq_true rfl) (by decide) (by omega) d_L_actThrowing_24 ?_
    refine vv_st (st' := [.int (bI (kKindOf (((kGo n (nI dd) (nI bb) x u).2).1 5 0) (((kGo n (nI dd) (nI bb) x u).2).1 17 k)))]) rfl ?_
    refine vv_if_ne C 33 d_L_actThrowing_27 rfl (fun h2 => ?_) (fun h2 => ?_)
    · skip
      replace h2 := bI_t h2
      refine vv_aload_n C d_L_actThrowing_33 rfl ?_
      refine g_L_L_trace C d_L_actThrowing_34 ?_
      refine vv_aload_n C d_L_actThrowing_37 rfl ?_
      refine g_L_A_number C hk d_L_actThrowing_38 ?_
      refine vv_aload_n C d_L_actThrowing_41 rfl ?_
      refine g_L_L_value C d_L_actThrowing_42 ?_
      refine callC (rest := []) C (c_T_note l Γ ((kGo n (nI dd) (nI bb) x u).2) (IC_go n dd hdd (nI bb) x u hI) (((kGo n (nI dd) (nI bb) x u).2).1 13 k) (((kGo n (nI dd) (nI bb) x u).2).1 5 0)) cw_L_T_note rfl 4 (by decide) rfl rfl rfl rfl (Nat.le_of_ble_eq_true rfl) (by decide) (by omega) d_L_actThrowing_45 ?_
      refine vv_st (st' := [.int (bI (kNote ((kGo n (nI dd) (nI bb) x u).2) (((kGo n (nI dd) (nI bb) x u).2).1 13 k) (((kGo n (nI dd) (nI bb) x u).2).1 5 0)).1)]) rfl ?_
      refine vv_if_ne C 56 d_L_actThrowing_48 rfl (fun h3 => ?_) (fun h3 => ?_)
      · skip
        replace h3 := bI_t h3
        refine vv_aload_n C d_L_actThrowing_56 rfl ?_
        refine g_L_A_b C hk d_L_actThrowing_57 ?_
        refine vv_if_ne C 67 d_L_actThrowing_60 rfl (fun h4 => ?_) (fun h4 => ?_)
        · skip
          refine vv_aload_n C d_L_actThrowing_67 rfl ?_
          refine vv_aload_n C d_L_actThrowing_68 rfl ?_
          refine g_L_A_b C hk d_L_actThrowing_69 ?_
          refine callC (rest := []) C (c_L_thrown l Γ ((kNote ((kGo n (nI dd) (nI bb) x u).2) (((kGo n (nI dd) (nI bb) x u).2).1 13 k) (((kGo n (nI dd) (nI bb) x u).2).1 5 0)).2) (((kNote ((kGo n (nI dd) (nI bb) x u).2) (((kGo n (nI dd) (nI bb) x u).2).1 13 k) (((kGo n (nI dd) (nI bb) x u).2).1 5 0)).2).1 18 k)) cw_L_L_thrown rfl 0 (by decide) rfl rfl rfl rfl (Nat.le_of_ble_eq_true rfl) (by decide) (by omega) d_L_actThrowing_72 ?_
          refine vv_st (st' := [.int 1]) rfl ?_
          have hE : kThr (kGo n) k (nI dd) (nI bb) x u = (1, (wr ((kNote ((kGo n (nI dd) (nI bb) x u).2) (((kGo n (nI dd) (nI bb) x u).2).1 13 k) (((kGo n (nI dd) (nI bb) x u).2).1 5 0)).2) 5 0 (((kNote ((kGo n (nI dd) (nI bb) x u).2) (((kGo n (nI dd) (nI bb) x u).2).1 13 k) (((kGo n (nI dd) (nI bb) x u).2).1 5 0)).2).1 18 k))) := by
            unfold kThr
            try dsimp only
            first | rw [if_pos h1] | rw [if_neg h1] | rw [if_pos (by exact h1)] | rw [if_neg (by exact h1)] | rw [if_neg (by exact z_nle h1)] | rw [if_pos (by exact z_le h1)] | rw [if_neg (by exact z_nlt h1)] | rw [if_pos (by exact z_lt h1)] | rw [if_neg (by rw [h1]; decide)] | rw [if_pos (by rw [h1])] | rw [if_neg (by exact tf_t h1)] | rw [if_neg (by exact tf_f h1)] | simp only [h1] | skip
            first | rw [if_pos h2] | rw [if_neg h2] | rw [if_pos (by exact h2)] | rw [if_neg (by exact h2)] | rw [if_neg (by exact z_nle h2)] | rw [if_pos (by exact z_le h2)] | rw [if_neg (by exact z_nlt h2)] | rw [if_pos (by exact z_lt h2)] | rw [if_neg (by rw [h2]; decide)] | rw [if_pos (by rw [h2])] | rw [if_neg (by exact tf_t h2)] | rw [if_neg (by exact tf_f h2)] | simp only [h2] | skip
            first | rw [if_pos h3] | rw [if_neg h3] | rw [if_pos (by exact h3)] | rw [if_neg (by exact h3)] | rw [if_neg (by exact z_nle h3)] | rw [if_pos (by exact z_le h3)] | rw [if_neg (by exact z_nlt h3)] | rw [if_pos (by exact z_lt h3)] | rw [if_neg (by rw [h3]; decide)] | rw [if_pos (by rw [h3])] | rw [if_neg (by exact tf_t h3)] | rw [if_neg (by exact tf_f h3)] | simp only [h3] | skip
            first | rw [if_pos h4] | rw [if_neg h4] | rw [if_pos (by exact h4)] | rw [if_neg (by exact h4)] | rw [if_neg (by exact z_nle h4)] | rw [if_pos (by exact z_le h4)] | rw [if_neg (by exact z_nlt h4)] | rw [if_pos (by exact z_lt h4)] | rw [if_neg (by rw [h4]; decide)] | rw [if_pos (by rw [h4])] | rw [if_neg (by exact tf_t h4)] | rw [if_neg (by exact tf_f h4)] | simp only [h4] | skip
            try rfl
          exact vv_iret C hr hlk (by rw [hE] <;> rfl) (by rw [hE] <;> rfl) d_L_actThrowing_75
        · skip
          refine vv_iconst C (1) d_L_actThrowing_63 (by decide) ?_
          refine vv_goto C 75 d_L_actThrowing_64 rfl ?_
          have hE : kThr (kGo n) k (nI dd) (nI bb) x u = (1, ((kNote ((kGo n (nI dd) (nI bb) x u).2) (((kGo n (nI dd) (nI bb) x u).2).1 13 k) (((kGo n (nI dd) (nI bb) x u).2).1 5 0)).2)) := by
            unfold kThr
            try dsimp only
            first | rw [if_pos h1] | rw [if_neg h1] | rw [if_pos (by exact h1)] | rw [if_neg (by exact h1)] | rw [if_neg (by exact z_nle h1)] | rw [if_pos (by exact z_le h1)] | rw [if_neg (by exact z_nlt h1)] | rw [if_pos (by exact z_lt h1)] | rw [if_neg (by rw [h1]; decide)] | rw [if_pos (by rw [h1])] | rw [if_neg (by exact tf_t h1)] | rw [if_neg (by exact tf_f h1)] | simp only [h1] | skip
            first | rw [if_pos h2] | rw [if_neg h2] | rw [if_pos (by exact h2)] | rw [if_neg (by exact h2)] | rw [if_neg (by exact z_nle h2)] | rw [if_pos (by exact z_le h2)] | rw [if_neg (by exact z_nlt h2)] | rw [if_pos (by exact z_lt h2)] | rw [if_neg (by rw [h2]; decide)] | rw [if_pos (by rw [h2])] | rw [if_neg (by exact tf_t h2)] | rw [if_neg (by exact tf_f h2)] | simp only [h2] | skip
            first | rw [if_pos h3] | rw [if_neg h3] | rw [if_pos (by exact h3)] | rw [if_neg (by exact h3)] | rw [if_neg (by exact z_nle h3)] | rw [if_pos (by exact z_le h3)] | rw [if_neg (by exact z_nlt h3)] | rw [if_pos (by exact z_lt h3)] | rw [if_neg (by rw [h3]; decide)] | rw [if_pos (by rw [h3])] | rw [if_neg (by exact tf_t h3)] | rw [if_neg (by exact tf_f h3)] | simp only [h3] | skip
            first | rw [if_pos h4] | rw [if_neg h4] | rw [if_pos (by exact h4)] | rw [if_neg (by exact h4)] | rw [if_neg (by exact z_nle h4)] | rw [if_pos (by exact z_le h4)] | rw [if_neg (by exact z_nlt h4)] | rw [if_pos (by exact z_lt h4)] | rw [if_neg (by rw [h4]; decide)] | rw [if_pos (by rw [h4])] | rw [if_neg (by exact tf_t h4)] | rw [if_neg (by exact tf_f h4)] | simp only [h4] | skip
            try rfl
          exact vv_iret C hr hlk (by rw [hE] <;> rfl) (by rw [hE] <;> rfl) d_L_actThrowing_75
      · skip
        replace h3 := bI_f h3
        refine vv_aload_n C d_L_actThrowing_51 rfl ?_
        refine callC (rest := []) C (c_L_brokenOff l Γ ((kNote ((kGo n (nI dd) (nI bb) x u).2) (((kGo n (nI dd) (nI bb) x u).2).1 13 k) (((kGo n (nI dd) (nI bb) x u).2).1 5 0)).2)) cw_L_L_brokenOff rfl 0 (by decide) rfl rfl rfl rfl (Nat.le_of_ble_eq_true rfl) (by decide) (by omega) d_L_actThrowing_52 ?_
        refine vv_st (st' := [.int 2]) rfl ?_
        have hE : kThr (kGo n) k (nI dd) (nI bb) x u = (2, (wr ((kNote ((kGo n (nI dd) (nI bb) x u).2) (((kGo n (nI dd) (nI bb) x u).2).1 13 k) (((kGo n (nI dd) (nI bb) x u).2).1 5 0)).2) 5 0 0)) := by
          unfold kThr
          try dsimp only
          first | rw [if_pos h1] | rw [if_neg h1] | rw [if_pos (by exact h1)] | rw [if_neg (by exact h1)] | rw [if_neg (by exact z_nle h1)] | rw [if_pos (by exact z_le h1)] | rw [if_neg (by exact z_nlt h1)] | rw [if_pos (by exact z_lt h1)] | rw [if_neg (by rw [h1]; decide)] | rw [if_pos (by rw [h1])] | rw [if_neg (by exact tf_t h1)] | rw [if_neg (by exact tf_f h1)] | simp only [h1] | skip
          first | rw [if_pos h2] | rw [if_neg h2] | rw [if_pos (by exact h2)] | rw [if_neg (by exact h2)] | rw [if_neg (by exact z_nle h2)] | rw [if_pos (by exact z_le h2)] | rw [if_neg (by exact z_nlt h2)] | rw [if_pos (by exact z_lt h2)] | rw [if_neg (by rw [h2]; decide)] | rw [if_pos (by rw [h2])] | rw [if_neg (by exact tf_t h2)] | rw [if_neg (by exact tf_f h2)] | simp only [h2] | skip
          first | rw [if_pos h3] | rw [if_neg h3] | rw [if_pos (by exact h3)] | rw [if_neg (by exact h3)] | rw [if_neg (by exact z_nle h3)] | rw [if_pos (by exact z_le h3)] | rw [if_neg (by exact z_nlt h3)] | rw [if_pos (by exact z_lt h3)] | rw [if_neg (by rw [h3]; decide)] | rw [if_pos (by rw [h3])] | rw [if_neg (by exact tf_t h3)] | rw [if_neg (by exact tf_f h3)] | simp only [h3] | skip
          try rfl
        exact vv_iret C hr hlk (by rw [hE] <;> rfl) (by rw [hE] <;> rfl) d_L_actThrowing_55
    · skip
      replace h2 := bI_f h2
      refine vv_iload C d_L_actThrowing_30 rfl ?_
      have hE : kThr (kGo n) k (nI dd) (nI bb) x u = ((kGo n (nI dd) (nI bb) x u).1, ((kGo n (nI dd) (nI bb) x u).2)) := by
        unfold kThr
        try dsimp only
        first | rw [if_pos h1] | rw [if_neg h1] | rw [if_pos (by exact h1)] | rw [if_neg (by exact h1)] | rw [if_neg (by exact z_nle h1)] | rw [if_pos (by exact z_le h1)] | rw [if_neg (by exact z_nlt h1)] | rw [if_pos (by exact z_lt h1)] | rw [if_neg (by rw [h1]; decide)] | rw [if_pos (by rw [h1])] | rw [if_neg (by exact tf_t h1)] | rw [if_neg (by exact tf_f h1)] | simp only [h1] | skip
        first | rw [if_pos h2] | rw [if_neg h2] | rw [if_pos (by exact h2)] | rw [if_neg (by exact h2)] | rw [if_neg (by exact z_nle h2)] | rw [if_pos (by exact z_le h2)] | rw [if_neg (by exact z_nlt h2)] | rw [if_pos (by exact z_lt h2)] | rw [if_neg (by rw [h2]; decide)] | rw [if_pos (by rw [h2])] | rw [if_neg (by exact tf_t h2)] | rw [if_neg (by exact tf_f h2)] | simp only [h2] | skip
        try rfl
      exact vv_iret C hr hlk (by rw [hE] <;> rfl) (by rw [hE] <;> rfl) d_L_actThrowing_32
set_option maxHeartbeats 4000000 in
set_option maxRecDepth 100000 in
theorem c_L_actFinally (l : Launch) (Γ : Geo) (u : SC) {n : Nat} (hG : GoC n) (k : Nat) (hk : k < 6) (dd bb : Nat) (x : Int32) (hdd : dd < 3) (hbb : bb ≤ 6) (hmu : (2 - dd) * 7 + (6 - bb) < n) (hI : IC u) : CtC l Γ y_L_actFinally b_L_actFinally 6 (some .int) (3 * n + 1) [.ref (Γ.2.1 0), .ref (Γ.2.1 (k + 9)), .int (nI dd), .int (nI bb), .int x] u (some (.int (kFin (kGo n) k (nI dd) (nI bb) x u).1)) (kFin (kGo n) k (nI dd) (nI bb) x u).2 := by
  refine ct_of (by decide +kernel) (Nat.le_of_ble_eq_true rfl) ?_
  intro p e s m args below meth c C hr hlk
  refine vv_aload_n C d_L_actFinally_0 rfl ?_
  refine vv_iload_n C d_L_actFinally_1 rfl ?_
  refine vv_iload_n C d_L_actFinally_2 rfl ?_
  refine vv_iload C d_L_actFinally_3 rfl ?_
  refine callC (rest := []) C (hG l Γ u dd bb x hdd hbb hmu hI) cw_L_L_goAlong rfl 0 (by decide) rfl rfl rfl rfl (Nat.le_of_ble_eq_true rfl) (by decide) (by omega) d_L_actFinally_5 ?_
  refine vv_st (st' := [.int ((kGo n (nI dd) (nI bb) x u).1)]) rfl ?_
  refine vv_istore (lv' := [(5, .int ((kGo n (nI dd) (nI bb) x u).1)), (0, .ref (Γ.2.1 0)), (1, .ref (Γ.2.1 (k + 9))), (2, .int (nI dd)), (3, .int (nI bb)), (4, .int x)]) C d_L_actFinally_8 (by decide) rfl ?_
  refine vv_iload C d_L_actFinally_10 rfl ?_
  refine vv_iconst C (2) d_L_actFinally_12 (by decide) ?_
  refine vv_icmp_ne C 18 d_L_actFinally_13 rfl (fun h1 => ?_) (fun h1 => ?_)
  · skip
    refine vv_aload_n C d_L_actFinally_18 rfl ?_
    refine g_L_L_trace C d_L_actFinally_19 ?_
    refine vv_aload_n C d_L_actFinally_22 rfl ?_
    refine g_L_A_number C hk d_L_actFinally_23 ?_
    refine vv_iload C d_L_actFinally_26 rfl ?_
    refine callC (rest := []) C (c_T_note l Γ ((kGo n (nI dd) (nI bb) x u).2) (IC_go n dd hdd (nI bb) x u hI) (((kGo n (nI dd) (nI bb) x u).2).1 13 k) x) cw_L_T_note rfl 4 (by decide) rfl rfl rfl rfl (Nat.le_of_ble_eq_true rfl) (by decide) (by omega) d_L_actFinally_28 ?_
    refine vv_st (st' := [.int (bI (kNote ((kGo n (nI dd) (nI bb) x u).2) (((kGo n (nI dd) (nI bb) x u).2).1 13 k) x).1)]) rfl ?_
    refine vv_if_ne C 39 d_L_actFinally_31 rfl (fun h2 => ?_) (fun h2 => ?_)
    · skip
      replace h2 := bI_t h2
      refine vv_iload C d_L_actFinally_39 rfl ?_
      refine vv_aload_n C d_L_actFinally_41 rfl ?_
      refine g_L_A_a C hk d_L_actFinally_42 ?_
      refine vv_icmp_ne C 59 d_L_actFinally_45 rfl (fun h3 => ?_) (fun h3 => ?_)
      · skip
        refine vv_iload C d_L_actFinally_59 rfl ?_
        have hE : kFin (kGo n) k (nI dd) (nI bb) x u = ((kGo n (nI dd) (nI bb) x u).1, ((kNote ((kGo n (nI dd) (nI bb) x u).2) (((kGo n (nI dd) (nI bb) x u).2).1 13 k) x).2)) := by
          unfold kFin
          try dsimp only
          first | rw [if_pos h1] | rw [if_neg h1] | rw [if_pos (by exact h1)] | rw [if_neg (by exact h1)] | rw [if_neg (by exact z_nle h1)] | rw [if_pos (by exact z_le h1)] | rw [if_neg (by exact z_nlt h1)] | rw [if_pos (by exact z_lt h1)] | rw [if_neg (by rw [h1]; decide)] | rw [if_pos (by rw [h1])] | rw [if_neg (by exact tf_t h1)] | rw [if_neg (by exact tf_f h1)] | simp only [h1] | skip
          first | rw [if_pos h2] | rw [if_neg h2] | rw [if_pos (by exact h2)] | rw [if_neg (by exact h2)] | rw [if_neg (by exact z_nle h2)] | rw [if_pos (by exact z_le h2)] | rw [if_neg (by exact z_nlt h2)] | rw [if_pos (by exact z_lt h2)] | rw [if_neg (by rw [h2]; decide)] | rw [if_pos (by rw [h2])] | rw [if_neg (by exact tf_t h2)] | rw [if_neg (by exact tf_f h2)] | simp only [h2] | skip
          first | rw [if_pos h3] | rw [if_neg h3] | rw [if_pos (by exact h3)] | rw [if_neg (by exact h3)] | rw [if_neg (by exact z_nle h3)] | rw [if_pos (by exact z_le h3)] | rw [if_neg (by exact z_nlt h3)] | rw [if_pos (by exact z_lt h3)] | rw [if_neg (by rw [h3]; decide)] | rw [if_pos (by rw [h3])] | rw [if_neg (by exact tf_t h3)] | rw [if_neg (by exact tf_f h3)] | simp only [h3] | skip
          try rfl
        exact vv_iret C hr hlk (by rw [hE] <;> rfl) (by rw [hE] <;> rfl) d_L_actFinally_61
      · skip
        refine vv_aload_n C d_L_actFinally_48 rfl ?_
        refine vv_aload_n C d_L_actFinally_49 rfl ?_
        refine g_L_A_b C hk d_L_actFinally_50 ?_
        refine callC (rest := []) C (c_L_thrown l Γ ((kNote ((kGo n (nI dd) (nI bb) x u).2) (((kGo n (nI dd) (nI bb) x u).2).1 13 k) x).2) (((kNote ((kGo n (nI dd) (nI bb) x u).2) (((kGo n (nI dd) (nI bb) x u).2).1 13 k) x).2).1 18 k)) cw_L_L_thrown rfl 0 (by decide) rfl rfl rfl rfl (Nat.le_of_ble_eq_true rfl) (by decide) (by omega) d_L_actFinally_53 ?_
        refine vv_st (st' := [.int 1]) rfl ?_
        refine vv_goto C 61 d_L_actFinally_56 rfl ?_
        have hE : kFin (kGo n) k (nI dd) (nI bb) x u = (1, (wr ((kNote ((kGo n (nI dd) (nI bb) x u).2) (((kGo n (nI dd) (nI bb) x u).2).1 13 k) x).2) 5 0 (((kNote ((kGo n (nI dd) (nI bb) x u).2) (((kGo n (nI dd) (nI bb) x u).2).1 13 k) x).2).1 18 k))) := by
          unfold kFin
          try dsimp only
          first | rw [if_pos h1] | rw [if_neg h1] | rw [if_pos (by exact h1)] | rw [if_neg (by exact h1)] | rw [if_neg (by exact z_nle h1)] | rw [if_pos (by exact z_le h1)] | rw [if_neg (by exact z_nlt h1)] | rw [if_pos (by exact z_lt h1)] | rw [if_neg (by rw [h1]; decide)] | rw [if_pos (by rw [h1])] | rw [if_neg (by exact tf_t h1)] | rw [if_neg (by exact tf_f h1)] | simp only [h1] | skip
          first | rw [if_pos h2] | rw [if_neg h2] | rw [if_pos (by exact h2)] | rw [if_neg (by exact h2)] | rw [if_neg (by exact z_nle h2)] | rw [if_pos (by exact z_le h2)] | rw [if_neg (by exact z_nlt h2)] | rw [if_pos (by exact z_lt h2)] | rw [if_neg (by rw [h2]; decide)] | rw [if_pos (by rw [h2])] | rw [if_neg (by exact tf_t h2)] | rw [if_neg (by exact tf_f h2)] | simp only [h2] | skip
          first | rw [if_pos h3] | rw [if_neg h3] | rw [if_pos (by exact h3)] | rw [if_neg (by exact h3)] | rw [if_neg (by exact z_nle h3)] | rw [if_pos (by exact z_le h3)] | rw [if_neg (by exact z_nlt h3)] | rw [if_pos (by exact z_lt h3)] | rw [if_neg (by rw [h3]; decide)] | rw [if_pos (by rw [h3])] | rw [if_neg (by exact tf_t h3)] | rw [if_neg (by exact tf_f h3)] | simp only [h3] | skip
          try rfl
        exact vv_iret C hr hlk (by rw [hE] <;> rfl) (by rw [hE] <;> rfl) d_L_actFinally_61
    · skip
      replace h2 := bI_f h2
      refine vv_aload_n C d_L_actFinally_34 rfl ?_
      refine callC (rest := []) C (c_L_brokenOff l Γ ((kNote ((kGo n (nI dd) (nI bb) x u).2) (((kGo n (nI dd) (nI bb) x u).2).1 13 k) x).2)) cw_L_L_brokenOff rfl 0 (by decide) rfl rfl rfl rfl (Nat.le_of_ble_eq_true rfl) (by decide) (by omega) d_L_actFinally_35 ?_
      refine vv_st (st' := [.int 2]) rfl ?_
      have hE : kFin (kGo n) k (nI dd) (nI bb) x u = (2, (wr ((kNote ((kGo n (nI dd) (nI bb) x u).2) (((kGo n (nI dd) (nI bb) x u).2).1 13 k) x).2) 5 0 0)) := by
        unfold kFin
        try dsimp only
        first | rw [if_pos h1] | rw [if_neg h1] | rw [if_pos (by exact h1)] | rw [if_neg (by exact h1)] | rw [if_neg (by exact z_nle h1)] | rw [if_pos (by exact z_le h1)] | rw [if_neg (by exact z_nlt h1)] | rw [if_pos (by exact z_lt h1)] | rw [if_neg (by rw [h1]; decide)] | rw [if_pos (by rw [h1])] | rw [if_neg (by exact tf_t h1)] | rw [if_neg (by exact tf_f h1)] | simp only [h1] | skip
        first | rw [if_pos h2] | rw [if_neg h2] | rw [if_pos (by exact h2)] | rw [if_neg (by exact h2)] | rw [if_neg (by exact z_nle h2)] | rw [if_pos (by exact z_le h2)] | rw [if_neg (by exact z_nlt h2)] | rw [if_pos (by exact z_lt h2)] | rw [if_neg (by rw [h2]; decide)] | rw [if_pos (by rw [h2])] | rw [if_neg (by exact tf_t h2)] | rw [if_neg (by exact tf_f h2)] | simp only [h2] | skip
        try rfl
      exact vv_iret C hr hlk (by rw [hE] <;> rfl) (by rw [hE] <;> rfl) d_L_actFinally_38
  · skip
    refine vv_iconst C (2) d_L_actFinally_16 (by decide) ?_
    have hE : kFin (kGo n) k (nI dd) (nI bb) x u = (2, ((kGo n (nI dd) (nI bb) x u).2)) := by
      unfold kFin
      try dsimp only
      first | rw [if_pos h1] | rw [if_neg h1] | rw [if_pos (by exact h1)] | rw [if_neg (by exact h1)] | rw [if_neg (by exact z_nle h1)] | rw [if_pos (by exact z_le h1)] | rw [if_neg (by exact z_nlt h1)] | rw [if_pos (by exact z_lt h1)] | rw [if_neg (by rw [h1]; decide)] | rw [if_pos (by rw [h1])] | rw [if_neg (by exact tf_t h1)] | rw [if_neg (by exact tf_f h1)] | simp only [h1] | skip
      try rfl
    exact vv_iret C hr hlk (by rw [hE] <;> rfl) (by rw [hE] <;> rfl) d_L_actFinally_17
set_option maxHeartbeats 4000000 in
set_option maxRecDepth 100000 in
theorem c_L_actRecover (l : Launch) (Γ : Geo) (u : SC) {n : Nat} (hG : GoC n) (k : Nat) (hk : k < 6) (dd bb : Nat) (x : Int32) (hdd : dd < 3) (hbb : bb ≤ 6) (hmu : (2 - dd) * 7 + (6 - bb) < n) (hI : IC u) : CtC l Γ y_L_actRecover b_L_actRecover 6 (some .int) (3 * n + 1) [.ref (Γ.2.1 0), .ref (Γ.2.1 (k + 9)), .int (nI dd), .int (nI bb), .int x] u (some (.int (kRec (kGo n) k (nI dd) (nI bb) x u).1)) (kRec (kGo n) k (nI dd) (nI bb) x u).2 := by
  refine ct_of (by decide +kernel) (Nat.le_of_ble_eq_true rfl) ?_
  intro p e s m args below meth c C hr hlk
  refine vv_aload_n C d_L_actRecover_0 rfl ?_
  refine vv_iload_n C d_L_actRecover_1 rfl ?_
  refine vv_iload_n C d_L_actRecover_2 rfl ?_
  refine vv_iload C d_L_actRecover_3 rfl ?_
  refine callC (rest := []) C (hG l Γ u dd bb x hdd hbb hmu hI) cw_L_L_goAlong rfl 0 (by decide) rfl rfl rfl rfl (Nat.le_of_ble_eq_true rfl) (by decide) (by omega) d_L_actRecover_5 ?_
  refine vv_st (st' := [.int ((kGo n (nI dd) (nI bb) x u).1)]) rfl ?_
  refine vv_istore (lv' := [(5, .int ((kGo n (nI dd) (nI bb) x u).1)), (0, .ref (Γ.2.1 0)), (1, .ref (Γ.2.1 (k + 9))), (2, .int (nI dd)), (3, .int (nI bb)), (4, .int x)]) C d_L_actRecover_8 (by decide) rfl ?_
  refine vv_iload C d_L_actRecover_10 rfl ?_
  refine vv_iconst C (1) d_L_actRecover_12 (by decide) ?_
  refine vv_icmp_ne C 30 d_L_actRecover_13 rfl (fun h1 => ?_) (fun h1 => ?_)
  · skip
    refine vv_iload C d_L_actRecover_30 rfl ?_
    have hE : kRec (kGo n) k (nI dd) (nI bb) x u = ((kGo n (nI dd) (nI bb) x u).1, ((kGo n (nI dd) (nI bb) x u).2)) := by
      unfold kRec
      try dsimp only
      first | rw [if_pos h1] | rw [if_neg h1] | rw [if_pos (by exact h1)] | rw [if_neg (by exact h1)] | rw [if_neg (by exact z_nle h1)] | rw [if_pos (by exact z_le h1)] | rw [if_neg (by exact z_nlt h1)] | rw [if_pos (by exact z_lt h1)] | rw [if_neg (by rw [h1]; decide)] | rw [if_pos (by rw [h1])] | rw [if_neg (by exact tf_t h1)] | rw [if_neg (by exact tf_f h1)] | simp only [h1] | skip
      try rfl
    exact vv_iret C hr hlk (by rw [hE] <;> rfl) (by rw [hE] <;> rfl) d_L_actRecover_32
  · skip
    refine vv_aload_n C d_L_actRecover_16 rfl ?_
    refine g_L_L_value C d_L_actRecover_17 ?_
    refine vv_aload_n C d_L_actRecover_20 rfl ?_
    refine g_L_A_a C hk d_L_actRecover_21 ?_
    refine callCS (rest := []) C (c_L_isKindOf l Γ ((kGo n (nI dd) (nI bb) x u).2) (((kGo n (nI dd) (nI bb) x u).2).1 5 0) (((kGo n (nI dd) (nI bb) x u).2).1 17 k)) cw_L_L_isKindOf rfl rfl (Nat.le_of_ble_eq_true rfl) (by decide) (by omega) d_L_actRecover_24 ?_
    refine vv_st (st' := [.int (bI (kKindOf (((kGo n (nI dd) (nI bb) x u).2).1 5 0) (((kGo n (nI dd) (nI bb) x u).2).1 17 k)))]) rfl ?_
    refine vv_if_ne C 33 d_L_actRecover_27 rfl (fun h2 => ?_) (fun h2 => ?_)
    · skip
      replace h2 := bI_t h2
      refine vv_aload_n C d_L_actRecover_33 rfl ?_
      refine g_L_L_trace C d_L_actRecover_34 ?_
      refine vv_aload_n C d_L_actRecover_37 rfl ?_
      refine g_L_A_number C hk d_L_actRecover_38 ?_
      refine vv_aload_n C d_L_actRecover_41 rfl ?_
      refine g_L_L_value C d_L_actRecover_42 ?_
      refine callC (rest := []) C (c_T_note l Γ ((kGo n (nI dd) (nI bb) x u).2) (IC_go n dd hdd (nI bb) x u hI) (((kGo n (nI dd) (nI bb) x u).2).1 13 k) (((kGo n (nI dd) (nI bb) x u).2).1 5 0)) cw_L_T_note rfl 4 (by decide) rfl rfl rfl rfl (Nat.le_of_ble_eq_true rfl) (by decide) (by omega) d_L_actRecover_45 ?_
      refine vv_st (st' := [.int (bI (kNote ((kGo n (nI dd) (nI bb) x u).2) (((kGo n (nI dd) (nI bb) x u).2).1 13 k) (((kGo n (nI dd) (nI bb) x u).2).1 5 0)).1)]) rfl ?_
      refine vv_if_ne C 56 d_L_actRecover_48 rfl (fun h3 => ?_) (fun h3 => ?_)
      · skip
        replace h3 := bI_t h3
        refine vv_aload_n C d_L_actRecover_56 rfl ?_
        refine vv_aload_n C d_L_actRecover_57 rfl ?_
        refine g_L_A_b C hk d_L_actRecover_58 ?_
        refine callC (rest := []) C (c_L_returned l Γ ((kNote ((kGo n (nI dd) (nI bb) x u).2) (((kGo n (nI dd) (nI bb) x u).2).1 13 k) (((kGo n (nI dd) (nI bb) x u).2).1 5 0)).2) (((kNote ((kGo n (nI dd) (nI bb) x u).2) (((kGo n (nI dd) (nI bb) x u).2).1 13 k) (((kGo n (nI dd) (nI bb) x u).2).1 5 0)).2).1 18 k)) cw_L_L_returned rfl 0 (by decide) rfl rfl rfl rfl (Nat.le_of_ble_eq_true rfl) (by decide) (by omega) d_L_actRecover_61 ?_
        refine vv_st (st' := [.int 0]) rfl ?_
        have hE : kRec (kGo n) k (nI dd) (nI bb) x u = (0, (wr ((kNote ((kGo n (nI dd) (nI bb) x u).2) (((kGo n (nI dd) (nI bb) x u).2).1 13 k) (((kGo n (nI dd) (nI bb) x u).2).1 5 0)).2) 5 0 (((kNote ((kGo n (nI dd) (nI bb) x u).2) (((kGo n (nI dd) (nI bb) x u).2).1 13 k) (((kGo n (nI dd) (nI bb) x u).2).1 5 0)).2).1 18 k))) := by
          unfold kRec
          try dsimp only
          first | rw [if_pos h1] | rw [if_neg h1] | rw [if_pos (by exact h1)] | rw [if_neg (by exact h1)] | rw [if_neg (by exact z_nle h1)] | rw [if_pos (by exact z_le h1)] | rw [if_neg (by exact z_nlt h1)] | rw [if_pos (by exact z_lt h1)] | rw [if_neg (by rw [h1]; decide)] | rw [if_pos (by rw [h1])] | rw [if_neg (by exact tf_t h1)] | rw [if_neg (by exact tf_f h1)] | simp only [h1] | skip
          first | rw [if_pos h2] | rw [if_neg h2] | rw [if_pos (by exact h2)] | rw [if_neg (by exact h2)] | rw [if_neg (by exact z_nle h2)] | rw [if_pos (by exact z_le h2)] | rw [if_neg (by exact z_nlt h2)] | rw [if_pos (by exact z_lt h2)] | rw [if_neg (by rw [h2]; decide)] | rw [if_pos (by rw [h2])] | rw [if_neg (by exact tf_t h2)] | rw [if_neg (by exact tf_f h2)] | simp only [h2] | skip
          first | rw [if_pos h3] | rw [if_neg h3] | rw [if_pos (by exact h3)] | rw [if_neg (by exact h3)] | rw [if_neg (by exact z_nle h3)] | rw [if_pos (by exact z_le h3)] | rw [if_neg (by exact z_nlt h3)] | rw [if_pos (by exact z_lt h3)] | rw [if_neg (by rw [h3]; decide)] | rw [if_pos (by rw [h3])] | rw [if_neg (by exact tf_t h3)] | rw [if_neg (by exact tf_f h3)] | simp only [h3] | skip
          try rfl
        exact vv_iret C hr hlk (by rw [hE] <;> rfl) (by rw [hE] <;> rfl) d_L_actRecover_64
      · skip
        replace h3 := bI_f h3
        refine vv_aload_n C d_L_actRecover_51 rfl ?_
        refine callC (rest := []) C (c_L_brokenOff l Γ ((kNote ((kGo n (nI dd) (nI bb) x u).2) (((kGo n (nI dd) (nI bb) x u).2).1 13 k) (((kGo n (nI dd) (nI bb) x u).2).1 5 0)).2)) cw_L_L_brokenOff rfl 0 (by decide) rfl rfl rfl rfl (Nat.le_of_ble_eq_true rfl) (by decide) (by omega) d_L_actRecover_52 ?_
        refine vv_st (st' := [.int 2]) rfl ?_
        have hE : kRec (kGo n) k (nI dd) (nI bb) x u = (2, (wr ((kNote ((kGo n (nI dd) (nI bb) x u).2) (((kGo n (nI dd) (nI bb) x u).2).1 13 k) (((kGo n (nI dd) (nI bb) x u).2).1 5 0)).2) 5 0 0)) := by
          unfold kRec
          try dsimp only
          first | rw [if_pos h1] | rw [if_neg h1] | rw [if_pos (by exact h1)] | rw [if_neg (by exact h1)] | rw [if_neg (by exact z_nle h1)] | rw [if_pos (by exact z_le h1)] | rw [if_neg (by exact z_nlt h1)] | rw [if_pos (by exact z_lt h1)] | rw [if_neg (by rw [h1]; decide)] | rw [if_pos (by rw [h1])] | rw [if_neg (by exact tf_t h1)] | rw [if_neg (by exact tf_f h1)] | simp only [h1] | skip
          first | rw [if_pos h2] | rw [if_neg h2] | rw [if_pos (by exact h2)] | rw [if_neg (by exact h2)] | rw [if_neg (by exact z_nle h2)] | rw [if_pos (by exact z_le h2)] | rw [if_neg (by exact z_nlt h2)] | rw [if_pos (by exact z_lt h2)] | rw [if_neg (by rw [h2]; decide)] | rw [if_pos (by rw [h2])] | rw [if_neg (by exact tf_t h2)] | rw [if_neg (by exact tf_f h2)] | simp only [h2] | skip
          first | rw [if_pos h3] | rw [if_neg h3] | rw [if_pos (by exact h3)] | rw [if_neg (by exact h3)] | rw [if_neg (by exact z_nle h3)] | rw [if_pos (by exact z_le h3)] | rw [if_neg (by exact z_nlt h3)] | rw [if_pos (by exact z_lt h3)] | rw [if_neg (by rw [h3]; decide)] | rw [if_pos (by rw [h3])] | rw [if_neg (by exact tf_t h3)] | rw [if_neg (by exact tf_f h3)] | simp only [h3] | skip
          try rfl
        exact vv_iret C hr hlk (by rw [hE] <;> rfl) (by rw [hE] <;> rfl) d_L_actRecover_55
    · skip
      replace h2 := bI_f h2
      refine vv_iload C d_L_actRecover_30 rfl ?_
      have hE : kRec (kGo n) k (nI dd) (nI bb) x u = ((kGo n (nI dd) (nI bb) x u).1, ((kGo n (nI dd) (nI bb) x u).2)) := by
        unfold kRec
        try dsimp only
        first | rw [if_pos h1] | rw [if_neg h1] | rw [if_pos (by exact h1)] | rw [if_neg (by exact h1)] | rw [if_neg (by exact z_nle h1)] | rw [if_pos (by exact z_le h1)] | rw [if_neg (by exact z_nlt h1)] | rw [if_pos (by exact z_lt h1)] | rw [if_neg (by rw [h1]; decide)] | rw [if_pos (by rw [h1])] | rw [if_neg (by exact tf_t h1)] | rw [if_neg (by exact tf_f h1)] | simp only [h1] | skip
        first | rw [if_pos h2] | rw [if_neg h2] | rw [if_pos (by exact h2)] | rw [if_neg (by exact h2)] | rw [if_neg (by exact z_nle h2)] | rw [if_pos (by exact z_le h2)] | rw [if_neg (by exact z_nlt h2)] | rw [if_pos (by exact z_lt h2)] | rw [if_neg (by rw [h2]; decide)] | rw [if_pos (by rw [h2])] | rw [if_neg (by exact tf_t h2)] | rw [if_neg (by exact tf_f h2)] | simp only [h2] | skip
        try rfl
      exact vv_iret C hr hlk (by rw [hE] <;> rfl) (by rw [hE] <;> rfl) d_L_actRecover_32
set_option maxHeartbeats 4000000 in
set_option maxRecDepth 100000 in
theorem c_L_act (l : Launch) (Γ : Geo) (u : SC) {n : Nat} (hG : GoC n) (k : Nat) (hk : k < 6) (dd bb : Nat) (x : Int32) (hdd : dd < 3) (hbb : bb ≤ 6) (hmu : (2 - dd) * 7 + (6 - bb) < n) (hI : IC u) : CtC l Γ y_L_act b_L_act 5 (some .int) (3 * n + 2) [.ref (Γ.2.1 0), .ref (Γ.2.1 (k + 9)), .int (nI dd), .int (nI bb), .int x] u (some (.int (kAct (kGo n) k (nI dd) (nI bb) x u).1)) (kAct (kGo n) k (nI dd) (nI bb) x u).2 := by
  refine ct_of (by decide +kernel) (Nat.le_of_ble_eq_true rfl) ?_
  intro p e s m args below meth c C hr hlk
  refine vv_aload_n C d_L_act_0 rfl ?_
  refine g_L_A_kind C hk d_L_act_1 ?_
  by_cases z0 : u.1 14 k = 0
  · skip
    refine vv_tableIn C 48 d_L_act_4 (by rw [z0]; decide) (by rw [z0]; decide) (by rw [z0]; rfl) rfl ?_
    refine vv_aload_n C d_L_act_48 rfl ?_
    refine vv_aload_n C d_L_act_49 rfl ?_
    refine vv_iload_n C d_L_act_50 rfl ?_
    refine vv_iload_n C d_L_act_51 rfl ?_
    refine vv_iload C d_L_act_52 rfl ?_
    refine callC (rest := []) C (c_L_actBefore l Γ u hG k hk dd bb x hdd hbb hmu hI) cw_L_L_actBefore rfl 0 (by decide) rfl rfl rfl rfl (Nat.le_of_ble_eq_true rfl) (by decide) (by omega) d_L_act_54 ?_
    refine vv_st (st' := [.int ((kBef (kGo n) k (nI dd) (nI bb) x u).1)]) rfl ?_
    have hE : kAct (kGo n) k (nI dd) (nI bb) x u = ((kBef (kGo n) k (nI dd) (nI bb) x u).1, ((kBef (kGo n) k (nI dd) (nI bb) x u).2)) := by
      unfold kAct
      try dsimp only
      first | rw [if_pos z0] | rw [if_neg z0] | rw [if_pos (by exact z0)] | rw [if_neg (by exact z0)] | rw [if_neg (by exact z_nle z0)] | rw [if_pos (by exact z_le z0)] | rw [if_neg (by exact z_nlt z0)] | rw [if_pos (by exact z_lt z0)] | rw [if_neg (by rw [z0]; decide)] | rw [if_pos (by rw [z0])] | rw [if_neg (by exact tf_t z0)] | rw [if_neg (by exact tf_f z0)] | simp only [z0] | skip
      try rfl
    exact vv_iret C hr hlk (by rw [hE] <;> rfl) (by rw [hE] <;> rfl) d_L_act_57
  by_cases z1 : u.1 14 k = 1
  · skip
    refine vv_tableIn C 58 d_L_act_4 (by rw [z1]; decide) (by rw [z1]; decide) (by rw [z1]; rfl) rfl ?_
    refine vv_aload_n C d_L_act_58 rfl ?_
    refine vv_aload_n C d_L_act_59 rfl ?_
    refine vv_iload_n C d_L_act_60 rfl ?_
    refine vv_iload_n C d_L_act_61 rfl ?_
    refine vv_iload C d_L_act_62 rfl ?_
    refine callC (rest := []) C (c_L_actChange l Γ u hG k hk dd bb x hdd hbb hmu hI) cw_L_L_actChange rfl 0 (by decide) rfl rfl rfl rfl (Nat.le_of_ble_eq_true rfl) (by decide) (by omega) d_L_act_64 ?_
    refine vv_st (st' := [.int ((kChg (kGo n) k (nI dd) (nI bb) x u).1)]) rfl ?_
    have hE : kAct (kGo n) k (nI dd) (nI bb) x u = ((kChg (kGo n) k (nI dd) (nI bb) x u).1, ((kChg (kGo n) k (nI dd) (nI bb) x u).2)) := by
      unfold kAct
      try dsimp only
      first | rw [if_pos z0] | rw [if_neg z0] | rw [if_pos (by exact z0)] | rw [if_neg (by exact z0)] | rw [if_neg (by exact z_nle z0)] | rw [if_pos (by exact z_le z0)] | rw [if_neg (by exact z_nlt z0)] | rw [if_pos (by exact z_lt z0)] | rw [if_neg (by rw [z0]; decide)] | rw [if_pos (by rw [z0])] | rw [if_neg (by exact tf_t z0)] | rw [if_neg (by exact tf_f z0)] | simp only [z0] | skip
      first | rw [if_pos z1] | rw [if_neg z1] | rw [if_pos (by exact z1)] | rw [if_neg (by exact z1)] | rw [if_neg (by exact z_nle z1)] | rw [if_pos (by exact z_le z1)] | rw [if_neg (by exact z_nlt z1)] | rw [if_pos (by exact z_lt z1)] | rw [if_neg (by rw [z1]; decide)] | rw [if_pos (by rw [z1])] | rw [if_neg (by exact tf_t z1)] | rw [if_neg (by exact tf_f z1)] | simp only [z1] | skip
      try rfl
    exact vv_iret C hr hlk (by rw [hE] <;> rfl) (by rw [hE] <;> rfl) d_L_act_67
  by_cases z2 : u.1 14 k = 2
  · skip
    refine vv_tableIn C 68 d_L_act_4 (by rw [z2]; decide) (by rw [z2]; decide) (by rw [z2]; rfl) rfl ?_
    refine vv_aload_n C d_L_act_68 rfl ?_
    refine vv_aload_n C d_L_act_69 rfl ?_
    refine vv_iload_n C d_L_act_70 rfl ?_
    refine vv_iload_n C d_L_act_71 rfl ?_
    refine vv_iload C d_L_act_72 rfl ?_
    refine callC (rest := []) C (c_L_actSkip l Γ u hG k hk dd bb x hdd hbb hmu hI) cw_L_L_actSkip rfl 0 (by decide) rfl rfl rfl rfl (Nat.le_of_ble_eq_true rfl) (by decide) (by omega) d_L_act_74 ?_
    refine vv_st (st' := [.int ((kSkp (kGo n) k (nI dd) (nI bb) x u).1)]) rfl ?_
    have hE : kAct (kGo n) k (nI dd) (nI bb) x u = ((kSkp (kGo n) k (nI dd) (nI bb) x u).1, ((kSkp (kGo n) k (nI dd) (nI bb) x u).2)) := by
      unfold kAct
      try dsimp only
      first | rw [if_pos z0] | rw [if_neg z0] | rw [if_pos (by exact z0)] | rw [if_neg (by exact z0)] | rw [if_neg (by exact z_nle z0)] | rw [if_pos (by exact z_le z0)] | rw [if_neg (by exact z_nlt z0)] | rw [if_pos (by exact z_lt z0)] | rw [if_neg (by rw [z0]; decide)] | rw [if_pos (by rw [z0])] | rw [if_neg (by exact tf_t z0)] | rw [if_neg (by exact tf_f z0)] | simp only [z0] | skip
      first | rw [if_pos z1] | rw [if_neg z1] | rw [if_pos (by exact z1)] | rw [if_neg (by exact z1)] | rw [if_neg (by exact z_nle z1)] | rw [if_pos (by exact z_le z1)] | rw [if_neg (by exact z_nlt z1)] | rw [if_pos (by exact z_lt z1)] | rw [if_neg (by rw [z1]; decide)] | rw [if_pos (by rw [z1])] | rw [if_neg (by exact tf_t z1)] | rw [if_neg (by exact tf_f z1)] | simp only [z1] | skip
      first | rw [if_pos z2] | rw [if_neg z2] | rw [if_pos (by exact z2)] | rw [if_neg (by exact z2)] | rw [if_neg (by exact z_nle z2)] | rw [if_pos (by exact z_le z2)] | rw [if_neg (by exact z_nlt z2)] | rw [if_pos (by exact z_lt z2)] | rw [if_neg (by rw [z2]; decide)] | rw [if_pos (by rw [z2])] | rw [if_neg (by exact tf_t z2)] | rw [if_neg (by exact tf_f z2)] | simp only [z2] | skip
      try rfl
    exact vv_iret C hr hlk (by rw [hE] <;> rfl) (by rw [hE] <;> rfl) d_L_act_77
  by_cases z3 : u.1 14 k = 3
  · skip
    refine vv_tableIn C 78 d_L_act_4 (by rw [z3]; decide) (by rw [z3]; decide) (by rw [z3]; rfl) rfl ?_
    refine vv_aload_n C d_L_act_78 rfl ?_
    refine vv_aload_n C d_L_act_79 rfl ?_
    refine vv_iload_n C d_L_act_80 rfl ?_
    refine vv_iload_n C d_L_act_81 rfl ?_
    refine vv_iload C d_L_act_82 rfl ?_
    refine callC (rest := []) C (c_L_actTwice l Γ u hG k hk dd bb x hdd hbb hmu hI) cw_L_L_actTwice rfl 0 (by decide) rfl rfl rfl rfl (Nat.le_of_ble_eq_true rfl) (by decide) (by omega) d_L_act_84 ?_
    refine vv_st (st' := [.int ((kTwi (kGo n) k (nI dd) (nI bb) x u).1)]) rfl ?_
    have hE : kAct (kGo n) k (nI dd) (nI bb) x u = ((kTwi (kGo n) k (nI dd) (nI bb) x u).1, ((kTwi (kGo n) k (nI dd) (nI bb) x u).2)) := by
      unfold kAct
      try dsimp only
      first | rw [if_pos z0] | rw [if_neg z0] | rw [if_pos (by exact z0)] | rw [if_neg (by exact z0)] | rw [if_neg (by exact z_nle z0)] | rw [if_pos (by exact z_le z0)] | rw [if_neg (by exact z_nlt z0)] | rw [if_pos (by exact z_lt z0)] | rw [if_neg (by rw [z0]; decide)] | rw [if_pos (by rw [z0])] | rw [if_neg (by exact tf_t z0)] | rw [if_neg (by exact tf_f z0)] | simp only [z0] | skip
      first | rw [if_pos z1] | rw [if_neg z1] | rw [if_pos (by exact z1)] | rw [if_neg (by exact z1)] | rw [if_neg (by exact z_nle z1)] | rw [if_pos (by exact z_le z1)] | rw [if_neg (by exact z_nlt z1)] | rw [if_pos (by exact z_lt z1)] | rw [if_neg (by rw [z1]; decide)] | rw [if_pos (by rw [z1])] | rw [if_neg (by exact tf_t z1)] | rw [if_neg (by exact tf_f z1)] | simp only [z1] | skip
      first | rw [if_pos z2] | rw [if_neg z2] | rw [if_pos (by exact z2)] | rw [if_neg (by exact z2)] | rw [if_neg (by exact z_nle z2)] | rw [if_pos (by exact z_le z2)] | rw [if_neg (by exact z_nlt z2)] | rw [if_pos (by exact z_lt z2)] | rw [if_neg (by rw [z2]; decide)] | rw [if_pos (by rw [z2])] | rw [if_neg (by exact tf_t z2)] | rw [if_neg (by exact tf_f z2)] | simp only [z2] | skip
      first | rw [if_pos z3] | rw [if_neg z3] | rw [if_pos (by exact z3)] | rw [if_neg (by exact z3)] | rw [if_neg (by exact z_nle z3)] | rw [if_pos (by exact z_le z3)] | rw [if_neg (by exact z_nlt z3)] | rw [if_pos (by exact z_lt z3)] | rw [if_neg (by rw [z3]; decide)] | rw [if_pos (by rw [z3])] | rw [if_neg (by exact tf_t z3)] | rw [if_neg (by exact tf_f z3)] | simp only [z3] | skip
      try rfl
    exact vv_iret C hr hlk (by rw [hE] <;> rfl) (by rw [hE] <;> rfl) d_L_act_87
  by_cases z4 : u.1 14 k = 4
  · skip
    refine vv_tableIn C 88 d_L_act_4 (by rw [z4]; decide) (by rw [z4]; decide) (by rw [z4]; rfl) rfl ?_
    refine vv_aload_n C d_L_act_88 rfl ?_
    refine vv_aload_n C d_L_act_89 rfl ?_
    refine vv_iload_n C d_L_act_90 rfl ?_
    refine vv_iload_n C d_L_act_91 rfl ?_
    refine vv_iload C d_L_act_92 rfl ?_
    refine callC (rest := []) C (c_L_actReturning l Γ u hG k hk dd bb x hdd hbb hmu hI) cw_L_L_actReturning rfl 0 (by decide) rfl rfl rfl rfl (Nat.le_of_ble_eq_true rfl) (by decide) (by omega) d_L_act_94 ?_
    refine vv_st (st' := [.int ((kRet (kGo n) k (nI dd) (nI bb) x u).1)]) rfl ?_
    have hE : kAct (kGo n) k (nI dd) (nI bb) x u = ((kRet (kGo n) k (nI dd) (nI bb) x u).1, ((kRet (kGo n) k (nI dd) (nI bb) x u).2)) := by
      unfold kAct
      try dsimp only
      first | rw [if_pos z0] | rw [if_neg z0] | rw [if_pos (by exact z0)] | rw [if_neg (by exact z0)] | rw [if_neg (by exact z_nle z0)] | rw [if_pos (by exact z_le z0)] | rw [if_neg (by exact z_nlt z0)] | rw [if_pos (by exact z_lt z0)] | rw [if_neg (by rw [z0]; decide)] | rw [if_pos (by rw [z0])] | rw [if_neg (by exact tf_t z0)] | rw [if_neg (by exact tf_f z0)] | simp only [z0] | skip
      first | rw [if_pos z1] | rw [if_neg z1] | rw [if_pos (by exact z1)] | rw [if_neg (by exact z1)] | rw [if_neg (by exact z_nle z1)] | rw [if_pos (by exact z_le z1)] | rw [if_neg (by exact z_nlt z1)] | rw [if_pos (by exact z_lt z1)] | rw [if_neg (by rw [z1]; decide)] | rw [if_pos (by rw [z1])] | rw [if_neg (by exact tf_t z1)] | rw [if_neg (by exact tf_f z1)] | simp only [z1] | skip
      first | rw [if_pos z2] | rw [if_neg z2] | rw [if_pos (by exact z2)] | rw [if_neg (by exact z2)] | rw [if_neg (by exact z_nle z2)] | rw [if_pos (by exact z_le z2)] | rw [if_neg (by exact z_nlt z2)] | rw [if_pos (by exact z_lt z2)] | rw [if_neg (by rw [z2]; decide)] | rw [if_pos (by rw [z2])] | rw [if_neg (by exact tf_t z2)] | rw [if_neg (by exact tf_f z2)] | simp only [z2] | skip
      first | rw [if_pos z3] | rw [if_neg z3] | rw [if_pos (by exact z3)] | rw [if_neg (by exact z3)] | rw [if_neg (by exact z_nle z3)] | rw [if_pos (by exact z_le z3)] | rw [if_neg (by exact z_nlt z3)] | rw [if_pos (by exact z_lt z3)] | rw [if_neg (by rw [z3]; decide)] | rw [if_pos (by rw [z3])] | rw [if_neg (by exact tf_t z3)] | rw [if_neg (by exact tf_f z3)] | simp only [z3] | skip
      first | rw [if_pos z4] | rw [if_neg z4] | rw [if_pos (by exact z4)] | rw [if_neg (by exact z4)] | rw [if_neg (by exact z_nle z4)] | rw [if_pos (by exact z_le z4)] | rw [if_neg (by exact z_nlt z4)] | rw [if_pos (by exact z_lt z4)] | rw [if_neg (by rw [z4]; decide)] | rw [if_pos (by rw [z4])] | rw [if_neg (by exact tf_t z4)] | rw [if_neg (by exact tf_f z4)] | simp only [z4] | skip
      try rfl
    exact vv_iret C hr hlk (by rw [hE] <;> rfl) (by rw [hE] <;> rfl) d_L_act_97
  by_cases z5 : u.1 14 k = 5
  · skip
    refine vv_tableIn C 98 d_L_act_4 (by rw [z5]; decide) (by rw [z5]; decide) (by rw [z5]; rfl) rfl ?_
    refine vv_aload_n C d_L_act_98 rfl ?_
    refine vv_aload_n C d_L_act_99 rfl ?_
    refine vv_iload_n C d_L_act_100 rfl ?_
    refine vv_iload_n C d_L_act_101 rfl ?_
    refine vv_iload C d_L_act_102 rfl ?_
    refine callC (rest := []) C (c_L_actThrowing l Γ u hG k hk dd bb x hdd hbb hmu hI) cw_L_L_actThrowing rfl 0 (by decide) rfl rfl rfl rfl (Nat.le_of_ble_eq_true rfl) (by decide) (by omega) d_L_act_104 ?_
    refine vv_st (st' := [.int ((kThr (kGo n) k (nI dd) (nI bb) x u).1)]) rfl ?_
    have hE : kAct (kGo n) k (nI dd) (nI bb) x u = ((kThr (kGo n) k (nI dd) (nI bb) x u).1, ((kThr (kGo n) k (nI dd) (nI bb) x u).2)) := by
      unfold kAct
      try dsimp only
      first | rw [if_pos z0] | rw [if_neg z0] | rw [if_pos (by exact z0)] | rw [if_neg (by exact z0)] | rw [if_neg (by exact z_nle z0)] | rw [if_pos (by exact z_le z0)] | rw [if_neg (by exact z_nlt z0)] | rw [if_pos (by exact z_lt z0)] | rw [if_neg (by rw [z0]; decide)] | rw [if_pos (by rw [z0])] | rw [if_neg (by exact tf_t z0)] | rw [if_neg (by exact tf_f z0)] | simp only [z0] | skip
      first | rw [if_pos z1] | rw [if_neg z1] | rw [if_pos (by exact z1)] | rw [if_neg (by exact z1)] | rw [if_neg (by exact z_nle z1)] | rw [if_pos (by exact z_le z1)] | rw [if_neg (by exact z_nlt z1)] | rw [if_pos (by exact z_lt z1)] | rw [if_neg (by rw [z1]; decide)] | rw [if_pos (by rw [z1])] | rw [if_neg (by exact tf_t z1)] | rw [if_neg (by exact tf_f z1)] | simp only [z1] | skip
      first | rw [if_pos z2] | rw [if_neg z2] | rw [if_pos (by exact z2)] | rw [if_neg (by exact z2)] | rw [if_neg (by exact z_nle z2)] | rw [if_pos (by exact z_le z2)] | rw [if_neg (by exact z_nlt z2)] | rw [if_pos (by exact z_lt z2)] | rw [if_neg (by rw [z2]; decide)] | rw [if_pos (by rw [z2])] | rw [if_neg (by exact tf_t z2)] | rw [if_neg (by exact tf_f z2)] | simp only [z2] | skip
      first | rw [if_pos z3] | rw [if_neg z3] | rw [if_pos (by exact z3)] | rw [if_neg (by exact z3)] | rw [if_neg (by exact z_nle z3)] | rw [if_pos (by exact z_le z3)] | rw [if_neg (by exact z_nlt z3)] | rw [if_pos (by exact z_lt z3)] | rw [if_neg (by rw [z3]; decide)] | rw [if_pos (by rw [z3])] | rw [if_neg (by exact tf_t z3)] | rw [if_neg (by exact tf_f z3)] | simp only [z3] | skip
      first | rw [if_pos z4] | rw [if_neg z4] | rw [if_pos (by exact z4)] | rw [if_neg (by exact z4)] | rw [if_neg (by exact z_nle z4)] | rw [if_pos (by exact z_le z4)] | rw [if_neg (by exact z_nlt z4)] | rw [if_pos (by exact z_lt z4)] | rw [if_neg (by rw [z4]; decide)] | rw [if_pos (by rw [z4])] | rw [if_neg (by exact tf_t z4)] | rw [if_neg (by exact tf_f z4)] | simp only [z4] | skip
      first | rw [if_pos z5] | rw [if_neg z5] | rw [if_pos (by exact z5)] | rw [if_neg (by exact z5)] | rw [if_neg (by exact z_nle z5)] | rw [if_pos (by exact z_le z5)] | rw [if_neg (by exact z_nlt z5)] | rw [if_pos (by exact z_lt z5)] | rw [if_neg (by rw [z5]; decide)] | rw [if_pos (by rw [z5])] | rw [if_neg (by exact tf_t z5)] | rw [if_neg (by exact tf_f z5)] | simp only [z5] | skip
      try rfl
    exact vv_iret C hr hlk (by rw [hE] <;> rfl) (by rw [hE] <;> rfl) d_L_act_107
  by_cases z6 : u.1 14 k = 6
  · skip
    refine vv_tableIn C 108 d_L_act_4 (by rw [z6]; decide) (by rw [z6]; decide) (by rw [z6]; rfl) rfl ?_
    refine vv_aload_n C d_L_act_108 rfl ?_
    refine vv_aload_n C d_L_act_109 rfl ?_
    refine vv_iload_n C d_L_act_110 rfl ?_
    refine vv_iload_n C d_L_act_111 rfl ?_
    refine vv_iload C d_L_act_112 rfl ?_
    refine callC (rest := []) C (c_L_actFinally l Γ u hG k hk dd bb x hdd hbb hmu hI) cw_L_L_actFinally rfl 0 (by decide) rfl rfl rfl rfl (Nat.le_of_ble_eq_true rfl) (by decide) (by omega) d_L_act_114 ?_
    refine vv_st (st' := [.int ((kFin (kGo n) k (nI dd) (nI bb) x u).1)]) rfl ?_
    have hE : kAct (kGo n) k (nI dd) (nI bb) x u = ((kFin (kGo n) k (nI dd) (nI bb) x u).1, ((kFin (kGo n) k (nI dd) (nI bb) x u).2)) := by
      unfold kAct
      try dsimp only
      first | rw [if_pos z0] | rw [if_neg z0] | rw [if_pos (by exact z0)] | rw [if_neg (by exact z0)] | rw [if_neg (by exact z_nle z0)] | rw [if_pos (by exact z_le z0)] | rw [if_neg (by exact z_nlt z0)] | rw [if_pos (by exact z_lt z0)] | rw [if_neg (by rw [z0]; decide)] | rw [if_pos (by rw [z0])] | rw [if_neg (by exact tf_t z0)] | rw [if_neg (by exact tf_f z0)] | simp only [z0] | skip
      first | rw [if_pos z1] | rw [if_neg z1] | rw [if_pos (by exact z1)] | rw [if_neg (by exact z1)] | rw [if_neg (by exact z_nle z1)] | rw [if_pos (by exact z_le z1)] | rw [if_neg (by exact z_nlt z1)] | rw [if_pos (by exact z_lt z1)] | rw [if_neg (by rw [z1]; decide)] | rw [if_pos (by rw [z1])] | rw [if_neg (by exact tf_t z1)] | rw [if_neg (by exact tf_f z1)] | simp only [z1] | skip
      first | rw [if_pos z2] | rw [if_neg z2] | rw [if_pos (by exact z2)] | rw [if_neg (by exact z2)] | rw [if_neg (by exact z_nle z2)] | rw [if_pos (by exact z_le z2)] | rw [if_neg (by exact z_nlt z2)] | rw [if_pos (by exact z_lt z2)] | rw [if_neg (by rw [z2]; decide)] | rw [if_pos (by rw [z2])] | rw [if_neg (by exact tf_t z2)] | rw [if_neg (by exact tf_f z2)] | simp only [z2] | skip
      first | rw [if_pos z3] | rw [if_neg z3] | rw [if_pos (by exact z3)] | rw [if_neg (by exact z3)] | rw [if_neg (by exact z_nle z3)] | rw [if_pos (by exact z_le z3)] | rw [if_neg (by exact z_nlt z3)] | rw [if_pos (by exact z_lt z3)] | rw [if_neg (by rw [z3]; decide)] | rw [if_pos (by rw [z3])] | rw [if_neg (by exact tf_t z3)] | rw [if_neg (by exact tf_f z3)] | simp only [z3] | skip
      first | rw [if_pos z4] | rw [if_neg z4] | rw [if_pos (by exact z4)] | rw [if_neg (by exact z4)] | rw [if_neg (by exact z_nle z4)] | rw [if_pos (by exact z_le z4)] | rw [if_neg (by exact z_nlt z4)] | rw [if_pos (by exact z_lt z4)] | rw [if_neg (by rw [z4]; decide)] | rw [if_pos (by rw [z4])] | rw [if_neg (by exact tf_t z4)] | rw [if_neg (by exact tf_f z4)] | simp only [z4] | skip
      first | rw [if_pos z5] | rw [if_neg z5] | rw [if_pos (by exact z5)] | rw [if_neg (by exact z5)] | rw [if_neg (by exact z_nle z5)] | rw [if_pos (by exact z_le z5)] | rw [if_neg (by exact z_nlt z5)] | rw [if_pos (by exact z_lt z5)] | rw [if_neg (by rw [z5]; decide)] | rw [if_pos (by rw [z5])] | rw [if_neg (by exact tf_t z5)] | rw [if_neg (by exact tf_f z5)] | simp only [z5] | skip
      first | rw [if_pos z6] | rw [if_neg z6] | rw [if_pos (by exact z6)] | rw [if_neg (by exact z6)] | rw [if_neg (by exact z_nle z6)] | rw [if_pos (by exact z_le z6)] | rw [if_neg (by exact z_nlt z6)] | rw [if_pos (by exact z_lt z6)] | rw [if_neg (by rw [z6]; decide)] | rw [if_pos (by rw [z6])] | rw [if_neg (by exact tf_t z6)] | rw [if_neg (by exact tf_f z6)] | simp only [z6] | skip
      try rfl
    exact vv_iret C hr hlk (by rw [hE] <;> rfl) (by rw [hE] <;> rfl) d_L_act_117
  have hout : (u.1 14 k).toInt < 0 ∨ ((6 : Nat) : Int) < (u.1 14 k).toInt := sw_out (by omega) (fun j hj => by
    have hj' : j = 0 ∨ j = 1 ∨ j = 2 ∨ j = 3 ∨ j = 4 ∨ j = 5 ∨ j = 6 := by omega
    rcases hj' with rfl | rfl | rfl | rfl | rfl | rfl | rfl
    · exact z0
    · exact z1
    · exact z2
    · exact z3
    · exact z4
    · exact z5
    · exact z6
    )
  refine vv_tableOut C 118 d_L_act_4 hout rfl ?_
  refine vv_aload_n C d_L_act_118 rfl ?_
  refine vv_aload_n C d_L_act_119 rfl ?_
  refine vv_iload_n C d_L_act_120 rfl ?_
  refine vv_iload_n C d_L_act_121 rfl ?_
  refine vv_iload C d_L_act_122 rfl ?_
  refine callC (rest := []) C (c_L_actRecover l Γ u hG k hk dd bb x hdd hbb hmu hI) cw_L_L_actRecover rfl 0 (by decide) rfl rfl rfl rfl (Nat.le_of_ble_eq_true rfl) (by decide) (by omega) d_L_act_124 ?_
  refine vv_st (st' := [.int ((kRec (kGo n) k (nI dd) (nI bb) x u).1)]) rfl ?_
  have hE : kAct (kGo n) k (nI dd) (nI bb) x u = ((kRec (kGo n) k (nI dd) (nI bb) x u).1, ((kRec (kGo n) k (nI dd) (nI bb) x u).2)) := by
    unfold kAct
    try dsimp only
    first | rw [if_pos z0] | rw [if_neg z0] | rw [if_pos (by exact z0)] | rw [if_neg (by exact z0)] | rw [if_neg (by exact z_nle z0)] | rw [if_pos (by exact z_le z0)] | rw [if_neg (by exact z_nlt z0)] | rw [if_pos (by exact z_lt z0)] | rw [if_neg (by rw [z0]; decide)] | rw [if_pos (by rw [z0])] | rw [if_neg (by exact tf_t z0)] | rw [if_neg (by exact tf_f z0)] | simp only [z0] | skip
    first | rw [if_pos z1] | rw [if_neg z1] | rw [if_pos (by exact z1)] | rw [if_neg (by exact z1)] | rw [if_neg (by exact z_nle z1)] | rw [if_pos (by exact z_le z1)] | rw [if_neg (by exact z_nlt z1)] | rw [if_pos (by exact z_lt z1)] | rw [if_neg (by rw [z1]; decide)] | rw [if_pos (by rw [z1])] | rw [if_neg (by exact tf_t z1)] | rw [if_neg (by exact tf_f z1)] | simp only [z1] | skip
    first | rw [if_pos z2] | rw [if_neg z2] | rw [if_pos (by exact z2)] | rw [if_neg (by exact z2)] | rw [if_neg (by exact z_nle z2)] | rw [if_pos (by exact z_le z2)] | rw [if_neg (by exact z_nlt z2)] | rw [if_pos (by exact z_lt z2)] | rw [if_neg (by rw [z2]; decide)] | rw [if_pos (by rw [z2])] | rw [if_neg (by exact tf_t z2)] | rw [if_neg (by exact tf_f z2)] | simp only [z2] | skip
    first | rw [if_pos z3] | rw [if_neg z3] | rw [if_pos (by exact z3)] | rw [if_neg (by exact z3)] | rw [if_neg (by exact z_nle z3)] | rw [if_pos (by exact z_le z3)] | rw [if_neg (by exact z_nlt z3)] | rw [if_pos (by exact z_lt z3)] | rw [if_neg (by rw [z3]; decide)] | rw [if_pos (by rw [z3])] | rw [if_neg (by exact tf_t z3)] | rw [if_neg (by exact tf_f z3)] | simp only [z3] | skip
    first | rw [if_pos z4] | rw [if_neg z4] | rw [if_pos (by exact z4)] | rw [if_neg (by exact z4)] | rw [if_neg (by exact z_nle z4)] | rw [if_pos (by exact z_le z4)] | rw [if_neg (by exact z_nlt z4)] | rw [if_pos (by exact z_lt z4)] | rw [if_neg (by rw [z4]; decide)] | rw [if_pos (by rw [z4])] | rw [if_neg (by exact tf_t z4)] | rw [if_neg (by exact tf_f z4)] | simp only [z4] | skip
    first | rw [if_pos z5] | rw [if_neg z5] | rw [if_pos (by exact z5)] | rw [if_neg (by exact z5)] | rw [if_neg (by exact z_nle z5)] | rw [if_pos (by exact z_le z5)] | rw [if_neg (by exact z_nlt z5)] | rw [if_pos (by exact z_lt z5)] | rw [if_neg (by rw [z5]; decide)] | rw [if_pos (by rw [z5])] | rw [if_neg (by exact tf_t z5)] | rw [if_neg (by exact tf_f z5)] | simp only [z5] | skip
    first | rw [if_pos z6] | rw [if_neg z6] | rw [if_pos (by exact z6)] | rw [if_neg (by exact z6)] | rw [if_neg (by exact z_nle z6)] | rw [if_pos (by exact z_le z6)] | rw [if_neg (by exact z_nlt z6)] | rw [if_pos (by exact z_lt z6)] | rw [if_neg (by rw [z6]; decide)] | rw [if_pos (by rw [z6])] | rw [if_neg (by exact tf_t z6)] | rw [if_neg (by exact tf_f z6)] | simp only [z6] | skip
    try rfl
  exact vv_iret C hr hlk (by rw [hE] <;> rfl) (by rw [hE] <;> rfl) d_L_act_127
set_option maxHeartbeats 4000000 in
set_option maxRecDepth 100000 in
theorem c_L_workOn (l : Launch) (Γ : Geo) (u : SC) {n : Nat} (hG : GoC n) (dd : Nat) (x : Int32) (hdd : dd < 3) (hmu : (2 - dd) * 7 ≤ n) (hI : IC u) : CtC l Γ y_L_workOn b_L_workOn 6 (some .int) (3 * n + 2) [.ref (Γ.2.1 0), .int (nI dd), .int x] u (some (.int (kWork (kGo n) (nI dd) x u).1)) (kWork (kGo n) (nI dd) x u).2 := by
  refine ct_of (by decide +kernel) (Nat.le_of_ble_eq_true rfl) ?_
  intro p e s m args below meth c C hr hlk
  obtain ⟨hw1, hw2⟩ := w_in hI hdd
  refine vv_aload_n C d_L_workOn_0 rfl ?_
  refine g_L_L_methodAt C d_L_workOn_1 ?_
  refine vv_iload_n C d_L_workOn_4 rfl ?_
  refine ld_4_7 C (in3 hdd) d_L_workOn_5 ?_
  refine vv_istore_n (lv' := [(3, .int (u.1 9 (ix (nI dd)))), (0, .ref (Γ.2.1 0)), (1, .int (nI dd)), (2, .int x)]) C d_L_workOn_6 rfl (by decide) rfl ?_
  refine vv_aload_n C d_L_workOn_7 rfl ?_
  refine vv_aload_n C d_L_workOn_8 rfl ?_
  refine g_L_L_targetAt C d_L_workOn_9 ?_
  refine vv_iload_n C d_L_workOn_12 rfl ?_
  refine ld_4_8 C (in3 hdd) d_L_workOn_13 ?_
  refine vv_iload_n C d_L_workOn_14 rfl ?_
  refine callC (rest := []) C (c_L_workOf l Γ u (u.1 10 (ix (nI dd))) (u.1 9 (ix (nI dd))) hw1) cw_L_L_workOf rfl 0 (by decide) rfl rfl rfl rfl (Nat.le_of_ble_eq_true rfl) (by decide) (by omega) d_L_workOn_15 ?_
  refine vv_st (st' := [.ref (Γ.2.1 (ix ((u.1 10 (ix (nI dd))) * 6 + (u.1 9 (ix (nI dd)))) + 15))]) rfl ?_
  refine vv_astore (lv' := [(4, .ref (Γ.2.1 (ix ((u.1 10 (ix (nI dd))) * 6 + (u.1 9 (ix (nI dd)))) + 15))), (3, .int (u.1 9 (ix (nI dd)))), (0, .ref (Γ.2.1 0)), (1, .int (nI dd)), (2, .int x)]) C d_L_workOn_18 (by decide) rfl ?_
  refine vv_aload_n C d_L_workOn_20 rfl ?_
  refine g_L_L_trace C d_L_workOn_21 ?_
  refine vv_bipush C (100) d_L_workOn_24 (by decide) ?_
  refine vv_iload_n C d_L_workOn_26 rfl ?_
  refine vv_iadd C d_L_workOn_27 ?_
  refine vv_iload_n C d_L_workOn_28 rfl ?_
  refine callC (rest := []) C (c_T_note l Γ u hI (100 + (u.1 9 (ix (nI dd)))) x) cw_L_T_note rfl 4 (by decide) rfl rfl rfl rfl (Nat.le_of_ble_eq_true rfl) (by decide) (by omega) d_L_workOn_29 ?_
  refine vv_st (st' := [.int (bI (kNote u (100 + (u.1 9 (ix (nI dd)))) x).1)]) rfl ?_
  refine vv_if_ne C 40 d_L_workOn_32 rfl (fun h1 => ?_) (fun h1 => ?_)
  · skip
    replace h1 := bI_t h1
    refine vv_aload C d_L_workOn_40 rfl ?_
    refine vv_iload_n C d_L_workOn_42 rfl ?_
    refine callC (rest := []) C (c_K_failsOn l Γ ((kNote u (100 + (u.1 9 (ix (nI dd)))) x).2) (ix ((u.1 10 (ix (nI dd))) * 6 + (u.1 9 (ix (nI dd))))) hw2 x) cw_L_K_failsOn rfl (ix ((u.1 10 (ix (nI dd))) * 6 + (u.1 9 (ix (nI dd)))) + 15) (by have := hw2; omega) rfl eC_wrk rfl rfl (Nat.le_of_ble_eq_true rfl) (by decide) (by omega) d_L_workOn_43 ?_
    refine vv_st (st' := [.int (bI (kFailsOn ((kNote u (100 + (u.1 9 (ix (nI dd)))) x).2) (ix ((u.1 10 (ix (nI dd))) * 6 + (u.1 9 (ix (nI dd))))) x))]) rfl ?_
    refine vv_if_eq C 59 d_L_workOn_46 rfl (fun h2 => ?_) (fun h2 => ?_)
    · skip
      replace h2 := bI_f h2
      refine vv_aload C d_L_workOn_59 rfl ?_
      refine g_L_K_next C hw2 d_L_workOn_61 ?_
      refine vv_iconst C (-1) d_L_workOn_64 (by decide) ?_
      refine vv_icmp_eq C 72 d_L_workOn_65 rfl (fun h3 => ?_) (fun h3 => ?_)
      · skip
        refine vv_aload_n C d_L_workOn_72 rfl ?_
        refine vv_aload C d_L_workOn_73 rfl ?_
        refine vv_iload_n C d_L_workOn_75 rfl ?_
        refine callC (rest := [.ref (Γ.2.1 0)]) C (c_K_reckon l Γ ((kNote u (100 + (u.1 9 (ix (nI dd)))) x).2) (ix ((u.1 10 (ix (nI dd))) * 6 + (u.1 9 (ix (nI dd))))) hw2 x) cw_L_K_reckon rfl (ix ((u.1 10 (ix (nI dd))) * 6 + (u.1 9 (ix (nI dd)))) + 15) (by have := hw2; omega) rfl eC_wrk rfl rfl (Nat.le_of_ble_eq_true rfl) (by decide) (by omega) d_L_workOn_76 ?_
        refine vv_st (st' := [.int (kReckon ((kNote u (100 + (u.1 9 (ix (nI dd)))) x).2) (ix ((u.1 10 (ix (nI dd))) * 6 + (u.1 9 (ix (nI dd))))) x), .ref (Γ.2.1 0)]) rfl ?_
        refine callC (rest := []) C (c_L_returned l Γ ((kNote u (100 + (u.1 9 (ix (nI dd)))) x).2) (kReckon ((kNote u (100 + (u.1 9 (ix (nI dd)))) x).2) (ix ((u.1 10 (ix (nI dd))) * 6 + (u.1 9 (ix (nI dd))))) x)) cw_L_L_returned rfl 0 (by decide) rfl rfl rfl rfl (Nat.le_of_ble_eq_true rfl) (by decide) (by omega) d_L_workOn_79 ?_
        refine vv_st (st' := [.int 0]) rfl ?_
        have hE : kWork (kGo n) (nI dd) x u = (0, (wr ((kNote u (100 + (u.1 9 (ix (nI dd)))) x).2) 5 0 (kReckon ((kNote u (100 + (u.1 9 (ix (nI dd)))) x).2) (ix ((u.1 10 (ix (nI dd))) * 6 + (u.1 9 (ix (nI dd))))) x))) := by
          unfold kWork kWorkR
          try rw [nI_1]
          try dsimp only
          first | rw [if_pos h1] | rw [if_neg h1] | rw [if_pos (by exact h1)] | rw [if_neg (by exact h1)] | rw [if_neg (by exact z_nle h1)] | rw [if_pos (by exact z_le h1)] | rw [if_neg (by exact z_nlt h1)] | rw [if_pos (by exact z_lt h1)] | rw [if_neg (by rw [h1]; decide)] | rw [if_pos (by rw [h1])] | rw [if_neg (by exact tf_t h1)] | rw [if_neg (by exact tf_f h1)] | simp only [h1] | skip
          first | rw [if_pos h2] | rw [if_neg h2] | rw [if_pos (by exact h2)] | rw [if_neg (by exact h2)] | rw [if_neg (by exact z_nle h2)] | rw [if_pos (by exact z_le h2)] | rw [if_neg (by exact z_nlt h2)] | rw [if_pos (by exact z_lt h2)] | rw [if_neg (by rw [h2]; decide)] | rw [if_pos (by rw [h2])] | rw [if_neg (by exact tf_t h2)] | rw [if_neg (by exact tf_f h2)] | simp only [h2] | skip
          first | rw [if_pos h3] | rw [if_neg h3] | rw [if_pos (by exact h3)] | rw [if_neg (by exact h3)] | rw [if_neg (by exact z_nle h3)] | rw [if_pos (by exact z_le h3)] | rw [if_neg (by exact z_nlt h3)] | rw [if_pos (by exact z_lt h3)] | rw [if_neg (by rw [h3]; decide)] | rw [if_pos (by rw [h3])] | rw [if_neg (by exact tf_t h3)] | rw [if_neg (by exact tf_f h3)] | simp only [h3] | skip
          try rfl
        exact vv_iret C hr hlk (by rw [hE] <;> rfl) (by rw [hE] <;> rfl) d_L_workOn_82
      · skip
        refine vv_iload_n C d_L_workOn_68 rfl ?_
        refine vv_if_gt C 83 d_L_workOn_69 rfl (fun h4 => ?_) (fun h4 => ?_)
        · skip
          refine vv_aload_n C d_L_workOn_83 rfl ?_
          refine vv_aload C d_L_workOn_84 rfl ?_
          refine g_L_K_next C hw2 d_L_workOn_86 ?_
          refine vv_iload_n C d_L_workOn_89 rfl ?_
          refine vv_iconst C (1) d_L_workOn_90 (by decide) ?_
          refine vv_isub C d_L_workOn_91 ?_
          refine vv_iload_n C d_L_workOn_92 rfl ?_
          refine vv_iconst C (1) d_L_workOn_93 (by decide) ?_
          refine vv_iadd C d_L_workOn_94 ?_
          rw [nI_1]
          refine callC (rest := []) C (c_L_begin l Γ ((kNote u (100 + (u.1 9 (ix (nI dd)))) x).2) hG (((kNote u (100 + (u.1 9 (ix (nI dd)))) x).2).1 26 (ix ((u.1 10 (ix (nI dd))) * 6 + (u.1 9 (ix (nI dd)))))) (x - 1) (dd + 1) (by omega) (fun _ => by omega) (nx_ok (IC_note hI (100 + (u.1 9 (ix (nI dd)))) x) hw2 h3) (IC_note hI (100 + (u.1 9 (ix (nI dd)))) x)) cw_L_L_begin rfl 0 (by decide) rfl rfl rfl rfl (Nat.le_of_ble_eq_true rfl) (by decide) (by omega) d_L_workOn_95 ?_
          refine vv_st (st' := [.int ((kBegin (kGo n) (((kNote u (100 + (u.1 9 (ix (nI dd)))) x).2).1 26 (ix ((u.1 10 (ix (nI dd))) * 6 + (u.1 9 (ix (nI dd)))))) (x - 1) (nI (dd + 1)) ((kNote u (100 + (u.1 9 (ix (nI dd)))) x).2)).1)]) rfl ?_
          refine vv_istore (lv' := [(5, .int ((kBegin (kGo n) (((kNote u (100 + (u.1 9 (ix (nI dd)))) x).2).1 26 (ix ((u.1 10 (ix (nI dd))) * 6 + (u.1 9 (ix (nI dd)))))) (x - 1) (nI (dd + 1)) ((kNote u (100 + (u.1 9 (ix (nI dd)))) x).2)).1)), (4, .ref (Γ.2.1 (ix ((u.1 10 (ix (nI dd))) * 6 + (u.1 9 (ix (nI dd)))) + 15))), (3, .int (u.1 9 (ix (nI dd)))), (0, .ref (Γ.2.1 0)), (1, .int (nI dd)), (2, .int x)]) C d_L_workOn_98 (by decide) rfl ?_
          refine vv_iload C d_L_workOn_100 rfl ?_
          refine vv_if_ne C 121 d_L_workOn_102 rfl (fun h5 => ?_) (fun h5 => ?_)
          · skip
            refine vv_iload C d_L_workOn_121 rfl ?_
            have hE : kWork (kGo n) (nI dd) x u = ((kBegin (kGo n) (((kNote u (100 + (u.1 9 (ix (nI dd)))) x).2).1 26 (ix ((u.1 10 (ix (nI dd))) * 6 + (u.1 9 (ix (nI dd)))))) (x - 1) (nI (dd + 1)) ((kNote u (100 + (u.1 9 (ix (nI dd)))) x).2)).1, ((kBegin (kGo n) (((kNote u (100 + (u.1 9 (ix (nI dd)))) x).2).1 26 (ix ((u.1 10 (ix (nI dd))) * 6 + (u.1 9 (ix (nI dd)))))) (x - 1) (nI (dd + 1)) ((kNote u (100 + (u.1 9 (ix (nI dd)))) x).2)).2)) := by
              unfold kWork kWorkR
              try rw [nI_1]
              try dsimp only
              first | rw [if_pos h1] | rw [if_neg h1] | rw [if_pos (by exact h1)] | rw [if_neg (by exact h1)] | rw [if_neg (by exact z_nle h1)] | rw [if_pos (by exact z_le h1)] | rw [if_neg (by exact z_nlt h1)] | rw [if_pos (by exact z_lt h1)] | rw [if_neg (by rw [h1]; decide)] | rw [if_pos (by rw [h1])] | rw [if_neg (by exact tf_t h1)] | rw [if_neg (by exact tf_f h1)] | simp only [h1] | skip
              first | rw [if_pos h2] | rw [if_neg h2] | rw [if_pos (by exact h2)] | rw [if_neg (by exact h2)] | rw [if_neg (by exact z_nle h2)] | rw [if_pos (by exact z_le h2)] | rw [if_neg (by exact z_nlt h2)] | rw [if_pos (by exact z_lt h2)] | rw [if_neg (by rw [h2]; decide)] | rw [if_pos (by rw [h2])] | rw [if_neg (by exact tf_t h2)] | rw [if_neg (by exact tf_f h2)] | simp only [h2] | skip
              first | rw [if_pos h3] | rw [if_neg h3] | rw [if_pos (by exact h3)] | rw [if_neg (by exact h3)] | rw [if_neg (by exact z_nle h3)] | rw [if_pos (by exact z_le h3)] | rw [if_neg (by exact z_nlt h3)] | rw [if_pos (by exact z_lt h3)] | rw [if_neg (by rw [h3]; decide)] | rw [if_pos (by rw [h3])] | rw [if_neg (by exact tf_t h3)] | rw [if_neg (by exact tf_f h3)] | simp only [h3] | skip
              first | rw [if_pos h4] | rw [if_neg h4] | rw [if_pos (by exact h4)] | rw [if_neg (by exact h4)] | rw [if_neg (by exact z_nle h4)] | rw [if_pos (by exact z_le h4)] | rw [if_neg (by exact z_nlt h4)] | rw [if_pos (by exact z_lt h4)] | rw [if_neg (by rw [h4]; decide)] | rw [if_pos (by rw [h4])] | rw [if_neg (by exact tf_t h4)] | rw [if_neg (by exact tf_f h4)] | simp only [h4] | skip
              first | rw [if_pos h5] | rw [if_neg h5] | rw [if_pos (by exact h5)] | rw [if_neg (by exact h5)] | rw [if_neg (by exact z_nle h5)] | rw [if_pos (by exact z_le h5)] | rw [if_neg (by exact z_nlt h5)] | rw [if_pos (by exact z_lt h5)] | rw [if_neg (by rw [h5]; decide)] | rw [if_pos (by rw [h5])] | rw [if_neg (by exact tf_t h5)] | rw [if_neg (by exact tf_f h5)] | simp only [h5] | skip
              try rfl
            exact vv_iret C hr hlk (by rw [hE] <;> rfl) (by rw [hE] <;> rfl) d_L_workOn_123
          · skip
            refine vv_aload_n C d_L_workOn_105 rfl ?_
            refine vv_aload C d_L_workOn_106 rfl ?_
            refine vv_aload_n C d_L_workOn_108 rfl ?_
            refine g_L_L_value C d_L_workOn_109 ?_
            refine callC (rest := [.ref (Γ.2.1 0)]) C (c_K_reckon l Γ ((kBegin (kGo n) (((kNote u (100 + (u.1 9 (ix (nI dd)))) x).2).1 26 (ix ((u.1 10 (ix (nI dd))) * 6 + (u.1 9 (ix (nI dd)))))) (x - 1) (nI (dd + 1)) ((kNote u (100 + (u.1 9 (ix (nI dd)))) x).2)).2) (ix ((u.1 10 (ix (nI dd))) * 6 + (u.1 9 (ix (nI dd))))) hw2 (((kBegin (kGo n) (((kNote u (100 + (u.1 9 (ix (nI dd)))) x).2).1 26 (ix ((u.1 10 (ix (nI dd))) * 6 + (u.1 9 (ix (nI dd)))))) (x - 1) (nI (dd + 1)) ((kNote u (100 + (u.1 9 (ix (nI dd)))) x).2)).2).1 5 0)) cw_L_K_reckon rfl (ix ((u.1 10 (ix (nI dd))) * 6 + (u.1 9 (ix (nI dd)))) + 15) (by have := hw2; omega) rfl eC_wrk rfl rfl (Nat.le_of_ble_eq_true rfl) (by decide) (by omega) d_L_workOn_112 ?_
            refine vv_st (st' := [.int (kReckon ((kBegin (kGo n) (((kNote u (100 + (u.1 9 (ix (nI dd)))) x).2).1 26 (ix ((u.1 10 (ix (nI dd))) * 6 + (u.1 9 (ix (nI dd)))))) (x - 1) (nI (dd + 1)) ((kNote u (100 + (u.1 9 (ix (nI dd)))) x).2)).2) (ix ((u.1 10 (ix (nI dd))) * 6 + (u.1 9 (ix (nI dd))))) (((kBegin (kGo n) (((kNote u (100 + (u.1 9 (ix (nI dd)))) x).2).1 26 (ix ((u.1 10 (ix (nI dd))) * 6 + (u.1 9 (ix (nI dd)))))) (x - 1) (nI (dd + 1)) ((kNote u (100 + (u.1 9 (ix (nI dd)))) x).2)).2).1 5 0)), .ref (Γ.2.1 0)]) rfl ?_
            refine callC (rest := []) C (c_L_returned l Γ ((kBegin (kGo n) (((kNote u (100 + (u.1 9 (ix (nI dd)))) x).2).1 26 (ix ((u.1 10 (ix (nI dd))) * 6 + (u.1 9 (ix (nI dd)))))) (x - 1) (nI (dd + 1)) ((kNote u (100 + (u.1 9 (ix (nI dd)))) x).2)).2) (kReckon ((kBegin (kGo n) (((kNote u (100 + (u.1 9 (ix (nI dd)))) x).2).1 26 (ix ((u.1 10 (ix (nI dd))) * 6 + (u.1 9 (ix (nI dd)))))) (x - 1) (nI (dd + 1)) ((kNote u (100 + (u.1 9 (ix (nI dd)))) x).2)).2) (ix ((u.1 10 (ix (nI dd))) * 6 + (u.1 9 (ix (nI dd))))) (((kBegin (kGo n) (((kNote u (100 + (u.1 9 (ix (nI dd)))) x).2).1 26 (ix ((u.1 10 (ix (nI dd))) * 6 + (u.1 9 (ix (nI dd)))))) (x - 1) (nI (dd + 1)) ((kNote u (100 + (u.1 9 (ix (nI dd)))) x).2)).2).1 5 0))) cw_L_L_returned rfl 0 (by decide) rfl rfl rfl rfl (Nat.le_of_ble_eq_true rfl) (by decide) (by omega) d_L_workOn_115 ?_
            refine vv_st (st' := [.int 0]) rfl ?_
            refine vv_goto C 123 d_L_workOn_118 rfl ?_
            have hE : kWork (kGo n) (nI dd) x u = (0, (wr ((kBegin (kGo n) (((kNote u (100 + (u.1 9 (ix (nI dd)))) x).2).1 26 (ix ((u.1 10 (ix (nI dd))) * 6 + (u.1 9 (ix (nI dd)))))) (x - 1) (nI (dd + 1)) ((kNote u (100 + (u.1 9 (ix (nI dd)))) x).2)).2) 5 0 (kReckon ((kBegin (kGo n) (((kNote u (100 + (u.1 9 (ix (nI dd)))) x).2).1 26 (ix ((u.1 10 (ix (nI dd))) * 6 + (u.1 9 (ix (nI dd)))))) (x - 1) (nI (dd + 1)) ((kNote u (100 + (u.1 9 (ix (nI dd)))) x).2)).2) (ix ((u.1 10 (ix (nI dd))) * 6 + (u.1 9 (ix (nI dd))))) (((kBegin (kGo n) (((kNote u (100 + (u.1 9 (ix (nI dd)))) x).2).1 26 (ix ((u.1 10 (ix (nI dd))) * 6 + (u.1 9 (ix (nI dd)))))) (x - 1) (nI (dd + 1)) ((kNote u (100 + (u.1 9 (ix (nI dd)))) x).2)).2).1 5 0)))) := by
              unfold kWork kWorkR
              try rw [nI_1]
              try dsimp only
              first | rw [if_pos h1] | rw [if_neg h1] | rw [if_pos (by exact h1)] | rw [if_neg (by exact h1)] | rw [if_neg (by exact z_nle h1)] | rw [if_pos (by exact z_le h1)] | rw [if_neg (by exact z_nlt h1)] | rw [if_pos (by exact z_lt h1)] | rw [if_neg (by rw [h1]; decide)] | rw [if_pos (by rw [h1])] | rw [if_neg (by exact tf_t h1)] | rw [if_neg (by exact tf_f h1)] | simp only [h1] | skip
              first | rw [if_pos h2] | rw [if_neg h2] | rw [if_pos (by exact h2)] | rw [if_neg (by exact h2)] | rw [if_neg (by exact z_nle h2)] | rw [if_pos (by exact z_le h2)] | rw [if_neg (by exact z_nlt h2)] | rw [if_pos (by exact z_lt h2)] | rw [if_neg (by rw [h2]; decide)] | rw [if_pos (by rw [h2])] | rw [if_neg (by exact tf_t h2)] | rw [if_neg (by exact tf_f h2)] | simp only [h2] | skip
              first | rw [if_pos h3] | rw [if_neg h3] | rw [if_pos (by exact h3)] | rw [if_neg (by exact h3)] | rw [if_neg (by exact z_nle h3)] | rw [if_pos (by exact z_le h3)] | rw [if_neg (by exact z_nlt h3)] | rw [if_pos (by exact z_lt h3)] | rw [if_neg (by rw [h3]; decide)] | rw [if_pos (by rw [h3])] | rw [if_neg (by exact tf_t h3)] | rw [if_neg (by exact tf_f h3)] | simp only [h3] | skip
              first | rw [if_pos h4] | rw [if_neg h4] | rw [if_pos (by exact h4)] | rw [if_neg (by exact h4)] | rw [if_neg (by exact z_nle h4)] | rw [if_pos (by exact z_le h4)] | rw [if_neg (by exact z_nlt h4)] | rw [if_pos (by exact z_lt h4)] | rw [if_neg (by rw [h4]; decide)] | rw [if_pos (by rw [h4])] | rw [if_neg (by exact tf_t h4)] | rw [if_neg (by exact tf_f h4)] | simp only [h4] | skip
              first | rw [if_pos h5] | rw [if_neg h5] | rw [if_pos (by exact h5)] | rw [if_neg (by exact h5)] | rw [if_neg (by exact z_nle h5)] | rw [if_pos (by exact z_le h5)] | rw [if_neg (by exact z_nlt h5)] | rw [if_pos (by exact z_lt h5)] | rw [if_neg (by rw [h5]; decide)] | rw [if_pos (by rw [h5])] | rw [if_neg (by exact tf_t h5)] | rw [if_neg (by exact tf_f h5)] | simp only [h5] | skip
              try rfl
            exact vv_iret C hr hlk (by rw [hE] <;> rfl) (by rw [hE] <;> rfl) d_L_workOn_123
        · skip
          refine vv_aload_n C d_L_workOn_72 rfl ?_
          refine vv_aload C d_L_workOn_73 rfl ?_
          refine vv_iload_n C d_L_workOn_75 rfl ?_
          refine callC (rest := [.ref (Γ.2.1 0)]) C (c_K_reckon l Γ ((kNote u (100 + (u.1 9 (ix (nI dd)))) x).2) (ix ((u.1 10 (ix (nI dd))) * 6 + (u.1 9 (ix (nI dd))))) hw2 x) cw_L_K_reckon rfl (ix ((u.1 10 (ix (nI dd))) * 6 + (u.1 9 (ix (nI dd)))) + 15) (by have := hw2; omega) rfl eC_wrk rfl rfl (Nat.le_of_ble_eq_true rfl) (by decide) (by omega) d_L_workOn_76 ?_
          refine vv_st (st' := [.int (kReckon ((kNote u (100 + (u.1 9 (ix (nI dd)))) x).2) (ix ((u.1 10 (ix (nI dd))) * 6 + (u.1 9 (ix (nI dd))))) x), .ref (Γ.2.1 0)]) rfl ?_
          refine callC (rest := []) C (c_L_returned l Γ ((kNote u (100 + (u.1 9 (ix (nI dd)))) x).2) (kReckon ((kNote u (100 + (u.1 9 (ix (nI dd)))) x).2) (ix ((u.1 10 (ix (nI dd))) * 6 + (u.1 9 (ix (nI dd))))) x)) cw_L_L_returned rfl 0 (by decide) rfl rfl rfl rfl (Nat.le_of_ble_eq_true rfl) (by decide) (by omega) d_L_workOn_79 ?_
          refine vv_st (st' := [.int 0]) rfl ?_
          have hE : kWork (kGo n) (nI dd) x u = (0, (wr ((kNote u (100 + (u.1 9 (ix (nI dd)))) x).2) 5 0 (kReckon ((kNote u (100 + (u.1 9 (ix (nI dd)))) x).2) (ix ((u.1 10 (ix (nI dd))) * 6 + (u.1 9 (ix (nI dd))))) x))) := by
            unfold kWork kWorkR
            try rw [nI_1]
            try dsimp only
            first | rw [if_pos h1] | rw [if_neg h1] | rw [if_pos (by exact h1)] | rw [if_neg (by exact h1)] | rw [if_neg (by exact z_nle h1)] | rw [if_pos (by exact z_le h1)] | rw [if_neg (by exact z_nlt h1)] | rw [if_pos (by exact z_lt h1)] | rw [if_neg (by rw [h1]; decide)] | rw [if_pos (by rw [h1])] | rw [if_neg (by exact tf_t h1)] | rw [if_neg (by exact tf_f h1)] | simp only [h1] | skip
            first | rw [if_pos h2] | rw [if_neg h2] | rw [if_pos (by exact h2)] | rw [if_neg (by exact h2)] | rw [if_neg (by exact z_nle h2)] | rw [if_pos (by exact z_le h2)] | rw [if_neg (by exact z_nlt h2)] | rw [if_pos (by exact z_lt h2)] | rw [if_neg (by rw [h2]; decide)] | rw [if_pos (by rw [h2])] | rw [if_neg (by exact tf_t h2)] | rw [if_neg (by exact tf_f h2)] | simp only [h2] | skip
            first | rw [if_pos h3] | rw [if_neg h3] | rw [if_pos (by exact h3)] | rw [if_neg (by exact h3)] | rw [if_neg (by exact z_nle h3)] | rw [if_pos (by exact z_le h3)] | rw [if_neg (by exact z_nlt h3)] | rw [if_pos (by exact z_lt h3)] | rw [if_neg (by rw [h3]; decide)] | rw [if_pos (by rw [h3])] | rw [if_neg (by exact tf_t h3)] | rw [if_neg (by exact tf_f h3)] | simp only [h3] | skip
            first | rw [if_pos h4] | rw [if_neg h4] | rw [if_pos (by exact h4)] | rw [if_neg (by exact h4)] | rw [if_neg (by exact z_nle h4)] | rw [if_pos (by exact z_le h4)] | rw [if_neg (by exact z_nlt h4)] | rw [if_pos (by exact z_lt h4)] | rw [if_neg (by rw [h4]; decide)] | rw [if_pos (by rw [h4])] | rw [if_neg (by exact tf_t h4)] | rw [if_neg (by exact tf_f h4)] | simp only [h4] | skip
            try rfl
          exact vv_iret C hr hlk (by rw [hE] <;> rfl) (by rw [hE] <;> rfl) d_L_workOn_82
    · skip
      replace h2 := bI_t h2
      refine vv_aload_n C d_L_workOn_49 rfl ?_
      refine vv_aload C d_L_workOn_50 rfl ?_
      refine g_L_K_exception C hw2 d_L_workOn_52 ?_
      refine callC (rest := []) C (c_L_thrown l Γ ((kNote u (100 + (u.1 9 (ix (nI dd)))) x).2) (((kNote u (100 + (u.1 9 (ix (nI dd)))) x).2).1 25 (ix ((u.1 10 (ix (nI dd))) * 6 + (u.1 9 (ix (nI dd))))))) cw_L_L_thrown rfl 0 (by decide) rfl rfl rfl rfl (Nat.le_of_ble_eq_true rfl) (by decide) (by omega) d_L_workOn_55 ?_
      refine vv_st (st' := [.int 1]) rfl ?_
      have hE : kWork (kGo n) (nI dd) x u = (1, (wr ((kNote u (100 + (u.1 9 (ix (nI dd)))) x).2) 5 0 (((kNote u (100 + (u.1 9 (ix (nI dd)))) x).2).1 25 (ix ((u.1 10 (ix (nI dd))) * 6 + (u.1 9 (ix (nI dd)))))))) := by
        unfold kWork kWorkR
        try rw [nI_1]
        try dsimp only
        first | rw [if_pos h1] | rw [if_neg h1] | rw [if_pos (by exact h1)] | rw [if_neg (by exact h1)] | rw [if_neg (by exact z_nle h1)] | rw [if_pos (by exact z_le h1)] | rw [if_neg (by exact z_nlt h1)] | rw [if_pos (by exact z_lt h1)] | rw [if_neg (by rw [h1]; decide)] | rw [if_pos (by rw [h1])] | rw [if_neg (by exact tf_t h1)] | rw [if_neg (by exact tf_f h1)] | simp only [h1] | skip
        first | rw [if_pos h2] | rw [if_neg h2] | rw [if_pos (by exact h2)] | rw [if_neg (by exact h2)] | rw [if_neg (by exact z_nle h2)] | rw [if_pos (by exact z_le h2)] | rw [if_neg (by exact z_nlt h2)] | rw [if_pos (by exact z_lt h2)] | rw [if_neg (by rw [h2]; decide)] | rw [if_pos (by rw [h2])] | rw [if_neg (by exact tf_t h2)] | rw [if_neg (by exact tf_f h2)] | simp only [h2] | skip
        try rfl
      exact vv_iret C hr hlk (by rw [hE] <;> rfl) (by rw [hE] <;> rfl) d_L_workOn_58
  · skip
    replace h1 := bI_f h1
    refine vv_aload_n C d_L_workOn_35 rfl ?_
    refine callC (rest := []) C (c_L_brokenOff l Γ ((kNote u (100 + (u.1 9 (ix (nI dd)))) x).2)) cw_L_L_brokenOff rfl 0 (by decide) rfl rfl rfl rfl (Nat.le_of_ble_eq_true rfl) (by decide) (by omega) d_L_workOn_36 ?_
    refine vv_st (st' := [.int 2]) rfl ?_
    have hE : kWork (kGo n) (nI dd) x u = (2, (wr ((kNote u (100 + (u.1 9 (ix (nI dd)))) x).2) 5 0 0)) := by
      unfold kWork kWorkR
      try rw [nI_1]
      try dsimp only
      first | rw [if_pos h1] | rw [if_neg h1] | rw [if_pos (by exact h1)] | rw [if_neg (by exact h1)] | rw [if_neg (by exact z_nle h1)] | rw [if_pos (by exact z_le h1)] | rw [if_neg (by exact z_nlt h1)] | rw [if_pos (by exact z_lt h1)] | rw [if_neg (by rw [h1]; decide)] | rw [if_pos (by rw [h1])] | rw [if_neg (by exact tf_t h1)] | rw [if_neg (by exact tf_f h1)] | simp only [h1] | skip
      try rfl
    exact vv_iret C hr hlk (by rw [hE] <;> rfl) (by rw [hE] <;> rfl) d_L_workOn_39
set_option maxHeartbeats 4000000 in
set_option maxRecDepth 100000 in
theorem c_L_goAlong (l : Launch) (Γ : Geo) (u : SC) {n : Nat} (hG : GoC n) (dd ff : Nat) (x : Int32) (hdd : dd < 3) (hff : ff ≤ 6) (hmu : (2 - dd) * 7 + (6 - ff) < n + 1) (hI : IC u) : CtC l Γ y_L_goAlong b_L_goAlong 6 (some .int) (3 * (n + 1)) [.ref (Γ.2.1 0), .int (nI dd), .int (nI ff), .int x] u (some (.int (kGo (n + 1) (nI dd) (nI ff) x u).1)) (kGo (n + 1) (nI dd) (nI ff) x u).2 := by
  refine ct_of (by decide +kernel) (Nat.le_of_ble_eq_true rfl) ?_
  intro p e s m args below meth c C hr hlk
  refine vv_aload_n C d_L_goAlong_0 rfl ?_
  refine g_L_L_advisors C d_L_goAlong_1 ?_
  refine vv_aload_n C d_L_goAlong_4 rfl ?_
  refine g_L_L_methodAt C d_L_goAlong_5 ?_
  refine vv_iload_n C d_L_goAlong_8 rfl ?_
  refine ld_4_7 C (in3 hdd) d_L_goAlong_9 ?_
  refine vv_iload_n C d_L_goAlong_10 rfl ?_
  refine callC (rest := []) C (c_R_placeInChain l Γ u hI (u.1 9 (ix (nI dd))) ff hff) cw_L_R_placeInChain rfl 1 (by decide) rfl rfl rfl rfl (Nat.le_of_ble_eq_true rfl) (by decide) (by omega) d_L_goAlong_11 ?_
  refine vv_st (st' := [.int (kChainP u (u.1 9 (ix (nI dd))) (nI ff))]) rfl ?_
  refine vv_istore (lv' := [(4, .int (kChainP u (u.1 9 (ix (nI dd))) (nI ff))), (0, .ref (Γ.2.1 0)), (1, .int (nI dd)), (2, .int (nI ff)), (3, .int x)]) C d_L_goAlong_14 (by decide) rfl ?_
  refine vv_iload C d_L_goAlong_16 rfl ?_
  refine vv_iconst C (-1) d_L_goAlong_18 (by decide) ?_
  refine vv_icmp_ne C 29 d_L_goAlong_19 rfl (fun h1 => ?_) (fun h1 => ?_)
  · skip
    obtain ⟨pp, hfp, hpp, hpe⟩ := ch_ok hI hff h1
    have hpk : u.2 (ix (nI pp)) < 6 := IC_pi hI (in6 hpp)
    rw [hpe]
    refine vv_aload_n C d_L_goAlong_29 rfl ?_
    refine g_L_L_advisors C d_L_goAlong_30 ?_
    refine vv_iload C d_L_goAlong_33 rfl ?_
    refine callC (rest := []) C (c_R_at l Γ u (nI pp) (in6 hpp)) cw_L_R_at rfl 1 (by decide) rfl rfl rfl rfl (Nat.le_of_ble_eq_true rfl) (by decide) (by omega) d_L_goAlong_35 ?_
    refine vv_st (st' := [.ref (Γ.2.1 (u.2 (ix (nI pp)) + 9))]) rfl ?_
    refine vv_astore (lv' := [(5, .ref (Γ.2.1 (u.2 (ix (nI pp)) + 9))), (4, .int (nI pp)), (0, .ref (Γ.2.1 0)), (1, .int (nI dd)), (2, .int (nI ff)), (3, .int x)]) C d_L_goAlong_38 (by decide) rfl ?_
    refine vv_aload C d_L_goAlong_40 rfl ?_
    refine g_L_A_hasRange C hpk d_L_goAlong_42 ?_
    refine vv_if_eq C 78 d_L_goAlong_45 rfl (fun h2 => ?_) (fun h2 => ?_)
    · skip
      refine vv_aload_n C d_L_goAlong_78 rfl ?_
      refine vv_aload C d_L_goAlong_79 rfl ?_
      refine vv_iload_n C d_L_goAlong_81 rfl ?_
      refine vv_iload C d_L_goAlong_82 rfl ?_
      refine vv_iconst C (1) d_L_goAlong_84 (by decide) ?_
      refine vv_iadd C d_L_goAlong_85 ?_
      refine vv_iload_n C d_L_goAlong_86 rfl ?_
      rw [nI_1]
      refine callC (rest := []) C (c_L_act l Γ u hG (u.2 (ix (nI pp))) hpk dd (pp + 1) x hdd (by omega) (by omega) hI) cw_L_L_act rfl 0 (by decide) rfl rfl rfl rfl (Nat.le_of_ble_eq_true rfl) (by decide) (by omega) d_L_goAlong_87 ?_
      refine vv_st (st' := [.int ((kAct (kGo n) (u.2 (ix (nI pp))) (nI dd) (nI (pp + 1)) x u).1)]) rfl ?_
      have hE : kAlong (kGo n) (nI dd) (nI ff) x u = ((kAct (kGo n) (u.2 (ix (nI pp))) (nI dd) (nI (pp + 1)) x u).1, ((kAct (kGo n) (u.2 (ix (nI pp))) (nI dd) (nI (pp + 1)) x u).2)) := by
        unfold kAlong
        dsimp only
        first | rw [if_pos h1] | rw [if_neg h1]
        rw [hpe, nI_1]
        first | rw [if_pos h2] | rw [if_neg h2] | rw [if_pos (by exact h2)] | rw [if_neg (by exact h2)] | rw [if_neg (by exact tf_f h2)]
        try rfl
      exact vv_iret C hr hlk (by show some (Value.int (kAlong (kGo n) (nI dd) (nI ff) x u).1) = _; rw [hE]) (by show _ = wC Γ (kAlong (kGo n) (nI dd) (nI ff) x u).2; rw [hE]) d_L_goAlong_90
    · skip
      refine vv_aload_n C d_L_goAlong_48 rfl ?_
      refine vv_dup C d_L_goAlong_49 rfl ?_
      refine g_L_L_timesAsked C d_L_goAlong_50 ?_
      refine vv_iconst C (1) d_L_goAlong_53 (by decide) ?_
      refine vv_iadd C d_L_goAlong_54 ?_
      refine p_L_L_timesAsked C d_L_goAlong_55 ?_
      refine vv_aload C d_L_goAlong_58 rfl ?_
      refine vv_iload_n C d_L_goAlong_60 rfl ?_
      refine callC (rest := []) C (c_A_isInRange l Γ (wr u 3 0 ((u.1 3 0) + 1)) (u.2 (ix (nI pp))) hpk x) cw_L_A_isInRange rfl (u.2 (ix (nI pp)) + 9) (by have := hpk; omega) rfl (eC_adv hpk) rfl rfl (Nat.le_of_ble_eq_true rfl) (by decide) (by omega) d_L_goAlong_61 ?_
      refine vv_st (st' := [.int (bI (kInRange (wr u 3 0 ((u.1 3 0) + 1)) (u.2 (ix (nI pp))) x))]) rfl ?_
      refine vv_if_ne C 78 d_L_goAlong_64 rfl (fun h3 => ?_) (fun h3 => ?_)
      · skip
        replace h3 := bI_t h3
        refine vv_aload_n C d_L_goAlong_78 rfl ?_
        refine vv_aload C d_L_goAlong_79 rfl ?_
        refine vv_iload_n C d_L_goAlong_81 rfl ?_
        refine vv_iload C d_L_goAlong_82 rfl ?_
        refine vv_iconst C (1) d_L_goAlong_84 (by decide) ?_
        refine vv_iadd C d_L_goAlong_85 ?_
        refine vv_iload_n C d_L_goAlong_86 rfl ?_
        rw [nI_1]
        refine callC (rest := []) C (c_L_act l Γ (wr u 3 0 ((u.1 3 0) + 1)) hG (u.2 (ix (nI pp))) hpk dd (pp + 1) x hdd (by omega) (by omega) hI) cw_L_L_act rfl 0 (by decide) rfl rfl rfl rfl (Nat.le_of_ble_eq_true rfl) (by decide) (by omega) d_L_goAlong_87 ?_
        refine vv_st (st' := [.int ((kAct (kGo n) (u.2 (ix (nI pp))) (nI dd) (nI (pp + 1)) x (wr u 3 0 ((u.1 3 0) + 1))).1)]) rfl ?_
        have hE : kAlong (kGo n) (nI dd) (nI ff) x u = ((kAct (kGo n) (u.2 (ix (nI pp))) (nI dd) (nI (pp + 1)) x (wr u 3 0 ((u.1 3 0) + 1))).1, ((kAct (kGo n) (u.2 (ix (nI pp))) (nI dd) (nI (pp + 1)) x (wr u 3 0 ((u.1 3 0) + 1))).2)) := by
          unfold kAlong
          dsimp only
          first | rw [if_pos h1] | rw [if_neg h1]
          rw [hpe, nI_1]
          first | rw [if_pos h2] | rw [if_neg h2] | rw [if_pos (by exact h2)] | rw [if_neg (by exact h2)] | rw [if_neg (by exact tf_f h2)]
          first | rw [if_pos h3] | rw [if_neg h3] | rw [if_pos (by exact h3)] | rw [if_neg (by exact h3)] | rw [if_neg (by exact tf_f h3)]
          try rfl
        exact vv_iret C hr hlk (by show some (Value.int (kAlong (kGo n) (nI dd) (nI ff) x u).1) = _; rw [hE]) (by show _ = wC Γ (kAlong (kGo n) (nI dd) (nI ff) x u).2; rw [hE]) d_L_goAlong_90
      · skip
        replace h3 := bI_f h3
        refine vv_aload_n C d_L_goAlong_67 rfl ?_
        refine vv_iload_n C d_L_goAlong_68 rfl ?_
        refine vv_iload C d_L_goAlong_69 rfl ?_
        refine vv_iconst C (1) d_L_goAlong_71 (by decide) ?_
        refine vv_iadd C d_L_goAlong_72 ?_
        refine vv_iload_n C d_L_goAlong_73 rfl ?_
        rw [nI_1]
        refine callC (rest := []) C (hG l Γ (wr u 3 0 ((u.1 3 0) + 1)) dd (pp + 1) x hdd (by omega) (by omega) hI) cw_L_L_goAlong rfl 0 (by decide) rfl rfl rfl rfl (Nat.le_of_ble_eq_true rfl) (by decide) (by omega) d_L_goAlong_74 ?_
        refine vv_st (st' := [.int ((kGo n (nI dd) (nI (pp + 1)) x (wr u 3 0 ((u.1 3 0) + 1))).1)]) rfl ?_
        have hE : kAlong (kGo n) (nI dd) (nI ff) x u = ((kGo n (nI dd) (nI (pp + 1)) x (wr u 3 0 ((u.1 3 0) + 1))).1, ((kGo n (nI dd) (nI (pp + 1)) x (wr u 3 0 ((u.1 3 0) + 1))).2)) := by
          unfold kAlong
          dsimp only
          first | rw [if_pos h1] | rw [if_neg h1]
          rw [hpe, nI_1]
          first | rw [if_pos h2] | rw [if_neg h2] | rw [if_pos (by exact h2)] | rw [if_neg (by exact h2)] | rw [if_neg (by exact tf_f h2)]
          first | rw [if_pos h3] | rw [if_neg h3] | rw [if_pos (by exact h3)] | rw [if_neg (by exact h3)] | rw [if_neg (by exact tf_f h3)]
          try rfl
        exact vv_iret C hr hlk (by show some (Value.int (kAlong (kGo n) (nI dd) (nI ff) x u).1) = _; rw [hE]) (by show _ = wC Γ (kAlong (kGo n) (nI dd) (nI ff) x u).2; rw [hE]) d_L_goAlong_77
  · skip
    refine vv_aload_n C d_L_goAlong_22 rfl ?_
    refine vv_iload_n C d_L_goAlong_23 rfl ?_
    refine vv_iload_n C d_L_goAlong_24 rfl ?_
    refine callC (rest := []) C (c_L_workOn l Γ u hG dd x hdd (by omega) hI) cw_L_L_workOn rfl 0 (by decide) rfl rfl rfl rfl (Nat.le_of_ble_eq_true rfl) (by decide) (by omega) d_L_goAlong_25 ?_
    refine vv_st (st' := [.int ((kWork (kGo n) (nI dd) x u).1)]) rfl ?_
    have hE : kAlong (kGo n) (nI dd) (nI ff) x u = ((kWork (kGo n) (nI dd) x u).1, ((kWork (kGo n) (nI dd) x u).2)) := by
      unfold kAlong
      dsimp only
      first | rw [if_pos h1] | rw [if_neg h1]
      try rfl
    exact vv_iret C hr hlk (by show some (Value.int (kAlong (kGo n) (nI dd) (nI ff) x u).1) = _; rw [hE]) (by show _ = wC Γ (kAlong (kGo n) (nI dd) (nI ff) x u).2; rw [hE]) d_L_goAlong_28
theorem goC : ∀ n, GoC n
  | 0 => fun _ _ _ _ _ _ _ _ h => by omega
  | n + 1 => fun l Γ u dd ff x h1 h2 h3 h4 => c_L_goAlong l Γ u (goC n) dd ff x h1 h2 h3 h4
end
section
set_option maxHeartbeats 4000000 in
set_option maxRecDepth 100000 in
theorem c_L_areNumbersOf (l : Launch) (Γ : Geo) (u : SC) (x y z : Int32) : CtC l Γ y_L_areNumbersOf b_L_areNumbersOf 3 (some .boolean) 2 [.int x, .int y, .int z] u (some (.int (bI (kNums x y z)))) u := by
  refine ct_of (by decide +kernel) (Nat.le_of_ble_eq_true rfl) ?_
  intro p e s m args below meth c C hr hlk
  refine vv_iload_n C d_L_areNumbersOf_0 rfl ?_
  by_cases z0 : x = 0
  · skip
    refine vv_tableIn C 48 d_L_areNumbersOf_1 (by rw [z0]; decide) (by rw [z0]; decide) (by rw [z0]; rfl) rfl ?_
    refine vv_iload_n C d_L_areNumbersOf_48 rfl ?_
    refine callCS (rest := []) C (c_L_isException l Γ u z) cw_L_L_isException rfl rfl (Nat.le_of_ble_eq_true rfl) (by decide) (by decide) d_L_areNumbersOf_49 ?_
    refine vv_st (st' := [.int (bI (kIsExc z))]) rfl ?_
    have hE : kNums x y z = (kIsExc z) := by
      unfold kNums
      rw [z0]
      rw [if_pos (by decide)]
      try rfl
    exact vv_zret C hr hlk (bI_nar _) (by rw [hE] <;> rfl) rfl d_L_areNumbersOf_52
  by_cases z1 : x = 1
  · skip
    refine vv_tableIn C 78 d_L_areNumbersOf_1 (by rw [z1]; decide) (by rw [z1]; decide) (by rw [z1]; rfl) rfl ?_
    refine vv_iconst C (1) d_L_areNumbersOf_78 (by decide) ?_
    have hE : kNums x y z = true := by
      unfold kNums
      rw [z1]
      rw [if_neg (by decide)]
      rw [if_neg (by decide)]
      rw [if_neg (by decide)]
      rw [if_neg (by decide)]
      rw [if_neg (by decide)]
      try rfl
    exact vv_zret C hr hlk rfl (by rw [hE] <;> rfl) rfl d_L_areNumbersOf_79
  by_cases z2 : x = 2
  · skip
    refine vv_tableIn C 78 d_L_areNumbersOf_1 (by rw [z2]; decide) (by rw [z2]; decide) (by rw [z2]; rfl) rfl ?_
    refine vv_iconst C (1) d_L_areNumbersOf_78 (by decide) ?_
    have hE : kNums x y z = true := by
      unfold kNums
      rw [z2]
      rw [if_neg (by decide)]
      rw [if_neg (by decide)]
      rw [if_neg (by decide)]
      rw [if_neg (by decide)]
      rw [if_neg (by decide)]
      try rfl
    exact vv_zret C hr hlk rfl (by rw [hE] <;> rfl) rfl d_L_areNumbersOf_79
  by_cases z3 : x = 3
  · skip
    refine vv_tableIn C 78 d_L_areNumbersOf_1 (by rw [z3]; decide) (by rw [z3]; decide) (by rw [z3]; rfl) rfl ?_
    refine vv_iconst C (1) d_L_areNumbersOf_78 (by decide) ?_
    have hE : kNums x y z = true := by
      unfold kNums
      rw [z3]
      rw [if_neg (by decide)]
      rw [if_neg (by decide)]
      rw [if_neg (by decide)]
      rw [if_neg (by decide)]
      rw [if_neg (by decide)]
      try rfl
    exact vv_zret C hr hlk rfl (by rw [hE] <;> rfl) rfl d_L_areNumbersOf_79
  by_cases z4 : x = 4
  · skip
    refine vv_tableIn C 48 d_L_areNumbersOf_1 (by rw [z4]; decide) (by rw [z4]; decide) (by rw [z4]; rfl) rfl ?_
    refine vv_iload_n C d_L_areNumbersOf_48 rfl ?_
    refine callCS (rest := []) C (c_L_isException l Γ u z) cw_L_L_isException rfl rfl (Nat.le_of_ble_eq_true rfl) (by decide) (by decide) d_L_areNumbersOf_49 ?_
    refine vv_st (st' := [.int (bI (kIsExc z))]) rfl ?_
    have hE : kNums x y z = (kIsExc z) := by
      unfold kNums
      rw [z4]
      rw [if_neg (by decide)]
      rw [if_pos (by decide)]
      try rfl
    exact vv_zret C hr hlk (bI_nar _) (by rw [hE] <;> rfl) rfl d_L_areNumbersOf_52
  by_cases z5 : x = 5
  · skip
    refine vv_tableIn C 53 d_L_areNumbersOf_1 (by rw [z5]; decide) (by rw [z5]; decide) (by rw [z5]; rfl) rfl ?_
    refine vv_iload_n C d_L_areNumbersOf_53 rfl ?_
    refine callCS (rest := []) C (c_L_isException l Γ u y) cw_L_L_isException rfl rfl (Nat.le_of_ble_eq_true rfl) (by decide) (by decide) d_L_areNumbersOf_54 ?_
    refine vv_st (st' := [.int (bI (kIsExc y))]) rfl ?_
    refine vv_if_eq C 71 d_L_areNumbersOf_57 rfl (fun h1 => ?_) (fun h1 => ?_)
    · skip
      replace h1 := bI_f h1
      refine vv_iconst C (0) d_L_areNumbersOf_71 (by decide) ?_
      have hE : kNums x y z = false := by
        unfold kNums
        rw [z5]
        rw [if_neg (by decide)]
        rw [if_neg (by decide)]
        rw [if_neg (by decide)]
        rw [if_pos (by decide)]
        first | rw [if_pos h1] | rw [if_neg h1] | rw [if_neg (by exact tf_f h1)] | rw [h1]
        try rfl
      exact vv_zret C hr hlk rfl (by rw [hE] <;> rfl) rfl d_L_areNumbersOf_72
    · skip
      replace h1 := bI_t h1
      refine vv_iload_n C d_L_areNumbersOf_60 rfl ?_
      refine callCS (rest := []) C (c_L_isExceptionOrZero l Γ u z) cw_L_L_isExceptionOrZero rfl rfl (Nat.le_of_ble_eq_true rfl) (by decide) (by decide) d_L_areNumbersOf_61 ?_
      refine vv_st (st' := [.int (bI (kIsExcZ z))]) rfl ?_
      refine vv_if_eq C 71 d_L_areNumbersOf_64 rfl (fun h2 => ?_) (fun h2 => ?_)
      · skip
        replace h2 := bI_f h2
        refine vv_iconst C (0) d_L_areNumbersOf_71 (by decide) ?_
        have hE : kNums x y z = false := by
          unfold kNums
          rw [z5]
          rw [if_neg (by decide)]
          rw [if_neg (by decide)]
          rw [if_neg (by decide)]
          rw [if_pos (by decide)]
          first | rw [if_pos h1] | rw [if_neg h1] | rw [if_neg (by exact tf_f h1)] | rw [h1]
          first | rw [if_pos h2] | rw [if_neg h2] | rw [if_neg (by exact tf_f h2)] | rw [h2]
          try rfl
        exact vv_zret C hr hlk rfl (by rw [hE] <;> rfl) rfl d_L_areNumbersOf_72
      · skip
        replace h2 := bI_t h2
        refine vv_iconst C (1) d_L_areNumbersOf_67 (by decide) ?_
        refine vv_goto C 72 d_L_areNumbersOf_68 rfl ?_
        have hE : kNums x y z = true := by
          unfold kNums
          rw [z5]
          rw [if_neg (by decide)]
          rw [if_neg (by decide)]
          rw [if_neg (by decide)]
          rw [if_pos (by decide)]
          first | rw [if_pos h1] | rw [if_neg h1] | rw [if_neg (by exact tf_f h1)] | rw [h1]
          first | rw [if_pos h2] | rw [if_neg h2] | rw [if_neg (by exact tf_f h2)] | rw [h2]
          try rfl
        exact vv_zret C hr hlk rfl (by rw [hE] <;> rfl) rfl d_L_areNumbersOf_72
  by_cases z6 : x = 6
  · skip
    refine vv_tableIn C 48 d_L_areNumbersOf_1 (by rw [z6]; decide) (by rw [z6]; decide) (by rw [z6]; rfl) rfl ?_
    refine vv_iload_n C d_L_areNumbersOf_48 rfl ?_
    refine callCS (rest := []) C (c_L_isException l Γ u z) cw_L_L_isException rfl rfl (Nat.le_of_ble_eq_true rfl) (by decide) (by decide) d_L_areNumbersOf_49 ?_
    refine vv_st (st' := [.int (bI (kIsExc z))]) rfl ?_
    have hE : kNums x y z = (kIsExc z) := by
      unfold kNums
      rw [z6]
      rw [if_neg (by decide)]
      rw [if_neg (by decide)]
      rw [if_pos (by decide)]
      try rfl
    exact vv_zret C hr hlk (bI_nar _) (by rw [hE] <;> rfl) rfl d_L_areNumbersOf_52
  by_cases z7 : x = 7
  · skip
    refine vv_tableIn C 73 d_L_areNumbersOf_1 (by rw [z7]; decide) (by rw [z7]; decide) (by rw [z7]; rfl) rfl ?_
    refine vv_iload_n C d_L_areNumbersOf_73 rfl ?_
    refine callCS (rest := []) C (c_L_isException l Γ u y) cw_L_L_isException rfl rfl (Nat.le_of_ble_eq_true rfl) (by decide) (by decide) d_L_areNumbersOf_74 ?_
    refine vv_st (st' := [.int (bI (kIsExc y))]) rfl ?_
    have hE : kNums x y z = (kIsExc y) := by
      unfold kNums
      rw [z7]
      rw [if_neg (by decide)]
      rw [if_neg (by decide)]
      rw [if_neg (by decide)]
      rw [if_neg (by decide)]
      rw [if_pos (by decide)]
      try rfl
    exact vv_zret C hr hlk (bI_nar _) (by rw [hE] <;> rfl) rfl d_L_areNumbersOf_77
  have hout : (x).toInt < 0 ∨ ((7 : Nat) : Int) < (x).toInt := sw_out (by omega) (fun j hj => by
    have hj' : j = 0 ∨ j = 1 ∨ j = 2 ∨ j = 3 ∨ j = 4 ∨ j = 5 ∨ j = 6 ∨ j = 7 := by omega
    rcases hj' with rfl | rfl | rfl | rfl | rfl | rfl | rfl | rfl
    · exact z0
    · exact z1
    · exact z2
    · exact z3
    · exact z4
    · exact z5
    · exact z6
    · exact z7
    )
  refine vv_tableOut C 78 d_L_areNumbersOf_1 hout rfl ?_
  refine vv_iconst C (1) d_L_areNumbersOf_78 (by decide) ?_
  have hE : kNums x y z = true := by
    unfold kNums
    rw [if_neg z0, if_neg z4, if_neg z6, if_neg z5, if_neg z7]
    try rfl
  exact vv_zret C hr hlk rfl (by rw [hE] <;> rfl) rfl d_L_areNumbersOf_79
theorem notfull {u : SC} (h : IC u) (hf : kIsFull u = false) : ∃ t, t < 6 ∧ u.1 6 0 = nI t := by
  obtain ⟨t, ht, e⟩ := h.1
  refine ⟨t, ?_, e⟩
  unfold kIsFull at hf
  by_cases c : u.1 6 0 = 6
  · rw [if_pos c] at hf; cases hf
  · have : ¬ t = 6 := fun z => c (by rw [e, z]; rfl)
    omega
theorem pl_ok {u : SC} (h : IC u) {x : Int32} (hn : ¬ kPlaceOf u x = -1) : ∃ t pp, t < 6 ∧ u.1 6 0 = nI (t + 1) ∧ pp ≤ t ∧ kPlaceOf u x = nI pp := by
  obtain ⟨t, ht, h6⟩ := h.1
  rcases kPlaceL_spec u x ht h6 7 0 (by omega) (by omega) with ⟨z, -⟩ | ⟨q, z1, z2, z3, -⟩
  · exact absurd z hn
  · obtain ⟨s, rfl⟩ : ∃ s, t = s + 1 := ⟨t - 1, by omega⟩
    exact ⟨s, q, by omega, h6, by omega, z3⟩
theorem tm_in {x y : Int32} (hx : kIsTarget x = true) (hy : kIsMethod y = true) : vp_in (x * 6 + y) 12 ∧ ix (x * 6 + y) < 12 := by
  unfold kIsTarget at hx
  unfold kIsMethod at hy
  by_cases a1 : x < 0
  · rw [if_pos a1] at hx; cases hx
  by_cases a2 : (2 : Int32) ≤ x
  · rw [if_neg a1, if_pos a2] at hx; cases hx
  by_cases b1 : y < 0
  · rw [if_pos b1] at hy; cases hy
  by_cases b2 : (6 : Int32) ≤ y
  · rw [if_neg b1, if_pos b2] at hy; cases hy
  obtain ⟨a, ha, rfl⟩ := nI_of a1
  obtain ⟨b, hb, rfl⟩ := nI_of b1
  rw [show (2 : Int32) = nI 2 from rfl, nI_leI (by omega) ha] at a2
  rw [show (6 : Int32) = nI 6 from rfl, nI_leI (by omega) hb] at b2
  rw [show (6 : Int32) = nI 6 from rfl, pk_mul, nI_add]
  exact ⟨vp_in_nI (by omega) (by omega), by rw [ixn (by omega)]; omega⟩
theorem has_in {u : SC} (h : IC u) {i : Int32} (hh : kHas u i = true) : vp_in i 100 := by
  obtain ⟨-, ⟨n, hn, e⟩, -⟩ := h
  unfold kHas at hh
  by_cases a1 : i < 0
  · rw [if_pos a1] at hh; cases hh
  by_cases a2 : u.1 8 0 ≤ i
  · rw [if_neg a1, if_pos a2] at hh; cases hh
  obtain ⟨a, ha, rfl⟩ := nI_of a1
  rw [e, nI_leI (by omega) ha] at a2
  exact vp_in_nI (by omega) (by omega)
theorem im_ok {x : Int32} (hy : kIsMethod x = true) : ∃ q, q < 6 ∧ x = nI q := by
  unfold kIsMethod at hy
  by_cases b1 : x < 0
  · rw [if_pos b1] at hy; cases hy
  by_cases b2 : (6 : Int32) ≤ x
  · rw [if_neg b1, if_pos b2] at hy; cases hy
  obtain ⟨b, hb, rfl⟩ := nI_of b1
  rw [show (6 : Int32) = nI 6 from rfl, nI_leI (by omega) hb] at b2
  exact ⟨b, by omega, rfl⟩
set_option maxHeartbeats 4000000 in
set_option maxRecDepth 100000 in
theorem c_L_advise (l : Launch) (Γ : Geo) (u : SC) (hI : IC u) (kd : Int32) (od : Int32) (ms : Int32) (aa : Int32) (bb : Int32) : CtC l Γ y_L_advise b_L_advise 6 (some .int) 3 [.ref (Γ.2.1 0), .int kd, .int od, .int ms, .int aa, .int bb] u (some (.int (kAdvise u kd od ms aa bb).1)) (kAdvise u kd od ms aa bb).2 := by
  refine ct_of (by decide +kernel) (Nat.le_of_ble_eq_true rfl) ?_
  intro p e s m args below meth c C hr hlk
  refine vv_aload_n C d_L_advise_0 rfl ?_
  refine g_L_L_frozen C d_L_advise_1 ?_
  refine vv_if_ne C 27 d_L_advise_4 rfl (fun h1 => ?_) (fun h1 => ?_)
  · skip
    refine vv_iconst C (-1) d_L_advise_27 (by decide) ?_
    have hE : kAdvise u kd od ms aa bb = (-1, u) := by
      unfold kAdvise
      try dsimp only
      first | rw [if_pos h1] | rw [if_neg h1] | rw [if_pos (by exact h1)] | rw [if_neg (by exact h1)] | rw [if_neg (by exact z_nle h1)] | rw [if_pos (by exact z_le h1)] | rw [if_neg (by exact z_nlt h1)] | rw [if_pos (by exact z_lt h1)] | rw [if_neg (by rw [h1]; decide)] | rw [if_pos (by rw [h1])] | rw [if_neg (by exact tf_t h1)] | rw [if_neg (by exact tf_f h1)] | simp only [h1] | skip
      try rfl
    exact vv_iret C hr hlk (by rw [hE] <;> rfl) (by rw [hE] <;> rfl) d_L_advise_28
  · skip
    refine vv_aload_n C d_L_advise_7 rfl ?_
    refine g_L_L_advisors C d_L_advise_8 ?_
    refine callC (rest := []) C (c_R_isFull l Γ u) cw_L_R_isFull rfl 1 (by decide) rfl rfl rfl rfl (Nat.le_of_ble_eq_true rfl) (by decide) (by decide) d_L_advise_11 ?_
    refine vv_st (st' := [.int (bI (kIsFull u))]) rfl ?_
    refine vv_if_ne C 27 d_L_advise_14 rfl (fun h2 => ?_) (fun h2 => ?_)
    · skip
      replace h2 := bI_t h2
      refine vv_iconst C (-1) d_L_advise_27 (by decide) ?_
      have hE : kAdvise u kd od ms aa bb = (-1, u) := by
        unfold kAdvise
        try dsimp only
        first | rw [if_pos h1] | rw [if_neg h1] | rw [if_pos (by exact h1)] | rw [if_neg (by exact h1)] | rw [if_neg (by exact z_nle h1)] | rw [if_pos (by exact z_le h1)] | rw [if_neg (by exact z_nlt h1)] | rw [if_pos (by exact z_lt h1)] | rw [if_neg (by rw [h1]; decide)] | rw [if_pos (by rw [h1])] | rw [if_neg (by exact tf_t h1)] | rw [if_neg (by exact tf_f h1)] | simp only [h1] | skip
        first | rw [if_pos h2] | rw [if_neg h2] | rw [if_pos (by exact h2)] | rw [if_neg (by exact h2)] | rw [if_neg (by exact z_nle h2)] | rw [if_pos (by exact z_le h2)] | rw [if_neg (by exact z_nlt h2)] | rw [if_pos (by exact z_lt h2)] | rw [if_neg (by rw [h2]; decide)] | rw [if_pos (by rw [h2])] | rw [if_neg (by exact tf_t h2)] | rw [if_neg (by exact tf_f h2)] | simp only [h2] | skip
        try rfl
      exact vv_iret C hr hlk (by rw [hE] <;> rfl) (by rw [hE] <;> rfl) d_L_advise_28
    · skip
      replace h2 := bI_f h2
      refine vv_iload_n C d_L_advise_17 rfl ?_
      refine vv_if_lt C 27 d_L_advise_18 rfl (fun h3 => ?_) (fun h3 => ?_)
      · skip
        refine vv_iconst C (-1) d_L_advise_27 (by decide) ?_
        have hE : kAdvise u kd od ms aa bb = (-1, u) := by
          unfold kAdvise
          try dsimp only
          first | rw [if_pos h1] | rw [if_neg h1] | rw [if_pos (by exact h1)] | rw [if_neg (by exact h1)] | rw [if_neg (by exact z_nle h1)] | rw [if_pos (by exact z_le h1)] | rw [if_neg (by exact z_nlt h1)] | rw [if_pos (by exact z_lt h1)] | rw [if_neg (by rw [h1]; decide)] | rw [if_pos (by rw [h1])] | rw [if_neg (by exact tf_t h1)] | rw [if_neg (by exact tf_f h1)] | simp only [h1] | skip
          first | rw [if_pos h2] | rw [if_neg h2] | rw [if_pos (by exact h2)] | rw [if_neg (by exact h2)] | rw [if_neg (by exact z_nle h2)] | rw [if_pos (by exact z_le h2)] | rw [if_neg (by exact z_nlt h2)] | rw [if_pos (by exact z_lt h2)] | rw [if_neg (by rw [h2]; decide)] | rw [if_pos (by rw [h2])] | rw [if_neg (by exact tf_t h2)] | rw [if_neg (by exact tf_f h2)] | simp only [h2] | skip
          first | rw [if_pos h3] | rw [if_neg h3] | rw [if_pos (by exact h3)] | rw [if_neg (by exact h3)] | rw [if_neg (by exact z_nle h3)] | rw [if_pos (by exact z_le h3)] | rw [if_neg (by exact z_nlt h3)] | rw [if_pos (by exact z_lt h3)] | rw [if_neg (by rw [h3]; decide)] | rw [if_pos (by rw [h3])] | rw [if_neg (by exact tf_t h3)] | rw [if_neg (by exact tf_f h3)] | simp only [h3] | skip
          try rfl
        exact vv_iret C hr hlk (by rw [hE] <;> rfl) (by rw [hE] <;> rfl) d_L_advise_28
      · skip
        refine vv_iload_n C d_L_advise_21 rfl ?_
        refine vv_bipush C (7) d_L_advise_22 (by decide) ?_
        refine vv_icmp_le C 29 d_L_advise_24 rfl (fun h4 => ?_) (fun h4 => ?_)
        · skip
          refine vv_iload_n C d_L_advise_29 rfl ?_
          refine vv_iconst C (1) d_L_advise_30 (by decide) ?_
          refine vv_icmp_lt C 51 d_L_advise_31 rfl (fun h5 => ?_) (fun h5 => ?_)
          · skip
            refine vv_iconst C (-1) d_L_advise_51 (by decide) ?_
            have hE : kAdvise u kd od ms aa bb = (-1, u) := by
              unfold kAdvise
              try dsimp only
              first | rw [if_pos h1] | rw [if_neg h1] | rw [if_pos (by exact h1)] | rw [if_neg (by exact h1)] | rw [if_neg (by exact z_nle h1)] | rw [if_pos (by exact z_le h1)] | rw [if_neg (by exact z_nlt h1)] | rw [if_pos (by exact z_lt h1)] | rw [if_neg (by rw [h1]; decide)] | rw [if_pos (by rw [h1])] | rw [if_neg (by exact tf_t h1)] | rw [if_neg (by exact tf_f h1)] | simp only [h1] | skip
              first | rw [if_pos h2] | rw [if_neg h2] | rw [if_pos (by exact h2)] | rw [if_neg (by exact h2)] | rw [if_neg (by exact z_nle h2)] | rw [if_pos (by exact z_le h2)] | rw [if_neg (by exact z_nlt h2)] | rw [if_pos (by exact z_lt h2)] | rw [if_neg (by rw [h2]; decide)] | rw [if_pos (by rw [h2])] | rw [if_neg (by exact tf_t h2)] | rw [if_neg (by exact tf_f h2)] | simp only [h2] | skip
              first | rw [if_pos h3] | rw [if_neg h3] | rw [if_pos (by exact h3)] | rw [if_neg (by exact h3)] | rw [if_neg (by exact z_nle h3)] | rw [if_pos (by exact z_le h3)] | rw [if_neg (by exact z_nlt h3)] | rw [if_pos (by exact z_lt h3)] | rw [if_neg (by rw [h3]; decide)] | rw [if_pos (by rw [h3])] | rw [if_neg (by exact tf_t h3)] | rw [if_neg (by exact tf_f h3)] | simp only [h3] | skip
              first | rw [if_pos h4] | rw [if_neg h4] | rw [if_pos (by exact h4)] | rw [if_neg (by exact h4)] | rw [if_neg (by exact z_nle h4)] | rw [if_pos (by exact z_le h4)] | rw [if_neg (by exact z_nlt h4)] | rw [if_pos (by exact z_lt h4)] | rw [if_neg (by rw [h4]; decide)] | rw [if_pos (by rw [h4])] | rw [if_neg (by exact tf_t h4)] | rw [if_neg (by exact tf_f h4)] | simp only [h4] | skip
              first | rw [if_pos h5] | rw [if_neg h5] | rw [if_pos (by exact h5)] | rw [if_neg (by exact h5)] | rw [if_neg (by exact z_nle h5)] | rw [if_pos (by exact z_le h5)] | rw [if_neg (by exact z_nlt h5)] | rw [if_pos (by exact z_lt h5)] | rw [if_neg (by rw [h5]; decide)] | rw [if_pos (by rw [h5])] | rw [if_neg (by exact tf_t h5)] | rw [if_neg (by exact tf_f h5)] | simp only [h5] | skip
              try rfl
            exact vv_iret C hr hlk (by rw [hE] <;> rfl) (by rw [hE] <;> rfl) d_L_advise_52
          · skip
            refine vv_iload_n C d_L_advise_34 rfl ?_
            refine vv_bipush C (63) d_L_advise_35 (by decide) ?_
            refine vv_icmp_gt C 51 d_L_advise_37 rfl (fun h6 => ?_) (fun h6 => ?_)
            · skip
              refine vv_iconst C (-1) d_L_advise_51 (by decide) ?_
              have hE : kAdvise u kd od ms aa bb = (-1, u) := by
                unfold kAdvise
                try dsimp only
                first | rw [if_pos h1] | rw [if_neg h1] | rw [if_pos (by exact h1)] | rw [if_neg (by exact h1)] | rw [if_neg (by exact z_nle h1)] | rw [if_pos (by exact z_le h1)] | rw [if_neg (by exact z_nlt h1)] | rw [if_pos (by exact z_lt h1)] | rw [if_neg (by rw [h1]; decide)] | rw [if_pos (by rw [h1])] | rw [if_neg (by exact tf_t h1)] | rw [if_neg (by exact tf_f h1)] | simp only [h1] | skip
                first | rw [if_pos h2] | rw [if_neg h2] | rw [if_pos (by exact h2)] | rw [if_neg (by exact h2)] | rw [if_neg (by exact z_nle h2)] | rw [if_pos (by exact z_le h2)] | rw [if_neg (by exact z_nlt h2)] | rw [if_pos (by exact z_lt h2)] | rw [if_neg (by rw [h2]; decide)] | rw [if_pos (by rw [h2])] | rw [if_neg (by exact tf_t h2)] | rw [if_neg (by exact tf_f h2)] | simp only [h2] | skip
                first | rw [if_pos h3] | rw [if_neg h3] | rw [if_pos (by exact h3)] | rw [if_neg (by exact h3)] | rw [if_neg (by exact z_nle h3)] | rw [if_pos (by exact z_le h3)] | rw [if_neg (by exact z_nlt h3)] | rw [if_pos (by exact z_lt h3)] | rw [if_neg (by rw [h3]; decide)] | rw [if_pos (by rw [h3])] | rw [if_neg (by exact tf_t h3)] | rw [if_neg (by exact tf_f h3)] | simp only [h3] | skip
                first | rw [if_pos h4] | rw [if_neg h4] | rw [if_pos (by exact h4)] | rw [if_neg (by exact h4)] | rw [if_neg (by exact z_nle h4)] | rw [if_pos (by exact z_le h4)] | rw [if_neg (by exact z_nlt h4)] | rw [if_pos (by exact z_lt h4)] | rw [if_neg (by rw [h4]; decide)] | rw [if_pos (by rw [h4])] | rw [if_neg (by exact tf_t h4)] | rw [if_neg (by exact tf_f h4)] | simp only [h4] | skip
                first | rw [if_pos h5] | rw [if_neg h5] | rw [if_pos (by exact h5)] | rw [if_neg (by exact h5)] | rw [if_neg (by exact z_nle h5)] | rw [if_pos (by exact z_le h5)] | rw [if_neg (by exact z_nlt h5)] | rw [if_pos (by exact z_lt h5)] | rw [if_neg (by rw [h5]; decide)] | rw [if_pos (by rw [h5])] | rw [if_neg (by exact tf_t h5)] | rw [if_neg (by exact tf_f h5)] | simp only [h5] | skip
                first | rw [if_pos h6] | rw [if_neg h6] | rw [if_pos (by exact h6)] | rw [if_neg (by exact h6)] | rw [if_neg (by exact z_nle h6)] | rw [if_pos (by exact z_le h6)] | rw [if_neg (by exact z_nlt h6)] | rw [if_pos (by exact z_lt h6)] | rw [if_neg (by rw [h6]; decide)] | rw [if_pos (by rw [h6])] | rw [if_neg (by exact tf_t h6)] | rw [if_neg (by exact tf_f h6)] | simp only [h6] | skip
                try rfl
              exact vv_iret C hr hlk (by rw [hE] <;> rfl) (by rw [hE] <;> rfl) d_L_advise_52
            · skip
              refine vv_iload_n C d_L_advise_40 rfl ?_
              refine vv_iload C d_L_advise_41 rfl ?_
              refine vv_iload C d_L_advise_43 rfl ?_
              refine callCS (rest := []) C (c_L_areNumbersOf l Γ u kd aa bb) cw_L_L_areNumbersOf rfl rfl (Nat.le_of_ble_eq_true rfl) (by decide) (by decide) d_L_advise_45 ?_
              refine vv_st (st' := [.int (bI (kNums kd aa bb))]) rfl ?_
              refine vv_if_ne C 53 d_L_advise_48 rfl (fun h7 => ?_) (fun h7 => ?_)
              · skip
                replace h7 := bI_t h7
                refine vv_aload_n C d_L_advise_53 rfl ?_
                refine g_L_L_advisors C d_L_advise_54 ?_
                refine vv_iload_n C d_L_advise_57 rfl ?_
                refine vv_iload_n C d_L_advise_58 rfl ?_
                refine vv_iload_n C d_L_advise_59 rfl ?_
                refine vv_iload C d_L_advise_60 rfl ?_
                refine vv_iload C d_L_advise_62 rfl ?_
                obtain ⟨t, ht, ht6⟩ := notfull hI h2
                refine callC (rest := []) C (c_R_make l Γ u hI t ht ht6 kd od ms aa bb) cw_L_R_make rfl 1 (by decide) rfl rfl rfl rfl (Nat.le_of_ble_eq_true rfl) (by decide) (by decide) d_L_advise_64 ?_
                refine vv_st (st' := [.int ((kMake u kd od ms aa bb).1)]) rfl ?_
                have hE : kAdvise u kd od ms aa bb = ((kMake u kd od ms aa bb).1, ((kMake u kd od ms aa bb).2)) := by
                  unfold kAdvise
                  try dsimp only
                  first | rw [if_pos h1] | rw [if_neg h1] | rw [if_pos (by exact h1)] | rw [if_neg (by exact h1)] | rw [if_neg (by exact z_nle h1)] | rw [if_pos (by exact z_le h1)] | rw [if_neg (by exact z_nlt h1)] | rw [if_pos (by exact z_lt h1)] | rw [if_neg (by rw [h1]; decide)] | rw [if_pos (by rw [h1])] | rw [if_neg (by exact tf_t h1)] | rw [if_neg (by exact tf_f h1)] | simp only [h1] | skip
                  first | rw [if_pos h2] | rw [if_neg h2] | rw [if_pos (by exact h2)] | rw [if_neg (by exact h2)] | rw [if_neg (by exact z_nle h2)] | rw [if_pos (by exact z_le h2)] | rw [if_neg (by exact z_nlt h2)] | rw [if_pos (by exact z_lt h2)] | rw [if_neg (by rw [h2]; decide)] | rw [if_pos (by rw [h2])] | rw [if_neg (by exact tf_t h2)] | rw [if_neg (by exact tf_f h2)] | simp only [h2] | skip
                  first | rw [if_pos h3] | rw [if_neg h3] | rw [if_pos (by exact h3)] | rw [if_neg (by exact h3)] | rw [if_neg (by exact z_nle h3)] | rw [if_pos (by exact z_le h3)] | rw [if_neg (by exact z_nlt h3)] | rw [if_pos (by exact z_lt h3)] | rw [if_neg (by rw [h3]; decide)] | rw [if_pos (by rw [h3])] | rw [if_neg (by exact tf_t h3)] | rw [if_neg (by exact tf_f h3)] | simp only [h3] | skip
                  first | rw [if_pos h4] | rw [if_neg h4] | rw [if_pos (by exact h4)] | rw [if_neg (by exact h4)] | rw [if_neg (by exact z_nle h4)] | rw [if_pos (by exact z_le h4)] | rw [if_neg (by exact z_nlt h4)] | rw [if_pos (by exact z_lt h4)] | rw [if_neg (by rw [h4]; decide)] | rw [if_pos (by rw [h4])] | rw [if_neg (by exact tf_t h4)] | rw [if_neg (by exact tf_f h4)] | simp only [h4] | skip
                  first | rw [if_pos h5] | rw [if_neg h5] | rw [if_pos (by exact h5)] | rw [if_neg (by exact h5)] | rw [if_neg (by exact z_nle h5)] | rw [if_pos (by exact z_le h5)] | rw [if_neg (by exact z_nlt h5)] | rw [if_pos (by exact z_lt h5)] | rw [if_neg (by rw [h5]; decide)] | rw [if_pos (by rw [h5])] | rw [if_neg (by exact tf_t h5)] | rw [if_neg (by exact tf_f h5)] | simp only [h5] | skip
                  first | rw [if_pos h6] | rw [if_neg h6] | rw [if_pos (by exact h6)] | rw [if_neg (by exact h6)] | rw [if_neg (by exact z_nle h6)] | rw [if_pos (by exact z_le h6)] | rw [if_neg (by exact z_nlt h6)] | rw [if_pos (by exact z_lt h6)] | rw [if_neg (by rw [h6]; decide)] | rw [if_pos (by rw [h6])] | rw [if_neg (by exact tf_t h6)] | rw [if_neg (by exact tf_f h6)] | simp only [h6] | skip
                  first | rw [if_pos h7] | rw [if_neg h7] | rw [if_pos (by exact h7)] | rw [if_neg (by exact h7)] | rw [if_neg (by exact z_nle h7)] | rw [if_pos (by exact z_le h7)] | rw [if_neg (by exact z_nlt h7)] | rw [if_pos (by exact z_lt h7)] | rw [if_neg (by rw [h7]; decide)] | rw [if_pos (by rw [h7])] | rw [if_neg (by exact tf_t h7)] | rw [if_neg (by exact tf_f h7)] | simp only [h7] | skip
                  try rfl
                exact vv_iret C hr hlk (by rw [hE] <;> rfl) (by rw [hE] <;> rfl) d_L_advise_67
              · skip
                replace h7 := bI_f h7
                refine vv_iconst C (-1) d_L_advise_51 (by decide) ?_
                have hE : kAdvise u kd od ms aa bb = (-1, u) := by
                  unfold kAdvise
                  try dsimp only
                  first | rw [if_pos h1] | rw [if_neg h1] | rw [if_pos (by exact h1)] | rw [if_neg (by exact h1)] | rw [if_neg (by exact z_nle h1)] | rw [if_pos (by exact z_le h1)] | rw [if_neg (by exact z_nlt h1)] | rw [if_pos (by exact z_lt h1)] | rw [if_neg (by rw [h1]; decide)] | rw [if_pos (by rw [h1])] | rw [if_neg (by exact tf_t h1)] | rw [if_neg (by exact tf_f h1)] | simp only [h1] | skip
                  first | rw [if_pos h2] | rw [if_neg h2] | rw [if_pos (by exact h2)] | rw [if_neg (by exact h2)] | rw [if_neg (by exact z_nle h2)] | rw [if_pos (by exact z_le h2)] | rw [if_neg (by exact z_nlt h2)] | rw [if_pos (by exact z_lt h2)] | rw [if_neg (by rw [h2]; decide)] | rw [if_pos (by rw [h2])] | rw [if_neg (by exact tf_t h2)] | rw [if_neg (by exact tf_f h2)] | simp only [h2] | skip
                  first | rw [if_pos h3] | rw [if_neg h3] | rw [if_pos (by exact h3)] | rw [if_neg (by exact h3)] | rw [if_neg (by exact z_nle h3)] | rw [if_pos (by exact z_le h3)] | rw [if_neg (by exact z_nlt h3)] | rw [if_pos (by exact z_lt h3)] | rw [if_neg (by rw [h3]; decide)] | rw [if_pos (by rw [h3])] | rw [if_neg (by exact tf_t h3)] | rw [if_neg (by exact tf_f h3)] | simp only [h3] | skip
                  first | rw [if_pos h4] | rw [if_neg h4] | rw [if_pos (by exact h4)] | rw [if_neg (by exact h4)] | rw [if_neg (by exact z_nle h4)] | rw [if_pos (by exact z_le h4)] | rw [if_neg (by exact z_nlt h4)] | rw [if_pos (by exact z_lt h4)] | rw [if_neg (by rw [h4]; decide)] | rw [if_pos (by rw [h4])] | rw [if_neg (by exact tf_t h4)] | rw [if_neg (by exact tf_f h4)] | simp only [h4] | skip
                  first | rw [if_pos h5] | rw [if_neg h5] | rw [if_pos (by exact h5)] | rw [if_neg (by exact h5)] | rw [if_neg (by exact z_nle h5)] | rw [if_pos (by exact z_le h5)] | rw [if_neg (by exact z_nlt h5)] | rw [if_pos (by exact z_lt h5)] | rw [if_neg (by rw [h5]; decide)] | rw [if_pos (by rw [h5])] | rw [if_neg (by exact tf_t h5)] | rw [if_neg (by exact tf_f h5)] | simp only [h5] | skip
                  first | rw [if_pos h6] | rw [if_neg h6] | rw [if_pos (by exact h6)] | rw [if_neg (by exact h6)] | rw [if_neg (by exact z_nle h6)] | rw [if_pos (by exact z_le h6)] | rw [if_neg (by exact z_nlt h6)] | rw [if_pos (by exact z_lt h6)] | rw [if_neg (by rw [h6]; decide)] | rw [if_pos (by rw [h6])] | rw [if_neg (by exact tf_t h6)] | rw [if_neg (by exact tf_f h6)] | simp only [h6] | skip
                  first | rw [if_pos h7] | rw [if_neg h7] | rw [if_pos (by exact h7)] | rw [if_neg (by exact h7)] | rw [if_neg (by exact z_nle h7)] | rw [if_pos (by exact z_le h7)] | rw [if_neg (by exact z_nlt h7)] | rw [if_pos (by exact z_lt h7)] | rw [if_neg (by rw [h7]; decide)] | rw [if_pos (by rw [h7])] | rw [if_neg (by exact tf_t h7)] | rw [if_neg (by exact tf_f h7)] | simp only [h7] | skip
                  try rfl
                exact vv_iret C hr hlk (by rw [hE] <;> rfl) (by rw [hE] <;> rfl) d_L_advise_52
        · skip
          refine vv_iconst C (-1) d_L_advise_27 (by decide) ?_
          have hE : kAdvise u kd od ms aa bb = (-1, u) := by
            unfold kAdvise
            try dsimp only
            first | rw [if_pos h1] | rw [if_neg h1] | rw [if_pos (by exact h1)] | rw [if_neg (by exact h1)] | rw [if_neg (by exact z_nle h1)] | rw [if_pos (by exact z_le h1)] | rw [if_neg (by exact z_nlt h1)] | rw [if_pos (by exact z_lt h1)] | rw [if_neg (by rw [h1]; decide)] | rw [if_pos (by rw [h1])] | rw [if_neg (by exact tf_t h1)] | rw [if_neg (by exact tf_f h1)] | simp only [h1] | skip
            first | rw [if_pos h2] | rw [if_neg h2] | rw [if_pos (by exact h2)] | rw [if_neg (by exact h2)] | rw [if_neg (by exact z_nle h2)] | rw [if_pos (by exact z_le h2)] | rw [if_neg (by exact z_nlt h2)] | rw [if_pos (by exact z_lt h2)] | rw [if_neg (by rw [h2]; decide)] | rw [if_pos (by rw [h2])] | rw [if_neg (by exact tf_t h2)] | rw [if_neg (by exact tf_f h2)] | simp only [h2] | skip
            first | rw [if_pos h3] | rw [if_neg h3] | rw [if_pos (by exact h3)] | rw [if_neg (by exact h3)] | rw [if_neg (by exact z_nle h3)] | rw [if_pos (by exact z_le h3)] | rw [if_neg (by exact z_nlt h3)] | rw [if_pos (by exact z_lt h3)] | rw [if_neg (by rw [h3]; decide)] | rw [if_pos (by rw [h3])] | rw [if_neg (by exact tf_t h3)] | rw [if_neg (by exact tf_f h3)] | simp only [h3] | skip
            first | rw [if_pos h4] | rw [if_neg h4] | rw [if_pos (by exact h4)] | rw [if_neg (by exact h4)] | rw [if_neg (by exact z_nle h4)] | rw [if_pos (by exact z_le h4)] | rw [if_neg (by exact z_nlt h4)] | rw [if_pos (by exact z_lt h4)] | rw [if_neg (by rw [h4]; decide)] | rw [if_pos (by rw [h4])] | rw [if_neg (by exact tf_t h4)] | rw [if_neg (by exact tf_f h4)] | simp only [h4] | skip
            try rfl
          exact vv_iret C hr hlk (by rw [hE] <;> rfl) (by rw [hE] <;> rfl) d_L_advise_28
set_option maxHeartbeats 4000000 in
set_option maxRecDepth 100000 in
theorem c_L_when (l : Launch) (Γ : Geo) (u : SC) (hI : IC u) (x : Int32) (lo : Int32) (hi : Int32) : CtC l Γ y_L_when b_L_when 5 (some .boolean) 1 [.ref (Γ.2.1 0), .int x, .int lo, .int hi] u (some (.int (bI (kWhen u x lo hi).1))) (kWhen u x lo hi).2 := by
  refine ct_of (by decide +kernel) (Nat.le_of_ble_eq_true rfl) ?_
  intro p e s m args below meth c C hr hlk
  refine vv_aload_n C d_L_when_0 rfl ?_
  refine g_L_L_advisors C d_L_when_1 ?_
  refine vv_iload_n C d_L_when_4 rfl ?_
  refine callC (rest := []) C (c_R_placeOf l Γ u hI x) cw_L_R_placeOf rfl 1 (by decide) rfl rfl rfl rfl (Nat.le_of_ble_eq_true rfl) (by decide) (by decide) d_L_when_5 ?_
  refine vv_st (st' := [.int (kPlaceOf u x)]) rfl ?_
  refine vv_istore (lv' := [(4, .int (kPlaceOf u x)), (0, .ref (Γ.2.1 0)), (1, .int x), (2, .int lo), (3, .int hi)]) C d_L_when_8 (by decide) rfl ?_
  refine vv_aload_n C d_L_when_10 rfl ?_
  refine g_L_L_frozen C d_L_when_11 ?_
  refine vv_if_ne C 28 d_L_when_14 rfl (fun h1 => ?_) (fun h1 => ?_)
  · skip
    refine vv_iconst C (0) d_L_when_28 (by decide) ?_
    have hE : kWhen u x lo hi = (false, u) := by
      unfold kWhen
      try dsimp only
      first | rw [if_pos h1] | rw [if_neg h1] | rw [if_pos (by exact h1)] | rw [if_neg (by exact h1)] | rw [if_neg (by exact z_nle h1)] | rw [if_pos (by exact z_le h1)] | rw [if_neg (by exact z_nlt h1)] | rw [if_pos (by exact z_lt h1)] | rw [if_neg (by rw [h1]; decide)] | rw [if_pos (by rw [h1])] | rw [if_neg (by exact tf_t h1)] | rw [if_neg (by exact tf_f h1)] | simp only [h1] | skip
      try rfl
    exact vv_zret C hr hlk rfl (by rw [hE]; rfl) (by rw [hE] <;> rfl) d_L_when_29
  · skip
    refine vv_iload C d_L_when_17 rfl ?_
    refine vv_iconst C (-1) d_L_when_19 (by decide) ?_
    refine vv_icmp_eq C 28 d_L_when_20 rfl (fun h2 => ?_) (fun h2 => ?_)
    · skip
      refine vv_iconst C (0) d_L_when_28 (by decide) ?_
      have hE : kWhen u x lo hi = (false, u) := by
        unfold kWhen
        try dsimp only
        first | rw [if_pos h1] | rw [if_neg h1] | rw [if_pos (by exact h1)] | rw [if_neg (by exact h1)] | rw [if_neg (by exact z_nle h1)] | rw [if_pos (by exact z_le h1)] | rw [if_neg (by exact z_nlt h1)] | rw [if_pos (by exact z_lt h1)] | rw [if_neg (by rw [h1]; decide)] | rw [if_pos (by rw [h1])] | rw [if_neg (by exact tf_t h1)] | rw [if_neg (by exact tf_f h1)] | simp only [h1] | skip
        first | rw [if_pos h2] | rw [if_neg h2] | rw [if_pos (by exact h2)] | rw [if_neg (by exact h2)] | rw [if_neg (by exact z_nle h2)] | rw [if_pos (by exact z_le h2)] | rw [if_neg (by exact z_nlt h2)] | rw [if_pos (by exact z_lt h2)] | rw [if_neg (by rw [h2]; decide)] | rw [if_pos (by rw [h2])] | rw [if_neg (by exact tf_t h2)] | rw [if_neg (by exact tf_f h2)] | simp only [h2] | skip
        try rfl
      exact vv_zret C hr hlk rfl (by rw [hE]; rfl) (by rw [hE] <;> rfl) d_L_when_29
    · skip
      refine vv_iload_n C d_L_when_23 rfl ?_
      refine vv_iload_n C d_L_when_24 rfl ?_
      refine vv_icmp_le C 30 d_L_when_25 rfl (fun h3 => ?_) (fun h3 => ?_)
      · skip
        obtain ⟨t, pp, ht, h6, hpp, hpe⟩ := pl_ok hI h2
        have hpk : u.2 (ix (nI pp)) < 6 := IC_pi hI (in6 (by omega))
        rw [hpe]
        refine vv_aload_n C d_L_when_30 rfl ?_
        refine g_L_L_advisors C d_L_when_31 ?_
        refine vv_iload C d_L_when_34 rfl ?_
        refine callC (rest := []) C (c_R_at l Γ u (nI pp) (in6 (by omega))) cw_L_R_at rfl 1 (by decide) rfl rfl rfl rfl (Nat.le_of_ble_eq_true rfl) (by decide) (by decide) d_L_when_36 ?_
        refine vv_st (st' := [.ref (Γ.2.1 (u.2 (ix (nI pp)) + 9))]) rfl ?_
        refine vv_iload_n C d_L_when_39 rfl ?_
        refine vv_iload_n C d_L_when_40 rfl ?_
        refine callC (rest := []) C (c_A_giveRange l Γ u (u.2 (ix (nI pp))) hpk lo hi) cw_L_A_giveRange rfl (u.2 (ix (nI pp)) + 9) (by have := hpk; omega) rfl (eC_adv hpk) rfl rfl (Nat.le_of_ble_eq_true rfl) (by decide) (by decide) d_L_when_41 ?_
        refine vv_st (st' := []) rfl ?_
        refine vv_iconst C (1) d_L_when_44 (by decide) ?_
        have hE : kWhen u x lo hi = (true, (kGive u (u.2 (ix (nI pp))) lo hi)) := by
          unfold kWhen
          try dsimp only
          first | rw [if_pos h1] | rw [if_neg h1] | rw [if_pos (by exact h1)] | rw [if_neg (by exact h1)] | rw [if_neg (by exact z_nle h1)] | rw [if_pos (by exact z_le h1)] | rw [if_neg (by exact z_nlt h1)] | rw [if_pos (by exact z_lt h1)] | rw [if_neg (by rw [h1]; decide)] | rw [if_pos (by rw [h1])] | rw [if_neg (by exact tf_t h1)] | rw [if_neg (by exact tf_f h1)] | simp only [h1] | skip
          first | rw [if_pos h2] | rw [if_neg h2] | rw [if_pos (by exact h2)] | rw [if_neg (by exact h2)] | rw [if_neg (by exact z_nle h2)] | rw [if_pos (by exact z_le h2)] | rw [if_neg (by exact z_nlt h2)] | rw [if_pos (by exact z_lt h2)] | rw [if_neg (by rw [h2]; decide)] | rw [if_pos (by rw [h2])] | rw [if_neg (by exact tf_t h2)] | rw [if_neg (by exact tf_f h2)] | simp only [h2] | skip
          first | rw [if_pos h3] | rw [if_neg h3] | rw [if_pos (by exact h3)] | rw [if_neg (by exact h3)] | rw [if_neg (by exact z_nle h3)] | rw [if_pos (by exact z_le h3)] | rw [if_neg (by exact z_nlt h3)] | rw [if_pos (by exact z_lt h3)] | rw [if_neg (by rw [h3]; decide)] | rw [if_pos (by rw [h3])] | rw [if_neg (by exact tf_t h3)] | rw [if_neg (by exact tf_f h3)] | simp only [h3] | skip
          try rw [hpe]
          try rfl
        exact vv_zret C hr hlk rfl (by rw [hE]; rfl) (by rw [hE] <;> rfl) d_L_when_45
      · skip
        refine vv_iconst C (0) d_L_when_28 (by decide) ?_
        have hE : kWhen u x lo hi = (false, u) := by
          unfold kWhen
          try dsimp only
          first | rw [if_pos h1] | rw [if_neg h1] | rw [if_pos (by exact h1)] | rw [if_neg (by exact h1)] | rw [if_neg (by exact z_nle h1)] | rw [if_pos (by exact z_le h1)] | rw [if_neg (by exact z_nlt h1)] | rw [if_pos (by exact z_lt h1)] | rw [if_neg (by rw [h1]; decide)] | rw [if_pos (by rw [h1])] | rw [if_neg (by exact tf_t h1)] | rw [if_neg (by exact tf_f h1)] | simp only [h1] | skip
          first | rw [if_pos h2] | rw [if_neg h2] | rw [if_pos (by exact h2)] | rw [if_neg (by exact h2)] | rw [if_neg (by exact z_nle h2)] | rw [if_pos (by exact z_le h2)] | rw [if_neg (by exact z_nlt h2)] | rw [if_pos (by exact z_lt h2)] | rw [if_neg (by rw [h2]; decide)] | rw [if_pos (by rw [h2])] | rw [if_neg (by exact tf_t h2)] | rw [if_neg (by exact tf_f h2)] | simp only [h2] | skip
          first | rw [if_pos h3] | rw [if_neg h3] | rw [if_pos (by exact h3)] | rw [if_neg (by exact h3)] | rw [if_neg (by exact z_nle h3)] | rw [if_pos (by exact z_le h3)] | rw [if_neg (by exact z_nlt h3)] | rw [if_pos (by exact z_lt h3)] | rw [if_neg (by rw [h3]; decide)] | rw [if_pos (by rw [h3])] | rw [if_neg (by exact tf_t h3)] | rw [if_neg (by exact tf_f h3)] | simp only [h3] | skip
          try rfl
        exact vv_zret C hr hlk rfl (by rw [hE]; rfl) (by rw [hE] <;> rfl) d_L_when_29
set_option maxHeartbeats 4000000 in
set_option maxRecDepth 100000 in
theorem c_L_reorder (l : Launch) (Γ : Geo) (u : SC) (hI : IC u) (x : Int32) (y : Int32) : CtC l Γ y_L_reorder b_L_reorder 4 (some .boolean) 3 [.ref (Γ.2.1 0), .int x, .int y] u (some (.int (bI (kReorder u x y).1))) (kReorder u x y).2 := by
  refine ct_of (by decide +kernel) (Nat.le_of_ble_eq_true rfl) ?_
  intro p e s m args below meth c C hr hlk
  refine vv_aload_n C d_L_reorder_0 rfl ?_
  refine g_L_L_advisors C d_L_reorder_1 ?_
  refine vv_iload_n C d_L_reorder_4 rfl ?_
  refine callC (rest := []) C (c_R_placeOf l Γ u hI x) cw_L_R_placeOf rfl 1 (by decide) rfl rfl rfl rfl (Nat.le_of_ble_eq_true rfl) (by decide) (by decide) d_L_reorder_5 ?_
  refine vv_st (st' := [.int (kPlaceOf u x)]) rfl ?_
  refine vv_istore_n (lv' := [(3, .int (kPlaceOf u x)), (0, .ref (Γ.2.1 0)), (1, .int x), (2, .int y)]) C d_L_reorder_8 rfl (by decide) rfl ?_
  refine vv_aload_n C d_L_reorder_9 rfl ?_
  refine g_L_L_frozen C d_L_reorder_10 ?_
  refine vv_if_ne C 21 d_L_reorder_13 rfl (fun h1 => ?_) (fun h1 => ?_)
  · skip
    refine vv_iconst C (0) d_L_reorder_21 (by decide) ?_
    have hE : kReorder u x y = (false, u) := by
      unfold kReorder
      try dsimp only
      first | rw [if_pos h1] | rw [if_neg h1] | rw [if_pos (by exact h1)] | rw [if_neg (by exact h1)] | rw [if_neg (by exact z_nle h1)] | rw [if_pos (by exact z_le h1)] | rw [if_neg (by exact z_nlt h1)] | rw [if_pos (by exact z_lt h1)] | rw [if_neg (by rw [h1]; decide)] | rw [if_pos (by rw [h1])] | rw [if_neg (by exact tf_t h1)] | rw [if_neg (by exact tf_f h1)] | simp only [h1] | skip
      try rfl
    exact vv_zret C hr hlk rfl (by rw [hE]; rfl) (by rw [hE] <;> rfl) d_L_reorder_22
  · skip
    refine vv_iload_n C d_L_reorder_16 rfl ?_
    refine vv_iconst C (-1) d_L_reorder_17 (by decide) ?_
    refine vv_icmp_ne C 23 d_L_reorder_18 rfl (fun h2 => ?_) (fun h2 => ?_)
    · skip
      obtain ⟨t, pp, ht0, h6, hpp0, hpe⟩ := pl_ok hI h2
      have hpk : u.2 (ix (nI pp)) < 6 := IC_pi hI (in6 (by omega))
      have ht : t + 1 ≤ 6 := by omega
      have hpp : pp < t + 1 := by omega
      rw [hpe]
      refine vv_aload_n C d_L_reorder_23 rfl ?_
      refine g_L_L_advisors C d_L_reorder_24 ?_
      refine vv_iload_n C d_L_reorder_27 rfl ?_
      refine vv_iload_n C d_L_reorder_28 rfl ?_
      refine callC (rest := []) C (c_R_move l Γ u hI pp (t + 1) ht h6 hpp y) cw_L_R_move rfl 1 (by decide) rfl rfl rfl rfl (Nat.le_of_ble_eq_true rfl) (by decide) (by decide) d_L_reorder_29 ?_
      refine vv_st (st' := []) rfl ?_
      refine vv_iconst C (1) d_L_reorder_32 (by decide) ?_
      have hE : kReorder u x y = (true, (kMove u (nI pp) y)) := by
        unfold kReorder
        try dsimp only
        first | rw [if_pos h1] | rw [if_neg h1] | rw [if_pos (by exact h1)] | rw [if_neg (by exact h1)] | rw [if_neg (by exact z_nle h1)] | rw [if_pos (by exact z_le h1)] | rw [if_neg (by exact z_nlt h1)] | rw [if_pos (by exact z_lt h1)] | rw [if_neg (by rw [h1]; decide)] | rw [if_pos (by rw [h1])] | rw [if_neg (by exact tf_t h1)] | rw [if_neg (by exact tf_f h1)] | simp only [h1] | skip
        first | rw [if_pos h2] | rw [if_neg h2] | rw [if_pos (by exact h2)] | rw [if_neg (by exact h2)] | rw [if_neg (by exact z_nle h2)] | rw [if_pos (by exact z_le h2)] | rw [if_neg (by exact z_nlt h2)] | rw [if_pos (by exact z_lt h2)] | rw [if_neg (by rw [h2]; decide)] | rw [if_pos (by rw [h2])] | rw [if_neg (by exact tf_t h2)] | rw [if_neg (by exact tf_f h2)] | simp only [h2] | skip
        try rw [hpe]
        try rfl
      exact vv_zret C hr hlk rfl (by rw [hE]; rfl) (by rw [hE] <;> rfl) d_L_reorder_33
    · skip
      refine vv_iconst C (0) d_L_reorder_21 (by decide) ?_
      have hE : kReorder u x y = (false, u) := by
        unfold kReorder
        try dsimp only
        first | rw [if_pos h1] | rw [if_neg h1] | rw [if_pos (by exact h1)] | rw [if_neg (by exact h1)] | rw [if_neg (by exact z_nle h1)] | rw [if_pos (by exact z_le h1)] | rw [if_neg (by exact z_nlt h1)] | rw [if_pos (by exact z_lt h1)] | rw [if_neg (by rw [h1]; decide)] | rw [if_pos (by rw [h1])] | rw [if_neg (by exact tf_t h1)] | rw [if_neg (by exact tf_f h1)] | simp only [h1] | skip
        first | rw [if_pos h2] | rw [if_neg h2] | rw [if_pos (by exact h2)] | rw [if_neg (by exact h2)] | rw [if_neg (by exact z_nle h2)] | rw [if_pos (by exact z_le h2)] | rw [if_neg (by exact z_nlt h2)] | rw [if_pos (by exact z_lt h2)] | rw [if_neg (by rw [h2]; decide)] | rw [if_pos (by rw [h2])] | rw [if_neg (by exact tf_t h2)] | rw [if_neg (by exact tf_f h2)] | simp only [h2] | skip
        try rfl
      exact vv_zret C hr hlk rfl (by rw [hE]; rfl) (by rw [hE] <;> rfl) d_L_reorder_22
set_option maxHeartbeats 4000000 in
set_option maxRecDepth 100000 in
theorem c_L_remove (l : Launch) (Γ : Geo) (u : SC) (hI : IC u) (x : Int32) : CtC l Γ y_L_remove b_L_remove 3 (some .boolean) 2 [.ref (Γ.2.1 0), .int x] u (some (.int (bI (kRemove u x).1))) (kRemove u x).2 := by
  refine ct_of (by decide +kernel) (Nat.le_of_ble_eq_true rfl) ?_
  intro p e s m args below meth c C hr hlk
  refine vv_aload_n C d_L_remove_0 rfl ?_
  refine g_L_L_advisors C d_L_remove_1 ?_
  refine vv_iload_n C d_L_remove_4 rfl ?_
  refine callC (rest := []) C (c_R_placeOf l Γ u hI x) cw_L_R_placeOf rfl 1 (by decide) rfl rfl rfl rfl (Nat.le_of_ble_eq_true rfl) (by decide) (by decide) d_L_remove_5 ?_
  refine vv_st (st' := [.int (kPlaceOf u x)]) rfl ?_
  refine vv_istore_n (lv' := [(2, .int (kPlaceOf u x)), (0, .ref (Γ.2.1 0)), (1, .int x)]) C d_L_remove_8 rfl (by decide) rfl ?_
  refine vv_aload_n C d_L_remove_9 rfl ?_
  refine g_L_L_frozen C d_L_remove_10 ?_
  refine vv_if_ne C 21 d_L_remove_13 rfl (fun h1 => ?_) (fun h1 => ?_)
  · skip
    refine vv_iconst C (0) d_L_remove_21 (by decide) ?_
    have hE : kRemove u x = (false, u) := by
      unfold kRemove
      try dsimp only
      first | rw [if_pos h1] | rw [if_neg h1] | rw [if_pos (by exact h1)] | rw [if_neg (by exact h1)] | rw [if_neg (by exact z_nle h1)] | rw [if_pos (by exact z_le h1)] | rw [if_neg (by exact z_nlt h1)] | rw [if_pos (by exact z_lt h1)] | rw [if_neg (by rw [h1]; decide)] | rw [if_pos (by rw [h1])] | rw [if_neg (by exact tf_t h1)] | rw [if_neg (by exact tf_f h1)] | simp only [h1] | skip
      try rfl
    exact vv_zret C hr hlk rfl (by rw [hE]; rfl) (by rw [hE] <;> rfl) d_L_remove_22
  · skip
    refine vv_iload_n C d_L_remove_16 rfl ?_
    refine vv_iconst C (-1) d_L_remove_17 (by decide) ?_
    refine vv_icmp_ne C 23 d_L_remove_18 rfl (fun h2 => ?_) (fun h2 => ?_)
    · skip
      obtain ⟨t, pp, ht, h6, hpp, hpe⟩ := pl_ok hI h2
      have hpk : u.2 (ix (nI pp)) < 6 := IC_pi hI (in6 (by omega))
      rw [hpe]
      refine vv_aload_n C d_L_remove_23 rfl ?_
      refine g_L_L_advisors C d_L_remove_24 ?_
      refine vv_iload_n C d_L_remove_27 rfl ?_
      refine callC (rest := []) C (c_R_takeAway l Γ u hI pp t ht h6 hpp) cw_L_R_takeAway rfl 1 (by decide) rfl rfl rfl rfl (Nat.le_of_ble_eq_true rfl) (by decide) (by decide) d_L_remove_28 ?_
      refine vv_st (st' := []) rfl ?_
      refine vv_iconst C (1) d_L_remove_31 (by decide) ?_
      have hE : kRemove u x = (true, (kTakeAway u (nI pp))) := by
        unfold kRemove
        try dsimp only
        first | rw [if_pos h1] | rw [if_neg h1] | rw [if_pos (by exact h1)] | rw [if_neg (by exact h1)] | rw [if_neg (by exact z_nle h1)] | rw [if_pos (by exact z_le h1)] | rw [if_neg (by exact z_nlt h1)] | rw [if_pos (by exact z_lt h1)] | rw [if_neg (by rw [h1]; decide)] | rw [if_pos (by rw [h1])] | rw [if_neg (by exact tf_t h1)] | rw [if_neg (by exact tf_f h1)] | simp only [h1] | skip
        first | rw [if_pos h2] | rw [if_neg h2] | rw [if_pos (by exact h2)] | rw [if_neg (by exact h2)] | rw [if_neg (by exact z_nle h2)] | rw [if_pos (by exact z_le h2)] | rw [if_neg (by exact z_nlt h2)] | rw [if_pos (by exact z_lt h2)] | rw [if_neg (by rw [h2]; decide)] | rw [if_pos (by rw [h2])] | rw [if_neg (by exact tf_t h2)] | rw [if_neg (by exact tf_f h2)] | simp only [h2] | skip
        try rw [hpe]
        try rfl
      exact vv_zret C hr hlk rfl (by rw [hE]; rfl) (by rw [hE] <;> rfl) d_L_remove_32
    · skip
      refine vv_iconst C (0) d_L_remove_21 (by decide) ?_
      have hE : kRemove u x = (false, u) := by
        unfold kRemove
        try dsimp only
        first | rw [if_pos h1] | rw [if_neg h1] | rw [if_pos (by exact h1)] | rw [if_neg (by exact h1)] | rw [if_neg (by exact z_nle h1)] | rw [if_pos (by exact z_le h1)] | rw [if_neg (by exact z_nlt h1)] | rw [if_pos (by exact z_lt h1)] | rw [if_neg (by rw [h1]; decide)] | rw [if_pos (by rw [h1])] | rw [if_neg (by exact tf_t h1)] | rw [if_neg (by exact tf_f h1)] | simp only [h1] | skip
        first | rw [if_pos h2] | rw [if_neg h2] | rw [if_pos (by exact h2)] | rw [if_neg (by exact h2)] | rw [if_neg (by exact z_nle h2)] | rw [if_pos (by exact z_le h2)] | rw [if_neg (by exact z_nlt h2)] | rw [if_pos (by exact z_lt h2)] | rw [if_neg (by rw [h2]; decide)] | rw [if_pos (by rw [h2])] | rw [if_neg (by exact tf_t h2)] | rw [if_neg (by exact tf_f h2)] | simp only [h2] | skip
        try rfl
      exact vv_zret C hr hlk rfl (by rw [hE]; rfl) (by rw [hE] <;> rfl) d_L_remove_22
set_option maxHeartbeats 4000000 in
set_option maxRecDepth 100000 in
theorem c_L_plan (l : Launch) (Γ : Geo) (u : SC) (hI : IC u) (x : Int32) (y : Int32) (f1 : Int32) (a1 : Int32) : CtC l Γ y_L_plan b_L_plan 6 (some .boolean) 1 [.ref (Γ.2.1 0), .int x, .int y, .int f1, .int a1] u (some (.int (bI (kPlan u x y f1 a1).1))) (kPlan u x y f1 a1).2 := by
  refine ct_of (by decide +kernel) (Nat.le_of_ble_eq_true rfl) ?_
  intro p e s m args below meth c C hr hlk
  refine vv_iload_n C d_L_plan_0 rfl ?_
  refine callCS (rest := []) C (c_L_isTarget l Γ u x) cw_L_L_isTarget rfl rfl (Nat.le_of_ble_eq_true rfl) (by decide) (by decide) d_L_plan_1 ?_
  refine vv_st (st' := [.int (bI (kIsTarget x))]) rfl ?_
  refine vv_if_eq C 14 d_L_plan_4 rfl (fun h1 => ?_) (fun h1 => ?_)
  · skip
    replace h1 := bI_f h1
    refine vv_iconst C (0) d_L_plan_14 (by decide) ?_
    have hE : kPlan u x y f1 a1 = (false, u) := by
      unfold kPlan
      try dsimp only
      first | rw [if_pos h1] | rw [if_neg h1] | rw [if_pos (by exact h1)] | rw [if_neg (by exact h1)] | rw [if_neg (by exact z_nle h1)] | rw [if_pos (by exact z_le h1)] | rw [if_neg (by exact z_nlt h1)] | rw [if_pos (by exact z_lt h1)] | rw [if_neg (by rw [h1]; decide)] | rw [if_pos (by rw [h1])] | rw [if_neg (by exact tf_t h1)] | rw [if_neg (by exact tf_f h1)] | simp only [h1] | skip
      try rfl
    exact vv_zret C hr hlk rfl (by rw [hE]; rfl) (by rw [hE] <;> rfl) d_L_plan_15
  · skip
    replace h1 := bI_t h1
    refine vv_iload_n C d_L_plan_7 rfl ?_
    refine callCS (rest := []) C (c_L_isMethod l Γ u y) cw_L_L_isMethod rfl rfl (Nat.le_of_ble_eq_true rfl) (by decide) (by decide) d_L_plan_8 ?_
    refine vv_st (st' := [.int (bI (kIsMethod y))]) rfl ?_
    refine vv_if_ne C 16 d_L_plan_11 rfl (fun h2 => ?_) (fun h2 => ?_)
    · skip
      replace h2 := bI_t h2
      obtain ⟨hw1, hw2⟩ := tm_in h1 h2
      refine vv_aload_n C d_L_plan_16 rfl ?_
      refine vv_iload_n C d_L_plan_17 rfl ?_
      refine vv_iload_n C d_L_plan_18 rfl ?_
      refine callC (rest := []) C (c_L_workOf l Γ u x y hw1) cw_L_L_workOf rfl 0 (by decide) rfl rfl rfl rfl (Nat.le_of_ble_eq_true rfl) (by decide) (by decide) d_L_plan_19 ?_
      refine vv_st (st' := [.ref (Γ.2.1 (ix (x * 6 + y) + 15))]) rfl ?_
      refine vv_astore (lv' := [(5, .ref (Γ.2.1 (ix (x * 6 + y) + 15))), (0, .ref (Γ.2.1 0)), (1, .int x), (2, .int y), (3, .int f1), (4, .int a1)]) C d_L_plan_22 (by decide) rfl ?_
      refine vv_aload C d_L_plan_24 rfl ?_
      refine vv_iload_n C d_L_plan_26 rfl ?_
      refine p_L_K_factor C hw2 d_L_plan_27 ?_
      refine vv_aload C d_L_plan_30 rfl ?_
      refine vv_iload C d_L_plan_32 rfl ?_
      refine p_L_K_addend C hw2 d_L_plan_34 ?_
      refine vv_iconst C (1) d_L_plan_37 (by decide) ?_
      have hE : kPlan u x y f1 a1 = (true, (wr (wr u 22 (ix (x * 6 + y)) f1) 23 (ix (x * 6 + y)) a1)) := by
        unfold kPlan
        try dsimp only
        first | rw [if_pos h1] | rw [if_neg h1] | rw [if_pos (by exact h1)] | rw [if_neg (by exact h1)] | rw [if_neg (by exact z_nle h1)] | rw [if_pos (by exact z_le h1)] | rw [if_neg (by exact z_nlt h1)] | rw [if_pos (by exact z_lt h1)] | rw [if_neg (by rw [h1]; decide)] | rw [if_pos (by rw [h1])] | rw [if_neg (by exact tf_t h1)] | rw [if_neg (by exact tf_f h1)] | simp only [h1] | skip
        first | rw [if_pos h2] | rw [if_neg h2] | rw [if_pos (by exact h2)] | rw [if_neg (by exact h2)] | rw [if_neg (by exact z_nle h2)] | rw [if_pos (by exact z_le h2)] | rw [if_neg (by exact z_nlt h2)] | rw [if_pos (by exact z_lt h2)] | rw [if_neg (by rw [h2]; decide)] | rw [if_pos (by rw [h2])] | rw [if_neg (by exact tf_t h2)] | rw [if_neg (by exact tf_f h2)] | simp only [h2] | skip
        try rfl
      exact vv_zret C hr hlk rfl (by rw [hE]; rfl) (by rw [hE] <;> rfl) d_L_plan_38
    · skip
      replace h2 := bI_f h2
      refine vv_iconst C (0) d_L_plan_14 (by decide) ?_
      have hE : kPlan u x y f1 a1 = (false, u) := by
        unfold kPlan
        try dsimp only
        first | rw [if_pos h1] | rw [if_neg h1] | rw [if_pos (by exact h1)] | rw [if_neg (by exact h1)] | rw [if_neg (by exact z_nle h1)] | rw [if_pos (by exact z_le h1)] | rw [if_neg (by exact z_nlt h1)] | rw [if_pos (by exact z_lt h1)] | rw [if_neg (by rw [h1]; decide)] | rw [if_pos (by rw [h1])] | rw [if_neg (by exact tf_t h1)] | rw [if_neg (by exact tf_f h1)] | simp only [h1] | skip
        first | rw [if_pos h2] | rw [if_neg h2] | rw [if_pos (by exact h2)] | rw [if_neg (by exact h2)] | rw [if_neg (by exact z_nle h2)] | rw [if_pos (by exact z_le h2)] | rw [if_neg (by exact z_nlt h2)] | rw [if_pos (by exact z_lt h2)] | rw [if_neg (by rw [h2]; decide)] | rw [if_pos (by rw [h2])] | rw [if_neg (by exact tf_t h2)] | rw [if_neg (by exact tf_f h2)] | simp only [h2] | skip
        try rfl
      exact vv_zret C hr hlk rfl (by rw [hE]; rfl) (by rw [hE] <;> rfl) d_L_plan_15
set_option maxHeartbeats 4000000 in
set_option maxRecDepth 100000 in
theorem c_L_fail (l : Launch) (Γ : Geo) (u : SC) (hI : IC u) (x : Int32) (y : Int32) (a1 : Int32) (e1 : Int32) : CtC l Γ y_L_fail b_L_fail 6 (some .boolean) 2 [.ref (Γ.2.1 0), .int x, .int y, .int a1, .int e1] u (some (.int (bI (kFail u x y a1 e1).1))) (kFail u x y a1 e1).2 := by
  refine ct_of (by decide +kernel) (Nat.le_of_ble_eq_true rfl) ?_
  intro p e s m args below meth c C hr hlk
  refine vv_iload_n C d_L_fail_0 rfl ?_
  refine callCS (rest := []) C (c_L_isTarget l Γ u x) cw_L_L_isTarget rfl rfl (Nat.le_of_ble_eq_true rfl) (by decide) (by decide) d_L_fail_1 ?_
  refine vv_st (st' := [.int (bI (kIsTarget x))]) rfl ?_
  refine vv_if_eq C 22 d_L_fail_4 rfl (fun h1 => ?_) (fun h1 => ?_)
  · skip
    replace h1 := bI_f h1
    refine vv_iconst C (0) d_L_fail_22 (by decide) ?_
    have hE : kFail u x y a1 e1 = (false, u) := by
      unfold kFail
      try dsimp only
      first | rw [if_pos h1] | rw [if_neg h1] | rw [if_pos (by exact h1)] | rw [if_neg (by exact h1)] | rw [if_neg (by exact z_nle h1)] | rw [if_pos (by exact z_le h1)] | rw [if_neg (by exact z_nlt h1)] | rw [if_pos (by exact z_lt h1)] | rw [if_neg (by rw [h1]; decide)] | rw [if_pos (by rw [h1])] | rw [if_neg (by exact tf_t h1)] | rw [if_neg (by exact tf_f h1)] | simp only [h1] | skip
      try rfl
    exact vv_zret C hr hlk rfl (by rw [hE]; rfl) (by rw [hE] <;> rfl) d_L_fail_23
  · skip
    replace h1 := bI_t h1
    refine vv_iload_n C d_L_fail_7 rfl ?_
    refine callCS (rest := []) C (c_L_isMethod l Γ u y) cw_L_L_isMethod rfl rfl (Nat.le_of_ble_eq_true rfl) (by decide) (by decide) d_L_fail_8 ?_
    refine vv_st (st' := [.int (bI (kIsMethod y))]) rfl ?_
    refine vv_if_eq C 22 d_L_fail_11 rfl (fun h2 => ?_) (fun h2 => ?_)
    · skip
      replace h2 := bI_f h2
      refine vv_iconst C (0) d_L_fail_22 (by decide) ?_
      have hE : kFail u x y a1 e1 = (false, u) := by
        unfold kFail
        try dsimp only
        first | rw [if_pos h1] | rw [if_neg h1] | rw [if_pos (by exact h1)] | rw [if_neg (by exact h1)] | rw [if_neg (by exact z_nle h1)] | rw [if_pos (by exact z_le h1)] | rw [if_neg (by exact z_nlt h1)] | rw [if_pos (by exact z_lt h1)] | rw [if_neg (by rw [h1]; decide)] | rw [if_pos (by rw [h1])] | rw [if_neg (by exact tf_t h1)] | rw [if_neg (by exact tf_f h1)] | simp only [h1] | skip
        first | rw [if_pos h2] | rw [if_neg h2] | rw [if_pos (by exact h2)] | rw [if_neg (by exact h2)] | rw [if_neg (by exact z_nle h2)] | rw [if_pos (by exact z_le h2)] | rw [if_neg (by exact z_nlt h2)] | rw [if_pos (by exact z_lt h2)] | rw [if_neg (by rw [h2]; decide)] | rw [if_pos (by rw [h2])] | rw [if_neg (by exact tf_t h2)] | rw [if_neg (by exact tf_f h2)] | simp only [h2] | skip
        try rfl
      exact vv_zret C hr hlk rfl (by rw [hE]; rfl) (by rw [hE] <;> rfl) d_L_fail_23
    · skip
      replace h2 := bI_t h2
      refine vv_iload C d_L_fail_14 rfl ?_
      refine callCS (rest := []) C (c_L_isExceptionOrZero l Γ u e1) cw_L_L_isExceptionOrZero rfl rfl (Nat.le_of_ble_eq_true rfl) (by decide) (by decide) d_L_fail_16 ?_
      refine vv_st (st' := [.int (bI (kIsExcZ e1))]) rfl ?_
      refine vv_if_ne C 24 d_L_fail_19 rfl (fun h3 => ?_) (fun h3 => ?_)
      · skip
        replace h3 := bI_t h3
        obtain ⟨hw1, hw2⟩ := tm_in h1 h2
        refine vv_aload_n C d_L_fail_24 rfl ?_
        refine vv_iload_n C d_L_fail_25 rfl ?_
        refine vv_iload_n C d_L_fail_26 rfl ?_
        refine callC (rest := []) C (c_L_workOf l Γ u x y hw1) cw_L_L_workOf rfl 0 (by decide) rfl rfl rfl rfl (Nat.le_of_ble_eq_true rfl) (by decide) (by decide) d_L_fail_27 ?_
        refine vv_st (st' := [.ref (Γ.2.1 (ix (x * 6 + y) + 15))]) rfl ?_
        refine vv_astore (lv' := [(5, .ref (Γ.2.1 (ix (x * 6 + y) + 15))), (0, .ref (Γ.2.1 0)), (1, .int x), (2, .int y), (3, .int a1), (4, .int e1)]) C d_L_fail_30 (by decide) rfl ?_
        refine vv_aload C d_L_fail_32 rfl ?_
        refine vv_iload_n C d_L_fail_34 rfl ?_
        refine p_L_K_failsAt C hw2 d_L_fail_35 ?_
        refine vv_aload C d_L_fail_38 rfl ?_
        refine vv_iload C d_L_fail_40 rfl ?_
        refine p_L_K_exception C hw2 d_L_fail_42 ?_
        refine vv_iconst C (1) d_L_fail_45 (by decide) ?_
        have hE : kFail u x y a1 e1 = (true, (wr (wr u 24 (ix (x * 6 + y)) a1) 25 (ix (x * 6 + y)) e1)) := by
          unfold kFail
          try dsimp only
          first | rw [if_pos h1] | rw [if_neg h1] | rw [if_pos (by exact h1)] | rw [if_neg (by exact h1)] | rw [if_neg (by exact z_nle h1)] | rw [if_pos (by exact z_le h1)] | rw [if_neg (by exact z_nlt h1)] | rw [if_pos (by exact z_lt h1)] | rw [if_neg (by rw [h1]; decide)] | rw [if_pos (by rw [h1])] | rw [if_neg (by exact tf_t h1)] | rw [if_neg (by exact tf_f h1)] | simp only [h1] | skip
          first | rw [if_pos h2] | rw [if_neg h2] | rw [if_pos (by exact h2)] | rw [if_neg (by exact h2)] | rw [if_neg (by exact z_nle h2)] | rw [if_pos (by exact z_le h2)] | rw [if_neg (by exact z_nlt h2)] | rw [if_pos (by exact z_lt h2)] | rw [if_neg (by rw [h2]; decide)] | rw [if_pos (by rw [h2])] | rw [if_neg (by exact tf_t h2)] | rw [if_neg (by exact tf_f h2)] | simp only [h2] | skip
          first | rw [if_pos h3] | rw [if_neg h3] | rw [if_pos (by exact h3)] | rw [if_neg (by exact h3)] | rw [if_neg (by exact z_nle h3)] | rw [if_pos (by exact z_le h3)] | rw [if_neg (by exact z_nlt h3)] | rw [if_pos (by exact z_lt h3)] | rw [if_neg (by rw [h3]; decide)] | rw [if_pos (by rw [h3])] | rw [if_neg (by exact tf_t h3)] | rw [if_neg (by exact tf_f h3)] | simp only [h3] | skip
          try rfl
        exact vv_zret C hr hlk rfl (by rw [hE]; rfl) (by rw [hE] <;> rfl) d_L_fail_46
      · skip
        replace h3 := bI_f h3
        refine vv_iconst C (0) d_L_fail_22 (by decide) ?_
        have hE : kFail u x y a1 e1 = (false, u) := by
          unfold kFail
          try dsimp only
          first | rw [if_pos h1] | rw [if_neg h1] | rw [if_pos (by exact h1)] | rw [if_neg (by exact h1)] | rw [if_neg (by exact z_nle h1)] | rw [if_pos (by exact z_le h1)] | rw [if_neg (by exact z_nlt h1)] | rw [if_pos (by exact z_lt h1)] | rw [if_neg (by rw [h1]; decide)] | rw [if_pos (by rw [h1])] | rw [if_neg (by exact tf_t h1)] | rw [if_neg (by exact tf_f h1)] | simp only [h1] | skip
          first | rw [if_pos h2] | rw [if_neg h2] | rw [if_pos (by exact h2)] | rw [if_neg (by exact h2)] | rw [if_neg (by exact z_nle h2)] | rw [if_pos (by exact z_le h2)] | rw [if_neg (by exact z_nlt h2)] | rw [if_pos (by exact z_lt h2)] | rw [if_neg (by rw [h2]; decide)] | rw [if_pos (by rw [h2])] | rw [if_neg (by exact tf_t h2)] | rw [if_neg (by exact tf_f h2)] | simp only [h2] | skip
          first | rw [if_pos h3] | rw [if_neg h3] | rw [if_pos (by exact h3)] | rw [if_neg (by exact h3)] | rw [if_neg (by exact z_nle h3)] | rw [if_pos (by exact z_le h3)] | rw [if_neg (by exact z_nlt h3)] | rw [if_pos (by exact z_lt h3)] | rw [if_neg (by rw [h3]; decide)] | rw [if_pos (by rw [h3])] | rw [if_neg (by exact tf_t h3)] | rw [if_neg (by exact tf_f h3)] | simp only [h3] | skip
          try rfl
        exact vv_zret C hr hlk rfl (by rw [hE]; rfl) (by rw [hE] <;> rfl) d_L_fail_23
set_option maxHeartbeats 4000000 in
set_option maxRecDepth 100000 in
theorem c_L_calls (l : Launch) (Γ : Geo) (u : SC) (hI : IC u) (x : Int32) (y : Int32) (n1 : Int32) : CtC l Γ y_L_calls b_L_calls 4 (some .boolean) 1 [.ref (Γ.2.1 0), .int x, .int y, .int n1] u (some (.int (bI (kCalls u x y n1).1))) (kCalls u x y n1).2 := by
  refine ct_of (by decide +kernel) (Nat.le_of_ble_eq_true rfl) ?_
  intro p e s m args below meth c C hr hlk
  refine vv_iload_n C d_L_calls_0 rfl ?_
  refine callCS (rest := []) C (c_L_isTarget l Γ u x) cw_L_L_isTarget rfl rfl (Nat.le_of_ble_eq_true rfl) (by decide) (by decide) d_L_calls_1 ?_
  refine vv_st (st' := [.int (bI (kIsTarget x))]) rfl ?_
  refine vv_if_eq C 26 d_L_calls_4 rfl (fun h1 => ?_) (fun h1 => ?_)
  · skip
    replace h1 := bI_f h1
    refine vv_iconst C (0) d_L_calls_26 (by decide) ?_
    have hE : kCalls u x y n1 = (false, u) := by
      unfold kCalls
      try dsimp only
      first | rw [if_pos h1] | rw [if_neg h1] | rw [if_pos (by exact h1)] | rw [if_neg (by exact h1)] | rw [if_neg (by exact z_nle h1)] | rw [if_pos (by exact z_le h1)] | rw [if_neg (by exact z_nlt h1)] | rw [if_pos (by exact z_lt h1)] | rw [if_neg (by rw [h1]; decide)] | rw [if_pos (by rw [h1])] | rw [if_neg (by exact tf_t h1)] | rw [if_neg (by exact tf_f h1)] | simp only [h1] | skip
      try rfl
    exact vv_zret C hr hlk rfl (by rw [hE]; rfl) (by rw [hE] <;> rfl) d_L_calls_27
  · skip
    replace h1 := bI_t h1
    refine vv_iload_n C d_L_calls_7 rfl ?_
    refine callCS (rest := []) C (c_L_isMethod l Γ u y) cw_L_L_isMethod rfl rfl (Nat.le_of_ble_eq_true rfl) (by decide) (by decide) d_L_calls_8 ?_
    refine vv_st (st' := [.int (bI (kIsMethod y))]) rfl ?_
    refine vv_if_eq C 26 d_L_calls_11 rfl (fun h2 => ?_) (fun h2 => ?_)
    · skip
      replace h2 := bI_f h2
      refine vv_iconst C (0) d_L_calls_26 (by decide) ?_
      have hE : kCalls u x y n1 = (false, u) := by
        unfold kCalls
        try dsimp only
        first | rw [if_pos h1] | rw [if_neg h1] | rw [if_pos (by exact h1)] | rw [if_neg (by exact h1)] | rw [if_neg (by exact z_nle h1)] | rw [if_pos (by exact z_le h1)] | rw [if_neg (by exact z_nlt h1)] | rw [if_pos (by exact z_lt h1)] | rw [if_neg (by rw [h1]; decide)] | rw [if_pos (by rw [h1])] | rw [if_neg (by exact tf_t h1)] | rw [if_neg (by exact tf_f h1)] | simp only [h1] | skip
        first | rw [if_pos h2] | rw [if_neg h2] | rw [if_pos (by exact h2)] | rw [if_neg (by exact h2)] | rw [if_neg (by exact z_nle h2)] | rw [if_pos (by exact z_le h2)] | rw [if_neg (by exact z_nlt h2)] | rw [if_pos (by exact z_lt h2)] | rw [if_neg (by rw [h2]; decide)] | rw [if_pos (by rw [h2])] | rw [if_neg (by exact tf_t h2)] | rw [if_neg (by exact tf_f h2)] | simp only [h2] | skip
        try rfl
      exact vv_zret C hr hlk rfl (by rw [hE]; rfl) (by rw [hE] <;> rfl) d_L_calls_27
    · skip
      replace h2 := bI_t h2
      refine vv_iload_n C d_L_calls_14 rfl ?_
      refine vv_iconst C (-1) d_L_calls_15 (by decide) ?_
      refine vv_icmp_eq C 28 d_L_calls_16 rfl (fun h3 => ?_) (fun h3 => ?_)
      · skip
        obtain ⟨hw1, hw2⟩ := tm_in h1 h2
        refine vv_aload_n C d_L_calls_28 rfl ?_
        refine vv_iload_n C d_L_calls_29 rfl ?_
        refine vv_iload_n C d_L_calls_30 rfl ?_
        refine callC (rest := []) C (c_L_workOf l Γ u x y hw1) cw_L_L_workOf rfl 0 (by decide) rfl rfl rfl rfl (Nat.le_of_ble_eq_true rfl) (by decide) (by decide) d_L_calls_31 ?_
        refine vv_st (st' := [.ref (Γ.2.1 (ix (x * 6 + y) + 15))]) rfl ?_
        refine vv_iload_n C d_L_calls_34 rfl ?_
        refine p_L_K_next C hw2 d_L_calls_35 ?_
        refine vv_iconst C (1) d_L_calls_38 (by decide) ?_
        have hE : kCalls u x y n1 = (true, (wr u 26 (ix (x * 6 + y)) n1)) := by
          unfold kCalls
          try dsimp only
          first | rw [if_pos h1] | rw [if_neg h1] | rw [if_pos (by exact h1)] | rw [if_neg (by exact h1)] | rw [if_neg (by exact z_nle h1)] | rw [if_pos (by exact z_le h1)] | rw [if_neg (by exact z_nlt h1)] | rw [if_pos (by exact z_lt h1)] | rw [if_neg (by rw [h1]; decide)] | rw [if_pos (by rw [h1])] | rw [if_neg (by exact tf_t h1)] | rw [if_neg (by exact tf_f h1)] | simp only [h1] | skip
          first | rw [if_pos h2] | rw [if_neg h2] | rw [if_pos (by exact h2)] | rw [if_neg (by exact h2)] | rw [if_neg (by exact z_nle h2)] | rw [if_pos (by exact z_le h2)] | rw [if_neg (by exact z_nlt h2)] | rw [if_pos (by exact z_lt h2)] | rw [if_neg (by rw [h2]; decide)] | rw [if_pos (by rw [h2])] | rw [if_neg (by exact tf_t h2)] | rw [if_neg (by exact tf_f h2)] | simp only [h2] | skip
          first | rw [if_pos h3] | rw [if_neg h3] | rw [if_pos (by exact h3)] | rw [if_neg (by exact h3)] | rw [if_neg (by exact z_nle h3)] | rw [if_pos (by exact z_le h3)] | rw [if_neg (by exact z_nlt h3)] | rw [if_pos (by exact z_lt h3)] | rw [if_neg (by rw [h3]; decide)] | rw [if_pos (by rw [h3])] | rw [if_neg (by exact tf_t h3)] | rw [if_neg (by exact tf_f h3)] | simp only [h3] | skip
          try rfl
        exact vv_zret C hr hlk rfl (by rw [hE]; rfl) (by rw [hE] <;> rfl) d_L_calls_39
      · skip
        refine vv_iload_n C d_L_calls_19 rfl ?_
        refine callCS (rest := []) C (c_L_isMethod l Γ u n1) cw_L_L_isMethod rfl rfl (Nat.le_of_ble_eq_true rfl) (by decide) (by decide) d_L_calls_20 ?_
        refine vv_st (st' := [.int (bI (kIsMethod n1))]) rfl ?_
        refine vv_if_ne C 28 d_L_calls_23 rfl (fun h4 => ?_) (fun h4 => ?_)
        · skip
          replace h4 := bI_t h4
          obtain ⟨hw1, hw2⟩ := tm_in h1 h2
          refine vv_aload_n C d_L_calls_28 rfl ?_
          refine vv_iload_n C d_L_calls_29 rfl ?_
          refine vv_iload_n C d_L_calls_30 rfl ?_
          refine callC (rest := []) C (c_L_workOf l Γ u x y hw1) cw_L_L_workOf rfl 0 (by decide) rfl rfl rfl rfl (Nat.le_of_ble_eq_true rfl) (by decide) (by decide) d_L_calls_31 ?_
          refine vv_st (st' := [.ref (Γ.2.1 (ix (x * 6 + y) + 15))]) rfl ?_
          refine vv_iload_n C d_L_calls_34 rfl ?_
          refine p_L_K_next C hw2 d_L_calls_35 ?_
          refine vv_iconst C (1) d_L_calls_38 (by decide) ?_
          have hE : kCalls u x y n1 = (true, (wr u 26 (ix (x * 6 + y)) n1)) := by
            unfold kCalls
            try dsimp only
            first | rw [if_pos h1] | rw [if_neg h1] | rw [if_pos (by exact h1)] | rw [if_neg (by exact h1)] | rw [if_neg (by exact z_nle h1)] | rw [if_pos (by exact z_le h1)] | rw [if_neg (by exact z_nlt h1)] | rw [if_pos (by exact z_lt h1)] | rw [if_neg (by rw [h1]; decide)] | rw [if_pos (by rw [h1])] | rw [if_neg (by exact tf_t h1)] | rw [if_neg (by exact tf_f h1)] | simp only [h1] | skip
            first | rw [if_pos h2] | rw [if_neg h2] | rw [if_pos (by exact h2)] | rw [if_neg (by exact h2)] | rw [if_neg (by exact z_nle h2)] | rw [if_pos (by exact z_le h2)] | rw [if_neg (by exact z_nlt h2)] | rw [if_pos (by exact z_lt h2)] | rw [if_neg (by rw [h2]; decide)] | rw [if_pos (by rw [h2])] | rw [if_neg (by exact tf_t h2)] | rw [if_neg (by exact tf_f h2)] | simp only [h2] | skip
            first | rw [if_pos h3] | rw [if_neg h3] | rw [if_pos (by exact h3)] | rw [if_neg (by exact h3)] | rw [if_neg (by exact z_nle h3)] | rw [if_pos (by exact z_le h3)] | rw [if_neg (by exact z_nlt h3)] | rw [if_pos (by exact z_lt h3)] | rw [if_neg (by rw [h3]; decide)] | rw [if_pos (by rw [h3])] | rw [if_neg (by exact tf_t h3)] | rw [if_neg (by exact tf_f h3)] | simp only [h3] | skip
            first | rw [if_pos h4] | rw [if_neg h4] | rw [if_pos (by exact h4)] | rw [if_neg (by exact h4)] | rw [if_neg (by exact z_nle h4)] | rw [if_pos (by exact z_le h4)] | rw [if_neg (by exact z_nlt h4)] | rw [if_pos (by exact z_lt h4)] | rw [if_neg (by rw [h4]; decide)] | rw [if_pos (by rw [h4])] | rw [if_neg (by exact tf_t h4)] | rw [if_neg (by exact tf_f h4)] | simp only [h4] | skip
            try rfl
          exact vv_zret C hr hlk rfl (by rw [hE]; rfl) (by rw [hE] <;> rfl) d_L_calls_39
        · skip
          replace h4 := bI_f h4
          refine vv_iconst C (0) d_L_calls_26 (by decide) ?_
          have hE : kCalls u x y n1 = (false, u) := by
            unfold kCalls
            try dsimp only
            first | rw [if_pos h1] | rw [if_neg h1] | rw [if_pos (by exact h1)] | rw [if_neg (by exact h1)] | rw [if_neg (by exact z_nle h1)] | rw [if_pos (by exact z_le h1)] | rw [if_neg (by exact z_nlt h1)] | rw [if_pos (by exact z_lt h1)] | rw [if_neg (by rw [h1]; decide)] | rw [if_pos (by rw [h1])] | rw [if_neg (by exact tf_t h1)] | rw [if_neg (by exact tf_f h1)] | simp only [h1] | skip
            first | rw [if_pos h2] | rw [if_neg h2] | rw [if_pos (by exact h2)] | rw [if_neg (by exact h2)] | rw [if_neg (by exact z_nle h2)] | rw [if_pos (by exact z_le h2)] | rw [if_neg (by exact z_nlt h2)] | rw [if_pos (by exact z_lt h2)] | rw [if_neg (by rw [h2]; decide)] | rw [if_pos (by rw [h2])] | rw [if_neg (by exact tf_t h2)] | rw [if_neg (by exact tf_f h2)] | simp only [h2] | skip
            first | rw [if_pos h3] | rw [if_neg h3] | rw [if_pos (by exact h3)] | rw [if_neg (by exact h3)] | rw [if_neg (by exact z_nle h3)] | rw [if_pos (by exact z_le h3)] | rw [if_neg (by exact z_nlt h3)] | rw [if_pos (by exact z_lt h3)] | rw [if_neg (by rw [h3]; decide)] | rw [if_pos (by rw [h3])] | rw [if_neg (by exact tf_t h3)] | rw [if_neg (by exact tf_f h3)] | simp only [h3] | skip
            first | rw [if_pos h4] | rw [if_neg h4] | rw [if_pos (by exact h4)] | rw [if_neg (by exact h4)] | rw [if_neg (by exact z_nle h4)] | rw [if_pos (by exact z_le h4)] | rw [if_neg (by exact z_nlt h4)] | rw [if_pos (by exact z_lt h4)] | rw [if_neg (by rw [h4]; decide)] | rw [if_pos (by rw [h4])] | rw [if_neg (by exact tf_t h4)] | rw [if_neg (by exact tf_f h4)] | simp only [h4] | skip
            try rfl
          exact vv_zret C hr hlk rfl (by rw [hE]; rfl) (by rw [hE] <;> rfl) d_L_calls_27
set_option maxHeartbeats 4000000 in
set_option maxRecDepth 100000 in
theorem c_L_who (l : Launch) (Γ : Geo) (u : SC) (hI : IC u) (x : Int32) : CtC l Γ y_L_who b_L_who 2 (some .int) 1 [.ref (Γ.2.1 0), .int x] u (some (.int (kWho u x))) u := by
  refine ct_of (by decide +kernel) (Nat.le_of_ble_eq_true rfl) ?_
  intro p e s m args below meth c C hr hlk
  refine vv_aload_n C d_L_who_0 rfl ?_
  refine g_L_L_trace C d_L_who_1 ?_
  refine vv_iload_n C d_L_who_4 rfl ?_
  refine callC (rest := []) C (c_T_has l Γ u x) cw_L_T_has rfl 4 (by decide) rfl rfl rfl rfl (Nat.le_of_ble_eq_true rfl) (by decide) (by decide) d_L_who_5 ?_
  refine vv_st (st' := [.int (bI (kHas u x))]) rfl ?_
  refine vv_if_eq C 23 d_L_who_8 rfl (fun h1 => ?_) (fun h1 => ?_)
  · skip
    replace h1 := bI_f h1
    refine vv_iconst C (-1) d_L_who_23 (by decide) ?_
    have hE : kWho u x = -1 := by
      unfold kWho
      try dsimp only
      first | rw [if_pos h1] | rw [if_neg h1] | rw [if_pos (by exact h1)] | rw [if_neg (by exact h1)] | rw [if_neg (by exact z_nle h1)] | rw [if_pos (by exact z_le h1)] | rw [if_neg (by exact z_nlt h1)] | rw [if_pos (by exact z_lt h1)] | rw [if_neg (by rw [h1]; decide)] | rw [if_pos (by rw [h1])] | rw [if_neg (by exact tf_t h1)] | rw [if_neg (by exact tf_f h1)] | simp only [h1] | skip
      try rfl
    exact vv_iret C hr hlk (by rw [hE] <;> rfl) rfl d_L_who_24
  · skip
    replace h1 := bI_t h1
    have hb19 := has_in hI h1
    refine vv_aload_n C d_L_who_11 rfl ?_
    refine g_L_L_trace C d_L_who_12 ?_
    refine g_L_T_noters C d_L_who_15 ?_
    refine vv_iload_n C d_L_who_18 rfl ?_
    refine ld_4_5 C hb19 d_L_who_19 ?_
    refine vv_goto C 24 d_L_who_20 rfl ?_
    have hE : kWho u x = u.1 11 (ix x) := by
      unfold kWho
      try dsimp only
      first | rw [if_pos h1] | rw [if_neg h1] | rw [if_pos (by exact h1)] | rw [if_neg (by exact h1)] | rw [if_neg (by exact z_nle h1)] | rw [if_pos (by exact z_le h1)] | rw [if_neg (by exact z_nlt h1)] | rw [if_pos (by exact z_lt h1)] | rw [if_neg (by rw [h1]; decide)] | rw [if_pos (by rw [h1])] | rw [if_neg (by exact tf_t h1)] | rw [if_neg (by exact tf_f h1)] | simp only [h1] | skip
      try rfl
    exact vv_iret C hr hlk (by rw [hE] <;> rfl) rfl d_L_who_24
set_option maxHeartbeats 4000000 in
set_option maxRecDepth 100000 in
theorem c_L_what (l : Launch) (Γ : Geo) (u : SC) (hI : IC u) (x : Int32) : CtC l Γ y_L_what b_L_what 2 (some .int) 1 [.ref (Γ.2.1 0), .int x] u (some (.int (kWhat u x))) u := by
  refine ct_of (by decide +kernel) (Nat.le_of_ble_eq_true rfl) ?_
  intro p e s m args below meth c C hr hlk
  refine vv_aload_n C d_L_what_0 rfl ?_
  refine g_L_L_trace C d_L_what_1 ?_
  refine vv_iload_n C d_L_what_4 rfl ?_
  refine callC (rest := []) C (c_T_has l Γ u x) cw_L_T_has rfl 4 (by decide) rfl rfl rfl rfl (Nat.le_of_ble_eq_true rfl) (by decide) (by decide) d_L_what_5 ?_
  refine vv_st (st' := [.int (bI (kHas u x))]) rfl ?_
  refine vv_if_eq C 23 d_L_what_8 rfl (fun h1 => ?_) (fun h1 => ?_)
  · skip
    replace h1 := bI_f h1
    refine vv_iconst C (0) d_L_what_23 (by decide) ?_
    have hE : kWhat u x = 0 := by
      unfold kWhat
      try dsimp only
      first | rw [if_pos h1] | rw [if_neg h1] | rw [if_pos (by exact h1)] | rw [if_neg (by exact h1)] | rw [if_neg (by exact z_nle h1)] | rw [if_pos (by exact z_le h1)] | rw [if_neg (by exact z_nlt h1)] | rw [if_pos (by exact z_lt h1)] | rw [if_neg (by rw [h1]; decide)] | rw [if_pos (by rw [h1])] | rw [if_neg (by exact tf_t h1)] | rw [if_neg (by exact tf_f h1)] | simp only [h1] | skip
      try rfl
    exact vv_iret C hr hlk (by rw [hE] <;> rfl) rfl d_L_what_24
  · skip
    replace h1 := bI_t h1
    have hb19 := has_in hI h1
    refine vv_aload_n C d_L_what_11 rfl ?_
    refine g_L_L_trace C d_L_what_12 ?_
    refine g_L_T_words C d_L_what_15 ?_
    refine vv_iload_n C d_L_what_18 rfl ?_
    refine ld_4_6 C hb19 d_L_what_19 ?_
    refine vv_goto C 24 d_L_what_20 rfl ?_
    have hE : kWhat u x = u.1 12 (ix x) := by
      unfold kWhat
      try dsimp only
      first | rw [if_pos h1] | rw [if_neg h1] | rw [if_pos (by exact h1)] | rw [if_neg (by exact h1)] | rw [if_neg (by exact z_nle h1)] | rw [if_pos (by exact z_le h1)] | rw [if_neg (by exact z_nlt h1)] | rw [if_pos (by exact z_lt h1)] | rw [if_neg (by rw [h1]; decide)] | rw [if_pos (by rw [h1])] | rw [if_neg (by exact tf_t h1)] | rw [if_neg (by exact tf_f h1)] | simp only [h1] | skip
      try rfl
    exact vv_iret C hr hlk (by rw [hE] <;> rfl) rfl d_L_what_24
set_option maxHeartbeats 4000000 in
set_option maxRecDepth 100000 in
theorem c_L_chain (l : Launch) (Γ : Geo) (u : SC) (hI : IC u) (x : Int32) (y : Int32) : CtC l Γ y_L_chain b_L_chain 3 (some .int) 2 [.ref (Γ.2.1 0), .int x, .int y] u (some (.int (kChain u x y))) u := by
  refine ct_of (by decide +kernel) (Nat.le_of_ble_eq_true rfl) ?_
  intro p e s m args below meth c C hr hlk
  refine vv_iload_n C d_L_chain_0 rfl ?_
  refine callCS (rest := []) C (c_L_isMethod l Γ u x) cw_L_L_isMethod rfl rfl (Nat.le_of_ble_eq_true rfl) (by decide) (by decide) d_L_chain_1 ?_
  refine vv_st (st' := [.int (bI (kIsMethod x))]) rfl ?_
  refine vv_if_eq C 19 d_L_chain_4 rfl (fun h1 => ?_) (fun h1 => ?_)
  · skip
    replace h1 := bI_f h1
    refine vv_iconst C (-1) d_L_chain_19 (by decide) ?_
    have hE : kChain u x y = -1 := by
      unfold kChain
      try dsimp only
      first | rw [if_pos h1] | rw [if_neg h1] | rw [if_pos (by exact h1)] | rw [if_neg (by exact h1)] | rw [if_neg (by exact z_nle h1)] | rw [if_pos (by exact z_le h1)] | rw [if_neg (by exact z_nlt h1)] | rw [if_pos (by exact z_lt h1)] | rw [if_neg (by rw [h1]; decide)] | rw [if_pos (by rw [h1])] | rw [if_neg (by exact tf_t h1)] | rw [if_neg (by exact tf_f h1)] | simp only [h1] | skip
      try rfl
    exact vv_iret C hr hlk (by rw [hE] <;> rfl) rfl d_L_chain_20
  · skip
    replace h1 := bI_t h1
    refine vv_aload_n C d_L_chain_7 rfl ?_
    refine g_L_L_advisors C d_L_chain_8 ?_
    refine vv_iload_n C d_L_chain_11 rfl ?_
    refine vv_iload_n C d_L_chain_12 rfl ?_
    refine callC (rest := []) C (c_R_numberInChain l Γ u hI x y) cw_L_R_numberInChain rfl 1 (by decide) rfl rfl rfl rfl (Nat.le_of_ble_eq_true rfl) (by decide) (by decide) d_L_chain_13 ?_
    refine vv_st (st' := [.int (kNumIn u x y)]) rfl ?_
    refine vv_goto C 20 d_L_chain_16 rfl ?_
    have hE : kChain u x y = kNumIn u x y := by
      unfold kChain
      try dsimp only
      first | rw [if_pos h1] | rw [if_neg h1] | rw [if_pos (by exact h1)] | rw [if_neg (by exact h1)] | rw [if_neg (by exact z_nle h1)] | rw [if_pos (by exact z_le h1)] | rw [if_neg (by exact z_nlt h1)] | rw [if_pos (by exact z_lt h1)] | rw [if_neg (by rw [h1]; decide)] | rw [if_pos (by rw [h1])] | rw [if_neg (by exact tf_t h1)] | rw [if_neg (by exact tf_f h1)] | simp only [h1] | skip
      try rfl
    exact vv_iret C hr hlk (by rw [hE] <;> rfl) rfl d_L_chain_20
set_option maxHeartbeats 4000000 in
set_option maxRecDepth 100000 in
theorem c_L_invoke (l : Launch) (Γ : Geo) (u : SC) (hI : IC u) (x : Int32) (y : Int32) : CtC l Γ y_L_invoke b_L_invoke 3 (some .int) 68 [.ref (Γ.2.1 0), .int x, .int y] u (some (.int (kInvoke u x y).1)) (kInvoke u x y).2 := by
  refine ct_of (by decide +kernel) (Nat.le_of_ble_eq_true rfl) ?_
  intro p e s m args below meth c C hr hlk
  refine vv_iload_n C d_L_invoke_0 rfl ?_
  refine callCS (rest := []) C (c_L_isMethod l Γ u x) cw_L_L_isMethod rfl rfl (Nat.le_of_ble_eq_true rfl) (by decide) (by omega) d_L_invoke_1 ?_
  refine vv_st (st' := [.int (bI (kIsMethod x))]) rfl ?_
  refine vv_if_ne C 9 d_L_invoke_4 rfl (fun h1 => ?_) (fun h1 => ?_)
  · skip
    replace h1 := bI_t h1
    refine vv_aload_n C d_L_invoke_9 rfl ?_
    refine g_L_L_trace C d_L_invoke_10 ?_
    refine callC (rest := []) C (c_T_clear l Γ u) cw_L_T_clear rfl 4 (by decide) rfl rfl rfl rfl (Nat.le_of_ble_eq_true rfl) (by decide) (by omega) d_L_invoke_13 ?_
    refine vv_st (st' := []) rfl ?_
    refine vv_aload_n C d_L_invoke_16 rfl ?_
    refine vv_iconst C (0) d_L_invoke_17 (by decide) ?_
    refine p_L_L_timesAsked C d_L_invoke_18 ?_
    refine vv_aload_n C d_L_invoke_21 rfl ?_
    refine vv_iconst C (0) d_L_invoke_22 (by decide) ?_
    refine p_L_L_targetsTaken C d_L_invoke_23 ?_
    refine vv_aload_n C d_L_invoke_26 rfl ?_
    refine vv_iload_n C d_L_invoke_27 rfl ?_
    refine vv_iload_n C d_L_invoke_28 rfl ?_
    refine vv_iconst C (0) d_L_invoke_29 (by decide) ?_
    refine callC (rest := []) C (c_L_begin l Γ (wr (wr (wr u 8 0 0) 3 0 0) 4 0 0) (goC 22) x y 0 (by omega) (fun _ => by omega) (im_ok h1) ⟨hI.1, ⟨0, by omega, rfl⟩, hI.2.2⟩) cw_L_L_begin rfl 0 (by decide) rfl rfl rfl rfl (Nat.le_of_ble_eq_true rfl) (by decide) (by omega) d_L_invoke_30 ?_
    refine vv_st (st' := [.int ((kBegin (kGo 22) x y 0 (wr (wr (wr u 8 0 0) 3 0 0) 4 0 0)).1)]) rfl ?_
    have hE : kInvoke u x y = ((kBegin (kGo 22) x y 0 (wr (wr (wr u 8 0 0) 3 0 0) 4 0 0)).1, ((kBegin (kGo 22) x y 0 (wr (wr (wr u 8 0 0) 3 0 0) 4 0 0)).2)) := by
      unfold kInvoke
      try dsimp only
      first | rw [if_pos h1] | rw [if_neg h1] | rw [if_pos (by exact h1)] | rw [if_neg (by exact h1)] | rw [if_neg (by exact z_nle h1)] | rw [if_pos (by exact z_le h1)] | rw [if_neg (by exact z_nlt h1)] | rw [if_pos (by exact z_lt h1)] | rw [if_neg (by rw [h1]; decide)] | rw [if_pos (by rw [h1])] | rw [if_neg (by exact tf_t h1)] | rw [if_neg (by exact tf_f h1)] | simp only [h1] | skip
      try rfl
    exact vv_iret C hr hlk (by rw [hE] <;> rfl) (by rw [hE] <;> rfl) d_L_invoke_33
  · skip
    replace h1 := bI_f h1
    refine vv_iconst C (-1) d_L_invoke_7 (by decide) ?_
    have hE : kInvoke u x y = (-1, u) := by
      unfold kInvoke
      try dsimp only
      first | rw [if_pos h1] | rw [if_neg h1] | rw [if_pos (by exact h1)] | rw [if_neg (by exact h1)] | rw [if_neg (by exact z_nle h1)] | rw [if_pos (by exact z_le h1)] | rw [if_neg (by exact z_nlt h1)] | rw [if_pos (by exact z_lt h1)] | rw [if_neg (by rw [h1]; decide)] | rw [if_pos (by rw [h1])] | rw [if_neg (by exact tf_t h1)] | rw [if_neg (by exact tf_f h1)] | simp only [h1] | skip
      try rfl
    exact vv_iret C hr hlk (by rw [hE] <;> rfl) (by rw [hE] <;> rfl) d_L_invoke_8
end
