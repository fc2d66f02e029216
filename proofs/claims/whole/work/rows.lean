section
/-- a private method of a class that the tables say can be made, by its rows of tables_1 -/
def lw_okq (q : MethodName × Nat) : Prop := (q.1.cls ≠ "java/lang/invoke/MethodHandle" ∧ q.1.cls ≠ "java/lang/invoke/VarHandle") ∧ Cond.instantiable q.1.cls q.2 ∈ tables_1 ∧ Cond.privateMethod q.1 ∈ tables_1 ∧ Cond.instanceMethod q.1 ∈ tables_1
theorem lw_p0 : lw_okq (⟨"AdviceLinks$AdvisorRow", "settle", "(I)V"⟩, 3) := ⟨⟨by decide +kernel, by decide +kernel⟩, List.mem_of_getElem? (i := 16) (by decide +kernel), List.mem_of_getElem? (i := 182) (by decide +kernel), List.mem_of_getElem? (i := 183) (by decide +kernel)⟩
theorem lw_p1 : lw_okq (⟨"AdviceLinks$AdvisorRow", "swapWithNext", "(I)V"⟩, 3) := ⟨⟨by decide +kernel, by decide +kernel⟩, List.mem_of_getElem? (i := 16) (by decide +kernel), List.mem_of_getElem? (i := 190) (by decide +kernel), List.mem_of_getElem? (i := 191) (by decide +kernel)⟩
theorem lw_p2 : lw_okq (⟨"AdviceLinks", "workOf", "(II)LAdviceLinks$Work;"⟩, 11) := ⟨⟨by decide +kernel, by decide +kernel⟩, List.mem_of_getElem? (i := 8) (by decide +kernel), List.mem_of_getElem? (i := 240) (by decide +kernel), List.mem_of_getElem? (i := 241) (by decide +kernel)⟩
theorem lw_p3 : lw_okq (⟨"AdviceLinks", "begin", "(III)I"⟩, 11) := ⟨⟨by decide +kernel, by decide +kernel⟩, List.mem_of_getElem? (i := 8) (by decide +kernel), List.mem_of_getElem? (i := 264) (by decide +kernel), List.mem_of_getElem? (i := 265) (by decide +kernel)⟩
theorem lw_p4 : lw_okq (⟨"AdviceLinks", "thrown", "(I)I"⟩, 11) := ⟨⟨by decide +kernel, by decide +kernel⟩, List.mem_of_getElem? (i := 8) (by decide +kernel), List.mem_of_getElem? (i := 268) (by decide +kernel), List.mem_of_getElem? (i := 269) (by decide +kernel)⟩
theorem lw_p5 : lw_okq (⟨"AdviceLinks", "takeTarget", "()I"⟩, 11) := ⟨⟨by decide +kernel, by decide +kernel⟩, List.mem_of_getElem? (i := 8) (by decide +kernel), List.mem_of_getElem? (i := 272) (by decide +kernel), List.mem_of_getElem? (i := 273) (by decide +kernel)⟩
theorem lw_p6 : lw_okq (⟨"AdviceLinks", "goAlong", "(III)I"⟩, 11) := ⟨⟨by decide +kernel, by decide +kernel⟩, List.mem_of_getElem? (i := 8) (by decide +kernel), List.mem_of_getElem? (i := 276) (by decide +kernel), List.mem_of_getElem? (i := 277) (by decide +kernel)⟩
theorem lw_p7 : lw_okq (⟨"AdviceLinks", "workOn", "(II)I"⟩, 11) := ⟨⟨by decide +kernel, by decide +kernel⟩, List.mem_of_getElem? (i := 8) (by decide +kernel), List.mem_of_getElem? (i := 288) (by decide +kernel), List.mem_of_getElem? (i := 289) (by decide +kernel)⟩
theorem lw_p8 : lw_okq (⟨"AdviceLinks", "brokenOff", "()I"⟩, 11) := ⟨⟨by decide +kernel, by decide +kernel⟩, List.mem_of_getElem? (i := 8) (by decide +kernel), List.mem_of_getElem? (i := 296) (by decide +kernel), List.mem_of_getElem? (i := 297) (by decide +kernel)⟩
theorem lw_p9 : lw_okq (⟨"AdviceLinks", "returned", "(I)I"⟩, 11) := ⟨⟨by decide +kernel, by decide +kernel⟩, List.mem_of_getElem? (i := 8) (by decide +kernel), List.mem_of_getElem? (i := 308) (by decide +kernel), List.mem_of_getElem? (i := 309) (by decide +kernel)⟩
theorem lw_p10 : lw_okq (⟨"AdviceLinks", "act", "(LAdviceLinks$Advisor;III)I"⟩, 11) := ⟨⟨by decide +kernel, by decide +kernel⟩, List.mem_of_getElem? (i := 8) (by decide +kernel), List.mem_of_getElem? (i := 316) (by decide +kernel), List.mem_of_getElem? (i := 317) (by decide +kernel)⟩
theorem lw_p11 : lw_okq (⟨"AdviceLinks", "actBefore", "(LAdviceLinks$Advisor;III)I"⟩, 11) := ⟨⟨by decide +kernel, by decide +kernel⟩, List.mem_of_getElem? (i := 8) (by decide +kernel), List.mem_of_getElem? (i := 320) (by decide +kernel), List.mem_of_getElem? (i := 321) (by decide +kernel)⟩
theorem lw_p12 : lw_okq (⟨"AdviceLinks", "actChange", "(LAdviceLinks$Advisor;III)I"⟩, 11) := ⟨⟨by decide +kernel, by decide +kernel⟩, List.mem_of_getElem? (i := 8) (by decide +kernel), List.mem_of_getElem? (i := 324) (by decide +kernel), List.mem_of_getElem? (i := 325) (by decide +kernel)⟩
theorem lw_p13 : lw_okq (⟨"AdviceLinks", "actSkip", "(LAdviceLinks$Advisor;III)I"⟩, 11) := ⟨⟨by decide +kernel, by decide +kernel⟩, List.mem_of_getElem? (i := 8) (by decide +kernel), List.mem_of_getElem? (i := 328) (by decide +kernel), List.mem_of_getElem? (i := 329) (by decide +kernel)⟩
theorem lw_p14 : lw_okq (⟨"AdviceLinks", "actTwice", "(LAdviceLinks$Advisor;III)I"⟩, 11) := ⟨⟨by decide +kernel, by decide +kernel⟩, List.mem_of_getElem? (i := 8) (by decide +kernel), List.mem_of_getElem? (i := 332) (by decide +kernel), List.mem_of_getElem? (i := 333) (by decide +kernel)⟩
theorem lw_p15 : lw_okq (⟨"AdviceLinks", "actReturning", "(LAdviceLinks$Advisor;III)I"⟩, 11) := ⟨⟨by decide +kernel, by decide +kernel⟩, List.mem_of_getElem? (i := 8) (by decide +kernel), List.mem_of_getElem? (i := 336) (by decide +kernel), List.mem_of_getElem? (i := 337) (by decide +kernel)⟩
def lw_privs_1 : List (MethodName × Nat) := [(⟨"AdviceLinks$AdvisorRow", "settle", "(I)V"⟩, 3), (⟨"AdviceLinks$AdvisorRow", "swapWithNext", "(I)V"⟩, 3), (⟨"AdviceLinks", "workOf", "(II)LAdviceLinks$Work;"⟩, 11), (⟨"AdviceLinks", "begin", "(III)I"⟩, 11), (⟨"AdviceLinks", "thrown", "(I)I"⟩, 11), (⟨"AdviceLinks", "takeTarget", "()I"⟩, 11), (⟨"AdviceLinks", "goAlong", "(III)I"⟩, 11), (⟨"AdviceLinks", "workOn", "(II)I"⟩, 11), (⟨"AdviceLinks", "brokenOff", "()I"⟩, 11), (⟨"AdviceLinks", "returned", "(I)I"⟩, 11), (⟨"AdviceLinks", "act", "(LAdviceLinks$Advisor;III)I"⟩, 11), (⟨"AdviceLinks", "actBefore", "(LAdviceLinks$Advisor;III)I"⟩, 11), (⟨"AdviceLinks", "actChange", "(LAdviceLinks$Advisor;III)I"⟩, 11), (⟨"AdviceLinks", "actSkip", "(LAdviceLinks$Advisor;III)I"⟩, 11), (⟨"AdviceLinks", "actTwice", "(LAdviceLinks$Advisor;III)I"⟩, 11), (⟨"AdviceLinks", "actReturning", "(LAdviceLinks$Advisor;III)I"⟩, 11)]
theorem lw_r1 : ∀ q ∈ lw_privs_1, lw_okq q := List.forall_mem_cons.mpr ⟨lw_p0, List.forall_mem_cons.mpr ⟨lw_p1, List.forall_mem_cons.mpr ⟨lw_p2, List.forall_mem_cons.mpr ⟨lw_p3, List.forall_mem_cons.mpr ⟨lw_p4, List.forall_mem_cons.mpr ⟨lw_p5, List.forall_mem_cons.mpr ⟨lw_p6, List.forall_mem_cons.mpr ⟨lw_p7, List.forall_mem_cons.mpr ⟨lw_p8, List.forall_mem_cons.mpr ⟨lw_p9, List.forall_mem_cons.mpr ⟨lw_p10, List.forall_mem_cons.mpr ⟨lw_p11, List.forall_mem_cons.mpr ⟨lw_p12, List.forall_mem_cons.mpr ⟨lw_p13, List.forall_mem_cons.mpr ⟨lw_p14, List.forall_mem_cons.mpr ⟨lw_p15, fun _ h => absurd h List.not_mem_nil⟩⟩⟩⟩⟩⟩⟩⟩⟩⟩⟩⟩⟩⟩⟩⟩
theorem lw_p16 : lw_okq (⟨"AdviceLinks", "actThrowing", "(LAdviceLinks$Advisor;III)I"⟩, 11) := ⟨⟨by decide +kernel, by decide +kernel⟩, List.mem_of_getElem? (i := 8) (by decide +kernel), List.mem_of_getElem? (i := 340) (by decide +kernel), List.mem_of_getElem? (i := 341) (by decide +kernel)⟩
theorem lw_p17 : lw_okq (⟨"AdviceLinks", "actFinally", "(LAdviceLinks$Advisor;III)I"⟩, 11) := ⟨⟨by decide +kernel, by decide +kernel⟩, List.mem_of_getElem? (i := 8) (by decide +kernel), List.mem_of_getElem? (i := 347) (by decide +kernel), List.mem_of_getElem? (i := 348) (by decide +kernel)⟩
theorem lw_p18 : lw_okq (⟨"AdviceLinks", "actRecover", "(LAdviceLinks$Advisor;III)I"⟩, 11) := ⟨⟨by decide +kernel, by decide +kernel⟩, List.mem_of_getElem? (i := 8) (by decide +kernel), List.mem_of_getElem? (i := 351) (by decide +kernel), List.mem_of_getElem? (i := 352) (by decide +kernel)⟩
theorem lw_p19 : lw_okq (⟨"AdviceLinksModel", "find", "(I)I"⟩, 41) := ⟨⟨by decide +kernel, by decide +kernel⟩, List.mem_of_getElem? (i := 391) (by decide +kernel), List.mem_of_getElem? (i := 539) (by decide +kernel), List.mem_of_getElem? (i := 540) (by decide +kernel)⟩
theorem lw_p20 : lw_okq (⟨"AdviceLinksModel", "linked", "(II)I"⟩, 41) := ⟨⟨by decide +kernel, by decide +kernel⟩, List.mem_of_getElem? (i := 391) (by decide +kernel), List.mem_of_getElem? (i := 559) (by decide +kernel), List.mem_of_getElem? (i := 560) (by decide +kernel)⟩
theorem lw_p21 : lw_okq (⟨"AdviceLinksModel", "enter", "(II)V"⟩, 41) := ⟨⟨by decide +kernel, by decide +kernel⟩, List.mem_of_getElem? (i := 391) (by decide +kernel), List.mem_of_getElem? (i := 586) (by decide +kernel), List.mem_of_getElem? (i := 587) (by decide +kernel)⟩
theorem lw_p22 : lw_okq (⟨"AdviceLinksModel", "comes", "(ZI)V"⟩, 41) := ⟨⟨by decide +kernel, by decide +kernel⟩, List.mem_of_getElem? (i := 391) (by decide +kernel), List.mem_of_getElem? (i := 590) (by decide +kernel), List.mem_of_getElem? (i := 591) (by decide +kernel)⟩
theorem lw_p23 : lw_okq (⟨"AdviceLinksModel", "await", "(II)V"⟩, 41) := ⟨⟨by decide +kernel, by decide +kernel⟩, List.mem_of_getElem? (i := 391) (by decide +kernel), List.mem_of_getElem? (i := 594) (by decide +kernel), List.mem_of_getElem? (i := 595) (by decide +kernel)⟩
theorem lw_p24 : lw_okq (⟨"AdviceLinksModel", "go", "(II)V"⟩, 41) := ⟨⟨by decide +kernel, by decide +kernel⟩, List.mem_of_getElem? (i := 391) (by decide +kernel), List.mem_of_getElem? (i := 598) (by decide +kernel), List.mem_of_getElem? (i := 599) (by decide +kernel)⟩
theorem lw_p25 : lw_okq (⟨"AdviceLinksModel", "step", "()V"⟩, 41) := ⟨⟨by decide +kernel, by decide +kernel⟩, List.mem_of_getElem? (i := 391) (by decide +kernel), List.mem_of_getElem? (i := 602) (by decide +kernel), List.mem_of_getElem? (i := 603) (by decide +kernel)⟩
theorem lw_p26 : lw_okq (⟨"AdviceLinksModel", "work", "()V"⟩, 41) := ⟨⟨by decide +kernel, by decide +kernel⟩, List.mem_of_getElem? (i := 391) (by decide +kernel), List.mem_of_getElem? (i := 606) (by decide +kernel), List.mem_of_getElem? (i := 607) (by decide +kernel)⟩
theorem lw_p27 : lw_okq (⟨"AdviceLinksModel", "note", "(II)V"⟩, 41) := ⟨⟨by decide +kernel, by decide +kernel⟩, List.mem_of_getElem? (i := 391) (by decide +kernel), List.mem_of_getElem? (i := 610) (by decide +kernel), List.mem_of_getElem? (i := 611) (by decide +kernel)⟩
theorem lw_p28 : lw_okq (⟨"AdviceLinksModel", "back", "()V"⟩, 41) := ⟨⟨by decide +kernel, by decide +kernel⟩, List.mem_of_getElem? (i := 391) (by decide +kernel), List.mem_of_getElem? (i := 614) (by decide +kernel), List.mem_of_getElem? (i := 615) (by decide +kernel)⟩
theorem lw_p29 : lw_okq (⟨"AdviceLinksModel", "twice", "(I)V"⟩, 41) := ⟨⟨by decide +kernel, by decide +kernel⟩, List.mem_of_getElem? (i := 391) (by decide +kernel), List.mem_of_getElem? (i := 618) (by decide +kernel), List.mem_of_getElem? (i := 619) (by decide +kernel)⟩
def lw_privs_2 : List (MethodName × Nat) := [(⟨"AdviceLinks", "actThrowing", "(LAdviceLinks$Advisor;III)I"⟩, 11), (⟨"AdviceLinks", "actFinally", "(LAdviceLinks$Advisor;III)I"⟩, 11), (⟨"AdviceLinks", "actRecover", "(LAdviceLinks$Advisor;III)I"⟩, 11), (⟨"AdviceLinksModel", "find", "(I)I"⟩, 41), (⟨"AdviceLinksModel", "linked", "(II)I"⟩, 41), (⟨"AdviceLinksModel", "enter", "(II)V"⟩, 41), (⟨"AdviceLinksModel", "comes", "(ZI)V"⟩, 41), (⟨"AdviceLinksModel", "await", "(II)V"⟩, 41), (⟨"AdviceLinksModel", "go", "(II)V"⟩, 41), (⟨"AdviceLinksModel", "step", "()V"⟩, 41), (⟨"AdviceLinksModel", "work", "()V"⟩, 41), (⟨"AdviceLinksModel", "note", "(II)V"⟩, 41), (⟨"AdviceLinksModel", "back", "()V"⟩, 41), (⟨"AdviceLinksModel", "twice", "(I)V"⟩, 41)]
theorem lw_r2 : ∀ q ∈ lw_privs_2, lw_okq q := List.forall_mem_cons.mpr ⟨lw_p16, List.forall_mem_cons.mpr ⟨lw_p17, List.forall_mem_cons.mpr ⟨lw_p18, List.forall_mem_cons.mpr ⟨lw_p19, List.forall_mem_cons.mpr ⟨lw_p20, List.forall_mem_cons.mpr ⟨lw_p21, List.forall_mem_cons.mpr ⟨lw_p22, List.forall_mem_cons.mpr ⟨lw_p23, List.forall_mem_cons.mpr ⟨lw_p24, List.forall_mem_cons.mpr ⟨lw_p25, List.forall_mem_cons.mpr ⟨lw_p26, List.forall_mem_cons.mpr ⟨lw_p27, List.forall_mem_cons.mpr ⟨lw_p28, List.forall_mem_cons.mpr ⟨lw_p29, fun _ h => absurd h List.not_mem_nil⟩⟩⟩⟩⟩⟩⟩⟩⟩⟩⟩⟩⟩⟩
def lw_privs : List (MethodName × Nat) := lw_privs_1 ++ (lw_privs_2)
def lw_tbl : List Cond := k2_sels lw_privs ++ tables_1
theorem lw_privs_ok : ∀ q ∈ lw_privs, lw_okq q := by
  show ∀ q ∈ lw_privs_1 ++ (lw_privs_2), lw_okq q
  exact List.forall_mem_append.mpr ⟨lw_r1, lw_r2⟩
end
section
/-! names: classes, fields in the order of the slots, types; all words that keep: wA -/
def R0 : String := "AdviceLinks$Advisor"
def T0 : u_T := fun k => match k with
  | 0 => ("AdviceLinks$Advisor", "number", "I", false)
  | 1 => ("AdviceLinks$Advisor", "kind", "I", false)
  | 2 => ("AdviceLinks$Advisor", "order", "I", false)
  | 3 => ("AdviceLinks$Advisor", "methods", "I", false)
  | 4 => ("AdviceLinks$Advisor", "a", "I", false)
  | 5 => ("AdviceLinks$Advisor", "b", "I", false)
  | 6 => ("AdviceLinks$Advisor", "hasRange", "Z", false)
  | 7 => ("AdviceLinks$Advisor", "low", "I", false)
  | _ => ("AdviceLinks$Advisor", "high", "I", false)
def ty0 : Nat → FieldType := fun k => match k with
  | 0 => .int
  | 1 => .int
  | 2 => .int
  | 3 => .int
  | 4 => .int
  | 5 => .int
  | 6 => .boolean
  | 7 => .int
  | _ => .int
theorem nm0 : ∀ a, a < 9 → ∀ b, b < 9 → a ≠ b → (T0 a).2.1 ≠ (T0 b).2.1 := by decide +kernel
theorem ty0_ok : ∀ k, k < 9 → parseFieldDescriptor (T0 k).2.2.1 = some (ty0 k) := by decide +kernel
def R1 : String := "AdviceLinks$AdvisorRow"
def T1 : u_T := fun k => match k with
  | 0 => ("AdviceLinks$AdvisorRow", "row", "[LAdviceLinks$Advisor;", true)
  | 1 => ("AdviceLinks$AdvisorRow", "there", "I", false)
  | _ => ("AdviceLinks$AdvisorRow", "nextNumber", "I", false)
def ty1 : Nat → FieldType := fun k => match k with
  | 0 => .array (.object "AdviceLinks$Advisor")
  | 1 => .int
  | _ => .int
theorem nm1 : ∀ a, a < 3 → ∀ b, b < 3 → a ≠ b → (T1 a).2.1 ≠ (T1 b).2.1 := by decide +kernel
theorem ty1_ok : ∀ k, k < 3 → parseFieldDescriptor (T1 k).2.2.1 = some (ty1 k) := by decide +kernel
def R2 : String := "AdviceLinks$Trace"
def T2 : u_T := fun k => match k with
  | 0 => ("AdviceLinks$Trace", "noters", "[I", true)
  | 1 => ("AdviceLinks$Trace", "words", "[I", true)
  | _ => ("AdviceLinks$Trace", "length", "I", false)
def ty2 : Nat → FieldType := fun k => match k with
  | 0 => .array .int
  | 1 => .array .int
  | _ => .int
theorem nm2 : ∀ a, a < 3 → ∀ b, b < 3 → a ≠ b → (T2 a).2.1 ≠ (T2 b).2.1 := by decide +kernel
theorem ty2_ok : ∀ k, k < 3 → parseFieldDescriptor (T2 k).2.2.1 = some (ty2 k) := by decide +kernel
def R3 : String := "AdviceLinks$Work"
def T3 : u_T := fun k => match k with
  | 0 => ("AdviceLinks$Work", "factor", "I", false)
  | 1 => ("AdviceLinks$Work", "addend", "I", false)
  | 2 => ("AdviceLinks$Work", "failsAt", "I", false)
  | 3 => ("AdviceLinks$Work", "exception", "I", false)
  | _ => ("AdviceLinks$Work", "next", "I", false)
def ty3 : Nat → FieldType := fun k => match k with
  | 0 => .int
  | 1 => .int
  | 2 => .int
  | 3 => .int
  | _ => .int
theorem nm3 : ∀ a, a < 5 → ∀ b, b < 5 → a ≠ b → (T3 a).2.1 ≠ (T3 b).2.1 := by decide +kernel
theorem ty3_ok : ∀ k, k < 5 → parseFieldDescriptor (T3 k).2.2.1 = some (ty3 k) := by decide +kernel
def R4 : String := "AdviceLinks"
def T4 : u_T := fun k => match k with
  | 0 => ("AdviceLinks", "advisors", "LAdviceLinks$AdvisorRow;", true)
  | 1 => ("AdviceLinks", "works", "[LAdviceLinks$Work;", true)
  | 2 => ("AdviceLinks", "trace", "LAdviceLinks$Trace;", true)
  | 3 => ("AdviceLinks", "methodAt", "[I", true)
  | 4 => ("AdviceLinks", "targetAt", "[I", true)
  | 5 => ("AdviceLinks", "frozen", "Z", false)
  | 6 => ("AdviceLinks", "targetSource", "I", false)
  | 7 => ("AdviceLinks", "nextInTurn", "I", false)
  | 8 => ("AdviceLinks", "timesAsked", "I", false)
  | 9 => ("AdviceLinks", "targetsTaken", "I", false)
  | _ => ("AdviceLinks", "value", "I", false)
def ty4 : Nat → FieldType := fun k => match k with
  | 0 => .object "AdviceLinks$AdvisorRow"
  | 1 => .array (.object "AdviceLinks$Work")
  | 2 => .object "AdviceLinks$Trace"
  | 3 => .array .int
  | 4 => .array .int
  | 5 => .boolean
  | 6 => .int
  | 7 => .int
  | 8 => .int
  | 9 => .int
  | _ => .int
theorem nm4 : ∀ a, a < 11 → ∀ b, b < 11 → a ≠ b → (T4 a).2.1 ≠ (T4 b).2.1 := by decide +kernel
theorem ty4_ok : ∀ k, k < 11 → parseFieldDescriptor (T4 k).2.2.1 = some (ty4 k) := by decide +kernel
def R5 : String := "AdviceLinksModel"
def T5 : u_T := fun k => match k with
  | 0 => ("AdviceLinksModel", "there", "I", false)
  | 1 => ("AdviceLinksModel", "next", "I", false)
  | 2 => ("AdviceLinksModel", "frozen", "Z", false)
  | 3 => ("AdviceLinksModel", "name", "[I", false)
  | 4 => ("AdviceLinksModel", "kind", "[I", false)
  | 5 => ("AdviceLinksModel", "order", "[I", false)
  | 6 => ("AdviceLinksModel", "methods", "[I", false)
  | 7 => ("AdviceLinksModel", "first", "[I", false)
  | 8 => ("AdviceLinksModel", "second", "[I", false)
  | 9 => ("AdviceLinksModel", "ranged", "[Z", false)
  | 10 => ("AdviceLinksModel", "low", "[I", false)
  | 11 => ("AdviceLinksModel", "high", "[I", false)
  | 12 => ("AdviceLinksModel", "factor", "[I", false)
  | 13 => ("AdviceLinksModel", "addend", "[I", false)
  | 14 => ("AdviceLinksModel", "failsAt", "[I", false)
  | 15 => ("AdviceLinksModel", "failure", "[I", false)
  | 16 => ("AdviceLinksModel", "leads", "[I", false)
  | 17 => ("AdviceLinksModel", "source", "I", false)
  | 18 => ("AdviceLinksModel", "turns", "I", false)
  | 19 => ("AdviceLinksModel", "noted", "I", false)
  | 20 => ("AdviceLinksModel", "whoNoted", "[I", false)
  | 21 => ("AdviceLinksModel", "whatNoted", "[I", false)
  | 22 => ("AdviceLinksModel", "askedCount", "I", false)
  | 23 => ("AdviceLinksModel", "takenCount", "I", false)
  | 24 => ("AdviceLinksModel", "outcome", "I", false)
  | 25 => ("AdviceLinksModel", "broken", "Z", false)
  | 26 => ("AdviceLinksModel", "depth", "I", false)
  | 27 => ("AdviceLinksModel", "method", "[I", false)
  | 28 => ("AdviceLinksModel", "target", "[I", false)
  | 29 => ("AdviceLinksModel", "waiting", "I", false)
  | 30 => ("AdviceLinksModel", "waits", "[I", false)
  | 31 => ("AdviceLinksModel", "waitsPlace", "[I", false)
  | 32 => ("AdviceLinksModel", "waitsAdvisor", "[I", false)
  | 33 => ("AdviceLinksModel", "waitsX", "[I", false)
  | 34 => ("AdviceLinksModel", "waitsR", "[I", false)
  | 35 => ("AdviceLinksModel", "waitsAgain", "[Z", false)
  | 36 => ("AdviceLinksModel", "along", "Z", false)
  | 37 => ("AdviceLinksModel", "place", "I", false)
  | 38 => ("AdviceLinksModel", "x", "I", false)
  | 39 => ("AdviceLinksModel", "threw", "Z", false)
  | _ => ("AdviceLinksModel", "value", "I", false)
def ty5 : Nat → FieldType := fun k => match k with
  | 0 => .int
  | 1 => .int
  | 2 => .boolean
  | 3 => .array .int
  | 4 => .array .int
  | 5 => .array .int
  | 6 => .array .int
  | 7 => .array .int
  | 8 => .array .int
  | 9 => .array .boolean
  | 10 => .array .int
  | 11 => .array .int
  | 12 => .array .int
  | 13 => .array .int
  | 14 => .array .int
  | 15 => .array .int
  | 16 => .array .int
  | 17 => .int
  | 18 => .int
  | 19 => .int
  | 20 => .array .int
  | 21 => .array .int
  | 22 => .int
  | 23 => .int
  | 24 => .int
  | 25 => .boolean
  | 26 => .int
  | 27 => .array .int
  | 28 => .array .int
  | 29 => .int
  | 30 => .array .int
  | 31 => .array .int
  | 32 => .array .int
  | 33 => .array .int
  | 34 => .array .int
  | 35 => .array .boolean
  | 36 => .boolean
  | 37 => .int
  | 38 => .int
  | 39 => .boolean
  | _ => .int
theorem nm5 : ∀ a, a < 41 → ∀ b, b < 41 → a ≠ b → (T5 a).2.1 ≠ (T5 b).2.1 := by decide +kernel
theorem ty5_ok : ∀ k, k < 41 → parseFieldDescriptor (T5 k).2.2.1 = some (ty5 k) := by decide +kernel
def R6 : String := "AdviceLinksLaw"
abbrev clA : List vw_C := [(R0, T0, 9), (R1, T1, 3), (R2, T2, 3), (R3, T3, 5), (R4, T4, 11), (R5, T5, 41)]
def wA : List Cond := lw_tbl.filter goodWord
theorem in_wA {w : Cond} (h : w ∈ lw_tbl) (hg : goodWord w = true) : w ∈ wA := List.mem_filter.mpr ⟨h, hg⟩
theorem of_wA {w : Cond} (h : w ∈ wA) : w ∈ lw_tbl := (List.mem_filter.mp h).1
theorem wA_good : GoodIn wA wA := fun _ h => ⟨h, good_of_word (List.mem_filter.mp h).2⟩
theorem wA_all (ws : List Cond) (h : ws.all (fun w => decide (w ∈ lw_tbl) && goodWord w) = true) : ∀ w ∈ ws, w ∈ wA := by
  intro w hw
  have h1 := List.all_eq_true.mp h w hw
  simp only [Bool.and_eq_true, decide_eq_true_eq] at h1
  exact in_wA h1.1 h1.2
theorem inC0 : ∀ w ∈ u_ws R0 T0 9, w ∈ wA := wA_all _ (by decide +kernel)
theorem inC1 : ∀ w ∈ u_ws R1 T1 3, w ∈ wA := wA_all _ (by decide +kernel)
theorem inC2 : ∀ w ∈ u_ws R2 T2 3, w ∈ wA := wA_all _ (by decide +kernel)
theorem inC3 : ∀ w ∈ u_ws R3 T3 5, w ∈ wA := wA_all _ (by decide +kernel)
theorem inC4 : ∀ w ∈ u_ws R4 T4 11, w ∈ wA := wA_all _ (by decide +kernel)
theorem inC5 : ∀ w ∈ u_ws R5 T5 41, w ∈ wA := wA_all _ (by decide +kernel)
abbrev b_A_init : ByteArray := prog_2_method_1_code
def y_A_init : MethodName := ⟨R0, "<init>", "()V"⟩
set_option maxRecDepth 100000 in
theorem cd_A_init : Cond.code y_A_init b_A_init 1 none ∈ wA := in_wA (List.mem_of_getElem? (i := 56) rfl) rfl
abbrev b_A_giveRange : ByteArray := prog_2_method_2_code
def y_A_giveRange : MethodName := ⟨R0, "giveRange", "(II)V"⟩
set_option maxRecDepth 100000 in
theorem cd_A_giveRange : Cond.code y_A_giveRange b_A_giveRange 3 none ∈ wA := in_wA (List.mem_of_getElem? (i := 238) rfl) rfl
abbrev b_A_isInRange : ByteArray := prog_2_method_3_code
def y_A_isInRange : MethodName := ⟨R0, "isInRange", "(I)Z"⟩
set_option maxRecDepth 100000 in
theorem cd_A_isInRange : Cond.code y_A_isInRange b_A_isInRange 2 (some .boolean) ∈ wA := in_wA (List.mem_of_getElem? (i := 344) rfl) rfl
abbrev b_A_advises : ByteArray := prog_2_method_4_code
def y_A_advises : MethodName := ⟨R0, "advises", "(I)Z"⟩
set_option maxRecDepth 100000 in
theorem cd_A_advises : Cond.code y_A_advises b_A_advises 2 (some .boolean) ∈ wA := in_wA (List.mem_of_getElem? (i := 316) rfl) rfl
abbrev b_A_standsBefore : ByteArray := prog_2_method_5_code
def y_A_standsBefore : MethodName := ⟨R0, "standsBefore", "(LAdviceLinks$Advisor;)Z"⟩
set_option maxRecDepth 100000 in
theorem cd_A_standsBefore : Cond.code y_A_standsBefore b_A_standsBefore 2 (some .boolean) ∈ wA := in_wA (List.mem_of_getElem? (i := 218) rfl) rfl
abbrev b_R_init : ByteArray := prog_3_method_1_code
def y_R_init : MethodName := ⟨R1, "<init>", "()V"⟩
set_option maxRecDepth 100000 in
theorem cd_R_init : Cond.code y_R_init b_R_init 2 none ∈ wA := in_wA (List.mem_of_getElem? (i := 49) rfl) rfl
abbrev b_R_isFull : ByteArray := prog_3_method_2_code
def y_R_isFull : MethodName := ⟨R1, "isFull", "()Z"⟩
set_option maxRecDepth 100000 in
theorem cd_R_isFull : Cond.code y_R_isFull b_R_isFull 1 (some .boolean) ∈ wA := in_wA (List.mem_of_getElem? (i := 197) rfl) rfl
abbrev b_R_at : ByteArray := prog_3_method_3_code
def y_R_at : MethodName := ⟨R1, "at", "(I)LAdviceLinks$Advisor;"⟩
set_option maxRecDepth 100000 in
theorem cd_R_at : Cond.code y_R_at b_R_at 2 (some (.object "AdviceLinks$Advisor")) ∈ wA := in_wA (List.mem_of_getElem? (i := 234) rfl) rfl
abbrev b_R_placeOf : ByteArray := prog_3_method_4_code
def y_R_placeOf : MethodName := ⟨R1, "placeOf", "(I)I"⟩
set_option maxRecDepth 100000 in
theorem cd_R_placeOf : Cond.code y_R_placeOf b_R_placeOf 3 (some .int) ∈ wA := in_wA (List.mem_of_getElem? (i := 230) rfl) rfl
abbrev b_R_placeInChain : ByteArray := prog_3_method_5_code
def y_R_placeInChain : MethodName := ⟨R1, "placeInChain", "(II)I"⟩
set_option maxRecDepth 100000 in
theorem cd_R_placeInChain : Cond.code y_R_placeInChain b_R_placeInChain 4 (some .int) ∈ wA := in_wA (List.mem_of_getElem? (i := 312) rfl) rfl
abbrev b_R_numberInChain : ByteArray := prog_3_method_6_code
def y_R_numberInChain : MethodName := ⟨R1, "numberInChain", "(II)I"⟩
set_option maxRecDepth 100000 in
theorem cd_R_numberInChain : Cond.code y_R_numberInChain b_R_numberInChain 5 (some .int) ∈ wA := in_wA (List.mem_of_getElem? (i := 419) rfl) rfl
abbrev b_R_make : ByteArray := prog_3_method_7_code
def y_R_make : MethodName := ⟨R1, "make", "(IIIII)I"⟩
set_option maxRecDepth 100000 in
theorem cd_R_make : Cond.code y_R_make b_R_make 7 (some .int) ∈ wA := in_wA (List.mem_of_getElem? (i := 210) rfl) rfl
abbrev b_R_move : ByteArray := prog_3_method_8_code
def y_R_move : MethodName := ⟨R1, "move", "(II)V"⟩
set_option maxRecDepth 100000 in
theorem cd_R_move : Cond.code y_R_move b_R_move 3 none ∈ wA := in_wA (List.mem_of_getElem? (i := 246) rfl) rfl
abbrev b_R_takeAway : ByteArray := prog_3_method_9_code
def y_R_takeAway : MethodName := ⟨R1, "takeAway", "(I)V"⟩
set_option maxRecDepth 100000 in
theorem cd_R_takeAway : Cond.code y_R_takeAway b_R_takeAway 3 none ∈ wA := in_wA (List.mem_of_getElem? (i := 254) rfl) rfl
abbrev b_R_settle : ByteArray := prog_3_method_10_code
def y_R_settle : MethodName := ⟨R1, "settle", "(I)V"⟩
set_option maxRecDepth 100000 in
theorem cd_R_settle : Cond.code y_R_settle b_R_settle 3 none ∈ wA := in_wA (List.mem_of_getElem? (i := 214) rfl) rfl
abbrev b_R_swapWithNext : ByteArray := prog_3_method_11_code
def y_R_swapWithNext : MethodName := ⟨R1, "swapWithNext", "(I)V"⟩
set_option maxRecDepth 100000 in
theorem cd_R_swapWithNext : Cond.code y_R_swapWithNext b_R_swapWithNext 3 none ∈ wA := in_wA (List.mem_of_getElem? (i := 222) rfl) rfl
abbrev b_T_init : ByteArray := prog_4_method_1_code
def y_T_init : MethodName := ⟨R2, "<init>", "()V"⟩
set_option maxRecDepth 100000 in
theorem cd_T_init : Cond.code y_T_init b_T_init 1 none ∈ wA := in_wA (List.mem_of_getElem? (i := 114) rfl) rfl
abbrev b_T_clear : ByteArray := prog_4_method_2_code
def y_T_clear : MethodName := ⟨R2, "clear", "()V"⟩
set_option maxRecDepth 100000 in
theorem cd_T_clear : Cond.code y_T_clear b_T_clear 1 none ∈ wA := in_wA (List.mem_of_getElem? (i := 292) rfl) rfl
abbrev b_T_has : ByteArray := prog_4_method_3_code
def y_T_has : MethodName := ⟨R2, "has", "(I)Z"⟩
set_option maxRecDepth 100000 in
theorem cd_T_has : Cond.code y_T_has b_T_has 2 (some .boolean) ∈ wA := in_wA (List.mem_of_getElem? (i := 399) rfl) rfl
abbrev b_T_note : ByteArray := prog_4_method_4_code
def y_T_note : MethodName := ⟨R2, "note", "(II)Z"⟩
set_option maxRecDepth 100000 in
theorem cd_T_note : Cond.code y_T_note b_T_note 3 (some .boolean) ∈ wA := in_wA (List.mem_of_getElem? (i := 324) rfl) rfl
abbrev b_K_init : ByteArray := prog_5_method_1_code
def y_K_init : MethodName := ⟨R3, "<init>", "()V"⟩
set_option maxRecDepth 100000 in
theorem cd_K_init : Cond.code y_K_init b_K_init 1 none ∈ wA := in_wA (List.mem_of_getElem? (i := 133) rfl) rfl
abbrev b_K_failsOn : ByteArray := prog_5_method_2_code
def y_K_failsOn : MethodName := ⟨R3, "failsOn", "(I)Z"⟩
set_option maxRecDepth 100000 in
theorem cd_K_failsOn : Cond.code y_K_failsOn b_K_failsOn 2 (some .boolean) ∈ wA := in_wA (List.mem_of_getElem? (i := 332) rfl) rfl
abbrev b_K_reckon : ByteArray := prog_5_method_3_code
def y_K_reckon : MethodName := ⟨R3, "reckon", "(I)I"⟩
set_option maxRecDepth 100000 in
theorem cd_K_reckon : Cond.code y_K_reckon b_K_reckon 2 (some .int) ∈ wA := in_wA (List.mem_of_getElem? (i := 336) rfl) rfl
abbrev b_L_init : ByteArray := prog_1_method_1_code
def y_L_init : MethodName := ⟨R4, "<init>", "()V"⟩
set_option maxRecDepth 100000 in
theorem cd_L_init : Cond.code y_L_init b_L_init 2 none ∈ wA := in_wA (List.mem_of_getElem? (i := 41) rfl) rfl
abbrev b_L_advise : ByteArray := prog_1_method_2_code
def y_L_advise : MethodName := ⟨R4, "advise", "(IIIII)I"⟩
set_option maxRecDepth 100000 in
theorem cd_L_advise : Cond.code y_L_advise b_L_advise 6 (some .int) ∈ wA := in_wA (List.mem_of_getElem? (i := 193) rfl) rfl
abbrev b_L_when : ByteArray := prog_1_method_3_code
def y_L_when : MethodName := ⟨R4, "when", "(III)Z"⟩
set_option maxRecDepth 100000 in
theorem cd_L_when : Cond.code y_L_when b_L_when 5 (some .boolean) ∈ wA := in_wA (List.mem_of_getElem? (i := 226) rfl) rfl
abbrev b_L_reorder : ByteArray := prog_1_method_4_code
def y_L_reorder : MethodName := ⟨R4, "reorder", "(II)Z"⟩
set_option maxRecDepth 100000 in
theorem cd_L_reorder : Cond.code y_L_reorder b_L_reorder 4 (some .boolean) ∈ wA := in_wA (List.mem_of_getElem? (i := 242) rfl) rfl
abbrev b_L_remove : ByteArray := prog_1_method_5_code
def y_L_remove : MethodName := ⟨R4, "remove", "(I)Z"⟩
set_option maxRecDepth 100000 in
theorem cd_L_remove : Cond.code y_L_remove b_L_remove 3 (some .boolean) ∈ wA := in_wA (List.mem_of_getElem? (i := 250) rfl) rfl
abbrev b_L_freeze : ByteArray := prog_1_method_6_code
def y_L_freeze : MethodName := ⟨R4, "freeze", "(Z)V"⟩
set_option maxRecDepth 100000 in
theorem cd_L_freeze : Cond.code y_L_freeze b_L_freeze 2 none ∈ wA := in_wA (List.mem_of_getElem? (i := 258) rfl) rfl
abbrev b_L_plan : ByteArray := prog_1_method_7_code
def y_L_plan : MethodName := ⟨R4, "plan", "(IIII)Z"⟩
set_option maxRecDepth 100000 in
theorem cd_L_plan : Cond.code y_L_plan b_L_plan 6 (some .boolean) ∈ wA := in_wA (List.mem_of_getElem? (i := 262) rfl) rfl
abbrev b_L_fail : ByteArray := prog_1_method_8_code
def y_L_fail : MethodName := ⟨R4, "fail", "(IIII)Z"⟩
set_option maxRecDepth 100000 in
theorem cd_L_fail : Cond.code y_L_fail b_L_fail 6 (some .boolean) ∈ wA := in_wA (List.mem_of_getElem? (i := 276) rfl) rfl
abbrev b_L_calls : ByteArray := prog_1_method_9_code
def y_L_calls : MethodName := ⟨R4, "calls", "(III)Z"⟩
set_option maxRecDepth 100000 in
theorem cd_L_calls : Cond.code y_L_calls b_L_calls 4 (some .boolean) ∈ wA := in_wA (List.mem_of_getElem? (i := 280) rfl) rfl
abbrev b_L_source : ByteArray := prog_1_method_10_code
def y_L_source : MethodName := ⟨R4, "source", "(I)Z"⟩
set_option maxRecDepth 100000 in
theorem cd_L_source : Cond.code y_L_source b_L_source 2 (some .boolean) ∈ wA := in_wA (List.mem_of_getElem? (i := 284) rfl) rfl
abbrev b_L_invoke : ByteArray := prog_1_method_11_code
def y_L_invoke : MethodName := ⟨R4, "invoke", "(II)I"⟩
set_option maxRecDepth 100000 in
theorem cd_L_invoke : Cond.code y_L_invoke b_L_invoke 3 (some .int) ∈ wA := in_wA (List.mem_of_getElem? (i := 288) rfl) rfl
abbrev b_L_result : ByteArray := prog_1_method_12_code
def y_L_result : MethodName := ⟨R4, "result", "()I"⟩
set_option maxRecDepth 100000 in
theorem cd_L_result : Cond.code y_L_result b_L_result 1 (some .int) ∈ wA := in_wA (List.mem_of_getElem? (i := 387) rfl) rfl
abbrev b_L_events : ByteArray := prog_1_method_13_code
def y_L_events : MethodName := ⟨R4, "events", "()I"⟩
set_option maxRecDepth 100000 in
theorem cd_L_events : Cond.code y_L_events b_L_events 1 (some .int) ∈ wA := in_wA (List.mem_of_getElem? (i := 391) rfl) rfl
abbrev b_L_who : ByteArray := prog_1_method_14_code
def y_L_who : MethodName := ⟨R4, "who", "(I)I"⟩
set_option maxRecDepth 100000 in
theorem cd_L_who : Cond.code y_L_who b_L_who 2 (some .int) ∈ wA := in_wA (List.mem_of_getElem? (i := 395) rfl) rfl
abbrev b_L_what : ByteArray := prog_1_method_15_code
def y_L_what : MethodName := ⟨R4, "what", "(I)I"⟩
set_option maxRecDepth 100000 in
theorem cd_L_what : Cond.code y_L_what b_L_what 2 (some .int) ∈ wA := in_wA (List.mem_of_getElem? (i := 403) rfl) rfl
abbrev b_L_asked : ByteArray := prog_1_method_16_code
def y_L_asked : MethodName := ⟨R4, "asked", "()I"⟩
set_option maxRecDepth 100000 in
theorem cd_L_asked : Cond.code y_L_asked b_L_asked 1 (some .int) ∈ wA := in_wA (List.mem_of_getElem? (i := 407) rfl) rfl
abbrev b_L_taken : ByteArray := prog_1_method_17_code
def y_L_taken : MethodName := ⟨R4, "taken", "()I"⟩
set_option maxRecDepth 100000 in
theorem cd_L_taken : Cond.code y_L_taken b_L_taken 1 (some .int) ∈ wA := in_wA (List.mem_of_getElem? (i := 411) rfl) rfl
abbrev b_L_chain : ByteArray := prog_1_method_18_code
def y_L_chain : MethodName := ⟨R4, "chain", "(II)I"⟩
set_option maxRecDepth 100000 in
theorem cd_L_chain : Cond.code y_L_chain b_L_chain 3 (some .int) ∈ wA := in_wA (List.mem_of_getElem? (i := 415) rfl) rfl
abbrev b_L_isMethod : ByteArray := prog_1_method_19_code
def y_L_isMethod : MethodName := ⟨R4, "isMethod", "(I)Z"⟩
set_option maxRecDepth 100000 in
theorem cd_L_isMethod : Cond.code y_L_isMethod b_L_isMethod 1 (some .boolean) ∈ wA := in_wA (List.mem_of_getElem? (i := 268) rfl) rfl
abbrev b_L_isTarget : ByteArray := prog_1_method_20_code
def y_L_isTarget : MethodName := ⟨R4, "isTarget", "(I)Z"⟩
set_option maxRecDepth 100000 in
theorem cd_L_isTarget : Cond.code y_L_isTarget b_L_isTarget 1 (some .boolean) ∈ wA := in_wA (List.mem_of_getElem? (i := 265) rfl) rfl
abbrev b_L_isException : ByteArray := prog_1_method_21_code
def y_L_isException : MethodName := ⟨R4, "isException", "(I)Z"⟩
set_option maxRecDepth 100000 in
theorem cd_L_isException : Cond.code y_L_isException b_L_isException 1 (some .boolean) ∈ wA := in_wA (List.mem_of_getElem? (i := 203) rfl) rfl
abbrev b_L_isExceptionOrZero : ByteArray := prog_1_method_22_code
def y_L_isExceptionOrZero : MethodName := ⟨R4, "isExceptionOrZero", "(I)Z"⟩
set_option maxRecDepth 100000 in
theorem cd_L_isExceptionOrZero : Cond.code y_L_isExceptionOrZero b_L_isExceptionOrZero 1 (some .boolean) ∈ wA := in_wA (List.mem_of_getElem? (i := 206) rfl) rfl
abbrev b_L_areNumbersOf : ByteArray := prog_1_method_23_code
def y_L_areNumbersOf : MethodName := ⟨R4, "areNumbersOf", "(III)Z"⟩
set_option maxRecDepth 100000 in
theorem cd_L_areNumbersOf : Cond.code y_L_areNumbersOf b_L_areNumbersOf 3 (some .boolean) ∈ wA := in_wA (List.mem_of_getElem? (i := 200) rfl) rfl
abbrev b_L_isKindOf : ByteArray := prog_1_method_24_code
def y_L_isKindOf : MethodName := ⟨R4, "isKindOf", "(II)Z"⟩
set_option maxRecDepth 100000 in
theorem cd_L_isKindOf : Cond.code y_L_isKindOf b_L_isKindOf 3 (some .boolean) ∈ wA := in_wA (List.mem_of_getElem? (i := 375) rfl) rfl
abbrev b_L_workOf : ByteArray := prog_1_method_25_code
def y_L_workOf : MethodName := ⟨R4, "workOf", "(II)LAdviceLinks$Work;"⟩
set_option maxRecDepth 100000 in
theorem cd_L_workOf : Cond.code y_L_workOf b_L_workOf 3 (some (.object "AdviceLinks$Work")) ∈ wA := in_wA (List.mem_of_getElem? (i := 272) rfl) rfl
abbrev b_L_returned : ByteArray := prog_1_method_26_code
def y_L_returned : MethodName := ⟨R4, "returned", "(I)I"⟩
set_option maxRecDepth 100000 in
theorem cd_L_returned : Cond.code y_L_returned b_L_returned 2 (some .int) ∈ wA := in_wA (List.mem_of_getElem? (i := 340) rfl) rfl
abbrev b_L_thrown : ByteArray := prog_1_method_27_code
def y_L_thrown : MethodName := ⟨R4, "thrown", "(I)I"⟩
set_option maxRecDepth 100000 in
theorem cd_L_thrown : Cond.code y_L_thrown b_L_thrown 2 (some .int) ∈ wA := in_wA (List.mem_of_getElem? (i := 300) rfl) rfl
abbrev b_L_brokenOff : ByteArray := prog_1_method_28_code
def y_L_brokenOff : MethodName := ⟨R4, "brokenOff", "()I"⟩
set_option maxRecDepth 100000 in
theorem cd_L_brokenOff : Cond.code y_L_brokenOff b_L_brokenOff 1 (some .int) ∈ wA := in_wA (List.mem_of_getElem? (i := 328) rfl) rfl
abbrev b_L_takeTarget : ByteArray := prog_1_method_29_code
def y_L_takeTarget : MethodName := ⟨R4, "takeTarget", "()I"⟩
set_option maxRecDepth 100000 in
theorem cd_L_takeTarget : Cond.code y_L_takeTarget b_L_takeTarget 2 (some .int) ∈ wA := in_wA (List.mem_of_getElem? (i := 304) rfl) rfl
abbrev b_L_begin : ByteArray := prog_1_method_30_code
def y_L_begin : MethodName := ⟨R4, "begin", "(III)I"⟩
set_option maxRecDepth 100000 in
theorem cd_L_begin : Cond.code y_L_begin b_L_begin 4 (some .int) ∈ wA := in_wA (List.mem_of_getElem? (i := 296) rfl) rfl
abbrev b_L_goAlong : ByteArray := prog_1_method_31_code
def y_L_goAlong : MethodName := ⟨R4, "goAlong", "(III)I"⟩
set_option maxRecDepth 100000 in
theorem cd_L_goAlong : Cond.code y_L_goAlong b_L_goAlong 6 (some .int) ∈ wA := in_wA (List.mem_of_getElem? (i := 308) rfl) rfl
abbrev b_L_workOn : ByteArray := prog_1_method_32_code
def y_L_workOn : MethodName := ⟨R4, "workOn", "(II)I"⟩
set_option maxRecDepth 100000 in
theorem cd_L_workOn : Cond.code y_L_workOn b_L_workOn 6 (some .int) ∈ wA := in_wA (List.mem_of_getElem? (i := 320) rfl) rfl
abbrev b_L_act : ByteArray := prog_1_method_33_code
def y_L_act : MethodName := ⟨R4, "act", "(LAdviceLinks$Advisor;III)I"⟩
set_option maxRecDepth 100000 in
theorem cd_L_act : Cond.code y_L_act b_L_act 5 (some .int) ∈ wA := in_wA (List.mem_of_getElem? (i := 348) rfl) rfl
abbrev b_L_actBefore : ByteArray := prog_1_method_34_code
def y_L_actBefore : MethodName := ⟨R4, "actBefore", "(LAdviceLinks$Advisor;III)I"⟩
set_option maxRecDepth 100000 in
theorem cd_L_actBefore : Cond.code y_L_actBefore b_L_actBefore 5 (some .int) ∈ wA := in_wA (List.mem_of_getElem? (i := 352) rfl) rfl
abbrev b_L_actChange : ByteArray := prog_1_method_35_code
def y_L_actChange : MethodName := ⟨R4, "actChange", "(LAdviceLinks$Advisor;III)I"⟩
set_option maxRecDepth 100000 in
theorem cd_L_actChange : Cond.code y_L_actChange b_L_actChange 6 (some .int) ∈ wA := in_wA (List.mem_of_getElem? (i := 356) rfl) rfl
abbrev b_L_actSkip : ByteArray := prog_1_method_36_code
def y_L_actSkip : MethodName := ⟨R4, "actSkip", "(LAdviceLinks$Advisor;III)I"⟩
set_option maxRecDepth 100000 in
theorem cd_L_actSkip : Cond.code y_L_actSkip b_L_actSkip 5 (some .int) ∈ wA := in_wA (List.mem_of_getElem? (i := 360) rfl) rfl
abbrev b_L_actTwice : ByteArray := prog_1_method_37_code
def y_L_actTwice : MethodName := ⟨R4, "actTwice", "(LAdviceLinks$Advisor;III)I"⟩
set_option maxRecDepth 100000 in
theorem cd_L_actTwice : Cond.code y_L_actTwice b_L_actTwice 8 (some .int) ∈ wA := in_wA (List.mem_of_getElem? (i := 364) rfl) rfl
abbrev b_L_actReturning : ByteArray := prog_1_method_38_code
def y_L_actReturning : MethodName := ⟨R4, "actReturning", "(LAdviceLinks$Advisor;III)I"⟩
set_option maxRecDepth 100000 in
theorem cd_L_actReturning : Cond.code y_L_actReturning b_L_actReturning 6 (some .int) ∈ wA := in_wA (List.mem_of_getElem? (i := 368) rfl) rfl
abbrev b_L_actThrowing : ByteArray := prog_1_method_39_code
def y_L_actThrowing : MethodName := ⟨R4, "actThrowing", "(LAdviceLinks$Advisor;III)I"⟩
set_option maxRecDepth 100000 in
theorem cd_L_actThrowing : Cond.code y_L_actThrowing b_L_actThrowing 6 (some .int) ∈ wA := in_wA (List.mem_of_getElem? (i := 372) rfl) rfl
abbrev b_L_actFinally : ByteArray := prog_1_method_40_code
def y_L_actFinally : MethodName := ⟨R4, "actFinally", "(LAdviceLinks$Advisor;III)I"⟩
set_option maxRecDepth 100000 in
theorem cd_L_actFinally : Cond.code y_L_actFinally b_L_actFinally 6 (some .int) ∈ wA := in_wA (List.mem_of_getElem? (i := 379) rfl) rfl
abbrev b_L_actRecover : ByteArray := prog_1_method_41_code
def y_L_actRecover : MethodName := ⟨R4, "actRecover", "(LAdviceLinks$Advisor;III)I"⟩
set_option maxRecDepth 100000 in
theorem cd_L_actRecover : Cond.code y_L_actRecover b_L_actRecover 6 (some .int) ∈ wA := in_wA (List.mem_of_getElem? (i := 383) rfl) rfl
abbrev b_M_init : ByteArray := prog_7_method_1_code
def y_M_init : MethodName := ⟨R5, "<init>", "()V"⟩
set_option maxRecDepth 100000 in
theorem cd_M_init : Cond.code y_M_init b_M_init 2 none ∈ wA := in_wA (List.mem_of_getElem? (i := 424) rfl) rfl
abbrev b_M_within : ByteArray := prog_7_method_2_code
def y_M_within : MethodName := ⟨R5, "within", "(III)Z"⟩
set_option maxRecDepth 100000 in
theorem cd_M_within : Cond.code y_M_within b_M_within 3 (some .boolean) ∈ wA := in_wA (List.mem_of_getElem? (i := 557) rfl) rfl
abbrev b_M_isException : ByteArray := prog_7_method_3_code
def y_M_isException : MethodName := ⟨R5, "isException", "(I)Z"⟩
set_option maxRecDepth 100000 in
theorem cd_M_isException : Cond.code y_M_isException b_M_isException 1 (some .boolean) ∈ wA := in_wA (List.mem_of_getElem? (i := 563) rfl) rfl
abbrev b_M_fits : ByteArray := prog_7_method_4_code
def y_M_fits : MethodName := ⟨R5, "fits", "(III)Z"⟩
set_option maxRecDepth 100000 in
theorem cd_M_fits : Cond.code y_M_fits b_M_fits 3 (some .boolean) ∈ wA := in_wA (List.mem_of_getElem? (i := 560) rfl) rfl
abbrev b_M_advise : ByteArray := prog_7_method_5_code
def y_M_advise : MethodName := ⟨R5, "advise", "(IIIII)I"⟩
set_option maxRecDepth 100000 in
theorem cd_M_advise : Cond.code y_M_advise b_M_advise 6 (some .int) ∈ wA := in_wA (List.mem_of_getElem? (i := 554) rfl) rfl
abbrev b_M_find : ByteArray := prog_7_method_6_code
def y_M_find : MethodName := ⟨R5, "find", "(I)I"⟩
set_option maxRecDepth 100000 in
theorem cd_M_find : Cond.code y_M_find b_M_find 4 (some .int) ∈ wA := in_wA (List.mem_of_getElem? (i := 571) rfl) rfl
abbrev b_M_when : ByteArray := prog_7_method_7_code
def y_M_when : MethodName := ⟨R5, "when", "(III)Z"⟩
set_option maxRecDepth 100000 in
theorem cd_M_when : Cond.code y_M_when b_M_when 5 (some .boolean) ∈ wA := in_wA (List.mem_of_getElem? (i := 567) rfl) rfl
abbrev b_M_reorder : ByteArray := prog_7_method_8_code
def y_M_reorder : MethodName := ⟨R5, "reorder", "(II)Z"⟩
set_option maxRecDepth 100000 in
theorem cd_M_reorder : Cond.code y_M_reorder b_M_reorder 4 (some .boolean) ∈ wA := in_wA (List.mem_of_getElem? (i := 575) rfl) rfl
abbrev b_M_remove : ByteArray := prog_7_method_9_code
def y_M_remove : MethodName := ⟨R5, "remove", "(I)Z"⟩
set_option maxRecDepth 100000 in
theorem cd_M_remove : Cond.code y_M_remove b_M_remove 4 (some .boolean) ∈ wA := in_wA (List.mem_of_getElem? (i := 579) rfl) rfl
abbrev b_M_freeze : ByteArray := prog_7_method_10_code
def y_M_freeze : MethodName := ⟨R5, "freeze", "(Z)V"⟩
set_option maxRecDepth 100000 in
theorem cd_M_freeze : Cond.code y_M_freeze b_M_freeze 2 none ∈ wA := in_wA (List.mem_of_getElem? (i := 583) rfl) rfl
abbrev b_M_linked : ByteArray := prog_7_method_11_code
def y_M_linked : MethodName := ⟨R5, "linked", "(II)I"⟩
set_option maxRecDepth 100000 in
theorem cd_M_linked : Cond.code y_M_linked b_M_linked 7 (some .int) ∈ wA := in_wA (List.mem_of_getElem? (i := 591) rfl) rfl
abbrev b_M_chain : ByteArray := prog_7_method_12_code
def y_M_chain : MethodName := ⟨R5, "chain", "(II)I"⟩
set_option maxRecDepth 100000 in
theorem cd_M_chain : Cond.code y_M_chain b_M_chain 4 (some .int) ∈ wA := in_wA (List.mem_of_getElem? (i := 587) rfl) rfl
abbrev b_M_isCell : ByteArray := prog_7_method_13_code
def y_M_isCell : MethodName := ⟨R5, "isCell", "(II)Z"⟩
set_option maxRecDepth 100000 in
theorem cd_M_isCell : Cond.code y_M_isCell b_M_isCell 2 (some .boolean) ∈ wA := in_wA (List.mem_of_getElem? (i := 598) rfl) rfl
abbrev b_M_plan : ByteArray := prog_7_method_14_code
def y_M_plan : MethodName := ⟨R5, "plan", "(IIII)Z"⟩
set_option maxRecDepth 100000 in
theorem cd_M_plan : Cond.code y_M_plan b_M_plan 5 (some .boolean) ∈ wA := in_wA (List.mem_of_getElem? (i := 595) rfl) rfl
abbrev b_M_fail : ByteArray := prog_7_method_15_code
def y_M_fail : MethodName := ⟨R5, "fail", "(IIII)Z"⟩
set_option maxRecDepth 100000 in
theorem cd_M_fail : Cond.code y_M_fail b_M_fail 5 (some .boolean) ∈ wA := in_wA (List.mem_of_getElem? (i := 602) rfl) rfl
abbrev b_M_calls : ByteArray := prog_7_method_16_code
def y_M_calls : MethodName := ⟨R5, "calls", "(III)Z"⟩
set_option maxRecDepth 100000 in
theorem cd_M_calls : Cond.code y_M_calls b_M_calls 4 (some .boolean) ∈ wA := in_wA (List.mem_of_getElem? (i := 606) rfl) rfl
abbrev b_M_source : ByteArray := prog_7_method_17_code
def y_M_source : MethodName := ⟨R5, "source", "(I)Z"⟩
set_option maxRecDepth 100000 in
theorem cd_M_source : Cond.code y_M_source b_M_source 2 (some .boolean) ∈ wA := in_wA (List.mem_of_getElem? (i := 610) rfl) rfl
abbrev b_M_note : ByteArray := prog_7_method_18_code
def y_M_note : MethodName := ⟨R5, "note", "(II)V"⟩
set_option maxRecDepth 100000 in
theorem cd_M_note : Cond.code y_M_note b_M_note 3 none ∈ wA := in_wA (List.mem_of_getElem? (i := 642) rfl) rfl
abbrev b_M_isOne : ByteArray := prog_7_method_19_code
def y_M_isOne : MethodName := ⟨R5, "isOne", "(II)Z"⟩
set_option maxRecDepth 100000 in
theorem cd_M_isOne : Cond.code y_M_isOne b_M_isOne 3 (some .boolean) ∈ wA := in_wA (List.mem_of_getElem? (i := 653) rfl) rfl
abbrev b_M_go : ByteArray := prog_7_method_20_code
def y_M_go : MethodName := ⟨R5, "go", "(II)V"⟩
set_option maxRecDepth 100000 in
theorem cd_M_go : Cond.code y_M_go b_M_go 3 none ∈ wA := in_wA (List.mem_of_getElem? (i := 630) rfl) rfl
abbrev b_M_comes : ByteArray := prog_7_method_21_code
def y_M_comes : MethodName := ⟨R5, "comes", "(ZI)V"⟩
set_option maxRecDepth 100000 in
theorem cd_M_comes : Cond.code y_M_comes b_M_comes 3 none ∈ wA := in_wA (List.mem_of_getElem? (i := 622) rfl) rfl
abbrev b_M_await : ByteArray := prog_7_method_22_code
def y_M_await : MethodName := ⟨R5, "await", "(II)V"⟩
set_option maxRecDepth 100000 in
theorem cd_M_await : Cond.code y_M_await b_M_await 3 none ∈ wA := in_wA (List.mem_of_getElem? (i := 626) rfl) rfl
abbrev b_M_enter : ByteArray := prog_7_method_23_code
def y_M_enter : MethodName := ⟨R5, "enter", "(II)V"⟩
set_option maxRecDepth 100000 in
theorem cd_M_enter : Cond.code y_M_enter b_M_enter 3 none ∈ wA := in_wA (List.mem_of_getElem? (i := 618) rfl) rfl
abbrev b_M_work : ByteArray := prog_7_method_24_code
def y_M_work : MethodName := ⟨R5, "work", "()V"⟩
set_option maxRecDepth 100000 in
theorem cd_M_work : Cond.code y_M_work b_M_work 2 none ∈ wA := in_wA (List.mem_of_getElem? (i := 638) rfl) rfl
abbrev b_M_step : ByteArray := prog_7_method_25_code
def y_M_step : MethodName := ⟨R5, "step", "()V"⟩
set_option maxRecDepth 100000 in
theorem cd_M_step : Cond.code y_M_step b_M_step 2 none ∈ wA := in_wA (List.mem_of_getElem? (i := 634) rfl) rfl
abbrev b_M_back : ByteArray := prog_7_method_26_code
def y_M_back : MethodName := ⟨R5, "back", "()V"⟩
set_option maxRecDepth 100000 in
theorem cd_M_back : Cond.code y_M_back b_M_back 3 none ∈ wA := in_wA (List.mem_of_getElem? (i := 646) rfl) rfl
abbrev b_M_twice : ByteArray := prog_7_method_27_code
def y_M_twice : MethodName := ⟨R5, "twice", "(I)V"⟩
set_option maxRecDepth 100000 in
theorem cd_M_twice : Cond.code y_M_twice b_M_twice 2 none ∈ wA := in_wA (List.mem_of_getElem? (i := 650) rfl) rfl
abbrev b_M_invoke : ByteArray := prog_7_method_28_code
def y_M_invoke : MethodName := ⟨R5, "invoke", "(II)I"⟩
set_option maxRecDepth 100000 in
theorem cd_M_invoke : Cond.code y_M_invoke b_M_invoke 3 (some .int) ∈ wA := in_wA (List.mem_of_getElem? (i := 614) rfl) rfl
abbrev b_M_result : ByteArray := prog_7_method_29_code
def y_M_result : MethodName := ⟨R5, "result", "()I"⟩
set_option maxRecDepth 100000 in
theorem cd_M_result : Cond.code y_M_result b_M_result 1 (some .int) ∈ wA := in_wA (List.mem_of_getElem? (i := 657) rfl) rfl
abbrev b_M_events : ByteArray := prog_7_method_30_code
def y_M_events : MethodName := ⟨R5, "events", "()I"⟩
set_option maxRecDepth 100000 in
theorem cd_M_events : Cond.code y_M_events b_M_events 1 (some .int) ∈ wA := in_wA (List.mem_of_getElem? (i := 661) rfl) rfl
abbrev b_M_who : ByteArray := prog_7_method_31_code
def y_M_who : MethodName := ⟨R5, "who", "(I)I"⟩
set_option maxRecDepth 100000 in
theorem cd_M_who : Cond.code y_M_who b_M_who 2 (some .int) ∈ wA := in_wA (List.mem_of_getElem? (i := 665) rfl) rfl
abbrev b_M_what : ByteArray := prog_7_method_32_code
def y_M_what : MethodName := ⟨R5, "what", "(I)I"⟩
set_option maxRecDepth 100000 in
theorem cd_M_what : Cond.code y_M_what b_M_what 2 (some .int) ∈ wA := in_wA (List.mem_of_getElem? (i := 669) rfl) rfl
abbrev b_M_asked : ByteArray := prog_7_method_33_code
def y_M_asked : MethodName := ⟨R5, "asked", "()I"⟩
set_option maxRecDepth 100000 in
theorem cd_M_asked : Cond.code y_M_asked b_M_asked 1 (some .int) ∈ wA := in_wA (List.mem_of_getElem? (i := 673) rfl) rfl
abbrev b_M_taken : ByteArray := prog_7_method_34_code
def y_M_taken : MethodName := ⟨R5, "taken", "()I"⟩
set_option maxRecDepth 100000 in
theorem cd_M_taken : Cond.code y_M_taken b_M_taken 1 (some .int) ∈ wA := in_wA (List.mem_of_getElem? (i := 677) rfl) rfl
end
section
section VVS
variable {p : Program} {l : Launch} {e : Env} {R : Room} {s : State} {m : MethodId} {args : Array Value} {below : List Frame} {meth : Method} {c : Code} {cells slots : Nat} {Q : State → Prop}
variable {cc : ByteArray} {own : String} {Ts : List Cond} {nL : Nat} {D : va_G} {cl : List vw_C} {tys : List (ClassId × FieldType)} {A : Nat → Prop} {H0 : Heap} {ws : va_W} {pc : Nat} {lv : List (Nat × Value)} {st : List Value}
/-- what a method's walk has at hand -/
def cx (p : Program) (s : State) (m : MethodId) (args : Array Value) (c : Code) (cc : ByteArray) (own : String) (Ts : List Cond) (nL : Nat) (D : va_G) (cl : List vw_C) (tys : List (ClassId × FieldType)) : Prop :=
  p.tables.exec = Jvm.exec ∧ c.code = cc ∧ c.maxLocals = nL ∧ s.vm.findClass own = some m.cls ∧ (∀ w ∈ Ts, w.before args s = true) ∧ va_K D cl tys s
/-- from pc, with the locals lv, the stack st and the world ws, the machine comes to Q -/
def VV (p : Program) (l : Launch) (e : Env) (R : Room) (s : State) (m : MethodId) (args : Array Value) (below : List Frame) (meth : Method) (c : Code) (cells slots : Nat) (Q : State → Prop) (nL : Nat) (D : va_G) (cl : List vw_C) (A : Nat → Prop) (H0 : Heap) (ws : va_W) (pc : Nat) (lv : List (Nat × Value)) (st : List Value) : Prop :=
  ∀ (H : Heap) (locs : List Loc) (ls : Array Slot), va_P D cl ws H → va_D A ws → va_S A H0 H locs → lv_has ls nL lv → W p l e R s m args below meth c H locs cells slots Q (F0 m pc ls st)
def lvq : List (Nat × Value) → Nat → Option Value
  | [], _ => none
  | q :: r, i => if q.1 = i then some q.2 else lvq r i
theorem lvq_mem : ∀ {lv : List (Nat × Value)} {i : Nat} {v : Value}, lvq lv i = some v → (i, v) ∈ lv
  | [], _, _, h => by cases h
  | q :: r, i, v, h => by
    unfold lvq at h
    split at h
    · rename_i hq
      cases h
      subst hq
      exact List.mem_cons_self
    · exact List.mem_cons_of_mem _ (lvq_mem h)
theorem lvq_at {ls : Array Slot} {i : Nat} {v : Value} (h : lv_has ls nL lv) (hq : lvq lv i = some v) : ls[i]? = some (.val v) := h.2.2 (i, v) (lvq_mem hq)
theorem lv_has.to {ls : Array Slot} {lv' : List (Nat × Value)} (h : lv_has ls nL lv) (hs : ∀ q ∈ lv', lvq lv q.1 = some q.2) : lv_has ls nL lv' := ⟨h.1, h.2.1, fun q hq => lvq_at h (hs q hq)⟩
/-- other words for the locals: each of the new list stands in the old one -/
theorem vv_lv (lv' : List (Nat × Value)) (hs : ∀ q ∈ lv', lvq lv q.1 = some q.2) (kk : VV p l e R s m args below meth c cells slots Q nL D cl A H0 ws pc lv' st) : VV p l e R s m args below meth c cells slots Q nL D cl A H0 ws pc lv st :=
  fun H locs ls hP hD hS hl => kk H locs ls hP hD hS (hl.to hs)
theorem vv_pc {pc' : Nat} (h : pc = pc') (kk : VV p l e R s m args below meth c cells slots Q nL D cl A H0 ws pc' lv st) : VV p l e R s m args below meth c cells slots Q nL D cl A H0 ws pc lv st := h ▸ kk
theorem vv_ws {ws' : va_W} (h : ws = ws') (kk : VV p l e R s m args below meth c cells slots Q nL D cl A H0 ws' pc lv st) : VV p l e R s m args below meth c cells slots Q nL D cl A H0 ws pc lv st := h ▸ kk
theorem vv_st {st' : List Value} (h : st = st') (kk : VV p l e R s m args below meth c cells slots Q nL D cl A H0 ws pc lv st') : VV p l e R s m args below meth c cells slots Q nL D cl A H0 ws pc lv st := h ▸ kk

theorem vv_iconst (C : cx p s m args c cc own Ts nL D cl tys) {n : Int} (v : Int32) (hdg : decode cc pc = .ok (.iconst n, 1)) (hv : Int32.ofInt n = v) (kk : VV p l e R s m args below meth c cells slots Q nL D cl A H0 ws (pc + 1) lv (.int v :: st)) : VV p l e R s m args below meth c cells slots Q nL D cl A H0 ws pc lv st :=
  fun H locs ls hP hD hS hl => lv_iconst C.1 C.2.1 hdg hv (kk H locs ls hP hD hS hl)
theorem vv_bipush (C : cx p s m args c cc own Ts nL D cl tys) {n : Int} (v : Int32) (hdg : decode cc pc = .ok (.bipush n, 2)) (hv : (Int8.ofInt n).toInt32 = v) (kk : VV p l e R s m args below meth c cells slots Q nL D cl A H0 ws (pc + 2) lv (.int v :: st)) : VV p l e R s m args below meth c cells slots Q nL D cl A H0 ws pc lv st :=
  fun H locs ls hP hD hS hl => lv_bipush C.1 C.2.1 hdg hv (kk H locs ls hP hD hS hl)
theorem vv_sipush (C : cx p s m args c cc own Ts nL D cl tys) {n : Int} (v : Int32) (hdg : decode cc pc = .ok (.sipush n, 3)) (hv : (Int16.ofInt n).toInt32 = v) (kk : VV p l e R s m args below meth c cells slots Q nL D cl A H0 ws (pc + 3) lv (.int v :: st)) : VV p l e R s m args below meth c cells slots Q nL D cl A H0 ws pc lv st :=
  fun H locs ls hP hD hS hl => lv_sipush C.1 C.2.1 hdg hv (kk H locs ls hP hD hS hl)
theorem vv_iload_n (C : cx p s m args c cc own Ts nL D cl tys) {k : Fin 4} {x : Int32} (hdg : decode cc pc = .ok (.iload_n k, 1)) (hq : lvq lv (k : Nat) = some (.int x)) (kk : VV p l e R s m args below meth c cells slots Q nL D cl A H0 ws (pc + 1) lv (.int x :: st)) : VV p l e R s m args below meth c cells slots Q nL D cl A H0 ws pc lv st :=
  fun H locs ls hP hD hS hl => lv_iload_n C.1 C.2.1 hdg rfl (lvq_at hl hq) (kk H locs ls hP hD hS hl)
theorem vv_iload (C : cx p s m args c cc own Ts nL D cl tys) {i : Nat} {x : Int32} (hdg : decode cc pc = .ok (.iload i, 2)) (hq : lvq lv i = some (.int x)) (kk : VV p l e R s m args below meth c cells slots Q nL D cl A H0 ws (pc + 2) lv (.int x :: st)) : VV p l e R s m args below meth c cells slots Q nL D cl A H0 ws pc lv st :=
  fun H locs ls hP hD hS hl => lv_iload C.1 C.2.1 hdg (lvq_at hl hq) (kk H locs ls hP hD hS hl)
theorem vv_istore_n (C : cx p s m args c cc own Ts nL D cl tys) {k : Fin 4} {i : Nat} {x : Int32} {lv' : List (Nat × Value)} (hdg : decode cc pc = .ok (.istore_n k, 1)) (hi : (k : Nat) = i) (hn : i < nL) (hl' : (i, Value.int x) :: lv.filter (fun q => !(q.1 == i) && !(q.1 + 1 == i && q.2.category == 2)) = lv') (kk : VV p l e R s m args below meth c cells slots Q nL D cl A H0 ws (pc + 1) lv' st) : VV p l e R s m args below meth c cells slots Q nL D cl A H0 ws pc lv (.int x :: st) :=
  fun H locs ls hP hD hS hl => lv_istore_n C.1 C.2.1 hdg hi hl hn hl' (fun ls' h' => kk H locs ls' hP hD hS h')
theorem vv_istore (C : cx p s m args c cc own Ts nL D cl tys) {i : Nat} {x : Int32} {lv' : List (Nat × Value)} (hdg : decode cc pc = .ok (.istore i, 2)) (hn : i < nL) (hl' : (i, Value.int x) :: lv.filter (fun q => !(q.1 == i) && !(q.1 + 1 == i && q.2.category == 2)) = lv') (kk : VV p l e R s m args below meth c cells slots Q nL D cl A H0 ws (pc + 2) lv' st) : VV p l e R s m args below meth c cells slots Q nL D cl A H0 ws pc lv (.int x :: st) :=
  fun H locs ls hP hD hS hl => lv_istore C.1 C.2.1 hdg hl hn hl' (fun ls' h' => kk H locs ls' hP hD hS h')
theorem vv_aload_n (C : cx p s m args c cc own Ts nL D cl tys) {k : Fin 4} {x : Nat} (hdg : decode cc pc = .ok (.aload_n k, 1)) (hq : lvq lv (k : Nat) = some (.ref x)) (kk : VV p l e R s m args below meth c cells slots Q nL D cl A H0 ws (pc + 1) lv (.ref x :: st)) : VV p l e R s m args below meth c cells slots Q nL D cl A H0 ws pc lv st :=
  fun H locs ls hP hD hS hl => lv_aload_n C.1 C.2.1 hdg rfl (lvq_at hl hq) (kk H locs ls hP hD hS hl)
theorem vv_aload (C : cx p s m args c cc own Ts nL D cl tys) {i : Nat} {x : Nat} (hdg : decode cc pc = .ok (.aload i, 2)) (hq : lvq lv i = some (.ref x)) (kk : VV p l e R s m args below meth c cells slots Q nL D cl A H0 ws (pc + 2) lv (.ref x :: st)) : VV p l e R s m args below meth c cells slots Q nL D cl A H0 ws pc lv st :=
  fun H locs ls hP hD hS hl => lv_aload C.1 C.2.1 hdg (lvq_at hl hq) (kk H locs ls hP hD hS hl)
theorem vv_astore_n (C : cx p s m args c cc own Ts nL D cl tys) {k : Fin 4} {i : Nat} {x : Nat} {lv' : List (Nat × Value)} (hdg : decode cc pc = .ok (.astore_n k, 1)) (hi : (k : Nat) = i) (hn : i < nL) (hl' : (i, Value.ref x) :: lv.filter (fun q => !(q.1 == i) && !(q.1 + 1 == i && q.2.category == 2)) = lv') (kk : VV p l e R s m args below meth c cells slots Q nL D cl A H0 ws (pc + 1) lv' st) : VV p l e R s m args below meth c cells slots Q nL D cl A H0 ws pc lv (.ref x :: st) :=
  fun H locs ls hP hD hS hl => lv_astore_n C.1 C.2.1 hdg hi hl hn hl' (fun ls' h' => kk H locs ls' hP hD hS h')
theorem vv_astore (C : cx p s m args c cc own Ts nL D cl tys) {i : Nat} {x : Nat} {lv' : List (Nat × Value)} (hdg : decode cc pc = .ok (.astore i, 2)) (hn : i < nL) (hl' : (i, Value.ref x) :: lv.filter (fun q => !(q.1 == i) && !(q.1 + 1 == i && q.2.category == 2)) = lv') (kk : VV p l e R s m args below meth c cells slots Q nL D cl A H0 ws (pc + 2) lv' st) : VV p l e R s m args below meth c cells slots Q nL D cl A H0 ws pc lv (.ref x :: st) :=
  fun H locs ls hP hD hS hl => lv_astore C.1 C.2.1 hdg hl hn hl' (fun ls' h' => kk H locs ls' hP hD hS h')
theorem vv_iinc (C : cx p s m args c cc own Ts nL D cl tys) {i j : Nat} {n : Int} {x v : Int32} {lv' : List (Nat × Value)} (hdg : decode cc pc = .ok (.iinc i n, 3)) (hk : lv[j]? = some (i, .int x)) (hv : x + Int32.ofInt n = v) (hn : i < nL) (hl' : (i, Value.int v) :: lv.filter (fun q => !(q.1 == i) && !(q.1 + 1 == i && q.2.category == 2)) = lv') (kk : VV p l e R s m args below meth c cells slots Q nL D cl A H0 ws (pc + 3) lv' st) : VV p l e R s m args below meth c cells slots Q nL D cl A H0 ws pc lv st :=
  fun H locs ls hP hD hS hl => lv_iinc C.1 C.2.1 hdg hl hk hv hn hl' (fun ls' h' => kk H locs ls' hP hD hS h')
theorem vv_iadd (C : cx p s m args c cc own Ts nL D cl tys) {x y : Int32} (hdg : decode cc pc = .ok (.iadd, 1)) (kk : VV p l e R s m args below meth c cells slots Q nL D cl A H0 ws (pc + 1) lv (.int (x + y) :: st)) : VV p l e R s m args below meth c cells slots Q nL D cl A H0 ws pc lv (.int y :: .int x :: st) :=
  fun H locs ls hP hD hS hl => lv_iadd C.1 C.2.1 hdg (kk H locs ls hP hD hS hl)
theorem vv_isub (C : cx p s m args c cc own Ts nL D cl tys) {x y : Int32} (hdg : decode cc pc = .ok (.isub, 1)) (kk : VV p l e R s m args below meth c cells slots Q nL D cl A H0 ws (pc + 1) lv (.int (x - y) :: st)) : VV p l e R s m args below meth c cells slots Q nL D cl A H0 ws pc lv (.int y :: .int x :: st) :=
  fun H locs ls hP hD hS hl => lv_isub C.1 C.2.1 hdg (kk H locs ls hP hD hS hl)
theorem vv_imul (C : cx p s m args c cc own Ts nL D cl tys) {x y : Int32} (hdg : decode cc pc = .ok (.imul, 1)) (kk : VV p l e R s m args below meth c cells slots Q nL D cl A H0 ws (pc + 1) lv (.int (x * y) :: st)) : VV p l e R s m args below meth c cells slots Q nL D cl A H0 ws pc lv (.int y :: .int x :: st) :=
  fun H locs ls hP hD hS hl => lv_imul C.1 C.2.1 hdg (kk H locs ls hP hD hS hl)
theorem vv_iand (C : cx p s m args c cc own Ts nL D cl tys) {x y : Int32} (hdg : decode cc pc = .ok (.iand, 1)) (kk : VV p l e R s m args below meth c cells slots Q nL D cl A H0 ws (pc + 1) lv (.int (x &&& y) :: st)) : VV p l e R s m args below meth c cells slots Q nL D cl A H0 ws pc lv (.int y :: .int x :: st) :=
  fun H locs ls hP hD hS hl => lv_iand C.1 C.2.1 hdg (kk H locs ls hP hD hS hl)
theorem vv_ishl (C : cx p s m args c cc own Ts nL D cl tys) {x y : Int32} (hdg : decode cc pc = .ok (.ishl, 1)) (kk : VV p l e R s m args below meth c cells slots Q nL D cl A H0 ws (pc + 1) lv (.int (x <<< (y &&& 31)) :: st)) : VV p l e R s m args below meth c cells slots Q nL D cl A H0 ws pc lv (.int y :: .int x :: st) :=
  fun H locs ls hP hD hS hl => lv_ishl C.1 C.2.1 hdg (kk H locs ls hP hD hS hl)
theorem vv_ishr (C : cx p s m args c cc own Ts nL D cl tys) {x y : Int32} (hdg : decode cc pc = .ok (.ishr, 1)) (kk : VV p l e R s m args below meth c cells slots Q nL D cl A H0 ws (pc + 1) lv (.int (x >>> (y &&& 31)) :: st)) : VV p l e R s m args below meth c cells slots Q nL D cl A H0 ws pc lv (.int y :: .int x :: st) :=
  fun H locs ls hP hD hS hl => lv_ishr C.1 C.2.1 hdg (kk H locs ls hP hD hS hl)
theorem vv_idiv (C : cx p s m args c cc own Ts nL D cl tys) {x y : Int32} (hdg : decode cc pc = .ok (.idiv, 1)) (hne : ¬ y = 0) (kk : VV p l e R s m args below meth c cells slots Q nL D cl A H0 ws (pc + 1) lv (.int (x / y) :: st)) : VV p l e R s m args below meth c cells slots Q nL D cl A H0 ws pc lv (.int y :: .int x :: st) :=
  fun H locs ls hP hD hS hl => lv_idiv C.1 C.2.1 hdg hne (kk H locs ls hP hD hS hl)
theorem vv_dup (C : cx p s m args c cc own Ts nL D cl tys) {va : Value} (hdg : decode cc pc = .ok (.dup, 1)) (hva : va.category = 1) (kk : VV p l e R s m args below meth c cells slots Q nL D cl A H0 ws (pc + 1) lv (va :: va :: st)) : VV p l e R s m args below meth c cells slots Q nL D cl A H0 ws pc lv (va :: st) :=
  fun H locs ls hP hD hS hl => lv_dup C.1 C.2.1 hdg hva (kk H locs ls hP hD hS hl)
theorem vv_pop (C : cx p s m args c cc own Ts nL D cl tys) {va : Value} (hdg : decode cc pc = .ok (.pop, 1)) (hva : va.category = 1) (kk : VV p l e R s m args below meth c cells slots Q nL D cl A H0 ws (pc + 1) lv st) : VV p l e R s m args below meth c cells slots Q nL D cl A H0 ws pc lv (va :: st) :=
  fun H locs ls hP hD hS hl => lv_pop C.1 C.2.1 hdg hva (kk H locs ls hP hD hS hl)
theorem vv_goto (C : cx p s m args c cc own Ts nL D cl tys) {off : Int} (tgt : Nat) (hdg : decode cc pc = .ok (.goto off, 3)) (ht : (pc : Int) + off = (tgt : Int)) (kk : VV p l e R s m args below meth c cells slots Q nL D cl A H0 ws tgt lv st) : VV p l e R s m args below meth c cells slots Q nL D cl A H0 ws pc lv st :=
  fun H locs ls hP hD hS hl => lv_goto C.1 C.2.1 hdg ht (kk H locs ls hP hD hS hl)
theorem vv_if_eq (C : cx p s m args c cc own Ts nL D cl tys) {x : Int32} {off : Int} (tgt : Nat) (hdg : decode cc pc = .ok (.ifCond .eq off, 3)) (ht : (pc : Int) + off = (tgt : Int)) (kt : x = 0 → VV p l e R s m args below meth c cells slots Q nL D cl A H0 ws tgt lv st) (kf : ¬ x = 0 → VV p l e R s m args below meth c cells slots Q nL D cl A H0 ws (pc + 3) lv st) : VV p l e R s m args below meth c cells slots Q nL D cl A H0 ws pc lv (.int x :: st) :=
  fun H locs ls hP hD hS hl => lv_if_eq C.1 C.2.1 hdg ht (fun hc => kt hc H locs ls hP hD hS hl) (fun hc => kf hc H locs ls hP hD hS hl)
theorem vv_icmp_eq (C : cx p s m args c cc own Ts nL D cl tys) {x y : Int32} {off : Int} (tgt : Nat) (hdg : decode cc pc = .ok (.if_icmp .eq off, 3)) (ht : (pc : Int) + off = (tgt : Int)) (kt : x = y → VV p l e R s m args below meth c cells slots Q nL D cl A H0 ws tgt lv st) (kf : ¬ x = y → VV p l e R s m args below meth c cells slots Q nL D cl A H0 ws (pc + 3) lv st) : VV p l e R s m args below meth c cells slots Q nL D cl A H0 ws pc lv (.int y :: .int x :: st) :=
  fun H locs ls hP hD hS hl => lv_icmp_eq C.1 C.2.1 hdg ht (fun hc => kt hc H locs ls hP hD hS hl) (fun hc => kf hc H locs ls hP hD hS hl)
theorem vv_if_ne (C : cx p s m args c cc own Ts nL D cl tys) {x : Int32} {off : Int} (tgt : Nat) (hdg : decode cc pc = .ok (.ifCond .ne off, 3)) (ht : (pc : Int) + off = (tgt : Int)) (kt : ¬ x = 0 → VV p l e R s m args below meth c cells slots Q nL D cl A H0 ws tgt lv st) (kf : x = 0 → VV p l e R s m args below meth c cells slots Q nL D cl A H0 ws (pc + 3) lv st) : VV p l e R s m args below meth c cells slots Q nL D cl A H0 ws pc lv (.int x :: st) :=
  fun H locs ls hP hD hS hl => lv_if_ne C.1 C.2.1 hdg ht (fun hc => kt hc H locs ls hP hD hS hl) (fun hc => kf hc H locs ls hP hD hS hl)
theorem vv_icmp_ne (C : cx p s m args c cc own Ts nL D cl tys) {x y : Int32} {off : Int} (tgt : Nat) (hdg : decode cc pc = .ok (.if_icmp .ne off, 3)) (ht : (pc : Int) + off = (tgt : Int)) (kt : ¬ x = y → VV p l e R s m args below meth c cells slots Q nL D cl A H0 ws tgt lv st) (kf : x = y → VV p l e R s m args below meth c cells slots Q nL D cl A H0 ws (pc + 3) lv st) : VV p l e R s m args below meth c cells slots Q nL D cl A H0 ws pc lv (.int y :: .int x :: st) :=
  fun H locs ls hP hD hS hl => lv_icmp_ne C.1 C.2.1 hdg ht (fun hc => kt hc H locs ls hP hD hS hl) (fun hc => kf hc H locs ls hP hD hS hl)
theorem vv_if_lt (C : cx p s m args c cc own Ts nL D cl tys) {x : Int32} {off : Int} (tgt : Nat) (hdg : decode cc pc = .ok (.ifCond .lt off, 3)) (ht : (pc : Int) + off = (tgt : Int)) (kt : x < 0 → VV p l e R s m args below meth c cells slots Q nL D cl A H0 ws tgt lv st) (kf : ¬ x < 0 → VV p l e R s m args below meth c cells slots Q nL D cl A H0 ws (pc + 3) lv st) : VV p l e R s m args below meth c cells slots Q nL D cl A H0 ws pc lv (.int x :: st) :=
  fun H locs ls hP hD hS hl => lv_if_lt C.1 C.2.1 hdg ht (fun hc => kt hc H locs ls hP hD hS hl) (fun hc => kf hc H locs ls hP hD hS hl)
theorem vv_icmp_lt (C : cx p s m args c cc own Ts nL D cl tys) {x y : Int32} {off : Int} (tgt : Nat) (hdg : decode cc pc = .ok (.if_icmp .lt off, 3)) (ht : (pc : Int) + off = (tgt : Int)) (kt : x < y → VV p l e R s m args below meth c cells slots Q nL D cl A H0 ws tgt lv st) (kf : ¬ x < y → VV p l e R s m args below meth c cells slots Q nL D cl A H0 ws (pc + 3) lv st) : VV p l e R s m args below meth c cells slots Q nL D cl A H0 ws pc lv (.int y :: .int x :: st) :=
  fun H locs ls hP hD hS hl => lv_icmp_lt C.1 C.2.1 hdg ht (fun hc => kt hc H locs ls hP hD hS hl) (fun hc => kf hc H locs ls hP hD hS hl)
theorem vv_if_ge (C : cx p s m args c cc own Ts nL D cl tys) {x : Int32} {off : Int} (tgt : Nat) (hdg : decode cc pc = .ok (.ifCond .ge off, 3)) (ht : (pc : Int) + off = (tgt : Int)) (kt : 0 ≤ x → VV p l e R s m args below meth c cells slots Q nL D cl A H0 ws tgt lv st) (kf : ¬ 0 ≤ x → VV p l e R s m args below meth c cells slots Q nL D cl A H0 ws (pc + 3) lv st) : VV p l e R s m args below meth c cells slots Q nL D cl A H0 ws pc lv (.int x :: st) :=
  fun H locs ls hP hD hS hl => lv_if_ge C.1 C.2.1 hdg ht (fun hc => kt hc H locs ls hP hD hS hl) (fun hc => kf hc H locs ls hP hD hS hl)
theorem vv_icmp_ge (C : cx p s m args c cc own Ts nL D cl tys) {x y : Int32} {off : Int} (tgt : Nat) (hdg : decode cc pc = .ok (.if_icmp .ge off, 3)) (ht : (pc : Int) + off = (tgt : Int)) (kt : y ≤ x → VV p l e R s m args below meth c cells slots Q nL D cl A H0 ws tgt lv st) (kf : ¬ y ≤ x → VV p l e R s m args below meth c cells slots Q nL D cl A H0 ws (pc + 3) lv st) : VV p l e R s m args below meth c cells slots Q nL D cl A H0 ws pc lv (.int y :: .int x :: st) :=
  fun H locs ls hP hD hS hl => lv_icmp_ge C.1 C.2.1 hdg ht (fun hc => kt hc H locs ls hP hD hS hl) (fun hc => kf hc H locs ls hP hD hS hl)
theorem vv_if_gt (C : cx p s m args c cc own Ts nL D cl tys) {x : Int32} {off : Int} (tgt : Nat) (hdg : decode cc pc = .ok (.ifCond .gt off, 3)) (ht : (pc : Int) + off = (tgt : Int)) (kt : 0 < x → VV p l e R s m args below meth c cells slots Q nL D cl A H0 ws tgt lv st) (kf : ¬ 0 < x → VV p l e R s m args below meth c cells slots Q nL D cl A H0 ws (pc + 3) lv st) : VV p l e R s m args below meth c cells slots Q nL D cl A H0 ws pc lv (.int x :: st) :=
  fun H locs ls hP hD hS hl => lv_if_gt C.1 C.2.1 hdg ht (fun hc => kt hc H locs ls hP hD hS hl) (fun hc => kf hc H locs ls hP hD hS hl)
theorem vv_icmp_gt (C : cx p s m args c cc own Ts nL D cl tys) {x y : Int32} {off : Int} (tgt : Nat) (hdg : decode cc pc = .ok (.if_icmp .gt off, 3)) (ht : (pc : Int) + off = (tgt : Int)) (kt : y < x → VV p l e R s m args below meth c cells slots Q nL D cl A H0 ws tgt lv st) (kf : ¬ y < x → VV p l e R s m args below meth c cells slots Q nL D cl A H0 ws (pc + 3) lv st) : VV p l e R s m args below meth c cells slots Q nL D cl A H0 ws pc lv (.int y :: .int x :: st) :=
  fun H locs ls hP hD hS hl => lv_icmp_gt C.1 C.2.1 hdg ht (fun hc => kt hc H locs ls hP hD hS hl) (fun hc => kf hc H locs ls hP hD hS hl)
theorem vv_if_le (C : cx p s m args c cc own Ts nL D cl tys) {x : Int32} {off : Int} (tgt : Nat) (hdg : decode cc pc = .ok (.ifCond .le off, 3)) (ht : (pc : Int) + off = (tgt : Int)) (kt : x ≤ 0 → VV p l e R s m args below meth c cells slots Q nL D cl A H0 ws tgt lv st) (kf : ¬ x ≤ 0 → VV p l e R s m args below meth c cells slots Q nL D cl A H0 ws (pc + 3) lv st) : VV p l e R s m args below meth c cells slots Q nL D cl A H0 ws pc lv (.int x :: st) :=
  fun H locs ls hP hD hS hl => lv_if_le C.1 C.2.1 hdg ht (fun hc => kt hc H locs ls hP hD hS hl) (fun hc => kf hc H locs ls hP hD hS hl)
theorem vv_icmp_le (C : cx p s m args c cc own Ts nL D cl tys) {x y : Int32} {off : Int} (tgt : Nat) (hdg : decode cc pc = .ok (.if_icmp .le off, 3)) (ht : (pc : Int) + off = (tgt : Int)) (kt : x ≤ y → VV p l e R s m args below meth c cells slots Q nL D cl A H0 ws tgt lv st) (kf : ¬ x ≤ y → VV p l e R s m args below meth c cells slots Q nL D cl A H0 ws (pc + 3) lv st) : VV p l e R s m args below meth c cells slots Q nL D cl A H0 ws pc lv (.int y :: .int x :: st) :=
  fun H locs ls hP hD hS hl => lv_icmp_le C.1 C.2.1 hdg ht (fun hc => kt hc H locs ls hP hD hS hl) (fun hc => kf hc H locs ls hP hD hS hl)
theorem vv_tableOut (C : cx p s m args c cc own Ts nL D cl tys) {dflt lo hi : Int} {offs : Array Int} {len : Nat} {x : Int32} (tgt : Nat) (hdg : decode cc pc = .ok (.tableswitch dflt lo hi offs, len)) (h : x.toInt < lo ∨ hi < x.toInt) (ht : (pc : Int) + dflt = (tgt : Int)) (kk : VV p l e R s m args below meth c cells slots Q nL D cl A H0 ws tgt lv st) : VV p l e R s m args below meth c cells slots Q nL D cl A H0 ws pc lv (.int x :: st) :=
  fun H locs ls hP hD hS hl => lv_tableOut C.1 C.2.1 hdg h ht (kk H locs ls hP hD hS hl)
theorem vv_tableIn (C : cx p s m args c cc own Ts nL D cl tys) {dflt lo hi : Int} {offs : Array Int} {len : Nat} {x : Int32} {off : Int} (tgt : Nat) (hdg : decode cc pc = .ok (.tableswitch dflt lo hi offs, len)) (h1 : ¬ x.toInt < lo) (h2 : ¬ hi < x.toInt) (ho : offs[(x.toInt - lo).toNat]? = some off) (ht : (pc : Int) + off = (tgt : Int)) (kk : VV p l e R s m args below meth c cells slots Q nL D cl A H0 ws tgt lv st) : VV p l e R s m args below meth c cells slots Q nL D cl A H0 ws pc lv (.int x :: st) :=
  fun H locs ls hP hD hS hl => lv_tableIn C.1 C.2.1 hdg h1 h2 ho ht (kk H locs ls hP hD hS hl)
theorem vv_lookup (C : cx p s m args c cc own Ts nL D cl tys) {dflt : Int} {ps : Array (Int × Int)} {len : Nat} {x : Int32} {off : Int} (tgt : Nat) (hdg : decode cc pc = .ok (.lookupswitch dflt ps, len)) (hp : (ps.toList.zip (ps.toList.drop 1)).all (fun (a, next) => a.1 < next.1) = true) (ho : Op.lookupswitch.offset ps.toList dflt x.toInt = off) (ht : (pc : Int) + off = (tgt : Int)) (kk : VV p l e R s m args below meth c cells slots Q nL D cl A H0 ws tgt lv st) : VV p l e R s m args below meth c cells slots Q nL D cl A H0 ws pc lv (.int x :: st) :=
  fun H locs ls hP hD hS hl => lv_lookup C.1 C.2.1 hdg hp ho ht (kk H locs ls hP hD hS hl)
theorem vv_topi {x : Int32} (kk : ∀ y : Int32, y = x → VV p l e R s m args below meth c cells slots Q nL D cl A H0 ws pc lv (.int y :: st)) : VV p l e R s m args below meth c cells slots Q nL D cl A H0 ws pc lv (.int x :: st) := kk x rfl
theorem vv_get (C : cx p s m args c cc own Ts nL D cl tys) {ref K : String} {T : u_T} {N ci index a : Nat} (hin : ∀ w ∈ u_ws K T N, w ∈ Ts) (q0 : Nat) {fs : List Value} (he : ws[q0]? = some (a, .inr (ci, fs))) (hc : cl[ci]? = some (K, T, N)) (k : Nat) (hk : k < N) (hlink : Cond.fieldLink own index ref (T k).2.1 (T k).2.2.1 ∈ Ts) (hsame : (T k).1 = ref) {v : Value} (hv : fs[k]? = some v) (hdg : decode cc pc = .ok (.getfield index, 3)) (kk : VV p l e R s m args below meth c cells slots Q nL D cl A H0 ws (pc + 3) lv (v :: st)) : VV p l e R s m args below meth c cells slots Q nL D cl A H0 ws pc lv (.ref a :: st) :=
  fun H locs ls hP hD hS hl => va_get C.1 C.2.1 C.2.2.2.2.1 hin C.2.2.2.1 C.2.2.2.2.2 hP q0 he hc k hk (C.2.2.2.2.1 _ hlink) (fun _ h => hsame ▸ h) hv hdg (kk H locs ls hP hD hS hl)
theorem vv_put (C : cx p s m args c cc own Ts nL D cl tys) {ref K : String} {T : u_T} {N ci index a : Nat} (hin : ∀ w ∈ u_ws K T N, w ∈ Ts) (ty0 : Nat → FieldType) (hty : ∀ k, k < N → parseFieldDescriptor (T k).2.2.1 = some (ty0 k)) (hnm : ∀ a, a < N → ∀ b, b < N → a ≠ b → (T a).2.1 ≠ (T b).2.1) (q0 : Nat) {fs : List Value} (he : ws[q0]? = some (a, .inr (ci, fs))) (hc : cl[ci]? = some (K, T, N)) (k : Nat) (hk : k < N) (hlink : Cond.fieldLink own index ref (T k).2.1 (T k).2.2.1 ∈ Ts) (hsame : (T k).1 = ref) (hfin : (T k).2.2.2 = false) {ty : FieldType} {v : Value} (hd : parseFieldDescriptor (T k).2.2.1 = some ty) (hn : narrow ty v = v) (hfit : fits ty v = true) (hlf : k < fs.length) {ws' : va_W} (hset : ws.set q0 (a, .inr (ci, fs.set k v)) = ws') (hdg : decode cc pc = .ok (.putfield index, 3)) (kk : VV p l e R s m args below meth c cells slots Q nL D cl A H0 ws' (pc + 3) lv st) : VV p l e R s m args below meth c cells slots Q nL D cl A H0 ws pc lv (v :: .ref a :: st) :=
  fun H locs ls hP hD hS hl => va_put C.1 C.2.1 C.2.2.2.2.1 hin ty0 hty hnm C.2.2.2.1 C.2.2.2.2.2 hP hD hS q0 he hc k hk (C.2.2.2.2.1 _ hlink) (fun _ h => hsame ▸ h) hfin hd hn hfit hlf hdg (fun H1 locs1 hP1 hD1 hS1 => kk H1 locs1 ls (hset ▸ hP1) (hset ▸ hD1) hS1 hl)
theorem vv_iald (C : cx p s m args c cc own Ts nL D cl tys) {a : Nat} (q0 t0 : Nat) {cA : ClassId} {n : Nat} {f : Nat → Int32} (ha : ws[q0]? = some (a, .inl (cA, n, .inl f))) (ht : tys[t0]? = some (cA, .int)) {i : Int32} (hin : vp_in i n) (hdg : decode cc pc = .ok (.iaload, 1)) (kk : VV p l e R s m args below meth c cells slots Q nL D cl A H0 ws (pc + 1) lv (.int (f i.toNatClampNeg) :: st)) : VV p l e R s m args below meth c cells slots Q nL D cl A H0 ws pc lv (.int i :: .ref a :: st) :=
  fun H locs ls hP hD hS hl => va_iald C.1 C.2.1 C.2.2.2.2.2 hP q0 t0 ha ht hin hdg (kk H locs ls hP hD hS hl)
theorem vv_zald (C : cx p s m args c cc own Ts nL D cl tys) {a : Nat} (q0 t0 : Nat) {cA : ClassId} {n : Nat} {f : Nat → Int32} (ha : ws[q0]? = some (a, .inl (cA, n, .inl f))) (ht : tys[t0]? = some (cA, .boolean)) {i : Int32} (hin : vp_in i n) (hdg : decode cc pc = .ok (.baload, 1)) (kk : VV p l e R s m args below meth c cells slots Q nL D cl A H0 ws (pc + 1) lv (.int (f i.toNatClampNeg) :: st)) : VV p l e R s m args below meth c cells slots Q nL D cl A H0 ws pc lv (.int i :: .ref a :: st) :=
  fun H locs ls hP hD hS hl => va_zald C.1 C.2.1 C.2.2.2.2.2 hP q0 t0 ha ht hin hdg (kk H locs ls hP hD hS hl)
theorem vv_iast (C : cx p s m args c cc own Ts nL D cl tys) {a : Nat} (q0 t0 : Nat) {cA : ClassId} {n : Nat} {f : Nat → Int32} (ha : ws[q0]? = some (a, .inl (cA, n, .inl f))) (ht : tys[t0]? = some (cA, .int)) {i x : Int32} (hin : vp_in i n) {ws' : va_W} (hset : ws.set q0 (a, .inl (cA, n, .inl (upd f i.toNatClampNeg x))) = ws') (hdg : decode cc pc = .ok (.iastore, 1)) (kk : VV p l e R s m args below meth c cells slots Q nL D cl A H0 ws' (pc + 1) lv st) : VV p l e R s m args below meth c cells slots Q nL D cl A H0 ws pc lv (.int x :: .int i :: .ref a :: st) :=
  fun H locs ls hP hD hS hl => va_iast C.1 C.2.1 C.2.2.2.2.2 hP hD hS q0 t0 ha ht hin hdg (fun H1 locs1 hP1 hD1 hS1 => kk H1 locs1 ls (hset ▸ hP1) (hset ▸ hD1) hS1 hl)
theorem vv_zast (C : cx p s m args c cc own Ts nL D cl tys) {a : Nat} (q0 t0 : Nat) {cA : ClassId} {n : Nat} {f : Nat → Int32} (ha : ws[q0]? = some (a, .inl (cA, n, .inl f))) (ht : tys[t0]? = some (cA, .boolean)) {i x : Int32} (hin : vp_in i n) {ws' : va_W} (hset : ws.set q0 (a, .inl (cA, n, .inl (upd f i.toNatClampNeg (vp_nar .boolean x)))) = ws') (hdg : decode cc pc = .ok (.bastore, 1)) (kk : VV p l e R s m args below meth c cells slots Q nL D cl A H0 ws' (pc + 1) lv st) : VV p l e R s m args below meth c cells slots Q nL D cl A H0 ws pc lv (.int x :: .int i :: .ref a :: st) :=
  fun H locs ls hP hD hS hl => va_zast C.1 C.2.1 C.2.2.2.2.2 hP hD hS q0 t0 ha ht hin hdg (fun H1 locs1 hP1 hD1 hS1 => kk H1 locs1 ls (hset ▸ hP1) (hset ▸ hD1) hS1 hl)
theorem vv_aldq (C : cx p s m args c cc own Ts nL D cl tys) {a : Nat} (q0 t0 : Nat) {cA : ClassId} {K : String} {n : Nat} {f : Nat → Option Nat} (ha : ws[q0]? = some (a, .inl (cA, n, .inr (.inr (.inr (.inr f)))))) (ht : tys[t0]? = some (cA, .object K)) {i : Int32} (hin : vp_in i n) {v : Nat} (hv : f i.toNatClampNeg = some v) (hdg : decode cc pc = .ok (.aaload, 1)) (kk : VV p l e R s m args below meth c cells slots Q nL D cl A H0 ws (pc + 1) lv (.ref v :: st)) : VV p l e R s m args below meth c cells slots Q nL D cl A H0 ws pc lv (.int i :: .ref a :: st) :=
  fun H locs ls hP hD hS hl => va_aldq C.1 C.2.1 C.2.2.2.2.2 hP q0 t0 ha ht hin hdg (by rw [hv]; exact kk H locs ls hP hD hS hl)
theorem vv_astq (C : cx p s m args c cc own Ts nL D cl tys) {a : Nat} (q0 t0 qk ci : Nat) {cA : ClassId} {r : vw_C} {n v : Nat} {vs : List Value} {f : Nat → Option Nat} (ha : ws[q0]? = some (a, .inl (cA, n, .inr (.inr (.inr (.inr f)))))) (ht : tys[t0]? = some (cA, .object r.1)) (hv : ws[qk]? = some (v, .inr (ci, vs))) (hc : cl[ci]? = some r) {i : Int32} (hin : vp_in i n) {ws' : va_W} (hset : ws.set q0 (a, .inl (cA, n, .inr (.inr (.inr (.inr (va_up f i.toNatClampNeg (some v))))))) = ws') (hdg : decode cc pc = .ok (.aastore, 1)) (kk : VV p l e R s m args below meth c cells slots Q nL D cl A H0 ws' (pc + 1) lv st) : VV p l e R s m args below meth c cells slots Q nL D cl A H0 ws pc lv (.ref v :: .int i :: .ref a :: st) :=
  fun H locs ls hP hD hS hl => va_astq C.1 C.2.1 C.2.2.2.2.2 hP hD hS q0 t0 qk ci ha ht hv hc hin hdg (fun H1 locs1 hP1 hD1 hS1 => kk H1 locs1 ls (hset ▸ hP1) (hset ▸ hD1) hS1 hl)
theorem vv_alen (C : cx p s m args c cc own Ts nL D cl tys) {a : Nat} (q0 t0 : Nat) {cA : ClassId} {x : vp_A} (ha : ws[q0]? = some (a, .inl (cA, x))) {ty : FieldType} (ht : tys[t0]? = some (cA, ty)) {v : Int32} (hv : Int32.ofNat x.1 = v) (hdg : decode cc pc = .ok (.arraylength, 1)) (kk : VV p l e R s m args below meth c cells slots Q nL D cl A H0 ws (pc + 1) lv (.int v :: st)) : VV p l e R s m args below meth c cells slots Q nL D cl A H0 ws pc lv (.ref a :: st) :=
  fun H locs ls hP hD hS hl => va_alen C.1 C.2.1 C.2.2.2.2.2 hP q0 t0 ha ht hv hdg (kk H locs ls hP hD hS hl)
end VVS
end
section
/-! a contract without new cells: from the world ws with the arguments av the method answers rv and leaves the world ws'; nothing outside G changes -/
def ctQ (D : va_G) (cl : List vw_C) (G : Nat → Prop) (rv : Option Value) (ws' : va_W) : Array Value → State → Outcome → State → Prop := fun _ st oc t => (oc = .returned rv ∧ va_P D cl ws' t.heap) ∧ va_F G st t
def ctP (D : va_G) (cl : List vw_C) (tys : List (ClassId × FieldType)) (G : Nat → Prop) (ws : va_W) (U : State) : Prop := va_P D cl ws U.heap ∧ va_K D cl tys U ∧ va_D G ws
def Ct (l : Launch) (y : MethodName) (wsC : List Cond) (rm : Room) (D : va_G) (cl : List vw_C) (tys : List (ClassId × FieldType)) (G : Nat → Prop) (av : List Value) (ws : va_W) (rv : Option Value) (ws' : va_W) : Prop :=
  Met l y wsC rm (va_Pc av (ctP D cl tys G ws)) (ctQ D cl G rv ws') 0 0 G
/-- the room of a method whose calls nest at most d deep -/
def rmD (d : Nat) : Room := { frames := d, cells := 0, slots := 0, locals := 40 * d }
theorem ctP_blind {D : va_G} {cl : List vw_C} {tys : List (ClassId × FieldType)} {G : Nat → Prop} {ws : va_W} {av : List Value} : FrameBlind (va_Pc av (ctP D cl tys G ws)) := by
  intro a U g mk q
  obtain ⟨q0, qP, qK, qD⟩ := q
  exact ⟨q0, qP, va_K.moved (u := U) (U := U.calling g mk a) (Vm.Alike.refl U.vm) qK, qD⟩
section CTS
variable {p : Program} {l : Launch} {e : Env} {R : Room} {s : State} {m : MethodId} {args : Array Value} {below : List Frame} {meth : Method} {c : Code} {cells slots : Nat} {Q : State → Prop}
variable {cc : ByteArray} {own : String} {Ts : List Cond} {nL : Nat} {D : va_G} {cl : List vw_C} {tys tys' : List (ClassId × FieldType)} {A G : Nat → Prop} {H0 : Heap} {ws ws' : va_W} {pc : Nat} {lv : List (Nat × Value)} {st : List Value}
theorem ct_of {y : MethodName} {bytes : ByteArray} {maxL : Nat} {ret : Option FieldType} {wsC : List Cond} {rm : Room} {av : List Value} {rv : Option Value} (hy : plainName y.cls = true) (hlen : (lg_sl av).length ≤ maxL)
    (body : ∀ (p : Program) (e : Env) (s : State) (m : MethodId) (args : Array Value) (below : List Frame) (meth : Method) (c : Code), cx p s m args c bytes y.cls wsC maxL D cl tys → meth.sig.returnType = ret → meth.locks = false →
      VV p l e rm s m args below meth c 0 0 (MQ below (ctQ D cl G rv ws') args s 0 0 G) maxL D cl G s.heap ws 0 (lv_args 0 av) []) : Ct l y (Cond.code y bytes maxL ret :: wsC) rm D cl tys G av ws rv ws' := by
  refine Met.ofW (cc := bytes) (maxL := maxL) (ret := ret) hy rfl ?_
  intro p e s m args below meth c s₁ B hml hv
  obtain ⟨rfl, hP, hK, hD⟩ := hv
  have hts := atoms_spec (ws := Cond.code y bytes maxL ret :: wsC) B.pre
  have hown : s.vm.findClass y.cls = some m.cls := findClass_of_methodNamed B.named
  rw [lg_entry_eq]
  exact body p e s m _ below meth c ⟨B.exec, B.bytes, hml, hown, fun w h => hts w (List.mem_cons_of_mem _ h), hK⟩ B.returns B.notSynchronized s.heap [] _ hP hD va_S.rf (lv_entry av hlen)
theorem vv_iret (C : cx p s m args c cc own Ts nL D cl tys) (hr : meth.sig.returnType = some .int) (hlocks : meth.locks = false) {v : Int32} {rv : Option Value} (hrv : rv = some (.int v)) (hws : ws = ws') (hdg : decode cc pc = .ok (.ireturn, 1)) :
    VV p l e R s m args below meth c 0 0 (MQ below (ctQ D cl G rv ws') args s 0 0 G) nL D cl G s.heap ws pc lv [.int v] :=
  fun H locs ls hP hD hS hl => W.iret C.1 C.2.1 hr (fun t ht hW => ⟨⟨by rw [hrv], by rw [ht, ← hws]; exact hP⟩, hS.F ht⟩) hS.2.2 hdg hlocks
theorem vv_zret (C : cx p s m args c cc own Ts nL D cl tys) (hr : meth.sig.returnType = some .boolean) (hlocks : meth.locks = false) {v : Int32} {rv : Option Value} (hn : narrow .boolean (.int v) = .int v) (hrv : rv = some (.int v)) (hws : ws = ws') (hdg : decode cc pc = .ok (.ireturn, 1)) :
    VV p l e R s m args below meth c 0 0 (MQ below (ctQ D cl G rv ws') args s 0 0 G) nL D cl G s.heap ws pc lv [.int v] :=
  fun H locs ls hP hD hS hl => W.zret C.1 C.2.1 hr hn (fun t ht hW => ⟨⟨by rw [hrv], by rw [ht, ← hws]; exact hP⟩, hS.F ht⟩) hS.2.2 hdg hlocks
theorem vv_vret (C : cx p s m args c cc own Ts nL D cl tys) (hr : meth.sig.returnType = none) (hlocks : meth.locks = false) {rv : Option Value} (hrv : rv = none) (hws : ws = ws') (hdg : decode cc pc = .ok (.return_, 1)) :
    VV p l e R s m args below meth c 0 0 (MQ below (ctQ D cl G rv ws') args s 0 0 G) nL D cl G s.heap ws pc lv [] :=
  fun H locs ls hP hD hS hl => W.vret C.1 C.2.1 hr (fun t ht hW => ⟨⟨by rw [hrv], by rw [ht, ← hws]; exact hP⟩, hS.F ht⟩) hS.2.2 hdg hlocks
theorem vv_aret (C : cx p s m args c cc own Ts nL D cl tys) {K : String} (hr : meth.sig.returnType = some (.object K)) (hlocks : meth.locks = false) {a : Nat} {rv : Option Value} (hrv : rv = some (.ref a)) (hws : ws = ws') (hdg : decode cc pc = .ok (.areturn, 1)) :
    VV p l e R s m args below meth c 0 0 (MQ below (ctQ D cl G rv ws') args s 0 0 G) nL D cl G s.heap ws pc lv [.ref a] :=
  fun H locs ls hP hD hS hl => W.aret C.1 C.2.1 hr (Or.inl ⟨K, rfl⟩) (Or.inr ⟨a, rfl⟩) (fun t ht hW => ⟨⟨by rw [hrv], by rw [ht, ← hws]; exact hP⟩, hS.F ht⟩) hS.2.2 hdg hlocks
/-- behind a call -/
theorem ct_go {rest st0 : List Value} {rv : Option Value} {H : Heap} {locs : List Loc} {ls : Array Slot} {a : Array Value}
    (hr : va_Run p l e R s m args below meth c H locs cells slots 0 0 (F0 m pc ls st0) rest (ctQ D cl G rv ws' a) G) (hS : va_S A H0 H locs) (hG : ∀ q, G q → A q)
    (kk : ∀ (H1 : Heap) (locs1 : List Loc), va_P D cl ws' H1 → va_S A H0 H1 locs1 → H.size ≤ H1.size → (∀ q : Nat, q < H.size → ¬ G q → H1[q]? = H[q]?) → W p l e R s m args below meth c H1 locs1 cells slots Q (F0 m (pc + 3) ls (rv.toList ++ rest))) :
    W p l e R s m args below meth c H locs cells slots Q (F0 m pc ls st0) := by
  intro T hT X
  obtain ⟨v, st₀, t, T', L, h0, X', hL, e1, e2, ⟨⟨hv, hp⟩, hz, hk⟩, st⟩ := hr T hT X
  cases hv
  rw [h0] at hz hk
  obtain ⟨t2, a1, b1⟩ := kk T'.heap (locs ++ L) (by rw [e1]; exact hp)
    ⟨Nat.le_trans hS.1 (by rw [e1]; exact hz), fun q h1 h2 => by rw [e1, hk q (Nat.lt_of_lt_of_le h1 hS.1) (fun z => h2 (hG q z))]; exact hS.2.1 q h1 h2, fun q hq => by
      rcases List.mem_append.mp hq with h | h
      · exact hS.2.2 q h
      · exact hG _ (hL q h)⟩ (by rw [e1]; exact hz) (fun q h1 h2 => by rw [e1]; exact hk q h1 h2) T' rfl X'
  exact ⟨t2, st t2 a1, b1⟩
/-- the words of a call of an instance method of the class K, out of the caller's words -/
def callVw (own : String) (index : Nat) (K : String) (y : MethodName) (bytes : ByteArray) (maxL : Nat) (ret : Option FieldType) (Ts wsC : List Cond) (n : Nat) : Prop :=
  GoodIn Ts (wsV own index K y (Cond.code y bytes maxL ret :: wsC)) ∧ y.cls = K ∧ y.cls ≠ "java/lang/invoke/MethodHandle" ∧ y.cls ≠ "java/lang/invoke/VarHandle" ∧ (parseMethodDescriptor y.desc).map (fun d => d.parameters.length) = some n
def callSw (own : String) (index : Nat) (y : MethodName) (bytes : ByteArray) (maxL : Nat) (ret : Option FieldType) (Ts wsC : List Cond) (n : Nat) : Prop :=
  GoodIn Ts (wsS own index y (Cond.code y bytes maxL ret :: wsC)) ∧ y.cls = own ∧ y.cls ≠ "java/lang/invoke/MethodHandle" ∧ y.cls ≠ "java/lang/invoke/VarHandle" ∧ (parseMethodDescriptor y.desc).map (fun d => d.parameters.length) = some n
def fitsIn (maxL : Nat) (rm R : Room) : Prop := rm.cells = 0 ∧ rm.slots = 0 ∧ rm.frames + 1 ≤ R.frames ∧ 8 + (maxL + 11) + rm.locals ≤ R.locals
theorem fitsIn_D {maxL d d' : Nat} (hm : maxL ≤ 21) (hd : d + 1 ≤ d') : fitsIn maxL (rmD d) (rmD d') := ⟨rfl, rfl, hd, by show 8 + (maxL + 11) + 40 * d ≤ 40 * d'; omega⟩
theorem vv_callV (C : cx p s m args c cc own Ts nL D cl tys) {index maxL n : Nat} {K : String} {y : MethodName} {bytes : ByteArray} {ret : Option FieldType} {wsC : List Cond} {rm : Room} {b : Nat} {As rest : List Value} {rv : Option Value}
    (hM : Ct l y (Cond.code y bytes maxL ret :: wsC) rm D cl tys G (.ref b :: As) ws rv ws') (cw : callVw own index K y bytes maxL ret Ts wsC n) (hn : As.length = n) (q0 : Nat) {ci N : Nat} {T : u_T} {fs : List Value} (he : ws[q0]? = some (b, .inr (ci, fs))) (hc : cl[ci]? = some (K, T, N))
    (hst : st = As.reverse ++ .ref b :: rest) (hW : (rest.map fun v => v.category).sum ≤ 8) (hR : fitsIn maxL rm R) (hcs : cells ≤ R.cells ∧ slots ≤ R.slots) (hdg : decode cc pc = .ok (.invokevirtual index, 3)) (hG : ∀ q, G q → A q) (hDG : va_D A ws → va_D G ws) (hDA : va_D A ws → va_D A ws')
    (kk : VV p l e R s m args below meth c cells slots Q nL D cl A H0 ws' (pc + 3) lv (rv.toList ++ rest)) : VV p l e R s m args below meth c cells slots Q nL D cl A H0 ws pc lv st := by
  intro H locs ls hP hD hS hl
  obtain ⟨hx, hb, hml, hown, hts, hK⟩ := C
  obtain ⟨hR0, hR1, hR2⟩ := hR
  refine ct_go (G := G) (rest := rest) (va_runV (n := n) (C := K) ⟨hx, hb, hml, hown, hts⟩ hM (cwV n hts cw.1 rfl hR0 hR1 cw.2 hR2) ⟨ctP_blind, va_recv hK hP hc he, fun U hU hW => ⟨rfl, by rw [hU]; exact hP, va_K.moved hW.alike hK, hDG hD⟩⟩ rfl hn hl.1 hst (lv_room hW) hdg ⟨by omega, by omega⟩) hS hG (fun H1 locs1 hP1 hS1 _ _ => kk H1 locs1 ls hP1 (hDA hD) hS1 hl)
theorem vv_callS (C : cx p s m args c cc own Ts nL D cl tys) {index maxL n : Nat} {y : MethodName} {bytes : ByteArray} {ret : Option FieldType} {wsC : List Cond} {rm : Room} {As rest : List Value} {rv : Option Value}
    (hM : Ct l y (Cond.code y bytes maxL ret :: wsC) rm D cl tys G As ws rv ws') (cw : callSw own index y bytes maxL ret Ts wsC n) (hn : As.length = n)
    (hst : st = As.reverse ++ rest) (hW : (rest.map fun v => v.category).sum ≤ 8) (hR : fitsIn maxL rm R) (hcs : cells ≤ R.cells ∧ slots ≤ R.slots) (hdg : decode cc pc = .ok (.invokestatic index, 3)) (hG : ∀ q, G q → A q) (hDG : va_D A ws → va_D G ws) (hDA : va_D A ws → va_D A ws')
    (kk : VV p l e R s m args below meth c cells slots Q nL D cl A H0 ws' (pc + 3) lv (rv.toList ++ rest)) : VV p l e R s m args below meth c cells slots Q nL D cl A H0 ws pc lv st := by
  intro H locs ls hP hD hS hl
  obtain ⟨hx, hb, hml, hown, hts, hK⟩ := C
  obtain ⟨hR0, hR1, hR2⟩ := hR
  refine ct_go (G := G) (rest := rest) (va_runS (n := n) ⟨hx, hb, hml, hown, hts⟩ hM (cwS n hts cw.1 rfl hR0 hR1 cw.2 hR2) ⟨ctP_blind, fun U hU hW => ⟨rfl, by rw [hU]; exact hP, va_K.moved hW.alike hK, hDG hD⟩⟩ rfl hn hl.1 hst (lv_room hW) hdg ⟨by omega, by omega⟩) hS hG (fun H1 locs1 hP1 hS1 _ _ => kk H1 locs1 ls hP1 (hDA hD) hS1 hl)
end CTS
end
section
/-! the class and the reference as functions of numbers. A state is f : Nat → Nat → Int32 (which field, which element; a single field at 0); of the class also which advisor stands at which place of the row -/
abbrev M2 : Type := Nat → Nat → Int32
def up2 (f : M2) (k i : Nat) (v : Int32) : M2 := fun k' => if k' = k then upd (f k) i v else f k'
def bI (b : Bool) : Int32 := if b = true then 1 else 0
abbrev ix (x : Int32) : Nat := x.toNatClampNeg
theorem bI_t {b : Bool} (h : ¬ bI b = 0) : b = true := by cases b <;> simp_all [bI]
theorem bI_f {b : Bool} (h : bI b = 0) : b = false := by cases b <;> simp_all [bI]
theorem bI_nar (b : Bool) : narrow .boolean (.int (bI b)) = .int (bI b) := by cases b <;> rfl
theorem bI_fit (b : Bool) : fits .boolean (.int (bI b)) = true := by cases b <;> rfl
theorem bI_vp (b : Bool) : vp_nar .boolean (bI b) = bI b := by cases b <;> rfl
/- the class. Numbers of its fields: 0 frozen 1 targetSource 2 nextInTurn 3 timesAsked 4 targetsTaken 5 value 6 there 7 nextNumber 8 length 9 methodAt 10 targetAt 11 noters 12 words; of an advisor: 13 number 14 kind 15 order 16 methods 17 a 18 b 19 hasRange 20 low 21 high; of a work: 22 factor 23 addend 24 failsAt 25 exception 26 next -/
abbrev SC : Type := M2 × (Nat → Nat)
def wr (u : SC) (k i : Nat) (v : Int32) : SC := (up2 u.1 k i v, u.2)
def kIsMethod (m : Int32) : Bool := if m < 0 then false else if 6 ≤ m then false else true
def kIsTarget (t : Int32) : Bool := if t < 0 then false else if 2 ≤ t then false else true
def kIsExc (e : Int32) : Bool := if e < 1 then false else if 15 < e then false else true
def kIsExcZ (e : Int32) : Bool := if e = 0 then true else kIsExc e
def kNums (kind a b : Int32) : Bool := if kind = 0 then kIsExc b else if kind = 4 then kIsExc b else if kind = 6 then kIsExc b else if kind = 5 then (if kIsExc a = true then kIsExcZ b else false) else if kind = 7 then kIsExc a else true
def kKindL : Nat → Int32 → Int32 → Bool
  | 0, _, _ => false
  | n + 1, g, t => if g ≤ 0 then false else if g = t then true else kKindL n (g / 2) t
def kKindOf (e t : Int32) : Bool := kKindL 31 e t
-- Trace
def kHas (u : SC) (i : Int32) : Bool := if i < 0 then false else if u.1 8 0 ≤ i then false else true
def kNote (u : SC) (n w : Int32) : Bool × SC := if 100 ≤ u.1 8 0 then (false, u) else (true, wr (wr (wr u 11 (ix (u.1 8 0)) n) 12 (ix (u.1 8 0)) w) 8 0 (u.1 8 0 + 1))
-- Advisor
def kInRange (u : SC) (k : Nat) (x : Int32) : Bool := if x < u.1 20 k then false else if u.1 21 k < x then false else true
def kAdvises (u : SC) (k : Nat) (m : Int32) : Bool := if u.1 16 k &&& ((1 : Int32) <<< (m &&& 31)) = 0 then false else true
def kBefore (u : SC) (k j : Nat) : Bool := if u.1 15 k < u.1 15 j then true else if u.1 15 k = u.1 15 j then (if u.1 13 j ≤ u.1 13 k then false else true) else false
def kGive (u : SC) (k : Nat) (lo hi : Int32) : SC := wr (wr (wr u 19 k 1) 20 k lo) 21 k hi
-- AdvisorRow
def kIsFull (u : SC) : Bool := if u.1 6 0 = 6 then true else false
def kPlaceL (u : SC) (n : Int32) : Nat → Int32 → Int32
  | 0, _ => -1
  | f + 1, p => if u.1 6 0 ≤ p then -1 else if u.1 13 (u.2 (ix p)) = n then p else kPlaceL u n f (p + 1)
def kPlaceOf (u : SC) (n : Int32) : Int32 := kPlaceL u n 7 0
def kChainL (u : SC) (m : Int32) : Nat → Int32 → Int32
  | 0, _ => -1
  | f + 1, p => if u.1 6 0 ≤ p then -1 else if kAdvises u (u.2 (ix p)) m = true then p else kChainL u m f (p + 1)
def kChainP (u : SC) (m from_ : Int32) : Int32 := kChainL u m 7 from_
def kNumL (u : SC) (m i : Int32) : Nat → Int32 → Int32 → Int32
  | 0, _, _ => -1
  | f + 1, bef, p => if u.1 6 0 ≤ p then -1 else if kAdvises u (u.2 (ix p)) m = true then (if bef = i then u.1 13 (u.2 (ix p)) else kNumL u m i f (bef + 1) (p + 1)) else kNumL u m i f bef (p + 1)
def kNumIn (u : SC) (m i : Int32) : Int32 := kNumL u m i 7 0 0
def kSwap (u : SC) (p : Int32) : SC := (u.1, va_up (va_up u.2 (ix p) (u.2 (ix (p + 1)))) (ix (p + 1)) (u.2 (ix p)))
def kUpL : Nat → SC → Int32 → SC
  | 0, u, _ => u
  | f + 1, u, a => if a ≤ 0 then u else if kBefore u (u.2 (ix a)) (u.2 (ix (a - 1))) = true then kUpL f (kSwap u (a - 1)) (a + (-1)) else u
def kDownL : Nat → SC → Int32 → SC
  | 0, u, _ => u
  | f + 1, u, a => if u.1 6 0 ≤ a + 1 then u else if kBefore u (u.2 (ix (a + 1))) (u.2 (ix a)) = true then kDownL f (kSwap u a) (a + 1) else u
def kSettle (u : SC) (p : Int32) : SC := kDownL 7 (kUpL 7 u p) p
def kMake (u : SC) (kind order methods a b : Int32) : Int32 × SC :=
  let k := u.2 (ix (u.1 6 0))
  let v := wr (wr (wr (wr (wr (wr (wr u 13 k (u.1 7 0)) 14 k kind) 15 k order) 16 k methods) 17 k a) 18 k b) 19 k 0
  let w := wr (wr v 7 0 (u.1 7 0 + 1)) 6 0 (u.1 6 0 + 1)
  let z := kSettle w (u.1 6 0 + 1 - 1)
  (z.1 13 k, z)
def kMove (u : SC) (p o : Int32) : SC := kSettle (wr u 15 (u.2 (ix p)) o) p
def kTakeL : Nat → SC → Int32 → SC
  | 0, u, _ => u
  | f + 1, u, a => if u.1 6 0 ≤ a then u else kTakeL f (kSwap u a) (a + 1)
def kTakeAway (u : SC) (p : Int32) : SC := kTakeL 7 (wr u 6 0 (u.1 6 0 - 1)) p
-- Work
def kFailsOn (u : SC) (j : Nat) (x : Int32) : Bool := if u.1 25 j = 0 then false else if x = u.1 24 j then true else false
def kReckon (u : SC) (j : Nat) (x : Int32) : Int32 := u.1 22 j * x + u.1 23 j
-- AdviceLinks
def kTake (u : SC) : Int32 × SC := if u.1 1 0 = 2 then (u.1 2 0, wr (wr u 4 0 (u.1 4 0 + 1)) 2 0 (1 - u.1 2 0)) else (u.1 1 0, wr u 4 0 (u.1 4 0 + 1))
abbrev Go : Type := Int32 → Int32 → Int32 → SC → Int32 × SC
def kBegin (go : Go) (m a d : Int32) (u : SC) : Int32 × SC := if 3 ≤ d then (1, wr u 5 0 15) else go d 0 a (wr (kTake (wr u 9 (ix d) m)).2 10 (ix d) (kTake (wr u 9 (ix d) m)).1)
def kWorkR (go : Go) (j : Nat) (d x : Int32) (n : Bool × SC) : Int32 × SC :=
  if n.1 = false then (2, wr n.2 5 0 0) else if kFailsOn n.2 j x = true then (1, wr n.2 5 0 (n.2.1 25 j)) else if n.2.1 26 j = -1 then (0, wr n.2 5 0 (kReckon n.2 j x)) else if x ≤ 0 then (0, wr n.2 5 0 (kReckon n.2 j x))
  else if (kBegin go (n.2.1 26 j) (x - 1) (d + 1) n.2).1 = 0 then (0, wr (kBegin go (n.2.1 26 j) (x - 1) (d + 1) n.2).2 5 0 (kReckon (kBegin go (n.2.1 26 j) (x - 1) (d + 1) n.2).2 j ((kBegin go (n.2.1 26 j) (x - 1) (d + 1) n.2).2.1 5 0))) else kBegin go (n.2.1 26 j) (x - 1) (d + 1) n.2
def kWork (go : Go) (d x : Int32) (u : SC) : Int32 × SC := kWorkR go (ix (u.1 10 (ix d) * 6 + u.1 9 (ix d))) d x (kNote u (100 + u.1 9 (ix d)) x)
def kBef (go : Go) (k : Nat) (d b x : Int32) (u : SC) : Int32 × SC :=
  let n := kNote u (u.1 13 k) x
  if n.1 = false then (2, wr n.2 5 0 0) else if x = n.2.1 17 k then (1, wr n.2 5 0 (n.2.1 18 k)) else go d b x n.2
def kChg (go : Go) (k : Nat) (d b x : Int32) (u : SC) : Int32 × SC :=
  let n := kNote u (u.1 13 k) x
  if n.1 = false then (2, wr n.2 5 0 0) else
  let r := go d b (x + n.2.1 17 k) n.2
  if r.1 = 0 then (0, wr r.2 5 0 (r.2.1 5 0 + r.2.1 18 k)) else r
def kSkp (go : Go) (k : Nat) (d b x : Int32) (u : SC) : Int32 × SC :=
  let n := kNote u (u.1 13 k) x
  if n.1 = false then (2, wr n.2 5 0 0) else if x < n.2.1 17 k then (0, wr n.2 5 0 (n.2.1 18 k)) else go d b x n.2
def kTwi (go : Go) (k : Nat) (d b x : Int32) (u : SC) : Int32 × SC :=
  let n := kNote u (u.1 13 k) x
  if n.1 = false then (2, wr n.2 5 0 0) else
  let r := go d b x n.2
  if r.1 = 0 then
    let q := go d b (x + r.2.1 17 k) r.2
    if q.1 = 0 then (0, wr q.2 5 0 (r.2.1 5 0 + q.2.1 5 0 + q.2.1 18 k)) else q
  else r
def kRet (go : Go) (k : Nat) (d b x : Int32) (u : SC) : Int32 × SC :=
  let r := go d b x u
  if r.1 = 0 then
    let n := kNote r.2 (r.2.1 13 k) (r.2.1 5 0)
    if n.1 = false then (2, wr n.2 5 0 0) else if n.2.1 5 0 = n.2.1 17 k then (1, wr n.2 5 0 (n.2.1 18 k)) else (0, n.2)
  else r
def kThr (go : Go) (k : Nat) (d b x : Int32) (u : SC) : Int32 × SC :=
  let r := go d b x u
  if r.1 = 1 then
    if kKindOf (r.2.1 5 0) (r.2.1 17 k) = false then r else
    let n := kNote r.2 (r.2.1 13 k) (r.2.1 5 0)
    if n.1 = false then (2, wr n.2 5 0 0) else if n.2.1 18 k = 0 then (1, n.2) else (1, wr n.2 5 0 (n.2.1 18 k))
  else r
def kFin (go : Go) (k : Nat) (d b x : Int32) (u : SC) : Int32 × SC :=
  let r := go d b x u
  if r.1 = 2 then (2, r.2) else
  let n := kNote r.2 (r.2.1 13 k) x
  if n.1 = false then (2, wr n.2 5 0 0) else if x = n.2.1 17 k then (1, wr n.2 5 0 (n.2.1 18 k)) else (r.1, n.2)
def kRec (go : Go) (k : Nat) (d b x : Int32) (u : SC) : Int32 × SC :=
  let r := go d b x u
  if r.1 = 1 then
    if kKindOf (r.2.1 5 0) (r.2.1 17 k) = false then r else
    let n := kNote r.2 (r.2.1 13 k) (r.2.1 5 0)
    if n.1 = false then (2, wr n.2 5 0 0) else (0, wr n.2 5 0 (n.2.1 18 k))
  else r
def kAct (go : Go) (k : Nat) (d b x : Int32) (u : SC) : Int32 × SC :=
  if u.1 14 k = 0 then kBef go k d b x u else if u.1 14 k = 1 then kChg go k d b x u else if u.1 14 k = 2 then kSkp go k d b x u else if u.1 14 k = 3 then kTwi go k d b x u
  else if u.1 14 k = 4 then kRet go k d b x u else if u.1 14 k = 5 then kThr go k d b x u else if u.1 14 k = 6 then kFin go k d b x u else kRec go k d b x u
def kAlong (go : Go) (d from_ x : Int32) (u : SC) : Int32 × SC :=
  let p := kChainP u (u.1 9 (ix d)) from_
  if p = -1 then kWork go d x u else
  let k := u.2 (ix p)
  if u.1 19 k = 0 then kAct go k d (p + 1) x u else
  let v := wr u 3 0 (u.1 3 0 + 1)
  if kInRange v k x = true then kAct go k d (p + 1) x v else go d (p + 1) x v
def kGo : Nat → Go
  | 0 => fun _ _ _ u => (0, u)
  | n + 1 => kAlong (kGo n)
def kInvoke (u : SC) (m a : Int32) : Int32 × SC := if kIsMethod m = false then (-1, u) else kBegin (kGo 22) m a 0 (wr (wr (wr u 8 0 0) 3 0 0) 4 0 0)
def kAdvise (u : SC) (kind order methods a b : Int32) : Int32 × SC :=
  if u.1 0 0 = 0 then (if kIsFull u = true then (-1, u) else if kind < 0 then (-1, u) else if 7 < kind then (-1, u) else if methods < 1 then (-1, u) else if 63 < methods then (-1, u) else if kNums kind a b = false then (-1, u) else kMake u kind order methods a b) else (-1, u)
def kWhen (u : SC) (ad lo hi : Int32) : Bool × SC :=
  let p := kPlaceOf u ad
  if u.1 0 0 = 0 then (if p = -1 then (false, u) else if hi < lo then (false, u) else (true, kGive u (u.2 (ix p)) lo hi)) else (false, u)
def kReorder (u : SC) (ad o : Int32) : Bool × SC :=
  let p := kPlaceOf u ad
  if u.1 0 0 = 0 then (if p = -1 then (false, u) else (true, kMove u p o)) else (false, u)
def kRemove (u : SC) (ad : Int32) : Bool × SC :=
  let p := kPlaceOf u ad
  if u.1 0 0 = 0 then (if p = -1 then (false, u) else (true, kTakeAway u p)) else (false, u)
def kFreeze (u : SC) (b : Bool) : SC := wr u 0 0 (bI b)
def kPlan (u : SC) (t m f a : Int32) : Bool × SC := if kIsTarget t = false then (false, u) else if kIsMethod m = false then (false, u) else (true, wr (wr u 22 (ix (t * 6 + m)) f) 23 (ix (t * 6 + m)) a)
def kFail (u : SC) (t m a e : Int32) : Bool × SC := if kIsTarget t = false then (false, u) else if kIsMethod m = false then (false, u) else if kIsExcZ e = false then (false, u) else (true, wr (wr u 24 (ix (t * 6 + m)) a) 25 (ix (t * 6 + m)) e)
def kCalls (u : SC) (t m n : Int32) : Bool × SC := if kIsTarget t = false then (false, u) else if kIsMethod m = false then (false, u) else if n = -1 then (true, wr u 26 (ix (t * 6 + m)) n) else if kIsMethod n = false then (false, u) else (true, wr u 26 (ix (t * 6 + m)) n)
def kSource (u : SC) (s : Int32) : Bool × SC := if s < 0 then (false, u) else if 2 < s then (false, u) else (true, wr (wr u 1 0 s) 2 0 0)
def kWho (u : SC) (i : Int32) : Int32 := if kHas u i = true then u.1 11 (ix i) else -1
def kWhat (u : SC) (i : Int32) : Int32 := if kHas u i = true then u.1 12 (ix i) else 0
def kChain (u : SC) (m i : Int32) : Int32 := if kIsMethod m = true then kNumIn u m i else -1
/- the reference. Numbers of its fields: 0 there 1 next 2 frozen 3 name 4 kind 5 order 6 methods 7 first 8 second 9 ranged 10 low 11 high 12 factor 13 addend 14 failsAt 15 failure 16 leads 17 source 18 turns 19 noted 20 whoNoted 21 whatNoted 22 askedCount 23 takenCount 24 outcome 25 broken 26 depth 27 method 28 target 29 waiting 30 waits 31 waitsPlace 32 waitsAdvisor 33 waitsX 34 waitsR 35 waitsAgain 36 along 37 place 38 x 39 threw 40 value -/
def qWithin (v lo hi : Int32) : Bool := if v < lo then false else if hi < v then false else true
def qIsExc (e : Int32) : Bool := qWithin e 1 15
def qFits (kind a b : Int32) : Bool := if kind = 0 then qIsExc b else if kind = 4 then qIsExc b else if kind = 6 then qIsExc b else if kind = 5 then (if qIsExc a = true then qWithin b 0 15 else false) else if kind = 7 then qIsExc a else true
def qPut (t : M2) (k o set a b : Int32) : M2 := up2 (up2 (up2 (up2 (up2 (up2 (up2 (up2 (up2 t 3 (ix (t 0 0)) (t 1 0)) 4 (ix (t 0 0)) k) 5 (ix (t 0 0)) o) 6 (ix (t 0 0)) set) 7 (ix (t 0 0)) a) 8 (ix (t 0 0)) b) 9 (ix (t 0 0)) 0) 0 0 (t 0 0 + 1)) 1 0 (t 1 0 + 1)
def qAdvise (t : M2) (k o set a b : Int32) : Int32 × M2 :=
  if t 2 0 = 0 then (if t 0 0 = 6 then (-1, t) else if qWithin k 0 7 = false then (-1, t) else if qWithin set 1 63 = false then (-1, t) else if qFits k a b = false then (-1, t) else (t 1 0 + 1 - 1, qPut t k o set a b)) else (-1, t)
def qFindL (t : M2) (ad : Int32) : Nat → Int32 → Int32 → Int32
  | 0, _, r => r
  | f + 1, k, r => if t 0 0 ≤ k then r else qFindL t ad f (k + 1) (if t 3 (ix k) = ad then k else r)
def qFind (t : M2) (ad : Int32) : Int32 := qFindL t ad 7 0 (-1)
def qWhen (t : M2) (ad lo hi : Int32) : Bool × M2 :=
  if t 2 0 = 0 then (if qFind t ad < 0 then (false, t) else if hi < lo then (false, t) else (true, up2 (up2 (up2 t 9 (ix (qFind t ad)) 1) 10 (ix (qFind t ad)) lo) 11 (ix (qFind t ad)) hi)) else (false, t)
def qReorder (t : M2) (ad o : Int32) : Bool × M2 :=
  if t 2 0 = 0 then (if qFind t ad < 0 then (false, t) else (true, up2 t 5 (ix (qFind t ad)) o)) else (false, t)
def qShift (t : M2) (k : Int32) : M2 :=
  up2 (up2 (up2 (up2 (up2 (up2 (up2 (up2 (up2 t 3 (ix k) (t 3 (ix (k + 1)))) 4 (ix k) (t 4 (ix (k + 1)))) 5 (ix k) (t 5 (ix (k + 1)))) 6 (ix k) (t 6 (ix (k + 1)))) 7 (ix k) (t 7 (ix (k + 1)))) 8 (ix k) (t 8 (ix (k + 1)))) 9 (ix k) (vp_nar .boolean (t 9 (ix (k + 1))))) 10 (ix k) (t 10 (ix (k + 1)))) 11 (ix k) (t 11 (ix (k + 1)))
def qShiftL : Nat → M2 → Int32 → M2
  | 0, t, _ => t
  | f + 1, t, k => if t 0 0 ≤ k then t else qShiftL f (qShift t k) (k + 1)
def qRemove (t : M2) (ad : Int32) : Bool × M2 :=
  if t 2 0 = 0 then (if qFind t ad < 0 then (false, t) else (true, qShiftL 7 (up2 t 0 0 (t 0 0 - 1)) (qFind t ad))) else (false, t)
def qFreeze (t : M2) (b : Bool) : M2 := up2 t 2 0 (bI b)
def qAhead (t : M2) (q k : Int32) : Bool := if t 5 (ix q) < t 5 (ix k) then true else if t 5 (ix q) = t 5 (ix k) then (if q < k then true else false) else false
def qBit (t : M2) (q m : Int32) : Bool := if (t 6 (ix q) >>> (m &&& 31)) &&& 1 = 1 then true else false
def qCntL (t : M2) (m k : Int32) : Nat → Int32 → Int32 → Int32
  | 0, _, b => b
  | f + 1, q, b => if t 0 0 ≤ q then b else qCntL t m k f (q + 1) (if qAhead t q k = true then (if qBit t q m = true then b + 1 else b) else b)
def qCnt (t : M2) (m k : Int32) : Int32 := qCntL t m k 7 0 0
def qLinkL (t : M2) (m pl : Int32) : Nat → Int32 → Int32
  | 0, _ => -1
  | f + 1, k => if t 0 0 ≤ k then -1 else if qBit t k m = true then (if qCnt t m k = pl then k else qLinkL t m pl f (k + 1)) else qLinkL t m pl f (k + 1)
def qLinked (t : M2) (m pl : Int32) : Int32 := qLinkL t m pl 7 0
def qChain (t : M2) (m i : Int32) : Int32 := if qWithin m 0 5 = true then (if qLinked t m i < 0 then -1 else t 3 (ix (qLinked t m i))) else -1
def qIsCell (t m : Int32) : Bool := if qWithin t 0 1 = true then qWithin m 0 5 else false
def qPlan (u : M2) (t m f a : Int32) : Bool × M2 := if qIsCell t m = false then (false, u) else (true, up2 (up2 u 12 (ix (6 * t + m)) f) 13 (ix (6 * t + m)) a)
def qFail (u : M2) (t m a e : Int32) : Bool × M2 := if qIsCell t m = false then (false, u) else if qWithin e 0 15 = false then (false, u) else (true, up2 (up2 u 14 (ix (6 * t + m)) a) 15 (ix (6 * t + m)) e)
def qCalls (u : M2) (t m n : Int32) : Bool × M2 := if qIsCell t m = false then (false, u) else if qWithin n (-1) 5 = false then (false, u) else (true, up2 u 16 (ix (6 * t + m)) n)
def qSource (u : M2) (s : Int32) : Bool × M2 := if qWithin s 0 2 = false then (false, u) else (true, up2 (up2 u 17 0 s) 18 0 0)
def qNote (t : M2) (who what : Int32) : M2 := if t 19 0 = 100 then up2 t 25 0 1 else up2 (up2 (up2 t 20 (ix (t 19 0)) who) 21 (ix (t 19 0)) what) 19 0 (t 19 0 + 1)
def qIsOneL : Nat → Int32 → Int32 → Bool
  | 0, k, t => if k = t then true else false
  | f + 1, k, t => if k ≤ t then (if k = t then true else false) else qIsOneL f (k / 2) t
def qIsOne (e t : Int32) : Bool := qIsOneL 31 e t
def qGo (t : M2) (from_ z : Int32) : M2 := up2 (up2 (up2 t 36 0 1) 37 0 from_) 38 0 z
def qComes (t : M2) (b : Bool) (v : Int32) : M2 := up2 (up2 (up2 t 36 0 0) 39 0 (bI b)) 40 0 v
def qAwait (t : M2) (what adv : Int32) : M2 := up2 (up2 (up2 (up2 (up2 (up2 t 30 (ix (t 29 0)) what) 31 (ix (t 29 0)) (t 37 0)) 32 (ix (t 29 0)) adv) 33 (ix (t 29 0)) (t 38 0)) 35 (ix (t 29 0)) 0) 29 0 (t 29 0 + 1)
def qEnt (t : M2) (m : Int32) : M2 := up2 (up2 (up2 (up2 (up2 t 26 0 (t 26 0 + 1)) 23 0 (t 23 0 + 1)) 27 (ix (t 26 0 + 1)) m) 28 (ix (t 26 0 + 1)) (if t 17 0 = 2 then t 18 0 else t 17 0)) 18 0 (if t 17 0 = 2 then 1 - t 18 0 else t 18 0)
def qEnter (t : M2) (m a : Int32) : M2 := if t 26 0 = 3 then qComes t true 15 else qGo (qAwait (qEnt t m) 9 (-1)) 0 a
def qWorkR (t : M2) (c : Int32) : M2 :=
  if 0 < t 15 (ix c) ∧ t 14 (ix c) = t 38 0 then qComes t true (t 15 (ix c)) else if ¬ t 16 (ix c) = -1 ∧ 0 < t 38 0 then qEnter (qAwait t 8 c) (t 16 (ix c)) (t 38 0 - 1) else qComes t false (t 12 (ix c) * t 38 0 + t 13 (ix c))
def qWork (t : M2) : M2 :=
  if (qNote t (100 + t 27 (ix (t 26 0))) (t 38 0)) 25 0 = 0 then qWorkR (qNote t (100 + t 27 (ix (t 26 0))) (t 38 0)) (6 * t 28 (ix (t 26 0)) + t 27 (ix (t 26 0))) else qNote t (100 + t 27 (ix (t 26 0))) (t 38 0)
def qStepC (t : M2) (k : Int32) : M2 :=
  if t 25 0 = 0 then
    (if t 4 (ix k) = 0 ∧ t 38 0 = t 7 (ix k) then qComes t true (t 8 (ix k)) else if t 4 (ix k) = 2 ∧ t 38 0 < t 7 (ix k) then qComes t false (t 8 (ix k)) else if t 4 (ix k) = 0 ∨ t 4 (ix k) = 2 then up2 t 37 0 (t 37 0 + 1)
     else qGo (qAwait t (t 4 (ix k)) k) (t 37 0 + 1) (if t 4 (ix k) = 1 then t 38 0 + t 7 (ix k) else t 38 0))
  else t
def qStepB (t : M2) (k : Int32) : M2 := if t 4 (ix k) ≤ 3 then qStepC (qNote t (t 3 (ix k)) (t 38 0)) k else qStepC t k
def qStepA (t : M2) (k : Int32) : M2 :=
  if t 9 (ix k) = 0 then qStepB t k else if qWithin (t 38 0) (t 10 (ix k)) (t 11 (ix k)) = true then qStepB (up2 t 22 0 (t 22 0 + 1)) k else up2 (up2 t 22 0 (t 22 0 + 1)) 37 0 (t 37 0 + 1)
def qStep (t : M2) : M2 := if qLinked t (t 27 (ix (t 26 0))) (t 37 0) < 0 then qWork t else qStepA t (qLinked t (t 27 (ix (t 26 0))) (t 37 0))
def qTwice (t : M2) (k : Int32) : M2 :=
  if t 39 0 = 0 then
    (if t 35 (ix (t 29 0)) = 0 then (let v := qGo (up2 (up2 t 35 (ix (t 29 0)) 1) 34 (ix (t 29 0)) (t 40 0)) (t 31 (ix (t 29 0)) + 1) (t 33 (ix (t 29 0)) + t 7 (ix k)); up2 v 29 0 (t 29 0 + 1))
     else up2 t 40 0 (t 34 (ix (t 29 0)) + t 40 0 + t 8 (ix k)))
  else t
def qBackR (t : M2) (w k : Int32) : M2 :=
  if w = 9 then up2 t 26 0 (t 26 0 - 1)
  else if w = 8 then up2 t 40 0 (if t 39 0 = 0 then t 12 (ix k) * t 40 0 + t 13 (ix k) else t 40 0)
  else if w = 1 then up2 t 40 0 (if t 39 0 = 0 then t 40 0 + t 8 (ix k) else t 40 0)
  else if w = 3 then qTwice t k
  else if w = 6 then (let v := qNote t (t 3 (ix k)) (t 33 (ix (t 29 0))); if v 33 (ix (v 29 0)) = v 7 (ix k) then qComes v true (v 8 (ix k)) else v)
  else if w = 4 ∧ t 39 0 = 0 then (let v := qNote t (t 3 (ix k)) (t 40 0); if v 40 0 = v 7 (ix k) then qComes v true (v 8 (ix k)) else v)
  else if 5 ≤ w ∧ ¬ t 39 0 = 0 ∧ qIsOne (t 40 0) (t 7 (ix k)) = true then (let v := qNote t (t 3 (ix k)) (t 40 0); if w = 5 then qComes v true (if v 8 (ix k) = 0 then v 40 0 else v 8 (ix k)) else qComes v false (v 8 (ix k)))
  else t
def qBack (t : M2) : M2 := qBackR (up2 t 29 0 (t 29 0 - 1)) (t 30 (ix (t 29 0 - 1))) (t 32 (ix (t 29 0 - 1)))
def qMore (t : M2) : Bool := if t 25 0 = 0 then (if t 36 0 = 0 then (if t 29 0 ≤ 0 then false else true) else true) else false
def qRun (t : M2) : M2 := if t 36 0 = 0 then qBack t else qStep t
def qIt : Nat → M2 → M2
  | 0, t => t
  | n + 1, t => qIt n (qRun t)
def qStart (t : M2) (m a : Int32) : M2 := qEnter (up2 (up2 (up2 (up2 (up2 (up2 t 19 0 0) 22 0 0) 23 0 0) 25 0 0) 26 0 0) 29 0 0) m a
def qEnd (t : M2) : Int32 × M2 := (if t 25 0 = 0 then (if t 39 0 = 0 then 0 else 1) else 2, up2 t 24 0 (if t 25 0 = 0 then t 40 0 else 0))
def qWho (t : M2) (i : Int32) : Int32 := if qWithin i 0 (t 19 0 - 1) = true then t 20 (ix i) else -1
def qWhat (t : M2) (i : Int32) : Int32 := if qWithin i 0 (t 19 0 - 1) = true then t 21 (ix i) else 0
end
