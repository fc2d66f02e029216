/-! names: classes, fields in the order of the slots, types; all words that keep: wA -/
def R0 : String := "AdviceLinks$Advisor"
def T0 : u_T := fun k => match k with
  | 0 => ("AdviceLinks$Advisor", "number", "I", false)
  | 1 => ("AdviceLinks$Advisor", "kind", "I", false)
  | 2 => ("AdviceLinks$Advisor", "order", "I", false)
  | 3 => ("AdviceLinks$Advisor", "methods", "I", false)
  | 4 => ("AdviceLinks$Advisor", "a", "I", false)
  | 5 => ("AdviceLinks$Advisor", "b", "I", false)
  | 6 => ("AdviceLinks$Advisor", "hasRange", "Z", false)
  | 7 => ("AdviceLinks$Advisor", "low", "I", false)
  | _ => ("AdviceLinks$Advisor", "high", "I", false)
def ty0 : Nat → FieldType := fun k => match k with
  | 0 => .int
  | 1 => .int
  | 2 => .int
  | 3 => .int
  | 4 => .int
  | 5 => .int
  | 6 => .boolean
  | 7 => .int
  | _ => .int
theorem nm0 : ∀ a, a < 9 → ∀ b, b < 9 → a ≠ b → (T0 a).2.1 ≠ (T0 b).2.1 := by decide +kernel
theorem ty0_ok : ∀ k, k < 9 → parseFieldDescriptor (T0 k).2.2.1 = some (ty0 k) := by decide +kernel
def R1 : String := "AdviceLinks$AdvisorRow"
def T1 : u_T := fun k => match k with
  | 0 => ("AdviceLinks$AdvisorRow", "row", "[LAdviceLinks$Advisor;", true)
  | 1 => ("AdviceLinks$AdvisorRow", "there", "I", false)
  | _ => ("AdviceLinks$AdvisorRow", "nextNumber", "I", false)
def ty1 : Nat → FieldType := fun k => match k with
  | 0 => .array (.object "AdviceLinks$Advisor")
  | 1 => .int
  | _ => .int
theorem nm1 : ∀ a, a < 3 → ∀ b, b < 3 → a ≠ b → (T1 a).2.1 ≠ (T1 b).2.1 := by decide +kernel
theorem ty1_ok : ∀ k, k < 3 → parseFieldDescriptor (T1 k).2.2.1 = some (ty1 k) := by decide +kernel
def R2 : String := "AdviceLinks$Trace"
def T2 : u_T := fun k => match k with
  | 0 => ("AdviceLinks$Trace", "noters", "[I", true)
  | 1 => ("AdviceLinks$Trace", "words", "[I", true)
  | _ => ("AdviceLinks$Trace", "length", "I", false)
def ty2 : Nat → FieldType := fun k => match k with
  | 0 => .array .int
  | 1 => .array .int
  | _ => .int
theorem nm2 : ∀ a, a < 3 → ∀ b, b < 3 → a ≠ b → (T2 a).2.1 ≠ (T2 b).2.1 := by decide +kernel
theorem ty2_ok : ∀ k, k < 3 → parseFieldDescriptor (T2 k).2.2.1 = some (ty2 k) := by decide +kernel
def R3 : String := "AdviceLinks$Work"
def T3 : u_T := fun k => match k with
  | 0 => ("AdviceLinks$Work", "factor", "I", false)
  | 1 => ("AdviceLinks$Work", "addend", "I", false)
  | 2 => ("AdviceLinks$Work", "failsAt", "I", false)
  | 3 => ("AdviceLinks$Work", "exception", "I", false)
  | _ => ("AdviceLinks$Work", "next", "I", false)
def ty3 : Nat → FieldType := fun k => match k with
  | 0 => .int
  | 1 => .int
  | 2 => .int
  | 3 => .int
  | _ => .int
theorem nm3 : ∀ a, a < 5 → ∀ b, b < 5 → a ≠ b → (T3 a).2.1 ≠ (T3 b).2.1 := by decide +kernel
theorem ty3_ok : ∀ k, k < 5 → parseFieldDescriptor (T3 k).2.2.1 = some (ty3 k) := by decide +kernel
def R4 : String := "AdviceLinks"
def T4 : u_T := fun k => match k with
  | 0 => ("AdviceLinks", "advisors", "LAdviceLinks$AdvisorRow;", true)
  | 1 => ("AdviceLinks", "works", "[LAdviceLinks$Work;", true)
  | 2 => ("AdviceLinks", "trace", "LAdviceLinks$Trace;", true)
  | 3 => ("AdviceLinks", "methodAt", "[I", true)
  | 4 => ("AdviceLinks", "targetAt", "[I", true)
  | 5 => ("AdviceLinks", "frozen", "Z", false)
  | 6 => ("AdviceLinks", "targetSource", "I", false)
  | 7 => ("AdviceLinks", "nextInTurn", "I", false)
  | 8 => ("AdviceLinks", "timesAsked", "I", false)
  | 9 => ("AdviceLinks", "targetsTaken", "I", false)
  | _ => ("AdviceLinks", "value", "I", false)
def ty4 : Nat → FieldType := fun k => match k with
  | 0 => .object "AdviceLinks$AdvisorRow"
  | 1 => .array (.object "AdviceLinks$Work")
  | 2 => .object "AdviceLinks$Trace"
  | 3 => .array .int
  | 4 => .array .int
  | 5 => .boolean
  | 6 => .int
  | 7 => .int
  | 8 => .int
  | 9 => .int
  | _ => .int
theorem nm4 : ∀ a, a < 11 → ∀ b, b < 11 → a ≠ b → (T4 a).2.1 ≠ (T4 b).2.1 := by decide +kernel
theorem ty4_ok : ∀ k, k < 11 → parseFieldDescriptor (T4 k).2.2.1 = some (ty4 k) := by decide +kernel
def R5 : String := "AdviceLinksModel"
def T5 : u_T := fun k => match k with
  | 0 => ("AdviceLinksModel", "there", "I", false)
  | 1 => ("AdviceLinksModel", "next", "I", false)
  | 2 => ("AdviceLinksModel", "frozen", "Z", false)
  | 3 => ("AdviceLinksModel", "name", "[I", false)
  | 4 => ("AdviceLinksModel", "kind", "[I", false)
  | 5 => ("AdviceLinksModel", "order", "[I", false)
  | 6 => ("AdviceLinksModel", "methods", "[I", false)
  | 7 => ("AdviceLinksModel", "first", "[I", false)
  | 8 => ("AdviceLinksModel", "second", "[I", false)
  | 9 => ("AdviceLinksModel", "ranged", "[Z", false)
  | 10 => ("AdviceLinksModel", "low", "[I", false)
  | 11 => ("AdviceLinksModel", "high", "[I", false)
  | 12 => ("AdviceLinksModel", "factor", "[I", false)
  | 13 => ("AdviceLinksModel", "addend", "[I", false)
  | 14 => ("AdviceLinksModel", "failsAt", "[I", false)
  | 15 => ("AdviceLinksModel", "failure", "[I", false)
  | 16 => ("AdviceLinksModel", "leads", "[I", false)
  | 17 => ("AdviceLinksModel", "source", "I", false)
  | 18 => ("AdviceLinksModel", "turns", "I", false)
  | 19 => ("AdviceLinksModel", "noted", "I", false)
  | 20 => ("AdviceLinksModel", "whoNoted", "[I", false)
  | 21 => ("AdviceLinksModel", "whatNoted", "[I", false)
  | 22 => ("AdviceLinksModel", "askedCount", "I", false)
  | 23 => ("AdviceLinksModel", "takenCount", "I", false)
  | 24 => ("AdviceLinksModel", "outcome", "I", false)
  | 25 => ("AdviceLinksModel", "broken", "Z", false)
  | 26 => ("AdviceLinksModel", "depth", "I", false)
  | 27 => ("AdviceLinksModel", "method", "[I", false)
  | 28 => ("AdviceLinksModel", "target", "[I", false)
  | 29 => ("AdviceLinksModel", "waiting", "I", false)
  | 30 => ("AdviceLinksModel", "waits", "[I", false)
  | 31 => ("AdviceLinksModel", "waitsPlace", "[I", false)
  | 32 => ("AdviceLinksModel", "waitsAdvisor", "[I", false)
  | 33 => ("AdviceLinksModel", "waitsX", "[I", false)
  | 34 => ("AdviceLinksModel", "waitsR", "[I", false)
  | 35 => ("AdviceLinksModel", "waitsAgain", "[Z", false)
  | 36 => ("AdviceLinksModel", "along", "Z", false)
  | 37 => ("AdviceLinksModel", "place", "I", false)
  | 38 => ("AdviceLinksModel", "x", "I", false)
  | 39 => ("AdviceLinksModel", "threw", "Z", false)
  | _ => ("AdviceLinksModel", "value", "I", false)
def ty5 : Nat → FieldType := fun k => match k with
  | 0 => .int
  | 1 => .int
  | 2 => .boolean
  | 3 => .array .int
  | 4 => .array .int
  | 5 => .array .int
  | 6 => .array .int
  | 7 => .array .int
  | 8 => .array .int
  | 9 => .array .boolean
  | 10 => .array .int
  | 11 => .array .int
  | 12 => .array .int
  | 13 => .array .int
  | 14 => .array .int
  | 15 => .array .int
  | 16 => .array .int
  | 17 => .int
  | 18 => .int
  | 19 => .int
  | 20 => .array .int
  | 21 => .array .int
  | 22 => .int
  | 23 => .int
  | 24 => .int
  | 25 => .boolean
  | 26 => .int
  | 27 => .array .int
  | 28 => .array .int
  | 29 => .int
  | 30 => .array .int
  | 31 => .array .int
  | 32 => .array .int
  | 33 => .array .int
  | 34 => .array .int
  | 35 => .array .boolean
  | 36 => .boolean
  | 37 => .int
  | 38 => .int
  | 39 => .boolean
  | _ => .int
theorem nm5 : ∀ a, a < 41 → ∀ b, b < 41 → a ≠ b → (T5 a).2.1 ≠ (T5 b).2.1 := by decide +kernel
theorem ty5_ok : ∀ k, k < 41 → parseFieldDescriptor (T5 k).2.2.1 = some (ty5 k) := by decide +kernel
def R6 : String := "AdviceLinksLaw"
abbrev clA : List vw_C := [(R0, T0, 9), (R1, T1, 3), (R2, T2, 3), (R3, T3, 5), (R4, T4, 11), (R5, T5, 41)]
def wA : List Cond := lw_tbl.filter goodWord
theorem in_wA {w : Cond} (h : w ∈ lw_tbl) (hg : goodWord w = true) : w ∈ wA := List.mem_filter.mpr ⟨h, hg⟩
theorem of_wA {w : Cond} (h : w ∈ wA) : w ∈ lw_tbl := (List.mem_filter.mp h).1
theorem wA_good : GoodIn wA wA := fun _ h => ⟨h, good_of_word (List.mem_filter.mp h).2⟩
theorem wA_all (ws : List Cond) (h : ws.all (fun w => decide (w ∈ lw_tbl) && goodWord w) = true) : ∀ w ∈ ws, w ∈ wA := by
  intro w hw
  have h1 := List.all_eq_true.mp h w hw
  simp only [Bool.and_eq_true, decide_eq_true_eq] at h1
  exact in_wA h1.1 h1.2
theorem inC0 : ∀ w ∈ u_ws R0 T0 9, w ∈ wA := wA_all _ (by decide +kernel)
theorem inC1 : ∀ w ∈ u_ws R1 T1 3, w ∈ wA := wA_all _ (by decide +kernel)
theorem inC2 : ∀ w ∈ u_ws R2 T2 3, w ∈ wA := wA_all _ (by decide +kernel)
theorem inC3 : ∀ w ∈ u_ws R3 T3 5, w ∈ wA := wA_all _ (by decide +kernel)
theorem inC4 : ∀ w ∈ u_ws R4 T4 11, w ∈ wA := wA_all _ (by decide +kernel)
theorem inC5 : ∀ w ∈ u_ws R5 T5 41, w ∈ wA := wA_all _ (by decide +kernel)
abbrev b_A_init : ByteArray := prog_2_method_1_code
def y_A_init : MethodName := ⟨R0, "<init>", "()V"⟩
set_option maxRecDepth 100000 in
theorem cd_A_init : Cond.code y_A_init b_A_init 1 none ∈ wA := in_wA (List.mem_of_getElem? (i := 56) rfl) rfl
abbrev b_A_giveRange : ByteArray := prog_2_method_2_code
def y_A_giveRange : MethodName := ⟨R0, "giveRange", "(II)V"⟩
set_option maxRecDepth 100000 in
theorem cd_A_giveRange : Cond.code y_A_giveRange b_A_giveRange 3 none ∈ wA := in_wA (List.mem_of_getElem? (i := 238) rfl) rfl
abbrev b_A_isInRange : ByteArray := prog_2_method_3_code
def y_A_isInRange : MethodName := ⟨R0, "isInRange", "(I)Z"⟩
set_option maxRecDepth 100000 in
theorem cd_A_isInRange : Cond.code y_A_isInRange b_A_isInRange 2 (some .boolean) ∈ wA := in_wA (List.mem_of_getElem? (i := 344) rfl) rfl
abbrev b_A_advises : ByteArray := prog_2_method_4_code
def y_A_advises : MethodName := ⟨R0, "advises", "(I)Z"⟩
set_option maxRecDepth 100000 in
theorem cd_A_advises : Cond.code y_A_advises b_A_advises 2 (some .boolean) ∈ wA := in_wA (List.mem_of_getElem? (i := 316) rfl) rfl
abbrev b_A_standsBefore : ByteArray := prog_2_method_5_code
def y_A_standsBefore : MethodName := ⟨R0, "standsBefore", "(LAdviceLinks$Advisor;)Z"⟩
set_option maxRecDepth 100000 in
theorem cd_A_standsBefore : Cond.code y_A_standsBefore b_A_standsBefore 2 (some .boolean) ∈ wA := in_wA (List.mem_of_getElem? (i := 218) rfl) rfl
abbrev b_R_init : ByteArray := prog_3_method_1_code
def y_R_init : MethodName := ⟨R1, "<init>", "()V"⟩
set_option maxRecDepth 100000 in
theorem cd_R_init : Cond.code y_R_init b_R_init 2 none ∈ wA := in_wA (List.mem_of_getElem? (i := 49) rfl) rfl
abbrev b_R_isFull : ByteArray := prog_3_method_2_code
def y_R_isFull : MethodName := ⟨R1, "isFull", "()Z"⟩
set_option maxRecDepth 100000 in
theorem cd_R_isFull : Cond.code y_R_isFull b_R_isFull 1 (some .boolean) ∈ wA := in_wA (List.mem_of_getElem? (i := 197) rfl) rfl
abbrev b_R_at : ByteArray := prog_3_method_3_code
def y_R_at : MethodName := ⟨R1, "at", "(I)LAdviceLinks$Advisor;"⟩
set_option maxRecDepth 100000 in
theorem cd_R_at : Cond.code y_R_at b_R_at 2 (some (.object "AdviceLinks$Advisor")) ∈ wA := in_wA (List.mem_of_getElem? (i := 234) rfl) rfl
abbrev b_R_placeOf : ByteArray := prog_3_method_4_code
def y_R_placeOf : MethodName := ⟨R1, "placeOf", "(I)I"⟩
set_option maxRecDepth 100000 in
theorem cd_R_placeOf : Cond.code y_R_placeOf b_R_placeOf 3 (some .int) ∈ wA := in_wA (List.mem_of_getElem? (i := 230) rfl) rfl
abbrev b_R_placeInChain : ByteArray := prog_3_method_5_code
def y_R_placeInChain : MethodName := ⟨R1, "placeInChain", "(II)I"⟩
set_option maxRecDepth 100000 in
theorem cd_R_placeInChain : Cond.code y_R_placeInChain b_R_placeInChain 4 (some .int) ∈ wA := in_wA (List.mem_of_getElem? (i := 312) rfl) rfl
abbrev b_R_numberInChain : ByteArray := prog_3_method_6_code
def y_R_numberInChain : MethodName := ⟨R1, "numberInChain", "(II)I"⟩
set_option maxRecDepth 100000 in
theorem cd_R_numberInChain : Cond.code y_R_numberInChain b_R_numberInChain 5 (some .int) ∈ wA := in_wA (List.mem_of_getElem? (i := 419) rfl) rfl
abbrev b_R_make : ByteArray := prog_3_method_7_code
def y_R_make : MethodName := ⟨R1, "make", "(IIIII)I"⟩
set_option maxRecDepth 100000 in
theorem cd_R_make : Cond.code y_R_make b_R_make 7 (some .int) ∈ wA := in_wA (List.mem_of_getElem? (i := 210) rfl) rfl
abbrev b_R_move : ByteArray := prog_3_method_8_code
def y_R_move : MethodName := ⟨R1, "move", "(II)V"⟩
set_option maxRecDepth 100000 in
theorem cd_R_move : Cond.code y_R_move b_R_move 3 none ∈ wA := in_wA (List.mem_of_getElem? (i := 246) rfl) rfl
abbrev b_R_takeAway : ByteArray := prog_3_method_9_code
def y_R_takeAway : MethodName := ⟨R1, "takeAway", "(I)V"⟩
set_option maxRecDepth 100000 in
theorem cd_R_takeAway : Cond.code y_R_takeAway b_R_takeAway 3 none ∈ wA := in_wA (List.mem_of_getElem? (i := 254) rfl) rfl
abbrev b_R_settle : ByteArray := prog_3_method_10_code
def y_R_settle : MethodName := ⟨R1, "settle", "(I)V"⟩
set_option maxRecDepth 100000 in
theorem cd_R_settle : Cond.code y_R_settle b_R_settle 3 none ∈ wA := in_wA (List.mem_of_getElem? (i := 214) rfl) rfl
abbrev b_R_swapWithNext : ByteArray := prog_3_method_11_code
def y_R_swapWithNext : MethodName := ⟨R1, "swapWithNext", "(I)V"⟩
set_option maxRecDepth 100000 in
theorem cd_R_swapWithNext : Cond.code y_R_swapWithNext b_R_swapWithNext 3 none ∈ wA := in_wA (List.mem_of_getElem? (i := 222) rfl) rfl
abbrev b_T_init : ByteArray := prog_4_method_1_code
def y_T_init : MethodName := ⟨R2, "<init>", "()V"⟩
set_option maxRecDepth 100000 in
theorem cd_T_init : Cond.code y_T_init b_T_init 1 none ∈ wA := in_wA (List.mem_of_getElem? (i := 114) rfl) rfl
abbrev b_T_clear : ByteArray := prog_4_method_2_code
def y_T_clear : MethodName := ⟨R2, "clear", "()V"⟩
set_option maxRecDepth 100000 in
theorem cd_T_clear : Cond.code y_T_clear b_T_clear 1 none ∈ wA := in_wA (List.mem_of_getElem? (i := 292) rfl) rfl
abbrev b_T_has : ByteArray := prog_4_method_3_code
def y_T_has : MethodName := ⟨R2, "has", "(I)Z"⟩
set_option maxRecDepth 100000 in
theorem cd_T_has : Cond.code y_T_has b_T_has 2 (some .boolean) ∈ wA := in_wA (List.mem_of_getElem? (i := 399) rfl) rfl
abbrev b_T_note : ByteArray := prog_4_method_4_code
def y_T_note : MethodName := ⟨R2, "note", "(II)Z"⟩
set_option maxRecDepth 100000 in
theorem cd_T_note : Cond.code y_T_note b_T_note 3 (some .boolean) ∈ wA := in_wA (List.mem_of_getElem? (i := 324) rfl) rfl
abbrev b_K_init : ByteArray := prog_5_method_1_code
def y_K_init : MethodName := ⟨R3, "<init>", "()V"⟩
set_option maxRecDepth 100000 in
theorem cd_K_init : Cond.code y_K_init b_K_init 1 none ∈ wA := in_wA (List.mem_of_getElem? (i := 133) rfl) rfl
abbrev b_K_failsOn : ByteArray := prog_5_method_2_code
def y_K_failsOn : MethodName := ⟨R3, "failsOn", "(I)Z"⟩
set_option maxRecDepth 100000 in
theorem cd_K_failsOn : Cond.code y_K_failsOn b_K_failsOn 2 (some .boolean) ∈ wA := in_wA (List.mem_of_getElem? (i := 332) rfl) rfl
abbrev b_K_reckon : ByteArray := prog_5_method_3_code
def y_K_reckon : MethodName := ⟨R3, "reckon", "(I)I"⟩
set_option maxRecDepth 100000 in
theorem cd_K_reckon : Cond.code y_K_reckon b_K_reckon 2 (some .int) ∈ wA := in_wA (List.mem_of_getElem? (i := 336) rfl) rfl
abbrev b_L_init : ByteArray := prog_1_method_1_code
def y_L_init : MethodName := ⟨R4, "<init>", "()V"⟩
set_option maxRecDepth 100000 in
theorem cd_L_init : Cond.code y_L_init b_L_init 2 none ∈ wA := in_wA (List.mem_of_getElem? (i := 41) rfl) rfl
abbrev b_L_advise : ByteArray := prog_1_method_2_code
def y_L_advise : MethodName := ⟨R4, "advise", "(IIIII)I"⟩
set_option maxRecDepth 100000 in
theorem cd_L_advise : Cond.code y_L_advise b_L_advise 6 (some .int) ∈ wA := in_wA (List.mem_of_getElem? (i := 193) rfl) rfl
abbrev b_L_when : ByteArray := prog_1_method_3_code
def y_L_when : MethodName := ⟨R4, "when", "(III)Z"⟩
set_option maxRecDepth 100000 in
theorem cd_L_when : Cond.code y_L_when b_L_when 5 (some .boolean) ∈ wA := in_wA (List.mem_of_getElem? (i := 226) rfl) rfl
abbrev b_L_reorder : ByteArray := prog_1_method_4_code
def y_L_reorder : MethodName := ⟨R4, "reorder", "(II)Z"⟩
set_option maxRecDepth 100000 in
theorem cd_L_reorder : Cond.code y_L_reorder b_L_reorder 4 (some .boolean) ∈ wA := in_wA (List.mem_of_getElem? (i := 242) rfl) rfl
abbrev b_L_remove : ByteArray := prog_1_method_5_code
def y_L_remove : MethodName := ⟨R4, "remove", "(I)Z"⟩
set_option maxRecDepth 100000 in
theorem cd_L_remove : Cond.code y_L_remove b_L_remove 3 (some .boolean) ∈ wA := in_wA (List.mem_of_getElem? (i := 250) rfl) rfl
abbrev b_L_freeze : ByteArray := prog_1_method_6_code
def y_L_freeze : MethodName := ⟨R4, "freeze", "(Z)V"⟩
set_option maxRecDepth 100000 in
theorem cd_L_freeze : Cond.code y_L_freeze b_L_freeze 2 none ∈ wA := in_wA (List.mem_of_getElem? (i := 258) rfl) rfl
abbrev b_L_plan : ByteArray := prog_1_method_7_code
def y_L_plan : MethodName := ⟨R4, "plan", "(IIII)Z"⟩
set_option maxRecDepth 100000 in
theorem cd_L_plan : Cond.code y_L_plan b_L_plan 6 (some .boolean) ∈ wA := in_wA (List.mem_of_getElem? (i := 262) rfl) rfl
abbrev b_L_fail : ByteArray := prog_1_method_8_code
def y_L_fail : MethodName := ⟨R4, "fail", "(IIII)Z"⟩
set_option maxRecDepth 100000 in
theorem cd_L_fail : Cond.code y_L_fail b_L_fail 6 (some .boolean) ∈ wA := in_wA (List.mem_of_getElem? (i := 276) rfl) rfl
abbrev b_L_calls : ByteArray := prog_1_method_9_code
def y_L_calls : MethodName := ⟨R4, "calls", "(III)Z"⟩
set_option maxRecDepth 100000 in
theorem cd_L_calls : Cond.code y_L_calls b_L_calls 4 (some .boolean) ∈ wA := in_wA (List.mem_of_getElem? (i := 280) rfl) rfl
abbrev b_L_source : ByteArray := prog_1_method_10_code
def y_L_source : MethodName := ⟨R4, "source", "(I)Z"⟩
set_option maxRecDepth 100000 in
theorem cd_L_source : Cond.code y_L_source b_L_source 2 (some .boolean) ∈ wA := in_wA (List.mem_of_getElem? (i := 284) rfl) rfl
abbrev b_L_invoke : ByteArray := prog_1_method_11_code
def y_L_invoke : MethodName := ⟨R4, "invoke", "(II)I"⟩
set_option maxRecDepth 100000 in
theorem cd_L_invoke : Cond.code y_L_invoke b_L_invoke 3 (some .int) ∈ wA := in_wA (List.mem_of_getElem? (i := 288) rfl) rfl
abbrev b_L_result : ByteArray := prog_1_method_12_code
def y_L_result : MethodName := ⟨R4, "result", "()I"⟩
set_option maxRecDepth 100000 in
theorem cd_L_result : Cond.code y_L_result b_L_result 1 (some .int) ∈ wA := in_wA (List.mem_of_getElem? (i := 387) rfl) rfl
abbrev b_L_events : ByteArray := prog_1_method_13_code
def y_L_events : MethodName := ⟨R4, "events", "()I"⟩
set_option maxRecDepth 100000 in
theorem cd_L_events : Cond.code y_L_events b_L_events 1 (some .int) ∈ wA := in_wA (List.mem_of_getElem? (i := 391) rfl) rfl
abbrev b_L_who : ByteArray := prog_1_method_14_code
def y_L_who : MethodName := ⟨R4, "who", "(I)I"⟩
set_option maxRecDepth 100000 in
theorem cd_L_who : Cond.code y_L_who b_L_who 2 (some .int) ∈ wA := in_wA (List.mem_of_getElem? (i := 395) rfl) rfl
abbrev b_L_what : ByteArray := prog_1_method_15_code
def y_L_what : MethodName := ⟨R4, "what", "(I)I"⟩
set_option maxRecDepth 100000 in
theorem cd_L_what : Cond.code y_L_what b_L_what 2 (some .int) ∈ wA := in_wA (List.mem_of_getElem? (i := 403) rfl) rfl
abbrev b_L_asked : ByteArray := prog_1_method_16_code
def y_L_asked : MethodName := ⟨R4, "asked", "()I"⟩
set_option maxRecDepth 100000 in
theorem cd_L_asked : Cond.code y_L_asked b_L_asked 1 (some .int) ∈ wA := in_wA (List.mem_of_getElem? (i := 407) rfl) rfl
abbrev b_L_taken : ByteArray := prog_1_method_17_code
def y_L_taken : MethodName := ⟨R4, "taken", "()I"⟩
set_option maxRecDepth 100000 in
theorem cd_L_taken : Cond.code y_L_taken b_L_taken 1 (some .int) ∈ wA := in_wA (List.mem_of_getElem? (i := 411) rfl) rfl
abbrev b_L_chain : ByteArray := prog_1_method_18_code
def y_L_chain : MethodName := ⟨R4, "chain", "(II)I"⟩
set_option maxRecDepth 100000 in
theorem cd_L_chain : Cond.code y_L_chain b_L_chain 3 (some .int) ∈ wA := in_wA (List.mem_of_getElem? (i := 415) rfl) rfl
abbrev b_L_isMethod : ByteArray := prog_1_method_19_code
def y_L_isMethod : MethodName := ⟨R4, "isMethod", "(I)Z"⟩
set_option maxRecDepth 100000 in
theorem cd_L_isMethod : Cond.code y_L_isMethod b_L_isMethod 1 (some .boolean) ∈ wA := in_wA (List.mem_of_getElem? (i := 268) rfl) rfl
abbrev b_L_isTarget : ByteArray := prog_1_method_20_code
def y_L_isTarget : MethodName := ⟨R4, "isTarget", "(I)Z"⟩
set_option maxRecDepth 100000 in
theorem cd_L_isTarget : Cond.code y_L_isTarget b_L_isTarget 1 (some .boolean) ∈ wA := in_wA (List.mem_of_getElem? (i := 265) rfl) rfl
abbrev b_L_isException : ByteArray := prog_1_method_21_code
def y_L_isException : MethodName := ⟨R4, "isException", "(I)Z"⟩
set_option maxRecDepth 100000 in
theorem cd_L_isException : Cond.code y_L_isException b_L_isException 1 (some .boolean) ∈ wA := in_wA (List.mem_of_getElem? (i := 203) rfl) rfl
abbrev b_L_isExceptionOrZero : ByteArray := prog_1_method_22_code
def y_L_isExceptionOrZero : MethodName := ⟨R4, "isExceptionOrZero", "(I)Z"⟩
set_option maxRecDepth 100000 in
theorem cd_L_isExceptionOrZero : Cond.code y_L_isExceptionOrZero b_L_isExceptionOrZero 1 (some .boolean) ∈ wA := in_wA (List.mem_of_getElem? (i := 206) rfl) rfl
abbrev b_L_areNumbersOf : ByteArray := prog_1_method_23_code
def y_L_areNumbersOf : MethodName := ⟨R4, "areNumbersOf", "(III)Z"⟩
set_option maxRecDepth 100000 in
theorem cd_L_areNumbersOf : Cond.code y_L_areNumbersOf b_L_areNumbersOf 3 (some .boolean) ∈ wA := in_wA (List.mem_of_getElem? (i := 200) rfl) rfl
abbrev b_L_isKindOf : ByteArray := prog_1_method_24_code
def y_L_isKindOf : MethodName := ⟨R4, "isKindOf", "(II)Z"⟩
set_option maxRecDepth 100000 in
theorem cd_L_isKindOf : Cond.code y_L_isKindOf b_L_isKindOf 3 (some .boolean) ∈ wA := in_wA (List.mem_of_getElem? (i := 375) rfl) rfl
abbrev b_L_workOf : ByteArray := prog_1_method_25_code
def y_L_workOf : MethodName := ⟨R4, "workOf", "(II)LAdviceLinks$Work;"⟩
set_option maxRecDepth 100000 in
theorem cd_L_workOf : Cond.code y_L_workOf b_L_workOf 3 (some (.object "AdviceLinks$Work")) ∈ wA := in_wA (List.mem_of_getElem? (i := 272) rfl) rfl
abbrev b_L_returned : ByteArray := prog_1_method_26_code
def y_L_returned : MethodName := ⟨R4, "returned", "(I)I"⟩
set_option maxRecDepth 100000 in
theorem cd_L_returned : Cond.code y_L_returned b_L_returned 2 (some .int) ∈ wA := in_wA (List.mem_of_getElem? (i := 340) rfl) rfl
abbrev b_L_thrown : ByteArray := prog_1_method_27_code
def y_L_thrown : MethodName := ⟨R4, "thrown", "(I)I"⟩
set_option maxRecDepth 100000 in
theorem cd_L_thrown : Cond.code y_L_thrown b_L_thrown 2 (some .int) ∈ wA := in_wA (List.mem_of_getElem? (i := 300) rfl) rfl
abbrev b_L_brokenOff : ByteArray := prog_1_method_28_code
def y_L_brokenOff : MethodName := ⟨R4, "brokenOff", "()I"⟩
set_option maxRecDepth 100000 in
theorem cd_L_brokenOff : Cond.code y_L_brokenOff b_L_brokenOff 1 (some .int) ∈ wA := in_wA (List.mem_of_getElem? (i := 328) rfl) rfl
abbrev b_L_takeTarget : ByteArray := prog_1_method_29_code
def y_L_takeTarget : MethodName := ⟨R4, "takeTarget", "()I"⟩
set_option maxRecDepth 100000 in
theorem cd_L_takeTarget : Cond.code y_L_takeTarget b_L_takeTarget 2 (some .int) ∈ wA := in_wA (List.mem_of_getElem? (i := 304) rfl) rfl
abbrev b_L_begin : ByteArray := prog_1_method_30_code
def y_L_begin : MethodName := ⟨R4, "begin", "(III)I"⟩
set_option maxRecDepth 100000 in
theorem cd_L_begin : Cond.code y_L_begin b_L_begin 4 (some .int) ∈ wA := in_wA (List.mem_of_getElem? (i := 296) rfl) rfl
abbrev b_L_goAlong : ByteArray := prog_1_method_31_code
def y_L_goAlong : MethodName := ⟨R4, "goAlong", "(III)I"⟩
set_option maxRecDepth 100000 in
theorem cd_L_goAlong : Cond.code y_L_goAlong b_L_goAlong 6 (some .int) ∈ wA := in_wA (List.mem_of_getElem? (i := 308) rfl) rfl
abbrev b_L_workOn : ByteArray := prog_1_method_32_code
def y_L_workOn : MethodName := ⟨R4, "workOn", "(II)I"⟩
set_option maxRecDepth 100000 in
theorem cd_L_workOn : Cond.code y_L_workOn b_L_workOn 6 (some .int) ∈ wA := in_wA (List.mem_of_getElem? (i := 320) rfl) rfl
abbrev b_L_act : ByteArray := prog_1_method_33_code
def y_L_act : MethodName := ⟨R4, "act", "(LAdviceLinks$Advisor;III)I"⟩
set_option maxRecDepth 100000 in
theorem cd_L_act : Cond.code y_L_act b_L_act 5 (some .int) ∈ wA := in_wA (List.mem_of_getElem? (i := 348) rfl) rfl
abbrev b_L_actBefore : ByteArray := prog_1_method_34_code
def y_L_actBefore : MethodName := ⟨R4, "actBefore", "(LAdviceLinks$Advisor;III)I"⟩
set_option maxRecDepth 100000 in
theorem cd_L_actBefore : Cond.code y_L_actBefore b_L_actBefore 5 (some .int) ∈ wA := in_wA (List.mem_of_getElem? (i := 352) rfl) rfl
abbrev b_L_actChange : ByteArray := prog_1_method_35_code
def y_L_actChange : MethodName := ⟨R4, "actChange", "(LAdviceLinks$Advisor;III)I"⟩
set_option maxRecDepth 100000 in
theorem cd_L_actChange : Cond.code y_L_actChange b_L_actChange 6 (some .int) ∈ wA := in_wA (List.mem_of_getElem? (i := 356) rfl) rfl
abbrev b_L_actSkip : ByteArray := prog_1_method_36_code
def y_L_actSkip : MethodName := ⟨R4, "actSkip", "(LAdviceLinks$Advisor;III)I"⟩
set_option maxRecDepth 100000 in
theorem cd_L_actSkip : Cond.code y_L_actSkip b_L_actSkip 5 (some .int) ∈ wA := in_wA (List.mem_of_getElem? (i := 360) rfl) rfl
abbrev b_L_actTwice : ByteArray := prog_1_method_37_code
def y_L_actTwice : MethodName := ⟨R4, "actTwice", "(LAdviceLinks$Advisor;III)I"⟩
set_option maxRecDepth 100000 in
theorem cd_L_actTwice : Cond.code y_L_actTwice b_L_actTwice 8 (some .int) ∈ wA := in_wA (List.mem_of_getElem? (i := 364) rfl) rfl
abbrev b_L_actReturning : ByteArray := prog_1_method_38_code
def y_L_actReturning : MethodName := ⟨R4, "actReturning", "(LAdviceLinks$Advisor;III)I"⟩
set_option maxRecDepth 100000 in
theorem cd_L_actReturning : Cond.code y_L_actReturning b_L_actReturning 6 (some .int) ∈ wA := in_wA (List.mem_of_getElem? (i := 368) rfl) rfl
abbrev b_L_actThrowing : ByteArray := prog_1_method_39_code
def y_L_actThrowing : MethodName := ⟨R4, "actThrowing", "(LAdviceLinks$Advisor;III)I"⟩
set_option maxRecDepth 100000 in
theorem cd_L_actThrowing : Cond.code y_L_actThrowing b_L_actThrowing 6 (some .int) ∈ wA := in_wA (List.mem_of_getElem? (i := 372) rfl) rfl
abbrev b_L_actFinally : ByteArray := prog_1_method_40_code
def y_L_actFinally : MethodName := ⟨R4, "actFinally", "(LAdviceLinks$Advisor;III)I"⟩
set_option maxRecDepth 100000 in
theorem cd_L_actFinally : Cond.code y_L_actFinally b_L_actFinally 6 (some .int) ∈ wA := in_wA (List.mem_of_getElem? (i := 379) rfl) rfl
abbrev b_L_actRecover : ByteArray := prog_1_method_41_code
def y_L_actRecover : MethodName := ⟨R4, "actRecover", "(LAdviceLinks$Advisor;III)I"⟩
set_option maxRecDepth 100000 in
theorem cd_L_actRecover : Cond.code y_L_actRecover b_L_actRecover 6 (some .int) ∈ wA := in_wA (List.mem_of_getElem? (i := 383) rfl) rfl
abbrev b_M_init : ByteArray := prog_7_method_1_code
def y_M_init : MethodName := ⟨R5, "<init>", "()V"⟩
set_option maxRecDepth 100000 in
theorem cd_M_init : Cond.code y_M_init b_M_init 2 none ∈ wA := in_wA (List.mem_of_getElem? (i := 424) rfl) rfl
abbrev b_M_within : ByteArray := prog_7_method_2_code
def y_M_within : MethodName := ⟨R5, "within", "(III)Z"⟩
set_option maxRecDepth 100000 in
theorem cd_M_within : Cond.code y_M_within b_M_within 3 (some .boolean) ∈ wA := in_wA (List.mem_of_getElem? (i := 557) rfl) rfl
abbrev b_M_isException : ByteArray := prog_7_method_3_code
def y_M_isException : MethodName := ⟨R5, "isException", "(I)Z"⟩
set_option maxRecDepth 100000 in
theorem cd_M_isException : Cond.code y_M_isException b_M_isException 1 (some .boolean) ∈ wA := in_wA (List.mem_of_getElem? (i := 563) rfl) rfl
abbrev b_M_fits : ByteArray := prog_7_method_4_code
def y_M_fits : MethodName := ⟨R5, "fits", "(III)Z"⟩
set_option maxRecDepth 100000 in
theorem cd_M_fits : Cond.code y_M_fits b_M_fits 3 (some .boolean) ∈ wA := in_wA (List.mem_of_getElem? (i := 560) rfl) rfl
abbrev b_M_advise : ByteArray := prog_7_method_5_code
def y_M_advise : MethodName := ⟨R5, "advise", "(IIIII)I"⟩
set_option maxRecDepth 100000 in
theorem cd_M_advise : Cond.code y_M_advise b_M_advise 6 (some .int) ∈ wA := in_wA (List.mem_of_getElem? (i := 554) rfl) rfl
abbrev b_M_find : ByteArray := prog_7_method_6_code
def y_M_find : MethodName := ⟨R5, "find", "(I)I"⟩
set_option maxRecDepth 100000 in
theorem cd_M_find : Cond.code y_M_find b_M_find 4 (some .int) ∈ wA := in_wA (List.mem_of_getElem? (i := 571) rfl) rfl
abbrev b_M_when : ByteArray := prog_7_method_7_code
def y_M_when : MethodName := ⟨R5, "when", "(III)Z"⟩
set_option maxRecDepth 100000 in
theorem cd_M_when : Cond.code y_M_when b_M_when 5 (some .boolean) ∈ wA := in_wA (List.mem_of_getElem? (i := 567) rfl) rfl
abbrev b_M_reorder : ByteArray := prog_7_method_8_code
def y_M_reorder : MethodName := ⟨R5, "reorder", "(II)Z"⟩
set_option maxRecDepth 100000 in
theorem cd_M_reorder : Cond.code y_M_reorder b_M_reorder 4 (some .boolean) ∈ wA := in_wA (List.mem_of_getElem? (i := 575) rfl) rfl
abbrev b_M_remove : ByteArray := prog_7_method_9_code
def y_M_remove : MethodName := ⟨R5, "remove", "(I)Z"⟩
set_option maxRecDepth 100000 in
theorem cd_M_remove : Cond.code y_M_remove b_M_remove 4 (some .boolean) ∈ wA := in_wA (List.mem_of_getElem? (i := 579) rfl) rfl
abbrev b_M_freeze : ByteArray := prog_7_method_10_code
def y_M_freeze : MethodName := ⟨R5, "freeze", "(Z)V"⟩
set_option maxRecDepth 100000 in
theorem cd_M_freeze : Cond.code y_M_freeze b_M_freeze 2 none ∈ wA := in_wA (List.mem_of_getElem? (i := 583) rfl) rfl
abbrev b_M_linked : ByteArray := prog_7_method_11_code
def y_M_linked : MethodName := ⟨R5, "linked", "(II)I"⟩
set_option maxRecDepth 100000 in
theorem cd_M_linked : Cond.code y_M_linked b_M_linked 7 (some .int) ∈ wA := in_wA (List.mem_of_getElem? (i := 591) rfl) rfl
abbrev b_M_chain : ByteArray := prog_7_method_12_code
def y_M_chain : MethodName := ⟨R5, "chain", "(II)I"⟩
set_option maxRecDepth 100000 in
theorem cd_M_chain : Cond.code y_M_chain b_M_chain 4 (some .int) ∈ wA := in_wA (List.mem_of_getElem? (i := 587) rfl) rfl
abbrev b_M_isCell : ByteArray := prog_7_method_13_code
def y_M_isCell : MethodName := ⟨R5, "isCell", "(II)Z"⟩
set_option maxRecDepth 100000 in
theorem cd_M_isCell : Cond.code y_M_isCell b_M_isCell 2 (some .boolean) ∈ wA := in_wA (List.mem_of_getElem? (i := 598) rfl) rfl
abbrev b_M_plan : ByteArray := prog_7_method_14_code
def y_M_plan : MethodName := ⟨R5, "plan", "(IIII)Z"⟩
set_option maxRecDepth 100000 in
theorem cd_M_plan : Cond.code y_M_plan b_M_plan 5 (some .boolean) ∈ wA := in_wA (List.mem_of_getElem? (i := 595) rfl) rfl
abbrev b_M_fail : ByteArray := prog_7_method_15_code
def y_M_fail : MethodName := ⟨R5, "fail", "(IIII)Z"⟩
set_option maxRecDepth 100000 in
theorem cd_M_fail : Cond.code y_M_fail b_M_fail 5 (some .boolean) ∈ wA := in_wA (List.mem_of_getElem? (i := 602) rfl) rfl
abbrev b_M_calls : ByteArray := prog_7_method_16_code
def y_M_calls : MethodName := ⟨R5, "calls", "(III)Z"⟩
set_option maxRecDepth 100000 in
theorem cd_M_calls : Cond.code y_M_calls b_M_calls 4 (some .boolean) ∈ wA := in_wA (List.mem_of_getElem? (i := 606) rfl) rfl
abbrev b_M_source : ByteArray := prog_7_method_17_code
def y_M_source : MethodName := ⟨R5, "source", "(I)Z"⟩
set_option maxRecDepth 100000 in
theorem cd_M_source : Cond.code y_M_source b_M_source 2 (some .boolean) ∈ wA := in_wA (List.mem_of_getElem? (i := 610) rfl) rfl
abbrev b_M_note : ByteArray := prog_7_method_18_code
def y_M_note : MethodName := ⟨R5, "note", "(II)V"⟩
set_option maxRecDepth 100000 in
theorem cd_M_note : Cond.code y_M_note b_M_note 3 none ∈ wA := in_wA (List.mem_of_getElem? (i := 642) rfl) rfl
abbrev b_M_isOne : ByteArray := prog_7_method_19_code
def y_M_isOne : MethodName := ⟨R5, "isOne", "(II)Z"⟩
set_option maxRecDepth 100000 in
theorem cd_M_isOne : Cond.code y_M_isOne b_M_isOne 3 (some .boolean) ∈ wA := in_wA (List.mem_of_getElem? (i := 653) rfl) rfl
abbrev b_M_go : ByteArray := prog_7_method_20_code
def y_M_go : MethodName := ⟨R5, "go", "(II)V"⟩
set_option maxRecDepth 100000 in
theorem cd_M_go : Cond.code y_M_go b_M_go 3 none ∈ wA := in_wA (List.mem_of_getElem? (i := 630) rfl) rfl
abbrev b_M_comes : ByteArray := prog_7_method_21_code
def y_M_comes : MethodName := ⟨R5, "comes", "(ZI)V"⟩
set_option maxRecDepth 100000 in
theorem cd_M_comes : Cond.code y_M_comes b_M_comes 3 none ∈ wA := in_wA (List.mem_of_getElem? (i := 622) rfl) rfl
abbrev b_M_await : ByteArray := prog_7_method_22_code
def y_M_await : MethodName := ⟨R5, "await", "(II)V"⟩
set_option maxRecDepth 100000 in
theorem cd_M_await : Cond.code y_M_await b_M_await 3 none ∈ wA := in_wA (List.mem_of_getElem? (i := 626) rfl) rfl
abbrev b_M_enter : ByteArray := prog_7_method_23_code
def y_M_enter : MethodName := ⟨R5, "enter", "(II)V"⟩
set_option maxRecDepth 100000 in
theorem cd_M_enter : Cond.code y_M_enter b_M_enter 3 none ∈ wA := in_wA (List.mem_of_getElem? (i := 618) rfl) rfl
abbrev b_M_work : ByteArray := prog_7_method_24_code
def y_M_work : MethodName := ⟨R5, "work", "()V"⟩
set_option maxRecDepth 100000 in
theorem cd_M_work : Cond.code y_M_work b_M_work 2 none ∈ wA := in_wA (List.mem_of_getElem? (i := 638) rfl) rfl
abbrev b_M_step : ByteArray := prog_7_method_25_code
def y_M_step : MethodName := ⟨R5, "step", "()V"⟩
set_option maxRecDepth 100000 in
theorem cd_M_step : Cond.code y_M_step b_M_step 2 none ∈ wA := in_wA (List.mem_of_getElem? (i := 634) rfl) rfl
abbrev b_M_back : ByteArray := prog_7_method_26_code
def y_M_back : MethodName := ⟨R5, "back", "()V"⟩
set_option maxRecDepth 100000 in
theorem cd_M_back : Cond.code y_M_back b_M_back 3 none ∈ wA := in_wA (List.mem_of_getElem? (i := 646) rfl) rfl
abbrev b_M_twice : ByteArray := prog_7_method_27_code
def y_M_twice : MethodName := ⟨R5, "twice", "(I)V"⟩
set_option maxRecDepth 100000 in
theorem cd_M_twice : Cond.code y_M_twice b_M_twice 2 none ∈ wA := in_wA (List.mem_of_getElem? (i := 650) rfl) rfl
abbrev b_M_invoke : ByteArray := prog_7_method_28_code
def y_M_invoke : MethodName := ⟨R5, "invoke", "(II)I"⟩
set_option maxRecDepth 100000 in
theorem cd_M_invoke : Cond.code y_M_invoke b_M_invoke 3 (some .int) ∈ wA := in_wA (List.mem_of_getElem? (i := 614) rfl) rfl
abbrev b_M_result : ByteArray := prog_7_method_29_code
def y_M_result : MethodName := ⟨R5, "result", "()I"⟩
set_option maxRecDepth 100000 in
theorem cd_M_result : Cond.code y_M_result b_M_result 1 (some .int) ∈ wA := in_wA (List.mem_of_getElem? (i := 657) rfl) rfl
abbrev b_M_events : ByteArray := prog_7_method_30_code
def y_M_events : MethodName := ⟨R5, "events", "()I"⟩
set_option maxRecDepth 100000 in
theorem cd_M_events : Cond.code y_M_events b_M_events 1 (some .int) ∈ wA := in_wA (List.mem_of_getElem? (i := 661) rfl) rfl
abbrev b_M_who : ByteArray := prog_7_method_31_code
def y_M_who : MethodName := ⟨R5, "who", "(I)I"⟩
set_option maxRecDepth 100000 in
theorem cd_M_who : Cond.code y_M_who b_M_who 2 (some .int) ∈ wA := in_wA (List.mem_of_getElem? (i := 665) rfl) rfl
abbrev b_M_what : ByteArray := prog_7_method_32_code
def y_M_what : MethodName := ⟨R5, "what", "(I)I"⟩
set_option maxRecDepth 100000 in
theorem cd_M_what : Cond.code y_M_what b_M_what 2 (some .int) ∈ wA := in_wA (List.mem_of_getElem? (i := 669) rfl) rfl
abbrev b_M_asked : ByteArray := prog_7_method_33_code
def y_M_asked : MethodName := ⟨R5, "asked", "()I"⟩
set_option maxRecDepth 100000 in
theorem cd_M_asked : Cond.code y_M_asked b_M_asked 1 (some .int) ∈ wA := in_wA (List.mem_of_getElem? (i := 673) rfl) rfl
abbrev b_M_taken : ByteArray := prog_7_method_34_code
def y_M_taken : MethodName := ⟨R5, "taken", "()I"⟩
set_option maxRecDepth 100000 in
theorem cd_M_taken : Cond.code y_M_taken b_M_taken 1 (some .int) ∈ wA := in_wA (List.mem_of_getElem? (i := 677) rfl) rfl
