def x_at {α : Type} : List α → Nat → Option α
  | [], _ => none
  | a :: _, 0 => some a
  | _ :: l, n + 1 => x_at l n
theorem x_at_eq {α : Type} : ∀ (l : List α) (n : Nat), x_at l n = l[n]?
  | [], n => by simp [x_at]
  | a :: l, 0 => by simp [x_at]
  | a :: l, n + 1 => by simp only [x_at, List.getElem?_cons_succ]; exact x_at_eq l n
/-- a class's fields: declaring class, name, descriptor, final -/
def x_T (l : List (String × String × String × Bool)) : u_T := fun k => match x_at l k with
  | some q => q
  | none => ("", "", "", false)

def x_fl0 : List (String × String × String × Bool) := [("AgeHill$Folk", "cameAt", "[I", true), ("AgeHill$Folk", "trueAge", "[I", true), ("AgeHill$Folk", "toldAge", "[I", true), ("AgeHill$Folk", "lame", "[I", true), ("AgeHill$Folk", "familyOf", "[I", true), ("AgeHill$Folk", "size", "[I", true), ("AgeHill$Folk", "lames", "[I", true), ("AgeHill$Folk", "home", "[I", true), ("AgeHill$Folk", "loves", "[I", true), ("AgeHill$Folk", "dweller", "[I", true), ("AgeHill$Folk", "morning", "[I", true), ("AgeHill$Folk", "mover", "[I", true), ("AgeHill$Folk", "goal", "[I", true), ("AgeHill$Folk", "people", "I", false), ("AgeHill$Folk", "families", "I", false), ("AgeHill$Folk", "month", "I", false), ("AgeHill$Folk", "moves", "I", false)]
def x_fl1 : List (String × String × String × Bool) := [("AgeHill$Hill", "text", "LAgeHill$Text;", true), ("AgeHill$Hill", "folk", "LAgeHill$Folk;", true), ("AgeHill$Hill", "sums", "LAgeHill$Reckoner;", true), ("AgeHill$Hill", "age", "[I", true), ("AgeHill$Hill", "key", "[I", true), ("AgeHill$Hill", "who", "[I", true), ("AgeHill$Hill", "inRow", "I", false), ("AgeHill$Hill", "found", "I", false)]
def x_fl2 : List (String × String × String × Bool) := [("AgeHill$Least", "hill", "LAgeHill$Hill;", true), ("AgeHill$Least", "best", "[I", true), ("AgeHill$Least", "pick", "[I", true), ("AgeHill$Least", "goal", "[I", true), ("AgeHill$Least", "moved", "I", false), ("AgeHill$Least", "costs", "I", false)]
def x_fl3 : List (String × String × String × Bool) := [("AgeHill$Lots", "hill", "LAgeHill$Hill;", true), ("AgeHill$Lots", "solver", "LAgeHill$Least;", true), ("AgeHill$Lots", "seed", "I", false), ("AgeHill$Lots", "moved", "I", false)]
def x_fl4 : List (String × String × String × Bool) := [("AgeHill$Mornings", "hill", "LAgeHill$Hill;", true), ("AgeHill$Mornings", "before", "LAgeHill$Folk;", true), ("AgeHill$Mornings", "order", "[I", true), ("AgeHill$Mornings", "costs", "I", false)]
def x_fl5 : List (String × String × String × Bool) := [("AgeHill$Newcomers", "hill", "LAgeHill$Hill;", true), ("AgeHill$Newcomers", "weight", "[I", true), ("AgeHill$Newcomers", "spot", "[I", true), ("AgeHill$Newcomers", "longest", "[I", true), ("AgeHill$Newcomers", "bestPlace", "I", false), ("AgeHill$Newcomers", "bestMean", "I", false)]
def x_fl6 : List (String × String × String × Bool) := [("AgeHill$Reader", "tape", "[B", true), ("AgeHill$Reader", "fresh", "LAgeHill$Text;", true), ("AgeHill$Reader", "kind", "[I", true), ("AgeHill$Reader", "value", "[I", true), ("AgeHill$Reader", "at", "[I", true), ("AgeHill$Reader", "nameToken", "[I", true), ("AgeHill$Reader", "waiting", "[I", true), ("AgeHill$Reader", "hanging", "I", false), ("AgeHill$Reader", "length", "I", false), ("AgeHill$Reader", "next", "I", false), ("AgeHill$Reader", "fault", "I", false), ("AgeHill$Reader", "faultAt", "I", false), ("AgeHill$Reader", "lateFault", "I", false), ("AgeHill$Reader", "lateAt", "I", false)]
def x_fl7 : List (String × String × String × Bool) := [("AgeHill$Reckoner", "text", "LAgeHill$Text;", true), ("AgeHill$Reckoner", "vars", "[I", true), ("AgeHill$Reckoner", "stack", "[I", true), ("AgeHill$Reckoner", "dividedByZero", "Z", false)]
def x_fl8 : List (String × String × String × Bool) := [("AgeHill$Text", "side", "[I", true), ("AgeHill$Text", "good", "[I", true), ("AgeHill$Text", "code", "[I", true), ("AgeHill$Text", "start", "[I", true), ("AgeHill$Text", "end", "[I", true), ("AgeHill$Text", "houses", "I", false), ("AgeHill$Text", "step", "I", false), ("AgeHill$Text", "lane", "I", false), ("AgeHill$Text", "rules", "I", false), ("AgeHill$Text", "coded", "I", false), ("AgeHill$Text", "byMean", "Z", false)]
def x_fl9 : List (String × String × String × Bool) := [("AgeHill$Tops", "hill", "LAgeHill$Hill;", true), ("AgeHill$Tops", "order", "[I", true), ("AgeHill$Tops", "level", "[I", true), ("AgeHill$Tops", "rank", "[I", true), ("AgeHill$Tops", "total", "[I", true), ("AgeHill$Tops", "members", "I", false), ("AgeHill$Tops", "table", "[I", false), ("AgeHill$Tops", "nextTable", "[I", false), ("AgeHill$Tops", "notStaying", "I", false), ("AgeHill$Tops", "leftBits", "I", false)]
def x_fl10 : List (String × String × String × Bool) := [("AgeHill$Wishes", "hill", "LAgeHill$Hill;", true), ("AgeHill$Wishes", "gain", "I", false), ("AgeHill$Wishes", "first", "I", false), ("AgeHill$Wishes", "second", "I", false)]
def x_fl11 : List (String × String × String × Bool) := [("AgeHill", "tape", "[B", true), ("AgeHill", "taped", "I", false), ("AgeHill", "faultPlace", "I", false), ("AgeHill", "told", "LAgeHill$Text;", true), ("AgeHill", "reader", "LAgeHill$Reader;", true), ("AgeHill", "folk", "LAgeHill$Folk;", true), ("AgeHill", "aside", "LAgeHill$Folk;", true), ("AgeHill", "slots", "[LAgeHill$Folk;", true), ("AgeHill", "filled", "[Z", true), ("AgeHill", "hill", "LAgeHill$Hill;", true), ("AgeHill", "solver", "LAgeHill$Least;", true), ("AgeHill", "newcomers", "LAgeHill$Newcomers;", true), ("AgeHill", "tops", "LAgeHill$Tops;", true), ("AgeHill", "mornings", "LAgeHill$Mornings;", true), ("AgeHill", "wishes", "LAgeHill$Wishes;", true), ("AgeHill", "lots", "LAgeHill$Lots;", true)]
def x_fl12 : List (String × String × String × Bool) := [("AgeHillModel", "taped", "I", false), ("AgeHillModel", "tape", "[I", true), ("AgeHillModel", "tokens", "I", false), ("AgeHillModel", "tokenSort", "[I", true), ("AgeHillModel", "tokenFrom", "[I", true), ("AgeHillModel", "tokenWhat", "[I", true), ("AgeHillModel", "tokenName", "[J", true), ("AgeHillModel", "head", "I", false), ("AgeHillModel", "fault", "I", false), ("AgeHillModel", "faultPlace", "I", false), ("AgeHillModel", "worst", "I", false), ("AgeHillModel", "worstPlace", "I", false), ("AgeHillModel", "state", "[I", true), ("AgeHillModel", "codes", "[I", true), ("AgeHillModel", "codeOp", "[I", true), ("AgeHillModel", "codeValue", "[I", true), ("AgeHillModel", "lits", "[I", true), ("AgeHillModel", "litNot", "[Z", true), ("AgeHillModel", "litOp", "[I", true), ("AgeHillModel", "litA", "[I", true), ("AgeHillModel", "litB", "[I", true), ("AgeHillModel", "litC", "[I", true), ("AgeHillModel", "litRow", "[I", true), ("AgeHillModel", "held", "[Z", true), ("AgeHillModel", "houseName", "[J", true), ("AgeHillModel", "valued", "I", false), ("AgeHillModel", "waiting", "I", false), ("AgeHillModel", "waits", "[I", true), ("AgeHillModel", "exprFrom", "I", false), ("AgeHillModel", "condFrom", "I", false), ("AgeHillModel", "asked", "[I", true), ("AgeHillModel", "broken", "Z", false), ("AgeHillModel", "stack", "[I", true), ("AgeHillModel", "size", "I", false), ("AgeHillModel", "lames", "I", false), ("AgeHillModel", "age", "I", false), ("AgeHillModel", "rows", "I", false), ("AgeHillModel", "rowFamily", "[I", true), ("AgeHillModel", "rowKey", "[I", true), ("AgeHillModel", "rowHouse", "[I", true), ("AgeHillModel", "rowAge", "[I", true), ("AgeHillModel", "rowSize", "[I", true), ("AgeHillModel", "rowLame", "[I", true), ("AgeHillModel", "least", "[I", true), ("AgeHillModel", "ends", "I", false), ("AgeHillModel", "putAt", "[I", true), ("AgeHillModel", "onTops", "I", false), ("AgeHillModel", "topHouse", "[I", true), ("AgeHillModel", "topKey", "[I", true), ("AgeHillModel", "byKey", "[I", true), ("AgeHillModel", "sides", "I", false), ("AgeHillModel", "sideHouse", "[I", true), ("AgeHillModel", "partSet", "I", false), ("AgeHillModel", "wasHouse", "[I", true), ("AgeHillModel", "doneCost", "I", false)]
abbrev x_cl : List vw_C := [("AgeHill$Folk", x_T x_fl0, 17), ("AgeHill$Hill", x_T x_fl1, 8), ("AgeHill$Least", x_T x_fl2, 6), ("AgeHill$Lots", x_T x_fl3, 4), ("AgeHill$Mornings", x_T x_fl4, 4), ("AgeHill$Newcomers", x_T x_fl5, 6), ("AgeHill$Reader", x_T x_fl6, 14), ("AgeHill$Reckoner", x_T x_fl7, 4), ("AgeHill$Text", x_T x_fl8, 11), ("AgeHill$Tops", x_T x_fl9, 10), ("AgeHill$Wishes", x_T x_fl10, 4), ("AgeHill", x_T x_fl11, 16), ("AgeHillModel", x_T x_fl12, 55)]
def x_tl0 : List FieldType := [.array .int, .array .int, .array .int, .array .int, .array .int, .array .int, .array .int, .array .int, .array .int, .array .int, .array .int, .array .int, .array .int, .int, .int, .int, .int]
def x_tl1 : List FieldType := [.object "AgeHill$Text", .object "AgeHill$Folk", .object "AgeHill$Reckoner", .array .int, .array .int, .array .int, .int, .int]
def x_tl2 : List FieldType := [.object "AgeHill$Hill", .array .int, .array .int, .array .int, .int, .int]
def x_tl3 : List FieldType := [.object "AgeHill$Hill", .object "AgeHill$Least", .int, .int]
def x_tl4 : List FieldType := [.object "AgeHill$Hill", .object "AgeHill$Folk", .array .int, .int]
def x_tl5 : List FieldType := [.object "AgeHill$Hill", .array .int, .array .int, .array .int, .int, .int]
def x_tl6 : List FieldType := [.array .byte, .object "AgeHill$Text", .array .int, .array .int, .array .int, .array .int, .array .int, .int, .int, .int, .int, .int, .int, .int]
def x_tl7 : List FieldType := [.object "AgeHill$Text", .array .int, .array .int, .boolean]
def x_tl8 : List FieldType := [.array .int, .array .int, .array .int, .array .int, .array .int, .int, .int, .int, .int, .int, .boolean]
def x_tl9 : List FieldType := [.object "AgeHill$Hill", .array .int, .array .int, .array .int, .array .int, .int, .array .int, .array .int, .int, .int]
def x_tl10 : List FieldType := [.object "AgeHill$Hill", .int, .int, .int]
def x_tl11 : List FieldType := [.array .byte, .int, .int, .object "AgeHill$Text", .object "AgeHill$Reader", .object "AgeHill$Folk", .object "AgeHill$Folk", .array (.object "AgeHill$Folk"), .array .boolean, .object "AgeHill$Hill", .object "AgeHill$Least", .object "AgeHill$Newcomers", .object "AgeHill$Tops", .object "AgeHill$Mornings", .object "AgeHill$Wishes", .object "AgeHill$Lots"]
def x_tl12 : List FieldType := [.int, .array .int, .int, .array .int, .array .int, .array .int, .array .long, .int, .int, .int, .int, .int, .array .int, .array .int, .array .int, .array .int, .array .int, .array .boolean, .array .int, .array .int, .array .int, .array .int, .array .int, .array .boolean, .array .long, .int, .int, .array .int, .int, .int, .array .int, .boolean, .array .int, .int, .int, .int, .int, .array .int, .array .int, .array .int, .array .int, .array .int, .array .int, .array .int, .int, .array .int, .int, .array .int, .array .int, .array .int, .int, .array .int, .int, .array .int, .int]
def x_tls : List (List FieldType) := [x_tl0, x_tl1, x_tl2, x_tl3, x_tl4, x_tl5, x_tl6, x_tl7, x_tl8, x_tl9, x_tl10, x_tl11, x_tl12]
def x_ty (c k : Nat) : FieldType := match x_at x_tls c with
  | some l => (match x_at l k with
    | some t => t
    | none => .int)
  | none => .int
theorem x_ty0 : ∀ k, k < 17 → parseFieldDescriptor (x_T x_fl0 k).2.2.1 = some (x_ty 0 k) := by decide +kernel
theorem x_nm0 : ∀ a, a < 17 → ∀ b, b < 17 → a ≠ b → (x_T x_fl0 a).2.1 ≠ (x_T x_fl0 b).2.1 := by decide +kernel
theorem x_in0 : ∀ w ∈ u_ws "AgeHill$Folk" (x_T x_fl0) 17, w ∈ lw_tbl := by
  have h : u_ws "AgeHill$Folk" (x_T x_fl0) 17 = ([383, 385, 387, 389, 391, 393, 395, 397, 399, 401, 403, 405, 407, 409, 411, 413, 415] : List Nat).filterMap (fun i => lw_tbl[i]?) := by decide +kernel
  intro w hw
  rw [h] at hw
  obtain ⟨i, -, hi⟩ := List.mem_filterMap.mp hw
  exact List.mem_of_getElem? hi
theorem x_ins0 : Cond.instantiable "AgeHill$Folk" 17 ∈ lw_tbl := List.mem_of_getElem? (i := 308) (by decide +kernel)
theorem x_ty1 : ∀ k, k < 8 → parseFieldDescriptor (x_T x_fl1 k).2.2.1 = some (x_ty 1 k) := by decide +kernel
theorem x_nm1 : ∀ a, a < 8 → ∀ b, b < 8 → a ≠ b → (x_T x_fl1 a).2.1 ≠ (x_T x_fl1 b).2.1 := by decide +kernel
theorem x_in1 : ∀ w ∈ u_ws "AgeHill$Hill" (x_T x_fl1) 8, w ∈ lw_tbl := by
  have h : u_ws "AgeHill$Hill" (x_T x_fl1) 8 = ([483, 485, 487, 489, 491, 493, 495, 497] : List Nat).filterMap (fun i => lw_tbl[i]?) := by decide +kernel
  intro w hw
  rw [h] at hw
  obtain ⟨i, -, hi⟩ := List.mem_filterMap.mp hw
  exact List.mem_of_getElem? hi
theorem x_ins1 : Cond.instantiable "AgeHill$Hill" 8 ∈ lw_tbl := List.mem_of_getElem? (i := 420) (by decide +kernel)
theorem x_ty2 : ∀ k, k < 6 → parseFieldDescriptor (x_T x_fl2 k).2.2.1 = some (x_ty 2 k) := by decide +kernel
theorem x_nm2 : ∀ a, a < 6 → ∀ b, b < 6 → a ≠ b → (x_T x_fl2 a).2.1 ≠ (x_T x_fl2 b).2.1 := by decide +kernel
theorem x_in2 : ∀ w ∈ u_ws "AgeHill$Least" (x_T x_fl2) 6, w ∈ lw_tbl := by
  have h : u_ws "AgeHill$Least" (x_T x_fl2) 6 = ([515, 517, 519, 521, 523, 525] : List Nat).filterMap (fun i => lw_tbl[i]?) := by decide +kernel
  intro w hw
  rw [h] at hw
  obtain ⟨i, -, hi⟩ := List.mem_filterMap.mp hw
  exact List.mem_of_getElem? hi
theorem x_ins2 : Cond.instantiable "AgeHill$Least" 6 ∈ lw_tbl := List.mem_of_getElem? (i := 501) (by decide +kernel)
theorem x_ty3 : ∀ k, k < 4 → parseFieldDescriptor (x_T x_fl3 k).2.2.1 = some (x_ty 3 k) := by decide +kernel
theorem x_nm3 : ∀ a, a < 4 → ∀ b, b < 4 → a ≠ b → (x_T x_fl3 a).2.1 ≠ (x_T x_fl3 b).2.1 := by decide +kernel
theorem x_in3 : ∀ w ∈ u_ws "AgeHill$Lots" (x_T x_fl3) 4, w ∈ lw_tbl := by
  have h : u_ws "AgeHill$Lots" (x_T x_fl3) 4 = ([646, 648, 650, 652] : List Nat).filterMap (fun i => lw_tbl[i]?) := by decide +kernel
  intro w hw
  rw [h] at hw
  obtain ⟨i, -, hi⟩ := List.mem_filterMap.mp hw
  exact List.mem_of_getElem? hi
theorem x_ins3 : Cond.instantiable "AgeHill$Lots" 4 ∈ lw_tbl := List.mem_of_getElem? (i := 637) (by decide +kernel)
theorem x_ty4 : ∀ k, k < 4 → parseFieldDescriptor (x_T x_fl4 k).2.2.1 = some (x_ty 4 k) := by decide +kernel
theorem x_nm4 : ∀ a, a < 4 → ∀ b, b < 4 → a ≠ b → (x_T x_fl4 a).2.1 ≠ (x_T x_fl4 b).2.1 := by decide +kernel
theorem x_in4 : ∀ w ∈ u_ws "AgeHill$Mornings" (x_T x_fl4) 4, w ∈ lw_tbl := by
  have h : u_ws "AgeHill$Mornings" (x_T x_fl4) 4 = ([605, 607, 609, 611] : List Nat).filterMap (fun i => lw_tbl[i]?) := by decide +kernel
  intro w hw
  rw [h] at hw
  obtain ⟨i, -, hi⟩ := List.mem_filterMap.mp hw
  exact List.mem_of_getElem? hi
theorem x_ins4 : Cond.instantiable "AgeHill$Mornings" 4 ∈ lw_tbl := List.mem_of_getElem? (i := 595) (by decide +kernel)
theorem x_ty5 : ∀ k, k < 6 → parseFieldDescriptor (x_T x_fl5 k).2.2.1 = some (x_ty 5 k) := by decide +kernel
theorem x_nm5 : ∀ a, a < 6 → ∀ b, b < 6 → a ≠ b → (x_T x_fl5 a).2.1 ≠ (x_T x_fl5 b).2.1 := by decide +kernel
theorem x_in5 : ∀ w ∈ u_ws "AgeHill$Newcomers" (x_T x_fl5) 6, w ∈ lw_tbl := by
  have h : u_ws "AgeHill$Newcomers" (x_T x_fl5) 6 = ([542, 544, 546, 548, 550, 552] : List Nat).filterMap (fun i => lw_tbl[i]?) := by decide +kernel
  intro w hw
  rw [h] at hw
  obtain ⟨i, -, hi⟩ := List.mem_filterMap.mp hw
  exact List.mem_of_getElem? hi
theorem x_ins5 : Cond.instantiable "AgeHill$Newcomers" 6 ∈ lw_tbl := List.mem_of_getElem? (i := 529) (by decide +kernel)
theorem x_ty6 : ∀ k, k < 14 → parseFieldDescriptor (x_T x_fl6 k).2.2.1 = some (x_ty 6 k) := by decide +kernel
theorem x_nm6 : ∀ a, a < 14 → ∀ b, b < 14 → a ≠ b → (x_T x_fl6 a).2.1 ≠ (x_T x_fl6 b).2.1 := by decide +kernel
theorem x_in6 : ∀ w ∈ u_ws "AgeHill$Reader" (x_T x_fl6) 14, w ∈ lw_tbl := by
  have h : u_ws "AgeHill$Reader" (x_T x_fl6) 14 = ([278, 280, 282, 284, 286, 288, 290, 292, 294, 296, 298, 300, 302, 304] : List Nat).filterMap (fun i => lw_tbl[i]?) := by decide +kernel
  intro w hw
  rw [h] at hw
  obtain ⟨i, -, hi⟩ := List.mem_filterMap.mp hw
  exact List.mem_of_getElem? hi
theorem x_ins6 : Cond.instantiable "AgeHill$Reader" 14 ∈ lw_tbl := List.mem_of_getElem? (i := 255) (by decide +kernel)
theorem x_ty7 : ∀ k, k < 4 → parseFieldDescriptor (x_T x_fl7 k).2.2.1 = some (x_ty 7 k) := by decide +kernel
theorem x_nm7 : ∀ a, a < 4 → ∀ b, b < 4 → a ≠ b → (x_T x_fl7 a).2.1 ≠ (x_T x_fl7 b).2.1 := by decide +kernel
theorem x_in7 : ∀ w ∈ u_ws "AgeHill$Reckoner" (x_T x_fl7) 4, w ∈ lw_tbl := by
  have h : u_ws "AgeHill$Reckoner" (x_T x_fl7) 4 = ([433, 435, 437, 439] : List Nat).filterMap (fun i => lw_tbl[i]?) := by decide +kernel
  intro w hw
  rw [h] at hw
  obtain ⟨i, -, hi⟩ := List.mem_filterMap.mp hw
  exact List.mem_of_getElem? hi
theorem x_ins7 : Cond.instantiable "AgeHill$Reckoner" 4 ∈ lw_tbl := List.mem_of_getElem? (i := 422) (by decide +kernel)
theorem x_ty8 : ∀ k, k < 11 → parseFieldDescriptor (x_T x_fl8 k).2.2.1 = some (x_ty 8 k) := by decide +kernel
theorem x_nm8 : ∀ a, a < 11 → ∀ b, b < 11 → a ≠ b → (x_T x_fl8 a).2.1 ≠ (x_T x_fl8 b).2.1 := by decide +kernel
theorem x_in8 : ∀ w ∈ u_ws "AgeHill$Text" (x_T x_fl8) 11, w ∈ lw_tbl := by
  have h : u_ws "AgeHill$Text" (x_T x_fl8) 11 = ([229, 231, 233, 235, 237, 239, 241, 243, 245, 247, 249] : List Nat).filterMap (fun i => lw_tbl[i]?) := by decide +kernel
  intro w hw
  rw [h] at hw
  obtain ⟨i, -, hi⟩ := List.mem_filterMap.mp hw
  exact List.mem_of_getElem? hi
theorem x_ins8 : Cond.instantiable "AgeHill$Text" 11 ∈ lw_tbl := List.mem_of_getElem? (i := 168) (by decide +kernel)
theorem x_ty9 : ∀ k, k < 10 → parseFieldDescriptor (x_T x_fl9 k).2.2.1 = some (x_ty 9 k) := by decide +kernel
theorem x_nm9 : ∀ a, a < 10 → ∀ b, b < 10 → a ≠ b → (x_T x_fl9 a).2.1 ≠ (x_T x_fl9 b).2.1 := by decide +kernel
theorem x_in9 : ∀ w ∈ u_ws "AgeHill$Tops" (x_T x_fl9) 10, w ∈ lw_tbl := by
  have h : u_ws "AgeHill$Tops" (x_T x_fl9) 10 = ([573, 575, 577, 579, 581, 583, 585, 587, 589, 591] : List Nat).filterMap (fun i => lw_tbl[i]?) := by decide +kernel
  intro w hw
  rw [h] at hw
  obtain ⟨i, -, hi⟩ := List.mem_filterMap.mp hw
  exact List.mem_of_getElem? hi
theorem x_ins9 : Cond.instantiable "AgeHill$Tops" 10 ∈ lw_tbl := List.mem_of_getElem? (i := 556) (by decide +kernel)
theorem x_ty10 : ∀ k, k < 4 → parseFieldDescriptor (x_T x_fl10 k).2.2.1 = some (x_ty 10 k) := by decide +kernel
theorem x_nm10 : ∀ a, a < 4 → ∀ b, b < 4 → a ≠ b → (x_T x_fl10 a).2.1 ≠ (x_T x_fl10 b).2.1 := by decide +kernel
theorem x_in10 : ∀ w ∈ u_ws "AgeHill$Wishes" (x_T x_fl10) 4, w ∈ lw_tbl := by
  have h : u_ws "AgeHill$Wishes" (x_T x_fl10) 4 = ([627, 629, 631, 633] : List Nat).filterMap (fun i => lw_tbl[i]?) := by decide +kernel
  intro w hw
  rw [h] at hw
  obtain ⟨i, -, hi⟩ := List.mem_filterMap.mp hw
  exact List.mem_of_getElem? hi
theorem x_ins10 : Cond.instantiable "AgeHill$Wishes" 4 ∈ lw_tbl := List.mem_of_getElem? (i := 615) (by decide +kernel)
theorem x_ty11 : ∀ k, k < 16 → parseFieldDescriptor (x_T x_fl11 k).2.2.1 = some (x_ty 11 k) := by decide +kernel
theorem x_nm11 : ∀ a, a < 16 → ∀ b, b < 16 → a ≠ b → (x_T x_fl11 a).2.1 ≠ (x_T x_fl11 b).2.1 := by decide +kernel
theorem x_in11 : ∀ w ∈ u_ws "AgeHill" (x_T x_fl11) 16, w ∈ lw_tbl := by
  have h : u_ws "AgeHill" (x_T x_fl11) 16 = ([671, 673, 675, 677, 679, 681, 683, 685, 687, 689, 691, 693, 695, 697, 699, 701] : List Nat).filterMap (fun i => lw_tbl[i]?) := by decide +kernel
  intro w hw
  rw [h] at hw
  obtain ⟨i, -, hi⟩ := List.mem_filterMap.mp hw
  exact List.mem_of_getElem? hi
theorem x_ins11 : Cond.instantiable "AgeHill" 16 ∈ lw_tbl := List.mem_of_getElem? (i := 160) (by decide +kernel)
theorem x_ty12 : ∀ k, k < 55 → parseFieldDescriptor (x_T x_fl12 k).2.2.1 = some (x_ty 12 k) := by decide +kernel
theorem x_nm12 : ∀ a, a < 55 → ∀ b, b < 55 → a ≠ b → (x_T x_fl12 a).2.1 ≠ (x_T x_fl12 b).2.1 := by decide +kernel
theorem x_in12 : ∀ w ∈ u_ws "AgeHillModel" (x_T x_fl12) 55, w ∈ lw_tbl := by
  have h : u_ws "AgeHillModel" (x_T x_fl12) 55 = ([1461, 1463, 1465, 1467, 1469, 1471, 1473, 1475, 1477, 1479, 1481, 1483, 1485, 1487, 1489, 1491, 1493, 1495, 1497, 1499, 1501, 1503, 1505, 1507, 1509, 1511, 1513, 1515, 1517, 1519, 1521, 1523, 1525, 1527, 1529, 1531, 1533, 1535, 1537, 1539, 1541, 1543, 1545, 1547, 1549, 1551, 1553, 1555, 1557, 1559, 1561, 1563, 1565, 1567, 1569] : List Nat).filterMap (fun i => lw_tbl[i]?) := by decide +kernel
  intro w hw
  rw [h] at hw
  obtain ⟨i, -, hi⟩ := List.mem_filterMap.mp hw
  exact List.mem_of_getElem? hi
theorem x_ins12 : Cond.instantiable "AgeHillModel" 55 ∈ lw_tbl := List.mem_of_getElem? (i := 1397) (by decide +kernel)
