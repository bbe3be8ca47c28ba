/-! names of this claim, by program (wip/p43/gen02.py) out of the Statement's words: classes, fields, methods, links, each with its place among lw_tbl; checked by the kernel -/
def ro_Rs : List String := ["RefusedOnce$Bodies", "RefusedOnce$Chances", "RefusedOnce$Changes", "RefusedOnce$Evening", "RefusedOnce$Land", "RefusedOnce$Law", "RefusedOnce$Level", "RefusedOnce$Payings", "RefusedOnce$Purses", "RefusedOnce$Shelf", "RefusedOnce$Ways", "RefusedOnce", "RefusedOnceModel", "java/lang/Math", "java/lang/Object", "RefusedOnceLaw", "java/lang/System", "java/lang/Integer", "java/util/Arrays", "java/lang/Double"]
def ro_Rn (c : Nat) : String := ro_Rs.getD c ""
def ro_T0 : u_T := fun k => match k with
  | 0 => ("RefusedOnce$Bodies", "kinds", "[I", true)
  | 1 => ("RefusedOnce$Bodies", "trace", "[I", true)
  | 2 => ("RefusedOnce$Bodies", "kept", "I", false)
  | 3 => ("RefusedOnce$Bodies", "ran", "I", false)
  | 4 => ("RefusedOnce$Bodies", "self", "I", false)
  | _ => ("RefusedOnce$Bodies", "selfKind", "I", false)
def ro_ty0 : Nat → FieldType := fun k => match k with
  | 0 => (.array .int)
  | 1 => (.array .int)
  | 2 => .int
  | 3 => .int
  | 4 => .int
  | _ => .int
theorem ro_nm0 : ∀ a, a < 6 → ∀ b, b < 6 → a ≠ b → (ro_T0 a).2.1 ≠ (ro_T0 b).2.1 := by decide +kernel
theorem ro_tk0 : ∀ k, k < 6 → parseFieldDescriptor (ro_T0 k).2.2.1 = some (ro_ty0 k) := by decide +kernel
def ro_T1 : u_T := fun k => match k with
  | 0 => ("RefusedOnce$Chances", "land", "LRefusedOnce$Land;", true)
  | 1 => ("RefusedOnce$Chances", "law", "LRefusedOnce$Law;", true)
  | 2 => ("RefusedOnce$Chances", "purses", "LRefusedOnce$Purses;", true)
  | 3 => ("RefusedOnce$Chances", "weights", "[J", true)
  | 4 => ("RefusedOnce$Chances", "open", "[J", true)
  | 5 => ("RefusedOnce$Chances", "above", "J", false)
  | 6 => ("RefusedOnce$Chances", "below", "J", false)
  | 7 => ("RefusedOnce$Chances", "pairs", "I", false)
  | _ => ("RefusedOnce$Chances", "taking", "I", false)
def ro_ty1 : Nat → FieldType := fun k => match k with
  | 0 => (.object "RefusedOnce$Land")
  | 1 => (.object "RefusedOnce$Law")
  | 2 => (.object "RefusedOnce$Purses")
  | 3 => (.array .long)
  | 4 => (.array .long)
  | 5 => .long
  | 6 => .long
  | 7 => .int
  | _ => .int
theorem ro_nm1 : ∀ a, a < 9 → ∀ b, b < 9 → a ≠ b → (ro_T1 a).2.1 ≠ (ro_T1 b).2.1 := by decide +kernel
theorem ro_tk1 : ∀ k, k < 9 → parseFieldDescriptor (ro_T1 k).2.2.1 = some (ro_ty1 k) := by decide +kernel
def ro_T2 : u_T := fun k => match k with
  | 0 => ("RefusedOnce$Changes", "number", "[I", true)
  | 1 => ("RefusedOnce$Changes", "what", "[I", true)
  | 2 => ("RefusedOnce$Changes", "was", "[I", true)
  | 3 => ("RefusedOnce$Changes", "became", "[I", true)
  | 4 => ("RefusedOnce$Changes", "done", "I", false)
  | _ => ("RefusedOnce$Changes", "undone", "I", false)
def ro_ty2 : Nat → FieldType := fun k => match k with
  | 0 => (.array .int)
  | 1 => (.array .int)
  | 2 => (.array .int)
  | 3 => (.array .int)
  | 4 => .int
  | _ => .int
theorem ro_nm2 : ∀ a, a < 6 → ∀ b, b < 6 → a ≠ b → (ro_T2 a).2.1 ≠ (ro_T2 b).2.1 := by decide +kernel
theorem ro_tk2 : ∀ k, k < 6 → parseFieldDescriptor (ro_T2 k).2.2.1 = some (ro_ty2 k) := by decide +kernel
def ro_T3 : u_T := fun k => match k with
  | 0 => ("RefusedOnce$Evening", "land", "LRefusedOnce$Land;", true)
  | 1 => ("RefusedOnce$Evening", "law", "LRefusedOnce$Law;", true)
  | 2 => ("RefusedOnce$Evening", "purses", "LRefusedOnce$Purses;", true)
  | 3 => ("RefusedOnce$Evening", "by", "[I", true)
  | 4 => ("RefusedOnce$Evening", "to", "[I", true)
  | 5 => ("RefusedOnce$Evening", "kind", "[I", true)
  | 6 => ("RefusedOnce$Evening", "length", "I", false)
  | 7 => ("RefusedOnce$Evening", "refused", "I", false)
  | 8 => ("RefusedOnce$Evening", "firstNot", "I", false)
  | 9 => ("RefusedOnce$Evening", "who", "I", false)
  | _ => ("RefusedOnce$Evening", "drawnWhole", "I", false)
def ro_ty3 : Nat → FieldType := fun k => match k with
  | 0 => (.object "RefusedOnce$Land")
  | 1 => (.object "RefusedOnce$Law")
  | 2 => (.object "RefusedOnce$Purses")
  | 3 => (.array .int)
  | 4 => (.array .int)
  | 5 => (.array .int)
  | 6 => .int
  | 7 => .int
  | 8 => .int
  | 9 => .int
  | _ => .int
theorem ro_nm3 : ∀ a, a < 11 → ∀ b, b < 11 → a ≠ b → (ro_T3 a).2.1 ≠ (ro_T3 b).2.1 := by decide +kernel
theorem ro_tk3 : ∀ k, k < 11 → parseFieldDescriptor (ro_T3 k).2.2.1 = some (ro_ty3 k) := by decide +kernel
def ro_T4 : u_T := fun k => match k with
  | 0 => ("RefusedOnce$Land", "now", "LRefusedOnce$Purses;", true)
  | 1 => ("RefusedOnce$Land", "pride", "[I", true)
  | 2 => ("RefusedOnce$Land", "forged", "[I", true)
  | 3 => ("RefusedOnce$Land", "led", "[I", true)
  | 4 => ("RefusedOnce$Land", "people", "I", false)
  | 5 => ("RefusedOnce$Land", "notch", "I", false)
  | 6 => ("RefusedOnce$Land", "hour", "I", false)
  | 7 => ("RefusedOnce$Land", "habit", "I", false)
  | 8 => ("RefusedOnce$Land", "imageNow", "LRefusedOnce$Purses;", true)
  | 9 => ("RefusedOnce$Land", "imageLed", "[I", true)
  | 10 => ("RefusedOnce$Land", "hasImage", "Z", false)
  | 11 => ("RefusedOnce$Land", "imagePeople", "I", false)
  | _ => ("RefusedOnce$Land", "imageHour", "I", false)
def ro_ty4 : Nat → FieldType := fun k => match k with
  | 0 => (.object "RefusedOnce$Purses")
  | 1 => (.array .int)
  | 2 => (.array .int)
  | 3 => (.array .int)
  | 4 => .int
  | 5 => .int
  | 6 => .int
  | 7 => .int
  | 8 => (.object "RefusedOnce$Purses")
  | 9 => (.array .int)
  | 10 => .boolean
  | 11 => .int
  | _ => .int
theorem ro_nm4 : ∀ a, a < 13 → ∀ b, b < 13 → a ≠ b → (ro_T4 a).2.1 ≠ (ro_T4 b).2.1 := by decide +kernel
theorem ro_tk4 : ∀ k, k < 13 → parseFieldDescriptor (ro_T4 k).2.2.1 = some (ro_ty4 k) := by decide +kernel
def ro_T5 : u_T := fun k => match k with
  | 0 => ("RefusedOnce$Law", "tape", "[I", true)
  | 1 => ("RefusedOnce$Law", "draft", "[I", true)
  | 2 => ("RefusedOnce$Law", "code", "[I", true)
  | 3 => ("RefusedOnce$Law", "stack", "[I", true)
  | 4 => ("RefusedOnce$Law", "asked", "[I", true)
  | 5 => ("RefusedOnce$Law", "fed", "I", false)
  | 6 => ("RefusedOnce$Law", "at", "I", false)
  | 7 => ("RefusedOnce$Law", "drafted", "I", false)
  | 8 => ("RefusedOnce$Law", "codes", "I", false)
  | _ => ("RefusedOnce$Law", "stacked", "I", false)
def ro_ty5 : Nat → FieldType := fun k => match k with
  | 0 => (.array .int)
  | 1 => (.array .int)
  | 2 => (.array .int)
  | 3 => (.array .int)
  | 4 => (.array .int)
  | 5 => .int
  | 6 => .int
  | 7 => .int
  | 8 => .int
  | _ => .int
theorem ro_nm5 : ∀ a, a < 10 → ∀ b, b < 10 → a ≠ b → (ro_T5 a).2.1 ≠ (ro_T5 b).2.1 := by decide +kernel
theorem ro_tk5 : ∀ k, k < 10 → parseFieldDescriptor (ro_T5 k).2.2.1 = some (ro_ty5 k) := by decide +kernel
def ro_T6 : u_T := fun k => match k with
  | 0 => ("RefusedOnce$Level", "keys", "[J", true)
  | 1 => ("RefusedOnce$Level", "ways", "[I", true)
  | 2 => ("RefusedOnce$Level", "fewest", "[I", true)
  | 3 => ("RefusedOnce$Level", "always", "[I", true)
  | _ => ("RefusedOnce$Level", "size", "I", false)
def ro_ty6 : Nat → FieldType := fun k => match k with
  | 0 => (.array .long)
  | 1 => (.array .int)
  | 2 => (.array .int)
  | 3 => (.array .int)
  | _ => .int
theorem ro_nm6 : ∀ a, a < 5 → ∀ b, b < 5 → a ≠ b → (ro_T6 a).2.1 ≠ (ro_T6 b).2.1 := by decide +kernel
theorem ro_tk6 : ∀ k, k < 5 → parseFieldDescriptor (ro_T6 k).2.2.1 = some (ro_ty6 k) := by decide +kernel
def ro_T7 : u_T := fun k => match k with
  | 0 => ("RefusedOnce$Payings", "land", "LRefusedOnce$Land;", true)
  | 1 => ("RefusedOnce$Payings", "law", "LRefusedOnce$Law;", true)
  | 2 => ("RefusedOnce$Payings", "purses", "LRefusedOnce$Purses;", true)
  | 3 => ("RefusedOnce$Payings", "by", "[I", true)
  | 4 => ("RefusedOnce$Payings", "to", "[I", true)
  | 5 => ("RefusedOnce$Payings", "length", "I", false)
  | 6 => ("RefusedOnce$Payings", "best", "I", false)
  | 7 => ("RefusedOnce$Payings", "bestKinds", "I", false)
  | 8 => ("RefusedOnce$Payings", "isClean", "Z", false)
  | _ => ("RefusedOnce$Payings", "isFound", "Z", false)
def ro_ty7 : Nat → FieldType := fun k => match k with
  | 0 => (.object "RefusedOnce$Land")
  | 1 => (.object "RefusedOnce$Law")
  | 2 => (.object "RefusedOnce$Purses")
  | 3 => (.array .int)
  | 4 => (.array .int)
  | 5 => .int
  | 6 => .int
  | 7 => .int
  | 8 => .boolean
  | _ => .boolean
theorem ro_nm7 : ∀ a, a < 10 → ∀ b, b < 10 → a ≠ b → (ro_T7 a).2.1 ≠ (ro_T7 b).2.1 := by decide +kernel
theorem ro_tk7 : ∀ k, k < 10 → parseFieldDescriptor (ro_T7 k).2.2.1 = some (ro_ty7 k) := by decide +kernel
def ro_T8 : u_T := fun k => match k with
  | 0 => ("RefusedOnce$Purses", "whole", "[I", true)
  | _ => ("RefusedOnce$Purses", "cut", "[I", true)
def ro_ty8 : Nat → FieldType := fun k => match k with
  | 0 => (.array .int)
  | _ => (.array .int)
theorem ro_nm8 : ∀ a, a < 2 → ∀ b, b < 2 → a ≠ b → (ro_T8 a).2.1 ≠ (ro_T8 b).2.1 := by decide +kernel
theorem ro_tk8 : ∀ k, k < 2 → parseFieldDescriptor (ro_T8 k).2.2.1 = some (ro_ty8 k) := by decide +kernel
def ro_T9 : u_T := fun k => match k with
  | 0 => ("RefusedOnce$Shelf", "row", "[J", true)
  | 1 => ("RefusedOnce$Shelf", "sort", "I", false)
  | 2 => ("RefusedOnce$Shelf", "size", "I", false)
  | _ => ("RefusedOnce$Shelf", "kept", "I", false)
def ro_ty9 : Nat → FieldType := fun k => match k with
  | 0 => (.array .long)
  | 1 => .int
  | 2 => .int
  | _ => .int
theorem ro_nm9 : ∀ a, a < 4 → ∀ b, b < 4 → a ≠ b → (ro_T9 a).2.1 ≠ (ro_T9 b).2.1 := by decide +kernel
theorem ro_tk9 : ∀ k, k < 4 → parseFieldDescriptor (ro_T9 k).2.2.1 = some (ro_ty9 k) := by decide +kernel
def ro_T10 : u_T := fun k => match k with
  | 0 => ("RefusedOnce$Ways", "land", "LRefusedOnce$Land;", true)
  | 1 => ("RefusedOnce$Ways", "evening", "LRefusedOnce$Evening;", true)
  | 2 => ("RefusedOnce$Ways", "low", "[[I", true)
  | 3 => ("RefusedOnce$Ways", "high", "[[I", true)
  | 4 => ("RefusedOnce$Ways", "safeLow", "[[I", true)
  | 5 => ("RefusedOnce$Ways", "safeHigh", "[[I", true)
  | 6 => ("RefusedOnce$Ways", "heads", "[I", true)
  | 7 => ("RefusedOnce$Ways", "chained", "[I", true)
  | 8 => ("RefusedOnce$Ways", "from", "LRefusedOnce$Level;", false)
  | _ => ("RefusedOnce$Ways", "onto", "LRefusedOnce$Level;", false)
def ro_ty10 : Nat → FieldType := fun k => match k with
  | 0 => (.object "RefusedOnce$Land")
  | 1 => (.object "RefusedOnce$Evening")
  | 2 => (.array (.array .int))
  | 3 => (.array (.array .int))
  | 4 => (.array (.array .int))
  | 5 => (.array (.array .int))
  | 6 => (.array .int)
  | 7 => (.array .int)
  | 8 => (.object "RefusedOnce$Level")
  | _ => (.object "RefusedOnce$Level")
theorem ro_nm10 : ∀ a, a < 10 → ∀ b, b < 10 → a ≠ b → (ro_T10 a).2.1 ≠ (ro_T10 b).2.1 := by decide +kernel
theorem ro_tk10 : ∀ k, k < 10 → parseFieldDescriptor (ro_T10 k).2.2.1 = some (ro_ty10 k) := by decide +kernel
def ro_T11 : u_T := fun k => match k with
  | 0 => ("RefusedOnce", "land", "LRefusedOnce$Land;", true)
  | 1 => ("RefusedOnce", "theLaw", "LRefusedOnce$Law;", true)
  | 2 => ("RefusedOnce", "shelves", "[LRefusedOnce$Shelf;", true)
  | 3 => ("RefusedOnce", "thought", "LRefusedOnce$Evening;", true)
  | 4 => ("RefusedOnce", "payings", "LRefusedOnce$Payings;", true)
  | 5 => ("RefusedOnce", "chances", "LRefusedOnce$Chances;", true)
  | 6 => ("RefusedOnce", "changes", "LRefusedOnce$Changes;", true)
  | 7 => ("RefusedOnce", "bodies", "LRefusedOnce$Bodies;", true)
  | _ => ("RefusedOnce", "ways", "LRefusedOnce$Ways;", true)
def ro_ty11 : Nat → FieldType := fun k => match k with
  | 0 => (.object "RefusedOnce$Land")
  | 1 => (.object "RefusedOnce$Law")
  | 2 => (.array (.object "RefusedOnce$Shelf"))
  | 3 => (.object "RefusedOnce$Evening")
  | 4 => (.object "RefusedOnce$Payings")
  | 5 => (.object "RefusedOnce$Chances")
  | 6 => (.object "RefusedOnce$Changes")
  | 7 => (.object "RefusedOnce$Bodies")
  | _ => (.object "RefusedOnce$Ways")
theorem ro_nm11 : ∀ a, a < 9 → ∀ b, b < 9 → a ≠ b → (ro_T11 a).2.1 ≠ (ro_T11 b).2.1 := by decide +kernel
theorem ro_tk11 : ∀ k, k < 9 → parseFieldDescriptor (ro_T11 k).2.2.1 = some (ro_ty11 k) := by decide +kernel
def ro_ty : Nat → Nat → FieldType := fun c => match c with
  | 0 => ro_ty0
  | 1 => ro_ty1
  | 2 => ro_ty2
  | 3 => ro_ty3
  | 4 => ro_ty4
  | 5 => ro_ty5
  | 6 => ro_ty6
  | 7 => ro_ty7
  | 8 => ro_ty8
  | 9 => ro_ty9
  | 10 => ro_ty10
  | _ => ro_ty11
abbrev ro_cl : List vw_C := [("RefusedOnce$Bodies", ro_T0, 6), ("RefusedOnce$Chances", ro_T1, 9), ("RefusedOnce$Changes", ro_T2, 6), ("RefusedOnce$Evening", ro_T3, 11), ("RefusedOnce$Land", ro_T4, 13), ("RefusedOnce$Law", ro_T5, 10), ("RefusedOnce$Level", ro_T6, 5), ("RefusedOnce$Payings", ro_T7, 10), ("RefusedOnce$Purses", ro_T8, 2), ("RefusedOnce$Shelf", ro_T9, 4), ("RefusedOnce$Ways", ro_T10, 10), ("RefusedOnce", ro_T11, 9)]
abbrev ro_Me : Type := MethodName × ByteArray × Nat × Option FieldType × Nat × Nat × Bool
def ro_M_0 : List ro_Me := [
  (⟨"RefusedOnce", "<init>", "()V"⟩, prog_1_method_1_code, 2, none, 11, 0, false),
  (⟨"RefusedOnce$Land", "<init>", "()V"⟩, prog_6_method_1_code, 1, none, 4, 0, false),
  (⟨"RefusedOnce$Purses", "<init>", "()V"⟩, prog_10_method_1_code, 1, none, 8, 0, false),
  (⟨"RefusedOnce$Law", "<init>", "()V"⟩, prog_7_method_1_code, 1, none, 5, 0, false),
  (⟨"RefusedOnce$Shelf", "<init>", "()V"⟩, prog_11_method_1_code, 1, none, 9, 0, false),
  (⟨"RefusedOnce$Evening", "<init>", "(LRefusedOnce$Land;LRefusedOnce$Law;)V"⟩, prog_5_method_1_code, 3, none, 3, 2, false),
  (⟨"RefusedOnce$Payings", "<init>", "(LRefusedOnce$Land;LRefusedOnce$Law;)V"⟩, prog_9_method_1_code, 3, none, 7, 2, false),
  (⟨"RefusedOnce$Chances", "<init>", "(LRefusedOnce$Land;LRefusedOnce$Law;)V"⟩, prog_3_method_1_code, 3, none, 1, 2, false),
  (⟨"RefusedOnce$Changes", "<init>", "()V"⟩, prog_4_method_1_code, 1, none, 2, 0, false),
  (⟨"RefusedOnce$Bodies", "<init>", "()V"⟩, prog_2_method_1_code, 1, none, 0, 0, false),
  (⟨"RefusedOnce$Ways", "<init>", "(LRefusedOnce$Land;LRefusedOnce$Evening;)V"⟩, prog_12_method_1_code, 3, none, 10, 2, false),
  (⟨"RefusedOnce$Level", "<init>", "()V"⟩, prog_8_method_1_code, 1, none, 6, 0, false),
  (⟨"RefusedOnce", "person", "(I)I"⟩, prog_1_method_2_code, 2, (some .int), 11, 1, false),
  (⟨"RefusedOnce", "within", "(III)Z"⟩, prog_1_method_44_code, 3, (some .boolean), 11, 3, true),
  (⟨"RefusedOnce$Land", "comes", "(III)Z"⟩, prog_6_method_7_code, 5, (some .boolean), 4, 3, false),
  (⟨"RefusedOnce$Land", "allows", "(II)Z"⟩, prog_6_method_6_code, 2, (some .boolean), 4, 2, true),
  (⟨"RefusedOnce$Purses", "setWhole", "(II)V"⟩, prog_10_method_4_code, 3, none, 8, 2, false),
  (⟨"RefusedOnce$Purses", "setCut", "(II)V"⟩, prog_10_method_5_code, 3, none, 8, 2, false),
  (⟨"RefusedOnce$Land", "howMany", "()I"⟩, prog_6_method_2_code, 1, (some .int), 4, 0, false),
  (⟨"RefusedOnce", "within", "(III)Z"⟩, prog_1_method_44_code, 3, (some .boolean), 11, 3, true),
  (⟨"RefusedOnce", "shelfAt", "(I)LRefusedOnce$Shelf;"⟩, prog_1_method_47_code, 2, (some (.object "RefusedOnce$Shelf")), 11, 1, false),
  (⟨"RefusedOnce$Shelf", "isEmpty", "()Z"⟩, prog_11_method_2_code, 1, (some .boolean), 9, 0, false),
  (⟨"RefusedOnce$Shelf", "holdsBytes", "()Z"⟩, prog_11_method_4_code, 1, (some .boolean), 9, 0, false),
  (⟨"RefusedOnce", "within", "(III)Z"⟩, prog_1_method_44_code, 3, (some .boolean), 11, 3, true),
  (⟨"RefusedOnce$Shelf", "length", "()I"⟩, prog_11_method_10_code, 1, (some .int), 9, 0, false),
  (⟨"RefusedOnce$Shelf", "byteAt", "(I)I"⟩, prog_11_method_12_code, 2, (some .int), 9, 1, false),
  (⟨"RefusedOnce$Shelf", "longAt", "(I)J"⟩, prog_11_method_11_code, 2, (some .long), 9, 1, false),
  (⟨"RefusedOnce", "mend", "(III)I"⟩, prog_1_method_5_code, 5, (some .int), 11, 3, false),
  (⟨"RefusedOnce$Land", "has", "(II)Z"⟩, prog_6_method_5_code, 3, (some .boolean), 4, 2, false),
  (⟨"RefusedOnce$Land", "isPerson", "(I)Z"⟩, prog_6_method_3_code, 2, (some .boolean), 4, 1, false),
  (⟨"RefusedOnce$Land", "told", "(II)I"⟩, prog_6_method_8_code, 3, (some .int), 4, 2, false),
  (⟨"RefusedOnce$Purses", "wholeOf", "(I)I"⟩, prog_10_method_2_code, 2, (some .int), 8, 1, false),
  (⟨"RefusedOnce$Purses", "cutOf", "(I)I"⟩, prog_10_method_3_code, 2, (some .int), 8, 1, false),
  (⟨"RefusedOnce$Land", "tell", "(III)V"⟩, prog_6_method_9_code, 4, none, 4, 3, false),
  (⟨"RefusedOnce$Changes", "note", "(IIII)V"⟩, prog_4_method_2_code, 5, none, 2, 4, false),
  (⟨"RefusedOnce$Changes", "forgetOldest", "()V"⟩, prog_4_method_3_code, 1, none, 2, 0, false),
  (⟨"RefusedOnce", "of", "(II)I"⟩, prog_1_method_6_code, 3, (some .int), 11, 2, false),
  (⟨"RefusedOnce$Land", "farthings", "(LRefusedOnce$Purses;I)I"⟩, prog_6_method_11_code, 3, (some .int), 4, 2, false),
  (⟨"RefusedOnce$Land", "farthingsBy", "(LRefusedOnce$Purses;II)I"⟩, prog_6_method_12_code, 3, (some .int), 4, 3, true),
  (⟨"RefusedOnce$Land", "forgedThatCount", "(I)I"⟩, prog_6_method_10_code, 2, (some .int), 4, 1, false)]
def ro_M_1 : List ro_Me := [
  (⟨"RefusedOnce", "feed", "(I)I"⟩, prog_1_method_7_code, 2, (some .int), 11, 1, false),
  (⟨"RefusedOnce$Law", "takesByte", "(I)Z"⟩, prog_7_method_3_code, 2, (some .boolean), 5, 1, false),
  (⟨"RefusedOnce$Law", "fedBytes", "()I"⟩, prog_7_method_2_code, 1, (some .int), 5, 0, false),
  (⟨"RefusedOnce", "law", "()I"⟩, prog_1_method_8_code, 2, (some .int), 11, 0, false),
  (⟨"RefusedOnce$Law", "read", "()I"⟩, prog_7_method_4_code, 3, (some .int), 5, 0, false),
  (⟨"RefusedOnce$Law", "lines", "()Z"⟩, prog_7_method_7_code, 3, (some .boolean), 5, 0, false),
  (⟨"RefusedOnce$Law", "joined", "(II)Z"⟩, prog_7_method_8_code, 5, (some .boolean), 5, 2, false),
  (⟨"RefusedOnce$Law", "operand", "(I)Z"⟩, prog_7_method_10_code, 3, (some .boolean), 5, 1, false),
  (⟨"RefusedOnce$Law", "next", "()I"⟩, prog_7_method_5_code, 1, (some .int), 5, 0, false),
  (⟨"RefusedOnce$Law", "isDigit", "(I)Z"⟩, prog_7_method_13_code, 1, (some .boolean), 5, 1, true),
  (⟨"RefusedOnce$Law", "number", "()V"⟩, prog_7_method_12_code, 3, none, 5, 0, false),
  (⟨"RefusedOnce$Law", "write", "(I)V"⟩, prog_7_method_6_code, 2, none, 5, 1, false),
  (⟨"RefusedOnce$Law", "nameOf", "(I)I"⟩, prog_7_method_14_code, 1, (some .int), 5, 1, true),
  (⟨"RefusedOnce$Law", "inner", "(I)Z"⟩, prog_7_method_11_code, 2, (some .boolean), 5, 1, false),
  (⟨"RefusedOnce$Law", "joins", "(II)Z"⟩, prog_7_method_9_code, 2, (some .boolean), 5, 2, true),
  (⟨"RefusedOnce", "odds", "(I)I"⟩, prog_1_method_9_code, 2, (some .int), 11, 1, false),
  (⟨"RefusedOnce", "areTwo", "(I)Z"⟩, prog_1_method_46_code, 2, (some .boolean), 11, 1, false),
  (⟨"RefusedOnce$Land", "areTwo", "(II)Z"⟩, prog_6_method_4_code, 3, (some .boolean), 4, 2, false),
  (⟨"RefusedOnce$Law", "twelfths", "(LRefusedOnce$Land;LRefusedOnce$Purses;II)I"⟩, prog_7_method_15_code, 8, (some .int), 5, 4, false),
  (⟨"RefusedOnce$Law", "held", "(I)I"⟩, prog_7_method_16_code, 1, (some .int), 5, 1, true),
  (⟨"RefusedOnce$Law", "worked", "()I"⟩, prog_7_method_17_code, 5, (some .int), 5, 0, false),
  (⟨"RefusedOnce$Law", "pop", "()I"⟩, prog_7_method_20_code, 1, (some .int), 5, 0, false),
  (⟨"RefusedOnce$Law", "push", "(I)V"⟩, prog_7_method_19_code, 2, none, 5, 1, false),
  (⟨"RefusedOnce$Law", "both", "(III)I"⟩, prog_7_method_18_code, 3, (some .int), 5, 3, true),
  (⟨"RefusedOnce", "later", "(IIII)I"⟩, prog_1_method_10_code, 6, (some .int), 11, 4, false),
  (⟨"RefusedOnce$Shelf", "refusal", "()I"⟩, prog_11_method_6_code, 1, (some .int), 9, 0, false),
  (⟨"RefusedOnce$Evening", "read", "(LRefusedOnce$Shelf;)V"⟩, prog_5_method_2_code, 3, none, 3, 1, false),
  (⟨"RefusedOnce$Evening", "play", "(I)V"⟩, prog_5_method_7_code, 3, none, 3, 1, false),
  (⟨"RefusedOnce$Purses", "copyFirst", "(LRefusedOnce$Purses;I)V"⟩, prog_10_method_6_code, 4, none, 8, 2, false),
  (⟨"RefusedOnce$Evening", "byAt", "(I)I"⟩, prog_5_method_4_code, 2, (some .int), 3, 1, false),
  (⟨"RefusedOnce$Evening", "toAt", "(I)I"⟩, prog_5_method_5_code, 2, (some .int), 3, 1, false),
  (⟨"RefusedOnce$Evening", "isWholeAt", "(I)Z"⟩, prog_5_method_6_code, 2, (some .boolean), 3, 1, false),
  (⟨"RefusedOnce$Evening", "isOffered", "(IIZ)Z"⟩, prog_5_method_8_code, 5, (some .boolean), 3, 3, false),
  (⟨"RefusedOnce$Purses", "mayOfferCut", "(II)Z"⟩, prog_10_method_8_code, 3, (some .boolean), 8, 2, false),
  (⟨"RefusedOnce$Purses", "giveCut", "(II)V"⟩, prog_10_method_10_code, 3, none, 8, 2, false),
  (⟨"RefusedOnce$Purses", "mayOfferWhole", "(II)Z"⟩, prog_10_method_7_code, 3, (some .boolean), 8, 2, false),
  (⟨"RefusedOnce$Evening", "answer", "(IIZ)V"⟩, prog_5_method_9_code, 4, none, 3, 3, false),
  (⟨"RefusedOnce$Purses", "refuse", "(I)V"⟩, prog_10_method_11_code, 2, none, 8, 1, false),
  (⟨"RefusedOnce$Purses", "giveWhole", "(II)V"⟩, prog_10_method_9_code, 3, none, 8, 2, false),
  (⟨"RefusedOnce", "evening", "(III)I"⟩, prog_1_method_11_code, 5, (some .int), 11, 3, false)]
def ro_M_2 : List ro_Me := [
  (⟨"RefusedOnce$Evening", "refusals", "()I"⟩, prog_5_method_10_code, 1, (some .int), 3, 0, false),
  (⟨"RefusedOnce$Evening", "firstThatCannotBe", "()I"⟩, prog_5_method_11_code, 1, (some .int), 3, 0, false),
  (⟨"RefusedOnce$Evening", "whoRefused", "()I"⟩, prog_5_method_12_code, 1, (some .int), 3, 0, false),
  (⟨"RefusedOnce", "round", "(II)I"⟩, prog_1_method_12_code, 4, (some .int), 11, 2, false),
  (⟨"RefusedOnce$Payings", "read", "(LRefusedOnce$Shelf;)V"⟩, prog_9_method_2_code, 4, none, 7, 1, false),
  (⟨"RefusedOnce$Payings", "length", "()I"⟩, prog_9_method_3_code, 1, (some .int), 7, 0, false),
  (⟨"RefusedOnce$Payings", "find", "(Z)Z"⟩, prog_9_method_4_code, 2, (some .boolean), 7, 1, false),
  (⟨"RefusedOnce$Payings", "search", "(III)V"⟩, prog_9_method_7_code, 6, none, 7, 3, false),
  (⟨"RefusedOnce$Payings", "weigh", "(II)V"⟩, prog_9_method_9_code, 5, none, 7, 2, false),
  (⟨"RefusedOnce$Payings", "searchWhole", "(III)V"⟩, prog_9_method_8_code, 6, none, 7, 3, false),
  (⟨"RefusedOnce$Purses", "takeBackRefusal", "(I)V"⟩, prog_10_method_12_code, 2, none, 8, 1, false),
  (⟨"RefusedOnce$Payings", "found", "()I"⟩, prog_9_method_5_code, 1, (some .int), 7, 0, false),
  (⟨"RefusedOnce$Payings", "kindAt", "(I)I"⟩, prog_9_method_6_code, 2, (some .int), 7, 1, false),
  (⟨"RefusedOnce", "cleanest", "(I)I"⟩, prog_1_method_13_code, 3, (some .int), 11, 1, false),
  (⟨"RefusedOnce", "pay", "(IIII)J"⟩, prog_1_method_14_code, 5, (some .long), 11, 4, false),
  (⟨"RefusedOnce", "isPart", "(I)Z"⟩, prog_1_method_45_code, 1, (some .boolean), 11, 1, true),
  (⟨"RefusedOnce$Chances", "justSoMany", "(IIII)V"⟩, prog_3_method_5_code, 5, none, 1, 4, false),
  (⟨"RefusedOnce$Chances", "weighPayings", "(III)V"⟩, prog_3_method_8_code, 6, none, 1, 3, false),
  (⟨"RefusedOnce$Chances", "offerNext", "(IIIII)V"⟩, prog_3_method_9_code, 7, none, 1, 5, false),
  (⟨"RefusedOnce$Chances", "twelveBy", "(I)J"⟩, prog_3_method_7_code, 4, (some .long), 1, 1, true),
  (⟨"RefusedOnce$Chances", "set", "(JJ)V"⟩, prog_3_method_3_code, 7, none, 1, 2, false),
  (⟨"RefusedOnce$Chances", "sharedBy", "(JJ)J"⟩, prog_3_method_4_code, 7, (some .long), 1, 2, true),
  (⟨"RefusedOnce$Chances", "part", "(I)J"⟩, prog_3_method_2_code, 2, (some .long), 1, 1, false),
  (⟨"RefusedOnce", "mean", "(III)J"⟩, prog_1_method_15_code, 4, (some .long), 11, 3, false),
  (⟨"RefusedOnce$Chances", "meanRefused", "(III)V"⟩, prog_3_method_6_code, 7, none, 1, 3, false),
  (⟨"RefusedOnce", "stays", "(II)J"⟩, prog_1_method_16_code, 3, (some .long), 11, 2, false),
  (⟨"RefusedOnce$Chances", "allStayWhole", "(I)V"⟩, prog_3_method_10_code, 4, none, 1, 1, false),
  (⟨"RefusedOnce$Chances", "tally", "()V"⟩, prog_3_method_11_code, 4, none, 1, 0, false),
  (⟨"RefusedOnce$Chances", "takenTwice", "()J"⟩, prog_3_method_12_code, 8, (some .long), 1, 0, false),
  (⟨"RefusedOnce", "within", "(III)Z"⟩, prog_1_method_44_code, 3, (some .boolean), 11, 3, true),
  (⟨"RefusedOnce", "within", "(III)Z"⟩, prog_1_method_44_code, 3, (some .boolean), 11, 3, true),
  (⟨"RefusedOnce", "test", "(III)J"⟩, prog_1_method_19_code, 4, (some .long), 11, 3, false),
  (⟨"RefusedOnce$Chances", "forgedFound", "(III)V"⟩, prog_3_method_13_code, 10, none, 1, 3, false),
  (⟨"RefusedOnce$Chances", "choices", "(II)J"⟩, prog_3_method_14_code, 5, (some .long), 1, 2, true),
  (⟨"RefusedOnce", "enough", "(II)I"⟩, prog_1_method_20_code, 5, (some .int), 11, 2, false),
  (⟨"RefusedOnce", "honest", "(III)J"⟩, prog_1_method_21_code, 5, (some .long), 11, 3, false),
  (⟨"RefusedOnce", "within", "(III)Z"⟩, prog_1_method_44_code, 3, (some .boolean), 11, 3, true),
  (⟨"RefusedOnce", "richest", "(I)I"⟩, prog_1_method_23_code, 4, (some .int), 11, 1, false),
  (⟨"RefusedOnce$Land", "richestBy", "(I)I"⟩, prog_6_method_13_code, 4, (some .int), 4, 1, false),
  (⟨"RefusedOnce", "behind", "(III)I"⟩, prog_1_method_24_code, 6, (some .int), 11, 3, false)]
def ro_M_3 : List ro_Me := [
  (⟨"RefusedOnce$Ways", "find", "(LRefusedOnce$Shelf;)V"⟩, prog_12_method_6_code, 5, none, 10, 1, false),
  (⟨"RefusedOnce$Evening", "length", "()I"⟩, prog_5_method_3_code, 1, (some .int), 3, 0, false),
  (⟨"RefusedOnce$Ways", "endAt", "(ILRefusedOnce$Shelf;)Z"⟩, prog_12_method_9_code, 9, (some .boolean), 10, 2, false),
  (⟨"RefusedOnce$Ways", "allow", "(IIII)V"⟩, prog_12_method_10_code, 5, none, 10, 4, false),
  (⟨"RefusedOnce$Ways", "comeBackOver", "(I)V"⟩, prog_12_method_11_code, 4, none, 10, 1, false),
  (⟨"RefusedOnce$Ways", "moveBoth", "(IIII)V"⟩, prog_12_method_12_code, 5, none, 10, 4, false),
  (⟨"RefusedOnce$Ways", "bound", "([I[IIIII)V"⟩, prog_12_method_14_code, 8, none, 10, 6, true),
  (⟨"RefusedOnce$Ways", "widen", "(II)V"⟩, prog_12_method_13_code, 3, none, 10, 2, false),
  (⟨"RefusedOnce$Ways", "clear", "()V"⟩, prog_12_method_8_code, 2, none, 10, 0, false),
  (⟨"RefusedOnce$Ways", "startKey", "()J"⟩, prog_12_method_15_code, 5, (some .long), 10, 0, false),
  (⟨"RefusedOnce$Ways", "settle", "(IJII)J"⟩, prog_12_method_16_code, 10, (some .long), 10, 4, false),
  (⟨"RefusedOnce$Ways", "reach", "(JIII)V"⟩, prog_12_method_19_code, 9, none, 10, 4, false),
  (⟨"RefusedOnce$Ways", "headOf", "(J)I"⟩, prog_12_method_20_code, 4, (some .int), 10, 1, true),
  (⟨"RefusedOnce$Ways", "turn", "()V"⟩, prog_12_method_7_code, 2, none, 10, 0, false),
  (⟨"RefusedOnce$Ways", "goOn", "(II)V"⟩, prog_12_method_18_code, 15, none, 10, 2, false),
  (⟨"RefusedOnce$Ways", "moved", "(IJII)J"⟩, prog_12_method_17_code, 7, (some .long), 10, 4, false),
  (⟨"RefusedOnce$Ways", "howMany", "()I"⟩, prog_12_method_2_code, 1, (some .int), 10, 0, false),
  (⟨"RefusedOnce$Ways", "certain", "()I"⟩, prog_12_method_5_code, 1, (some .int), 10, 0, false),
  (⟨"RefusedOnce$Ways", "fewest", "()I"⟩, prog_12_method_3_code, 1, (some .int), 10, 0, false),
  (⟨"RefusedOnce$Ways", "fewestBits", "()I"⟩, prog_12_method_4_code, 1, (some .int), 10, 0, false),
  (⟨"RefusedOnce", "within", "(III)Z"⟩, prog_1_method_44_code, 3, (some .boolean), 11, 3, true),
  (⟨"RefusedOnce", "within", "(III)Z"⟩, prog_1_method_44_code, 3, (some .boolean), 11, 3, true),
  (⟨"RefusedOnce", "within", "(III)Z"⟩, prog_1_method_44_code, 3, (some .boolean), 11, 3, true),
  (⟨"RefusedOnce", "within", "(III)Z"⟩, prog_1_method_44_code, 3, (some .boolean), 11, 3, true),
  (⟨"RefusedOnce", "offer", "(II)I"⟩, prog_1_method_26_code, 6, (some .int), 11, 2, false),
  (⟨"RefusedOnce$Land", "leads", "(I)V"⟩, prog_6_method_15_code, 2, none, 4, 1, false),
  (⟨"RefusedOnce", "within", "(III)Z"⟩, prog_1_method_44_code, 3, (some .boolean), 11, 3, true),
  (⟨"RefusedOnce", "within", "(III)Z"⟩, prog_1_method_44_code, 3, (some .boolean), 11, 3, true),
  (⟨"RefusedOnce", "led", "(I)I"⟩, prog_1_method_29_code, 2, (some .int), 11, 1, false),
  (⟨"RefusedOnce$Land", "counted", "(I)I"⟩, prog_6_method_16_code, 2, (some .int), 4, 1, false),
  (⟨"RefusedOnce", "image", "()I"⟩, prog_1_method_30_code, 1, (some .int), 11, 0, false),
  (⟨"RefusedOnce$Land", "keepImage", "()V"⟩, prog_6_method_17_code, 1, none, 4, 0, false),
  (⟨"RefusedOnce", "back", "()I"⟩, prog_1_method_31_code, 1, (some .int), 11, 0, false),
  (⟨"RefusedOnce$Land", "layBack", "()Z"⟩, prog_6_method_18_code, 1, (some .boolean), 4, 0, false),
  (⟨"RefusedOnce", "within", "(III)Z"⟩, prog_1_method_44_code, 3, (some .boolean), 11, 3, true),
  (⟨"RefusedOnce", "within", "(III)Z"⟩, prog_1_method_44_code, 3, (some .boolean), 11, 3, true),
  (⟨"RefusedOnce$Changes", "mayBeUndone", "()I"⟩, prog_4_method_6_code, 1, (some .int), 2, 0, false),
  (⟨"RefusedOnce", "within", "(III)Z"⟩, prog_1_method_44_code, 3, (some .boolean), 11, 3, true),
  (⟨"RefusedOnce", "within", "(III)Z"⟩, prog_1_method_44_code, 3, (some .boolean), 11, 3, true),
  (⟨"RefusedOnce", "within", "(III)Z"⟩, prog_1_method_44_code, 3, (some .boolean), 11, 3, true)]
def ro_M_4 : List ro_Me := [
  (⟨"RefusedOnce", "within", "(III)Z"⟩, prog_1_method_44_code, 3, (some .boolean), 11, 3, true),
  (⟨"RefusedOnce", "within", "(III)Z"⟩, prog_1_method_44_code, 3, (some .boolean), 11, 3, true),
  (⟨"RefusedOnce", "within", "(III)Z"⟩, prog_1_method_44_code, 3, (some .boolean), 11, 3, true),
  (⟨"RefusedOnce$Bodies", "howMany", "()I"⟩, prog_2_method_4_code, 1, (some .int), 0, 0, false),
  (⟨"RefusedOnce", "within", "(III)Z"⟩, prog_1_method_44_code, 3, (some .boolean), 11, 3, true),
  (⟨"RefusedOnce", "within", "(III)Z"⟩, prog_1_method_44_code, 3, (some .boolean), 11, 3, true),
  (⟨"RefusedOnce", "within", "(III)Z"⟩, prog_1_method_44_code, 3, (some .boolean), 11, 3, true),
  (⟨"RefusedOnce", "within", "(III)Z"⟩, prog_1_method_44_code, 3, (some .boolean), 11, 3, true),
  (⟨"RefusedOnce", "within", "(III)Z"⟩, prog_1_method_44_code, 3, (some .boolean), 11, 3, true),
  (⟨"RefusedOnce", "within", "(III)Z"⟩, prog_1_method_44_code, 3, (some .boolean), 11, 3, true),
  (⟨"RefusedOnce", "within", "(III)Z"⟩, prog_1_method_44_code, 3, (some .boolean), 11, 3, true),
  (⟨"RefusedOnce", "within", "(III)Z"⟩, prog_1_method_44_code, 3, (some .boolean), 11, 3, true),
  (⟨"RefusedOnce", "within", "(III)Z"⟩, prog_1_method_44_code, 3, (some .boolean), 11, 3, true),
  (⟨"RefusedOnce", "within", "(III)Z"⟩, prog_1_method_44_code, 3, (some .boolean), 11, 3, true),
  (⟨"RefusedOnce", "within", "(III)Z"⟩, prog_1_method_44_code, 3, (some .boolean), 11, 3, true),
  (⟨"RefusedOnce", "within", "(III)Z"⟩, prog_1_method_44_code, 3, (some .boolean), 11, 3, true),
  (⟨"RefusedOnce", "within", "(III)Z"⟩, prog_1_method_44_code, 3, (some .boolean), 11, 3, true),
  (⟨"RefusedOnce", "row", "(III)I"⟩, prog_1_method_38_code, 5, (some .int), 11, 3, false),
  (⟨"RefusedOnce$Shelf", "becomeRow", "(II)V"⟩, prog_11_method_9_code, 4, none, 9, 2, false),
  (⟨"RefusedOnce", "put", "(IIJ)I"⟩, prog_1_method_39_code, 6, (some .int), 11, 3, false),
  (⟨"RefusedOnce$Shelf", "holdsRow", "()Z"⟩, prog_11_method_3_code, 1, (some .boolean), 9, 0, false),
  (⟨"RefusedOnce$Shelf", "putIn", "(IJ)Z"⟩, prog_11_method_13_code, 4, (some .boolean), 9, 2, false),
  (⟨"RefusedOnce$Shelf", "lowest", "(J)J"⟩, prog_11_method_14_code, 3, (some .long), 9, 1, false),
  (⟨"RefusedOnce", "within", "(III)Z"⟩, prog_1_method_44_code, 3, (some .boolean), 11, 3, true),
  (⟨"RefusedOnce", "within", "(III)Z"⟩, prog_1_method_44_code, 3, (some .boolean), 11, 3, true),
  (⟨"RefusedOnce", "within", "(III)Z"⟩, prog_1_method_44_code, 3, (some .boolean), 11, 3, true),
  (⟨"RefusedOnce", "within", "(III)Z"⟩, prog_1_method_44_code, 3, (some .boolean), 11, 3, true),
  (⟨"RefusedOnce", "within", "(III)Z"⟩, prog_1_method_44_code, 3, (some .boolean), 11, 3, true),
  (⟨"RefusedOnce", "within", "(III)Z"⟩, prog_1_method_44_code, 3, (some .boolean), 11, 3, true),
  (⟨"RefusedOnce", "within", "(III)Z"⟩, prog_1_method_44_code, 3, (some .boolean), 11, 3, true),
  (⟨"RefusedOnce", "count", "(I)I"⟩, prog_1_method_43_code, 2, (some .int), 11, 1, false),
  (⟨"RefusedOnce$Land", "allOf", "(I)I"⟩, prog_6_method_14_code, 4, (some .int), 4, 1, false),
  (⟨"RefusedOnce$Bodies", "ranLately", "()I"⟩, prog_2_method_5_code, 1, (some .int), 0, 0, false),
  (⟨"RefusedOnceLaw", "cell", "([II)I"⟩, method_3_code, 2, (some .int), 15, 2, true),
  (⟨"RefusedOnceLaw", "many", "([I)I"⟩, method_4_code, 1, (some .int), 15, 1, true),
  (⟨"RefusedOnceLaw", "one", "([III)I"⟩, method_6_code, 4, (some .int), 15, 3, true),
  (⟨"RefusedOnceLaw", "built", "(LRefusedOnce;[I)Z"⟩, method_8_code, 3, (some .boolean), 15, 2, true),
  (⟨"RefusedOnceLaw", "told", "([II)I"⟩, method_7_code, 3, (some .int), 15, 2, true),
  (⟨"RefusedOnceLaw", "hasLaw", "([I)Z"⟩, method_5_code, 1, (some .boolean), 15, 1, true),
  (⟨"RefusedOnceLaw", "tell", "(LRefusedOnce;[II)Z"⟩, method_2_code, 4, (some .boolean), 15, 3, true)]
def ro_M_5 : List ro_Me := [
  (⟨"RefusedOnceLaw", "put", "(LRefusedOnce;I[I)Z"⟩, method_9_code, 4, (some .boolean), 15, 3, true),
  (⟨"RefusedOnceLaw", "evening", "([III)[I"⟩, method_11_code, 9, (some (.array .int)), 15, 3, true),
  (⟨"RefusedOnceLaw", "counting", "([I[I)I"⟩, method_12_code, 3, (some .int), 15, 2, true),
  (⟨"RefusedOnceLaw", "offer", "([II)Z"⟩, method_10_code, 2, (some .boolean), 15, 2, true),
  (⟨"java/lang/Integer", "bitCount", "(I)I"⟩, prog_18_method_49_code, 1, (some .int), 17, 1, true),
  (⟨"java/util/Arrays", "copyOf", "([II)[I"⟩, prog_22_method_123_code, 3, (some (.array .int)), 18, 2, true),
  (⟨"RefusedOnceLaw", "law", "([I)Z"⟩, code, 31, (some .boolean), 15, 1, true)]
def ro_M : List ro_Me := ro_M_0 ++ (ro_M_1 ++ (ro_M_2 ++ (ro_M_3 ++ (ro_M_4 ++ (ro_M_5)))))
def ro_m (y : Nat) : ro_Me := ro_M.getD y (⟨"", "", ""⟩, ⟨#[]⟩, 0, none, 0, 0, true)
/-- the words that go on holding -/
def ro_G : List Cond := lw_tbl.filter goodWord
def ro_tb (c : Nat) : List Cond := match c with
  | 0 => k2_sels lw_privs
  | 1 => tables_1_1
  | 2 => tables_1_2
  | 3 => tables_1_3
  | 4 => tables_1_4
  | _ => tables_1_5
def ro_wd (i : Nat) : Option Cond := (ro_tb (i / 1000))[i % 1000]?
theorem ro_wd_mem {i : Nat} {w : Cond} (h : ro_wd i = some w) : w ∈ lw_tbl := by
  have h := List.mem_of_getElem? h
  unfold lw_tbl tables_1
  simp only [List.mem_append]
  unfold ro_tb at h
  split at h <;> simp [h]
def ro_at (i : Nat) (w : Cond) : Bool := decide (ro_wd i = some w) && goodWord w
theorem ro_at_mem {i : Nat} {w : Cond} (h : ro_at i w = true) : w ∈ ro_G := by
  simp only [ro_at, Bool.and_eq_true, decide_eq_true_eq] at h
  exact List.mem_filter.mpr ⟨ro_wd_mem h.1, h.2⟩
def ro_lp0 : List Nat := [2060, 2062, 2064, 2066, 2068, 2070]
def ro_lp1 : List Nat := [2006, 2008, 2010, 2012, 2014, 2016, 2018, 2020, 2022]
def ro_lp2 : List Nat := [2037, 2039, 2041, 2043, 2045, 2047]
def ro_lp3 : List Nat := [1167, 1169, 1171, 1173, 1175, 1177, 1179, 1181, 1183, 1185, 1187]
def ro_lp4 : List Nat := [1064, 1066, 1068, 1070, 1072, 1074, 1076, 1078, 1080, 1082, 1084, 1086, 1088]
def ro_lp5 : List Nat := [1107, 1109, 1111, 1113, 1115, 1117, 1119, 1121, 1123, 1125]
def ro_lp6 : List Nat := [2096, 2098, 2100, 2102, 2104]
def ro_lp7 : List Nat := [1208, 1210, 1212, 1214, 1216, 1218, 1220, 1222, 1224, 1226]
def ro_lp8 : List Nat := [1041, 1043]
def ro_lp9 : List Nat := [1138, 1140, 1142, 1144]
def ro_lp10 : List Nat := [2117, 2119, 2121, 2123, 2125, 2127, 2129, 2131, 2133, 2135]
def ro_lp11 : List Nat := [2147, 2149, 2151, 2153, 2155, 2157, 2159, 2161, 2163]
def ro_lps : List (List Nat) := [ro_lp0, ro_lp1, ro_lp2, ro_lp3, ro_lp4, ro_lp5, ro_lp6, ro_lp7, ro_lp8, ro_lp9, ro_lp10, ro_lp11]
/-- a class: its fields' words, that it can be made, that it is ready -/
def ro_kpl : List (Nat × Nat) := [(2051, 1010), (1230, 1008), (2026, 1009), (1149, 1006), (1028, 1002), (1092, 1004), (2082, 1012), (1191, 1007), (1034, 1003), (1130, 1005), (2074, 1011), (1020, 1001)]
def ro_chkK (c : Nat) : Bool := match ro_cl[c]?, ro_lps[c]?, ro_kpl[c]? with
  | some q, some ps, some kp => (List.range q.2.2).all (fun k => ro_at (ps.getD k 0) (u_lay q.1 q.2.1 k)) && ro_at kp.1 (.instantiable q.1 q.2.2) && ro_at kp.2 (.initialized q.1) && decide (ro_Rn c = q.1)
  | _, _, _ => false
set_option maxRecDepth 100000 in
theorem ro_chkK_ok : (List.range 12).all ro_chkK = true := by decide +kernel
def ro_FL : List (Nat × Nat × Nat × Nat × Nat) := [(8, 9, 8, 0, 1039), (8, 15, 8, 1, 1040), (4, 12, 4, 0, 1047), (7, 52, 4, 0, 1048), (11, 132, 4, 0, 1049), (3, 55, 4, 0, 1050), (1, 63, 4, 0, 1051), (4, 18, 4, 1, 1052), (4, 22, 4, 2, 1053), (4, 25, 4, 3, 1054), (4, 44, 4, 4, 1055), (4, 28, 4, 5, 1056), (4, 32, 4, 6, 1057), (4, 35, 4, 7, 1058), (4, 38, 4, 8, 1059), (4, 41, 4, 9, 1060), (4, 101, 4, 10, 1061), (4, 95, 4, 11, 1062), (4, 98, 4, 12, 1063), (5, 11, 5, 0, 1097), (5, 15, 5, 1, 1098), (5, 18, 5, 2, 1099), (5, 21, 5, 3, 1100), (5, 24, 5, 4, 1101), (5, 27, 5, 5, 1102), (5, 31, 5, 6, 1103), (5, 34, 5, 7, 1104), (5, 41, 5, 8, 1105), (5, 104, 5, 9, 1106), (9, 11, 9, 0, 1135), (9, 15, 9, 1, 1136), (9, 29, 9, 2, 1137), (3, 28, 3, 0, 1156), (3, 32, 3, 1, 1157), (3, 12, 3, 2, 1158), (11, 169, 3, 2, 1159), (3, 18, 3, 3, 1160), (3, 22, 3, 4, 1161), (3, 25, 3, 5, 1162), (3, 36, 3, 6, 1163), (3, 65, 3, 7, 1164), (3, 68, 3, 8, 1165), (3, 71, 3, 9, 1166), (7, 25, 7, 0, 1198), (7, 29, 7, 1, 1199), (7, 12, 7, 2, 1200), (7, 18, 7, 3, 1201), (7, 22, 7, 4, 1202), (7, 33, 7, 5, 1203), (7, 69, 7, 6, 1204), (7, 72, 7, 7, 1205), (7, 62, 7, 8, 1206), (7, 66, 7, 9, 1207), (1, 29, 1, 0, 1237), (1, 33, 1, 1, 1238), (1, 12, 1, 2, 1239), (1, 18, 1, 3, 2000), (1, 22, 1, 4, 2001), (1, 37, 1, 5, 2002), (1, 25, 1, 6, 2003), (1, 104, 1, 7, 2004), (1, 108, 1, 8, 2005), (2, 9, 2, 0, 2031), (2, 13, 2, 1, 2032), (2, 16, 2, 2, 2033), (2, 19, 2, 3, 2034), (2, 22, 2, 4, 2035), (2, 29, 2, 5, 2036), (0, 11, 0, 0, 2056), (0, 15, 0, 1, 2057), (0, 21, 0, 2, 2058), (0, 25, 0, 3, 2059), (6, 9, 6, 0, 2087), (10, 158, 6, 0, 2088), (6, 15, 6, 1, 2089), (10, 54, 6, 1, 2090), (6, 19, 6, 2, 2091), (10, 57, 6, 2, 2092), (6, 22, 6, 3, 2093), (10, 61, 6, 3, 2094), (10, 50, 6, 4, 2095), (10, 42, 10, 0, 2107), (10, 46, 10, 1, 2108), (10, 13, 10, 2, 2109), (10, 16, 10, 3, 2110), (10, 19, 10, 4, 2111), (10, 22, 10, 5, 2112), (10, 25, 10, 6, 2113), (10, 29, 10, 7, 2114), (10, 35, 10, 8, 2115), (10, 39, 10, 9, 2116), (11, 10, 11, 0, 2138), (11, 19, 11, 1, 2139), (11, 25, 11, 2, 2140), (11, 35, 11, 3, 2141), (11, 42, 11, 4, 2142), (11, 49, 11, 5, 2143), (11, 56, 11, 6, 2144), (11, 63, 11, 7, 2145), (11, 72, 11, 8, 2146)]
/-- a field link: own, entry, class, slot, place -/
def ro_chkF (e : Nat × Nat × Nat × Nat × Nat) : Bool := match ro_cl[e.2.2.1]? with
  | some q => decide (e.2.2.2.1 < q.2.2) && ro_at e.2.2.2.2 (.fieldLink (ro_Rn e.1) e.2.1 q.1 (q.2.1 e.2.2.2.1).2.1 (q.2.1 e.2.2.2.1).2.2.1) && decide ((q.2.1 e.2.2.2.1).1 = q.1)
  | none => false
set_option maxRecDepth 100000 in
theorem ro_chkF_ok : ro_FL.all ro_chkF = true := by decide +kernel
def ro_SL : List (Nat × Nat × Nat × Nat) := [(4, 51, 1, 5009), (15, 41, 2, 5034)]
def ro_Sn : List (String × String) := [("", ""), ("RefusedOnce$Land", "MOST"), ("RefusedOnceLaw", "FIRST")]
/-- a static link: own, entry, which, place -/
def ro_chkS (e : Nat × Nat × Nat × Nat) : Bool := match ro_Sn[e.2.2.1]? with
  | some q => ro_at e.2.2.2 (.fieldLink (ro_Rn e.1) e.2.1 q.1 q.2 "[I") && decide (1 ≤ e.2.2.1)
  | none => false
theorem ro_chkS_ok : ro_SL.all ro_chkS = true := by decide +kernel
def ro_LL : List (Nat × Nat × Nat × Nat) := [(15, 87, 0, 1021), (11, 32, 5, 1150), (11, 41, 6, 1192), (11, 48, 7, 1231), (11, 69, 10, 2075), (15, 115, 36, 2166), (11, 109, 28, 2170), (4, 47, 29, 2174), (11, 116, 30, 2178), (4, 65, 31, 2182), (4, 69, 32, 2186), (11, 128, 29, 2190), (11, 136, 37, 2191), (4, 81, 38, 2195), (11, 140, 39, 2198), (4, 72, 30, 2202), (15, 130, 55, 2206), (11, 152, 56, 2210), (11, 348, 57, 2214), (11, 155, 58, 2218), (5, 76, 30, 2222), (5, 82, 59, 2223), (5, 85, 31, 2230), (5, 90, 32, 2231), (5, 93, 60, 2232), (5, 69, 52, 2236), (5, 107, 61, 2239), (5, 110, 62, 3003), (5, 113, 63, 3007), (15, 111, 64, 3010), (11, 87, 20, 3014), (11, 76, 13, 3018), (11, 95, 22, 3021), (11, 159, 65, 3025), (9, 23, 21, 3029), (11, 162, 66, 3033), (3, 40, 24, 3037), (3, 45, 25, 3041), (9, 32, 26, 3045), (3, 49, 57, 3049), (11, 165, 67, 3050), (3, 58, 18, 3054), (3, 61, 68, 3058), (8, 18, 31, 3062), (8, 22, 16, 3063), (8, 26, 32, 3067), (8, 29, 17, 3068), (3, 74, 69, 3072), (3, 77, 70, 3076), (3, 80, 71, 3080), (3, 84, 72, 3084), (3, 88, 73, 3088), (3, 91, 74, 3092), (3, 95, 75, 3096), (3, 98, 58, 3100), (3, 104, 30, 3101), (3, 108, 76, 3102), (3, 112, 77, 3106), (3, 116, 78, 3110), (11, 172, 31, 3114), (11, 177, 32, 3115), (15, 103, 79, 3116), (11, 180, 80, 3120), (11, 183, 81, 3124), (11, 186, 82, 3128), (15, 141, 83, 3132), (11, 189, 84, 3136), (7, 37, 24, 3140), (7, 42, 25, 3141), (7, 46, 57, 3142), (11, 190, 85, 3143), (11, 191, 86, 3147), (7, 55, 18, 3151), (7, 58, 68, 3152), (7, 75, 87, 3153), (7, 79, 88, 3157), (7, 118, 37, 3161), (7, 83, 75, 3162), (7, 86, 89, 3163), (7, 95, 58, 3167), (7, 101, 30, 3168), (7, 105, 78, 3169), (7, 108, 32, 3170), (7, 111, 77, 3171), (7, 92, 74, 3172), (7, 115, 90, 3173), (7, 89, 73, 3177), (11, 195, 91, 3178), (11, 198, 92, 3182), (15, 144, 93, 3186), (15, 147, 94, 3190), (11, 201, 95, 3194), (11, 206, 96, 3198), (1, 49, 97, 3202), (1, 68, 18, 3206), (1, 72, 68, 3207), (1, 76, 98, 3208), (1, 80, 30, 3212), (1, 84, 16, 3213), (1, 88, 17, 3214), (1, 91, 75, 3215), (1, 53, 99, 3216), (1, 95, 58, 3220), (1, 57, 100, 3221), (1, 40, 101, 3225), (11, 209, 102, 3231), (15, 159, 103, 3235), (11, 213, 104, 3239), (15, 174, 105, 4003), (11, 216, 106, 4007), (1, 101, 107, 4011), (1, 115, 108, 4017), (1, 119, 78, 4021), (15, 163, 111, 4023), (11, 224, 112, 4027), (1, 124, 39, 4031), (1, 131, 113, 4033), (15, 171, 114, 4036), (15, 168, 115, 4042), (15, 178, 117, 4046), (11, 234, 118, 4050), (15, 124, 119, 4054), (11, 237, 120, 4058), (10, 64, 121, 4062), (10, 76, 122, 4067), (10, 102, 29, 4071), (10, 108, 24, 4072), (10, 111, 25, 4073), (10, 115, 123, 4074), (10, 80, 124, 4078), (10, 125, 69, 4085), (10, 128, 70, 4086), (10, 131, 71, 4087), (10, 134, 125, 4088), (10, 140, 126, 4092), (10, 137, 127, 4096), (10, 84, 128, 4100), (10, 87, 129, 4104), (10, 147, 30, 4108), (10, 150, 130, 4109), (10, 91, 131, 4115), (10, 166, 132, 4119), (10, 95, 133, 4123), (10, 98, 134, 4127), (10, 162, 135, 4131), (11, 239, 136, 4136), (11, 240, 137, 4140), (11, 243, 138, 4144), (11, 246, 139, 4148), (15, 133, 144, 4153), (11, 255, 73, 4157), (11, 258, 75, 4158), (11, 261, 145, 4159), (11, 264, 77, 4163), (11, 267, 78, 4164), (11, 271, 74, 4165), (15, 135, 148, 4166), (11, 274, 149, 4170), (15, 127, 150, 4174), (11, 277, 151, 4178), (4, 85, 68, 4182), (15, 138, 152, 4184), (11, 280, 153, 4188), (15, 57, 177, 4192), (11, 312, 178, 4196), (15, 13, 190, 4200), (11, 83, 18, 4204), (11, 342, 191, 4205), (11, 146, 42, 4209), (11, 287, 156, 4213), (11, 301, 163, 4217), (11, 345, 192, 4221), (15, 17, 193, 4225), (15, 23, 194, 4229), (15, 27, 195, 4232), (15, 88, 196, 4235), (15, 31, 12, 4238), (11, 80, 14, 5002), (4, 54, 15, 5006), (4, 58, 16, 5011), (4, 62, 17, 5012), (15, 34, 27, 5013), (11, 113, 15, 5017), (11, 120, 33, 5018), (11, 124, 34, 5022), (2, 26, 35, 5026), (15, 38, 197, 5031), (15, 45, 198, 5036), (15, 49, 199, 5039), (15, 7, 40, 5042), (11, 143, 41, 5046), (15, 53, 43, 5050), (11, 149, 44, 5054), (5, 37, 45, 5058), (5, 44, 46, 5062), (5, 56, 47, 5066), (5, 48, 48, 5070), (5, 63, 49, 5074), (5, 66, 50, 5077), (5, 52, 51, 5081), (5, 73, 53, 5085), (5, 60, 54, 5089), (15, 100, 200, 5092), (15, 60, 179, 5095), (11, 315, 180, 5099), (11, 318, 181, 5103), (9, 36, 182, 5107), (15, 92, 201, 5111), (15, 96, 202, 5114), (15, 64, 203, 5117), (15, 119, 204, 5120), (15, 105, 205, 5136)]
/-- a method link: own, entry, method, place -/
def ro_chkL (e : Nat × Nat × Nat × Nat) : Bool := ro_at e.2.2.2 (.methodLink (ro_Rn e.1) e.2.1 (ro_m e.2.2.1).1) && decide (e.2.2.1 < 206)
set_option maxRecDepth 100000 in
theorem ro_chkL_ok : ro_LL.all ro_chkL = true := by decide +kernel
def ro_NL : List (Nat × Nat × Nat × Nat) := [(11, 9, 1, 1029), (4, 11, 2, 1035), (11, 18, 3, 1093), (11, 29, 4, 1131), (3, 11, 2, 1155), (7, 11, 2, 1197), (1, 11, 2, 1236), (11, 55, 8, 2027), (11, 62, 9, 2052), (10, 34, 11, 2083)]
def ro_chkN (e : Nat × Nat × Nat × Nat) : Bool := decide (ro_wd e.2.2.2 = some (.methodLinkNest (ro_Rn e.1) e.2.1 (ro_m e.2.2.1).1 "RefusedOnce")) && decide (e.2.2.1 < 206)
theorem ro_chkN_ok : ro_NL.all ro_chkN = true := by decide +kernel
def ro_OL : List (Nat × Nat × Nat) := [(11, 1, 1024), (4, 3, 1032), (8, 3, 1038), (5, 5, 1096), (9, 3, 1134), (3, 3, 1153), (7, 3, 1195), (1, 3, 1234), (2, 1, 2030), (0, 3, 2055), (10, 3, 2078), (6, 1, 2086)]
theorem ro_chkO_ok : ro_OL.all (fun e => ro_at e.2.2 (.methodLink (ro_Rn e.1) e.2.1 Lib.objectInit)) = true := by decide +kernel
def ro_XL : List (Nat × Nat × Nat × Nat) := [(4, 76, 1, 2203), (5, 96, 1, 2226), (5, 101, 0, 2227), (1, 44, 2, 3228), (1, 128, 1, 4032), (11, 227, 1, 4040), (10, 70, 1, 4066), (10, 144, 0, 4095), (18, 304, 1, 5146)]
def ro_Xn (k : Nat) : MethodName := match k with
  | 0 => Lib.Math.max.name
  | 1 => Lib.Math.min.name
  | _ => Lib.MathLoose.max_long.x
theorem ro_chkX_ok : ro_XL.all (fun e => ro_at e.2.2.2 (.methodLink (ro_Rn e.1) e.2.1 (ro_Xn e.2.2.1)) && decide (e.2.2.1 < 3)) = true := by decide +kernel
theorem ro_xs0 : ro_at 2228 (.static (ro_Xn 0)) = true := by decide +kernel
theorem ro_xc0 : ro_wd 2229 = some (.code (ro_Xn 0) Lib.Math.max.code 2 (some .int)) := by rfl
theorem ro_xs1 : ro_at 2204 (.static (ro_Xn 1)) = true := by decide +kernel
theorem ro_xc1 : ro_wd 2205 = some (.code (ro_Xn 1) Lib.Math.min.code 2 (some .int)) := by rfl
theorem ro_xs2 : ro_at 3229 (.static (ro_Xn 2)) = true := by decide +kernel
theorem ro_xc2 : ro_wd 3230 = some (.code (ro_Xn 2) Lib.MathLoose.max_long.code 4 (some .long)) := by rfl
theorem ro_xi : ro_at 1014 (.initialized "java/lang/Math") = true := by decide +kernel
theorem ro_li : ro_at 1000 (.initialized "RefusedOnceLaw") = true := by decide +kernel
theorem ro_ai : ro_at 1013 (.initialized "java/lang/System") = true := by decide +kernel
theorem ro_an : ro_at 4084 (.native arraycopyName) = true := by decide +kernel
theorem ro_as : ro_at 4083 (.static arraycopyName) = true := by decide +kernel
theorem ro_oi : ro_at 1025 (.instanceMethod Lib.objectInit) = true := by decide +kernel
theorem ro_oc : ro_wd 1026 = some (.code Lib.objectInit ⟨#[0xb1]⟩ 1 none) := by rfl
theorem ro_ac0 : ro_at 1046 (Jvm.Cond.arrayClass Jvm.ClassFile.FieldType.int) = true := by decide +kernel
theorem ro_ac1 : ro_at 1147 (Jvm.Cond.arrayClass Jvm.ClassFile.FieldType.long) = true := by decide +kernel
theorem ro_ao0 : ro_wd 1129 = some (Jvm.Cond.arrayOver (Jvm.ClassFile.FieldType.object "RefusedOnce$Shelf")) := by decide +kernel
theorem ro_ao1 : ro_wd 2080 = some (Jvm.Cond.arrayOver (Jvm.ClassFile.FieldType.array Jvm.ClassFile.FieldType.int)) := by decide +kernel
theorem ro_ls0 : ro_wd 5010 = some (Jvm.Cond.laysStatic "RefusedOnce$Land" "MOST" "[I") := by decide +kernel
theorem ro_ls1 : ro_wd 5035 = some (Jvm.Cond.laysStatic "RefusedOnceLaw" "FIRST" "[I") := by decide +kernel
def ro_AL : List (Nat × Nat × Nat) := [(10, 119, 4082), (4, 89, 4183), (2, 32, 5030), (18, 150, 5147)]
theorem ro_chkA_ok : ro_AL.all (fun e => ro_at e.2.2 (.methodLink (ro_Rn e.1) e.2.1 arraycopyName)) = true := by decide +kernel
def ro_CL : List (Nat × Nat × Nat × Nat) := [(15, 8, 11, 1019), (11, 7, 4, 1027), (4, 9, 8, 1033), (11, 16, 5, 1091), (11, 23, 9, 1128), (11, 30, 3, 1148), (3, 9, 8, 1154), (11, 39, 7, 1190), (7, 9, 8, 1196), (11, 46, 1, 1229), (1, 9, 8, 1235), (11, 53, 2, 2025), (11, 60, 0, 2050), (11, 67, 10, 2073), (10, 32, 6, 2081)]
theorem ro_chkC_ok : ro_CL.all (fun e => ro_at e.2.2.2 (.classLink (ro_Rn e.1) e.2.1 (ro_Rn e.2.2.1)) && decide (e.2.2.1 < 12)) = true := by decide +kernel
theorem ro_chkMM : ro_at 2079 (.classLink (ro_Rn 10) 11 "[[I") = true := by decide +kernel
def ro_MM (own x : Nat) : Bool := own == 10 && x == 11
/-- Math.abs of a double -/
def ro_BL : List (Nat × Nat × Nat) := [(15, 151, 5126)]
theorem ro_chkB_ok : ro_BL.all (fun e => ro_at e.2.2 (.methodLink (ro_Rn e.1) e.2.1 Jvm.Free.Fl.Abs.absDN)) = true := by decide +kernel
theorem ro_bs0 : ro_at 5127 (.static Jvm.Free.Fl.Abs.absDN) = true := by decide +kernel
theorem ro_bc0 : ro_wd 5128 = some (.code Jvm.Free.Fl.Abs.absDN Jvm.Free.Fl.Abs.absDCode 2 (some .double)) := by rfl
/-- clone, of a row of ints -/
def ro_cln : MethodName := ⟨"[I", "clone", "()Ljava/lang/Object;"⟩
def ro_cl0 : MethodName := ⟨"java/lang/Object", "clone", "()Ljava/lang/Object;"⟩
def ro_isC (own x : Nat) : Bool := own == 18 && x == 316
theorem ro_cn0 : ro_at 5139 (.methodLink (ro_Rn 18) 316 ro_cln) = true := by decide +kernel
theorem ro_cn1 : ro_at 5140 (.sameMethod "[I" "java/lang/Object" "clone" "()Ljava/lang/Object;") = true := by decide +kernel
theorem ro_cn2 : ro_at 5141 (.native ro_cl0) = true := by decide +kernel
theorem ro_cn3 : ro_at 5142 (.instanceMethod ro_cl0) = true := by decide +kernel
theorem ro_cn4 : ro_at 5143 (.selects "[I" ro_cln ro_cl0) = true := by decide +kernel
theorem ro_cn5 : ro_wd 5144 = some (.castable "[I" "java/lang/Cloneable") := by decide +kernel
theorem ro_cn6 : ro_at 5145 (.classLink (ro_Rn 18) 317 "[I") = true := by decide +kernel
def ro_isK (own x : Nat) : Bool := own == 18 && x == 317
def ro_KX : List (Nat × Nat × UInt64 × Nat) := [(15, 157, 4472406533629990549, 5148), (15, 166, 4427486594234968593, 5149)]
theorem ro_chkKX_ok : ro_KX.all (fun e => ro_at e.2.2.2 (.constantDouble (ro_Rn e.1) e.2.1 e.2.2.1)) = true := by decide +kernel
def ro_KI : List (Nat × Nat × Int32 × Nat) := [(10, 165, 1048576, 4135), (10, 60, 1048575, 4152), (15, 16, 16777215, 4228), (17, 265, 1431655765, 5123), (17, 266, 858993459, 5124), (17, 267, 252645135, 5125)]
theorem ro_chkKI_ok : ro_KI.all (fun e => ro_at e.2.2.2 (.constant (ro_Rn e.1) e.2.1 e.2.2.1)) = true := by decide +kernel
def ro_KJ : List (Nat × Nat × Int64 × Nat) := [(11, 204, -9223372036854775808, 3197), (1, 61, 12, 3219), (1, 111, 144, 4015), (1, 113, 2329089562800, 4016), (1, 122, 27949074753600, 4022), (11, 232, 12, 4041), (10, 154, -1, 4113), (10, 156, 31, 4114), (10, 170, 6364136223846793005, 4122), (13, 135, 9223372036854775807, 5132)]
theorem ro_chkKJ_ok : ro_KJ.all (fun e => ro_at e.2.2.2 (.constantLong (ro_Rn e.1) e.2.1 e.2.2.1)) = true := by decide +kernel
def ro_MP : List (Nat × Nat × Nat × Nat) := [(1023, 1022, 0, 1001), (1031, 1030, 0, 1002), (1037, 1036, 0, 1003), (1095, 1094, 0, 1004), (1133, 1132, 0, 1005), (1152, 1151, 0, 1006), (1194, 1193, 0, 1007), (1233, 1232, 0, 1008), (2029, 2028, 0, 1009), (2054, 2053, 0, 1010), (2077, 2076, 0, 1011), (2085, 2084, 0, 1012), (5001, 4239, 5000, 1001), (3020, 3019, 0, 1001), (5005, 5003, 5004, 1002), (5008, 5007, 0, 1002), (3066, 3064, 3065, 1003), (3071, 3069, 3070, 1003), (3057, 3055, 3056, 1002), (3020, 3019, 0, 1001), (3017, 3016, 4, 1001), (3032, 3030, 3031, 1005), (3024, 3022, 3023, 1005), (3020, 3019, 0, 1001), (3040, 3038, 3039, 1005), (3044, 3042, 3043, 1005), (3048, 3046, 3047, 1005), (5016, 5014, 5015, 1001), (2173, 2171, 2172, 1002), (2177, 2175, 2176, 1002), (2181, 2179, 2180, 1002), (2185, 2183, 2184, 1003), (2189, 2187, 2188, 1003), (5021, 5019, 5020, 1002), (5025, 5023, 5024, 1009), (5029, 5028, 27, 1009), (2169, 2167, 2168, 1001), (2194, 2192, 2193, 1002), (2197, 2196, 0, 1002), (2201, 2199, 2200, 1002), (5045, 5043, 5044, 1001), (5049, 5047, 5048, 1004), (4212, 4210, 4211, 1004), (5053, 5051, 5052, 1001), (5057, 5055, 5056, 1004), (5061, 5060, 28, 1004), (5065, 5064, 29, 1004), (5069, 5068, 30, 1004), (5073, 5072, 31, 1004), (5076, 5075, 0, 1004), (5080, 5079, 32, 1004), (5084, 5083, 33, 1004), (2238, 2237, 0, 1004), (5088, 5087, 34, 1004), (5091, 5090, 0, 1004), (2209, 2207, 2208, 1001), (2213, 2212, 0, 1001), (2217, 2215, 2216, 1002), (2221, 2219, 2220, 1004), (2225, 2224, 0, 1004), (2235, 2234, 1, 1004), (3002, 3001, 2, 1004), (3006, 3005, 3, 1004), (3009, 3008, 0, 1004), (3013, 3011, 3012, 1001), (3028, 3026, 3027, 1005), (3036, 3034, 3035, 1006), (3053, 3051, 3052, 1006), (3061, 3059, 3060, 1003), (3075, 3073, 3074, 1006), (3079, 3077, 3078, 1006), (3083, 3081, 3082, 1006), (3087, 3086, 5, 1006), (3091, 3089, 3090, 1003), (3095, 3093, 3094, 1003), (3099, 3097, 3098, 1003), (3105, 3104, 6, 1006), (3109, 3107, 3108, 1003), (3113, 3111, 3112, 1003), (3119, 3117, 3118, 1001), (3123, 3121, 3122, 1006), (3127, 3125, 3126, 1006), (3131, 3129, 3130, 1006), (3135, 3133, 3134, 1001), (3139, 3137, 3138, 1007), (3146, 3144, 3145, 1007), (3150, 3148, 3149, 1007), (3156, 3155, 7, 1007), (3160, 3159, 8, 1007), (3166, 3165, 9, 1007), (3176, 3174, 3175, 1003), (3181, 3179, 3180, 1007), (3185, 3183, 3184, 1007), (3189, 3187, 3188, 1001), (3193, 3191, 3192, 1001), (3196, 3195, 0, 1001), (3201, 3199, 3200, 1008), (3205, 3204, 10, 1008), (3211, 3210, 11, 1008), (3218, 3217, 0, 1008), (3224, 3223, 12, 1008), (3227, 3226, 0, 1008), (3234, 3232, 3233, 1008), (3238, 3236, 3237, 1001), (4002, 4000, 4001, 1008), (4006, 4004, 4005, 1001), (4010, 4008, 4009, 1008), (4014, 4013, 13, 1008), (4020, 4019, 14, 1008), (3020, 3019, 0, 1001), (3020, 3019, 0, 1001), (4026, 4024, 4025, 1001), (4030, 4028, 4029, 1008), (4035, 4034, 0, 1008), (4039, 4037, 4038, 1001), (4045, 4043, 4044, 1001), (3020, 3019, 0, 1001), (4049, 4047, 4048, 1001), (4053, 4051, 4052, 1002), (4057, 4055, 4056, 1001), (4061, 4059, 4060, 1011), (4065, 4063, 4064, 1006), (4070, 4069, 15, 1011), (4077, 4076, 16, 1011), (4081, 4080, 17, 1011), (4091, 4090, 18, 1011), (4094, 4093, 0, 1011), (4099, 4098, 19, 1011), (4103, 4102, 20, 1011), (4107, 4106, 21, 1011), (4112, 4111, 22, 1011), (4118, 4117, 23, 1011), (4121, 4120, 0, 1011), (4126, 4125, 24, 1011), (4130, 4129, 25, 1011), (4134, 4133, 26, 1011), (4139, 4137, 4138, 1011), (4143, 4141, 4142, 1011), (4147, 4145, 4146, 1011), (4151, 4149, 4150, 1011), (3020, 3019, 0, 1001), (3020, 3019, 0, 1001), (3020, 3019, 0, 1001), (3020, 3019, 0, 1001), (4156, 4154, 4155, 1001), (4162, 4160, 4161, 1002), (3020, 3019, 0, 1001), (3020, 3019, 0, 1001), (4169, 4167, 4168, 1001), (4173, 4171, 4172, 1002), (4177, 4175, 4176, 1001), (4181, 4179, 4180, 1002), (4187, 4185, 4186, 1001), (4191, 4189, 4190, 1002), (3020, 3019, 0, 1001), (3020, 3019, 0, 1001), (4216, 4214, 4215, 1009), (3020, 3019, 0, 1001), (3020, 3019, 0, 1001), (3020, 3019, 0, 1001), (3020, 3019, 0, 1001), (3020, 3019, 0, 1001), (3020, 3019, 0, 1001), (4220, 4218, 4219, 1010), (3020, 3019, 0, 1001), (3020, 3019, 0, 1001), (3020, 3019, 0, 1001), (3020, 3019, 0, 1001), (3020, 3019, 0, 1001), (3020, 3019, 0, 1001), (3020, 3019, 0, 1001), (3020, 3019, 0, 1001), (3020, 3019, 0, 1001), (3020, 3019, 0, 1001), (3020, 3019, 0, 1001), (3020, 3019, 0, 1001), (3020, 3019, 0, 1001), (4195, 4193, 4194, 1001), (4199, 4197, 4198, 1005), (5098, 5096, 5097, 1001), (5102, 5100, 5101, 1005), (5106, 5104, 5105, 1005), (5110, 5109, 35, 1005), (3020, 3019, 0, 1001), (3020, 3019, 0, 1001), (3020, 3019, 0, 1001), (3020, 3019, 0, 1001), (3020, 3019, 0, 1001), (3020, 3019, 0, 1001), (3020, 3019, 0, 1001), (4203, 4201, 4202, 1001), (4208, 4206, 4207, 1002), (4224, 4222, 4223, 1010), (4227, 4226, 0, 1000), (4231, 4230, 0, 1000), (4234, 4233, 0, 1000), (4237, 4236, 0, 1000), (5033, 5032, 0, 1000), (5038, 5037, 0, 1000), (5041, 5040, 0, 1000), (5094, 5093, 0, 1000), (5113, 5112, 0, 1000), (5116, 5115, 0, 1000), (5119, 5118, 0, 1000), (5122, 5121, 0, 1017), (5138, 5137, 0, 1015)]
/-- a method: its code, static or not, selected, its class ready, its parameters -/
def ro_chkM (y : Nat) : Bool := match ro_MP[y]? with
  | some p => ro_at p.2.1 (if (ro_m y).2.2.2.2.2.2 then .static (ro_m y).1 else .instanceMethod (ro_m y).1) && ((ro_m y).2.2.2.2.2.2 || (ro_m y).1.name == "<init>" || ro_at p.2.2.1 (.selects (ro_m y).1.cls (ro_m y).1 (ro_m y).1)) && ro_at p.2.2.2 (.initialized (ro_m y).1.cls) && decide ((ro_m y).1.cls = ro_Rn (ro_m y).2.2.2.2.1) && decide ((parseMethodDescriptor (ro_m y).1.desc).map (fun d => d.parameters.length) = some (ro_m y).2.2.2.2.2.1) && decide ((ro_m y).1.cls ≠ "java/lang/invoke/MethodHandle") && decide ((ro_m y).1.cls ≠ "java/lang/invoke/VarHandle") && plainName (ro_m y).1.cls && decide ((ro_m y).2.2.1 ≤ 20)
  | none => false
def ro_cd (y : Nat) : Cond := .code (ro_m y).1 (ro_m y).2.1 (ro_m y).2.2.1 (ro_m y).2.2.2.1
theorem ro_cd_good (y : Nat) : goodWord (ro_cd y) = true := by first | rfl | simp [ro_cd, goodWord, Cond.onTables, Cond.keeps, Cond.steady]
set_option maxRecDepth 100000 in
theorem ro_chkD_0 : (List.range 40).map (fun k => some (ro_cd (0 + k))) = (List.range 40).map (fun k => ro_wd ((ro_MP.getD (0 + k) (0, 0, 0, 0)).1)) := by rfl
set_option maxRecDepth 100000 in
theorem ro_chkD_1 : (List.range 40).map (fun k => some (ro_cd (40 + k))) = (List.range 40).map (fun k => ro_wd ((ro_MP.getD (40 + k) (0, 0, 0, 0)).1)) := by rfl
set_option maxRecDepth 100000 in
theorem ro_chkD_2 : (List.range 40).map (fun k => some (ro_cd (80 + k))) = (List.range 40).map (fun k => ro_wd ((ro_MP.getD (80 + k) (0, 0, 0, 0)).1)) := by rfl
set_option maxRecDepth 100000 in
theorem ro_chkD_3 : (List.range 40).map (fun k => some (ro_cd (120 + k))) = (List.range 40).map (fun k => ro_wd ((ro_MP.getD (120 + k) (0, 0, 0, 0)).1)) := by rfl
set_option maxRecDepth 100000 in
theorem ro_chkD_4 : (List.range 40).map (fun k => some (ro_cd (160 + k))) = (List.range 40).map (fun k => ro_wd ((ro_MP.getD (160 + k) (0, 0, 0, 0)).1)) := by rfl
set_option maxRecDepth 100000 in
theorem ro_chkD_5 : (List.range 6).map (fun k => some (ro_cd (200 + k))) = (List.range 6).map (fun k => ro_wd ((ro_MP.getD (200 + k) (0, 0, 0, 0)).1)) := by rfl
set_option maxRecDepth 100000 in
theorem ro_chkM_0 : (List.range 40).all (fun k => ro_chkM (0 + k)) = true := by decide +kernel
set_option maxRecDepth 100000 in
theorem ro_chkM_1 : (List.range 40).all (fun k => ro_chkM (40 + k)) = true := by decide +kernel
set_option maxRecDepth 100000 in
theorem ro_chkM_2 : (List.range 40).all (fun k => ro_chkM (80 + k)) = true := by decide +kernel
set_option maxRecDepth 100000 in
theorem ro_chkM_3 : (List.range 40).all (fun k => ro_chkM (120 + k)) = true := by decide +kernel
set_option maxRecDepth 100000 in
theorem ro_chkM_4 : (List.range 40).all (fun k => ro_chkM (160 + k)) = true := by decide +kernel
set_option maxRecDepth 100000 in
theorem ro_chkM_5 : (List.range 6).all (fun k => ro_chkM (200 + k)) = true := by decide +kernel
