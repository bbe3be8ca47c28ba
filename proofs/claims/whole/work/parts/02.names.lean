/-! names of this claim, by program (wip/whole/gen02.py) out of the Statement's words: classes, fields, methods, links, each with its place among lw_tbl; checked by the kernel -/
def ro_Rs : List String := ["RefusedOnce$Bodies", "RefusedOnce$Chances", "RefusedOnce$Changes", "RefusedOnce$Evening", "RefusedOnce$Land", "RefusedOnce$Law", "RefusedOnce$Level", "RefusedOnce$Payings", "RefusedOnce$Purses", "RefusedOnce$Shelf", "RefusedOnce$Ways", "RefusedOnce", "RefusedOnceModel", "java/lang/Math", "java/lang/Object", "RefusedOnceLaw", "java/lang/System"]
def ro_Rn (c : Nat) : String := ro_Rs.getD c ""
def ro_T0 : u_T := fun k => match k with
  | 0 => ("RefusedOnce$Bodies", "kinds", "[I", true)
  | 1 => ("RefusedOnce$Bodies", "trace", "[I", true)
  | 2 => ("RefusedOnce$Bodies", "kept", "I", false)
  | 3 => ("RefusedOnce$Bodies", "ran", "I", false)
  | 4 => ("RefusedOnce$Bodies", "self", "I", false)
  | _ => ("RefusedOnce$Bodies", "selfKind", "I", false)
def ro_ty0 : Nat → FieldType := fun k => match k with
  | 0 => (.array .int)
  | 1 => (.array .int)
  | 2 => .int
  | 3 => .int
  | 4 => .int
  | _ => .int
theorem ro_nm0 : ∀ a, a < 6 → ∀ b, b < 6 → a ≠ b → (ro_T0 a).2.1 ≠ (ro_T0 b).2.1 := by decide +kernel
theorem ro_tk0 : ∀ k, k < 6 → parseFieldDescriptor (ro_T0 k).2.2.1 = some (ro_ty0 k) := by decide +kernel
def ro_T1 : u_T := fun k => match k with
  | 0 => ("RefusedOnce$Chances", "land", "LRefusedOnce$Land;", true)
  | 1 => ("RefusedOnce$Chances", "law", "LRefusedOnce$Law;", true)
  | 2 => ("RefusedOnce$Chances", "purses", "LRefusedOnce$Purses;", true)
  | 3 => ("RefusedOnce$Chances", "weights", "[J", true)
  | 4 => ("RefusedOnce$Chances", "open", "[J", true)
  | 5 => ("RefusedOnce$Chances", "above", "J", false)
  | 6 => ("RefusedOnce$Chances", "below", "J", false)
  | 7 => ("RefusedOnce$Chances", "pairs", "I", false)
  | _ => ("RefusedOnce$Chances", "taking", "I", false)
def ro_ty1 : Nat → FieldType := fun k => match k with
  | 0 => (.object "RefusedOnce$Land")
  | 1 => (.object "RefusedOnce$Law")
  | 2 => (.object "RefusedOnce$Purses")
  | 3 => (.array .long)
  | 4 => (.array .long)
  | 5 => .long
  | 6 => .long
  | 7 => .int
  | _ => .int
theorem ro_nm1 : ∀ a, a < 9 → ∀ b, b < 9 → a ≠ b → (ro_T1 a).2.1 ≠ (ro_T1 b).2.1 := by decide +kernel
theorem ro_tk1 : ∀ k, k < 9 → parseFieldDescriptor (ro_T1 k).2.2.1 = some (ro_ty1 k) := by decide +kernel
def ro_T2 : u_T := fun k => match k with
  | 0 => ("RefusedOnce$Changes", "number", "[I", true)
  | 1 => ("RefusedOnce$Changes", "what", "[I", true)
  | 2 => ("RefusedOnce$Changes", "was", "[I", true)
  | 3 => ("RefusedOnce$Changes", "became", "[I", true)
  | 4 => ("RefusedOnce$Changes", "done", "I", false)
  | _ => ("RefusedOnce$Changes", "undone", "I", false)
def ro_ty2 : Nat → FieldType := fun k => match k with
  | 0 => (.array .int)
  | 1 => (.array .int)
  | 2 => (.array .int)
  | 3 => (.array .int)
  | 4 => .int
  | _ => .int
theorem ro_nm2 : ∀ a, a < 6 → ∀ b, b < 6 → a ≠ b → (ro_T2 a).2.1 ≠ (ro_T2 b).2.1 := by decide +kernel
theorem ro_tk2 : ∀ k, k < 6 → parseFieldDescriptor (ro_T2 k).2.2.1 = some (ro_ty2 k) := by decide +kernel
def ro_T3 : u_T := fun k => match k with
  | 0 => ("RefusedOnce$Evening", "land", "LRefusedOnce$Land;", true)
  | 1 => ("RefusedOnce$Evening", "law", "LRefusedOnce$Law;", true)
  | 2 => ("RefusedOnce$Evening", "purses", "LRefusedOnce$Purses;", true)
  | 3 => ("RefusedOnce$Evening", "by", "[I", true)
  | 4 => ("RefusedOnce$Evening", "to", "[I", true)
  | 5 => ("RefusedOnce$Evening", "kind", "[I", true)
  | 6 => ("RefusedOnce$Evening", "length", "I", false)
  | 7 => ("RefusedOnce$Evening", "refused", "I", false)
  | 8 => ("RefusedOnce$Evening", "firstNot", "I", false)
  | 9 => ("RefusedOnce$Evening", "who", "I", false)
  | _ => ("RefusedOnce$Evening", "drawnWhole", "I", false)
def ro_ty3 : Nat → FieldType := fun k => match k with
  | 0 => (.object "RefusedOnce$Land")
  | 1 => (.object "RefusedOnce$Law")
  | 2 => (.object "RefusedOnce$Purses")
  | 3 => (.array .int)
  | 4 => (.array .int)
  | 5 => (.array .int)
  | 6 => .int
  | 7 => .int
  | 8 => .int
  | 9 => .int
  | _ => .int
theorem ro_nm3 : ∀ a, a < 11 → ∀ b, b < 11 → a ≠ b → (ro_T3 a).2.1 ≠ (ro_T3 b).2.1 := by decide +kernel
theorem ro_tk3 : ∀ k, k < 11 → parseFieldDescriptor (ro_T3 k).2.2.1 = some (ro_ty3 k) := by decide +kernel
def ro_T4 : u_T := fun k => match k with
  | 0 => ("RefusedOnce$Land", "now", "LRefusedOnce$Purses;", true)
  | 1 => ("RefusedOnce$Land", "pride", "[I", true)
  | 2 => ("RefusedOnce$Land", "forged", "[I", true)
  | 3 => ("RefusedOnce$Land", "led", "[I", true)
  | 4 => ("RefusedOnce$Land", "people", "I", false)
  | 5 => ("RefusedOnce$Land", "notch", "I", false)
  | 6 => ("RefusedOnce$Land", "hour", "I", false)
  | 7 => ("RefusedOnce$Land", "habit", "I", false)
  | 8 => ("RefusedOnce$Land", "imageNow", "LRefusedOnce$Purses;", true)
  | 9 => ("RefusedOnce$Land", "imageLed", "[I", true)
  | 10 => ("RefusedOnce$Land", "hasImage", "Z", false)
  | 11 => ("RefusedOnce$Land", "imagePeople", "I", false)
  | _ => ("RefusedOnce$Land", "imageHour", "I", false)
def ro_ty4 : Nat → FieldType := fun k => match k with
  | 0 => (.object "RefusedOnce$Purses")
  | 1 => (.array .int)
  | 2 => (.array .int)
  | 3 => (.array .int)
  | 4 => .int
  | 5 => .int
  | 6 => .int
  | 7 => .int
  | 8 => (.object "RefusedOnce$Purses")
  | 9 => (.array .int)
  | 10 => .boolean
  | 11 => .int
  | _ => .int
theorem ro_nm4 : ∀ a, a < 13 → ∀ b, b < 13 → a ≠ b → (ro_T4 a).2.1 ≠ (ro_T4 b).2.1 := by decide +kernel
theorem ro_tk4 : ∀ k, k < 13 → parseFieldDescriptor (ro_T4 k).2.2.1 = some (ro_ty4 k) := by decide +kernel
def ro_T5 : u_T := fun k => match k with
  | 0 => ("RefusedOnce$Law", "tape", "[I", true)
  | 1 => ("RefusedOnce$Law", "draft", "[I", true)
  | 2 => ("RefusedOnce$Law", "code", "[I", true)
  | 3 => ("RefusedOnce$Law", "stack", "[I", true)
  | 4 => ("RefusedOnce$Law", "asked", "[I", true)
  | 5 => ("RefusedOnce$Law", "fed", "I", false)
  | 6 => ("RefusedOnce$Law", "at", "I", false)
  | 7 => ("RefusedOnce$Law", "drafted", "I", false)
  | 8 => ("RefusedOnce$Law", "codes", "I", false)
  | _ => ("RefusedOnce$Law", "stacked", "I", false)
def ro_ty5 : Nat → FieldType := fun k => match k with
  | 0 => (.array .int)
  | 1 => (.array .int)
  | 2 => (.array .int)
  | 3 => (.array .int)
  | 4 => (.array .int)
  | 5 => .int
  | 6 => .int
  | 7 => .int
  | 8 => .int
  | _ => .int
theorem ro_nm5 : ∀ a, a < 10 → ∀ b, b < 10 → a ≠ b → (ro_T5 a).2.1 ≠ (ro_T5 b).2.1 := by decide +kernel
theorem ro_tk5 : ∀ k, k < 10 → parseFieldDescriptor (ro_T5 k).2.2.1 = some (ro_ty5 k) := by decide +kernel
def ro_T6 : u_T := fun k => match k with
  | 0 => ("RefusedOnce$Level", "keys", "[J", true)
  | 1 => ("RefusedOnce$Level", "ways", "[I", true)
  | 2 => ("RefusedOnce$Level", "fewest", "[I", true)
  | 3 => ("RefusedOnce$Level", "always", "[I", true)
  | _ => ("RefusedOnce$Level", "size", "I", false)
def ro_ty6 : Nat → FieldType := fun k => match k with
  | 0 => (.array .long)
  | 1 => (.array .int)
  | 2 => (.array .int)
  | 3 => (.array .int)
  | _ => .int
theorem ro_nm6 : ∀ a, a < 5 → ∀ b, b < 5 → a ≠ b → (ro_T6 a).2.1 ≠ (ro_T6 b).2.1 := by decide +kernel
theorem ro_tk6 : ∀ k, k < 5 → parseFieldDescriptor (ro_T6 k).2.2.1 = some (ro_ty6 k) := by decide +kernel
def ro_T7 : u_T := fun k => match k with
  | 0 => ("RefusedOnce$Payings", "land", "LRefusedOnce$Land;", true)
  | 1 => ("RefusedOnce$Payings", "law", "LRefusedOnce$Law;", true)
  | 2 => ("RefusedOnce$Payings", "purses", "LRefusedOnce$Purses;", true)
  | 3 => ("RefusedOnce$Payings", "by", "[I", true)
  | 4 => ("RefusedOnce$Payings", "to", "[I", true)
  | 5 => ("RefusedOnce$Payings", "length", "I", false)
  | 6 => ("RefusedOnce$Payings", "best", "I", false)
  | 7 => ("RefusedOnce$Payings", "bestKinds", "I", false)
  | 8 => ("RefusedOnce$Payings", "isClean", "Z", false)
  | _ => ("RefusedOnce$Payings", "isFound", "Z", false)
def ro_ty7 : Nat → FieldType := fun k => match k with
  | 0 => (.object "RefusedOnce$Land")
  | 1 => (.object "RefusedOnce$Law")
  | 2 => (.object "RefusedOnce$Purses")
  | 3 => (.array .int)
  | 4 => (.array .int)
  | 5 => .int
  | 6 => .int
  | 7 => .int
  | 8 => .boolean
  | _ => .boolean
theorem ro_nm7 : ∀ a, a < 10 → ∀ b, b < 10 → a ≠ b → (ro_T7 a).2.1 ≠ (ro_T7 b).2.1 := by decide +kernel
theorem ro_tk7 : ∀ k, k < 10 → parseFieldDescriptor (ro_T7 k).2.2.1 = some (ro_ty7 k) := by decide +kernel
def ro_T8 : u_T := fun k => match k with
  | 0 => ("RefusedOnce$Purses", "whole", "[I", true)
  | _ => ("RefusedOnce$Purses", "cut", "[I", true)
def ro_ty8 : Nat → FieldType := fun k => match k with
  | 0 => (.array .int)
  | _ => (.array .int)
theorem ro_nm8 : ∀ a, a < 2 → ∀ b, b < 2 → a ≠ b → (ro_T8 a).2.1 ≠ (ro_T8 b).2.1 := by decide +kernel
theorem ro_tk8 : ∀ k, k < 2 → parseFieldDescriptor (ro_T8 k).2.2.1 = some (ro_ty8 k) := by decide +kernel
def ro_T9 : u_T := fun k => match k with
  | 0 => ("RefusedOnce$Shelf", "row", "[J", true)
  | 1 => ("RefusedOnce$Shelf", "sort", "I", false)
  | 2 => ("RefusedOnce$Shelf", "size", "I", false)
  | _ => ("RefusedOnce$Shelf", "kept", "I", false)
def ro_ty9 : Nat → FieldType := fun k => match k with
  | 0 => (.array .long)
  | 1 => .int
  | 2 => .int
  | _ => .int
theorem ro_nm9 : ∀ a, a < 4 → ∀ b, b < 4 → a ≠ b → (ro_T9 a).2.1 ≠ (ro_T9 b).2.1 := by decide +kernel
theorem ro_tk9 : ∀ k, k < 4 → parseFieldDescriptor (ro_T9 k).2.2.1 = some (ro_ty9 k) := by decide +kernel
def ro_T10 : u_T := fun k => match k with
  | 0 => ("RefusedOnce$Ways", "land", "LRefusedOnce$Land;", true)
  | 1 => ("RefusedOnce$Ways", "evening", "LRefusedOnce$Evening;", true)
  | 2 => ("RefusedOnce$Ways", "low", "[[I", true)
  | 3 => ("RefusedOnce$Ways", "high", "[[I", true)
  | 4 => ("RefusedOnce$Ways", "safeLow", "[[I", true)
  | 5 => ("RefusedOnce$Ways", "safeHigh", "[[I", true)
  | 6 => ("RefusedOnce$Ways", "heads", "[I", true)
  | 7 => ("RefusedOnce$Ways", "chained", "[I", true)
  | 8 => ("RefusedOnce$Ways", "from", "LRefusedOnce$Level;", false)
  | _ => ("RefusedOnce$Ways", "onto", "LRefusedOnce$Level;", false)
def ro_ty10 : Nat → FieldType := fun k => match k with
  | 0 => (.object "RefusedOnce$Land")
  | 1 => (.object "RefusedOnce$Evening")
  | 2 => (.array (.array .int))
  | 3 => (.array (.array .int))
  | 4 => (.array (.array .int))
  | 5 => (.array (.array .int))
  | 6 => (.array .int)
  | 7 => (.array .int)
  | 8 => (.object "RefusedOnce$Level")
  | _ => (.object "RefusedOnce$Level")
theorem ro_nm10 : ∀ a, a < 10 → ∀ b, b < 10 → a ≠ b → (ro_T10 a).2.1 ≠ (ro_T10 b).2.1 := by decide +kernel
theorem ro_tk10 : ∀ k, k < 10 → parseFieldDescriptor (ro_T10 k).2.2.1 = some (ro_ty10 k) := by decide +kernel
def ro_T11 : u_T := fun k => match k with
  | 0 => ("RefusedOnce", "land", "LRefusedOnce$Land;", true)
  | 1 => ("RefusedOnce", "theLaw", "LRefusedOnce$Law;", true)
  | 2 => ("RefusedOnce", "shelves", "[LRefusedOnce$Shelf;", true)
  | 3 => ("RefusedOnce", "thought", "LRefusedOnce$Evening;", true)
  | 4 => ("RefusedOnce", "payings", "LRefusedOnce$Payings;", true)
  | 5 => ("RefusedOnce", "chances", "LRefusedOnce$Chances;", true)
  | 6 => ("RefusedOnce", "changes", "LRefusedOnce$Changes;", true)
  | 7 => ("RefusedOnce", "bodies", "LRefusedOnce$Bodies;", true)
  | _ => ("RefusedOnce", "ways", "LRefusedOnce$Ways;", true)
def ro_ty11 : Nat → FieldType := fun k => match k with
  | 0 => (.object "RefusedOnce$Land")
  | 1 => (.object "RefusedOnce$Law")
  | 2 => (.array (.object "RefusedOnce$Shelf"))
  | 3 => (.object "RefusedOnce$Evening")
  | 4 => (.object "RefusedOnce$Payings")
  | 5 => (.object "RefusedOnce$Chances")
  | 6 => (.object "RefusedOnce$Changes")
  | 7 => (.object "RefusedOnce$Bodies")
  | _ => (.object "RefusedOnce$Ways")
theorem ro_nm11 : ∀ a, a < 9 → ∀ b, b < 9 → a ≠ b → (ro_T11 a).2.1 ≠ (ro_T11 b).2.1 := by decide +kernel
theorem ro_tk11 : ∀ k, k < 9 → parseFieldDescriptor (ro_T11 k).2.2.1 = some (ro_ty11 k) := by decide +kernel
def ro_T12 : u_T := fun k => match k with
  | 0 => ("RefusedOnceModel", "code", "I", false)
  | 1 => ("RefusedOnceModel", "people1", "I", false)
  | 2 => ("RefusedOnceModel", "whole", "[I", true)
  | 3 => ("RefusedOnceModel", "cut", "[I", true)
  | 4 => ("RefusedOnceModel", "pride", "[I", true)
  | 5 => ("RefusedOnceModel", "forged", "[I", true)
  | 6 => ("RefusedOnceModel", "told", "[I", true)
  | 7 => ("RefusedOnceModel", "doneMany", "I", false)
  | 8 => ("RefusedOnceModel", "undoneMany", "I", false)
  | 9 => ("RefusedOnceModel", "changeOf", "[I", true)
  | 10 => ("RefusedOnceModel", "changeAt", "[I", true)
  | 11 => ("RefusedOnceModel", "before", "[I", true)
  | 12 => ("RefusedOnceModel", "behind", "[I", true)
  | 13 => ("RefusedOnceModel", "tape", "[B", true)
  | 14 => ("RefusedOnceModel", "taped", "I", false)
  | 15 => ("RefusedOnceModel", "here", "I", false)
  | 16 => ("RefusedOnceModel", "fault", "I", false)
  | 17 => ("RefusedOnceModel", "open", "I", false)
  | 18 => ("RefusedOnceModel", "laid", "I", false)
  | 19 => ("RefusedOnceModel", "act", "[B", true)
  | 20 => ("RefusedOnceModel", "with", "[I", true)
  | 21 => ("RefusedOnceModel", "lineMany", "[I", true)
  | 22 => ("RefusedOnceModel", "testEnd", "[S", true)
  | 23 => ("RefusedOnceModel", "lineEnd", "[S", true)
  | 24 => ("RefusedOnceModel", "facts", "[I", true)
  | 25 => ("RefusedOnceModel", "pile", "[I", true)
  | 26 => ("RefusedOnceModel", "hasLaw", "Z", false)
  | 27 => ("RefusedOnceModel", "whole1", "[I", true)
  | 28 => ("RefusedOnceModel", "cut1", "[I", true)
  | 29 => ("RefusedOnceModel", "refused1", "I", false)
  | 30 => ("RefusedOnceModel", "firstNot", "I", false)
  | 31 => ("RefusedOnceModel", "whoRefused", "I", false)
  | 32 => ("RefusedOnceModel", "paid", "[J", true)
  | 33 => ("RefusedOnceModel", "stayAbove", "J", false)
  | 34 => ("RefusedOnceModel", "stayBelow", "J", false)
  | 35 => ("RefusedOnceModel", "eveningShelf", "I", false)
  | 36 => ("RefusedOnceModel", "toldShelf", "I", false)
  | 37 => ("RefusedOnceModel", "offers1", "I", false)
  | 38 => ("RefusedOnceModel", "waysMany", "I", false)
  | 39 => ("RefusedOnceModel", "fewest1", "I", false)
  | 40 => ("RefusedOnceModel", "fewestBits", "I", false)
  | 41 => ("RefusedOnceModel", "certain1", "I", false)
  | 42 => ("RefusedOnceModel", "ledOf", "[I", true)
  | 43 => ("RefusedOnceModel", "hasImage", "Z", false)
  | 44 => ("RefusedOnceModel", "keptMany", "I", false)
  | 45 => ("RefusedOnceModel", "keptHour", "I", false)
  | 46 => ("RefusedOnceModel", "keptWhole", "[I", true)
  | 47 => ("RefusedOnceModel", "keptCut", "[I", true)
  | 48 => ("RefusedOnceModel", "keptLed", "[I", true)
  | 49 => ("RefusedOnceModel", "bodies", "I", false)
  | 50 => ("RefusedOnceModel", "kind", "[I", true)
  | 51 => ("RefusedOnceModel", "traces", "I", false)
  | 52 => ("RefusedOnceModel", "traced", "[I", true)
  | 53 => ("RefusedOnceModel", "holds", "[I", true)
  | 54 => ("RefusedOnceModel", "size", "[I", true)
  | 55 => ("RefusedOnceModel", "elements", "[J", true)
  | _ => ("RefusedOnceModel", "shifted", "[J", true)
def ro_ty12 : Nat → FieldType := fun k => match k with
  | 0 => .int
  | 1 => .int
  | 2 => (.array .int)
  | 3 => (.array .int)
  | 4 => (.array .int)
  | 5 => (.array .int)
  | 6 => (.array .int)
  | 7 => .int
  | 8 => .int
  | 9 => (.array .int)
  | 10 => (.array .int)
  | 11 => (.array .int)
  | 12 => (.array .int)
  | 13 => (.array .byte)
  | 14 => .int
  | 15 => .int
  | 16 => .int
  | 17 => .int
  | 18 => .int
  | 19 => (.array .byte)
  | 20 => (.array .int)
  | 21 => (.array .int)
  | 22 => (.array .short)
  | 23 => (.array .short)
  | 24 => (.array .int)
  | 25 => (.array .int)
  | 26 => .boolean
  | 27 => (.array .int)
  | 28 => (.array .int)
  | 29 => .int
  | 30 => .int
  | 31 => .int
  | 32 => (.array .long)
  | 33 => .long
  | 34 => .long
  | 35 => .int
  | 36 => .int
  | 37 => .int
  | 38 => .int
  | 39 => .int
  | 40 => .int
  | 41 => .int
  | 42 => (.array .int)
  | 43 => .boolean
  | 44 => .int
  | 45 => .int
  | 46 => (.array .int)
  | 47 => (.array .int)
  | 48 => (.array .int)
  | 49 => .int
  | 50 => (.array .int)
  | 51 => .int
  | 52 => (.array .int)
  | 53 => (.array .int)
  | 54 => (.array .int)
  | 55 => (.array .long)
  | _ => (.array .long)
theorem ro_nm12 : ∀ a, a < 57 → ∀ b, b < 57 → a ≠ b → (ro_T12 a).2.1 ≠ (ro_T12 b).2.1 := by decide +kernel
theorem ro_tk12 : ∀ k, k < 57 → parseFieldDescriptor (ro_T12 k).2.2.1 = some (ro_ty12 k) := by decide +kernel
def ro_ty : Nat → Nat → FieldType := fun c => match c with
  | 0 => ro_ty0
  | 1 => ro_ty1
  | 2 => ro_ty2
  | 3 => ro_ty3
  | 4 => ro_ty4
  | 5 => ro_ty5
  | 6 => ro_ty6
  | 7 => ro_ty7
  | 8 => ro_ty8
  | 9 => ro_ty9
  | 10 => ro_ty10
  | 11 => ro_ty11
  | _ => ro_ty12
abbrev ro_cl : List vw_C := [("RefusedOnce$Bodies", ro_T0, 6), ("RefusedOnce$Chances", ro_T1, 9), ("RefusedOnce$Changes", ro_T2, 6), ("RefusedOnce$Evening", ro_T3, 11), ("RefusedOnce$Land", ro_T4, 13), ("RefusedOnce$Law", ro_T5, 10), ("RefusedOnce$Level", ro_T6, 5), ("RefusedOnce$Payings", ro_T7, 10), ("RefusedOnce$Purses", ro_T8, 2), ("RefusedOnce$Shelf", ro_T9, 4), ("RefusedOnce$Ways", ro_T10, 10), ("RefusedOnce", ro_T11, 9), ("RefusedOnceModel", ro_T12, 57)]
abbrev ro_Me : Type := MethodName × ByteArray × Nat × Option FieldType × Nat × Nat × Bool
def ro_M_0 : List ro_Me := [
  (⟨"RefusedOnce", "<init>", "()V"⟩, prog_1_method_1_code, 2, none, 11, 0, false),
  (⟨"RefusedOnce$Land", "<init>", "()V"⟩, prog_6_method_1_code, 1, none, 4, 0, false),
  (⟨"RefusedOnce$Purses", "<init>", "()V"⟩, prog_10_method_1_code, 1, none, 8, 0, false),
  (⟨"RefusedOnce$Law", "<init>", "()V"⟩, prog_7_method_1_code, 1, none, 5, 0, false),
  (⟨"RefusedOnce$Shelf", "<init>", "()V"⟩, prog_11_method_1_code, 1, none, 9, 0, false),
  (⟨"RefusedOnce$Evening", "<init>", "(LRefusedOnce$Land;LRefusedOnce$Law;)V"⟩, prog_5_method_1_code, 3, none, 3, 2, false),
  (⟨"RefusedOnce$Payings", "<init>", "(LRefusedOnce$Land;LRefusedOnce$Law;)V"⟩, prog_9_method_1_code, 3, none, 7, 2, false),
  (⟨"RefusedOnce$Chances", "<init>", "(LRefusedOnce$Land;LRefusedOnce$Law;)V"⟩, prog_3_method_1_code, 3, none, 1, 2, false),
  (⟨"RefusedOnce$Changes", "<init>", "()V"⟩, prog_4_method_1_code, 1, none, 2, 0, false),
  (⟨"RefusedOnce$Bodies", "<init>", "()V"⟩, prog_2_method_1_code, 1, none, 0, 0, false),
  (⟨"RefusedOnce$Ways", "<init>", "(LRefusedOnce$Land;LRefusedOnce$Evening;)V"⟩, prog_12_method_1_code, 3, none, 10, 2, false),
  (⟨"RefusedOnce$Level", "<init>", "()V"⟩, prog_8_method_1_code, 1, none, 6, 0, false),
  (⟨"RefusedOnce", "person", "(I)I"⟩, prog_1_method_2_code, 2, (some .int), 11, 1, false),
  (⟨"RefusedOnce", "within", "(III)Z"⟩, prog_1_method_44_code, 3, (some .boolean), 11, 3, true),
  (⟨"RefusedOnce$Land", "comes", "(III)Z"⟩, prog_6_method_7_code, 5, (some .boolean), 4, 3, false),
  (⟨"RefusedOnce$Land", "allows", "(II)Z"⟩, prog_6_method_6_code, 2, (some .boolean), 4, 2, true),
  (⟨"RefusedOnce$Purses", "setWhole", "(II)V"⟩, prog_10_method_4_code, 3, none, 8, 2, false),
  (⟨"RefusedOnce$Purses", "setCut", "(II)V"⟩, prog_10_method_5_code, 3, none, 8, 2, false),
  (⟨"RefusedOnce$Land", "howMany", "()I"⟩, prog_6_method_2_code, 1, (some .int), 4, 0, false),
  (⟨"RefusedOnce", "people", "(III)I"⟩, prog_1_method_3_code, 5, (some .int), 11, 3, false),
  (⟨"RefusedOnce", "shelfAt", "(I)LRefusedOnce$Shelf;"⟩, prog_1_method_47_code, 2, (some (.object "RefusedOnce$Shelf")), 11, 1, false),
  (⟨"RefusedOnce$Shelf", "isEmpty", "()Z"⟩, prog_11_method_2_code, 1, (some .boolean), 9, 0, false),
  (⟨"RefusedOnce$Shelf", "holdsBytes", "()Z"⟩, prog_11_method_4_code, 1, (some .boolean), 9, 0, false),
  (⟨"RefusedOnce", "comeFrom", "(LRefusedOnce$Shelf;II)I"⟩, prog_1_method_4_code, 6, (some .int), 11, 3, false),
  (⟨"RefusedOnce$Shelf", "length", "()I"⟩, prog_11_method_10_code, 1, (some .int), 9, 0, false),
  (⟨"RefusedOnce$Shelf", "byteAt", "(I)I"⟩, prog_11_method_12_code, 2, (some .int), 9, 1, false),
  (⟨"RefusedOnce$Shelf", "longAt", "(I)J"⟩, prog_11_method_11_code, 2, (some .long), 9, 1, false),
  (⟨"RefusedOnce", "mend", "(III)I"⟩, prog_1_method_5_code, 5, (some .int), 11, 3, false),
  (⟨"RefusedOnce$Land", "has", "(II)Z"⟩, prog_6_method_5_code, 3, (some .boolean), 4, 2, false),
  (⟨"RefusedOnce$Land", "isPerson", "(I)Z"⟩, prog_6_method_3_code, 2, (some .boolean), 4, 1, false),
  (⟨"RefusedOnce$Land", "told", "(II)I"⟩, prog_6_method_8_code, 3, (some .int), 4, 2, false),
  (⟨"RefusedOnce$Purses", "wholeOf", "(I)I"⟩, prog_10_method_2_code, 2, (some .int), 8, 1, false),
  (⟨"RefusedOnce$Purses", "cutOf", "(I)I"⟩, prog_10_method_3_code, 2, (some .int), 8, 1, false),
  (⟨"RefusedOnce$Land", "tell", "(III)V"⟩, prog_6_method_9_code, 4, none, 4, 3, false),
  (⟨"RefusedOnce$Changes", "note", "(IIII)V"⟩, prog_4_method_2_code, 5, none, 2, 4, false),
  (⟨"RefusedOnce$Changes", "forgetOldest", "()V"⟩, prog_4_method_3_code, 1, none, 2, 0, false),
  (⟨"RefusedOnce", "of", "(II)I"⟩, prog_1_method_6_code, 3, (some .int), 11, 2, false),
  (⟨"RefusedOnce$Land", "farthings", "(LRefusedOnce$Purses;I)I"⟩, prog_6_method_11_code, 3, (some .int), 4, 2, false),
  (⟨"RefusedOnce$Land", "farthingsBy", "(LRefusedOnce$Purses;II)I"⟩, prog_6_method_12_code, 3, (some .int), 4, 3, true),
  (⟨"RefusedOnce$Land", "forgedThatCount", "(I)I"⟩, prog_6_method_10_code, 2, (some .int), 4, 1, false)]
def ro_M_1 : List ro_Me := [
  (⟨"RefusedOnce", "feed", "(I)I"⟩, prog_1_method_7_code, 2, (some .int), 11, 1, false),
  (⟨"RefusedOnce$Law", "takesByte", "(I)Z"⟩, prog_7_method_3_code, 2, (some .boolean), 5, 1, false),
  (⟨"RefusedOnce$Law", "fedBytes", "()I"⟩, prog_7_method_2_code, 1, (some .int), 5, 0, false),
  (⟨"RefusedOnce", "law", "()I"⟩, prog_1_method_8_code, 2, (some .int), 11, 0, false),
  (⟨"RefusedOnce$Law", "read", "()I"⟩, prog_7_method_4_code, 3, (some .int), 5, 0, false),
  (⟨"RefusedOnce$Law", "lines", "()Z"⟩, prog_7_method_7_code, 3, (some .boolean), 5, 0, false),
  (⟨"RefusedOnce$Law", "joined", "(II)Z"⟩, prog_7_method_8_code, 5, (some .boolean), 5, 2, false),
  (⟨"RefusedOnce$Law", "operand", "(I)Z"⟩, prog_7_method_10_code, 3, (some .boolean), 5, 1, false),
  (⟨"RefusedOnce$Law", "next", "()I"⟩, prog_7_method_5_code, 1, (some .int), 5, 0, false),
  (⟨"RefusedOnce$Law", "isDigit", "(I)Z"⟩, prog_7_method_13_code, 1, (some .boolean), 5, 1, true),
  (⟨"RefusedOnce$Law", "number", "()V"⟩, prog_7_method_12_code, 3, none, 5, 0, false),
  (⟨"RefusedOnce$Law", "write", "(I)V"⟩, prog_7_method_6_code, 2, none, 5, 1, false),
  (⟨"RefusedOnce$Law", "nameOf", "(I)I"⟩, prog_7_method_14_code, 1, (some .int), 5, 1, true),
  (⟨"RefusedOnce$Law", "inner", "(I)Z"⟩, prog_7_method_11_code, 2, (some .boolean), 5, 1, false),
  (⟨"RefusedOnce$Law", "joins", "(II)Z"⟩, prog_7_method_9_code, 2, (some .boolean), 5, 2, true),
  (⟨"RefusedOnce", "odds", "(I)I"⟩, prog_1_method_9_code, 2, (some .int), 11, 1, false),
  (⟨"RefusedOnce", "areTwo", "(I)Z"⟩, prog_1_method_46_code, 2, (some .boolean), 11, 1, false),
  (⟨"RefusedOnce$Land", "areTwo", "(II)Z"⟩, prog_6_method_4_code, 3, (some .boolean), 4, 2, false),
  (⟨"RefusedOnce$Law", "twelfths", "(LRefusedOnce$Land;LRefusedOnce$Purses;II)I"⟩, prog_7_method_15_code, 8, (some .int), 5, 4, false),
  (⟨"RefusedOnce$Law", "held", "(I)I"⟩, prog_7_method_16_code, 1, (some .int), 5, 1, true),
  (⟨"RefusedOnce$Law", "worked", "()I"⟩, prog_7_method_17_code, 5, (some .int), 5, 0, false),
  (⟨"RefusedOnce$Law", "pop", "()I"⟩, prog_7_method_20_code, 1, (some .int), 5, 0, false),
  (⟨"RefusedOnce$Law", "push", "(I)V"⟩, prog_7_method_19_code, 2, none, 5, 1, false),
  (⟨"RefusedOnce$Law", "both", "(III)I"⟩, prog_7_method_18_code, 3, (some .int), 5, 3, true),
  (⟨"RefusedOnce", "later", "(IIII)I"⟩, prog_1_method_10_code, 6, (some .int), 11, 4, false),
  (⟨"RefusedOnce$Shelf", "refusal", "()I"⟩, prog_11_method_6_code, 1, (some .int), 9, 0, false),
  (⟨"RefusedOnce$Evening", "read", "(LRefusedOnce$Shelf;)V"⟩, prog_5_method_2_code, 3, none, 3, 1, false),
  (⟨"RefusedOnce$Evening", "play", "(I)V"⟩, prog_5_method_7_code, 3, none, 3, 1, false),
  (⟨"RefusedOnce$Purses", "copyFirst", "(LRefusedOnce$Purses;I)V"⟩, prog_10_method_6_code, 4, none, 8, 2, false),
  (⟨"RefusedOnce$Evening", "byAt", "(I)I"⟩, prog_5_method_4_code, 2, (some .int), 3, 1, false),
  (⟨"RefusedOnce$Evening", "toAt", "(I)I"⟩, prog_5_method_5_code, 2, (some .int), 3, 1, false),
  (⟨"RefusedOnce$Evening", "isWholeAt", "(I)Z"⟩, prog_5_method_6_code, 2, (some .boolean), 3, 1, false),
  (⟨"RefusedOnce$Evening", "isOffered", "(IIZ)Z"⟩, prog_5_method_8_code, 5, (some .boolean), 3, 3, false),
  (⟨"RefusedOnce$Purses", "mayOfferCut", "(II)Z"⟩, prog_10_method_8_code, 3, (some .boolean), 8, 2, false),
  (⟨"RefusedOnce$Purses", "giveCut", "(II)V"⟩, prog_10_method_10_code, 3, none, 8, 2, false),
  (⟨"RefusedOnce$Purses", "mayOfferWhole", "(II)Z"⟩, prog_10_method_7_code, 3, (some .boolean), 8, 2, false),
  (⟨"RefusedOnce$Evening", "answer", "(IIZ)V"⟩, prog_5_method_9_code, 4, none, 3, 3, false),
  (⟨"RefusedOnce$Purses", "refuse", "(I)V"⟩, prog_10_method_11_code, 2, none, 8, 1, false),
  (⟨"RefusedOnce$Purses", "giveWhole", "(II)V"⟩, prog_10_method_9_code, 3, none, 8, 2, false),
  (⟨"RefusedOnce", "evening", "(III)I"⟩, prog_1_method_11_code, 5, (some .int), 11, 3, false)]
def ro_M_2 : List ro_Me := [
  (⟨"RefusedOnce$Evening", "refusals", "()I"⟩, prog_5_method_10_code, 1, (some .int), 3, 0, false),
  (⟨"RefusedOnce$Evening", "firstThatCannotBe", "()I"⟩, prog_5_method_11_code, 1, (some .int), 3, 0, false),
  (⟨"RefusedOnce$Evening", "whoRefused", "()I"⟩, prog_5_method_12_code, 1, (some .int), 3, 0, false),
  (⟨"RefusedOnce", "round", "(II)I"⟩, prog_1_method_12_code, 4, (some .int), 11, 2, false),
  (⟨"RefusedOnce$Payings", "read", "(LRefusedOnce$Shelf;)V"⟩, prog_9_method_2_code, 4, none, 7, 1, false),
  (⟨"RefusedOnce$Payings", "length", "()I"⟩, prog_9_method_3_code, 1, (some .int), 7, 0, false),
  (⟨"RefusedOnce$Payings", "find", "(Z)Z"⟩, prog_9_method_4_code, 2, (some .boolean), 7, 1, false),
  (⟨"RefusedOnce$Payings", "search", "(III)V"⟩, prog_9_method_7_code, 6, none, 7, 3, false),
  (⟨"RefusedOnce$Payings", "weigh", "(II)V"⟩, prog_9_method_9_code, 5, none, 7, 2, false),
  (⟨"RefusedOnce$Payings", "searchWhole", "(III)V"⟩, prog_9_method_8_code, 6, none, 7, 3, false),
  (⟨"RefusedOnce$Purses", "takeBackRefusal", "(I)V"⟩, prog_10_method_12_code, 2, none, 8, 1, false),
  (⟨"RefusedOnce$Payings", "found", "()I"⟩, prog_9_method_5_code, 1, (some .int), 7, 0, false),
  (⟨"RefusedOnce$Payings", "kindAt", "(I)I"⟩, prog_9_method_6_code, 2, (some .int), 7, 1, false),
  (⟨"RefusedOnce", "cleanest", "(I)I"⟩, prog_1_method_13_code, 3, (some .int), 11, 1, false),
  (⟨"RefusedOnce", "pay", "(IIII)J"⟩, prog_1_method_14_code, 5, (some .long), 11, 4, false),
  (⟨"RefusedOnce", "isPart", "(I)Z"⟩, prog_1_method_45_code, 1, (some .boolean), 11, 1, true),
  (⟨"RefusedOnce$Chances", "justSoMany", "(IIII)V"⟩, prog_3_method_5_code, 5, none, 1, 4, false),
  (⟨"RefusedOnce$Chances", "weighPayings", "(III)V"⟩, prog_3_method_8_code, 6, none, 1, 3, false),
  (⟨"RefusedOnce$Chances", "offerNext", "(IIIII)V"⟩, prog_3_method_9_code, 7, none, 1, 5, false),
  (⟨"RefusedOnce$Chances", "twelveBy", "(I)J"⟩, prog_3_method_7_code, 4, (some .long), 1, 1, true),
  (⟨"RefusedOnce$Chances", "set", "(JJ)V"⟩, prog_3_method_3_code, 7, none, 1, 2, false),
  (⟨"RefusedOnce$Chances", "sharedBy", "(JJ)J"⟩, prog_3_method_4_code, 7, (some .long), 1, 2, true),
  (⟨"RefusedOnce$Chances", "part", "(I)J"⟩, prog_3_method_2_code, 2, (some .long), 1, 1, false),
  (⟨"RefusedOnce", "mean", "(III)J"⟩, prog_1_method_15_code, 4, (some .long), 11, 3, false),
  (⟨"RefusedOnce$Chances", "meanRefused", "(III)V"⟩, prog_3_method_6_code, 7, none, 1, 3, false),
  (⟨"RefusedOnce", "stays", "(II)J"⟩, prog_1_method_16_code, 3, (some .long), 11, 2, false),
  (⟨"RefusedOnce$Chances", "allStayWhole", "(I)V"⟩, prog_3_method_10_code, 4, none, 1, 1, false),
  (⟨"RefusedOnce$Chances", "tally", "()V"⟩, prog_3_method_11_code, 4, none, 1, 0, false),
  (⟨"RefusedOnce$Chances", "takenTwice", "()J"⟩, prog_3_method_12_code, 8, (some .long), 1, 0, false),
  (⟨"RefusedOnce", "hands", "(II)I"⟩, prog_1_method_17_code, 10, (some .int), 11, 2, false),
  (⟨"RefusedOnce", "handsOn", "(LRefusedOnce$Shelf;)I"⟩, prog_1_method_18_code, 3, (some .int), 11, 1, false),
  (⟨"RefusedOnce", "test", "(III)J"⟩, prog_1_method_19_code, 4, (some .long), 11, 3, false),
  (⟨"RefusedOnce$Chances", "forgedFound", "(III)V"⟩, prog_3_method_13_code, 10, none, 1, 3, false),
  (⟨"RefusedOnce$Chances", "choices", "(II)J"⟩, prog_3_method_14_code, 5, (some .long), 1, 2, true),
  (⟨"RefusedOnce", "enough", "(II)I"⟩, prog_1_method_20_code, 5, (some .int), 11, 2, false),
  (⟨"RefusedOnce", "honest", "(III)J"⟩, prog_1_method_21_code, 5, (some .long), 11, 3, false),
  (⟨"RefusedOnce", "dowry", "(II)I"⟩, prog_1_method_22_code, 7, (some .int), 11, 2, false),
  (⟨"RefusedOnce", "richest", "(I)I"⟩, prog_1_method_23_code, 4, (some .int), 11, 1, false),
  (⟨"RefusedOnce$Land", "richestBy", "(I)I"⟩, prog_6_method_13_code, 4, (some .int), 4, 1, false),
  (⟨"RefusedOnce", "behind", "(III)I"⟩, prog_1_method_24_code, 6, (some .int), 11, 3, false)]
def ro_M_3 : List ro_Me := [
  (⟨"RefusedOnce$Ways", "find", "(LRefusedOnce$Shelf;)V"⟩, prog_12_method_6_code, 5, none, 10, 1, false),
  (⟨"RefusedOnce$Evening", "length", "()I"⟩, prog_5_method_3_code, 1, (some .int), 3, 0, false),
  (⟨"RefusedOnce$Ways", "endAt", "(ILRefusedOnce$Shelf;)Z"⟩, prog_12_method_9_code, 9, (some .boolean), 10, 2, false),
  (⟨"RefusedOnce$Ways", "allow", "(IIII)V"⟩, prog_12_method_10_code, 5, none, 10, 4, false),
  (⟨"RefusedOnce$Ways", "comeBackOver", "(I)V"⟩, prog_12_method_11_code, 4, none, 10, 1, false),
  (⟨"RefusedOnce$Ways", "moveBoth", "(IIII)V"⟩, prog_12_method_12_code, 5, none, 10, 4, false),
  (⟨"RefusedOnce$Ways", "bound", "([I[IIIII)V"⟩, prog_12_method_14_code, 8, none, 10, 6, true),
  (⟨"RefusedOnce$Ways", "widen", "(II)V"⟩, prog_12_method_13_code, 3, none, 10, 2, false),
  (⟨"RefusedOnce$Ways", "clear", "()V"⟩, prog_12_method_8_code, 2, none, 10, 0, false),
  (⟨"RefusedOnce$Ways", "startKey", "()J"⟩, prog_12_method_15_code, 5, (some .long), 10, 0, false),
  (⟨"RefusedOnce$Ways", "settle", "(IJII)J"⟩, prog_12_method_16_code, 10, (some .long), 10, 4, false),
  (⟨"RefusedOnce$Ways", "reach", "(JIII)V"⟩, prog_12_method_19_code, 9, none, 10, 4, false),
  (⟨"RefusedOnce$Ways", "headOf", "(J)I"⟩, prog_12_method_20_code, 4, (some .int), 10, 1, true),
  (⟨"RefusedOnce$Ways", "turn", "()V"⟩, prog_12_method_7_code, 2, none, 10, 0, false),
  (⟨"RefusedOnce$Ways", "goOn", "(II)V"⟩, prog_12_method_18_code, 15, none, 10, 2, false),
  (⟨"RefusedOnce$Ways", "moved", "(IJII)J"⟩, prog_12_method_17_code, 7, (some .long), 10, 4, false),
  (⟨"RefusedOnce$Ways", "howMany", "()I"⟩, prog_12_method_2_code, 1, (some .int), 10, 0, false),
  (⟨"RefusedOnce$Ways", "certain", "()I"⟩, prog_12_method_5_code, 1, (some .int), 10, 0, false),
  (⟨"RefusedOnce$Ways", "fewest", "()I"⟩, prog_12_method_3_code, 1, (some .int), 10, 0, false),
  (⟨"RefusedOnce$Ways", "fewestBits", "()I"⟩, prog_12_method_4_code, 1, (some .int), 10, 0, false),
  (⟨"RefusedOnce", "drawn", "(III)I"⟩, prog_1_method_25_code, 5, (some .int), 11, 3, false),
  (⟨"RefusedOnce$Evening", "draw", "(III)V"⟩, prog_5_method_13_code, 8, none, 3, 3, false),
  (⟨"RefusedOnce$Evening", "drawOne", "(II)V"⟩, prog_5_method_14_code, 5, none, 3, 2, false),
  (⟨"RefusedOnce$Evening", "drawnWhole", "()I"⟩, prog_5_method_15_code, 1, (some .int), 3, 0, false),
  (⟨"RefusedOnce", "offer", "(II)I"⟩, prog_1_method_26_code, 6, (some .int), 11, 2, false),
  (⟨"RefusedOnce$Land", "leads", "(I)V"⟩, prog_6_method_15_code, 2, none, 4, 1, false),
  (⟨"RefusedOnce", "mint", "(I)I"⟩, prog_1_method_27_code, 4, (some .int), 11, 1, false),
  (⟨"RefusedOnce", "hour", "()I"⟩, prog_1_method_28_code, 2, (some .int), 11, 0, false),
  (⟨"RefusedOnce", "led", "(I)I"⟩, prog_1_method_29_code, 2, (some .int), 11, 1, false),
  (⟨"RefusedOnce$Land", "counted", "(I)I"⟩, prog_6_method_16_code, 2, (some .int), 4, 1, false),
  (⟨"RefusedOnce", "image", "()I"⟩, prog_1_method_30_code, 1, (some .int), 11, 0, false),
  (⟨"RefusedOnce$Land", "keepImage", "()V"⟩, prog_6_method_17_code, 1, none, 4, 0, false),
  (⟨"RefusedOnce", "back", "()I"⟩, prog_1_method_31_code, 1, (some .int), 11, 0, false),
  (⟨"RefusedOnce$Land", "layBack", "()Z"⟩, prog_6_method_18_code, 1, (some .boolean), 4, 0, false),
  (⟨"RefusedOnce", "undo", "()I"⟩, prog_1_method_32_code, 1, (some .int), 11, 0, false),
  (⟨"RefusedOnce$Changes", "undoOn", "(LRefusedOnce$Land;)Z"⟩, prog_4_method_4_code, 3, (some .boolean), 2, 1, false),
  (⟨"RefusedOnce$Changes", "mayBeUndone", "()I"⟩, prog_4_method_6_code, 1, (some .int), 2, 0, false),
  (⟨"RefusedOnce", "redo", "()I"⟩, prog_1_method_33_code, 1, (some .int), 11, 0, false),
  (⟨"RefusedOnce$Changes", "redoOn", "(LRefusedOnce$Land;)Z"⟩, prog_4_method_5_code, 2, (some .boolean), 2, 1, false),
  (⟨"RefusedOnce$Changes", "mayBeRedone", "()I"⟩, prog_4_method_7_code, 1, (some .int), 2, 0, false)]
def ro_M_4 : List ro_Me := [
  (⟨"RefusedOnce", "body", "(I)I"⟩, prog_1_method_34_code, 2, (some .int), 11, 1, false),
  (⟨"RefusedOnce$Bodies", "isKind", "(I)Z"⟩, prog_2_method_2_code, 1, (some .boolean), 0, 1, true),
  (⟨"RefusedOnce$Bodies", "comes", "(I)Z"⟩, prog_2_method_7_code, 2, (some .boolean), 0, 1, false),
  (⟨"RefusedOnce$Bodies", "howMany", "()I"⟩, prog_2_method_4_code, 1, (some .int), 0, 0, false),
  (⟨"RefusedOnce", "act", "(III)I"⟩, prog_1_method_35_code, 4, (some .int), 11, 3, false),
  (⟨"RefusedOnce$Bodies", "acts", "(III)I"⟩, prog_2_method_9_code, 4, (some .int), 0, 3, false),
  (⟨"RefusedOnce$Bodies", "kindOf", "(I)I"⟩, prog_2_method_6_code, 2, (some .int), 0, 1, false),
  (⟨"RefusedOnce$Bodies", "from", "(IIII)I"⟩, prog_2_method_13_code, 7, (some .int), 0, 4, false),
  (⟨"RefusedOnce$Bodies", "ownBody", "(II)I"⟩, prog_2_method_11_code, 3, (some .int), 0, 2, true),
  (⟨"RefusedOnce$Bodies", "kindAbove", "(I)I"⟩, prog_2_method_12_code, 1, (some .int), 0, 1, true),
  (⟨"RefusedOnce$Bodies", "begins", "(I)V"⟩, prog_2_method_10_code, 2, none, 0, 1, false),
  (⟨"RefusedOnce$Bodies", "runTop", "(III)I"⟩, prog_2_method_14_code, 4, (some .int), 0, 3, false),
  (⟨"RefusedOnce$Bodies", "runOver", "(IIII)I"⟩, prog_2_method_15_code, 5, (some .int), 0, 4, false),
  (⟨"RefusedOnce", "trace", "(I)I"⟩, prog_1_method_36_code, 2, (some .int), 11, 1, false),
  (⟨"RefusedOnce$Bodies", "traced", "(I)I"⟩, prog_2_method_8_code, 2, (some .int), 0, 1, false),
  (⟨"RefusedOnce", "keep", "(II)I"⟩, prog_1_method_37_code, 4, (some .int), 11, 2, false),
  (⟨"RefusedOnce$Shelf", "keepBody", "(I)V"⟩, prog_11_method_7_code, 2, none, 9, 1, false),
  (⟨"RefusedOnce", "row", "(III)I"⟩, prog_1_method_38_code, 5, (some .int), 11, 3, false),
  (⟨"RefusedOnce$Shelf", "becomeRow", "(II)V"⟩, prog_11_method_9_code, 4, none, 9, 2, false),
  (⟨"RefusedOnce", "put", "(IIJ)I"⟩, prog_1_method_39_code, 6, (some .int), 11, 3, false),
  (⟨"RefusedOnce$Shelf", "holdsRow", "()Z"⟩, prog_11_method_3_code, 1, (some .boolean), 9, 0, false),
  (⟨"RefusedOnce$Shelf", "putIn", "(IJ)Z"⟩, prog_11_method_13_code, 4, (some .boolean), 9, 2, false),
  (⟨"RefusedOnce$Shelf", "lowest", "(J)J"⟩, prog_11_method_14_code, 3, (some .long), 9, 1, false),
  (⟨"RefusedOnce", "element", "(II)J"⟩, prog_1_method_40_code, 5, (some .long), 11, 2, false),
  (⟨"RefusedOnce", "shift", "(IIIII)I"⟩, prog_1_method_41_code, 8, (some .int), 11, 5, false),
  (⟨"RefusedOnce$Shelf", "isLike", "(LRefusedOnce$Shelf;)Z"⟩, prog_11_method_5_code, 2, (some .boolean), 9, 1, false),
  (⟨"RefusedOnce$Shelf", "moveTo", "(ILRefusedOnce$Shelf;II)Z"⟩, prog_11_method_15_code, 5, (some .boolean), 9, 4, false),
  (⟨"RefusedOnce", "taken", "(II)I"⟩, prog_1_method_42_code, 5, (some .int), 11, 2, false),
  (⟨"RefusedOnce$Shelf", "bodyKept", "()I"⟩, prog_11_method_8_code, 1, (some .int), 9, 0, false),
  (⟨"RefusedOnce$Bodies", "isUnder", "(II)Z"⟩, prog_2_method_3_code, 4, (some .boolean), 0, 2, true),
  (⟨"RefusedOnce", "count", "(I)I"⟩, prog_1_method_43_code, 2, (some .int), 11, 1, false),
  (⟨"RefusedOnce$Land", "allOf", "(I)I"⟩, prog_6_method_14_code, 4, (some .int), 4, 1, false),
  (⟨"RefusedOnce$Bodies", "ranLately", "()I"⟩, prog_2_method_5_code, 1, (some .int), 0, 0, false),
  (⟨"RefusedOnceModel", "<init>", "()V"⟩, prog_14_method_1_code, 1, none, 12, 0, false),
  (⟨"RefusedOnceModel", "person", "(I)I"⟩, prog_14_method_7_code, 2, (some .int), 12, 1, false),
  (⟨"RefusedOnceModel", "in", "(III)Z"⟩, prog_14_method_3_code, 3, (some .boolean), 12, 3, true),
  (⟨"RefusedOnceModel", "addOne", "(III)I"⟩, prog_14_method_6_code, 4, (some .int), 12, 3, false),
  (⟨"RefusedOnceModel", "people", "(III)I"⟩, prog_14_method_8_code, 8, (some .int), 12, 3, false),
  (⟨"RefusedOnceModel", "isShelf", "(I)Z"⟩, prog_14_method_108_code, 1, (some .boolean), 12, 1, true),
  (⟨"RefusedOnceModel", "undo", "()I"⟩, prog_14_method_12_code, 1, (some .int), 12, 0, false)]
def ro_M_5 : List ro_Me := [
  (⟨"RefusedOnceModel", "lays", "(III)V"⟩, prog_14_method_10_code, 4, none, 12, 3, false),
  (⟨"RefusedOnceModel", "redo", "()I"⟩, prog_14_method_13_code, 1, (some .int), 12, 0, false),
  (⟨"RefusedOnceModel", "mend", "(III)I"⟩, prog_14_method_16_code, 4, (some .int), 12, 3, false),
  (⟨"RefusedOnceModel", "isPlace", "(II)Z"⟩, prog_14_method_14_code, 3, (some .boolean), 12, 2, false),
  (⟨"RefusedOnceModel", "isOne", "(I)Z"⟩, prog_14_method_4_code, 2, (some .boolean), 12, 1, false),
  (⟨"RefusedOnceModel", "mayHave", "(II)Z"⟩, prog_14_method_15_code, 2, (some .boolean), 12, 2, true),
  (⟨"RefusedOnceModel", "changes", "(III)I"⟩, prog_14_method_11_code, 6, (some .int), 12, 3, false),
  (⟨"RefusedOnceModel", "valueAt", "(II)I"⟩, prog_14_method_9_code, 3, (some .int), 12, 2, false),
  (⟨"RefusedOnceModel", "of", "(II)I"⟩, prog_14_method_18_code, 3, (some .int), 12, 2, false),
  (⟨"RefusedOnceModel", "forgedOf", "(I)I"⟩, prog_14_method_17_code, 2, (some .int), 12, 1, false),
  (⟨"RefusedOnceModel", "feed", "(I)I"⟩, prog_14_method_19_code, 2, (some .int), 12, 1, false),
  (⟨"RefusedOnceModel", "law", "()I"⟩, prog_14_method_37_code, 2, (some .int), 12, 0, false),
  (⟨"RefusedOnceModel", "readText", "(I)I"⟩, prog_14_method_33_code, 3, (some .int), 12, 1, false),
  (⟨"RefusedOnceModel", "line", "()V"⟩, prog_14_method_32_code, 2, none, 12, 0, false),
  (⟨"RefusedOnceModel", "either", "()V"⟩, prog_14_method_31_code, 1, none, 12, 0, false),
  (⟨"RefusedOnceModel", "both", "()V"⟩, prog_14_method_30_code, 1, none, 12, 0, false),
  (⟨"RefusedOnceModel", "compared", "()V"⟩, prog_14_method_29_code, 2, none, 12, 0, false),
  (⟨"RefusedOnceModel", "sum", "()V"⟩, prog_14_method_28_code, 2, none, 12, 0, false),
  (⟨"RefusedOnceModel", "product", "()V"⟩, prog_14_method_27_code, 2, none, 12, 0, false),
  (⟨"RefusedOnceModel", "operand", "()V"⟩, prog_14_method_26_code, 2, none, 12, 0, false),
  (⟨"RefusedOnceModel", "look", "()I"⟩, prog_14_method_20_code, 1, (some .int), 12, 0, false),
  (⟨"RefusedOnceModel", "nameOf", "(I)I"⟩, prog_14_method_23_code, 1, (some .int), 12, 1, true),
  (⟨"RefusedOnceModel", "addStep", "(II)V"⟩, prog_14_method_22_code, 3, none, 12, 2, false),
  (⟨"RefusedOnceModel", "opens", "()Z"⟩, prog_14_method_24_code, 1, (some .boolean), 12, 0, false),
  (⟨"RefusedOnceModel", "wrong", "()V"⟩, prog_14_method_21_code, 1, none, 12, 0, false),
  (⟨"RefusedOnceModel", "figure", "()V"⟩, prog_14_method_25_code, 3, none, 12, 0, false),
  (⟨"RefusedOnceModel", "odds", "(I)I"⟩, prog_14_method_40_code, 2, (some .int), 12, 1, false),
  (⟨"RefusedOnceModel", "areTwo", "(I)Z"⟩, prog_14_method_5_code, 2, (some .boolean), 12, 1, false),
  (⟨"RefusedOnceModel", "layNow", "()V"⟩, prog_14_method_38_code, 2, none, 12, 0, false),
  (⟨"RefusedOnceModel", "oddsOf", "(II)I"⟩, prog_14_method_39_code, 4, (some .int), 12, 2, false),
  (⟨"RefusedOnceModel", "gives", "(I)I"⟩, prog_14_method_36_code, 4, (some .int), 12, 1, false),
  (⟨"RefusedOnceModel", "worked", "(III)I"⟩, prog_14_method_35_code, 7, (some .int), 12, 3, false),
  (⟨"RefusedOnceModel", "twoOf", "(III)I"⟩, prog_14_method_34_code, 3, (some .int), 12, 3, true),
  (⟨"RefusedOnceModel", "later", "(IIII)I"⟩, prog_14_method_53_code, 5, (some .int), 12, 4, false),
  (⟨"RefusedOnceModel", "areMany", "(I)Z"⟩, prog_14_method_52_code, 1, (some .boolean), 12, 1, true),
  (⟨"RefusedOnceModel", "rowFault", "(I)I"⟩, prog_14_method_47_code, 2, (some .int), 12, 1, false),
  (⟨"RefusedOnceModel", "goEvening", "(II)V"⟩, prog_14_method_51_code, 8, none, 12, 2, false),
  (⟨"RefusedOnceModel", "longOf", "(II)I"⟩, prog_14_method_50_code, 4, (some .int), 12, 2, false),
  (⟨"RefusedOnceModel", "at", "(II)I"⟩, prog_14_method_48_code, 3, (some .int), 12, 2, false),
  (⟨"RefusedOnceModel", "isOffer", "(I)Z"⟩, prog_14_method_49_code, 2, (some .boolean), 12, 1, false)]
def ro_M_6 : List ro_Me := [
  (⟨"RefusedOnceModel", "mayCut", "(II)Z"⟩, prog_14_method_42_code, 3, (some .boolean), 12, 2, false),
  (⟨"RefusedOnceModel", "mayWhole", "(II)Z"⟩, prog_14_method_41_code, 3, (some .boolean), 12, 2, false),
  (⟨"RefusedOnceModel", "goCut", "(II)V"⟩, prog_14_method_44_code, 3, none, 12, 2, false),
  (⟨"RefusedOnceModel", "byHabit", "(II)Z"⟩, prog_14_method_46_code, 3, (some .boolean), 12, 2, false),
  (⟨"RefusedOnceModel", "notches", "(I)V"⟩, prog_14_method_45_code, 2, none, 12, 1, false),
  (⟨"RefusedOnceModel", "goWhole", "(II)V"⟩, prog_14_method_43_code, 3, none, 12, 2, false),
  (⟨"RefusedOnceModel", "evening", "(III)I"⟩, prog_14_method_54_code, 4, (some .int), 12, 3, false),
  (⟨"RefusedOnceModel", "round", "(II)I"⟩, prog_14_method_57_code, 8, (some .int), 12, 2, false),
  (⟨"RefusedOnceModel", "paysOf", "(I)I"⟩, prog_14_method_55_code, 3, (some .int), 12, 1, false),
  (⟨"RefusedOnceModel", "goRound", "(III)I"⟩, prog_14_method_56_code, 8, (some .int), 12, 3, false),
  (⟨"RefusedOnceModel", "cleanest", "(I)I"⟩, prog_14_method_58_code, 7, (some .int), 12, 1, false),
  (⟨"RefusedOnceModel", "pay", "(IIII)J"⟩, prog_14_method_62_code, 7, (some .long), 12, 4, false),
  (⟨"RefusedOnceModel", "findPay", "(II)J"⟩, prog_14_method_61_code, 6, (some .long), 12, 2, false),
  (⟨"RefusedOnceModel", "goPay", "(IIIIJ)V"⟩, prog_14_method_60_code, 8, none, 12, 5, false),
  (⟨"RefusedOnceModel", "lowest", "(JJI)J"⟩, prog_14_method_59_code, 11, (some .long), 12, 3, true),
  (⟨"RefusedOnceModel", "mean", "(III)J"⟩, prog_14_method_63_code, 9, (some .long), 12, 3, false),
  (⟨"RefusedOnceModel", "stays", "(II)J"⟩, prog_14_method_66_code, 3, (some .long), 12, 2, false),
  (⟨"RefusedOnceModel", "goStay", "(I)V"⟩, prog_14_method_65_code, 14, none, 12, 1, false),
  (⟨"RefusedOnceModel", "pairsNow", "()I"⟩, prog_14_method_64_code, 4, (some .int), 12, 0, false),
  (⟨"RefusedOnceModel", "hands", "(II)I"⟩, prog_14_method_67_code, 8, (some .int), 12, 2, false),
  (⟨"RefusedOnceModel", "test", "(III)J"⟩, prog_14_method_71_code, 5, (some .long), 12, 3, false),
  (⟨"RefusedOnceModel", "looked", "(II)I"⟩, prog_14_method_69_code, 3, (some .int), 12, 2, false),
  (⟨"RefusedOnceModel", "waysFound", "(III)J"⟩, prog_14_method_70_code, 8, (some .long), 12, 3, false),
  (⟨"RefusedOnceModel", "waysOf", "(II)J"⟩, prog_14_method_68_code, 5, (some .long), 12, 2, true),
  (⟨"RefusedOnceModel", "enough", "(II)I"⟩, prog_14_method_72_code, 4, (some .int), 12, 2, false),
  (⟨"RefusedOnceModel", "honest", "(III)J"⟩, prog_14_method_73_code, 5, (some .long), 12, 3, false),
  (⟨"RefusedOnceModel", "dowry", "(II)I"⟩, prog_14_method_74_code, 6, (some .int), 12, 2, false),
  (⟨"RefusedOnceModel", "richest", "(I)I"⟩, prog_14_method_75_code, 6, (some .int), 12, 1, false),
  (⟨"RefusedOnceModel", "behind", "(III)I"⟩, prog_14_method_80_code, 4, (some .int), 12, 3, false),
  (⟨"RefusedOnceModel", "goBehind", "(II)V"⟩, prog_14_method_79_code, 5, none, 12, 2, false),
  (⟨"RefusedOnceModel", "isAsTold", "()Z"⟩, prog_14_method_76_code, 2, (some .boolean), 12, 0, false),
  (⟨"RefusedOnceModel", "meetWay", "(I)V"⟩, prog_14_method_78_code, 3, none, 12, 1, false),
  (⟨"RefusedOnceModel", "bitsOf", "(I)I"⟩, prog_14_method_77_code, 3, (some .int), 12, 1, true),
  (⟨"RefusedOnceModel", "drawn", "(III)I"⟩, prog_14_method_81_code, 11, (some .int), 12, 3, false),
  (⟨"RefusedOnceModel", "offer", "(II)I"⟩, prog_14_method_83_code, 5, (some .int), 12, 2, false),
  (⟨"RefusedOnceModel", "keepNow1", "()V"⟩, prog_14_method_82_code, 2, none, 12, 0, false),
  (⟨"RefusedOnceModel", "mint", "(I)I"⟩, prog_14_method_84_code, 2, (some .int), 12, 1, false),
  (⟨"RefusedOnceModel", "hour", "()I"⟩, prog_14_method_85_code, 1, (some .int), 12, 0, false),
  (⟨"RefusedOnceModel", "led", "(I)I"⟩, prog_14_method_86_code, 2, (some .int), 12, 1, false),
  (⟨"RefusedOnceModel", "image", "()I"⟩, prog_14_method_87_code, 2, (some .int), 12, 0, false)]
def ro_M_7 : List ro_Me := [
  (⟨"RefusedOnceModel", "back", "()I"⟩, prog_14_method_88_code, 2, (some .int), 12, 0, false),
  (⟨"RefusedOnceModel", "trace", "(I)I"⟩, prog_14_method_91_code, 2, (some .int), 12, 1, false),
  (⟨"RefusedOnceModel", "body", "(I)I"⟩, prog_14_method_92_code, 2, (some .int), 12, 1, false),
  (⟨"RefusedOnceModel", "act", "(III)I"⟩, prog_14_method_105_code, 4, (some .int), 12, 3, false),
  (⟨"RefusedOnceModel", "isBody", "(I)Z"⟩, prog_14_method_89_code, 2, (some .boolean), 12, 1, false),
  (⟨"RefusedOnceModel", "offering", "(II)I"⟩, prog_14_method_96_code, 3, (some .int), 12, 2, false),
  (⟨"RefusedOnceModel", "isUnder", "(II)Z"⟩, prog_14_method_93_code, 2, (some .boolean), 12, 2, true),
  (⟨"RefusedOnceModel", "ran", "(I)V"⟩, prog_14_method_90_code, 2, none, 12, 1, false),
  (⟨"RefusedOnceModel", "plainOffers", "(II)I"⟩, prog_14_method_94_code, 3, (some .int), 12, 2, false),
  (⟨"RefusedOnceModel", "halfOffers", "(II)I"⟩, prog_14_method_95_code, 3, (some .int), 12, 2, false),
  (⟨"RefusedOnceModel", "notching", "(II)I"⟩, prog_14_method_99_code, 4, (some .int), 12, 2, false),
  (⟨"RefusedOnceModel", "beggarNotches", "(II)I"⟩, prog_14_method_98_code, 3, (some .int), 12, 2, false),
  (⟨"RefusedOnceModel", "plainNotches", "(II)I"⟩, prog_14_method_97_code, 3, (some .int), 12, 2, false),
  (⟨"RefusedOnceModel", "taking", "(II)I"⟩, prog_14_method_102_code, 4, (some .int), 12, 2, false),
  (⟨"RefusedOnceModel", "childTakes", "(II)I"⟩, prog_14_method_101_code, 3, (some .int), 12, 2, false),
  (⟨"RefusedOnceModel", "plainTakes", "(II)I"⟩, prog_14_method_100_code, 3, (some .int), 12, 2, false),
  (⟨"RefusedOnceModel", "telling", "(II)I"⟩, prog_14_method_104_code, 3, (some .int), 12, 2, false),
  (⟨"RefusedOnceModel", "plainTells", "(II)I"⟩, prog_14_method_103_code, 4, (some .int), 12, 2, false),
  (⟨"RefusedOnceModel", "count", "(I)I"⟩, prog_14_method_107_code, 2, (some .int), 12, 1, false),
  (⟨"RefusedOnceModel", "allOf", "(Z)I"⟩, prog_14_method_106_code, 4, (some .int), 12, 1, false),
  (⟨"RefusedOnceModel", "keep", "(II)I"⟩, prog_14_method_109_code, 3, (some .int), 12, 2, false),
  (⟨"RefusedOnceModel", "row", "(III)I"⟩, prog_14_method_110_code, 5, (some .int), 12, 3, false),
  (⟨"RefusedOnceModel", "put", "(IIJ)I"⟩, prog_14_method_112_code, 7, (some .int), 12, 3, false),
  (⟨"RefusedOnceModel", "whyNoPlace", "(II)I"⟩, prog_14_method_111_code, 3, (some .int), 12, 2, false),
  (⟨"RefusedOnceModel", "element", "(II)J"⟩, prog_14_method_113_code, 3, (some .long), 12, 2, false),
  (⟨"RefusedOnceModel", "shift", "(IIIII)I"⟩, prog_14_method_114_code, 7, (some .int), 12, 5, false),
  (⟨"RefusedOnceModel", "taken", "(II)I"⟩, prog_14_method_115_code, 3, (some .int), 12, 2, false),
  (⟨"RefusedOnceLaw", "law", "([I)Z"⟩, code, 4, (some .boolean), 15, 1, true)]
def ro_M : List ro_Me := ro_M_0 ++ (ro_M_1 ++ (ro_M_2 ++ (ro_M_3 ++ (ro_M_4 ++ (ro_M_5 ++ (ro_M_6 ++ (ro_M_7)))))))
def ro_m (y : Nat) : ro_Me := ro_M.getD y (⟨"", "", ""⟩, ⟨#[]⟩, 0, none, 0, 0, true)
/-- the words that go on holding -/
def ro_G : List Cond := lw_tbl.filter goodWord
def ro_tb (c : Nat) : List Cond := match c with
  | 0 => k2_sels lw_privs
  | 1 => tables_1_1
  | 2 => tables_1_2
  | 3 => tables_1_3
  | 4 => tables_1_4
  | 5 => tables_1_5
  | 6 => tables_1_6
  | 7 => tables_1_7
  | _ => tables_1_8
def ro_wd (i : Nat) : Option Cond := (ro_tb (i / 1000))[i % 1000]?
theorem ro_wd_mem {i : Nat} {w : Cond} (h : ro_wd i = some w) : w ∈ lw_tbl := by
  have h := List.mem_of_getElem? h
  unfold lw_tbl tables_1
  simp only [List.mem_append]
  unfold ro_tb at h
  split at h <;> simp [h]
def ro_at (i : Nat) (w : Cond) : Bool := decide (ro_wd i = some w) && goodWord w
theorem ro_at_mem {i : Nat} {w : Cond} (h : ro_at i w = true) : w ∈ ro_G := by
  simp only [ro_at, Bool.and_eq_true, decide_eq_true_eq] at h
  exact List.mem_filter.mpr ⟨ro_wd_mem h.1, h.2⟩
def ro_lp0 : List Nat := [2061, 2063, 2065, 2067, 2069, 2071]
def ro_lp1 : List Nat := [2005, 2007, 2009, 2011, 2013, 2015, 2017, 2019, 2021]
def ro_lp2 : List Nat := [2036, 2038, 2040, 2042, 2044, 2046]
def ro_lp3 : List Nat := [1166, 1168, 1170, 1172, 1174, 1176, 1178, 1180, 1182, 1184, 1186]
def ro_lp4 : List Nat := [1061, 1063, 1065, 1067, 1069, 1071, 1073, 1075, 1077, 1079, 1081, 1083, 1085]
def ro_lp5 : List Nat := [1104, 1106, 1108, 1110, 1112, 1114, 1116, 1118, 1120, 1122]
def ro_lp6 : List Nat := [2097, 2099, 2101, 2103, 2105]
def ro_lp7 : List Nat := [1207, 1209, 1211, 1213, 1215, 1217, 1219, 1221, 1223, 1225]
def ro_lp8 : List Nat := [1038, 1040]
def ro_lp9 : List Nat := [1136, 1138, 1140, 1142]
def ro_lp10 : List Nat := [2118, 2120, 2122, 2124, 2126, 2128, 2130, 2132, 2134, 2136]
def ro_lp11 : List Nat := [2148, 2150, 2152, 2154, 2156, 2158, 2160, 2162, 2164]
def ro_lp12 : List Nat := [6074, 6076, 6078, 6080, 6082, 6084, 6086, 6088, 6090, 6092, 6094, 6096, 6098, 6100, 6102, 6104, 6106, 6108, 6110, 6112, 6114, 6116, 6118, 6120, 6122, 6124, 6126, 6128, 6130, 6132, 6134, 6136, 6138, 6140, 6142, 6144, 6146, 6148, 6150, 6152, 6154, 6156, 6158, 6160, 6162, 6164, 6166, 6168, 6170, 6172, 6174, 6176, 6178, 6180, 6182, 6184, 6186]
def ro_lps : List (List Nat) := [ro_lp0, ro_lp1, ro_lp2, ro_lp3, ro_lp4, ro_lp5, ro_lp6, ro_lp7, ro_lp8, ro_lp9, ro_lp10, ro_lp11, ro_lp12]
/-- a class: its fields' words, that it can be made, that it is ready -/
def ro_kpl : List (Nat × Nat) := [(2050, 1010), (1229, 1008), (2025, 1009), (1147, 1006), (1025, 1002), (1089, 1004), (2083, 1012), (1190, 1007), (1031, 1003), (1127, 1005), (2075, 1011), (1017, 1001), (6013, 1013)]
def ro_chkK (c : Nat) : Bool := match ro_cl[c]?, ro_lps[c]?, ro_kpl[c]? with
  | some q, some ps, some kp => (List.range q.2.2).all (fun k => ro_at (ps.getD k 0) (u_lay q.1 q.2.1 k)) && ro_at kp.1 (.instantiable q.1 q.2.2) && ro_at kp.2 (.initialized q.1) && decide (ro_Rn c = q.1)
  | _, _, _ => false
set_option maxRecDepth 100000 in
theorem ro_chkK_ok : (List.range 13).all ro_chkK = true := by decide +kernel
def ro_FL : List (Nat × Nat × Nat × Nat × Nat) := [(8, 9, 8, 0, 1036), (8, 15, 8, 1, 1037), (4, 12, 4, 0, 1044), (7, 52, 4, 0, 1045), (11, 132, 4, 0, 1046), (3, 55, 4, 0, 1047), (1, 63, 4, 0, 1048), (4, 18, 4, 1, 1049), (4, 22, 4, 2, 1050), (4, 25, 4, 3, 1051), (4, 44, 4, 4, 1052), (4, 28, 4, 5, 1053), (4, 32, 4, 6, 1054), (4, 35, 4, 7, 1055), (4, 38, 4, 8, 1056), (4, 41, 4, 9, 1057), (4, 101, 4, 10, 1058), (4, 95, 4, 11, 1059), (4, 98, 4, 12, 1060), (5, 11, 5, 0, 1094), (5, 15, 5, 1, 1095), (5, 18, 5, 2, 1096), (5, 21, 5, 3, 1097), (5, 24, 5, 4, 1098), (5, 27, 5, 5, 1099), (5, 31, 5, 6, 1100), (5, 34, 5, 7, 1101), (5, 41, 5, 8, 1102), (5, 104, 5, 9, 1103), (9, 11, 9, 0, 1132), (9, 15, 9, 1, 1133), (9, 29, 9, 2, 1134), (9, 26, 9, 3, 1135), (3, 28, 3, 0, 1154), (3, 32, 3, 1, 1155), (3, 12, 3, 2, 1156), (11, 169, 3, 2, 1157), (3, 18, 3, 3, 1158), (3, 22, 3, 4, 1159), (3, 25, 3, 5, 1160), (3, 36, 3, 6, 1161), (3, 65, 3, 7, 1162), (3, 68, 3, 8, 1163), (3, 71, 3, 9, 1164), (3, 119, 3, 10, 1165), (7, 25, 7, 0, 1197), (7, 29, 7, 1, 1198), (7, 12, 7, 2, 1199), (7, 18, 7, 3, 1200), (7, 22, 7, 4, 1201), (7, 33, 7, 5, 1202), (7, 69, 7, 6, 1203), (7, 72, 7, 7, 1204), (7, 62, 7, 8, 1205), (7, 66, 7, 9, 1206), (1, 29, 1, 0, 1236), (1, 33, 1, 1, 1237), (1, 12, 1, 2, 1238), (1, 18, 1, 3, 1239), (1, 22, 1, 4, 2000), (1, 37, 1, 5, 2001), (1, 25, 1, 6, 2002), (1, 104, 1, 7, 2003), (1, 108, 1, 8, 2004), (2, 9, 2, 0, 2030), (2, 13, 2, 1, 2031), (2, 16, 2, 2, 2032), (2, 19, 2, 3, 2033), (2, 22, 2, 4, 2034), (2, 29, 2, 5, 2035), (0, 11, 0, 0, 2055), (0, 15, 0, 1, 2056), (0, 21, 0, 2, 2057), (0, 25, 0, 3, 2058), (0, 28, 0, 4, 2059), (0, 35, 0, 5, 2060), (6, 9, 6, 0, 2088), (10, 158, 6, 0, 2089), (6, 15, 6, 1, 2090), (10, 54, 6, 1, 2091), (6, 19, 6, 2, 2092), (10, 57, 6, 2, 2093), (6, 22, 6, 3, 2094), (10, 61, 6, 3, 2095), (10, 50, 6, 4, 2096), (10, 42, 10, 0, 2108), (10, 46, 10, 1, 2109), (10, 13, 10, 2, 2110), (10, 16, 10, 3, 2111), (10, 19, 10, 4, 2112), (10, 22, 10, 5, 2113), (10, 25, 10, 6, 2114), (10, 29, 10, 7, 2115), (10, 35, 10, 8, 2116), (10, 39, 10, 9, 2117), (11, 10, 11, 0, 2139), (11, 19, 11, 1, 2140), (11, 25, 11, 2, 2141), (11, 35, 11, 3, 2142), (11, 42, 11, 4, 2143), (11, 49, 11, 5, 2144), (11, 56, 11, 6, 2145), (11, 63, 11, 7, 2146), (11, 72, 11, 8, 2147), (12, 109, 12, 1, 6018), (12, 9, 12, 2, 6019), (12, 15, 12, 3, 6020), (12, 18, 12, 4, 6021), (12, 21, 12, 5, 6022), (12, 24, 12, 6, 6023), (12, 136, 12, 7, 6024), (12, 133, 12, 8, 6025), (12, 27, 12, 9, 6026), (12, 30, 12, 10, 6027), (12, 33, 12, 11, 6028), (12, 36, 12, 12, 6029), (12, 39, 12, 13, 6030), (12, 157, 12, 14, 6031), (12, 160, 12, 15, 6032), (12, 163, 12, 16, 6033), (12, 169, 12, 17, 6034), (12, 166, 12, 18, 6035), (12, 43, 12, 19, 6036), (12, 46, 12, 20, 6037), (12, 49, 12, 21, 6038), (12, 52, 12, 22, 6039), (12, 56, 12, 23, 6040), (12, 59, 12, 24, 6041), (12, 62, 12, 25, 6042), (12, 223, 12, 26, 6043), (12, 65, 12, 27, 6044), (12, 68, 12, 28, 6045), (12, 245, 12, 29, 6046), (12, 248, 12, 30, 6047), (12, 251, 12, 31, 6048), (12, 71, 12, 32, 6049), (12, 310, 12, 33, 6050), (12, 314, 12, 34, 6051), (12, 358, 12, 35, 6052), (12, 331, 12, 36, 6053), (12, 349, 12, 37, 6054), (12, 334, 12, 38, 6055), (12, 343, 12, 39, 6056), (12, 346, 12, 40, 6057), (12, 337, 12, 41, 6058), (12, 75, 12, 42, 6059), (12, 368, 12, 43, 6060), (12, 371, 12, 44, 6061), (12, 374, 12, 45, 6062), (12, 78, 12, 46, 6063), (12, 81, 12, 47, 6064), (12, 84, 12, 48, 6065), (12, 377, 12, 49, 6066), (12, 87, 12, 50, 6067), (12, 380, 12, 51, 6068), (12, 90, 12, 52, 6069), (12, 93, 12, 53, 6070), (12, 96, 12, 54, 6071), (12, 99, 12, 55, 6072), (12, 102, 12, 56, 6073)]
/-- a field link: own, entry, class, slot, place -/
def ro_chkF (e : Nat × Nat × Nat × Nat × Nat) : Bool := match ro_cl[e.2.2.1]? with
  | some q => decide (e.2.2.2.1 < q.2.2) && ro_at e.2.2.2.2 (.fieldLink (ro_Rn e.1) e.2.1 q.1 (q.2.1 e.2.2.2.1).2.1 (q.2.1 e.2.2.2.1).2.2.1) && decide ((q.2.1 e.2.2.2.1).1 = q.1)
  | none => false
set_option maxRecDepth 100000 in
theorem ro_chkF_ok : ro_FL.all ro_chkF = true := by decide +kernel
def ro_SL : List (Nat × Nat × Nat × Nat) := [(4, 51, 1, 2181), (0, 42, 2, 5150), (0, 18, 3, 5155)]
def ro_Sn : List (String × String) := [("", ""), ("RefusedOnce$Land", "MOST"), ("RefusedOnce$Bodies", "OWN"), ("RefusedOnce$Bodies", "ABOVE")]
/-- a static link: own, entry, which, place -/
def ro_chkS (e : Nat × Nat × Nat × Nat) : Bool := match ro_Sn[e.2.2.1]? with
  | some q => ro_at e.2.2.2 (.fieldLink (ro_Rn e.1) e.2.1 q.1 q.2 "[I") && decide (1 ≤ e.2.2.1)
  | none => false
theorem ro_chkS_ok : ro_SL.all ro_chkS = true := by decide +kernel
def ro_LL : List (Nat × Nat × Nat × Nat) := [(15, 9, 0, 1018), (11, 32, 5, 1148), (11, 41, 6, 1191), (11, 48, 7, 1230), (11, 69, 10, 2076), (15, 13, 12, 2167), (11, 76, 13, 2171), (11, 80, 14, 2174), (4, 54, 15, 2178), (4, 58, 16, 2183), (4, 62, 17, 2187), (11, 83, 18, 2191), (15, 18, 19, 2195), (11, 87, 20, 2199), (11, 91, 21, 2203), (11, 95, 22, 2207), (11, 98, 23, 2211), (11, 102, 24, 2215), (11, 105, 25, 2219), (9, 32, 26, 2223), (15, 23, 27, 2227), (11, 109, 28, 2231), (4, 47, 29, 2235), (11, 113, 15, 2239), (11, 116, 30, 3000), (4, 65, 31, 3004), (4, 69, 32, 3008), (11, 120, 33, 3012), (11, 124, 34, 3016), (2, 26, 35, 3020), (15, 27, 36, 3027), (11, 128, 29, 3031), (11, 136, 37, 3032), (4, 81, 38, 3036), (11, 140, 39, 3039), (4, 72, 30, 3043), (15, 32, 40, 3047), (11, 143, 41, 3051), (11, 146, 42, 3055), (15, 36, 43, 3059), (11, 149, 44, 3063), (5, 37, 45, 3067), (5, 44, 46, 3071), (5, 56, 47, 3075), (5, 48, 48, 3079), (5, 63, 49, 3083), (5, 66, 50, 3086), (5, 52, 51, 3090), (5, 69, 52, 3094), (5, 73, 53, 3097), (5, 60, 54, 3101), (15, 41, 55, 3104), (11, 152, 56, 3108), (11, 348, 57, 3112), (11, 155, 58, 3116), (5, 76, 30, 3120), (5, 82, 59, 3121), (5, 85, 31, 3128), (5, 90, 32, 3129), (5, 93, 60, 3130), (5, 107, 61, 3134), (5, 110, 62, 3138), (5, 113, 63, 3142), (15, 45, 64, 3145), (11, 159, 65, 3149), (9, 23, 21, 3153), (11, 162, 66, 3154), (3, 40, 24, 3158), (3, 45, 25, 3159), (3, 49, 57, 3160), (11, 165, 67, 3161), (3, 58, 18, 3165), (3, 61, 68, 3166), (8, 18, 31, 3170), (8, 22, 16, 3171), (8, 26, 32, 3172), (8, 29, 17, 3173), (3, 74, 69, 3174), (3, 77, 70, 3178), (3, 80, 71, 3182), (3, 84, 72, 3186), (3, 88, 73, 3190), (3, 91, 74, 3194), (3, 95, 75, 3198), (3, 98, 58, 3202), (3, 104, 30, 3203), (3, 108, 76, 3204), (3, 112, 77, 3208), (3, 116, 78, 3212), (11, 172, 31, 3216), (11, 177, 32, 3217), (15, 50, 79, 3218), (11, 180, 80, 3222), (11, 183, 81, 3226), (11, 186, 82, 3230), (15, 54, 83, 3234), (11, 189, 84, 3238), (7, 37, 24, 4002), (7, 42, 25, 4003), (7, 46, 57, 4004), (11, 190, 85, 4005), (11, 191, 86, 4009), (7, 55, 18, 4013), (7, 58, 68, 4014), (7, 75, 87, 4015), (7, 79, 88, 4019), (7, 118, 37, 4023), (7, 83, 75, 4024), (7, 86, 89, 4025), (7, 95, 58, 4029), (7, 101, 30, 4030), (7, 105, 78, 4031), (7, 108, 32, 4032), (7, 111, 77, 4033), (7, 92, 74, 4034), (7, 115, 90, 4035), (7, 89, 73, 4039), (11, 195, 91, 4040), (11, 198, 92, 4044), (15, 58, 93, 4048), (15, 62, 94, 4052), (11, 201, 95, 4056), (11, 206, 96, 4060), (1, 49, 97, 4064), (1, 68, 18, 4068), (1, 72, 68, 4069), (1, 76, 98, 4070), (1, 80, 30, 4074), (1, 84, 16, 4075), (1, 88, 17, 4076), (1, 91, 75, 4077), (1, 53, 99, 4078), (1, 95, 58, 4082), (1, 57, 100, 4083), (1, 40, 101, 4087), (11, 209, 102, 4093), (15, 67, 103, 4097), (11, 213, 104, 4101), (15, 72, 105, 4105), (11, 216, 106, 4109), (1, 101, 107, 4113), (1, 115, 108, 4119), (1, 119, 78, 4123), (15, 77, 109, 4125), (11, 220, 110, 4130), (15, 81, 111, 4134), (11, 224, 112, 4138), (1, 124, 39, 4142), (1, 131, 113, 4144), (15, 85, 114, 4147), (15, 89, 115, 4153), (15, 93, 116, 4157), (15, 97, 117, 4161), (11, 234, 118, 4165), (15, 101, 119, 4169), (11, 237, 120, 4173), (10, 64, 121, 4177), (10, 76, 122, 4182), (10, 102, 29, 4186), (10, 108, 24, 4187), (10, 111, 25, 4188), (10, 115, 123, 4189), (10, 80, 124, 4193), (10, 125, 69, 4198), (10, 128, 70, 4199), (10, 131, 71, 4200), (10, 134, 125, 4201), (10, 140, 126, 4205), (10, 137, 127, 4209), (10, 84, 128, 4213), (10, 87, 129, 4217), (10, 147, 30, 4221), (10, 150, 130, 4222), (10, 91, 131, 4228), (10, 166, 132, 4232), (10, 95, 133, 4236), (10, 98, 134, 5000), (10, 162, 135, 5004), (11, 239, 136, 5009), (11, 240, 137, 5013), (11, 243, 138, 5017), (11, 246, 139, 5021), (15, 105, 140, 5026), (11, 249, 141, 5030), (3, 123, 142, 5035), (3, 126, 31, 5039), (11, 252, 143, 5040), (15, 109, 144, 5044), (11, 255, 73, 5048), (11, 258, 75, 5049), (11, 261, 145, 5050), (11, 264, 77, 5054), (11, 267, 78, 5055), (11, 271, 74, 5056), (15, 113, 146, 5057), (15, 117, 147, 5061), (15, 121, 148, 5065), (11, 274, 149, 5069), (15, 125, 150, 5073), (11, 277, 151, 5077), (4, 85, 68, 5081), (15, 129, 152, 5083), (11, 280, 153, 5087), (15, 133, 154, 5091), (11, 283, 155, 5095), (2, 38, 33, 5099), (11, 287, 156, 5100), (15, 137, 157, 5104), (11, 290, 158, 5108), (11, 293, 159, 5112), (15, 141, 160, 5116), (11, 296, 161, 5120), (11, 299, 162, 5123), (11, 301, 163, 5127), (15, 145, 164, 5131), (11, 302, 165, 5135), (0, 31, 166, 5139), (0, 38, 167, 5143), (0, 45, 168, 5147), (0, 49, 169, 5152), (0, 52, 170, 5157), (0, 56, 171, 5161), (0, 60, 172, 5165), (15, 149, 173, 5169), (11, 306, 174, 5173), (15, 153, 175, 5177), (11, 309, 176, 5181), (15, 157, 177, 5185), (11, 312, 178, 5189), (15, 163, 179, 5193), (11, 315, 180, 5197), (11, 318, 181, 5201), (9, 36, 182, 5205), (15, 168, 183, 5209), (11, 322, 26, 5213), (15, 172, 184, 5214), (11, 325, 185, 5218), (9, 19, 180, 5222), (11, 329, 186, 5223), (15, 177, 187, 5228), (11, 333, 188, 5232), (11, 336, 166, 5236), (11, 339, 189, 5237), (15, 181, 190, 6000), (11, 342, 191, 6004), (11, 345, 192, 6008), (15, 12, 193, 6014), (15, 17, 194, 6191), (12, 112, 195, 6195), (12, 120, 196, 6198), (15, 22, 197, 6202), (12, 124, 198, 6206), (15, 136, 199, 6210), (12, 139, 200, 6214), (15, 140, 201, 6218), (15, 26, 202, 6222), (12, 143, 203, 6226), (12, 116, 204, 6230), (12, 147, 205, 6234), (12, 150, 206, 6237), (12, 129, 207, 7001), (15, 31, 208, 7005), (12, 153, 209, 7009), (15, 35, 210, 7013), (15, 40, 211, 7017), (12, 220, 212, 7021), (12, 211, 213, 7025), (12, 193, 214, 7029), (12, 208, 215, 7033), (12, 205, 216, 7037), (12, 202, 217, 7041), (12, 199, 218, 7045), (12, 190, 219, 7049), (12, 175, 220, 7053), (12, 183, 221, 7057), (12, 179, 222, 7060), (12, 186, 223, 7064), (12, 172, 224, 7068), (12, 196, 225, 7072), (15, 44, 226, 7076), (12, 230, 227, 7080), (12, 233, 228, 7084), (12, 236, 229, 7088), (12, 227, 230, 7092), (12, 217, 231, 7096), (12, 214, 232, 7100), (15, 49, 233, 7103), (12, 276, 234, 7107), (12, 279, 235, 7110), (12, 282, 236, 7114), (12, 254, 237, 7118), (12, 239, 238, 7122), (12, 242, 239, 7126), (12, 257, 240, 7130), (12, 260, 241, 7134), (12, 263, 242, 7138), (12, 266, 243, 7142), (12, 269, 244, 7146), (12, 273, 245, 7150), (15, 53, 246, 7154), (15, 57, 247, 7158), (12, 285, 248, 7162), (12, 288, 249, 7166), (15, 61, 250, 7170), (15, 66, 251, 7174), (12, 299, 252, 7179), (12, 293, 253, 7183), (12, 303, 254, 7188), (15, 71, 255, 7191), (15, 76, 256, 7195), (12, 317, 257, 7199), (12, 307, 258, 7203), (15, 80, 259, 7207), (15, 84, 260, 7212), (12, 324, 261, 7216), (12, 327, 262, 7220), (12, 321, 263, 7224), (15, 88, 264, 7227), (15, 92, 265, 7231), (15, 96, 266, 7235), (15, 100, 267, 7239), (15, 104, 268, 8003), (12, 361, 269, 8007), (12, 352, 270, 8011), (12, 355, 271, 8015), (12, 340, 272, 8019), (15, 108, 273, 8022), (15, 112, 274, 8027), (12, 365, 275, 8031), (15, 116, 276, 8035), (15, 120, 277, 8039), (15, 124, 278, 8043), (15, 128, 279, 8047), (15, 132, 280, 8051), (15, 152, 281, 8055), (15, 144, 282, 8059), (15, 148, 283, 8063), (12, 419, 284, 8067), (12, 395, 285, 8071), (12, 389, 286, 8075), (12, 383, 287, 8078), (12, 386, 288, 8082), (12, 392, 289, 8086), (12, 413, 290, 8090), (12, 401, 291, 8094), (12, 398, 292, 8098), (12, 404, 293, 8102), (12, 410, 294, 8106), (12, 407, 295, 8110), (12, 422, 296, 8114), (12, 416, 297, 8118), (15, 184, 298, 8122), (12, 425, 299, 8126), (15, 156, 300, 8130), (15, 160, 301, 8134), (15, 167, 302, 8138), (12, 429, 303, 8142), (15, 171, 304, 8146), (15, 176, 305, 8150), (15, 180, 306, 8154)]
/-- a method link: own, entry, method, place -/
def ro_chkL (e : Nat × Nat × Nat × Nat) : Bool := ro_at e.2.2.2 (.methodLink (ro_Rn e.1) e.2.1 (ro_m e.2.2.1).1) && decide (e.2.2.1 < 307)
set_option maxRecDepth 100000 in
theorem ro_chkL_ok : ro_LL.all ro_chkL = true := by decide +kernel
def ro_NL : List (Nat × Nat × Nat × Nat) := [(11, 9, 1, 1026), (4, 11, 2, 1032), (11, 18, 3, 1090), (11, 29, 4, 1128), (3, 11, 2, 1153), (7, 11, 2, 1196), (1, 11, 2, 1235), (11, 55, 8, 2026), (11, 62, 9, 2051), (10, 34, 11, 2084)]
def ro_chkN (e : Nat × Nat × Nat × Nat) : Bool := decide (ro_wd e.2.2.2 = some (.methodLinkNest (ro_Rn e.1) e.2.1 (ro_m e.2.2.1).1 "RefusedOnce")) && decide (e.2.2.1 < 307)
theorem ro_chkN_ok : ro_NL.all ro_chkN = true := by decide +kernel
def ro_OL : List (Nat × Nat × Nat) := [(11, 1, 1021), (4, 3, 1029), (8, 3, 1035), (5, 5, 1093), (9, 3, 1131), (3, 3, 1151), (7, 3, 1194), (1, 3, 1233), (2, 1, 2029), (0, 3, 2054), (10, 3, 2079), (6, 1, 2087), (12, 3, 6017)]
theorem ro_chkO_ok : ro_OL.all (fun e => ro_at e.2.2 (.methodLink (ro_Rn e.1) e.2.1 Lib.objectInit)) = true := by decide +kernel
def ro_XL : List (Nat × Nat × Nat × Nat) := [(4, 76, 1, 3044), (5, 96, 1, 3124), (5, 101, 0, 3125), (1, 44, 2, 4090), (1, 128, 1, 4143), (11, 227, 1, 4151), (10, 70, 1, 4181), (10, 144, 0, 4208)]
def ro_Xn (k : Nat) : MethodName := match k with
  | 0 => Lib.Math.max.name
  | 1 => Lib.Math.min.name
  | _ => Lib.MathLoose.max_long.x
theorem ro_chkX_ok : ro_XL.all (fun e => ro_at e.2.2.2 (.methodLink (ro_Rn e.1) e.2.1 (ro_Xn e.2.2.1)) && decide (e.2.2.1 < 3)) = true := by decide +kernel
theorem ro_xs0 : ro_at 3126 (.static (ro_Xn 0)) = true := by decide +kernel
theorem ro_xc0 : ro_wd 3127 = some (.code (ro_Xn 0) Lib.Math.max.code 2 (some .int)) := by rfl
theorem ro_xs1 : ro_at 3045 (.static (ro_Xn 1)) = true := by decide +kernel
theorem ro_xc1 : ro_wd 3046 = some (.code (ro_Xn 1) Lib.Math.min.code 2 (some .int)) := by rfl
theorem ro_xs2 : ro_at 4091 (.static (ro_Xn 2)) = true := by decide +kernel
theorem ro_xc2 : ro_wd 4092 = some (.code (ro_Xn 2) Lib.MathLoose.max_long.code 4 (some .long)) := by rfl
theorem ro_xi : ro_at 1015 (.initialized "java/lang/Math") = true := by decide +kernel
theorem ro_ai : ro_at 1014 (.initialized "java/lang/System") = true := by decide +kernel
theorem ro_an : ro_at 3026 (.native arraycopyName) = true := by decide +kernel
theorem ro_as : ro_at 3025 (.static arraycopyName) = true := by decide +kernel
theorem ro_oi : ro_at 1022 (.instanceMethod Lib.objectInit) = true := by decide +kernel
theorem ro_oc : ro_wd 1023 = some (.code Lib.objectInit ⟨#[0xb1]⟩ 1 none) := by rfl
theorem ro_ac0 : ro_at 1043 (Jvm.Cond.arrayClass Jvm.ClassFile.FieldType.int) = true := by decide +kernel
theorem ro_ac1 : ro_at 1145 (Jvm.Cond.arrayClass Jvm.ClassFile.FieldType.long) = true := by decide +kernel
theorem ro_ac2 : ro_at 6189 (Jvm.Cond.arrayClass Jvm.ClassFile.FieldType.byte) = true := by decide +kernel
theorem ro_ac3 : ro_at 6190 (Jvm.Cond.arrayClass Jvm.ClassFile.FieldType.short) = true := by decide +kernel
theorem ro_ao0 : ro_wd 1126 = some (Jvm.Cond.arrayOver (Jvm.ClassFile.FieldType.object "RefusedOnce$Shelf")) := by decide +kernel
theorem ro_ao1 : ro_wd 2081 = some (Jvm.Cond.arrayOver (Jvm.ClassFile.FieldType.array Jvm.ClassFile.FieldType.int)) := by decide +kernel
theorem ro_ls0 : ro_wd 2182 = some (Jvm.Cond.laysStatic "RefusedOnce$Land" "MOST" "[I") := by decide +kernel
theorem ro_ls1 : ro_wd 5151 = some (Jvm.Cond.laysStatic "RefusedOnce$Bodies" "OWN" "[I") := by decide +kernel
theorem ro_ls2 : ro_wd 5156 = some (Jvm.Cond.laysStatic "RefusedOnce$Bodies" "ABOVE" "[I") := by decide +kernel
def ro_AL : List (Nat × Nat × Nat) := [(2, 32, 3024), (10, 119, 4197), (4, 89, 5082), (9, 40, 5227)]
theorem ro_chkA_ok : ro_AL.all (fun e => ro_at e.2.2 (.methodLink (ro_Rn e.1) e.2.1 arraycopyName)) = true := by decide +kernel
def ro_CL : List (Nat × Nat × Nat × Nat) := [(15, 7, 11, 1016), (11, 7, 4, 1024), (4, 9, 8, 1030), (11, 16, 5, 1088), (11, 23, 9, 1125), (11, 30, 3, 1146), (3, 9, 8, 1152), (11, 39, 7, 1189), (7, 9, 8, 1195), (11, 46, 1, 1228), (1, 9, 8, 1234), (11, 53, 2, 2024), (11, 60, 0, 2049), (11, 67, 10, 2074), (10, 32, 6, 2082), (15, 10, 12, 6012)]
theorem ro_chkC_ok : ro_CL.all (fun e => ro_at e.2.2.2 (.classLink (ro_Rn e.1) e.2.1 (ro_Rn e.2.2.1)) && decide (e.2.2.1 < 13)) = true := by decide +kernel
theorem ro_chkMM : ro_at 2080 (.classLink (ro_Rn 10) 11 "[[I") = true := by decide +kernel
def ro_MM (own x : Nat) : Bool := own == 10 && x == 11
def ro_KI : List (Nat × Nat × Int32 × Nat) := [(11, 219, -2000000000, 4129), (10, 165, 1048576, 5008), (10, 60, 1048575, 5025), (3, 122, 1103515245, 5034), (12, 320, -2000000000, 7211), (12, 364, 1103515245, 8026)]
theorem ro_chkKI_ok : ro_KI.all (fun e => ro_at e.2.2.2 (.constant (ro_Rn e.1) e.2.1 e.2.2.1)) = true := by decide +kernel
def ro_KJ : List (Nat × Nat × Int64 × Nat) := [(11, 204, -9223372036854775808, 4059), (1, 61, 12, 4081), (1, 111, 144, 4117), (1, 113, 2329089562800, 4118), (1, 122, 27949074753600, 4124), (11, 232, 12, 4152), (10, 154, -1, 4226), (10, 156, 31, 4227), (10, 170, 6364136223846793005, 4235), (12, 127, 2, 6209), (12, 297, -9223372036854775808, 7178), (12, 291, 12, 7187), (15, 161, 4294967295, 8158)]
theorem ro_chkKJ_ok : ro_KJ.all (fun e => ro_at e.2.2.2 (.constantLong (ro_Rn e.1) e.2.1 e.2.2.1)) = true := by decide +kernel
def ro_MP : List (Nat × Nat × Nat × Nat) := [(1020, 1019, 0, 1001), (1028, 1027, 0, 1002), (1034, 1033, 0, 1003), (1092, 1091, 0, 1004), (1130, 1129, 0, 1005), (1150, 1149, 0, 1006), (1193, 1192, 0, 1007), (1232, 1231, 0, 1008), (2028, 2027, 0, 1009), (2053, 2052, 0, 1010), (2078, 2077, 0, 1011), (2086, 2085, 0, 1012), (2170, 2168, 2169, 1001), (2173, 2172, 0, 1001), (2177, 2175, 2176, 1002), (2180, 2179, 0, 1002), (2186, 2184, 2185, 1003), (2190, 2188, 2189, 1003), (2194, 2192, 2193, 1002), (2198, 2196, 2197, 1001), (2202, 2201, 0, 1001), (2206, 2204, 2205, 1005), (2210, 2208, 2209, 1005), (2214, 2213, 1, 1001), (2218, 2216, 2217, 1005), (2222, 2220, 2221, 1005), (2226, 2224, 2225, 1005), (2230, 2228, 2229, 1001), (2234, 2232, 2233, 1002), (2238, 2236, 2237, 1002), (3003, 3001, 3002, 1002), (3007, 3005, 3006, 1003), (3011, 3009, 3010, 1003), (3015, 3013, 3014, 1002), (3019, 3017, 3018, 1009), (3023, 3022, 2, 1009), (3030, 3028, 3029, 1001), (3035, 3033, 3034, 1002), (3038, 3037, 0, 1002), (3042, 3040, 3041, 1002), (3050, 3048, 3049, 1001), (3054, 3052, 3053, 1004), (3058, 3056, 3057, 1004), (3062, 3060, 3061, 1001), (3066, 3064, 3065, 1004), (3070, 3069, 3, 1004), (3074, 3073, 4, 1004), (3078, 3077, 5, 1004), (3082, 3081, 6, 1004), (3085, 3084, 0, 1004), (3089, 3088, 7, 1004), (3093, 3092, 8, 1004), (3096, 3095, 0, 1004), (3100, 3099, 9, 1004), (3103, 3102, 0, 1004), (3107, 3105, 3106, 1001), (3111, 3110, 10, 1001), (3115, 3113, 3114, 1002), (3119, 3117, 3118, 1004), (3123, 3122, 0, 1004), (3133, 3132, 11, 1004), (3137, 3136, 12, 1004), (3141, 3140, 13, 1004), (3144, 3143, 0, 1004), (3148, 3146, 3147, 1001), (3152, 3150, 3151, 1005), (3157, 3155, 3156, 1006), (3164, 3162, 3163, 1006), (3169, 3167, 3168, 1003), (3177, 3175, 3176, 1006), (3181, 3179, 3180, 1006), (3185, 3183, 3184, 1006), (3189, 3188, 14, 1006), (3193, 3191, 3192, 1003), (3197, 3195, 3196, 1003), (3201, 3199, 3200, 1003), (3207, 3206, 15, 1006), (3211, 3209, 3210, 1003), (3215, 3213, 3214, 1003), (3221, 3219, 3220, 1001), (3225, 3223, 3224, 1006), (3229, 3227, 3228, 1006), (3233, 3231, 3232, 1006), (3237, 3235, 3236, 1001), (4001, 3239, 4000, 1007), (4008, 4006, 4007, 1007), (4012, 4010, 4011, 1007), (4018, 4017, 16, 1007), (4022, 4021, 17, 1007), (4028, 4027, 18, 1007), (4038, 4036, 4037, 1003), (4043, 4041, 4042, 1007), (4047, 4045, 4046, 1007), (4051, 4049, 4050, 1001), (4055, 4053, 4054, 1001), (4058, 4057, 0, 1001), (4063, 4061, 4062, 1008), (4067, 4066, 19, 1008), (4073, 4072, 20, 1008), (4080, 4079, 0, 1008), (4086, 4085, 21, 1008), (4089, 4088, 0, 1008), (4096, 4094, 4095, 1008), (4100, 4098, 4099, 1001), (4104, 4102, 4103, 1008), (4108, 4106, 4107, 1001), (4112, 4110, 4111, 1008), (4116, 4115, 22, 1008), (4122, 4121, 23, 1008), (4128, 4126, 4127, 1001), (4133, 4132, 24, 1001), (4137, 4135, 4136, 1001), (4141, 4139, 4140, 1008), (4146, 4145, 0, 1008), (4150, 4148, 4149, 1001), (4156, 4154, 4155, 1001), (4160, 4158, 4159, 1001), (4164, 4162, 4163, 1001), (4168, 4166, 4167, 1002), (4172, 4170, 4171, 1001), (4176, 4174, 4175, 1011), (4180, 4178, 4179, 1006), (4185, 4184, 25, 1011), (4192, 4191, 26, 1011), (4196, 4195, 27, 1011), (4204, 4203, 28, 1011), (4207, 4206, 0, 1011), (4212, 4211, 29, 1011), (4216, 4215, 30, 1011), (4220, 4219, 31, 1011), (4225, 4224, 32, 1011), (4231, 4230, 33, 1011), (4234, 4233, 0, 1011), (4239, 4238, 34, 1011), (5003, 5002, 35, 1011), (5007, 5006, 36, 1011), (5012, 5010, 5011, 1011), (5016, 5014, 5015, 1011), (5020, 5018, 5019, 1011), (5024, 5022, 5023, 1011), (5029, 5027, 5028, 1001), (5033, 5031, 5032, 1006), (5038, 5037, 37, 1006), (5043, 5041, 5042, 1006), (5047, 5045, 5046, 1001), (5053, 5051, 5052, 1002), (5060, 5058, 5059, 1001), (5064, 5062, 5063, 1001), (5068, 5066, 5067, 1001), (5072, 5070, 5071, 1002), (5076, 5074, 5075, 1001), (5080, 5078, 5079, 1002), (5086, 5084, 5085, 1001), (5090, 5088, 5089, 1002), (5094, 5092, 5093, 1001), (5098, 5096, 5097, 1009), (5103, 5101, 5102, 1009), (5107, 5105, 5106, 1001), (5111, 5109, 5110, 1009), (5115, 5113, 5114, 1009), (5119, 5117, 5118, 1001), (5122, 5121, 0, 1010), (5126, 5124, 5125, 1010), (5130, 5128, 5129, 1010), (5134, 5132, 5133, 1001), (5138, 5136, 5137, 1010), (5142, 5140, 5141, 1010), (5146, 5145, 38, 1010), (5149, 5148, 0, 1010), (5154, 5153, 0, 1010), (5160, 5159, 39, 1010), (5164, 5163, 40, 1010), (5168, 5167, 41, 1010), (5172, 5170, 5171, 1001), (5176, 5174, 5175, 1010), (5180, 5178, 5179, 1001), (5184, 5182, 5183, 1005), (5188, 5186, 5187, 1001), (5192, 5190, 5191, 1005), (5196, 5194, 5195, 1001), (5200, 5198, 5199, 1005), (5204, 5202, 5203, 1005), (5208, 5207, 42, 1005), (5212, 5210, 5211, 1001), (5217, 5215, 5216, 1001), (5221, 5219, 5220, 1005), (5226, 5224, 5225, 1005), (5231, 5229, 5230, 1001), (5235, 5233, 5234, 1005), (5239, 5238, 0, 1010), (6003, 6001, 6002, 1001), (6007, 6005, 6006, 1002), (6011, 6009, 6010, 1010), (6016, 6015, 0, 1013), (6194, 6192, 6193, 1013), (6197, 6196, 0, 1013), (6201, 6200, 43, 1013), (6205, 6203, 6204, 1013), (6208, 6207, 0, 1013), (6213, 6211, 6212, 1013), (6217, 6216, 44, 1013), (6221, 6219, 6220, 1013), (6225, 6223, 6224, 1013), (6229, 6228, 45, 1013), (6233, 6232, 46, 1013), (6236, 6235, 0, 1013), (7000, 6239, 47, 1013), (7004, 7003, 48, 1013), (7008, 7006, 7007, 1013), (7012, 7011, 49, 1013), (7016, 7014, 7015, 1013), (7020, 7018, 7019, 1013), (7024, 7023, 50, 1013), (7028, 7027, 51, 1013), (7032, 7031, 52, 1013), (7036, 7035, 53, 1013), (7040, 7039, 54, 1013), (7044, 7043, 55, 1013), (7048, 7047, 56, 1013), (7052, 7051, 57, 1013), (7056, 7055, 58, 1013), (7059, 7058, 0, 1013), (7063, 7062, 59, 1013), (7067, 7066, 60, 1013), (7071, 7070, 61, 1013), (7075, 7074, 62, 1013), (7079, 7077, 7078, 1013), (7083, 7082, 63, 1013), (7087, 7086, 64, 1013), (7091, 7090, 65, 1013), (7095, 7094, 66, 1013), (7099, 7098, 67, 1013), (7102, 7101, 0, 1013), (7106, 7104, 7105, 1013), (7109, 7108, 0, 1013), (7113, 7112, 68, 1013), (7117, 7116, 69, 1013), (7121, 7120, 70, 1013), (7125, 7124, 71, 1013), (7129, 7128, 72, 1013), (7133, 7132, 73, 1013), (7137, 7136, 74, 1013), (7141, 7140, 75, 1013), (7145, 7144, 76, 1013), (7149, 7148, 77, 1013), (7153, 7152, 78, 1013), (7157, 7155, 7156, 1013), (7161, 7159, 7160, 1013), (7165, 7164, 79, 1013), (7169, 7168, 80, 1013), (7173, 7171, 7172, 1013), (7177, 7175, 7176, 1013), (7182, 7181, 81, 1013), (7186, 7185, 82, 1013), (7190, 7189, 0, 1013), (7194, 7192, 7193, 1013), (7198, 7196, 7197, 1013), (7202, 7201, 83, 1013), (7206, 7205, 84, 1013), (7210, 7208, 7209, 1013), (7215, 7213, 7214, 1013), (7219, 7218, 85, 1013), (7223, 7222, 86, 1013), (7226, 7225, 0, 1013), (7230, 7228, 7229, 1013), (7234, 7232, 7233, 1013), (7238, 7236, 7237, 1013), (8002, 8000, 8001, 1013), (8006, 8004, 8005, 1013), (8010, 8009, 87, 1013), (8014, 8013, 88, 1013), (8018, 8017, 89, 1013), (8021, 8020, 0, 1013), (8025, 8023, 8024, 1013), (8030, 8028, 8029, 1013), (8034, 8033, 90, 1013), (8038, 8036, 8037, 1013), (8042, 8040, 8041, 1013), (8046, 8044, 8045, 1013), (8050, 8048, 8049, 1013), (8054, 8052, 8053, 1013), (8058, 8056, 8057, 1013), (8062, 8060, 8061, 1013), (8066, 8064, 8065, 1013), (8070, 8069, 91, 1013), (8074, 8073, 92, 1013), (8077, 8076, 0, 1013), (8081, 8080, 93, 1013), (8085, 8084, 94, 1013), (8089, 8088, 95, 1013), (8093, 8092, 96, 1013), (8097, 8096, 97, 1013), (8101, 8100, 98, 1013), (8105, 8104, 99, 1013), (8109, 8108, 100, 1013), (8113, 8112, 101, 1013), (8117, 8116, 102, 1013), (8121, 8120, 103, 1013), (8125, 8123, 8124, 1013), (8129, 8128, 104, 1013), (8133, 8131, 8132, 1013), (8137, 8135, 8136, 1013), (8141, 8139, 8140, 1013), (8145, 8144, 105, 1013), (8149, 8147, 8148, 1013), (8153, 8151, 8152, 1013), (8157, 8155, 8156, 1013)]
/-- a method: its code, static or not, selected, its class ready, its parameters -/
def ro_chkM (y : Nat) : Bool := match ro_MP[y]? with
  | some p => ro_at p.2.1 (if (ro_m y).2.2.2.2.2.2 then .static (ro_m y).1 else .instanceMethod (ro_m y).1) && ((ro_m y).2.2.2.2.2.2 || (ro_m y).1.name == "<init>" || ro_at p.2.2.1 (.selects (ro_m y).1.cls (ro_m y).1 (ro_m y).1)) && ro_at p.2.2.2 (.initialized (ro_m y).1.cls) && decide ((ro_m y).1.cls = ro_Rn (ro_m y).2.2.2.2.1) && decide ((parseMethodDescriptor (ro_m y).1.desc).map (fun d => d.parameters.length) = some (ro_m y).2.2.2.2.2.1) && decide ((ro_m y).1.cls ≠ "java/lang/invoke/MethodHandle") && decide ((ro_m y).1.cls ≠ "java/lang/invoke/VarHandle") && plainName (ro_m y).1.cls && decide ((ro_m y).2.2.1 ≤ 20)
  | none => false
def ro_cd (y : Nat) : Cond := .code (ro_m y).1 (ro_m y).2.1 (ro_m y).2.2.1 (ro_m y).2.2.2.1
theorem ro_cd_good (y : Nat) : goodWord (ro_cd y) = true := by first | rfl | simp [ro_cd, goodWord, Cond.onTables, Cond.keeps, Cond.steady]
set_option maxRecDepth 100000 in
theorem ro_chkD_0 : (List.range 40).map (fun k => some (ro_cd (0 + k))) = (List.range 40).map (fun k => ro_wd ((ro_MP.getD (0 + k) (0, 0, 0, 0)).1)) := by rfl
set_option maxRecDepth 100000 in
theorem ro_chkD_1 : (List.range 40).map (fun k => some (ro_cd (40 + k))) = (List.range 40).map (fun k => ro_wd ((ro_MP.getD (40 + k) (0, 0, 0, 0)).1)) := by rfl
set_option maxRecDepth 100000 in
theorem ro_chkD_2 : (List.range 40).map (fun k => some (ro_cd (80 + k))) = (List.range 40).map (fun k => ro_wd ((ro_MP.getD (80 + k) (0, 0, 0, 0)).1)) := by rfl
set_option maxRecDepth 100000 in
theorem ro_chkD_3 : (List.range 40).map (fun k => some (ro_cd (120 + k))) = (List.range 40).map (fun k => ro_wd ((ro_MP.getD (120 + k) (0, 0, 0, 0)).1)) := by rfl
set_option maxRecDepth 100000 in
theorem ro_chkD_4 : (List.range 40).map (fun k => some (ro_cd (160 + k))) = (List.range 40).map (fun k => ro_wd ((ro_MP.getD (160 + k) (0, 0, 0, 0)).1)) := by rfl
set_option maxRecDepth 100000 in
theorem ro_chkD_5 : (List.range 40).map (fun k => some (ro_cd (200 + k))) = (List.range 40).map (fun k => ro_wd ((ro_MP.getD (200 + k) (0, 0, 0, 0)).1)) := by rfl
set_option maxRecDepth 100000 in
theorem ro_chkD_6 : (List.range 40).map (fun k => some (ro_cd (240 + k))) = (List.range 40).map (fun k => ro_wd ((ro_MP.getD (240 + k) (0, 0, 0, 0)).1)) := by rfl
set_option maxRecDepth 100000 in
theorem ro_chkD_7 : (List.range 27).map (fun k => some (ro_cd (280 + k))) = (List.range 27).map (fun k => ro_wd ((ro_MP.getD (280 + k) (0, 0, 0, 0)).1)) := by rfl
set_option maxRecDepth 100000 in
theorem ro_chkM_0 : (List.range 40).all (fun k => ro_chkM (0 + k)) = true := by decide +kernel
set_option maxRecDepth 100000 in
theorem ro_chkM_1 : (List.range 40).all (fun k => ro_chkM (40 + k)) = true := by decide +kernel
set_option maxRecDepth 100000 in
theorem ro_chkM_2 : (List.range 40).all (fun k => ro_chkM (80 + k)) = true := by decide +kernel
set_option maxRecDepth 100000 in
theorem ro_chkM_3 : (List.range 40).all (fun k => ro_chkM (120 + k)) = true := by decide +kernel
set_option maxRecDepth 100000 in
theorem ro_chkM_4 : (List.range 40).all (fun k => ro_chkM (160 + k)) = true := by decide +kernel
set_option maxRecDepth 100000 in
theorem ro_chkM_5 : (List.range 40).all (fun k => ro_chkM (200 + k)) = true := by decide +kernel
set_option maxRecDepth 100000 in
theorem ro_chkM_6 : (List.range 40).all (fun k => ro_chkM (240 + k)) = true := by decide +kernel
set_option maxRecDepth 100000 in
theorem ro_chkM_7 : (List.range 27).all (fun k => ro_chkM (280 + k)) = true := by decide +kernel
