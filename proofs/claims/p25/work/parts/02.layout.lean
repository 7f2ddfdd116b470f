def R_law : String := "MistletoeCourtLaw"
/-! THE FRAME: after the constructors the heap has a fixed shape of 93 cells; the state is what the ints, the arrays and the longs hold -/
def gtbl : List Cond := lw_tbl.filter goodWord
theorem gt_of {w : Cond} (i : Nat) (h : lw_tbl[i]? = some w) (hg : goodWord w = true) : w ∈ gtbl := List.mem_filter.mpr ⟨List.mem_of_getElem? h, hg⟩
def jR0 : String := "MistletoeCourt"
def jT0 : u_T := fun k => match k with
  | 0 => ("MistletoeCourt", "page", "LMistletoeCourt$Page;", true)
  | 1 => ("MistletoeCourt", "reader", "LMistletoeCourt$Reader;", true)
  | 2 => ("MistletoeCourt", "now", "LMistletoeCourt$Shire;", true)
  | 3 => ("MistletoeCourt", "kept", "LMistletoeCourt$Shire;", true)
  | 4 => ("MistletoeCourt", "guesser", "LMistletoeCourt$Guesser;", true)
  | 5 => ("MistletoeCourt", "planner", "LMistletoeCourt$Planner;", true)
  | 6 => ("MistletoeCourt", "contest", "LMistletoeCourt$Contest;", true)
  | 7 => ("MistletoeCourt", "foresight", "LMistletoeCourt$Foresight;", true)
  | 8 => ("MistletoeCourt", "isKept", "Z", false)
  | 9 => ("MistletoeCourt", "readings", "I", false)
  | _ => ("MistletoeCourt", "plans", "I", false)
def jt0 : Nat → FieldType := fun k => match k with
  | 0 => .object "MistletoeCourt$Page"
  | 1 => .object "MistletoeCourt$Reader"
  | 2 => .object "MistletoeCourt$Shire"
  | 3 => .object "MistletoeCourt$Shire"
  | 4 => .object "MistletoeCourt$Guesser"
  | 5 => .object "MistletoeCourt$Planner"
  | 6 => .object "MistletoeCourt$Contest"
  | 7 => .object "MistletoeCourt$Foresight"
  | 8 => .boolean
  | 9 => .int
  | _ => .int
theorem jn0 : ∀ a, a < 11 → ∀ b, b < 11 → a ≠ b → (jT0 a).2.1 ≠ (jT0 b).2.1 := by decide +kernel
theorem jk0 : ∀ k, k < 11 → parseFieldDescriptor (jT0 k).2.2.1 = some (jt0 k) := by decide +kernel
theorem ji0 : ∀ w ∈ u_ws jR0 jT0 11, w ∈ gtbl := by decide +kernel
def jR1 : String := "MistletoeCourt$Page"
def jT1 : u_T := fun k => match k with
  | 0 => ("MistletoeCourt$Page", "codes", "LMistletoeCourt$Row;", true)
  | _ => ("MistletoeCourt$Page", "size", "I", false)
def jt1 : Nat → FieldType := fun k => match k with
  | 0 => .object "MistletoeCourt$Row"
  | _ => .int
theorem jn1 : ∀ a, a < 2 → ∀ b, b < 2 → a ≠ b → (jT1 a).2.1 ≠ (jT1 b).2.1 := by decide +kernel
theorem jk1 : ∀ k, k < 2 → parseFieldDescriptor (jT1 k).2.2.1 = some (jt1 k) := by decide +kernel
theorem ji1 : ∀ w ∈ u_ws jR1 jT1 2, w ∈ gtbl := by decide +kernel
def jR2 : String := "MistletoeCourt$Reader"
def jT2 : u_T := fun k => match k with
  | 0 => ("MistletoeCourt$Reader", "page", "LMistletoeCourt$Page;", true)
  | 1 => ("MistletoeCourt$Reader", "part", "I", false)
  | 2 => ("MistletoeCourt$Reader", "trees", "I", false)
  | _ => ("MistletoeCourt$Reader", "suits", "I", false)
def jt2 : Nat → FieldType := fun k => match k with
  | 0 => .object "MistletoeCourt$Page"
  | 1 => .int
  | 2 => .int
  | _ => .int
theorem jn2 : ∀ a, a < 4 → ∀ b, b < 4 → a ≠ b → (jT2 a).2.1 ≠ (jT2 b).2.1 := by decide +kernel
theorem jk2 : ∀ k, k < 4 → parseFieldDescriptor (jT2 k).2.2.1 = some (jt2 k) := by decide +kernel
theorem ji2 : ∀ w ∈ u_ws jR2 jT2 4, w ∈ gtbl := by decide +kernel
def jR3 : String := "MistletoeCourt$Shire"
def jT3 : u_T := fun k => match k with
  | 0 => ("MistletoeCourt$Shire", "trees", "I", false)
  | 1 => ("MistletoeCourt$Shire", "suits", "I", false)
  | 2 => ("MistletoeCourt$Shire", "berries", "LMistletoeCourt$Row;", true)
  | 3 => ("MistletoeCourt$Shire", "birds", "LMistletoeCourt$Row;", true)
  | 4 => ("MistletoeCourt$Shire", "kinds", "LMistletoeCourt$Row;", true)
  | 5 => ("MistletoeCourt$Shire", "needs", "LMistletoeCourt$Row;", true)
  | 6 => ("MistletoeCourt$Shire", "worths", "LMistletoeCourt$Row;", true)
  | 7 => ("MistletoeCourt$Shire", "hangs", "LMistletoeCourt$Row;", true)
  | 8 => ("MistletoeCourt$Shire", "straight", "LMistletoeCourt$Row;", true)
  | 9 => ("MistletoeCourt$Shire", "below", "LMistletoeCourt$Row;", true)
  | 10 => ("MistletoeCourt$Shire", "sightings", "LMistletoeCourt$Sightings;", true)
  | 11 => ("MistletoeCourt$Shire", "righted", "I", false)
  | 12 => ("MistletoeCourt$Shire", "years", "I", false)
  | _ => ("MistletoeCourt$Shire", "rightings", "I", false)
def jt3 : Nat → FieldType := fun k => match k with
  | 0 => .int
  | 1 => .int
  | 2 => .object "MistletoeCourt$Row"
  | 3 => .object "MistletoeCourt$Row"
  | 4 => .object "MistletoeCourt$Row"
  | 5 => .object "MistletoeCourt$Row"
  | 6 => .object "MistletoeCourt$Row"
  | 7 => .object "MistletoeCourt$Row"
  | 8 => .object "MistletoeCourt$Row"
  | 9 => .object "MistletoeCourt$Row"
  | 10 => .object "MistletoeCourt$Sightings"
  | 11 => .int
  | 12 => .int
  | _ => .int
theorem jn3 : ∀ a, a < 14 → ∀ b, b < 14 → a ≠ b → (jT3 a).2.1 ≠ (jT3 b).2.1 := by decide +kernel
theorem jk3 : ∀ k, k < 14 → parseFieldDescriptor (jT3 k).2.2.1 = some (jt3 k) := by decide +kernel
theorem ji3 : ∀ w ∈ u_ws jR3 jT3 14, w ∈ gtbl := by decide +kernel
def jR4 : String := "MistletoeCourt$Sightings"
def jT4 : u_T := fun k => match k with
  | 0 => ("MistletoeCourt$Sightings", "suits", "LMistletoeCourt$Row;", true)
  | 1 => ("MistletoeCourt$Sightings", "berries", "LMistletoeCourt$Row;", true)
  | 2 => ("MistletoeCourt$Sightings", "enough", "LMistletoeCourt$Row;", true)
  | _ => ("MistletoeCourt$Sightings", "size", "I", false)
def jt4 : Nat → FieldType := fun k => match k with
  | 0 => .object "MistletoeCourt$Row"
  | 1 => .object "MistletoeCourt$Row"
  | 2 => .object "MistletoeCourt$Row"
  | _ => .int
theorem jn4 : ∀ a, a < 4 → ∀ b, b < 4 → a ≠ b → (jT4 a).2.1 ≠ (jT4 b).2.1 := by decide +kernel
theorem jk4 : ∀ k, k < 4 → parseFieldDescriptor (jT4 k).2.2.1 = some (jt4 k) := by decide +kernel
theorem ji4 : ∀ w ∈ u_ws jR4 jT4 4, w ∈ gtbl := by decide +kernel
def jR5 : String := "MistletoeCourt$Guesser"
def jT5 : u_T := fun k => match k with
  | _ => ("MistletoeCourt$Guesser", "shire", "LMistletoeCourt$Shire;", true)
def jt5 : Nat → FieldType := fun k => match k with
  | _ => .object "MistletoeCourt$Shire"
theorem jn5 : ∀ a, a < 1 → ∀ b, b < 1 → a ≠ b → (jT5 a).2.1 ≠ (jT5 b).2.1 := by decide +kernel
theorem jk5 : ∀ k, k < 1 → parseFieldDescriptor (jT5 k).2.2.1 = some (jt5 k) := by decide +kernel
theorem ji5 : ∀ w ∈ u_ws jR5 jT5 1, w ∈ gtbl := by decide +kernel
def jR6 : String := "MistletoeCourt$Planner"
def jT6 : u_T := fun k => match k with
  | 0 => ("MistletoeCourt$Planner", "shire", "LMistletoeCourt$Shire;", true)
  | 1 => ("MistletoeCourt$Planner", "left", "LMistletoeCourt$Row;", true)
  | 2 => ("MistletoeCourt$Planner", "places", "LMistletoeCourt$Row;", true)
  | 3 => ("MistletoeCourt$Planner", "bestPlaces", "LMistletoeCourt$Row;", true)
  | 4 => ("MistletoeCourt$Planner", "bestHolds", "I", false)
  | _ => ("MistletoeCourt$Planner", "bestSpent", "I", false)
def jt6 : Nat → FieldType := fun k => match k with
  | 0 => .object "MistletoeCourt$Shire"
  | 1 => .object "MistletoeCourt$Row"
  | 2 => .object "MistletoeCourt$Row"
  | 3 => .object "MistletoeCourt$Row"
  | 4 => .int
  | _ => .int
theorem jn6 : ∀ a, a < 6 → ∀ b, b < 6 → a ≠ b → (jT6 a).2.1 ≠ (jT6 b).2.1 := by decide +kernel
theorem jk6 : ∀ k, k < 6 → parseFieldDescriptor (jT6 k).2.2.1 = some (jt6 k) := by decide +kernel
theorem ji6 : ∀ w ∈ u_ws jR6 jT6 6, w ∈ gtbl := by decide +kernel
def jR7 : String := "MistletoeCourt$Contest"
def jT7 : u_T := fun k => match k with
  | 0 => ("MistletoeCourt$Contest", "shire", "LMistletoeCourt$Shire;", true)
  | 1 => ("MistletoeCourt$Contest", "leads", "LMistletoeCourt$Row;", true)
  | 2 => ("MistletoeCourt$Contest", "costs", "LMistletoeCourt$Row;", true)
  | 3 => ("MistletoeCourt$Contest", "berries", "I", false)
  | _ => ("MistletoeCourt$Contest", "opening", "I", false)
def jt7 : Nat → FieldType := fun k => match k with
  | 0 => .object "MistletoeCourt$Shire"
  | 1 => .object "MistletoeCourt$Row"
  | 2 => .object "MistletoeCourt$Row"
  | 3 => .int
  | _ => .int
theorem jn7 : ∀ a, a < 5 → ∀ b, b < 5 → a ≠ b → (jT7 a).2.1 ≠ (jT7 b).2.1 := by decide +kernel
theorem jk7 : ∀ k, k < 5 → parseFieldDescriptor (jT7 k).2.2.1 = some (jt7 k) := by decide +kernel
theorem ji7 : ∀ w ∈ u_ws jR7 jT7 5, w ∈ gtbl := by decide +kernel
def jR8 : String := "MistletoeCourt$Foresight"
def jT8 : u_T := fun k => match k with
  | 0 => ("MistletoeCourt$Foresight", "real", "LMistletoeCourt$Shire;", true)
  | 1 => ("MistletoeCourt$Foresight", "would", "LMistletoeCourt$Shire;", true)
  | _ => ("MistletoeCourt$Foresight", "seed", "J", false)
def jt8 : Nat → FieldType := fun k => match k with
  | 0 => .object "MistletoeCourt$Shire"
  | 1 => .object "MistletoeCourt$Shire"
  | _ => .long
theorem jn8 : ∀ a, a < 3 → ∀ b, b < 3 → a ≠ b → (jT8 a).2.1 ≠ (jT8 b).2.1 := by decide +kernel
theorem jk8 : ∀ k, k < 3 → parseFieldDescriptor (jT8 k).2.2.1 = some (jt8 k) := by decide +kernel
theorem ji8 : ∀ w ∈ u_ws jR8 jT8 3, w ∈ gtbl := by decide +kernel
def jR9 : String := "MistletoeCourt$Row"
def jT9 : u_T := fun k => match k with
  | _ => ("MistletoeCourt$Row", "cells", "[I", true)
def jt9 : Nat → FieldType := fun k => match k with
  | _ => .array .int
theorem jn9 : ∀ a, a < 1 → ∀ b, b < 1 → a ≠ b → (jT9 a).2.1 ≠ (jT9 b).2.1 := by decide +kernel
theorem jk9 : ∀ k, k < 1 → parseFieldDescriptor (jT9 k).2.2.1 = some (jt9 k) := by decide +kernel
theorem ji9 : ∀ w ∈ u_ws jR9 jT9 1, w ∈ gtbl := by decide +kernel
abbrev classes : List vw_C := [(jR0, jT0, 11), (jR1, jT1, 2), (jR2, jT2, 4), (jR3, jT3, 14), (jR4, jT4, 4), (jR5, jT5, 1), (jR6, jT6, 6), (jR7, jT7, 5), (jR8, jT8, 3), (jR9, jT9, 1)]
def jv_cls (k : Nat) : Nat := ([0, 1, 9, 100, 2, 3, 9, 100, 9, 100, 9, 100, 9, 100, 9, 100, 9, 100, 9, 100, 9, 100, 4, 9, 100, 9, 100, 9, 100, 3, 9, 100, 9, 100, 9, 100, 9, 100, 9, 100, 9, 100, 9, 100, 9, 100, 4, 9, 100, 9, 100, 9, 100, 5, 6, 9, 100, 9, 100, 9, 100, 7, 9, 100, 9, 100, 8, 3, 9, 100, 9, 100, 9, 100, 9, 100, 9, 100, 9, 100, 9, 100, 9, 100, 4, 9, 100, 9, 100, 9, 100, 100, 100] : List Nat).getD k 99
def jv_ln (k : Nat) : Nat := ([0, 0, 0, 46, 0, 0, 0, 3, 0, 3, 0, 7, 0, 7, 0, 7, 0, 7, 0, 7, 0, 7, 0, 0, 8, 0, 8, 0, 8, 0, 0, 3, 0, 3, 0, 7, 0, 7, 0, 7, 0, 7, 0, 7, 0, 7, 0, 0, 8, 0, 8, 0, 8, 0, 0, 0, 3, 0, 7, 0, 7, 0, 0, 128, 0, 7, 0, 0, 0, 3, 0, 3, 0, 7, 0, 7, 0, 7, 0, 7, 0, 7, 0, 7, 0, 0, 8, 0, 8, 0, 8, 45, 45] : List Nat).getD k 0
def jv_rf (k j : Nat) : Nat := (([[1, 4, 5, 29, 53, 54, 61, 66, 0, 0, 0], [2, 0], [3], [], [1, 0, 0, 0], [0, 0, 6, 8, 10, 12, 14, 16, 18, 20, 22, 0, 0, 0], [7], [], [9], [], [11], [], [13], [], [15], [], [17], [], [19], [], [21], [], [23, 25, 27, 0], [24], [], [26], [], [28], [], [0, 0, 30, 32, 34, 36, 38, 40, 42, 44, 46, 0, 0, 0], [31], [], [33], [], [35], [], [37], [], [39], [], [41], [], [43], [], [45], [], [47, 49, 51, 0], [48], [], [50], [], [52], [], [5], [5, 55, 57, 59, 0, 0], [56], [], [58], [], [60], [], [5, 62, 64, 0, 0], [63], [], [65], [], [5, 67, 0], [0, 0, 68, 70, 72, 74, 76, 78, 80, 82, 84, 0, 0, 0], [69], [], [71], [], [73], [], [75], [], [77], [], [79], [], [81], [], [83], [], [85, 87, 89, 0], [86], [], [88], [], [90], [], [], []] : List (List Nat)).getD k []).getD j 0
def jv_ty (c j : Nat) : Nat := (([[1, 1, 1, 1, 1, 1, 1, 1, 0, 0, 0], [1, 0], [1, 0, 0, 0], [0, 0, 1, 1, 1, 1, 1, 1, 1, 1, 1, 0, 0, 0], [1, 1, 1, 0], [1], [1, 1, 1, 1, 0, 0], [1, 1, 1, 0, 0], [1, 1, 2], [1]] : List (List Nat)).getD c []).getD j 0
def jv_nf (c : Nat) : Nat := ([11, 2, 4, 14, 4, 1, 6, 5, 3, 1] : List Nat).getD c 0
theorem jl_row : ∀ k, k < 93 → jv_cls k = 9 → k + 1 < 93 ∧ jv_cls (k + 1) = 100 ∧ jv_rf k 0 = k + 1 := by decide +kernel
theorem jl_sh2 : ∀ k, k < 93 → jv_cls k = 3 → k + 1 < 93 ∧ jv_cls (k + 1) = 9 ∧ jv_rf k 2 = k + 1 := by decide +kernel
theorem jl_sh3 : ∀ k, k < 93 → jv_cls k = 3 → k + 3 < 93 ∧ jv_cls (k + 3) = 9 ∧ jv_rf k 3 = k + 3 := by decide +kernel
theorem jl_sh4 : ∀ k, k < 93 → jv_cls k = 3 → k + 5 < 93 ∧ jv_cls (k + 5) = 9 ∧ jv_rf k 4 = k + 5 := by decide +kernel
theorem jl_sh5 : ∀ k, k < 93 → jv_cls k = 3 → k + 7 < 93 ∧ jv_cls (k + 7) = 9 ∧ jv_rf k 5 = k + 7 := by decide +kernel
theorem jl_sh6 : ∀ k, k < 93 → jv_cls k = 3 → k + 9 < 93 ∧ jv_cls (k + 9) = 9 ∧ jv_rf k 6 = k + 9 := by decide +kernel
theorem jl_sh7 : ∀ k, k < 93 → jv_cls k = 3 → k + 11 < 93 ∧ jv_cls (k + 11) = 9 ∧ jv_rf k 7 = k + 11 := by decide +kernel
theorem jl_sh8 : ∀ k, k < 93 → jv_cls k = 3 → k + 13 < 93 ∧ jv_cls (k + 13) = 9 ∧ jv_rf k 8 = k + 13 := by decide +kernel
theorem jl_sh9 : ∀ k, k < 93 → jv_cls k = 3 → k + 15 < 93 ∧ jv_cls (k + 15) = 9 ∧ jv_rf k 9 = k + 15 := by decide +kernel
theorem jl_sh10 : ∀ k, k < 93 → jv_cls k = 3 → k + 17 < 93 ∧ jv_cls (k + 17) = 4 ∧ jv_rf k 10 = k + 17 := by decide +kernel
theorem jl_si0 : ∀ k, k < 93 → jv_cls k = 4 → k + 1 < 93 ∧ jv_cls (k + 1) = 9 ∧ jv_rf k 0 = k + 1 := by decide +kernel
theorem jl_si1 : ∀ k, k < 93 → jv_cls k = 4 → k + 3 < 93 ∧ jv_cls (k + 3) = 9 ∧ jv_rf k 1 = k + 3 := by decide +kernel
theorem jl_si2 : ∀ k, k < 93 → jv_cls k = 4 → k + 5 < 93 ∧ jv_cls (k + 5) = 9 ∧ jv_rf k 2 = k + 5 := by decide +kernel
