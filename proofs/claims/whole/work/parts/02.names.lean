/-! names and field tables of the classes (by program, out of the printed names) -/
def RX0 : String := "MastMove$Area"
def TX0 : u_T := fun k => match k with
  | 0 => ("MastMove$Area", "x", "I", false)
  | 1 => ("MastMove$Area", "y", "I", false)
  | 2 => ("MastMove$Area", "homes", "I", false)
  | 3 => ("MastMove$Area", "poor", "I", false)
  | 4 => ("MastMove$Area", "aged", "I", false)
  | 5 => ("MastMove$Area", "boxes", "I", false)
  | 6 => ("MastMove$Area", "mast", "I", false)
  | _ => ("MastMove$Area", "turns", "I", false)
def tyX0 : Nat → FieldType := fun k => match k with
  | 0 => .int
  | 1 => .int
  | 2 => .int
  | 3 => .int
  | 4 => .int
  | 5 => .int
  | 6 => .int
  | _ => .int
theorem nmX0 : ∀ a, a < 8 → ∀ b, b < 8 → a ≠ b → (TX0 a).2.1 ≠ (TX0 b).2.1 := by decide +kernel
theorem tyX0_ok : ∀ k, k < 8 → parseFieldDescriptor (TX0 k).2.2.1 = some (tyX0 k) := by decide +kernel
def RX1 : String := "MastMove$Land"
def TX1 : u_T := fun k => match k with
  | 0 => ("MastMove$Land", "masts", "[LMastMove$Mast;", true)
  | 1 => ("MastMove$Land", "areas", "[LMastMove$Area;", true)
  | 2 => ("MastMove$Land", "mastCount", "I", false)
  | 3 => ("MastMove$Land", "abroadCount", "I", false)
  | 4 => ("MastMove$Land", "areaCount", "I", false)
  | 5 => ("MastMove$Land", "week", "I", false)
  | 6 => ("MastMove$Land", "least", "I", false)
  | _ => ("MastMove$Land", "ratio", "I", false)
def tyX1 : Nat → FieldType := fun k => match k with
  | 0 => .array (.object "MastMove$Mast")
  | 1 => .array (.object "MastMove$Area")
  | 2 => .int
  | 3 => .int
  | 4 => .int
  | 5 => .int
  | 6 => .int
  | _ => .int
theorem nmX1 : ∀ a, a < 8 → ∀ b, b < 8 → a ≠ b → (TX1 a).2.1 ≠ (TX1 b).2.1 := by decide +kernel
theorem tyX1_ok : ∀ k, k < 8 → parseFieldDescriptor (TX1 k).2.2.1 = some (tyX1 k) := by decide +kernel
def RX2 : String := "MastMove$Law"
def TX2 : u_T := fun k => match k with
  | 0 => ("MastMove$Law", "steps", "[I", true)
  | 1 => ("MastMove$Law", "sumFrom", "[I", true)
  | 2 => ("MastMove$Law", "sumTo", "[I", true)
  | 3 => ("MastMove$Law", "condsTo", "[I", true)
  | 4 => ("MastMove$Law", "stack", "[J", true)
  | 5 => ("MastMove$Law", "stepCount", "I", false)
  | 6 => ("MastMove$Law", "gives", "I", false)
  | 7 => ("MastMove$Law", "top", "I", false)
  | 8 => ("MastMove$Law", "rules", "I", false)
  | _ => ("MastMove$Law", "cap", "I", false)
def tyX2 : Nat → FieldType := fun k => match k with
  | 0 => .array .int
  | 1 => .array .int
  | 2 => .array .int
  | 3 => .array .int
  | 4 => .array .long
  | 5 => .int
  | 6 => .int
  | 7 => .int
  | 8 => .int
  | _ => .int
theorem nmX2 : ∀ a, a < 10 → ∀ b, b < 10 → a ≠ b → (TX2 a).2.1 ≠ (TX2 b).2.1 := by decide +kernel
theorem tyX2_ok : ∀ k, k < 10 → parseFieldDescriptor (TX2 k).2.2.1 = some (tyX2 k) := by decide +kernel
def RX3 : String := "MastMove$LawReader"
def TX3 : u_T := fun k => match k with
  | 0 => ("MastMove$LawReader", "tokens", "LMastMove$Tokens;", true)
  | _ => ("MastMove$LawReader", "draft", "LMastMove$Law;", false)
def tyX3 : Nat → FieldType := fun k => match k with
  | 0 => .object "MastMove$Tokens"
  | _ => .object "MastMove$Law"
theorem nmX3 : ∀ a, a < 2 → ∀ b, b < 2 → a ≠ b → (TX3 a).2.1 ≠ (TX3 b).2.1 := by decide +kernel
theorem tyX3_ok : ∀ k, k < 2 → parseFieldDescriptor (TX3 k).2.2.1 = some (tyX3 k) := by decide +kernel
def RX4 : String := "MastMove$Mast"
def TX4 : u_T := fun k => match k with
  | 0 => ("MastMove$Mast", "x", "I", false)
  | 1 => ("MastMove$Mast", "y", "I", false)
  | 2 => ("MastMove$Mast", "power", "I", false)
  | 3 => ("MastMove$Mast", "feed", "I", false)
  | 4 => ("MastMove$Mast", "high", "Z", false)
  | 5 => ("MastMove$Mast", "channel", "I", false)
  | 6 => ("MastMove$Mast", "newChannel", "I", false)
  | 7 => ("MastMove$Mast", "week", "I", false)
  | 8 => ("MastMove$Mast", "until", "I", false)
  | 9 => ("MastMove$Mast", "isNew", "Z", false)
  | _ => ("MastMove$Mast", "failed", "Z", false)
def tyX4 : Nat → FieldType := fun k => match k with
  | 0 => .int
  | 1 => .int
  | 2 => .int
  | 3 => .int
  | 4 => .boolean
  | 5 => .int
  | 6 => .int
  | 7 => .int
  | 8 => .int
  | 9 => .boolean
  | _ => .boolean
theorem nmX4 : ∀ a, a < 11 → ∀ b, b < 11 → a ≠ b → (TX4 a).2.1 ≠ (TX4 b).2.1 := by decide +kernel
theorem tyX4_ok : ∀ k, k < 11 → parseFieldDescriptor (TX4 k).2.2.1 = some (tyX4 k) := by decide +kernel
def RX5 : String := "MastMove$Planner"
def TX5 : u_T := fun k => match k with
  | 0 => ("MastMove$Planner", "soonest", "[I", true)
  | 1 => ("MastMove$Planner", "latest", "[I", true)
  | 2 => ("MastMove$Planner", "calmFrom", "[I", true)
  | 3 => ("MastMove$Planner", "calmUpTo", "[I", true)
  | _ => ("MastMove$Planner", "crews", "I", false)
def tyX5 : Nat → FieldType := fun k => match k with
  | 0 => .array .int
  | 1 => .array .int
  | 2 => .array .int
  | 3 => .array .int
  | _ => .int
theorem nmX5 : ∀ a, a < 5 → ∀ b, b < 5 → a ≠ b → (TX5 a).2.1 ≠ (TX5 b).2.1 := by decide +kernel
theorem tyX5_ok : ∀ k, k < 5 → parseFieldDescriptor (TX5 k).2.2.1 = some (tyX5 k) := by decide +kernel
def RX6 : String := "MastMove$Row"
def TX6 : u_T := fun k => match k with
  | 0 => ("MastMove$Row", "numbers", "[J", true)
  | 1 => ("MastMove$Row", "width", "I", false)
  | _ => ("MastMove$Row", "size", "I", false)
def tyX6 : Nat → FieldType := fun k => match k with
  | 0 => .array .long
  | 1 => .int
  | _ => .int
theorem nmX6 : ∀ a, a < 3 → ∀ b, b < 3 → a ≠ b → (TX6 a).2.1 ≠ (TX6 b).2.1 := by decide +kernel
theorem tyX6_ok : ∀ k, k < 3 → parseFieldDescriptor (TX6 k).2.2.1 = some (tyX6 k) := by decide +kernel
def RX7 : String := "MastMove$Tape"
def TX7 : u_T := fun k => match k with
  | 0 => ("MastMove$Tape", "bytes", "[B", true)
  | _ => ("MastMove$Tape", "length", "I", false)
def tyX7 : Nat → FieldType := fun k => match k with
  | 0 => .array .byte
  | _ => .int
theorem nmX7 : ∀ a, a < 2 → ∀ b, b < 2 → a ≠ b → (TX7 a).2.1 ≠ (TX7 b).2.1 := by decide +kernel
theorem tyX7_ok : ∀ k, k < 2 → parseFieldDescriptor (TX7 k).2.2.1 = some (tyX7 k) := by decide +kernel
def RX8 : String := "MastMove$Tokens"
def TX8 : u_T := fun k => match k with
  | 0 => ("MastMove$Tokens", "kinds", "[I", true)
  | 1 => ("MastMove$Tokens", "places", "[I", true)
  | 2 => ("MastMove$Tokens", "count", "I", false)
  | 3 => ("MastMove$Tokens", "at", "I", false)
  | _ => ("MastMove$Tokens", "textLength", "I", false)
def tyX8 : Nat → FieldType := fun k => match k with
  | 0 => .array .int
  | 1 => .array .int
  | 2 => .int
  | 3 => .int
  | _ => .int
theorem nmX8 : ∀ a, a < 5 → ∀ b, b < 5 → a ≠ b → (TX8 a).2.1 ≠ (TX8 b).2.1 := by decide +kernel
theorem tyX8_ok : ∀ k, k < 5 → parseFieldDescriptor (TX8 k).2.2.1 = some (tyX8 k) := by decide +kernel
def RX9 : String := "MastMove$Tuner"
def TX9 : u_T := fun k => match k with
  | 0 => ("MastMove$Tuner", "near", "[I", true)
  | 1 => ("MastMove$Tuner", "banned", "[I", true)
  | 2 => ("MastMove$Tuner", "blocked", "[I", true)
  | 3 => ("MastMove$Tuner", "chosen", "[I", true)
  | _ => ("MastMove$Tuner", "looked", "I", false)
def tyX9 : Nat → FieldType := fun k => match k with
  | 0 => .array .int
  | 1 => .array .int
  | 2 => .array .int
  | 3 => .array .int
  | _ => .int
theorem nmX9 : ∀ a, a < 5 → ∀ b, b < 5 → a ≠ b → (TX9 a).2.1 ≠ (TX9 b).2.1 := by decide +kernel
theorem tyX9_ok : ∀ k, k < 5 → parseFieldDescriptor (TX9 k).2.2.1 = some (tyX9 k) := by decide +kernel
def RX10 : String := "MastMove"
def TX10 : u_T := fun k => match k with
  | 0 => ("MastMove", "land", "LMastMove$Land;", true)
  | 1 => ("MastMove", "planner", "LMastMove$Planner;", true)
  | 2 => ("MastMove", "tuner", "LMastMove$Tuner;", true)
  | 3 => ("MastMove", "tape", "LMastMove$Tape;", true)
  | 4 => ("MastMove", "reader", "LMastMove$LawReader;", true)
  | 5 => ("MastMove", "rows", "[LMastMove$Row;", true)
  | 6 => ("MastMove", "facts", "[I", true)
  | 7 => ("MastMove", "law", "LMastMove$Law;", false)
  | 8 => ("MastMove", "lawFault", "I", false)
  | 9 => ("MastMove", "stock", "I", false)
  | 10 => ("MastMove", "planWeeks", "I", false)
  | _ => ("MastMove", "tuned", "Z", false)
def tyX10 : Nat → FieldType := fun k => match k with
  | 0 => .object "MastMove$Land"
  | 1 => .object "MastMove$Planner"
  | 2 => .object "MastMove$Tuner"
  | 3 => .object "MastMove$Tape"
  | 4 => .object "MastMove$LawReader"
  | 5 => .array (.object "MastMove$Row")
  | 6 => .array .int
  | 7 => .object "MastMove$Law"
  | 8 => .int
  | 9 => .int
  | 10 => .int
  | _ => .boolean
theorem nmX10 : ∀ a, a < 12 → ∀ b, b < 12 → a ≠ b → (TX10 a).2.1 ≠ (TX10 b).2.1 := by decide +kernel
theorem tyX10_ok : ∀ k, k < 12 → parseFieldDescriptor (TX10 k).2.2.1 = some (tyX10 k) := by decide +kernel
def RX11 : String := "MastMoveModel"
def TX11 : u_T := fun k => match k with
  | 0 => ("MastMoveModel", "thrown", "I", false)
  | 1 => ("MastMoveModel", "width", "[I", true)
  | 2 => ("MastMoveModel", "size", "[I", true)
  | 3 => ("MastMoveModel", "cells", "[J", true)
  | 4 => ("MastMoveModel", "moved", "[J", true)
  | 5 => ("MastMoveModel", "masts", "I", false)
  | 6 => ("MastMoveModel", "abroad", "I", false)
  | 7 => ("MastMoveModel", "areas", "I", false)
  | 8 => ("MastMoveModel", "week", "I", false)
  | 9 => ("MastMoveModel", "strong", "I", false)
  | 10 => ("MastMoveModel", "ratio", "I", false)
  | 11 => ("MastMoveModel", "stock", "I", false)
  | 12 => ("MastMoveModel", "rules", "I", false)
  | 13 => ("MastMoveModel", "x", "[I", true)
  | 14 => ("MastMoveModel", "y", "[I", true)
  | 15 => ("MastMoveModel", "power", "[I", true)
  | 16 => ("MastMoveModel", "old", "[I", true)
  | 17 => ("MastMoveModel", "source", "[I", true)
  | 18 => ("MastMoveModel", "until", "[I", true)
  | 19 => ("MastMoveModel", "isHigh", "[Z", true)
  | 20 => ("MastMoveModel", "isNew", "[Z", true)
  | 21 => ("MastMoveModel", "isFailed", "[Z", true)
  | 22 => ("MastMoveModel", "ax", "[I", true)
  | 23 => ("MastMoveModel", "ay", "[I", true)
  | 24 => ("MastMoveModel", "homes", "[I", true)
  | 25 => ("MastMoveModel", "poor", "[I", true)
  | 26 => ("MastMoveModel", "aged", "[I", true)
  | 27 => ("MastMoveModel", "boxes", "[I", true)
  | 28 => ("MastMoveModel", "aerial", "[I", true)
  | 29 => ("MastMoveModel", "turns", "[I", true)
  | 30 => ("MastMoveModel", "weeks", "I", false)
  | 31 => ("MastMoveModel", "looked", "I", false)
  | 32 => ("MastMoveModel", "hasChannels", "Z", false)
  | 33 => ("MastMoveModel", "planned", "[I", true)
  | 34 => ("MastMoveModel", "channel", "[I", true)
  | 35 => ("MastMoveModel", "tape", "[B", true)
  | 36 => ("MastMoveModel", "taped", "I", false)
  | 37 => ("MastMoveModel", "faultPlace", "I", false)
  | 38 => ("MastMoveModel", "text", "[B", true)
  | 39 => ("MastMoveModel", "textMany", "[I", true)
  | 40 => ("MastMoveModel", "can", "[Z", true)
  | 41 => ("MastMoveModel", "near", "[Z", true)
  | 42 => ("MastMoveModel", "row", "I", false)
  | 43 => ("MastMoveModel", "many", "I", false)
  | 44 => ("MastMoveModel", "to", "I", false)
  | 45 => ("MastMoveModel", "from", "I", false)
  | 46 => ("MastMoveModel", "sort", "I", false)
  | 47 => ("MastMoveModel", "open", "I", false)
  | 48 => ("MastMoveModel", "told", "I", false)
  | 49 => ("MastMoveModel", "cap", "I", false)
  | 50 => ("MastMoveModel", "number", "J", false)
  | 51 => ("MastMoveModel", "given", "J", false)
  | 52 => ("MastMoveModel", "isBad", "Z", false)
  | 53 => ("MastMoveModel", "hasGiven", "Z", false)
  | _ => ("MastMoveModel", "known", "[J", true)
def tyX11 : Nat → FieldType := fun k => match k with
  | 0 => .int
  | 1 => .array .int
  | 2 => .array .int
  | 3 => .array .long
  | 4 => .array .long
  | 5 => .int
  | 6 => .int
  | 7 => .int
  | 8 => .int
  | 9 => .int
  | 10 => .int
  | 11 => .int
  | 12 => .int
  | 13 => .array .int
  | 14 => .array .int
  | 15 => .array .int
  | 16 => .array .int
  | 17 => .array .int
  | 18 => .array .int
  | 19 => .array .boolean
  | 20 => .array .boolean
  | 21 => .array .boolean
  | 22 => .array .int
  | 23 => .array .int
  | 24 => .array .int
  | 25 => .array .int
  | 26 => .array .int
  | 27 => .array .int
  | 28 => .array .int
  | 29 => .array .int
  | 30 => .int
  | 31 => .int
  | 32 => .boolean
  | 33 => .array .int
  | 34 => .array .int
  | 35 => .array .byte
  | 36 => .int
  | 37 => .int
  | 38 => .array .byte
  | 39 => .array .int
  | 40 => .array .boolean
  | 41 => .array .boolean
  | 42 => .int
  | 43 => .int
  | 44 => .int
  | 45 => .int
  | 46 => .int
  | 47 => .int
  | 48 => .int
  | 49 => .int
  | 50 => .long
  | 51 => .long
  | 52 => .boolean
  | 53 => .boolean
  | _ => .array .long
theorem nmX11 : ∀ a, a < 55 → ∀ b, b < 55 → a ≠ b → (TX11 a).2.1 ≠ (TX11 b).2.1 := by decide +kernel
theorem tyX11_ok : ∀ k, k < 55 → parseFieldDescriptor (TX11 k).2.2.1 = some (tyX11 k) := by decide +kernel
def RN : Nat → String := fun o => match o with
  | 0 => "MastMove$Area"
  | 1 => "MastMove$Land"
  | 2 => "MastMove$Law"
  | 3 => "MastMove$LawReader"
  | 4 => "MastMove$Mast"
  | 5 => "MastMove$Planner"
  | 6 => "MastMove$Row"
  | 7 => "MastMove$Tape"
  | 8 => "MastMove$Tokens"
  | 9 => "MastMove$Tuner"
  | 10 => "MastMove"
  | 11 => "MastMoveModel"
  | 12 => "MastMoveLaw"
  | 13 => "java/lang/Integer"
  | 14 => "java/lang/Math"
  | 15 => "java/lang/String"
  | 16 => "java/lang/StringLatin1"
  | 17 => "java/util/Arrays"
  | _ => "jdk/internal/util/Preconditions"
def TT : Nat → u_T := fun o => match o with
  | 0 => TX0
  | 1 => TX1
  | 2 => TX2
  | 3 => TX3
  | 4 => TX4
  | 5 => TX5
  | 6 => TX6
  | 7 => TX7
  | 8 => TX8
  | 9 => TX9
  | 10 => TX10
  | _ => TX11
def tyT : Nat → Nat → FieldType := fun o => match o with
  | 0 => tyX0
  | 1 => tyX1
  | 2 => tyX2
  | 3 => tyX3
  | 4 => tyX4
  | 5 => tyX5
  | 6 => tyX6
  | 7 => tyX7
  | 8 => tyX8
  | 9 => tyX9
  | 10 => tyX10
  | _ => tyX11
def NF : Nat → Nat := fun o => match o with
  | 0 => 8
  | 1 => 8
  | 2 => 10
  | 3 => 2
  | 4 => 11
  | 5 => 5
  | 6 => 3
  | 7 => 2
  | 8 => 5
  | 9 => 5
  | 10 => 12
  | _ => 55
abbrev vwCl : List vw_C := [(RX0, TX0, 8), (RX1, TX1, 8), (RX2, TX2, 10), (RX3, TX3, 2), (RX4, TX4, 11), (RX5, TX5, 5), (RX6, TX6, 3), (RX7, TX7, 2), (RX8, TX8, 5), (RX9, TX9, 5), (RX10, TX10, 12), (RX11, TX11, 55)]
theorem vwCl_at : ∀ ci, ci < 12 → vwCl[ci]? = some (RN ci, TT ci, NF ci) := fun ci h => match ci, h with
  | 0, _ => rfl
  | 1, _ => rfl
  | 2, _ => rfl
  | 3, _ => rfl
  | 4, _ => rfl
  | 5, _ => rfl
  | 6, _ => rfl
  | 7, _ => rfl
  | 8, _ => rfl
  | 9, _ => rfl
  | 10, _ => rfl
  | 11, _ => rfl
  | n + 12, h => absurd h (by omega)
theorem nm_all : ∀ ci, ci < 12 → ∀ a, a < NF ci → ∀ b, b < NF ci → a ≠ b → (TT ci a).2.1 ≠ (TT ci b).2.1 := fun ci h => match ci, h with
  | 0, _ => nmX0
  | 1, _ => nmX1
  | 2, _ => nmX2
  | 3, _ => nmX3
  | 4, _ => nmX4
  | 5, _ => nmX5
  | 6, _ => nmX6
  | 7, _ => nmX7
  | 8, _ => nmX8
  | 9, _ => nmX9
  | 10, _ => nmX10
  | 11, _ => nmX11
  | n + 12, h => absurd h (by omega)
theorem ty_all : ∀ ci, ci < 12 → ∀ k, k < NF ci → parseFieldDescriptor (TT ci k).2.2.1 = some (tyT ci k) := fun ci h => match ci, h with
  | 0, _ => tyX0_ok
  | 1, _ => tyX1_ok
  | 2, _ => tyX2_ok
  | 3, _ => tyX3_ok
  | 4, _ => tyX4_ok
  | 5, _ => tyX5_ok
  | 6, _ => tyX6_ok
  | 7, _ => tyX7_ok
  | 8, _ => tyX8_ok
  | 9, _ => tyX9_ok
  | 10, _ => tyX10_ok
  | 11, _ => tyX11_ok
  | n + 12, h => absurd h (by omega)
theorem mem_pos {Ls : List Cond} (ws : List Cond) (ps : List Nat) (h : ws = ps.filterMap (fun i => Ls[i]?)) : ∀ w ∈ ws, w ∈ Ls := by
  intro w hw
  rw [h] at hw
  obtain ⟨i, -, hi⟩ := List.mem_filterMap.mp hw
  exact List.mem_of_getElem? hi
theorem lay_X0 : ∀ w ∈ u_ws RX0 TX0 8, w ∈ lw_tbl := mem_pos _ [172, 174, 176, 178, 180, 182, 184, 186] (by decide +kernel)
theorem lay_X1 : ∀ w ∈ u_ws RX1 TX1 8, w ∈ lw_tbl := mem_pos _ [211, 213, 215, 217, 219, 221, 223, 225] (by decide +kernel)
theorem lay_X2 : ∀ w ∈ u_ws RX2 TX2 10, w ∈ lw_tbl := mem_pos _ [339, 341, 343, 345, 347, 349, 351, 353, 355, 357] (by decide +kernel)
theorem lay_X3 : ∀ w ∈ u_ws RX3 TX3 2, w ∈ lw_tbl := mem_pos _ [363, 365] (by decide +kernel)
theorem lay_X4 : ∀ w ∈ u_ws RX4 TX4 11, w ∈ lw_tbl := mem_pos _ [125, 127, 129, 131, 133, 135, 137, 139, 141, 143, 145] (by decide +kernel)
theorem lay_X5 : ∀ w ∈ u_ws RX5 TX5 5, w ∈ lw_tbl := mem_pos _ [239, 241, 243, 245, 247] (by decide +kernel)
theorem lay_X6 : ∀ w ∈ u_ws RX6 TX6 3, w ∈ lw_tbl := mem_pos _ [381, 383, 385] (by decide +kernel)
theorem lay_X7 : ∀ w ∈ u_ws RX7 TX7 2, w ∈ lw_tbl := mem_pos _ [284, 286] (by decide +kernel)
theorem lay_X8 : ∀ w ∈ u_ws RX8 TX8 5, w ∈ lw_tbl := mem_pos _ [307, 309, 311, 313, 315] (by decide +kernel)
theorem lay_X9 : ∀ w ∈ u_ws RX9 TX9 5, w ∈ lw_tbl := mem_pos _ [263, 265, 267, 269, 271] (by decide +kernel)
theorem lay_X10 : ∀ w ∈ u_ws RX10 TX10 12, w ∈ lw_tbl := mem_pos _ [402, 404, 406, 408, 410, 412, 414, 416, 418, 420, 422, 424] (by decide +kernel)
theorem lay_X11 : ∀ w ∈ u_ws RX11 TX11 55, w ∈ lw_tbl := mem_pos _ [1046, 1048, 1050, 1052, 1054, 1056, 1058, 1060, 1062, 1064, 1066, 1068, 1070, 1072, 1074, 1076, 1078, 1080, 1082, 1084, 1086, 1088, 1090, 1092, 1094, 1096, 1098, 1100, 1102, 1104, 1106, 1108, 1110, 1112, 1114, 1116, 1118, 1120, 1122, 1124, 1126, 1128, 1130, 1132, 1134, 1136, 1138, 1140, 1142, 1144, 1146, 1148, 1150, 1152, 1154] (by decide +kernel)
theorem lay_all : ∀ ci, ci < 12 → ∀ w ∈ u_ws (RN ci) (TT ci) (NF ci), w ∈ lw_tbl := fun ci h => match ci, h with
  | 0, _ => lay_X0
  | 1, _ => lay_X1
  | 2, _ => lay_X2
  | 3, _ => lay_X3
  | 4, _ => lay_X4
  | 5, _ => lay_X5
  | 6, _ => lay_X6
  | 7, _ => lay_X7
  | 8, _ => lay_X8
  | 9, _ => lay_X9
  | 10, _ => lay_X10
  | 11, _ => lay_X11
  | n + 12, h => absurd h (by omega)
def goodL : List Cond := lw_tbl.filter goodWord
theorem mem_good {w : Cond} (h : w ∈ lw_tbl) (hg : goodWord w = true) : w ∈ goodL := List.mem_filter.mpr ⟨h, hg⟩
theorem good_in {ws : List Cond} (h : ∀ w ∈ ws, w ∈ goodL) : GoodIn goodL ws := fun w hw => ⟨h w hw, good_of_word (List.mem_filter.mp (h w hw)).2⟩
theorem mem_at {w : Cond} (i : Nat) (h : lw_tbl[i]? = some w) (hg : goodWord w = true) : w ∈ goodL := mem_good (List.mem_of_getElem? h) hg
theorem lay_good : ∀ ci, ci < 12 → ∀ w ∈ u_ws (RN ci) (TT ci) (NF ci), w ∈ goodL := fun ci h w hw => mem_good (lay_all ci h w hw) (by
  obtain ⟨k, -, rfl⟩ := List.mem_map.mp hw
  unfold u_lay
  split <;> rfl)
