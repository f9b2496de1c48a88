def RX0 : String := "TownLamps$Book"
def TX0 : u_T := fun k => match k with
  | 0 => ("TownLamps$Book", "texts", "[LTownLamps$Text;", true)
  | 1 => ("TownLamps$Book", "names", "[I", true)
  | _ => ("TownLamps$Book", "stack", "[I", true)
def tyX0 : Nat → FieldType := fun k => match k with
  | 0 => .array (.object "TownLamps$Text")
  | 1 => .array .int
  | _ => .array .int
theorem nmX0 : ∀ a, a < 3 → ∀ b, b < 3 → a ≠ b → (TX0 a).2.1 ≠ (TX0 b).2.1 := by decide +kernel
theorem tyX0_ok : ∀ k, k < 3 → parseFieldDescriptor (TX0 k).2.2.1 = some (tyX0 k) := by decide +kernel
def RX1 : String := "TownLamps$Cabinet"
def TX1 : u_T := fun k => match k with
  | 0 => ("TownLamps$Cabinet", "place", "I", false)
  | 1 => ("TownLamps$Cabinet", "on", "I", false)
  | 2 => ("TownLamps$Cabinet", "off", "I", false)
  | 3 => ("TownLamps$Cabinet", "shift", "I", false)
  | 4 => ("TownLamps$Cabinet", "broken", "Z", false)
  | _ => ("TownLamps$Cabinet", "paid", "I", false)
def tyX1 : Nat → FieldType := fun k => match k with
  | 0 => .int
  | 1 => .int
  | 2 => .int
  | 3 => .int
  | 4 => .boolean
  | _ => .int
theorem nmX1 : ∀ a, a < 6 → ∀ b, b < 6 → a ≠ b → (TX1 a).2.1 ≠ (TX1 b).2.1 := by decide +kernel
theorem tyX1_ok : ∀ k, k < 6 → parseFieldDescriptor (TX1 k).2.2.1 = some (tyX1 k) := by decide +kernel
def RX2 : String := "TownLamps$Faults"
def TX2 : u_T := fun k => match k with
  | 0 => ("TownLamps$Faults", "behindCabinet", "[I", true)
  | 1 => ("TownLamps$Faults", "darkBehindCabinet", "[I", true)
  | 2 => ("TownLamps$Faults", "behindJoint", "[I", true)
  | 3 => ("TownLamps$Faults", "darkBehindJoint", "[I", true)
  | 4 => ("TownLamps$Faults", "cabinetBlamed", "[Z", true)
  | 5 => ("TownLamps$Faults", "jointBlamed", "[Z", true)
  | 6 => ("TownLamps$Faults", "jointExplained", "[Z", true)
  | 7 => ("TownLamps$Faults", "lampBlamed", "[Z", true)
  | _ => ("TownLamps$Faults", "found", "I", false)
def tyX2 : Nat → FieldType := fun k => match k with
  | 0 => .array .int
  | 1 => .array .int
  | 2 => .array .int
  | 3 => .array .int
  | 4 => .array .boolean
  | 5 => .array .boolean
  | 6 => .array .boolean
  | 7 => .array .boolean
  | _ => .int
theorem nmX2 : ∀ a, a < 9 → ∀ b, b < 9 → a ≠ b → (TX2 a).2.1 ≠ (TX2 b).2.1 := by decide +kernel
theorem tyX2_ok : ∀ k, k < 9 → parseFieldDescriptor (TX2 k).2.2.1 = some (tyX2 k) := by decide +kernel
def RX3 : String := "TownLamps$Joint"
def TX3 : u_T := fun k => match k with
  | 0 => ("TownLamps$Joint", "feed", "I", false)
  | 1 => ("TownLamps$Joint", "place", "I", false)
  | 2 => ("TownLamps$Joint", "cabinet", "I", false)
  | _ => ("TownLamps$Joint", "broken", "Z", false)
def tyX3 : Nat → FieldType := fun k => match k with
  | 0 => .int
  | 1 => .int
  | 2 => .int
  | _ => .boolean
theorem nmX3 : ∀ a, a < 4 → ∀ b, b < 4 → a ≠ b → (TX3 a).2.1 ≠ (TX3 b).2.1 := by decide +kernel
theorem tyX3_ok : ∀ k, k < 4 → parseFieldDescriptor (TX3 k).2.2.1 = some (tyX3 k) := by decide +kernel
def RX4 : String := "TownLamps$Lamp"
def TX4 : u_T := fun k => match k with
  | 0 => ("TownLamps$Lamp", "kind", "I", false)
  | 1 => ("TownLamps$Lamp", "joint", "I", false)
  | 2 => ("TownLamps$Lamp", "draw", "I", false)
  | 3 => ("TownLamps$Lamp", "ofClass", "I", false)
  | 4 => ("TownLamps$Lamp", "burnt", "I", false)
  | 5 => ("TownLamps$Lamp", "out", "Z", false)
  | _ => ("TownLamps$Lamp", "toldDark", "Z", false)
def tyX4 : Nat → FieldType := fun k => match k with
  | 0 => .int
  | 1 => .int
  | 2 => .int
  | 3 => .int
  | 4 => .int
  | 5 => .boolean
  | _ => .boolean
theorem nmX4 : ∀ a, a < 7 → ∀ b, b < 7 → a ≠ b → (TX4 a).2.1 ≠ (TX4 b).2.1 := by decide +kernel
theorem tyX4_ok : ∀ k, k < 7 → parseFieldDescriptor (TX4 k).2.2.1 = some (tyX4 k) := by decide +kernel
def RX5 : String := "TownLamps$Reader"
def TX5 : u_T := fun k => match k with
  | 0 => ("TownLamps$Reader", "tape", "[I", true)
  | 1 => ("TownLamps$Reader", "tapeSize", "I", false)
  | 2 => ("TownLamps$Reader", "draft", "LTownLamps$Text;", true)
  | 3 => ("TownLamps$Reader", "form", "I", false)
  | 4 => ("TownLamps$Reader", "start", "I", false)
  | 5 => ("TownLamps$Reader", "next", "I", false)
  | _ => ("TownLamps$Reader", "glued", "Z", false)
def tyX5 : Nat → FieldType := fun k => match k with
  | 0 => .array .int
  | 1 => .int
  | 2 => .object "TownLamps$Text"
  | 3 => .int
  | 4 => .int
  | 5 => .int
  | _ => .boolean
theorem nmX5 : ∀ a, a < 7 → ∀ b, b < 7 → a ≠ b → (TX5 a).2.1 ≠ (TX5 b).2.1 := by decide +kernel
theorem tyX5_ok : ∀ k, k < 7 → parseFieldDescriptor (TX5 k).2.2.1 = some (tyX5 k) := by decide +kernel
def RX6 : String := "TownLamps$Sheet"
def TX6 : u_T := fun k => match k with
  | 0 => ("TownLamps$Sheet", "sort", "I", false)
  | 1 => ("TownLamps$Sheet", "size", "I", false)
  | _ => ("TownLamps$Sheet", "values", "[I", true)
def tyX6 : Nat → FieldType := fun k => match k with
  | 0 => .int
  | 1 => .int
  | _ => .array .int
theorem nmX6 : ∀ a, a < 3 → ∀ b, b < 3 → a ≠ b → (TX6 a).2.1 ≠ (TX6 b).2.1 := by decide +kernel
theorem tyX6_ok : ∀ k, k < 3 → parseFieldDescriptor (TX6 k).2.2.1 = some (tyX6 k) := by decide +kernel
def RX7 : String := "TownLamps$Slot"
def TX7 : u_T := fun k => match k with
  | 0 => ("TownLamps$Slot", "thing", "I", false)
  | 1 => ("TownLamps$Slot", "lampKind", "I", false)
  | 2 => ("TownLamps$Slot", "number", "I", false)
  | _ => ("TownLamps$Slot", "row", "LTownLamps$Sheet;", true)
def tyX7 : Nat → FieldType := fun k => match k with
  | 0 => .int
  | 1 => .int
  | 2 => .int
  | _ => .object "TownLamps$Sheet"
theorem nmX7 : ∀ a, a < 4 → ∀ b, b < 4 → a ≠ b → (TX7 a).2.1 ≠ (TX7 b).2.1 := by decide +kernel
theorem tyX7_ok : ∀ k, k < 4 → parseFieldDescriptor (TX7 k).2.2.1 = some (tyX7 k) := by decide +kernel
def RX8 : String := "TownLamps$Text"
def TX8 : u_T := fun k => match k with
  | 0 => ("TownLamps$Text", "key", "I", false)
  | 1 => ("TownLamps$Text", "atoms", "I", false)
  | 2 => ("TownLamps$Text", "size", "I", false)
  | _ => ("TownLamps$Text", "code", "[I", true)
def tyX8 : Nat → FieldType := fun k => match k with
  | 0 => .int
  | 1 => .int
  | 2 => .int
  | _ => .array .int
theorem nmX8 : ∀ a, a < 4 → ∀ b, b < 4 → a ≠ b → (TX8 a).2.1 ≠ (TX8 b).2.1 := by decide +kernel
theorem tyX8_ok : ∀ k, k < 4 → parseFieldDescriptor (TX8 k).2.2.1 = some (tyX8 k) := by decide +kernel
def RX9 : String := "TownLamps$Town"
def TX9 : u_T := fun k => match k with
  | 0 => ("TownLamps$Town", "book", "LTownLamps$Book;", true)
  | 1 => ("TownLamps$Town", "cabinets", "[LTownLamps$Cabinet;", true)
  | 2 => ("TownLamps$Town", "cabinetCount", "I", false)
  | 3 => ("TownLamps$Town", "joints", "[LTownLamps$Joint;", true)
  | 4 => ("TownLamps$Town", "jointCount", "I", false)
  | 5 => ("TownLamps$Town", "lamps", "[LTownLamps$Lamp;", true)
  | 6 => ("TownLamps$Town", "lampCount", "I", false)
  | 7 => ("TownLamps$Town", "hour", "I", false)
  | 8 => ("TownLamps$Town", "day", "I", false)
  | 9 => ("TownLamps$Town", "feastEvery", "I", false)
  | 10 => ("TownLamps$Town", "chosen", "[I", true)
  | 11 => ("TownLamps$Town", "chosenCount", "I", false)
  | 12 => ("TownLamps$Town", "stops", "[I", true)
  | 13 => ("TownLamps$Town", "stopCount", "I", false)
  | 14 => ("TownLamps$Town", "textCount", "I", false)
  | _ => ("TownLamps$Town", "textOfKey", "[I", true)
def tyX9 : Nat → FieldType := fun k => match k with
  | 0 => .object "TownLamps$Book"
  | 1 => .array (.object "TownLamps$Cabinet")
  | 2 => .int
  | 3 => .array (.object "TownLamps$Joint")
  | 4 => .int
  | 5 => .array (.object "TownLamps$Lamp")
  | 6 => .int
  | 7 => .int
  | 8 => .int
  | 9 => .int
  | 10 => .array .int
  | 11 => .int
  | 12 => .array .int
  | 13 => .int
  | 14 => .int
  | _ => .array .int
theorem nmX9 : ∀ a, a < 16 → ∀ b, b < 16 → a ≠ b → (TX9 a).2.1 ≠ (TX9 b).2.1 := by decide +kernel
theorem tyX9_ok : ∀ k, k < 16 → parseFieldDescriptor (TX9 k).2.2.1 = some (tyX9 k) := by decide +kernel
def RX10 : String := "TownLamps$Walk"
def TX10 : u_T := fun k => match k with
  | 0 => ("TownLamps$Walk", "stopPlaces", "[I", true)
  | 1 => ("TownLamps$Walk", "order", "[I", true)
  | 2 => ("TownLamps$Walk", "best", "[I", true)
  | 3 => ("TownLamps$Walk", "bestLength", "I", false)
  | 4 => ("TownLamps$Walk", "stopCount", "I", false)
  | _ => ("TownLamps$Walk", "homePlace", "I", false)
def tyX10 : Nat → FieldType := fun k => match k with
  | 0 => .array .int
  | 1 => .array .int
  | 2 => .array .int
  | 3 => .int
  | 4 => .int
  | _ => .int
theorem nmX10 : ∀ a, a < 6 → ∀ b, b < 6 → a ≠ b → (TX10 a).2.1 ≠ (TX10 b).2.1 := by decide +kernel
theorem tyX10_ok : ∀ k, k < 6 → parseFieldDescriptor (TX10 k).2.2.1 = some (tyX10 k) := by decide +kernel
def RX11 : String := "TownLamps"
def TX11 : u_T := fun k => match k with
  | 0 => ("TownLamps", "book", "LTownLamps$Book;", true)
  | 1 => ("TownLamps", "reader", "LTownLamps$Reader;", true)
  | 2 => ("TownLamps", "now", "LTownLamps$Town;", true)
  | 3 => ("TownLamps", "image", "LTownLamps$Town;", true)
  | 4 => ("TownLamps", "trial", "LTownLamps$Town;", true)
  | 5 => ("TownLamps", "hasImage", "Z", false)
  | 6 => ("TownLamps", "faults", "LTownLamps$Faults;", true)
  | 7 => ("TownLamps", "walk", "LTownLamps$Walk;", true)
  | 8 => ("TownLamps", "sheets", "[LTownLamps$Sheet;", true)
  | 9 => ("TownLamps", "slots", "[LTownLamps$Slot;", true)
  | 10 => ("TownLamps", "waiting", "[I", true)
  | 11 => ("TownLamps", "waitingCount", "I", false)
  | 12 => ("TownLamps", "chosenDraws", "[I", true)
  | _ => ("TownLamps", "lives", "[I", true)
def tyX11 : Nat → FieldType := fun k => match k with
  | 0 => .object "TownLamps$Book"
  | 1 => .object "TownLamps$Reader"
  | 2 => .object "TownLamps$Town"
  | 3 => .object "TownLamps$Town"
  | 4 => .object "TownLamps$Town"
  | 5 => .boolean
  | 6 => .object "TownLamps$Faults"
  | 7 => .object "TownLamps$Walk"
  | 8 => .array (.object "TownLamps$Sheet")
  | 9 => .array (.object "TownLamps$Slot")
  | 10 => .array .int
  | 11 => .int
  | 12 => .array .int
  | _ => .array .int
theorem nmX11 : ∀ a, a < 14 → ∀ b, b < 14 → a ≠ b → (TX11 a).2.1 ≠ (TX11 b).2.1 := by decide +kernel
theorem tyX11_ok : ∀ k, k < 14 → parseFieldDescriptor (TX11 k).2.2.1 = some (tyX11 k) := by decide +kernel
def RX12 : String := "TownLampsModel"
def TX12 : u_T := fun k => match k with
  | 0 => ("TownLampsModel", "now", "[I", true)
  | 1 => ("TownLampsModel", "image", "[I", true)
  | 2 => ("TownLampsModel", "aside", "[I", true)
  | 3 => ("TownLampsModel", "hasImage", "Z", false)
  | 4 => ("TownLampsModel", "burned", "[Z", true)
  | 5 => ("TownLampsModel", "tape", "[I", true)
  | 6 => ("TownLampsModel", "taped", "I", false)
  | 7 => ("TownLampsModel", "next", "I", false)
  | 8 => ("TownLampsModel", "from", "I", false)
  | 9 => ("TownLampsModel", "token", "I", false)
  | 10 => ("TownLampsModel", "value", "I", false)
  | 11 => ("TownLampsModel", "ended", "I", false)
  | 12 => ("TownLampsModel", "key", "I", false)
  | 13 => ("TownLampsModel", "keys", "[C", true)
  | 14 => ("TownLampsModel", "keyAt", "[I", true)
  | 15 => ("TownLampsModel", "code", "[I", true)
  | 16 => ("TownLampsModel", "codes", "I", false)
  | 17 => ("TownLampsModel", "atoms", "I", false)
  | 18 => ("TownLampsModel", "waits", "[I", true)
  | 19 => ("TownLampsModel", "held", "I", false)
  | 20 => ("TownLampsModel", "tested", "[Z", true)
  | 21 => ("TownLampsModel", "stack", "[I", true)
  | 22 => ("TownLampsModel", "facts", "[I", true)
  | 23 => ("TownLampsModel", "behind", "[I", true)
  | 24 => ("TownLampsModel", "bright", "[I", true)
  | 25 => ("TownLampsModel", "behindCab", "[I", true)
  | 26 => ("TownLampsModel", "brightCab", "[I", true)
  | 27 => ("TownLampsModel", "blamedCab", "[Z", true)
  | 28 => ("TownLampsModel", "blamedJoint", "[Z", true)
  | 29 => ("TownLampsModel", "blamedLamp", "[Z", true)
  | 30 => ("TownLampsModel", "covered", "[Z", true)
  | 31 => ("TownLampsModel", "each", "[I", true)
  | 32 => ("TownLampsModel", "row", "[I", true)
  | 33 => ("TownLampsModel", "bestRow", "[I", true)
  | 34 => ("TownLampsModel", "bestWay", "I", false)
  | 35 => ("TownLampsModel", "sorts", "[I", true)
  | 36 => ("TownLampsModel", "sizes", "[I", true)
  | 37 => ("TownLampsModel", "cells", "[I", true)
  | 38 => ("TownLampsModel", "holds", "[I", true)
  | 39 => ("TownLampsModel", "holdsA", "[I", true)
  | 40 => ("TownLampsModel", "heldCells", "[I", true)
  | 41 => ("TownLampsModel", "moved", "[I", true)
  | 42 => ("TownLampsModel", "tells", "[I", true)
  | _ => ("TownLampsModel", "waiting", "I", false)
def tyX12 : Nat → FieldType := fun k => match k with
  | 0 => .array .int
  | 1 => .array .int
  | 2 => .array .int
  | 3 => .boolean
  | 4 => .array .boolean
  | 5 => .array .int
  | 6 => .int
  | 7 => .int
  | 8 => .int
  | 9 => .int
  | 10 => .int
  | 11 => .int
  | 12 => .int
  | 13 => .array .char
  | 14 => .array .int
  | 15 => .array .int
  | 16 => .int
  | 17 => .int
  | 18 => .array .int
  | 19 => .int
  | 20 => .array .boolean
  | 21 => .array .int
  | 22 => .array .int
  | 23 => .array .int
  | 24 => .array .int
  | 25 => .array .int
  | 26 => .array .int
  | 27 => .array .boolean
  | 28 => .array .boolean
  | 29 => .array .boolean
  | 30 => .array .boolean
  | 31 => .array .int
  | 32 => .array .int
  | 33 => .array .int
  | 34 => .int
  | 35 => .array .int
  | 36 => .array .int
  | 37 => .array .int
  | 38 => .array .int
  | 39 => .array .int
  | 40 => .array .int
  | 41 => .array .int
  | 42 => .array .int
  | _ => .int
theorem nmX12 : ∀ a, a < 44 → ∀ b, b < 44 → a ≠ b → (TX12 a).2.1 ≠ (TX12 b).2.1 := by decide +kernel
theorem tyX12_ok : ∀ k, k < 44 → parseFieldDescriptor (TX12 k).2.2.1 = some (tyX12 k) := by decide +kernel
def RJ0 : String := "java/lang/String"
def RJ1 : String := "java/lang/StringLatin1"
def RJ3 : String := "jdk/internal/util/Preconditions"
def RJ6 : String := "java/lang/Integer"
def RJ9 : String := "java/lang/Math"
def RL : String := "TownLampsLaw"
abbrev vwCl : List vw_C := [(RX0, TX0, 3), (RX1, TX1, 6), (RX2, TX2, 9), (RX3, TX3, 4), (RX4, TX4, 7), (RX5, TX5, 7), (RX6, TX6, 3), (RX7, TX7, 4), (RX8, TX8, 4), (RX9, TX9, 16), (RX10, TX10, 6), (RX11, TX11, 14), (RX12, TX12, 44)]
def am_tb : List Cond := lw_tbl.filter goodWord
theorem am_tb_at {w : Cond} (i : Nat) (h : lw_tbl[i]? = some w) (g : goodWord w = true) : w ∈ am_tb := List.mem_filter.mpr ⟨List.mem_of_getElem? h, g⟩
theorem am_tb_in {ws : List Cond} (ps : List Nat) (h : ws = ps.filterMap (fun i => lw_tbl[i]?)) (g : ws.all goodWord = true) : ∀ w ∈ ws, w ∈ am_tb := by
  intro w hw
  have h1 := List.all_eq_true.mp g w hw
  rw [h] at hw
  obtain ⟨i, -, hi⟩ := List.mem_filterMap.mp hw
  exact am_tb_at i hi h1
def am_FT : List (List Nat) := [[2, 2, 2], [0, 0, 0, 0, 1, 0], [2, 2, 2, 2, 2, 2, 2, 2, 0], [0, 0, 0, 1], [0, 0, 0, 0, 0, 1, 1], [2, 0, 2, 0, 0, 0, 1], [0, 0, 2], [0, 0, 0, 2], [0, 0, 0, 2], [2, 2, 0, 2, 0, 2, 0, 0, 0, 0, 2, 0, 2, 0, 0, 2], [2, 2, 2, 0, 0, 0], [2, 2, 2, 2, 2, 1, 2, 2, 2, 2, 2, 0, 2, 2], [2, 2, 2, 1, 2, 2, 0, 0, 0, 0, 0, 0, 0, 2, 2, 2, 0, 0, 2, 0, 2, 2, 2, 2, 2, 2, 2, 2, 2, 2, 2, 2, 2, 2, 0, 2, 2, 2, 2, 2, 2, 2, 2, 0], [2, 0]]
def am_ft (c k : Nat) : Nat := (am_FT.getD c []).getD k 9
def am_NS : List Nat := [3, 6, 9, 4, 7, 7, 3, 4, 4, 16, 6, 14, 44]
def am_tyf (c : Nat) : Nat → FieldType := match c with
  | 0 => tyX0
  | 1 => tyX1
  | 2 => tyX2
  | 3 => tyX3
  | 4 => tyX4
  | 5 => tyX5
  | 6 => tyX6
  | 7 => tyX7
  | 8 => tyX8
  | 9 => tyX9
  | 10 => tyX10
  | 11 => tyX11
  | _ => tyX12
theorem am_inX0 : ∀ w ∈ u_ws RX0 TX0 3, w ∈ am_tb := am_tb_in [127, 129, 131] (by decide +kernel) (by decide +kernel)
theorem am_fX0 : ∀ k, k < 3 → (am_ft 0 k = 0 → tyX0 k = .int) ∧ (am_ft 0 k = 1 → tyX0 k = .boolean) ∧ (am_ft 0 k = 2 → defaultValue (tyX0 k) = .null ∧ ∀ q : Nat, narrow (tyX0 k) (.ref q) = .ref q ∧ fits (tyX0 k) (.ref q) = true) ∧ (TX0 k).1 = RX0 ∧ am_ft 0 k < 3 := by
  intro k hk
  refine ⟨?_, ?_, ?_, ?_, ?_⟩
  · revert k; decide +kernel
  · revert k; decide +kernel
  · intro h2
    have h3 : (match tyX0 k with | .object _ => true | .array _ => true | _ => false) = true := by revert k; decide +kernel
    cases ht : tyX0 k <;> rw [ht] at h3 <;> first | exact ⟨rfl, fun q => ⟨rfl, rfl⟩⟩ | cases h3
  · revert k; decide +kernel
  · revert k; decide +kernel
theorem am_inX1 : ∀ w ∈ u_ws RX1 TX1 6, w ∈ am_tb := am_tb_in [199, 201, 203, 205, 207, 209] (by decide +kernel) (by decide +kernel)
theorem am_fX1 : ∀ k, k < 6 → (am_ft 1 k = 0 → tyX1 k = .int) ∧ (am_ft 1 k = 1 → tyX1 k = .boolean) ∧ (am_ft 1 k = 2 → defaultValue (tyX1 k) = .null ∧ ∀ q : Nat, narrow (tyX1 k) (.ref q) = .ref q ∧ fits (tyX1 k) (.ref q) = true) ∧ (TX1 k).1 = RX1 ∧ am_ft 1 k < 3 := by
  intro k hk
  refine ⟨?_, ?_, ?_, ?_, ?_⟩
  · revert k; decide +kernel
  · revert k; decide +kernel
  · intro h2
    have h3 : (match tyX1 k with | .object _ => true | .array _ => true | _ => false) = true := by revert k; decide +kernel
    cases ht : tyX1 k <;> rw [ht] at h3 <;> first | exact ⟨rfl, fun q => ⟨rfl, rfl⟩⟩ | cases h3
  · revert k; decide +kernel
  · revert k; decide +kernel
theorem am_inX2 : ∀ w ∈ u_ws RX2 TX2 9, w ∈ am_tb := am_tb_in [374, 376, 378, 380, 382, 384, 386, 388, 390] (by decide +kernel) (by decide +kernel)
theorem am_fX2 : ∀ k, k < 9 → (am_ft 2 k = 0 → tyX2 k = .int) ∧ (am_ft 2 k = 1 → tyX2 k = .boolean) ∧ (am_ft 2 k = 2 → defaultValue (tyX2 k) = .null ∧ ∀ q : Nat, narrow (tyX2 k) (.ref q) = .ref q ∧ fits (tyX2 k) (.ref q) = true) ∧ (TX2 k).1 = RX2 ∧ am_ft 2 k < 3 := by
  intro k hk
  refine ⟨?_, ?_, ?_, ?_, ?_⟩
  · revert k; decide +kernel
  · revert k; decide +kernel
  · intro h2
    have h3 : (match tyX2 k with | .object _ => true | .array _ => true | _ => false) = true := by revert k; decide +kernel
    cases ht : tyX2 k <;> rw [ht] at h3 <;> first | exact ⟨rfl, fun q => ⟨rfl, rfl⟩⟩ | cases h3
  · revert k; decide +kernel
  · revert k; decide +kernel
theorem am_inX3 : ∀ w ∈ u_ws RX3 TX3 4, w ∈ am_tb := am_tb_in [230, 232, 234, 236] (by decide +kernel) (by decide +kernel)
theorem am_fX3 : ∀ k, k < 4 → (am_ft 3 k = 0 → tyX3 k = .int) ∧ (am_ft 3 k = 1 → tyX3 k = .boolean) ∧ (am_ft 3 k = 2 → defaultValue (tyX3 k) = .null ∧ ∀ q : Nat, narrow (tyX3 k) (.ref q) = .ref q ∧ fits (tyX3 k) (.ref q) = true) ∧ (TX3 k).1 = RX3 ∧ am_ft 3 k < 3 := by
  intro k hk
  refine ⟨?_, ?_, ?_, ?_, ?_⟩
  · revert k; decide +kernel
  · revert k; decide +kernel
  · intro h2
    have h3 : (match tyX3 k with | .object _ => true | .array _ => true | _ => false) = true := by revert k; decide +kernel
    cases ht : tyX3 k <;> rw [ht] at h3 <;> first | exact ⟨rfl, fun q => ⟨rfl, rfl⟩⟩ | cases h3
  · revert k; decide +kernel
  · revert k; decide +kernel
theorem am_inX4 : ∀ w ∈ u_ws RX4 TX4 7, w ∈ am_tb := am_tb_in [267, 269, 271, 273, 275, 277, 279] (by decide +kernel) (by decide +kernel)
theorem am_fX4 : ∀ k, k < 7 → (am_ft 4 k = 0 → tyX4 k = .int) ∧ (am_ft 4 k = 1 → tyX4 k = .boolean) ∧ (am_ft 4 k = 2 → defaultValue (tyX4 k) = .null ∧ ∀ q : Nat, narrow (tyX4 k) (.ref q) = .ref q ∧ fits (tyX4 k) (.ref q) = true) ∧ (TX4 k).1 = RX4 ∧ am_ft 4 k < 3 := by
  intro k hk
  refine ⟨?_, ?_, ?_, ?_, ?_⟩
  · revert k; decide +kernel
  · revert k; decide +kernel
  · intro h2
    have h3 : (match tyX4 k with | .object _ => true | .array _ => true | _ => false) = true := by revert k; decide +kernel
    cases ht : tyX4 k <;> rw [ht] at h3 <;> first | exact ⟨rfl, fun q => ⟨rfl, rfl⟩⟩ | cases h3
  · revert k; decide +kernel
  · revert k; decide +kernel
theorem am_inX5 : ∀ w ∈ u_ws RX5 TX5 7, w ∈ am_tb := am_tb_in [151, 153, 155, 157, 159, 161, 163] (by decide +kernel) (by decide +kernel)
theorem am_fX5 : ∀ k, k < 7 → (am_ft 5 k = 0 → tyX5 k = .int) ∧ (am_ft 5 k = 1 → tyX5 k = .boolean) ∧ (am_ft 5 k = 2 → defaultValue (tyX5 k) = .null ∧ ∀ q : Nat, narrow (tyX5 k) (.ref q) = .ref q ∧ fits (tyX5 k) (.ref q) = true) ∧ (TX5 k).1 = RX5 ∧ am_ft 5 k < 3 := by
  intro k hk
  refine ⟨?_, ?_, ?_, ?_, ?_⟩
  · revert k; decide +kernel
  · revert k; decide +kernel
  · intro h2
    have h3 : (match tyX5 k with | .object _ => true | .array _ => true | _ => false) = true := by revert k; decide +kernel
    cases ht : tyX5 k <;> rw [ht] at h3 <;> first | exact ⟨rfl, fun q => ⟨rfl, rfl⟩⟩ | cases h3
  · revert k; decide +kernel
  · revert k; decide +kernel
theorem am_inX6 : ∀ w ∈ u_ws RX6 TX6 3, w ∈ am_tb := am_tb_in [436, 438, 440] (by decide +kernel) (by decide +kernel)
theorem am_fX6 : ∀ k, k < 3 → (am_ft 6 k = 0 → tyX6 k = .int) ∧ (am_ft 6 k = 1 → tyX6 k = .boolean) ∧ (am_ft 6 k = 2 → defaultValue (tyX6 k) = .null ∧ ∀ q : Nat, narrow (tyX6 k) (.ref q) = .ref q ∧ fits (tyX6 k) (.ref q) = true) ∧ (TX6 k).1 = RX6 ∧ am_ft 6 k < 3 := by
  intro k hk
  refine ⟨?_, ?_, ?_, ?_, ?_⟩
  · revert k; decide +kernel
  · revert k; decide +kernel
  · intro h2
    have h3 : (match tyX6 k with | .object _ => true | .array _ => true | _ => false) = true := by revert k; decide +kernel
    cases ht : tyX6 k <;> rw [ht] at h3 <;> first | exact ⟨rfl, fun q => ⟨rfl, rfl⟩⟩ | cases h3
  · revert k; decide +kernel
  · revert k; decide +kernel
theorem am_inX7 : ∀ w ∈ u_ws RX7 TX7 4, w ∈ am_tb := am_tb_in [458, 460, 462, 464] (by decide +kernel) (by decide +kernel)
theorem am_fX7 : ∀ k, k < 4 → (am_ft 7 k = 0 → tyX7 k = .int) ∧ (am_ft 7 k = 1 → tyX7 k = .boolean) ∧ (am_ft 7 k = 2 → defaultValue (tyX7 k) = .null ∧ ∀ q : Nat, narrow (tyX7 k) (.ref q) = .ref q ∧ fits (tyX7 k) (.ref q) = true) ∧ (TX7 k).1 = RX7 ∧ am_ft 7 k < 3 := by
  intro k hk
  refine ⟨?_, ?_, ?_, ?_, ?_⟩
  · revert k; decide +kernel
  · revert k; decide +kernel
  · intro h2
    have h3 : (match tyX7 k with | .object _ => true | .array _ => true | _ => false) = true := by revert k; decide +kernel
    cases ht : tyX7 k <;> rw [ht] at h3 <;> first | exact ⟨rfl, fun q => ⟨rfl, rfl⟩⟩ | cases h3
  · revert k; decide +kernel
  · revert k; decide +kernel
theorem am_inX8 : ∀ w ∈ u_ws RX8 TX8 4, w ∈ am_tb := am_tb_in [113, 115, 117, 119] (by decide +kernel) (by decide +kernel)
theorem am_fX8 : ∀ k, k < 4 → (am_ft 8 k = 0 → tyX8 k = .int) ∧ (am_ft 8 k = 1 → tyX8 k = .boolean) ∧ (am_ft 8 k = 2 → defaultValue (tyX8 k) = .null ∧ ∀ q : Nat, narrow (tyX8 k) (.ref q) = .ref q ∧ fits (tyX8 k) (.ref q) = true) ∧ (TX8 k).1 = RX8 ∧ am_ft 8 k < 3 := by
  intro k hk
  refine ⟨?_, ?_, ?_, ?_, ?_⟩
  · revert k; decide +kernel
  · revert k; decide +kernel
  · intro h2
    have h3 : (match tyX8 k with | .object _ => true | .array _ => true | _ => false) = true := by revert k; decide +kernel
    cases ht : tyX8 k <;> rw [ht] at h3 <;> first | exact ⟨rfl, fun q => ⟨rfl, rfl⟩⟩ | cases h3
  · revert k; decide +kernel
  · revert k; decide +kernel
theorem am_inX9 : ∀ w ∈ u_ws RX9 TX9 16, w ∈ am_tb := am_tb_in [325, 327, 329, 331, 333, 335, 337, 339, 341, 343, 345, 347, 349, 351, 353, 355] (by decide +kernel) (by decide +kernel)
theorem am_fX9 : ∀ k, k < 16 → (am_ft 9 k = 0 → tyX9 k = .int) ∧ (am_ft 9 k = 1 → tyX9 k = .boolean) ∧ (am_ft 9 k = 2 → defaultValue (tyX9 k) = .null ∧ ∀ q : Nat, narrow (tyX9 k) (.ref q) = .ref q ∧ fits (tyX9 k) (.ref q) = true) ∧ (TX9 k).1 = RX9 ∧ am_ft 9 k < 3 := by
  intro k hk
  refine ⟨?_, ?_, ?_, ?_, ?_⟩
  · revert k; decide +kernel
  · revert k; decide +kernel
  · intro h2
    have h3 : (match tyX9 k with | .object _ => true | .array _ => true | _ => false) = true := by revert k; decide +kernel
    cases ht : tyX9 k <;> rw [ht] at h3 <;> first | exact ⟨rfl, fun q => ⟨rfl, rfl⟩⟩ | cases h3
  · revert k; decide +kernel
  · revert k; decide +kernel
theorem am_inX10 : ∀ w ∈ u_ws RX10 TX10 6, w ∈ am_tb := am_tb_in [408, 410, 412, 414, 416, 418] (by decide +kernel) (by decide +kernel)
theorem am_fX10 : ∀ k, k < 6 → (am_ft 10 k = 0 → tyX10 k = .int) ∧ (am_ft 10 k = 1 → tyX10 k = .boolean) ∧ (am_ft 10 k = 2 → defaultValue (tyX10 k) = .null ∧ ∀ q : Nat, narrow (tyX10 k) (.ref q) = .ref q ∧ fits (tyX10 k) (.ref q) = true) ∧ (TX10 k).1 = RX10 ∧ am_ft 10 k < 3 := by
  intro k hk
  refine ⟨?_, ?_, ?_, ?_, ?_⟩
  · revert k; decide +kernel
  · revert k; decide +kernel
  · intro h2
    have h3 : (match tyX10 k with | .object _ => true | .array _ => true | _ => false) = true := by revert k; decide +kernel
    cases ht : tyX10 k <;> rw [ht] at h3 <;> first | exact ⟨rfl, fun q => ⟨rfl, rfl⟩⟩ | cases h3
  · revert k; decide +kernel
  · revert k; decide +kernel
theorem am_inX11 : ∀ w ∈ u_ws RX11 TX11 14, w ∈ am_tb := am_tb_in [481, 483, 485, 487, 489, 491, 493, 495, 497, 499, 501, 503, 505, 507] (by decide +kernel) (by decide +kernel)
theorem am_fX11 : ∀ k, k < 14 → (am_ft 11 k = 0 → tyX11 k = .int) ∧ (am_ft 11 k = 1 → tyX11 k = .boolean) ∧ (am_ft 11 k = 2 → defaultValue (tyX11 k) = .null ∧ ∀ q : Nat, narrow (tyX11 k) (.ref q) = .ref q ∧ fits (tyX11 k) (.ref q) = true) ∧ (TX11 k).1 = RX11 ∧ am_ft 11 k < 3 := by
  intro k hk
  refine ⟨?_, ?_, ?_, ?_, ?_⟩
  · revert k; decide +kernel
  · revert k; decide +kernel
  · intro h2
    have h3 : (match tyX11 k with | .object _ => true | .array _ => true | _ => false) = true := by revert k; decide +kernel
    cases ht : tyX11 k <;> rw [ht] at h3 <;> first | exact ⟨rfl, fun q => ⟨rfl, rfl⟩⟩ | cases h3
  · revert k; decide +kernel
  · revert k; decide +kernel
theorem am_inX12 : ∀ w ∈ u_ws RX12 TX12 44, w ∈ am_tb := am_tb_in [1235, 1237, 1239, 1241, 1243, 1245, 1247, 1249, 1251, 1253, 1255, 1257, 1259, 1261, 1263, 1265, 1267, 1269, 1271, 1273, 1275, 1277, 1279, 1281, 1283, 1285, 1287, 1289, 1291, 1293, 1295, 1297, 1299, 1301, 1303, 1305, 1307, 1309, 1311, 1313, 1315, 1317, 1319, 1321] (by decide +kernel) (by decide +kernel)
theorem am_fX12 : ∀ k, k < 44 → (am_ft 12 k = 0 → tyX12 k = .int) ∧ (am_ft 12 k = 1 → tyX12 k = .boolean) ∧ (am_ft 12 k = 2 → defaultValue (tyX12 k) = .null ∧ ∀ q : Nat, narrow (tyX12 k) (.ref q) = .ref q ∧ fits (tyX12 k) (.ref q) = true) ∧ (TX12 k).1 = RX12 ∧ am_ft 12 k < 3 := by
  intro k hk
  refine ⟨?_, ?_, ?_, ?_, ?_⟩
  · revert k; decide +kernel
  · revert k; decide +kernel
  · intro h2
    have h3 : (match tyX12 k with | .object _ => true | .array _ => true | _ => false) = true := by revert k; decide +kernel
    cases ht : tyX12 k <;> rw [ht] at h3 <;> first | exact ⟨rfl, fun q => ⟨rfl, rfl⟩⟩ | cases h3
  · revert k; decide +kernel
  · revert k; decide +kernel
/-- what the tables say of a made class, by its number -/
theorem am_cls {c : Nat} {q : vw_C} (h : vwCl[c]? = some q) : c < 13 ∧ am_NS[c]? = some q.2.2 ∧ (∀ w ∈ u_ws q.1 q.2.1 q.2.2, w ∈ am_tb) ∧ (∀ a, a < q.2.2 → ∀ b, b < q.2.2 → a ≠ b → (q.2.1 a).2.1 ≠ (q.2.1 b).2.1) ∧ (∀ k, k < q.2.2 → parseFieldDescriptor (q.2.1 k).2.2.1 = some (am_tyf c k)) ∧ (∀ k, k < q.2.2 → (am_ft c k = 0 → am_tyf c k = .int) ∧ (am_ft c k = 1 → am_tyf c k = .boolean) ∧ (am_ft c k = 2 → defaultValue (am_tyf c k) = .null ∧ ∀ q : Nat, narrow (am_tyf c k) (.ref q) = .ref q ∧ fits (am_tyf c k) (.ref q) = true) ∧ (q.2.1 k).1 = q.1 ∧ am_ft c k < 3) := by
  match c, h with
  | 0, h => cases h; exact ⟨by decide, rfl, am_inX0, nmX0, tyX0_ok, am_fX0⟩
  | 1, h => cases h; exact ⟨by decide, rfl, am_inX1, nmX1, tyX1_ok, am_fX1⟩
  | 2, h => cases h; exact ⟨by decide, rfl, am_inX2, nmX2, tyX2_ok, am_fX2⟩
  | 3, h => cases h; exact ⟨by decide, rfl, am_inX3, nmX3, tyX3_ok, am_fX3⟩
  | 4, h => cases h; exact ⟨by decide, rfl, am_inX4, nmX4, tyX4_ok, am_fX4⟩
  | 5, h => cases h; exact ⟨by decide, rfl, am_inX5, nmX5, tyX5_ok, am_fX5⟩
  | 6, h => cases h; exact ⟨by decide, rfl, am_inX6, nmX6, tyX6_ok, am_fX6⟩
  | 7, h => cases h; exact ⟨by decide, rfl, am_inX7, nmX7, tyX7_ok, am_fX7⟩
  | 8, h => cases h; exact ⟨by decide, rfl, am_inX8, nmX8, tyX8_ok, am_fX8⟩
  | 9, h => cases h; exact ⟨by decide, rfl, am_inX9, nmX9, tyX9_ok, am_fX9⟩
  | 10, h => cases h; exact ⟨by decide, rfl, am_inX10, nmX10, tyX10_ok, am_fX10⟩
  | 11, h => cases h; exact ⟨by decide, rfl, am_inX11, nmX11, tyX11_ok, am_fX11⟩
  | 12, h => cases h; exact ⟨by decide, rfl, am_inX12, nmX12, tyX12_ok, am_fX12⟩
  | c + 13, h => simp [vwCl] at h
