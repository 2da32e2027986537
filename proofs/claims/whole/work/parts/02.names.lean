/-! The classes of the program, the words of the tables that a method needs; laid by gen_names.py -/
def RJ0 : String := "java/lang/String"
def RJ1 : String := "java/lang/StringLatin1"
def RJ2 : String := "java/lang/StringUTF16"
def RJ3 : String := "jdk/internal/util/Preconditions"
def RJ6 : String := "java/lang/Integer"
def RJ9 : String := "java/lang/Math"
def RX0 : String := "AloneIsAQuantity$DaysToCome"
def RX1 : String := "AloneIsAQuantity$Draw"
def RX2 : String := "AloneIsAQuantity$Lending"
def RX3 : String := "AloneIsAQuantity$Moor"
def RX4 : String := "AloneIsAQuantity$Numbers"
def RX5 : String := "AloneIsAQuantity$OtherMoors"
def RX6 : String := "AloneIsAQuantity$Text"
def RX7 : String := "AloneIsAQuantity"
def RX8 : String := "AloneIsAQuantityModel"
def TX0 : u_T := fun k => match k with
  | 0 => ("AloneIsAQuantity$DaysToCome", "moor", "LAloneIsAQuantity$Moor;", true)
  | _ => ("AloneIsAQuantity$DaysToCome", "thought", "LAloneIsAQuantity$Moor;", true)
def tyX0 : Nat → FieldType := fun k => match k with
  | 0 => (.object "AloneIsAQuantity$Moor")
  | _ => (.object "AloneIsAQuantity$Moor")
theorem nmX0 : ∀ a, a < 2 → ∀ b, b < 2 → a ≠ b → (TX0 a).2.1 ≠ (TX0 b).2.1 := by decide +kernel
theorem tyokX0 : ∀ k, k < 2 → parseFieldDescriptor (TX0 k).2.2.1 = some (tyX0 k) := by decide +kernel
def TX1 : u_T := fun k => match k with
  | _ => ("AloneIsAQuantity$Draw", "z", "I", false)
def tyX1 : Nat → FieldType := fun k => match k with
  | _ => .int
theorem nmX1 : ∀ a, a < 1 → ∀ b, b < 1 → a ≠ b → (TX1 a).2.1 ≠ (TX1 b).2.1 := by decide +kernel
theorem tyokX1 : ∀ k, k < 1 → parseFieldDescriptor (TX1 k).2.2.1 = some (tyX1 k) := by decide +kernel
def TX2 : u_T := fun k => match k with
  | 0 => ("AloneIsAQuantity$Lending", "moor", "LAloneIsAQuantity$Moor;", true)
  | 1 => ("AloneIsAQuantity$Lending", "spares", "LAloneIsAQuantity$Numbers;", true)
  | 2 => ("AloneIsAQuantity$Lending", "lacks", "LAloneIsAQuantity$Numbers;", true)
  | _ => ("AloneIsAQuantity$Lending", "groups", "LAloneIsAQuantity$Numbers;", true)
def tyX2 : Nat → FieldType := fun k => match k with
  | 0 => (.object "AloneIsAQuantity$Moor")
  | 1 => (.object "AloneIsAQuantity$Numbers")
  | 2 => (.object "AloneIsAQuantity$Numbers")
  | _ => (.object "AloneIsAQuantity$Numbers")
theorem nmX2 : ∀ a, a < 4 → ∀ b, b < 4 → a ≠ b → (TX2 a).2.1 ≠ (TX2 b).2.1 := by decide +kernel
theorem tyokX2 : ∀ k, k < 4 → parseFieldDescriptor (TX2 k).2.2.1 = some (tyX2 k) := by decide +kernel
def TX3 : u_T := fun k => match k with
  | 0 => ("AloneIsAQuantity$Moor", "kinds", "LAloneIsAQuantity$Numbers;", true)
  | 1 => ("AloneIsAQuantity$Moor", "figures", "LAloneIsAQuantity$Numbers;", true)
  | 2 => ("AloneIsAQuantity$Moor", "cells", "LAloneIsAQuantity$Numbers;", true)
  | 3 => ("AloneIsAQuantity$Moor", "needs", "LAloneIsAQuantity$Numbers;", true)
  | 4 => ("AloneIsAQuantity$Moor", "kepts", "LAloneIsAQuantity$Numbers;", true)
  | 5 => ("AloneIsAQuantity$Moor", "lents", "LAloneIsAQuantity$Numbers;", true)
  | 6 => ("AloneIsAQuantity$Moor", "nets", "LAloneIsAQuantity$Numbers;", true)
  | 7 => ("AloneIsAQuantity$Moor", "weights", "LAloneIsAQuantity$Numbers;", true)
  | 8 => ("AloneIsAQuantity$Moor", "shares", "LAloneIsAQuantity$Numbers;", true)
  | 9 => ("AloneIsAQuantity$Moor", "people", "I", false)
  | 10 => ("AloneIsAQuantity$Moor", "total", "I", false)
  | 11 => ("AloneIsAQuantity$Moor", "day", "I", false)
  | _ => ("AloneIsAQuantity$Moor", "weightOfAll", "I", false)
def tyX3 : Nat → FieldType := fun k => match k with
  | 0 => (.object "AloneIsAQuantity$Numbers")
  | 1 => (.object "AloneIsAQuantity$Numbers")
  | 2 => (.object "AloneIsAQuantity$Numbers")
  | 3 => (.object "AloneIsAQuantity$Numbers")
  | 4 => (.object "AloneIsAQuantity$Numbers")
  | 5 => (.object "AloneIsAQuantity$Numbers")
  | 6 => (.object "AloneIsAQuantity$Numbers")
  | 7 => (.object "AloneIsAQuantity$Numbers")
  | 8 => (.object "AloneIsAQuantity$Numbers")
  | 9 => .int
  | 10 => .int
  | 11 => .int
  | _ => .int
theorem nmX3 : ∀ a, a < 13 → ∀ b, b < 13 → a ≠ b → (TX3 a).2.1 ≠ (TX3 b).2.1 := by decide +kernel
theorem tyokX3 : ∀ k, k < 13 → parseFieldDescriptor (TX3 k).2.2.1 = some (tyX3 k) := by decide +kernel
def TX4 : u_T := fun k => match k with
  | _ => ("AloneIsAQuantity$Numbers", "all", "[I", true)
def tyX4 : Nat → FieldType := fun k => match k with
  | _ => (.array .int)
theorem nmX4 : ∀ a, a < 1 → ∀ b, b < 1 → a ≠ b → (TX4 a).2.1 ≠ (TX4 b).2.1 := by decide +kernel
theorem tyokX4 : ∀ k, k < 1 → parseFieldDescriptor (TX4 k).2.2.1 = some (tyX4 k) := by decide +kernel
def TX5 : u_T := fun k => match k with
  | 0 => ("AloneIsAQuantity$OtherMoors", "moor", "LAloneIsAQuantity$Moor;", true)
  | 1 => ("AloneIsAQuantity$OtherMoors", "thought", "LAloneIsAQuantity$Moor;", true)
  | 2 => ("AloneIsAQuantity$OtherMoors", "draw", "LAloneIsAQuantity$Draw;", true)
  | 3 => ("AloneIsAQuantity$OtherMoors", "firstShares", "LAloneIsAQuantity$Numbers;", true)
  | _ => ("AloneIsAQuantity$OtherMoors", "secondShares", "LAloneIsAQuantity$Numbers;", true)
def tyX5 : Nat → FieldType := fun k => match k with
  | 0 => (.object "AloneIsAQuantity$Moor")
  | 1 => (.object "AloneIsAQuantity$Moor")
  | 2 => (.object "AloneIsAQuantity$Draw")
  | 3 => (.object "AloneIsAQuantity$Numbers")
  | _ => (.object "AloneIsAQuantity$Numbers")
theorem nmX5 : ∀ a, a < 5 → ∀ b, b < 5 → a ≠ b → (TX5 a).2.1 ≠ (TX5 b).2.1 := by decide +kernel
theorem tyokX5 : ∀ k, k < 5 → parseFieldDescriptor (TX5 k).2.2.1 = some (tyX5 k) := by decide +kernel
def TX6 : u_T := fun k => match k with
  | 0 => ("AloneIsAQuantity$Text", "letters", "LAloneIsAQuantity$Numbers;", true)
  | _ => ("AloneIsAQuantity$Text", "length", "I", false)
def tyX6 : Nat → FieldType := fun k => match k with
  | 0 => (.object "AloneIsAQuantity$Numbers")
  | _ => .int
theorem nmX6 : ∀ a, a < 2 → ∀ b, b < 2 → a ≠ b → (TX6 a).2.1 ≠ (TX6 b).2.1 := by decide +kernel
theorem tyokX6 : ∀ k, k < 2 → parseFieldDescriptor (TX6 k).2.2.1 = some (tyX6 k) := by decide +kernel
def TX7 : u_T := fun k => match k with
  | 0 => ("AloneIsAQuantity", "moor", "LAloneIsAQuantity$Moor;", true)
  | 1 => ("AloneIsAQuantity", "thought", "LAloneIsAQuantity$Moor;", true)
  | 2 => ("AloneIsAQuantity", "daysToCome", "LAloneIsAQuantity$DaysToCome;", true)
  | 3 => ("AloneIsAQuantity", "otherMoors", "LAloneIsAQuantity$OtherMoors;", true)
  | 4 => ("AloneIsAQuantity", "lending", "LAloneIsAQuantity$Lending;", true)
  | 5 => ("AloneIsAQuantity", "text", "LAloneIsAQuantity$Text;", true)
  | 6 => ("AloneIsAQuantity", "imageMoor", "LAloneIsAQuantity$Moor;", true)
  | 7 => ("AloneIsAQuantity", "imageTaken", "Z", false)
  | 8 => ("AloneIsAQuantity", "told", "LAloneIsAQuantity$Numbers;", true)
  | 9 => ("AloneIsAQuantity", "toldCount", "I", false)
  | _ => ("AloneIsAQuantity", "refusals", "LAloneIsAQuantity$Numbers;", true)
def tyX7 : Nat → FieldType := fun k => match k with
  | 0 => (.object "AloneIsAQuantity$Moor")
  | 1 => (.object "AloneIsAQuantity$Moor")
  | 2 => (.object "AloneIsAQuantity$DaysToCome")
  | 3 => (.object "AloneIsAQuantity$OtherMoors")
  | 4 => (.object "AloneIsAQuantity$Lending")
  | 5 => (.object "AloneIsAQuantity$Text")
  | 6 => (.object "AloneIsAQuantity$Moor")
  | 7 => .boolean
  | 8 => (.object "AloneIsAQuantity$Numbers")
  | 9 => .int
  | _ => (.object "AloneIsAQuantity$Numbers")
theorem nmX7 : ∀ a, a < 11 → ∀ b, b < 11 → a ≠ b → (TX7 a).2.1 ≠ (TX7 b).2.1 := by decide +kernel
theorem tyokX7 : ∀ k, k < 11 → parseFieldDescriptor (TX7 k).2.2.1 = some (tyX7 k) := by decide +kernel
def TX8 : u_T := fun k => match k with
  | 0 => ("AloneIsAQuantityModel", "refused", "[I", true)
  | 1 => ("AloneIsAQuantityModel", "kind", "[I", true)
  | 2 => ("AloneIsAQuantityModel", "figure", "[I", true)
  | 3 => ("AloneIsAQuantityModel", "cell", "[I", true)
  | 4 => ("AloneIsAQuantityModel", "needs", "[I", true)
  | 5 => ("AloneIsAQuantityModel", "keeps", "[I", true)
  | 6 => ("AloneIsAQuantityModel", "lent", "[I", true)
  | 7 => ("AloneIsAQuantityModel", "people", "I", false)
  | 8 => ("AloneIsAQuantityModel", "total", "I", false)
  | 9 => ("AloneIsAQuantityModel", "day", "I", false)
  | 10 => ("AloneIsAQuantityModel", "tape", "[I", true)
  | 11 => ("AloneIsAQuantityModel", "letter", "[I", true)
  | 12 => ("AloneIsAQuantityModel", "letterAt", "[I", true)
  | 13 => ("AloneIsAQuantityModel", "told", "[I", true)
  | 14 => ("AloneIsAQuantityModel", "taped", "I", false)
  | 15 => ("AloneIsAQuantityModel", "at", "I", false)
  | 16 => ("AloneIsAQuantityModel", "statements", "I", false)
  | 17 => ("AloneIsAQuantityModel", "kept", "[I", true)
  | 18 => ("AloneIsAQuantityModel", "hasImage", "Z", false)
  | 19 => ("AloneIsAQuantityModel", "isKeeping", "Z", false)
  | 20 => ("AloneIsAQuantityModel", "cursor", "I", false)
  | 21 => ("AloneIsAQuantityModel", "out", "I", false)
  | 22 => ("AloneIsAQuantityModel", "share", "[I", true)
  | 23 => ("AloneIsAQuantityModel", "shorts", "[I", true)
  | 24 => ("AloneIsAQuantityModel", "shortToday", "I", false)
  | 25 => ("AloneIsAQuantityModel", "had", "[I", true)
  | 26 => ("AloneIsAQuantityModel", "groups", "[I", true)
  | 27 => ("AloneIsAQuantityModel", "first", "[I", true)
  | 28 => ("AloneIsAQuantityModel", "second", "[I", true)
  | 29 => ("AloneIsAQuantityModel", "row", "[I", true)
  | _ => ("AloneIsAQuantityModel", "rowMany", "I", false)
def tyX8 : Nat → FieldType := fun k => match k with
  | 0 => (.array .int)
  | 1 => (.array .int)
  | 2 => (.array .int)
  | 3 => (.array .int)
  | 4 => (.array .int)
  | 5 => (.array .int)
  | 6 => (.array .int)
  | 7 => .int
  | 8 => .int
  | 9 => .int
  | 10 => (.array .int)
  | 11 => (.array .int)
  | 12 => (.array .int)
  | 13 => (.array .int)
  | 14 => .int
  | 15 => .int
  | 16 => .int
  | 17 => (.array .int)
  | 18 => .boolean
  | 19 => .boolean
  | 20 => .int
  | 21 => .int
  | 22 => (.array .int)
  | 23 => (.array .int)
  | 24 => .int
  | 25 => (.array .int)
  | 26 => (.array .int)
  | 27 => (.array .int)
  | 28 => (.array .int)
  | 29 => (.array .int)
  | _ => .int
theorem nmX8 : ∀ a, a < 31 → ∀ b, b < 31 → a ≠ b → (TX8 a).2.1 ≠ (TX8 b).2.1 := by decide +kernel
theorem tyokX8 : ∀ k, k < 31 → parseFieldDescriptor (TX8 k).2.2.1 = some (tyX8 k) := by decide +kernel
def aCls : List vw_C := [(RX0, TX0, 2), (RX1, TX1, 1), (RX2, TX2, 4), (RX3, TX3, 13), (RX4, TX4, 1), (RX5, TX5, 5), (RX6, TX6, 2), (RX7, TX7, 11), (RX8, TX8, 31)]
def aBW : List Cond := lw_tbl.filter goodWord
theorem aBW_at (i : Nat) {w : Cond} (h : lw_tbl[i]? = some w) (g : goodWord w = true) : w ∈ aBW := List.mem_filter.mpr ⟨List.mem_of_getElem? h, g⟩
theorem aBW_sub {ws : List Cond} (ps : List Nat) (hp : ws = ps.filterMap (fun i => lw_tbl[i]?)) (h : ws.all goodWord = true) : ∀ w ∈ ws, w ∈ aBW := by
  intro w hw
  have h1 := List.all_eq_true.mp h w hw
  rw [hp] at hw
  obtain ⟨i, -, hi⟩ := List.mem_filterMap.mp hw
  exact aBW_at i hi h1
theorem aBW_good : ∀ w ∈ aBW, (w.onTables && w.keeps) = true ∨ ∃ ty, w = .arrayClass ty := fun w hw => good_of_word (List.mem_filter.mp hw).2
theorem aBW_in {y : MethodName} {cc : ByteArray} {n : Nat} {r : Option FieldType} (h : Cond.code y cc n r ∈ aBW) : GoodIn aBW (Cond.code y cc n r :: aBW) := fun w hw => by
  rcases List.mem_cons.mp hw with rfl | hw
  · exact ⟨h, aBW_good _ h⟩
  · exact ⟨hw, aBW_good _ hw⟩
theorem lyX0 : ∀ w ∈ u_ws RX0 TX0 2, w ∈ aBW := aBW_sub [161, 163] (by decide +kernel) (by decide +kernel)
theorem lyX1 : ∀ w ∈ u_ws RX1 TX1 1, w ∈ aBW := aBW_sub [179] (by decide +kernel) (by decide +kernel)
theorem lyX2 : ∀ w ∈ u_ws RX2 TX2 4, w ∈ aBW := aBW_sub [212, 214, 216, 218] (by decide +kernel) (by decide +kernel)
theorem lyX3 : ∀ w ∈ u_ws RX3 TX3 13, w ∈ aBW := aBW_sub [126, 128, 130, 132, 134, 136, 138, 140, 142, 144, 146, 148, 150] (by decide +kernel) (by decide +kernel)
theorem lyX4 : ∀ w ∈ u_ws RX4 TX4 1, w ∈ aBW := aBW_sub [109] (by decide +kernel) (by decide +kernel)
theorem lyX5 : ∀ w ∈ u_ws RX5 TX5 5, w ∈ aBW := aBW_sub [189, 191, 193, 195, 197] (by decide +kernel) (by decide +kernel)
theorem lyX6 : ∀ w ∈ u_ws RX6 TX6 2, w ∈ aBW := aBW_sub [231, 233] (by decide +kernel) (by decide +kernel)
theorem lyX7 : ∀ w ∈ u_ws RX7 TX7 11, w ∈ aBW := aBW_sub [249, 251, 253, 255, 257, 259, 261, 263, 265, 267, 269] (by decide +kernel) (by decide +kernel)
theorem lyX8 : ∀ w ∈ u_ws RX8 TX8 31, w ∈ aBW := aBW_sub [982, 984, 986, 988, 990, 992, 994, 996, 998, 1000, 1002, 1004, 1006, 1008, 1010, 1012, 1014, 1016, 1018, 1020, 1022, 1024, 1026, 1028, 1030, 1032, 1034, 1036, 1038, 1040, 1042] (by decide +kernel) (by decide +kernel)
theorem insX0 : Cond.instantiable RX0 2 ∈ aBW := aBW_at 154 (by decide +kernel) (by decide +kernel)
theorem iniX0 : Cond.initialized RX0 ∈ aBW := aBW_at 74 (by decide +kernel) (by decide +kernel)
theorem insX1 : Cond.instantiable RX1 1 ∈ aBW := aBW_at 173 (by decide +kernel) (by decide +kernel)
theorem iniX1 : Cond.initialized RX1 ∈ aBW := aBW_at 76 (by decide +kernel) (by decide +kernel)
theorem insX2 : Cond.instantiable RX2 4 ∈ aBW := aBW_at 201 (by decide +kernel) (by decide +kernel)
theorem iniX2 : Cond.initialized RX2 ∈ aBW := aBW_at 77 (by decide +kernel) (by decide +kernel)
theorem insX3 : Cond.instantiable RX3 13 ∈ aBW := aBW_at 94 (by decide +kernel) (by decide +kernel)
theorem iniX3 : Cond.initialized RX3 ∈ aBW := aBW_at 71 (by decide +kernel) (by decide +kernel)
theorem insX4 : Cond.instantiable RX4 1 ∈ aBW := aBW_at 100 (by decide +kernel) (by decide +kernel)
theorem iniX4 : Cond.initialized RX4 ∈ aBW := aBW_at 72 (by decide +kernel) (by decide +kernel)
theorem insX5 : Cond.instantiable RX5 5 ∈ aBW := aBW_at 167 (by decide +kernel) (by decide +kernel)
theorem iniX5 : Cond.initialized RX5 ∈ aBW := aBW_at 75 (by decide +kernel) (by decide +kernel)
theorem insX6 : Cond.instantiable RX6 2 ∈ aBW := aBW_at 222 (by decide +kernel) (by decide +kernel)
theorem iniX6 : Cond.initialized RX6 ∈ aBW := aBW_at 78 (by decide +kernel) (by decide +kernel)
theorem insX7 : Cond.instantiable RX7 11 ∈ aBW := aBW_at 86 (by decide +kernel) (by decide +kernel)
theorem iniX7 : Cond.initialized RX7 ∈ aBW := aBW_at 70 (by decide +kernel) (by decide +kernel)
theorem insX8 : Cond.instantiable RX8 31 ∈ aBW := aBW_at 946 (by decide +kernel) (by decide +kernel)
theorem iniX8 : Cond.initialized RX8 ∈ aBW := aBW_at 79 (by decide +kernel) (by decide +kernel)
theorem iniJ6 : Cond.initialized RJ6 ∈ aBW := aBW_at 84 (by decide +kernel) (by decide +kernel)
theorem iniJ9 : Cond.initialized RJ9 ∈ aBW := aBW_at 73 (by decide +kernel) (by decide +kernel)
theorem arrI : Cond.arrayClass .int ∈ aBW := aBW_at 112 (by decide +kernel) (by decide +kernel)
