def T0 : u_T := fun k => match k with
  | 0 => ("WordFunctions$Pattern", "signs", "[I", true)
  | 1 => ("WordFunctions$Pattern", "count", "I", false)
  | _ => ("WordFunctions$Pattern", "matched", "[Z", true)
def ty0 : Nat → FieldType := fun k => match k with
  | 0 => .array .int
  | 1 => .int
  | _ => .array .boolean
theorem tyo0 : ∀ k, k < 3 → parseFieldDescriptor (T0 k).2.2.1 = some (ty0 k) := by decide +kernel
theorem tnm0 : ∀ a, a < 3 → ∀ b, b < 3 → a ≠ b → (T0 a).2.1 ≠ (T0 b).2.1 := by decide +kernel
theorem tin0 : ∀ w ∈ u_ws "WordFunctions$Pattern" T0 3, w ∈ TG := by
  intro w hw
  obtain ⟨k, hk, rfl⟩ := List.mem_map.mp hw
  have hk := List.mem_range.mp hk
  match k, hk with
  | 0, _ => exact wd48
  | 1, _ => exact wd50
  | 2, _ => exact wd52
  | k + 3, h => exact absurd h (by omega)
def T1 : u_T := fun k => match k with
  | 0 => ("WordFunctions$Value", "kind", "I", true)
  | 1 => ("WordFunctions$Value", "number", "D", true)
  | _ => ("WordFunctions$Value", "text", "Ljava/lang/String;", true)
def ty1 : Nat → FieldType := fun k => match k with
  | 0 => .int
  | 1 => .double
  | _ => .object "java/lang/String"
theorem tyo1 : ∀ k, k < 3 → parseFieldDescriptor (T1 k).2.2.1 = some (ty1 k) := by decide +kernel
theorem tnm1 : ∀ a, a < 3 → ∀ b, b < 3 → a ≠ b → (T1 a).2.1 ≠ (T1 b).2.1 := by decide +kernel
theorem tin1 : ∀ w ∈ u_ws "WordFunctions$Value" T1 3, w ∈ TG := by
  intro w hw
  obtain ⟨k, hk, rfl⟩ := List.mem_map.mp hw
  have hk := List.mem_range.mp hk
  match k, hk with
  | 0, _ => exact wd91
  | 1, _ => exact wd93
  | 2, _ => exact wd95
  | k + 3, h => exact absurd h (by omega)
def T2 : u_T := fun k => match k with
  | 0 => ("WordFunctions$Grid", "rows", "I", false)
  | 1 => ("WordFunctions$Grid", "columns", "I", false)
  | 2 => ("WordFunctions$Grid", "first", "I", false)
  | 3 => ("WordFunctions$Grid", "isRange", "Z", false)
  | 4 => ("WordFunctions$Grid", "sheetRow", "I", false)
  | _ => ("WordFunctions$Grid", "sheetColumn", "I", false)
def ty2 : Nat → FieldType := fun k => match k with
  | 0 => .int
  | 1 => .int
  | 2 => .int
  | 3 => .boolean
  | 4 => .int
  | _ => .int
theorem tyo2 : ∀ k, k < 6 → parseFieldDescriptor (T2 k).2.2.1 = some (ty2 k) := by decide +kernel
theorem tnm2 : ∀ a, a < 6 → ∀ b, b < 6 → a ≠ b → (T2 a).2.1 ≠ (T2 b).2.1 := by decide +kernel
theorem tin2 : ∀ w ∈ u_ws "WordFunctions$Grid" T2 6, w ∈ TG := by
  intro w hw
  obtain ⟨k, hk, rfl⟩ := List.mem_map.mp hw
  have hk := List.mem_range.mp hk
  match k, hk with
  | 0, _ => exact wd113
  | 1, _ => exact wd115
  | 2, _ => exact wd117
  | 3, _ => exact wd119
  | 4, _ => exact wd121
  | 5, _ => exact wd123
  | k + 6, h => exact absurd h (by omega)
def T3 : u_T := fun k => match k with
  | 0 => ("WordFunctions$Arguments", "empty", "LWordFunctions$Value;", true)
  | 1 => ("WordFunctions$Arguments", "absent", "LWordFunctions$Grid;", true)
  | 2 => ("WordFunctions$Arguments", "values", "[LWordFunctions$Value;", true)
  | 3 => ("WordFunctions$Arguments", "grids", "[LWordFunctions$Grid;", true)
  | 4 => ("WordFunctions$Arguments", "used", "I", false)
  | 5 => ("WordFunctions$Arguments", "count", "I", false)
  | 6 => ("WordFunctions$Arguments", "fault", "I", false)
  | 7 => ("WordFunctions$Arguments", "homeRow", "I", false)
  | _ => ("WordFunctions$Arguments", "homeColumn", "I", false)
def ty3 : Nat → FieldType := fun k => match k with
  | 0 => .object "WordFunctions$Value"
  | 1 => .object "WordFunctions$Grid"
  | 2 => .array (.object "WordFunctions$Value")
  | 3 => .array (.object "WordFunctions$Grid")
  | 4 => .int
  | 5 => .int
  | 6 => .int
  | 7 => .int
  | _ => .int
theorem tyo3 : ∀ k, k < 9 → parseFieldDescriptor (T3 k).2.2.1 = some (ty3 k) := by decide +kernel
theorem tnm3 : ∀ a, a < 9 → ∀ b, b < 9 → a ≠ b → (T3 a).2.1 ≠ (T3 b).2.1 := by decide +kernel
theorem tin3 : ∀ w ∈ u_ws "WordFunctions$Arguments" T3 9, w ∈ TG := by
  intro w hw
  obtain ⟨k, hk, rfl⟩ := List.mem_map.mp hw
  have hk := List.mem_range.mp hk
  match k, hk with
  | 0, _ => exact wd147
  | 1, _ => exact wd149
  | 2, _ => exact wd151
  | 3, _ => exact wd153
  | 4, _ => exact wd155
  | 5, _ => exact wd157
  | 6, _ => exact wd159
  | 7, _ => exact wd161
  | 8, _ => exact wd163
  | k + 9, h => exact absurd h (by omega)
def T4 : u_T := fun k => match k with
  | 0 => ("WordFunctions$Answer", "values", "[LWordFunctions$Value;", true)
  | 1 => ("WordFunctions$Answer", "rows", "I", false)
  | 2 => ("WordFunctions$Answer", "columns", "I", false)
  | _ => ("WordFunctions$Answer", "told", "LWordFunctions$Value;", false)
def ty4 : Nat → FieldType := fun k => match k with
  | 0 => .array (.object "WordFunctions$Value")
  | 1 => .int
  | 2 => .int
  | _ => .object "WordFunctions$Value"
theorem tyo4 : ∀ k, k < 4 → parseFieldDescriptor (T4 k).2.2.1 = some (ty4 k) := by decide +kernel
theorem tnm4 : ∀ a, a < 4 → ∀ b, b < 4 → a ≠ b → (T4 a).2.1 ≠ (T4 b).2.1 := by decide +kernel
theorem tin4 : ∀ w ∈ u_ws "WordFunctions$Answer" T4 4, w ∈ TG := by
  intro w hw
  obtain ⟨k, hk, rfl⟩ := List.mem_map.mp hw
  have hk := List.mem_range.mp hk
  match k, hk with
  | 0, _ => exact wd181
  | 1, _ => exact wd183
  | 2, _ => exact wd185
  | 3, _ => exact wd187
  | k + 4, h => exact absurd h (by omega)
def T5 : u_T := fun k => match k with
  | 0 => ("WordFunctions$Texts", "given", "LWordFunctions$Arguments;", true)
  | _ => ("WordFunctions$Texts", "pattern", "LWordFunctions$Pattern;", true)
def ty5 : Nat → FieldType := fun k => match k with
  | 0 => .object "WordFunctions$Arguments"
  | _ => .object "WordFunctions$Pattern"
theorem tyo5 : ∀ k, k < 2 → parseFieldDescriptor (T5 k).2.2.1 = some (ty5 k) := by decide +kernel
theorem tnm5 : ∀ a, a < 2 → ∀ b, b < 2 → a ≠ b → (T5 a).2.1 ≠ (T5 b).2.1 := by decide +kernel
theorem tin5 : ∀ w ∈ u_ws "WordFunctions$Texts" T5 2, w ∈ TG := by
  intro w hw
  obtain ⟨k, hk, rfl⟩ := List.mem_map.mp hw
  have hk := List.mem_range.mp hk
  match k, hk with
  | 0, _ => exact wd198
  | 1, _ => exact wd200
  | k + 2, h => exact absurd h (by omega)
def T6 : u_T := fun k => match k with
  | 0 => ("WordFunctions$LookUps", "given", "LWordFunctions$Arguments;", true)
  | _ => ("WordFunctions$LookUps", "pattern", "LWordFunctions$Pattern;", true)
def ty6 : Nat → FieldType := fun k => match k with
  | 0 => .object "WordFunctions$Arguments"
  | _ => .object "WordFunctions$Pattern"
theorem tyo6 : ∀ k, k < 2 → parseFieldDescriptor (T6 k).2.2.1 = some (ty6 k) := by decide +kernel
theorem tnm6 : ∀ a, a < 2 → ∀ b, b < 2 → a ≠ b → (T6 a).2.1 ≠ (T6 b).2.1 := by decide +kernel
theorem tin6 : ∀ w ∈ u_ws "WordFunctions$LookUps" T6 2, w ∈ TG := by
  intro w hw
  obtain ⟨k, hk, rfl⟩ := List.mem_map.mp hw
  have hk := List.mem_range.mp hk
  match k, hk with
  | 0, _ => exact wd211
  | 1, _ => exact wd213
  | k + 2, h => exact absurd h (by omega)
def T7 : u_T := fun k => match k with
  | 0 => ("WordFunctions$Dates", "given", "LWordFunctions$Arguments;", true)
  | 1 => ("WordFunctions$Dates", "free", "[I", true)
  | _ => ("WordFunctions$Dates", "freeCount", "I", false)
def ty7 : Nat → FieldType := fun k => match k with
  | 0 => .object "WordFunctions$Arguments"
  | 1 => .array .int
  | _ => .int
theorem tyo7 : ∀ k, k < 3 → parseFieldDescriptor (T7 k).2.2.1 = some (ty7 k) := by decide +kernel
theorem tnm7 : ∀ a, a < 3 → ∀ b, b < 3 → a ≠ b → (T7 a).2.1 ≠ (T7 b).2.1 := by decide +kernel
theorem tin7 : ∀ w ∈ u_ws "WordFunctions$Dates" T7 3, w ∈ TG := by
  intro w hw
  obtain ⟨k, hk, rfl⟩ := List.mem_map.mp hw
  have hk := List.mem_range.mp hk
  match k, hk with
  | 0, _ => exact wd225
  | 1, _ => exact wd227
  | 2, _ => exact wd229
  | k + 3, h => exact absurd h (by omega)
def T8 : u_T := fun k => match k with
  | _ => ("WordFunctions$Kinds", "given", "LWordFunctions$Arguments;", true)
def ty8 : Nat → FieldType := fun k => match k with
  | _ => .object "WordFunctions$Arguments"
theorem tyo8 : ∀ k, k < 1 → parseFieldDescriptor (T8 k).2.2.1 = some (ty8 k) := by decide +kernel
theorem tnm8 : ∀ a, a < 1 → ∀ b, b < 1 → a ≠ b → (T8 a).2.1 ≠ (T8 b).2.1 := by decide +kernel
theorem tin8 : ∀ w ∈ u_ws "WordFunctions$Kinds" T8 1, w ∈ TG := by
  intro w hw
  obtain ⟨k, hk, rfl⟩ := List.mem_map.mp hw
  have hk := List.mem_range.mp hk
  match k, hk with
  | 0, _ => exact wd239
  | k + 1, h => exact absurd h (by omega)
def T9 : u_T := fun k => match k with
  | 0 => ("WordFunctions", "tape", "[C", true)
  | 1 => ("WordFunctions", "taped", "I", false)
  | 2 => ("WordFunctions", "cut", "Ljava/lang/String;", false)
  | 3 => ("WordFunctions", "given", "LWordFunctions$Arguments;", true)
  | 4 => ("WordFunctions", "answer", "LWordFunctions$Answer;", true)
  | 5 => ("WordFunctions", "texts", "LWordFunctions$Texts;", true)
  | 6 => ("WordFunctions", "lookUps", "LWordFunctions$LookUps;", true)
  | 7 => ("WordFunctions", "dates", "LWordFunctions$Dates;", true)
  | _ => ("WordFunctions", "kinds", "LWordFunctions$Kinds;", true)
def ty9 : Nat → FieldType := fun k => match k with
  | 0 => .array .char
  | 1 => .int
  | 2 => .object "java/lang/String"
  | 3 => .object "WordFunctions$Arguments"
  | 4 => .object "WordFunctions$Answer"
  | 5 => .object "WordFunctions$Texts"
  | 6 => .object "WordFunctions$LookUps"
  | 7 => .object "WordFunctions$Dates"
  | _ => .object "WordFunctions$Kinds"
theorem tyo9 : ∀ k, k < 9 → parseFieldDescriptor (T9 k).2.2.1 = some (ty9 k) := by decide +kernel
theorem tnm9 : ∀ a, a < 9 → ∀ b, b < 9 → a ≠ b → (T9 a).2.1 ≠ (T9 b).2.1 := by decide +kernel
theorem tin9 : ∀ w ∈ u_ws "WordFunctions" T9 9, w ∈ TG := by
  intro w hw
  obtain ⟨k, hk, rfl⟩ := List.mem_map.mp hw
  have hk := List.mem_range.mp hk
  match k, hk with
  | 0, _ => exact wd251
  | 1, _ => exact wd253
  | 2, _ => exact wd255
  | 3, _ => exact wd257
  | 4, _ => exact wd259
  | 5, _ => exact wd261
  | 6, _ => exact wd263
  | 7, _ => exact wd265
  | 8, _ => exact wd267
  | k + 9, h => exact absurd h (by omega)
def T10 : u_T := fun k => match k with
  | 0 => ("java/lang/AbstractStringBuilder", "value", "[B", false)
  | 1 => ("java/lang/AbstractStringBuilder", "coder", "B", false)
  | 2 => ("java/lang/AbstractStringBuilder", "maybeLatin1", "Z", false)
  | _ => ("java/lang/AbstractStringBuilder", "count", "I", false)
def ty10 : Nat → FieldType := fun k => match k with
  | 0 => .array .byte
  | 1 => .byte
  | 2 => .boolean
  | _ => .int
theorem tyo10 : ∀ k, k < 4 → parseFieldDescriptor (T10 k).2.2.1 = some (ty10 k) := by decide +kernel
theorem tnm10 : ∀ a, a < 4 → ∀ b, b < 4 → a ≠ b → (T10 a).2.1 ≠ (T10 b).2.1 := by decide +kernel
theorem tin10 : ∀ w ∈ u_ws "java/lang/StringBuilder" T10 4, w ∈ TG := by
  intro w hw
  obtain ⟨k, hk, rfl⟩ := List.mem_map.mp hw
  have hk := List.mem_range.mp hk
  match k, hk with
  | 0, _ => exact wd304
  | 1, _ => exact wd306
  | 2, _ => exact wd308
  | 3, _ => exact wd310
  | k + 4, h => exact absurd h (by omega)
def T11 : u_T := fun k => match k with
  | 0 => ("java/lang/String", "value", "[B", true)
  | 1 => ("java/lang/String", "coder", "B", true)
  | 2 => ("java/lang/String", "hash", "I", false)
  | _ => ("java/lang/String", "hashIsZero", "Z", false)
def ty11 : Nat → FieldType := fun k => match k with
  | 0 => .array .byte
  | 1 => .byte
  | 2 => .int
  | _ => .boolean
theorem tyo11 : ∀ k, k < 4 → parseFieldDescriptor (T11 k).2.2.1 = some (ty11 k) := by decide +kernel
theorem tnm11 : ∀ a, a < 4 → ∀ b, b < 4 → a ≠ b → (T11 a).2.1 ≠ (T11 b).2.1 := by decide +kernel
theorem tin11 : ∀ w ∈ u_ws "java/lang/String" T11 4, w ∈ TG := by
  intro w hw
  obtain ⟨k, hk, rfl⟩ := List.mem_map.mp hw
  have hk := List.mem_range.mp hk
  match k, hk with
  | 0, _ => exact wd600
  | 1, _ => exact wd602
  | 2, _ => exact wd604
  | 3, _ => exact wd606
  | k + 4, h => exact absurd h (by omega)
def T12 : u_T := fun k => match k with
  | 0 => ("WordFunctionsModel", "code", "I", false)
  | 1 => ("WordFunctionsModel", "fed", "I", false)
  | 2 => ("WordFunctionsModel", "size", "I", false)
  | 3 => ("WordFunctionsModel", "heap", "I", false)
  | 4 => ("WordFunctionsModel", "tape", "[I", true)
  | 5 => ("WordFunctionsModel", "text", "[I", true)
  | 6 => ("WordFunctionsModel", "letters", "[I", true)
  | 7 => ("WordFunctionsModel", "count", "I", false)
  | 8 => ("WordFunctionsModel", "used", "I", false)
  | 9 => ("WordFunctionsModel", "rows", "[I", true)
  | 10 => ("WordFunctionsModel", "columns", "[I", true)
  | 11 => ("WordFunctionsModel", "firsts", "[I", true)
  | 12 => ("WordFunctionsModel", "tops", "[I", true)
  | 13 => ("WordFunctionsModel", "lefts", "[I", true)
  | 14 => ("WordFunctionsModel", "kinds", "[I", true)
  | 15 => ("WordFunctionsModel", "froms", "[I", true)
  | 16 => ("WordFunctionsModel", "sizes", "[I", true)
  | 17 => ("WordFunctionsModel", "numbers", "[D", true)
  | 18 => ("WordFunctionsModel", "homeRow", "I", false)
  | 19 => ("WordFunctionsModel", "homeColumn", "I", false)
  | 20 => ("WordFunctionsModel", "kind", "I", false)
  | 21 => ("WordFunctionsModel", "number", "D", false)
  | 22 => ("WordFunctionsModel", "error", "I", false)
  | 23 => ("WordFunctionsModel", "a", "[I", true)
  | 24 => ("WordFunctionsModel", "b", "[I", true)
  | 25 => ("WordFunctionsModel", "c", "[I", true)
  | 26 => ("WordFunctionsModel", "made", "[I", true)
  | 27 => ("WordFunctionsModel", "aSize", "I", false)
  | 28 => ("WordFunctionsModel", "bSize", "I", false)
  | 29 => ("WordFunctionsModel", "cSize", "I", false)
  | 30 => ("WordFunctionsModel", "madeSize", "I", false)
  | 31 => ("WordFunctionsModel", "over", "Z", false)
  | 32 => ("WordFunctionsModel", "tellKind", "I", false)
  | 33 => ("WordFunctionsModel", "tellSize", "I", false)
  | 34 => ("WordFunctionsModel", "tellNumber", "D", false)
  | 35 => ("WordFunctionsModel", "tell", "[I", true)
  | 36 => ("WordFunctionsModel", "part", "I", false)
  | 37 => ("WordFunctionsModel", "partRow", "I", false)
  | 38 => ("WordFunctionsModel", "partColumn", "I", false)
  | 39 => ("WordFunctionsModel", "partRows", "I", false)
  | 40 => ("WordFunctionsModel", "partColumns", "I", false)
  | 41 => ("WordFunctionsModel", "turned", "Z", false)
  | 42 => ("WordFunctionsModel", "year", "I", false)
  | 43 => ("WordFunctionsModel", "month", "I", false)
  | 44 => ("WordFunctionsModel", "day", "I", false)
  | 45 => ("WordFunctionsModel", "fits", "[Z", true)
  | 46 => ("WordFunctionsModel", "wantKind", "I", false)
  | 47 => ("WordFunctionsModel", "wantNumber", "D", false)
  | 48 => ("WordFunctionsModel", "wantPattern", "Z", false)
  | 49 => ("WordFunctionsModel", "keptRows", "I", false)
  | 50 => ("WordFunctionsModel", "keptColumns", "I", false)
  | 51 => ("WordFunctionsModel", "keptKinds", "[I", true)
  | 52 => ("WordFunctionsModel", "keptFroms", "[I", true)
  | 53 => ("WordFunctionsModel", "keptSizes", "[I", true)
  | _ => ("WordFunctionsModel", "keptNumbers", "[D", true)
def ty12 : Nat → FieldType := fun k => match k with
  | 0 => .int
  | 1 => .int
  | 2 => .int
  | 3 => .int
  | 4 => .array .int
  | 5 => .array .int
  | 6 => .array .int
  | 7 => .int
  | 8 => .int
  | 9 => .array .int
  | 10 => .array .int
  | 11 => .array .int
  | 12 => .array .int
  | 13 => .array .int
  | 14 => .array .int
  | 15 => .array .int
  | 16 => .array .int
  | 17 => .array .double
  | 18 => .int
  | 19 => .int
  | 20 => .int
  | 21 => .double
  | 22 => .int
  | 23 => .array .int
  | 24 => .array .int
  | 25 => .array .int
  | 26 => .array .int
  | 27 => .int
  | 28 => .int
  | 29 => .int
  | 30 => .int
  | 31 => .boolean
  | 32 => .int
  | 33 => .int
  | 34 => .double
  | 35 => .array .int
  | 36 => .int
  | 37 => .int
  | 38 => .int
  | 39 => .int
  | 40 => .int
  | 41 => .boolean
  | 42 => .int
  | 43 => .int
  | 44 => .int
  | 45 => .array .boolean
  | 46 => .int
  | 47 => .double
  | 48 => .boolean
  | 49 => .int
  | 50 => .int
  | 51 => .array .int
  | 52 => .array .int
  | 53 => .array .int
  | _ => .array .double
theorem tyo12 : ∀ k, k < 55 → parseFieldDescriptor (T12 k).2.2.1 = some (ty12 k) := by decide +kernel
theorem tnm12 : ∀ a, a < 55 → ∀ b, b < 55 → a ≠ b → (T12 a).2.1 ≠ (T12 b).2.1 := by decide +kernel
theorem tin12 : ∀ w ∈ u_ws "WordFunctionsModel" T12 55, w ∈ TG := by
  intro w hw
  obtain ⟨k, hk, rfl⟩ := List.mem_map.mp hw
  have hk := List.mem_range.mp hk
  match k, hk with
  | 0, _ => exact wd1421
  | 1, _ => exact wd1423
  | 2, _ => exact wd1425
  | 3, _ => exact wd1427
  | 4, _ => exact wd1429
  | 5, _ => exact wd1431
  | 6, _ => exact wd1433
  | 7, _ => exact wd1435
  | 8, _ => exact wd1437
  | 9, _ => exact wd1439
  | 10, _ => exact wd1441
  | 11, _ => exact wd1443
  | 12, _ => exact wd1445
  | 13, _ => exact wd1447
  | 14, _ => exact wd1449
  | 15, _ => exact wd1451
  | 16, _ => exact wd1453
  | 17, _ => exact wd1455
  | 18, _ => exact wd1457
  | 19, _ => exact wd1459
  | 20, _ => exact wd1461
  | 21, _ => exact wd1463
  | 22, _ => exact wd1465
  | 23, _ => exact wd1467
  | 24, _ => exact wd1469
  | 25, _ => exact wd1471
  | 26, _ => exact wd1473
  | 27, _ => exact wd1475
  | 28, _ => exact wd1477
  | 29, _ => exact wd1479
  | 30, _ => exact wd1481
  | 31, _ => exact wd1483
  | 32, _ => exact wd1485
  | 33, _ => exact wd1487
  | 34, _ => exact wd1489
  | 35, _ => exact wd1491
  | 36, _ => exact wd1493
  | 37, _ => exact wd1495
  | 38, _ => exact wd1497
  | 39, _ => exact wd1499
  | 40, _ => exact wd1501
  | 41, _ => exact wd1503
  | 42, _ => exact wd1505
  | 43, _ => exact wd1507
  | 44, _ => exact wd1509
  | 45, _ => exact wd1511
  | 46, _ => exact wd1513
  | 47, _ => exact wd1515
  | 48, _ => exact wd1517
  | 49, _ => exact wd1519
  | 50, _ => exact wd1521
  | 51, _ => exact wd1523
  | 52, _ => exact wd1525
  | 53, _ => exact wd1527
  | 54, _ => exact wd1529
  | k + 55, h => exact absurd h (by omega)
def T13 : u_T := fun k => match k with
  | 0 => ("java/lang/Throwable", "cause", "Ljava/lang/Throwable;", false)
  | 1 => ("java/lang/Throwable", "stackTrace", "[Ljava/lang/StackTraceElement;", false)
  | 2 => ("java/lang/Throwable", "suppressedExceptions", "Ljava/util/List;", false)
  | 3 => ("java/lang/Throwable", "detailMessage", "Ljava/lang/String;", false)
  | 4 => ("java/lang/Throwable", "backtrace", "Ljava/lang/Object;", false)
  | _ => ("java/lang/Throwable", "depth", "I", false)
def ty13 : Nat → FieldType := fun k => match k with
  | 0 => .object "java/lang/Throwable"
  | 1 => .array (.object "java/lang/StackTraceElement")
  | 2 => .object "java/util/List"
  | 3 => .object "java/lang/String"
  | 4 => .object "java/lang/Object"
  | _ => .int
theorem tyo13 : ∀ k, k < 6 → parseFieldDescriptor (T13 k).2.2.1 = some (ty13 k) := by decide +kernel
theorem tnm13 : ∀ a, a < 6 → ∀ b, b < 6 → a ≠ b → (T13 a).2.1 ≠ (T13 b).2.1 := by decide +kernel
theorem tin13 : ∀ w ∈ u_ws "java/lang/IllegalArgumentException" T13 6, w ∈ TG := by
  intro w hw
  obtain ⟨k, hk, rfl⟩ := List.mem_map.mp hw
  have hk := List.mem_range.mp hk
  match k, hk with
  | 0, _ => exact wd455
  | 1, _ => exact wd457
  | 2, _ => exact wd459
  | 3, _ => exact wd461
  | 4, _ => exact wd463
  | 5, _ => exact wd581
  | k + 6, h => exact absurd h (by omega)
def T14 : u_T := fun k => match k with
  | 0 => ("java/lang/Throwable", "cause", "Ljava/lang/Throwable;", false)
  | 1 => ("java/lang/Throwable", "stackTrace", "[Ljava/lang/StackTraceElement;", false)
  | 2 => ("java/lang/Throwable", "suppressedExceptions", "Ljava/util/List;", false)
  | 3 => ("java/lang/Throwable", "detailMessage", "Ljava/lang/String;", false)
  | 4 => ("java/lang/Throwable", "backtrace", "Ljava/lang/Object;", false)
  | _ => ("java/lang/Throwable", "depth", "I", false)
def ty14 : Nat → FieldType := fun k => match k with
  | 0 => .object "java/lang/Throwable"
  | 1 => .array (.object "java/lang/StackTraceElement")
  | 2 => .object "java/util/List"
  | 3 => .object "java/lang/String"
  | 4 => .object "java/lang/Object"
  | _ => .int
theorem tyo14 : ∀ k, k < 6 → parseFieldDescriptor (T14 k).2.2.1 = some (ty14 k) := by decide +kernel
theorem tnm14 : ∀ a, a < 6 → ∀ b, b < 6 → a ≠ b → (T14 a).2.1 ≠ (T14 b).2.1 := by decide +kernel
theorem tin14 : ∀ w ∈ u_ws "java/lang/IllegalStateException" T14 6, w ∈ TG := by
  intro w hw
  obtain ⟨k, hk, rfl⟩ := List.mem_map.mp hw
  have hk := List.mem_range.mp hk
  match k, hk with
  | 0, _ => exact wd715
  | 1, _ => exact wd716
  | 2, _ => exact wd717
  | 3, _ => exact wd718
  | 4, _ => exact wd719
  | 5, _ => exact wd725
  | k + 6, h => exact absurd h (by omega)
def CL : List vw_C := [("WordFunctions$Pattern", T0, 3), ("WordFunctions$Value", T1, 3), ("WordFunctions$Grid", T2, 6), ("WordFunctions$Arguments", T3, 9), ("WordFunctions$Answer", T4, 4), ("WordFunctions$Texts", T5, 2), ("WordFunctions$LookUps", T6, 2), ("WordFunctions$Dates", T7, 3), ("WordFunctions$Kinds", T8, 1), ("WordFunctions", T9, 9), ("java/lang/StringBuilder", T10, 4), ("java/lang/String", T11, 4), ("WordFunctionsModel", T12, 55), ("java/lang/IllegalArgumentException", T13, 6), ("java/lang/IllegalStateException", T14, 6)]
def nf : Nat → Nat := fun c => match c with
  | 0 => 3
  | 1 => 3
  | 2 => 6
  | 3 => 9
  | 4 => 4
  | 5 => 2
  | 6 => 2
  | 7 => 3
  | 8 => 1
  | 9 => 9
  | 10 => 4
  | 11 => 4
  | 12 => 55
  | 13 => 6
  | 14 => 6
  | _ => 0
def fk : Nat → Nat → Nat := fun c k => match c, k with
  | 0, 0 => 2
  | 0, 2 => 2
  | 1, 1 => 1
  | 1, 2 => 3
  | 3, 0 => 3
  | 3, 1 => 2
  | 3, 2 => 2
  | 3, 3 => 2
  | 4, 0 => 2
  | 4, 3 => 3
  | 5, 0 => 2
  | 5, 1 => 2
  | 6, 0 => 2
  | 6, 1 => 2
  | 7, 0 => 2
  | 7, 1 => 2
  | 8, 0 => 2
  | 9, 0 => 2
  | 9, 2 => 3
  | 9, 3 => 2
  | 9, 4 => 2
  | 9, 5 => 2
  | 9, 6 => 2
  | 9, 7 => 2
  | 9, 8 => 2
  | 10, 0 => 3
  | 11, 0 => 3
  | 12, 4 => 2
  | 12, 5 => 2
  | 12, 6 => 2
  | 12, 9 => 2
  | 12, 10 => 2
  | 12, 11 => 2
  | 12, 12 => 2
  | 12, 13 => 2
  | 12, 14 => 2
  | 12, 15 => 2
  | 12, 16 => 2
  | 12, 17 => 2
  | 12, 21 => 1
  | 12, 23 => 2
  | 12, 24 => 2
  | 12, 25 => 2
  | 12, 26 => 2
  | 12, 34 => 1
  | 12, 35 => 2
  | 12, 45 => 2
  | 12, 47 => 1
  | 12, 51 => 2
  | 12, 52 => 2
  | 12, 53 => 2
  | 12, 54 => 2
  | 13, 0 => 3
  | 13, 1 => 3
  | 13, 2 => 3
  | 13, 3 => 3
  | 13, 4 => 3
  | 14, 0 => 3
  | 14, 1 => 3
  | 14, 2 => 3
  | 14, 3 => 3
  | 14, 4 => 3
  | _, _ => 0
def tabM : Nat → Nat × Nat := fun i => match i with
  | 0 => (0, 12)
  | 1 => (1, 260)
  | 2 => (1, 256)
  | 3 => (1, 140000)
  | 4 => (1, 30)
  | 5 => (1, 30)
  | 6 => (1, 30)
  | 7 => (1, 30)
  | 8 => (1, 30)
  | 9 => (1, 513)
  | 10 => (1, 513)
  | 11 => (1, 513)
  | 12 => (4, 513)
  | 13 => (1, 256)
  | 14 => (1, 256)
  | 15 => (1, 256)
  | 16 => (1, 256)
  | 17 => (1, 256)
  | 18 => (2, 66000)
  | 19 => (1, 512)
  | 20 => (1, 512)
  | 21 => (1, 512)
  | 22 => (4, 512)
  | _ => (1, 0)
def ctM : Nat → Nat → Nat := fun i k => match i, k with
  | 0, 4 => 1
  | 0, 5 => 2
  | 0, 6 => 3
  | 0, 9 => 4
  | 0, 10 => 5
  | 0, 11 => 6
  | 0, 12 => 7
  | 0, 13 => 8
  | 0, 14 => 9
  | 0, 15 => 10
  | 0, 16 => 11
  | 0, 17 => 12
  | 0, 23 => 13
  | 0, 24 => 14
  | 0, 25 => 15
  | 0, 26 => 16
  | 0, 35 => 17
  | 0, 45 => 18
  | 0, 51 => 19
  | 0, 52 => 20
  | 0, 53 => 21
  | 0, 54 => 22
  | _, _ => 0
def tabC : Nat → Nat × Nat := fun i => match i with
  | 0 => (0, 9)
  | 1 => (0, 3)
  | 2 => (0, 4)
  | 3 => (0, 5)
  | 4 => (0, 6)
  | 5 => (0, 7)
  | 6 => (0, 8)
  | 7 => (0, 0)
  | 8 => (0, 2)
  | 9 => (0, 2)
  | 10 => (0, 2)
  | 11 => (0, 2)
  | 12 => (0, 2)
  | 13 => (0, 2)
  | 14 => (0, 2)
  | 15 => (0, 2)
  | 16 => (0, 2)
  | 17 => (0, 2)
  | 18 => (0, 2)
  | 19 => (0, 2)
  | 20 => (0, 2)
  | 21 => (0, 2)
  | 22 => (0, 2)
  | 23 => (0, 2)
  | 24 => (0, 2)
  | 25 => (0, 2)
  | 26 => (0, 2)
  | 27 => (0, 2)
  | 28 => (0, 2)
  | 29 => (0, 2)
  | 30 => (0, 2)
  | 31 => (0, 2)
  | 32 => (0, 2)
  | 33 => (0, 2)
  | 34 => (0, 2)
  | 35 => (0, 2)
  | 36 => (0, 2)
  | 37 => (0, 2)
  | 38 => (0, 2)
  | 39 => (3, 260)
  | 40 => (5, 512)
  | 41 => (6, 30)
  | 42 => (5, 512)
  | 43 => (1, 255)
  | 44 => (2, 256)
  | 45 => (1, 512)
  | _ => (1, 0)
def ctC : Nat → Nat → Nat := fun i k => match i, k with
  | 0, 0 => 39
  | 0, 3 => 1
  | 0, 4 => 2
  | 0, 5 => 3
  | 0, 6 => 4
  | 0, 7 => 5
  | 0, 8 => 6
  | 1, 1 => 8
  | 1, 2 => 40
  | 1, 3 => 41
  | 2, 0 => 42
  | 3, 0 => 1
  | 3, 1 => 7
  | 4, 0 => 1
  | 4, 1 => 7
  | 5, 0 => 1
  | 5, 1 => 45
  | 6, 0 => 1
  | 7, 0 => 43
  | 7, 2 => 44
  | 41, k => 9 + k
  | _, _ => 0
def NWL : List (String × Nat × MethodName × String) := [("WordFunctions", 21, y101, "WordFunctions"), ("WordFunctions$Arguments", 23, y83, "WordFunctions"), ("WordFunctions$Arguments", 66, y8, "WordFunctions"), ("WordFunctions$Pattern", 37, y6, "WordFunctions"), ("WordFunctions$Texts", 143, y19, "WordFunctions"), ("WordFunctions$Texts", 161, y6, "WordFunctions"), ("WordFunctions$Texts", 165, y18, "WordFunctions"), ("WordFunctions$Texts", 168, y10, "WordFunctions"), ("WordFunctions$LookUps", 108, y6, "WordFunctions"), ("WordFunctions$LookUps", 188, y8, "WordFunctions"), ("WordFunctions$LookUps", 216, y19, "WordFunctions"), ("WordFunctions$Dates", 157, y6, "WordFunctions")]
def ZL : List (String × String × String) := [("java/lang/String", "COMPACT_STRINGS", "Z"), ("jdk/internal/util/Preconditions", "SIOOBE_FORMATTER", "Ljava/util/function/BiFunction;"), ("java/lang/StringUTF16", "$assertionsDisabled", "Z"), ("java/lang/StringUTF16", "HI_BYTE_SHIFT", "I"), ("java/lang/StringUTF16", "LO_BYTE_SHIFT", "I"), ("java/lang/Throwable", "UNASSIGNED_STACK", "[Ljava/lang/StackTraceElement;"), ("java/lang/Throwable", "SUPPRESSED_SENTINEL", "Ljava/util/List;"), ("java/lang/Integer", "DigitOnes", "[B"), ("java/lang/Integer", "DigitTens", "[B"), ("WordFunctions", "LEAST", "[I"), ("WordFunctions", "MOST", "[I"), ("WordFunctions$Texts", "ROMAN_VALUES", "[I"), ("WordFunctions$Calendar", "BEFORE_MONTH", "[I")]
def SRL : List (String × Nat × String) := [("WordFunctions", 13, ""), ("WordFunctions$Value", 23, ""), ("java/util/Arrays", 337, " > "), ("WordFunctions", 99, "a grid has one row and one column at least"), ("WordFunctions", 109, "too many arguments or values"), ("WordFunctions", 153, "no such function for so many arguments"), ("WordFunctions$Arguments", 171, ""), ("WordFunctions$Arguments", 167, "TRUE"), ("WordFunctions$Arguments", 169, "FALSE"), ("java/lang/StringLatin1", 151, ""), ("java/lang/StringUTF16", 295, ""), ("WordFunctions$Texts", 194, ""), ("WordFunctions$Texts", 207, "M CMD CDC XCL XLX IXV IVI "), ("WordFunctions$LookUps", 201, "$"), ("WordFunctions$LookUps", 203, ""), ("WordFunctions$LookUps", 220, "["), ("WordFunctions$LookUps", 222, "]"), ("WordFunctions$Dates", 129, "Y"), ("WordFunctions$Dates", 135, "M"), ("WordFunctions$Dates", 137, "D"), ("WordFunctions$Dates", 139, "YM"), ("WordFunctions$Dates", 141, "MD"), ("WordFunctions$Dates", 146, "YD")]
/-! ===== knowledge of the machine's tables ===== -/
abbrev RH : Type := va_G × (Nat → Nat) × (Nat → Nat) × (Nat → Nat) × (Nat → Nat) × (Nat → Nat) × (Nat → Nat)
abbrev rD (ρ : RH) : va_G := ρ.1
abbrev rA (ρ : RH) : Nat → Nat := ρ.2.1
abbrev rS (ρ : RH) : Nat → Nat := ρ.2.2.1
abbrev rZa (ρ : RH) : Nat → Nat := ρ.2.2.2.1
abbrev rZs (ρ : RH) : Nat → Nat := ρ.2.2.2.2.1
/-- a class's number: 1 if it is one of byte arrays, 2 of int arrays -/
abbrev rB (ρ : RH) : Nat → Nat := ρ.2.2.2.2.2.1
/-- where a static table lies -/
abbrev rT (ρ : RH) : Nat → Nat := ρ.2.2.2.2.2.2
def TYS (ρ : RH) : List (ClassId × FieldType) := [(rA ρ 0, .int), (rA ρ 1, .boolean), (rA ρ 2, .char), (rA ρ 3, .double), (rA ρ 4, .byte), (rA ρ 5, .long), (rA ρ 6, .object "WordFunctions$Value"), (rA ρ 7, .object "WordFunctions$Grid")]
def ZAt (U : State) (C n d : String) (a sl : Nat) : Prop := ∃ (cf : ClassId) (kf : Class) (fi : Nat) (f : Field), U.fieldFound? C n d = some (cf, kf, fi, f) ∧ f.isStatic = true ∧ kf.init = .initialized ∧ kf.statics = some a ∧ f.slot = sl
theorem ZAt.moved {u U : State} {C n d : String} {a sl : Nat} (hvm : u.vm.Alike U.vm) (h : ZAt u C n d a sl) : ZAt U C n d a sl := by
  obtain ⟨cf, kf, fi, f, h1, h2, h3, h4, h5⟩ := h
  obtain ⟨k', hi', he⟩ := State.fieldFound?_setVm hvm h1
  exact ⟨cf, k', fi, f, hi', h2, by rw [he]; exact h3, by rw [he]; exact h4, h5⟩
def CAL : List (String × String) := [("[B", "java/lang/Cloneable"), ("java/lang/IllegalArgumentException", "java/lang/IllegalArgumentException"), ("java/lang/IllegalStateException", "java/lang/IllegalStateException")]
def DCL : List MethodName := [y282, y283, y270, y271, y342, y343]
def KK (ρ : RH) (U : State) : Prop := va_K (rD ρ) CL (TYS ρ) U ∧ (∀ (k : Nat) (w : String × Nat × MethodName × String), NWL[k]? = some w → va_Nw (.methodLinkNest w.1 w.2.1 w.2.2.1 w.2.2.2) U) ∧ (∀ (k : Nat) (q : String × Nat × String), SRL[k]? = some q → vk_R q.1 q.2.1 q.2.2 (rS ρ k) U) ∧ (∀ (k : Nat) (q : String × String × String), ZL[k]? = some q → ZAt U q.1 q.2.1 q.2.2 (rZa ρ k) (rZs ρ k)) ∧ (∀ c0, rB ρ c0 = 1 → ArrOfT U c0 .byte) ∧ (∀ c0, rB ρ c0 = 2 → ArrOfT U c0 .int) ∧ rB ρ (rA ρ 4) = 1 ∧ (∀ (k : Nat) (q : String × String), CAL[k]? = some q → va_Nw (.castable q.1 q.2) U) ∧ (∀ (k : Nat) (y : MethodName), DCL[k]? = some y → va_Nw (.declares y) U) ∧ va_AO "WordFunctions$Value" U ∧ va_AO "WordFunctions$Grid" U
theorem KK.warm {ρ : RH} {s U : State} (hW : s.WarmedH U.vm) (h : KK ρ s) : KK ρ U :=
  ⟨va_K.moved hW.alike h.1, fun k w hk => va_Nw.warmM hW (h.2.1 k w hk), fun k q hk => vk_R.warm hW (h.2.2.1 k q hk), fun k q hk => (h.2.2.2.1 k q hk).moved hW.alike, fun c0 h0 => arrOfT_moved hW.alike (h.2.2.2.2.1 c0 h0), fun c0 h0 => arrOfT_moved hW.alike (h.2.2.2.2.2.1 c0 h0), h.2.2.2.2.2.2.1, fun k q hk => va_Nw.warmC hW (h.2.2.2.2.2.2.2.1 k q hk), fun k y hk => va_Nw.warmD hW (h.2.2.2.2.2.2.2.2.1 k y hk), va_AO.moved hW.alike h.2.2.2.2.2.2.2.2.2.1, va_AO.moved hW.alike h.2.2.2.2.2.2.2.2.2.2⟩
theorem KK.blind {ρ : RH} {U : State} {g : JFrame} {mk : MethodId} {a : Array Value} (h : KK ρ U) : KK ρ (U.calling g mk a) :=
  ⟨va_K.moved (u := U) (U := U.calling g mk a) (Vm.Alike.refl U.vm) h.1, fun k w hk => va_Nw.same rfl (u := U) (U := U.calling g mk a) rfl (h.2.1 k w hk), fun k q hk => vk_R.same (u := U) (U := U.calling g mk a) rfl (h.2.2.1 k q hk), fun k q hk => ZAt.moved (u := U) (U := U.calling g mk a) (Vm.Alike.refl U.vm) (h.2.2.2.1 k q hk), fun c0 h0 => arrOfT_moved (u := U) (E := U.calling g mk a) (Vm.Alike.refl U.vm) (h.2.2.2.2.1 c0 h0), fun c0 h0 => arrOfT_moved (u := U) (E := U.calling g mk a) (Vm.Alike.refl U.vm) (h.2.2.2.2.2.1 c0 h0), h.2.2.2.2.2.2.1, fun k q hk => va_Nw.same rfl (u := U) (U := U.calling g mk a) rfl (h.2.2.2.2.2.2.2.1 k q hk), fun k y hk => va_Nw.same rfl (u := U) (U := U.calling g mk a) rfl (h.2.2.2.2.2.2.2.2.1 k y hk), va_AO.moved (u := U) (U := U.calling g mk a) (Vm.Alike.refl U.vm) h.2.2.2.2.2.2.2.2.2.1, va_AO.moved (u := U) (U := U.calling g mk a) (Vm.Alike.refl U.vm) h.2.2.2.2.2.2.2.2.2.2⟩
/-! ===== contracts ===== -/
def KP (ρ : RH) (H : Heap) : State → Prop := fun U => U.heap = H ∧ KK ρ U
def mQ (post : Option Value → Heap → Prop) (A : Nat → Prop) : Array Value → State → Outcome → State → Prop := fun _ st oc t => (∃ v, oc = .returned v ∧ post v t.heap) ∧ va_F A st t
abbrev wsOf (y : MethodName) (b : ByteArray) (ml : Nat) (ret : Option FieldType) : List Cond := Cond.code y b ml ret :: TG
theorem KP.blind {ρ : RH} {H : Heap} {av : List Value} : FrameBlind (va_Pc av (KP ρ H)) := fun a U g mk h => ⟨h.1, h.2.1, KK.blind h.2.2⟩
theorem KP.of {ρ : RH} {H : Heap} {s U : State} {av : List Value} (hK : KK ρ s) (hU : U.heap = H) (hW : s.WarmedH U.vm) : va_Pc av (KP ρ H) av.toArray U := ⟨rfl, hU, hK.warm hW⟩
theorem goodTG {c0 c1 : Cond} (h : c1 ∈ TG) : GoodIn (c0 :: TG) (c1 :: TG) := by
  intro w hw
  have hm : w ∈ TG := by
    rcases List.mem_cons.mp hw with e | e
    · rw [e]; exact h
    · exact e
  exact ⟨List.mem_cons_of_mem _ hm, good_of_word (tg_good hm)⟩
/-- the context of a walk -/
def CX (p : Program) (s : State) (m : MethodId) (c : Code) (args : Array Value) (own : String) (cc : ByteArray) (nL : Nat) (ρ : RH) (w0 : Cond) : Prop :=
  (p.tables.exec = Jvm.exec ∧ c.code = cc ∧ c.maxLocals = nL ∧ s.vm.findClass own = some m.cls ∧ ∀ w ∈ (w0 :: TG), w.before args s = true) ∧ KK ρ s
theorem CX.ts {p : Program} {s : State} {m : MethodId} {c : Code} {args : Array Value} {own : String} {cc : ByteArray} {nL : Nat} {ρ : RH} {w0 : Cond} (X : CX p s m c args own cc nL ρ w0) {w : Cond} (h : w ∈ TG) : w.before args s = true := X.1.2.2.2.2 w (List.mem_cons_of_mem _ h)
/-- worlds: cells by index -/
abbrev GS : Type := (Nat → Nat → Int32) × (Nat → Nat → UInt64) × (Nat → Nat → Nat)
abbrev WD : Type := Nat × (Nat → Nat × Nat) × (Nat → Nat → Nat)
def wM : WD := (23, tabM, ctM)
def wC : WD := (46, tabC, ctC)
def gV (ct : Nat → Nat → Nat) (ad : Nat → Nat) (st : GS) (i c k : Nat) : Value := match fk c k with
  | 0 => .int (st.1 i k)
  | 1 => .double (st.2.1 i k)
  | 2 => .ref (ad (ct i k))
  | _ => .ref (st.2.2 i k)
def gA (ρ : RH) (ct : Nat → Nat → Nat) (ad : Nat → Nat) (st : GS) (i : Nat) (d : Nat × Nat) : ClassId × vp_A := match d.1 with
  | 1 => (rA ρ 0, d.2, .inl (st.1 i))
  | 2 => (rA ρ 1, d.2, .inl (st.1 i))
  | 3 => (rA ρ 2, d.2, .inl (st.1 i))
  | 4 => (rA ρ 3, d.2, .inr (.inr (.inr (.inl (st.2.1 i)))))
  | 5 => (rA ρ 6, d.2, .inr (.inr (.inr (.inr (fun j => some (st.2.2 i j))))))
  | _ => (rA ρ 7, d.2, .inr (.inr (.inr (.inr (fun j => some (ad (ct i j)))))))
def gC (ρ : RH) (ct : Nat → Nat → Nat) (ad : Nat → Nat) (st : GS) (i : Nat) (d : Nat × Nat) (H : Heap) : Prop :=
  if d.1 = 0 then t_OB (ad i) ((rD ρ).1 d.2) (nf d.2) ((rD ρ).2 d.2) H (gV ct ad st i d.2) else H[ad i]? = some (vp_cell (gA ρ ct ad st i d).1 (gA ρ ct ad st i d).2)
def GW (ρ : RH) (w : WD) (ad : Nat → Nat) (st : GS) (H : Heap) : Prop := (∀ i, i < w.1 → gC ρ w.2.2 ad st i (w.2.1 i) H) ∧ ∀ i j, i < w.1 → j < w.1 → ad i = ad j → i = j
def MA (w : WD) (ad : Nat → Nat) (sz : Nat) : Nat → Prop := fun q => (∃ i, i < w.1 ∧ q = ad i) ∨ sz ≤ q
theorem MA.in {w : WD} {ad : Nat → Nat} {sz i : Nat} (h : i < w.1) : MA w ad sz (ad i) := Or.inl ⟨i, h, rfl⟩
theorem MA.mono {w : WD} {ad : Nat → Nat} {sz sz' q : Nat} (h : sz ≤ sz') (hq : MA w ad sz' q) : MA w ad sz q := hq.elim Or.inl (fun g => Or.inr (Nat.le_trans h g))
theorem gC.kept {ρ : RH} {ct : Nat → Nat → Nat} {ad : Nat → Nat} {st : GS} {i : Nat} {d : Nat × Nat} {H H1 : Heap} (h : gC ρ ct ad st i d H) (hq : H1[ad i]? = H[ad i]?) : gC ρ ct ad st i d H1 := by
  unfold gC at h ⊢
  split
  · rename_i e; rw [if_pos e] at h; exact h.kept hq
  · rename_i e; rw [if_neg e] at h; rw [hq]; exact h
/-- a cell's picture speaks of that cell's state alone -/
theorem gC.same {ρ : RH} {ct : Nat → Nat → Nat} {ad : Nat → Nat} {st st' : GS} {i : Nat} {d : Nat × Nat} {H : Heap} (h : gC ρ ct ad st i d H) (e1 : st'.1 i = st.1 i) (e2 : st'.2.1 i = st.2.1 i) (e3 : st'.2.2 i = st.2.2 i) : gC ρ ct ad st' i d H := by
  unfold gC at h ⊢
  have eV : gV ct ad st' i d.2 = gV ct ad st i d.2 := by funext k; unfold gV; rw [e1, e2, e3]
  have eA : gA ρ ct ad st' i d = gA ρ ct ad st i d := by unfold gA; rw [e1, e2, e3]
  rw [eV, eA]; exact h
theorem GW.put {ρ : RH} {w : WD} {ad : Nat → Nat} {st st' : GS} {H H1 : Heap} {i : Nat} (h : GW ρ w ad st H) (hi : i < w.1) (hc : gC ρ w.2.2 ad st' i (w.2.1 i) H1) (oq : ∀ q, q ≠ ad i → H1[q]? = H[q]?) (hs : ∀ j, j ≠ i → st'.1 j = st.1 j ∧ st'.2.1 j = st.2.1 j ∧ st'.2.2 j = st.2.2 j) : GW ρ w ad st' H1 := by
  refine ⟨fun j hj => ?_, h.2⟩
  by_cases e : j = i
  · subst e; exact hc
  · obtain ⟨e1, e2, e3⟩ := hs j e
    exact ((h.1 j hj).same e1 e2 e3).kept (oq _ (fun z => e (h.2 j i hj hi z)))
theorem GW.kept {ρ : RH} {w : WD} {ad : Nat → Nat} {st : GS} {H H1 : Heap} (h : GW ρ w ad st H) (hq : ∀ i, i < w.1 → H1[ad i]? = H[ad i]?) : GW ρ w ad st H1 := ⟨fun j hj => (h.1 j hj).kept (hq j hj), h.2⟩
/-- one place of the ints changed -/
def uI (st : GS) (i k : Nat) (x : Int32) : GS := (fun i' => if i' = i then upd (st.1 i) k x else st.1 i', st.2)
def uD (st : GS) (i k : Nat) (x : UInt64) : GS := (st.1, fun i' => if i' = i then vf_upd (st.2.1 i) k x else st.2.1 i', st.2.2)
def uR (st : GS) (i k : Nat) (x : Nat) : GS := (st.1, st.2.1, fun i' => if i' = i then va_up (st.2.2 i) k x else st.2.2 i')
