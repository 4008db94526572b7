/-! NAMES, by program out of claim/Statement.lean: classes and their fields, kinds of arrays, methods -/
noncomputable def er_0 : String := "Plateroomprinter"
noncomputable def et_0 : u_T := fun k => match k with
  | 0 => ("Plateroomprinter", "code", "LPlateroomprinter$Code;", true)
  | 1 => ("Plateroomprinter", "world", "LPlateroomprinter$World;", true)
  | 2 => ("Plateroomprinter", "before", "LPlateroomprinter$World;", true)
  | 3 => ("Plateroomprinter", "raster", "LPlateroomprinter$Raster;", true)
  | 4 => ("Plateroomprinter", "painter", "LPlateroomprinter$Painter;", true)
  | 5 => ("Plateroomprinter", "engine", "LPlateroomprinter$Engine;", true)
  | 6 => ("Plateroomprinter", "trial", "LPlateroomprinter$Sheet;", true)
  | 7 => ("Plateroomprinter", "rowsOne", "[I", true)
  | 8 => ("Plateroomprinter", "rowsTwo", "[I", true)
  | 9 => ("Plateroomprinter", "rowsThree", "[I", true)
  | 10 => ("Plateroomprinter", "partXs", "[I", true)
  | 11 => ("Plateroomprinter", "partYs", "[I", true)
  | 12 => ("Plateroomprinter", "packs", "[I", true)
  | 13 => ("Plateroomprinter", "refused", "I", false)
  | 14 => ("Plateroomprinter", "faultCode", "I", false)
  | 15 => ("Plateroomprinter", "faultPlace", "I", false)
  | _ => ("Plateroomprinter", "faultOwnPlace", "I", false)
noncomputable def ey_0 : Nat → FieldType := fun k => match k with
  | 0 => (.object "Plateroomprinter$Code")
  | 1 => (.object "Plateroomprinter$World")
  | 2 => (.object "Plateroomprinter$World")
  | 3 => (.object "Plateroomprinter$Raster")
  | 4 => (.object "Plateroomprinter$Painter")
  | 5 => (.object "Plateroomprinter$Engine")
  | 6 => (.object "Plateroomprinter$Sheet")
  | 7 => (.array .int)
  | 8 => (.array .int)
  | 9 => (.array .int)
  | 10 => (.array .int)
  | 11 => (.array .int)
  | 12 => (.array .int)
  | 13 => .int
  | 14 => .int
  | 15 => .int
  | _ => .int
theorem en_0 : ∀ a, a < 17 → ∀ b, b < 17 → a ≠ b → (et_0 a).2.1 ≠ (et_0 b).2.1 := by decide +kernel
theorem eo_0 : ∀ k, k < 17 → parseFieldDescriptor (et_0 k).2.2.1 = some (ey_0 k) := by decide +kernel
theorem ei_0 : ∀ w ∈ u_ws er_0 et_0 17, w ∈ lw_tbl := r_inI r_k3 [80, 82, 84, 86, 88, 90, 92, 94, 96, 98, 100, 102, 104, 106, 108, 110, 112] (by decide +kernel)
noncomputable def er_1 : String := "Plateroomprinter$Code"
noncomputable def et_1 : u_T := fun k => match k with
  | 0 => ("Plateroomprinter$Code", "kinds", "[I", true)
  | 1 => ("Plateroomprinter$Code", "numbers", "[I", true)
  | 2 => ("Plateroomprinter$Code", "base", "I", false)
  | _ => ("Plateroomprinter$Code", "size", "I", false)
noncomputable def ey_1 : Nat → FieldType := fun k => match k with
  | 0 => (.array .int)
  | 1 => (.array .int)
  | 2 => .int
  | _ => .int
theorem en_1 : ∀ a, a < 4 → ∀ b, b < 4 → a ≠ b → (et_1 a).2.1 ≠ (et_1 b).2.1 := by decide +kernel
theorem eo_1 : ∀ k, k < 4 → parseFieldDescriptor (et_1 k).2.2.1 = some (ey_1 k) := by decide +kernel
theorem ei_1 : ∀ w ∈ u_ws er_1 et_1 4, w ∈ lw_tbl := r_inI r_k1 [69, 71, 73, 75] (by decide +kernel)
noncomputable def er_2 : String := "Plateroomprinter$Engine"
noncomputable def et_2 : u_T := fun k => match k with
  | 0 => ("Plateroomprinter$Engine", "world", "LPlateroomprinter$World;", true)
  | 1 => ("Plateroomprinter$Engine", "code", "LPlateroomprinter$Code;", true)
  | 2 => ("Plateroomprinter$Engine", "sorts", "[I", true)
  | 3 => ("Plateroomprinter$Engine", "values", "[I", true)
  | 4 => ("Plateroomprinter$Engine", "lengths", "[I", true)
  | 5 => ("Plateroomprinter$Engine", "starts", "[I", true)
  | 6 => ("Plateroomprinter$Engine", "ends", "[I", true)
  | 7 => ("Plateroomprinter$Engine", "nexts", "[I", true)
  | 8 => ("Plateroomprinter$Engine", "ats", "[I", true)
  | 9 => ("Plateroomprinter$Engine", "loops", "[I", true)
  | 10 => ("Plateroomprinter$Engine", "numbers", "[I", true)
  | 11 => ("Plateroomprinter$Engine", "steps", "[I", true)
  | 12 => ("Plateroomprinter$Engine", "limits", "[I", true)
  | 13 => ("Plateroomprinter$Engine", "rows", "I", false)
  | 14 => ("Plateroomprinter$Engine", "spent", "I", false)
  | 15 => ("Plateroomprinter$Engine", "tokensDone", "I", false)
  | 16 => ("Plateroomprinter$Engine", "orderLeft", "I", false)
  | 17 => ("Plateroomprinter$Engine", "place", "I", false)
  | _ => ("Plateroomprinter$Engine", "ownPlace", "I", false)
noncomputable def ey_2 : Nat → FieldType := fun k => match k with
  | 0 => (.object "Plateroomprinter$World")
  | 1 => (.object "Plateroomprinter$Code")
  | 2 => (.array .int)
  | 3 => (.array .int)
  | 4 => (.array .int)
  | 5 => (.array .int)
  | 6 => (.array .int)
  | 7 => (.array .int)
  | 8 => (.array .int)
  | 9 => (.array .int)
  | 10 => (.array .int)
  | 11 => (.array .int)
  | 12 => (.array .int)
  | 13 => .int
  | 14 => .int
  | 15 => .int
  | 16 => .int
  | 17 => .int
  | _ => .int
theorem en_2 : ∀ a, a < 19 → ∀ b, b < 19 → a ≠ b → (et_2 a).2.1 ≠ (et_2 b).2.1 := by decide +kernel
theorem eo_2 : ∀ k, k < 19 → parseFieldDescriptor (et_2 k).2.2.1 = some (ey_2 k) := by decide +kernel
theorem ei_2 : ∀ w ∈ u_ws er_2 et_2 19, w ∈ lw_tbl := r_inI r_k3 [22, 24, 26, 28, 30, 32, 34, 36, 38, 40, 42, 44, 46, 48, 50, 52, 54, 56, 58] (by decide +kernel)
noncomputable def er_3 : String := "Plateroomprinter$Figures"
noncomputable def et_3 : u_T := fun k => match k with
  | 0 => ("Plateroomprinter$Figures", "rows", "[I", true)
  | 1 => ("Plateroomprinter$Figures", "amounts", "[I", true)
  | 2 => ("Plateroomprinter$Figures", "sets", "[I", true)
  | 3 => ("Plateroomprinter$Figures", "points", "[I", true)
  | _ => ("Plateroomprinter$Figures", "count", "I", false)
noncomputable def ey_3 : Nat → FieldType := fun k => match k with
  | 0 => (.array .int)
  | 1 => (.array .int)
  | 2 => (.array .int)
  | 3 => (.array .int)
  | _ => .int
theorem en_3 : ∀ a, a < 5 → ∀ b, b < 5 → a ≠ b → (et_3 a).2.1 ≠ (et_3 b).2.1 := by decide +kernel
theorem eo_3 : ∀ k, k < 5 → parseFieldDescriptor (et_3 k).2.2.1 = some (ey_3 k) := by decide +kernel
theorem ei_3 : ∀ w ∈ u_ws er_3 et_3 5, w ∈ lw_tbl := r_inI r_k2 [27, 29, 31, 33, 35] (by decide +kernel)
noncomputable def er_4 : String := "Plateroomprinter$Items"
noncomputable def et_4 : u_T := fun k => match k with
  | 0 => ("Plateroomprinter$Items", "most", "I", true)
  | 1 => ("Plateroomprinter$Items", "sorts", "[I", true)
  | 2 => ("Plateroomprinter$Items", "values", "[I", true)
  | 3 => ("Plateroomprinter$Items", "lengths", "[I", true)
  | _ => ("Plateroomprinter$Items", "count", "I", false)
noncomputable def ey_4 : Nat → FieldType := fun k => match k with
  | 0 => .int
  | 1 => (.array .int)
  | 2 => (.array .int)
  | 3 => (.array .int)
  | _ => .int
theorem en_4 : ∀ a, a < 5 → ∀ b, b < 5 → a ≠ b → (et_4 a).2.1 ≠ (et_4 b).2.1 := by decide +kernel
theorem eo_4 : ∀ k, k < 5 → parseFieldDescriptor (et_4 k).2.2.1 = some (ey_4 k) := by decide +kernel
theorem ei_4 : ∀ w ∈ u_ws er_4 et_4 5, w ∈ lw_tbl := r_inI r_k1 [101, 103, 105, 107, 109] (by decide +kernel)
noncomputable def er_5 : String := "Plateroomprinter$Matrix"
noncomputable def et_5 : u_T := fun k => match k with
  | 0 => ("Plateroomprinter$Matrix", "tops", "[J", true)
  | 1 => ("Plateroomprinter$Matrix", "bottoms", "[J", true)
  | 2 => ("Plateroomprinter$Matrix", "whole", "J", false)
  | 3 => ("Plateroomprinter$Matrix", "rest", "J", false)
  | _ => ("Plateroomprinter$Matrix", "bottom", "J", false)
noncomputable def ey_5 : Nat → FieldType := fun k => match k with
  | 0 => (.array .long)
  | 1 => (.array .long)
  | 2 => .long
  | 3 => .long
  | _ => .long
theorem en_5 : ∀ a, a < 5 → ∀ b, b < 5 → a ≠ b → (et_5 a).2.1 ≠ (et_5 b).2.1 := by decide +kernel
theorem eo_5 : ∀ k, k < 5 → parseFieldDescriptor (et_5 k).2.2.1 = some (ey_5 k) := by decide +kernel
theorem ei_5 : ∀ w ∈ u_ws er_5 et_5 5, w ∈ lw_tbl := r_inI r_k1 [131, 133, 135, 137, 139] (by decide +kernel)
noncomputable def er_6 : String := "Plateroomprinter$Painter"
noncomputable def et_6 : u_T := fun k => match k with
  | 0 => ("Plateroomprinter$Painter", "world", "LPlateroomprinter$World;", true)
  | 1 => ("Plateroomprinter$Painter", "now", "LPlateroomprinter$State;", true)
  | 2 => ("Plateroomprinter$Painter", "raster", "LPlateroomprinter$Raster;", true)
  | 3 => ("Plateroomprinter$Painter", "dots", "[I", true)
  | 4 => ("Plateroomprinter$Painter", "sets", "I", false)
  | 5 => ("Plateroomprinter$Painter", "points", "I", false)
  | 6 => ("Plateroomprinter$Painter", "painted", "I", false)
  | 7 => ("Plateroomprinter$Painter", "spotX", "I", false)
  | 8 => ("Plateroomprinter$Painter", "spotY", "I", false)
  | 9 => ("Plateroomprinter$Painter", "strokes", "LPlateroomprinter$Path;", true)
  | 10 => ("Plateroomprinter$Painter", "cornerXs", "[I", true)
  | 11 => ("Plateroomprinter$Painter", "cornerYs", "[I", true)
  | 12 => ("Plateroomprinter$Painter", "hulls", "[I", true)
  | 13 => ("Plateroomprinter$Painter", "halvings", "[I", true)
  | 14 => ("Plateroomprinter$Painter", "bendXs", "[I", true)
  | 15 => ("Plateroomprinter$Painter", "bendYs", "[I", true)
  | _ => ("Plateroomprinter$Painter", "bends", "I", false)
noncomputable def ey_6 : Nat → FieldType := fun k => match k with
  | 0 => (.object "Plateroomprinter$World")
  | 1 => (.object "Plateroomprinter$State")
  | 2 => (.object "Plateroomprinter$Raster")
  | 3 => (.array .int)
  | 4 => .int
  | 5 => .int
  | 6 => .int
  | 7 => .int
  | 8 => .int
  | 9 => (.object "Plateroomprinter$Path")
  | 10 => (.array .int)
  | 11 => (.array .int)
  | 12 => (.array .int)
  | 13 => (.array .int)
  | 14 => (.array .int)
  | 15 => (.array .int)
  | _ => .int
theorem en_6 : ∀ a, a < 17 → ∀ b, b < 17 → a ≠ b → (et_6 a).2.1 ≠ (et_6 b).2.1 := by decide +kernel
theorem eo_6 : ∀ k, k < 17 → parseFieldDescriptor (et_6 k).2.2.1 = some (ey_6 k) := by decide +kernel
theorem ei_6 : ∀ w ∈ u_ws er_6 et_6 17, w ∈ lw_tbl := r_inI r_k2 [198, 200, 202, 204, 206, 208, 210, 212, 214, 216, 218, 220, 222, 224, 226, 228, 230] (by decide +kernel)
noncomputable def er_7 : String := "Plateroomprinter$Path"
noncomputable def et_7 : u_T := fun k => match k with
  | 0 => ("Plateroomprinter$Path", "xs", "[I", true)
  | 1 => ("Plateroomprinter$Path", "ys", "[I", true)
  | 2 => ("Plateroomprinter$Path", "ends", "[I", true)
  | 3 => ("Plateroomprinter$Path", "closed", "[I", true)
  | 4 => ("Plateroomprinter$Path", "rings", "I", false)
  | _ => ("Plateroomprinter$Path", "points", "I", false)
noncomputable def ey_7 : Nat → FieldType := fun k => match k with
  | 0 => (.array .int)
  | 1 => (.array .int)
  | 2 => (.array .int)
  | 3 => (.array .int)
  | 4 => .int
  | _ => .int
theorem en_7 : ∀ a, a < 6 → ∀ b, b < 6 → a ≠ b → (et_7 a).2.1 ≠ (et_7 b).2.1 := by decide +kernel
theorem eo_7 : ∀ k, k < 6 → parseFieldDescriptor (et_7 k).2.2.1 = some (ey_7 k) := by decide +kernel
theorem ei_7 : ∀ w ∈ u_ws er_7 et_7 6, w ∈ lw_tbl := r_inI r_k1 [166, 168, 170, 172, 174, 176] (by decide +kernel)
noncomputable def er_8 : String := "Plateroomprinter$Raster"
noncomputable def et_8 : u_T := fun k => match k with
  | 0 => ("Plateroomprinter$Raster", "marks", "[I", true)
  | 1 => ("Plateroomprinter$Raster", "top", "I", false)
  | _ => ("Plateroomprinter$Raster", "bottom", "I", false)
noncomputable def ey_8 : Nat → FieldType := fun k => match k with
  | 0 => (.array .int)
  | 1 => .int
  | _ => .int
theorem en_8 : ∀ a, a < 3 → ∀ b, b < 3 → a ≠ b → (et_8 a).2.1 ≠ (et_8 b).2.1 := by decide +kernel
theorem eo_8 : ∀ k, k < 3 → parseFieldDescriptor (et_8 k).2.2.1 = some (ey_8 k) := by decide +kernel
theorem ei_8 : ∀ w ∈ u_ws er_8 et_8 3, w ∈ lw_tbl := r_inI r_k2 [166, 168, 170] (by decide +kernel)
noncomputable def er_9 : String := "Plateroomprinter$Sheet"
noncomputable def et_9 : u_T := fun k => match k with
  | _ => ("Plateroomprinter$Sheet", "rows", "[I", true)
noncomputable def ey_9 : Nat → FieldType := fun k => match k with
  | _ => (.array .int)
theorem en_9 : ∀ a, a < 1 → ∀ b, b < 1 → a ≠ b → (et_9 a).2.1 ≠ (et_9 b).2.1 := by decide +kernel
theorem eo_9 : ∀ k, k < 1 → parseFieldDescriptor (et_9 k).2.2.1 = some (ey_9 k) := by decide +kernel
theorem ei_9 : ∀ w ∈ u_ws er_9 et_9 1, w ∈ lw_tbl := r_inI r_k2 [6] (by decide +kernel)
noncomputable def er_10 : String := "Plateroomprinter$State"
noncomputable def et_10 : u_T := fun k => match k with
  | 0 => ("Plateroomprinter$State", "matrix", "LPlateroomprinter$Matrix;", true)
  | 1 => ("Plateroomprinter$State", "path", "LPlateroomprinter$Path;", true)
  | 2 => ("Plateroomprinter$State", "clip", "[I", true)
  | 3 => ("Plateroomprinter$State", "amounts", "[I", true)
  | 4 => ("Plateroomprinter$State", "pointed", "Z", false)
  | 5 => ("Plateroomprinter$State", "x", "I", false)
  | 6 => ("Plateroomprinter$State", "y", "I", false)
  | 7 => ("Plateroomprinter$State", "pen", "I", false)
  | 8 => ("Plateroomprinter$State", "cap", "I", false)
  | 9 => ("Plateroomprinter$State", "join", "I", false)
  | _ => ("Plateroomprinter$State", "size", "I", false)
noncomputable def ey_10 : Nat → FieldType := fun k => match k with
  | 0 => (.object "Plateroomprinter$Matrix")
  | 1 => (.object "Plateroomprinter$Path")
  | 2 => (.array .int)
  | 3 => (.array .int)
  | 4 => .boolean
  | 5 => .int
  | 6 => .int
  | 7 => .int
  | 8 => .int
  | 9 => .int
  | _ => .int
theorem en_10 : ∀ a, a < 11 → ∀ b, b < 11 → a ≠ b → (et_10 a).2.1 ≠ (et_10 b).2.1 := by decide +kernel
theorem eo_10 : ∀ k, k < 11 → parseFieldDescriptor (et_10 k).2.2.1 = some (ey_10 k) := by decide +kernel
theorem ei_10 : ∀ w ∈ u_ws er_10 et_10 11, w ∈ lw_tbl := r_inI r_k1 [212, 214, 216, 218, 220, 222, 224, 226, 228, 230, 232] (by decide +kernel)
noncomputable def er_11 : String := "Plateroomprinter$World"
noncomputable def et_11 : u_T := fun k => match k with
  | 0 => ("Plateroomprinter$World", "pile", "LPlateroomprinter$Items;", true)
  | 1 => ("Plateroomprinter$World", "names", "LPlateroomprinter$Items;", true)
  | 2 => ("Plateroomprinter$World", "now", "LPlateroomprinter$State;", true)
  | 3 => ("Plateroomprinter$World", "kept", "[LPlateroomprinter$State;", true)
  | 4 => ("Plateroomprinter$World", "keptStates", "I", false)
  | 5 => ("Plateroomprinter$World", "forms", "[LPlateroomprinter$Path;", true)
  | 6 => ("Plateroomprinter$World", "formKept", "[I", true)
  | 7 => ("Plateroomprinter$World", "sheet", "LPlateroomprinter$Sheet;", true)
  | 8 => ("Plateroomprinter$World", "lastSheet", "LPlateroomprinter$Sheet;", true)
  | 9 => ("Plateroomprinter$World", "list", "LPlateroomprinter$Figures;", true)
  | 10 => ("Plateroomprinter$World", "printed", "I", false)
  | 11 => ("Plateroomprinter$World", "ordersDone", "[I", true)
  | 12 => ("Plateroomprinter$World", "costOfAll", "I", false)
  | 13 => ("Plateroomprinter$World", "costOfLast", "I", false)
  | _ => ("Plateroomprinter$World", "tokensDone", "I", false)
noncomputable def ey_11 : Nat → FieldType := fun k => match k with
  | 0 => (.object "Plateroomprinter$Items")
  | 1 => (.object "Plateroomprinter$Items")
  | 2 => (.object "Plateroomprinter$State")
  | 3 => (.array (.object "Plateroomprinter$State"))
  | 4 => .int
  | 5 => (.array (.object "Plateroomprinter$Path"))
  | 6 => (.array .int)
  | 7 => (.object "Plateroomprinter$Sheet")
  | 8 => (.object "Plateroomprinter$Sheet")
  | 9 => (.object "Plateroomprinter$Figures")
  | 10 => .int
  | 11 => (.array .int)
  | 12 => .int
  | 13 => .int
  | _ => .int
theorem en_11 : ∀ a, a < 15 → ∀ b, b < 15 → a ≠ b → (et_11 a).2.1 ≠ (et_11 b).2.1 := by decide +kernel
theorem eo_11 : ∀ k, k < 15 → parseFieldDescriptor (et_11 k).2.2.1 = some (ey_11 k) := by decide +kernel
theorem ei_11 : ∀ w ∈ u_ws er_11 et_11 15, w ∈ lw_tbl := r_inI r_k2 [126, 128, 130, 132, 134, 136, 138, 140, 142, 144, 146, 148, 150, 152, 154] (by decide +kernel)
noncomputable def er_12 : String := "PlateroomprinterModel"
noncomputable def et_12 : u_T := fun k => match k with
  | 0 => ("PlateroomprinterModel", "thrown", "I", false)
  | 1 => ("PlateroomprinterModel", "machine", "LPlateroomprinterModel$Machine;", false)
  | 2 => ("PlateroomprinterModel", "program", "Ljava/util/ArrayList;", false)
  | 3 => ("PlateroomprinterModel", "fault", "[I", true)
  | _ => ("PlateroomprinterModel", "refused", "I", false)
noncomputable def ey_12 : Nat → FieldType := fun k => match k with
  | 0 => .int
  | 1 => (.object "PlateroomprinterModel$Machine")
  | 2 => (.object "java/util/ArrayList")
  | 3 => (.array .int)
  | _ => .int
theorem en_12 : ∀ a, a < 5 → ∀ b, b < 5 → a ≠ b → (et_12 a).2.1 ≠ (et_12 b).2.1 := by decide +kernel
theorem eo_12 : ∀ k, k < 5 → parseFieldDescriptor (et_12 k).2.2.1 = some (ey_12 k) := by decide +kernel
theorem ei_12 : ∀ w ∈ u_ws er_12 et_12 5, w ∈ lw_tbl := r_inI r_k8 [146, 148, 150, 152, 154] (by decide +kernel)
noncomputable def er_13 : String := "PlateroomprinterModel$Item"
noncomputable def et_13 : u_T := fun k => match k with
  | 0 => ("PlateroomprinterModel$Item", "sort", "I", true)
  | 1 => ("PlateroomprinterModel$Item", "number", "I", true)
  | _ => ("PlateroomprinterModel$Item", "tokens", "Ljava/util/ArrayList;", true)
noncomputable def ey_13 : Nat → FieldType := fun k => match k with
  | 0 => .int
  | 1 => .int
  | _ => (.object "java/util/ArrayList")
theorem en_13 : ∀ a, a < 3 → ∀ b, b < 3 → a ≠ b → (et_13 a).2.1 ≠ (et_13 b).2.1 := by decide +kernel
theorem eo_13 : ∀ k, k < 3 → parseFieldDescriptor (et_13 k).2.2.1 = some (ey_13 k) := by decide +kernel
theorem ei_13 : ∀ w ∈ u_ws er_13 et_13 3, w ∈ lw_tbl := r_inI r_k9 [181, 183, 185] (by decide +kernel)
noncomputable def er_14 : String := "PlateroomprinterModel$Machine"
noncomputable def et_14 : u_T := fun k => match k with
  | 0 => ("PlateroomprinterModel$Machine", "pile", "Ljava/util/ArrayList;", false)
  | 1 => ("PlateroomprinterModel$Machine", "names", "[LPlateroomprinterModel$Item;", false)
  | 2 => ("PlateroomprinterModel$Machine", "state", "LPlateroomprinterModel$State;", false)
  | 3 => ("PlateroomprinterModel$Machine", "kept", "Ljava/util/ArrayList;", false)
  | 4 => ("PlateroomprinterModel$Machine", "forms", "Ljava/util/ArrayList;", false)
  | 5 => ("PlateroomprinterModel$Machine", "figures", "Ljava/util/ArrayList;", false)
  | 6 => ("PlateroomprinterModel$Machine", "plates", "[Z", false)
  | 7 => ("PlateroomprinterModel$Machine", "lastPage", "[Z", false)
  | 8 => ("PlateroomprinterModel$Machine", "printed", "I", false)
  | 9 => ("PlateroomprinterModel$Machine", "cost", "I", false)
  | 10 => ("PlateroomprinterModel$Machine", "lastCost", "I", false)
  | 11 => ("PlateroomprinterModel$Machine", "tokens", "I", false)
  | _ => ("PlateroomprinterModel$Machine", "done", "[I", false)
noncomputable def ey_14 : Nat → FieldType := fun k => match k with
  | 0 => (.object "java/util/ArrayList")
  | 1 => (.array (.object "PlateroomprinterModel$Item"))
  | 2 => (.object "PlateroomprinterModel$State")
  | 3 => (.object "java/util/ArrayList")
  | 4 => (.object "java/util/ArrayList")
  | 5 => (.object "java/util/ArrayList")
  | 6 => (.array .boolean)
  | 7 => (.array .boolean)
  | 8 => .int
  | 9 => .int
  | 10 => .int
  | 11 => .int
  | _ => (.array .int)
theorem en_14 : ∀ a, a < 13 → ∀ b, b < 13 → a ≠ b → (et_14 a).2.1 ≠ (et_14 b).2.1 := by decide +kernel
theorem eo_14 : ∀ k, k < 13 → parseFieldDescriptor (et_14 k).2.2.1 = some (ey_14 k) := by decide +kernel
theorem ei_14 : ∀ w ∈ u_ws er_14 et_14 13, w ∈ lw_tbl := r_inI r_k8 [112, 114, 116, 118, 120, 122, 124, 126, 128, 130, 132, 134, 136] (by decide +kernel)
noncomputable def er_15 : String := "PlateroomprinterModel$Row"
noncomputable def et_15 : u_T := fun k => match k with
  | 0 => ("PlateroomprinterModel$Row", "tokens", "Ljava/util/ArrayList;", true)
  | 1 => ("PlateroomprinterModel$Row", "at", "I", false)
  | 2 => ("PlateroomprinterModel$Row", "isLoop", "Z", false)
  | 3 => ("PlateroomprinterModel$Row", "left", "I", false)
  | 4 => ("PlateroomprinterModel$Row", "isCounting", "Z", false)
  | 5 => ("PlateroomprinterModel$Row", "number", "J", false)
  | 6 => ("PlateroomprinterModel$Row", "step", "J", false)
  | _ => ("PlateroomprinterModel$Row", "to", "J", false)
noncomputable def ey_15 : Nat → FieldType := fun k => match k with
  | 0 => (.object "java/util/ArrayList")
  | 1 => .int
  | 2 => .boolean
  | 3 => .int
  | 4 => .boolean
  | 5 => .long
  | 6 => .long
  | _ => .long
theorem en_15 : ∀ a, a < 8 → ∀ b, b < 8 → a ≠ b → (et_15 a).2.1 ≠ (et_15 b).2.1 := by decide +kernel
theorem eo_15 : ∀ k, k < 8 → parseFieldDescriptor (et_15 k).2.2.1 = some (ey_15 k) := by decide +kernel
theorem ei_15 : ∀ w ∈ u_ws er_15 et_15 8, w ∈ lw_tbl := r_inI r_k9 [71, 73, 75, 77, 79, 81, 83, 85] (by decide +kernel)
noncomputable def er_16 : String := "PlateroomprinterModel$Run"
noncomputable def et_16 : u_T := fun k => match k with
  | 0 => ("PlateroomprinterModel$Run", "m", "LPlateroomprinterModel$Machine;", true)
  | 1 => ("PlateroomprinterModel$Run", "rows", "Ljava/util/ArrayList;", true)
  | 2 => ("PlateroomprinterModel$Run", "cost", "I", false)
  | 3 => ("PlateroomprinterModel$Run", "program", "I", false)
  | _ => ("PlateroomprinterModel$Run", "own", "I", false)
noncomputable def ey_16 : Nat → FieldType := fun k => match k with
  | 0 => (.object "PlateroomprinterModel$Machine")
  | 1 => (.object "java/util/ArrayList")
  | 2 => .int
  | 3 => .int
  | _ => .int
theorem en_16 : ∀ a, a < 5 → ∀ b, b < 5 → a ≠ b → (et_16 a).2.1 ≠ (et_16 b).2.1 := by decide +kernel
theorem eo_16 : ∀ k, k < 5 → parseFieldDescriptor (et_16 k).2.2.1 = some (ey_16 k) := by decide +kernel
theorem ei_16 : ∀ w ∈ u_ws er_16 et_16 5, w ∈ lw_tbl := r_inI r_k9 [96, 98, 100, 102, 104] (by decide +kernel)
noncomputable def er_17 : String := "PlateroomprinterModel$State"
noncomputable def et_17 : u_T := fun k => match k with
  | 0 => ("PlateroomprinterModel$State", "matrix", "[J", false)
  | 1 => ("PlateroomprinterModel$State", "path", "Ljava/util/ArrayList;", false)
  | 2 => ("PlateroomprinterModel$State", "point", "[I", false)
  | 3 => ("PlateroomprinterModel$State", "clip", "[Z", false)
  | 4 => ("PlateroomprinterModel$State", "amounts", "[I", false)
  | _ => ("PlateroomprinterModel$State", "ways", "[I", false)
noncomputable def ey_17 : Nat → FieldType := fun k => match k with
  | 0 => (.array .long)
  | 1 => (.object "java/util/ArrayList")
  | 2 => (.array .int)
  | 3 => (.array .boolean)
  | 4 => (.array .int)
  | _ => (.array .int)
theorem en_17 : ∀ a, a < 6 → ∀ b, b < 6 → a ≠ b → (et_17 a).2.1 ≠ (et_17 b).2.1 := by decide +kernel
theorem eo_17 : ∀ k, k < 6 → parseFieldDescriptor (et_17 k).2.2.1 = some (ey_17 k) := by decide +kernel
theorem ei_17 : ∀ w ∈ u_ws er_17 et_17 6, w ∈ lw_tbl := r_inI r_k7 [229, 231, 233, 235, 237, 239] (by decide +kernel)
noncomputable def er_18 : String := "java/lang/Integer"
noncomputable def et_18 : u_T := fun k => match k with
  | _ => ("java/lang/Integer", "value", "I", true)
noncomputable def ey_18 : Nat → FieldType := fun k => match k with
  | _ => .int
theorem en_18 : ∀ a, a < 1 → ∀ b, b < 1 → a ≠ b → (et_18 a).2.1 ≠ (et_18 b).2.1 := by decide +kernel
theorem eo_18 : ∀ k, k < 1 → parseFieldDescriptor (et_18 k).2.2.1 = some (ey_18 k) := by decide +kernel
theorem ei_18 : ∀ w ∈ u_ws er_18 et_18 1, w ∈ lw_tbl := r_inI r_k13 [93] (by decide +kernel)
noncomputable def er_19 : String := "java/util/ArrayList"
noncomputable def et_19 : u_T := fun k => match k with
  | 0 => ("java/util/ArrayList", "elementData", "[Ljava/lang/Object;", false)
  | 1 => ("java/util/ArrayList", "size", "I", false)
  | _ => ("java/util/AbstractList", "modCount", "I", false)
noncomputable def ey_19 : Nat → FieldType := fun k => match k with
  | 0 => (.array (.object "java/lang/Object"))
  | 1 => .int
  | _ => .int
theorem en_19 : ∀ a, a < 3 → ∀ b, b < 3 → a ≠ b → (et_19 a).2.1 ≠ (et_19 b).2.1 := by decide +kernel
theorem eo_19 : ∀ k, k < 3 → parseFieldDescriptor (et_19 k).2.2.1 = some (ey_19 k) := by decide +kernel
theorem ei_19 : ∀ w ∈ u_ws er_19 et_19 3, w ∈ lw_tbl := r_inI r_k7 [195, 197, 199] (by decide +kernel)
noncomputable def e_cl : List vw_C := [(er_0, et_0, 17), (er_1, et_1, 4), (er_2, et_2, 19), (er_3, et_3, 5), (er_4, et_4, 5), (er_5, et_5, 5), (er_6, et_6, 17), (er_7, et_7, 6), (er_8, et_8, 3), (er_9, et_9, 1), (er_10, et_10, 11), (er_11, et_11, 15), (er_12, et_12, 5), (er_13, et_13, 3), (er_14, et_14, 13), (er_15, et_15, 8), (er_16, et_16, 5), (er_17, et_17, 6), (er_18, et_18, 1), (er_19, et_19, 3)]
noncomputable def e_kt : List FieldType := [.int, .boolean, .long, .object "java/lang/Object", .object "Plateroomprinter$Path", .object "Plateroomprinter$State", .object "PlateroomprinterModel$Item", .array .int]
noncomputable def e_ml : List (MethodName × ByteArray × Nat × Option FieldType) := [
  (⟨"Plateroomprinter", "<init>", "()V"⟩, prog_1_method_1_code, 1, none),
  (⟨"Plateroomprinter", "clearRows", "([I)V"⟩, prog_1_method_35_code, 2, none),
  (⟨"Plateroomprinter", "isToken", "(II)Z"⟩, prog_1_method_10_code, 2, (some .boolean)),
  (⟨"Plateroomprinter", "run", "()I"⟩, prog_1_method_6_code, 3, (some .int)),
  (⟨"Plateroomprinter", "setFault", "(III)V"⟩, prog_1_method_9_code, 4, none),
  (⟨"Plateroomprinter", "three", "(IIIIII)I"⟩, prog_1_method_3_code, 7, (some .int)),
  (⟨"Plateroomprinter", "token", "(II)I"⟩, prog_1_method_2_code, 3, (some .int)),
  (⟨"Plateroomprinter$Code", "<init>", "()V"⟩, prog_2_method_1_code, 1, none),
  (⟨"Plateroomprinter$Code", "append", "(II)V"⟩, prog_2_method_2_code, 4, none),
  (⟨"Plateroomprinter$Code", "closeFor", "(II)I"⟩, prog_2_method_5_code, 6, (some .int)),
  (⟨"Plateroomprinter$Code", "kindAt", "(I)I"⟩, prog_2_method_3_code, 2, (some .int)),
  (⟨"Plateroomprinter$Code", "numberAt", "(I)I"⟩, prog_2_method_4_code, 2, (some .int)),
  (⟨"Plateroomprinter$Code", "retire", "()V"⟩, prog_2_method_6_code, 1, none),
  (⟨"Plateroomprinter$Engine", "<init>", "(LPlateroomprinter$World;LPlateroomprinter$Code;)V"⟩, prog_3_method_1_code, 3, none),
  (⟨"Plateroomprinter$Engine", "begin", "()V"⟩, prog_3_method_2_code, 1, none),
  (⟨"Plateroomprinter$Engine", "doFlow", "(I)I"⟩, prog_3_method_15_code, 2, (some .int)),
  (⟨"Plateroomprinter$Engine", "doOrder", "(I)I"⟩, prog_3_method_12_code, 3, (some .int)),
  (⟨"Plateroomprinter$Engine", "enter", "(II)I"⟩, prog_3_method_11_code, 3, (some .int)),
  (⟨"Plateroomprinter$Engine", "hasNextRound", "(I)Z"⟩, prog_3_method_6_code, 3, (some .boolean)),
  (⟨"Plateroomprinter$Engine", "loop", "(IIIII)I"⟩, prog_3_method_18_code, 8, (some .int)),
  (⟨"Plateroomprinter$Engine", "open", "(I)I"⟩, prog_3_method_10_code, 4, (some .int)),
  (⟨"Plateroomprinter$Engine", "seek", "()I"⟩, prog_3_method_4_code, 4, (some .int)),
  (⟨"Plateroomprinter$Engine", "setPlaces", "(I)V"⟩, prog_3_method_5_code, 2, none),
  (⟨"Plateroomprinter$Engine", "step", "()I"⟩, prog_3_method_7_code, 3, (some .int)),
  (⟨"Plateroomprinter$Engine", "take", "(I)I"⟩, prog_3_method_13_code, 7, (some .int)),
  (⟨"Plateroomprinter$Engine", "tally", "()V"⟩, prog_3_method_3_code, 1, none),
  (⟨"Plateroomprinter$Engine", "weigh", "(I)I"⟩, prog_3_method_8_code, 2, (some .int)),
  (⟨"Plateroomprinter$Figures", "<init>", "()V"⟩, prog_4_method_1_code, 1, none),
  (⟨"Plateroomprinter$Figures", "copyFrom", "(LPlateroomprinter$Figures;)V"⟩, prog_4_method_2_code, 4, none),
  (⟨"Plateroomprinter$Items", "<init>", "(I)V"⟩, prog_5_method_1_code, 2, none),
  (⟨"Plateroomprinter$Items", "clear", "(I)V"⟩, prog_5_method_2_code, 3, none),
  (⟨"Plateroomprinter$Items", "copyFrom", "(LPlateroomprinter$Items;)V"⟩, prog_5_method_3_code, 4, none),
  (⟨"Plateroomprinter$Items", "lengthAt", "(I)I"⟩, prog_5_method_7_code, 2, (some .int)),
  (⟨"Plateroomprinter$Items", "put", "(III)I"⟩, prog_5_method_9_code, 4, (some .int)),
  (⟨"Plateroomprinter$Items", "sortAt", "(I)I"⟩, prog_5_method_5_code, 2, (some .int)),
  (⟨"Plateroomprinter$Items", "valueAt", "(I)I"⟩, prog_5_method_6_code, 2, (some .int)),
  (⟨"Plateroomprinter$Items", "write", "(IIII)V"⟩, prog_5_method_4_code, 5, none),
  (⟨"Plateroomprinter$Matrix", "<init>", "()V"⟩, prog_6_method_1_code, 1, none),
  (⟨"Plateroomprinter$Matrix", "clear", "()V"⟩, prog_6_method_2_code, 2, none),
  (⟨"Plateroomprinter$Matrix", "copyFrom", "(LPlateroomprinter$Matrix;)V"⟩, prog_6_method_3_code, 3, none),
  (⟨"Plateroomprinter$Painter", "<init>", "(LPlateroomprinter$World;LPlateroomprinter$Raster;)V"⟩, prog_7_method_1_code, 3, none),
  (⟨"Plateroomprinter$Painter", "doOrder", "(I[I)I"⟩, prog_7_method_3_code, 3, (some .int)),
  (⟨"Plateroomprinter$Painter", "print", "()I"⟩, prog_7_method_12_code, 1, (some .int)),
  (⟨"Plateroomprinter$Painter", "takePainted", "()I"⟩, prog_7_method_2_code, 2, (some .int)),
  (⟨"Plateroomprinter$Path", "<init>", "()V"⟩, prog_8_method_1_code, 1, none),
  (⟨"Plateroomprinter$Path", "clear", "()V"⟩, prog_8_method_2_code, 1, none),
  (⟨"Plateroomprinter$Path", "copyFrom", "(LPlateroomprinter$Path;)V"⟩, prog_8_method_3_code, 2, none),
  (⟨"Plateroomprinter$Raster", "<init>", "()V"⟩, prog_9_method_1_code, 1, none),
  (⟨"Plateroomprinter$Sheet", "<init>", "()V"⟩, prog_10_method_1_code, 1, none),
  (⟨"Plateroomprinter$Sheet", "clear", "()V"⟩, prog_10_method_2_code, 1, none),
  (⟨"Plateroomprinter$Sheet", "copyFrom", "(LPlateroomprinter$Sheet;)V"⟩, prog_10_method_3_code, 3, none),
  (⟨"Plateroomprinter$State", "<init>", "()V"⟩, prog_11_method_1_code, 1, none),
  (⟨"Plateroomprinter$State", "clear", "()V"⟩, prog_11_method_2_code, 2, none),
  (⟨"Plateroomprinter$State", "copyFrom", "(LPlateroomprinter$State;)V"⟩, prog_11_method_3_code, 3, none),
  (⟨"Plateroomprinter$State", "forgetPath", "()V"⟩, prog_11_method_5_code, 1, none),
  (⟨"Plateroomprinter$State", "openClip", "()V"⟩, prog_11_method_4_code, 2, none),
  (⟨"Plateroomprinter$World", "<init>", "()V"⟩, prog_12_method_1_code, 2, none),
  (⟨"Plateroomprinter$World", "clear", "()V"⟩, prog_12_method_2_code, 2, none),
  (⟨"Plateroomprinter$World", "copyFrom", "(LPlateroomprinter$World;)V"⟩, prog_12_method_3_code, 3, none),
  (⟨"PlateroomprinterLaw", "three", "(LPlateroomprinter;IIIIII[J)I"⟩, method_4_code, 9, (some .int)),
  (⟨"PlateroomprinterLaw", "token", "(LPlateroomprinter;II[J)I"⟩, method_3_code, 5, (some .int)),
  (⟨"PlateroomprinterModel", "<init>", "()V"⟩, prog_14_method_1_code, 1, none),
  (⟨"PlateroomprinterModel", "copied", "(Ljava/util/ArrayList;II)Ljava/util/ArrayList;"⟩, prog_14_method_13_code, 5, (some (.object "java/util/ArrayList"))),
  (⟨"PlateroomprinterModel", "copied", "([I)[I"⟩, prog_14_method_20_code, 3, (some (.array .int))),
  (⟨"PlateroomprinterModel", "copied", "([Z)[Z"⟩, prog_14_method_19_code, 3, (some (.array .boolean))),
  (⟨"PlateroomprinterModel", "failed", "(III)I"⟩, prog_14_method_30_code, 4, (some .int)),
  (⟨"PlateroomprinterModel", "isIn", "(JJJ)Z"⟩, prog_14_method_2_code, 6, (some .boolean)),
  (⟨"PlateroomprinterModel", "isNoToken", "(II)Z"⟩, prog_14_method_25_code, 2, (some .boolean)),
  (⟨"PlateroomprinterModel", "must", "(ZI)V"⟩, prog_14_method_4_code, 2, none),
  (⟨"PlateroomprinterModel", "refuse", "(ZI)Z"⟩, prog_14_method_23_code, 3, (some .boolean)),
  (⟨"PlateroomprinterModel", "run", "()I"⟩, prog_14_method_31_code, 4, (some .int)),
  (⟨"PlateroomprinterModel", "start", "(ZI)Z"⟩, prog_14_method_24_code, 3, (some .boolean)),
  (⟨"PlateroomprinterModel", "three", "(IIIIII)I"⟩, prog_14_method_27_code, 8, (some .int)),
  (⟨"PlateroomprinterModel", "token", "(II)I"⟩, prog_14_method_26_code, 3, (some .int)),
  (⟨"PlateroomprinterModel$Item", "<init>", "(IILjava/util/ArrayList;)V"⟩, prog_16_method_1_code, 4, none),
  (⟨"PlateroomprinterModel$Machine", "<init>", "()V"⟩, prog_17_method_1_code, 2, none),
  (⟨"PlateroomprinterModel$Machine", "copy", "()LPlateroomprinterModel$Machine;"⟩, prog_17_method_2_code, 3, (some (.object "PlateroomprinterModel$Machine"))),
  (⟨"PlateroomprinterModel$Row", "<init>", "(Ljava/util/ArrayList;)V"⟩, prog_19_method_1_code, 2, none),
  (⟨"PlateroomprinterModel$Row", "isAtEnd", "()Z"⟩, prog_19_method_2_code, 1, (some .boolean)),
  (⟨"PlateroomprinterModel$Run", "<init>", "(LPlateroomprinterModel$Machine;Ljava/util/ArrayList;)V"⟩, prog_20_method_1_code, 3, none),
  (⟨"PlateroomprinterModel$Run", "all", "()V"⟩, prog_20_method_3_code, 2, none),
  (⟨"PlateroomprinterModel$Run", "any", "()LPlateroomprinterModel$Item;"⟩, prog_20_method_10_code, 1, (some (.object "PlateroomprinterModel$Item"))),
  (⟨"PlateroomprinterModel$Run", "begin", "(LPlateroomprinterModel$Row;)V"⟩, prog_20_method_20_code, 2, none),
  (⟨"PlateroomprinterModel$Run", "control", "(I)V"⟩, prog_20_method_19_code, 14, none),
  (⟨"PlateroomprinterModel$Run", "enter", "(LPlateroomprinterModel$Row;)V"⟩, prog_20_method_7_code, 2, none),
  (⟨"PlateroomprinterModel$Run", "isOn", "()Z"⟩, prog_20_method_4_code, 2, (some .boolean)),
  (⟨"PlateroomprinterModel$Run", "isRound", "(LPlateroomprinterModel$Row;)Z"⟩, prog_20_method_5_code, 2, (some .boolean)),
  (⟨"PlateroomprinterModel$Run", "number", "(II)I"⟩, prog_20_method_13_code, 4, (some .int)),
  (⟨"PlateroomprinterModel$Run", "numbers", "(I)[J"⟩, prog_20_method_12_code, 4, (some (.array .long))),
  (⟨"PlateroomprinterModel$Run", "order", "(I)V"⟩, prog_20_method_17_code, 2, none),
  (⟨"PlateroomprinterModel$Run", "page", "()V"⟩, prog_20_method_47_code, 1, none),
  (⟨"PlateroomprinterModel$Run", "paint", "(I)V"⟩, prog_20_method_38_code, 8, none),
  (⟨"PlateroomprinterModel$Run", "procedure", "(LPlateroomprinterModel$Row;)LPlateroomprinterModel$Item;"⟩, prog_20_method_16_code, 5, (some (.object "PlateroomprinterModel$Item"))),
  (⟨"PlateroomprinterModel$Run", "push", "(J)V"⟩, prog_20_method_9_code, 3, none),
  (⟨"PlateroomprinterModel$Run", "put", "(LPlateroomprinterModel$Item;)V"⟩, prog_20_method_8_code, 2, none),
  (⟨"PlateroomprinterModel$Run", "round", "(LPlateroomprinterModel$Row;)V"⟩, prog_20_method_6_code, 2, none),
  (⟨"PlateroomprinterModel$Run", "sorted", "(I)LPlateroomprinterModel$Item;"⟩, prog_20_method_11_code, 3, (some (.object "PlateroomprinterModel$Item"))),
  (⟨"PlateroomprinterModel$Run", "token", "(LPlateroomprinterModel$Row;[I)V"⟩, prog_20_method_14_code, 3, none),
  (⟨"PlateroomprinterModel$Run", "top", "()LPlateroomprinterModel$Row;"⟩, prog_20_method_2_code, 1, (some (.object "PlateroomprinterModel$Row"))),
  (⟨"PlateroomprinterModel$State", "<init>", "()V"⟩, prog_21_method_1_code, 2, none),
  (⟨"PlateroomprinterModel$State", "copy", "()LPlateroomprinterModel$State;"⟩, prog_21_method_2_code, 3, (some (.object "PlateroomprinterModel$State"))),
  (⟨"java/lang/Math", "max", "(II)I"⟩, prog_37_method_65_code, 2, (some .int)),
  (⟨"java/lang/Math", "min", "(II)I"⟩, prog_37_method_69_code, 2, (some .int)),
  (⟨"java/util/AbstractCollection", "<init>", "()V"⟩, prog_48_method_1_code, 1, none),
  (⟨"java/util/AbstractList", "<init>", "()V"⟩, prog_49_method_1_code, 1, none),
  (⟨"java/util/ArrayList", "<init>", "()V"⟩, prog_50_method_2_code, 1, none),
  (⟨"java/util/ArrayList", "add", "(Ljava/lang/Object;)Z"⟩, prog_50_method_25_code, 2, (some .boolean)),
  (⟨"java/util/ArrayList", "add", "(Ljava/lang/Object;[Ljava/lang/Object;I)V"⟩, prog_50_method_24_code, 4, none),
  (⟨"java/util/ArrayList", "elementData", "(I)Ljava/lang/Object;"⟩, prog_50_method_18_code, 2, (some (.object "java/lang/Object"))),
  (⟨"java/util/ArrayList", "fastRemove", "([Ljava/lang/Object;I)V"⟩, prog_50_method_39_code, 4, none),
  (⟨"java/util/ArrayList", "get", "(I)Ljava/lang/Object;"⟩, prog_50_method_20_code, 2, (some (.object "java/lang/Object"))),
  (⟨"java/util/ArrayList", "grow", "()[Ljava/lang/Object;"⟩, prog_50_method_7_code, 1, (some (.array (.object "java/lang/Object")))),
  (⟨"java/util/ArrayList", "grow", "(I)[Ljava/lang/Object;"⟩, prog_50_method_6_code, 4, (some (.array (.object "java/lang/Object")))),
  (⟨"java/util/ArrayList", "isEmpty", "()Z"⟩, prog_50_method_9_code, 1, (some .boolean)),
  (⟨"java/util/ArrayList", "remove", "(I)Ljava/lang/Object;"⟩, prog_50_method_29_code, 4, (some (.object "java/lang/Object"))),
  (⟨"java/util/ArrayList", "set", "(ILjava/lang/Object;)Ljava/lang/Object;"⟩, prog_50_method_23_code, 4, (some (.object "java/lang/Object"))),
  (⟨"java/util/ArrayList", "size", "()I"⟩, prog_50_method_8_code, 1, (some .int)),
  (⟨"java/util/Objects", "checkIndex", "(II)I"⟩, prog_56_method_17_code, 2, (some .int)),
  (⟨"jdk/internal/util/Preconditions", "checkIndex", "(IILjava/util/function/BiFunction;)I"⟩, prog_60_method_11_code, 3, (some .int)),
  (⟨"PlateroomprinterLaw", "law", "([I)Z"⟩, code, 7, (some .boolean))]
/-- the words: the good ones; and those that a caller hands on -/
noncomputable def e_ws : List Cond := lw_tbl.filter goodWord
noncomputable def e_nk (w : Cond) : Bool := match w with
  | .methodLinkNest _ _ _ _ => true
  | .fieldLinkNest _ _ _ _ _ _ => true
  | .castable _ _ => true
  | .declares _ => true
  | .arrayOver (.object _) => true
  | .arrayOver (.array _) => true
  | .unhidden _ _ _ => true
  | .publicMethod _ => true
  | _ => false
noncomputable def e_nw : List Cond := lw_tbl.filter e_nk
/-- texts of the throws; pairs of classes that do not fit -/
noncomputable def e_sr : List (String × Nat × String) := [("Plateroomprinter", 96, "no such token"), ("Plateroomprinter", 106, "the program is full"), ("Plateroomprinter", 113, "the program is empty"), ("Plateroomprinter", 177, "no such place"), ("Plateroomprinter", 180, "what is 0 or 1"), ("Plateroomprinter", 185, "what is 0 to 2"), ("Plateroomprinter", 202, "no such name"), ("Plateroomprinter", 216, "no such order"), ("Plateroomprinter", 272, "what is 0 to 14"), ("Plateroomprinter", 274, "no such entry"), ("Plateroomprinter", 276, "part is 0 or 1"), ("Plateroomprinter", 291, "no such ring"), ("Plateroomprinter", 299, "no such point"), ("Plateroomprinter", 310, "no such form"), ("Plateroomprinter", 322, "no such dot"), ("Plateroomprinter", 328, "rule is 0 or 1"), ("Plateroomprinter", 338, "moved by -40 to 40"), ("Plateroomprinter", 362, "to is above from, what is 0 to 4"), ("Plateroomprinter", 393, "no such figure"), ("Plateroomprinter", 404, "what is 0 to 6"), ("Plateroomprinter", 412, "no such row"), ("Plateroomprinter", 415, "no such plate"), ("Plateroomprinter", 417, "height is 1 to 32"), ("Plateroomprinter", 431, "what is 0 to 5")]
noncomputable def e_nc : List (String × String) := [("java/lang/IllegalArgumentException", "java/lang/IllegalStateException"), ("java/lang/IllegalArgumentException", "java/lang/IndexOutOfBoundsException"), ("java/lang/IllegalStateException", "java/lang/IllegalArgumentException"), ("java/lang/IllegalStateException", "java/lang/IndexOutOfBoundsException"), ("java/lang/IndexOutOfBoundsException", "java/lang/IllegalArgumentException"), ("java/lang/IndexOutOfBoundsException", "java/lang/IllegalStateException")]
/-- calls of an interface: the receiver, the name, what runs -/
noncomputable def e_fw : List (String × MethodName × MethodName) := [("java/util/ArrayList$Itr", ⟨"java/util/Iterator", "hasNext", "()Z"⟩, ⟨"java/util/ArrayList$Itr", "hasNext", "()Z"⟩)]
