/-! the classes whose objects the heap holds: number, fields in the order of the slots, their types -/
def cR0 : String := "java/util/ArrayList"
def cT0 : u_T := fun k => match k with
  | 0 => ("java/util/AbstractList", "modCount", "I", false)
  | 1 => ("java/util/ArrayList", "elementData", "[Ljava/lang/Object;", false)
  | _ => ("java/util/ArrayList", "size", "I", false)
def cY0 : Nat → FieldType := fun k => match k with
  | 0 => .int
  | 1 => .array (.object "java/lang/Object")
  | _ => .int
theorem cN0 : ∀ a, a < 3 → ∀ b, b < 3 → a ≠ b → (cT0 a).2.1 ≠ (cT0 b).2.1 := by decide +kernel
theorem cO0 : ∀ k, k < 3 → parseFieldDescriptor (cT0 k).2.2.1 = some (cY0 k) := by decide +kernel
def cR1 : String := "TokenMesh$Core"
def cT1 : u_T := fun k => match k with
  | 0 => ("TokenMesh$Core", "number", "I", false)
  | 1 => ("TokenMesh$Core", "underWay", "Z", false)
  | 2 => ("TokenMesh$Core", "write", "Z", false)
  | 3 => ("TokenMesh$Core", "block", "I", false)
  | 4 => ("TokenMesh$Core", "value", "I", false)
  | 5 => ("TokenMesh$Core", "repeated", "I", false)
  | 6 => ("TokenMesh$Core", "due", "I", false)
  | 7 => ("TokenMesh$Core", "persistent", "Z", false)
  | 8 => ("TokenMesh$Core", "endedCount", "I", false)
  | _ => ("TokenMesh$Core", "latestResult", "I", false)
def cY1 : Nat → FieldType := fun k => match k with
  | 0 => .int
  | 1 => .boolean
  | 2 => .boolean
  | 3 => .int
  | 4 => .int
  | 5 => .int
  | 6 => .int
  | 7 => .boolean
  | 8 => .int
  | _ => .int
theorem cN1 : ∀ a, a < 10 → ∀ b, b < 10 → a ≠ b → (cT1 a).2.1 ≠ (cT1 b).2.1 := by decide +kernel
theorem cO1 : ∀ k, k < 10 → parseFieldDescriptor (cT1 k).2.2.1 = some (cY1 k) := by decide +kernel
def cR2 : String := "TokenMesh$Desk"
def cT2 : u_T := fun k => match k with
  | 0 => ("TokenMesh$Desk", "row", "Ljava/util/ArrayList;", true)
  | 1 => ("TokenMesh$Desk", "active", "LTokenMesh$Request;", false)
  | _ => ("TokenMesh$Desk", "serial", "I", false)
def cY2 : Nat → FieldType := fun k => match k with
  | 0 => .object "java/util/ArrayList"
  | 1 => .object "TokenMesh$Request"
  | _ => .int
theorem cN2 : ∀ a, a < 3 → ∀ b, b < 3 → a ≠ b → (cT2 a).2.1 ≠ (cT2 b).2.1 := by decide +kernel
theorem cO2 : ∀ k, k < 3 → parseFieldDescriptor (cT2 k).2.2.1 = some (cY2 k) := by decide +kernel
def cR3 : String := "TokenMesh$Letter"
def cT3 : u_T := fun k => match k with
  | 0 => ("TokenMesh$Letter", "kind", "I", false)
  | 1 => ("TokenMesh$Letter", "from", "I", false)
  | 2 => ("TokenMesh$Letter", "to", "I", false)
  | 3 => ("TokenMesh$Letter", "block", "I", false)
  | 4 => ("TokenMesh$Letter", "count", "I", false)
  | 5 => ("TokenMesh$Letter", "owner", "Z", false)
  | 6 => ("TokenMesh$Letter", "withData", "Z", false)
  | 7 => ("TokenMesh$Letter", "value", "I", false)
  | 8 => ("TokenMesh$Letter", "number", "I", false)
  | 9 => ("TokenMesh$Letter", "activeCore", "I", false)
  | _ => ("TokenMesh$Letter", "write", "Z", false)
def cY3 : Nat → FieldType := fun k => match k with
  | 0 => .int
  | 1 => .int
  | 2 => .int
  | 3 => .int
  | 4 => .int
  | 5 => .boolean
  | 6 => .boolean
  | 7 => .int
  | 8 => .int
  | 9 => .int
  | _ => .boolean
theorem cN3 : ∀ a, a < 11 → ∀ b, b < 11 → a ≠ b → (cT3 a).2.1 ≠ (cT3 b).2.1 := by decide +kernel
theorem cO3 : ∀ k, k < 11 → parseFieldDescriptor (cT3 k).2.2.1 = some (cY3 k) := by decide +kernel
def cR4 : String := "TokenMesh$Mail"
def cT4 : u_T := fun k => match k with
  | 0 => ("TokenMesh$Mail", "waiting", "Ljava/util/ArrayList;", true)
  | _ => ("TokenMesh$Mail", "spare", "Ljava/util/ArrayList;", true)
def cY4 : Nat → FieldType := fun k => match k with
  | 0 => .object "java/util/ArrayList"
  | _ => .object "java/util/ArrayList"
theorem cN4 : ∀ a, a < 2 → ∀ b, b < 2 → a ≠ b → (cT4 a).2.1 ≠ (cT4 b).2.1 := by decide +kernel
theorem cO4 : ∀ k, k < 2 → parseFieldDescriptor (cT4 k).2.2.1 = some (cY4 k) := by decide +kernel
def cR5 : String := "TokenMesh$Request"
def cT5 : u_T := fun k => match k with
  | 0 => ("TokenMesh$Request", "core", "I", true)
  | 1 => ("TokenMesh$Request", "number", "I", true)
  | _ => ("TokenMesh$Request", "write", "Z", true)
def cY5 : Nat → FieldType := fun k => match k with
  | 0 => .int
  | 1 => .int
  | _ => .boolean
theorem cN5 : ∀ a, a < 3 → ∀ b, b < 3 → a ≠ b → (cT5 a).2.1 ≠ (cT5 b).2.1 := by decide +kernel
theorem cO5 : ∀ k, k < 3 → parseFieldDescriptor (cT5 k).2.2.1 = some (cY5 k) := by decide +kernel
def cR6 : String := "TokenMesh$Share"
def cT6 : u_T := fun k => match k with
  | 0 => ("TokenMesh$Share", "count", "I", false)
  | 1 => ("TokenMesh$Share", "owner", "Z", false)
  | 2 => ("TokenMesh$Share", "valid", "Z", false)
  | 3 => ("TokenMesh$Share", "value", "I", false)
  | 4 => ("TokenMesh$Share", "activeCore", "I", false)
  | 5 => ("TokenMesh$Share", "activeWrite", "Z", false)
  | _ => ("TokenMesh$Share", "serial", "I", false)
def cY6 : Nat → FieldType := fun k => match k with
  | 0 => .int
  | 1 => .boolean
  | 2 => .boolean
  | 3 => .int
  | 4 => .int
  | 5 => .boolean
  | _ => .int
theorem cN6 : ∀ a, a < 7 → ∀ b, b < 7 → a ≠ b → (cT6 a).2.1 ≠ (cT6 b).2.1 := by decide +kernel
theorem cO6 : ∀ k, k < 7 → parseFieldDescriptor (cT6 k).2.2.1 = some (cY6 k) := by decide +kernel
def cR7 : String := "TokenMesh"
def cT7 : u_T := fun k => match k with
  | 0 => ("TokenMesh", "cores", "I", true)
  | 1 => ("TokenMesh", "home", "I", true)
  | 2 => ("TokenMesh", "allTokens", "I", true)
  | 3 => ("TokenMesh", "repeats", "I", true)
  | 4 => ("TokenMesh", "patience", "I", true)
  | 5 => ("TokenMesh", "shares", "[LTokenMesh$Share;", true)
  | 6 => ("TokenMesh", "crew", "[LTokenMesh$Core;", true)
  | 7 => ("TokenMesh", "desks", "[LTokenMesh$Desk;", true)
  | 8 => ("TokenMesh", "lapsed", "[I", true)
  | 9 => ("TokenMesh", "mail", "LTokenMesh$Mail;", true)
  | _ => ("TokenMesh", "time", "I", false)
def cY7 : Nat → FieldType := fun k => match k with
  | 0 => .int
  | 1 => .int
  | 2 => .int
  | 3 => .int
  | 4 => .int
  | 5 => .array (.object "TokenMesh$Share")
  | 6 => .array (.object "TokenMesh$Core")
  | 7 => .array (.object "TokenMesh$Desk")
  | 8 => .array .int
  | 9 => .object "TokenMesh$Mail"
  | _ => .int
theorem cN7 : ∀ a, a < 11 → ∀ b, b < 11 → a ≠ b → (cT7 a).2.1 ≠ (cT7 b).2.1 := by decide +kernel
theorem cO7 : ∀ k, k < 11 → parseFieldDescriptor (cT7 k).2.2.1 = some (cY7 k) := by decide +kernel
def cR8 : String := "TokenMeshModel"
def cT8 : u_T := fun k => match k with
  | 0 => ("TokenMeshModel", "thrown", "I", false)
  | 1 => ("TokenMeshModel", "cores", "I", true)
  | 2 => ("TokenMeshModel", "repeats", "I", true)
  | 3 => ("TokenMeshModel", "patience", "I", true)
  | 4 => ("TokenMeshModel", "time", "I", false)
  | 5 => ("TokenMeshModel", "tokens", "[I", true)
  | 6 => ("TokenMeshModel", "owner", "[Z", true)
  | 7 => ("TokenMeshModel", "valid", "[Z", true)
  | 8 => ("TokenMeshModel", "data", "[I", true)
  | 9 => ("TokenMeshModel", "known", "[I", true)
  | 10 => ("TokenMeshModel", "knownWrite", "[Z", true)
  | 11 => ("TokenMeshModel", "serials", "[I", true)
  | 12 => ("TokenMeshModel", "busy", "[Z", true)
  | 13 => ("TokenMeshModel", "writes", "[Z", true)
  | 14 => ("TokenMeshModel", "persistent", "[Z", true)
  | 15 => ("TokenMeshModel", "blocks", "[I", true)
  | 16 => ("TokenMeshModel", "values", "[I", true)
  | 17 => ("TokenMeshModel", "numbers", "[I", true)
  | 18 => ("TokenMeshModel", "repeated", "[I", true)
  | 19 => ("TokenMeshModel", "due", "[I", true)
  | 20 => ("TokenMeshModel", "endedCount", "[I", true)
  | 21 => ("TokenMeshModel", "results", "[I", true)
  | 22 => ("TokenMeshModel", "rowCores", "[I", true)
  | 23 => ("TokenMeshModel", "rowNumbers", "[I", true)
  | 24 => ("TokenMeshModel", "rowWrites", "[Z", true)
  | 25 => ("TokenMeshModel", "rowSizes", "[I", true)
  | 26 => ("TokenMeshModel", "activeNumbers", "[I", true)
  | 27 => ("TokenMeshModel", "lapsed", "[I", true)
  | 28 => ("TokenMeshModel", "letters", "I", false)
  | 29 => ("TokenMeshModel", "kinds", "[I", true)
  | 30 => ("TokenMeshModel", "tos", "[I", true)
  | 31 => ("TokenMeshModel", "froms", "[I", true)
  | 32 => ("TokenMeshModel", "letterBlocks", "[I", true)
  | 33 => ("TokenMeshModel", "counts", "[I", true)
  | 34 => ("TokenMeshModel", "withOwner", "[Z", true)
  | 35 => ("TokenMeshModel", "withData", "[Z", true)
  | 36 => ("TokenMeshModel", "letterData", "[I", true)
  | 37 => ("TokenMeshModel", "letterNumbers", "[I", true)
  | 38 => ("TokenMeshModel", "letterCores", "[I", true)
  | _ => ("TokenMeshModel", "letterWrites", "[Z", true)
def cY8 : Nat → FieldType := fun k => match k with
  | 0 => .int
  | 1 => .int
  | 2 => .int
  | 3 => .int
  | 4 => .int
  | 5 => .array .int
  | 6 => .array .boolean
  | 7 => .array .boolean
  | 8 => .array .int
  | 9 => .array .int
  | 10 => .array .boolean
  | 11 => .array .int
  | 12 => .array .boolean
  | 13 => .array .boolean
  | 14 => .array .boolean
  | 15 => .array .int
  | 16 => .array .int
  | 17 => .array .int
  | 18 => .array .int
  | 19 => .array .int
  | 20 => .array .int
  | 21 => .array .int
  | 22 => .array .int
  | 23 => .array .int
  | 24 => .array .boolean
  | 25 => .array .int
  | 26 => .array .int
  | 27 => .array .int
  | 28 => .int
  | 29 => .array .int
  | 30 => .array .int
  | 31 => .array .int
  | 32 => .array .int
  | 33 => .array .int
  | 34 => .array .boolean
  | 35 => .array .boolean
  | 36 => .array .int
  | 37 => .array .int
  | 38 => .array .int
  | _ => .array .boolean
theorem cN8 : ∀ a, a < 40 → ∀ b, b < 40 → a ≠ b → (cT8 a).2.1 ≠ (cT8 b).2.1 := by decide +kernel
theorem cO8 : ∀ k, k < 40 → parseFieldDescriptor (cT8 k).2.2.1 = some (cY8 k) := by decide +kernel
abbrev cls : List vw_C := [(cR0, cT0, 3), (cR1, cT1, 10), (cR2, cT2, 3), (cR3, cT3, 11), (cR4, cT4, 2), (cR5, cT5, 3), (cR6, cT6, 7), (cR7, cT7, 11), (cR8, cT8, 40)]
/-- a field's type, by its class's number and its own -/
def fty : Nat → Nat → FieldType := fun ci => match ci with
  | 0 => cY0
  | 1 => cY1
  | 2 => cY2
  | 3 => cY3
  | 4 => cY4
  | 5 => cY5
  | 6 => cY6
  | 7 => cY7
  | _ => cY8
def isR (ci k : Nat) : Bool := match fty ci k with
  | .object _ => true
  | .array _ => true
  | _ => false
/-- the words that hold over every step, and the others -/
def GT : List Cond := lw_tbl.filter goodWord
def isN (w : Cond) : Bool := match w with
  | .methodLinkNest .. => true
  | .castable .. => true
  | .declares .. => true
  | .arrayOver (.object _) => true
  | _ => false
def NT : List Cond := lw_tbl.filter isN
theorem gt_at {w : Cond} (i : Nat) (h : lw_tbl[i]? = some w) (hg : goodWord w = true) : w ∈ GT := List.mem_filter.mpr ⟨List.mem_of_getElem? h, hg⟩
theorem nt_at {w : Cond} (i : Nat) (h : lw_tbl[i]? = some w) (hg : isN w = true) : w ∈ NT := List.mem_filter.mpr ⟨List.mem_of_getElem? h, hg⟩
theorem cI0 : ∀ w ∈ u_ws cR0 cT0 3, w ∈ GT := fun w h => List.mem_filter.mpr ((fun (q : ([186, 182, 184].filterMap (fun i => lw_tbl[i]?) = u_ws cR0 cT0 3) ∧ (u_ws cR0 cT0 3).all goodWord = true) => ⟨(by rw [← q.1] at h; obtain ⟨i, -, hi⟩ := List.mem_filterMap.mp h; exact List.mem_of_getElem? hi), List.all_eq_true.mp q.2 w h⟩) ⟨by decide +kernel, by decide +kernel⟩)
theorem cI1 : ∀ w ∈ u_ws cR1 cT1 10, w ∈ GT := fun w h => List.mem_filter.mpr ((fun (q : ([135, 137, 139, 141, 143, 145, 147, 149, 151, 153].filterMap (fun i => lw_tbl[i]?) = u_ws cR1 cT1 10) ∧ (u_ws cR1 cT1 10).all goodWord = true) => ⟨(by rw [← q.1] at h; obtain ⟨i, -, hi⟩ := List.mem_filterMap.mp h; exact List.mem_of_getElem? hi), List.all_eq_true.mp q.2 w h⟩) ⟨by decide +kernel, by decide +kernel⟩)
theorem cI2 : ∀ w ∈ u_ws cR2 cT2 3, w ∈ GT := fun w h => List.mem_filter.mpr ((fun (q : ([194, 196, 198].filterMap (fun i => lw_tbl[i]?) = u_ws cR2 cT2 3) ∧ (u_ws cR2 cT2 3).all goodWord = true) => ⟨(by rw [← q.1] at h; obtain ⟨i, -, hi⟩ := List.mem_filterMap.mp h; exact List.mem_of_getElem? hi), List.all_eq_true.mp q.2 w h⟩) ⟨by decide +kernel, by decide +kernel⟩)
theorem cI3 : ∀ w ∈ u_ws cR3 cT3 11, w ∈ GT := fun w h => List.mem_filter.mpr ((fun (q : ([404, 406, 408, 410, 412, 414, 416, 418, 420, 422, 424].filterMap (fun i => lw_tbl[i]?) = u_ws cR3 cT3 11) ∧ (u_ws cR3 cT3 11).all goodWord = true) => ⟨(by rw [← q.1] at h; obtain ⟨i, -, hi⟩ := List.mem_filterMap.mp h; exact List.mem_of_getElem? hi), List.all_eq_true.mp q.2 w h⟩) ⟨by decide +kernel, by decide +kernel⟩)
theorem cI4 : ∀ w ∈ u_ws cR4 cT4 2, w ∈ GT := fun w h => List.mem_filter.mpr ((fun (q : ([211, 213].filterMap (fun i => lw_tbl[i]?) = u_ws cR4 cT4 2) ∧ (u_ws cR4 cT4 2).all goodWord = true) => ⟨(by rw [← q.1] at h; obtain ⟨i, -, hi⟩ := List.mem_filterMap.mp h; exact List.mem_of_getElem? hi), List.all_eq_true.mp q.2 w h⟩) ⟨by decide +kernel, by decide +kernel⟩)
theorem cI5 : ∀ w ∈ u_ws cR5 cT5 3, w ∈ GT := fun w h => List.mem_filter.mpr ((fun (q : ([537, 539, 541].filterMap (fun i => lw_tbl[i]?) = u_ws cR5 cT5 3) ∧ (u_ws cR5 cT5 3).all goodWord = true) => ⟨(by rw [← q.1] at h; obtain ⟨i, -, hi⟩ := List.mem_filterMap.mp h; exact List.mem_of_getElem? hi), List.all_eq_true.mp q.2 w h⟩) ⟨by decide +kernel, by decide +kernel⟩)
theorem cI6 : ∀ w ∈ u_ws cR6 cT6 7, w ∈ GT := fun w h => List.mem_filter.mpr ((fun (q : ([95, 97, 99, 101, 103, 105, 107].filterMap (fun i => lw_tbl[i]?) = u_ws cR6 cT6 7) ∧ (u_ws cR6 cT6 7).all goodWord = true) => ⟨(by rw [← q.1] at h; obtain ⟨i, -, hi⟩ := List.mem_filterMap.mp h; exact List.mem_of_getElem? hi), List.all_eq_true.mp q.2 w h⟩) ⟨by decide +kernel, by decide +kernel⟩)
theorem cI7 : ∀ w ∈ u_ws cR7 cT7 11, w ∈ GT := fun w h => List.mem_filter.mpr ((fun (q : ([227, 229, 231, 233, 235, 237, 239, 241, 243, 245, 247].filterMap (fun i => lw_tbl[i]?) = u_ws cR7 cT7 11) ∧ (u_ws cR7 cT7 11).all goodWord = true) => ⟨(by rw [← q.1] at h; obtain ⟨i, -, hi⟩ := List.mem_filterMap.mp h; exact List.mem_of_getElem? hi), List.all_eq_true.mp q.2 w h⟩) ⟨by decide +kernel, by decide +kernel⟩)
theorem cI8 : ∀ w ∈ u_ws cR8 cT8 40, w ∈ GT := fun w h => List.mem_filter.mpr ((fun (q : ([663, 665, 667, 669, 671, 673, 675, 677, 679, 681, 683, 685, 687, 689, 691, 693, 695, 697, 699, 701, 703, 705, 707, 709, 711, 713, 715, 717, 719, 721, 723, 725, 727, 729, 731, 733, 735, 737, 739, 741].filterMap (fun i => lw_tbl[i]?) = u_ws cR8 cT8 40) ∧ (u_ws cR8 cT8 40).all goodWord = true) => ⟨(by rw [← q.1] at h; obtain ⟨i, -, hi⟩ := List.mem_filterMap.mp h; exact List.mem_of_getElem? hi), List.all_eq_true.mp q.2 w h⟩) ⟨by decide +kernel, by decide +kernel⟩)
