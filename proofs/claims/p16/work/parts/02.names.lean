def RX0 : String := "HandleModels$Adapting"
def TX0 : u_T := fun k => match k with
  | _ => ("", "", "", false)
def tyX0 : Nat → FieldType := fun k => match k with
  | _ => .int
theorem nmX0 : ∀ a, a < 0 → ∀ b, b < 0 → a ≠ b → (TX0 a).2.1 ≠ (TX0 b).2.1 := by decide +kernel
theorem tyX0_ok : ∀ k, k < 0 → parseFieldDescriptor (TX0 k).2.2.1 = some (tyX0 k) := by decide +kernel
def RX1 : String := "HandleModels$Handle"
def TX1 : u_T := fun k => match k with
  | 0 => ("HandleModels$Handle", "form", "I", true)
  | 1 => ("HandleModels$Handle", "types", "LHandleModels$Types;", true)
  | _ => ("HandleModels$Handle", "b", "I", true)
def tyX1 : Nat → FieldType := fun k => match k with
  | 0 => .int
  | 1 => .object "HandleModels$Types"
  | _ => .int
theorem nmX1 : ∀ a, a < 3 → ∀ b, b < 3 → a ≠ b → (TX1 a).2.1 ≠ (TX1 b).2.1 := by decide +kernel
theorem tyX1_ok : ∀ k, k < 3 → parseFieldDescriptor (TX1 k).2.2.1 = some (tyX1 k) := by decide +kernel
def RX2 : String := "HandleModels$Other"
def TX2 : u_T := fun k => match k with
  | 0 => ("HandleModels$Handle", "form", "I", true)
  | 1 => ("HandleModels$Handle", "types", "LHandleModels$Types;", true)
  | 2 => ("HandleModels$Handle", "b", "I", true)
  | 3 => ("HandleModels$Other", "parts", "LHandleModels$Parts;", true)
  | 4 => ("HandleModels$Other", "heldKind", "I", false)
  | _ => ("HandleModels$Other", "heldNumber", "J", false)
def tyX2 : Nat → FieldType := fun k => match k with
  | 0 => .int
  | 1 => .object "HandleModels$Types"
  | 2 => .int
  | 3 => .object "HandleModels$Parts"
  | 4 => .int
  | _ => .long
theorem nmX2 : ∀ a, a < 6 → ∀ b, b < 6 → a ≠ b → (TX2 a).2.1 ≠ (TX2 b).2.1 := by decide +kernel
theorem tyX2_ok : ∀ k, k < 6 → parseFieldDescriptor (TX2 k).2.2.1 = some (tyX2 k) := by decide +kernel
def RX3 : String := "HandleModels$Parts"
def TX3 : u_T := fun k => match k with
  | 0 => ("HandleModels$Parts", "form", "I", true)
  | 1 => ("HandleModels$Parts", "h", "LHandleModels$Handle;", true)
  | 2 => ("HandleModels$Parts", "x", "LHandleModels$Handle;", true)
  | 3 => ("HandleModels$Parts", "y", "LHandleModels$Handle;", true)
  | 4 => ("HandleModels$Parts", "a", "I", true)
  | _ => ("HandleModels$Parts", "b", "I", true)
def tyX3 : Nat → FieldType := fun k => match k with
  | 0 => .int
  | 1 => .object "HandleModels$Handle"
  | 2 => .object "HandleModels$Handle"
  | 3 => .object "HandleModels$Handle"
  | 4 => .int
  | _ => .int
theorem nmX3 : ∀ a, a < 6 → ∀ b, b < 6 → a ≠ b → (TX3 a).2.1 ≠ (TX3 b).2.1 := by decide +kernel
theorem tyX3_ok : ∀ k, k < 6 → parseFieldDescriptor (TX3 k).2.2.1 = some (tyX3 k) := by decide +kernel
def RX4 : String := "HandleModels$Rows"
def TX4 : u_T := fun k => match k with
  | 0 => ("HandleModels$Rows", "items", "[I", true)
  | 1 => ("HandleModels$Rows", "lengths", "[I", true)
  | _ => ("HandleModels$Rows", "size", "I", false)
def tyX4 : Nat → FieldType := fun k => match k with
  | 0 => .array .int
  | 1 => .array .int
  | _ => .int
theorem nmX4 : ∀ a, a < 3 → ∀ b, b < 3 → a ≠ b → (TX4 a).2.1 ≠ (TX4 b).2.1 := by decide +kernel
theorem tyX4_ok : ∀ k, k < 3 → parseFieldDescriptor (TX4 k).2.2.1 = some (tyX4 k) := by decide +kernel
def RX5 : String := "HandleModels$Runner"
def TX5 : u_T := fun k => match k with
  | 0 => ("HandleModels$Runner", "rows", "LHandleModels$Rows;", true)
  | 1 => ("HandleModels$Runner", "frames", "[LHandleModels$Values;", true)
  | 2 => ("HandleModels$Runner", "steps", "I", false)
  | 3 => ("HandleModels$Runner", "counted", "I", false)
  | 4 => ("HandleModels$Runner", "gotKind", "I", false)
  | _ => ("HandleModels$Runner", "gotNumber", "J", false)
def tyX5 : Nat → FieldType := fun k => match k with
  | 0 => .object "HandleModels$Rows"
  | 1 => .array (.object "HandleModels$Values")
  | 2 => .int
  | 3 => .int
  | 4 => .int
  | _ => .long
theorem nmX5 : ∀ a, a < 6 → ∀ b, b < 6 → a ≠ b → (TX5 a).2.1 ≠ (TX5 b).2.1 := by decide +kernel
theorem tyX5_ok : ∀ k, k < 6 → parseFieldDescriptor (TX5 k).2.2.1 = some (tyX5 k) := by decide +kernel
def RX6 : String := "HandleModels$Shapes"
def TX6 : u_T := fun k => match k with
  | _ => ("", "", "", false)
def tyX6 : Nat → FieldType := fun k => match k with
  | _ => .int
theorem nmX6 : ∀ a, a < 0 → ∀ b, b < 0 → a ≠ b → (TX6 a).2.1 ≠ (TX6 b).2.1 := by decide +kernel
theorem tyX6_ok : ∀ k, k < 0 → parseFieldDescriptor (TX6 k).2.2.1 = some (tyX6 k) := by decide +kernel
def RX7 : String := "HandleModels$Site"
def TX7 : u_T := fun k => match k with
  | 0 => ("HandleModels$Site", "types", "LHandleModels$Types;", true)
  | 1 => ("HandleModels$Site", "starter", "LHandleModels$Handle;", true)
  | _ => ("HandleModels$Site", "target", "I", false)
def tyX7 : Nat → FieldType := fun k => match k with
  | 0 => .object "HandleModels$Types"
  | 1 => .object "HandleModels$Handle"
  | _ => .int
theorem nmX7 : ∀ a, a < 3 → ∀ b, b < 3 → a ≠ b → (TX7 a).2.1 ≠ (TX7 b).2.1 := by decide +kernel
theorem tyX7_ok : ∀ k, k < 3 → parseFieldDescriptor (TX7 k).2.2.1 = some (tyX7 k) := by decide +kernel
def RX8 : String := "HandleModels$Types"
def TX8 : u_T := fun k => match k with
  | 0 => ("HandleModels$Types", "takes", "[I", true)
  | _ => ("HandleModels$Types", "gives", "I", true)
def tyX8 : Nat → FieldType := fun k => match k with
  | 0 => .array .int
  | _ => .int
theorem nmX8 : ∀ a, a < 2 → ∀ b, b < 2 → a ≠ b → (TX8 a).2.1 ≠ (TX8 b).2.1 := by decide +kernel
theorem tyX8_ok : ∀ k, k < 2 → parseFieldDescriptor (TX8 k).2.2.1 = some (tyX8 k) := by decide +kernel
def RX9 : String := "HandleModels$Values"
def TX9 : u_T := fun k => match k with
  | 0 => ("HandleModels$Values", "kinds", "[I", true)
  | 1 => ("HandleModels$Values", "numbers", "[J", true)
  | _ => ("HandleModels$Values", "size", "I", false)
def tyX9 : Nat → FieldType := fun k => match k with
  | 0 => .array .int
  | 1 => .array .long
  | _ => .int
theorem nmX9 : ∀ a, a < 3 → ∀ b, b < 3 → a ≠ b → (TX9 a).2.1 ≠ (TX9 b).2.1 := by decide +kernel
theorem tyX9_ok : ∀ k, k < 3 → parseFieldDescriptor (TX9 k).2.2.1 = some (tyX9 k) := by decide +kernel
def RX10 : String := "HandleModels"
def TX10 : u_T := fun k => match k with
  | 0 => ("HandleModels", "handles", "[LHandleModels$Handle;", true)
  | 1 => ("HandleModels", "handleCount", "I", false)
  | 2 => ("HandleModels", "sites", "[LHandleModels$Site;", true)
  | 3 => ("HandleModels", "siteCount", "I", false)
  | 4 => ("HandleModels", "rows", "LHandleModels$Rows;", true)
  | 5 => ("HandleModels", "given", "LHandleModels$Values;", true)
  | 6 => ("HandleModels", "runner", "LHandleModels$Runner;", true)
  | 7 => ("HandleModels", "latestKind", "I", false)
  | 8 => ("HandleModels", "latestNumber", "J", false)
  | _ => ("HandleModels", "latestFailure", "I", false)
def tyX10 : Nat → FieldType := fun k => match k with
  | 0 => .array (.object "HandleModels$Handle")
  | 1 => .int
  | 2 => .array (.object "HandleModels$Site")
  | 3 => .int
  | 4 => .object "HandleModels$Rows"
  | 5 => .object "HandleModels$Values"
  | 6 => .object "HandleModels$Runner"
  | 7 => .int
  | 8 => .long
  | _ => .int
theorem nmX10 : ∀ a, a < 10 → ∀ b, b < 10 → a ≠ b → (TX10 a).2.1 ≠ (TX10 b).2.1 := by decide +kernel
theorem tyX10_ok : ∀ k, k < 10 → parseFieldDescriptor (TX10 k).2.2.1 = some (tyX10 k) := by decide +kernel
def RX11 : String := "HandleModelsModel"
def TX11 : u_T := fun k => match k with
  | 0 => ("HandleModelsModel", "thrown", "I", false)
  | 1 => ("HandleModelsModel", "handles", "I", false)
  | 2 => ("HandleModelsModel", "form", "[I", true)
  | 3 => ("HandleModelsModel", "many", "[I", true)
  | 4 => ("HandleModelsModel", "type", "[I", true)
  | 5 => ("HandleModelsModel", "gives", "[I", true)
  | 6 => ("HandleModelsModel", "ofH", "[I", true)
  | 7 => ("HandleModelsModel", "ofX", "[I", true)
  | 8 => ("HandleModelsModel", "ofY", "[I", true)
  | 9 => ("HandleModelsModel", "numberA", "[I", true)
  | 10 => ("HandleModelsModel", "numberB", "[I", true)
  | 11 => ("HandleModelsModel", "boundKind", "[I", true)
  | 12 => ("HandleModelsModel", "boundNumber", "[J", true)
  | 13 => ("HandleModelsModel", "rows", "I", false)
  | 14 => ("HandleModelsModel", "rowLong", "[I", true)
  | 15 => ("HandleModelsModel", "rowItem", "[I", true)
  | 16 => ("HandleModelsModel", "sites", "I", false)
  | 17 => ("HandleModelsModel", "siteOf", "[I", true)
  | 18 => ("HandleModelsModel", "siteStarter", "[I", true)
  | 19 => ("HandleModelsModel", "siteLinked", "[I", true)
  | 20 => ("HandleModelsModel", "values", "I", false)
  | 21 => ("HandleModelsModel", "valueKind", "[I", true)
  | 22 => ("HandleModelsModel", "valueNumber", "[J", true)
  | 23 => ("HandleModelsModel", "resultKind", "I", false)
  | 24 => ("HandleModelsModel", "result", "J", false)
  | 25 => ("HandleModelsModel", "counted", "I", false)
  | 26 => ("HandleModelsModel", "lastFailure", "I", false)
  | 27 => ("HandleModelsModel", "takes", "[I", true)
  | 28 => ("HandleModelsModel", "takesMany", "I", false)
  | 29 => ("HandleModelsModel", "failed", "I", false)
  | 30 => ("HandleModelsModel", "cameKind", "I", false)
  | 31 => ("HandleModelsModel", "came", "J", false)
  | 32 => ("HandleModelsModel", "steps", "I", false)
  | 33 => ("HandleModelsModel", "open", "I", false)
  | 34 => ("HandleModelsModel", "isBack", "Z", false)
  | 35 => ("HandleModelsModel", "of", "[I", true)
  | 36 => ("HandleModelsModel", "stage", "[I", true)
  | 37 => ("HandleModelsModel", "kinds", "[I", true)
  | 38 => ("HandleModelsModel", "numbers", "[J", true)
  | 39 => ("HandleModelsModel", "keptFailure", "[I", true)
  | 40 => ("HandleModelsModel", "keptKind", "[I", true)
  | 41 => ("HandleModelsModel", "kept", "[J", true)
  | 42 => ("HandleModelsModel", "times", "[J", true)
  | 43 => ("HandleModelsModel", "round", "[J", true)
  | 44 => ("HandleModelsModel", "argKind", "[I", true)
  | 45 => ("HandleModelsModel", "arg", "[J", true)
  | _ => ("HandleModelsModel", "args", "I", false)
def tyX11 : Nat → FieldType := fun k => match k with
  | 0 => .int
  | 1 => .int
  | 2 => .array .int
  | 3 => .array .int
  | 4 => .array .int
  | 5 => .array .int
  | 6 => .array .int
  | 7 => .array .int
  | 8 => .array .int
  | 9 => .array .int
  | 10 => .array .int
  | 11 => .array .int
  | 12 => .array .long
  | 13 => .int
  | 14 => .array .int
  | 15 => .array .int
  | 16 => .int
  | 17 => .array .int
  | 18 => .array .int
  | 19 => .array .int
  | 20 => .int
  | 21 => .array .int
  | 22 => .array .long
  | 23 => .int
  | 24 => .long
  | 25 => .int
  | 26 => .int
  | 27 => .array .int
  | 28 => .int
  | 29 => .int
  | 30 => .int
  | 31 => .long
  | 32 => .int
  | 33 => .int
  | 34 => .boolean
  | 35 => .array .int
  | 36 => .array .int
  | 37 => .array .int
  | 38 => .array .long
  | 39 => .array .int
  | 40 => .array .int
  | 41 => .array .long
  | 42 => .array .long
  | 43 => .array .long
  | 44 => .array .int
  | 45 => .array .long
  | _ => .int
theorem nmX11 : ∀ a, a < 47 → ∀ b, b < 47 → a ≠ b → (TX11 a).2.1 ≠ (TX11 b).2.1 := by decide +kernel
theorem tyX11_ok : ∀ k, k < 47 → parseFieldDescriptor (TX11 k).2.2.1 = some (tyX11 k) := by decide +kernel
abbrev vwCl : List vw_C := [(RX1, TX1, 3), (RX2, TX2, 6), (RX3, TX3, 6), (RX4, TX4, 3), (RX5, TX5, 6), (RX7, TX7, 3), (RX8, TX8, 2), (RX9, TX9, 3), (RX10, TX10, 10), (RX11, TX11, 47)]
def arC : Nat → String := fun t => match t with
  | 0 => "HandleModels$Handle"
  | 1 => "HandleModels$Site"
  | _ => "HandleModels$Values"
def aoCs : List String := ["HandleModels$Handle", "HandleModels$Site", "HandleModels$Values"]
def nWs : List Cond := [.methodLinkNest "HandleModels" 30 ⟨"HandleModels$Rows", "<init>", "()V"⟩ "HandleModels", .methodLinkNest "HandleModels" 37 ⟨"HandleModels$Values", "<init>", "()V"⟩ "HandleModels", .methodLinkNest "HandleModels$Runner" 35 ⟨"HandleModels$Values", "<init>", "()V"⟩ "HandleModels", .fieldLinkNest "HandleModels$Shapes" 17 "HandleModels" "NO_TYPES" "[I" "HandleModels", .castable "HandleModels$Other" "HandleModels$Other", .castable "HandleModels$Other" "HandleModels$Handle"]
def ncCs : List (String × String) := [("HandleModels", "HandleModels$Other"), ("HandleModels$Rows", "HandleModels$Other"), ("HandleModels$Values", "HandleModels$Other"), ("HandleModels$Runner", "HandleModels$Other"), ("HandleModelsModel", "HandleModels$Other"), ("HandleModels$Handle", "HandleModels$Other"), ("HandleModels$Types", "HandleModels$Other"), ("HandleModels$Parts", "HandleModels$Other"), ("HandleModels$Site", "HandleModels$Other")]
def stL : List (String × String × String) := [("HandleModels", "NO_TYPES", "[I")]
def Gd : List Cond := lw_tbl.filter goodWord
theorem gd_of {w : Cond} (i : Nat) (h : lw_tbl[i]? = some w) (hg : goodWord w = true) : w ∈ Gd := List.mem_filter.mpr ⟨List.mem_of_getElem? h, hg⟩
theorem gd_ws {ws : List Cond} (ps : List Nat) (hp : ws = ps.filterMap (fun i => lw_tbl[i]?)) (h : ws.all goodWord = true) : ∀ w ∈ ws, w ∈ Gd := fun w hw => by
  have h1 := List.all_eq_true.mp h w hw
  rw [hp] at hw
  obtain ⟨i, -, hi⟩ := List.mem_filterMap.mp hw
  exact gd_of i hi h1
set_option maxRecDepth 100000 in
theorem uwX1 : ∀ w ∈ u_ws RX1 TX1 3, w ∈ Gd := gd_ws [248, 250, 252] (by decide +kernel) (by decide +kernel)
set_option maxRecDepth 100000 in
theorem uwX2 : ∀ w ∈ u_ws RX2 TX2 6, w ∈ Gd := gd_ws [415, 416, 417, 409, 411, 413] (by decide +kernel) (by decide +kernel)
set_option maxRecDepth 100000 in
theorem uwX3 : ∀ w ∈ u_ws RX3 TX3 6, w ∈ Gd := gd_ws [297, 299, 301, 303, 305, 307] (by decide +kernel) (by decide +kernel)
set_option maxRecDepth 100000 in
theorem uwX4 : ∀ w ∈ u_ws RX4 TX4 3, w ∈ Gd := gd_ws [107, 109, 111] (by decide +kernel) (by decide +kernel)
set_option maxRecDepth 100000 in
theorem uwX5 : ∀ w ∈ u_ws RX5 TX5 6, w ∈ Gd := gd_ws [151, 153, 155, 157, 159, 161] (by decide +kernel) (by decide +kernel)
set_option maxRecDepth 100000 in
theorem uwX7 : ∀ w ∈ u_ws RX7 TX7 3, w ∈ Gd := gd_ws [670, 672, 674] (by decide +kernel) (by decide +kernel)
set_option maxRecDepth 100000 in
theorem uwX8 : ∀ w ∈ u_ws RX8 TX8 2, w ∈ Gd := gd_ws [227, 229] (by decide +kernel) (by decide +kernel)
set_option maxRecDepth 100000 in
theorem uwX9 : ∀ w ∈ u_ws RX9 TX9 3, w ∈ Gd := gd_ws [124, 126, 128] (by decide +kernel) (by decide +kernel)
set_option maxRecDepth 100000 in
theorem uwX10 : ∀ w ∈ u_ws RX10 TX10 10, w ∈ Gd := gd_ws [174, 176, 178, 180, 182, 184, 186, 188, 190, 192] (by decide +kernel) (by decide +kernel)
set_option maxRecDepth 100000 in
theorem uwX11 : ∀ w ∈ u_ws RX11 TX11 47, w ∈ Gd := gd_ws [775, 777, 779, 781, 783, 785, 787, 789, 791, 793, 795, 797, 799, 801, 803, 805, 807, 809, 811, 813, 815, 817, 819, 821, 823, 825, 827, 829, 831, 833, 835, 837, 839, 841, 843, 845, 847, 849, 851, 853, 855, 857, 859, 861, 863, 865, 867] (by decide +kernel) (by decide +kernel)
/-- every class: its words, its types, its names -/
theorem cls_ok {c : Nat} {q : vw_C} (h : vwCl[c]? = some q) : (∀ w ∈ u_ws q.1 q.2.1 q.2.2, w ∈ Gd) ∧ (∃ ty : Nat → FieldType, ∀ k, k < q.2.2 → parseFieldDescriptor (q.2.1 k).2.2.1 = some (ty k)) ∧ (∀ a, a < q.2.2 → ∀ b, b < q.2.2 → a ≠ b → (q.2.1 a).2.1 ≠ (q.2.1 b).2.1) := by
  match c, h with
  | 0, h => cases h; exact ⟨uwX1, ⟨tyX1, tyX1_ok⟩, nmX1⟩
  | 1, h => cases h; exact ⟨uwX2, ⟨tyX2, tyX2_ok⟩, nmX2⟩
  | 2, h => cases h; exact ⟨uwX3, ⟨tyX3, tyX3_ok⟩, nmX3⟩
  | 3, h => cases h; exact ⟨uwX4, ⟨tyX4, tyX4_ok⟩, nmX4⟩
  | 4, h => cases h; exact ⟨uwX5, ⟨tyX5, tyX5_ok⟩, nmX5⟩
  | 5, h => cases h; exact ⟨uwX7, ⟨tyX7, tyX7_ok⟩, nmX7⟩
  | 6, h => cases h; exact ⟨uwX8, ⟨tyX8, tyX8_ok⟩, nmX8⟩
  | 7, h => cases h; exact ⟨uwX9, ⟨tyX9, tyX9_ok⟩, nmX9⟩
  | 8, h => cases h; exact ⟨uwX10, ⟨tyX10, tyX10_ok⟩, nmX10⟩
  | 9, h => cases h; exact ⟨uwX11, ⟨tyX11, tyX11_ok⟩, nmX11⟩
  | k + 10, h => simp [vwCl] at h
