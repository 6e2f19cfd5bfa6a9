/-! the classes, the words, what the pools say (printed by wip/whole/gen_tables.py) -/
def zt_R0 : String := "QuadricFlats$Flats"
def zt_T0 : u_T := fun k => match k with
  | 0 => ("QuadricFlats$Flats", "links", "[J", true)
  | 1 => ("QuadricFlats$Flats", "lines", "[J", true)
  | 2 => ("QuadricFlats$Flats", "planes", "[J", true)
  | 3 => ("QuadricFlats$Flats", "pointTotal", "I", false)
  | 4 => ("QuadricFlats$Flats", "lineTotal", "I", false)
  | _ => ("QuadricFlats$Flats", "planeTotal", "I", false)
def zt_y0 : Nat → FieldType := fun k => match k with
  | 0 => .array .long
  | 1 => .array .long
  | 2 => .array .long
  | 3 => .int
  | 4 => .int
  | _ => .int
theorem zt_n0 : ∀ a, a < 6 → ∀ b, b < 6 → a ≠ b → (zt_T0 a).2.1 ≠ (zt_T0 b).2.1 := by decide +kernel
theorem zt_yo0 : ∀ k, k < 6 → parseFieldDescriptor (zt_T0 k).2.2.1 = some (zt_y0 k) := by decide +kernel
def zt_R1 : String := "QuadricFlats$Form"
def zt_T1 : u_T := fun k => match k with
  | 0 => ("QuadricFlats$Form", "prime", "I", false)
  | 1 => ("QuadricFlats$Form", "variables", "I", false)
  | 2 => ("QuadricFlats$Form", "cells", "[I", true)
  | _ => ("QuadricFlats$Form", "matrix", "[I", true)
def zt_y1 : Nat → FieldType := fun k => match k with
  | 0 => .int
  | 1 => .int
  | 2 => .array .int
  | _ => .array .int
theorem zt_n1 : ∀ a, a < 4 → ∀ b, b < 4 → a ≠ b → (zt_T1 a).2.1 ≠ (zt_T1 b).2.1 := by decide +kernel
theorem zt_yo1 : ∀ k, k < 4 → parseFieldDescriptor (zt_T1 k).2.2.1 = some (zt_y1 k) := by decide +kernel
def zt_R2 : String := "QuadricFlats$Page"
def zt_T2 : u_T := fun k => match k with
  | 0 => ("QuadricFlats$Page", "codes", "[I", true)
  | 1 => ("QuadricFlats$Page", "length", "I", false)
  | 2 => ("QuadricFlats$Page", "prime", "I", false)
  | 3 => ("QuadricFlats$Page", "width", "I", false)
  | 4 => ("QuadricFlats$Page", "row", "I", false)
  | _ => ("QuadricFlats$Page", "column", "I", false)
def zt_y2 : Nat → FieldType := fun k => match k with
  | 0 => .array .int
  | 1 => .int
  | 2 => .int
  | 3 => .int
  | 4 => .int
  | _ => .int
theorem zt_n2 : ∀ a, a < 6 → ∀ b, b < 6 → a ≠ b → (zt_T2 a).2.1 ≠ (zt_T2 b).2.1 := by decide +kernel
theorem zt_yo2 : ∀ k, k < 6 → parseFieldDescriptor (zt_T2 k).2.2.1 = some (zt_y2 k) := by decide +kernel
def zt_R3 : String := "QuadricFlats$Quadric"
def zt_T3 : u_T := fun k => match k with
  | 0 => ("QuadricFlats$Quadric", "prime", "I", false)
  | 1 => ("QuadricFlats$Quadric", "variables", "I", false)
  | 2 => ("QuadricFlats$Quadric", "total", "I", false)
  | 3 => ("QuadricFlats$Quadric", "numbers", "[I", true)
  | 4 => ("QuadricFlats$Quadric", "normals", "[I", true)
  | 5 => ("QuadricFlats$Quadric", "values", "[I", true)
  | 6 => ("QuadricFlats$Quadric", "members", "[I", true)
  | 7 => ("QuadricFlats$Quadric", "ranks", "[I", true)
  | 8 => ("QuadricFlats$Quadric", "memberTotal", "I", false)
  | 9 => ("QuadricFlats$Quadric", "singularTotal", "I", false)
  | _ => ("QuadricFlats$Quadric", "vector", "[I", true)
def zt_y3 : Nat → FieldType := fun k => match k with
  | 0 => .int
  | 1 => .int
  | 2 => .int
  | 3 => .array .int
  | 4 => .array .int
  | 5 => .array .int
  | 6 => .array .int
  | 7 => .array .int
  | 8 => .int
  | 9 => .int
  | _ => .array .int
theorem zt_n3 : ∀ a, a < 11 → ∀ b, b < 11 → a ≠ b → (zt_T3 a).2.1 ≠ (zt_T3 b).2.1 := by decide +kernel
theorem zt_yo3 : ∀ k, k < 11 → parseFieldDescriptor (zt_T3 k).2.2.1 = some (zt_y3 k) := by decide +kernel
def zt_R4 : String := "QuadricFlats$Search"
def zt_T4 : u_T := fun k => match k with
  | 0 => ("QuadricFlats$Search", "side", "LQuadricFlats$Side;", true)
  | 1 => ("QuadricFlats$Search", "other", "LQuadricFlats$Side;", true)
  | 2 => ("QuadricFlats$Search", "found", "I", false)
  | _ => ("QuadricFlats$Search", "first", "J", false)
def zt_y4 : Nat → FieldType := fun k => match k with
  | 0 => .object "QuadricFlats$Side"
  | 1 => .object "QuadricFlats$Side"
  | 2 => .int
  | _ => .long
theorem zt_n4 : ∀ a, a < 4 → ∀ b, b < 4 → a ≠ b → (zt_T4 a).2.1 ≠ (zt_T4 b).2.1 := by decide +kernel
theorem zt_yo4 : ∀ k, k < 4 → parseFieldDescriptor (zt_T4 k).2.2.1 = some (zt_y4 k) := by decide +kernel
def zt_R5 : String := "QuadricFlats$Side"
def zt_T5 : u_T := fun k => match k with
  | 0 => ("QuadricFlats$Side", "size", "I", false)
  | 1 => ("QuadricFlats$Side", "covers", "[J", true)
  | 2 => ("QuadricFlats$Side", "clashes", "[J", true)
  | 3 => ("QuadricFlats$Side", "entries", "[I", true)
  | _ => ("QuadricFlats$Side", "length", "I", false)
def zt_y5 : Nat → FieldType := fun k => match k with
  | 0 => .int
  | 1 => .array .long
  | 2 => .array .long
  | 3 => .array .int
  | _ => .int
theorem zt_n5 : ∀ a, a < 5 → ∀ b, b < 5 → a ≠ b → (zt_T5 a).2.1 ≠ (zt_T5 b).2.1 := by decide +kernel
theorem zt_yo5 : ∀ k, k < 5 → parseFieldDescriptor (zt_T5 k).2.2.1 = some (zt_y5 k) := by decide +kernel
def zt_R6 : String := "QuadricFlats"
def zt_T6 : u_T := fun k => match k with
  | 0 => ("QuadricFlats", "page", "LQuadricFlats$Page;", true)
  | 1 => ("QuadricFlats", "current", "LQuadricFlats$Form;", true)
  | 2 => ("QuadricFlats", "kept", "LQuadricFlats$Form;", true)
  | 3 => ("QuadricFlats", "quadric", "LQuadricFlats$Quadric;", true)
  | 4 => ("QuadricFlats", "known", "LQuadricFlats$Flats;", true)
  | 5 => ("QuadricFlats", "picked", "LQuadricFlats$Side;", true)
  | 6 => ("QuadricFlats", "gathered", "LQuadricFlats$Side;", true)
  | 7 => ("QuadricFlats", "ovoids", "LQuadricFlats$Search;", true)
  | 8 => ("QuadricFlats", "spreads", "LQuadricFlats$Search;", true)
  | 9 => ("QuadricFlats", "keptType", "I", false)
  | 10 => ("QuadricFlats", "formsRead", "I", false)
  | 11 => ("QuadricFlats", "finishCalls", "I", false)
  | 12 => ("QuadricFlats", "waysCalls", "I", false)
  | 13 => ("QuadricFlats", "surveyed", "Z", false)
  | _ => ("QuadricFlats", "built", "Z", false)
def zt_y6 : Nat → FieldType := fun k => match k with
  | 0 => .object "QuadricFlats$Page"
  | 1 => .object "QuadricFlats$Form"
  | 2 => .object "QuadricFlats$Form"
  | 3 => .object "QuadricFlats$Quadric"
  | 4 => .object "QuadricFlats$Flats"
  | 5 => .object "QuadricFlats$Side"
  | 6 => .object "QuadricFlats$Side"
  | 7 => .object "QuadricFlats$Search"
  | 8 => .object "QuadricFlats$Search"
  | 9 => .int
  | 10 => .int
  | 11 => .int
  | 12 => .int
  | 13 => .boolean
  | _ => .boolean
theorem zt_n6 : ∀ a, a < 15 → ∀ b, b < 15 → a ≠ b → (zt_T6 a).2.1 ≠ (zt_T6 b).2.1 := by decide +kernel
theorem zt_yo6 : ∀ k, k < 15 → parseFieldDescriptor (zt_T6 k).2.2.1 = some (zt_y6 k) := by decide +kernel
def zt_R7 : String := "QuadricFlatsModel"
def zt_T7 : u_T := fun k => match k with
  | 0 => ("QuadricFlatsModel", "prime", "I", false)
  | 1 => ("QuadricFlatsModel", "many", "I", false)
  | 2 => ("QuadricFlatsModel", "table", "[I", true)
  | 3 => ("QuadricFlatsModel", "forms", "I", false)
  | 4 => ("QuadricFlatsModel", "pageLength", "I", false)
  | 5 => ("QuadricFlatsModel", "page", "[I", true)
  | 6 => ("QuadricFlatsModel", "points", "I", false)
  | 7 => ("QuadricFlatsModel", "rows", "[I", true)
  | 8 => ("QuadricFlatsModel", "numbered", "[I", true)
  | 9 => ("QuadricFlatsModel", "isOn", "[Z", true)
  | 10 => ("QuadricFlatsModel", "onMany", "I", false)
  | 11 => ("QuadricFlatsModel", "singular", "I", false)
  | 12 => ("QuadricFlatsModel", "lines", "I", false)
  | 13 => ("QuadricFlatsModel", "line", "[I", true)
  | 14 => ("QuadricFlatsModel", "planes", "I", false)
  | 15 => ("QuadricFlatsModel", "plane", "[I", true)
  | 16 => ("QuadricFlatsModel", "newPrime", "I", false)
  | 17 => ("QuadricFlatsModel", "newMany", "I", false)
  | 18 => ("QuadricFlatsModel", "newRow", "I", false)
  | 19 => ("QuadricFlatsModel", "newDigits", "I", false)
  | 20 => ("QuadricFlatsModel", "newTable", "[I", true)
  | 21 => ("QuadricFlatsModel", "at", "[I", true)
  | 22 => ("QuadricFlatsModel", "other", "[I", true)
  | 23 => ("QuadricFlatsModel", "sums", "[I", true)
  | 24 => ("QuadricFlatsModel", "mixed", "[I", true)
  | 25 => ("QuadricFlatsModel", "flatMany", "I", false)
  | 26 => ("QuadricFlatsModel", "flatAt", "[I", true)
  | 27 => ("QuadricFlatsModel", "base", "[I", true)
  | 28 => ("QuadricFlatsModel", "matrix", "[I", true)
  | 29 => ("QuadricFlatsModel", "chosenMany", "[I", true)
  | 30 => ("QuadricFlatsModel", "chosenAt", "[I", true)
  | 31 => ("QuadricFlatsModel", "canMany", "I", false)
  | 32 => ("QuadricFlatsModel", "can", "[J", true)
  | 33 => ("QuadricFlatsModel", "canNumber", "[I", true)
  | 34 => ("QuadricFlatsModel", "tried", "[I", true)
  | 35 => ("QuadricFlatsModel", "covered", "[J", true)
  | 36 => ("QuadricFlatsModel", "finished", "I", false)
  | 37 => ("QuadricFlatsModel", "counted", "I", false)
  | 38 => ("QuadricFlatsModel", "images", "[I", true)
  | 39 => ("QuadricFlatsModel", "made", "[I", true)
  | 40 => ("QuadricFlatsModel", "keptPrime", "I", false)
  | 41 => ("QuadricFlatsModel", "keptMany", "I", false)
  | 42 => ("QuadricFlatsModel", "keptKind", "I", false)
  | 43 => ("QuadricFlatsModel", "keptDisc", "I", false)
  | 44 => ("QuadricFlatsModel", "keptTable", "[I", true)
  | 45 => ("QuadricFlatsModel", "seedNow", "J", false)
  | _ => ("QuadricFlatsModel", "h", "J", false)
def zt_y7 : Nat → FieldType := fun k => match k with
  | 0 => .int
  | 1 => .int
  | 2 => .array .int
  | 3 => .int
  | 4 => .int
  | 5 => .array .int
  | 6 => .int
  | 7 => .array .int
  | 8 => .array .int
  | 9 => .array .boolean
  | 10 => .int
  | 11 => .int
  | 12 => .int
  | 13 => .array .int
  | 14 => .int
  | 15 => .array .int
  | 16 => .int
  | 17 => .int
  | 18 => .int
  | 19 => .int
  | 20 => .array .int
  | 21 => .array .int
  | 22 => .array .int
  | 23 => .array .int
  | 24 => .array .int
  | 25 => .int
  | 26 => .array .int
  | 27 => .array .int
  | 28 => .array .int
  | 29 => .array .int
  | 30 => .array .int
  | 31 => .int
  | 32 => .array .long
  | 33 => .array .int
  | 34 => .array .int
  | 35 => .array .long
  | 36 => .int
  | 37 => .int
  | 38 => .array .int
  | 39 => .array .int
  | 40 => .int
  | 41 => .int
  | 42 => .int
  | 43 => .int
  | 44 => .array .int
  | 45 => .long
  | _ => .long
theorem zt_n7 : ∀ a, a < 47 → ∀ b, b < 47 → a ≠ b → (zt_T7 a).2.1 ≠ (zt_T7 b).2.1 := by decide +kernel
theorem zt_yo7 : ∀ k, k < 47 → parseFieldDescriptor (zt_T7 k).2.2.1 = some (zt_y7 k) := by decide +kernel
abbrev zt_cl : List vw_C := [(zt_R0, zt_T0, 6), (zt_R1, zt_T1, 4), (zt_R2, zt_T2, 6), (zt_R3, zt_T3, 11), (zt_R4, zt_T4, 4), (zt_R5, zt_T5, 5), (zt_R6, zt_T6, 15), (zt_R7, zt_T7, 47)]
def zt_gw : List Jvm.Cond := lw_tbl.filter goodWord
def zt_ne : Jvm.Cond → Bool
  | .fieldLinkNest _ _ _ _ _ _ => true
  | .methodLinkNest _ _ _ _ => true
  | _ => false
def zt_nw : List Jvm.Cond := lw_tbl.filter zt_ne
theorem zt_good : zm_goodL zt_gw := fun x hx => good_of_word (List.mem_filter.mp hx).2
theorem zt_nest : ∀ x ∈ zt_nw, zm_nest x := by
  intro x hx
  have h := (List.mem_filter.mp hx).2
  cases x with
  | fieldLinkNest a i b n d g => exact Or.inl ⟨a, i, b, n, d, g, rfl⟩
  | methodLinkNest a i y g => exact Or.inr ⟨a, i, y, g, rfl⟩
  | _ => cases h
theorem zt_in (i : Nat) {x : Jvm.Cond} (h : lw_tbl[i]? = some x) (hg : goodWord x = true) : x ∈ zt_gw := List.mem_filter.mpr ⟨List.mem_of_getElem? h, hg⟩
theorem zt_inN (i : Nat) {x : Jvm.Cond} (h : lw_tbl[i]? = some x) (hg : zt_ne x = true) : x ∈ zt_nw := List.mem_filter.mpr ⟨List.mem_of_getElem? h, hg⟩
theorem zt_lay {C : String} {T : u_T} {N : Nat} (ps : List Nat) (h : (List.range N).all (fun k => decide (lw_tbl[ps.getD k 0]? = some (u_lay C T k)) && goodWord (u_lay C T k)) = true) : ∀ x ∈ u_ws C T N, x ∈ zt_gw := by
  intro x hx
  obtain ⟨k, hk, rfl⟩ := List.mem_map.mp hx
  have h1 := List.all_eq_true.mp h k hk
  simp only [Bool.and_eq_true, decide_eq_true_eq] at h1
  exact zt_in _ h1.1 h1.2
theorem zt_l0 : ∀ x ∈ u_ws zt_R0 zt_T0 6, x ∈ zt_gw := zt_lay [276, 278, 280, 282, 284, 286] (by decide +kernel)
theorem zt_l1 : ∀ x ∈ u_ws zt_R1 zt_T1 4, x ∈ zt_gw := zt_lay [202, 204, 206, 208] (by decide +kernel)
theorem zt_l2 : ∀ x ∈ u_ws zt_R2 zt_T2 6, x ∈ zt_gw := zt_lay [172, 174, 176, 178, 180, 182] (by decide +kernel)
theorem zt_l3 : ∀ x ∈ u_ws zt_R3 zt_T3 11, x ∈ zt_gw := zt_lay [239, 241, 243, 245, 247, 249, 251, 253, 255, 257, 259] (by decide +kernel)
theorem zt_l4 : ∀ x ∈ u_ws zt_R4 zt_T4 4, x ∈ zt_gw := zt_lay [332, 334, 336, 338] (by decide +kernel)
theorem zt_l5 : ∀ x ∈ u_ws zt_R5 zt_T5 5, x ∈ zt_gw := zt_lay [309, 311, 313, 315, 317] (by decide +kernel)
theorem zt_l6 : ∀ x ∈ u_ws zt_R6 zt_T6 15, x ∈ zt_gw := zt_lay [356, 358, 360, 362, 364, 366, 368, 370, 372, 374, 376, 378, 380, 382, 384] (by decide +kernel)
theorem zt_l7 : ∀ x ∈ u_ws zt_R7 zt_T7 47, x ∈ zt_gw := zt_lay [905, 907, 909, 911, 913, 915, 917, 919, 921, 923, 925, 927, 929, 931, 933, 935, 937, 939, 941, 943, 945, 947, 949, 951, 953, 955, 957, 959, 961, 963, 965, 967, 969, 971, 973, 975, 977, 979, 981, 983, 985, 987, 989, 991, 993, 995, 997] (by decide +kernel)
