def jtbl : List Cond := lw_tbl.filter goodWord
theorem jmem_0 {w : Cond} (i : Nat) (h : (k2_sels lw_privs)[i]? = some w) (hg : goodWord w = true) : w ∈ jtbl := List.mem_filter.mpr ⟨List.mem_append_left _ (List.mem_of_getElem? h), hg⟩
theorem jmem_1 {w : Cond} (i : Nat) (h : tables_1_1[i]? = some w) (hg : goodWord w = true) : w ∈ jtbl := List.mem_filter.mpr ⟨List.mem_append_right _ (List.mem_append_left _ (List.mem_of_getElem? h)), hg⟩
theorem jmem_2 {w : Cond} (i : Nat) (h : tables_1_2[i]? = some w) (hg : goodWord w = true) : w ∈ jtbl := List.mem_filter.mpr ⟨List.mem_append_right _ (List.mem_append_right _ (List.mem_append_left _ (List.mem_of_getElem? h))), hg⟩
theorem jmem_3 {w : Cond} (i : Nat) (h : tables_1_3[i]? = some w) (hg : goodWord w = true) : w ∈ jtbl := List.mem_filter.mpr ⟨List.mem_append_right _ (List.mem_append_right _ (List.mem_append_right _ (List.mem_append_left _ (List.mem_of_getElem? h)))), hg⟩
theorem jmem_4 {w : Cond} (i : Nat) (h : tables_1_4[i]? = some w) (hg : goodWord w = true) : w ∈ jtbl := List.mem_filter.mpr ⟨List.mem_append_right _ (List.mem_append_right _ (List.mem_append_right _ (List.mem_append_right _ (List.mem_append_left _ (List.mem_of_getElem? h))))), hg⟩
theorem jmem_5 {w : Cond} (i : Nat) (h : tables_1_5[i]? = some w) (hg : goodWord w = true) : w ∈ jtbl := List.mem_filter.mpr ⟨List.mem_append_right _ (List.mem_append_right _ (List.mem_append_right _ (List.mem_append_right _ (List.mem_append_right _ (List.mem_append_left _ (List.mem_of_getElem? h)))))), hg⟩
theorem jmem_6 {w : Cond} (i : Nat) (h : tables_1_6[i]? = some w) (hg : goodWord w = true) : w ∈ jtbl := List.mem_filter.mpr ⟨List.mem_append_right _ (List.mem_append_right _ (List.mem_append_right _ (List.mem_append_right _ (List.mem_append_right _ (List.mem_append_right _ (List.mem_of_getElem? h)))))), hg⟩
theorem jmem {w : Cond} (i : Nat) (h : lw_tbl[i]? = some w) (hg : goodWord w = true) : w ∈ jtbl := List.mem_filter.mpr ⟨List.mem_of_getElem? h, hg⟩
def jR_Chain : String := "YesNoPowers$Chain"
def jT_Chain : u_T := fun k => match k with
  | 0 => ("YesNoPowers$Chain", "length", "I", false)
  | 1 => ("YesNoPowers$Chain", "borrowed", "I", false)
  | 2 => ("YesNoPowers$Chain", "closed", "I", false)
  | 3 => ("YesNoPowers$Chain", "reasonsGiven", "I", false)
  | 4 => ("YesNoPowers$Chain", "closings", "[I", true)
  | 5 => ("YesNoPowers$Chain", "reasons", "[I", true)
  | 6 => ("YesNoPowers$Chain", "moving", "LYesNoPowers$Table;", true)
  | 7 => ("YesNoPowers$Chain", "changed", "LYesNoPowers$Table;", true)
  | 8 => ("YesNoPowers$Chain", "links", "[LYesNoPowers$Link;", true)
  | 9 => ("YesNoPowers$Chain", "borrowings", "[I", true)
  | _ => ("YesNoPowers$Chain", "powers", "LYesNoPowers$Powers;", true)
def jt_Chain : Nat → FieldType := fun k => match k with
  | 0 => .int
  | 1 => .int
  | 2 => .int
  | 3 => .int
  | 4 => .array .int
  | 5 => .array .int
  | 6 => .object "YesNoPowers$Table"
  | 7 => .object "YesNoPowers$Table"
  | 8 => .array (.object "YesNoPowers$Link")
  | 9 => .array .int
  | _ => .object "YesNoPowers$Powers"
theorem jnm_Chain : ∀ a, a < 11 → ∀ b, b < 11 → a ≠ b → (jT_Chain a).2.1 ≠ (jT_Chain b).2.1 := by decide +kernel
theorem jty_Chain : ∀ k, k < 11 → parseFieldDescriptor (jT_Chain k).2.2.1 = some (jt_Chain k) := by decide +kernel
def jR_Link : String := "YesNoPowers$Link"
def jT_Link : u_T := fun k => match k with
  | 0 => ("YesNoPowers$Link", "kind", "I", false)
  | 1 => ("YesNoPowers$Link", "m", "I", false)
  | _ => ("YesNoPowers$Link", "held", "LYesNoPowers$Table;", true)
def jt_Link : Nat → FieldType := fun k => match k with
  | 0 => .int
  | 1 => .int
  | _ => .object "YesNoPowers$Table"
theorem jnm_Link : ∀ a, a < 3 → ∀ b, b < 3 → a ≠ b → (jT_Link a).2.1 ≠ (jT_Link b).2.1 := by decide +kernel
theorem jty_Link : ∀ k, k < 3 → parseFieldDescriptor (jT_Link k).2.2.1 = some (jt_Link k) := by decide +kernel
def jR_Log : String := "YesNoPowers$Log"
def jT_Log : u_T := fun k => match k with
  | 0 => ("YesNoPowers$Log", "size", "I", false)
  | 1 => ("YesNoPowers$Log", "next", "I", false)
  | 2 => ("YesNoPowers$Log", "places", "[I", true)
  | _ => ("YesNoPowers$Log", "tables", "[LYesNoPowers$Table;", true)
def jt_Log : Nat → FieldType := fun k => match k with
  | 0 => .int
  | 1 => .int
  | 2 => .array .int
  | _ => .array (.object "YesNoPowers$Table")
theorem jnm_Log : ∀ a, a < 4 → ∀ b, b < 4 → a ≠ b → (jT_Log a).2.1 ≠ (jT_Log b).2.1 := by decide +kernel
theorem jty_Log : ∀ k, k < 4 → parseFieldDescriptor (jT_Log k).2.2.1 = some (jt_Log k) := by decide +kernel
def jR_Powers : String := "YesNoPowers$Powers"
def jT_Powers : u_T := fun k => match k with
  | 0 => ("YesNoPowers$Powers", "index", "I", false)
  | 1 => ("YesNoPowers$Powers", "period", "I", false)
  | 2 => ("YesNoPowers$Powers", "walker", "LYesNoPowers$Table;", true)
  | _ => ("YesNoPowers$Powers", "mark", "LYesNoPowers$Table;", true)
def jt_Powers : Nat → FieldType := fun k => match k with
  | 0 => .int
  | 1 => .int
  | 2 => .object "YesNoPowers$Table"
  | _ => .object "YesNoPowers$Table"
theorem jnm_Powers : ∀ a, a < 4 → ∀ b, b < 4 → a ≠ b → (jT_Powers a).2.1 ≠ (jT_Powers b).2.1 := by decide +kernel
theorem jty_Powers : ∀ k, k < 4 → parseFieldDescriptor (jT_Powers k).2.2.1 = some (jt_Powers k) := by decide +kernel
def jR_Rings : String := "YesNoPowers$Rings"
def jT_Rings : u_T := fun k => match k with
  | 0 => ("YesNoPowers$Rings", "number", "I", false)
  | 1 => ("YesNoPowers$Rings", "home", "[I", true)
  | 2 => ("YesNoPowers$Rings", "members", "[I", true)
  | 3 => ("YesNoPowers$Rings", "least", "[I", true)
  | 4 => ("YesNoPowers$Rings", "girth", "[I", true)
  | 5 => ("YesNoPowers$Rings", "period", "[I", true)
  | 6 => ("YesNoPowers$Rings", "level", "[I", true)
  | 7 => ("YesNoPowers$Rings", "below", "[I", true)
  | 8 => ("YesNoPowers$Rings", "distance", "[I", true)
  | 9 => ("YesNoPowers$Rings", "reach", "LYesNoPowers$Table;", true)
  | _ => ("YesNoPowers$Rings", "walks", "LYesNoPowers$Table;", true)
def jt_Rings : Nat → FieldType := fun k => match k with
  | 0 => .int
  | 1 => .array .int
  | 2 => .array .int
  | 3 => .array .int
  | 4 => .array .int
  | 5 => .array .int
  | 6 => .array .int
  | 7 => .array .int
  | 8 => .array .int
  | 9 => .object "YesNoPowers$Table"
  | _ => .object "YesNoPowers$Table"
theorem jnm_Rings : ∀ a, a < 11 → ∀ b, b < 11 → a ≠ b → (jT_Rings a).2.1 ≠ (jT_Rings b).2.1 := by decide +kernel
theorem jty_Rings : ∀ k, k < 11 → parseFieldDescriptor (jT_Rings k).2.2.1 = some (jt_Rings k) := by decide +kernel
def jR_Sheet : String := "YesNoPowers$Sheet"
def jT_Sheet : u_T := fun k => match k with
  | 0 => ("YesNoPowers$Sheet", "sort", "I", false)
  | 1 => ("YesNoPowers$Sheet", "length", "I", false)
  | _ => ("YesNoPowers$Sheet", "numbers", "[I", true)
def jt_Sheet : Nat → FieldType := fun k => match k with
  | 0 => .int
  | 1 => .int
  | _ => .array .int
theorem jnm_Sheet : ∀ a, a < 3 → ∀ b, b < 3 → a ≠ b → (jT_Sheet a).2.1 ≠ (jT_Sheet b).2.1 := by decide +kernel
theorem jty_Sheet : ∀ k, k < 3 → parseFieldDescriptor (jT_Sheet k).2.2.1 = some (jt_Sheet k) := by decide +kernel
def jR_Spaces : String := "YesNoPowers$Spaces"
def jT_Spaces : u_T := fun k => match k with
  | 0 => ("YesNoPowers$Spaces", "turned", "LYesNoPowers$Table;", true)
  | 1 => ("YesNoPowers$Spaces", "turnedOther", "LYesNoPowers$Table;", true)
  | 2 => ("YesNoPowers$Spaces", "opposite", "LYesNoPowers$Table;", true)
  | 3 => ("YesNoPowers$Spaces", "greatest", "LYesNoPowers$Table;", true)
  | _ => ("YesNoPowers$Spaces", "product", "LYesNoPowers$Table;", true)
def jt_Spaces : Nat → FieldType := fun k => match k with
  | 0 => .object "YesNoPowers$Table"
  | 1 => .object "YesNoPowers$Table"
  | 2 => .object "YesNoPowers$Table"
  | 3 => .object "YesNoPowers$Table"
  | _ => .object "YesNoPowers$Table"
theorem jnm_Spaces : ∀ a, a < 5 → ∀ b, b < 5 → a ≠ b → (jT_Spaces a).2.1 ≠ (jT_Spaces b).2.1 := by decide +kernel
theorem jty_Spaces : ∀ k, k < 5 → parseFieldDescriptor (jT_Spaces k).2.2.1 = some (jt_Spaces k) := by decide +kernel
def jR_Table : String := "YesNoPowers$Table"
def jT_Table : u_T := fun k => match k with
  | 0 => ("YesNoPowers$Table", "n", "I", false)
  | _ => ("YesNoPowers$Table", "rows", "[I", true)
def jt_Table : Nat → FieldType := fun k => match k with
  | 0 => .int
  | _ => .array .int
theorem jnm_Table : ∀ a, a < 2 → ∀ b, b < 2 → a ≠ b → (jT_Table a).2.1 ≠ (jT_Table b).2.1 := by decide +kernel
theorem jty_Table : ∀ k, k < 2 → parseFieldDescriptor (jT_Table k).2.2.1 = some (jt_Table k) := by decide +kernel
def jR_Main : String := "YesNoPowers"
def jT_Main : u_T := fun k => match k with
  | 0 => ("YesNoPowers", "slots", "[LYesNoPowers$Table;", true)
  | 1 => ("YesNoPowers", "sheets", "[LYesNoPowers$Sheet;", true)
  | 2 => ("YesNoPowers", "log", "LYesNoPowers$Log;", true)
  | 3 => ("YesNoPowers", "powers", "LYesNoPowers$Powers;", true)
  | 4 => ("YesNoPowers", "rings", "LYesNoPowers$Rings;", true)
  | 5 => ("YesNoPowers", "spaces", "LYesNoPowers$Spaces;", true)
  | 6 => ("YesNoPowers", "chain", "LYesNoPowers$Chain;", true)
  | _ => ("YesNoPowers", "made", "LYesNoPowers$Table;", true)
def jt_Main : Nat → FieldType := fun k => match k with
  | 0 => .array (.object "YesNoPowers$Table")
  | 1 => .array (.object "YesNoPowers$Sheet")
  | 2 => .object "YesNoPowers$Log"
  | 3 => .object "YesNoPowers$Powers"
  | 4 => .object "YesNoPowers$Rings"
  | 5 => .object "YesNoPowers$Spaces"
  | 6 => .object "YesNoPowers$Chain"
  | _ => .object "YesNoPowers$Table"
theorem jnm_Main : ∀ a, a < 8 → ∀ b, b < 8 → a ≠ b → (jT_Main a).2.1 ≠ (jT_Main b).2.1 := by decide +kernel
theorem jty_Main : ∀ k, k < 8 → parseFieldDescriptor (jT_Main k).2.2.1 = some (jt_Main k) := by decide +kernel
def jR_Model : String := "YesNoPowersModel"
def jT_Model : u_T := fun k => match k with
  | 0 => ("YesNoPowersModel", "rows", "[I", true)
  | 1 => ("YesNoPowersModel", "sizeOf", "[I", true)
  | 2 => ("YesNoPowersModel", "logged", "I", false)
  | 3 => ("YesNoPowersModel", "logSlot", "[I", true)
  | 4 => ("YesNoPowersModel", "links", "I", false)
  | 5 => ("YesNoPowersModel", "linkKind", "[I", true)
  | 6 => ("YesNoPowersModel", "linkWith", "[I", true)
  | 7 => ("YesNoPowersModel", "closings", "I", false)
  | 8 => ("YesNoPowersModel", "reasons", "I", false)
  | 9 => ("YesNoPowersModel", "reasonAt", "[I", true)
  | 10 => ("YesNoPowersModel", "powers", "[I", true)
  | 11 => ("YesNoPowersModel", "index0", "I", false)
  | 12 => ("YesNoPowersModel", "period0", "I", false)
  | 13 => ("YesNoPowersModel", "many", "I", false)
  | 14 => ("YesNoPowersModel", "classAt", "[I", true)
  | 15 => ("YesNoPowersModel", "reach", "[I", true)
  | 16 => ("YesNoPowersModel", "walk", "[I", true)
  | 17 => ("YesNoPowersModel", "levels", "[I", true)
  | 18 => ("YesNoPowersModel", "unions", "[Z", true)
  | 19 => ("YesNoPowersModel", "found", "[I", true)
  | 20 => ("YesNoPowersModel", "basisMany", "I", false)
  | 21 => ("YesNoPowersModel", "sorts", "[I", true)
  | 22 => ("YesNoPowersModel", "sizes", "[I", true)
  | _ => ("YesNoPowersModel", "numbers", "[I", true)
def jt_Model : Nat → FieldType := fun k => match k with
  | 0 => .array .int
  | 1 => .array .int
  | 2 => .int
  | 3 => .array .int
  | 4 => .int
  | 5 => .array .int
  | 6 => .array .int
  | 7 => .int
  | 8 => .int
  | 9 => .array .int
  | 10 => .array .int
  | 11 => .int
  | 12 => .int
  | 13 => .int
  | 14 => .array .int
  | 15 => .array .int
  | 16 => .array .int
  | 17 => .array .int
  | 18 => .array .boolean
  | 19 => .array .int
  | 20 => .int
  | 21 => .array .int
  | 22 => .array .int
  | _ => .array .int
theorem jnm_Model : ∀ a, a < 24 → ∀ b, b < 24 → a ≠ b → (jT_Model a).2.1 ≠ (jT_Model b).2.1 := by decide +kernel
theorem jty_Model : ∀ k, k < 24 → parseFieldDescriptor (jT_Model k).2.2.1 = some (jt_Model k) := by decide +kernel
abbrev jcl : List vw_C := [(jR_Chain, jT_Chain, 11), (jR_Link, jT_Link, 3), (jR_Log, jT_Log, 4), (jR_Powers, jT_Powers, 4), (jR_Rings, jT_Rings, 11), (jR_Sheet, jT_Sheet, 3), (jR_Spaces, jT_Spaces, 5), (jR_Table, jT_Table, 2), (jR_Main, jT_Main, 8), (jR_Model, jT_Model, 24)]
def jshL : List (Nat × Nat) := [(8, 8), (22, 6), (23, 4), (2, 4), (20, 20), (22, 20), (7, 2), (20, 12), (7, 2), (20, 12), (7, 2), (20, 12), (7, 2), (20, 12), (7, 2), (20, 12), (7, 2), (20, 12), (7, 2), (20, 12), (7, 2), (20, 12), (7, 2), (20, 12), (7, 2), (20, 12), (7, 2), (20, 12), (7, 2), (20, 12), (7, 2), (20, 12), (7, 2), (20, 12), (7, 2), (20, 12), (7, 2), (20, 12), (7, 2), (20, 12), (7, 2), (20, 12), (7, 2), (20, 12), (7, 2), (20, 12), (3, 4), (7, 2), (20, 12), (7, 2), (20, 12), (4, 11), (20, 12), (20, 12), (20, 12), (20, 12), (20, 12), (20, 12), (20, 12), (20, 12), (7, 2), (20, 12), (7, 2), (20, 12), (6, 5), (7, 2), (20, 12), (7, 2), (20, 12), (7, 2), (20, 12), (7, 2), (20, 12), (7, 2), (20, 12), (0, 11), (20, 8), (20, 3), (7, 2), (20, 12), (7, 2), (20, 12), (24, 8), (20, 8), (3, 4), (7, 2), (20, 12), (7, 2), (20, 12), (1, 3), (7, 2), (20, 12), (1, 3), (7, 2), (20, 12), (1, 3), (7, 2), (20, 12), (1, 3), (7, 2), (20, 12), (1, 3), (7, 2), (20, 12), (1, 3), (7, 2), (20, 12), (1, 3), (7, 2), (20, 12), (1, 3), (7, 2), (20, 12), (7, 2), (20, 12), (7, 2), (20, 12), (7, 2), (20, 12), (7, 2), (20, 12), (7, 2), (20, 12), (7, 2), (20, 12), (7, 2), (20, 12), (5, 3), (20, 40), (5, 3), (20, 40), (5, 3), (20, 40), (5, 3), (20, 40), (9, 24), (20, 456), (20, 38), (20, 20), (20, 8), (20, 8), (20, 3), (20, 3612), (20, 12), (20, 12), (20, 156), (20, 12), (21, 4096), (20, 12), (20, 4), (20, 4), (20, 160)]
def jrfL : List (List Nat) := [[1, 2, 3, 46, 51, 64, 75, 113], [115, 117, 119, 121, 123, 125], [127, 129, 131, 133], [0, 0, 4, 5], [], [6, 8, 10, 12, 14, 16, 18, 20, 22, 24, 26, 28, 30, 32, 34, 36, 38, 40, 42, 44], [0, 7], [], [0, 9], [], [0, 11], [], [0, 13], [], [0, 15], [], [0, 17], [], [0, 19], [], [0, 21], [], [0, 23], [], [0, 25], [], [0, 27], [], [0, 29], [], [0, 31], [], [0, 33], [], [0, 35], [], [0, 37], [], [0, 39], [], [0, 41], [], [0, 43], [], [0, 45], [], [0, 0, 47, 49], [0, 48], [], [0, 50], [], [0, 52, 53, 54, 55, 56, 57, 58, 59, 60, 62], [], [], [], [], [], [], [], [], [0, 61], [], [0, 63], [], [65, 67, 69, 71, 73], [0, 66], [], [0, 68], [], [0, 70], [], [0, 72], [], [0, 74], [], [0, 0, 0, 0, 76, 77, 78, 80, 82, 83, 84], [], [], [0, 79], [], [0, 81], [], [89, 92, 95, 98, 101, 104, 107, 110], [], [0, 0, 85, 87], [0, 86], [], [0, 88], [], [0, 0, 90], [0, 91], [], [0, 0, 93], [0, 94], [], [0, 0, 96], [0, 97], [], [0, 0, 99], [0, 100], [], [0, 0, 102], [0, 103], [], [0, 0, 105], [0, 106], [], [0, 0, 108], [0, 109], [], [0, 0, 111], [0, 112], [], [0, 114], [], [0, 116], [], [0, 118], [], [0, 120], [], [0, 122], [], [0, 124], [], [0, 126], [], [0, 0, 128], [], [0, 0, 130], [], [0, 0, 132], [], [0, 0, 134], [], [136, 137, 0, 138, 0, 139, 140, 0, 0, 141, 142, 0, 0, 0, 143, 144, 145, 146, 147, 148, 0, 149, 150, 151], [], [], [], [], [], [], [], [], [], [], [], [], [], [], [], []]
def jirL : List (List Bool) := [[false, false, false, false, true, true, true, true, true, true, true], [false, false, true], [false, false, true, true], [false, false, true, true], [false, true, true, true, true, true, true, true, true, true, true], [false, false, true], [true, true, true, true, true], [false, true], [true, true, true, true, true, true, true, true], [true, true, false, true, false, true, true, false, false, true, true, false, false, false, true, true, true, true, true, true, false, true, true, true]]
theorem jin_Chain : ∀ w ∈ u_ws jR_Chain jT_Chain 11, w ∈ jtbl := by
  intro w hw
  obtain ⟨k, hk, rfl⟩ := List.mem_map.mp hw
  have hk := List.mem_range.mp hk
  match k, hk with
  | 0, _ => exact jmem_1 214 (by decide +kernel) rfl
  | 1, _ => exact jmem_1 216 (by decide +kernel) rfl
  | 2, _ => exact jmem_1 218 (by decide +kernel) rfl
  | 3, _ => exact jmem_1 220 (by decide +kernel) rfl
  | 4, _ => exact jmem_1 222 (by decide +kernel) rfl
  | 5, _ => exact jmem_1 224 (by decide +kernel) rfl
  | 6, _ => exact jmem_1 226 (by decide +kernel) rfl
  | 7, _ => exact jmem_1 228 (by decide +kernel) rfl
  | 8, _ => exact jmem_1 230 (by decide +kernel) rfl
  | 9, _ => exact jmem_1 232 (by decide +kernel) rfl
  | 10, _ => exact jmem_1 234 (by decide +kernel) rfl
  | k + 11, hk => exact absurd hk (by omega)
theorem jin_Link : ∀ w ∈ u_ws jR_Link jT_Link 3, w ∈ jtbl := by
  intro w hw
  obtain ⟨k, hk, rfl⟩ := List.mem_map.mp hw
  have hk := List.mem_range.mp hk
  match k, hk with
  | 0, _ => exact jmem_1 189 (by decide +kernel) rfl
  | 1, _ => exact jmem_1 191 (by decide +kernel) rfl
  | 2, _ => exact jmem_1 193 (by decide +kernel) rfl
  | k + 3, hk => exact absurd hk (by omega)
theorem jin_Log : ∀ w ∈ u_ws jR_Log jT_Log 4, w ∈ jtbl := by
  intro w hw
  obtain ⟨k, hk, rfl⟩ := List.mem_map.mp hw
  have hk := List.mem_range.mp hk
  match k, hk with
  | 0, _ => exact jmem_1 60 (by decide +kernel) rfl
  | 1, _ => exact jmem_1 62 (by decide +kernel) rfl
  | 2, _ => exact jmem_1 64 (by decide +kernel) rfl
  | 3, _ => exact jmem_1 66 (by decide +kernel) rfl
  | k + 4, hk => exact absurd hk (by omega)
theorem jin_Powers : ∀ w ∈ u_ws jR_Powers jT_Powers 4, w ∈ jtbl := by
  intro w hw
  obtain ⟨k, hk, rfl⟩ := List.mem_map.mp hw
  have hk := List.mem_range.mp hk
  match k, hk with
  | 0, _ => exact jmem_1 83 (by decide +kernel) rfl
  | 1, _ => exact jmem_1 85 (by decide +kernel) rfl
  | 2, _ => exact jmem_1 87 (by decide +kernel) rfl
  | 3, _ => exact jmem_1 89 (by decide +kernel) rfl
  | k + 4, hk => exact absurd hk (by omega)
theorem jin_Rings : ∀ w ∈ u_ws jR_Rings jT_Rings 11, w ∈ jtbl := by
  intro w hw
  obtain ⟨k, hk, rfl⟩ := List.mem_map.mp hw
  have hk := List.mem_range.mp hk
  match k, hk with
  | 0, _ => exact jmem_1 119 (by decide +kernel) rfl
  | 1, _ => exact jmem_1 121 (by decide +kernel) rfl
  | 2, _ => exact jmem_1 123 (by decide +kernel) rfl
  | 3, _ => exact jmem_1 125 (by decide +kernel) rfl
  | 4, _ => exact jmem_1 127 (by decide +kernel) rfl
  | 5, _ => exact jmem_1 129 (by decide +kernel) rfl
  | 6, _ => exact jmem_1 131 (by decide +kernel) rfl
  | 7, _ => exact jmem_1 133 (by decide +kernel) rfl
  | 8, _ => exact jmem_1 135 (by decide +kernel) rfl
  | 9, _ => exact jmem_1 137 (by decide +kernel) rfl
  | 10, _ => exact jmem_1 139 (by decide +kernel) rfl
  | k + 11, hk => exact absurd hk (by omega)
theorem jin_Sheet : ∀ w ∈ u_ws jR_Sheet jT_Sheet 3, w ∈ jtbl := by
  intro w hw
  obtain ⟨k, hk, rfl⟩ := List.mem_map.mp hw
  have hk := List.mem_range.mp hk
  match k, hk with
  | 0, _ => exact jmem_2 9 (by decide +kernel) rfl
  | 1, _ => exact jmem_2 11 (by decide +kernel) rfl
  | 2, _ => exact jmem_2 13 (by decide +kernel) rfl
  | k + 3, hk => exact absurd hk (by omega)
theorem jin_Spaces : ∀ w ∈ u_ws jR_Spaces jT_Spaces 5, w ∈ jtbl := by
  intro w hw
  obtain ⟨k, hk, rfl⟩ := List.mem_map.mp hw
  have hk := List.mem_range.mp hk
  match k, hk with
  | 0, _ => exact jmem_1 155 (by decide +kernel) rfl
  | 1, _ => exact jmem_1 157 (by decide +kernel) rfl
  | 2, _ => exact jmem_1 159 (by decide +kernel) rfl
  | 3, _ => exact jmem_1 161 (by decide +kernel) rfl
  | 4, _ => exact jmem_1 163 (by decide +kernel) rfl
  | k + 5, hk => exact absurd hk (by omega)
theorem jin_Table : ∀ w ∈ u_ws jR_Table jT_Table 2, w ∈ jtbl := by
  intro w hw
  obtain ⟨k, hk, rfl⟩ := List.mem_map.mp hw
  have hk := List.mem_range.mp hk
  match k, hk with
  | 0, _ => exact jmem_1 49 (by decide +kernel) rfl
  | 1, _ => exact jmem_1 51 (by decide +kernel) rfl
  | k + 2, hk => exact absurd hk (by omega)
theorem jin_Main : ∀ w ∈ u_ws jR_Main jT_Main 8, w ∈ jtbl := by
  intro w hw
  obtain ⟨k, hk, rfl⟩ := List.mem_map.mp hw
  have hk := List.mem_range.mp hk
  match k, hk with
  | 0, _ => exact jmem_2 24 (by decide +kernel) rfl
  | 1, _ => exact jmem_2 26 (by decide +kernel) rfl
  | 2, _ => exact jmem_2 28 (by decide +kernel) rfl
  | 3, _ => exact jmem_2 30 (by decide +kernel) rfl
  | 4, _ => exact jmem_2 32 (by decide +kernel) rfl
  | 5, _ => exact jmem_2 34 (by decide +kernel) rfl
  | 6, _ => exact jmem_2 36 (by decide +kernel) rfl
  | 7, _ => exact jmem_2 38 (by decide +kernel) rfl
  | k + 8, hk => exact absurd hk (by omega)
theorem jin_Model : ∀ w ∈ u_ws jR_Model jT_Model 24, w ∈ jtbl := by
  intro w hw
  obtain ⟨k, hk, rfl⟩ := List.mem_map.mp hw
  have hk := List.mem_range.mp hk
  match k, hk with
  | 0, _ => exact jmem_4 117 (by decide +kernel) rfl
  | 1, _ => exact jmem_4 119 (by decide +kernel) rfl
  | 2, _ => exact jmem_4 121 (by decide +kernel) rfl
  | 3, _ => exact jmem_4 123 (by decide +kernel) rfl
  | 4, _ => exact jmem_4 125 (by decide +kernel) rfl
  | 5, _ => exact jmem_4 127 (by decide +kernel) rfl
  | 6, _ => exact jmem_4 129 (by decide +kernel) rfl
  | 7, _ => exact jmem_4 131 (by decide +kernel) rfl
  | 8, _ => exact jmem_4 133 (by decide +kernel) rfl
  | 9, _ => exact jmem_4 135 (by decide +kernel) rfl
  | 10, _ => exact jmem_4 137 (by decide +kernel) rfl
  | 11, _ => exact jmem_4 139 (by decide +kernel) rfl
  | 12, _ => exact jmem_4 141 (by decide +kernel) rfl
  | 13, _ => exact jmem_4 143 (by decide +kernel) rfl
  | 14, _ => exact jmem_4 145 (by decide +kernel) rfl
  | 15, _ => exact jmem_4 147 (by decide +kernel) rfl
  | 16, _ => exact jmem_4 149 (by decide +kernel) rfl
  | 17, _ => exact jmem_4 151 (by decide +kernel) rfl
  | 18, _ => exact jmem_4 153 (by decide +kernel) rfl
  | 19, _ => exact jmem_4 155 (by decide +kernel) rfl
  | 20, _ => exact jmem_4 157 (by decide +kernel) rfl
  | 21, _ => exact jmem_4 159 (by decide +kernel) rfl
  | 22, _ => exact jmem_4 161 (by decide +kernel) rfl
  | 23, _ => exact jmem_4 163 (by decide +kernel) rfl
  | k + 24, hk => exact absurd hk (by omega)
abbrev jH : Type := Nat → Nat → Int32
abbrev jN : Type := va_G × (Nat → ClassId) × Nat × Nat × Nat × Nat × (Nat → Int32)
def jB (n : jN) : Nat := n.2.2.1
def jb (n : jN) : Nat := n.2.2.2.1
def js (n : jN) : Nat := n.2.2.2.2.1
def jl (n : jN) : Nat := n.2.2.2.2.2.1
def jx (n : jN) : Nat → Int32 := n.2.2.2.2.2.2
def jsh (a : Nat) : Nat × Nat := jshL.getD a (99, 0)
def jrf (a k : Nat) : Nat := (jrfL.getD a []).getD k 0
def jir (ci k : Nat) : Bool := (jirL.getD ci []).getD k false
def jad (n : jN) (a : Nat) : Nat := if a < 152 then jB n + a else if a = 152 then jb n else js n
def jup (n : jN) (v : Value) : Value := match v with
  | .ref a => .ref (jad n a)
  | v => v
def jtys (n : jN) : List (ClassId × FieldType) := [(n.2.1 20, .int), (n.2.1 21, .boolean), (n.2.1 22, .object "YesNoPowers$Table"), (n.2.1 23, .object "YesNoPowers$Sheet"), (n.2.1 24, .object "YesNoPowers$Link")]
def jE (n : jN) (h : jH) (a : Nat) : va_E :=
  if (jsh a).1 < 20 then .inr ((jsh a).1, (List.range (jsh a).2).map (fun k => if jir (jsh a).1 k then .ref (jB n + jrf a k) else .int (h a k)))
  else .inl (n.2.1 (jsh a).1, (jsh a).2, if (jsh a).1 < 22 then .inl (h a) else .inr (.inr (.inr (.inr (fun k => some (jB n + jrf a k))))))
def jws (n : jN) (h : jH) : va_W := (List.range 152).map (fun a => (jB n + a, jE n h a))
def jA (n : jN) : Nat → Prop := fun q => jB n ≤ q
def jrow : Nat → Value := fun j => .int (([0, 1, 5, 73, 4369] : List Int32).getD j 0)
def jst (n : jN) (U : State) (H : Heap) : Prop := va_Z "YesNoPowers$Roots" "ROW_STARTS" "[I" (.ref (js n)) (jA n) U H ∧ va_T .int (js n) 5 jrow (jA n) U H ∧ va_X (jb n) (jl n) (jx n) U H ∧ jb n < jB n
def jBf (n : jN) (h : jH) (U : State) : Prop := va_P n.1 jcl (jws n h) U.heap ∧ va_K n.1 jcl (jtys n) U ∧ jst n U U.heap
def jQ (n : jN) (r : Option Value) (h' : jH) : Array Value → State → Outcome → State → Prop := fun _ st o t => o = .returned (r.map (jup n)) ∧ va_P n.1 jcl (jws n h') t.heap ∧ va_F (jA n) st t
def jwy (y : MethodName) (cc : ByteArray) (nL : Nat) (ret : Option FieldType) : List Cond := Cond.code y cc nL ret :: jtbl
def jRm (d : Nat) : Room := { frames := d + 1, cells := 0, slots := 0, locals := 64 * (d + 1) }
/-- a method's contract: from heap h it answers r and leaves h' -/
def jC (n : jN) (d : Nat) (y : MethodName) (cc : ByteArray) (nL : Nat) (ret : Option FieldType) (args : List Value) (h : jH) (r : Option Value) (h' : jH) : Prop :=
  ∀ (l : Launch), Met l y (jwy y cc nL ret) (jRm d) (va_Pc (args.map (jup n)) (jBf n h)) (jQ n r h') 0 0 (jA n)
def jlh (n : jN) (ls : Array Slot) (nL : Nat) (L : List (Option Value)) : Prop := ls.size = nL ∧ lv_wf ls ∧ ∀ (i : Nat) (v : Value), L[i]? = some (some v) → ls[i]? = some (.val (jup n v))
def jri (r : Option Value) : Instr := match r with
  | none => .return_
  | some (.int _) => .ireturn
  | some (.long _) => .lreturn
  | some (.float _) => .freturn
  | some (.double _) => .dreturn
  | _ => .areturn
def jX (n : jN) (d : Nat) (cc : ByteArray) (nL : Nat) (own : String) (p : Program) (R : Room) (s : State) (m : MethodId) (args : Array Value) (c : Code) (cells slots : Nat) : Prop :=
  p.tables.exec = Jvm.exec ∧ c.code = cc ∧ c.maxLocals = nL ∧ s.vm.findClass own = some m.cls ∧ (∀ w ∈ jtbl, w.before args s = true) ∧ va_K n.1 jcl (jtys n) s ∧ jst n s s.heap ∧ d + 1 ≤ R.frames ∧ 64 * (d + 1) ≤ R.locals ∧ cells ≤ R.cells ∧ slots ≤ R.slots
/-- from pc with locals L, stack st and heap h the method comes to its end with res -/
def jJ (n : jN) (d : Nat) (cc : ByteArray) (nL : Nat) (own : String) (pc : Nat) (L : List (Option Value)) (st : List Value) (h : jH) (res : Option Value × jH) : Prop :=
  ∀ (p : Program) (l : Launch) (e : Env) (R : Room) (s : State) (m : MethodId) (args : Array Value) (below : List Frame) (meth : Method) (c : Code) (cells slots : Nat) (Q : State → Prop),
    jX n d cc nL own p R s m args c cells slots →
    (∀ (pcR : Nat) (lsR : Array Slot) (H' : Heap) (locs' : List Loc), decode cc pcR = .ok (jri res.1, 1) → va_P n.1 jcl (jws n res.2) H' → va_S (jA n) s.heap H' locs' → W p l e R s m args below meth c H' locs' cells slots Q (F0 m pcR lsR (res.1.map (jup n)).toList)) →
    ∀ (ls : Array Slot) (H : Heap) (locs : List Loc), jlh n ls nL L → va_P n.1 jcl (jws n h) H → va_S (jA n) s.heap H locs → W p l e R s m args below meth c H locs cells slots Q (F0 m pc ls (st.map (jup n)))
theorem jws_at {n : jN} {h : jH} {a : Nat} (ha : a < 152) : (jws n h)[a]? = some (jB n + a, jE n h a) := by
  simp [jws, ha]
theorem jws_len (n : jN) (h : jH) : (jws n h).length = 152 := by simp [jws]
theorem jsh_lt {a k c : Nat} (h : jsh a = (k, c)) (hk : k < 99) : a < 152 := by
  rcases Nat.lt_or_ge a 152 with q | q
  · exact q
  · have : jshL.length = 152 := rfl
    have e : jsh a = (99, 0) := by
      unfold jsh
      rw [List.getD_eq_getElem?_getD, List.getElem?_eq_none (by omega)]
      rfl
    rw [e] at h
    cases h
    omega
theorem jad_lt (n : jN) {a : Nat} (h : a < 152) : jad n a = jB n + a := if_pos h
theorem jD (n : jN) (h : jH) : va_D (jA n) (jws n h) := by
  refine ⟨fun i j p q hp hq e => ?_, fun k q hq => ?_⟩
  · have hi : i < 152 := by have := (List.getElem?_eq_some_iff.mp hp).1; rwa [jws_len] at this
    have hj : j < 152 := by have := (List.getElem?_eq_some_iff.mp hq).1; rwa [jws_len] at this
    rw [jws_at hi] at hp
    rw [jws_at hj] at hq
    cases hp
    cases hq
    simp only at e
    omega
  · have hk : k < 152 := by have := (List.getElem?_eq_some_iff.mp hq).1; rwa [jws_len] at this
    rw [jws_at hk] at hq
    cases hq
    simp [jA]
/-- one entry becomes v -/
def jup2 (h : jH) (a k : Nat) (v : Int32) : jH := fun a' k' => if a' = a then (if k' = k then v else h a' k') else h a' k'
theorem jws_set {n : jN} {h : jH} {a k : Nat} {v : Int32} {x : Nat × va_E} (ha : a < 152) (hx : x = (jB n + a, jE n (jup2 h a k v) a)) : (jws n h).set a x = jws n (jup2 h a k v) := by
  subst hx
  apply List.ext_getElem?
  intro i
  rw [List.getElem?_set]
  rcases Nat.lt_or_ge i 152 with hi | hi
  · rw [jws_at hi]
    by_cases e : a = i
    · subst e
      rw [if_pos rfl, if_pos (by rw [jws_len]; exact hi)]
      exact (jws_at hi).symm
    · rw [if_neg e, jws_at hi]
      have : ∀ j, jup2 h a k v i j = h i j := fun j => by simp [jup2, Ne.symm e]
      have e2 : jup2 h a k v i = h i := funext this
      simp only [jE, this, e2]
  · rw [if_neg (by omega), List.getElem?_eq_none (by rw [jws_len]; omega), List.getElem?_eq_none (by rw [jws_len]; omega)]
section
variable {n : jN} {d : Nat} {cc : ByteArray} {nL : Nat} {own : String} {pc : Nat} {L L' : List (Option Value)} {st : List Value} {h : jH} {res : Option Value × jH}
theorem j_iconst {v : Int32} {i : Int} (hdg : decode cc pc = .ok (.iconst i, 1)) (hv : Int32.ofInt i = v) (k : jJ n d cc nL own (pc + 1) L (.int v :: st) h res) : jJ n d cc nL own pc L st h res :=
  fun p l e R s m args below meth c cells slots Q X hr ls H locs hl hP hS => lv_iconst X.1 X.2.1 hdg hv (k p l e R s m args below meth c cells slots Q X hr ls H locs hl hP hS)
theorem j_bipush {v : Int32} {i : Int} (hdg : decode cc pc = .ok (.bipush i, 2)) (hv : (Int8.ofInt i).toInt32 = v) (k : jJ n d cc nL own (pc + 2) L (.int v :: st) h res) : jJ n d cc nL own pc L st h res :=
  fun p l e R s m args below meth c cells slots Q X hr ls H locs hl hP hS => lv_bipush X.1 X.2.1 hdg hv (k p l e R s m args below meth c cells slots Q X hr ls H locs hl hP hS)
theorem j_sipush {v : Int32} {i : Int} (hdg : decode cc pc = .ok (.sipush i, 3)) (hv : (Int16.ofInt i).toInt32 = v) (k : jJ n d cc nL own (pc + 3) L (.int v :: st) h res) : jJ n d cc nL own pc L st h res :=
  fun p l e R s m args below meth c cells slots Q X hr ls H locs hl hP hS => lv_sipush X.1 X.2.1 hdg hv (k p l e R s m args below meth c cells slots Q X hr ls H locs hl hP hS)
theorem j_lconst {v : Int64} {i : Fin 2} (hdg : decode cc pc = .ok (.lconst i, 1)) (hv : Int64.ofNat (i : Nat) = v) (k : jJ n d cc nL own (pc + 1) L (.long v :: st) h res) : jJ n d cc nL own pc L st h res :=
  fun p l e R s m args below meth c cells slots Q X hr ls H locs hl hP hS => lv_lconst X.1 X.2.1 hdg hv (k p l e R s m args below meth c cells slots Q X hr ls H locs hl hP hS)
theorem j_ldc {v : Int32} {i : Nat} (hdg : decode cc pc = .ok (.ldc i, 2)) (hw : Cond.constant own i v ∈ jtbl) (k : jJ n d cc nL own (pc + 2) L (.int v :: st) h res) : jJ n d cc nL own pc L st h res :=
  fun p l e R s m args below meth c cells slots Q X hr ls H locs hl hP hS => lv_ldc X.1 X.2.1 X.2.2.2.1 (X.2.2.2.2.1 _ hw) hdg (k p l e R s m args below meth c cells slots Q X hr ls H locs hl hP hS)
theorem j_ldcw {v : Int32} {i : Nat} (hdg : decode cc pc = .ok (.ldc_w i, 3)) (hw : Cond.constant own i v ∈ jtbl) (k : jJ n d cc nL own (pc + 3) L (.int v :: st) h res) : jJ n d cc nL own pc L st h res :=
  fun p l e R s m args below meth c cells slots Q X hr ls H locs hl hP hS => lv_ldcw X.1 X.2.1 X.2.2.2.1 (X.2.2.2.2.1 _ hw) hdg (k p l e R s m args below meth c cells slots Q X hr ls H locs hl hP hS)
theorem j_ldc2 {v : Int64} {i : Nat} (hdg : decode cc pc = .ok (.ldc2_w i, 3)) (hw : Cond.constantLong own i v ∈ jtbl) (k : jJ n d cc nL own (pc + 3) L (.long v :: st) h res) : jJ n d cc nL own pc L st h res :=
  fun p l e R s m args below meth c cells slots Q X hr ls H locs hl hP hS => lv_ldc2 X.1 X.2.1 X.2.2.2.1 (X.2.2.2.2.1 _ hw) hdg (k p l e R s m args below meth c cells slots Q X hr ls H locs hl hP hS)
theorem j_iload_n {x : Int32} {i : Fin 4} (hdg : decode cc pc = .ok (.iload_n i, 1)) (hL : L[(i : Nat)]? = some (some (.int x))) (k : jJ n d cc nL own (pc + 1) L (.int x :: st) h res) : jJ n d cc nL own pc L st h res :=
  fun p l e R s m args below meth c cells slots Q X hr ls H locs hl hP hS => lv_iload_n X.1 X.2.1 hdg rfl (hl.2.2 _ _ hL) (k p l e R s m args below meth c cells slots Q X hr ls H locs hl hP hS)
theorem j_iload {x : Int32} {i : Nat} (hdg : decode cc pc = .ok (.iload i, 2)) (hL : L[i]? = some (some (.int x))) (k : jJ n d cc nL own (pc + 2) L (.int x :: st) h res) : jJ n d cc nL own pc L st h res :=
  fun p l e R s m args below meth c cells slots Q X hr ls H locs hl hP hS => lv_iload X.1 X.2.1 hdg (hl.2.2 _ _ hL) (k p l e R s m args below meth c cells slots Q X hr ls H locs hl hP hS)
theorem j_lload_n {x : Int64} {i : Fin 4} (hdg : decode cc pc = .ok (.lload_n i, 1)) (hL : L[(i : Nat)]? = some (some (.long x))) (k : jJ n d cc nL own (pc + 1) L (.long x :: st) h res) : jJ n d cc nL own pc L st h res :=
  fun p l e R s m args below meth c cells slots Q X hr ls H locs hl hP hS => lv_lload_n X.1 X.2.1 hdg rfl (hl.2.2 _ _ hL) (k p l e R s m args below meth c cells slots Q X hr ls H locs hl hP hS)
theorem j_lload {x : Int64} {i : Nat} (hdg : decode cc pc = .ok (.lload i, 2)) (hL : L[i]? = some (some (.long x))) (k : jJ n d cc nL own (pc + 2) L (.long x :: st) h res) : jJ n d cc nL own pc L st h res :=
  fun p l e R s m args below meth c cells slots Q X hr ls H locs hl hP hS => lv_lload X.1 X.2.1 hdg (hl.2.2 _ _ hL) (k p l e R s m args below meth c cells slots Q X hr ls H locs hl hP hS)
theorem j_aload_n {x : Nat} {i : Fin 4} (hdg : decode cc pc = .ok (.aload_n i, 1)) (hL : L[(i : Nat)]? = some (some (.ref x))) (k : jJ n d cc nL own (pc + 1) L (.ref x :: st) h res) : jJ n d cc nL own pc L st h res :=
  fun p l e R s m args below meth c cells slots Q X hr ls H locs hl hP hS => lv_aload_n X.1 X.2.1 hdg rfl (hl.2.2 _ _ hL) (k p l e R s m args below meth c cells slots Q X hr ls H locs hl hP hS)
theorem j_aload {x : Nat} {i : Nat} (hdg : decode cc pc = .ok (.aload i, 2)) (hL : L[i]? = some (some (.ref x))) (k : jJ n d cc nL own (pc + 2) L (.ref x :: st) h res) : jJ n d cc nL own pc L st h res :=
  fun p l e R s m args below meth c cells slots Q X hr ls H locs hl hP hS => lv_aload X.1 X.2.1 hdg (hl.2.2 _ _ hL) (k p l e R s m args below meth c cells slots Q X hr ls H locs hl hP hS)
def jas (n : jN) (L : List (Option Value)) : List (Nat × Value) := (List.range L.length).filterMap (fun i => match L[i]? with
  | some (some v) => some (i, jup n v)
  | _ => none)
theorem jas_mem {i : Nat} {v : Value} (hL : L[i]? = some (some v)) : (i, jup n v) ∈ jas n L := by
  refine List.mem_filterMap.mpr ⟨i, List.mem_range.mpr (List.getElem?_eq_some_iff.mp hL).1, ?_⟩
  rw [hL]
theorem jas_has {ls : Array Slot} (hl : jlh n ls nL L) : lv_has ls nL (jas n L) := by
  refine ⟨hl.1, hl.2.1, fun q hq => ?_⟩
  obtain ⟨i, -, h2⟩ := List.mem_filterMap.mp hq
  split at h2
  · rename_i v hv
    cases h2
    exact hl.2.2 i v hv
  · cases h2
/-- the place before i holds nothing of two slots -/
def jok (L : List (Option Value)) (i : Nat) : Bool := match i with
  | 0 => true
  | k + 1 => match L[k]? with
    | some (some (.long _)) => false
    | some (some (.double _)) => false
    | _ => true
theorem jcat (n : jN) (v : Value) : (jup n v).category = v.category := by cases v <;> rfl
theorem jlh_set {ls ls' : Array Slot} {i : Nat} {x : Value} (hl : jlh n ls nL L) (hok : jok L i = true) (h' : lv_has ls' nL ((i, jup n x) :: (jas n L).filter (fun q => !(q.1 == i) && !(q.1 + 1 == i && q.2.category == 2)))) : jlh n ls' nL (L.set i (some x)) := by
  refine ⟨h'.1, h'.2.1, fun j v hj => ?_⟩
  rw [List.getElem?_set] at hj
  by_cases e : i = j
  · subst e
    split at hj
    · split at hj
      · cases hj
        exact h'.2.2 (i, jup n x) List.mem_cons_self
      · cases hj
    · exact absurd rfl (by assumption)
  · rw [if_neg e] at hj
    refine h'.2.2 (j, jup n v) (List.mem_cons_of_mem _ (List.mem_filter.mpr ⟨jas_mem hj, ?_⟩))
    have e1 : (j == i) = false := by simp [Ne.symm e]
    by_cases e2 : j + 1 = i
    · subst e2
      simp only [jok, hj] at hok
      rw [e1, jcat]
      cases v <;> simp_all [Value.category]
    · simp [e1, e2]
theorem j_istore_n {x : Int32} {i : Fin 4} (hdg : decode cc pc = .ok (.istore_n i, 1)) (hn : (i : Nat) < nL) (hL : L.set i (some (.int x)) = L') (hok : jok L i = true) (k : jJ n d cc nL own (pc + 1) L' st h res) : jJ n d cc nL own pc L (.int x :: st) h res :=
  fun p l e R s m args below meth c cells slots Q X hr ls H locs hl hP hS => lv_istore_n X.1 X.2.1 hdg rfl (jas_has hl) hn rfl (fun ls' h' => k p l e R s m args below meth c cells slots Q X hr ls' H locs (hL ▸ jlh_set (x := .int x) hl hok h') hP hS)
theorem j_istore {x : Int32} {i : Nat} (hdg : decode cc pc = .ok (.istore i, 2)) (hn : i < nL) (hL : L.set i (some (.int x)) = L') (hok : jok L i = true) (k : jJ n d cc nL own (pc + 2) L' st h res) : jJ n d cc nL own pc L (.int x :: st) h res :=
  fun p l e R s m args below meth c cells slots Q X hr ls H locs hl hP hS => lv_istore X.1 X.2.1 hdg (jas_has hl) hn rfl (fun ls' h' => k p l e R s m args below meth c cells slots Q X hr ls' H locs (hL ▸ jlh_set (x := .int x) hl hok h') hP hS)
theorem j_astore_n {x : Nat} {i : Fin 4} (hdg : decode cc pc = .ok (.astore_n i, 1)) (hn : (i : Nat) < nL) (hL : L.set i (some (.ref x)) = L') (hok : jok L i = true) (k : jJ n d cc nL own (pc + 1) L' st h res) : jJ n d cc nL own pc L (.ref x :: st) h res :=
  fun p l e R s m args below meth c cells slots Q X hr ls H locs hl hP hS => lv_astore_n X.1 X.2.1 hdg rfl (jas_has hl) hn rfl (fun ls' h' => k p l e R s m args below meth c cells slots Q X hr ls' H locs (hL ▸ jlh_set (x := .ref x) hl hok h') hP hS)
theorem j_astore {x : Nat} {i : Nat} (hdg : decode cc pc = .ok (.astore i, 2)) (hn : i < nL) (hL : L.set i (some (.ref x)) = L') (hok : jok L i = true) (k : jJ n d cc nL own (pc + 2) L' st h res) : jJ n d cc nL own pc L (.ref x :: st) h res :=
  fun p l e R s m args below meth c cells slots Q X hr ls H locs hl hP hS => lv_astore X.1 X.2.1 hdg (jas_has hl) hn rfl (fun ls' h' => k p l e R s m args below meth c cells slots Q X hr ls' H locs (hL ▸ jlh_set (x := .ref x) hl hok h') hP hS)
theorem j_iinc {x v : Int32} {i : Nat} {z : Int} (hdg : decode cc pc = .ok (.iinc i z, 3)) (hx : L[i]? = some (some (.int x))) (hv : x + Int32.ofInt z = v) (hn : i < nL) (hL : L.set i (some (.int v)) = L') (hok : jok L i = true) (k : jJ n d cc nL own (pc + 3) L' st h res) : jJ n d cc nL own pc L st h res :=
  fun p l e R s m args below meth c cells slots Q X hr ls H locs hl hP hS => by
    obtain ⟨q, hq⟩ := List.getElem?_of_mem (jas_mem (n := n) hx)
    exact lv_iinc X.1 X.2.1 hdg (jas_has hl) hq hv hn rfl (fun ls' h' => k p l e R s m args below meth c cells slots Q X hr ls' H locs (hL ▸ jlh_set (x := .int v) hl hok h') hP hS)
theorem j_iadd {x y : Int32} (hdg : decode cc pc = .ok (.iadd, 1)) (k : jJ n d cc nL own (pc + 1) L (.int (x + y) :: st) h res) : jJ n d cc nL own pc L (.int y :: .int x :: st) h res :=
  fun p l e R s m args below meth c cells slots Q X hr ls H locs hl hP hS => lv_iadd X.1 X.2.1 hdg (k p l e R s m args below meth c cells slots Q X hr ls H locs hl hP hS)
theorem j_isub {x y : Int32} (hdg : decode cc pc = .ok (.isub, 1)) (k : jJ n d cc nL own (pc + 1) L (.int (x - y) :: st) h res) : jJ n d cc nL own pc L (.int y :: .int x :: st) h res :=
  fun p l e R s m args below meth c cells slots Q X hr ls H locs hl hP hS => lv_isub X.1 X.2.1 hdg (k p l e R s m args below meth c cells slots Q X hr ls H locs hl hP hS)
theorem j_imul {x y : Int32} (hdg : decode cc pc = .ok (.imul, 1)) (k : jJ n d cc nL own (pc + 1) L (.int (x * y) :: st) h res) : jJ n d cc nL own pc L (.int y :: .int x :: st) h res :=
  fun p l e R s m args below meth c cells slots Q X hr ls H locs hl hP hS => lv_imul X.1 X.2.1 hdg (k p l e R s m args below meth c cells slots Q X hr ls H locs hl hP hS)
theorem j_iand {x y : Int32} (hdg : decode cc pc = .ok (.iand, 1)) (k : jJ n d cc nL own (pc + 1) L (.int (x &&& y) :: st) h res) : jJ n d cc nL own pc L (.int y :: .int x :: st) h res :=
  fun p l e R s m args below meth c cells slots Q X hr ls H locs hl hP hS => lv_iand X.1 X.2.1 hdg (k p l e R s m args below meth c cells slots Q X hr ls H locs hl hP hS)
theorem j_ior {x y : Int32} (hdg : decode cc pc = .ok (.ior, 1)) (k : jJ n d cc nL own (pc + 1) L (.int (x ||| y) :: st) h res) : jJ n d cc nL own pc L (.int y :: .int x :: st) h res :=
  fun p l e R s m args below meth c cells slots Q X hr ls H locs hl hP hS => lv_ior X.1 X.2.1 hdg (k p l e R s m args below meth c cells slots Q X hr ls H locs hl hP hS)
theorem j_ixor {x y : Int32} (hdg : decode cc pc = .ok (.ixor, 1)) (k : jJ n d cc nL own (pc + 1) L (.int (x ^^^ y) :: st) h res) : jJ n d cc nL own pc L (.int y :: .int x :: st) h res :=
  fun p l e R s m args below meth c cells slots Q X hr ls H locs hl hP hS => lv_ixor X.1 X.2.1 hdg (k p l e R s m args below meth c cells slots Q X hr ls H locs hl hP hS)
theorem j_ishl {x y : Int32} (hdg : decode cc pc = .ok (.ishl, 1)) (k : jJ n d cc nL own (pc + 1) L (.int (x <<< (y &&& 31)) :: st) h res) : jJ n d cc nL own pc L (.int y :: .int x :: st) h res :=
  fun p l e R s m args below meth c cells slots Q X hr ls H locs hl hP hS => lv_ishl X.1 X.2.1 hdg (k p l e R s m args below meth c cells slots Q X hr ls H locs hl hP hS)
theorem j_ishr {x y : Int32} (hdg : decode cc pc = .ok (.ishr, 1)) (k : jJ n d cc nL own (pc + 1) L (.int (x >>> (y &&& 31)) :: st) h res) : jJ n d cc nL own pc L (.int y :: .int x :: st) h res :=
  fun p l e R s m args below meth c cells slots Q X hr ls H locs hl hP hS => lv_ishr X.1 X.2.1 hdg (k p l e R s m args below meth c cells slots Q X hr ls H locs hl hP hS)
theorem j_iushr {x y v : Int32} (hdg : decode cc pc = .ok (.iushr, 1)) (hv : (x.toUInt32 >>> (y.toUInt32 &&& Int32.toUInt32 31)).toInt32 = v) (k : jJ n d cc nL own (pc + 1) L (.int v :: st) h res) : jJ n d cc nL own pc L (.int y :: .int x :: st) h res :=
  fun p l e R s m args below meth c cells slots Q X hr ls H locs hl hP hS => lv_iushr X.1 X.2.1 hdg hv (k p l e R s m args below meth c cells slots Q X hr ls H locs hl hP hS)
theorem j_idiv {x y : Int32} (hdg : decode cc pc = .ok (.idiv, 1)) (hne : ¬ y = 0) (k : jJ n d cc nL own (pc + 1) L (.int (x / y) :: st) h res) : jJ n d cc nL own pc L (.int y :: .int x :: st) h res :=
  fun p l e R s m args below meth c cells slots Q X hr ls H locs hl hP hS => lv_idiv X.1 X.2.1 hdg hne (k p l e R s m args below meth c cells slots Q X hr ls H locs hl hP hS)
theorem j_irem {x y : Int32} (hdg : decode cc pc = .ok (.irem, 1)) (hne : ¬ y = 0) (k : jJ n d cc nL own (pc + 1) L (.int (x - x / y * y) :: st) h res) : jJ n d cc nL own pc L (.int y :: .int x :: st) h res :=
  fun p l e R s m args below meth c cells slots Q X hr ls H locs hl hP hS => lv_irem X.1 X.2.1 hdg hne (k p l e R s m args below meth c cells slots Q X hr ls H locs hl hP hS)
theorem j_ineg {x : Int32} (hdg : decode cc pc = .ok (.ineg, 1)) (k : jJ n d cc nL own (pc + 1) L (.int (-x) :: st) h res) : jJ n d cc nL own pc L (.int x :: st) h res :=
  fun p l e R s m args below meth c cells slots Q X hr ls H locs hl hP hS => lv_ineg X.1 X.2.1 hdg (k p l e R s m args below meth c cells slots Q X hr ls H locs hl hP hS)
theorem j_i2l {x : Int32} (hdg : decode cc pc = .ok (.i2l, 1)) (k : jJ n d cc nL own (pc + 1) L (.long x.toInt64 :: st) h res) : jJ n d cc nL own pc L (.int x :: st) h res :=
  fun p l e R s m args below meth c cells slots Q X hr ls H locs hl hP hS => lv_i2l X.1 X.2.1 hdg rfl (k p l e R s m args below meth c cells slots Q X hr ls H locs hl hP hS)
theorem j_i2b {x : Int32} (hdg : decode cc pc = .ok (.i2b, 1)) (k : jJ n d cc nL own (pc + 1) L (.int x.toInt8.toInt32 :: st) h res) : jJ n d cc nL own pc L (.int x :: st) h res :=
  fun p l e R s m args below meth c cells slots Q X hr ls H locs hl hP hS => lv_i2b X.1 X.2.1 hdg rfl (k p l e R s m args below meth c cells slots Q X hr ls H locs hl hP hS)
theorem j_lcmp {x y : Int64} (hdg : decode cc pc = .ok (.lcmp, 1)) (k : jJ n d cc nL own (pc + 1) L (.int (lg_cmp x y) :: st) h res) : jJ n d cc nL own pc L (.long y :: .long x :: st) h res :=
  fun p l e R s m args below meth c cells slots Q X hr ls H locs hl hP hS => W.lcmp X.1 X.2.1 hdg (k p l e R s m args below meth c cells slots Q X hr ls H locs hl hP hS)
theorem j_dup {v : Value} (hdg : decode cc pc = .ok (.dup, 1)) (hv : v.category = 1) (k : jJ n d cc nL own (pc + 1) L (v :: v :: st) h res) : jJ n d cc nL own pc L (v :: st) h res :=
  fun p l e R s m args below meth c cells slots Q X hr ls H locs hl hP hS => lv_dup X.1 X.2.1 hdg (by rw [jcat]; exact hv) (k p l e R s m args below meth c cells slots Q X hr ls H locs hl hP hS)
theorem j_pop {v : Value} (hdg : decode cc pc = .ok (.pop, 1)) (hv : v.category = 1) (k : jJ n d cc nL own (pc + 1) L st h res) : jJ n d cc nL own pc L (v :: st) h res :=
  fun p l e R s m args below meth c cells slots Q X hr ls H locs hl hP hS => lv_pop X.1 X.2.1 hdg (by rw [jcat]; exact hv) (k p l e R s m args below meth c cells slots Q X hr ls H locs hl hP hS)
theorem j_dup2 {v w : Value} (hdg : decode cc pc = .ok (.dup2, 1)) (hv : v.category = 1) (hw : w.category = 1) (k : jJ n d cc nL own (pc + 1) L (v :: w :: v :: w :: st) h res) : jJ n d cc nL own pc L (v :: w :: st) h res :=
  fun p l e R s m args below meth c cells slots Q X hr ls H locs hl hP hS => lv_dup2_11 X.1 X.2.1 hdg (by rw [jcat]; exact hv) (by rw [jcat]; exact hw) (k p l e R s m args below meth c cells slots Q X hr ls H locs hl hP hS)
theorem j_goto {off : Int} {tgt : Nat} (hdg : decode cc pc = .ok (.goto off, 3)) (ht : (pc : Int) + off = (tgt : Int)) (k : jJ n d cc nL own tgt L st h res) : jJ n d cc nL own pc L st h res :=
  fun p l e R s m args below meth c cells slots Q X hr ls H locs hl hP hS => lv_goto X.1 X.2.1 hdg ht (k p l e R s m args below meth c cells slots Q X hr ls H locs hl hP hS)
theorem j_if_eq {x : Int32} {off : Int} {tgt : Nat} (hdg : decode cc pc = .ok (.ifCond .eq off, 3)) (ht : (pc : Int) + off = (tgt : Int)) (kt : x = 0 → jJ n d cc nL own tgt L st h res) (kf : ¬ x = 0 → jJ n d cc nL own (pc + 3) L st h res) : jJ n d cc nL own pc L (.int x :: st) h res :=
  fun p l e R s m args below meth c cells slots Q X hr ls H locs hl hP hS => lv_if_eq X.1 X.2.1 hdg ht (fun q => kt q p l e R s m args below meth c cells slots Q X hr ls H locs hl hP hS) (fun q => kf q p l e R s m args below meth c cells slots Q X hr ls H locs hl hP hS)
theorem j_if_eq_t {x : Int32} {off : Int} {tgt : Nat} (hdg : decode cc pc = .ok (.ifCond .eq off, 3)) (ht : (pc : Int) + off = (tgt : Int)) (q : x = 0) (k : jJ n d cc nL own tgt L st h res) : jJ n d cc nL own pc L (.int x :: st) h res := j_if_eq hdg ht (fun _ => k) (fun z => absurd q (by first | exact z | exact fun w => w z))
theorem j_if_eq_f {x : Int32} {off : Int} {tgt : Nat} (hdg : decode cc pc = .ok (.ifCond .eq off, 3)) (ht : (pc : Int) + off = (tgt : Int)) (q : ¬ x = 0) (k : jJ n d cc nL own (pc + 3) L st h res) : jJ n d cc nL own pc L (.int x :: st) h res := j_if_eq hdg ht (fun z => absurd z (by first | exact q | exact fun w => w q)) (fun _ => k)
theorem j_if_ne {x : Int32} {off : Int} {tgt : Nat} (hdg : decode cc pc = .ok (.ifCond .ne off, 3)) (ht : (pc : Int) + off = (tgt : Int)) (kt : ¬ x = 0 → jJ n d cc nL own tgt L st h res) (kf : x = 0 → jJ n d cc nL own (pc + 3) L st h res) : jJ n d cc nL own pc L (.int x :: st) h res :=
  fun p l e R s m args below meth c cells slots Q X hr ls H locs hl hP hS => lv_if_ne X.1 X.2.1 hdg ht (fun q => kt q p l e R s m args below meth c cells slots Q X hr ls H locs hl hP hS) (fun q => kf q p l e R s m args below meth c cells slots Q X hr ls H locs hl hP hS)
theorem j_if_ne_t {x : Int32} {off : Int} {tgt : Nat} (hdg : decode cc pc = .ok (.ifCond .ne off, 3)) (ht : (pc : Int) + off = (tgt : Int)) (q : ¬ x = 0) (k : jJ n d cc nL own tgt L st h res) : jJ n d cc nL own pc L (.int x :: st) h res := j_if_ne hdg ht (fun _ => k) (fun z => absurd q (by first | exact z | exact fun w => w z))
theorem j_if_ne_f {x : Int32} {off : Int} {tgt : Nat} (hdg : decode cc pc = .ok (.ifCond .ne off, 3)) (ht : (pc : Int) + off = (tgt : Int)) (q : x = 0) (k : jJ n d cc nL own (pc + 3) L st h res) : jJ n d cc nL own pc L (.int x :: st) h res := j_if_ne hdg ht (fun z => absurd z (by first | exact q | exact fun w => w q)) (fun _ => k)
theorem j_if_lt {x : Int32} {off : Int} {tgt : Nat} (hdg : decode cc pc = .ok (.ifCond .lt off, 3)) (ht : (pc : Int) + off = (tgt : Int)) (kt : x < 0 → jJ n d cc nL own tgt L st h res) (kf : ¬ x < 0 → jJ n d cc nL own (pc + 3) L st h res) : jJ n d cc nL own pc L (.int x :: st) h res :=
  fun p l e R s m args below meth c cells slots Q X hr ls H locs hl hP hS => lv_if_lt X.1 X.2.1 hdg ht (fun q => kt q p l e R s m args below meth c cells slots Q X hr ls H locs hl hP hS) (fun q => kf q p l e R s m args below meth c cells slots Q X hr ls H locs hl hP hS)
theorem j_if_lt_t {x : Int32} {off : Int} {tgt : Nat} (hdg : decode cc pc = .ok (.ifCond .lt off, 3)) (ht : (pc : Int) + off = (tgt : Int)) (q : x < 0) (k : jJ n d cc nL own tgt L st h res) : jJ n d cc nL own pc L (.int x :: st) h res := j_if_lt hdg ht (fun _ => k) (fun z => absurd q (by first | exact z | exact fun w => w z))
theorem j_if_lt_f {x : Int32} {off : Int} {tgt : Nat} (hdg : decode cc pc = .ok (.ifCond .lt off, 3)) (ht : (pc : Int) + off = (tgt : Int)) (q : ¬ x < 0) (k : jJ n d cc nL own (pc + 3) L st h res) : jJ n d cc nL own pc L (.int x :: st) h res := j_if_lt hdg ht (fun z => absurd z (by first | exact q | exact fun w => w q)) (fun _ => k)
theorem j_if_ge {x : Int32} {off : Int} {tgt : Nat} (hdg : decode cc pc = .ok (.ifCond .ge off, 3)) (ht : (pc : Int) + off = (tgt : Int)) (kt : 0 ≤ x → jJ n d cc nL own tgt L st h res) (kf : ¬ 0 ≤ x → jJ n d cc nL own (pc + 3) L st h res) : jJ n d cc nL own pc L (.int x :: st) h res :=
  fun p l e R s m args below meth c cells slots Q X hr ls H locs hl hP hS => lv_if_ge X.1 X.2.1 hdg ht (fun q => kt q p l e R s m args below meth c cells slots Q X hr ls H locs hl hP hS) (fun q => kf q p l e R s m args below meth c cells slots Q X hr ls H locs hl hP hS)
theorem j_if_ge_t {x : Int32} {off : Int} {tgt : Nat} (hdg : decode cc pc = .ok (.ifCond .ge off, 3)) (ht : (pc : Int) + off = (tgt : Int)) (q : 0 ≤ x) (k : jJ n d cc nL own tgt L st h res) : jJ n d cc nL own pc L (.int x :: st) h res := j_if_ge hdg ht (fun _ => k) (fun z => absurd q (by first | exact z | exact fun w => w z))
theorem j_if_ge_f {x : Int32} {off : Int} {tgt : Nat} (hdg : decode cc pc = .ok (.ifCond .ge off, 3)) (ht : (pc : Int) + off = (tgt : Int)) (q : ¬ 0 ≤ x) (k : jJ n d cc nL own (pc + 3) L st h res) : jJ n d cc nL own pc L (.int x :: st) h res := j_if_ge hdg ht (fun z => absurd z (by first | exact q | exact fun w => w q)) (fun _ => k)
theorem j_if_gt {x : Int32} {off : Int} {tgt : Nat} (hdg : decode cc pc = .ok (.ifCond .gt off, 3)) (ht : (pc : Int) + off = (tgt : Int)) (kt : 0 < x → jJ n d cc nL own tgt L st h res) (kf : ¬ 0 < x → jJ n d cc nL own (pc + 3) L st h res) : jJ n d cc nL own pc L (.int x :: st) h res :=
  fun p l e R s m args below meth c cells slots Q X hr ls H locs hl hP hS => lv_if_gt X.1 X.2.1 hdg ht (fun q => kt q p l e R s m args below meth c cells slots Q X hr ls H locs hl hP hS) (fun q => kf q p l e R s m args below meth c cells slots Q X hr ls H locs hl hP hS)
theorem j_if_gt_t {x : Int32} {off : Int} {tgt : Nat} (hdg : decode cc pc = .ok (.ifCond .gt off, 3)) (ht : (pc : Int) + off = (tgt : Int)) (q : 0 < x) (k : jJ n d cc nL own tgt L st h res) : jJ n d cc nL own pc L (.int x :: st) h res := j_if_gt hdg ht (fun _ => k) (fun z => absurd q (by first | exact z | exact fun w => w z))
theorem j_if_gt_f {x : Int32} {off : Int} {tgt : Nat} (hdg : decode cc pc = .ok (.ifCond .gt off, 3)) (ht : (pc : Int) + off = (tgt : Int)) (q : ¬ 0 < x) (k : jJ n d cc nL own (pc + 3) L st h res) : jJ n d cc nL own pc L (.int x :: st) h res := j_if_gt hdg ht (fun z => absurd z (by first | exact q | exact fun w => w q)) (fun _ => k)
theorem j_if_le {x : Int32} {off : Int} {tgt : Nat} (hdg : decode cc pc = .ok (.ifCond .le off, 3)) (ht : (pc : Int) + off = (tgt : Int)) (kt : x ≤ 0 → jJ n d cc nL own tgt L st h res) (kf : ¬ x ≤ 0 → jJ n d cc nL own (pc + 3) L st h res) : jJ n d cc nL own pc L (.int x :: st) h res :=
  fun p l e R s m args below meth c cells slots Q X hr ls H locs hl hP hS => lv_if_le X.1 X.2.1 hdg ht (fun q => kt q p l e R s m args below meth c cells slots Q X hr ls H locs hl hP hS) (fun q => kf q p l e R s m args below meth c cells slots Q X hr ls H locs hl hP hS)
theorem j_if_le_t {x : Int32} {off : Int} {tgt : Nat} (hdg : decode cc pc = .ok (.ifCond .le off, 3)) (ht : (pc : Int) + off = (tgt : Int)) (q : x ≤ 0) (k : jJ n d cc nL own tgt L st h res) : jJ n d cc nL own pc L (.int x :: st) h res := j_if_le hdg ht (fun _ => k) (fun z => absurd q (by first | exact z | exact fun w => w z))
theorem j_if_le_f {x : Int32} {off : Int} {tgt : Nat} (hdg : decode cc pc = .ok (.ifCond .le off, 3)) (ht : (pc : Int) + off = (tgt : Int)) (q : ¬ x ≤ 0) (k : jJ n d cc nL own (pc + 3) L st h res) : jJ n d cc nL own pc L (.int x :: st) h res := j_if_le hdg ht (fun z => absurd z (by first | exact q | exact fun w => w q)) (fun _ => k)
theorem j_icmp_eq {x y : Int32} {off : Int} {tgt : Nat} (hdg : decode cc pc = .ok (.if_icmp .eq off, 3)) (ht : (pc : Int) + off = (tgt : Int)) (kt : x = y → jJ n d cc nL own tgt L st h res) (kf : ¬ x = y → jJ n d cc nL own (pc + 3) L st h res) : jJ n d cc nL own pc L (.int y :: .int x :: st) h res :=
  fun p l e R s m args below meth c cells slots Q X hr ls H locs hl hP hS => lv_icmp_eq X.1 X.2.1 hdg ht (fun q => kt q p l e R s m args below meth c cells slots Q X hr ls H locs hl hP hS) (fun q => kf q p l e R s m args below meth c cells slots Q X hr ls H locs hl hP hS)
theorem j_icmp_eq_t {x y : Int32} {off : Int} {tgt : Nat} (hdg : decode cc pc = .ok (.if_icmp .eq off, 3)) (ht : (pc : Int) + off = (tgt : Int)) (q : x = y) (k : jJ n d cc nL own tgt L st h res) : jJ n d cc nL own pc L (.int y :: .int x :: st) h res := j_icmp_eq hdg ht (fun _ => k) (fun z => absurd q (by first | exact z | exact fun w => w z))
theorem j_icmp_eq_f {x y : Int32} {off : Int} {tgt : Nat} (hdg : decode cc pc = .ok (.if_icmp .eq off, 3)) (ht : (pc : Int) + off = (tgt : Int)) (q : ¬ x = y) (k : jJ n d cc nL own (pc + 3) L st h res) : jJ n d cc nL own pc L (.int y :: .int x :: st) h res := j_icmp_eq hdg ht (fun z => absurd z (by first | exact q | exact fun w => w q)) (fun _ => k)
theorem j_icmp_ne {x y : Int32} {off : Int} {tgt : Nat} (hdg : decode cc pc = .ok (.if_icmp .ne off, 3)) (ht : (pc : Int) + off = (tgt : Int)) (kt : ¬ x = y → jJ n d cc nL own tgt L st h res) (kf : x = y → jJ n d cc nL own (pc + 3) L st h res) : jJ n d cc nL own pc L (.int y :: .int x :: st) h res :=
  fun p l e R s m args below meth c cells slots Q X hr ls H locs hl hP hS => lv_icmp_ne X.1 X.2.1 hdg ht (fun q => kt q p l e R s m args below meth c cells slots Q X hr ls H locs hl hP hS) (fun q => kf q p l e R s m args below meth c cells slots Q X hr ls H locs hl hP hS)
theorem j_icmp_ne_t {x y : Int32} {off : Int} {tgt : Nat} (hdg : decode cc pc = .ok (.if_icmp .ne off, 3)) (ht : (pc : Int) + off = (tgt : Int)) (q : ¬ x = y) (k : jJ n d cc nL own tgt L st h res) : jJ n d cc nL own pc L (.int y :: .int x :: st) h res := j_icmp_ne hdg ht (fun _ => k) (fun z => absurd q (by first | exact z | exact fun w => w z))
theorem j_icmp_ne_f {x y : Int32} {off : Int} {tgt : Nat} (hdg : decode cc pc = .ok (.if_icmp .ne off, 3)) (ht : (pc : Int) + off = (tgt : Int)) (q : x = y) (k : jJ n d cc nL own (pc + 3) L st h res) : jJ n d cc nL own pc L (.int y :: .int x :: st) h res := j_icmp_ne hdg ht (fun z => absurd z (by first | exact q | exact fun w => w q)) (fun _ => k)
theorem j_icmp_lt {x y : Int32} {off : Int} {tgt : Nat} (hdg : decode cc pc = .ok (.if_icmp .lt off, 3)) (ht : (pc : Int) + off = (tgt : Int)) (kt : x < y → jJ n d cc nL own tgt L st h res) (kf : ¬ x < y → jJ n d cc nL own (pc + 3) L st h res) : jJ n d cc nL own pc L (.int y :: .int x :: st) h res :=
  fun p l e R s m args below meth c cells slots Q X hr ls H locs hl hP hS => lv_icmp_lt X.1 X.2.1 hdg ht (fun q => kt q p l e R s m args below meth c cells slots Q X hr ls H locs hl hP hS) (fun q => kf q p l e R s m args below meth c cells slots Q X hr ls H locs hl hP hS)
theorem j_icmp_lt_t {x y : Int32} {off : Int} {tgt : Nat} (hdg : decode cc pc = .ok (.if_icmp .lt off, 3)) (ht : (pc : Int) + off = (tgt : Int)) (q : x < y) (k : jJ n d cc nL own tgt L st h res) : jJ n d cc nL own pc L (.int y :: .int x :: st) h res := j_icmp_lt hdg ht (fun _ => k) (fun z => absurd q (by first | exact z | exact fun w => w z))
theorem j_icmp_lt_f {x y : Int32} {off : Int} {tgt : Nat} (hdg : decode cc pc = .ok (.if_icmp .lt off, 3)) (ht : (pc : Int) + off = (tgt : Int)) (q : ¬ x < y) (k : jJ n d cc nL own (pc + 3) L st h res) : jJ n d cc nL own pc L (.int y :: .int x :: st) h res := j_icmp_lt hdg ht (fun z => absurd z (by first | exact q | exact fun w => w q)) (fun _ => k)
theorem j_icmp_ge {x y : Int32} {off : Int} {tgt : Nat} (hdg : decode cc pc = .ok (.if_icmp .ge off, 3)) (ht : (pc : Int) + off = (tgt : Int)) (kt : y ≤ x → jJ n d cc nL own tgt L st h res) (kf : ¬ y ≤ x → jJ n d cc nL own (pc + 3) L st h res) : jJ n d cc nL own pc L (.int y :: .int x :: st) h res :=
  fun p l e R s m args below meth c cells slots Q X hr ls H locs hl hP hS => lv_icmp_ge X.1 X.2.1 hdg ht (fun q => kt q p l e R s m args below meth c cells slots Q X hr ls H locs hl hP hS) (fun q => kf q p l e R s m args below meth c cells slots Q X hr ls H locs hl hP hS)
theorem j_icmp_ge_t {x y : Int32} {off : Int} {tgt : Nat} (hdg : decode cc pc = .ok (.if_icmp .ge off, 3)) (ht : (pc : Int) + off = (tgt : Int)) (q : y ≤ x) (k : jJ n d cc nL own tgt L st h res) : jJ n d cc nL own pc L (.int y :: .int x :: st) h res := j_icmp_ge hdg ht (fun _ => k) (fun z => absurd q (by first | exact z | exact fun w => w z))
theorem j_icmp_ge_f {x y : Int32} {off : Int} {tgt : Nat} (hdg : decode cc pc = .ok (.if_icmp .ge off, 3)) (ht : (pc : Int) + off = (tgt : Int)) (q : ¬ y ≤ x) (k : jJ n d cc nL own (pc + 3) L st h res) : jJ n d cc nL own pc L (.int y :: .int x :: st) h res := j_icmp_ge hdg ht (fun z => absurd z (by first | exact q | exact fun w => w q)) (fun _ => k)
theorem j_icmp_gt {x y : Int32} {off : Int} {tgt : Nat} (hdg : decode cc pc = .ok (.if_icmp .gt off, 3)) (ht : (pc : Int) + off = (tgt : Int)) (kt : y < x → jJ n d cc nL own tgt L st h res) (kf : ¬ y < x → jJ n d cc nL own (pc + 3) L st h res) : jJ n d cc nL own pc L (.int y :: .int x :: st) h res :=
  fun p l e R s m args below meth c cells slots Q X hr ls H locs hl hP hS => lv_icmp_gt X.1 X.2.1 hdg ht (fun q => kt q p l e R s m args below meth c cells slots Q X hr ls H locs hl hP hS) (fun q => kf q p l e R s m args below meth c cells slots Q X hr ls H locs hl hP hS)
theorem j_icmp_gt_t {x y : Int32} {off : Int} {tgt : Nat} (hdg : decode cc pc = .ok (.if_icmp .gt off, 3)) (ht : (pc : Int) + off = (tgt : Int)) (q : y < x) (k : jJ n d cc nL own tgt L st h res) : jJ n d cc nL own pc L (.int y :: .int x :: st) h res := j_icmp_gt hdg ht (fun _ => k) (fun z => absurd q (by first | exact z | exact fun w => w z))
theorem j_icmp_gt_f {x y : Int32} {off : Int} {tgt : Nat} (hdg : decode cc pc = .ok (.if_icmp .gt off, 3)) (ht : (pc : Int) + off = (tgt : Int)) (q : ¬ y < x) (k : jJ n d cc nL own (pc + 3) L st h res) : jJ n d cc nL own pc L (.int y :: .int x :: st) h res := j_icmp_gt hdg ht (fun z => absurd z (by first | exact q | exact fun w => w q)) (fun _ => k)
theorem j_icmp_le {x y : Int32} {off : Int} {tgt : Nat} (hdg : decode cc pc = .ok (.if_icmp .le off, 3)) (ht : (pc : Int) + off = (tgt : Int)) (kt : x ≤ y → jJ n d cc nL own tgt L st h res) (kf : ¬ x ≤ y → jJ n d cc nL own (pc + 3) L st h res) : jJ n d cc nL own pc L (.int y :: .int x :: st) h res :=
  fun p l e R s m args below meth c cells slots Q X hr ls H locs hl hP hS => lv_icmp_le X.1 X.2.1 hdg ht (fun q => kt q p l e R s m args below meth c cells slots Q X hr ls H locs hl hP hS) (fun q => kf q p l e R s m args below meth c cells slots Q X hr ls H locs hl hP hS)
theorem j_icmp_le_t {x y : Int32} {off : Int} {tgt : Nat} (hdg : decode cc pc = .ok (.if_icmp .le off, 3)) (ht : (pc : Int) + off = (tgt : Int)) (q : x ≤ y) (k : jJ n d cc nL own tgt L st h res) : jJ n d cc nL own pc L (.int y :: .int x :: st) h res := j_icmp_le hdg ht (fun _ => k) (fun z => absurd q (by first | exact z | exact fun w => w z))
theorem j_icmp_le_f {x y : Int32} {off : Int} {tgt : Nat} (hdg : decode cc pc = .ok (.if_icmp .le off, 3)) (ht : (pc : Int) + off = (tgt : Int)) (q : ¬ x ≤ y) (k : jJ n d cc nL own (pc + 3) L st h res) : jJ n d cc nL own pc L (.int y :: .int x :: st) h res := j_icmp_le hdg ht (fun z => absurd z (by first | exact q | exact fun w => w q)) (fun _ => k)
theorem j_swIn {dflt lo hi : Int} {offs : Array Int} {len : Nat} {x : Int32} {off : Int} {tgt : Nat} (hdg : decode cc pc = .ok (.tableswitch dflt lo hi offs, len)) (h1 : ¬ x.toInt < lo) (h2 : ¬ hi < x.toInt) (ho : offs[(x.toInt - lo).toNat]? = some off) (ht : (pc : Int) + off = (tgt : Int)) (k : jJ n d cc nL own tgt L st h res) : jJ n d cc nL own pc L (.int x :: st) h res :=
  fun p l e R s m args below meth c cells slots Q X hr ls H locs hl hP hS => lv_tableIn X.1 X.2.1 hdg h1 h2 ho ht (k p l e R s m args below meth c cells slots Q X hr ls H locs hl hP hS)
theorem j_swOut {dflt lo hi : Int} {offs : Array Int} {len : Nat} {x : Int32} {tgt : Nat} (hdg : decode cc pc = .ok (.tableswitch dflt lo hi offs, len)) (h1 : x.toInt < lo ∨ hi < x.toInt) (ht : (pc : Int) + dflt = (tgt : Int)) (k : jJ n d cc nL own tgt L st h res) : jJ n d cc nL own pc L (.int x :: st) h res :=
  fun p l e R s m args below meth c cells slots Q X hr ls H locs hl hP hS => lv_tableOut X.1 X.2.1 hdg h1 ht (k p l e R s m args below meth c cells slots Q X hr ls H locs hl hP hS)
theorem j_ret {r : Option Value} (hdg : decode cc pc = .ok (jri r, 1)) (hst : st = r.toList) : jJ n d cc nL own pc L st h (r, h) :=
  fun p l e R s m args below meth c cells slots Q X hr ls H locs hl hP hS => by
    subst hst
    have e : (r.toList).map (jup n) = (r.map (jup n)).toList := by cases r <;> rfl
    rw [e]
    exact hr pc ls H locs hdg hP hS
def jF (own : String) (idx ci k N : Nat) : Prop := ∃ (C : String) (T : u_T) (t : Nat → FieldType), ci < 20 ∧ jcl[ci]? = some (C, T, N) ∧ (∀ w ∈ u_ws C T N, w ∈ jtbl) ∧ k < N ∧ Cond.fieldLink own idx (T k).1 (T k).2.1 (T k).2.2.1 ∈ jtbl ∧ (∀ k, k < N → parseFieldDescriptor (T k).2.2.1 = some (t k)) ∧ (∀ a, a < N → ∀ b, b < N → a ≠ b → (T a).2.1 ≠ (T b).2.1) ∧ (jir ci k = false → t k = .int) ∧ (jir ci k = false → (T k).2.2.2 = false)
theorem jE_obj {a ci N : Nat} (hs : jsh a = (ci, N)) (hci : ci < 20) : jE n h a = .inr (ci, (List.range N).map (fun k => if jir ci k then .ref (jB n + jrf a k) else .int (h a k))) := by
  unfold jE
  rw [hs, if_pos hci]
theorem jE_int {a ci N : Nat} (hs : jsh a = (ci, N)) (h1 : ¬ ci < 20) (h2 : ci < 22) : jE n h a = .inl (n.2.1 ci, N, .inl (h a)) := by
  unfold jE
  rw [hs, if_neg h1, if_pos h2]
theorem jE_ref {a ci N : Nat} (hs : jsh a = (ci, N)) (h1 : ¬ ci < 20) (h2 : ¬ ci < 22) : jE n h a = .inl (n.2.1 ci, N, .inr (.inr (.inr (.inr (fun k => some (jB n + jrf a k)))))) := by
  unfold jE
  rw [hs, if_neg h1, if_neg h2]
theorem j_geti {a ci k N idx : Nat} (hdg : decode cc pc = .ok (.getfield idx, 3)) (hf : jF own idx ci k N) (hs : jsh a = (ci, N)) (hir : jir ci k = false) (kk : jJ n d cc nL own (pc + 3) L (.int (h a k) :: st) h res) : jJ n d cc nL own pc L (.ref a :: st) h res :=
  fun p l e R s m args below meth c cells slots Q X hr ls H locs hl hP hS => by
    obtain ⟨C, T, t, hci, hc, hin, hk, hw, -⟩ := hf
    have ha := jsh_lt hs (by omega)
    have e1 : (Value.ref a :: st).map (jup n) = .ref (jB n + a) :: st.map (jup n) := by simp [jup, jad_lt n ha]
    rw [e1]
    exact va_get (D := n.1) (C := C) (T := T) (N := N) (ci := ci) (v := .int (h a k)) X.1 X.2.1 X.2.2.2.2.1 hin X.2.2.2.1 X.2.2.2.2.2.1 hP a (by rw [jws_at ha, jE_obj hs hci]) hc k hk (X.2.2.2.2.1 _ hw) (fun _ z => z) (by simp [hk, hir]) hdg (kk p l e R s m args below meth c cells slots Q X hr ls H locs hl hP hS)
theorem j_getr {a ci k N idx b : Nat} (hdg : decode cc pc = .ok (.getfield idx, 3)) (hf : jF own idx ci k N) (hs : jsh a = (ci, N)) (hir : jir ci k = true) (hb : jrf a k = b) (hb2 : b < 152) (kk : jJ n d cc nL own (pc + 3) L (.ref b :: st) h res) : jJ n d cc nL own pc L (.ref a :: st) h res :=
  fun p l e R s m args below meth c cells slots Q X hr ls H locs hl hP hS => by
    obtain ⟨C, T, t, hci, hc, hin, hk, hw, -⟩ := hf
    have ha := jsh_lt hs (by omega)
    have e1 : (Value.ref a :: st).map (jup n) = .ref (jB n + a) :: st.map (jup n) := by simp [jup, jad_lt n ha]
    have e2 : (Value.ref b :: st).map (jup n) = .ref (jB n + b) :: st.map (jup n) := by simp [jup, jad_lt n hb2]
    have kk := kk p l e R s m args below meth c cells slots Q X hr ls H locs hl hP hS
    rw [e2] at kk
    rw [e1]
    exact va_get (D := n.1) (C := C) (T := T) (N := N) (ci := ci) (v := .ref (jB n + b)) X.1 X.2.1 X.2.2.2.2.1 hin X.2.2.2.1 X.2.2.2.2.2.1 hP a (by rw [jws_at ha, jE_obj hs hci]) hc k hk (X.2.2.2.2.1 _ hw) (fun _ z => z) (by simp [hk, hir, hb]) hdg kk
theorem jset_range {α : Type} {N k : Nat} {f : Nat → α} {x : α} : ((List.range N).map f).set k x = (List.range N).map (fun j => if j = k then x else f j) := by
  apply List.ext_getElem?
  intro i
  rw [List.getElem?_set]
  rcases Nat.lt_or_ge i N with hi | hi
  · by_cases e : k = i
    · subst e
      simp [hi]
    · simp [e, hi, Ne.symm e]
  · have hn : ¬ i < N := Nat.not_lt.mpr hi
    by_cases e : k = i
    · subst e
      simp [hn]
    · simp [e, hi]
theorem j_puti {a ci k N idx : Nat} {v : Int32} (hdg : decode cc pc = .ok (.putfield idx, 3)) (hf : jF own idx ci k N) (hs : jsh a = (ci, N)) (hir : jir ci k = false) (kk : jJ n d cc nL own (pc + 3) L st (jup2 h a k v) res) : jJ n d cc nL own pc L (.int v :: .ref a :: st) h res :=
  fun p l e R s m args below meth c cells slots Q X hr ls H locs hl hP hS => by
    obtain ⟨C, T, t, hci, hc, hin, hk, hw, hty, hnm, hti, hfi⟩ := hf
    have ha := jsh_lt hs (by omega)
    have e1 : (Value.int v :: Value.ref a :: st).map (jup n) = .int v :: .ref (jB n + a) :: st.map (jup n) := by simp [jup, jad_lt n ha]
    rw [e1]
    refine va_put (D := n.1) (C := C) (T := T) (N := N) (ci := ci) (v := .int v) (ty := .int) X.1 X.2.1 X.2.2.2.2.1 hin t hty hnm X.2.2.2.1 X.2.2.2.2.2.1 hP (jD n h) hS a (fs := (List.range N).map (fun k => if jir ci k then .ref (jB n + jrf a k) else .int (h a k))) (by rw [jws_at ha, jE_obj hs hci]) hc k hk (X.2.2.2.2.1 _ hw) (fun _ z => z) (hfi hir) (by rw [hty k hk, hti hir]) rfl rfl (by simp [hk]) hdg (fun H1 locs1 hP1 hD1 hS1 => ?_)
    refine kk p l e R s m args below meth c cells slots Q X hr ls H1 locs1 hl ?_ hS1
    rwa [jws_set (k := k) (v := v) ha] at hP1
    rw [jE_obj hs hci, jset_range]
    congr 3
    apply List.map_congr_left
    intro j hj
    by_cases ej : j = k
    · subst ej
      simp [hir, jup2]
    · simp [ej, jup2]
theorem j_iald {a N : Nat} {j : Int32} (hdg : decode cc pc = .ok (.iaload, 1)) (hs : jsh a = (20, N)) (hin : vp_in j N) (kk : jJ n d cc nL own (pc + 1) L (.int (h a j.toNatClampNeg) :: st) h res) : jJ n d cc nL own pc L (.int j :: .ref a :: st) h res :=
  fun p l e R s m args below meth c cells slots Q X hr ls H locs hl hP hS => by
    have ha := jsh_lt hs (by omega)
    have e1 : (Value.int j :: Value.ref a :: st).map (jup n) = .int j :: .ref (jB n + a) :: st.map (jup n) := by simp [jup, jad_lt n ha]
    rw [e1]
    exact va_iald X.1 X.2.1 X.2.2.2.2.2.1 hP a 0 (f := h a) (by rw [jws_at ha, jE_int hs (by omega) (by omega)]) rfl hin hdg (kk p l e R s m args below meth c cells slots Q X hr ls H locs hl hP hS)
theorem j_zald {a N : Nat} {j : Int32} (hdg : decode cc pc = .ok (.baload, 1)) (hs : jsh a = (21, N)) (hin : vp_in j N) (kk : jJ n d cc nL own (pc + 1) L (.int (h a j.toNatClampNeg) :: st) h res) : jJ n d cc nL own pc L (.int j :: .ref a :: st) h res :=
  fun p l e R s m args below meth c cells slots Q X hr ls H locs hl hP hS => by
    have ha := jsh_lt hs (by omega)
    have e1 : (Value.int j :: Value.ref a :: st).map (jup n) = .int j :: .ref (jB n + a) :: st.map (jup n) := by simp [jup, jad_lt n ha]
    rw [e1]
    exact va_zald X.1 X.2.1 X.2.2.2.2.2.1 hP a 1 (f := h a) (by rw [jws_at ha, jE_int hs (by omega) (by omega)]) rfl hin hdg (kk p l e R s m args below meth c cells slots Q X hr ls H locs hl hP hS)
theorem jupd_eq {a k : Nat} {v : Int32} : upd (h a) k v = jup2 h a k v a := by
  funext j
  simp [upd, jup2]
theorem j_iast {a N : Nat} {j v : Int32} (hdg : decode cc pc = .ok (.iastore, 1)) (hs : jsh a = (20, N)) (hin : vp_in j N) (kk : jJ n d cc nL own (pc + 1) L st (jup2 h a j.toNatClampNeg v) res) : jJ n d cc nL own pc L (.int v :: .int j :: .ref a :: st) h res :=
  fun p l e R s m args below meth c cells slots Q X hr ls H locs hl hP hS => by
    have ha := jsh_lt hs (by omega)
    have e1 : (Value.int v :: Value.int j :: Value.ref a :: st).map (jup n) = .int v :: .int j :: .ref (jB n + a) :: st.map (jup n) := by simp [jup, jad_lt n ha]
    rw [e1]
    refine va_iast X.1 X.2.1 X.2.2.2.2.2.1 hP (jD n h) hS a 0 (f := h a) (by rw [jws_at ha, jE_int hs (by omega) (by omega)]) rfl hin hdg (fun H1 locs1 hP1 hD1 hS1 => ?_)
    refine kk p l e R s m args below meth c cells slots Q X hr ls H1 locs1 hl ?_ hS1
    rwa [jws_set (k := j.toNatClampNeg) (v := v) ha] at hP1
    rw [jE_int hs (by omega) (by omega), jupd_eq]
theorem j_zast {a N : Nat} {j v : Int32} (hdg : decode cc pc = .ok (.bastore, 1)) (hs : jsh a = (21, N)) (hin : vp_in j N) (kk : jJ n d cc nL own (pc + 1) L st (jup2 h a j.toNatClampNeg (vp_nar .boolean v)) res) : jJ n d cc nL own pc L (.int v :: .int j :: .ref a :: st) h res :=
  fun p l e R s m args below meth c cells slots Q X hr ls H locs hl hP hS => by
    have ha := jsh_lt hs (by omega)
    have e1 : (Value.int v :: Value.int j :: Value.ref a :: st).map (jup n) = .int v :: .int j :: .ref (jB n + a) :: st.map (jup n) := by simp [jup, jad_lt n ha]
    rw [e1]
    refine va_zast X.1 X.2.1 X.2.2.2.2.2.1 hP (jD n h) hS a 1 (f := h a) (by rw [jws_at ha, jE_int hs (by omega) (by omega)]) rfl hin hdg (fun H1 locs1 hP1 hD1 hS1 => ?_)
    refine kk p l e R s m args below meth c cells slots Q X hr ls H1 locs1 hl ?_ hS1
    rwa [jws_set (k := j.toNatClampNeg) (v := vp_nar .boolean v) ha] at hP1
    rw [jE_int hs (by omega) (by omega), jupd_eq]
theorem j_aald {a t N b : Nat} {j : Int32} (hdg : decode cc pc = .ok (.aaload, 1)) (hs : jsh a = (t, N)) (ht : t = 22 ∨ t = 23 ∨ t = 24) (hin : vp_in j N) (hb : jrf a j.toNatClampNeg = b) (hb2 : b < 152) (kk : jJ n d cc nL own (pc + 1) L (.ref b :: st) h res) : jJ n d cc nL own pc L (.int j :: .ref a :: st) h res :=
  fun p l e R s m args below meth c cells slots Q X hr ls H locs hl hP hS => by
    have ha := jsh_lt hs (by omega)
    have e1 : (Value.int j :: Value.ref a :: st).map (jup n) = .int j :: .ref (jB n + a) :: st.map (jup n) := by simp [jup, jad_lt n ha]
    have e2 : (Value.ref b :: st).map (jup n) = va_rf (some (jB n + jrf a j.toNatClampNeg)) :: st.map (jup n) := by simp [jup, jad_lt n hb2, va_rf, hb]
    have kk := kk p l e R s m args below meth c cells slots Q X hr ls H locs hl hP hS
    rw [e2] at kk
    rw [e1]
    rcases ht with rfl | rfl | rfl
    · exact va_aldq X.1 X.2.1 X.2.2.2.2.2.1 hP a 2 (f := fun k => some (jB n + jrf a k)) (by rw [jws_at ha, jE_ref hs (by omega) (by omega)]) rfl hin hdg kk
    · exact va_aldq X.1 X.2.1 X.2.2.2.2.2.1 hP a 3 (f := fun k => some (jB n + jrf a k)) (by rw [jws_at ha, jE_ref hs (by omega) (by omega)]) rfl hin hdg kk
    · exact va_aldq X.1 X.2.1 X.2.2.2.2.2.1 hP a 4 (f := fun k => some (jB n + jrf a k)) (by rw [jws_at ha, jE_ref hs (by omega) (by omega)]) rfl hin hdg kk
/-- a getstatic of ROW_STARTS -/
theorem j_gets {idx : Nat} (hdg : decode cc pc = .ok (.getstatic idx, 3)) (hw : Cond.fieldLink own idx "YesNoPowers$Roots" "ROW_STARTS" "[I" ∈ jtbl) (kk : jJ n d cc nL own (pc + 3) L (.ref 153 :: st) h res) : jJ n d cc nL own pc L st h res :=
  fun p l e R s m args below meth c cells slots Q X hr ls H locs hl hP hS => by
    have e2 : (Value.ref 153 :: st).map (jup n) = .ref (js n) :: st.map (jup n) := by simp [jup, jad]
    have kk := kk p l e R s m args below meth c cells slots Q X hr ls H locs hl hP hS
    rw [e2] at kk
    exact va_gets X.1 X.2.1 X.2.2.2.2.2.2.1.1 hS X.2.2.2.1 (X.2.2.2.2.1 _ hw) (fun _ z => z) hdg kk
theorem j_rld {j v : Int32} (hdg : decode cc pc = .ok (.iaload, 1)) (hin : vp_in j 5) (hv : ([0, 1, 5, 73, 4369] : List Int32).getD j.toNatClampNeg 0 = v) (kk : jJ n d cc nL own (pc + 1) L (.int v :: st) h res) : jJ n d cc nL own pc L (.int j :: .ref 153 :: st) h res :=
  fun p l e R s m args below meth c cells slots Q X hr ls H locs hl hP hS => by
    have e2 : (Value.int j :: Value.ref 153 :: st).map (jup n) = .int j :: .ref (js n) :: st.map (jup n) := by simp [jup, jad]
    rw [e2]
    exact va_ti X.1 X.2.1 X.2.2.2.2.2.2.1.2.1 hS hin (by simp only [jrow, hv]; rfl) hdg (kk p l e R s m args below meth c cells slots Q X hr ls H locs hl hP hS)
theorem jnA {q : Nat} (h : q < jB n) : ¬ jA n q := by simp [jA]; omega
theorem j_sld {j : Int32} (hdg : decode cc pc = .ok (.iaload, 1)) (hin : vp_in j (jl n)) (kk : jJ n d cc nL own (pc + 1) L (.int (jx n j.toNatClampNeg) :: st) h res) : jJ n d cc nL own pc L (.int j :: .ref 152 :: st) h res :=
  fun p l e R s m args below meth c cells slots Q X hr ls H locs hl hP hS => by
    have e2 : (Value.int j :: Value.ref 152 :: st).map (jup n) = .int j :: .ref (jb n) :: st.map (jup n) := by simp [jup, jad]
    rw [e2]
    obtain ⟨scr, hs1, -⟩ := id X.2.2.2.2.2.2.1.2.2.1
    exact va_sld X.1 X.2.1 X.2.2.2.2.2.2.1.2.2.1 (Array.getElem?_eq_some_iff.mp hs1).1 (jnA X.2.2.2.2.2.2.1.2.2.2) hS hin hdg (kk p l e R s m args below meth c cells slots Q X hr ls H locs hl hP hS)
theorem j_slen (hdg : decode cc pc = .ok (.arraylength, 1)) (kk : jJ n d cc nL own (pc + 1) L (.int (Int32.ofNat (jl n)) :: st) h res) : jJ n d cc nL own pc L (.ref 152 :: st) h res :=
  fun p l e R s m args below meth c cells slots Q X hr ls H locs hl hP hS => by
    have e2 : (Value.ref 152 :: st).map (jup n) = .ref (jb n) :: st.map (jup n) := by simp [jup, jad]
    rw [e2]
    obtain ⟨scr, hs1, -⟩ := id X.2.2.2.2.2.2.1.2.2.1
    exact va_slen X.1 X.2.1 X.2.2.2.2.2.2.1.2.2.1 (Array.getElem?_eq_some_iff.mp hs1).1 (jnA X.2.2.2.2.2.2.1.2.2.2) hS hdg (kk p l e R s m args below meth c cells slots Q X hr ls H locs hl hP hS)
/-- what the heap of a row of ints becomes by a copy -/
def jcp (h : jH) (a b i j k : Nat) : jH := fun a' => if a' = b then va_cpy (h a) (h b) i j k else h a'
theorem jws_setA {n : jN} {h h' : jH} {a : Nat} {x : Nat × va_E} (ha : a < 152) (hh : ∀ a', a' ≠ a → h' a' = h a') (hx : x = (jB n + a, jE n h' a)) : (jws n h).set a x = jws n h' := by
  subst hx
  apply List.ext_getElem?
  intro i
  rw [List.getElem?_set]
  rcases Nat.lt_or_ge i 152 with hi | hi
  · rw [jws_at hi]
    by_cases e : a = i
    · subst e
      rw [if_pos rfl, if_pos (by rw [jws_len]; exact hi)]
      exact (jws_at hi).symm
    · rw [if_neg e, jws_at hi]
      have e2 : h' i = h i := hh i (Ne.symm e)
      have e3 : ∀ j, h' i j = h i j := fun j => by rw [e2]
      simp only [jE, e3, e2]
  · rw [if_neg (by omega), List.getElem?_eq_none (by rw [jws_len]; omega), List.getElem?_eq_none (by rw [jws_len]; omega)]
theorem j_copy {a b N M idx : Nat} {i j k : Int32} (hdg : decode cc pc = .ok (.invokestatic idx, 3)) (hlink : Cond.methodLink own idx arraycopyName ∈ jtbl) (hnat : Cond.native arraycopyName ∈ jtbl) (hst : Cond.static arraycopyName ∈ jtbl) (hini : Cond.initialized "java/lang/System" ∈ jtbl) (hsz : st.length ≤ 4)
    (hs : jsh a = (20, N)) (hs2 : jsh b = (20, M)) (h1 : ¬ i < 0) (h2 : ¬ j < 0) (h3 : ¬ k < 0) (h4 : i.toNatClampNeg + k.toNatClampNeg ≤ N) (h5 : j.toNatClampNeg + k.toNatClampNeg ≤ M)
    (kk : jJ n d cc nL own (pc + 3) L st (jcp h a b i.toNatClampNeg j.toNatClampNeg k.toNatClampNeg) res) : jJ n d cc nL own pc L (.int k :: .int j :: .ref b :: .int i :: .ref a :: st) h res :=
  fun p l e R s m args below meth c cells slots Q X hr ls H locs hl hP hS => by
    have ha := jsh_lt hs (by omega)
    have hb := jsh_lt hs2 (by omega)
    have e2 : (Value.int k :: Value.int j :: Value.ref b :: Value.int i :: Value.ref a :: st).map (jup n) = .int k :: .int j :: .ref (jB n + b) :: .int i :: .ref (jB n + a) :: st.map (jup n) := by simp [jup, jad_lt n ha, jad_lt n hb]
    rw [e2]
    have hcat : ((st.map (jup n)).map fun v => v.category).sum ≤ 2 * st.length := by
      clear kk e2 hsz
      induction st with
      | nil => simp
      | cons v t ih =>
        simp only [List.map_cons, List.sum_cons, List.length_cons]
        have := lv_cat (jup n v)
        omega
    have hnf : nativeFrameWords "java/lang/System" "arraycopy" 5 + 11 ≤ 56 := by decide +kernel
    have hloc := X.2.2.2.2.2.2.2.2.1
    refine va_copyi X.1 X.2.1 (X.2.2.1.trans hl.1.symm) X.2.2.2.1 (X.2.2.2.2.1 _ hlink) (X.2.2.2.2.1 _ hnat) (X.2.2.2.2.1 _ hst) (X.2.2.2.2.1 _ hini) X.2.2.2.2.2.1 hP (jD n h) hS a b 0 0 (f := h a) (g := h b) (ty := .int) (by rw [jws_at ha, jE_int hs (by omega) (by omega)]) (by rw [jws_at hb, jE_int hs2 (by omega) (by omega)]) rfl rfl rfl h1 h2 h3 h4 h5 (fun _ _ => rfl) (by have := X.2.2.2.2.2.2.2.1; omega) (by omega) hdg (fun H1 locs1 hP1 hD1 hS1 => ?_)
    refine kk p l e R s m args below meth c cells slots Q X hr ls H1 locs1 hl ?_ hS1
    rwa [jws_setA (h' := jcp h a b i.toNatClampNeg j.toNatClampNeg k.toNatClampNeg) hb (fun a' q => by simp [jcp, q])] at hP1
    rw [jE_int hs2 (by omega) (by omega)]
    simp [jcp]
/-- what a call of y needs of the tables -/
def jMi (y : MethodName) (bytes : ByteArray) (maxL : Nat) (ret : Option FieldType) (np : Nat) : Prop :=
  Cond.initialized y.cls ∈ jtbl ∧ Cond.code y bytes maxL ret ∈ jtbl ∧ (y.cls ≠ "java/lang/invoke/MethodHandle" ∧ y.cls ≠ "java/lang/invoke/VarHandle" ∧ (parseMethodDescriptor y.desc).map (fun d => d.parameters.length) = some np) ∧ maxL ≤ 40 ∧ plainFor y = true
theorem jgood : GoodIn jtbl jtbl := fun w hw => ⟨hw, good_of_word (List.mem_filter.mp hw).2⟩
theorem jgoodw {y : MethodName} {bytes : ByteArray} {maxL : Nat} {ret : Option FieldType} (hc : Cond.code y bytes maxL ret ∈ jtbl) : GoodIn jtbl (jwy y bytes maxL ret) := fun w hw => (List.mem_cons.mp hw).elim (fun e => by rw [e]; exact jgood _ hc) (fun q => jgood _ q)
theorem jstK {s U : State} {H : Heap} {locs : List Loc} (h : jst n s s.heap) (hS : va_S (jA n) s.heap H locs) (hvm : s.vm.Alike U.vm) : jst n U H := by
  obtain ⟨h1, h2, h3, h4⟩ := h
  have hq : ∀ a : Nat, a < s.heap.size → ¬ jA n a → H[a]? = s.heap[a]? := hS.2.1
  refine ⟨(h1.kept hq).moved hvm, (h2.kept hq).moved hvm, (h3.kept ?_).moved hvm, h4⟩
  obtain ⟨scr, hs1, -⟩ := id h3
  exact hq _ (Array.getElem?_eq_some_iff.mp hs1).1 (jnA h4)
theorem jblind {av : List Value} : FrameBlind (va_Pc av (jBf n h)) := by
  intro a U g mk q
  obtain ⟨q1, q2, q3, q4⟩ := q
  have hS : va_S (jA n) U.heap (U.calling g mk a).heap [] := va_S.rf
  exact ⟨q1, q2, va_K.moved (u := U) (U := U.calling g mk a) (Vm.Alike.refl U.vm) q3, jstK q4 hS (Vm.Alike.refl U.vm)⟩
theorem jcats (st : List Value) (hsz : st.length ≤ 4) : ((st.map (jup n)).map fun v => v.category).sum ≤ 8 := by
  have : ((st.map (jup n)).map fun v => v.category).sum ≤ 2 * st.length := by
    clear hsz
    induction st with
    | nil => simp
    | cons v t ih =>
      simp only [List.map_cons, List.sum_cons, List.length_cons]
      have := lv_cat (jup n v)
      omega
  omega
/-- behind a call -/
theorem j_after {r : Option Value} {h1 : jH} {p : Program} {l : Launch} {e : Env} {R : Room} {s : State} {m : MethodId} {args : Array Value} {below : List Frame} {meth : Method} {c : Code} {cells slots : Nat} {Q : State → Prop} {H : Heap} {locs : List Loc} {g : JFrame} {ls : Array Slot} {rest : List Value} {a : Array Value}
    (hg : g = F0 m pc ls g.stack) (hr : va_Run p l e R s m args below meth c H locs cells slots 0 0 g rest (jQ n r h1 a) (jA n)) (hS : va_S (jA n) s.heap H locs)
    (kk : ∀ (H1 : Heap) (locs1 : List Loc), va_P n.1 jcl (jws n h1) H1 → va_S (jA n) s.heap H1 locs1 → W p l e R s m args below meth c H1 locs1 cells slots Q (F0 m (pc + 3) ls ((r.map (jup n)).toList ++ rest))) : W p l e R s m args below meth c H locs cells slots Q g := by
  intro T hT X
  obtain ⟨v, st₀, t, T', Lc, h0, X', hL, e1, e2, ⟨hv, hP1, hz, hk⟩, st⟩ := hr T hT X
  cases hv
  rw [h0] at hz hk
  have hS1 : va_S (jA n) s.heap T'.heap (locs ++ Lc) := ⟨Nat.le_trans hS.1 (by rw [e1]; exact hz), fun q h1 h2 => by rw [e1, hk q (Nat.lt_of_lt_of_le h1 hS.1) h2]; exact hS.2.1 q h1 h2, fun q hq => by
      rcases List.mem_append.mp hq with h | h
      · exact hS.2.2 q h
      · exact hL q h⟩
  obtain ⟨t2, a1, b1⟩ := kk T'.heap (locs ++ Lc) (by rw [e1]; exact hP1) hS1 T' rfl X'
  rw [hg] at st
  rw [hg]
  exact ⟨t2, st t2 a1, b1⟩
theorem j_callV {d' idx a ci maxL N np : Nat} {y : MethodName} {bytes : ByteArray} {ret : Option FieldType} {As : List Value} {r : Option Value} {h1 : jH} {st0 : List Value} (hC : jC n d' y bytes maxL ret (.ref a :: As) h r h1) (hdg : decode cc pc = .ok (.invokevirtual idx, 3)) (hd : d' < d) (hm : jMi y bytes maxL ret np)
    (hlink : Cond.methodLink own idx y ∈ jtbl) (hin : Cond.instanceMethod y ∈ jtbl) (hsel : Cond.selects y.cls y y ∈ jtbl) (hs : jsh a = (ci, N)) (hci : ci < 20) (hcl : (jcl[ci]?).map (·.1) = some y.cls) (hnp : As.length = np) (hsz : st.length ≤ 4) (hst : st0 = As.reverse ++ .ref a :: st)
    (kk : jJ n d cc nL own (pc + 3) L (r.toList ++ st) h1 res) : jJ n d cc nL own pc L st0 h res :=
  fun p l e R s m args below meth c cells slots Q X hr ls H locs hl hP hS => by
    subst hst
    have ha := jsh_lt hs (by omega)
    obtain ⟨hini, hcode, hdy, hmx, -⟩ := hm
    have hw : ∀ w ∈ jtbl, w.before args s = true := X.2.2.2.2.1
    obtain ⟨q, hq1, hq2⟩ := Option.map_eq_some_iff.mp hcl
    have cb := callB_of (y := y) (own := own) (index := idx) (R := R) np hw (jgoodw hcode) (ws' := jtbl) rfl (rm := jRm d') (mc := 0) (ms := 0) rfl rfl (hw _ hini) (hw _ hlink) hdy ⟨by have := X.2.2.2.2.2.2.2.1; simp only [jRm]; omega, by have := X.2.2.2.2.2.2.2.2.1; simp only [jRm]; omega⟩
    refine j_after (n := n) (g := F0 m pc ls ((As.reverse ++ Value.ref a :: st).map (jup n))) rfl (va_runV (C := y.cls) (b := jB n + a) (As := As.map (jup n)) (rest := st.map (jup n)) (n := np) ⟨X.1, X.2.1, X.2.2.1, X.2.2.2.1, hw⟩ (hC l) ⟨cb, hw _ hin, hw _ hsel⟩ ⟨jblind, ?_, fun U hU hW => ⟨?_, ?_, ?_, ?_⟩⟩ rfl (by simp [hnp]) (hl.1.trans rfl) (by simp [jup, jad_lt n ha]) (by simp only [Nat.mul_zero, Nat.zero_add]; exact jcats st hsz) hdg ⟨X.2.2.2.2.2.2.2.2.2.1, X.2.2.2.2.2.2.2.2.2.2⟩) hS (fun H1 locs1 hP1 hS1 => ?_)
    · rw [← hq2]
      exact va_recv X.2.2.2.2.2.1 hP hq1 (by rw [jws_at ha, jE_obj hs hci])
    · simp [jup, jad_lt n ha]
    · rw [hU]; exact hP
    · exact va_K.moved hW.alike X.2.2.2.2.2.1
    · rw [hU]; exact jstK X.2.2.2.2.2.2.1 hS hW.alike
    · have e3 : (r.map (jup n)).toList ++ st.map (jup n) = (r.toList ++ st).map (jup n) := by cases r <;> rfl
      rw [e3]
      exact kk p l e R s m args below meth c cells slots Q X hr ls H1 locs1 hl hP1 hS1
theorem j_callS {d' idx maxL np : Nat} {y : MethodName} {bytes : ByteArray} {ret : Option FieldType} {As : List Value} {r : Option Value} {h1 : jH} {st0 : List Value} (hC : jC n d' y bytes maxL ret As h r h1) (hdg : decode cc pc = .ok (.invokestatic idx, 3)) (hd : d' < d) (hm : jMi y bytes maxL ret np)
    (hlink : Cond.methodLink own idx y ∈ jtbl) (hin : Cond.static y ∈ jtbl) (hnp : As.length = np) (hsz : st.length ≤ 4) (hst : st0 = As.reverse ++ st)
    (kk : jJ n d cc nL own (pc + 3) L (r.toList ++ st) h1 res) : jJ n d cc nL own pc L st0 h res :=
  fun p l e R s m args below meth c cells slots Q X hr ls H locs hl hP hS => by
    subst hst
    obtain ⟨hini, hcode, hdy, hmx, -⟩ := hm
    have hw : ∀ w ∈ jtbl, w.before args s = true := X.2.2.2.2.1
    have cb := callB_of (y := y) (own := own) (index := idx) (R := R) np hw (jgoodw hcode) (ws' := jtbl) rfl (rm := jRm d') (mc := 0) (ms := 0) rfl rfl (hw _ hini) (hw _ hlink) hdy ⟨by have := X.2.2.2.2.2.2.2.1; simp only [jRm]; omega, by have := X.2.2.2.2.2.2.2.2.1; simp only [jRm]; omega⟩
    refine j_after (n := n) (g := F0 m pc ls ((As.reverse ++ st).map (jup n))) rfl (va_runS (As := As.map (jup n)) (rest := st.map (jup n)) (n := np) ⟨X.1, X.2.1, X.2.2.1, X.2.2.2.1, hw⟩ (hC l) ⟨cb, hw _ hin⟩ ⟨jblind, fun U hU hW => ⟨rfl, ?_, ?_, ?_⟩⟩ rfl (by simp [hnp]) (hl.1.trans rfl) (by simp) (by simp only [Nat.mul_zero, Nat.zero_add]; exact jcats st hsz) hdg ⟨X.2.2.2.2.2.2.2.2.2.1, X.2.2.2.2.2.2.2.2.2.2⟩) hS (fun H1 locs1 hP1 hS1 => ?_)
    · rw [hU]; exact hP
    · exact va_K.moved hW.alike X.2.2.2.2.2.1
    · rw [hU]; exact jstK X.2.2.2.2.2.2.1 hS hW.alike
    · have e3 : (r.map (jup n)).toList ++ st.map (jup n) = (r.toList ++ st).map (jup n) := by cases r <;> rfl
      rw [e3]
      exact kk p l e R s m args below meth c cells slots Q X hr ls H1 locs1 hl hP1 hS1
theorem j_mmin {idx : Nat} {x y : Int32} (hdg : decode cc pc = .ok (.invokestatic idx, 3)) (hlink : Cond.methodLink own idx Lib.Math.min.name ∈ jtbl) (hst : Cond.static Lib.Math.min.name ∈ jtbl) (hini : Cond.initialized "java/lang/Math" ∈ jtbl) (hco : Cond.code Lib.Math.min.name Lib.Math.min.code 2 (some .int) ∈ jtbl) (hsz : st.length ≤ 4)
    (kk : jJ n d cc nL own (pc + 3) L (.int (if y < x then y else x) :: st) h res) : jJ n d cc nL own pc L (.int y :: .int x :: st) h res :=
  fun p l e R s m args below meth c cells slots Q X hr ls H locs hl hP hS => by
    have hcat := jcats (n := n) st hsz
    have hloc := X.2.2.2.2.2.2.2.2.1
    exact va_mmin X.1 X.2.1 (X.2.2.1.trans hl.1.symm) X.2.2.2.1 (X.2.2.2.2.1 _ hlink) (X.2.2.2.2.1 _ hst) (X.2.2.2.2.1 _ hini) (X.2.2.2.2.1 _ hco) (by have := X.2.2.2.2.2.2.2.1; omega) (by omega) X.2.2.2.2.2.2.2.2.2.1 X.2.2.2.2.2.2.2.2.2.2 hdg (kk p l e R s m args below meth c cells slots Q X hr ls H locs hl hP hS)
theorem j_mabs {idx : Nat} {x : Int32} (hdg : decode cc pc = .ok (.invokestatic idx, 3)) (hlink : Cond.methodLink own idx Lib.Math.abs.name ∈ jtbl) (hst : Cond.static Lib.Math.abs.name ∈ jtbl) (hini : Cond.initialized "java/lang/Math" ∈ jtbl) (hco : Cond.code Lib.Math.abs.name Lib.Math.abs.code 1 (some .int) ∈ jtbl) (hsz : st.length ≤ 4)
    (kk : jJ n d cc nL own (pc + 3) L (.int (if 0 ≤ x then x else 0 - x) :: st) h res) : jJ n d cc nL own pc L (.int x :: st) h res :=
  fun p l e R s m args below meth c cells slots Q X hr ls H locs hl hP hS => by
    have hcat := jcats (n := n) st hsz
    have hloc := X.2.2.2.2.2.2.2.2.1
    exact va_mabs X.1 X.2.1 (X.2.2.1.trans hl.1.symm) X.2.2.2.1 (X.2.2.2.2.1 _ hlink) (X.2.2.2.2.1 _ hst) (X.2.2.2.2.1 _ hini) (X.2.2.2.2.1 _ hco) (by have := X.2.2.2.2.2.2.2.1; omega) (by omega) X.2.2.2.2.2.2.2.2.2.1 X.2.2.2.2.2.2.2.2.2.2 hdg (kk p l e R s m args below meth c cells slots Q X hr ls H locs hl hP hS)
end
