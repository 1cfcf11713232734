theorem xm_inp {big : List Cond} (ws : List Cond) (ps : List Nat) (hp : ws = ps.filterMap (fun i => big[i]?)) : ∀ w ∈ ws, w ∈ big := by
  intro w hw
  rw [hp] at hw
  obtain ⟨i, -, hi⟩ := List.mem_filterMap.mp hw
  exact List.mem_of_getElem? hi
/-! names of the classes, of the cells, constants -/
def R_0 : String := "ThroughOthers$Chains"
def T_0 : u_T := fun k => match k with
  | 0 => ("ThroughOthers$Chains", "net", "LThroughOthers$Net;", true)
  | 1 => ("ThroughOthers$Chains", "going", "[J", true)
  | 2 => ("ThroughOthers$Chains", "ended", "[J", true)
  | 3 => ("ThroughOthers$Chains", "followedChanges", "I", false)
  | 4 => ("ThroughOthers$Chains", "followedStart", "I", false)
  | 5 => ("ThroughOthers$Chains", "followedLength", "I", false)
  | _ => ("ThroughOthers$Chains", "whole", "J", false)
def ty_0 : Nat → FieldType := fun k => match k with
  | 0 => .object "ThroughOthers$Net"
  | 1 => .array .long
  | 2 => .array .long
  | 3 => .int
  | 4 => .int
  | 5 => .int
  | _ => .long
theorem nm_0 : ∀ a, a < 7 → ∀ b, b < 7 → a ≠ b → (T_0 a).2.1 ≠ (T_0 b).2.1 := by decide +kernel
theorem ty_0_ok : ∀ k, k < 7 → parseFieldDescriptor (T_0 k).2.2.1 = some (ty_0 k) := by decide +kernel
theorem in_0 : ∀ w ∈ u_ws R_0 T_0 7, w ∈ lw_tbl := xm_inp _ [116, 118, 120, 122, 124, 126, 128] (by decide +kernel)
def R_1 : String := "ThroughOthers$Deals"
def T_1 : u_T := fun k => match k with
  | 0 => ("ThroughOthers$Deals", "records", "LThroughOthers$Records;", true)
  | 1 => ("ThroughOthers$Deals", "order", "[I", true)
  | 2 => ("ThroughOthers$Deals", "bringerOrder", "[I", true)
  | _ => ("ThroughOthers$Deals", "number", "I", false)
def ty_1 : Nat → FieldType := fun k => match k with
  | 0 => .object "ThroughOthers$Records"
  | 1 => .array .int
  | 2 => .array .int
  | _ => .int
theorem nm_1 : ∀ a, a < 4 → ∀ b, b < 4 → a ≠ b → (T_1 a).2.1 ≠ (T_1 b).2.1 := by decide +kernel
theorem ty_1_ok : ∀ k, k < 4 → parseFieldDescriptor (T_1 k).2.2.1 = some (ty_1 k) := by decide +kernel
theorem in_1 : ∀ w ∈ u_ws R_1 T_1 4, w ∈ lw_tbl := xm_inp _ [241, 243, 245, 247] (by decide +kernel)
def R_2 : String := "ThroughOthers$Marks"
def T_2 : u_T := fun k => match k with
  | 0 => ("ThroughOthers$Marks", "records", "LThroughOthers$Records;", true)
  | 1 => ("ThroughOthers$Marks", "signs", "[I", true)
  | 2 => ("ThroughOthers$Marks", "lengths", "[I", true)
  | 3 => ("ThroughOthers$Marks", "dealt", "[I", true)
  | 4 => ("ThroughOthers$Marks", "clashing", "[I", true)
  | 5 => ("ThroughOthers$Marks", "person", "[I", true)
  | 6 => ("ThroughOthers$Marks", "members", "[I", true)
  | _ => ("ThroughOthers$Marks", "number", "I", false)
def ty_2 : Nat → FieldType := fun k => match k with
  | 0 => .object "ThroughOthers$Records"
  | 1 => .array .int
  | 2 => .array .int
  | 3 => .array .int
  | 4 => .array .int
  | 5 => .array .int
  | 6 => .array .int
  | _ => .int
theorem nm_2 : ∀ a, a < 8 → ∀ b, b < 8 → a ≠ b → (T_2 a).2.1 ≠ (T_2 b).2.1 := by decide +kernel
theorem ty_2_ok : ∀ k, k < 8 → parseFieldDescriptor (T_2 k).2.2.1 = some (ty_2 k) := by decide +kernel
theorem in_2 : ∀ w ∈ u_ws R_2 T_2 8, w ∈ lw_tbl := xm_inp _ [265, 267, 269, 271, 273, 275, 277, 279] (by decide +kernel)
def R_3 : String := "ThroughOthers$Net"
def T_3 : u_T := fun k => match k with
  | 0 => ("ThroughOthers$Net", "ties", "[I", true)
  | 1 => ("ThroughOthers$Net", "size", "I", false)
  | 2 => ("ThroughOthers$Net", "kindBits", "I", false)
  | _ => ("ThroughOthers$Net", "changes", "I", false)
def ty_3 : Nat → FieldType := fun k => match k with
  | 0 => .array .int
  | 1 => .int
  | 2 => .int
  | _ => .int
theorem nm_3 : ∀ a, a < 4 → ∀ b, b < 4 → a ≠ b → (T_3 a).2.1 ≠ (T_3 b).2.1 := by decide +kernel
theorem ty_3_ok : ∀ k, k < 4 → parseFieldDescriptor (T_3 k).2.2.1 = some (ty_3 k) := by decide +kernel
theorem in_3 : ∀ w ∈ u_ws R_3 T_3 4, w ∈ lw_tbl := xm_inp _ [92, 94, 96, 98] (by decide +kernel)
def R_4 : String := "ThroughOthers$Records"
def T_4 : u_T := fun k => match k with
  | 0 => ("ThroughOthers$Records", "bringer", "[I", true)
  | 1 => ("ThroughOthers$Records", "kind", "[I", true)
  | 2 => ("ThroughOthers$Records", "knows", "[I", true)
  | 3 => ("ThroughOthers$Records", "day", "[I", true)
  | 4 => ("ThroughOthers$Records", "back", "[I", true)
  | 5 => ("ThroughOthers$Records", "wave", "[I", true)
  | 6 => ("ThroughOthers$Records", "tree", "[I", true)
  | 7 => ("ThroughOthers$Records", "brought", "[I", true)
  | 8 => ("ThroughOthers$Records", "counts", "[Z", true)
  | 9 => ("ThroughOthers$Records", "count", "I", false)
  | 10 => ("ThroughOthers$Records", "latestDay", "I", false)
  | 11 => ("ThroughOthers$Records", "asOf", "I", false)
  | _ => ("ThroughOthers$Records", "from", "I", false)
def ty_4 : Nat → FieldType := fun k => match k with
  | 0 => .array .int
  | 1 => .array .int
  | 2 => .array .int
  | 3 => .array .int
  | 4 => .array .int
  | 5 => .array .int
  | 6 => .array .int
  | 7 => .array .int
  | 8 => .array .boolean
  | 9 => .int
  | 10 => .int
  | 11 => .int
  | _ => .int
theorem nm_4 : ∀ a, a < 13 → ∀ b, b < 13 → a ≠ b → (T_4 a).2.1 ≠ (T_4 b).2.1 := by decide +kernel
theorem ty_4_ok : ∀ k, k < 13 → parseFieldDescriptor (T_4 k).2.2.1 = some (ty_4 k) := by decide +kernel
theorem in_4 : ∀ w ∈ u_ws R_4 T_4 13, w ∈ lw_tbl := xm_inp _ [190, 192, 194, 196, 198, 200, 202, 204, 206, 208, 210, 212, 214] (by decide +kernel)
def R_5 : String := "ThroughOthers$Shares"
def T_5 : u_T := fun k => match k with
  | 0 => ("ThroughOthers$Shares", "records", "LThroughOthers$Records;", true)
  | _ => ("ThroughOthers$Shares", "pairs", "[I", true)
def ty_5 : Nat → FieldType := fun k => match k with
  | 0 => .object "ThroughOthers$Records"
  | _ => .array .int
theorem nm_5 : ∀ a, a < 2 → ∀ b, b < 2 → a ≠ b → (T_5 a).2.1 ≠ (T_5 b).2.1 := by decide +kernel
theorem ty_5_ok : ∀ k, k < 2 → parseFieldDescriptor (T_5 k).2.2.1 = some (ty_5 k) := by decide +kernel
theorem in_5 : ∀ w ∈ u_ws R_5 T_5 2, w ∈ lw_tbl := xm_inp _ [226, 228] (by decide +kernel)
def R_6 : String := "ThroughOthers$Sheets"
def T_6 : u_T := fun k => match k with
  | 0 => ("ThroughOthers$Sheets", "forms", "[I", true)
  | 1 => ("ThroughOthers$Sheets", "sizes", "[I", true)
  | 2 => ("ThroughOthers$Sheets", "items", "[[I", true)
  | _ => ("ThroughOthers$Sheets", "latest", "I", false)
def ty_6 : Nat → FieldType := fun k => match k with
  | 0 => .array .int
  | 1 => .array .int
  | 2 => .array (.array .int)
  | _ => .int
theorem nm_6 : ∀ a, a < 4 → ∀ b, b < 4 → a ≠ b → (T_6 a).2.1 ≠ (T_6 b).2.1 := by decide +kernel
theorem ty_6_ok : ∀ k, k < 4 → parseFieldDescriptor (T_6 k).2.2.1 = some (ty_6 k) := by decide +kernel
theorem in_6 : ∀ w ∈ u_ws R_6 T_6 4, w ∈ lw_tbl := xm_inp _ [301, 303, 305, 307] (by decide +kernel)
def R_7 : String := "ThroughOthers$Walk"
def T_7 : u_T := fun k => match k with
  | 0 => ("ThroughOthers$Walk", "net", "LThroughOthers$Net;", true)
  | 1 => ("ThroughOthers$Walk", "next", "[J", true)
  | 2 => ("ThroughOthers$Walk", "now", "[J", true)
  | _ => ("ThroughOthers$Walk", "whole", "J", false)
def ty_7 : Nat → FieldType := fun k => match k with
  | 0 => .object "ThroughOthers$Net"
  | 1 => .array .long
  | 2 => .array .long
  | _ => .long
theorem nm_7 : ∀ a, a < 4 → ∀ b, b < 4 → a ≠ b → (T_7 a).2.1 ≠ (T_7 b).2.1 := by decide +kernel
theorem ty_7_ok : ∀ k, k < 4 → parseFieldDescriptor (T_7 k).2.2.1 = some (ty_7 k) := by decide +kernel
theorem in_7 : ∀ w ∈ u_ws R_7 T_7 4, w ∈ lw_tbl := xm_inp _ [144, 146, 148, 150] (by decide +kernel)
def R_8 : String := "ThroughOthers"
def T_8 : u_T := fun k => match k with
  | 0 => ("ThroughOthers", "net", "LThroughOthers$Net;", true)
  | 1 => ("ThroughOthers", "chains", "LThroughOthers$Chains;", true)
  | 2 => ("ThroughOthers", "walk", "LThroughOthers$Walk;", true)
  | 3 => ("ThroughOthers", "records", "LThroughOthers$Records;", true)
  | 4 => ("ThroughOthers", "shares", "LThroughOthers$Shares;", true)
  | 5 => ("ThroughOthers", "deals", "LThroughOthers$Deals;", true)
  | 6 => ("ThroughOthers", "marks", "LThroughOthers$Marks;", true)
  | 7 => ("ThroughOthers", "sheets", "LThroughOthers$Sheets;", true)
  | 8 => ("ThroughOthers", "start", "I", false)
  | _ => ("ThroughOthers", "length", "I", false)
def ty_8 : Nat → FieldType := fun k => match k with
  | 0 => .object "ThroughOthers$Net"
  | 1 => .object "ThroughOthers$Chains"
  | 2 => .object "ThroughOthers$Walk"
  | 3 => .object "ThroughOthers$Records"
  | 4 => .object "ThroughOthers$Shares"
  | 5 => .object "ThroughOthers$Deals"
  | 6 => .object "ThroughOthers$Marks"
  | 7 => .object "ThroughOthers$Sheets"
  | 8 => .int
  | _ => .int
theorem nm_8 : ∀ a, a < 10 → ∀ b, b < 10 → a ≠ b → (T_8 a).2.1 ≠ (T_8 b).2.1 := by decide +kernel
theorem ty_8_ok : ∀ k, k < 10 → parseFieldDescriptor (T_8 k).2.2.1 = some (ty_8 k) := by decide +kernel
theorem in_8 : ∀ w ∈ u_ws R_8 T_8 10, w ∈ lw_tbl := xm_inp _ [320, 322, 324, 326, 328, 330, 332, 334, 336, 338] (by decide +kernel)
def R_9 : String := "ThroughOthersModel"
def T_9 : u_T := fun k => match k with
  | 0 => ("ThroughOthersModel", "forms", "[I", true)
  | 1 => ("ThroughOthersModel", "sizes", "[I", true)
  | 2 => ("ThroughOthersModel", "items", "[I", true)
  | 3 => ("ThroughOthersModel", "moved", "[I", true)
  | 4 => ("ThroughOthersModel", "latest", "I", false)
  | 5 => ("ThroughOthersModel", "persons", "I", false)
  | 6 => ("ThroughOthersModel", "tied", "[I", true)
  | 7 => ("ThroughOthersModel", "kinds", "[I", true)
  | 8 => ("ThroughOthersModel", "start", "I", false)
  | 9 => ("ThroughOthersModel", "length", "I", false)
  | 10 => ("ThroughOthersModel", "asOf", "I", false)
  | 11 => ("ThroughOthersModel", "from", "I", false)
  | 12 => ("ThroughOthersModel", "path", "[I", true)
  | 13 => ("ThroughOthersModel", "options", "[I", true)
  | 14 => ("ThroughOthersModel", "weights", "[J", true)
  | 15 => ("ThroughOthersModel", "shares", "[J", true)
  | 16 => ("ThroughOthersModel", "used", "I", false)
  | 17 => ("ThroughOthersModel", "whole", "J", false)
  | 18 => ("ThroughOthersModel", "foundSum", "[J", true)
  | 19 => ("ThroughOthersModel", "bothSum", "[J", true)
  | 20 => ("ThroughOthersModel", "sizeSum", "[J", true)
  | 21 => ("ThroughOthersModel", "kindSum", "[J", true)
  | 22 => ("ThroughOthersModel", "withinSum", "J", false)
  | 23 => ("ThroughOthersModel", "within", "I", false)
  | 24 => ("ThroughOthersModel", "ats", "[J", true)
  | 25 => ("ThroughOthersModel", "nexts", "[J", true)
  | 26 => ("ThroughOthersModel", "records", "I", false)
  | 27 => ("ThroughOthersModel", "bringer", "[I", true)
  | 28 => ("ThroughOthersModel", "kindOf", "[I", true)
  | 29 => ("ThroughOthersModel", "knows", "[I", true)
  | 30 => ("ThroughOthersModel", "day", "[I", true)
  | 31 => ("ThroughOthersModel", "back", "[I", true)
  | 32 => ("ThroughOthersModel", "brought", "[I", true)
  | 33 => ("ThroughOthersModel", "waveOf", "[I", true)
  | 34 => ("ThroughOthersModel", "treeOf", "[I", true)
  | 35 => ("ThroughOthersModel", "lastDay", "I", false)
  | 36 => ("ThroughOthersModel", "counts", "[Z", true)
  | 37 => ("ThroughOthersModel", "above", "J", false)
  | 38 => ("ThroughOthersModel", "below", "J", false)
  | 39 => ("ThroughOthersModel", "byNone", "I", false)
  | 40 => ("ThroughOthersModel", "byOne", "I", false)
  | 41 => ("ThroughOthersModel", "noneOne", "I", false)
  | 42 => ("ThroughOthersModel", "oneNone", "I", false)
  | 43 => ("ThroughOthersModel", "who", "[I", true)
  | 44 => ("ThroughOthersModel", "place", "[I", true)
  | 45 => ("ThroughOthersModel", "many", "I", false)
  | 46 => ("ThroughOthersModel", "marks", "[I", true)
  | 47 => ("ThroughOthersModel", "signs", "[I", true)
  | _ => ("ThroughOthersModel", "numbers", "[I", true)
def ty_9 : Nat → FieldType := fun k => match k with
  | 0 => .array .int
  | 1 => .array .int
  | 2 => .array .int
  | 3 => .array .int
  | 4 => .int
  | 5 => .int
  | 6 => .array .int
  | 7 => .array .int
  | 8 => .int
  | 9 => .int
  | 10 => .int
  | 11 => .int
  | 12 => .array .int
  | 13 => .array .int
  | 14 => .array .long
  | 15 => .array .long
  | 16 => .int
  | 17 => .long
  | 18 => .array .long
  | 19 => .array .long
  | 20 => .array .long
  | 21 => .array .long
  | 22 => .long
  | 23 => .int
  | 24 => .array .long
  | 25 => .array .long
  | 26 => .int
  | 27 => .array .int
  | 28 => .array .int
  | 29 => .array .int
  | 30 => .array .int
  | 31 => .array .int
  | 32 => .array .int
  | 33 => .array .int
  | 34 => .array .int
  | 35 => .int
  | 36 => .array .boolean
  | 37 => .long
  | 38 => .long
  | 39 => .int
  | 40 => .int
  | 41 => .int
  | 42 => .int
  | 43 => .array .int
  | 44 => .array .int
  | 45 => .int
  | 46 => .array .int
  | 47 => .array .int
  | _ => .array .int
theorem nm_9 : ∀ a, a < 49 → ∀ b, b < 49 → a ≠ b → (T_9 a).2.1 ≠ (T_9 b).2.1 := by decide +kernel
theorem ty_9_ok : ∀ k, k < 49 → parseFieldDescriptor (T_9 k).2.2.1 = some (ty_9 k) := by decide +kernel
theorem in_9 : ∀ w ∈ u_ws R_9 T_9 49, w ∈ lw_tbl := xm_inp _ [971, 973, 975, 977, 979, 981, 983, 985, 987, 989, 991, 993, 995, 997, 999, 1001, 1003, 1005, 1007, 1009, 1011, 1013, 1015, 1017, 1019, 1021, 1023, 1025, 1027, 1029, 1031, 1033, 1035, 1037, 1039, 1041, 1043, 1045, 1047, 1049, 1051, 1053, 1055, 1057, 1059, 1061, 1063, 1065, 1067] (by decide +kernel)
abbrev xm_cl : List vw_C := [(R_0, T_0, 7), (R_1, T_1, 4), (R_2, T_2, 8), (R_3, T_3, 4), (R_4, T_4, 13), (R_5, T_5, 2), (R_6, T_6, 4), (R_7, T_7, 4), (R_8, T_8, 10), (R_9, T_9, 49)]
abbrev Sg : Type := (Nat → Nat → Int32) × (Nat → Nat → Int64)
abbrev RV : Type := Option Value × Sg
abbrev Ety : Type := Nat × Instr × List Nat × Nat × Nat
abbrev Sh : Type := (Nat × Nat × Nat) ⊕ (Nat × List Nat)
def xm_sh : List Sh := [.inr (8, [3, 5, 8, 11, 21, 23, 26, 33, 0, 0]), .inr (3, [4, 0, 0, 0]), .inl (0, 9, 0), .inr (0, [3, 6, 7, 0, 0, 0, 1]), .inl (1, 4608, 0), .inl (1, 512, 0), .inr (7, [3, 9, 10, 1]), .inl (1, 9, 0), .inl (1, 9, 0), .inr (4, [12, 13, 14, 15, 16, 17, 18, 19, 20, 0, 0, 0, 0]), .inl (0, 24, 0), .inl (0, 24, 0), .inl (0, 24, 0), .inl (0, 24, 0), .inl (0, 24, 0), .inl (0, 24, 0), .inl (0, 24, 0), .inl (0, 24, 0), .inl (2, 24, 0), .inr (5, [11, 22]), .inl (0, 4, 0), .inr (1, [11, 24, 25, 0]), .inl (0, 24, 0), .inl (0, 14, 0), .inr (2, [11, 27, 28, 29, 30, 31, 32, 0]), .inl (0, 192, 0), .inl (0, 24, 0), .inl (0, 12, 0), .inl (0, 12, 0), .inl (0, 12, 0), .inl (0, 12, 0), .inr (6, [34, 35, 36, 0]), .inl (0, 4, 0), .inl (0, 4, 0), .inl (3, 4, 35), .inl (0, 60, 0), .inl (0, 60, 0), .inl (0, 60, 0), .inl (0, 60, 0), .inr (9, [42, 43, 44, 45, 0, 0, 46, 47, 0, 0, 0, 0, 48, 49, 50, 51, 0, 1, 52, 53, 54, 55, 1, 0, 56, 57, 0, 58, 59, 60, 61, 62, 63, 64, 65, 0, 66, 1, 1, 0, 0, 0, 0, 67, 68, 0, 69, 70, 71]), .inl (0, 4, 0), .inl (0, 4, 0), .inl (0, 240, 0), .inl (0, 60, 0), .inl (0, 9, 0), .inl (0, 9, 0), .inl (0, 7, 0), .inl (0, 7, 0), .inl (1, 7, 0), .inl (1, 7, 0), .inl (1, 9, 0), .inl (1, 81, 0), .inl (1, 8, 0), .inl (1, 8, 0), .inl (1, 9, 0), .inl (1, 9, 0), .inl (0, 24, 0), .inl (0, 24, 0), .inl (0, 24, 0), .inl (0, 24, 0), .inl (0, 24, 0), .inl (0, 24, 0), .inl (0, 24, 0), .inl (0, 24, 0), .inl (2, 24, 0), .inl (0, 24, 0), .inl (0, 24, 0), .inl (0, 192, 0), .inl (0, 24, 0), .inl (0, 12, 0)]
def xm_kI : List Int32 := [0, 1, (-1), 2, 3, 4, 9, (-2), (-10), 1431655765, 858993459, 252645135, 8, 16, 63, (-5), 7, 99, (-3), 200, 100, 840, 5, 20, 24, (-4), 14, 16384, 1000000, 2147483647, 32, 65536, 256, 6, 23, 255, 97, 122, 12, 60, (-2147483648), 10, 81]
def xm_kL : List Int64 := [0, 1, (-9223372036854775808), 91445760000, 100, 418211942400000, 2, 232792560, 26771144400, 1000000, (-1), 17, 31, 3, 9, 7, 99, 351298031616000000, 840, 5, 20, 6, 23, 255, 97, 122, 8]
def xm_sw : List (Nat × List (Int32 × Nat)) := [(78, [(0, 32), (1, 54), (2, 62), (3, 70)]), (46, [(0, 28), (1, 33), (2, 38)]), (101, [(0, 44), (1, 51), (2, 58), (3, 65), (4, 72), (5, 87), (6, 94)]), (140, [(0, 56), (1, 64), (2, 81), (3, 89), (4, 97), (5, 105), (6, 114), (7, 119), (8, 124), (9, 132)]), (162, [(0, 56), (1, 61), (2, 68), (3, 97), (4, 102), (5, 111), (6, 120), (7, 125), (8, 130), (9, 135)])]
