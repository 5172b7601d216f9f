def T_PT : u_T := fun k => match k with
  | 0 => ("PlanText", "tape", "[B", true)
  | 1 => ("PlanText", "tapeLength", "I", false)
  | 2 => ("PlanText", "wrongPlace", "I", false)
  | 3 => ("PlanText", "units", "[I", true)
  | 4 => ("PlanText", "editions", "[LPlanText$Edition;", true)
  | 5 => ("PlanText", "editionCount", "I", false)
  | 6 => ("PlanText", "noRows", "LPlanText$Edition;", true)
  | 7 => ("PlanText", "latest", "LPlanText$Edition;", false)
  | 8 => ("PlanText", "noNeeds", "LPlanText$NeedList;", true)
  | 9 => ("PlanText", "toldNeeds", "LPlanText$NeedList;", false)
  | _ => ("PlanText", "printer", "LPlanText$Printer;", true)
def t_PT : Nat → FieldType := fun k => match k with
  | 0 => .array .byte
  | 1 => .int
  | 2 => .int
  | 3 => .array .int
  | 4 => .array (.object "PlanText$Edition")
  | 5 => .int
  | 6 => .object "PlanText$Edition"
  | 7 => .object "PlanText$Edition"
  | 8 => .object "PlanText$NeedList"
  | 9 => .object "PlanText$NeedList"
  | _ => .object "PlanText$Printer"
theorem t_PT_ok : ∀ k, k < 11 → parseFieldDescriptor (T_PT k).2.2.1 = some (t_PT k) := by decide +kernel
theorem n_PT : ∀ a, a < 11 → ∀ b, b < 11 → a ≠ b → (T_PT a).2.1 ≠ (T_PT b).2.1 := by decide +kernel
def T_Ed : u_T := fun k => match k with
  | 0 => ("PlanText$Edition", "day", "I", true)
  | 1 => ("PlanText$Edition", "plans", "[LPlanText$Plan;", true)
  | 2 => ("PlanText$Edition", "defaults", "[LPlanText$NeedList;", true)
  | 3 => ("PlanText$Edition", "standbyRows", "[LPlanText$Standby;", true)
  | 4 => ("PlanText$Edition", "planCount", "I", false)
  | 5 => ("PlanText$Edition", "defaultCount", "I", false)
  | _ => ("PlanText$Edition", "standbyCount", "I", false)
def t_Ed : Nat → FieldType := fun k => match k with
  | 0 => .int
  | 1 => .array (.object "PlanText$Plan")
  | 2 => .array (.object "PlanText$NeedList")
  | 3 => .array (.object "PlanText$Standby")
  | 4 => .int
  | 5 => .int
  | _ => .int
theorem t_Ed_ok : ∀ k, k < 7 → parseFieldDescriptor (T_Ed k).2.2.1 = some (t_Ed k) := by decide +kernel
theorem n_Ed : ∀ a, a < 7 → ∀ b, b < 7 → a ≠ b → (T_Ed a).2.1 ≠ (T_Ed b).2.1 := by decide +kernel
def T_Hr : u_T := fun k => match k with
  | 0 => ("PlanText$Hours", "told", "Z", true)
  | 1 => ("PlanText$Hours", "first", "I", true)
  | 2 => ("PlanText$Hours", "last", "I", true)
  | _ => ("PlanText$Hours", "bits", "I", true)
def t_Hr : Nat → FieldType := fun k => match k with
  | 0 => .boolean
  | 1 => .int
  | 2 => .int
  | _ => .int
theorem t_Hr_ok : ∀ k, k < 4 → parseFieldDescriptor (T_Hr k).2.2.1 = some (t_Hr k) := by decide +kernel
theorem n_Hr : ∀ a, a < 4 → ∀ b, b < 4 → a ≠ b → (T_Hr a).2.1 ≠ (T_Hr b).2.1 := by decide +kernel
def T_Nd : u_T := fun k => match k with
  | 0 => ("PlanText$Need", "units", "I", true)
  | 1 => ("PlanText$Need", "skill", "I", true)
  | 2 => ("PlanText$Need", "firstAlternative", "I", true)
  | 3 => ("PlanText$Need", "secondAlternative", "I", true)
  | _ => ("PlanText$Need", "limit", "I", true)
def t_Nd : Nat → FieldType := fun k => match k with
  | 0 => .int
  | 1 => .int
  | 2 => .int
  | 3 => .int
  | _ => .int
theorem t_Nd_ok : ∀ k, k < 5 → parseFieldDescriptor (T_Nd k).2.2.1 = some (t_Nd k) := by decide +kernel
theorem n_Nd : ∀ a, a < 5 → ∀ b, b < 5 → a ≠ b → (T_Nd a).2.1 ≠ (T_Nd b).2.1 := by decide +kernel
def T_NL : u_T := fun k => match k with
  | 0 => ("PlanText$NeedList", "needs", "[LPlanText$Need;", true)
  | _ => ("PlanText$NeedList", "size", "I", false)
def t_NL : Nat → FieldType := fun k => match k with
  | 0 => .array (.object "PlanText$Need")
  | _ => .int
theorem t_NL_ok : ∀ k, k < 2 → parseFieldDescriptor (T_NL k).2.2.1 = some (t_NL k) := by decide +kernel
theorem n_NL : ∀ a, a < 2 → ∀ b, b < 2 → a ≠ b → (T_NL a).2.1 ≠ (T_NL b).2.1 := by decide +kernel
def T_Pl : u_T := fun k => match k with
  | 0 => ("PlanText$Plan", "number", "I", true)
  | 1 => ("PlanText$Plan", "kind", "I", true)
  | 2 => ("PlanText$Plan", "stretch", "LPlanText$Stretch;", true)
  | 3 => ("PlanText$Plan", "hours", "LPlanText$Hours;", true)
  | 4 => ("PlanText$Plan", "rank", "I", true)
  | _ => ("PlanText$Plan", "needs", "LPlanText$NeedList;", true)
def t_Pl : Nat → FieldType := fun k => match k with
  | 0 => .int
  | 1 => .int
  | 2 => .object "PlanText$Stretch"
  | 3 => .object "PlanText$Hours"
  | 4 => .int
  | _ => .object "PlanText$NeedList"
theorem t_Pl_ok : ∀ k, k < 6 → parseFieldDescriptor (T_Pl k).2.2.1 = some (t_Pl k) := by decide +kernel
theorem n_Pl : ∀ a, a < 6 → ∀ b, b < 6 → a ≠ b → (T_Pl a).2.1 ≠ (T_Pl b).2.1 := by decide +kernel
def T_Pr : u_T := fun k => match k with
  | 0 => ("PlanText$Printer", "bytes", "[B", true)
  | _ => ("PlanText$Printer", "length", "I", false)
def t_Pr : Nat → FieldType := fun k => match k with
  | 0 => .array .byte
  | _ => .int
theorem t_Pr_ok : ∀ k, k < 2 → parseFieldDescriptor (T_Pr k).2.2.1 = some (t_Pr k) := by decide +kernel
theorem n_Pr : ∀ a, a < 2 → ∀ b, b < 2 → a ≠ b → (T_Pr a).2.1 ≠ (T_Pr b).2.1 := by decide +kernel
def T_Rd : u_T := fun k => match k with
  | 0 => ("PlanText$Reader", "text", "[B", true)
  | 1 => ("PlanText$Reader", "length", "I", true)
  | 2 => ("PlanText$Reader", "position", "I", false)
  | _ => ("PlanText$Reader", "wrongAt", "I", false)
def t_Rd : Nat → FieldType := fun k => match k with
  | 0 => .array .byte
  | 1 => .int
  | 2 => .int
  | _ => .int
theorem t_Rd_ok : ∀ k, k < 4 → parseFieldDescriptor (T_Rd k).2.2.1 = some (t_Rd k) := by decide +kernel
theorem n_Rd : ∀ a, a < 4 → ∀ b, b < 4 → a ≠ b → (T_Rd a).2.1 ≠ (T_Rd b).2.1 := by decide +kernel
def T_Sb : u_T := fun k => match k with
  | 0 => ("PlanText$Standby", "hours", "LPlanText$Hours;", true)
  | 1 => ("PlanText$Standby", "calls", "I", true)
  | 2 => ("PlanText$Standby", "units", "I", true)
  | _ => ("PlanText$Standby", "skill", "I", true)
def t_Sb : Nat → FieldType := fun k => match k with
  | 0 => .object "PlanText$Hours"
  | 1 => .int
  | 2 => .int
  | _ => .int
theorem t_Sb_ok : ∀ k, k < 4 → parseFieldDescriptor (T_Sb k).2.2.1 = some (t_Sb k) := by decide +kernel
theorem n_Sb : ∀ a, a < 4 → ∀ b, b < 4 → a ≠ b → (T_Sb a).2.1 ≠ (T_Sb b).2.1 := by decide +kernel
def T_Sx : u_T := fun k => match k with
  | 0 => ("PlanText$Stretch", "street", "I", true)
  | 1 => ("PlanText$Stretch", "from", "I", true)
  | _ => ("PlanText$Stretch", "to", "I", true)
def t_Sx : Nat → FieldType := fun k => match k with
  | 0 => .int
  | 1 => .int
  | _ => .int
theorem t_Sx_ok : ∀ k, k < 3 → parseFieldDescriptor (T_Sx k).2.2.1 = some (t_Sx k) := by decide +kernel
theorem n_Sx : ∀ a, a < 3 → ∀ b, b < 3 → a ≠ b → (T_Sx a).2.1 ≠ (T_Sx b).2.1 := by decide +kernel
def T_Mo : u_T := fun k => match k with
  | 0 => ("PlanTextModel", "thrown", "I", false)
  | 1 => ("PlanTextModel", "tape", "[I", true)
  | 2 => ("PlanTextModel", "taped", "I", false)
  | 3 => ("PlanTextModel", "length", "I", false)
  | 4 => ("PlanTextModel", "at", "I", false)
  | 5 => ("PlanTextModel", "wrong", "Z", false)
  | 6 => ("PlanTextModel", "place", "I", false)
  | 7 => ("PlanTextModel", "editions", "I", false)
  | 8 => ("PlanTextModel", "latest", "I", false)
  | 9 => ("PlanTextModel", "day", "[I", true)
  | 10 => ("PlanTextModel", "told", "[Z", true)
  | 11 => ("PlanTextModel", "kind", "[I", true)
  | 12 => ("PlanTextModel", "street", "[I", true)
  | 13 => ("PlanTextModel", "low", "[I", true)
  | 14 => ("PlanTextModel", "high", "[I", true)
  | 15 => ("PlanTextModel", "from", "[I", true)
  | 16 => ("PlanTextModel", "to", "[I", true)
  | 17 => ("PlanTextModel", "rank", "[I", true)
  | 18 => ("PlanTextModel", "needs", "[I", true)
  | 19 => ("PlanTextModel", "need", "[I", true)
  | 20 => ("PlanTextModel", "standbys", "[I", true)
  | 21 => ("PlanTextModel", "standby", "[I", true)
  | 22 => ("PlanTextModel", "units", "[I", true)
  | 23 => ("PlanTextModel", "asked", "I", false)
  | 24 => ("PlanTextModel", "out", "[I", true)
  | _ => ("PlanTextModel", "printed", "I", false)
def t_Mo : Nat → FieldType := fun k => match k with
  | 0 => .int
  | 1 => .array .int
  | 2 => .int
  | 3 => .int
  | 4 => .int
  | 5 => .boolean
  | 6 => .int
  | 7 => .int
  | 8 => .int
  | 9 => .array .int
  | 10 => .array .boolean
  | 11 => .array .int
  | 12 => .array .int
  | 13 => .array .int
  | 14 => .array .int
  | 15 => .array .int
  | 16 => .array .int
  | 17 => .array .int
  | 18 => .array .int
  | 19 => .array .int
  | 20 => .array .int
  | 21 => .array .int
  | 22 => .array .int
  | 23 => .int
  | 24 => .array .int
  | _ => .int
theorem t_Mo_ok : ∀ k, k < 26 → parseFieldDescriptor (T_Mo k).2.2.1 = some (t_Mo k) := by decide +kernel
theorem n_Mo : ∀ a, a < 26 → ∀ b, b < 26 → a ≠ b → (T_Mo a).2.1 ≠ (T_Mo b).2.1 := by decide +kernel
abbrev vwCl : List vw_C := [("PlanText", T_PT, 11), ("PlanText$Edition", T_Ed, 7), ("PlanText$Hours", T_Hr, 4), ("PlanText$Need", T_Nd, 5), ("PlanText$NeedList", T_NL, 2), ("PlanText$Plan", T_Pl, 6), ("PlanText$Printer", T_Pr, 2), ("PlanText$Reader", T_Rd, 4), ("PlanText$Standby", T_Sb, 4), ("PlanText$Stretch", T_Sx, 3), ("PlanTextModel", T_Mo, 26)]
abbrev gKinds : List FieldType := [.int, .long, .byte, .boolean, .object "PlanText$Edition", .object "PlanText$Plan", .object "PlanText$NeedList", .object "PlanText$Standby", .object "PlanText$Need"]
theorem lw_at {w : Cond} (i : Nat) (h : lw_tbl[i]? = some w) (g : goodWord w = true) : w ∈ lw_good := List.mem_filter.mpr ⟨List.mem_of_getElem? h, g⟩
theorem i_PT : ∀ w ∈ u_ws "PlanText" T_PT 11, w ∈ lw_good := by
  have h : (u_ws "PlanText" T_PT 11).all (fun w => [162, 164, 166, 168, 170, 172, 174, 176, 178, 180, 182].any (fun i => decide (lw_tbl[i]? = some w)) && goodWord w) = true := by decide +kernel
  intro w hw
  have h1 := List.all_eq_true.mp h w hw
  rw [Bool.and_eq_true] at h1
  obtain ⟨i, -, hi⟩ := List.any_eq_true.mp h1.1
  exact lw_at i (of_decide_eq_true hi) h1.2
theorem i_Ed : ∀ w ∈ u_ws "PlanText$Edition" T_Ed 7, w ∈ lw_good := by
  have h : (u_ws "PlanText$Edition" T_Ed 7).all (fun w => [105, 107, 109, 111, 113, 115, 117].any (fun i => decide (lw_tbl[i]? = some w)) && goodWord w) = true := by decide +kernel
  intro w hw
  have h1 := List.all_eq_true.mp h w hw
  rw [Bool.and_eq_true] at h1
  obtain ⟨i, -, hi⟩ := List.any_eq_true.mp h1.1
  exact lw_at i (of_decide_eq_true hi) h1.2
theorem i_Hr : ∀ w ∈ u_ws "PlanText$Hours" T_Hr 4, w ∈ lw_good := by
  have h : (u_ws "PlanText$Hours" T_Hr 4).all (fun w => [409, 411, 413, 415].any (fun i => decide (lw_tbl[i]? = some w)) && goodWord w) = true := by decide +kernel
  intro w hw
  have h1 := List.all_eq_true.mp h w hw
  rw [Bool.and_eq_true] at h1
  obtain ⟨i, -, hi⟩ := List.any_eq_true.mp h1.1
  exact lw_at i (of_decide_eq_true hi) h1.2
theorem i_Nd : ∀ w ∈ u_ws "PlanText$Need" T_Nd 5, w ∈ lw_good := by
  have h : (u_ws "PlanText$Need" T_Nd 5).all (fun w => [455, 457, 459, 461, 463].any (fun i => decide (lw_tbl[i]? = some w)) && goodWord w) = true := by decide +kernel
  intro w hw
  have h1 := List.all_eq_true.mp h w hw
  rw [Bool.and_eq_true] at h1
  obtain ⟨i, -, hi⟩ := List.any_eq_true.mp h1.1
  exact lw_at i (of_decide_eq_true hi) h1.2
theorem i_NL : ∀ w ∈ u_ws "PlanText$NeedList" T_NL 2, w ∈ lw_good := by
  have h : (u_ws "PlanText$NeedList" T_NL 2).all (fun w => [132, 134].any (fun i => decide (lw_tbl[i]? = some w)) && goodWord w) = true := by decide +kernel
  intro w hw
  have h1 := List.all_eq_true.mp h w hw
  rw [Bool.and_eq_true] at h1
  obtain ⟨i, -, hi⟩ := List.any_eq_true.mp h1.1
  exact lw_at i (of_decide_eq_true hi) h1.2
theorem i_Pl : ∀ w ∈ u_ws "PlanText$Plan" T_Pl 6, w ∈ lw_good := by
  have h : (u_ws "PlanText$Plan" T_Pl 6).all (fun w => [492, 494, 496, 498, 500, 502].any (fun i => decide (lw_tbl[i]? = some w)) && goodWord w) = true := by decide +kernel
  intro w hw
  have h1 := List.all_eq_true.mp h w hw
  rw [Bool.and_eq_true] at h1
  obtain ⟨i, -, hi⟩ := List.any_eq_true.mp h1.1
  exact lw_at i (of_decide_eq_true hi) h1.2
theorem i_Pr : ∀ w ∈ u_ws "PlanText$Printer" T_Pr 2, w ∈ lw_good := by
  have h : (u_ws "PlanText$Printer" T_Pr 2).all (fun w => [146, 148].any (fun i => decide (lw_tbl[i]? = some w)) && goodWord w) = true := by decide +kernel
  intro w hw
  have h1 := List.all_eq_true.mp h w hw
  rw [Bool.and_eq_true] at h1
  obtain ⟨i, -, hi⟩ := List.any_eq_true.mp h1.1
  exact lw_at i (of_decide_eq_true hi) h1.2
theorem i_Rd : ∀ w ∈ u_ws "PlanText$Reader" T_Rd 4, w ∈ lw_good := by
  have h : (u_ws "PlanText$Reader" T_Rd 4).all (fun w => [311, 313, 315, 317].any (fun i => decide (lw_tbl[i]? = some w)) && goodWord w) = true := by decide +kernel
  intro w hw
  have h1 := List.all_eq_true.mp h w hw
  rw [Bool.and_eq_true] at h1
  obtain ⟨i, -, hi⟩ := List.any_eq_true.mp h1.1
  exact lw_at i (of_decide_eq_true hi) h1.2
theorem i_Sb : ∀ w ∈ u_ws "PlanText$Standby" T_Sb 4, w ∈ lw_good := by
  have h : (u_ws "PlanText$Standby" T_Sb 4).all (fun w => [544, 546, 548, 550].any (fun i => decide (lw_tbl[i]? = some w)) && goodWord w) = true := by decide +kernel
  intro w hw
  have h1 := List.all_eq_true.mp h w hw
  rw [Bool.and_eq_true] at h1
  obtain ⟨i, -, hi⟩ := List.any_eq_true.mp h1.1
  exact lw_at i (of_decide_eq_true hi) h1.2
theorem i_Sx : ∀ w ∈ u_ws "PlanText$Stretch" T_Sx 3, w ∈ lw_good := by
  have h : (u_ws "PlanText$Stretch" T_Sx 3).all (fun w => [380, 382, 384].any (fun i => decide (lw_tbl[i]? = some w)) && goodWord w) = true := by decide +kernel
  intro w hw
  have h1 := List.all_eq_true.mp h w hw
  rw [Bool.and_eq_true] at h1
  obtain ⟨i, -, hi⟩ := List.any_eq_true.mp h1.1
  exact lw_at i (of_decide_eq_true hi) h1.2
theorem i_Mo : ∀ w ∈ u_ws "PlanTextModel" T_Mo 26, w ∈ lw_good := by
  have h : (u_ws "PlanTextModel" T_Mo 26).all (fun w => [844, 846, 848, 850, 852, 854, 856, 858, 860, 862, 864, 866, 868, 870, 872, 874, 876, 878, 880, 882, 884, 886, 888, 890, 892, 894].any (fun i => decide (lw_tbl[i]? = some w)) && goodWord w) = true := by decide +kernel
  intro w hw
  have h1 := List.all_eq_true.mp h w hw
  rw [Bool.and_eq_true] at h1
  obtain ⟨i, -, hi⟩ := List.any_eq_true.mp h1.1
  exact lw_at i (of_decide_eq_true hi) h1.2
