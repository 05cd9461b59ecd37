def cT_F : u_T := fun k => match k with
  | 0 => ("FigureLeave", "now", "LFigureLeave$House;", true)
  | 1 => ("FigureLeave", "draft", "LFigureLeave$House;", true)
  | 2 => ("FigureLeave", "images", "[LFigureLeave$House;", true)
  | 3 => ("FigureLeave", "clerk", "LFigureLeave$Clerk;", true)
  | 4 => ("FigureLeave", "sleuth", "LFigureLeave$Sleuth;", true)
  | 5 => ("FigureLeave", "text", "LFigureLeave$Text;", true)
  | 6 => ("FigureLeave", "line", "LFigureLeave$Line;", true)
  | 7 => ("FigureLeave", "above", "I", false)
  | 8 => ("FigureLeave", "below", "I", false)
  | 9 => ("FigureLeave", "refusedBad", "I", false)
  | 10 => ("FigureLeave", "refusedNo", "I", false)
  | _ => ("FigureLeave", "refusedFull", "I", false)
def cy_F : Nat → FieldType := fun k => match k with
  | 0 => .object "FigureLeave$House"
  | 1 => .object "FigureLeave$House"
  | 2 => .array (.object "FigureLeave$House")
  | 3 => .object "FigureLeave$Clerk"
  | 4 => .object "FigureLeave$Sleuth"
  | 5 => .object "FigureLeave$Text"
  | 6 => .object "FigureLeave$Line"
  | 7 => .int
  | 8 => .int
  | 9 => .int
  | 10 => .int
  | _ => .int
theorem cn_F : ∀ a, a < 12 → ∀ b, b < 12 → a ≠ b → (cT_F a).2.1 ≠ (cT_F b).2.1 := by decide +kernel
theorem cp_F : ∀ k, k < 12 → parseFieldDescriptor (cT_F k).2.2.1 = some (cy_F k) := by decide +kernel
theorem cw_F : ∀ w ∈ u_ws "FigureLeave" cT_F 12, w ∈ gw := fun w hw => by
  have h : (u_ws "FigureLeave" cT_F 12).all (fun w => decide (w ∈ lw_tbl) && goodWord w) = true := by decide +kernel
  have h1 := List.all_eq_true.mp h w hw
  simp only [Bool.and_eq_true, decide_eq_true_eq] at h1
  exact gw_in h1.1 h1.2
def cT_H : u_T := fun k => match k with
  | 0 => ("FigureLeave$House", "kind", "[I", true)
  | 1 => ("FigureLeave$House", "strength", "[I", true)
  | 2 => ("FigureLeave$House", "shift", "LFigureLeave$Shift;", true)
  | 3 => ("FigureLeave$House", "bills", "LFigureLeave$Bills;", true)
  | 4 => ("FigureLeave$House", "clues", "LFigureLeave$Clues;", true)
  | _ => ("FigureLeave$House", "past", "LFigureLeave$Past;", true)
def cy_H : Nat → FieldType := fun k => match k with
  | 0 => .array .int
  | 1 => .array .int
  | 2 => .object "FigureLeave$Shift"
  | 3 => .object "FigureLeave$Bills"
  | 4 => .object "FigureLeave$Clues"
  | _ => .object "FigureLeave$Past"
theorem cn_H : ∀ a, a < 6 → ∀ b, b < 6 → a ≠ b → (cT_H a).2.1 ≠ (cT_H b).2.1 := by decide +kernel
theorem cp_H : ∀ k, k < 6 → parseFieldDescriptor (cT_H k).2.2.1 = some (cy_H k) := by decide +kernel
theorem cw_H : ∀ w ∈ u_ws "FigureLeave$House" cT_H 6, w ∈ gw := fun w hw => by
  have h : (u_ws "FigureLeave$House" cT_H 6).all (fun w => decide (w ∈ lw_tbl) && goodWord w) = true := by decide +kernel
  have h1 := List.all_eq_true.mp h w hw
  simp only [Bool.and_eq_true, decide_eq_true_eq] at h1
  exact gw_in h1.1 h1.2
def cT_S : u_T := fun k => match k with
  | 0 => ("FigureLeave$Shift", "worn", "[I", true)
  | _ => ("FigureLeave$Shift", "day", "I", false)
def cy_S : Nat → FieldType := fun k => match k with
  | 0 => .array .int
  | _ => .int
theorem cn_S : ∀ a, a < 2 → ∀ b, b < 2 → a ≠ b → (cT_S a).2.1 ≠ (cT_S b).2.1 := by decide +kernel
theorem cp_S : ∀ k, k < 2 → parseFieldDescriptor (cT_S k).2.2.1 = some (cy_S k) := by decide +kernel
theorem cw_S : ∀ w ∈ u_ws "FigureLeave$Shift" cT_S 2, w ∈ gw := fun w hw => by
  have h : (u_ws "FigureLeave$Shift" cT_S 2).all (fun w => decide (w ∈ lw_tbl) && goodWord w) = true := by decide +kernel
  have h1 := List.all_eq_true.mp h w hw
  simp only [Bool.and_eq_true, decide_eq_true_eq] at h1
  exact gw_in h1.1 h1.2
def cT_B : u_T := fun k => match k with
  | 0 => ("FigureLeave$Bills", "number", "[I", true)
  | 1 => ("FigureLeave$Bills", "worth", "[I", true)
  | 2 => ("FigureLeave$Bills", "size", "I", false)
  | 3 => ("FigureLeave$Bills", "paid", "I", false)
  | _ => ("FigureLeave$Bills", "earned", "I", false)
def cy_B : Nat → FieldType := fun k => match k with
  | 0 => .array .int
  | 1 => .array .int
  | 2 => .int
  | 3 => .int
  | _ => .int
theorem cn_B : ∀ a, a < 5 → ∀ b, b < 5 → a ≠ b → (cT_B a).2.1 ≠ (cT_B b).2.1 := by decide +kernel
theorem cp_B : ∀ k, k < 5 → parseFieldDescriptor (cT_B k).2.2.1 = some (cy_B k) := by decide +kernel
theorem cw_B : ∀ w ∈ u_ws "FigureLeave$Bills" cT_B 5, w ∈ gw := fun w hw => by
  have h : (u_ws "FigureLeave$Bills" cT_B 5).all (fun w => decide (w ∈ lw_tbl) && goodWord w) = true := by decide +kernel
  have h1 := List.all_eq_true.mp h w hw
  simp only [Bool.and_eq_true, decide_eq_true_eq] at h1
  exact gw_in h1.1 h1.2
def cT_C : u_T := fun k => match k with
  | 0 => ("FigureLeave$Clues", "traceFigure", "[I", true)
  | 1 => ("FigureLeave$Clues", "traceMore", "[I", true)
  | 2 => ("FigureLeave$Clues", "traces", "I", false)
  | 3 => ("FigureLeave$Clues", "noteFigure", "[I", true)
  | 4 => ("FigureLeave$Clues", "noteSign", "[I", true)
  | 5 => ("FigureLeave$Clues", "noteDay", "[I", true)
  | 6 => ("FigureLeave$Clues", "noteMore", "[I", true)
  | _ => ("FigureLeave$Clues", "notes", "I", false)
def cy_C : Nat → FieldType := fun k => match k with
  | 0 => .array .int
  | 1 => .array .int
  | 2 => .int
  | 3 => .array .int
  | 4 => .array .int
  | 5 => .array .int
  | 6 => .array .int
  | _ => .int
theorem cn_C : ∀ a, a < 8 → ∀ b, b < 8 → a ≠ b → (cT_C a).2.1 ≠ (cT_C b).2.1 := by decide +kernel
theorem cp_C : ∀ k, k < 8 → parseFieldDescriptor (cT_C k).2.2.1 = some (cy_C k) := by decide +kernel
theorem cw_C : ∀ w ∈ u_ws "FigureLeave$Clues" cT_C 8, w ∈ gw := fun w hw => by
  have h : (u_ws "FigureLeave$Clues" cT_C 8).all (fun w => decide (w ∈ lw_tbl) && goodWord w) = true := by decide +kernel
  have h1 := List.all_eq_true.mp h w hw
  simp only [Bool.and_eq_true, decide_eq_true_eq] at h1
  exact gw_in h1.1 h1.2
def cT_P : u_T := fun k => match k with
  | 0 => ("FigureLeave$Past", "rows", "[I", true)
  | _ => ("FigureLeave$Past", "size", "I", false)
def cy_P : Nat → FieldType := fun k => match k with
  | 0 => .array .int
  | _ => .int
theorem cn_P : ∀ a, a < 2 → ∀ b, b < 2 → a ≠ b → (cT_P a).2.1 ≠ (cT_P b).2.1 := by decide +kernel
theorem cp_P : ∀ k, k < 2 → parseFieldDescriptor (cT_P k).2.2.1 = some (cy_P k) := by decide +kernel
theorem cw_P : ∀ w ∈ u_ws "FigureLeave$Past" cT_P 2, w ∈ gw := fun w hw => by
  have h : (u_ws "FigureLeave$Past" cT_P 2).all (fun w => decide (w ∈ lw_tbl) && goodWord w) = true := by decide +kernel
  have h1 := List.all_eq_true.mp h w hw
  simp only [Bool.and_eq_true, decide_eq_true_eq] at h1
  exact gw_in h1.1 h1.2
def cT_L : u_T := fun k => match k with
  | 0 => ("FigureLeave$Line", "signs", "[I", true)
  | _ => ("FigureLeave$Line", "size", "I", false)
def cy_L : Nat → FieldType := fun k => match k with
  | 0 => .array .int
  | _ => .int
theorem cn_L : ∀ a, a < 2 → ∀ b, b < 2 → a ≠ b → (cT_L a).2.1 ≠ (cT_L b).2.1 := by decide +kernel
theorem cp_L : ∀ k, k < 2 → parseFieldDescriptor (cT_L k).2.2.1 = some (cy_L k) := by decide +kernel
theorem cw_L : ∀ w ∈ u_ws "FigureLeave$Line" cT_L 2, w ∈ gw := fun w hw => by
  have h : (u_ws "FigureLeave$Line" cT_L 2).all (fun w => decide (w ∈ lw_tbl) && goodWord w) = true := by decide +kernel
  have h1 := List.all_eq_true.mp h w hw
  simp only [Bool.and_eq_true, decide_eq_true_eq] at h1
  exact gw_in h1.1 h1.2
def cT_K : u_T := fun k => match k with
  | 0 => ("FigureLeave$Clerk", "line", "LFigureLeave$Line;", true)
  | 1 => ("FigureLeave$Clerk", "trial", "LFigureLeave$Shift;", true)
  | 2 => ("FigureLeave$Clerk", "openBills", "[I", true)
  | 3 => ("FigureLeave$Clerk", "chosenDay", "[I", true)
  | 4 => ("FigureLeave$Clerk", "opens", "I", false)
  | _ => ("FigureLeave$Clerk", "daysPlanned", "I", false)
def cy_K : Nat → FieldType := fun k => match k with
  | 0 => .object "FigureLeave$Line"
  | 1 => .object "FigureLeave$Shift"
  | 2 => .array .int
  | 3 => .array .int
  | 4 => .int
  | _ => .int
theorem cn_K : ∀ a, a < 6 → ∀ b, b < 6 → a ≠ b → (cT_K a).2.1 ≠ (cT_K b).2.1 := by decide +kernel
theorem cp_K : ∀ k, k < 6 → parseFieldDescriptor (cT_K k).2.2.1 = some (cy_K k) := by decide +kernel
theorem cw_K : ∀ w ∈ u_ws "FigureLeave$Clerk" cT_K 6, w ∈ gw := fun w hw => by
  have h : (u_ws "FigureLeave$Clerk" cT_K 6).all (fun w => decide (w ∈ lw_tbl) && goodWord w) = true := by decide +kernel
  have h1 := List.all_eq_true.mp h w hw
  simp only [Bool.and_eq_true, decide_eq_true_eq] at h1
  exact gw_in h1.1 h1.2
def cT_U : u_T := fun k => match k with
  | _ => ("FigureLeave$Sleuth", "line", "LFigureLeave$Line;", true)
def cy_U : Nat → FieldType := fun k => match k with
  | _ => .object "FigureLeave$Line"
theorem cn_U : ∀ a, a < 1 → ∀ b, b < 1 → a ≠ b → (cT_U a).2.1 ≠ (cT_U b).2.1 := by decide +kernel
theorem cp_U : ∀ k, k < 1 → parseFieldDescriptor (cT_U k).2.2.1 = some (cy_U k) := by decide +kernel
theorem cw_U : ∀ w ∈ u_ws "FigureLeave$Sleuth" cT_U 1, w ∈ gw := fun w hw => by
  have h : (u_ws "FigureLeave$Sleuth" cT_U 1).all (fun w => decide (w ∈ lw_tbl) && goodWord w) = true := by decide +kernel
  have h1 := List.all_eq_true.mp h w hw
  simp only [Bool.and_eq_true, decide_eq_true_eq] at h1
  exact gw_in h1.1 h1.2
def cT_T : u_T := fun k => match k with
  | 0 => ("FigureLeave$Text", "bytes", "[I", true)
  | 1 => ("FigureLeave$Text", "line", "LFigureLeave$Line;", true)
  | 2 => ("FigureLeave$Text", "size", "I", false)
  | 3 => ("FigureLeave$Text", "at", "I", false)
  | 4 => ("FigureLeave$Text", "place", "I", false)
  | 5 => ("FigureLeave$Text", "sort", "I", false)
  | _ => ("FigureLeave$Text", "value", "I", false)
def cy_T : Nat → FieldType := fun k => match k with
  | 0 => .array .int
  | 1 => .object "FigureLeave$Line"
  | 2 => .int
  | 3 => .int
  | 4 => .int
  | 5 => .int
  | _ => .int
theorem cn_T : ∀ a, a < 7 → ∀ b, b < 7 → a ≠ b → (cT_T a).2.1 ≠ (cT_T b).2.1 := by decide +kernel
theorem cp_T : ∀ k, k < 7 → parseFieldDescriptor (cT_T k).2.2.1 = some (cy_T k) := by decide +kernel
theorem cw_T : ∀ w ∈ u_ws "FigureLeave$Text" cT_T 7, w ∈ gw := fun w hw => by
  have h : (u_ws "FigureLeave$Text" cT_T 7).all (fun w => decide (w ∈ lw_tbl) && goodWord w) = true := by decide +kernel
  have h1 := List.all_eq_true.mp h w hw
  simp only [Bool.and_eq_true, decide_eq_true_eq] at h1
  exact gw_in h1.1 h1.2
def cT_M : u_T := fun k => match k with
  | 0 => ("FigureLeaveModel", "thrown", "I", false)
  | 1 => ("FigureLeaveModel", "now", "[I", true)
  | 2 => ("FigureLeaveModel", "draft", "[I", true)
  | 3 => ("FigureLeaveModel", "kept", "[I", true)
  | 4 => ("FigureLeaveModel", "isKept", "[Z", true)
  | 5 => ("FigureLeaveModel", "text", "[I", true)
  | 6 => ("FigureLeaveModel", "typed", "I", false)
  | 7 => ("FigureLeaveModel", "next", "I", false)
  | 8 => ("FigureLeaveModel", "place", "I", false)
  | 9 => ("FigureLeaveModel", "token", "I", false)
  | 10 => ("FigureLeaveModel", "fault", "I", false)
  | 11 => ("FigureLeaveModel", "refused", "[I", true)
  | 12 => ("FigureLeaveModel", "up", "J", false)
  | 13 => ("FigureLeaveModel", "low", "J", false)
  | 14 => ("FigureLeaveModel", "worn", "[I", true)
  | 15 => ("FigureLeaveModel", "signs", "[I", true)
  | _ => ("FigureLeaveModel", "many", "I", false)
def cy_M : Nat → FieldType := fun k => match k with
  | 0 => .int
  | 1 => .array .int
  | 2 => .array .int
  | 3 => .array .int
  | 4 => .array .boolean
  | 5 => .array .int
  | 6 => .int
  | 7 => .int
  | 8 => .int
  | 9 => .int
  | 10 => .int
  | 11 => .array .int
  | 12 => .long
  | 13 => .long
  | 14 => .array .int
  | 15 => .array .int
  | _ => .int
theorem cn_M : ∀ a, a < 17 → ∀ b, b < 17 → a ≠ b → (cT_M a).2.1 ≠ (cT_M b).2.1 := by decide +kernel
theorem cp_M : ∀ k, k < 17 → parseFieldDescriptor (cT_M k).2.2.1 = some (cy_M k) := by decide +kernel
theorem cw_M : ∀ w ∈ u_ws "FigureLeaveModel" cT_M 17, w ∈ gw := fun w hw => by
  have h : (u_ws "FigureLeaveModel" cT_M 17).all (fun w => decide (w ∈ lw_tbl) && goodWord w) = true := by decide +kernel
  have h1 := List.all_eq_true.mp h w hw
  simp only [Bool.and_eq_true, decide_eq_true_eq] at h1
  exact gw_in h1.1 h1.2
abbrev cls : List vw_C := [("FigureLeave", cT_F, 12), ("FigureLeave$House", cT_H, 6), ("FigureLeave$Shift", cT_S, 2), ("FigureLeave$Bills", cT_B, 5), ("FigureLeave$Clues", cT_C, 8), ("FigureLeave$Past", cT_P, 2), ("FigureLeave$Line", cT_L, 2), ("FigureLeave$Clerk", cT_K, 6), ("FigureLeave$Sleuth", cT_U, 1), ("FigureLeave$Text", cT_T, 7), ("FigureLeaveModel", cT_M, 17)]
theorem cl_facts : ∀ (ci : Nat) (C : String) (T : u_T) (N : Nat), cls[ci]? = some (C, T, N) → (∀ w ∈ u_ws C T N, w ∈ gw) ∧ (∃ ty0 : Nat → FieldType, ∀ k, k < N → parseFieldDescriptor (T k).2.2.1 = some (ty0 k)) ∧ (∀ a, a < N → ∀ b, b < N → a ≠ b → (T a).2.1 ≠ (T b).2.1) := by
  intro ci C T N h
  match ci, h with
  | 0, h => cases h; exact ⟨cw_F, ⟨cy_F, cp_F⟩, cn_F⟩
  | 1, h => cases h; exact ⟨cw_H, ⟨cy_H, cp_H⟩, cn_H⟩
  | 2, h => cases h; exact ⟨cw_S, ⟨cy_S, cp_S⟩, cn_S⟩
  | 3, h => cases h; exact ⟨cw_B, ⟨cy_B, cp_B⟩, cn_B⟩
  | 4, h => cases h; exact ⟨cw_C, ⟨cy_C, cp_C⟩, cn_C⟩
  | 5, h => cases h; exact ⟨cw_P, ⟨cy_P, cp_P⟩, cn_P⟩
  | 6, h => cases h; exact ⟨cw_L, ⟨cy_L, cp_L⟩, cn_L⟩
  | 7, h => cases h; exact ⟨cw_K, ⟨cy_K, cp_K⟩, cn_K⟩
  | 8, h => cases h; exact ⟨cw_U, ⟨cy_U, cp_U⟩, cn_U⟩
  | 9, h => cases h; exact ⟨cw_T, ⟨cy_T, cp_T⟩, cn_T⟩
  | 10, h => cases h; exact ⟨cw_M, ⟨cy_M, cp_M⟩, cn_M⟩
  | n + 11, h => simp [cls] at h
