section F0S
variable {E : eT} {n : Nat} {h : hT}
theorem c_isFigure {a : Int32} : fE M_F_isFigure E [.int a] n h (eV (.int (bI (0 ≤ a ∧ a ≤ 9))) n h) := by
  refine fE.of (L := [some (.int a)]) (by decide +kernel) (Nat.le_of_ble_eq_true rfl) rfl ?_
  refine a_il0 fF_isFigure_0 ?_
  refine a_ic fF_isFigure_1 ?_
  refine a_ic fF_isFigure_2 ?_
  refine a_S3V fF_isFigure_4 k_F_85 m_F_within ⟨by decide, by decide⟩ ⟨rfl, rfl⟩ (Nat.le_of_ble_eq_true rfl) (c_within) ?_
  exact a_rz fF_isFigure_7 rfl (bI_n _) ⟨rfl, rfl, rfl⟩
theorem c_isNumber {a : Int32} : fE M_F_isNumber E [.int a] n h (eV (.int (bI (0 ≤ a ∧ a ≤ 99))) n h) := by
  refine fE.of (L := [some (.int a)]) (by decide +kernel) (Nat.le_of_ble_eq_true rfl) rfl ?_
  refine a_il0 fF_isNumber_0 ?_
  refine a_ic fF_isNumber_1 ?_
  refine a_ic fF_isNumber_2 ?_
  refine a_S3V fF_isNumber_4 k_F_85 m_F_within ⟨by decide, by decide⟩ ⟨rfl, rfl⟩ (Nat.le_of_ble_eq_true rfl) (c_within) ?_
  exact a_rz fF_isNumber_7 rfl (bI_n _) ⟨rfl, rfl, rfl⟩
theorem c_isSign {a : Int32} : fE M_F_isSign E [.int a] n h (eV (.int (bI (0 ≤ a ∧ a ≤ 3))) n h) := by
  refine fE.of (L := [some (.int a)]) (by decide +kernel) (Nat.le_of_ble_eq_true rfl) rfl ?_
  refine a_il0 fF_isSign_0 ?_
  refine a_ic fF_isSign_1 ?_
  refine a_ic fF_isSign_2 ?_
  refine a_S3V fF_isSign_3 k_F_85 m_F_within ⟨by decide, by decide⟩ ⟨rfl, rfl⟩ (Nat.le_of_ble_eq_true rfl) (c_within) ?_
  exact a_rz fF_isSign_6 rfl (bI_n _) ⟨rfl, rfl, rfl⟩
end F0S
