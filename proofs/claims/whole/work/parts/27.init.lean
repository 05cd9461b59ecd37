/-! constructors -/
section CI
variable {y z : mI} {E : eT} {Z : zT} {k : Nat} {h : hT} {nc ns pc pc2 idx : Nat} {L : lT} {st : List Value}
theorem a_I0D {cc cs q : Nat} {P : Nat → hT → Prop} (hd : fD y pc (.invokespecial idx) 3 pc2) (hl : fML y.1.cls idx z) (hm : fMN z 0) (hr : fRm y z) (hz : z.2.2.2.2.cells = cc ∧ z.2.2.2.2.slots = cs) (hc : nc + cc ≤ y.2.2.2.2.cells) (hs : ns + cs ≤ y.2.2.2.2.slots) (hw : (st.map fun v => v.category).sum ≤ 8) (hE : fE z E (.ref q :: []) k h (qN P)) (kk : ∀ k1 h1, P k1 h1 → fA y E Z k1 h1 (nc + cc) (ns + cs) pc2 L st) : fA y E Z k h nc ns pc L (.ref q :: st) := by
  obtain ⟨rfl, rfl⟩ := hz
  exact a_cI0 (As := []) hd hl hm hr rfl hw hc hs hE (by rintro _ _ _ ⟨rfl, hp⟩; exact kk _ _ hp) rfl
end CI
abbrev zF : Nat → Nat := fun _ => 0
section CN
variable {E : eT} {n : Nat} {h : hT}
theorem c_Sinit (hs : h (n + 10) = .inr (2, [.null, .int 0])) : fE M_S_init E [.ref (n + 10)] n h (qN (fun k g => k = n + 1 ∧ g (n + 10) = sO (n + 11) 0 ∧ g (n + 11) = nA 10 zF ∧ ∀ a, a < n + 10 ∨ n + 11 < a → g a = h a)) := by
  refine fE.of (L := [some (.ref (n + 10))]) (by decide +kernel) (Nat.le_of_ble_eq_true rfl) rfl ?_
  refine a_al0 fS_init_0 ?_
  refine a_oi fS_init_1 k_S_3 w_oiI w_oiC (by decide) (Nat.le_of_ble_eq_true rfl) ?_
  refine a_al0 fS_init_4 ?_
  refine a_ic fS_init_5 ?_
  refine a_newi fS_init_7 w_ai (by decide) (show _ = 10 from rfl) (by decide) (by decide) (by decide) ?_
  refine a_pF0 fS_init_9 q_S_9 rfl (Or.inr ⟨_, rfl⟩) (up_n (by omega) hs) ?_
  refine a_al0 fS_init_12 ?_
  refine a_ic fS_init_13 ?_
  refine a_pfi1 fS_init_14 p_S_15 up_s ?_
  exact a_rv fS_init_17 rfl (⟨rfl, rfl, by simp [va_up]; rfl, by simp [va_up]; rfl, fun a ha => by simp [va_up, show ¬ a = n + 10 by omega, show ¬ a = n + 11 by omega]⟩)
theorem c_Pinit (hs : h (n + 10) = .inr (5, [.null, .int 0])) : fE M_P_init E [.ref (n + 10)] n h (qN (fun k g => k = n + 1 ∧ g (n + 10) = pO (n + 10) 0 ∧ g (n + 11) = nA 104 zF ∧ ∀ a, a < n + 10 ∨ n + 11 < a → g a = h a)) := by
  refine fE.of (L := [some (.ref (n + 10))]) (by decide +kernel) (Nat.le_of_ble_eq_true rfl) rfl ?_
  refine a_al0 fP_init_0 ?_
  refine a_oi fP_init_1 k_P_3 w_oiI w_oiC (by decide) (Nat.le_of_ble_eq_true rfl) ?_
  refine a_al0 fP_init_4 ?_
  refine a_ic fP_init_5 ?_
  refine a_newi fP_init_7 w_ai (by decide) (show _ = 104 from rfl) (by decide) (by decide) (by decide) ?_
  refine a_pF0 fP_init_9 q_P_11 rfl (Or.inr ⟨_, rfl⟩) (up_n (by omega) hs) ?_
  refine a_al0 fP_init_12 ?_
  refine a_ic fP_init_13 ?_
  refine a_pfi1 fP_init_14 p_P_15 up_s ?_
  exact a_rv fP_init_17 rfl (⟨rfl, rfl, by simp [va_up]; rfl, by simp [va_up]; rfl, fun a ha => by simp [va_up, show ¬ a = n + 10 by omega, show ¬ a = n + 11 by omega]⟩)
theorem c_Linit (hs : h (n + 10) = .inr (6, [.null, .int 0])) : fE M_L_init E [.ref (n + 10)] n h (qN (fun k g => k = n + 1 ∧ g (n + 10) = lO (n + 11) 0 ∧ g (n + 11) = nA 4 zF ∧ ∀ a, a < n + 10 ∨ n + 11 < a → g a = h a)) := by
  refine fE.of (L := [some (.ref (n + 10))]) (by decide +kernel) (Nat.le_of_ble_eq_true rfl) rfl ?_
  refine a_al0 fL_init_0 ?_
  refine a_oi fL_init_1 k_L_3 w_oiI w_oiC (by decide) (Nat.le_of_ble_eq_true rfl) ?_
  refine a_al0 fL_init_4 ?_
  refine a_ic fL_init_5 ?_
  refine a_newi fL_init_6 w_ai (by decide) (show _ = 4 from rfl) (by decide) (by decide) (by decide) ?_
  refine a_pF0 fL_init_8 q_L_9 rfl (Or.inr ⟨_, rfl⟩) (up_n (by omega) hs) ?_
  refine a_al0 fL_init_11 ?_
  refine a_ic fL_init_12 ?_
  refine a_pfi1 fL_init_13 p_L_15 up_s ?_
  exact a_rv fL_init_16 rfl (⟨rfl, rfl, by simp [va_up]; rfl, by simp [va_up]; rfl, fun a ha => by simp [va_up, show ¬ a = n + 10 by omega, show ¬ a = n + 11 by omega]⟩)
theorem c_Binit (hs : h (n + 10) = .inr (3, [.null, .null, .int 0, .int 0, .int 0])) : fE M_B_init E [.ref (n + 10)] n h (qN (fun k g => k = n + 2 ∧ g (n + 10) = bO (n + 10) 0 0 0 ∧ g (n + 11) = nA 6 zF ∧ g (n + 12) = nA 6 zF ∧ ∀ a, a < n + 10 ∨ n + 12 < a → g a = h a)) := by
  refine fE.of (L := [some (.ref (n + 10))]) (by decide +kernel) (Nat.le_of_ble_eq_true rfl) rfl ?_
  refine a_al0 fB_init_0 ?_
  refine a_oi fB_init_1 k_B_3 w_oiI w_oiC (by decide) (Nat.le_of_ble_eq_true rfl) ?_
  refine a_al0 fB_init_4 ?_
  refine a_ic fB_init_5 ?_
  refine a_newi fB_init_7 w_ai (by decide) (show _ = 6 from rfl) (by decide) (by decide) (by decide) ?_
  refine a_pF0 fB_init_9 q_B_9 rfl (Or.inr ⟨_, rfl⟩) (up_n (by omega) hs) ?_
  refine a_al0 fB_init_12 ?_
  refine a_ic fB_init_13 ?_
  refine a_newi fB_init_15 w_ai (by decide) (show _ = 6 from rfl) (by decide) (by decide) (by decide) ?_
  refine a_pF1 fB_init_17 q_B_15 rfl (Or.inr ⟨_, rfl⟩) (up_n (by omega) up_s) ?_
  refine a_al0 fB_init_20 ?_
  refine a_ic fB_init_21 ?_
  refine a_pfi2 fB_init_22 p_B_18 up_s ?_
  refine a_al0 fB_init_25 ?_
  refine a_ic fB_init_26 ?_
  refine a_pfi3 fB_init_27 p_B_22 up_s ?_
  refine a_al0 fB_init_30 ?_
  refine a_ic fB_init_31 ?_
  refine a_pfi4 fB_init_32 p_B_25 up_s ?_
  exact a_rv fB_init_35 rfl (⟨rfl, rfl, by simp [va_up]; rfl, by simp [va_up]; rfl, by simp [va_up]; rfl, fun a ha => by simp [va_up, show ¬ a = n + 10 by omega, show ¬ a = n + 11 by omega, show ¬ a = n + 12 by omega]⟩)
theorem c_Cinit (hs : h (n + 10) = .inr (4, [.null, .null, .int 0, .null, .null, .null, .null, .int 0])) : fE M_C_init E [.ref (n + 10)] n h (qN (fun k g => k = n + 6 ∧ g (n + 10) = cO (n + 10) 0 0 ∧ (g (n + 11) = nA 6 zF ∧ g (n + 12) = nA 6 zF ∧ g (n + 13) = nA 6 zF ∧ g (n + 14) = nA 6 zF ∧ g (n + 15) = nA 6 zF ∧ g (n + 16) = nA 6 zF) ∧ ∀ a, a < n + 10 ∨ n + 16 < a → g a = h a)) := by
  refine fE.of (L := [some (.ref (n + 10))]) (by decide +kernel) (Nat.le_of_ble_eq_true rfl) rfl ?_
  refine a_al0 fC_init_0 ?_
  refine a_oi fC_init_1 k_C_3 w_oiI w_oiC (by decide) (Nat.le_of_ble_eq_true rfl) ?_
  refine a_al0 fC_init_4 ?_
  refine a_ic fC_init_5 ?_
  refine a_newi fC_init_7 w_ai (by decide) (show _ = 6 from rfl) (by decide) (by decide) (by decide) ?_
  refine a_pF0 fC_init_9 q_C_9 rfl (Or.inr ⟨_, rfl⟩) (up_n (by omega) hs) ?_
  refine a_al0 fC_init_12 ?_
  refine a_ic fC_init_13 ?_
  refine a_newi fC_init_15 w_ai (by decide) (show _ = 6 from rfl) (by decide) (by decide) (by decide) ?_
  refine a_pF1 fC_init_17 q_C_15 rfl (Or.inr ⟨_, rfl⟩) (up_n (by omega) up_s) ?_
  refine a_al0 fC_init_20 ?_
  refine a_ic fC_init_21 ?_
  refine a_pfi2 fC_init_22 p_C_18 up_s ?_
  refine a_al0 fC_init_25 ?_
  refine a_ic fC_init_26 ?_
  refine a_newi fC_init_28 w_ai (by decide) (show _ = 6 from rfl) (by decide) (by decide) (by decide) ?_
  refine a_pF3 fC_init_30 q_C_22 rfl (Or.inr ⟨_, rfl⟩) (up_n (by omega) up_s) ?_
  refine a_al0 fC_init_33 ?_
  refine a_ic fC_init_34 ?_
  refine a_newi fC_init_36 w_ai (by decide) (show _ = 6 from rfl) (by decide) (by decide) (by decide) ?_
  refine a_pF4 fC_init_38 q_C_25 rfl (Or.inr ⟨_, rfl⟩) (up_n (by omega) up_s) ?_
  refine a_al0 fC_init_41 ?_
  refine a_ic fC_init_42 ?_
  refine a_newi fC_init_44 w_ai (by decide) (show _ = 6 from rfl) (by decide) (by decide) (by decide) ?_
  refine a_pF5 fC_init_46 q_C_28 rfl (Or.inr ⟨_, rfl⟩) (up_n (by omega) up_s) ?_
  refine a_al0 fC_init_49 ?_
  refine a_ic fC_init_50 ?_
  refine a_newi fC_init_52 w_ai (by decide) (show _ = 6 from rfl) (by decide) (by decide) (by decide) ?_
  refine a_pF6 fC_init_54 q_C_31 rfl (Or.inr ⟨_, rfl⟩) (up_n (by omega) up_s) ?_
  refine a_al0 fC_init_57 ?_
  refine a_ic fC_init_58 ?_
  refine a_pfi7 fC_init_59 p_C_34 up_s ?_
  exact a_rv fC_init_62 rfl (⟨rfl, rfl, by simp [va_up]; rfl, ⟨by simp [va_up]; rfl, by simp [va_up]; rfl, by simp [va_up]; rfl, by simp [va_up]; rfl, by simp [va_up]; rfl, by simp [va_up]; rfl⟩, fun a ha => by simp [va_up, show ¬ a = n + 10 by omega, show ¬ a = n + 11 by omega, show ¬ a = n + 12 by omega, show ¬ a = n + 13 by omega, show ¬ a = n + 14 by omega, show ¬ a = n + 15 by omega, show ¬ a = n + 16 by omega]⟩)
end CN
