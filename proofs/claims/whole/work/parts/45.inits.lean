/-! the constructors of the helpers and of the object -/
section CJ
variable {E : eT} {h : hT}
theorem c_Uinit (hs : h 54 = .inr (8, [.null])) : fE M_U_init E [.ref 54] 44 h (qN (fun k g => k = 46 ∧ sS g ∧ frs h g)) := by
  refine fE.of (L := [some (.ref 54)]) (by decide +kernel) (Nat.le_of_ble_eq_true rfl) rfl ?_
  refine a_al0 fU_init_0 ?_
  refine a_oi fU_init_1 k_U_3 w_oiI w_oiC (by decide) (Nat.le_of_ble_eq_true rfl) ?_
  refine a_al0 fU_init_4 ?_
  refine a_new fU_init_5 n_U_9 (by decide) (by decide) ?_
  refine a_dup fU_init_8 rfl ?_
  refine a_I0D fU_init_9 k_U_11 m_L_init ⟨by decide, by decide⟩ (cc := 1) (cs := 4) ⟨rfl, rfl⟩ (by decide) (by decide) (Nat.le_of_ble_eq_true rfl) (c_Linit (n := 45) up_s) (fun k1 h1 p1 => ?_)
  obtain ⟨hk1, l1, l2, l3⟩ := p1
  subst k1
  refine a_pF0 fU_init_12 q_U_12 rfl (Or.inl ⟨_, rfl⟩) ((l3 54 (by omega)).trans (up_n (by decide) hs)) ?_
  refine a_rv fU_init_15 rfl ⟨rfl, rfl, ⟨up_s, 0, _, up_n (by decide) l1, up_n (by decide) l2⟩, fun a ha => up_n (by omega) ((l3 a (by omega)).trans (up_n (by omega) rfl))⟩
theorem c_Tinit (hs : h 57 = .inr (9, [.null, .null, .int 0, .int 0, .int 0, .int 0, .int 0])) : fE M_T_init E [.ref 57] 47 h (qN (fun k g => k = 50 ∧ g 57 = tO 0 0 0 0 0 ∧ g 58 = nA 150 zF ∧ g 59 = lO 60 0 ∧ g 60 = nA 4 zF ∧ ∀ a, a < 57 ∨ 60 < a → g a = h a)) := by
  refine fE.of (L := [some (.ref 57)]) (by decide +kernel) (Nat.le_of_ble_eq_true rfl) rfl ?_
  refine a_al0 fT_init_0 ?_
  refine a_oi fT_init_1 k_T_3 w_oiI w_oiC (by decide) (Nat.le_of_ble_eq_true rfl) ?_
  refine a_al0 fT_init_4 ?_
  refine a_ic fT_init_5 ?_
  refine a_newi fT_init_8 w_ai (by decide) (show _ = 150 from rfl) (by decide) (by decide) (by decide) ?_
  refine a_pF0 fT_init_10 q_T_9 rfl (Or.inr ⟨_, rfl⟩) (up_n (by decide) hs) ?_
  refine a_al0 fT_init_13 ?_
  refine a_new fT_init_14 n_T_15 (by decide) (by decide) ?_
  refine a_dup fT_init_17 rfl ?_
  refine a_I0D fT_init_18 k_T_17 m_L_init ⟨by decide, by decide⟩ (cc := 1) (cs := 4) ⟨rfl, rfl⟩ (by decide) (by decide) (Nat.le_of_ble_eq_true rfl) (c_Linit (n := 49) up_s) (fun k1 h1 p1 => ?_)
  obtain ⟨hk1, l1, l2, l3⟩ := p1
  subst k1
  refine a_pF1 fT_init_21 q_T_18 rfl (Or.inl ⟨_, rfl⟩) ((l3 57 (by omega)).trans (up_n (by decide) up_s)) ?_
  refine a_al0 fT_init_24 ?_
  refine a_ic fT_init_25 ?_
  refine a_pfi2 fT_init_26 p_T_22 up_s ?_
  refine a_al0 fT_init_29 ?_
  refine a_ic fT_init_30 ?_
  refine a_pfi3 fT_init_31 p_T_26 up_s ?_
  refine a_al0 fT_init_34 ?_
  refine a_ic fT_init_35 ?_
  refine a_pfi4 fT_init_36 p_T_29 up_s ?_
  refine a_al0 fT_init_39 ?_
  refine a_ic fT_init_40 ?_
  refine a_pfi5 fT_init_41 p_T_32 up_s ?_
  refine a_al0 fT_init_44 ?_
  refine a_ic fT_init_45 ?_
  refine a_pfi6 fT_init_46 p_T_35 up_s ?_
  refine a_rv fT_init_49 rfl ⟨rfl, rfl, ?_, ?_, ?_, ?_, fun a ha => ?_⟩
  · exact up_s
  · repeat (first | exact up_s | refine up_n (by omega) ?_ | refine (l3 _ (by omega)).trans ?_)
  · repeat (first | exact l1 | refine up_n (by omega) ?_)
  · repeat (first | exact l2 | refine up_n (by omega) ?_)
  · repeat (first | refine up_n (by omega) ?_ | refine (l3 _ (by omega)).trans ?_)
    rfl
theorem c_Kinit (hs : h 47 = .inr (7, [.null, .null, .null, .null, .int 0, .int 0])) : fE M_K_init E [.ref 47] 37 h (qN (fun k g => k = 43 ∧ kS g ∧ frk h g)) := by
  refine fE.of (L := [some (.ref 47)]) (by decide +kernel) (Nat.le_of_ble_eq_true rfl) rfl ?_
  refine a_al0 fK_init_0 ?_
  refine a_oi fK_init_1 k_K_3 w_oiI w_oiC (by decide) (Nat.le_of_ble_eq_true rfl) ?_
  refine a_al0 fK_init_4 ?_
  refine a_new fK_init_5 n_K_9 (by decide) (by decide) ?_
  refine a_dup fK_init_8 rfl ?_
  refine a_I0D fK_init_9 k_K_11 m_L_init ⟨by decide, by decide⟩ (cc := 1) (cs := 4) ⟨rfl, rfl⟩ (by decide) (by decide) (Nat.le_of_ble_eq_true rfl) (c_Linit (n := 38) up_s) (fun k1 h1 p1 => ?_)
  obtain ⟨hk1, l1, l2, l3⟩ := p1
  subst k1
  refine a_pF0 fK_init_12 q_K_12 rfl (Or.inl ⟨_, rfl⟩) ((l3 47 (by omega)).trans (up_n (by decide) hs)) ?_
  refine a_al0 fK_init_15 ?_
  refine a_new fK_init_16 n_K_18 (by decide) (by decide) ?_
  refine a_dup fK_init_19 rfl ?_
  refine a_I0D fK_init_20 k_K_20 m_S_init ⟨by decide, by decide⟩ (cc := 1) (cs := 10) ⟨rfl, rfl⟩ (by decide) (by decide) (Nat.le_of_ble_eq_true rfl) (c_Sinit (n := 40) up_s) (fun k2 h2 p2 => ?_)
  obtain ⟨hk2, s1, s2, s3⟩ := p2
  subst k2
  refine a_pF1 fK_init_23 q_K_21 rfl (Or.inl ⟨_, rfl⟩) ((s3 47 (by omega)).trans (up_n (by decide) up_s)) ?_
  refine a_al0 fK_init_26 ?_
  refine a_ic fK_init_27 ?_
  refine a_newi fK_init_29 w_ai (by decide) (show _ = 6 from rfl) (by decide) (by decide) (by decide) ?_
  refine a_pF2 fK_init_31 q_K_25 rfl (Or.inr ⟨_, rfl⟩) (up_n (by decide) up_s) ?_
  refine a_al0 fK_init_34 ?_
  refine a_ic fK_init_35 ?_
  refine a_newi fK_init_37 w_ai (by decide) (show _ = 6 from rfl) (by decide) (by decide) (by decide) ?_
  refine a_pF3 fK_init_39 q_K_29 rfl (Or.inr ⟨_, rfl⟩) (up_n (by decide) up_s) ?_
  refine a_al0 fK_init_42 ?_
  refine a_ic fK_init_43 ?_
  refine a_pfi4 fK_init_44 p_K_32 up_s ?_
  refine a_al0 fK_init_47 ?_
  refine a_ic fK_init_48 ?_
  refine a_pfi5 fK_init_49 p_K_36 up_s ?_
  refine a_rv fK_init_52 rfl ⟨rfl, rfl, ⟨0, nF zF, 0, zF, zF, zF, 0, 0, ?_, ?_, ?_, ?_, ?_, ?_, ?_, fun _ _ => rfl⟩, fun a ha => ?_⟩
  · exact up_s
  · repeat (first | exact l1 | refine up_n (by omega) ?_ | refine (s3 _ (by omega)).trans ?_)
  · repeat (first | exact l2 | refine up_n (by omega) ?_ | refine (s3 _ (by omega)).trans ?_)
  · repeat (first | exact s1 | refine up_n (by omega) ?_)
  · repeat (first | exact s2 | refine up_n (by omega) ?_)
  · repeat (first | exact up_s | refine up_n (by omega) ?_)
  · repeat (first | exact up_s | refine up_n (by omega) ?_)
  · repeat (first | refine up_n (by omega) ?_ | refine (s3 _ (by omega)).trans ?_ | refine (l3 _ (by omega)).trans ?_)
    rfl
theorem x_init (hs : h 11 = .inr (0, [.null, .null, .null, .null, .null, .null, .null, .int 0, .int 0, .int 0, .int 0, .int 0])) : fE M_F_init E [.ref 11] 1 h (qN (fun k g => k = 52 ∧ XS g 61 N0 (fun _ => none) 0 zF 0 1 0 0 0 ∧ ∀ a, a < 11 ∨ 62 < a → g a = h a)) := by
  refine fE.of (L := [some (.ref 11)]) (by decide +kernel) (Nat.le_of_ble_eq_true rfl) rfl ?_
  refine a_al0 fF_init_0 ?_
  refine a_oi fF_init_1 k_F_1 w_oiI w_oiC (by decide) (Nat.le_of_ble_eq_true rfl) ?_
  refine a_al0 fF_init_4 ?_
  refine a_new fF_init_5 n_F_7 (by decide) (by decide) ?_
  refine a_dup fF_init_8 rfl ?_
  refine a_I0D fF_init_9 k_F_9 m_H_init ⟨by decide, by decide⟩ (cc := 16) (cs := 199) ⟨rfl, rfl⟩ (by decide) (by decide) (Nat.le_of_ble_eq_true rfl) (c_Hinit (n := 2) up_s) (fun k1 h1 p1 => ?_)
  obtain ⟨hk1, A1, A2⟩ := p1
  subst k1
  refine a_pF0 fF_init_12 q_F_10 rfl (Or.inl ⟨_, rfl⟩) ((A2 11 (by omega)).trans (up_n (by decide) hs)) ?_
  refine a_al0 fF_init_15 ?_
  refine a_new fF_init_16 n_F_7 (by decide) (by decide) ?_
  refine a_dup fF_init_19 rfl ?_
  refine a_I0D fF_init_20 k_F_9 m_H_init ⟨by decide, by decide⟩ (cc := 16) (cs := 199) ⟨rfl, rfl⟩ (by decide) (by decide) (Nat.le_of_ble_eq_true rfl) (c_Hinit (n := 19) up_s) (fun k2 h2 p2 => ?_)
  obtain ⟨hk2, B1, B2⟩ := p2
  subst k2
  refine a_pF1 fF_init_23 q_F_16 rfl (Or.inl ⟨_, rfl⟩) ((B2 11 (by omega)).trans (up_n (by decide) up_s)) ?_
  refine a_al0 fF_init_26 ?_
  refine a_ic fF_init_27 ?_
  refine a_newr fF_init_28 na_F_7 (by decide) rfl (by decide) (by decide) (by decide) ?_
  refine a_pF2 fF_init_31 q_F_19 rfl (Or.inr ⟨_, rfl⟩) (up_n (by decide) up_s) ?_
  refine a_al0 fF_init_34 ?_
  refine a_new fF_init_35 n_F_23 (by decide) (by decide) ?_
  refine a_dup fF_init_38 rfl ?_
  refine a_I0D fF_init_39 k_F_25 m_K_init ⟨by decide, by decide⟩ (cc := 6) (cs := 30) ⟨rfl, rfl⟩ (by decide) (by decide) (Nat.le_of_ble_eq_true rfl) (c_Kinit up_s) (fun k3 h3 p3 => ?_)
  obtain ⟨hk3, C1, C2⟩ := p3
  subst k3
  refine a_pF3 fF_init_42 q_F_26 rfl (Or.inl ⟨_, rfl⟩) ((C2 11 (by omega)).trans (up_n (by decide) up_s)) ?_
  refine a_al0 fF_init_45 ?_
  refine a_new fF_init_46 n_F_30 (by decide) (by decide) ?_
  refine a_dup fF_init_49 rfl ?_
  refine a_I0D fF_init_50 k_F_32 m_U_init ⟨by decide, by decide⟩ (cc := 2) (cs := 6) ⟨rfl, rfl⟩ (by decide) (by decide) (Nat.le_of_ble_eq_true rfl) (c_Uinit up_s) (fun k4 h4 p4 => ?_)
  obtain ⟨hk4, D1, D2⟩ := p4
  subst k4
  refine a_pF4 fF_init_53 q_F_33 rfl (Or.inl ⟨_, rfl⟩) ((D2 11 (by omega)).trans (up_n (by decide) up_s)) ?_
  refine a_al0 fF_init_56 ?_
  refine a_new fF_init_57 n_F_37 (by decide) (by decide) ?_
  refine a_dup fF_init_60 rfl ?_
  refine a_I0D fF_init_61 k_F_39 m_T_init ⟨by decide, by decide⟩ (cc := 3) (cs := 156) ⟨rfl, rfl⟩ (by decide) (by decide) (Nat.le_of_ble_eq_true rfl) (c_Tinit up_s) (fun k5 h5 p5 => ?_)
  obtain ⟨hk5, T1, T2, T3, T4, T5⟩ := p5
  subst k5
  refine a_pF5 fF_init_64 q_F_40 rfl (Or.inl ⟨_, rfl⟩) ((T5 11 (by omega)).trans (up_n (by decide) up_s)) ?_
  refine a_al0 fF_init_67 ?_
  refine a_new fF_init_68 n_F_44 (by decide) (by decide) ?_
  refine a_dup fF_init_71 rfl ?_
  refine a_I0D fF_init_72 k_F_46 m_L_init ⟨by decide, by decide⟩ (cc := 1) (cs := 4) ⟨rfl, rfl⟩ (by decide) (by decide) (Nat.le_of_ble_eq_true rfl) (c_Linit (n := 51) up_s) (fun k6 h6 p6 => ?_)
  obtain ⟨hk6, l1, l2, l3⟩ := p6
  subst k6
  refine a_pF6 fF_init_75 q_F_47 rfl (Or.inl ⟨_, rfl⟩) ((l3 11 (by omega)).trans (up_n (by decide) up_s)) ?_
  refine a_al0 fF_init_78 ?_
  refine a_ic fF_init_79 ?_
  refine a_pfi7 fF_init_80 p_F_51 up_s ?_
  refine a_al0 fF_init_83 ?_
  refine a_ic fF_init_84 ?_
  refine a_pfi8 fF_init_85 p_F_55 up_s ?_
  refine a_al0 fF_init_88 ?_
  refine a_ic fF_init_89 ?_
  refine a_pfi9 fF_init_90 p_F_58 up_s ?_
  refine a_al0 fF_init_93 ?_
  refine a_ic fF_init_94 ?_
  refine a_pfi10 fF_init_95 p_F_61 up_s ?_
  refine a_al0 fF_init_98 ?_
  refine a_ic fF_init_99 ?_
  refine a_pfi11 fF_init_100 p_F_64 up_s ?_
  obtain ⟨c1, c2, c3, c4, c5, c6, c7, c8, e1, e2, e3, e4, e5, e6, e7, e8⟩ := C1
  obtain ⟨d1, d2, d3, d4, d5⟩ := D1
  refine a_rv fF_init_103 rfl ⟨rfl, rfl, ⟨⟨?_, by decide⟩, ?_, ⟨N0, ?_, by decide⟩, ⟨c1, c2, c3, c4, c5, c6, c7, c8, ?_, ?_, ?_, ?_, ?_, ?_, ?_, e8⟩, ⟨?_, d2, d3, ?_, ?_⟩, ⟨0, 0, 0, 0, ?_⟩, ⟨?_, 0, nF zF, ?_, ?_⟩, ⟨0, nF zF, ?_, ?_⟩, ⟨fun _ => none, ?_, fun i hi => Or.inl ⟨rfl, rfl⟩, fun q0 q1 a => by cases a⟩⟩, fun a ha => ?_⟩
  · exact up_s
  · refine A1.of (fun a _ _ => ?_)
    repeat (first | refine up_n (by omega) ?_ | refine (l3 _ (by omega)).trans ?_ | refine (T5 _ (by omega)).trans ?_ | refine (D2 _ (by omega)).trans ?_ | refine (C2 _ (by omega)).trans ?_ | refine (B2 _ (by omega)).trans ?_)
    rfl
  · refine B1.of (fun a _ _ => ?_)
    repeat (first | refine up_n (by omega) ?_ | refine (l3 _ (by omega)).trans ?_ | refine (T5 _ (by omega)).trans ?_ | refine (D2 _ (by omega)).trans ?_ | refine (C2 _ (by omega)).trans ?_)
    rfl
  all_goals repeat (first | assumption | exact up_s | refine up_n (by omega) ?_ | refine (l3 _ (by omega)).trans ?_ | refine (T5 _ (by omega)).trans ?_ | refine (D2 _ (by omega)).trans ?_ | refine (C2 _ (by omega)).trans ?_ | refine (B2 _ (by omega)).trans ?_ | refine (A2 _ (by omega)).trans ?_)
  all_goals rfl
end CJ
