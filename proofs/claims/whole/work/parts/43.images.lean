section PU
variable {E : eT} {n : Nat} {h : hT} {N : Nat → Nat} {I : Nat → Option (Nat → Nat)} {tn : Nat} {bt : Nat → Nat} {ab be rb rn rf : Nat}
theorem x_odds_bad {v x c : Int32} (X : XS h n N I tn bt ab be rb rn rf) (hb : ¬ ((0 ≤ v ∧ v ≤ 99) ∧ (0 ≤ x ∧ x ≤ 99) ∧ (0 ≤ c ∧ c ≤ 10))) : fE M_F_odds E [.ref 11, .int v, .int x, .int c] n h (qI (fun r k g => r = -2 ∧ k = n ∧ fM h g ∧ XS g n N I tn bt ab be (rb + 1) rn rf)) := by
  refine fE.of (L := [some (.ref 11), some (.int v), some (.int x), some (.int c), none, none]) (by decide +kernel) (Nat.le_of_ble_eq_true rfl) rfl ?_
  by_cases d0 : (0 ≤ v ∧ v ≤ 99)
  · refine a_il1 fF_odds_0 ?_
    refine a_S1V fF_odds_1 k_F_104 m_F_isNumber ⟨by decide, by decide⟩ ⟨rfl, rfl⟩ (Nat.le_of_ble_eq_true rfl) (c_isNumber) ?_
    refine a_if_eq fF_odds_4 (fun c_ => absurd c_ (fun z => by rw [bI_t d0] at z; exact absurd z (by decide))) (fun _ => ?_)
    by_cases d1 : (0 ≤ x ∧ x ≤ 99)
    · refine a_il2 fF_odds_7 ?_
      refine a_S1V fF_odds_8 k_F_104 m_F_isNumber ⟨by decide, by decide⟩ ⟨rfl, rfl⟩ (Nat.le_of_ble_eq_true rfl) (c_isNumber) ?_
      refine a_if_eq fF_odds_11 (fun c_ => absurd c_ (fun z => by rw [bI_t d1] at z; exact absurd z (by decide))) (fun _ => ?_)
      by_cases d2 : (0 ≤ c ∧ c ≤ 10)
      · exact absurd ⟨d0, d1, d2⟩ hb
      · refine a_il3 fF_odds_14 ?_
        refine a_ic fF_odds_15 ?_
        refine a_ic fF_odds_16 ?_
        refine a_S3V fF_odds_18 k_F_85 m_F_within ⟨by decide, by decide⟩ ⟨rfl, rfl⟩ (Nat.le_of_ble_eq_true rfl) (c_within) ?_
        refine a_if_ne fF_odds_21 (fun c_ => absurd (by rw [bI_f d2]) c_) (fun _ => ?_)
        refine a_al0 fF_odds_24 ?_
        refine a_V0V fF_odds_25 k_F_89 m_F_bad ⟨by decide, by decide⟩ X.1.1 rfl ⟨rfl, rfl⟩ (Nat.le_of_ble_eq_true rfl) (c_bad X.1.1) ?_
        exact a_ri fF_odds_28 rfl (⟨_, rfl, rfl, rfl, fM.r0.up (by decide), X.fl _ _ _ _ _⟩)
    · refine a_il2 fF_odds_7 ?_
      refine a_S1V fF_odds_8 k_F_104 m_F_isNumber ⟨by decide, by decide⟩ ⟨rfl, rfl⟩ (Nat.le_of_ble_eq_true rfl) (c_isNumber) ?_
      refine a_if_eq fF_odds_11 (fun _ => ?_) (fun c_ => absurd (by rw [bI_f d1]) c_)
      refine a_al0 fF_odds_24 ?_
      refine a_V0V fF_odds_25 k_F_89 m_F_bad ⟨by decide, by decide⟩ X.1.1 rfl ⟨rfl, rfl⟩ (Nat.le_of_ble_eq_true rfl) (c_bad X.1.1) ?_
      exact a_ri fF_odds_28 rfl (⟨_, rfl, rfl, rfl, fM.r0.up (by decide), X.fl _ _ _ _ _⟩)
  · refine a_il1 fF_odds_0 ?_
    refine a_S1V fF_odds_1 k_F_104 m_F_isNumber ⟨by decide, by decide⟩ ⟨rfl, rfl⟩ (Nat.le_of_ble_eq_true rfl) (c_isNumber) ?_
    refine a_if_eq fF_odds_4 (fun _ => ?_) (fun c_ => absurd (by rw [bI_f d0]) c_)
    refine a_al0 fF_odds_24 ?_
    refine a_V0V fF_odds_25 k_F_89 m_F_bad ⟨by decide, by decide⟩ X.1.1 rfl ⟨rfl, rfl⟩ (Nat.le_of_ble_eq_true rfl) (c_bad X.1.1) ?_
    exact a_ri fF_odds_28 rfl (⟨_, rfl, rfl, rfl, fM.r0.up (by decide), X.fl _ _ _ _ _⟩)
theorem x_image_bad {i : Int32} (X : XS h n N I tn bt ab be rb rn rf) (hb : ¬ ((0 ≤ i ∧ i ≤ 1))) : fE M_F_image E [.ref 11, .int i] n h (qI (fun r k g => r = -2 ∧ k = n ∧ fM h g ∧ XS g n N I tn bt ab be (rb + 1) rn rf)) := by
  refine fE.of (L := [some (.ref 11), some (.int i), none]) (by decide +kernel) (Nat.le_of_ble_eq_true rfl) rfl ?_
  by_cases d0 : (0 ≤ i ∧ i ≤ 1)
  · exact absurd d0 hb
  · refine a_il1 fF_image_0 ?_
    refine a_ic fF_image_1 ?_
    refine a_ic fF_image_2 ?_
    refine a_S3V fF_image_3 k_F_85 m_F_within ⟨by decide, by decide⟩ ⟨rfl, rfl⟩ (Nat.le_of_ble_eq_true rfl) (c_within) ?_
    refine a_if_ne fF_image_6 (fun c_ => absurd (by rw [bI_f d0]) c_) (fun _ => ?_)
    refine a_al0 fF_image_9 ?_
    refine a_V0V fF_image_10 k_F_89 m_F_bad ⟨by decide, by decide⟩ X.1.1 rfl ⟨rfl, rfl⟩ (Nat.le_of_ble_eq_true rfl) (c_bad X.1.1) ?_
    exact a_ri fF_image_13 rfl (⟨_, rfl, rfl, rfl, fM.r0.up (by decide), X.fl _ _ _ _ _⟩)
theorem x_from_bad {i : Int32} (X : XS h n N I tn bt ab be rb rn rf) (hb : ¬ ((0 ≤ i ∧ i ≤ 1))) : fE M_F_from E [.ref 11, .int i] n h (qI (fun r k g => r = -2 ∧ k = n ∧ fM h g ∧ XS g n N I tn bt ab be (rb + 1) rn rf)) := by
  refine fE.of (L := [some (.ref 11), some (.int i), none]) (by decide +kernel) (Nat.le_of_ble_eq_true rfl) rfl ?_
  by_cases d0 : (0 ≤ i ∧ i ≤ 1)
  · exact absurd d0 hb
  · refine a_il1 fF_from_0 ?_
    refine a_ic fF_from_1 ?_
    refine a_ic fF_from_2 ?_
    refine a_S3V fF_from_3 k_F_85 m_F_within ⟨by decide, by decide⟩ ⟨rfl, rfl⟩ (Nat.le_of_ble_eq_true rfl) (c_within) ?_
    refine a_if_ne fF_from_6 (fun c_ => absurd (by rw [bI_f d0]) c_) (fun _ => ?_)
    refine a_al0 fF_from_9 ?_
    refine a_V0V fF_from_10 k_F_89 m_F_bad ⟨by decide, by decide⟩ X.1.1 rfl ⟨rfl, rfl⟩ (Nat.le_of_ble_eq_true rfl) (c_bad X.1.1) ?_
    exact a_ri fF_from_13 rfl (⟨_, rfl, rfl, rfl, fM.r0.up (by decide), X.fl _ _ _ _ _⟩)
theorem x_from_no {I9 : Nat} (X : XS h n N I tn bt ab be rb rn rf) (K : okN N) (h9 : I9 < 2) (h8 : I I9 = none) : fE M_F_from E [.ref 11, .int (nI I9)] n h (qI (fun r k g => r = -3 ∧ k = n ∧ fM h g ∧ XS g n N I tn bt ab be rb (rn + 1) rf)) := by
  have V := X.2.1.v
  have B := X.2.1.b
  have C := X.2.1.c
  have S := X.2.2.2.1
  have O := K.c
  refine fE.of (L := [some (.ref 11), some (.int (nI I9)), none]) (by decide +kernel) (Nat.le_of_ble_eq_true rfl) rfl ?_
  refine a_il1 fF_from_0 ?_
  refine a_ic fF_from_1 ?_
  refine a_ic fF_from_2 ?_
  refine a_S3V fF_from_3 k_F_85 m_F_within ⟨by decide, by decide⟩ ⟨rfl, rfl⟩ (Nat.le_of_ble_eq_true rfl) (c_within) ?_
  refine a_if_ne fF_from_6 (fun _ => ?_) (fun c_ => absurd c_ (fun z => by rw [bI_t ⟨nI_pos' (by omega), nI_le (b := 1) (by omega) (by decide)⟩] at z; exact absurd z (by decide)))
  obtain ⟨im, i1, i2, i3⟩ := X.2.2.2.2.2.2.2.2
  have e0 : im I9 = none := by
    rcases i2 I9 h9 with z | ⟨q, R, a, b, _⟩
    · exact z.1
    · rw [h8] at b; cases b
  refine a_al0 fF_from_14 ?_
  refine a_gf fF_from_15 l_F_19 X.1.1 rfl ?_
  refine a_il1 fF_from_18 ?_
  refine a_aald fF_from_19 i1 (vp_in_nI h9 (by decide)) ?_
  rw [nI_clamp (by omega), e0]
  refine a_ns2 fF_from_20 (by decide) rfl ?_
  refine a_nl2 fF_from_21 ?_
  refine a_nnN fF_from_22 ?_
  refine a_al0 fF_from_25 ?_
  refine a_V0V fF_from_26 k_F_140 m_F_no ⟨by decide, by decide⟩ X.1.1 rfl ⟨rfl, rfl⟩ (Nat.le_of_ble_eq_true rfl) (c_no X.1.1) ?_
  exact a_ri fF_from_29 rfl (⟨_, rfl, rfl, rfl, fM.r0.up (by decide), X.fl _ _ _ _ _⟩)
theorem x_from {I9 : Nat} {R : Nat → Nat} (X : XS h n N I tn bt ab be rb rn rf) (K : okN N) (h9 : I9 < 2) (h8 : I I9 = some R) (KR : okN R) : fE M_F_from E [.ref 11, .int (nI I9)] n h (qI (fun r k g => r = 1 ∧ k = n ∧ fM h g ∧ XS g n R I tn bt ab be rb rn rf)) := by
  have V := X.2.1.v
  have B := X.2.1.b
  have C := X.2.1.c
  have S := X.2.2.2.1
  have O := K.c
  refine fE.of (L := [some (.ref 11), some (.int (nI I9)), none]) (by decide +kernel) (Nat.le_of_ble_eq_true rfl) rfl ?_
  refine a_il1 fF_from_0 ?_
  refine a_ic fF_from_1 ?_
  refine a_ic fF_from_2 ?_
  refine a_S3V fF_from_3 k_F_85 m_F_within ⟨by decide, by decide⟩ ⟨rfl, rfl⟩ (Nat.le_of_ble_eq_true rfl) (c_within) ?_
  refine a_if_ne fF_from_6 (fun _ => ?_) (fun c_ => absurd c_ (fun z => by rw [bI_t ⟨nI_pos' (by omega), nI_le (b := 1) (by omega) (by decide)⟩] at z; exact absurd z (by decide)))
  obtain ⟨im, i1, i2, i3⟩ := X.2.2.2.2.2.2.2.2
  obtain ⟨q, e0, H0, q7, q8⟩ : ∃ q, im I9 = some q ∧ isH h q R ∧ 72 ≤ q ∧ q + 6 ≤ n := by
    rcases i2 I9 h9 with z | ⟨q, R2, a, b, c, d⟩
    · rw [h8] at z; cases z.2
    · rw [h8] at b; cases b; exact ⟨q, a, c, d⟩
  refine a_al0 fF_from_14 ?_
  refine a_gf fF_from_15 l_F_19 X.1.1 rfl ?_
  refine a_il1 fF_from_18 ?_
  refine a_aald fF_from_19 i1 (vp_in_nI h9 (by decide)) ?_
  rw [nI_clamp (by omega), e0]
  refine a_as2 fF_from_20 (by decide) rfl ?_
  refine a_al2 fF_from_21 ?_
  refine a_nnR fF_from_22 ?_
  refine a_al0 fF_from_30 ?_
  refine a_gf fF_from_31 l_F_10 X.1.1 rfl ?_
  refine a_al2 fF_from_34 ?_
  refine a_V1Q fF_from_35 k_F_125 m_H_become ⟨by decide, by decide⟩ V.1 rfl ⟨rfl, rfl⟩ (Nat.le_of_ble_eq_true rfl) (c_Hbecome X.2.1 H0 (by omega) KR.2.2.1) (fun n1 h1 p1 => ?_)
  obtain ⟨hn1, H1, F1⟩ := p1
  subst n1
  refine a_ic fF_from_38 ?_
  exact a_ri fF_from_39 rfl (⟨_, rfl, rfl, rfl, fM.q F1, X.ofq F1 H1⟩)
end PU
