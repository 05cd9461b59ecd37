section RE
variable {E : eT} {n : Nat} {h : hT} {tn : Nat} {bt : Nat → Nat}
theorem c_readItem {a v m : Nat} {f : Nat → Int32} {D : Nat → Nat} {b : Bool} (h1 : h 57 = tkO tn bt a v) (h2 : h 58 = nA 150 bt) (K : okX tn bt) (ha : a ≤ tn) (l1 : h 59 = lO 60 m) (l2 : h 60 = ia 4 f) (H : isH h 29 D) (B : okN D) : fE M_T_readItem E [.ref 57, .ref 29, .int (bI (b = true))] n h (qI (rdQ tn h n (rdI tn bt D b a))) := by
  have k0 := K.1
  have a1 := tkE_le (bt := bt) ha
  have s5 := @tkS_le tn bt a
  have pe : tkP tn bt a ≤ tkE tn bt a := tkE_ge
  have hb : ∀ x, x < tkE tn bt a → bt x ≤ 127 := fun x hx => K.2 x (by omega)
  have rf : ∀ g : hT, rdQ tn h n (.inr (tkP tn bt a)) 0 n h := fun _ => ⟨rfl, fun _ _ _ _ _ => rfl, ⟨m, f, l1, l2⟩, _, _, _, _, h1, rfl, rfl, D, H, B.2.2.1⟩
  refine fE.of (L := [some (.ref 57), some (.ref 29), some (.int (bI (b = true))), none]) (by decide +kernel) (Nat.le_of_ble_eq_true rfl) rfl ?_
  by_cases cs : tkS tn bt a = 1
  · have eI : rdI tn bt D b a = rdZ tn bt (rdC tn bt D b a) := by unfold rdI; rw [if_pos cs]
    rw [eI]
    have fin : ∀ (g : hT) (r : Int32), rdQ tn h n (rdC tn bt D b a) r n g → fA M_T_readItem E (fZ M_T_readItem E (qI (rdQ tn h n (rdZ tn bt (rdC tn bt D b a))))) n g 0 0 101 [some (.ref 57), some (.ref 29), some (.int (bI (b = true))), some (.int r)] [] := by
      intro g r q
      have ok9 : ∀ x, rdC tn bt D b a = .inl x → okN x.1 ∧ tkE tn bt a ≤ x.2 ∧ x.2 ≤ tn := fun x hx => rdC_ok B ha hx
      generalize rdC tn bt D b a = cc at q ok9 ⊢
      obtain ⟨-, q2, ⟨m2, f2, q3, q4⟩, A, P, V, S, q5, q6⟩ := q
      cases cc with
      | inr ff =>
        obtain ⟨rfl, e2, D2, H2, B2⟩ := q6
        refine a_il3 fT_readItem_101 ?_
        refine a_if_eq fT_readItem_102 (fun _ => ?_) (fun c_ => absurd (rfl) c_)
        refine a_ic fT_readItem_116 ?_
        exact a_rz fT_readItem_117 rfl (by first | rfl | (split <;> rfl)) (⟨_, rfl, rfl, q2, ⟨m2, f2, q3, q4⟩, A, P, V, S, q5, rfl, e2, D2, H2, B2⟩)
      | inl x =>
        obtain ⟨rfl, rfl, H2⟩ := q6
        obtain ⟨k1, k2, k3⟩ := ok9 x rfl
        refine a_il3 fT_readItem_101 ?_
        refine a_if_eq fT_readItem_102 (fun c_ => absurd c_ (by decide)) (fun _ => ?_)
        refine a_al0 fT_readItem_105 ?_
        refine a_V0V fT_readItem_106 k_T_77 m_T_nextIsStop ⟨by decide, by decide⟩ q5 rfl ⟨rfl, rfl⟩ (Nat.le_of_ble_eq_true rfl) (c_nextIsStop q5 ((q2 58 (by omega) (by decide) (by decide) (by decide)).trans h2) K k3) ?_
        have fr : ∀ y, y < 29 ∨ 45 < y → y ≠ 57 → y ≠ 59 → y ≠ 60 → va_up g 57 (tkO tn bt x.2 V) y = h y := fun y y1 y2 y3 y4 => (vn y2).trans (q2 y y1 y2 y3 y4)
        have H3 : isH (va_up g 57 (tkO tn bt x.2 V)) 29 x.1 := H2.of (fun y _ _ => vn (by omega))
        have ln : ∃ m f, va_up g 57 (tkO tn bt x.2 V) 59 = lO 60 m ∧ va_up g 57 (tkO tn bt x.2 V) 60 = ia 4 f := ⟨m2, f2, up_n (by decide) q3, up_n (by decide) q4⟩
        by_cases c3 : tkS tn bt x.2 = 3
        · refine a_if_eq fT_readItem_109 (fun c_ => absurd c_ (fun z => by rw [bI_t c3] at z; exact absurd z (by decide))) (fun _ => ?_)
          refine a_ic fT_readItem_112 ?_
          refine a_goto fT_readItem_113 ?_
          exact a_rz fT_readItem_117 rfl (by first | rfl | (split <;> rfl)) (⟨_, rfl, rfl, fr, ln, _, _, _, _, up_s, by unfold rdZ; dsimp only; rw [if_pos c3]; exact ⟨rfl, rfl, H3⟩⟩)
        · refine a_if_eq fT_readItem_109 (fun _ => ?_) (fun c_ => absurd (by rw [bI_f c3]) c_)
          refine a_ic fT_readItem_116 ?_
          exact a_rz fT_readItem_117 rfl (by first | rfl | (split <;> rfl)) (⟨_, rfl, rfl, fr, ln, _, _, _, _, up_s, by unfold rdZ; dsimp only; rw [if_neg c3]; exact ⟨rfl, rfl, x.1, H3, k1.2.2.1⟩⟩)
    refine a_al0 fT_readItem_0 ?_
    refine a_gf fT_readItem_1 l_T_32 h1 rfl ?_
    refine a_ic fT_readItem_4 ?_
    refine a_ic_eq fT_readItem_5 (fun _ => ?_) (fun c_ => absurd (congrArg nI cs) c_)
    cases b with
    | true =>
      refine a_il2 fT_readItem_10 ?_
      refine a_if_eq fT_readItem_11 (fun c_ => absurd c_ (by decide)) (fun _ => ?_)
      refine a_al0 fT_readItem_14 ?_
      refine a_ldT (i := 0) fT_readItem_15 rfl (fun U H X => X.2.2.1) ?_
      refine a_V1V fT_readItem_17 k_T_52 m_T_isWord ⟨by decide, by decide⟩ h1 rfl ⟨rfl, rfl⟩ (Nat.le_of_ble_eq_true rfl) (c_isWord (i := 0) h1 h2 pe (by omega) hb (by decide)) ?_
      refine a_is3 fT_readItem_20 (by decide) rfl ?_
      refine a_goto fT_readItem_21 ?_
      refine fin h _ ?_
      unfold rdC
      rw [if_pos rfl]
      by_cases c0 : isWd bt (tkP tn bt a) (tkE tn bt a) 0
      · rw [if_pos c0, bI_t c0]
        exact ⟨rfl, fun _ _ _ _ _ => rfl, ⟨m, f, l1, l2⟩, _, _, _, _, h1, rfl, rfl, H⟩
      · rw [if_neg c0, bI_f c0]
        exact rf h
    | false =>
      refine a_il2 fT_readItem_10 ?_
      refine a_if_eq fT_readItem_11 (fun _ => ?_) (fun c_ => absurd (rfl) c_)
      refine a_al0 fT_readItem_24 ?_
      refine a_ldT (i := 1) fT_readItem_25 rfl (fun U H X => X.2.2.2.1) ?_
      refine a_V1V fT_readItem_27 k_T_52 m_T_isWord ⟨by decide, by decide⟩ h1 rfl ⟨rfl, rfl⟩ (Nat.le_of_ble_eq_true rfl) (c_isWord (i := 1) h1 h2 pe (by omega) hb (by decide)) ?_
      by_cases c1 : isWd bt (tkP tn bt a) (tkE tn bt a) 1
      · refine a_if_eq fT_readItem_30 (fun c_ => absurd c_ (fun z => by rw [bI_t c1] at z; exact absurd z (by decide))) (fun _ => ?_)
        refine a_al0 fT_readItem_33 ?_
        refine a_al1 fT_readItem_34 ?_
        refine a_V1I fT_readItem_35 k_T_58 m_T_readFigure ⟨by decide, by decide⟩ h1 rfl ⟨rfl, rfl⟩ (Nat.le_of_ble_eq_true rfl) (c_readFigure h1 h2 K a1 l1 l2 H B.2.2.1) (fun r1 n1 h3 p1 => ?_)
        refine a_is3 fT_readItem_38 (by decide) rfl ?_
        refine a_goto fT_readItem_39 ?_
        have hn1 := p1.1
        subst n1
        refine fin h3 _ ?_
        unfold rdC
        rw [if_neg (by decide), if_pos c1]
        exact p1
      · refine a_if_eq fT_readItem_30 (fun _ => ?_) (fun c_ => absurd (by rw [bI_f c1]) c_)
        refine a_al0 fT_readItem_42 ?_
        refine a_ldT (i := 2) fT_readItem_43 rfl (fun U H X => X.2.2.2.2.1) ?_
        refine a_V1V fT_readItem_45 k_T_52 m_T_isWord ⟨by decide, by decide⟩ h1 rfl ⟨rfl, rfl⟩ (Nat.le_of_ble_eq_true rfl) (c_isWord (i := 2) h1 h2 pe (by omega) hb (by decide)) ?_
        by_cases c2 : isWd bt (tkP tn bt a) (tkE tn bt a) 2
        · refine a_if_eq fT_readItem_48 (fun c_ => absurd c_ (fun z => by rw [bI_t c2] at z; exact absurd z (by decide))) (fun _ => ?_)
          refine a_al0 fT_readItem_51 ?_
          refine a_al1 fT_readItem_52 ?_
          refine a_V1I fT_readItem_53 k_T_64 m_T_readBill ⟨by decide, by decide⟩ h1 rfl ⟨rfl, rfl⟩ (Nat.le_of_ble_eq_true rfl) (c_readBill h1 h2 K a1 l1 l2 H B.2.2.1) (fun r1 n1 h3 p1 => ?_)
          refine a_is3 fT_readItem_56 (by decide) rfl ?_
          refine a_goto fT_readItem_57 ?_
          have hn1 := p1.1
          subst n1
          refine fin h3 _ ?_
          unfold rdC
          rw [if_neg (by decide), if_neg c1, if_pos c2]
          exact p1
        · refine a_if_eq fT_readItem_48 (fun _ => ?_) (fun c_ => absurd (by rw [bI_f c2]) c_)
          refine a_al0 fT_readItem_60 ?_
          refine a_ldT (i := 3) fT_readItem_61 rfl (fun U H X => X.2.2.2.2.2.1) ?_
          refine a_V1V fT_readItem_63 k_T_52 m_T_isWord ⟨by decide, by decide⟩ h1 rfl ⟨rfl, rfl⟩ (Nat.le_of_ble_eq_true rfl) (c_isWord (i := 3) h1 h2 pe (by omega) hb (by decide)) ?_
          by_cases c3 : isWd bt (tkP tn bt a) (tkE tn bt a) 3
          · refine a_if_eq fT_readItem_66 (fun c_ => absurd c_ (fun z => by rw [bI_t c3] at z; exact absurd z (by decide))) (fun _ => ?_)
            refine a_al0 fT_readItem_69 ?_
            refine a_al1 fT_readItem_70 ?_
            refine a_V1I fT_readItem_71 k_T_69 m_T_readWrite ⟨by decide, by decide⟩ h1 rfl ⟨rfl, rfl⟩ (Nat.le_of_ble_eq_true rfl) (c_readWrite h1 h2 K a1 l1 l2 H B) (fun r1 n1 h3 p1 => ?_)
            refine a_is3 fT_readItem_74 (by decide) rfl ?_
            refine a_goto fT_readItem_75 ?_
            have hn1 := p1.1
            subst n1
            refine fin h3 _ ?_
            unfold rdC
            rw [if_neg (by decide), if_neg c1, if_neg c2, if_pos c3]
            exact p1
          · refine a_if_eq fT_readItem_66 (fun _ => ?_) (fun c_ => absurd (by rw [bI_f c3]) c_)
            refine a_al0 fT_readItem_78 ?_
            refine a_ldT (i := 4) fT_readItem_79 rfl (fun U H X => X.2.2.2.2.2.2.1) ?_
            refine a_V1V fT_readItem_81 k_T_52 m_T_isWord ⟨by decide, by decide⟩ h1 rfl ⟨rfl, rfl⟩ (Nat.le_of_ble_eq_true rfl) (c_isWord (i := 4) h1 h2 pe (by omega) hb (by decide)) ?_
            by_cases c4 : isWd bt (tkP tn bt a) (tkE tn bt a) 4
            · refine a_if_eq fT_readItem_84 (fun c_ => absurd c_ (fun z => by rw [bI_t c4] at z; exact absurd z (by decide))) (fun _ => ?_)
              refine a_al0 fT_readItem_87 ?_
              refine a_al1 fT_readItem_88 ?_
              refine a_V1I fT_readItem_89 k_T_74 m_T_readNight ⟨by decide, by decide⟩ h1 rfl ⟨rfl, rfl⟩ (Nat.le_of_ble_eq_true rfl) (c_readNight h1 h2 K a1 l1 l2 H B) (fun r1 n1 h3 p1 => ?_)
              have hn1 := p1.1
              subst n1
              have e4 : rdC tn bt D false a = rdN tn bt D (tkE tn bt a) := by unfold rdC; rw [if_neg (by decide), if_neg c1, if_neg c2, if_neg c3, if_pos c4]
              have p2 : rdQ tn h n (rdC tn bt D false a) r1 n h3 := by rw [e4]; exact p1
              have r01 : r1 = 0 ∨ r1 = 1 := by
                obtain ⟨-, -, -, A, P, V, S, -, q6⟩ := p1
                cases e9 : rdN tn bt D (tkE tn bt a) with
                | inl x => rw [e9] at q6; exact Or.inr q6.1
                | inr x => rw [e9] at q6; exact Or.inl q6.1
              rcases r01 with rfl | rfl
              · refine a_if_eq fT_readItem_92 (fun _ => ?_) (fun c_ => absurd (rfl) c_)
                refine a_ic fT_readItem_99 ?_
                refine a_is3 fT_readItem_100 (by decide) rfl ?_
                exact fin h3 _ p2
              · refine a_if_eq fT_readItem_92 (fun c_ => absurd c_ (by decide)) (fun _ => ?_)
                refine a_ic fT_readItem_95 ?_
                refine a_goto fT_readItem_96 ?_
                refine a_is3 fT_readItem_100 (by decide) rfl ?_
                exact fin h3 _ p2
            · refine a_if_eq fT_readItem_84 (fun _ => ?_) (fun c_ => absurd (by rw [bI_f c4]) c_)
              refine a_ic fT_readItem_99 ?_
              refine a_is3 fT_readItem_100 (by decide) rfl ?_
              refine fin h _ ?_
              unfold rdC
              rw [if_neg (by decide), if_neg c1, if_neg c2, if_neg c3, if_neg c4]
              exact rf h
  · skip
    refine a_al0 fT_readItem_0 ?_
    refine a_gf fT_readItem_1 l_T_32 h1 rfl ?_
    refine a_ic fT_readItem_4 ?_
    refine a_ic_eq fT_readItem_5 (fun c_ => absurd c_ (fun z => cs ((nI_eq (b := 1) (by omega) (by decide)).mp z))) (fun _ => ?_)
    refine a_ic fT_readItem_8 ?_
    exact a_rz fT_readItem_9 rfl (by first | rfl | (split <;> rfl)) (⟨_, rfl, by rw [show rdI tn bt D b a = .inr (tkP tn bt a) by unfold rdI; rw [if_neg cs]]; exact rf h⟩)
end RE
