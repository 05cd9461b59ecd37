section TI
variable {E : eT} {n : Nat} {h : hT} {tn : Nat} {bt : Nat → Nat}
abbrev bD (D : Nat → Nat) : Prop := D 31 ≤ 6 ∧ D 46 ≤ 6 ∧ D 59 ≤ 6 ∧ D 84 ≤ 8
def rdR (g : hT) (o : (Nat → Nat) × Nat ⊕ Nat) (r : Int32) (A P : Nat) : Prop := match o with
  | .inl x => r = 1 ∧ A = x.2 ∧ isH g 29 x.1
  | .inr f => r = 0 ∧ P = f ∧ ∃ D, isH g 29 D ∧ bD D
def rdQ (tn : Nat) (h : hT) (n : Nat) (o : (Nat → Nat) × Nat ⊕ Nat) (r : Int32) (k : Nat) (g : hT) : Prop :=
  k = n ∧ (∀ a, a < 29 ∨ 45 < a → a ≠ 57 → a ≠ 59 → a ≠ 60 → g a = h a) ∧ (∃ m f, g 59 = lO 60 m ∧ g 60 = ia 4 f) ∧ ∃ (A P V : Nat) (S : Int32), g 57 = tO tn (nI A) (nI P) S (nI V) ∧ rdR g o r A P
/-- a figure's three numbers -/
def rdF (tn : Nat) (bt D : Nat → Nat) (a : Nat) : (Nat → Nat) × Nat ⊕ Nat :=
  if ¬ isNo tn bt a 0 9 then .inr (tkP tn bt a) else if ¬ isNo tn bt (tkE tn bt a) 0 5 then .inr (tkP tn bt (tkE tn bt a)) else if ¬ isNo tn bt (tkE tn bt (tkE tn bt a)) 1 60 then .inr (tkP tn bt (tkE tn bt (tkE tn bt a))) else
  .inl (tfN D (tkV tn bt a 0) (tkV tn bt (tkE tn bt a) 0) (tkV tn bt (tkE tn bt (tkE tn bt a)) 0), tkE tn bt (tkE tn bt (tkE tn bt a)))
theorem tkO_v {a v : Nat} (z : tkS tn bt a = 2) : tkO tn bt a v = tkO tn bt a 0 := by unfold tkO; rw [tkV_v z]
theorem rdQ.no {o : (Nat → Nat) × Nat ⊕ Nat} {A P V m : Nat} {S : Int32} {f : Nat → Int32} {D : Nat → Nat} (H : isH h 29 D) (B : bD D) (l1 : h 59 = lO 60 m) (l2 : h 60 = ia 4 f) (e : o = .inr P) : rdQ tn h n o 0 n (va_up h 57 (tO tn (nI A) (nI P) S (nI V))) := by
  subst e
  exact ⟨rfl, fun a _ h7 _ _ => vn h7, ⟨m, f, up_n (by decide) l1, up_n (by decide) l2⟩, A, P, V, S, up_s, rfl, rfl, D, H.of (fun a _ _ => vn (by omega)), B⟩
theorem c_readFigure {a v m : Nat} {p s : Int32} {f : Nat → Int32} {D : Nat → Nat} (h1 : h 57 = tO tn (nI a) p s (nI v)) (h2 : h 58 = nA 150 bt) (K : okX tn bt) (ha : a ≤ tn) (l1 : h 59 = lO 60 m) (l2 : h 60 = ia 4 f) (H : isH h 29 D) (B : bD D) : fE M_T_readFigure E [.ref 57, .ref 29] n h (qI (rdQ tn h n (rdF tn bt D a))) := by
  refine fE.of (L := [some (.ref 57), some (.ref 29), none, none]) (by decide +kernel) (Nat.le_of_ble_eq_true rfl) rfl ?_
  by_cases c1 : isNo tn bt a 0 9
  · refine a_al0 fT_readFigure_0 ?_
    refine a_ic fT_readFigure_1 ?_
    refine a_ic fT_readFigure_2 ?_
    refine a_V2V fT_readFigure_4 k_T_81 m_T_nextIsNumber ⟨by decide, by decide⟩ h1 rfl ⟨rfl, rfl⟩ (Nat.le_of_ble_eq_true rfl) (c_nextIsNumber h1 h2 K ha (lo := 0) (hi := 9) (by decide) (by decide)) ?_
    refine a_if_ne fT_readFigure_7 (fun _ => ?_) (fun c_ => absurd c_ (fun z => by rw [bI_t c1] at z; exact absurd z (by decide)))
    have a1 := tkE_le (bt := bt) ha
    by_cases c2 : isNo tn bt (tkE tn bt a) 0 5
    · refine a_al0 fT_readFigure_12 ?_
      refine a_gf fT_readFigure_13 l_T_35 up_s rfl ?_
      refine a_is2 fT_readFigure_16 (by decide) rfl ?_
      refine a_al0 fT_readFigure_17 ?_
      refine a_ic fT_readFigure_18 ?_
      refine a_ic fT_readFigure_19 ?_
      refine a_V2V fT_readFigure_20 k_T_81 m_T_nextIsNumber ⟨by decide, by decide⟩ up_s rfl ⟨rfl, rfl⟩ (Nat.le_of_ble_eq_true rfl) (c_nextIsNumber up_s (up_n (by decide) h2) K a1 (lo := 0) (hi := 5) (by decide) (by decide)) ?_
      refine a_if_ne fT_readFigure_23 (fun _ => ?_) (fun c_ => absurd c_ (fun z => by rw [bI_t c2] at z; exact absurd z (by decide)))
      rw [bx_uu]
      have a2 := tkE_le (bt := bt) a1
      by_cases c3 : isNo tn bt (tkE tn bt (tkE tn bt a)) 1 60
      · refine a_al0 fT_readFigure_28 ?_
        refine a_gf fT_readFigure_29 l_T_35 up_s rfl ?_
        refine a_is3 fT_readFigure_32 (by decide) rfl ?_
        refine a_al0 fT_readFigure_33 ?_
        refine a_ic fT_readFigure_34 ?_
        refine a_ic fT_readFigure_35 ?_
        refine a_V2V fT_readFigure_37 k_T_81 m_T_nextIsNumber ⟨by decide, by decide⟩ up_s rfl ⟨rfl, rfl⟩ (Nat.le_of_ble_eq_true rfl) (c_nextIsNumber up_s (up_n (by decide) h2) K a2 (lo := 1) (hi := 60) (by decide) (by decide)) ?_
        refine a_if_ne fT_readFigure_40 (fun _ => ?_) (fun c_ => absurd c_ (fun z => by rw [bI_t c3] at z; exact absurd z (by decide)))
        rw [bx_uu, tkV_v c1.1, tkV_v c2.1, tkO_v c3.1]
        have H1 : isH (va_up h 57 (tkO tn bt (tkE tn bt (tkE tn bt a)) 0)) 29 D := H.of (fun a _ _ => vn (by omega))
        refine a_al1 fT_readFigure_45 ?_
        refine a_il2 fT_readFigure_46 ?_
        refine a_il3 fT_readFigure_47 ?_
        refine a_al0 fT_readFigure_48 ?_
        refine a_gf fT_readFigure_49 l_T_35 up_s rfl ?_
        refine a_V3Q fT_readFigure_52 k_T_87 m_H_tellFigure ⟨by decide, by decide⟩ H1.o rfl ⟨rfl, rfl⟩ (Nat.le_of_ble_eq_true rfl) (c_tellFigure H1 B (show tkV tn bt a 0 < 10 by have := c1.2.2; omega)) (fun n1 h3 p1 => ?_)
        obtain ⟨hn1, H3, F3⟩ := p1
        subst n1
        have e : rdF tn bt D a = .inl (tfN D (tkV tn bt a 0) (tkV tn bt (tkE tn bt a) 0) (tkV tn bt (tkE tn bt (tkE tn bt a)) 0), tkE tn bt (tkE tn bt (tkE tn bt a))) := by unfold rdF; rw [if_neg (not_not_intro c1), if_neg (not_not_intro c2), if_neg (not_not_intro c3)]
        refine a_ic fT_readFigure_55 ?_
        exact a_rz fT_readFigure_56 rfl (by first | rfl | (split <;> rfl)) (⟨_, rfl, by rw [e]; exact ⟨rfl, fun a h5 h7 _ _ => (F3 a (by omega)).trans (vn h7), ⟨m, f, (F3 59 (by omega)).trans (up_n (by decide) l1), (F3 60 (by omega)).trans (up_n (by decide) l2)⟩, _, _, _, _, (F3 57 (by omega)).trans up_s, rfl, rfl, H3⟩⟩)
      · refine a_al0 fT_readFigure_28 ?_
        refine a_gf fT_readFigure_29 l_T_35 up_s rfl ?_
        refine a_is3 fT_readFigure_32 (by decide) rfl ?_
        refine a_al0 fT_readFigure_33 ?_
        refine a_ic fT_readFigure_34 ?_
        refine a_ic fT_readFigure_35 ?_
        refine a_V2V fT_readFigure_37 k_T_81 m_T_nextIsNumber ⟨by decide, by decide⟩ up_s rfl ⟨rfl, rfl⟩ (Nat.le_of_ble_eq_true rfl) (c_nextIsNumber up_s (up_n (by decide) h2) K a2 (lo := 1) (hi := 60) (by decide) (by decide)) ?_
        refine a_if_ne fT_readFigure_40 (fun c_ => absurd (by rw [bI_f c3]) c_) (fun _ => ?_)
        rw [bx_uu]
        refine a_ic fT_readFigure_43 ?_
        exact a_rz fT_readFigure_44 rfl (by first | rfl | (split <;> rfl)) (⟨_, rfl, rdQ.no H B l1 l2 (by unfold rdF; rw [if_neg (not_not_intro c1), if_neg (not_not_intro c2), if_pos c3])⟩)
    · skip
      refine a_al0 fT_readFigure_12 ?_
      refine a_gf fT_readFigure_13 l_T_35 up_s rfl ?_
      refine a_is2 fT_readFigure_16 (by decide) rfl ?_
      refine a_al0 fT_readFigure_17 ?_
      refine a_ic fT_readFigure_18 ?_
      refine a_ic fT_readFigure_19 ?_
      refine a_V2V fT_readFigure_20 k_T_81 m_T_nextIsNumber ⟨by decide, by decide⟩ up_s rfl ⟨rfl, rfl⟩ (Nat.le_of_ble_eq_true rfl) (c_nextIsNumber up_s (up_n (by decide) h2) K a1 (lo := 0) (hi := 5) (by decide) (by decide)) ?_
      refine a_if_ne fT_readFigure_23 (fun c_ => absurd (by rw [bI_f c2]) c_) (fun _ => ?_)
      rw [bx_uu]
      refine a_ic fT_readFigure_26 ?_
      exact a_rz fT_readFigure_27 rfl (by first | rfl | (split <;> rfl)) (⟨_, rfl, rdQ.no H B l1 l2 (by unfold rdF; rw [if_neg (not_not_intro c1), if_pos c2])⟩)
  · skip
    refine a_al0 fT_readFigure_0 ?_
    refine a_ic fT_readFigure_1 ?_
    refine a_ic fT_readFigure_2 ?_
    refine a_V2V fT_readFigure_4 k_T_81 m_T_nextIsNumber ⟨by decide, by decide⟩ h1 rfl ⟨rfl, rfl⟩ (Nat.le_of_ble_eq_true rfl) (c_nextIsNumber h1 h2 K ha (lo := 0) (hi := 9) (by decide) (by decide)) ?_
    refine a_if_ne fT_readFigure_7 (fun c_ => absurd (by rw [bI_f c1]) c_) (fun _ => ?_)
    refine a_ic fT_readFigure_10 ?_
    exact a_rz fT_readFigure_11 rfl (by first | rfl | (split <;> rfl)) (⟨_, rfl, rdQ.no H B l1 l2 (by unfold rdF; rw [if_pos c1])⟩)
end TI
