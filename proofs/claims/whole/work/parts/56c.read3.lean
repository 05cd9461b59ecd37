section RF
variable {E : eT} {n : Nat} {h : hT} {tn : Nat} {bt : Nat → Nat}
/-- what reading answers, and the draft behind it -/
def rdT (g : hT) (o : (Nat → Nat) × Nat ⊕ Nat) (r : Int32) (P : Nat) : Prop := match o with
  | .inl x => r = nI x.2 ∧ x.2 ≤ 150 ∧ isH g 29 x.1 ∧ okN x.1
  | .inr f => r = -1 ∧ P = f ∧ f ≤ 150 ∧ ∃ D, isH g 29 D ∧ bD D
theorem c_readInto {m : Nat} {p s0 v0 a0 : Int32} {f : Nat → Int32} {M : Nat → Nat} (h1 : h 57 = tO tn a0 p s0 v0) (h2 : h 58 = nA 150 bt) (K : okX tn bt) (l1 : h 59 = lO 60 m) (l2 : h 60 = ia 4 f) (H : isH h 29 M) : fE M_T_readInto E [.ref 57, .ref 29] n h (qI (fun r k g => k = n ∧ (∀ a, a < 29 ∨ 45 < a → a ≠ 57 → a ≠ 59 → a ≠ 60 → g a = h a) ∧ (∃ m f, g 59 = lO 60 m ∧ g 60 = ia 4 f) ∧ ∃ (A P V : Nat) (S : Int32), g 57 = tO tn (nI A) (nI P) S (nI V) ∧ rdT g (rdA tn bt 151 0 N0 0) r P)) := by
  have k0 := K.1
  have loop : ∀ (j it : Nat) (g : hT) (D : Nat → Nat) (a v : Nat), it + j = 151 → it ≤ a → a ≤ tn → okN D → (∀ y, y < 29 ∨ 45 < y → y ≠ 57 → y ≠ 59 → y ≠ 60 → g y = h y) → (∃ m f, g 59 = lO 60 m ∧ g 60 = ia 4 f) → g 57 = tkO tn bt a v → isH g 29 D → rdA tn bt j it D a = rdA tn bt 151 0 N0 0 → fA M_T_readInto E (fZ M_T_readInto E (qI (fun r k g => k = n ∧ (∀ a, a < 29 ∨ 45 < a → a ≠ 57 → a ≠ 59 → a ≠ 60 → g a = h a) ∧ (∃ m f, g 59 = lO 60 m ∧ g 60 = ia 4 f) ∧ ∃ (A P V : Nat) (S : Int32), g 57 = tO tn (nI A) (nI P) S (nI V) ∧ rdT g (rdA tn bt 151 0 N0 0) r P))) n g 0 0 15 [some (.ref 57), some (.ref 29), some (.int (nI it))] [] := by
    intro j
    induction j with
    | zero => intro it g D a v hj hi ha; omega
    | succ j ih =>
      intro it g D a v hj hi ha B fr ln h57 HD he
      have s5 := @tkS_le tn bt a
      refine a_il2 fT_readInto_15 ?_
      refine a_ic fT_readInto_16 ?_
      refine a_ic_gt fT_readInto_19 (fun c_ => absurd c_ (nI_nlt (a := 150) (b := it) (by omega) (by decide))) (fun _ => ?_)
      have go : (¬ (tkS tn bt a = 0 ∧ 0 < it)) → fA M_T_readInto E (fZ M_T_readInto E (qI (fun r k g => k = n ∧ (∀ a, a < 29 ∨ 45 < a → a ≠ 57 → a ≠ 59 → a ≠ 60 → g a = h a) ∧ (∃ m f, g 59 = lO 60 m ∧ g 60 = ia 4 f) ∧ ∃ (A P V : Nat) (S : Int32), g 57 = tO tn (nI A) (nI P) S (nI V) ∧ rdT g (rdA tn bt 151 0 N0 0) r P))) n g 0 0 35 [some (.ref 57), some (.ref 29), some (.int (nI it))] [] := by
        intro hc
        obtain ⟨m1, f1, g9, g0⟩ := ln
        have call : fA M_T_readInto E (fZ M_T_readInto E (qI (fun r k g => k = n ∧ (∀ a, a < 29 ∨ 45 < a → a ≠ 57 → a ≠ 59 → a ≠ 60 → g a = h a) ∧ (∃ m f, g 59 = lO 60 m ∧ g 60 = ia 4 f) ∧ ∃ (A P V : Nat) (S : Int32), g 57 = tO tn (nI A) (nI P) S (nI V) ∧ rdT g (rdA tn bt 151 0 N0 0) r P))) n g 0 0 46 [some (.ref 57), some (.ref 29), some (.int (nI it))] [.int (bI (decide (it = 0) = true)), .ref 29, .ref 57] := by
          refine a_V2I fT_readInto_46 k_T_46 m_T_readItem ⟨by decide, by decide⟩ h57 rfl ⟨rfl, rfl⟩ (Nat.le_of_ble_eq_true rfl) (c_readItem h57 ((fr 58 (by omega) (by decide) (by decide) (by decide)).trans h2) K ha g9 g0 HD B) (fun r1 n1 h3 p1 => ?_)
          obtain ⟨hn1, q2, q3, A, P, V, S, q5, q6⟩ := p1
          subst n1
          have fr3 : ∀ y, y < 29 ∨ 45 < y → y ≠ 57 → y ≠ 59 → y ≠ 60 → h3 y = h y := fun y y1 y2 y3 y4 => (q2 y y1 y2 y3 y4).trans (fr y y1 y2 y3 y4)
          cases e9 : rdI tn bt D (decide (it = 0)) a with
          | inr ff =>
            rw [e9] at q6
            obtain ⟨rfl, e2, D2, H2, B2⟩ := q6
            have eA : rdA tn bt 151 0 N0 0 = .inr ff := by rw [← he]; simp only [rdA]; rw [if_neg hc, e9]
            have fb : ff ≤ 150 := by
              have := rdI_le ha e9
              omega
            refine a_if_ne fT_readInto_49 (fun c_ => absurd (rfl) c_) (fun _ => ?_)
            refine a_ic fT_readInto_52 ?_
            exact a_ri fT_readInto_53 rfl (⟨_, rfl, rfl, fr3, q3, A, P, V, S, q5, by rw [eA]; exact ⟨rfl, e2, fb, D2, H2, B2⟩⟩)
          | inl x =>
            rw [e9] at q6
            obtain ⟨rfl, rfl, H2⟩ := q6
            obtain ⟨k1, k2, k3⟩ := rdI_ok B ha e9
            refine a_if_ne fT_readInto_49 (fun _ => ?_) (fun c_ => absurd c_ (by decide))
            refine a_al0 fT_readInto_54 ?_
            refine a_V0N fT_readInto_55 k_T_43 m_T_nextToken ⟨by decide, by decide⟩ q5 rfl ⟨rfl, rfl⟩ (Nat.le_of_ble_eq_true rfl) (c_nextToken q5 ((fr3 58 (by omega) (by decide) (by decide) (by decide)).trans h2) K k3) ?_
            refine a_inc2 fT_readInto_58 (by decide) rfl ?_
            refine a_goto fT_readInto_61 ?_
            rw [nI_1]
            obtain ⟨m3, f3, q31, q32⟩ := q3
            exact ih (it + 1) _ x.1 x.2 V (by omega) (by omega) k3 k1 (fun y y1 y2 y3 y4 => (vn y2).trans (fr3 y y1 y2 y3 y4)) ⟨m3, f3, up_n (by decide) q31, up_n (by decide) q32⟩ up_s (H2.of (fun y _ _ => vn (by omega))) (by rw [← he]; simp only [rdA]; rw [if_neg hc, e9])
        by_cases c0 : it = 0
        · subst c0
          refine a_al0 fT_readInto_35 ?_
          refine a_al1 fT_readInto_36 ?_
          refine a_il2 fT_readInto_37 ?_
          refine a_if_ne fT_readInto_38 (fun c_ => absurd (rfl) c_) (fun _ => ?_)
          refine a_ic fT_readInto_41 ?_
          refine a_goto fT_readInto_42 ?_
          exact call
        · refine a_al0 fT_readInto_35 ?_
          refine a_al1 fT_readInto_36 ?_
          refine a_il2 fT_readInto_37 ?_
          refine a_if_ne fT_readInto_38 (fun _ => ?_) (fun c_ => absurd c_ (nI_ne0 (by omega) (by omega)))
          refine a_ic fT_readInto_45 ?_
          rw [show bI (decide (it = 0) = true) = 0 from bI_f (fun z => c0 (of_decide_eq_true z))] at call
          exact call
      by_cases cs : tkS tn bt a = 0
      · refine a_al0 fT_readInto_22 ?_
        refine a_gf fT_readInto_23 l_T_32 h57 rfl ?_
        refine a_if_ne fT_readInto_26 (fun c_ => absurd (congrArg nI cs) c_) (fun _ => ?_)
        by_cases ci : 0 < it
        · refine a_il2 fT_readInto_29 ?_
          refine a_if_le fT_readInto_30 (fun c_ => absurd c_ (nI_nle ci (by omega))) (fun _ => ?_)
          have eA : rdA tn bt 151 0 N0 0 = .inl (D, it) := by rw [← he]; simp only [rdA]; rw [if_pos ⟨cs, ci⟩]
          refine a_il2 fT_readInto_33 ?_
          exact a_ri fT_readInto_34 rfl (⟨_, rfl, rfl, fr, ln, _, _, _, _, h57, by rw [eA]; exact ⟨rfl, by show it ≤ 150; omega, HD, B⟩⟩)
        · refine a_il2 fT_readInto_29 ?_
          refine a_if_le fT_readInto_30 (fun _ => ?_) (fun c_ => absurd (by rw [show it = 0 by omega]; decide) c_)
          exact go (fun z => ci z.2)
      · refine a_al0 fT_readInto_22 ?_
        refine a_gf fT_readInto_23 l_T_32 h57 rfl ?_
        refine a_if_ne fT_readInto_26 (fun _ => ?_) (fun c_ => absurd c_ (fun z => cs ((nI_eq (b := 0) (by omega) (by decide)).mp z)))
        exact go (fun z => cs z.1)
  refine fE.of (L := [some (.ref 57), some (.ref 29), none]) (by decide +kernel) (Nat.le_of_ble_eq_true rfl) rfl ?_
  refine a_al1 fT_readInto_0 ?_
  refine a_V0Q fT_readInto_1 k_T_38 m_H_begin ⟨by decide, by decide⟩ H.o rfl ⟨rfl, rfl⟩ (Nat.le_of_ble_eq_true rfl) (c_Hbegin H) (fun n1 h3 p1 => ?_)
  obtain ⟨hn1, H3, F3⟩ := p1
  subst n1
  obtain ⟨v1, rfl⟩ := nI_sur v0
  have h57 : h3 57 = tO tn a0 p s0 (nI v1) := (F3 57 (by omega)).trans h1
  refine a_al0 fT_readInto_4 ?_
  refine a_ic fT_readInto_5 ?_
  refine a_pfi3 fT_readInto_6 p_T_26 h57 ?_
  refine a_al0 fT_readInto_9 ?_
  refine a_V0N fT_readInto_10 k_T_43 m_T_nextToken ⟨by decide, by decide⟩ up_s rfl ⟨rfl, rfl⟩ (Nat.le_of_ble_eq_true rfl) (c_nextToken (a := 0) up_s (up_n (by decide) ((F3 58 (by omega)).trans h2)) K (Nat.zero_le _)) ?_
  refine a_ic fT_readInto_13 ?_
  refine a_is2 fT_readInto_14 (by decide) rfl ?_
  rw [bx_uu]
  exact loop 151 0 _ N0 0 v1 rfl (Nat.le_refl _) (Nat.zero_le _) okN_N0 (fun y y1 y2 _ _ => (vn y2).trans (F3 y (by omega))) ⟨m, f, up_n (by decide) ((F3 59 (by omega)).trans l1), up_n (by decide) ((F3 60 (by omega)).trans l2)⟩ up_s (H3.of (fun y _ _ => vn (by omega))) rfl
end RF
