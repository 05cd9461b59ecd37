theorem sgn_lt {v x : Nat} (hv : v < 100) (hx : x < 100) : ∀ f ∈ sgn v x, f < 10 := by
  intro f hf
  unfold sgn at hf
  rcases List.mem_append.mp hf with q | q
  · exact dig_lt hx f q
  · by_cases c : x = v
    · rw [if_pos c] at q; cases q
    · rw [if_neg c] at q
      exact dig_lt (by split <;> omega) f q
def bsD (s : Option (Nat × Nat)) : Int32 := match s with
  | none => 0
  | some q => nI q.2
section PB
variable {P : Nat → Bool} {C : Nat → Nat} {v : Nat}
theorem bstL_some : ∀ (j i : Nat) (q : Nat × Nat), ∃ q2, bstL P C v j i (some q) = some q2 := by
  intro j
  induction j with
  | zero => intro i q; exact ⟨q, rfl⟩
  | succ j ih =>
    intro i q
    simp only [bstL]
    unfold bst
    split
    · exact ih _ _
    · exact ih _ _
theorem bstL_none : ∀ (j i : Nat), bstL P C v j i none = none ↔ ∀ x, i ≤ x → x < i + j → ¬ P x = true := by
  intro j
  induction j with
  | zero => intro i; exact ⟨fun _ x h1 h2 => by omega, fun _ => rfl⟩
  | succ j ih =>
    intro i
    simp only [bstL]
    unfold bst
    by_cases c : P i = true
    · rw [if_pos ⟨c, rfl⟩]
      obtain ⟨q2, e⟩ := bstL_some (P := P) (C := C) (v := v) j (i + 1) (i, C i)
      rw [e]
      exact ⟨fun z => (by cases z), fun z => absurd c (z i (Nat.le_refl _) (by omega))⟩
    · rw [if_neg (fun z => c z.1), ih]
      constructor
      · intro z x h1 h2
        by_cases q : x = i
        · subst q; exact c
        · exact z x (by omega) (by omega)
      · intro z x h1 h2
        exact z x (by omega) (by omega)
theorem bstL_lt {b : Nat} : ∀ (j i : Nat) (s : Option (Nat × Nat)), i + j ≤ b → (∀ q, s = some q → q.1 < b) → ∀ q, bstL P C v j i s = some q → q.1 < b := by
  intro j
  induction j with
  | zero => intro i s _ hs q hq; exact hs q hq
  | succ j ih =>
    intro i s hi hs q hq
    refine ih (i + 1) _ (by omega) (fun q2 h2 => ?_) q hq
    unfold bst at h2
    split at h2
    · cases h2; show i < b; omega
    · exact hs q2 h2
end PB
theorem bsF_m1 {P : Nat → Bool} {C : Nat → Nat} {v : Nat} : bsF (bstL P C v 100 0 none) = -1 ↔ ∀ x, x < 100 → ¬ P x = true := by
  have h1 := bstL_none (P := P) (C := C) (v := v) 100 0
  cases e : bstL P C v 100 0 none with
  | none =>
    refine ⟨fun _ x hx => h1.mp e x (Nat.zero_le _) (by omega), fun _ => rfl⟩
  | some q =>
    have := bstL_lt (b := 100) 100 0 none (by omega) (fun _ z => by cases z) q e
    refine ⟨fun z => absurd z (nI_nm1 (show q.1 < 2 ^ 31 by omega)), fun z => ?_⟩
    rw [h1.mpr (fun x _ hx => z x (by omega))] at e
    cases e
section M5
variable {E : eT} {n : Nat} {h : hT} {c : mT} {th mn : Int32} {N : Nat → Nat}
theorem c_MbestOf {v : Nat} (M : mM c h) (m1 : h 64 = nA 189 N) (O : okC N) (hv : v < 100) : fE M_M_bestOf E [.ref 63, .int (nI v)] n h (qI (fun r k g => r = bsF (bstL (fun x => decide (canR N v x)) (cstR N v) v 100 0 none) ∧ k = n ∧ mM c g ∧ mL h g)) := by
  have loop : ∀ (j i : Nat) (g : hT) (s : Option (Nat × Nat)) (T : Int32) (x5 : Option Value), i + j = 100 → mM c g → mL h g → (∀ q, s = some q → q.1 < 100 ∧ q.2 ≤ 24) → bsF (bstL (fun x => decide (canR N v x)) (cstR N v) v j i s) = T → fA M_M_bestOf E (fZ M_M_bestOf E (qI (fun r k g => r = T ∧ k = n ∧ mM c g ∧ mL h g))) n g 0 0 7 [some (.ref 63), some (.int (nI v)), some (.int (bsF s)), some (.int (bsD s)), some (.int (nI i)), x5] [] := by
    intro j
    induction j with
    | zero =>
      intro i g s T x5 hi M F hs hT9
      obtain rfl : i = 100 := by omega
      refine a_il4 fM_bestOf_7 ?_
      refine a_ic fM_bestOf_9 ?_
      refine a_ic_ge fM_bestOf_11 (fun _ => ?_) (fun c_ => absurd (Int32.le_refl _) c_)
      refine a_il2 fM_bestOf_72 ?_
      exact a_ri fM_bestOf_73 rfl (⟨_, rfl, hT9, rfl, M, F⟩)
    | succ j ih =>
      intro i g s T x5 hi M F hs hT9
      have m1g : g 64 = nA 189 N := (F 64 (by decide) (by decide)).trans m1
      have M9 := M
      obtain ⟨⟨th, mn, m0⟩, f0, m8⟩ := M9
      refine a_il4 fM_bestOf_7 ?_
      refine a_ic fM_bestOf_9 ?_
      refine a_ic_ge fM_bestOf_11 (fun c_ => absurd c_ (nI_ge (b := 100) (by omega) (by decide))) (fun _ => ?_)
      refine a_al0 fM_bestOf_14 ?_
      refine a_al0 fM_bestOf_15 ?_
      refine a_gf fM_bestOf_16 l_M_7 m0 rfl ?_
      refine a_il1 fM_bestOf_19 ?_
      refine a_il4 fM_bestOf_20 ?_
      refine a_V3I fM_bestOf_22 k_M_126 m_M_canOf ⟨by decide, by decide⟩ m0 rfl ⟨rfl, rfl⟩ (Nat.le_of_ble_eq_true rfl) (c_McanOf M m1g (by decide) (by decide) O hv (x := i) (by omega)) (fun r3 n3 h3 p3 => ?_)
      obtain ⟨hr3, hn3, M3, F3⟩ := p3
      subst n3
      rw [hr3]
      have hc : cstR N v i ≤ 24 := Nat.le_trans (cst_le _ 0 (by have := @sgn_len v i; omega)) (by have := @sgn_len v i; omega)
      have nx : ∀ (g2 : hT) (s2 : Option (Nat × Nat)) (y5 : Option Value), mM c g2 → mL h g2 → bst (fun x => decide (canR N v x)) (cstR N v) v s i = s2 → fA M_M_bestOf E (fZ M_M_bestOf E (qI (fun r k g => r = T ∧ k = n ∧ mM c g ∧ mL h g))) n g2 0 0 66 [some (.ref 63), some (.int (nI v)), some (.int (bsF s2)), some (.int (bsD s2)), some (.int (nI i)), y5] [] := by
        intro g2 s2 y5 M2 F2 he
        refine a_inc4 fM_bestOf_66 (by decide) rfl ?_
        refine a_goto fM_bestOf_69 ?_
        rw [nI_1]
        refine ih (i + 1) g2 s2 T _ (by omega) M2 F2 (fun q hq => ?_) (by rw [← hT9, ← he]; rfl)
        rw [hq] at he
        unfold bst at he
        split at he
        · cases he; exact ⟨by omega, hc⟩
        · exact hs q he
      by_cases c9 : canR N v i
      · refine a_if_eq fM_bestOf_25 (fun c_ => absurd c_ (fun z => by rw [bI_t c9] at z; exact absurd z (by decide))) (fun _ => ?_)
        have m13 : h3 64 = nA 189 N := (F3 64 (by decide) (by decide)).trans m1g
        have M39 := M3
        obtain ⟨⟨th3, mn3, m03⟩, f3, m83⟩ := M39
        refine a_al0 fM_bestOf_28 ?_
        refine a_il1 fM_bestOf_29 ?_
        refine a_il4 fM_bestOf_30 ?_
        refine a_V2I fM_bestOf_32 k_M_149 m_M_costOf ⟨by decide, by decide⟩ m03 rfl ⟨rfl, rfl⟩ (Nat.le_of_ble_eq_true rfl) (c_McostOf M3 m13 O hv (x := i) (by omega)) (fun r4 n4 h4 p4 => ?_)
        obtain ⟨hr4, hn4, M4, F4⟩ := p4
        subst n4
        rw [hr4]
        have F5 : mL h h4 := F.trans (F3.trans F4)
        have tk : bet (cstR N v) v s i = true → fA M_M_bestOf E (fZ M_M_bestOf E (qI (fun r k g => r = T ∧ k = n ∧ mM c g ∧ mL h g))) n h4 0 0 60 [some (.ref 63), some (.int (nI v)), some (.int (bsF s)), some (.int (bsD s)), some (.int (nI i)), some (.int (nI (cstR N v i)))] [] := by
          intro hb
          refine a_il4 fM_bestOf_60 ?_
          refine a_is2 fM_bestOf_62 (by decide) rfl ?_
          refine a_il5 fM_bestOf_63 ?_
          refine a_is3 fM_bestOf_65 (by decide) rfl ?_
          exact nx h4 (some (i, cstR N v i)) _ M4 F5 (by unfold bst; rw [if_pos ⟨decide_eq_true c9, hb⟩])
        cases s with
        | none =>
          refine a_is5 fM_bestOf_35 (by decide) rfl ?_
          refine a_il2 fM_bestOf_37 ?_
          refine a_ic fM_bestOf_38 ?_
          refine a_ic_eq fM_bestOf_39 (fun _ => ?_) (fun c_ => absurd (rfl) c_)
          exact tk rfl
        | some q =>
          obtain ⟨q1, q2⟩ := hs q rfl
          refine a_is5 fM_bestOf_35 (by decide) rfl ?_
          refine a_il2 fM_bestOf_37 ?_
          refine a_ic fM_bestOf_38 ?_
          refine a_ic_eq fM_bestOf_39 (fun c_ => absurd c_ (nI_nm1 (show q.1 < 2 ^ 31 by omega))) (fun _ => ?_)
          by_cases c1 : cstR N v i < q.2
          · refine a_il5 fM_bestOf_42 ?_
            refine a_il3 fM_bestOf_44 ?_
            refine a_ic_lt fM_bestOf_45 (fun _ => ?_) (fun c_ => absurd (nI_lt c1 (by omega)) c_)
            exact tk (decide_eq_true (Or.inl c1))
          · refine a_il5 fM_bestOf_42 ?_
            refine a_il3 fM_bestOf_44 ?_
            refine a_ic_lt fM_bestOf_45 (fun c_ => absurd c_ (fun z => c1 ((nI_ltI (by omega) (by omega)).mp z))) (fun _ => ?_)
            by_cases c2 : cstR N v i = q.2
            · refine a_il5 fM_bestOf_48 ?_
              refine a_il3 fM_bestOf_50 ?_
              refine a_ic_ne fM_bestOf_51 (fun c_ => absurd (congrArg nI c2) c_) (fun _ => ?_)
              by_cases c3 : i = v
              · refine a_il4 fM_bestOf_54 ?_
                refine a_il1 fM_bestOf_56 ?_
                refine a_ic_ne fM_bestOf_57 (fun c_ => absurd (congrArg nI c3) c_) (fun _ => ?_)
                exact tk (decide_eq_true (Or.inr ⟨c2, c3⟩))
              · refine a_il4 fM_bestOf_54 ?_
                refine a_il1 fM_bestOf_56 ?_
                refine a_ic_ne fM_bestOf_57 (fun _ => ?_) (fun c_ => absurd c_ (fun z => c3 ((nI_eq (by omega) (by omega)).mp z)))
                exact nx h4 (some q) _ M4 F5 (by unfold bst; rw [if_neg (fun z => absurd (of_decide_eq_true z.2) (fun z => z.elim c1 (fun z => c3 z.2)))])
            · refine a_il5 fM_bestOf_48 ?_
              refine a_il3 fM_bestOf_50 ?_
              refine a_ic_ne fM_bestOf_51 (fun _ => ?_) (fun c_ => absurd c_ (fun z => c2 ((nI_eq (by omega) (by omega)).mp z)))
              exact nx h4 (some q) _ M4 F5 (by unfold bst; rw [if_neg (fun z => absurd (of_decide_eq_true z.2) (fun z => z.elim c1 (fun z => c2 z.1)))])
      · refine a_if_eq fM_bestOf_25 (fun _ => ?_) (fun c_ => absurd (by rw [bI_f c9]) c_)
        exact nx h3 s _ M3 (F.trans F3) (by unfold bst; rw [if_neg (fun z => c9 (of_decide_eq_true z.1))])
  refine fE.of (L := [some (.ref 63), some (.int (nI v)), none, none, none, none]) (by decide +kernel) (Nat.le_of_ble_eq_true rfl) rfl ?_
  refine a_ic fM_bestOf_0 ?_
  refine a_is2 fM_bestOf_1 (by decide) rfl ?_
  refine a_ic fM_bestOf_2 ?_
  refine a_is3 fM_bestOf_3 (by decide) rfl ?_
  refine a_ic fM_bestOf_4 ?_
  refine a_is4 fM_bestOf_5 (by decide) rfl ?_
  exact loop 100 0 h none _ none rfl M mL.rf (fun _ z => by cases z) rfl
end M5
section P5
variable {E : eT} {n : Nat} {h : hT} {N : Nat → Nat} {I : Nat → Option (Nat → Nat)} {tn : Nat} {bt : Nat → Nat} {ab be rb rn rf : Nat}
theorem m_cost_bad {v x : Int32} (X : MS h N I tn bt ab be rb rn rf) (hb : ¬ ((0 ≤ v ∧ v ≤ 99) ∧ (0 ≤ x ∧ x ≤ 99))) : fE M_M_cost E [.ref 63, .int v, .int x] n h (qI (fun r k g => r = -2 ∧ k = n ∧ fC h g ∧ MS g N I tn bt ab be (rb + 1) rn rf)) := by
  obtain ⟨⟨nx, pl, tk, fa, ⟨⟨th, mn, m0⟩, f0, m8⟩, w0, kw0, m7⟩, R0⟩ := X
  refine fE.of (L := [some (.ref 63), some (.int (v)), some (.int (x))]) (by decide +kernel) (Nat.le_of_ble_eq_true rfl) rfl ?_
  refine a_al0 fM_cost_0 ?_
  refine a_ic fM_cost_1 ?_
  refine a_pfi0 fM_cost_2 p_M_43 m0 ?_
  obtain ⟨h1, e1, W1, R1, F1⟩ := mThr m0 m8 kw0 m7 R0
  change fA _ _ _ _ (va_up h 63 (mO (nI tn, nx, pl, tk, fa, (nI ab).toInt64, (nI be).toInt64) 0 mn)) _ _ _ _ _
  rw [e1]
  clear e1 R0 m7 m8 m0
  have W2 := W1
  obtain ⟨M2, w1, kw1, M7⟩ := W2
  have M3 := M2
  obtain ⟨⟨th1, mn1, M0⟩, f1, M8⟩ := M3
  have M1 := R1.1.1
  obtain ⟨Rf, M6, r0, r1, r2⟩ := R1.2.2.2.2
  by_cases d0 : ((0 ≤ v ∧ v ≤ 99) ∧ (0 ≤ x ∧ x ≤ 99))
  · exact absurd ⟨d0.1, d0.2⟩ hb
  · refine a_il1 fM_cost_5 ?_
    refine a_il2 fM_cost_6 ?_
    refine a_S2V fM_cost_7 k_M_142 m_M_areLine ⟨by decide, by decide⟩ ⟨rfl, rfl⟩ (Nat.le_of_ble_eq_true rfl) (c_MareLine) ?_
    refine a_if_eq fM_cost_10 (fun _ => ?_) (fun c_ => absurd (by rw [bI_f d0]) c_)
    refine a_al0 fM_cost_22 ?_
    refine a_ic fM_cost_23 ?_
    refine a_V1V fM_cost_24 k_M_74 m_M_refuses ⟨by decide, by decide⟩ M0 rfl ⟨rfl, rfl⟩ (Nat.le_of_ble_eq_true rfl) (c_Mrefuses (w := 0) M0 M6 (by decide)) ?_
    exact a_ri fM_cost_27 rfl (⟨_, rfl, rfl, rfl, F1.c.up (by decide), ⟨nx, pl, tk, fa, W1.up (by decide) (by decide) (by decide)⟩, R1.re0 M6 r0 r1 r2⟩)
theorem m_cost {V9 X9 : Nat} (X : MS h N I tn bt ab be rb rn rf) (K : okN N) (h9 : V9 < 100) (h8 : X9 < 100) : fE M_M_cost E [.ref 63, .int (nI V9), .int (nI X9)] n h (qI (fun r k g => r = nI (cstR N V9 X9) ∧ k = n ∧ fC h g ∧ MS g N I tn bt ab be rb rn rf)) := by
  have O := K.c
  have k31 := K.2.2.1.1
  obtain ⟨⟨nx, pl, tk, fa, ⟨⟨th, mn, m0⟩, f0, m8⟩, w0, kw0, m7⟩, R0⟩ := X
  refine fE.of (L := [some (.ref 63), some (.int (nI V9)), some (.int (nI X9))]) (by decide +kernel) (Nat.le_of_ble_eq_true rfl) rfl ?_
  refine a_al0 fM_cost_0 ?_
  refine a_ic fM_cost_1 ?_
  refine a_pfi0 fM_cost_2 p_M_43 m0 ?_
  obtain ⟨h1, e1, W1, R1, F1⟩ := mThr m0 m8 kw0 m7 R0
  change fA _ _ _ _ (va_up h 63 (mO (nI tn, nx, pl, tk, fa, (nI ab).toInt64, (nI be).toInt64) 0 mn)) _ _ _ _ _
  rw [e1]
  clear e1 R0 m7 m8 m0
  have W2 := W1
  obtain ⟨M2, w1, kw1, M7⟩ := W2
  have M3 := M2
  obtain ⟨⟨th1, mn1, M0⟩, f1, M8⟩ := M3
  have M1 := R1.1.1
  obtain ⟨Rf, M6, r0, r1, r2⟩ := R1.2.2.2.2
  refine a_il1 fM_cost_5 ?_
  refine a_il2 fM_cost_6 ?_
  refine a_S2V fM_cost_7 k_M_142 m_M_areLine ⟨by decide, by decide⟩ ⟨rfl, rfl⟩ (Nat.le_of_ble_eq_true rfl) (c_MareLine) ?_
  refine a_if_eq fM_cost_10 (fun c_ => absurd c_ (fun z => by rw [bI_t ⟨⟨nI_pos' (by omega), nI_le (b := 99) (by omega) (by decide)⟩, ⟨nI_pos' (by omega), nI_le (b := 99) (by omega) (by decide)⟩⟩] at z; exact absurd z (by decide))) (fun _ => ?_)
  refine a_al0 fM_cost_13 ?_
  refine a_il1 fM_cost_14 ?_
  refine a_il2 fM_cost_15 ?_
  refine a_V2I fM_cost_16 k_M_149 m_M_costOf ⟨by decide, by decide⟩ M0 rfl ⟨rfl, rfl⟩ (Nat.le_of_ble_eq_true rfl) (c_McostOf M2 M1 O h9 h8) (fun r3 n3 h3 p3 => ?_)
  refine a_goto fM_cost_19 ?_
  obtain ⟨hr3, hn3, M23, F3⟩ := p3
  subst n3
  exact a_ri fM_cost_27 rfl ⟨_, rfl, hr3, rfl, (F1.trans F3.f).c, ⟨nx, pl, tk, fa, W1.l M23 F3⟩, R1.of F3.f⟩
theorem m_can_bad {v x : Int32} (X : MS h N I tn bt ab be rb rn rf) (hb : ¬ ((0 ≤ v ∧ v ≤ 99) ∧ (0 ≤ x ∧ x ≤ 99))) : fE M_M_can E [.ref 63, .int v, .int x] n h (qI (fun r k g => r = -2 ∧ k = n ∧ fC h g ∧ MS g N I tn bt ab be (rb + 1) rn rf)) := by
  obtain ⟨⟨nx, pl, tk, fa, ⟨⟨th, mn, m0⟩, f0, m8⟩, w0, kw0, m7⟩, R0⟩ := X
  refine fE.of (L := [some (.ref 63), some (.int (v)), some (.int (x))]) (by decide +kernel) (Nat.le_of_ble_eq_true rfl) rfl ?_
  refine a_al0 fM_can_0 ?_
  refine a_ic fM_can_1 ?_
  refine a_pfi0 fM_can_2 p_M_43 m0 ?_
  obtain ⟨h1, e1, W1, R1, F1⟩ := mThr m0 m8 kw0 m7 R0
  change fA _ _ _ _ (va_up h 63 (mO (nI tn, nx, pl, tk, fa, (nI ab).toInt64, (nI be).toInt64) 0 mn)) _ _ _ _ _
  rw [e1]
  clear e1 R0 m7 m8 m0
  have W2 := W1
  obtain ⟨M2, w1, kw1, M7⟩ := W2
  have M3 := M2
  obtain ⟨⟨th1, mn1, M0⟩, f1, M8⟩ := M3
  have M1 := R1.1.1
  obtain ⟨Rf, M6, r0, r1, r2⟩ := R1.2.2.2.2
  by_cases d0 : ((0 ≤ v ∧ v ≤ 99) ∧ (0 ≤ x ∧ x ≤ 99))
  · exact absurd ⟨d0.1, d0.2⟩ hb
  · refine a_il1 fM_can_5 ?_
    refine a_il2 fM_can_6 ?_
    refine a_S2V fM_can_7 k_M_142 m_M_areLine ⟨by decide, by decide⟩ ⟨rfl, rfl⟩ (Nat.le_of_ble_eq_true rfl) (c_MareLine) ?_
    refine a_if_ne fM_can_10 (fun c_ => absurd (by rw [bI_f d0]) c_) (fun _ => ?_)
    refine a_al0 fM_can_13 ?_
    refine a_ic fM_can_14 ?_
    refine a_V1V fM_can_15 k_M_74 m_M_refuses ⟨by decide, by decide⟩ M0 rfl ⟨rfl, rfl⟩ (Nat.le_of_ble_eq_true rfl) (c_Mrefuses (w := 0) M0 M6 (by decide)) ?_
    refine a_goto fM_can_18 ?_
    exact a_ri fM_can_39 rfl (⟨_, rfl, rfl, rfl, F1.c.up (by decide), ⟨nx, pl, tk, fa, W1.up (by decide) (by decide) (by decide)⟩, R1.re0 M6 r0 r1 r2⟩)
theorem m_can {V9 X9 : Nat} (X : MS h N I tn bt ab be rb rn rf) (K : okN N) (h9 : V9 < 100) (h8 : X9 < 100) : fE M_M_can E [.ref 63, .int (nI V9), .int (nI X9)] n h (qI (fun r k g => r = bI (canR N V9 X9) ∧ k = n ∧ fC h g ∧ MS g N I tn bt ab be rb rn rf)) := by
  have O := K.c
  have k31 := K.2.2.1.1
  obtain ⟨⟨nx, pl, tk, fa, ⟨⟨th, mn, m0⟩, f0, m8⟩, w0, kw0, m7⟩, R0⟩ := X
  refine fE.of (L := [some (.ref 63), some (.int (nI V9)), some (.int (nI X9))]) (by decide +kernel) (Nat.le_of_ble_eq_true rfl) rfl ?_
  refine a_al0 fM_can_0 ?_
  refine a_ic fM_can_1 ?_
  refine a_pfi0 fM_can_2 p_M_43 m0 ?_
  obtain ⟨h1, e1, W1, R1, F1⟩ := mThr m0 m8 kw0 m7 R0
  change fA _ _ _ _ (va_up h 63 (mO (nI tn, nx, pl, tk, fa, (nI ab).toInt64, (nI be).toInt64) 0 mn)) _ _ _ _ _
  rw [e1]
  clear e1 R0 m7 m8 m0
  have W2 := W1
  obtain ⟨M2, w1, kw1, M7⟩ := W2
  have M3 := M2
  obtain ⟨⟨th1, mn1, M0⟩, f1, M8⟩ := M3
  have M1 := R1.1.1
  obtain ⟨Rf, M6, r0, r1, r2⟩ := R1.2.2.2.2
  refine a_il1 fM_can_5 ?_
  refine a_il2 fM_can_6 ?_
  refine a_S2V fM_can_7 k_M_142 m_M_areLine ⟨by decide, by decide⟩ ⟨rfl, rfl⟩ (Nat.le_of_ble_eq_true rfl) (c_MareLine) ?_
  refine a_if_ne fM_can_10 (fun _ => ?_) (fun c_ => absurd c_ (fun z => by rw [bI_t ⟨⟨nI_pos' (by omega), nI_le (b := 99) (by omega) (by decide)⟩, ⟨nI_pos' (by omega), nI_le (b := 99) (by omega) (by decide)⟩⟩] at z; exact absurd z (by decide)))
  refine a_al0 fM_can_21 ?_
  refine a_al0 fM_can_22 ?_
  refine a_gf fM_can_23 l_M_7 M0 rfl ?_
  refine a_il1 fM_can_26 ?_
  refine a_il2 fM_can_27 ?_
  refine a_V3I fM_can_28 k_M_126 m_M_canOf ⟨by decide, by decide⟩ M0 rfl ⟨rfl, rfl⟩ (Nat.le_of_ble_eq_true rfl) (c_McanOf M2 M1 (by decide) (by decide) O h9 h8) (fun r3 n3 h3 p3 => ?_)
  obtain ⟨hr3, hn3, M23, F3⟩ := p3
  subst n3
  rw [hr3]
  by_cases c9 : canR N V9 X9
  · refine a_if_eq fM_can_31 (fun c_ => absurd c_ (fun z => by rw [bI_t c9] at z; exact absurd z (by decide))) (fun _ => ?_)
    refine a_ic fM_can_34 ?_
    refine a_goto fM_can_35 ?_
    exact a_ri fM_can_39 rfl (⟨_, rfl, by rw [bI_t c9], rfl, (F1.trans F3.f).c, ⟨nx, pl, tk, fa, W1.l M23 F3⟩, R1.of F3.f⟩)
  · refine a_if_eq fM_can_31 (fun _ => ?_) (fun c_ => absurd (by rw [bI_f c9]) c_)
    refine a_ic fM_can_38 ?_
    exact a_ri fM_can_39 rfl (⟨_, rfl, by rw [bI_f c9], rfl, (F1.trans F3.f).c, ⟨nx, pl, tk, fa, W1.l M23 F3⟩, R1.of F3.f⟩)
theorem m_best_bad {v : Int32} (X : MS h N I tn bt ab be rb rn rf) (hb : ¬ ((0 ≤ v ∧ v ≤ 99))) : fE M_M_best E [.ref 63, .int v] n h (qI (fun r k g => r = -2 ∧ k = n ∧ fC h g ∧ MS g N I tn bt ab be (rb + 1) rn rf)) := by
  obtain ⟨⟨nx, pl, tk, fa, ⟨⟨th, mn, m0⟩, f0, m8⟩, w0, kw0, m7⟩, R0⟩ := X
  refine fE.of (L := [some (.ref 63), some (.int (v))]) (by decide +kernel) (Nat.le_of_ble_eq_true rfl) rfl ?_
  refine a_al0 fM_best_0 ?_
  refine a_ic fM_best_1 ?_
  refine a_pfi0 fM_best_2 p_M_43 m0 ?_
  obtain ⟨h1, e1, W1, R1, F1⟩ := mThr m0 m8 kw0 m7 R0
  change fA _ _ _ _ (va_up h 63 (mO (nI tn, nx, pl, tk, fa, (nI ab).toInt64, (nI be).toInt64) 0 mn)) _ _ _ _ _
  rw [e1]
  clear e1 R0 m7 m8 m0
  have W2 := W1
  obtain ⟨M2, w1, kw1, M7⟩ := W2
  have M3 := M2
  obtain ⟨⟨th1, mn1, M0⟩, f1, M8⟩ := M3
  have M1 := R1.1.1
  obtain ⟨Rf, M6, r0, r1, r2⟩ := R1.2.2.2.2
  by_cases d0 : (0 ≤ v ∧ v ≤ 99)
  · exact absurd d0 hb
  · refine a_il1 fM_best_5 ?_
    refine a_ic fM_best_6 ?_
    refine a_ic fM_best_7 ?_
    refine a_S3V fM_best_9 k_M_70 m_M_in ⟨by decide, by decide⟩ ⟨rfl, rfl⟩ (Nat.le_of_ble_eq_true rfl) (c_Min) ?_
    refine a_if_eq fM_best_12 (fun _ => ?_) (fun c_ => absurd (by rw [bI_f d0]) c_)
    refine a_al0 fM_best_23 ?_
    refine a_ic fM_best_24 ?_
    refine a_V1V fM_best_25 k_M_74 m_M_refuses ⟨by decide, by decide⟩ M0 rfl ⟨rfl, rfl⟩ (Nat.le_of_ble_eq_true rfl) (c_Mrefuses (w := 0) M0 M6 (by decide)) ?_
    exact a_ri fM_best_28 rfl (⟨_, rfl, rfl, rfl, F1.c.up (by decide), ⟨nx, pl, tk, fa, W1.up (by decide) (by decide) (by decide)⟩, R1.re0 M6 r0 r1 r2⟩)
theorem m_best {V9 : Nat} (X : MS h N I tn bt ab be rb rn rf) (K : okN N) (h9 : V9 < 100) : fE M_M_best E [.ref 63, .int (nI V9)] n h (qI (fun r k g => r = bsF (bstL (fun x => decide (canR N V9 x)) (cstR N V9) V9 100 0 none) ∧ k = n ∧ fC h g ∧ MS g N I tn bt ab be rb rn rf)) := by
  have O := K.c
  have k31 := K.2.2.1.1
  obtain ⟨⟨nx, pl, tk, fa, ⟨⟨th, mn, m0⟩, f0, m8⟩, w0, kw0, m7⟩, R0⟩ := X
  refine fE.of (L := [some (.ref 63), some (.int (nI V9))]) (by decide +kernel) (Nat.le_of_ble_eq_true rfl) rfl ?_
  refine a_al0 fM_best_0 ?_
  refine a_ic fM_best_1 ?_
  refine a_pfi0 fM_best_2 p_M_43 m0 ?_
  obtain ⟨h1, e1, W1, R1, F1⟩ := mThr m0 m8 kw0 m7 R0
  change fA _ _ _ _ (va_up h 63 (mO (nI tn, nx, pl, tk, fa, (nI ab).toInt64, (nI be).toInt64) 0 mn)) _ _ _ _ _
  rw [e1]
  clear e1 R0 m7 m8 m0
  have W2 := W1
  obtain ⟨M2, w1, kw1, M7⟩ := W2
  have M3 := M2
  obtain ⟨⟨th1, mn1, M0⟩, f1, M8⟩ := M3
  have M1 := R1.1.1
  obtain ⟨Rf, M6, r0, r1, r2⟩ := R1.2.2.2.2
  refine a_il1 fM_best_5 ?_
  refine a_ic fM_best_6 ?_
  refine a_ic fM_best_7 ?_
  refine a_S3V fM_best_9 k_M_70 m_M_in ⟨by decide, by decide⟩ ⟨rfl, rfl⟩ (Nat.le_of_ble_eq_true rfl) (c_Min) ?_
  refine a_if_eq fM_best_12 (fun c_ => absurd c_ (fun z => by rw [bI_t ⟨nI_pos' (by omega), nI_le (b := 99) (by omega) (by decide)⟩] at z; exact absurd z (by decide))) (fun _ => ?_)
  refine a_al0 fM_best_15 ?_
  refine a_il1 fM_best_16 ?_
  refine a_V1I fM_best_17 k_M_161 m_M_bestOf ⟨by decide, by decide⟩ M0 rfl ⟨rfl, rfl⟩ (Nat.le_of_ble_eq_true rfl) (c_MbestOf M2 M1 O h9) (fun r3 n3 h3 p3 => ?_)
  refine a_goto fM_best_20 ?_
  obtain ⟨hr3, hn3, M23, F3⟩ := p3
  subst n3
  exact a_ri fM_best_28 rfl ⟨_, rfl, hr3, rfl, (F1.trans F3.f).c, ⟨nx, pl, tk, fa, W1.l M23 F3⟩, R1.of F3.f⟩
theorem m_first (X : MS h N I tn bt ab be rb rn rf) (K : okN N) : fE M_M_first E [.ref 63] n h (qI (fun r k g => isFst (fun v => ¬ ∃ x, x < 100 ∧ canR N v x) r ∧ k = n ∧ fC h g ∧ MS g N I tn bt ab be rb rn rf)) := by
  have O := K.c
  have k31 := K.2.2.1.1
  obtain ⟨⟨nx, pl, tk, fa, ⟨⟨th, mn, m0⟩, f0, m8⟩, w0, kw0, m7⟩, R0⟩ := X
  refine fE.of (L := [some (.ref 63), none]) (by decide +kernel) (Nat.le_of_ble_eq_true rfl) rfl ?_
  refine a_al0 fM_first_0 ?_
  refine a_ic fM_first_1 ?_
  refine a_pfi0 fM_first_2 p_M_43 m0 ?_
  obtain ⟨h1, e1, W1, R1, F1⟩ := mThr m0 m8 kw0 m7 R0
  change fA _ _ _ _ (va_up h 63 (mO (nI tn, nx, pl, tk, fa, (nI ab).toInt64, (nI be).toInt64) 0 mn)) _ _ _ _ _
  rw [e1]
  clear e1 R0 m7 m8 m0
  have W2 := W1
  obtain ⟨M2, w1, kw1, M7⟩ := W2
  have M3 := M2
  obtain ⟨⟨th1, mn1, M0⟩, f1, M8⟩ := M3
  have M1 := R1.1.1
  obtain ⟨Rf, M6, r0, r1, r2⟩ := R1.2.2.2.2
  have loop : ∀ (j i : Nat) (g : hT), i + j = 100 → mM (nI tn, nx, pl, tk, fa, (nI ab).toInt64, (nI be).toInt64) g → mL h1 g → (∀ x, x < i → ∃ z, z < 100 ∧ canR N x z) → fA M_M_first E (fZ M_M_first E (qI (fun r k g => isFst (fun v => ¬ ∃ x, x < 100 ∧ canR N v x) r ∧ k = n ∧ fC h g ∧ MS g N I tn bt ab be rb rn rf))) n g 0 0 7 [some (.ref 63), some (.int (nI i))] [] := by
    intro j
    induction j with
    | zero =>
      intro i g hi M F hx
      obtain rfl : i = 100 := by omega
      refine a_il1 fM_first_7 ?_
      refine a_ic fM_first_8 ?_
      refine a_ic_ge fM_first_10 (fun _ => ?_) (fun c_ => absurd (Int32.le_refl _) c_)
      refine a_ic fM_first_30 ?_
      exact a_ri fM_first_31 rfl (⟨_, rfl, Or.inr ⟨fun v hv2 z => z (hx v hv2), rfl⟩, rfl, (F1.trans F.f).c, ⟨nx, pl, tk, fa, W1.l M F⟩, R1.of F.f⟩)
    | succ j ih =>
      intro i g hi M F hx
      have m1g : g 64 = nA 189 N := (F 64 (by decide) (by decide)).trans M1
      have M9 := M
      obtain ⟨⟨th9, mn9, m09⟩, f9, m89⟩ := M9
      refine a_il1 fM_first_7 ?_
      refine a_ic fM_first_8 ?_
      refine a_ic_ge fM_first_10 (fun c_ => absurd c_ (nI_ge (b := 100) (by omega) (by decide))) (fun _ => ?_)
      refine a_al0 fM_first_13 ?_
      refine a_il1 fM_first_14 ?_
      refine a_V1I fM_first_15 k_M_161 m_M_bestOf ⟨by decide, by decide⟩ m09 rfl ⟨rfl, rfl⟩ (Nat.le_of_ble_eq_true rfl) (c_MbestOf M m1g O (v := i) (by omega)) (fun r3 n3 h3 p3 => ?_)
      obtain ⟨hr3, hn3, M23, F3⟩ := p3
      subst n3
      by_cases c9 : ∃ x, x < 100 ∧ canR N i x
      · refine a_ic fM_first_18 ?_
        refine a_ic_ne fM_first_19 (fun _ => ?_) (fun c_ => absurd c_ (fun z => by obtain ⟨x, x1, x2⟩ := c9; rw [hr3] at z; exact absurd (decide_eq_true x2) (bsF_m1.mp z x x1)))
        refine a_inc1 fM_first_24 (by decide) rfl ?_
        refine a_goto fM_first_27 ?_
        rw [nI_1]
        refine ih (i + 1) _ (by omega) M23 (F.trans F3) (fun x hx2 => ?_)
        by_cases c8 : x = i
        · subst c8; exact c9
        · exact hx x (by omega)
      · refine a_ic fM_first_18 ?_
        refine a_ic_ne fM_first_19 (fun c_ => absurd (by rw [hr3]; exact bsF_m1.mpr (fun x x1 x2 => c9 ⟨x, x1, of_decide_eq_true x2⟩)) c_) (fun _ => ?_)
        refine a_il1 fM_first_22 ?_
        exact a_ri fM_first_23 rfl (⟨_, rfl, Or.inl ⟨i, by omega, c9, fun u hu z => z (hx u hu), rfl⟩, rfl, (F1.trans (F.trans F3).f).c, ⟨nx, pl, tk, fa, W1.l M23 (F.trans F3)⟩, R1.of (F.trans F3).f⟩)
  refine a_ic fM_first_5 ?_
  refine a_is1 fM_first_6 (by decide) rfl ?_
  exact loop 100 0 h1 rfl M2 mL.rf (fun x hx => by omega)
theorem m_counts (X : MS h N I tn bt ab be rb rn rf) (K : okN N) : fE M_M_counts E [.ref 63] n h (qI (fun r k g => r = nI (cnt (sl N 0 10) (sl N 10 10) (N 30) 100 0 (sl N 20 10)) ∧ k = n ∧ fC h g ∧ MS g N I tn bt ab be rb rn rf)) := by
  have O := K.c
  have k31 := K.2.2.1.1
  obtain ⟨⟨nx, pl, tk, fa, ⟨⟨th, mn, m0⟩, f0, m8⟩, w0, kw0, m7⟩, R0⟩ := X
  refine fE.of (L := [some (.ref 63), none, none]) (by decide +kernel) (Nat.le_of_ble_eq_true rfl) rfl ?_
  refine a_al0 fM_counts_0 ?_
  refine a_ic fM_counts_1 ?_
  refine a_pfi0 fM_counts_2 p_M_43 m0 ?_
  obtain ⟨h1, e1, W1, R1, F1⟩ := mThr m0 m8 kw0 m7 R0
  change fA _ _ _ _ (va_up h 63 (mO (nI tn, nx, pl, tk, fa, (nI ab).toInt64, (nI be).toInt64) 0 mn)) _ _ _ _ _
  rw [e1]
  clear e1 R0 m7 m8 m0
  have W2 := W1
  obtain ⟨M2, w1, kw1, M7⟩ := W2
  have M3 := M2
  obtain ⟨⟨th1, mn1, M0⟩, f1, M8⟩ := M3
  have M1 := R1.1.1
  obtain ⟨Rf, M6, r0, r1, r2⟩ := R1.2.2.2.2
  refine a_al0 fM_counts_5 ?_
  refine a_V0N fM_counts_6 k_M_164 m_M_wornNow ⟨by decide, by decide⟩ M0 rfl ⟨rfl, rfl⟩ (Nat.le_of_ble_eq_true rfl) (c_MwornNow M0 M1 M7 kw1) ?_
  have loop : ∀ (j i : Nat) (g : hT) (W : Nat → Nat), i + j = 100 → mM (nI tn, nx, pl, tk, fa, (nI ab).toInt64, (nI be).toInt64) g → mF h1 g → g 70 = nA 10 W → kz W → sml W 100 → cnt (sl N 0 10) (sl N 10 10) (N 30) j i W = cnt (sl N 0 10) (sl N 10 10) (N 30) 100 0 (sl N 20 10) → fA M_M_counts E (fZ M_M_counts E (qI (fun r k g => r = nI (cnt (sl N 0 10) (sl N 10 10) (N 30) 100 0 (sl N 20 10)) ∧ k = n ∧ fC h g ∧ MS g N I tn bt ab be rb rn rf))) n g 0 0 13 [some (.ref 63), some (.int (nI i)), some (.int 1)] [] := by
    intro j
    induction j with
    | zero =>
      intro i g W hi M F m7 kW bW hT9
      obtain rfl : i = 100 := by omega
      refine a_il1 fM_counts_13 ?_
      refine a_ic fM_counts_14 ?_
      refine a_ic_ge fM_counts_16 (fun _ => ?_) (fun c_ => absurd (Int32.le_refl _) c_)
      refine a_il1 fM_counts_56 ?_
      exact a_ri fM_counts_57 rfl (⟨_, rfl, by rw [← hT9]; rfl, rfl, (F1.trans F).c, ⟨nx, pl, tk, fa, M, W, kW, m7⟩, R1.of F⟩)
    | succ j ih =>
      intro i g W hi M F m7 kW bW hT9
      have m1g : g 64 = nA 189 N := (F 64 (by decide) (by decide) (by decide)).trans M1
      have M9 := M
      obtain ⟨⟨th9, mn9, m09⟩, f9, m89⟩ := M9
      refine a_il1 fM_counts_13 ?_
      refine a_ic fM_counts_14 ?_
      refine a_ic_ge fM_counts_16 (fun c_ => absurd c_ (nI_ge (b := 100) (by omega) (by decide))) (fun _ => ?_)
      refine a_il2 fM_counts_19 ?_
      refine a_if_eq fM_counts_20 (fun c_ => absurd c_ (by decide)) (fun _ => ?_)
      refine a_al0 fM_counts_23 ?_
      refine a_il1 fM_counts_24 ?_
      refine a_al0 fM_counts_25 ?_
      refine a_gf fM_counts_26 l_M_7 m09 rfl ?_
      refine a_ic fM_counts_29 ?_
      refine a_ia fM_counts_31 m1g (show (30 : Int32) = nI 30 from rfl) (by decide) (by decide) ?_
      refine a_V2Q fM_counts_32 k_M_167 m_M_asideBy ⟨by decide, by decide⟩ m09 rfl ⟨rfl, rfl⟩ (Nat.le_of_ble_eq_true rfl) (c_MasideBy (v := i) (D := N 30) M m1g m7 O (by omega) O.D) (fun n3 h3 p3 => ?_)
      obtain ⟨hn3, M23, m73, F3⟩ := p3
      subst n3
      have m13 : h3 64 = nA 189 N := (F3 64 (by decide) (by decide) (by decide)).trans m1g
      have M93 := M23
      obtain ⟨⟨th3, mn3, m03⟩, f3, m83⟩ := M93
      have bW3 : sml (wad (sl N 0 10) (N 30) 0 (sgn i i) W) 1000 := fun f hf => by
        have := wad_le (K := sl N 0 10) (D := N 30) (sgn i i) 0 W f (by have := @sgn_len i i; omega)
        have := bW f hf
        have := @sgn_len i i
        omega
      have kW3 : kz (wad (sl N 0 10) (N 30) 0 (sgn i i) W) := kz_wad _ _ _ (sgn_lt (by omega) (by omega)) kW
      refine a_al0 fM_counts_35 ?_
      refine a_il1 fM_counts_36 ?_
      refine a_V1I fM_counts_37 k_M_170 m_M_isWithin ⟨by decide, by decide⟩ m03 rfl ⟨rfl, rfl⟩ (Nat.le_of_ble_eq_true rfl) (c_MisWithin (v := i) M23 m13 m73 O (by omega) bW3) (fun r4 n4 h4 p4 => ?_)
      obtain ⟨hr4, hn4, M24, F4⟩ := p4
      subst n4
      rw [hr4]
      have F5 : mF h1 h4 := F.trans (F3.trans F4.f)
      have m74 : h4 70 = nA 10 (wad (sl N 0 10) (N 30) 0 (sgn i i) W) := (F4 70 (by decide) (by decide)).trans m73
      by_cases c9 : can (sl N 0 10) (sl N 10 10) W (N 30) (sgn i i)
      · rw [bI_t c9]
        refine a_is2 fM_counts_40 (by decide) rfl ?_
        refine a_il1 fM_counts_41 ?_
        refine a_il2 fM_counts_42 ?_
        refine a_if_eq fM_counts_43 (fun c_ => absurd c_ (by decide)) (fun _ => ?_)
        refine a_ic fM_counts_46 ?_
        refine a_goto fM_counts_47 ?_
        refine a_iadd fM_counts_51 ?_
        refine a_is1 fM_counts_52 (by decide) rfl ?_
        refine a_goto fM_counts_53 ?_
        rw [nI_1]
        exact ih (i + 1) h4 _ (by omega) M24 F5 m74 kW3 (can_le c9 O.S bW) (by rw [← hT9]; simp only [cnt, if_pos c9])
      · rw [bI_f c9]
        refine a_is2 fM_counts_40 (by decide) rfl ?_
        refine a_il1 fM_counts_41 ?_
        refine a_il2 fM_counts_42 ?_
        refine a_if_eq fM_counts_43 (fun _ => ?_) (fun c_ => absurd (by decide) c_)
        refine a_ic fM_counts_50 ?_
        refine a_iadd fM_counts_51 ?_
        refine a_is1 fM_counts_52 (by decide) rfl ?_
        refine a_goto fM_counts_53 ?_
        rw [show nI i + 0 = nI i from nI_add i 0]
        refine a_il1 fM_counts_13 ?_
        refine a_ic fM_counts_14 ?_
        refine a_ic_ge fM_counts_16 (fun c_ => absurd c_ (nI_ge (b := 100) (by omega) (by decide))) (fun _ => ?_)
        refine a_il2 fM_counts_19 ?_
        refine a_if_eq fM_counts_20 (fun _ => ?_) (fun c_ => absurd (by decide) c_)
        refine a_il1 fM_counts_56 ?_
        exact a_ri fM_counts_57 rfl (⟨_, rfl, by rw [← hT9]; simp only [cnt, if_neg c9], rfl, (F1.trans F5).c, ⟨nx, pl, tk, fa, M24, _, kW3, m74⟩, R1.of F5⟩)
  refine a_ic fM_counts_9 ?_
  refine a_is1 fM_counts_10 (by decide) rfl ?_
  refine a_ic fM_counts_11 ?_
  refine a_is2 fM_counts_12 (by decide) rfl ?_
  exact loop 100 0 _ (sl N 20 10) rfl (M2.up (by decide) (by decide)) (fun a _ a2 _ => up_n a2 rfl) up_s kz_sl O.W rfl
theorem m_when_bad {v x : Int32} (X : MS h N I tn bt ab be rb rn rf) (hb : ¬ ((0 ≤ v ∧ v ≤ 99) ∧ (0 ≤ x ∧ x ≤ 99))) : fE M_M_when E [.ref 63, .int v, .int x] n h (qI (fun r k g => r = -2 ∧ k = n ∧ fC h g ∧ MS g N I tn bt ab be (rb + 1) rn rf)) := by
  obtain ⟨⟨nx, pl, tk, fa, ⟨⟨th, mn, m0⟩, f0, m8⟩, w0, kw0, m7⟩, R0⟩ := X
  refine fE.of (L := [some (.ref 63), some (.int (v)), some (.int (x)), none, none, none, none, none]) (by decide +kernel) (Nat.le_of_ble_eq_true rfl) rfl ?_
  refine a_al0 fM_when_0 ?_
  refine a_ic fM_when_1 ?_
  refine a_pfi0 fM_when_2 p_M_43 m0 ?_
  obtain ⟨h1, e1, W1, R1, F1⟩ := mThr m0 m8 kw0 m7 R0
  change fA _ _ _ _ (va_up h 63 (mO (nI tn, nx, pl, tk, fa, (nI ab).toInt64, (nI be).toInt64) 0 mn)) _ _ _ _ _
  rw [e1]
  clear e1 R0 m7 m8 m0
  have W2 := W1
  obtain ⟨M2, w1, kw1, M7⟩ := W2
  have M3 := M2
  obtain ⟨⟨th1, mn1, M0⟩, f1, M8⟩ := M3
  have M1 := R1.1.1
  obtain ⟨Rf, M6, r0, r1, r2⟩ := R1.2.2.2.2
  by_cases d0 : ((0 ≤ v ∧ v ≤ 99) ∧ (0 ≤ x ∧ x ≤ 99))
  · exact absurd ⟨d0.1, d0.2⟩ hb
  · refine a_il1 fM_when_5 ?_
    refine a_il2 fM_when_6 ?_
    refine a_S2V fM_when_7 k_M_142 m_M_areLine ⟨by decide, by decide⟩ ⟨rfl, rfl⟩ (Nat.le_of_ble_eq_true rfl) (c_MareLine) ?_
    refine a_if_ne fM_when_10 (fun c_ => absurd (by rw [bI_f d0]) c_) (fun _ => ?_)
    refine a_al0 fM_when_13 ?_
    refine a_ic fM_when_14 ?_
    refine a_V1V fM_when_15 k_M_74 m_M_refuses ⟨by decide, by decide⟩ M0 rfl ⟨rfl, rfl⟩ (Nat.le_of_ble_eq_true rfl) (c_Mrefuses (w := 0) M0 M6 (by decide)) ?_
    exact a_ri fM_when_18 rfl (⟨_, rfl, rfl, rfl, F1.c.up (by decide), ⟨nx, pl, tk, fa, W1.up (by decide) (by decide) (by decide)⟩, R1.re0 M6 r0 r1 r2⟩)
theorem m_when {V9 X9 : Nat} (X : MS h N I tn bt ab be rb rn rf) (K : okN N) (h9 : V9 < 100) (h8 : X9 < 100) : fE M_M_when E [.ref 63, .int (nI V9), .int (nI X9)] n h (qI (fun r k g => r = oI (whn (sl N 0 10) (sl N 10 10) (sgn V9 X9) 61 0 (sl N 20 10) (N 30)) ∧ k = n ∧ fC h g ∧ MS g N I tn bt ab be rb rn rf)) := by
  have O := K.c
  have k31 := K.2.2.1.1
  obtain ⟨⟨nx, pl, tk, fa, ⟨⟨th, mn, m0⟩, f0, m8⟩, w0, kw0, m7⟩, R0⟩ := X
  refine fE.of (L := [some (.ref 63), some (.int (nI V9)), some (.int (nI X9)), none, none, none, none, none]) (by decide +kernel) (Nat.le_of_ble_eq_true rfl) rfl ?_
  refine a_al0 fM_when_0 ?_
  refine a_ic fM_when_1 ?_
  refine a_pfi0 fM_when_2 p_M_43 m0 ?_
  obtain ⟨h1, e1, W1, R1, F1⟩ := mThr m0 m8 kw0 m7 R0
  change fA _ _ _ _ (va_up h 63 (mO (nI tn, nx, pl, tk, fa, (nI ab).toInt64, (nI be).toInt64) 0 mn)) _ _ _ _ _
  rw [e1]
  clear e1 R0 m7 m8 m0
  have W2 := W1
  obtain ⟨M2, w1, kw1, M7⟩ := W2
  have M3 := M2
  obtain ⟨⟨th1, mn1, M0⟩, f1, M8⟩ := M3
  have M1 := R1.1.1
  obtain ⟨Rf, M6, r0, r1, r2⟩ := R1.2.2.2.2
  refine a_il1 fM_when_5 ?_
  refine a_il2 fM_when_6 ?_
  refine a_S2V fM_when_7 k_M_142 m_M_areLine ⟨by decide, by decide⟩ ⟨rfl, rfl⟩ (Nat.le_of_ble_eq_true rfl) (c_MareLine) ?_
  refine a_if_ne fM_when_10 (fun _ => ?_) (fun c_ => absurd c_ (fun z => by rw [bI_t ⟨⟨nI_pos' (by omega), nI_le (b := 99) (by omega) (by decide)⟩, ⟨nI_pos' (by omega), nI_le (b := 99) (by omega) (by decide)⟩⟩] at z; exact absurd z (by decide)))
  refine a_al0 fM_when_19 ?_
  refine a_V0N fM_when_20 k_M_164 m_M_wornNow ⟨by decide, by decide⟩ M0 rfl ⟨rfl, rfl⟩ (Nat.le_of_ble_eq_true rfl) (c_MwornNow M0 M1 M7 kw1) ?_
  have loop : ∀ (j i : Nat) (g : hT) (W : Nat → Nat) (x4 x5 x6 x7 : Option Value), i + j = 61 → mM (nI tn, nx, pl, tk, fa, (nI ab).toInt64, (nI be).toInt64) g → mF h1 g → g 70 = nA 10 W → kz W → sml W 100 → oI (whn (sl N 0 10) (sl N 10 10) (sgn V9 X9) j i W (N 30 + i)) = oI (whn (sl N 0 10) (sl N 10 10) (sgn V9 X9) 61 0 (sl N 20 10) (N 30)) → fA M_M_when E (fZ M_M_when E (qI (fun r k g => r = oI (whn (sl N 0 10) (sl N 10 10) (sgn V9 X9) 61 0 (sl N 20 10) (N 30)) ∧ k = n ∧ fC h g ∧ MS g N I tn bt ab be rb rn rf))) n g 0 0 25 [some (.ref 63), some (.int (nI V9)), some (.int (nI X9)), some (.int (nI i)), x4, x5, x6, x7] [] := by
    intro j
    induction j with
    | zero =>
      intro i g W x4 x5 x6 x7 hi M F m7 kW bW hT9
      obtain rfl : i = 61 := by omega
      refine a_il3 fM_when_25 ?_
      refine a_ic fM_when_26 ?_
      refine a_ic_gt fM_when_28 (fun _ => ?_) (fun c_ => absurd (by decide) c_)
      refine a_ic fM_when_184 ?_
      exact a_ri fM_when_185 rfl (⟨_, rfl, hT9, rfl, (F1.trans F).c, ⟨nx, pl, tk, fa, M, W, kW, m7⟩, R1.of F⟩)
    | succ j ih =>
      intro i g W x4 x5 x6 x7 hi M F m7 kW bW hT9
      have M9 := M
      obtain ⟨⟨th9, mn9, m09⟩, f9, m89⟩ := M9
      refine a_il3 fM_when_25 ?_
      refine a_ic fM_when_26 ?_
      refine a_ic_gt fM_when_28 (fun c_ => absurd c_ (nI_nlt (a := 60) (b := i) (by omega) (by decide))) (fun _ => ?_)
      refine a_al0 fM_when_31 ?_
      refine a_il1 fM_when_32 ?_
      refine a_il2 fM_when_33 ?_
      refine a_V2Q fM_when_34 k_M_62 m_M_line ⟨by decide, by decide⟩ m09 rfl ⟨rfl, rfl⟩ (Nat.le_of_ble_eq_true rfl) (c_Mline m09 m89 h9 h8) (fun n3 h3 p3 => ?_)
      obtain ⟨hn3, g2, q1, hg2⟩ := p3
      subst n3
      have M03 : h3 63 = mO (nI tn, nx, pl, tk, fa, (nI ab).toInt64, (nI be).toInt64) th9 (nI (sgn V9 X9).length) := by rw [hg2]; exact up_n (by decide) up_s
      have M83 : h3 71 = ia 4 g2 := by rw [hg2]; exact up_s
      have F3 : mL g h3 := by rw [hg2]; exact fun a x1 x2 => up_n x2 (up_n x1 rfl)
      clear hg2
      have F5 : mF h1 h3 := F.trans F3.f
      have m13 : h3 64 = nA 189 N := (F5 64 (by decide) (by decide) (by decide)).trans M1
      have m73 : h3 70 = nA 10 W := (F3 70 (by decide) (by decide)).trans m7
      have M23 : mM (nI tn, nx, pl, tk, fa, (nI ab).toInt64, (nI be).toInt64) h3 := ⟨⟨_, _, M03⟩, _, M83⟩
      have h4 := q1.1
      have P9 : can (sl N 0 10) (sl N 10 10) W (N 30 + i) (sgn V9 X9) ↔ ∀ f ∈ sgn V9 X9, W f + smF (sl N 0 10) (N 30 + i) f 0 (sgn V9 X9) ≤ N (10 + f) := by
        have e : ∀ f ∈ sgn V9 X9, (wad (sl N 0 10) (N 30 + i) 0 (sgn V9 X9) W f ≤ sl N 10 10 f ↔ W f + smF (sl N 0 10) (N 30 + i) f 0 (sgn V9 X9) ≤ N (10 + f)) := fun f hf => by
          rw [wad_sum, sl_lt (sg_lt q1 f hf)]
        exact ⟨fun z f hf => (e f hf).mp (z f hf), fun z f hf => (e f hf).mpr (z f hf)⟩
      have inner : ∀ (F0 k0 : Nat) (q : Bool) (T0 : Nat), F0 < 10 → g2 k0 = nI F0 → k0 < (sgn V9 X9).length → fA M_M_when E (fZ M_M_when E (qI (fun r k g => r = oI (whn (sl N 0 10) (sl N 10 10) (sgn V9 X9) 61 0 (sl N 20 10) (N 30)) ∧ k = n ∧ fC h g ∧ MS g N I tn bt ab be rb rn rf))) n h3 0 0 129 [some (.ref 63), some (.int (nI V9)), some (.int (nI X9)), some (.int (nI i)), some (.int (bI (q = true))), some (.int (nI k0)), some (.int (nI T0)), some (.int (nI (sgn V9 X9).length))] [] → ∀ (r : List Nat) (e t0 : Nat), (sgn V9 X9).drop e = r → e ≤ (sgn V9 X9).length → t0 + smF (sl N 0 10) (N 30 + i) F0 e r = T0 → fA M_M_when E (fZ M_M_when E (qI (fun r k g => r = oI (whn (sl N 0 10) (sl N 10 10) (sgn V9 X9) 61 0 (sl N 20 10) (N 30)) ∧ k = n ∧ fC h g ∧ MS g N I tn bt ab be rb rn rf))) n h3 0 0 69 [some (.ref 63), some (.int (nI V9)), some (.int (nI X9)), some (.int (nI i)), some (.int (bI (q = true))), some (.int (nI k0)), some (.int (nI t0)), some (.int (nI e))] [] := by
        intro F0 k0 q T0 hF hk0 hk1 kk r
        induction r with
        | nil =>
          intro e t0 hr hi he
          refine a_il7 fM_when_69 ?_
          refine a_al0 fM_when_71 ?_
          refine a_gf fM_when_72 l_M_51 M03 rfl ?_
          refine a_ic_ge fM_when_75 (fun _ => ?_) (fun c_ => absurd (nI_le (dropn hr) (by omega)) c_)
          rw [show e = (sgn V9 X9).length by have := dropn hr; omega, show t0 = T0 by rw [← he]; rfl]
          exact kk
        | cons f r ih =>
          intro e t0 hr hi he
          obtain ⟨s1, s2, s3⟩ := dropc hr
          obtain ⟨g1, g3⟩ := q1.2 e f s2
          refine a_il7 fM_when_69 ?_
          refine a_al0 fM_when_71 ?_
          refine a_gf fM_when_72 l_M_51 M03 rfl ?_
          refine a_ic_ge fM_when_75 (fun c_ => absurd c_ (nI_ge s1 (by omega))) (fun _ => ?_)
          refine a_il6 fM_when_78 ?_
          refine a_al0 fM_when_80 ?_
          refine a_gf fM_when_81 l_M_36 M03 rfl ?_
          refine a_il7 fM_when_84 ?_
          refine a_ia fM_when_86 M83 rfl (by omega) (by decide) ?_
          refine a_al0 fM_when_87 ?_
          refine a_gf fM_when_88 l_M_36 M03 rfl ?_
          refine a_il5 fM_when_91 ?_
          refine a_ia fM_when_93 M83 rfl (by omega) (by decide) ?_
          rw [g1, hk0]
          by_cases c9 : f = F0
          · refine a_ic_ne fM_when_94 (fun c_ => absurd (by rw [c9]) c_) (fun _ => ?_)
            refine a_al0 fM_when_97 ?_
            refine a_al0 fM_when_98 ?_
            refine a_gf fM_when_99 l_M_7 M03 rfl ?_
            refine a_il7 fM_when_102 ?_
            refine a_al0 fM_when_104 ?_
            refine a_gf fM_when_105 l_M_7 M03 rfl ?_
            refine a_ic fM_when_108 ?_
            refine a_ia fM_when_110 m13 (show (30 : Int32) = nI 30 from rfl) (by decide) (by decide) ?_
            refine a_il3 fM_when_111 ?_
            refine a_iadd fM_when_112 ?_
            rw [show nF N 30 + nI i = nI (N 30 + i) from nI_add _ _]
            refine a_V3V fM_when_113 k_M_66 m_M_wearsBy ⟨by decide, by decide⟩ M03 rfl ⟨rfl, rfl⟩ (Nat.le_of_ble_eq_true rfl) (c_MwearsBy (a := 64) (D := N 30 + i) M03 M83 m13 g1 g3 (by omega) ((O.1 _ g3).1) (by have := O.2; omega)) ?_
            refine a_goto fM_when_116 ?_
            refine a_iadd fM_when_120 ?_
            refine a_is6 fM_when_121 (by decide) rfl ?_
            refine a_inc7 fM_when_123 (by decide) rfl ?_
            refine a_goto fM_when_126 ?_
            rw [nI_1, nI_add]
            exact ih (e + 1) _ s3 s1 (by subst c9; rw [← he]; simp only [smF, ↓reduceIte, sl0 g3]; omega)
          · refine a_ic_ne fM_when_94 (fun _ => ?_) (fun c_ => absurd c_ (fun z => c9 ((nI_eq (by omega) (by omega)).mp z)))
            refine a_ic fM_when_119 ?_
            refine a_iadd fM_when_120 ?_
            refine a_is6 fM_when_121 (by decide) rfl ?_
            refine a_inc7 fM_when_123 (by decide) rfl ?_
            refine a_goto fM_when_126 ?_
            rw [nI_1, show nI t0 + 0 = nI t0 from nI_add t0 0]
            exact ih (e + 1) _ s3 s1 (by rw [← he]; simp only [smF, if_neg c9]; omega)
      have l2 : ∀ (r : List Nat) (k0 : Nat) (q : Bool) (x6 x7 : Option Value), (sgn V9 X9).drop k0 = r → k0 ≤ (sgn V9 X9).length → ((q = true ∧ ∀ f ∈ r, W f + smF (sl N 0 10) (N 30 + i) f 0 (sgn V9 X9) ≤ N (10 + f)) ↔ can (sl N 0 10) (sl N 10 10) W (N 30 + i) (sgn V9 X9)) → fA M_M_when E (fZ M_M_when E (qI (fun r k g => r = oI (whn (sl N 0 10) (sl N 10 10) (sgn V9 X9) 61 0 (sl N 20 10) (N 30)) ∧ k = n ∧ fC h g ∧ MS g N I tn bt ab be rb rn rf))) n h3 0 0 43 [some (.ref 63), some (.int (nI V9)), some (.int (nI X9)), some (.int (nI i)), some (.int (bI (q = true))), some (.int (nI k0)), x6, x7] [] := by
        intro r
        induction r with
        | nil =>
          intro k0 q x6 x7 hr hi2 he
          refine a_il5 fM_when_43 ?_
          refine a_al0 fM_when_45 ?_
          refine a_gf fM_when_46 l_M_51 M03 rfl ?_
          refine a_ic_ge fM_when_49 (fun _ => ?_) (fun c_ => absurd (nI_le (dropn hr) (by omega)) c_)
          by_cases c9 : can (sl N 0 10) (sl N 10 10) W (N 30 + i) (sgn V9 X9)
          · have cq := (he.mpr c9).1
            refine a_il4 fM_when_167 ?_
            refine a_if_eq fM_when_169 (fun c_ => absurd c_ (fun z => by rw [bI_t cq] at z; exact absurd z (by decide))) (fun _ => ?_)
            refine a_il3 fM_when_172 ?_
            exact a_ri fM_when_173 rfl (⟨_, rfl, by rw [← hT9]; simp only [whn, if_pos c9]; rfl, rfl, (F1.trans F5).c, ⟨nx, pl, tk, fa, M23, W, kW, m73⟩, R1.of F5⟩)
          · have cq : ¬ q = true := fun z => c9 (he.mp ⟨z, fun _ z => by cases z⟩)
            refine a_il4 fM_when_167 ?_
            refine a_if_eq fM_when_169 (fun _ => ?_) (fun c_ => absurd (by rw [bI_f cq]) c_)
            refine a_al0 fM_when_174 ?_
            refine a_V0N fM_when_175 k_M_173 m_M_rests ⟨by decide, by decide⟩ M03 rfl ⟨rfl, rfl⟩ (Nat.le_of_ble_eq_true rfl) (c_Mrests M03 m13 m73 (fun f hf => (O.1 f hf).1) (fun f hf => Nat.le_trans (bW f hf) (by decide))) ?_
            refine a_inc3 fM_when_178 (by decide) rfl ?_
            refine a_goto fM_when_181 ?_
            rw [nI_1]
            exact ih (i + 1) _ _ _ _ _ _ (by omega) (M23.up (by decide) (by decide)) (fun a a1 a2 a3 => up_n a2 (F5 a a1 a2 a3)) up_s (kz_rsW kW) (rsW_le bW) (by rw [← hT9]; simp only [whn, if_neg c9]; rfl)
        | cons f r ih2 =>
          intro k0 q x6 x7 hr hi2 he
          obtain ⟨s1, s2, s3⟩ := dropc hr
          obtain ⟨g1, g3⟩ := q1.2 k0 f s2
          have b6 : smF (sl N 0 10) (N 30 + i) f 0 (sgn V9 X9) ≤ 24 := Nat.le_trans (smF_le _ 0 (by omega)) (by omega)
          have b7 := O.1 f g3
          have b8 := bW f g3
          refine a_il5 fM_when_43 ?_
          refine a_al0 fM_when_45 ?_
          refine a_gf fM_when_46 l_M_51 M03 rfl ?_
          refine a_ic_ge fM_when_49 (fun c_ => absurd c_ (nI_ge s1 (by omega))) (fun _ => ?_)
          refine a_al0 fM_when_52 ?_
          refine a_gf fM_when_53 l_M_33 M03 rfl ?_
          refine a_al0 fM_when_56 ?_
          refine a_gf fM_when_57 l_M_36 M03 rfl ?_
          refine a_il5 fM_when_60 ?_
          refine a_ia fM_when_62 M83 rfl (by omega) (by decide) ?_
          rw [g1]
          refine a_ia fM_when_63 m73 (show nI f = nI f from rfl) (by omega) (by decide) ?_
          refine a_is6 fM_when_64 (by decide) rfl ?_
          refine a_ic fM_when_66 ?_
          refine a_is7 fM_when_67 (by decide) rfl ?_
          refine inner f k0 q (W f + smF (sl N 0 10) (N 30 + i) f 0 (sgn V9 X9)) g3 g1 s1 ?_ (sgn V9 X9) 0 (W f) rfl (Nat.zero_le _) rfl
          have nx2 : ∀ (q2 : Bool) (y6 y7 : Option Value), ((q2 = true ∧ ∀ f ∈ r, W f + smF (sl N 0 10) (N 30 + i) f 0 (sgn V9 X9) ≤ N (10 + f)) ↔ can (sl N 0 10) (sl N 10 10) W (N 30 + i) (sgn V9 X9)) → fA M_M_when E (fZ M_M_when E (qI (fun r k g => r = oI (whn (sl N 0 10) (sl N 10 10) (sgn V9 X9) 61 0 (sl N 20 10) (N 30)) ∧ k = n ∧ fC h g ∧ MS g N I tn bt ab be rb rn rf))) n h3 0 0 159 [some (.ref 63), some (.int (nI V9)), some (.int (nI X9)), some (.int (nI i)), some (.int (bI (q = true))), some (.int (nI k0)), y6, y7] [.int (bI (q2 = true))] := by
            intro q2 y6 y7 hq2
            refine a_is4 fM_when_159 (by decide) rfl ?_
            refine a_inc5 fM_when_161 (by decide) rfl ?_
            refine a_goto fM_when_164 ?_
            rw [nI_1]
            exact ih2 (k0 + 1) q2 _ _ s3 s1 hq2
          by_cases cq : q = true
          · refine a_il4 fM_when_129 ?_
            refine a_if_eq fM_when_131 (fun c_ => absurd c_ (fun z => by rw [bI_t cq] at z; exact absurd z (by decide))) (fun _ => ?_)
            refine a_il6 fM_when_134 ?_
            refine a_al0 fM_when_136 ?_
            refine a_gf fM_when_137 l_M_7 M03 rfl ?_
            refine a_ic fM_when_140 ?_
            refine a_al0 fM_when_142 ?_
            refine a_gf fM_when_143 l_M_36 M03 rfl ?_
            refine a_il5 fM_when_146 ?_
            refine a_ia fM_when_148 M83 rfl (by omega) (by decide) ?_
            rw [g1]
            refine a_iadd fM_when_149 ?_
            refine a_ia fM_when_150 m13 (show (10 : Int32) + nI f = nI (10 + f) from nI_add 10 f) (by omega) (by decide) ?_
            by_cases cP : W f + smF (sl N 0 10) (N 30 + i) f 0 (sgn V9 X9) ≤ N (10 + f)
            · refine a_ic_gt fM_when_151 (fun c_ => absurd c_ (fun z => absurd ((nI_ltI (by omega) (by omega)).mp z) (by omega))) (fun _ => ?_)
              refine a_ic fM_when_154 ?_
              refine a_goto fM_when_155 ?_
              refine nx2 true _ _ (Iff.trans ⟨fun z => ⟨cq, fun y hy => ?_⟩, fun z => ⟨rfl, fun y hy => z.2 y (List.mem_cons_of_mem _ hy)⟩⟩ he)
              rcases List.mem_cons.mp hy with rfl | hy
              · exact cP
              · exact z.2 y hy
            · refine a_ic_gt fM_when_151 (fun _ => ?_) (fun c_ => absurd (nI_lt (by omega) (by omega)) c_)
              refine a_ic fM_when_158 ?_
              exact nx2 false _ _ (Iff.trans ⟨fun z => (by cases z.1), fun z => absurd (z.2 f List.mem_cons_self) cP⟩ he)
          · refine a_il4 fM_when_129 ?_
            refine a_if_eq fM_when_131 (fun _ => ?_) (fun c_ => absurd (by rw [bI_f cq]) c_)
            refine a_ic fM_when_158 ?_
            exact nx2 false _ _ (Iff.trans ⟨fun z => (by cases z.1), fun z => absurd z.1 cq⟩ he)
      refine a_ic fM_when_37 ?_
      refine a_is4 fM_when_38 (by decide) rfl ?_
      refine a_ic fM_when_40 ?_
      refine a_is5 fM_when_41 (by decide) rfl ?_
      exact l2 (sgn V9 X9) 0 true _ _ rfl (Nat.zero_le _) ⟨fun z => P9.mpr z.2, fun z => ⟨rfl, P9.mp z⟩⟩
  refine a_ic fM_when_23 ?_
  refine a_is3 fM_when_24 (by decide) rfl ?_
  exact loop 61 0 _ (sl N 20 10) none none none none rfl (M2.up (by decide) (by decide)) (fun a _ a2 _ => up_n a2 rfl) up_s kz_sl O.W rfl
end P5
