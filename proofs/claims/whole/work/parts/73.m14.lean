/-! the reference reads -/
section P13
variable {E : eT} {n : Nat} {h : hT} {N : Nat → Nat} {I : Nat → Option (Nat → Nat)} {tn : Nat} {bt : Nat → Nat} {ab be rb rn rf : Nat}
theorem m_read (X : MS h N I tn bt ab be rb rn rf) (KX : okX tn bt) : fE M_M_read E [.ref 63] n h (qI (fun r k g => r = (rdO N (rdA tn bt 151 0 N0 0)).2 ∧ k = n ∧ fC h g ∧ MS g (rdO N (rdA tn bt 151 0 N0 0)).1 I tn bt ab be rb rn rf)) := by
  have k0 := KX.1
  obtain ⟨⟨nx, pl, tk, fa, ⟨⟨th, mn, m0⟩, f0, m8⟩, w0, kw0, m7⟩, R0⟩ := X
  refine fE.of (L := [some (.ref 63), none, none, none]) (by decide +kernel) (Nat.le_of_ble_eq_true rfl) rfl ?_
  refine a_al0 fM_read_0 ?_
  refine a_ic fM_read_1 ?_
  refine a_pfi0 fM_read_2 p_M_43 m0 ?_
  obtain ⟨h1, e1, W1, R1, F1⟩ := mThr m0 m8 kw0 m7 R0
  change fA _ _ _ _ (va_up h 63 (mO (nI tn, nx, pl, tk, fa, (nI ab).toInt64, (nI be).toInt64) 0 mn)) _ _ _ _ _
  rw [e1]
  clear e1 R0 m7 m8 m0
  have W2 := W1
  obtain ⟨M2, w1, kw1, M7⟩ := W2
  have M3 := M2
  obtain ⟨⟨th1, mn1, M0⟩, f1, M8⟩ := M3
  have M1 := R1.1.1
  obtain ⟨Rf, M6, r0, r1, r2⟩ := R1.2.2.2.2
  obtain ⟨D0, MD, zD⟩ := R1.2.1
  have M5 := R1.2.2.2.1
  obtain ⟨RDv, hRD⟩ : ∃ o, rdA tn bt 151 0 N0 0 = o := ⟨_, rfl⟩
  rw [hRD]
  -- the class's cells and the rows that stay
  have done : ∀ (g : hT) (c9 : mT) (N2 : Nat → Nat) (D2 : Nat → Nat) (w9 : Nat → Nat), c9.1 = nI tn → c9.2.2.2.2.2 = (((nI ab).toInt64), ((nI be).toInt64)) → (∃ th mn, g 63 = mO c9 th mn) → (∃ f, g 71 = ia 4 f) → g 70 = nA 10 w9 → kz w9 → g 64 = nA 189 N2 → z9 N2 → g 65 = nA 189 D2 → z9 D2 → (∀ y, y ≠ 63 → y ≠ 64 → y ≠ 65 → y ≠ 71 → g y = h1 y) → fC h g ∧ MS g N2 I tn bt ab be rb rn rf := by
    intro g c9 N2 D2 w9 e1 e2 ⟨th9, mn9, g3⟩ g71 g70 kw g4 z4 g5 z5 fr
    obtain ⟨t1, t2, t3, t4, t5, t6⟩ := c9
    dsimp only at e1 e2
    subst e1
    subst e2
    obtain ⟨-, -, ⟨Kp, ik, c1, c2, c3⟩, d1, -⟩ := R1
    refine ⟨fun a ha => (fr a (by omega) (by omega) (by omega) (by omega)).trans (F1.c a ha), ⟨t2, t3, t4, t5, ⟨⟨th9, mn9, g3⟩, g71⟩, w9, kw, g70⟩, ⟨g4, z4⟩, ⟨D2, g5, z5⟩, ⟨Kp, ik, (fr _ (by decide) (by decide) (by decide) (by decide)).trans c1, (fr _ (by decide) (by decide) (by decide) (by decide)).trans c2, c3⟩, (fr _ (by decide) (by decide) (by decide) (by decide)).trans d1, Rf, (fr _ (by decide) (by decide) (by decide) (by decide)).trans M6, r0, r1, r2⟩
  have failx : ∀ (g : hT) (f : Nat) (x1 x2 x3 : Option Value), f ≤ 150 → (∃ nx pl tk th mn, g 63 = mO (nI tn, nx, pl, tk, nI f, ((nI ab).toInt64), ((nI be).toInt64)) th mn) → (∃ f, g 71 = ia 4 f) → (∃ D2, g 65 = nA 189 D2 ∧ z9 D2) → (∀ y, y ≠ 63 → y ≠ 65 → y ≠ 71 → g y = h1 y) → RDv = .inr f → fA M_M_read E (fZ M_M_read E (qI (fun r k g => r = (rdO N RDv).2 ∧ k = n ∧ fC h g ∧ MS g (rdO N RDv).1 I tn bt ab be rb rn rf))) n g 0 0 28 [some (.ref 63), x1, x2, x3] [] := by
    intro g f x1 x2 x3 hf ⟨nx9, pl9, tk9, th9, mn9, g3⟩ g71 ⟨D2, g65, z65⟩ fr eo
    refine a_al0 fM_read_28 ?_
    refine a_V0V fM_read_29 k_M_108 m_M_isWell ⟨by decide, by decide⟩ g3 rfl ⟨rfl, rfl⟩ (Nat.le_of_ble_eq_true rfl) (c_MisWell g3) ?_
    refine a_if_eq fM_read_32 (fun _ => ?_) (fun c_ => absurd (by rw [bI_f (nI_pos (by omega))]) c_)
    refine a_al0 fM_read_145 ?_
    refine a_V0V fM_read_146 k_M_108 m_M_isWell ⟨by decide, by decide⟩ g3 rfl ⟨rfl, rfl⟩ (Nat.le_of_ble_eq_true rfl) (c_MisWell g3) ?_
    refine a_if_ne fM_read_149 (fun c_ => absurd (by rw [bI_f (nI_pos (by omega))]) c_) (fun _ => ?_)
    refine a_ic fM_read_152 ?_
    refine a_al0 fM_read_154 ?_
    refine a_gf fM_read_155 l_M_105 g3 rfl ?_
    refine a_isub fM_read_158 ?_
    obtain ⟨q1, q2⟩ := done g (nI tn, nx9, pl9, tk9, nI f, ((nI ab).toInt64), ((nI be).toInt64)) N D2 w1 rfl rfl ⟨th9, mn9, g3⟩ g71 ((fr 70 (by decide) (by decide) (by decide)).trans M7) kw1 ((fr 64 (by decide) (by decide) (by decide)).trans M1) R1.1.2 g65 z65 (fun y y1 _ y3 y4 => fr y y1 y3 y4)
    exact a_ri fM_read_159 rfl ⟨_, rfl, by rw [eo]; rfl, rfl, q1, by rw [eo]; exact q2⟩
  have okx : ∀ (g : hT) (D : Nat → Nat) (a it : Nat) (th9 mn9 : Int32) (x2 x3 : Option Value), g 63 = sW tn bt ((nI ab).toInt64) ((nI be).toInt64) a th9 mn9 → (∃ f, g 71 = ia 4 f) → g 65 = nA 189 D → z9 D → (∀ y, y ≠ 63 → y ≠ 65 → y ≠ 71 → g y = h1 y) → RDv = .inl (D, it) → fA M_M_read E (fZ M_M_read E (qI (fun r k g => r = (rdO N RDv).2 ∧ k = n ∧ fC h g ∧ MS g (rdO N RDv).1 I tn bt ab be rb rn rf))) n g 0 0 145 [some (.ref 63), some (.int (nI it)), x2, x3] [] := by
    intro g D a it th9 mn9 x2 x3 g3 g71 g65 zz fr eo
    have g64 : g 64 = nA 189 N := (fr 64 (by decide) (by decide) (by decide)).trans M1
    have loop : ∀ (j i : Nat) (x3 : Option Value), i + j = 189 → fA M_M_read E (fZ M_M_read E (qI (fun r k g => r = (rdO N RDv).2 ∧ k = n ∧ fC h g ∧ MS g (rdO N RDv).1 I tn bt ab be rb rn rf))) n (va_up g 64 (nA 189 (fun y => if y < i then D y else N y))) 0 0 162 [some (.ref 63), some (.int (nI it)), some (.int (nI i)), x3] [] := by
      intro j
      induction j with
      | zero =>
        intro i x3 hi
        obtain rfl : i = 189 := by omega
        rw [show (fun y => if y < 189 then D y else N y) = D from funext (fun y => by have := zz y; have := R1.1.2 y; grind)]
        refine a_il2 fM_read_162 ?_
        refine a_ic fM_read_163 ?_
        refine a_ic_ge fM_read_166 (fun _ => ?_) (fun c_ => absurd (Int32.le_refl _) c_)
        obtain ⟨f7, g7⟩ := g71
        obtain ⟨q1, q2⟩ := done (va_up g 64 (nA 189 D)) (nI tn, nI (tkE tn bt a), nI (tkP tn bt a), tok tn bt a, -1, ((nI ab).toInt64), ((nI be).toInt64)) D D w1 rfl rfl ⟨th9, mn9, up_n (by decide) g3⟩ ⟨f7, up_n (by decide) g7⟩ (up_n (by decide) ((fr 70 (by decide) (by decide) (by decide)).trans M7)) kw1 up_s zz (up_n (by decide) g65) zz (fun y y1 y2 y3 y4 => up_n y2 (fr y y1 y3 y4))
        refine a_il1 fM_read_187 ?_
        exact a_ri fM_read_188 rfl (⟨_, rfl, by rw [eo]; rfl, rfl, q1, by rw [eo]; exact q2⟩)
      | succ j ih =>
        intro i x3 hi
        refine a_il2 fM_read_162 ?_
        refine a_ic fM_read_163 ?_
        refine a_ic_ge fM_read_166 (fun c_ => absurd c_ (nI_ge (b := 189) (by omega) (by decide))) (fun _ => ?_)
        refine a_al0 fM_read_169 ?_
        refine a_gf fM_read_170 l_M_7 (up_n (by decide) g3) rfl ?_
        refine a_il2 fM_read_173 ?_
        refine a_al0 fM_read_174 ?_
        refine a_gf fM_read_175 l_M_13 (up_n (by decide) g3) rfl ?_
        refine a_il2 fM_read_178 ?_
        refine a_ia fM_read_179 (up_n (by decide) g65) rfl (by omega) (by decide) ?_
        refine a_it fM_read_180 up_s rfl (by omega) (by decide) ?_
        refine a_inc2 fM_read_181 (by decide) rfl ?_
        refine a_goto fM_read_184 ?_
        rw [bx_uu, nI_1]
        refine fA.ud (v := D i) (F2 := fun y => if y < i + 1 then D y else N y) rfl (fun j => by grind) ?_
        exact ih (i + 1) _ (by omega)
    refine a_al0 fM_read_145 ?_
    refine a_V0V fM_read_146 k_M_108 m_M_isWell ⟨by decide, by decide⟩ g3 rfl ⟨rfl, rfl⟩ (Nat.le_of_ble_eq_true rfl) (c_MisWell g3) ?_
    refine a_if_ne fM_read_149 (fun _ => ?_) (fun c_ => absurd c_ (by decide))
    refine a_ic fM_read_160 ?_
    refine a_is2 fM_read_161 (by decide) rfl ?_
    have := loop 189 0 x3 (by omega)
    rw [show (fun y => if y < 0 then D y else N y) = N from funext (fun y => by rw [if_neg (by omega)]), up_id g64] at this
    exact this
  have loop : ∀ (j it : Nat) (g : hT) (D : Nat → Nat) (a : Nat) (th9 mn9 : Int32) (x2 x3 : Option Value), it + j = 151 → it ≤ a → a ≤ tn → okN D → z9 D → D 84 = 0 → g 63 = sW tn bt ((nI ab).toInt64) ((nI be).toInt64) a th9 mn9 → (∃ f, g 71 = ia 4 f) → g 65 = nA 189 D → (∀ y, y ≠ 63 → y ≠ 65 → y ≠ 71 → g y = h1 y) → rdA tn bt j it D a = RDv → fA M_M_read E (fZ M_M_read E (qI (fun r k g => r = (rdO N RDv).2 ∧ k = n ∧ fC h g ∧ MS g (rdO N RDv).1 I tn bt ab be rb rn rf))) n g 0 0 28 [some (.ref 63), some (.int (nI it)), x2, x3] [] := by
    intro j
    induction j with
    | zero => intro it g D a th9 mn9 x2 x3 hj hi ha; omega
    | succ j ih =>
      intro it g D a th9 mn9 x2 x3 hj hi ha KD zz h84 g3 g71 g65 fr he
      obtain ⟨f7, g7⟩ := g71
      have a1 := tkE_le (bt := bt) ha
      have p0 := tkP_le (bt := bt) ha
      have g68 : g 68 = nA 150 bt := (fr 68 (by decide) (by decide) (by decide)).trans M5
      refine a_al0 fM_read_28 ?_
      refine a_V0V fM_read_29 k_M_108 m_M_isWell ⟨by decide, by decide⟩ g3 rfl ⟨rfl, rfl⟩ (Nat.le_of_ble_eq_true rfl) (c_MisWell g3) ?_
      refine a_if_eq fM_read_32 (fun c_ => absurd c_ (by decide)) (fun _ => ?_)
      by_cases cE : tkS tn bt a = 0 ∧ 0 < it
      · refine a_al0 fM_read_35 ?_
        refine a_gf fM_read_36 l_M_98 g3 rfl ?_
        refine a_ic fM_read_39 ?_
        refine a_ic_ne fM_read_41 (fun c_ => absurd (tok_end.mpr cE.1) c_) (fun _ => ?_)
        refine a_il1 fM_read_44 ?_
        refine a_if_ne fM_read_45 (fun _ => ?_) (fun c_ => absurd c_ (nI_ne0 cE.2 (by omega)))
        exact okx g D a it th9 mn9 _ _ g3 ⟨f7, g7⟩ g65 zz fr (by rw [← he]; simp only [rdA]; rw [if_pos cE])
      -- behind the item's word and numbers
      have tail : ∀ (g2 : hT) (y2 y3 : Option Value), rsT tn bt ((nI ab).toInt64) ((nI be).toInt64) g n (rdC tn bt D (decide (it = 0)) a) n g2 → tkS tn bt a = 1 → fA M_M_read E (fZ M_M_read E (qI (fun r k g => r = (rdO N RDv).2 ∧ k = n ∧ fC h g ∧ MS g (rdO N RDv).1 I tn bt ab be rb rn rf))) n g2 0 0 120 [some (.ref 63), some (.int (nI it)), y2, y3] [] := by
        intro g2 y2 y3 q cs
        have okC9 : ∀ x, rdC tn bt D (decide (it = 0)) a = .inl x → (okN x.1 ∧ tkE tn bt a ≤ x.2 ∧ x.2 ≤ tn) ∧ z9 x.1 ∧ x.1 84 = 0 := fun x hx => ⟨rdC_ok KD ha hx, rdC_z KD zz h84 hx⟩
        have leC9 : ∀ f, rdC tn bt D (decide (it = 0)) a = .inr f → f ≤ tn := fun f hx => rdC_le ha hx
        have hA : (match rdZ tn bt (rdC tn bt D (decide (it = 0)) a) with | .inr f => .inr f | .inl x => rdA tn bt j (it + 1) x.1 x.2) = RDv := by
          rw [← he]
          simp only [rdA]
          rw [if_neg cE]
          unfold rdI
          rw [if_pos cs]
          rfl
        have wd := tkE_wd cs
        generalize rdC tn bt D (decide (it = 0)) a = cc at q okC9 leC9 hA
        obtain ⟨-, q2, ⟨f8, q3⟩, q4⟩ := q
        have fr2 : ∀ y, y ≠ 63 → y ≠ 65 → y ≠ 71 → g2 y = h1 y := fun y y1 y2 y3 => (q2 y y1 y2 y3).trans (fr y y1 y2 y3)
        cases cc with
        | inr f =>
          have fb := leC9 f rfl
          obtain ⟨⟨nx9, pl9, tk9, th8, mn8, q5⟩, D2, q6, q7⟩ := q4
          have eo : RDv = .inr f := hA.symm
          refine a_al0 fM_read_120 ?_
          refine a_al0 fM_read_121 ?_
          refine a_gf fM_read_122 l_M_98 q5 rfl ?_
          refine a_ic fM_read_125 ?_
          refine a_ic_ne fM_read_127 (fun c => ?_) (fun c => ?_)
          · refine a_ic fM_read_134 ?_
            refine a_V1V fM_read_135 k_M_115 m_M_takes ⟨by decide, by decide⟩ q5 rfl ⟨rfl, rfl⟩ (Nat.le_of_ble_eq_true rfl) (c_Mtk_b q5 (by omega)) ?_
            refine a_pop fM_read_138 rfl ?_
            refine a_inc1 fM_read_139 (by decide) rfl ?_
            refine a_goto fM_read_142 ?_
            rw [nI_1]
            exact failx g2 f _ _ _ (by omega) ⟨_, _, _, _, _, q5⟩ ⟨f8, q3⟩ ⟨D2, q6, q7⟩ fr2 eo
          · refine a_ic fM_read_130 ?_
            refine a_goto fM_read_131 ?_
            refine a_V1V fM_read_135 k_M_115 m_M_takes ⟨by decide, by decide⟩ q5 rfl ⟨rfl, rfl⟩ (Nat.le_of_ble_eq_true rfl) (c_Mtk_b q5 (by omega)) ?_
            refine a_pop fM_read_138 rfl ?_
            refine a_inc1 fM_read_139 (by decide) rfl ?_
            refine a_goto fM_read_142 ?_
            rw [nI_1]
            exact failx g2 f _ _ _ (by omega) ⟨_, _, _, _, _, q5⟩ ⟨f8, q3⟩ ⟨D2, q6, q7⟩ fr2 eo
        | inl x =>
          obtain ⟨⟨k1, k2, k3⟩, k4, k5⟩ := okC9 x rfl
          obtain ⟨⟨th8, mn8, q5⟩, q6⟩ := q4
          by_cases c3 : tkS tn bt x.2 = 3
          · refine a_al0 fM_read_120 ?_
            refine a_al0 fM_read_121 ?_
            refine a_gf fM_read_122 l_M_98 q5 rfl ?_
            refine a_ic fM_read_125 ?_
            refine a_ic_ne fM_read_127 (fun c_ => absurd (tok_st.mpr c3) c_) (fun _ => ?_)
            refine a_ic fM_read_130 ?_
            refine a_goto fM_read_131 ?_
            refine a_V1V fM_read_135 k_M_115 m_M_takes ⟨by decide, by decide⟩ q5 rfl ⟨rfl, rfl⟩ (Nat.le_of_ble_eq_true rfl) (c_Mtk_t q5 ((fr2 68 (by decide) (by decide) (by decide)).trans M5) KX (tkE_le k3)) ?_
            refine a_pop fM_read_138 rfl ?_
            refine a_inc1 fM_read_139 (by decide) rfl ?_
            refine a_goto fM_read_142 ?_
            rw [nI_1]
            have x3 := tkE_le (bt := bt) k3
            have x4 : x.2 ≤ tkE tn bt x.2 := Nat.le_trans tkP_ge tkE_ge
            exact ih (it + 1) _ x.1 (tkE tn bt x.2) th8 mn8 _ _ (by omega) (by omega) x3 k1 k4 k5 up_s ⟨f8, up_n (by decide) q3⟩ (up_n (by decide) q6) (fun y y1 y2 y3 => (vn y1).trans (fr2 y y1 y2 y3)) (by rw [← hA]; unfold rdZ; dsimp only; rw [if_pos c3])
          · have p9 := tkP_le (bt := bt) k3
            refine a_al0 fM_read_120 ?_
            refine a_al0 fM_read_121 ?_
            refine a_gf fM_read_122 l_M_98 q5 rfl ?_
            refine a_ic fM_read_125 ?_
            refine a_ic_ne fM_read_127 (fun _ => ?_) (fun c_ => absurd c_ (fun z => c3 (tok_st.mp z)))
            refine a_ic fM_read_134 ?_
            refine a_V1V fM_read_135 k_M_115 m_M_takes ⟨by decide, by decide⟩ q5 rfl ⟨rfl, rfl⟩ (Nat.le_of_ble_eq_true rfl) (c_Mtk_f q5 (by omega)) ?_
            refine a_pop fM_read_138 rfl ?_
            refine a_inc1 fM_read_139 (by decide) rfl ?_
            refine a_goto fM_read_142 ?_
            rw [nI_1]
            exact failx _ (tkP tn bt x.2) _ _ _ (by omega) ⟨_, _, _, _, _, up_s⟩ ⟨f8, up_n (by decide) q3⟩ ⟨x.1, up_n (by decide) q6, k4⟩ (fun y y1 y2 y3 => (vn y1).trans (fr2 y y1 y2 y3)) (by rw [← hA]; unfold rdZ; dsimp only; rw [if_neg c3])
      -- it may not stand there
      have mf : ∀ (w9 : Int32) (y3 : Option Value), rdI tn bt D (decide (it = 0)) a = .inr (tkP tn bt a) → fA M_M_read E (fZ M_M_read E (qI (fun r k g => r = (rdO N RDv).2 ∧ k = n ∧ fC h g ∧ MS g (rdO N RDv).1 I tn bt ab be rb rn rf))) n g 0 0 100 [some (.ref 63), some (.int (nI it)), some (.int w9), y3] [] := by
        intro w9 y3 e
        have eo : RDv = .inr (tkP tn bt a) := by rw [← he]; simp only [rdA]; rw [if_neg cE, e]
        refine a_ic fM_read_100 ?_
        refine a_is3 fM_read_101 (by decide) rfl ?_
        refine a_al0 fM_read_102 ?_
        refine a_il3 fM_read_103 ?_
        refine a_V1V fM_read_104 k_M_115 m_M_takes ⟨by decide, by decide⟩ g3 rfl ⟨rfl, rfl⟩ (Nat.le_of_ble_eq_true rfl) (c_Mtk_f g3 (by omega)) ?_
        refine a_pop fM_read_107 rfl ?_
        refine a_al0 fM_read_108 ?_
        refine a_V0V fM_read_109 k_M_108 m_M_isWell ⟨by decide, by decide⟩ up_s rfl ⟨rfl, rfl⟩ (Nat.le_of_ble_eq_true rfl) (c_MisWell (tt := nI tn) (nx := nI (tkE tn bt a)) (pl := nI (tkP tn bt a)) (tk := tok tn bt a) (fa := nI (tkP tn bt a)) (up := ((nI ab).toInt64)) (lo := ((nI be).toInt64)) (th := th9) (mn := mn9) up_s) ?_
        refine a_if_eq fM_read_112 (fun _ => ?_) (fun c_ => absurd (by rw [bI_f (nI_pos (by omega))]) c_)
        refine a_al0 fM_read_120 ?_
        refine a_al0 fM_read_121 ?_
        refine a_gf fM_read_122 l_M_98 up_s rfl ?_
        refine a_ic fM_read_125 ?_
        refine a_ic_ne fM_read_127 (fun c => ?_) (fun c => ?_)
        · refine a_ic fM_read_134 ?_
          refine a_V1V fM_read_135 k_M_115 m_M_takes ⟨by decide, by decide⟩ up_s rfl ⟨rfl, rfl⟩ (Nat.le_of_ble_eq_true rfl) (c_Mtk_b (f := tkP tn bt a) (tt := nI tn) (nx := nI (tkE tn bt a)) (pl := nI (tkP tn bt a)) (tk := tok tn bt a) (up := ((nI ab).toInt64)) (lo := ((nI be).toInt64)) (th := th9) (mn := mn9) up_s (by omega)) ?_
          refine a_pop fM_read_138 rfl ?_
          refine a_inc1 fM_read_139 (by decide) rfl ?_
          refine a_goto fM_read_142 ?_
          rw [nI_1]
          exact failx _ (tkP tn bt a) _ _ _ (by omega) ⟨_, _, _, _, _, up_s⟩ ⟨f7, up_n (by decide) g7⟩ ⟨D, up_n (by decide) g65, zz⟩ (fun y y1 y2 y3 => (vn y1).trans (fr y y1 y2 y3)) eo
        · refine a_ic fM_read_130 ?_
          refine a_goto fM_read_131 ?_
          refine a_V1V fM_read_135 k_M_115 m_M_takes ⟨by decide, by decide⟩ up_s rfl ⟨rfl, rfl⟩ (Nat.le_of_ble_eq_true rfl) (c_Mtk_b (f := tkP tn bt a) (tt := nI tn) (nx := nI (tkE tn bt a)) (pl := nI (tkP tn bt a)) (tk := tok tn bt a) (up := ((nI ab).toInt64)) (lo := ((nI be).toInt64)) (th := th9) (mn := mn9) up_s (by omega)) ?_
          refine a_pop fM_read_138 rfl ?_
          refine a_inc1 fM_read_139 (by decide) rfl ?_
          refine a_goto fM_read_142 ?_
          rw [nI_1]
          exact failx _ (tkP tn bt a) _ _ _ (by omega) ⟨_, _, _, _, _, up_s⟩ ⟨f7, up_n (by decide) g7⟩ ⟨D, up_n (by decide) g65, zz⟩ (fun y y1 y2 y3 => (vn y1).trans (fr y y1 y2 y3)) eo
      -- it may
      have mt : ∀ (w : Nat) (y3 : Option Value), tkS tn bt a = 1 → (∀ g2 : hT, g2 63 = sW tn bt ((nI ab).toInt64) ((nI be).toInt64) (tkE tn bt a) th9 mn9 → g2 65 = nA 189 D → g2 71 = ia 4 f7 → g2 68 = nA 150 bt → fE M_M_reads E [.ref 63, .int (nI w)] n g2 (qN (rsT tn bt ((nI ab).toInt64) ((nI be).toInt64) g2 n (rdC tn bt D (decide (it = 0)) a)))) → fA M_M_read E (fZ M_M_read E (qI (fun r k g => r = (rdO N RDv).2 ∧ k = n ∧ fC h g ∧ MS g (rdO N RDv).1 I tn bt ab be rb rn rf))) n g 0 0 96 [some (.ref 63), some (.int (nI it)), some (.int (nI w)), y3] [] := by
        intro w y3 cs hr
        refine a_ic fM_read_96 ?_
        refine a_goto fM_read_97 ?_
        refine a_is3 fM_read_101 (by decide) rfl ?_
        refine a_al0 fM_read_102 ?_
        refine a_il3 fM_read_103 ?_
        refine a_V1V fM_read_104 k_M_115 m_M_takes ⟨by decide, by decide⟩ g3 rfl ⟨rfl, rfl⟩ (Nat.le_of_ble_eq_true rfl) (c_Mtk_t g3 g68 KX a1) ?_
        refine a_pop fM_read_107 rfl ?_
        refine a_al0 fM_read_108 ?_
        refine a_V0V fM_read_109 k_M_108 m_M_isWell ⟨by decide, by decide⟩ up_s rfl ⟨rfl, rfl⟩ (Nat.le_of_ble_eq_true rfl) (c_MisWell (tt := nI tn) (nx := nI (tkE tn bt (tkE tn bt a))) (pl := nI (tkP tn bt (tkE tn bt a))) (tk := tok tn bt (tkE tn bt a)) (fa := -1) (up := ((nI ab).toInt64)) (lo := ((nI be).toInt64)) (th := th9) (mn := mn9) up_s) ?_
        refine a_if_eq fM_read_112 (fun c_ => absurd c_ (by decide)) (fun _ => ?_)
        refine a_al0 fM_read_115 ?_
        refine a_il2 fM_read_116 ?_
        refine a_V1Q fM_read_117 k_M_139 m_M_reads ⟨by decide, by decide⟩ up_s rfl ⟨rfl, rfl⟩ (Nat.le_of_ble_eq_true rfl) (hr _ up_s (up_n (by decide) g65) (up_n (by decide) g7) (up_n (by decide) g68)) (fun n3 h3 p3 => ?_)
        have hn3 := p3.1
        subst n3
        refine tail h3 _ _ ?_ cs
        obtain ⟨e1, e2, e3, e4⟩ := p3
        exact ⟨e1, fun y y1 y2 y3 => (e2 y y1 y2 y3).trans (vn y1), e3, e4⟩
      have go : fA M_M_read E (fZ M_M_read E (qI (fun r k g => r = (rdO N RDv).2 ∧ k = n ∧ fC h g ∧ MS g (rdO N RDv).1 I tn bt ab be rb rn rf))) n g 0 0 48 [some (.ref 63), some (.int (nI it)), x2, x3] [] := by
        refine a_al0 fM_read_48 ?_
        refine a_V0V fM_read_49 k_M_136 m_M_wordIs ⟨by decide, by decide⟩ g3 rfl ⟨rfl, rfl⟩ (Nat.le_of_ble_eq_true rfl) (c_MwordIs g3) ?_
        refine a_is2 fM_read_52 (by decide) rfl ?_
        by_cases cs : tkS tn bt a = 1
        · have eI : rdI tn bt D (decide (it = 0)) a = rdZ tn bt (rdC tn bt D (decide (it = 0)) a) := by unfold rdI; rw [if_pos cs]
          by_cases i0 : it = 0
          · have db : decide (it = 0) = true := decide_eq_true i0
            by_cases w0 : isWd bt (tkP tn bt a) (tkE tn bt a) 0
            · have ew : wix (tok tn bt a) = nI 0 := by rw [(tok_wd cs (by decide)).mpr w0]; exact wix_i 0 (by decide)
              have eC : rdC tn bt D (decide (it = 0)) a = .inl (D, tkE tn bt a) := by unfold rdC; rw [if_pos db, if_pos w0]
              rw [show Value.int (wix (tok tn bt a)) = Value.int (nI 0) from congrArg Value.int ew]
              refine a_il2 fM_read_53 ?_
              refine a_ic fM_read_54 ?_
              refine a_ic_eq fM_read_55 (fun c_ => absurd c_ (by decide)) (fun _ => ?_)
              refine a_il2 fM_read_58 ?_
              refine a_if_ne fM_read_59 (fun c_ => absurd (rfl) c_) (fun _ => ?_)
              refine a_ic fM_read_62 ?_
              refine a_goto fM_read_63 ?_
              refine a_il1 fM_read_67 ?_
              refine a_if_ne fM_read_68 (fun c_ => absurd (by rw [i0]; rfl) c_) (fun _ => ?_)
              refine a_ic fM_read_71 ?_
              refine a_goto fM_read_72 ?_
              refine a_ic_ne fM_read_76 (fun c_ => absurd (rfl) c_) (fun _ => ?_)
              refine a_il2 fM_read_79 ?_
              refine a_ic fM_read_80 ?_
              refine a_ic_ne fM_read_81 (fun _ => ?_) (fun c_ => absurd c_ (by decide))
              exact mt 0 _ cs (fun g2 q1 q2 q3 q4 => by rw [eC]; exact c_Mreads0 q1 q2 q3)
            · have eI2 : rdI tn bt D (decide (it = 0)) a = .inr (tkP tn bt a) := by rw [eI]; unfold rdC; rw [if_pos db, if_neg w0]; rfl
              have nw : ¬ wix (tok tn bt a) = 0 := by
                have n0 : ¬ tok tn bt a = nI (wC 0) := fun z => w0 ((tok_wd cs (by decide)).mp z)
                unfold wix
                rw [if_neg n0]
                repeat' split
                all_goals decide
              by_cases nn : wix (tok tn bt a) = -1
              · refine a_il2 fM_read_53 ?_
                refine a_ic fM_read_54 ?_
                refine a_ic_eq fM_read_55 (fun _ => ?_) (fun c_ => absurd (nn) c_)
                exact mf _ _ eI2
              · refine a_il2 fM_read_53 ?_
                refine a_ic fM_read_54 ?_
                refine a_ic_eq fM_read_55 (fun c_ => absurd c_ (nn)) (fun _ => ?_)
                refine a_il2 fM_read_58 ?_
                refine a_if_ne fM_read_59 (fun _ => ?_) (fun c_ => absurd c_ (nw))
                refine a_ic fM_read_66 ?_
                refine a_il1 fM_read_67 ?_
                refine a_if_ne fM_read_68 (fun c_ => absurd (by rw [i0]; rfl) c_) (fun _ => ?_)
                refine a_ic fM_read_71 ?_
                refine a_goto fM_read_72 ?_
                refine a_ic_ne fM_read_76 (fun _ => ?_) (fun c_ => absurd c_ (by decide))
                exact mf _ _ eI2
          · have db : ¬ decide (it = 0) = true := fun z => i0 (of_decide_eq_true z)
            have df : decide (it = 0) = false := decide_eq_false i0
            have it0 : ¬ nI it = 0 := nI_ne0 (by omega) (by omega)
            -- words 1 to 4
            have word : ∀ w, 1 ≤ w → w < 5 → isWd bt (tkP tn bt a) (tkE tn bt a) w → (w = 2 → ¬ D 31 = 6) → (∀ g2 : hT, g2 63 = sW tn bt ((nI ab).toInt64) ((nI be).toInt64) (tkE tn bt a) th9 mn9 → g2 65 = nA 189 D → g2 71 = ia 4 f7 → g2 68 = nA 150 bt → fE M_M_reads E [.ref 63, .int (nI w)] n g2 (qN (rsT tn bt ((nI ab).toInt64) ((nI be).toInt64) g2 n (rdC tn bt D (decide (it = 0)) a)))) → fA M_M_read E (fZ M_M_read E (qI (fun r k g => r = (rdO N RDv).2 ∧ k = n ∧ fC h g ∧ MS g (rdO N RDv).1 I tn bt ab be rb rn rf))) n g 0 0 53 [some (.ref 63), some (.int (nI it)), some (.int (wix (tok tn bt a))), x3] [] := by
              intro w w1 w5 hw h6 hr
              have ew : wix (tok tn bt a) = nI w := by rw [(tok_wd cs w5).mpr hw]; exact wix_i w w5
              rw [show Value.int (wix (tok tn bt a)) = Value.int (nI w) from congrArg Value.int ew]
              refine a_il2 fM_read_53 ?_
              refine a_ic fM_read_54 ?_
              refine a_ic_eq fM_read_55 (fun c_ => absurd c_ (nI_nm1 (by omega))) (fun _ => ?_)
              refine a_il2 fM_read_58 ?_
              refine a_if_ne fM_read_59 (fun _ => ?_) (fun c_ => absurd c_ (nI_ne0 (by omega) (by omega)))
              refine a_ic fM_read_66 ?_
              refine a_il1 fM_read_67 ?_
              refine a_if_ne fM_read_68 (fun _ => ?_) (fun c_ => absurd c_ (it0))
              refine a_ic fM_read_75 ?_
              refine a_ic_ne fM_read_76 (fun c_ => absurd (rfl) c_) (fun _ => ?_)
              by_cases w2 : w = 2
              · refine a_il2 fM_read_79 ?_
                refine a_ic fM_read_80 ?_
                refine a_ic_ne fM_read_81 (fun c_ => absurd (congrArg nI w2) c_) (fun _ => ?_)
                refine a_al0 fM_read_84 ?_
                refine a_gf fM_read_85 l_M_13 g3 rfl ?_
                refine a_ic fM_read_88 ?_
                refine a_ia fM_read_90 g65 (show (31 : Int32) = nI 31 from rfl) (by decide) (by decide) ?_
                refine a_ic fM_read_91 ?_
                refine a_ic_eq fM_read_93 (fun c_ => absurd c_ (fun z => h6 w2 ((nI_eq (b := 6) (by have := KD.2.2.1.1; omega) (by decide)).mp z))) (fun _ => ?_)
                exact mt w _ cs hr
              · refine a_il2 fM_read_79 ?_
                refine a_ic fM_read_80 ?_
                refine a_ic_ne fM_read_81 (fun _ => ?_) (fun c_ => absurd c_ (fun z => w2 ((nI_eq (b := 2) (by omega) (by decide)).mp z)))
                exact mt w _ cs hr
            by_cases w1 : isWd bt (tkP tn bt a) (tkE tn bt a) 1
            · have eC : rdC tn bt D (decide (it = 0)) a = rdF tn bt D (tkE tn bt a) := by unfold rdC; rw [if_neg db, if_pos w1]
              exact word 1 (by decide) (by decide) w1 (fun z => by omega) (fun g2 q1 q2 q3 q4 => by rw [eC]; exact c_Mreads1 q1 q4 KX a1 q2 zz h84 q3)
            · by_cases w2 : isWd bt (tkP tn bt a) (tkE tn bt a) 2
              · have eC : rdC tn bt D (decide (it = 0)) a = rdB tn bt D (tkP tn bt a) (tkE tn bt a) := by unfold rdC; rw [if_neg db, if_neg w1, if_pos w2]
                by_cases h6 : D 31 < 6
                · exact word 2 (by decide) (by decide) w2 (fun _ => by omega) (fun g2 q1 q2 q3 q4 => by rw [eC]; exact c_Mreads2 q1 q4 KX a1 q2 zz h84 h6 q3)
                · have eI2 : rdI tn bt D (decide (it = 0)) a = .inr (tkP tn bt a) := by rw [eI, eC]; unfold rdB; rw [if_pos h6]; rfl
                  have e6 : D 31 = 6 := by have := KD.2.2.1.1; omega
                  have ew : wix (tok tn bt a) = nI 2 := by rw [(tok_wd cs (by decide)).mpr w2]; exact wix_i 2 (by decide)
                  rw [show Value.int (wix (tok tn bt a)) = Value.int (nI 2) from congrArg Value.int ew]
                  refine a_il2 fM_read_53 ?_
                  refine a_ic fM_read_54 ?_
                  refine a_ic_eq fM_read_55 (fun c_ => absurd c_ (by decide)) (fun _ => ?_)
                  refine a_il2 fM_read_58 ?_
                  refine a_if_ne fM_read_59 (fun _ => ?_) (fun c_ => absurd c_ (by decide))
                  refine a_ic fM_read_66 ?_
                  refine a_il1 fM_read_67 ?_
                  refine a_if_ne fM_read_68 (fun _ => ?_) (fun c_ => absurd c_ (it0))
                  refine a_ic fM_read_75 ?_
                  refine a_ic_ne fM_read_76 (fun c_ => absurd (rfl) c_) (fun _ => ?_)
                  refine a_il2 fM_read_79 ?_
                  refine a_ic fM_read_80 ?_
                  refine a_ic_ne fM_read_81 (fun c_ => absurd (rfl) c_) (fun _ => ?_)
                  refine a_al0 fM_read_84 ?_
                  refine a_gf fM_read_85 l_M_13 g3 rfl ?_
                  refine a_ic fM_read_88 ?_
                  refine a_ia fM_read_90 g65 (show (31 : Int32) = nI 31 from rfl) (by decide) (by decide) ?_
                  refine a_ic fM_read_91 ?_
                  refine a_ic_eq fM_read_93 (fun _ => ?_) (fun c_ => absurd (congrArg nI e6) c_)
                  exact mf _ _ eI2
              · by_cases w3 : isWd bt (tkP tn bt a) (tkE tn bt a) 3
                · have eC : rdC tn bt D (decide (it = 0)) a = rdW tn bt D (tkE tn bt a) := by unfold rdC; rw [if_neg db, if_neg w1, if_neg w2, if_pos w3]
                  exact word 3 (by decide) (by decide) w3 (fun z => by omega) (fun g2 q1 q2 q3 q4 => by rw [eC]; exact c_Mreads3 q1 q4 KX a1 q2 zz KD q3)
                · by_cases w4 : isWd bt (tkP tn bt a) (tkE tn bt a) 4
                  · have eC : rdC tn bt D (decide (it = 0)) a = rdN tn bt D (tkE tn bt a) := by unfold rdC; rw [if_neg db, if_neg w1, if_neg w2, if_neg w3, if_pos w4]
                    exact word 4 (by decide) (by decide) w4 (fun z => by omega) (fun g2 q1 q2 q3 q4 => by rw [eC]; exact c_Mreads4 q1 q4 KX a1 q2 zz KD q3)
                  · have eI2 : rdI tn bt D (decide (it = 0)) a = .inr (tkP tn bt a) := by rw [eI]; unfold rdC; rw [if_neg db, if_neg w1, if_neg w2, if_neg w3, if_neg w4]; rfl
                    have wv : wix (tok tn bt a) = 0 ∨ wix (tok tn bt a) = -1 := by
                      unfold wix
                      by_cases n0 : tok tn bt a = nI (wC 0)
                      · rw [if_pos n0]; exact Or.inl rfl
                      · rw [if_neg n0, if_neg (fun z => w1 ((tok_wd cs (by decide)).mp z)), if_neg (fun z => w2 ((tok_wd cs (by decide)).mp z)), if_neg (fun z => w3 ((tok_wd cs (by decide)).mp z)), if_neg (fun z => w4 ((tok_wd cs (by decide)).mp z))]
                        exact Or.inr rfl
                    rcases wv with nn | nn
                    · refine a_il2 fM_read_53 ?_
                      refine a_ic fM_read_54 ?_
                      refine a_ic_eq fM_read_55 (fun c_ => absurd c_ (fun z => by rw [nn] at z; exact absurd z (by decide))) (fun _ => ?_)
                      refine a_il2 fM_read_58 ?_
                      refine a_if_ne fM_read_59 (fun c_ => absurd (nn) c_) (fun _ => ?_)
                      refine a_ic fM_read_62 ?_
                      refine a_goto fM_read_63 ?_
                      refine a_il1 fM_read_67 ?_
                      refine a_if_ne fM_read_68 (fun _ => ?_) (fun c_ => absurd c_ (it0))
                      refine a_ic fM_read_75 ?_
                      refine a_ic_ne fM_read_76 (fun _ => ?_) (fun c_ => absurd c_ (by decide))
                      exact mf _ _ eI2
                    · refine a_il2 fM_read_53 ?_
                      refine a_ic fM_read_54 ?_
                      refine a_ic_eq fM_read_55 (fun _ => ?_) (fun c_ => absurd (nn) c_)
                      exact mf _ _ eI2
        · have eI2 : rdI tn bt D (decide (it = 0)) a = .inr (tkP tn bt a) := by unfold rdI; rw [if_neg cs]
          have nn : wix (tok tn bt a) = -1 := by unfold wix; rw [if_neg (tok_nw cs (by decide)), if_neg (tok_nw cs (by decide)), if_neg (tok_nw cs (by decide)), if_neg (tok_nw cs (by decide)), if_neg (tok_nw cs (by decide))]
          refine a_il2 fM_read_53 ?_
          refine a_ic fM_read_54 ?_
          refine a_ic_eq fM_read_55 (fun _ => ?_) (fun c_ => absurd (nn) c_)
          exact mf _ _ eI2
      by_cases ce : tkS tn bt a = 0
      · have i0 : it = 0 := by
          rcases Nat.eq_zero_or_pos it with q | q
          · exact q
          · exact absurd ⟨ce, q⟩ cE
        refine a_al0 fM_read_35 ?_
        refine a_gf fM_read_36 l_M_98 g3 rfl ?_
        refine a_ic fM_read_39 ?_
        refine a_ic_ne fM_read_41 (fun c_ => absurd (tok_end.mpr ce) c_) (fun _ => ?_)
        refine a_il1 fM_read_44 ?_
        refine a_if_ne fM_read_45 (fun c_ => absurd (by rw [i0]; rfl) c_) (fun _ => ?_)
        exact go
      · refine a_al0 fM_read_35 ?_
        refine a_gf fM_read_36 l_M_98 g3 rfl ?_
        refine a_ic fM_read_39 ?_
        refine a_ic_ne fM_read_41 (fun _ => ?_) (fun c_ => absurd c_ (fun z => ce (tok_end.mp z)))
        exact go
  refine a_al0 fM_read_5 ?_
  refine a_gf fM_read_6 l_M_13 M0 rfl ?_
  refine a_S1N fM_read_9 k_M_39 m_M_begins ⟨by decide, by decide⟩ ⟨rfl, rfl⟩ (Nat.le_of_ble_eq_true rfl) (c_Mbegins MD zD) ?_
  refine a_al0 fM_read_12 ?_
  refine a_ic fM_read_13 ?_
  refine a_pfi7 fM_read_14 p_M_85 (up_n (by decide) M0) ?_
  refine a_al0 fM_read_17 ?_
  refine a_ic fM_read_18 ?_
  refine a_pfi10 fM_read_19 p_M_105 up_s ?_
  rw [bx_uu]
  refine a_ic fM_read_22 ?_
  refine a_is1 fM_read_23 (by decide) rfl ?_
  refine a_al0 fM_read_24 ?_
  refine a_V0N fM_read_25 k_M_112 m_M_advances ⟨by decide, by decide⟩ up_s rfl ⟨rfl, rfl⟩ (Nat.le_of_ble_eq_true rfl) (c_Madvances (a := 0) (pl := pl) (tk := tk) (fa := -1) (up := ((nI ab).toInt64)) (lo := ((nI be).toInt64)) (th := th1) (mn := mn1) up_s (up_n (by decide) (up_n (by decide) M5)) KX (Nat.zero_le _)) ?_
  rw [bx_uu]
  exact loop 151 0 _ N0 0 th1 mn1 none none rfl (Nat.le_refl _) (Nat.zero_le _) okN_N0 z9_N0 rfl up_s ⟨f1, up_n (by decide) (up_n (by decide) M8)⟩ (up_n (by decide) up_s) (fun y y1 y2 _ => (vn y1).trans (vn y2)) hRD
end P13
