/-! odds, images -/
theorem wys_le {c f : Nat} (hc : c ≤ 10) : ∀ (j k w : Nat), wys c f j k w ≤ w * 10 ^ j := by
  intro j
  induction j with
  | zero => intro k w; simp [wys]
  | succ j ih =>
    intro k w
    simp only [wys]
    refine Nat.le_trans (ih (k + 1) _) ?_
    have h1 : (if f / 2 ^ k % 2 = 1 then c else 10 - c) ≤ 10 := by split <;> omega
    calc w * (if f / 2 ^ k % 2 = 1 then c else 10 - c) * 10 ^ j ≤ w * 10 * 10 ^ j := Nat.mul_le_mul_right _ (Nat.mul_le_mul_left _ h1)
      _ = w * 10 ^ (j + 1) := by rw [Nat.pow_succ, Nat.mul_assoc, Nat.mul_comm 10]
theorem lck_le {P : Nat → Bool} {C : Nat → Nat} {b : Nat} (h : ∀ i, C i ≤ b) : ∀ (j i s : Nat), lck P C j i s ≤ s + j * b := by
  intro j
  induction j with
  | zero => intro i s; simp [lck]
  | succ j ih =>
    intro i s
    simp only [lck]
    refine Nat.le_trans (ih (i + 1) _) ?_
    have := h i
    rw [Nat.succ_mul]
    split <;> omega
/-- the ways by which a line can be, of 10 to the number of its signs -/
def odT (N : Nat → Nat) (v x c : Nat) : Nat := lck (fun f => decide (cfR N v x f)) (fun f => wys c f (sgn v x).length 0 1) (2 ^ (sgn v x).length) 0 0
theorem odT_le {N : Nat → Nat} {v x c : Nat} (hc : c ≤ 10) : odT N v x c ≤ 160000 := by
  unfold odT
  have h4 := @sgn_len v x
  have h1 : ∀ f, wys c f (sgn v x).length 0 1 ≤ 10000 := fun f => by
    have := wys_le (c := c) (f := f) hc (sgn v x).length 0 1
    rw [Nat.one_mul] at this
    exact Nat.le_trans this (Nat.le_trans (Nat.pow_le_pow_right (by decide) h4) (by decide))
  have h2 : 2 ^ (sgn v x).length ≤ 16 := Nat.le_trans (Nat.pow_le_pow_right (by decide) h4) (by decide)
  have := lck_le (P := fun f => decide (cfR N v x f)) h1 (2 ^ (sgn v x).length) 0 0
  have h3 : 2 ^ (sgn v x).length * 10000 ≤ 16 * 10000 := Nat.mul_le_mul_right _ h2
  omega
section OD
variable {E : eT} {n : Nat} {h : hT} {N : Nat → Nat} {I : Nat → Option (Nat → Nat)} {tn : Nat} {bt : Nat → Nat} {ab be rb rn rf : Nat}
theorem c_setFraction {tp bo : Nat} (h1 : h 11 = fO ab be rb rn rf) (ht : tp ≤ 160000) (hb0 : 0 < bo) (hb : bo ≤ 10000) : fE M_F_setFraction E [.ref 11, .int (nI tp), .int (nI bo)] n h (eN n (va_up h 11 (fO (tp / Nat.gcd bo tp) (bo / Nat.gcd bo tp) rb rn rf))) := by
  have fin : ∀ (a : Nat) (x4 x5 x6 : Option Value), a = Nat.gcd bo tp → fA M_F_setFraction E (fZ M_F_setFraction E (eN n (va_up h 11 (fO (tp / Nat.gcd bo tp) (bo / Nat.gcd bo tp) rb rn rf)))) n h 0 0 39 [some (.ref 11), some (.int (nI tp)), some (.int (nI bo)), some (.int (nI a)), x4, x5, x6] [] := by
    intro a x4 x5 x6 ha
    have hp : 0 < a := by rw [ha]; exact Nat.gcd_pos_of_pos_left _ hb0
    have hl : a ≤ 10000 := by rw [ha]; exact Nat.le_trans (Nat.gcd_le_left _ hb0) hb
    have nz : ¬ nI a = 0 := fun z => by have := (nI_eq (b := 0) (by omega) (by decide)).mp z; omega
    refine a_il3 fF_setFraction_39 ?_
    refine a_if_le fF_setFraction_40 (fun c_ => absurd c_ (nI_nle hp (by omega))) (fun _ => ?_)
    refine a_al0 fF_setFraction_43 ?_
    refine a_il1 fF_setFraction_44 ?_
    refine a_il3 fF_setFraction_45 ?_
    refine a_idiv fF_setFraction_46 nz ?_
    rw [pk_div (by omega) hp (by omega)]
    refine a_pfi7 fF_setFraction_47 p_F_51 h1 ?_
    refine a_al0 fF_setFraction_50 ?_
    refine a_il2 fF_setFraction_51 ?_
    refine a_il3 fF_setFraction_52 ?_
    refine a_idiv fF_setFraction_53 nz ?_
    rw [pk_div (by omega) hp (by omega)]
    refine a_pfi8 fF_setFraction_54 p_F_55 up_s ?_
    rw [bx_uu]
    exact a_rv fF_setFraction_57 rfl (⟨rfl, rfl, by rw [ha]⟩)
  have stp : ∀ (a b s : Nat) (x6 : Option Value), 0 < b → a ≤ 160000 → b ≤ 160000 → s < 100 → fA M_F_setFraction E (fZ M_F_setFraction E (eN n (va_up h 11 (fO (tp / Nat.gcd bo tp) (bo / Nat.gcd bo tp) rb rn rf)))) n h 0 0 8 [some (.ref 11), some (.int (nI tp)), some (.int (nI bo)), some (.int (nI b)), some (.int (nI (a % b))), some (.int (nI (s + 1))), some (.int (nI (a % b)))] [] → fA M_F_setFraction E (fZ M_F_setFraction E (eN n (va_up h 11 (fO (tp / Nat.gcd bo tp) (bo / Nat.gcd bo tp) rb rn rf)))) n h 0 0 8 [some (.ref 11), some (.int (nI tp)), some (.int (nI bo)), some (.int (nI a)), some (.int (nI b)), some (.int (nI s)), x6] [] := by
    intro a b s x6 hb0 ha hb hs kk
    have nz : ¬ nI b = 0 := fun z => by have := (nI_eq (b := 0) (by omega) (by decide)).mp z; omega
    refine a_il5 fF_setFraction_8 ?_
    refine a_ic fF_setFraction_10 ?_
    refine a_ic_ge fF_setFraction_12 (fun c_ => absurd c_ (nI_ge (b := 100) hs (by decide))) (fun _ => ?_)
    refine a_il4 fF_setFraction_15 ?_
    refine a_if_eq fF_setFraction_17 (fun c_ => absurd c_ (nz)) (fun _ => ?_)
    refine a_il3 fF_setFraction_20 ?_
    refine a_il4 fF_setFraction_21 ?_
    refine a_irem fF_setFraction_23 nz ?_
    rw [pk_rem (by omega) hb0 (by omega)]
    refine a_is6 fF_setFraction_24 (by decide) rfl ?_
    refine a_il4 fF_setFraction_26 ?_
    refine a_is3 fF_setFraction_28 (by decide) rfl ?_
    refine a_il6 fF_setFraction_29 ?_
    refine a_is4 fF_setFraction_31 (by decide) rfl ?_
    refine a_inc5 fF_setFraction_33 (by decide) rfl ?_
    refine a_goto fF_setFraction_36 ?_
    rw [nI_1]
    exact kk
  have loop : ∀ (j a b s : Nat) (x6 : Option Value), b ≤ a → 0 < a → a ≤ 160000 → a * b < 2 ^ j → s + j < 100 → Nat.gcd a b = Nat.gcd bo tp → fA M_F_setFraction E (fZ M_F_setFraction E (eN n (va_up h 11 (fO (tp / Nat.gcd bo tp) (bo / Nat.gcd bo tp) rb rn rf)))) n h 0 0 8 [some (.ref 11), some (.int (nI tp)), some (.int (nI bo)), some (.int (nI a)), some (.int (nI b)), some (.int (nI s)), x6] [] := by
    intro j
    induction j with
    | zero =>
      intro a b s x6 hba ha hal hp hs hg
      have hb : b = 0 := by
        rcases Nat.eq_zero_or_pos b with z | z
        · exact z
        · have := Nat.mul_pos ha z; omega
      subst hb
      refine a_il5 fF_setFraction_8 ?_
      refine a_ic fF_setFraction_10 ?_
      refine a_ic_ge fF_setFraction_12 (fun c_ => absurd c_ (nI_ge (b := 100) (by omega) (by decide))) (fun _ => ?_)
      refine a_il4 fF_setFraction_15 ?_
      refine a_if_eq fF_setFraction_17 (fun _ => ?_) (fun c_ => absurd (rfl) c_)
      exact fin a _ _ _ (by rw [← hg, Nat.gcd_zero_right])
    | succ j ih =>
      intro a b s x6 hba ha hal hp hs hg
      rcases Nat.eq_zero_or_pos b with z | z
      · subst z
        refine a_il5 fF_setFraction_8 ?_
        refine a_ic fF_setFraction_10 ?_
        refine a_ic_ge fF_setFraction_12 (fun c_ => absurd c_ (nI_ge (b := 100) (by omega) (by decide))) (fun _ => ?_)
        refine a_il4 fF_setFraction_15 ?_
        refine a_if_eq fF_setFraction_17 (fun _ => ?_) (fun c_ => absurd (rfl) c_)
        exact fin a _ _ _ (by rw [← hg, Nat.gcd_zero_right])
      · refine stp a b s x6 z hal (by omega) (by omega) ?_
        have hm := Nat.mod_lt a z
        refine ih b (a % b) (s + 1) _ (by omega) z (by omega) ?_ (by omega) (by rw [← hg, Nat.gcd_comm a b, Nat.gcd_rec b a, Nat.gcd_comm])
        have h2 : 2 * (a % b) ≤ a := by
          have h3 := Nat.div_add_mod a b
          have h4 : 1 ≤ a / b := Nat.div_pos hba z
          have h5 : b * 1 ≤ b * (a / b) := Nat.mul_le_mul_left _ h4
          omega
        have h6 : b * (2 * (a % b)) ≤ b * a := Nat.mul_le_mul_left _ h2
        have h7 : b * (2 * (a % b)) = 2 * (b * (a % b)) := by rw [Nat.mul_left_comm]
        rw [Nat.pow_succ, Nat.mul_comm a b] at hp
        omega
  refine fE.of (L := [some (.ref 11), some (.int (nI tp)), some (.int (nI bo)), none, none, none, none]) (by decide +kernel) (Nat.le_of_ble_eq_true rfl) rfl ?_
  refine a_il2 fF_setFraction_0 ?_
  refine a_is3 fF_setFraction_1 (by decide) rfl ?_
  refine a_il1 fF_setFraction_2 ?_
  refine a_is4 fF_setFraction_3 (by decide) rfl ?_
  refine a_ic fF_setFraction_5 ?_
  refine a_is5 fF_setFraction_6 (by decide) rfl ?_
  by_cases c : tp ≤ bo
  · refine loop 60 bo tp 0 _ c hb0 (by omega) ?_ (by omega) rfl
    have : bo * tp ≤ 10000 * 160000 := Nat.mul_le_mul hb ht
    omega
  · refine stp bo tp 0 _ (by omega) (by omega) ht (by omega) ?_
    have hm := Nat.mod_lt bo (y := tp) (by omega)
    refine loop 60 tp (bo % tp) 1 _ (by omega) (by omega) ht ?_ (by omega) (by rw [Nat.gcd_comm bo tp, Nat.gcd_rec tp bo, Nat.gcd_comm])
    have : tp * (bo % tp) ≤ 160000 * 160000 := Nat.mul_le_mul ht (by omega)
    omega
theorem x_odds {V9 X9 C9 : Nat} (X : XS h n N I tn bt ab be rb rn rf) (K : okN N) (h9 : V9 < 100) (h8 : X9 < 100) (h7 : C9 ≤ 10) : fE M_F_odds E [.ref 11, .int (nI V9), .int (nI X9), .int (nI C9)] n h (qI (fun r k g => r = 1 ∧ k = n ∧ fM h g ∧ XS g n N I tn bt (odT N V9 X9 C9 / Nat.gcd (10 ^ (sgn V9 X9).length) (odT N V9 X9 C9)) (10 ^ (sgn V9 X9).length / Nat.gcd (10 ^ (sgn V9 X9).length) (odT N V9 X9 C9)) rb rn rf)) := by
  have O := K.c
  have h4 := @sgn_len V9 X9
  refine fE.of (L := [some (.ref 11), some (.int (nI V9)), some (.int (nI X9)), some (.int (nI C9)), none, none]) (by decide +kernel) (Nat.le_of_ble_eq_true rfl) rfl ?_
  refine a_il1 fF_odds_0 ?_
  refine a_S1V fF_odds_1 k_F_104 m_F_isNumber ⟨by decide, by decide⟩ ⟨rfl, rfl⟩ (Nat.le_of_ble_eq_true rfl) (c_isNumber) ?_
  refine a_if_eq fF_odds_4 (fun c_ => absurd c_ (fun z => by rw [bI_t ⟨nI_pos' (by omega), nI_le (b := 99) (by omega) (by decide)⟩] at z; exact absurd z (by decide))) (fun _ => ?_)
  refine a_il2 fF_odds_7 ?_
  refine a_S1V fF_odds_8 k_F_104 m_F_isNumber ⟨by decide, by decide⟩ ⟨rfl, rfl⟩ (Nat.le_of_ble_eq_true rfl) (c_isNumber) ?_
  refine a_if_eq fF_odds_11 (fun c_ => absurd c_ (fun z => by rw [bI_t ⟨nI_pos' (by omega), nI_le (b := 99) (by omega) (by decide)⟩] at z; exact absurd z (by decide))) (fun _ => ?_)
  refine a_il3 fF_odds_14 ?_
  refine a_ic fF_odds_15 ?_
  refine a_ic fF_odds_16 ?_
  refine a_S3V fF_odds_18 k_F_85 m_F_within ⟨by decide, by decide⟩ ⟨rfl, rfl⟩ (Nat.le_of_ble_eq_true rfl) (c_within) ?_
  refine a_if_ne fF_odds_21 (fun _ => ?_) (fun c_ => absurd c_ (fun z => by rw [bI_t ⟨nI_pos' (by omega), nI_le (b := 10) (by omega) (by decide)⟩] at z; exact absurd z (by decide)))
  obtain ⟨lm, lf, l1, l2⟩ := X.2.2.2.2.2.2.2.1
  refine a_al0 fF_odds_29 ?_
  refine a_gf fF_odds_30 l_F_47 X.1.1 rfl ?_
  refine a_il1 fF_odds_33 ?_
  refine a_il2 fF_odds_34 ?_
  refine a_V2Q fF_odds_35 k_F_129 m_L_tell ⟨by decide, by decide⟩ l1 rfl ⟨rfl, rfl⟩ (Nat.le_of_ble_eq_true rfl) (c_tell (l := 61) l1 l2 h9 h8) (fun n1 h1 p1 => ?_)
  obtain ⟨hn1, g2, q1, hg2⟩ := p1
  subst n1
  have Fl : ∀ a, a ≠ 61 → a ≠ 62 → h1 a = h a := by rw [hg2]; exact fun a x1 x2 => up_n x2 (up_n x1 rfl)
  have M1 : h1 61 = lO 62 (sgn V9 X9).length := by rw [hg2]; exact up_n (by decide) up_s
  have M2 : h1 62 = ia 4 g2 := by rw [hg2]; exact up_s
  clear hg2
  have X1 := X.ofl Fl M1 M2
  have V1 := X1.2.1.v
  have S1 := X1.2.2.2.1
  have Fm : fM h h1 := fun a x1 x2 => Fl a (by omega) (by omega)
  have k7 : ∃ op dp, h1 47 = kO op dp := by obtain ⟨m, f, D, W, ob, cd, op, dp, k7, _⟩ := S1; exact ⟨op, dp, k7⟩
  obtain ⟨op, dp, k7⟩ := k7
  have loop : ∀ (j i : Nat), i + j = (sgn V9 X9).length → fA M_F_odds E (fZ M_F_odds E (qI (fun r k g => r = 1 ∧ k = n ∧ fM h g ∧ XS g n N I tn bt (odT N V9 X9 C9 / Nat.gcd (10 ^ (sgn V9 X9).length) (odT N V9 X9 C9)) (10 ^ (sgn V9 X9).length / Nat.gcd (10 ^ (sgn V9 X9).length) (odT N V9 X9 C9)) rb rn rf))) n h1 0 0 44 [some (.ref 11), some (.int (nI V9)), some (.int (nI X9)), some (.int (nI C9)), some (.int (nI (10 ^ i))), some (.int (nI i))] [] := by
    intro j
    induction j with
    | zero =>
      intro i hi
      obtain rfl : i = (sgn V9 X9).length := by omega
      refine a_il5 fF_odds_44 ?_
      refine a_al0 fF_odds_46 ?_
      refine a_gf fF_odds_47 l_F_47 X1.1.1 rfl ?_
      refine a_gf fF_odds_50 l_F_280 M1 rfl ?_
      refine a_ic_ge fF_odds_53 (fun _ => ?_) (fun c_ => absurd (Int32.le_refl _) c_)
      refine a_al0 fF_odds_69 ?_
      refine a_al0 fF_odds_70 ?_
      refine a_gf fF_odds_71 l_F_26 X1.1.1 rfl ?_
      refine a_al0 fF_odds_74 ?_
      refine a_gf fF_odds_75 l_F_10 X1.1.1 rfl ?_
      refine a_al0 fF_odds_78 ?_
      refine a_gf fF_odds_79 l_F_47 X1.1.1 rfl ?_
      refine a_il3 fF_odds_82 ?_
      refine a_V3I fF_odds_83 k_F_281 m_K_luckyWays ⟨by decide, by decide⟩ k7 rfl ⟨rfl, rfl⟩ (Nat.le_of_ble_eq_true rfl) (c_lucky V1 S1 O M1 M2 q1 h7) (fun r1 n1 h2 p2 => ?_)
      obtain ⟨hr, hn1, S2, F2⟩ := p2
      subst n1
      subst hr
      have X2 := X1.ofk F2 S2
      refine a_il4 fF_odds_86 ?_
      refine a_V2N fF_odds_88 k_F_285 m_F_setFraction ⟨by decide, by decide⟩ X2.1.1 rfl ⟨rfl, rfl⟩ (Nat.le_of_ble_eq_true rfl) (c_setFraction (tp := odT N V9 X9 C9) X2.1.1 (odT_le h7) (Nat.pow_pos (by decide)) (Nat.le_trans (Nat.pow_le_pow_right (by decide) h4) (by decide))) ?_
      refine a_ic fF_odds_91 ?_
      exact a_ri fF_odds_92 rfl (⟨_, rfl, rfl, rfl, (Fm.trans (fM.k F2)).up (by decide), X2.fl _ _ _ _ _⟩)
    | succ j ih =>
      intro i hi
      refine a_il5 fF_odds_44 ?_
      refine a_al0 fF_odds_46 ?_
      refine a_gf fF_odds_47 l_F_47 X1.1.1 rfl ?_
      refine a_gf fF_odds_50 l_F_280 M1 rfl ?_
      refine a_ic_ge fF_odds_53 (fun c_ => absurd c_ (nI_ge (by omega) (by omega))) (fun _ => ?_)
      refine a_il4 fF_odds_56 ?_
      refine a_ic fF_odds_58 ?_
      refine a_imul fF_odds_60 ?_
      refine a_is4 fF_odds_61 (by decide) rfl ?_
      refine a_inc5 fF_odds_63 (by decide) rfl ?_
      refine a_goto fF_odds_66 ?_
      rw [nI_1, show nI (10 ^ i) * 10 = nI (10 ^ (i + 1)) from by rw [Nat.pow_succ]; exact pk_mul _ 10]
      exact ih (i + 1) (by omega)
  refine a_ic fF_odds_38 ?_
  refine a_is4 fF_odds_39 (by decide) rfl ?_
  refine a_ic fF_odds_41 ?_
  refine a_is5 fF_odds_42 (by decide) rfl ?_
  exact loop (sgn V9 X9).length 0 (by omega)
end OD
