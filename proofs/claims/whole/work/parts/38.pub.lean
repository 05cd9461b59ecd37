/-! the public methods -/
theorem mosL_lt {P G : Nat → Bool} {C : Nat → Nat} {b : Nat} : ∀ (j i s : Nat), i + j ≤ b → s < b → mosL P G C j i s < b := by
  intro j
  induction j with
  | zero => intro i s _ hs; exact hs
  | succ j ih => intro i s hi hs; simp only [mosL]; apply ih; omega; split <;> omega
theorem mstL_lt {C : Nat → Nat} {b : Nat} : ∀ (j i s : Nat) (m : Option Nat), i + j ≤ b → s < b → mstL C j i s m < b := by
  intro j
  induction j with
  | zero => intro i s m _ hs; exact hs
  | succ j ih =>
    intro i s m hi hs
    simp only [mstL]
    split
    · exact ih _ _ _ (by omega) (by omega)
    · exact ih _ _ _ (by omega) hs
section PU
variable {E : eT} {n : Nat} {h : hT} {N : Nat → Nat} {I : Nat → Option (Nat → Nat)} {tn : Nat} {bt : Nat → Nat} {ab be rb rn rf : Nat}
theorem x_best_bad {v : Int32} (X : XS h n N I tn bt ab be rb rn rf) (hb : ¬ ((0 ≤ v ∧ v ≤ 99))) : fE M_F_best E [.ref 11, .int v] n h (qI (fun r k g => r = -2 ∧ k = n ∧ fM h g ∧ XS g n N I tn bt ab be (rb + 1) rn rf)) := by
  refine fE.of (L := [some (.ref 11), some (.int v)]) (by decide +kernel) (Nat.le_of_ble_eq_true rfl) rfl ?_
  by_cases d0 : (0 ≤ v ∧ v ≤ 99)
  · exact absurd d0 hb
  · refine a_il1 fF_best_0 ?_
    refine a_S1V fF_best_1 k_F_104 m_F_isNumber ⟨by decide, by decide⟩ ⟨rfl, rfl⟩ (Nat.le_of_ble_eq_true rfl) (c_isNumber) ?_
    refine a_if_ne fF_best_4 (fun c_ => absurd (by rw [bI_f d0]) c_) (fun _ => ?_)
    refine a_al0 fF_best_7 ?_
    refine a_V0V fF_best_8 k_F_89 m_F_bad ⟨by decide, by decide⟩ X.1.1 rfl ⟨rfl, rfl⟩ (Nat.le_of_ble_eq_true rfl) (c_bad X.1.1) ?_
    exact a_ri fF_best_11 rfl (⟨_, rfl, rfl, rfl, fM.r0.up (by decide), X.fl _ _ _ _ _⟩)
theorem x_best {V9 : Nat} (X : XS h n N I tn bt ab be rb rn rf) (K : okN N) (h9 : V9 < 100) : fE M_F_best E [.ref 11, .int (nI V9)] n h (qI (fun r k g => r = bsF (bstL (fun x => decide (canR N V9 x)) (cstR N V9) V9 100 0 none) ∧ k = n ∧ fM h g ∧ XS g n N I tn bt ab be rb rn rf)) := by
  have V := X.2.1.v
  have B := X.2.1.b
  have C := X.2.1.c
  have S := X.2.2.2.1
  have O := K.c
  refine fE.of (L := [some (.ref 11), some (.int (nI V9))]) (by decide +kernel) (Nat.le_of_ble_eq_true rfl) rfl ?_
  refine a_il1 fF_best_0 ?_
  refine a_S1V fF_best_1 k_F_104 m_F_isNumber ⟨by decide, by decide⟩ ⟨rfl, rfl⟩ (Nat.le_of_ble_eq_true rfl) (c_isNumber) ?_
  refine a_if_ne fF_best_4 (fun _ => ?_) (fun c_ => absurd c_ (fun z => by rw [bI_t ⟨nI_pos' (by omega), nI_le (b := 99) (by omega) (by decide)⟩] at z; exact absurd z (by decide)))
  have k7 : ∃ op dp, h 47 = kO op dp := by obtain ⟨m, f, D, W, ob, cd, op, dp, k7, _⟩ := S; exact ⟨op, dp, k7⟩
  obtain ⟨op, dp, k7⟩ := k7
  refine a_al0 fF_best_12 ?_
  refine a_gf fF_best_13 l_F_26 X.1.1 rfl ?_
  refine a_al0 fF_best_16 ?_
  refine a_gf fF_best_17 l_F_10 X.1.1 rfl ?_
  refine a_il1 fF_best_20 ?_
  refine a_V2I fF_best_21 k_F_208 m_K_cheapest ⟨by decide, by decide⟩ k7 rfl ⟨rfl, rfl⟩ (Nat.le_of_ble_eq_true rfl) (c_cheapest V S O h9) (fun r1 n1 h1 p1 => ?_)
  obtain ⟨hr, hn1, S1, F1⟩ := p1
  subst n1
  exact a_ri fF_best_24 rfl ⟨_, rfl, hr, rfl, fM.k F1, X.ofk F1 S1⟩
theorem x_first (X : XS h n N I tn bt ab be rb rn rf) (K : okN N) : fE M_F_first E [.ref 11] n h (qI (fun r k g => isFst (fun v => ¬ ∃ x, x < 100 ∧ canR N v x) r ∧ k = n ∧ fM h g ∧ XS g n N I tn bt ab be rb rn rf)) := by
  have V := X.2.1.v
  have B := X.2.1.b
  have C := X.2.1.c
  have S := X.2.2.2.1
  have O := K.c
  refine fE.of (L := [some (.ref 11)]) (by decide +kernel) (Nat.le_of_ble_eq_true rfl) rfl ?_
  have k7 : ∃ op dp, h 47 = kO op dp := by obtain ⟨m, f, D, W, ob, cd, op, dp, k7, _⟩ := S; exact ⟨op, dp, k7⟩
  obtain ⟨op, dp, k7⟩ := k7
  refine a_al0 fF_first_0 ?_
  refine a_gf fF_first_1 l_F_26 X.1.1 rfl ?_
  refine a_al0 fF_first_4 ?_
  refine a_gf fF_first_5 l_F_10 X.1.1 rfl ?_
  refine a_V1I fF_first_8 k_F_212 m_K_firstWithout ⟨by decide, by decide⟩ k7 rfl ⟨rfl, rfl⟩ (Nat.le_of_ble_eq_true rfl) (c_firstW V S O) (fun r1 n1 h1 p1 => ?_)
  obtain ⟨hr, hn1, S1, F1⟩ := p1
  subst n1
  exact a_ri fF_first_11 rfl ⟨_, rfl, hr, rfl, fM.k F1, X.ofk F1 S1⟩
theorem x_counts (X : XS h n N I tn bt ab be rb rn rf) (K : okN N) : fE M_F_counts E [.ref 11] n h (qI (fun r k g => r = nI (cnt (sl N 0 10) (sl N 10 10) (N 30) 100 0 (sl N 20 10)) ∧ k = n ∧ fM h g ∧ XS g n N I tn bt ab be rb rn rf)) := by
  have V := X.2.1.v
  have B := X.2.1.b
  have C := X.2.1.c
  have S := X.2.2.2.1
  have O := K.c
  refine fE.of (L := [some (.ref 11)]) (by decide +kernel) (Nat.le_of_ble_eq_true rfl) rfl ?_
  have k7 : ∃ op dp, h 47 = kO op dp := by obtain ⟨m, f, D, W, ob, cd, op, dp, k7, _⟩ := S; exact ⟨op, dp, k7⟩
  obtain ⟨op, dp, k7⟩ := k7
  refine a_al0 fF_counts_0 ?_
  refine a_gf fF_counts_1 l_F_26 X.1.1 rfl ?_
  refine a_al0 fF_counts_4 ?_
  refine a_gf fF_counts_5 l_F_10 X.1.1 rfl ?_
  refine a_V1I fF_counts_8 k_F_215 m_K_countOn ⟨by decide, by decide⟩ k7 rfl ⟨rfl, rfl⟩ (Nat.le_of_ble_eq_true rfl) (c_countOn V S O) (fun r1 n1 h1 p1 => ?_)
  obtain ⟨hr, hn1, S1, F1⟩ := p1
  subst n1
  exact a_ri fF_counts_11 rfl ⟨_, rfl, hr, rfl, fM.k F1, X.ofk F1 S1⟩
theorem x_when_bad {v x : Int32} (X : XS h n N I tn bt ab be rb rn rf) (hb : ¬ ((0 ≤ v ∧ v ≤ 99) ∧ (0 ≤ x ∧ x ≤ 99))) : fE M_F_when E [.ref 11, .int v, .int x] n h (qI (fun r k g => r = -2 ∧ k = n ∧ fM h g ∧ XS g n N I tn bt ab be (rb + 1) rn rf)) := by
  refine fE.of (L := [some (.ref 11), some (.int v), some (.int x)]) (by decide +kernel) (Nat.le_of_ble_eq_true rfl) rfl ?_
  by_cases d0 : (0 ≤ v ∧ v ≤ 99)
  · refine a_il1 fF_when_0 ?_
    refine a_S1V fF_when_1 k_F_104 m_F_isNumber ⟨by decide, by decide⟩ ⟨rfl, rfl⟩ (Nat.le_of_ble_eq_true rfl) (c_isNumber) ?_
    refine a_if_eq fF_when_4 (fun c_ => absurd c_ (fun z => by rw [bI_t d0] at z; exact absurd z (by decide))) (fun _ => ?_)
    by_cases d1 : (0 ≤ x ∧ x ≤ 99)
    · exact absurd ⟨d0, d1⟩ hb
    · refine a_il2 fF_when_7 ?_
      refine a_S1V fF_when_8 k_F_104 m_F_isNumber ⟨by decide, by decide⟩ ⟨rfl, rfl⟩ (Nat.le_of_ble_eq_true rfl) (c_isNumber) ?_
      refine a_if_ne fF_when_11 (fun c_ => absurd (by rw [bI_f d1]) c_) (fun _ => ?_)
      refine a_al0 fF_when_14 ?_
      refine a_V0V fF_when_15 k_F_89 m_F_bad ⟨by decide, by decide⟩ X.1.1 rfl ⟨rfl, rfl⟩ (Nat.le_of_ble_eq_true rfl) (c_bad X.1.1) ?_
      exact a_ri fF_when_18 rfl (⟨_, rfl, rfl, rfl, fM.r0.up (by decide), X.fl _ _ _ _ _⟩)
  · refine a_il1 fF_when_0 ?_
    refine a_S1V fF_when_1 k_F_104 m_F_isNumber ⟨by decide, by decide⟩ ⟨rfl, rfl⟩ (Nat.le_of_ble_eq_true rfl) (c_isNumber) ?_
    refine a_if_eq fF_when_4 (fun _ => ?_) (fun c_ => absurd (by rw [bI_f d0]) c_)
    refine a_al0 fF_when_14 ?_
    refine a_V0V fF_when_15 k_F_89 m_F_bad ⟨by decide, by decide⟩ X.1.1 rfl ⟨rfl, rfl⟩ (Nat.le_of_ble_eq_true rfl) (c_bad X.1.1) ?_
    exact a_ri fF_when_18 rfl (⟨_, rfl, rfl, rfl, fM.r0.up (by decide), X.fl _ _ _ _ _⟩)
theorem x_when {V9 X9 : Nat} (X : XS h n N I tn bt ab be rb rn rf) (K : okN N) (h9 : V9 < 100) (h8 : X9 < 100) : fE M_F_when E [.ref 11, .int (nI V9), .int (nI X9)] n h (qI (fun r k g => r = oI (whn (sl N 0 10) (sl N 10 10) (sgn V9 X9) 61 0 (sl N 20 10) (N 30)) ∧ k = n ∧ fM h g ∧ XS g n N I tn bt ab be rb rn rf)) := by
  have V := X.2.1.v
  have B := X.2.1.b
  have C := X.2.1.c
  have S := X.2.2.2.1
  have O := K.c
  refine fE.of (L := [some (.ref 11), some (.int (nI V9)), some (.int (nI X9))]) (by decide +kernel) (Nat.le_of_ble_eq_true rfl) rfl ?_
  refine a_il1 fF_when_0 ?_
  refine a_S1V fF_when_1 k_F_104 m_F_isNumber ⟨by decide, by decide⟩ ⟨rfl, rfl⟩ (Nat.le_of_ble_eq_true rfl) (c_isNumber) ?_
  refine a_if_eq fF_when_4 (fun c_ => absurd c_ (fun z => by rw [bI_t ⟨nI_pos' (by omega), nI_le (b := 99) (by omega) (by decide)⟩] at z; exact absurd z (by decide))) (fun _ => ?_)
  refine a_il2 fF_when_7 ?_
  refine a_S1V fF_when_8 k_F_104 m_F_isNumber ⟨by decide, by decide⟩ ⟨rfl, rfl⟩ (Nat.le_of_ble_eq_true rfl) (c_isNumber) ?_
  refine a_if_ne fF_when_11 (fun _ => ?_) (fun c_ => absurd c_ (fun z => by rw [bI_t ⟨nI_pos' (by omega), nI_le (b := 99) (by omega) (by decide)⟩] at z; exact absurd z (by decide)))
  have k7 : ∃ op dp, h 47 = kO op dp := by obtain ⟨m, f, D, W, ob, cd, op, dp, k7, _⟩ := S; exact ⟨op, dp, k7⟩
  obtain ⟨op, dp, k7⟩ := k7
  refine a_al0 fF_when_19 ?_
  refine a_gf fF_when_20 l_F_26 X.1.1 rfl ?_
  refine a_al0 fF_when_23 ?_
  refine a_gf fF_when_24 l_F_10 X.1.1 rfl ?_
  refine a_il1 fF_when_27 ?_
  refine a_il2 fF_when_28 ?_
  refine a_V3I fF_when_29 k_F_218 m_K_nightsTill ⟨by decide, by decide⟩ k7 rfl ⟨rfl, rfl⟩ (Nat.le_of_ble_eq_true rfl) (c_nightsTill V S O h9 h8) (fun r1 n1 h1 p1 => ?_)
  obtain ⟨hr, hn1, S1, F1⟩ := p1
  subst n1
  exact a_ri fF_when_32 rfl ⟨_, rfl, hr, rfl, fM.k F1, X.ofk F1 S1⟩
theorem x_most_bad {w : Int32} (X : XS h n N I tn bt ab be rb rn rf) (hb : ¬ ((0 ≤ w ∧ w ≤ 1))) : fE M_F_most E [.ref 11, .int w] n h (qI (fun r k g => r = -2 ∧ k = n ∧ fM h g ∧ XS g n N I tn bt ab be (rb + 1) rn rf)) := by
  refine fE.of (L := [some (.ref 11), some (.int w), none]) (by decide +kernel) (Nat.le_of_ble_eq_true rfl) rfl ?_
  by_cases d0 : (0 ≤ w ∧ w ≤ 1)
  · exact absurd d0 hb
  · refine a_il1 fF_most_0 ?_
    refine a_ic fF_most_1 ?_
    refine a_ic fF_most_2 ?_
    refine a_S3V fF_most_3 k_F_85 m_F_within ⟨by decide, by decide⟩ ⟨rfl, rfl⟩ (Nat.le_of_ble_eq_true rfl) (c_within) ?_
    refine a_if_ne fF_most_6 (fun c_ => absurd (by rw [bI_f d0]) c_) (fun _ => ?_)
    refine a_al0 fF_most_9 ?_
    refine a_V0V fF_most_10 k_F_89 m_F_bad ⟨by decide, by decide⟩ X.1.1 rfl ⟨rfl, rfl⟩ (Nat.le_of_ble_eq_true rfl) (c_bad X.1.1) ?_
    exact a_ri fF_most_13 rfl (⟨_, rfl, rfl, rfl, fM.r0.up (by decide), X.fl _ _ _ _ _⟩)
theorem x_most0 (X : XS h n N I tn bt ab be rb rn rf) (K : okN N) : fE M_F_most E [.ref 11, .int (nI 0)] n h (qI (fun r k g => r = nI (mosL (fun b => decide (b &&& N 44 = 0)) (gtR N) (wsR N) (2 ^ N 31 - 1) 1 0) ∧ k = n ∧ fM h g ∧ XS g n N I tn bt ab be rb rn rf)) := by
  have V := X.2.1.v
  have B := X.2.1.b
  have C := X.2.1.c
  have S := X.2.2.2.1
  have O := K.c
  refine fE.of (L := [some (.ref 11), some (.int (nI 0)), none]) (by decide +kernel) (Nat.le_of_ble_eq_true rfl) rfl ?_
  refine a_il1 fF_most_0 ?_
  refine a_ic fF_most_1 ?_
  refine a_ic fF_most_2 ?_
  refine a_S3V fF_most_3 k_F_85 m_F_within ⟨by decide, by decide⟩ ⟨rfl, rfl⟩ (Nat.le_of_ble_eq_true rfl) (c_within) ?_
  refine a_if_ne fF_most_6 (fun _ => ?_) (fun c_ => absurd c_ (fun z => by rw [bI_t ⟨nI_pos' (by omega), nI_le (b := 1) (by omega) (by decide)⟩] at z; exact absurd z (by decide)))
  have p6 := pw64 K.2.2.1.1
  have ml : mosL (fun b => decide (b &&& N 44 = 0)) (gtR N) (wsR N) (2 ^ N 31 - 1) 1 0 < 2 ^ N 31 := mosL_lt _ _ _ (by have := Nat.one_le_two_pow (n := N 31); omega) (Nat.two_pow_pos _)
  have k7 : ∃ op dp, h 47 = kO op dp := by obtain ⟨m, f, D, W, ob, cd, op, dp, k7, _⟩ := S; exact ⟨op, dp, k7⟩
  obtain ⟨op, dp, k7⟩ := k7
  refine a_al0 fF_most_14 ?_
  refine a_gf fF_most_15 l_F_26 X.1.1 rfl ?_
  refine a_al0 fF_most_18 ?_
  refine a_gf fF_most_19 l_F_10 X.1.1 rfl ?_
  refine a_V1I fF_most_22 k_F_222 m_K_dearestBills ⟨by decide, by decide⟩ k7 rfl ⟨rfl, rfl⟩ (Nat.le_of_ble_eq_true rfl) (c_dearest V B S O K.b) (fun r1 n1 h1 p1 => ?_)
  refine a_is2 fF_most_25 (by decide) rfl ?_
  obtain ⟨hr, hn1, S1, F1⟩ := p1
  subst n1
  refine a_il1 fF_most_26 ?_
  refine a_if_ne fF_most_27 (fun c_ => absurd (rfl) c_) (fun _ => ?_)
  refine a_il2 fF_most_30 ?_
  refine a_goto fF_most_31 ?_
  exact a_ri fF_most_45 rfl (⟨_, rfl, hr, rfl, fM.k F1, X.ofk F1 S1⟩)
theorem x_most1 (X : XS h n N I tn bt ab be rb rn rf) (K : okN N) : fE M_F_most E [.ref 11, .int (nI 1)] n h (qI (fun r k g => r = nI (wsR N (mosL (fun b => decide (b &&& N 44 = 0)) (gtR N) (wsR N) (2 ^ N 31 - 1) 1 0)) ∧ k = n ∧ fM h g ∧ XS g n N I tn bt ab be rb rn rf)) := by
  have V := X.2.1.v
  have B := X.2.1.b
  have C := X.2.1.c
  have S := X.2.2.2.1
  have O := K.c
  refine fE.of (L := [some (.ref 11), some (.int (nI 1)), none]) (by decide +kernel) (Nat.le_of_ble_eq_true rfl) rfl ?_
  refine a_il1 fF_most_0 ?_
  refine a_ic fF_most_1 ?_
  refine a_ic fF_most_2 ?_
  refine a_S3V fF_most_3 k_F_85 m_F_within ⟨by decide, by decide⟩ ⟨rfl, rfl⟩ (Nat.le_of_ble_eq_true rfl) (c_within) ?_
  refine a_if_ne fF_most_6 (fun _ => ?_) (fun c_ => absurd c_ (fun z => by rw [bI_t ⟨nI_pos' (by omega), nI_le (b := 1) (by omega) (by decide)⟩] at z; exact absurd z (by decide)))
  have p6 := pw64 K.2.2.1.1
  have ml : mosL (fun b => decide (b &&& N 44 = 0)) (gtR N) (wsR N) (2 ^ N 31 - 1) 1 0 < 2 ^ N 31 := mosL_lt _ _ _ (by have := Nat.one_le_two_pow (n := N 31); omega) (Nat.two_pow_pos _)
  have k7 : ∃ op dp, h 47 = kO op dp := by obtain ⟨m, f, D, W, ob, cd, op, dp, k7, _⟩ := S; exact ⟨op, dp, k7⟩
  obtain ⟨op, dp, k7⟩ := k7
  refine a_al0 fF_most_14 ?_
  refine a_gf fF_most_15 l_F_26 X.1.1 rfl ?_
  refine a_al0 fF_most_18 ?_
  refine a_gf fF_most_19 l_F_10 X.1.1 rfl ?_
  refine a_V1I fF_most_22 k_F_222 m_K_dearestBills ⟨by decide, by decide⟩ k7 rfl ⟨rfl, rfl⟩ (Nat.le_of_ble_eq_true rfl) (c_dearest V B S O K.b) (fun r1 n1 h1 p1 => ?_)
  refine a_is2 fF_most_25 (by decide) rfl ?_
  obtain ⟨hr, hn1, S1, F1⟩ := p1
  subst n1
  subst hr
  refine a_il1 fF_most_26 ?_
  refine a_if_ne fF_most_27 (fun _ => ?_) (fun c_ => absurd c_ (by decide))
  obtain ⟨b1, bn, bw, b2, b3, b4⟩ := B.fr F1
  have V1 := V.fr F1
  refine a_al0 fF_most_34 ?_
  refine a_gf fF_most_35 l_F_10 ((F1 _ (by omega)).trans X.1.1) rfl ?_
  refine a_gf fF_most_38 l_F_67 V1.1 rfl ?_
  refine a_il2 fF_most_41 ?_
  refine a_V1V fF_most_42 k_F_225 m_B_worthOf ⟨by decide, by decide⟩ b1 rfl ⟨rfl, rfl⟩ (Nat.le_of_ble_eq_true rfl) (c_worthOf (b := 17) b1 b3 (bits := mosL (fun b => decide (b &&& N 44 = 0)) (gtR N) (wsR N) (2 ^ N 31 - 1) 1 0) (by omega)) ?_
  exact a_ri fF_most_45 rfl ⟨_, rfl, by rw [wsm_cg (m := N 31) ml (fun x hx => (b4 x hx).2) 6 0], rfl, fM.k F1, X.ofk F1 S1⟩
theorem x_wanted_bad {w : Int32} (X : XS h n N I tn bt ab be rb rn rf) (hb : ¬ ((0 ≤ w ∧ w ≤ 1))) : fE M_F_wanted E [.ref 11, .int w] n h (qI (fun r k g => r = -2 ∧ k = n ∧ fM h g ∧ XS g n N I tn bt ab be (rb + 1) rn rf)) := by
  refine fE.of (L := [some (.ref 11), some (.int w), none]) (by decide +kernel) (Nat.le_of_ble_eq_true rfl) rfl ?_
  by_cases d0 : (0 ≤ w ∧ w ≤ 1)
  · exact absurd d0 hb
  · refine a_il1 fF_wanted_0 ?_
    refine a_ic fF_wanted_1 ?_
    refine a_ic fF_wanted_2 ?_
    refine a_S3V fF_wanted_3 k_F_85 m_F_within ⟨by decide, by decide⟩ ⟨rfl, rfl⟩ (Nat.le_of_ble_eq_true rfl) (c_within) ?_
    refine a_if_ne fF_wanted_6 (fun c_ => absurd (by rw [bI_f d0]) c_) (fun _ => ?_)
    refine a_al0 fF_wanted_9 ?_
    refine a_V0V fF_wanted_10 k_F_89 m_F_bad ⟨by decide, by decide⟩ X.1.1 rfl ⟨rfl, rfl⟩ (Nat.le_of_ble_eq_true rfl) (c_bad X.1.1) ?_
    exact a_ri fF_wanted_13 rfl (⟨_, rfl, rfl, rfl, fM.r0.up (by decide), X.fl _ _ _ _ _⟩)
theorem x_wanted0 (X : XS h n N I tn bt ab be rb rn rf) (K : okN N) : fE M_F_wanted E [.ref 11, .int (nI 0)] n h (qI (fun r k g => r = nI (mstL (nwt N) 10 0 0 none) ∧ k = n ∧ fM h g ∧ XS g n N I tn bt ab be rb rn rf)) := by
  have V := X.2.1.v
  have B := X.2.1.b
  have C := X.2.1.c
  have S := X.2.2.2.1
  have O := K.c
  refine fE.of (L := [some (.ref 11), some (.int (nI 0)), none]) (by decide +kernel) (Nat.le_of_ble_eq_true rfl) rfl ?_
  refine a_il1 fF_wanted_0 ?_
  refine a_ic fF_wanted_1 ?_
  refine a_ic fF_wanted_2 ?_
  refine a_S3V fF_wanted_3 k_F_85 m_F_within ⟨by decide, by decide⟩ ⟨rfl, rfl⟩ (Nat.le_of_ble_eq_true rfl) (c_within) ?_
  refine a_if_ne fF_wanted_6 (fun _ => ?_) (fun c_ => absurd c_ (fun z => by rw [bI_t ⟨nI_pos' (by omega), nI_le (b := 1) (by omega) (by decide)⟩] at z; exact absurd z (by decide)))
  have k7 : ∃ op dp, h 47 = kO op dp := by obtain ⟨m, f, D, W, ob, cd, op, dp, k7, _⟩ := S; exact ⟨op, dp, k7⟩
  obtain ⟨op, dp, k7⟩ := k7
  refine a_al0 fF_wanted_14 ?_
  refine a_gf fF_wanted_15 l_F_26 X.1.1 rfl ?_
  refine a_al0 fF_wanted_18 ?_
  refine a_gf fF_wanted_19 l_F_10 X.1.1 rfl ?_
  refine a_V1I fF_wanted_22 k_F_234 m_K_mostWanted ⟨by decide, by decide⟩ k7 rfl ⟨rfl, rfl⟩ (Nat.le_of_ble_eq_true rfl) (c_mostWanted V S O K.s) (fun r1 n1 h1 p1 => ?_)
  refine a_is2 fF_wanted_25 (by decide) rfl ?_
  obtain ⟨hr, hn1, S1, F1⟩ := p1
  subst n1
  refine a_il1 fF_wanted_26 ?_
  refine a_if_ne fF_wanted_27 (fun c_ => absurd (rfl) c_) (fun _ => ?_)
  refine a_il2 fF_wanted_30 ?_
  refine a_goto fF_wanted_31 ?_
  exact a_ri fF_wanted_46 rfl (⟨_, rfl, hr, rfl, fM.k F1, X.ofk F1 S1⟩)
theorem x_wanted1 (X : XS h n N I tn bt ab be rb rn rf) (K : okN N) : fE M_F_wanted E [.ref 11, .int (nI 1)] n h (qI (fun r k g => r = nI (nwt N (mstL (nwt N) 10 0 0 none)) ∧ k = n ∧ fM h g ∧ XS g n N I tn bt ab be rb rn rf)) := by
  have V := X.2.1.v
  have B := X.2.1.b
  have C := X.2.1.c
  have S := X.2.2.2.1
  have O := K.c
  refine fE.of (L := [some (.ref 11), some (.int (nI 1)), none]) (by decide +kernel) (Nat.le_of_ble_eq_true rfl) rfl ?_
  refine a_il1 fF_wanted_0 ?_
  refine a_ic fF_wanted_1 ?_
  refine a_ic fF_wanted_2 ?_
  refine a_S3V fF_wanted_3 k_F_85 m_F_within ⟨by decide, by decide⟩ ⟨rfl, rfl⟩ (Nat.le_of_ble_eq_true rfl) (c_within) ?_
  refine a_if_ne fF_wanted_6 (fun _ => ?_) (fun c_ => absurd c_ (fun z => by rw [bI_t ⟨nI_pos' (by omega), nI_le (b := 1) (by omega) (by decide)⟩] at z; exact absurd z (by decide)))
  have k7 : ∃ op dp, h 47 = kO op dp := by obtain ⟨m, f, D, W, ob, cd, op, dp, k7, _⟩ := S; exact ⟨op, dp, k7⟩
  obtain ⟨op, dp, k7⟩ := k7
  refine a_al0 fF_wanted_14 ?_
  refine a_gf fF_wanted_15 l_F_26 X.1.1 rfl ?_
  refine a_al0 fF_wanted_18 ?_
  refine a_gf fF_wanted_19 l_F_10 X.1.1 rfl ?_
  refine a_V1I fF_wanted_22 k_F_234 m_K_mostWanted ⟨by decide, by decide⟩ k7 rfl ⟨rfl, rfl⟩ (Nat.le_of_ble_eq_true rfl) (c_mostWanted V S O K.s) (fun r1 n1 h1 p1 => ?_)
  refine a_is2 fF_wanted_25 (by decide) rfl ?_
  obtain ⟨hr, hn1, S1, F1⟩ := p1
  subst n1
  subst hr
  refine a_il1 fF_wanted_26 ?_
  refine a_if_ne fF_wanted_27 (fun _ => ?_) (fun c_ => absurd c_ (by decide))
  have V1 := V.fr F1
  have kx : ∃ op dp, h1 47 = kO op dp := by obtain ⟨m, f, D, W, ob, cd, op, dp, k7, _⟩ := S1; exact ⟨op, dp, k7⟩
  obtain ⟨op1, dp1, k71⟩ := kx
  have ml : mstL (nwt N) 10 0 0 none < 10 := mstL_lt 10 0 0 none (by omega) (by decide)
  refine a_al0 fF_wanted_34 ?_
  refine a_gf fF_wanted_35 l_F_26 ((F1 _ (by omega)).trans X.1.1) rfl ?_
  refine a_al0 fF_wanted_38 ?_
  refine a_gf fF_wanted_39 l_F_10 ((F1 _ (by omega)).trans X.1.1) rfl ?_
  refine a_il2 fF_wanted_42 ?_
  refine a_V2I fF_wanted_43 k_F_237 m_K_numbersWith ⟨by decide, by decide⟩ k71 rfl ⟨rfl, rfl⟩ (Nat.le_of_ble_eq_true rfl) (c_numbersWith V1 S1 O ml K.s) (fun r2 n1 h2 p2 => ?_)
  obtain ⟨hr2, hn1, S2, F2⟩ := p2
  subst n1
  exact a_ri fF_wanted_46 rfl ⟨_, rfl, hr2, rfl, fM.k (F1.trans F2), X.ofk (F1.trans F2) S2⟩
theorem x_years_bad {a b : Int32} (X : XS h n N I tn bt ab be rb rn rf) (hb : ¬ ((0 ≤ a ∧ a ≤ 999999) ∧ (0 ≤ b ∧ b ≤ 60))) : fE M_F_years E [.ref 11, .int a, .int b] n h (qI (fun r k g => r = -2 ∧ k = n ∧ fM h g ∧ XS g n N I tn bt ab be (rb + 1) rn rf)) := by
  refine fE.of (L := [some (.ref 11), some (.int a), some (.int b)]) (by decide +kernel) (Nat.le_of_ble_eq_true rfl) rfl ?_
  by_cases d0 : (0 ≤ a ∧ a ≤ 999999)
  · refine a_il1 fF_years_0 ?_
    refine a_ic fF_years_1 ?_
    refine a_ic fF_years_2 ?_
    refine a_S3V fF_years_5 k_F_85 m_F_within ⟨by decide, by decide⟩ ⟨rfl, rfl⟩ (Nat.le_of_ble_eq_true rfl) (c_within) ?_
    refine a_if_eq fF_years_8 (fun c_ => absurd c_ (fun z => by rw [bI_t d0] at z; exact absurd z (by decide))) (fun _ => ?_)
    by_cases d1 : (0 ≤ b ∧ b ≤ 60)
    · exact absurd ⟨d0, d1⟩ hb
    · refine a_il2 fF_years_11 ?_
      refine a_ic fF_years_12 ?_
      refine a_ic fF_years_13 ?_
      refine a_S3V fF_years_15 k_F_85 m_F_within ⟨by decide, by decide⟩ ⟨rfl, rfl⟩ (Nat.le_of_ble_eq_true rfl) (c_within) ?_
      refine a_if_ne fF_years_18 (fun c_ => absurd (by rw [bI_f d1]) c_) (fun _ => ?_)
      refine a_al0 fF_years_21 ?_
      refine a_V0V fF_years_22 k_F_89 m_F_bad ⟨by decide, by decide⟩ X.1.1 rfl ⟨rfl, rfl⟩ (Nat.le_of_ble_eq_true rfl) (c_bad X.1.1) ?_
      exact a_ri fF_years_25 rfl (⟨_, rfl, rfl, rfl, fM.r0.up (by decide), X.fl _ _ _ _ _⟩)
  · refine a_il1 fF_years_0 ?_
    refine a_ic fF_years_1 ?_
    refine a_ic fF_years_2 ?_
    refine a_S3V fF_years_5 k_F_85 m_F_within ⟨by decide, by decide⟩ ⟨rfl, rfl⟩ (Nat.le_of_ble_eq_true rfl) (c_within) ?_
    refine a_if_eq fF_years_8 (fun _ => ?_) (fun c_ => absurd (by rw [bI_f d0]) c_)
    refine a_al0 fF_years_21 ?_
    refine a_V0V fF_years_22 k_F_89 m_F_bad ⟨by decide, by decide⟩ X.1.1 rfl ⟨rfl, rfl⟩ (Nat.le_of_ble_eq_true rfl) (c_bad X.1.1) ?_
    exact a_ri fF_years_25 rfl (⟨_, rfl, rfl, rfl, fM.r0.up (by decide), X.fl _ _ _ _ _⟩)
theorem x_years {A9 B9 : Nat} (X : XS h n N I tn bt ab be rb rn rf) (K : okN N) (h9 : A9 < 1000000) (h8 : B9 ≤ 60) : fE M_F_years E [.ref 11, .int (nI A9), .int (nI B9)] n h (qI (fun r k g => r = nI (yrs (sl N 0 10) (sl N 10 10) B9 A9 0 (sl N 20 10) (N 30)) ∧ k = n ∧ fM h g ∧ XS g n N I tn bt ab be rb rn rf)) := by
  have V := X.2.1.v
  have B := X.2.1.b
  have C := X.2.1.c
  have S := X.2.2.2.1
  have O := K.c
  refine fE.of (L := [some (.ref 11), some (.int (nI A9)), some (.int (nI B9))]) (by decide +kernel) (Nat.le_of_ble_eq_true rfl) rfl ?_
  refine a_il1 fF_years_0 ?_
  refine a_ic fF_years_1 ?_
  refine a_ic fF_years_2 ?_
  refine a_S3V fF_years_5 k_F_85 m_F_within ⟨by decide, by decide⟩ ⟨rfl, rfl⟩ (Nat.le_of_ble_eq_true rfl) (c_within) ?_
  refine a_if_eq fF_years_8 (fun c_ => absurd c_ (fun z => by rw [bI_t ⟨nI_pos' (by omega), nI_le (b := 999999) (by omega) (by decide)⟩] at z; exact absurd z (by decide))) (fun _ => ?_)
  refine a_il2 fF_years_11 ?_
  refine a_ic fF_years_12 ?_
  refine a_ic fF_years_13 ?_
  refine a_S3V fF_years_15 k_F_85 m_F_within ⟨by decide, by decide⟩ ⟨rfl, rfl⟩ (Nat.le_of_ble_eq_true rfl) (c_within) ?_
  refine a_if_ne fF_years_18 (fun _ => ?_) (fun c_ => absurd c_ (fun z => by rw [bI_t ⟨nI_pos' (by omega), nI_le (b := 60) (by omega) (by decide)⟩] at z; exact absurd z (by decide)))
  have k7 : ∃ op dp, h 47 = kO op dp := by obtain ⟨m, f, D, W, ob, cd, op, dp, k7, _⟩ := S; exact ⟨op, dp, k7⟩
  obtain ⟨op, dp, k7⟩ := k7
  refine a_al0 fF_years_26 ?_
  refine a_gf fF_years_27 l_F_26 X.1.1 rfl ?_
  refine a_al0 fF_years_30 ?_
  refine a_gf fF_years_31 l_F_10 X.1.1 rfl ?_
  refine a_il1 fF_years_34 ?_
  refine a_il2 fF_years_35 ?_
  refine a_V3I fF_years_36 k_F_289 m_K_writtenBySeed ⟨by decide, by decide⟩ k7 rfl ⟨rfl, rfl⟩ (Nat.le_of_ble_eq_true rfl) (c_seed V S O h9 h8) (fun r1 n1 h1 p1 => ?_)
  obtain ⟨hr, hn1, S1, F1⟩ := p1
  subst n1
  exact a_ri fF_years_39 rfl ⟨_, rfl, hr, rfl, fM.k F1, X.ofk F1 S1⟩
theorem x_wears_bad {f k : Int32} (X : XS h n N I tn bt ab be rb rn rf) (hb : ¬ ((0 ≤ f ∧ f ≤ 9) ∧ (0 ≤ k ∧ k ≤ 3))) : fE M_F_wears E [.ref 11, .int f, .int k] n h (qI (fun r k g => r = -2 ∧ k = n ∧ fM h g ∧ XS g n N I tn bt ab be (rb + 1) rn rf)) := by
  refine fE.of (L := [some (.ref 11), some (.int f), some (.int k)]) (by decide +kernel) (Nat.le_of_ble_eq_true rfl) rfl ?_
  by_cases d0 : (0 ≤ f ∧ f ≤ 9)
  · refine a_il1 fF_wears_0 ?_
    refine a_S1V fF_wears_1 k_F_79 m_F_isFigure ⟨by decide, by decide⟩ ⟨rfl, rfl⟩ (Nat.le_of_ble_eq_true rfl) (c_isFigure) ?_
    refine a_if_eq fF_wears_4 (fun c_ => absurd c_ (fun z => by rw [bI_t d0] at z; exact absurd z (by decide))) (fun _ => ?_)
    by_cases d1 : (0 ≤ k ∧ k ≤ 3)
    · exact absurd ⟨d0, d1⟩ hb
    · refine a_il2 fF_wears_7 ?_
      refine a_S1V fF_wears_8 k_F_201 m_F_isSign ⟨by decide, by decide⟩ ⟨rfl, rfl⟩ (Nat.le_of_ble_eq_true rfl) (c_isSign) ?_
      refine a_if_ne fF_wears_11 (fun c_ => absurd (by rw [bI_f d1]) c_) (fun _ => ?_)
      refine a_al0 fF_wears_14 ?_
      refine a_V0V fF_wears_15 k_F_89 m_F_bad ⟨by decide, by decide⟩ X.1.1 rfl ⟨rfl, rfl⟩ (Nat.le_of_ble_eq_true rfl) (c_bad X.1.1) ?_
      exact a_ri fF_wears_18 rfl (⟨_, rfl, rfl, rfl, fM.r0.up (by decide), X.fl _ _ _ _ _⟩)
  · refine a_il1 fF_wears_0 ?_
    refine a_S1V fF_wears_1 k_F_79 m_F_isFigure ⟨by decide, by decide⟩ ⟨rfl, rfl⟩ (Nat.le_of_ble_eq_true rfl) (c_isFigure) ?_
    refine a_if_eq fF_wears_4 (fun _ => ?_) (fun c_ => absurd (by rw [bI_f d0]) c_)
    refine a_al0 fF_wears_14 ?_
    refine a_V0V fF_wears_15 k_F_89 m_F_bad ⟨by decide, by decide⟩ X.1.1 rfl ⟨rfl, rfl⟩ (Nat.le_of_ble_eq_true rfl) (c_bad X.1.1) ?_
    exact a_ri fF_wears_18 rfl (⟨_, rfl, rfl, rfl, fM.r0.up (by decide), X.fl _ _ _ _ _⟩)
theorem x_wears {F9 K9 : Nat} (X : XS h n N I tn bt ab be rb rn rf) (K : okN N) (h9 : F9 < 10) (h8 : K9 ≤ 3) : fE M_F_wears E [.ref 11, .int (nI F9), .int (nI K9)] n h (qI (fun r k g => r = nI (wr (N F9) K9 (N 30)) ∧ k = n ∧ fM h g ∧ XS g n N I tn bt ab be rb rn rf)) := by
  have V := X.2.1.v
  have B := X.2.1.b
  have C := X.2.1.c
  have S := X.2.2.2.1
  have O := K.c
  refine fE.of (L := [some (.ref 11), some (.int (nI F9)), some (.int (nI K9))]) (by decide +kernel) (Nat.le_of_ble_eq_true rfl) rfl ?_
  refine a_il1 fF_wears_0 ?_
  refine a_S1V fF_wears_1 k_F_79 m_F_isFigure ⟨by decide, by decide⟩ ⟨rfl, rfl⟩ (Nat.le_of_ble_eq_true rfl) (c_isFigure) ?_
  refine a_if_eq fF_wears_4 (fun c_ => absurd c_ (fun z => by rw [bI_t ⟨nI_pos' (by omega), nI_le (b := 9) (by omega) (by decide)⟩] at z; exact absurd z (by decide))) (fun _ => ?_)
  refine a_il2 fF_wears_7 ?_
  refine a_S1V fF_wears_8 k_F_201 m_F_isSign ⟨by decide, by decide⟩ ⟨rfl, rfl⟩ (Nat.le_of_ble_eq_true rfl) (c_isSign) ?_
  refine a_if_ne fF_wears_11 (fun _ => ?_) (fun c_ => absurd c_ (fun z => by rw [bI_t ⟨nI_pos' (by omega), nI_le (b := 3) (by omega) (by decide)⟩] at z; exact absurd z (by decide)))
  refine a_al0 fF_wears_19 ?_
  refine a_gf fF_wears_20 l_F_10 X.1.1 rfl ?_
  refine a_gf fF_wears_23 l_F_93 V.1 rfl ?_
  refine a_il1 fF_wears_26 ?_
  refine a_ia fF_wears_27 V.2.1 rfl (by omega) (by decide) ?_
  refine a_il2 fF_wears_28 ?_
  refine a_al0 fF_wears_29 ?_
  refine a_gf fF_wears_30 l_F_10 X.1.1 rfl ?_
  refine a_gf fF_wears_33 l_F_132 V.1 rfl ?_
  refine a_gf fF_wears_36 l_F_172 V.2.2.2.1 rfl ?_
  refine a_S3V fF_wears_39 k_F_204 m_I_wear ⟨by decide, by decide⟩ ⟨rfl, rfl⟩ (Nat.le_of_ble_eq_true rfl) (c_wear (O.K F9 h9) (k := K9) (by omega) O.D) ?_
  exact a_ri fF_wears_42 rfl (⟨_, rfl, by rw [sl_lt h9, Nat.zero_add], rfl, fM.r0, X⟩)
theorem x_cost_bad {v x : Int32} (X : XS h n N I tn bt ab be rb rn rf) (hb : ¬ ((0 ≤ v ∧ v ≤ 99) ∧ (0 ≤ x ∧ x ≤ 99))) : fE M_F_cost E [.ref 11, .int v, .int x] n h (qI (fun r k g => r = -2 ∧ k = n ∧ fM h g ∧ XS g n N I tn bt ab be (rb + 1) rn rf)) := by
  refine fE.of (L := [some (.ref 11), some (.int v), some (.int x)]) (by decide +kernel) (Nat.le_of_ble_eq_true rfl) rfl ?_
  by_cases d0 : (0 ≤ v ∧ v ≤ 99)
  · refine a_il1 fF_cost_0 ?_
    refine a_S1V fF_cost_1 k_F_104 m_F_isNumber ⟨by decide, by decide⟩ ⟨rfl, rfl⟩ (Nat.le_of_ble_eq_true rfl) (c_isNumber) ?_
    refine a_if_eq fF_cost_4 (fun c_ => absurd c_ (fun z => by rw [bI_t d0] at z; exact absurd z (by decide))) (fun _ => ?_)
    by_cases d1 : (0 ≤ x ∧ x ≤ 99)
    · exact absurd ⟨d0, d1⟩ hb
    · refine a_il2 fF_cost_7 ?_
      refine a_S1V fF_cost_8 k_F_104 m_F_isNumber ⟨by decide, by decide⟩ ⟨rfl, rfl⟩ (Nat.le_of_ble_eq_true rfl) (c_isNumber) ?_
      refine a_if_ne fF_cost_11 (fun c_ => absurd (by rw [bI_f d1]) c_) (fun _ => ?_)
      refine a_al0 fF_cost_14 ?_
      refine a_V0V fF_cost_15 k_F_89 m_F_bad ⟨by decide, by decide⟩ X.1.1 rfl ⟨rfl, rfl⟩ (Nat.le_of_ble_eq_true rfl) (c_bad X.1.1) ?_
      exact a_ri fF_cost_18 rfl (⟨_, rfl, rfl, rfl, fM.r0.up (by decide), X.fl _ _ _ _ _⟩)
  · refine a_il1 fF_cost_0 ?_
    refine a_S1V fF_cost_1 k_F_104 m_F_isNumber ⟨by decide, by decide⟩ ⟨rfl, rfl⟩ (Nat.le_of_ble_eq_true rfl) (c_isNumber) ?_
    refine a_if_eq fF_cost_4 (fun _ => ?_) (fun c_ => absurd (by rw [bI_f d0]) c_)
    refine a_al0 fF_cost_14 ?_
    refine a_V0V fF_cost_15 k_F_89 m_F_bad ⟨by decide, by decide⟩ X.1.1 rfl ⟨rfl, rfl⟩ (Nat.le_of_ble_eq_true rfl) (c_bad X.1.1) ?_
    exact a_ri fF_cost_18 rfl (⟨_, rfl, rfl, rfl, fM.r0.up (by decide), X.fl _ _ _ _ _⟩)
theorem x_cost {V9 X9 : Nat} (X : XS h n N I tn bt ab be rb rn rf) (K : okN N) (h9 : V9 < 100) (h8 : X9 < 100) : fE M_F_cost E [.ref 11, .int (nI V9), .int (nI X9)] n h (qI (fun r k g => r = nI (cstR N V9 X9) ∧ k = n ∧ fM h g ∧ XS g n N I tn bt ab be rb rn rf)) := by
  have V := X.2.1.v
  have B := X.2.1.b
  have C := X.2.1.c
  have S := X.2.2.2.1
  have O := K.c
  refine fE.of (L := [some (.ref 11), some (.int (nI V9)), some (.int (nI X9))]) (by decide +kernel) (Nat.le_of_ble_eq_true rfl) rfl ?_
  refine a_il1 fF_cost_0 ?_
  refine a_S1V fF_cost_1 k_F_104 m_F_isNumber ⟨by decide, by decide⟩ ⟨rfl, rfl⟩ (Nat.le_of_ble_eq_true rfl) (c_isNumber) ?_
  refine a_if_eq fF_cost_4 (fun c_ => absurd c_ (fun z => by rw [bI_t ⟨nI_pos' (by omega), nI_le (b := 99) (by omega) (by decide)⟩] at z; exact absurd z (by decide))) (fun _ => ?_)
  refine a_il2 fF_cost_7 ?_
  refine a_S1V fF_cost_8 k_F_104 m_F_isNumber ⟨by decide, by decide⟩ ⟨rfl, rfl⟩ (Nat.le_of_ble_eq_true rfl) (c_isNumber) ?_
  refine a_if_ne fF_cost_11 (fun _ => ?_) (fun c_ => absurd c_ (fun z => by rw [bI_t ⟨nI_pos' (by omega), nI_le (b := 99) (by omega) (by decide)⟩] at z; exact absurd z (by decide)))
  obtain ⟨lm, lf, l1, l2⟩ := X.2.2.2.2.2.2.2.1
  refine a_al0 fF_cost_19 ?_
  refine a_gf fF_cost_20 l_F_47 X.1.1 rfl ?_
  refine a_il1 fF_cost_23 ?_
  refine a_il2 fF_cost_24 ?_
  refine a_V2Q fF_cost_25 k_F_129 m_L_tell ⟨by decide, by decide⟩ l1 rfl ⟨rfl, rfl⟩ (Nat.le_of_ble_eq_true rfl) (c_tell (l := 61) l1 l2 h9 h8) (fun n1 h1 p1 => ?_)
  obtain ⟨hn1, g2, q1, hg2⟩ := p1
  subst n1
  have Fl : ∀ a, a ≠ 61 → a ≠ 62 → h1 a = h a := by rw [hg2]; exact fun a x1 x2 => up_n x2 (up_n x1 rfl)
  have M1 : h1 61 = lO 62 (sgn V9 X9).length := by rw [hg2]; exact up_n (by decide) up_s
  have M2 : h1 62 = ia 4 g2 := by rw [hg2]; exact up_s
  clear hg2
  have X1 := X.ofl Fl M1 M2
  have V1 := X1.2.1.v
  have B1 := X1.2.1.b
  have Fm : fM h h1 := fun a x1 x2 => Fl a (by omega) (by omega)
  refine a_al0 fF_cost_28 ?_
  refine a_gf fF_cost_29 l_F_10 X1.1.1 rfl ?_
  refine a_al0 fF_cost_32 ?_
  refine a_gf fF_cost_33 l_F_47 X1.1.1 rfl ?_
  refine a_V1V fF_cost_36 k_F_149 m_H_costOf ⟨by decide, by decide⟩ V1.1 rfl ⟨rfl, rfl⟩ (Nat.le_of_ble_eq_true rfl) (c_costOf (q := 12) (l := 61) V1.1 V1.2.1 V1.2.2.2.1 M1 M2 q1 O.K O.D) ?_
  exact a_ri fF_cost_39 rfl (⟨_, rfl, rfl, rfl, Fm, X1⟩)
theorem x_can_bad {v x : Int32} (X : XS h n N I tn bt ab be rb rn rf) (hb : ¬ ((0 ≤ v ∧ v ≤ 99) ∧ (0 ≤ x ∧ x ≤ 99))) : fE M_F_can E [.ref 11, .int v, .int x] n h (qI (fun r k g => r = -2 ∧ k = n ∧ fM h g ∧ XS g n N I tn bt ab be (rb + 1) rn rf)) := by
  refine fE.of (L := [some (.ref 11), some (.int v), some (.int x)]) (by decide +kernel) (Nat.le_of_ble_eq_true rfl) rfl ?_
  by_cases d0 : (0 ≤ v ∧ v ≤ 99)
  · refine a_il1 fF_can_0 ?_
    refine a_S1V fF_can_1 k_F_104 m_F_isNumber ⟨by decide, by decide⟩ ⟨rfl, rfl⟩ (Nat.le_of_ble_eq_true rfl) (c_isNumber) ?_
    refine a_if_eq fF_can_4 (fun c_ => absurd c_ (fun z => by rw [bI_t d0] at z; exact absurd z (by decide))) (fun _ => ?_)
    by_cases d1 : (0 ≤ x ∧ x ≤ 99)
    · exact absurd ⟨d0, d1⟩ hb
    · refine a_il2 fF_can_7 ?_
      refine a_S1V fF_can_8 k_F_104 m_F_isNumber ⟨by decide, by decide⟩ ⟨rfl, rfl⟩ (Nat.le_of_ble_eq_true rfl) (c_isNumber) ?_
      refine a_if_ne fF_can_11 (fun c_ => absurd (by rw [bI_f d1]) c_) (fun _ => ?_)
      refine a_al0 fF_can_14 ?_
      refine a_V0V fF_can_15 k_F_89 m_F_bad ⟨by decide, by decide⟩ X.1.1 rfl ⟨rfl, rfl⟩ (Nat.le_of_ble_eq_true rfl) (c_bad X.1.1) ?_
      exact a_ri fF_can_18 rfl (⟨_, rfl, rfl, rfl, fM.r0.up (by decide), X.fl _ _ _ _ _⟩)
  · refine a_il1 fF_can_0 ?_
    refine a_S1V fF_can_1 k_F_104 m_F_isNumber ⟨by decide, by decide⟩ ⟨rfl, rfl⟩ (Nat.le_of_ble_eq_true rfl) (c_isNumber) ?_
    refine a_if_eq fF_can_4 (fun _ => ?_) (fun c_ => absurd (by rw [bI_f d0]) c_)
    refine a_al0 fF_can_14 ?_
    refine a_V0V fF_can_15 k_F_89 m_F_bad ⟨by decide, by decide⟩ X.1.1 rfl ⟨rfl, rfl⟩ (Nat.le_of_ble_eq_true rfl) (c_bad X.1.1) ?_
    exact a_ri fF_can_18 rfl (⟨_, rfl, rfl, rfl, fM.r0.up (by decide), X.fl _ _ _ _ _⟩)
theorem x_can {V9 X9 : Nat} (X : XS h n N I tn bt ab be rb rn rf) (K : okN N) (h9 : V9 < 100) (h8 : X9 < 100) : fE M_F_can E [.ref 11, .int (nI V9), .int (nI X9)] n h (qI (fun r k g => r = bI (canR N V9 X9) ∧ k = n ∧ fM h g ∧ XS g n N I tn bt ab be rb rn rf)) := by
  have V := X.2.1.v
  have B := X.2.1.b
  have C := X.2.1.c
  have S := X.2.2.2.1
  have O := K.c
  refine fE.of (L := [some (.ref 11), some (.int (nI V9)), some (.int (nI X9))]) (by decide +kernel) (Nat.le_of_ble_eq_true rfl) rfl ?_
  refine a_il1 fF_can_0 ?_
  refine a_S1V fF_can_1 k_F_104 m_F_isNumber ⟨by decide, by decide⟩ ⟨rfl, rfl⟩ (Nat.le_of_ble_eq_true rfl) (c_isNumber) ?_
  refine a_if_eq fF_can_4 (fun c_ => absurd c_ (fun z => by rw [bI_t ⟨nI_pos' (by omega), nI_le (b := 99) (by omega) (by decide)⟩] at z; exact absurd z (by decide))) (fun _ => ?_)
  refine a_il2 fF_can_7 ?_
  refine a_S1V fF_can_8 k_F_104 m_F_isNumber ⟨by decide, by decide⟩ ⟨rfl, rfl⟩ (Nat.le_of_ble_eq_true rfl) (c_isNumber) ?_
  refine a_if_ne fF_can_11 (fun _ => ?_) (fun c_ => absurd c_ (fun z => by rw [bI_t ⟨nI_pos' (by omega), nI_le (b := 99) (by omega) (by decide)⟩] at z; exact absurd z (by decide)))
  obtain ⟨lm, lf, l1, l2⟩ := X.2.2.2.2.2.2.2.1
  refine a_al0 fF_can_19 ?_
  refine a_gf fF_can_20 l_F_47 X.1.1 rfl ?_
  refine a_il1 fF_can_23 ?_
  refine a_il2 fF_can_24 ?_
  refine a_V2Q fF_can_25 k_F_129 m_L_tell ⟨by decide, by decide⟩ l1 rfl ⟨rfl, rfl⟩ (Nat.le_of_ble_eq_true rfl) (c_tell (l := 61) l1 l2 h9 h8) (fun n1 h1 p1 => ?_)
  obtain ⟨hn1, g2, q1, hg2⟩ := p1
  subst n1
  have Fl : ∀ a, a ≠ 61 → a ≠ 62 → h1 a = h a := by rw [hg2]; exact fun a x1 x2 => up_n x2 (up_n x1 rfl)
  have M1 : h1 61 = lO 62 (sgn V9 X9).length := by rw [hg2]; exact up_n (by decide) up_s
  have M2 : h1 62 = ia 4 g2 := by rw [hg2]; exact up_s
  clear hg2
  have X1 := X.ofl Fl M1 M2
  have V1 := X1.2.1.v
  have B1 := X1.2.1.b
  have Fm : fM h h1 := fun a x1 x2 => Fl a (by omega) (by omega)
  by_cases c9 : canR N V9 X9
  · refine a_al0 fF_can_28 ?_
    refine a_gf fF_can_29 l_F_10 X1.1.1 rfl ?_
    refine a_al0 fF_can_32 ?_
    refine a_gf fF_can_33 l_F_10 X1.1.1 rfl ?_
    refine a_gf fF_can_36 l_F_132 V1.1 rfl ?_
    refine a_al0 fF_can_39 ?_
    refine a_gf fF_can_40 l_F_47 X1.1.1 rfl ?_
    refine a_V2V fF_can_43 k_F_136 m_H_takes ⟨by decide, by decide⟩ V1.1 rfl ⟨rfl, rfl⟩ (Nat.le_of_ble_eq_true rfl) (c_takes (q := 12) (s := 15) (l := 61) V1.1 V1.2.1 V1.2.2.1 V1.2.2.2.1 V1.2.2.2.2 M1 M2 q1 O.K O.S O.W O.D (by omega) (by omega)) ?_
    refine a_if_eq fF_can_46 (fun c_ => absurd c_ (fun z => by rw [bI_t c9] at z; exact absurd z (by decide))) (fun _ => ?_)
    refine a_ic fF_can_49 ?_
    refine a_goto fF_can_50 ?_
    exact a_ri fF_can_54 rfl (⟨_, rfl, by rw [bI_t c9], rfl, Fm, X1⟩)
  · refine a_al0 fF_can_28 ?_
    refine a_gf fF_can_29 l_F_10 X1.1.1 rfl ?_
    refine a_al0 fF_can_32 ?_
    refine a_gf fF_can_33 l_F_10 X1.1.1 rfl ?_
    refine a_gf fF_can_36 l_F_132 V1.1 rfl ?_
    refine a_al0 fF_can_39 ?_
    refine a_gf fF_can_40 l_F_47 X1.1.1 rfl ?_
    refine a_V2V fF_can_43 k_F_136 m_H_takes ⟨by decide, by decide⟩ V1.1 rfl ⟨rfl, rfl⟩ (Nat.le_of_ble_eq_true rfl) (c_takes (q := 12) (s := 15) (l := 61) V1.1 V1.2.1 V1.2.2.1 V1.2.2.2.1 V1.2.2.2.2 M1 M2 q1 O.K O.S O.W O.D (by omega) (by omega)) ?_
    refine a_if_eq fF_can_46 (fun _ => ?_) (fun c_ => absurd (by rw [bI_f c9]) c_)
    refine a_ic fF_can_53 ?_
    exact a_ri fF_can_54 rfl (⟨_, rfl, by rw [bI_f c9], rfl, Fm, X1⟩)
theorem x_house (X : XS h n N I tn bt ab be rb rn rf) (K : okN N) : fE M_F_house E [.ref 11] n h (qI (fun r k g => r = nI (N 31) ∧ k = n ∧ fM h g ∧ XS g n (N0) I tn bt ab be rb rn rf)) := by
  have V := X.2.1.v
  have B := X.2.1.b
  have C := X.2.1.c
  have S := X.2.2.2.1
  have O := K.c
  refine fE.of (L := [some (.ref 11), none]) (by decide +kernel) (Nat.le_of_ble_eq_true rfl) rfl ?_
  refine a_al0 fF_house_0 ?_
  refine a_gf fF_house_1 l_F_10 X.1.1 rfl ?_
  refine a_gf fF_house_4 l_F_67 V.1 rfl ?_
  refine a_gf fF_house_7 l_F_71 B.1 rfl ?_
  refine a_is1 fF_house_10 (by decide) rfl ?_
  refine a_al0 fF_house_11 ?_
  refine a_gf fF_house_12 l_F_10 X.1.1 rfl ?_
  refine a_V0Q fF_house_15 k_F_76 m_H_begin ⟨by decide, by decide⟩ V.1 rfl ⟨rfl, rfl⟩ (Nat.le_of_ble_eq_true rfl) (c_Hbegin X.2.1) (fun n1 h1 p1 => ?_)
  obtain ⟨hn1, H1, F1⟩ := p1
  subst n1
  refine a_il1 fF_house_18 ?_
  exact a_ri fF_house_19 rfl (⟨_, rfl, rfl, rfl, fM.q F1, X.ofq F1 H1⟩)
theorem x_figure_bad {f k s : Int32} (X : XS h n N I tn bt ab be rb rn rf) (hb : ¬ ((0 ≤ f ∧ f ≤ 9) ∧ (0 ≤ k ∧ k ≤ 5) ∧ (1 ≤ s ∧ s ≤ 60))) : fE M_F_figure E [.ref 11, .int f, .int k, .int s] n h (qI (fun r k g => r = -2 ∧ k = n ∧ fM h g ∧ XS g n N I tn bt ab be (rb + 1) rn rf)) := by
  refine fE.of (L := [some (.ref 11), some (.int f), some (.int k), some (.int s), none]) (by decide +kernel) (Nat.le_of_ble_eq_true rfl) rfl ?_
  by_cases d0 : (0 ≤ f ∧ f ≤ 9)
  · refine a_il1 fF_figure_0 ?_
    refine a_S1V fF_figure_1 k_F_79 m_F_isFigure ⟨by decide, by decide⟩ ⟨rfl, rfl⟩ (Nat.le_of_ble_eq_true rfl) (c_isFigure) ?_
    refine a_if_eq fF_figure_4 (fun c_ => absurd c_ (fun z => by rw [bI_t d0] at z; exact absurd z (by decide))) (fun _ => ?_)
    by_cases d1 : (0 ≤ k ∧ k ≤ 5)
    · refine a_il2 fF_figure_7 ?_
      refine a_ic fF_figure_8 ?_
      refine a_ic fF_figure_9 ?_
      refine a_S3V fF_figure_10 k_F_85 m_F_within ⟨by decide, by decide⟩ ⟨rfl, rfl⟩ (Nat.le_of_ble_eq_true rfl) (c_within) ?_
      refine a_if_eq fF_figure_13 (fun c_ => absurd c_ (fun z => by rw [bI_t d1] at z; exact absurd z (by decide))) (fun _ => ?_)
      by_cases d2 : (1 ≤ s ∧ s ≤ 60)
      · exact absurd ⟨d0, d1, d2⟩ hb
      · refine a_il3 fF_figure_16 ?_
        refine a_ic fF_figure_17 ?_
        refine a_ic fF_figure_18 ?_
        refine a_S3V fF_figure_20 k_F_85 m_F_within ⟨by decide, by decide⟩ ⟨rfl, rfl⟩ (Nat.le_of_ble_eq_true rfl) (c_within) ?_
        refine a_if_ne fF_figure_23 (fun c_ => absurd (by rw [bI_f d2]) c_) (fun _ => ?_)
        refine a_al0 fF_figure_26 ?_
        refine a_V0V fF_figure_27 k_F_89 m_F_bad ⟨by decide, by decide⟩ X.1.1 rfl ⟨rfl, rfl⟩ (Nat.le_of_ble_eq_true rfl) (c_bad X.1.1) ?_
        exact a_ri fF_figure_30 rfl (⟨_, rfl, rfl, rfl, fM.r0.up (by decide), X.fl _ _ _ _ _⟩)
    · refine a_il2 fF_figure_7 ?_
      refine a_ic fF_figure_8 ?_
      refine a_ic fF_figure_9 ?_
      refine a_S3V fF_figure_10 k_F_85 m_F_within ⟨by decide, by decide⟩ ⟨rfl, rfl⟩ (Nat.le_of_ble_eq_true rfl) (c_within) ?_
      refine a_if_eq fF_figure_13 (fun _ => ?_) (fun c_ => absurd (by rw [bI_f d1]) c_)
      refine a_al0 fF_figure_26 ?_
      refine a_V0V fF_figure_27 k_F_89 m_F_bad ⟨by decide, by decide⟩ X.1.1 rfl ⟨rfl, rfl⟩ (Nat.le_of_ble_eq_true rfl) (c_bad X.1.1) ?_
      exact a_ri fF_figure_30 rfl (⟨_, rfl, rfl, rfl, fM.r0.up (by decide), X.fl _ _ _ _ _⟩)
  · refine a_il1 fF_figure_0 ?_
    refine a_S1V fF_figure_1 k_F_79 m_F_isFigure ⟨by decide, by decide⟩ ⟨rfl, rfl⟩ (Nat.le_of_ble_eq_true rfl) (c_isFigure) ?_
    refine a_if_eq fF_figure_4 (fun _ => ?_) (fun c_ => absurd (by rw [bI_f d0]) c_)
    refine a_al0 fF_figure_26 ?_
    refine a_V0V fF_figure_27 k_F_89 m_F_bad ⟨by decide, by decide⟩ X.1.1 rfl ⟨rfl, rfl⟩ (Nat.le_of_ble_eq_true rfl) (c_bad X.1.1) ?_
    exact a_ri fF_figure_30 rfl (⟨_, rfl, rfl, rfl, fM.r0.up (by decide), X.fl _ _ _ _ _⟩)
theorem x_figure {F9 K9 S9 : Nat} (X : XS h n N I tn bt ab be rb rn rf) (K : okN N) (h9 : F9 < 10) (h8 : K9 ≤ 5) (h7 : 1 ≤ S9 ∧ S9 ≤ 60) : fE M_F_figure E [.ref 11, .int (nI F9), .int (nI K9), .int (nI S9)] n h (qI (fun r k g => r = nI (100 * N F9 + N (10 + F9)) ∧ k = n ∧ fM h g ∧ XS g n (tfN N F9 K9 S9) I tn bt ab be rb rn rf)) := by
  have V := X.2.1.v
  have B := X.2.1.b
  have C := X.2.1.c
  have S := X.2.2.2.1
  have O := K.c
  refine fE.of (L := [some (.ref 11), some (.int (nI F9)), some (.int (nI K9)), some (.int (nI S9)), none]) (by decide +kernel) (Nat.le_of_ble_eq_true rfl) rfl ?_
  refine a_il1 fF_figure_0 ?_
  refine a_S1V fF_figure_1 k_F_79 m_F_isFigure ⟨by decide, by decide⟩ ⟨rfl, rfl⟩ (Nat.le_of_ble_eq_true rfl) (c_isFigure) ?_
  refine a_if_eq fF_figure_4 (fun c_ => absurd c_ (fun z => by rw [bI_t ⟨nI_pos' (by omega), nI_le (b := 9) (by omega) (by decide)⟩] at z; exact absurd z (by decide))) (fun _ => ?_)
  refine a_il2 fF_figure_7 ?_
  refine a_ic fF_figure_8 ?_
  refine a_ic fF_figure_9 ?_
  refine a_S3V fF_figure_10 k_F_85 m_F_within ⟨by decide, by decide⟩ ⟨rfl, rfl⟩ (Nat.le_of_ble_eq_true rfl) (c_within) ?_
  refine a_if_eq fF_figure_13 (fun c_ => absurd c_ (fun z => by rw [bI_t ⟨nI_pos' (by omega), nI_le (b := 5) (by omega) (by decide)⟩] at z; exact absurd z (by decide))) (fun _ => ?_)
  refine a_il3 fF_figure_16 ?_
  refine a_ic fF_figure_17 ?_
  refine a_ic fF_figure_18 ?_
  refine a_S3V fF_figure_20 k_F_85 m_F_within ⟨by decide, by decide⟩ ⟨rfl, rfl⟩ (Nat.le_of_ble_eq_true rfl) (c_within) ?_
  refine a_if_ne fF_figure_23 (fun _ => ?_) (fun c_ => absurd c_ (fun z => by rw [bI_t ⟨nI_le (a := 1) (by omega) (by omega), nI_le (b := 60) (by omega) (by decide)⟩] at z; exact absurd z (by decide)))
  refine a_ic fF_figure_31 ?_
  refine a_al0 fF_figure_33 ?_
  refine a_gf fF_figure_34 l_F_10 X.1.1 rfl ?_
  refine a_gf fF_figure_37 l_F_93 V.1 rfl ?_
  refine a_il1 fF_figure_40 ?_
  refine a_ia fF_figure_41 V.2.1 rfl (by omega) (by decide) ?_
  refine a_imul fF_figure_42 ?_
  refine a_al0 fF_figure_43 ?_
  refine a_gf fF_figure_44 l_F_10 X.1.1 rfl ?_
  refine a_gf fF_figure_47 l_F_97 V.1 rfl ?_
  refine a_il1 fF_figure_50 ?_
  refine a_ia fF_figure_51 V.2.2.1 rfl (by omega) (by decide) ?_
  refine a_iadd fF_figure_52 ?_
  rw [show (100 : Int32) * nF (sl N 0 10) F9 + nF (sl N 10 10) F9 = nI (100 * N F9 + N (10 + F9)) by rw [show nF (sl N 0 10) F9 = nI (N F9) from congrArg nI (by rw [sl_lt h9, Nat.zero_add]), show nF (sl N 10 10) F9 = nI (N (10 + F9)) from congrArg nI (sl_lt h9), show (100 : Int32) * nI (N F9) = nI (100 * N F9) from pk_mul 100 _, nI_add]]
  refine a_is4 fF_figure_53 (by decide) rfl ?_
  refine a_al0 fF_figure_55 ?_
  refine a_gf fF_figure_56 l_F_10 X.1.1 rfl ?_
  refine a_il1 fF_figure_59 ?_
  refine a_il2 fF_figure_60 ?_
  refine a_il3 fF_figure_61 ?_
  refine a_V3Q fF_figure_62 k_F_100 m_H_tellFigure ⟨by decide, by decide⟩ V.1 rfl ⟨rfl, rfl⟩ (Nat.le_of_ble_eq_true rfl) (c_tellFigure X.2.1 K.2.2.1 h9) (fun n1 h1 p1 => ?_)
  obtain ⟨hn1, H1, F1⟩ := p1
  subst n1
  refine a_il4 fF_figure_65 ?_
  exact a_ri fF_figure_67 rfl (⟨_, rfl, rfl, rfl, fM.q F1, X.ofq F1 H1⟩)
theorem x_bill_bad {v w : Int32} (X : XS h n N I tn bt ab be rb rn rf) (hb : ¬ ((0 ≤ v ∧ v ≤ 99) ∧ (0 ≤ w ∧ w ≤ 99))) : fE M_F_bill E [.ref 11, .int v, .int w] n h (qI (fun r k g => r = -2 ∧ k = n ∧ fM h g ∧ XS g n N I tn bt ab be (rb + 1) rn rf)) := by
  refine fE.of (L := [some (.ref 11), some (.int v), some (.int w)]) (by decide +kernel) (Nat.le_of_ble_eq_true rfl) rfl ?_
  by_cases d0 : (0 ≤ v ∧ v ≤ 99)
  · refine a_il1 fF_bill_0 ?_
    refine a_S1V fF_bill_1 k_F_104 m_F_isNumber ⟨by decide, by decide⟩ ⟨rfl, rfl⟩ (Nat.le_of_ble_eq_true rfl) (c_isNumber) ?_
    refine a_if_eq fF_bill_4 (fun c_ => absurd c_ (fun z => by rw [bI_t d0] at z; exact absurd z (by decide))) (fun _ => ?_)
    by_cases d1 : (0 ≤ w ∧ w ≤ 99)
    · exact absurd ⟨d0, d1⟩ hb
    · refine a_il2 fF_bill_7 ?_
      refine a_ic fF_bill_8 ?_
      refine a_ic fF_bill_9 ?_
      refine a_S3V fF_bill_11 k_F_85 m_F_within ⟨by decide, by decide⟩ ⟨rfl, rfl⟩ (Nat.le_of_ble_eq_true rfl) (c_within) ?_
      refine a_if_ne fF_bill_14 (fun c_ => absurd (by rw [bI_f d1]) c_) (fun _ => ?_)
      refine a_al0 fF_bill_17 ?_
      refine a_V0V fF_bill_18 k_F_89 m_F_bad ⟨by decide, by decide⟩ X.1.1 rfl ⟨rfl, rfl⟩ (Nat.le_of_ble_eq_true rfl) (c_bad X.1.1) ?_
      exact a_ri fF_bill_21 rfl (⟨_, rfl, rfl, rfl, fM.r0.up (by decide), X.fl _ _ _ _ _⟩)
  · refine a_il1 fF_bill_0 ?_
    refine a_S1V fF_bill_1 k_F_104 m_F_isNumber ⟨by decide, by decide⟩ ⟨rfl, rfl⟩ (Nat.le_of_ble_eq_true rfl) (c_isNumber) ?_
    refine a_if_eq fF_bill_4 (fun _ => ?_) (fun c_ => absurd (by rw [bI_f d0]) c_)
    refine a_al0 fF_bill_17 ?_
    refine a_V0V fF_bill_18 k_F_89 m_F_bad ⟨by decide, by decide⟩ X.1.1 rfl ⟨rfl, rfl⟩ (Nat.le_of_ble_eq_true rfl) (c_bad X.1.1) ?_
    exact a_ri fF_bill_21 rfl (⟨_, rfl, rfl, rfl, fM.r0.up (by decide), X.fl _ _ _ _ _⟩)
theorem x_bill_full {V9 W9 : Nat} (X : XS h n N I tn bt ab be rb rn rf) (K : okN N) (h9 : V9 < 100) (h8 : W9 < 100) (h7 : N 31 = 6) : fE M_F_bill E [.ref 11, .int (nI V9), .int (nI W9)] n h (qI (fun r k g => r = -4 ∧ k = n ∧ fM h g ∧ XS g n N I tn bt ab be rb rn (rf + 1))) := by
  have V := X.2.1.v
  have B := X.2.1.b
  have C := X.2.1.c
  have S := X.2.2.2.1
  have O := K.c
  refine fE.of (L := [some (.ref 11), some (.int (nI V9)), some (.int (nI W9))]) (by decide +kernel) (Nat.le_of_ble_eq_true rfl) rfl ?_
  refine a_il1 fF_bill_0 ?_
  refine a_S1V fF_bill_1 k_F_104 m_F_isNumber ⟨by decide, by decide⟩ ⟨rfl, rfl⟩ (Nat.le_of_ble_eq_true rfl) (c_isNumber) ?_
  refine a_if_eq fF_bill_4 (fun c_ => absurd c_ (fun z => by rw [bI_t ⟨nI_pos' (by omega), nI_le (b := 99) (by omega) (by decide)⟩] at z; exact absurd z (by decide))) (fun _ => ?_)
  refine a_il2 fF_bill_7 ?_
  refine a_ic fF_bill_8 ?_
  refine a_ic fF_bill_9 ?_
  refine a_S3V fF_bill_11 k_F_85 m_F_within ⟨by decide, by decide⟩ ⟨rfl, rfl⟩ (Nat.le_of_ble_eq_true rfl) (c_within) ?_
  refine a_if_ne fF_bill_14 (fun _ => ?_) (fun c_ => absurd c_ (fun z => by rw [bI_t ⟨nI_pos' (by omega), nI_le (b := 99) (by omega) (by decide)⟩] at z; exact absurd z (by decide)))
  refine a_al0 fF_bill_22 ?_
  refine a_gf fF_bill_23 l_F_10 X.1.1 rfl ?_
  refine a_gf fF_bill_26 l_F_67 V.1 rfl ?_
  refine a_gf fF_bill_29 l_F_71 B.1 rfl ?_
  refine a_ic fF_bill_32 ?_
  refine a_ic_lt fF_bill_34 (fun c_ => absurd c_ (fun z => by rw [h7] at z; exact absurd z (by decide))) (fun _ => ?_)
  refine a_al0 fF_bill_37 ?_
  refine a_V0V fF_bill_38 k_F_107 m_F_full ⟨by decide, by decide⟩ X.1.1 rfl ⟨rfl, rfl⟩ (Nat.le_of_ble_eq_true rfl) (c_full X.1.1) ?_
  exact a_ri fF_bill_41 rfl (⟨_, rfl, rfl, rfl, fM.r0.up (by decide), X.fl _ _ _ _ _⟩)
theorem x_bill {V9 W9 : Nat} (X : XS h n N I tn bt ab be rb rn rf) (K : okN N) (h9 : V9 < 100) (h8 : W9 < 100) (h7 : N 31 < 6) : fE M_F_bill E [.ref 11, .int (nI V9), .int (nI W9)] n h (qI (fun r k g => r = nI (N 31) ∧ k = n ∧ fM h g ∧ XS g n (tbN N V9 W9) I tn bt ab be rb rn rf)) := by
  have V := X.2.1.v
  have B := X.2.1.b
  have C := X.2.1.c
  have S := X.2.2.2.1
  have O := K.c
  refine fE.of (L := [some (.ref 11), some (.int (nI V9)), some (.int (nI W9))]) (by decide +kernel) (Nat.le_of_ble_eq_true rfl) rfl ?_
  refine a_il1 fF_bill_0 ?_
  refine a_S1V fF_bill_1 k_F_104 m_F_isNumber ⟨by decide, by decide⟩ ⟨rfl, rfl⟩ (Nat.le_of_ble_eq_true rfl) (c_isNumber) ?_
  refine a_if_eq fF_bill_4 (fun c_ => absurd c_ (fun z => by rw [bI_t ⟨nI_pos' (by omega), nI_le (b := 99) (by omega) (by decide)⟩] at z; exact absurd z (by decide))) (fun _ => ?_)
  refine a_il2 fF_bill_7 ?_
  refine a_ic fF_bill_8 ?_
  refine a_ic fF_bill_9 ?_
  refine a_S3V fF_bill_11 k_F_85 m_F_within ⟨by decide, by decide⟩ ⟨rfl, rfl⟩ (Nat.le_of_ble_eq_true rfl) (c_within) ?_
  refine a_if_ne fF_bill_14 (fun _ => ?_) (fun c_ => absurd c_ (fun z => by rw [bI_t ⟨nI_pos' (by omega), nI_le (b := 99) (by omega) (by decide)⟩] at z; exact absurd z (by decide)))
  refine a_al0 fF_bill_22 ?_
  refine a_gf fF_bill_23 l_F_10 X.1.1 rfl ?_
  refine a_gf fF_bill_26 l_F_67 V.1 rfl ?_
  refine a_gf fF_bill_29 l_F_71 B.1 rfl ?_
  refine a_ic fF_bill_32 ?_
  refine a_ic_lt fF_bill_34 (fun _ => ?_) (fun c_ => absurd (nI_lt (b := 6) h7 (by decide)) c_)
  refine a_al0 fF_bill_42 ?_
  refine a_gf fF_bill_43 l_F_10 X.1.1 rfl ?_
  refine a_il1 fF_bill_46 ?_
  refine a_il2 fF_bill_47 ?_
  refine a_V2Q fF_bill_48 k_F_110 m_H_tellBill ⟨by decide, by decide⟩ V.1 rfl ⟨rfl, rfl⟩ (Nat.le_of_ble_eq_true rfl) (c_tellBill X.2.1 K.2.2.1 h7) (fun n1 h1 p1 => ?_)
  obtain ⟨hn1, H1, F1⟩ := p1
  subst n1
  have X1 := X.ofq F1 H1
  refine a_al0 fF_bill_51 ?_
  refine a_gf fF_bill_52 l_F_10 X1.1.1 rfl ?_
  refine a_gf fF_bill_55 l_F_67 X1.2.1.v.1 rfl ?_
  refine a_gf fF_bill_58 l_F_71 X1.2.1.b.1 rfl ?_
  refine a_ic fF_bill_61 ?_
  refine a_isub fF_bill_62 ?_
  have e31 : tbN N V9 W9 31 = N 31 + 1 := by unfold tbN; rw [vn (by omega)]; exact up_s
  exact a_ri fF_bill_63 rfl ⟨_, rfl, by rw [e31, show nI (N 31 + 1) - 1 = nI (N 31) from nI_pred _], rfl, fM.q F1, X1⟩
end PU
