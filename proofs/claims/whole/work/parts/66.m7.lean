section M7
variable {E : eT} {n : Nat} {h : hT} {c : mT} {th mn : Int32} {N : Nat → Nat}
theorem c_MisTraced {m : Nat} (M : mM c h) (m1 : h 64 = nA 189 N) (O : okC N) (OT : okT N) (hm : m < 10000) : fE M_M_isTraced E [.ref 63, .int (nI (m / 100)), .int (nI (m % 100))] n h (qI (fun r k g => r = bI (ftP N m) ∧ k = n ∧ mM c g ∧ mL h g)) := by
  have hv : m / 100 < 100 := by omega
  have hx : m % 100 < 100 := by omega
  have t6 := OT.1.1
  obtain ⟨⟨th, mn, m0⟩, f0, m8⟩ := M
  refine fE.of (L := [some (.ref 63), some (.int (nI (m / 100))), some (.int (nI (m % 100))), none, none]) (by decide +kernel) (Nat.le_of_ble_eq_true rfl) rfl ?_
  refine a_al0 fM_isTraced_0 ?_
  refine a_il1 fM_isTraced_1 ?_
  refine a_il2 fM_isTraced_2 ?_
  refine a_V2Q fM_isTraced_3 k_M_62 m_M_line ⟨by decide, by decide⟩ m0 rfl ⟨rfl, rfl⟩ (Nat.le_of_ble_eq_true rfl) (c_Mline m0 m8 hv hx) (fun n1 h1 p1 => ?_)
  obtain ⟨hn1, g2, q1, hg2⟩ := p1
  subst n1
  have M0 : h1 63 = mO c th (nI (sgn (m / 100) (m % 100)).length) := by rw [hg2]; exact up_n (by decide) up_s
  have M8 : h1 71 = ia 4 g2 := by rw [hg2]; exact up_s
  have F1 : mL h h1 := by rw [hg2]; exact fun a x1 x2 => up_n x2 (up_n x1 rfl)
  clear hg2
  have M1 : h1 64 = nA 189 N := (F1 64 (by decide) (by decide)).trans m1
  have loop : ∀ (j i : Nat) (q : Bool), i + j = N 46 → ((q = true ∧ ∀ y, i ≤ y → y < N 46 → smF (sl N 0 10) (N 30) (N (47 + y)) 0 (sgn (m / 100) (m % 100)) = N (53 + y)) ↔ ftP N m) → fA M_M_isTraced E (fZ M_M_isTraced E (qI (fun r k g => r = bI (ftP N m) ∧ k = n ∧ mM c g ∧ mL h g))) n h1 0 0 11 [some (.ref 63), some (.int (nI (m / 100))), some (.int (nI (m % 100))), some (.int (bI (q = true))), some (.int (nI i))] [] := by
    intro j
    induction j with
    | zero =>
      intro i q hi he
      refine a_il4 fM_isTraced_11 ?_
      refine a_al0 fM_isTraced_13 ?_
      refine a_gf fM_isTraced_14 l_M_7 M0 rfl ?_
      refine a_ic fM_isTraced_17 ?_
      refine a_ia fM_isTraced_19 M1 (show (46 : Int32) = nI 46 from rfl) (by decide) (by decide) ?_
      refine a_ic_ge fM_isTraced_20 (fun _ => ?_) (fun c_ => absurd (nI_le (show N 46 ≤ i by omega) (by omega)) c_)
      refine a_il3 fM_isTraced_66 ?_
      exact a_rz fM_isTraced_67 rfl (bI_n _) ⟨_, rfl, bI_cg ⟨fun z => he.mp ⟨z, fun b h1 h2 => by omega⟩, fun z => (he.mpr z).1⟩, rfl, ⟨⟨_, _, M0⟩, _, M8⟩, F1⟩
    | succ j ih =>
      intro i q hi he
      have bt := OT.1.2 i (by omega)
      have b6 : smF (sl N 0 10) (N 30) (N (47 + i)) 0 (sgn (m / 100) (m % 100)) ≤ 24 := Nat.le_trans (smF_le _ 0 (by have := q1.1; omega)) (by have := q1.1; omega)
      refine a_il4 fM_isTraced_11 ?_
      refine a_al0 fM_isTraced_13 ?_
      refine a_gf fM_isTraced_14 l_M_7 M0 rfl ?_
      refine a_ic fM_isTraced_17 ?_
      refine a_ia fM_isTraced_19 M1 (show (46 : Int32) = nI 46 from rfl) (by decide) (by decide) ?_
      refine a_ic_ge fM_isTraced_20 (fun c_ => absurd c_ (nI_ge (show i < N 46 by omega) (by omega))) (fun _ => ?_)
      have nx : ∀ (q2 : Bool), ((q2 = true ∧ ∀ y, i + 1 ≤ y → y < N 46 → smF (sl N 0 10) (N 30) (N (47 + y)) 0 (sgn (m / 100) (m % 100)) = N (53 + y)) ↔ ftP N m) → fA M_M_isTraced E (fZ M_M_isTraced E (qI (fun r k g => r = bI (ftP N m) ∧ k = n ∧ mM c g ∧ mL h g))) n h1 0 0 59 [some (.ref 63), some (.int (nI (m / 100))), some (.int (nI (m % 100))), some (.int (bI (q = true))), some (.int (nI i))] [.int (bI (q2 = true))] := by
        intro q2 hq2
        refine a_is3 fM_isTraced_59 (by decide) rfl ?_
        refine a_inc4 fM_isTraced_60 (by decide) rfl ?_
        refine a_goto fM_isTraced_63 ?_
        rw [nI_1]
        exact ih (i + 1) q2 (by omega) hq2
      by_cases cq : q = true
      · refine a_il3 fM_isTraced_23 ?_
        refine a_if_eq fM_isTraced_24 (fun c_ => absurd c_ (fun z => by rw [bI_t cq] at z; exact absurd z (by decide))) (fun _ => ?_)
        refine a_al0 fM_isTraced_27 ?_
        refine a_al0 fM_isTraced_28 ?_
        refine a_gf fM_isTraced_29 l_M_7 M0 rfl ?_
        refine a_ic fM_isTraced_32 ?_
        refine a_il4 fM_isTraced_34 ?_
        refine a_iadd fM_isTraced_36 ?_
        refine a_ia fM_isTraced_37 M1 (nI_add 47 _) (by omega) (by decide) ?_
        refine a_V1V fM_isTraced_38 k_M_200 m_M_wornBy ⟨by decide, by decide⟩ M0 rfl ⟨rfl, rfl⟩ (Nat.le_of_ble_eq_true rfl) (c_MwornBy (F := N (47 + i)) M0 M8 q1 M1 O bt.1) ?_
        refine a_al0 fM_isTraced_41 ?_
        refine a_gf fM_isTraced_42 l_M_7 M0 rfl ?_
        refine a_ic fM_isTraced_45 ?_
        refine a_il4 fM_isTraced_47 ?_
        refine a_iadd fM_isTraced_49 ?_
        refine a_ia fM_isTraced_50 M1 (nI_add 53 _) (by omega) (by decide) ?_
        by_cases cP : smF (sl N 0 10) (N 30) (N (47 + i)) 0 (sgn (m / 100) (m % 100)) = N (53 + i)
        · refine a_ic_ne fM_isTraced_51 (fun c_ => absurd (congrArg nI cP) c_) (fun _ => ?_)
          refine a_ic fM_isTraced_54 ?_
          refine a_goto fM_isTraced_55 ?_
          refine nx true (Iff.trans ⟨fun z => ⟨cq, fun b h1 h2 => ?_⟩, fun z => ⟨rfl, fun b h1 h2 => z.2 b (by omega) h2⟩⟩ he)
          by_cases qb : b = i
          · subst qb; exact cP
          · exact z.2 b (by omega) h2
        · refine a_ic_ne fM_isTraced_51 (fun _ => ?_) (fun c_ => absurd c_ (fun z => cP ((nI_eq (by omega) (by omega)).mp z)))
          refine a_ic fM_isTraced_58 ?_
          exact nx false (Iff.trans ⟨fun z => (by cases z.1), fun z => absurd (z.2 i (Nat.le_refl _) (by omega)) cP⟩ he)
      · refine a_il3 fM_isTraced_23 ?_
        refine a_if_eq fM_isTraced_24 (fun _ => ?_) (fun c_ => absurd (by rw [bI_f cq]) c_)
        refine a_ic fM_isTraced_58 ?_
        exact nx false (Iff.trans ⟨fun z => (by cases z.1), fun z => absurd z.1 cq⟩ he)
  refine a_ic fM_isTraced_6 ?_
  refine a_is3 fM_isTraced_7 (by decide) rfl ?_
  refine a_ic fM_isTraced_8 ?_
  refine a_is4 fM_isTraced_9 (by decide) rfl ?_
  exact loop (N 46) 0 true (by omega) ⟨fun z b h1 => z.2 b (Nat.zero_le _) h1, fun z => ⟨rfl, fun b _ h1 => z b h1⟩⟩
abbrev kdR (N : Nat → Nat) (F : Nat) : Nat := kbs (fun kd => decide (mbe (fun i => N (60 + i)) (fun i => N (66 + i)) (fun i => N (72 + i)) (fun i => N (78 + i)) (N 59) F kd)) 6 0 0
theorem c_MkindsOf {F : Nat} (m0 : h 63 = mO c th mn) (m1 : h 64 = nA 189 N) (OT : okT N) (hF : F < 10) : fE M_M_kindsOf E [.ref 63, .int (nI F)] n h (eV (.int (nI (kdR N F))) n h) := by
  have n6 := OT.2.1
  have inner : ∀ (kd s : Nat), kd ≤ 5 → (∀ q2 : Bool, (q2 = true ↔ mbe (fun i => N (60 + i)) (fun i => N (66 + i)) (fun i => N (72 + i)) (fun i => N (78 + i)) (N 59) F kd) → fA M_M_kindsOf E (fZ M_M_kindsOf E (eV (.int (nI (kdR N F))) n h)) n h 0 0 97 [some (.ref 63), some (.int (nI F)), some (.int (nI s)), some (.int (nI kd)), some (.int (bI (q2 = true))), some (.int (nI (N 59)))] []) → ∀ (j i : Nat) (q : Bool), i + j = N 59 → ((q = true ∧ ∀ y, i ≤ y → y < N 59 → N (60 + y) = F → wr kd (N (66 + y)) (N (72 + y)) = N (78 + y)) ↔ mbe (fun i => N (60 + i)) (fun i => N (66 + i)) (fun i => N (72 + i)) (fun i => N (78 + i)) (N 59) F kd) → fA M_M_kindsOf E (fZ M_M_kindsOf E (eV (.int (nI (kdR N F))) n h)) n h 0 0 16 [some (.ref 63), some (.int (nI F)), some (.int (nI s)), some (.int (nI kd)), some (.int (bI (q = true))), some (.int (nI i))] [] := by
    intro kd s hkd kk j
    induction j with
    | zero =>
      intro i q hi he
      obtain rfl : i = N 59 := by omega
      refine a_il5 fM_kindsOf_16 ?_
      refine a_al0 fM_kindsOf_18 ?_
      refine a_gf fM_kindsOf_19 l_M_7 m0 rfl ?_
      refine a_ic fM_kindsOf_22 ?_
      refine a_ia fM_kindsOf_24 m1 (show (59 : Int32) = nI 59 from rfl) (by decide) (by decide) ?_
      refine a_ic_ge fM_kindsOf_25 (fun _ => ?_) (fun c_ => absurd (Int32.le_refl _) c_)
      exact kk q ⟨fun z => he.mp ⟨z, fun b h1 h2 => by omega⟩, fun z => (he.mpr z).1⟩
    | succ j ih =>
      intro i q hi he
      have bt := OT.2.2 i (by omega)
      refine a_il5 fM_kindsOf_16 ?_
      refine a_al0 fM_kindsOf_18 ?_
      refine a_gf fM_kindsOf_19 l_M_7 m0 rfl ?_
      refine a_ic fM_kindsOf_22 ?_
      refine a_ia fM_kindsOf_24 m1 (show (59 : Int32) = nI 59 from rfl) (by decide) (by decide) ?_
      refine a_ic_ge fM_kindsOf_25 (fun c_ => absurd c_ (nI_ge (show i < N 59 by omega) (by omega))) (fun _ => ?_)
      have nx : ∀ (q2 : Bool), ((q2 = true ∧ ∀ y, i + 1 ≤ y → y < N 59 → N (60 + y) = F → wr kd (N (66 + y)) (N (72 + y)) = N (78 + y)) ↔ mbe (fun i => N (60 + i)) (fun i => N (66 + i)) (fun i => N (72 + i)) (fun i => N (78 + i)) (N 59) F kd) → fA M_M_kindsOf E (fZ M_M_kindsOf E (eV (.int (nI (kdR N F))) n h)) n h 0 0 89 [some (.ref 63), some (.int (nI F)), some (.int (nI s)), some (.int (nI kd)), some (.int (bI (q = true))), some (.int (nI i))] [.int (bI (q2 = true))] := by
        intro q2 hq2
        refine a_is4 fM_kindsOf_89 (by decide) rfl ?_
        refine a_inc5 fM_kindsOf_91 (by decide) rfl ?_
        refine a_goto fM_kindsOf_94 ?_
        rw [nI_1]
        exact ih (i + 1) q2 (by omega) hq2
      by_cases cq : q = true
      · refine a_il4 fM_kindsOf_28 ?_
        refine a_if_eq fM_kindsOf_30 (fun c_ => absurd c_ (fun z => by rw [bI_t cq] at z; exact absurd z (by decide))) (fun _ => ?_)
        by_cases cF : N (60 + i) = F
        · refine a_al0 fM_kindsOf_33 ?_
          refine a_gf fM_kindsOf_34 l_M_7 m0 rfl ?_
          refine a_ic fM_kindsOf_37 ?_
          refine a_il5 fM_kindsOf_39 ?_
          refine a_iadd fM_kindsOf_41 ?_
          refine a_ia fM_kindsOf_42 m1 (nI_add 60 _) (by omega) (by decide) ?_
          refine a_il1 fM_kindsOf_43 ?_
          refine a_ic_ne fM_kindsOf_44 (fun c_ => absurd (congrArg nI cF) c_) (fun _ => ?_)
          have b6 : wr kd (N (66 + i)) (N (72 + i)) ≤ 6 := wr_le bt.2.1
          refine a_il3 fM_kindsOf_47 ?_
          refine a_al0 fM_kindsOf_48 ?_
          refine a_gf fM_kindsOf_49 l_M_7 m0 rfl ?_
          refine a_ic fM_kindsOf_52 ?_
          refine a_il5 fM_kindsOf_54 ?_
          refine a_iadd fM_kindsOf_56 ?_
          refine a_ia fM_kindsOf_57 m1 (nI_add 66 _) (by omega) (by decide) ?_
          refine a_al0 fM_kindsOf_58 ?_
          refine a_gf fM_kindsOf_59 l_M_7 m0 rfl ?_
          refine a_ic fM_kindsOf_62 ?_
          refine a_il5 fM_kindsOf_64 ?_
          refine a_iadd fM_kindsOf_66 ?_
          refine a_ia fM_kindsOf_67 m1 (nI_add 72 _) (by omega) (by decide) ?_
          refine a_S3V fM_kindsOf_68 k_M_58 m_M_wearOf ⟨by decide, by decide⟩ ⟨rfl, rfl⟩ (Nat.le_of_ble_eq_true rfl) (c_MwearOf (K := kd) (k := N (66 + i)) (D := N (72 + i)) hkd (by omega) (by omega)) ?_
          refine a_al0 fM_kindsOf_71 ?_
          refine a_gf fM_kindsOf_72 l_M_7 m0 rfl ?_
          refine a_ic fM_kindsOf_75 ?_
          refine a_il5 fM_kindsOf_77 ?_
          refine a_iadd fM_kindsOf_79 ?_
          refine a_ia fM_kindsOf_80 m1 (nI_add 78 _) (by omega) (by decide) ?_
          by_cases cP : wr kd (N (66 + i)) (N (72 + i)) = N (78 + i)
          · refine a_ic_ne fM_kindsOf_81 (fun c_ => absurd (congrArg nI cP) c_) (fun _ => ?_)
            refine a_ic fM_kindsOf_84 ?_
            refine a_goto fM_kindsOf_85 ?_
            refine nx true (Iff.trans ⟨fun z => ⟨cq, fun b h1 h2 h3 => ?_⟩, fun z => ⟨rfl, fun b h1 h2 h3 => z.2 b (by omega) h2 h3⟩⟩ he)
            by_cases qb : b = i
            · subst qb; exact cP
            · exact z.2 b (by omega) h2 h3
          · refine a_ic_ne fM_kindsOf_81 (fun _ => ?_) (fun c_ => absurd c_ (fun z => cP ((nI_eq (by omega) (by omega)).mp z)))
            refine a_ic fM_kindsOf_88 ?_
            exact nx false (Iff.trans ⟨fun z => (by cases z.1), fun z => absurd (z.2 i (Nat.le_refl _) (by omega) cF) cP⟩ he)
        · refine a_al0 fM_kindsOf_33 ?_
          refine a_gf fM_kindsOf_34 l_M_7 m0 rfl ?_
          refine a_ic fM_kindsOf_37 ?_
          refine a_il5 fM_kindsOf_39 ?_
          refine a_iadd fM_kindsOf_41 ?_
          refine a_ia fM_kindsOf_42 m1 (nI_add 60 _) (by omega) (by decide) ?_
          refine a_il1 fM_kindsOf_43 ?_
          refine a_ic_ne fM_kindsOf_44 (fun _ => ?_) (fun c_ => absurd c_ (fun z => cF ((nI_eq (by omega) (by omega)).mp z)))
          refine a_ic fM_kindsOf_84 ?_
          refine a_goto fM_kindsOf_85 ?_
          refine nx true (Iff.trans ⟨fun z => ⟨cq, fun b h1 h2 h3 => ?_⟩, fun z => ⟨rfl, fun b h1 h2 h3 => z.2 b (by omega) h2 h3⟩⟩ he)
          by_cases qb : b = i
          · subst qb; exact absurd h3 cF
          · exact z.2 b (by omega) h2 h3
      · refine a_il4 fM_kindsOf_28 ?_
        refine a_if_eq fM_kindsOf_30 (fun _ => ?_) (fun c_ => absurd (by rw [bI_f cq]) c_)
        refine a_ic fM_kindsOf_88 ?_
        exact nx false (Iff.trans ⟨fun z => (by cases z.1), fun z => absurd z.1 cq⟩ he)
  have loop : ∀ (j i s : Nat) (x4 x5 : Option Value), i + j = 6 → kbs (fun kd => decide (mbe (fun i => N (60 + i)) (fun i => N (66 + i)) (fun i => N (72 + i)) (fun i => N (78 + i)) (N 59) F kd)) j i s = kdR N F → fA M_M_kindsOf E (fZ M_M_kindsOf E (eV (.int (nI (kdR N F))) n h)) n h 0 0 4 [some (.ref 63), some (.int (nI F)), some (.int (nI s)), some (.int (nI i)), x4, x5] [] := by
    intro j
    induction j with
    | zero =>
      intro i s x4 x5 hi he
      obtain rfl : i = 6 := by omega
      refine a_il3 fM_kindsOf_4 ?_
      refine a_ic fM_kindsOf_5 ?_
      refine a_ic_ge fM_kindsOf_7 (fun _ => ?_) (fun c_ => absurd (Int32.le_refl _) c_)
      refine a_il2 fM_kindsOf_118 ?_
      exact a_ri fM_kindsOf_119 rfl (⟨sv (congrArg nI he), rfl, rfl⟩)
    | succ j ih =>
      intro i s x4 x5 hi he
      refine a_il3 fM_kindsOf_4 ?_
      refine a_ic fM_kindsOf_5 ?_
      refine a_ic_ge fM_kindsOf_7 (fun c_ => absurd c_ (nI_ge (b := 6) (by omega) (by decide))) (fun _ => ?_)
      refine a_ic fM_kindsOf_10 ?_
      refine a_is4 fM_kindsOf_11 (by decide) rfl ?_
      refine a_ic fM_kindsOf_13 ?_
      refine a_is5 fM_kindsOf_14 (by decide) rfl ?_
      refine inner i s (by omega) (fun q2 hq2 => ?_) (N 59) 0 true (by omega) ⟨fun z b h1 h2 => z.2 b (Nat.zero_le _) h1 h2, fun z => ⟨rfl, fun b _ h1 h2 => z b h1 h2⟩⟩
      by_cases cq : q2 = true
      · refine a_il2 fM_kindsOf_97 ?_
        refine a_il4 fM_kindsOf_98 ?_
        refine a_if_eq fM_kindsOf_100 (fun c_ => absurd c_ (fun z => by rw [bI_t cq] at z; exact absurd z (by decide))) (fun _ => ?_)
        refine a_ic fM_kindsOf_103 ?_
        refine a_il3 fM_kindsOf_104 ?_
        refine a_ishl fM_kindsOf_105 ?_
        refine a_goto fM_kindsOf_106 ?_
        rw [shl1 i (by omega)]
        refine a_ior fM_kindsOf_110 ?_
        rw [nI_or]
        refine a_is2 fM_kindsOf_111 (by decide) rfl ?_
        refine a_inc3 fM_kindsOf_112 (by decide) rfl ?_
        refine a_goto fM_kindsOf_115 ?_
        rw [nI_1]
        exact ih (i + 1) _ _ _ (by omega) (by rw [← he]; simp only [kbs]; rw [if_pos (decide_eq_true (hq2.mp cq))])
      · refine a_il2 fM_kindsOf_97 ?_
        refine a_il4 fM_kindsOf_98 ?_
        refine a_if_eq fM_kindsOf_100 (fun _ => ?_) (fun c_ => absurd (by rw [bI_f cq]) c_)
        refine a_ic fM_kindsOf_109 ?_
        refine a_ior fM_kindsOf_110 ?_
        refine a_is2 fM_kindsOf_111 (by decide) rfl ?_
        refine a_inc3 fM_kindsOf_112 (by decide) rfl ?_
        refine a_goto fM_kindsOf_115 ?_
        rw [nI_1, show nI s ||| 0 = nI s by rw [show (0 : Int32) = nI 0 from rfl, nI_or, Nat.or_zero]]
        exact ih (i + 1) _ _ _ (by omega) (by rw [← he]; simp only [kbs]; rw [if_neg (fun z => cq (hq2.mpr (of_decide_eq_true z)))])
  refine fE.of (L := [some (.ref 63), some (.int (nI F)), none, none, none, none]) (by decide +kernel) (Nat.le_of_ble_eq_true rfl) rfl ?_
  refine a_ic fM_kindsOf_0 ?_
  refine a_is2 fM_kindsOf_1 (by decide) rfl ?_
  refine a_ic fM_kindsOf_2 ?_
  refine a_is3 fM_kindsOf_3 (by decide) rfl ?_
  exact loop 6 0 0 none none rfl rfl
theorem c_Mcounted {w tn : Nat} {nx pl tk fa : Int32} {up lo : Int64} (m0 : h 63 = mO (nI tn, nx, pl, tk, fa, up, lo) th mn) (m1 : h 64 = nA 189 N) (hw : w ≤ 8) : fE M_M_counted E [.ref 63, .int (nI w)] n h (eV (.int (nI (cwN N tn w))) n h) := by
  refine fE.of (L := [some (.ref 63), some (.int (nI w)), none, none]) (by decide +kernel) (Nat.le_of_ble_eq_true rfl) rfl ?_
  match w, hw with
  | 0, _ =>
    refine a_il1 fM_counted_0 ?_
    refine a_ic fM_counted_1 ?_
    refine a_ic_ge fM_counted_2 (fun c_ => absurd c_ (by decide)) (fun _ => ?_)
    refine a_il1 fM_counted_5 ?_
    refine a_if_ne fM_counted_6 (fun c_ => absurd (by decide) c_) (fun _ => ?_)
    refine a_al0 fM_counted_9 ?_
    refine a_gf fM_counted_10 l_M_7 m0 rfl ?_
    refine a_ic fM_counted_13 ?_
    refine a_ia fM_counted_15 m1 (show (31 : Int32) = nI 31 from rfl) (by decide) (by decide) ?_
    refine a_goto fM_counted_16 ?_
    exact a_ri fM_counted_56 rfl (⟨rfl, rfl, rfl⟩)
  | 1, _ =>
    refine a_il1 fM_counted_0 ?_
    refine a_ic fM_counted_1 ?_
    refine a_ic_ge fM_counted_2 (fun c_ => absurd c_ (by decide)) (fun _ => ?_)
    refine a_il1 fM_counted_5 ?_
    refine a_if_ne fM_counted_6 (fun _ => ?_) (fun c_ => absurd c_ (by decide))
    refine a_il1 fM_counted_19 ?_
    refine a_ic fM_counted_20 ?_
    refine a_ic_ne fM_counted_21 (fun c_ => absurd (by decide) c_) (fun _ => ?_)
    refine a_al0 fM_counted_24 ?_
    refine a_gf fM_counted_25 l_M_7 m0 rfl ?_
    refine a_ic fM_counted_28 ?_
    refine a_ia fM_counted_30 m1 (show (30 : Int32) = nI 30 from rfl) (by decide) (by decide) ?_
    refine a_goto fM_counted_31 ?_
    exact a_ri fM_counted_56 rfl (⟨rfl, rfl, rfl⟩)
  | 2, _ =>
    refine a_il1 fM_counted_0 ?_
    refine a_ic fM_counted_1 ?_
    refine a_ic_ge fM_counted_2 (fun c_ => absurd c_ (by decide)) (fun _ => ?_)
    refine a_il1 fM_counted_5 ?_
    refine a_if_ne fM_counted_6 (fun _ => ?_) (fun c_ => absurd c_ (by decide))
    refine a_il1 fM_counted_19 ?_
    refine a_ic fM_counted_20 ?_
    refine a_ic_ne fM_counted_21 (fun _ => ?_) (fun c_ => absurd c_ (by decide))
    refine a_il1 fM_counted_34 ?_
    refine a_ic fM_counted_35 ?_
    refine a_ic_ne fM_counted_36 (fun c_ => absurd (by decide) c_) (fun _ => ?_)
    refine a_al0 fM_counted_39 ?_
    refine a_gf fM_counted_40 l_M_7 m0 rfl ?_
    refine a_ic fM_counted_43 ?_
    refine a_ia fM_counted_45 m1 (show (45 : Int32) = nI 45 from rfl) (by decide) (by decide) ?_
    refine a_goto fM_counted_46 ?_
    exact a_ri fM_counted_56 rfl (⟨rfl, rfl, rfl⟩)
  | 3, _ =>
    refine a_il1 fM_counted_0 ?_
    refine a_ic fM_counted_1 ?_
    refine a_ic_ge fM_counted_2 (fun c_ => absurd c_ (by decide)) (fun _ => ?_)
    refine a_il1 fM_counted_5 ?_
    refine a_if_ne fM_counted_6 (fun _ => ?_) (fun c_ => absurd c_ (by decide))
    refine a_il1 fM_counted_19 ?_
    refine a_ic fM_counted_20 ?_
    refine a_ic_ne fM_counted_21 (fun _ => ?_) (fun c_ => absurd c_ (by decide))
    refine a_il1 fM_counted_34 ?_
    refine a_ic fM_counted_35 ?_
    refine a_ic_ne fM_counted_36 (fun _ => ?_) (fun c_ => absurd c_ (by decide))
    refine a_al0 fM_counted_49 ?_
    refine a_gf fM_counted_50 l_M_7 m0 rfl ?_
    refine a_ic fM_counted_53 ?_
    refine a_ia fM_counted_55 m1 (show (44 : Int32) = nI 44 from rfl) (by decide) (by decide) ?_
    exact a_ri fM_counted_56 rfl (⟨rfl, rfl, rfl⟩)
  | 4, _ =>
    have loop : ∀ (j i c0 t : Nat), i + j = 10 → c0 + sm (sl N 20 10) j i = t → fA M_M_counted E (fZ M_M_counted E (eV (.int (nI t)) n h)) n h 0 0 66 [some (.ref 63), some (.int (nI 4)), some (.int (nI c0)), some (.int (nI i))] [] := by
      intro j
      induction j with
      | zero =>
        intro i c0 t hi ht
        obtain rfl : i = 10 := by omega
        refine a_il3 fM_counted_66 ?_
        refine a_ic fM_counted_67 ?_
        refine a_ic_ge fM_counted_69 (fun _ => ?_) (fun c_ => absurd (Int32.le_refl _) c_)
        refine a_il2 fM_counted_90 ?_
        exact a_ri fM_counted_91 rfl (⟨sv (by rw [← ht]; rfl), rfl, rfl⟩)
      | succ j ih =>
        intro i c0 t hi ht
        refine a_il3 fM_counted_66 ?_
        refine a_ic fM_counted_67 ?_
        refine a_ic_ge fM_counted_69 (fun c_ => absurd c_ (nI_ge (b := 10) (by omega) (by decide))) (fun _ => ?_)
        refine a_il2 fM_counted_72 ?_
        refine a_al0 fM_counted_73 ?_
        refine a_gf fM_counted_74 l_M_7 m0 rfl ?_
        refine a_ic fM_counted_77 ?_
        refine a_il3 fM_counted_79 ?_
        refine a_iadd fM_counted_80 ?_
        refine a_ia fM_counted_81 m1 (nI_add 20 _) (by omega) (by decide) ?_
        refine a_iadd fM_counted_82 ?_
        refine a_is2 fM_counted_83 (by decide) rfl ?_
        refine a_inc3 fM_counted_84 (by decide) rfl ?_
        refine a_goto fM_counted_87 ?_
        rw [nI_1, show nI c0 + nF N (20 + i) = nI (c0 + N (20 + i)) from nI_add _ _]
        exact ih (i + 1) _ t (by omega) (by rw [← ht]; simp only [sm]; rw [sl_lt (by omega)]; omega)
    refine a_il1 fM_counted_0 ?_
    refine a_ic fM_counted_1 ?_
    refine a_ic_ge fM_counted_2 (fun _ => ?_) (fun c_ => absurd (by decide) c_)
    refine a_il1 fM_counted_57 ?_
    refine a_ic fM_counted_58 ?_
    refine a_ic_ne fM_counted_59 (fun c_ => absurd (by decide) c_) (fun _ => ?_)
    refine a_ic fM_counted_62 ?_
    refine a_is2 fM_counted_63 (by decide) rfl ?_
    refine a_ic fM_counted_64 ?_
    refine a_is3 fM_counted_65 (by decide) rfl ?_
    exact loop 10 0 0 _ rfl (Nat.zero_add _)
  | 5, _ =>
    refine a_il1 fM_counted_0 ?_
    refine a_ic fM_counted_1 ?_
    refine a_ic_ge fM_counted_2 (fun _ => ?_) (fun c_ => absurd (by decide) c_)
    refine a_il1 fM_counted_57 ?_
    refine a_ic fM_counted_58 ?_
    refine a_ic_ne fM_counted_59 (fun _ => ?_) (fun c_ => absurd c_ (by decide))
    refine a_il1 fM_counted_92 ?_
    refine a_ic fM_counted_93 ?_
    refine a_ic_ne fM_counted_94 (fun c_ => absurd (by decide) c_) (fun _ => ?_)
    refine a_al0 fM_counted_97 ?_
    refine a_gf fM_counted_98 l_M_7 m0 rfl ?_
    refine a_ic fM_counted_101 ?_
    refine a_ia fM_counted_103 m1 (show (46 : Int32) = nI 46 from rfl) (by decide) (by decide) ?_
    refine a_goto fM_counted_104 ?_
    exact a_ri fM_counted_143 rfl (⟨rfl, rfl, rfl⟩)
  | 6, _ =>
    refine a_il1 fM_counted_0 ?_
    refine a_ic fM_counted_1 ?_
    refine a_ic_ge fM_counted_2 (fun _ => ?_) (fun c_ => absurd (by decide) c_)
    refine a_il1 fM_counted_57 ?_
    refine a_ic fM_counted_58 ?_
    refine a_ic_ne fM_counted_59 (fun _ => ?_) (fun c_ => absurd c_ (by decide))
    refine a_il1 fM_counted_92 ?_
    refine a_ic fM_counted_93 ?_
    refine a_ic_ne fM_counted_94 (fun _ => ?_) (fun c_ => absurd c_ (by decide))
    refine a_il1 fM_counted_107 ?_
    refine a_ic fM_counted_108 ?_
    refine a_ic_ne fM_counted_110 (fun c_ => absurd (by decide) c_) (fun _ => ?_)
    refine a_al0 fM_counted_113 ?_
    refine a_gf fM_counted_114 l_M_7 m0 rfl ?_
    refine a_ic fM_counted_117 ?_
    refine a_ia fM_counted_119 m1 (show (59 : Int32) = nI 59 from rfl) (by decide) (by decide) ?_
    refine a_goto fM_counted_120 ?_
    exact a_ri fM_counted_143 rfl (⟨rfl, rfl, rfl⟩)
  | 7, _ =>
    refine a_il1 fM_counted_0 ?_
    refine a_ic fM_counted_1 ?_
    refine a_ic_ge fM_counted_2 (fun _ => ?_) (fun c_ => absurd (by decide) c_)
    refine a_il1 fM_counted_57 ?_
    refine a_ic fM_counted_58 ?_
    refine a_ic_ne fM_counted_59 (fun _ => ?_) (fun c_ => absurd c_ (by decide))
    refine a_il1 fM_counted_92 ?_
    refine a_ic fM_counted_93 ?_
    refine a_ic_ne fM_counted_94 (fun _ => ?_) (fun c_ => absurd c_ (by decide))
    refine a_il1 fM_counted_107 ?_
    refine a_ic fM_counted_108 ?_
    refine a_ic_ne fM_counted_110 (fun _ => ?_) (fun c_ => absurd c_ (by decide))
    refine a_il1 fM_counted_123 ?_
    refine a_ic fM_counted_124 ?_
    refine a_ic_ne fM_counted_126 (fun c_ => absurd (by decide) c_) (fun _ => ?_)
    refine a_al0 fM_counted_129 ?_
    refine a_gf fM_counted_130 l_M_7 m0 rfl ?_
    refine a_ic fM_counted_133 ?_
    refine a_ia fM_counted_135 m1 (show (84 : Int32) = nI 84 from rfl) (by decide) (by decide) ?_
    refine a_goto fM_counted_136 ?_
    exact a_ri fM_counted_143 rfl (⟨rfl, rfl, rfl⟩)
  | 8, _ =>
    refine a_il1 fM_counted_0 ?_
    refine a_ic fM_counted_1 ?_
    refine a_ic_ge fM_counted_2 (fun _ => ?_) (fun c_ => absurd (by decide) c_)
    refine a_il1 fM_counted_57 ?_
    refine a_ic fM_counted_58 ?_
    refine a_ic_ne fM_counted_59 (fun _ => ?_) (fun c_ => absurd c_ (by decide))
    refine a_il1 fM_counted_92 ?_
    refine a_ic fM_counted_93 ?_
    refine a_ic_ne fM_counted_94 (fun _ => ?_) (fun c_ => absurd c_ (by decide))
    refine a_il1 fM_counted_107 ?_
    refine a_ic fM_counted_108 ?_
    refine a_ic_ne fM_counted_110 (fun _ => ?_) (fun c_ => absurd c_ (by decide))
    refine a_il1 fM_counted_123 ?_
    refine a_ic fM_counted_124 ?_
    refine a_ic_ne fM_counted_126 (fun _ => ?_) (fun c_ => absurd c_ (by decide))
    refine a_al0 fM_counted_139 ?_
    refine a_gf fM_counted_140 l_M_82 m0 rfl ?_
    exact a_ri fM_counted_143 rfl (⟨rfl, rfl, rfl⟩)
end M7
theorem mal_le {ks k d : Nat} : mal ks k d ≤ 6 := by
  unfold mal
  exact maxL_le (fun i => alk_le) 6 0 0 (by decide)
def lkL (s : Option (Nat × Nat)) : Int32 := match s with
  | none => 9
  | some q => nI q.2
section P7
variable {E : eT} {n : Nat} {h : hT} {N : Nat → Nat} {I : Nat → Option (Nat → Nat)} {tn : Nat} {bt : Nat → Nat} {ab be rb rn rf : Nat}
theorem m_trace_bad {f x : Int32} (X : MS h N I tn bt ab be rb rn rf) (hb : ¬ ((0 ≤ f ∧ f ≤ 9) ∧ (0 ≤ x ∧ x ≤ 40))) : fE M_M_trace E [.ref 63, .int f, .int x] n h (qI (fun r k g => r = -2 ∧ k = n ∧ fC h g ∧ MS g N I tn bt ab be (rb + 1) rn rf)) := by
  obtain ⟨⟨nx, pl, tk, fa, ⟨⟨th, mn, m0⟩, f0, m8⟩, w0, kw0, m7⟩, R0⟩ := X
  refine fE.of (L := [some (.ref 63), some (.int (f)), some (.int (x))]) (by decide +kernel) (Nat.le_of_ble_eq_true rfl) rfl ?_
  refine a_al0 fM_trace_0 ?_
  refine a_ic fM_trace_1 ?_
  refine a_pfi0 fM_trace_2 p_M_43 m0 ?_
  obtain ⟨h1, e1, W1, R1, F1⟩ := mThr m0 m8 kw0 m7 R0
  change fA _ _ _ _ (va_up h 63 (mO (nI tn, nx, pl, tk, fa, (nI ab).toInt64, (nI be).toInt64) 0 mn)) _ _ _ _ _
  rw [e1]
  clear e1 R0 m7 m8 m0
  have W2 := W1
  obtain ⟨M2, w1, kw1, M7⟩ := W2
  have M3 := M2
  obtain ⟨⟨th1, mn1, M0⟩, f1, M8⟩ := M3
  have M1 := R1.1.1
  obtain ⟨Rf, M6, r0, r1, r2⟩ := R1.2.2.2.2
  by_cases d0 : (0 ≤ f ∧ f ≤ 9)
  · refine a_il1 fM_trace_5 ?_
    refine a_ic fM_trace_6 ?_
    refine a_ic fM_trace_7 ?_
    refine a_S3V fM_trace_9 k_M_70 m_M_in ⟨by decide, by decide⟩ ⟨rfl, rfl⟩ (Nat.le_of_ble_eq_true rfl) (c_Min) ?_
    refine a_if_eq fM_trace_12 (fun c_ => absurd c_ (fun z => by rw [bI_t d0] at z; exact absurd z (by decide))) (fun _ => ?_)
    by_cases d1 : (0 ≤ x ∧ x ≤ 40)
    · exact absurd ⟨d0, d1⟩ hb
    · refine a_il2 fM_trace_15 ?_
      refine a_ic fM_trace_16 ?_
      refine a_ic fM_trace_17 ?_
      refine a_S3V fM_trace_19 k_M_70 m_M_in ⟨by decide, by decide⟩ ⟨rfl, rfl⟩ (Nat.le_of_ble_eq_true rfl) (c_Min) ?_
      refine a_if_ne fM_trace_22 (fun c_ => absurd (by rw [bI_f d1]) c_) (fun _ => ?_)
      refine a_al0 fM_trace_25 ?_
      refine a_ic fM_trace_26 ?_
      refine a_V1V fM_trace_27 k_M_74 m_M_refuses ⟨by decide, by decide⟩ M0 rfl ⟨rfl, rfl⟩ (Nat.le_of_ble_eq_true rfl) (c_Mrefuses (w := 0) M0 M6 (by decide)) ?_
      exact a_ri fM_trace_30 rfl (⟨_, rfl, rfl, rfl, F1.c.up (by decide), ⟨nx, pl, tk, fa, W1.up (by decide) (by decide) (by decide)⟩, R1.re0 M6 r0 r1 r2⟩)
  · refine a_il1 fM_trace_5 ?_
    refine a_ic fM_trace_6 ?_
    refine a_ic fM_trace_7 ?_
    refine a_S3V fM_trace_9 k_M_70 m_M_in ⟨by decide, by decide⟩ ⟨rfl, rfl⟩ (Nat.le_of_ble_eq_true rfl) (c_Min) ?_
    refine a_if_eq fM_trace_12 (fun _ => ?_) (fun c_ => absurd (by rw [bI_f d0]) c_)
    refine a_al0 fM_trace_25 ?_
    refine a_ic fM_trace_26 ?_
    refine a_V1V fM_trace_27 k_M_74 m_M_refuses ⟨by decide, by decide⟩ M0 rfl ⟨rfl, rfl⟩ (Nat.le_of_ble_eq_true rfl) (c_Mrefuses (w := 0) M0 M6 (by decide)) ?_
    exact a_ri fM_trace_30 rfl (⟨_, rfl, rfl, rfl, F1.c.up (by decide), ⟨nx, pl, tk, fa, W1.up (by decide) (by decide) (by decide)⟩, R1.re0 M6 r0 r1 r2⟩)
theorem m_trace_full {F9 X9 : Nat} (X : MS h N I tn bt ab be rb rn rf) (K : okN N) (h9 : F9 < 10) (h8 : X9 ≤ 40) (h7 : N 46 = 6) : fE M_M_trace E [.ref 63, .int (nI F9), .int (nI X9)] n h (qI (fun r k g => r = -4 ∧ k = n ∧ fC h g ∧ MS g N I tn bt ab be rb rn (rf + 1))) := by
  have O := K.c
  have k31 := K.2.2.1.1
  obtain ⟨⟨nx, pl, tk, fa, ⟨⟨th, mn, m0⟩, f0, m8⟩, w0, kw0, m7⟩, R0⟩ := X
  refine fE.of (L := [some (.ref 63), some (.int (nI F9)), some (.int (nI X9))]) (by decide +kernel) (Nat.le_of_ble_eq_true rfl) rfl ?_
  refine a_al0 fM_trace_0 ?_
  refine a_ic fM_trace_1 ?_
  refine a_pfi0 fM_trace_2 p_M_43 m0 ?_
  obtain ⟨h1, e1, W1, R1, F1⟩ := mThr m0 m8 kw0 m7 R0
  change fA _ _ _ _ (va_up h 63 (mO (nI tn, nx, pl, tk, fa, (nI ab).toInt64, (nI be).toInt64) 0 mn)) _ _ _ _ _
  rw [e1]
  clear e1 R0 m7 m8 m0
  have W2 := W1
  obtain ⟨M2, w1, kw1, M7⟩ := W2
  have M3 := M2
  obtain ⟨⟨th1, mn1, M0⟩, f1, M8⟩ := M3
  have M1 := R1.1.1
  obtain ⟨Rf, M6, r0, r1, r2⟩ := R1.2.2.2.2
  refine a_il1 fM_trace_5 ?_
  refine a_ic fM_trace_6 ?_
  refine a_ic fM_trace_7 ?_
  refine a_S3V fM_trace_9 k_M_70 m_M_in ⟨by decide, by decide⟩ ⟨rfl, rfl⟩ (Nat.le_of_ble_eq_true rfl) (c_Min) ?_
  refine a_if_eq fM_trace_12 (fun c_ => absurd c_ (fun z => by rw [bI_t ⟨nI_pos' (by omega), nI_le (b := 9) (by omega) (by decide)⟩] at z; exact absurd z (by decide))) (fun _ => ?_)
  refine a_il2 fM_trace_15 ?_
  refine a_ic fM_trace_16 ?_
  refine a_ic fM_trace_17 ?_
  refine a_S3V fM_trace_19 k_M_70 m_M_in ⟨by decide, by decide⟩ ⟨rfl, rfl⟩ (Nat.le_of_ble_eq_true rfl) (c_Min) ?_
  refine a_if_ne fM_trace_22 (fun _ => ?_) (fun c_ => absurd c_ (fun z => by rw [bI_t ⟨nI_pos' (by omega), nI_le (b := 40) (by omega) (by decide)⟩] at z; exact absurd z (by decide)))
  refine a_al0 fM_trace_31 ?_
  refine a_gf fM_trace_32 l_M_7 M0 rfl ?_
  refine a_ic fM_trace_35 ?_
  refine a_ia fM_trace_37 M1 (show (46 : Int32) = nI 46 from rfl) (by decide) (by decide) ?_
  refine a_ic fM_trace_38 ?_
  refine a_ic_ne fM_trace_40 (fun c_ => absurd (congrArg nI h7) c_) (fun _ => ?_)
  refine a_al0 fM_trace_43 ?_
  refine a_ic fM_trace_44 ?_
  refine a_V1V fM_trace_45 k_M_74 m_M_refuses ⟨by decide, by decide⟩ M0 rfl ⟨rfl, rfl⟩ (Nat.le_of_ble_eq_true rfl) (c_Mrefuses (w := 2) M0 M6 (by decide)) ?_
  exact a_ri fM_trace_48 rfl (⟨_, rfl, rfl, rfl, F1.c.up (by decide), ⟨nx, pl, tk, fa, W1.up (by decide) (by decide) (by decide)⟩, R1.re2 M6 r0 r1 r2⟩)
theorem m_trace {F9 X9 : Nat} (X : MS h N I tn bt ab be rb rn rf) (K : okN N) (h9 : F9 < 10) (h8 : X9 ≤ 40) (h7 : N 46 < 6) : fE M_M_trace E [.ref 63, .int (nI F9), .int (nI X9)] n h (qI (fun r k g => r = nI (N 46 + 1) ∧ k = n ∧ fC h g ∧ MS g (trN N F9 X9) I tn bt ab be rb rn rf)) := by
  have O := K.c
  have k31 := K.2.2.1.1
  obtain ⟨⟨nx, pl, tk, fa, ⟨⟨th, mn, m0⟩, f0, m8⟩, w0, kw0, m7⟩, R0⟩ := X
  refine fE.of (L := [some (.ref 63), some (.int (nI F9)), some (.int (nI X9))]) (by decide +kernel) (Nat.le_of_ble_eq_true rfl) rfl ?_
  refine a_al0 fM_trace_0 ?_
  refine a_ic fM_trace_1 ?_
  refine a_pfi0 fM_trace_2 p_M_43 m0 ?_
  obtain ⟨h1, e1, W1, R1, F1⟩ := mThr m0 m8 kw0 m7 R0
  change fA _ _ _ _ (va_up h 63 (mO (nI tn, nx, pl, tk, fa, (nI ab).toInt64, (nI be).toInt64) 0 mn)) _ _ _ _ _
  rw [e1]
  clear e1 R0 m7 m8 m0
  have W2 := W1
  obtain ⟨M2, w1, kw1, M7⟩ := W2
  have M3 := M2
  obtain ⟨⟨th1, mn1, M0⟩, f1, M8⟩ := M3
  have M1 := R1.1.1
  obtain ⟨Rf, M6, r0, r1, r2⟩ := R1.2.2.2.2
  refine a_il1 fM_trace_5 ?_
  refine a_ic fM_trace_6 ?_
  refine a_ic fM_trace_7 ?_
  refine a_S3V fM_trace_9 k_M_70 m_M_in ⟨by decide, by decide⟩ ⟨rfl, rfl⟩ (Nat.le_of_ble_eq_true rfl) (c_Min) ?_
  refine a_if_eq fM_trace_12 (fun c_ => absurd c_ (fun z => by rw [bI_t ⟨nI_pos' (by omega), nI_le (b := 9) (by omega) (by decide)⟩] at z; exact absurd z (by decide))) (fun _ => ?_)
  refine a_il2 fM_trace_15 ?_
  refine a_ic fM_trace_16 ?_
  refine a_ic fM_trace_17 ?_
  refine a_S3V fM_trace_19 k_M_70 m_M_in ⟨by decide, by decide⟩ ⟨rfl, rfl⟩ (Nat.le_of_ble_eq_true rfl) (c_Min) ?_
  refine a_if_ne fM_trace_22 (fun _ => ?_) (fun c_ => absurd c_ (fun z => by rw [bI_t ⟨nI_pos' (by omega), nI_le (b := 40) (by omega) (by decide)⟩] at z; exact absurd z (by decide)))
  refine a_al0 fM_trace_31 ?_
  refine a_gf fM_trace_32 l_M_7 M0 rfl ?_
  refine a_ic fM_trace_35 ?_
  refine a_ia fM_trace_37 M1 (show (46 : Int32) = nI 46 from rfl) (by decide) (by decide) ?_
  refine a_ic fM_trace_38 ?_
  refine a_ic_ne fM_trace_40 (fun _ => ?_) (fun c_ => absurd c_ (fun z => absurd ((nI_eq (b := 6) (by omega) (by decide)).mp z) (by omega)))
  refine a_al0 fM_trace_49 ?_
  refine a_gf fM_trace_50 l_M_7 M0 rfl ?_
  refine a_ic fM_trace_53 ?_
  refine a_al0 fM_trace_55 ?_
  refine a_gf fM_trace_56 l_M_7 M0 rfl ?_
  refine a_ic fM_trace_59 ?_
  refine a_ia fM_trace_61 M1 (show (46 : Int32) = nI 46 from rfl) (by decide) (by decide) ?_
  refine a_iadd fM_trace_62 ?_
  refine a_il1 fM_trace_63 ?_
  refine a_it fM_trace_64 M1 (show (47 : Int32) + nF N 46 = nI (47 + N 46) from nI_add 47 _) (by omega) (by decide) ?_
  rw [upd_nF]
  refine a_al0 fM_trace_65 ?_
  refine a_gf fM_trace_66 l_M_7 (up_n (by decide) M0) rfl ?_
  refine a_ic fM_trace_69 ?_
  refine a_al0 fM_trace_71 ?_
  refine a_gf fM_trace_72 l_M_7 (up_n (by decide) M0) rfl ?_
  refine a_ic fM_trace_75 ?_
  refine a_ia fM_trace_77 up_s (show (46 : Int32) = nI 46 from rfl) (by decide) (by decide) ?_
  rw [show nF (va_up N (47 + N 46) F9) 46 = nI (N 46) from congrArg nI (vn (by omega))]
  refine a_iadd fM_trace_78 ?_
  refine a_il2 fM_trace_79 ?_
  refine a_it fM_trace_80 up_s (show (53 : Int32) + nI (N 46) = nI (53 + N 46) from nI_add 53 _) (by omega) (by decide) ?_
  rw [bx_uu, upd_nF]
  refine a_al0 fM_trace_81 ?_
  refine a_gf fM_trace_82 l_M_7 (up_n (by decide) M0) rfl ?_
  refine a_ic fM_trace_85 ?_
  refine a_dup2 fM_trace_87 rfl rfl ?_
  refine a_ia fM_trace_88 up_s (show (46 : Int32) = nI 46 from rfl) (by decide) (by decide) ?_
  refine a_ic fM_trace_89 ?_
  refine a_iadd fM_trace_90 ?_
  rw [show nF (va_up (va_up N (47 + N 46) F9) (53 + N 46) X9) 46 + 1 = nI (N 46 + 1) by rw [show nF (va_up (va_up N (47 + N 46) F9) (53 + N 46) X9) 46 = nI (N 46) from congrArg nI ((vn (by omega)).trans (vn (by omega)))]; exact nI_1 _]
  refine a_it fM_trace_91 up_s (show (46 : Int32) = nI 46 from rfl) (by decide) (by decide) ?_
  rw [bx_uu, upd_nF]
  refine a_al0 fM_trace_92 ?_
  refine a_gf fM_trace_93 l_M_7 (up_n (by decide) M0) rfl ?_
  refine a_ic fM_trace_96 ?_
  refine a_ia fM_trace_98 up_s (show (46 : Int32) = nI 46 from rfl) (by decide) (by decide) ?_
  exact a_ri fM_trace_99 rfl (⟨_, rfl, congrArg nI up_s, rfl, F1.n.up.c, ⟨nx, pl, tk, fa, W1.up (by decide) (by decide) (by decide)⟩, R1.now (((R1.1.2.up (by omega)).up (by omega)).up (by omega))⟩)
theorem m_note_bad {f k d x : Int32} (X : MS h N I tn bt ab be rb rn rf) (hb : ¬ ((0 ≤ f ∧ f ≤ 9) ∧ (0 ≤ k ∧ k ≤ 3) ∧ (0 ≤ d ∧ d ≤ 99) ∧ (0 ≤ x ∧ x ≤ 20))) : fE M_M_note E [.ref 63, .int f, .int k, .int d, .int x] n h (qI (fun r k g => r = -2 ∧ k = n ∧ fC h g ∧ MS g N I tn bt ab be (rb + 1) rn rf)) := by
  obtain ⟨⟨nx, pl, tk, fa, ⟨⟨th, mn, m0⟩, f0, m8⟩, w0, kw0, m7⟩, R0⟩ := X
  refine fE.of (L := [some (.ref 63), some (.int (f)), some (.int (k)), some (.int (d)), some (.int (x)), none]) (by decide +kernel) (Nat.le_of_ble_eq_true rfl) rfl ?_
  refine a_al0 fM_note_0 ?_
  refine a_ic fM_note_1 ?_
  refine a_pfi0 fM_note_2 p_M_43 m0 ?_
  obtain ⟨h1, e1, W1, R1, F1⟩ := mThr m0 m8 kw0 m7 R0
  change fA _ _ _ _ (va_up h 63 (mO (nI tn, nx, pl, tk, fa, (nI ab).toInt64, (nI be).toInt64) 0 mn)) _ _ _ _ _
  rw [e1]
  clear e1 R0 m7 m8 m0
  have W2 := W1
  obtain ⟨M2, w1, kw1, M7⟩ := W2
  have M3 := M2
  obtain ⟨⟨th1, mn1, M0⟩, f1, M8⟩ := M3
  have M1 := R1.1.1
  obtain ⟨Rf, M6, r0, r1, r2⟩ := R1.2.2.2.2
  by_cases d0 : (0 ≤ f ∧ f ≤ 9)
  · refine a_il1 fM_note_5 ?_
    refine a_ic fM_note_6 ?_
    refine a_ic fM_note_7 ?_
    refine a_S3V fM_note_9 k_M_70 m_M_in ⟨by decide, by decide⟩ ⟨rfl, rfl⟩ (Nat.le_of_ble_eq_true rfl) (c_Min) ?_
    refine a_if_eq fM_note_12 (fun c_ => absurd c_ (fun z => by rw [bI_t d0] at z; exact absurd z (by decide))) (fun _ => ?_)
    by_cases d1 : (0 ≤ k ∧ k ≤ 3)
    · refine a_il2 fM_note_15 ?_
      refine a_ic fM_note_16 ?_
      refine a_ic fM_note_17 ?_
      refine a_S3V fM_note_18 k_M_70 m_M_in ⟨by decide, by decide⟩ ⟨rfl, rfl⟩ (Nat.le_of_ble_eq_true rfl) (c_Min) ?_
      refine a_if_eq fM_note_21 (fun c_ => absurd c_ (fun z => by rw [bI_t d1] at z; exact absurd z (by decide))) (fun _ => ?_)
      by_cases d2 : (0 ≤ d ∧ d ≤ 99)
      · refine a_il3 fM_note_24 ?_
        refine a_ic fM_note_25 ?_
        refine a_ic fM_note_26 ?_
        refine a_S3V fM_note_28 k_M_70 m_M_in ⟨by decide, by decide⟩ ⟨rfl, rfl⟩ (Nat.le_of_ble_eq_true rfl) (c_Min) ?_
        refine a_if_eq fM_note_31 (fun c_ => absurd c_ (fun z => by rw [bI_t d2] at z; exact absurd z (by decide))) (fun _ => ?_)
        by_cases d3 : (0 ≤ x ∧ x ≤ 20)
        · exact absurd ⟨d0, d1, d2, d3⟩ hb
        · refine a_il4 fM_note_34 ?_
          refine a_ic fM_note_36 ?_
          refine a_ic fM_note_37 ?_
          refine a_S3V fM_note_39 k_M_70 m_M_in ⟨by decide, by decide⟩ ⟨rfl, rfl⟩ (Nat.le_of_ble_eq_true rfl) (c_Min) ?_
          refine a_if_ne fM_note_42 (fun c_ => absurd (by rw [bI_f d3]) c_) (fun _ => ?_)
          refine a_al0 fM_note_45 ?_
          refine a_ic fM_note_46 ?_
          refine a_V1V fM_note_47 k_M_74 m_M_refuses ⟨by decide, by decide⟩ M0 rfl ⟨rfl, rfl⟩ (Nat.le_of_ble_eq_true rfl) (c_Mrefuses (w := 0) M0 M6 (by decide)) ?_
          exact a_ri fM_note_50 rfl (⟨_, rfl, rfl, rfl, F1.c.up (by decide), ⟨nx, pl, tk, fa, W1.up (by decide) (by decide) (by decide)⟩, R1.re0 M6 r0 r1 r2⟩)
      · refine a_il3 fM_note_24 ?_
        refine a_ic fM_note_25 ?_
        refine a_ic fM_note_26 ?_
        refine a_S3V fM_note_28 k_M_70 m_M_in ⟨by decide, by decide⟩ ⟨rfl, rfl⟩ (Nat.le_of_ble_eq_true rfl) (c_Min) ?_
        refine a_if_eq fM_note_31 (fun _ => ?_) (fun c_ => absurd (by rw [bI_f d2]) c_)
        refine a_al0 fM_note_45 ?_
        refine a_ic fM_note_46 ?_
        refine a_V1V fM_note_47 k_M_74 m_M_refuses ⟨by decide, by decide⟩ M0 rfl ⟨rfl, rfl⟩ (Nat.le_of_ble_eq_true rfl) (c_Mrefuses (w := 0) M0 M6 (by decide)) ?_
        exact a_ri fM_note_50 rfl (⟨_, rfl, rfl, rfl, F1.c.up (by decide), ⟨nx, pl, tk, fa, W1.up (by decide) (by decide) (by decide)⟩, R1.re0 M6 r0 r1 r2⟩)
    · refine a_il2 fM_note_15 ?_
      refine a_ic fM_note_16 ?_
      refine a_ic fM_note_17 ?_
      refine a_S3V fM_note_18 k_M_70 m_M_in ⟨by decide, by decide⟩ ⟨rfl, rfl⟩ (Nat.le_of_ble_eq_true rfl) (c_Min) ?_
      refine a_if_eq fM_note_21 (fun _ => ?_) (fun c_ => absurd (by rw [bI_f d1]) c_)
      refine a_al0 fM_note_45 ?_
      refine a_ic fM_note_46 ?_
      refine a_V1V fM_note_47 k_M_74 m_M_refuses ⟨by decide, by decide⟩ M0 rfl ⟨rfl, rfl⟩ (Nat.le_of_ble_eq_true rfl) (c_Mrefuses (w := 0) M0 M6 (by decide)) ?_
      exact a_ri fM_note_50 rfl (⟨_, rfl, rfl, rfl, F1.c.up (by decide), ⟨nx, pl, tk, fa, W1.up (by decide) (by decide) (by decide)⟩, R1.re0 M6 r0 r1 r2⟩)
  · refine a_il1 fM_note_5 ?_
    refine a_ic fM_note_6 ?_
    refine a_ic fM_note_7 ?_
    refine a_S3V fM_note_9 k_M_70 m_M_in ⟨by decide, by decide⟩ ⟨rfl, rfl⟩ (Nat.le_of_ble_eq_true rfl) (c_Min) ?_
    refine a_if_eq fM_note_12 (fun _ => ?_) (fun c_ => absurd (by rw [bI_f d0]) c_)
    refine a_al0 fM_note_45 ?_
    refine a_ic fM_note_46 ?_
    refine a_V1V fM_note_47 k_M_74 m_M_refuses ⟨by decide, by decide⟩ M0 rfl ⟨rfl, rfl⟩ (Nat.le_of_ble_eq_true rfl) (c_Mrefuses (w := 0) M0 M6 (by decide)) ?_
    exact a_ri fM_note_50 rfl (⟨_, rfl, rfl, rfl, F1.c.up (by decide), ⟨nx, pl, tk, fa, W1.up (by decide) (by decide) (by decide)⟩, R1.re0 M6 r0 r1 r2⟩)
theorem m_note_full {F9 K9 D9 X9 : Nat} (X : MS h N I tn bt ab be rb rn rf) (K : okN N) (h9 : F9 < 10) (h8 : K9 ≤ 3) (h5 : D9 ≤ 99) (h6 : X9 ≤ 20) (h7 : N 59 = 6) : fE M_M_note E [.ref 63, .int (nI F9), .int (nI K9), .int (nI D9), .int (nI X9)] n h (qI (fun r k g => r = -4 ∧ k = n ∧ fC h g ∧ MS g N I tn bt ab be rb rn (rf + 1))) := by
  have O := K.c
  have k31 := K.2.2.1.1
  obtain ⟨⟨nx, pl, tk, fa, ⟨⟨th, mn, m0⟩, f0, m8⟩, w0, kw0, m7⟩, R0⟩ := X
  refine fE.of (L := [some (.ref 63), some (.int (nI F9)), some (.int (nI K9)), some (.int (nI D9)), some (.int (nI X9)), none]) (by decide +kernel) (Nat.le_of_ble_eq_true rfl) rfl ?_
  refine a_al0 fM_note_0 ?_
  refine a_ic fM_note_1 ?_
  refine a_pfi0 fM_note_2 p_M_43 m0 ?_
  obtain ⟨h1, e1, W1, R1, F1⟩ := mThr m0 m8 kw0 m7 R0
  change fA _ _ _ _ (va_up h 63 (mO (nI tn, nx, pl, tk, fa, (nI ab).toInt64, (nI be).toInt64) 0 mn)) _ _ _ _ _
  rw [e1]
  clear e1 R0 m7 m8 m0
  have W2 := W1
  obtain ⟨M2, w1, kw1, M7⟩ := W2
  have M3 := M2
  obtain ⟨⟨th1, mn1, M0⟩, f1, M8⟩ := M3
  have M1 := R1.1.1
  obtain ⟨Rf, M6, r0, r1, r2⟩ := R1.2.2.2.2
  refine a_il1 fM_note_5 ?_
  refine a_ic fM_note_6 ?_
  refine a_ic fM_note_7 ?_
  refine a_S3V fM_note_9 k_M_70 m_M_in ⟨by decide, by decide⟩ ⟨rfl, rfl⟩ (Nat.le_of_ble_eq_true rfl) (c_Min) ?_
  refine a_if_eq fM_note_12 (fun c_ => absurd c_ (fun z => by rw [bI_t ⟨nI_pos' (by omega), nI_le (b := 9) (by omega) (by decide)⟩] at z; exact absurd z (by decide))) (fun _ => ?_)
  refine a_il2 fM_note_15 ?_
  refine a_ic fM_note_16 ?_
  refine a_ic fM_note_17 ?_
  refine a_S3V fM_note_18 k_M_70 m_M_in ⟨by decide, by decide⟩ ⟨rfl, rfl⟩ (Nat.le_of_ble_eq_true rfl) (c_Min) ?_
  refine a_if_eq fM_note_21 (fun c_ => absurd c_ (fun z => by rw [bI_t ⟨nI_pos' (by omega), nI_le (b := 3) (by omega) (by decide)⟩] at z; exact absurd z (by decide))) (fun _ => ?_)
  refine a_il3 fM_note_24 ?_
  refine a_ic fM_note_25 ?_
  refine a_ic fM_note_26 ?_
  refine a_S3V fM_note_28 k_M_70 m_M_in ⟨by decide, by decide⟩ ⟨rfl, rfl⟩ (Nat.le_of_ble_eq_true rfl) (c_Min) ?_
  refine a_if_eq fM_note_31 (fun c_ => absurd c_ (fun z => by rw [bI_t ⟨nI_pos' (by omega), nI_le (b := 99) (by omega) (by decide)⟩] at z; exact absurd z (by decide))) (fun _ => ?_)
  refine a_il4 fM_note_34 ?_
  refine a_ic fM_note_36 ?_
  refine a_ic fM_note_37 ?_
  refine a_S3V fM_note_39 k_M_70 m_M_in ⟨by decide, by decide⟩ ⟨rfl, rfl⟩ (Nat.le_of_ble_eq_true rfl) (c_Min) ?_
  refine a_if_ne fM_note_42 (fun _ => ?_) (fun c_ => absurd c_ (fun z => by rw [bI_t ⟨nI_pos' (by omega), nI_le (b := 20) (by omega) (by decide)⟩] at z; exact absurd z (by decide)))
  refine a_al0 fM_note_51 ?_
  refine a_gf fM_note_52 l_M_7 M0 rfl ?_
  refine a_ic fM_note_55 ?_
  refine a_ia fM_note_57 M1 (show (59 : Int32) = nI 59 from rfl) (by decide) (by decide) ?_
  refine a_is5 fM_note_58 (by decide) rfl ?_
  refine a_il5 fM_note_60 ?_
  refine a_ic fM_note_62 ?_
  refine a_ic_ne fM_note_64 (fun c_ => absurd (congrArg nI h7) c_) (fun _ => ?_)
  refine a_al0 fM_note_67 ?_
  refine a_ic fM_note_68 ?_
  refine a_V1V fM_note_69 k_M_74 m_M_refuses ⟨by decide, by decide⟩ M0 rfl ⟨rfl, rfl⟩ (Nat.le_of_ble_eq_true rfl) (c_Mrefuses (w := 2) M0 M6 (by decide)) ?_
  exact a_ri fM_note_72 rfl (⟨_, rfl, rfl, rfl, F1.c.up (by decide), ⟨nx, pl, tk, fa, W1.up (by decide) (by decide) (by decide)⟩, R1.re2 M6 r0 r1 r2⟩)
theorem m_note {F9 K9 D9 X9 : Nat} (X : MS h N I tn bt ab be rb rn rf) (K : okN N) (h9 : F9 < 10) (h8 : K9 ≤ 3) (h5 : D9 ≤ 99) (h6 : X9 ≤ 20) (h7 : N 59 < 6) : fE M_M_note E [.ref 63, .int (nI F9), .int (nI K9), .int (nI D9), .int (nI X9)] n h (qI (fun r k g => r = nI (N 59 + 1) ∧ k = n ∧ fC h g ∧ MS g (noN N F9 K9 D9 X9) I tn bt ab be rb rn rf)) := by
  have O := K.c
  have k31 := K.2.2.1.1
  obtain ⟨⟨nx, pl, tk, fa, ⟨⟨th, mn, m0⟩, f0, m8⟩, w0, kw0, m7⟩, R0⟩ := X
  refine fE.of (L := [some (.ref 63), some (.int (nI F9)), some (.int (nI K9)), some (.int (nI D9)), some (.int (nI X9)), none]) (by decide +kernel) (Nat.le_of_ble_eq_true rfl) rfl ?_
  refine a_al0 fM_note_0 ?_
  refine a_ic fM_note_1 ?_
  refine a_pfi0 fM_note_2 p_M_43 m0 ?_
  obtain ⟨h1, e1, W1, R1, F1⟩ := mThr m0 m8 kw0 m7 R0
  change fA _ _ _ _ (va_up h 63 (mO (nI tn, nx, pl, tk, fa, (nI ab).toInt64, (nI be).toInt64) 0 mn)) _ _ _ _ _
  rw [e1]
  clear e1 R0 m7 m8 m0
  have W2 := W1
  obtain ⟨M2, w1, kw1, M7⟩ := W2
  have M3 := M2
  obtain ⟨⟨th1, mn1, M0⟩, f1, M8⟩ := M3
  have M1 := R1.1.1
  obtain ⟨Rf, M6, r0, r1, r2⟩ := R1.2.2.2.2
  refine a_il1 fM_note_5 ?_
  refine a_ic fM_note_6 ?_
  refine a_ic fM_note_7 ?_
  refine a_S3V fM_note_9 k_M_70 m_M_in ⟨by decide, by decide⟩ ⟨rfl, rfl⟩ (Nat.le_of_ble_eq_true rfl) (c_Min) ?_
  refine a_if_eq fM_note_12 (fun c_ => absurd c_ (fun z => by rw [bI_t ⟨nI_pos' (by omega), nI_le (b := 9) (by omega) (by decide)⟩] at z; exact absurd z (by decide))) (fun _ => ?_)
  refine a_il2 fM_note_15 ?_
  refine a_ic fM_note_16 ?_
  refine a_ic fM_note_17 ?_
  refine a_S3V fM_note_18 k_M_70 m_M_in ⟨by decide, by decide⟩ ⟨rfl, rfl⟩ (Nat.le_of_ble_eq_true rfl) (c_Min) ?_
  refine a_if_eq fM_note_21 (fun c_ => absurd c_ (fun z => by rw [bI_t ⟨nI_pos' (by omega), nI_le (b := 3) (by omega) (by decide)⟩] at z; exact absurd z (by decide))) (fun _ => ?_)
  refine a_il3 fM_note_24 ?_
  refine a_ic fM_note_25 ?_
  refine a_ic fM_note_26 ?_
  refine a_S3V fM_note_28 k_M_70 m_M_in ⟨by decide, by decide⟩ ⟨rfl, rfl⟩ (Nat.le_of_ble_eq_true rfl) (c_Min) ?_
  refine a_if_eq fM_note_31 (fun c_ => absurd c_ (fun z => by rw [bI_t ⟨nI_pos' (by omega), nI_le (b := 99) (by omega) (by decide)⟩] at z; exact absurd z (by decide))) (fun _ => ?_)
  refine a_il4 fM_note_34 ?_
  refine a_ic fM_note_36 ?_
  refine a_ic fM_note_37 ?_
  refine a_S3V fM_note_39 k_M_70 m_M_in ⟨by decide, by decide⟩ ⟨rfl, rfl⟩ (Nat.le_of_ble_eq_true rfl) (c_Min) ?_
  refine a_if_ne fM_note_42 (fun _ => ?_) (fun c_ => absurd c_ (fun z => by rw [bI_t ⟨nI_pos' (by omega), nI_le (b := 20) (by omega) (by decide)⟩] at z; exact absurd z (by decide)))
  refine a_al0 fM_note_51 ?_
  refine a_gf fM_note_52 l_M_7 M0 rfl ?_
  refine a_ic fM_note_55 ?_
  refine a_ia fM_note_57 M1 (show (59 : Int32) = nI 59 from rfl) (by decide) (by decide) ?_
  rw [show nF N 59 = nI (N 59) from rfl]
  refine a_is5 fM_note_58 (by decide) rfl ?_
  refine a_il5 fM_note_60 ?_
  refine a_ic fM_note_62 ?_
  refine a_ic_ne fM_note_64 (fun _ => ?_) (fun c_ => absurd c_ (fun z => absurd ((nI_eq (b := 6) (by omega) (by decide)).mp z) (by omega)))
  refine a_al0 fM_note_73 ?_
  refine a_gf fM_note_74 l_M_7 M0 rfl ?_
  refine a_ic fM_note_77 ?_
  refine a_il5 fM_note_79 ?_
  refine a_iadd fM_note_81 ?_
  refine a_il1 fM_note_82 ?_
  refine a_it fM_note_83 M1 (nI_add 60 _) (by omega) (by decide) ?_
  rw [upd_nF]
  refine a_al0 fM_note_84 ?_
  refine a_gf fM_note_85 l_M_7 (up_n (by decide) M0) rfl ?_
  refine a_ic fM_note_88 ?_
  refine a_il5 fM_note_90 ?_
  refine a_iadd fM_note_92 ?_
  refine a_il2 fM_note_93 ?_
  refine a_it fM_note_94 up_s (nI_add 66 _) (by omega) (by decide) ?_
  rw [bx_uu, upd_nF]
  refine a_al0 fM_note_95 ?_
  refine a_gf fM_note_96 l_M_7 (up_n (by decide) M0) rfl ?_
  refine a_ic fM_note_99 ?_
  refine a_il5 fM_note_101 ?_
  refine a_iadd fM_note_103 ?_
  refine a_il3 fM_note_104 ?_
  refine a_it fM_note_105 up_s (nI_add 72 _) (by omega) (by decide) ?_
  rw [bx_uu, upd_nF]
  refine a_al0 fM_note_106 ?_
  refine a_gf fM_note_107 l_M_7 (up_n (by decide) M0) rfl ?_
  refine a_ic fM_note_110 ?_
  refine a_il5 fM_note_112 ?_
  refine a_iadd fM_note_114 ?_
  refine a_il4 fM_note_115 ?_
  refine a_it fM_note_117 up_s (nI_add 78 _) (by omega) (by decide) ?_
  rw [bx_uu, upd_nF]
  refine a_al0 fM_note_118 ?_
  refine a_gf fM_note_119 l_M_7 (up_n (by decide) M0) rfl ?_
  refine a_ic fM_note_122 ?_
  refine a_dup2 fM_note_124 rfl rfl ?_
  refine a_ia fM_note_125 up_s (show (59 : Int32) = nI 59 from rfl) (by decide) (by decide) ?_
  refine a_ic fM_note_126 ?_
  refine a_iadd fM_note_127 ?_
  rw [show nF (va_up (va_up (va_up (va_up N (60 + N 59) F9) (66 + N 59) K9) (72 + N 59) D9) (78 + N 59) X9) 59 + 1 = nI (N 59 + 1) by rw [show nF (va_up (va_up (va_up (va_up N (60 + N 59) F9) (66 + N 59) K9) (72 + N 59) D9) (78 + N 59) X9) 59 = nI (N 59) from congrArg nI ((vn (by omega)).trans ((vn (by omega)).trans ((vn (by omega)).trans (vn (by omega)))))]; exact nI_1 _]
  refine a_it fM_note_128 up_s (show (59 : Int32) = nI 59 from rfl) (by decide) (by decide) ?_
  rw [bx_uu, upd_nF]
  refine a_al0 fM_note_129 ?_
  refine a_gf fM_note_130 l_M_7 (up_n (by decide) M0) rfl ?_
  refine a_ic fM_note_133 ?_
  refine a_ia fM_note_135 up_s (show (59 : Int32) = nI 59 from rfl) (by decide) (by decide) ?_
  exact a_ri fM_note_136 rfl (⟨_, rfl, congrArg nI up_s, rfl, F1.n.up.c, ⟨nx, pl, tk, fa, W1.up (by decide) (by decide) (by decide)⟩, R1.now (((((R1.1.2.up (by omega)).up (by omega)).up (by omega)).up (by omega)).up (by omega))⟩)
theorem m_forget_bad {w : Int32} (X : MS h N I tn bt ab be rb rn rf) (hb : ¬ ((0 ≤ w ∧ w ≤ 1))) : fE M_M_forget E [.ref 63, .int w] n h (qI (fun r k g => r = -2 ∧ k = n ∧ fC h g ∧ MS g N I tn bt ab be (rb + 1) rn rf)) := by
  obtain ⟨⟨nx, pl, tk, fa, ⟨⟨th, mn, m0⟩, f0, m8⟩, w0, kw0, m7⟩, R0⟩ := X
  refine fE.of (L := [some (.ref 63), some (.int (w)), none, none]) (by decide +kernel) (Nat.le_of_ble_eq_true rfl) rfl ?_
  refine a_al0 fM_forget_0 ?_
  refine a_ic fM_forget_1 ?_
  refine a_pfi0 fM_forget_2 p_M_43 m0 ?_
  obtain ⟨h1, e1, W1, R1, F1⟩ := mThr m0 m8 kw0 m7 R0
  change fA _ _ _ _ (va_up h 63 (mO (nI tn, nx, pl, tk, fa, (nI ab).toInt64, (nI be).toInt64) 0 mn)) _ _ _ _ _
  rw [e1]
  clear e1 R0 m7 m8 m0
  have W2 := W1
  obtain ⟨M2, w1, kw1, M7⟩ := W2
  have M3 := M2
  obtain ⟨⟨th1, mn1, M0⟩, f1, M8⟩ := M3
  have M1 := R1.1.1
  obtain ⟨Rf, M6, r0, r1, r2⟩ := R1.2.2.2.2
  by_cases d0 : (0 ≤ w ∧ w ≤ 1)
  · exact absurd d0 hb
  · refine a_il1 fM_forget_5 ?_
    refine a_ic fM_forget_6 ?_
    refine a_ic fM_forget_7 ?_
    refine a_S3V fM_forget_8 k_M_70 m_M_in ⟨by decide, by decide⟩ ⟨rfl, rfl⟩ (Nat.le_of_ble_eq_true rfl) (c_Min) ?_
    refine a_if_ne fM_forget_11 (fun c_ => absurd (by rw [bI_f d0]) c_) (fun _ => ?_)
    refine a_al0 fM_forget_14 ?_
    refine a_ic fM_forget_15 ?_
    refine a_V1V fM_forget_16 k_M_74 m_M_refuses ⟨by decide, by decide⟩ M0 rfl ⟨rfl, rfl⟩ (Nat.le_of_ble_eq_true rfl) (c_Mrefuses (w := 0) M0 M6 (by decide)) ?_
    exact a_ri fM_forget_19 rfl (⟨_, rfl, rfl, rfl, F1.c.up (by decide), ⟨nx, pl, tk, fa, W1.up (by decide) (by decide) (by decide)⟩, R1.re0 M6 r0 r1 r2⟩)
theorem m_forget0 (X : MS h N I tn bt ab be rb rn rf) (K : okN N) : fE M_M_forget E [.ref 63, .int (nI 0)] n h (qI (fun r k g => r = nI (N 46) ∧ k = n ∧ fC h g ∧ MS g (va_up N 46 0) I tn bt ab be rb rn rf)) := by
  have O := K.c
  have k31 := K.2.2.1.1
  obtain ⟨⟨nx, pl, tk, fa, ⟨⟨th, mn, m0⟩, f0, m8⟩, w0, kw0, m7⟩, R0⟩ := X
  refine fE.of (L := [some (.ref 63), some (.int (nI 0)), none, none]) (by decide +kernel) (Nat.le_of_ble_eq_true rfl) rfl ?_
  refine a_al0 fM_forget_0 ?_
  refine a_ic fM_forget_1 ?_
  refine a_pfi0 fM_forget_2 p_M_43 m0 ?_
  obtain ⟨h1, e1, W1, R1, F1⟩ := mThr m0 m8 kw0 m7 R0
  change fA _ _ _ _ (va_up h 63 (mO (nI tn, nx, pl, tk, fa, (nI ab).toInt64, (nI be).toInt64) 0 mn)) _ _ _ _ _
  rw [e1]
  clear e1 R0 m7 m8 m0
  have W2 := W1
  obtain ⟨M2, w1, kw1, M7⟩ := W2
  have M3 := M2
  obtain ⟨⟨th1, mn1, M0⟩, f1, M8⟩ := M3
  have M1 := R1.1.1
  obtain ⟨Rf, M6, r0, r1, r2⟩ := R1.2.2.2.2
  refine a_il1 fM_forget_5 ?_
  refine a_ic fM_forget_6 ?_
  refine a_ic fM_forget_7 ?_
  refine a_S3V fM_forget_8 k_M_70 m_M_in ⟨by decide, by decide⟩ ⟨rfl, rfl⟩ (Nat.le_of_ble_eq_true rfl) (c_Min) ?_
  refine a_if_ne fM_forget_11 (fun _ => ?_) (fun c_ => absurd c_ (by decide))
  refine a_il1 fM_forget_20 ?_
  refine a_if_ne fM_forget_21 (fun c_ => absurd (by decide) c_) (fun _ => ?_)
  refine a_ic fM_forget_24 ?_
  refine a_goto fM_forget_26 ?_
  refine a_is2 fM_forget_31 (by decide) rfl ?_
  refine a_al0 fM_forget_32 ?_
  refine a_gf fM_forget_33 l_M_7 M0 rfl ?_
  refine a_il2 fM_forget_36 ?_
  refine a_ia fM_forget_37 M1 (show (46 : Int32) = nI 46 from rfl) (by omega) (by decide) ?_
  refine a_is3 fM_forget_38 (by decide) rfl ?_
  refine a_al0 fM_forget_39 ?_
  refine a_gf fM_forget_40 l_M_7 M0 rfl ?_
  refine a_il2 fM_forget_43 ?_
  refine a_ic fM_forget_44 ?_
  refine a_it fM_forget_45 M1 (show (46 : Int32) = nI 46 from rfl) (by omega) (by decide) ?_
  rw [show upd (nF N) 46 0 = nF (va_up N 46 0) from upd_nF (v := 0)]
  refine a_il3 fM_forget_46 ?_
  exact a_ri fM_forget_47 rfl (⟨_, rfl, rfl, rfl, F1.n.up.c, ⟨nx, pl, tk, fa, W1.up (by decide) (by decide) (by decide)⟩, R1.now (R1.1.2.up (by omega))⟩)
theorem m_forget1 (X : MS h N I tn bt ab be rb rn rf) (K : okN N) : fE M_M_forget E [.ref 63, .int (nI 1)] n h (qI (fun r k g => r = nI (N 59) ∧ k = n ∧ fC h g ∧ MS g (va_up N 59 0) I tn bt ab be rb rn rf)) := by
  have O := K.c
  have k31 := K.2.2.1.1
  obtain ⟨⟨nx, pl, tk, fa, ⟨⟨th, mn, m0⟩, f0, m8⟩, w0, kw0, m7⟩, R0⟩ := X
  refine fE.of (L := [some (.ref 63), some (.int (nI 1)), none, none]) (by decide +kernel) (Nat.le_of_ble_eq_true rfl) rfl ?_
  refine a_al0 fM_forget_0 ?_
  refine a_ic fM_forget_1 ?_
  refine a_pfi0 fM_forget_2 p_M_43 m0 ?_
  obtain ⟨h1, e1, W1, R1, F1⟩ := mThr m0 m8 kw0 m7 R0
  change fA _ _ _ _ (va_up h 63 (mO (nI tn, nx, pl, tk, fa, (nI ab).toInt64, (nI be).toInt64) 0 mn)) _ _ _ _ _
  rw [e1]
  clear e1 R0 m7 m8 m0
  have W2 := W1
  obtain ⟨M2, w1, kw1, M7⟩ := W2
  have M3 := M2
  obtain ⟨⟨th1, mn1, M0⟩, f1, M8⟩ := M3
  have M1 := R1.1.1
  obtain ⟨Rf, M6, r0, r1, r2⟩ := R1.2.2.2.2
  refine a_il1 fM_forget_5 ?_
  refine a_ic fM_forget_6 ?_
  refine a_ic fM_forget_7 ?_
  refine a_S3V fM_forget_8 k_M_70 m_M_in ⟨by decide, by decide⟩ ⟨rfl, rfl⟩ (Nat.le_of_ble_eq_true rfl) (c_Min) ?_
  refine a_if_ne fM_forget_11 (fun _ => ?_) (fun c_ => absurd c_ (by decide))
  refine a_il1 fM_forget_20 ?_
  refine a_if_ne fM_forget_21 (fun _ => ?_) (fun c_ => absurd c_ (by decide))
  refine a_ic fM_forget_29 ?_
  refine a_is2 fM_forget_31 (by decide) rfl ?_
  refine a_al0 fM_forget_32 ?_
  refine a_gf fM_forget_33 l_M_7 M0 rfl ?_
  refine a_il2 fM_forget_36 ?_
  refine a_ia fM_forget_37 M1 (show (59 : Int32) = nI 59 from rfl) (by omega) (by decide) ?_
  refine a_is3 fM_forget_38 (by decide) rfl ?_
  refine a_al0 fM_forget_39 ?_
  refine a_gf fM_forget_40 l_M_7 M0 rfl ?_
  refine a_il2 fM_forget_43 ?_
  refine a_ic fM_forget_44 ?_
  refine a_it fM_forget_45 M1 (show (59 : Int32) = nI 59 from rfl) (by omega) (by decide) ?_
  rw [show upd (nF N) 59 0 = nF (va_up N 59 0) from upd_nF (v := 0)]
  refine a_il3 fM_forget_46 ?_
  exact a_ri fM_forget_47 rfl (⟨_, rfl, rfl, rfl, F1.n.up.c, ⟨nx, pl, tk, fa, W1.up (by decide) (by decide) (by decide)⟩, R1.now (R1.1.2.up (by omega))⟩)
theorem m_which_bad {w : Int32} (X : MS h N I tn bt ab be rb rn rf) (hb : w < -1) : fE M_M_which E [.ref 63, .int w] n h (qI (fun r k g => r = -10 ∧ k = n ∧ fC h g ∧ MS g N I tn bt ab be (rb + 1) rn rf)) := by
  obtain ⟨⟨nx, pl, tk, fa, ⟨⟨th, mn, m0⟩, f0, m8⟩, w0, kw0, m7⟩, R0⟩ := X
  refine fE.of (L := [some (.ref 63), some (.int (w)), none, none]) (by decide +kernel) (Nat.le_of_ble_eq_true rfl) rfl ?_
  refine a_al0 fM_which_0 ?_
  refine a_ic fM_which_1 ?_
  refine a_pfi0 fM_which_2 p_M_43 m0 ?_
  obtain ⟨h1, e1, W1, R1, F1⟩ := mThr m0 m8 kw0 m7 R0
  change fA _ _ _ _ (va_up h 63 (mO (nI tn, nx, pl, tk, fa, (nI ab).toInt64, (nI be).toInt64) 0 mn)) _ _ _ _ _
  rw [e1]
  clear e1 R0 m7 m8 m0
  have W2 := W1
  obtain ⟨M2, w1, kw1, M7⟩ := W2
  have M3 := M2
  obtain ⟨⟨th1, mn1, M0⟩, f1, M8⟩ := M3
  have M1 := R1.1.1
  obtain ⟨Rf, M6, r0, r1, r2⟩ := R1.2.2.2.2
  refine a_il1 fM_which_5 ?_
  refine a_ic fM_which_6 ?_
  refine a_ic_ge fM_which_7 (fun c_ => absurd c_ (Int32.not_le.mpr hb)) (fun _ => ?_)
  refine a_al0 fM_which_10 ?_
  refine a_ic fM_which_11 ?_
  refine a_V1V fM_which_13 k_M_191 m_M_refusesAs ⟨by decide, by decide⟩ M0 rfl ⟨rfl, rfl⟩ (Nat.le_of_ble_eq_true rfl) (c_MrefusesAs (v := -10) M0 M6) ?_
  exact a_ri fM_which_16 rfl (⟨_, rfl, rfl, rfl, F1.c.up (by decide), ⟨nx, pl, tk, fa, W1.up (by decide) (by decide) (by decide)⟩, R1.re0 M6 r0 r1 r2⟩)
theorem m_which_n (X : MS h N I tn bt ab be rb rn rf) (K : okN N) : fE M_M_which E [.ref 63, .int (-1)] n h (qI (fun r k g => r = nI (ncn (fun m => decide (ftP N m)) 10000 0 0) ∧ k = n ∧ fC h g ∧ MS g N I tn bt ab be rb rn rf)) := by
  have O := K.c
  have k31 := K.2.2.1.1
  obtain ⟨⟨nx, pl, tk, fa, ⟨⟨th, mn, m0⟩, f0, m8⟩, w0, kw0, m7⟩, R0⟩ := X
  refine fE.of (L := [some (.ref 63), some (.int (-1)), none, none]) (by decide +kernel) (Nat.le_of_ble_eq_true rfl) rfl ?_
  refine a_al0 fM_which_0 ?_
  refine a_ic fM_which_1 ?_
  refine a_pfi0 fM_which_2 p_M_43 m0 ?_
  obtain ⟨h1, e1, W1, R1, F1⟩ := mThr m0 m8 kw0 m7 R0
  change fA _ _ _ _ (va_up h 63 (mO (nI tn, nx, pl, tk, fa, (nI ab).toInt64, (nI be).toInt64) 0 mn)) _ _ _ _ _
  rw [e1]
  clear e1 R0 m7 m8 m0
  have W2 := W1
  obtain ⟨M2, w1, kw1, M7⟩ := W2
  have M3 := M2
  obtain ⟨⟨th1, mn1, M0⟩, f1, M8⟩ := M3
  have M1 := R1.1.1
  obtain ⟨Rf, M6, r0, r1, r2⟩ := R1.2.2.2.2
  refine a_il1 fM_which_5 ?_
  refine a_ic fM_which_6 ?_
  refine a_ic_ge fM_which_7 (fun _ => ?_) (fun c_ => absurd (Int32.le_refl _) c_)
  have loop : ∀ (j i c0 : Nat) (g : hT), i + j = 10000 → mM (nI tn, nx, pl, tk, fa, (nI ab).toInt64, (nI be).toInt64) g → mL h1 g → c0 ≤ i → ncn (fun m => decide (ftP N m)) j i c0 = ncn (fun m => decide (ftP N m)) 10000 0 0 → fA M_M_which E (fZ M_M_which E (qI (fun r k g => r = nI (ncn (fun m => decide (ftP N m)) 10000 0 0) ∧ k = n ∧ fC h g ∧ MS g N I tn bt ab be rb rn rf))) n g 0 0 21 [some (.ref 63), some (.int (-1)), some (.int (nI c0)), some (.int (nI i))] [] := by
    intro j
    induction j with
    | zero =>
      intro i c0 g hi M F hc he
      obtain rfl : i = 10000 := by omega
      refine a_il3 fM_which_21 ?_
      refine a_ic fM_which_22 ?_
      refine a_ic_ge fM_which_25 (fun _ => ?_) (fun c_ => absurd (Int32.le_refl _) c_)
      refine a_il1 fM_which_59 ?_
      refine a_ic fM_which_60 ?_
      refine a_ic_ne fM_which_61 (fun c_ => absurd (rfl) c_) (fun _ => ?_)
      refine a_il2 fM_which_64 ?_
      refine a_goto fM_which_65 ?_
      exact a_ri fM_which_70 rfl (⟨_, rfl, congrArg nI he, rfl, (F1.trans F.f).c, ⟨nx, pl, tk, fa, W1.l M F⟩, R1.of F.f⟩)
    | succ j ih =>
      intro i c0 g hi M F hc he
      have m1g : g 64 = nA 189 N := (F 64 (by decide) (by decide)).trans M1
      have M9 := M
      obtain ⟨⟨th9, mn9, m09⟩, f9, m89⟩ := M9
      refine a_il3 fM_which_21 ?_
      refine a_ic fM_which_22 ?_
      refine a_ic_ge fM_which_25 (fun c_ => absurd c_ (nI_ge (b := 10000) (by omega) (by decide))) (fun _ => ?_)
      refine a_al0 fM_which_28 ?_
      refine a_il3 fM_which_29 ?_
      refine a_ic fM_which_30 ?_
      refine a_idiv fM_which_32 (by decide) ?_
      refine a_il3 fM_which_33 ?_
      refine a_ic fM_which_34 ?_
      refine a_irem fM_which_36 (by decide) ?_
      rw [show nI i / 100 = nI (i / 100) from pk_div (d := 100) (by omega) (by decide) (by decide), show nI i - nI (i / 100) * 100 = nI (i % 100) by rw [← show nI i / 100 = nI (i / 100) from pk_div (d := 100) (by omega) (by decide) (by decide)]; exact pk_rem (d := 100) (by omega) (by decide) (by decide)]
      refine a_V2I fM_which_37 k_M_203 m_M_isTraced ⟨by decide, by decide⟩ m09 rfl ⟨rfl, rfl⟩ (Nat.le_of_ble_eq_true rfl) (c_MisTraced (m := i) M m1g O K.t (by omega)) (fun r3 n3 h3 p3 => ?_)
      obtain ⟨hr3, hn3, M3, F3⟩ := p3
      subst n3
      rw [hr3]
      by_cases c9 : ftP N i
      · refine a_if_eq fM_which_40 (fun c_ => absurd c_ (fun z => by rw [bI_t c9] at z; exact absurd z (by decide))) (fun _ => ?_)
        refine a_il2 fM_which_43 ?_
        refine a_il1 fM_which_44 ?_
        refine a_ic_ne fM_which_45 (fun _ => ?_) (fun c_ => absurd c_ (nI_nm1 (by omega)))
        refine a_inc2 fM_which_50 (by decide) rfl ?_
        refine a_inc3 fM_which_53 (by decide) rfl ?_
        refine a_goto fM_which_56 ?_
        rw [nI_1, nI_1]
        exact ih (i + 1) (c0 + 1) h3 (by omega) M3 (F.trans F3) (by omega) (by rw [← he]; simp only [ncn]; rw [if_pos (decide_eq_true c9)])
      · refine a_if_eq fM_which_40 (fun _ => ?_) (fun c_ => absurd (by rw [bI_f c9]) c_)
        refine a_inc3 fM_which_53 (by decide) rfl ?_
        refine a_goto fM_which_56 ?_
        rw [nI_1]
        exact ih (i + 1) c0 h3 (by omega) M3 (F.trans F3) (by omega) (by rw [← he]; simp only [ncn]; rw [if_neg (fun z => c9 (of_decide_eq_true z))])
  refine a_ic fM_which_17 ?_
  refine a_is2 fM_which_18 (by decide) rfl ?_
  refine a_ic fM_which_19 ?_
  refine a_is3 fM_which_20 (by decide) rfl ?_
  exact loop 10000 0 0 h1 rfl M2 mL.rf (Nat.le_refl _) rfl
theorem m_which {P9 : Nat} (X : MS h N I tn bt ab be rb rn rf) (K : okN N) (h9 : P9 < 2 ^ 31) : fE M_M_which E [.ref 63, .int (nI P9)] n h (qI (fun r k g => r = o5 (lat (fun m => decide (ftP N m)) P9 10000 0 0) ∧ k = n ∧ fC h g ∧ MS g N I tn bt ab be rb rn rf)) := by
  have O := K.c
  have k31 := K.2.2.1.1
  obtain ⟨⟨nx, pl, tk, fa, ⟨⟨th, mn, m0⟩, f0, m8⟩, w0, kw0, m7⟩, R0⟩ := X
  refine fE.of (L := [some (.ref 63), some (.int (nI P9)), none, none]) (by decide +kernel) (Nat.le_of_ble_eq_true rfl) rfl ?_
  refine a_al0 fM_which_0 ?_
  refine a_ic fM_which_1 ?_
  refine a_pfi0 fM_which_2 p_M_43 m0 ?_
  obtain ⟨h1, e1, W1, R1, F1⟩ := mThr m0 m8 kw0 m7 R0
  change fA _ _ _ _ (va_up h 63 (mO (nI tn, nx, pl, tk, fa, (nI ab).toInt64, (nI be).toInt64) 0 mn)) _ _ _ _ _
  rw [e1]
  clear e1 R0 m7 m8 m0
  have W2 := W1
  obtain ⟨M2, w1, kw1, M7⟩ := W2
  have M3 := M2
  obtain ⟨⟨th1, mn1, M0⟩, f1, M8⟩ := M3
  have M1 := R1.1.1
  obtain ⟨Rf, M6, r0, r1, r2⟩ := R1.2.2.2.2
  refine a_il1 fM_which_5 ?_
  refine a_ic fM_which_6 ?_
  refine a_ic_ge fM_which_7 (fun _ => ?_) (fun c_ => absurd (Int32.le_trans (by decide) (nI_pos' h9)) c_)
  have loop : ∀ (j i c0 : Nat) (g : hT), i + j = 10000 → mM (nI tn, nx, pl, tk, fa, (nI ab).toInt64, (nI be).toInt64) g → mL h1 g → c0 ≤ i → lat (fun m => decide (ftP N m)) P9 j i c0 = lat (fun m => decide (ftP N m)) P9 10000 0 0 → fA M_M_which E (fZ M_M_which E (qI (fun r k g => r = o5 (lat (fun m => decide (ftP N m)) P9 10000 0 0) ∧ k = n ∧ fC h g ∧ MS g N I tn bt ab be rb rn rf))) n g 0 0 21 [some (.ref 63), some (.int (nI P9)), some (.int (nI c0)), some (.int (nI i))] [] := by
    intro j
    induction j with
    | zero =>
      intro i c0 g hi M F hc he
      obtain rfl : i = 10000 := by omega
      refine a_il3 fM_which_21 ?_
      refine a_ic fM_which_22 ?_
      refine a_ic_ge fM_which_25 (fun _ => ?_) (fun c_ => absurd (Int32.le_refl _) c_)
      refine a_il1 fM_which_59 ?_
      refine a_ic fM_which_60 ?_
      refine a_ic_ne fM_which_61 (fun _ => ?_) (fun c_ => absurd c_ (nI_nm1 h9))
      refine a_ic fM_which_68 ?_
      exact a_ri fM_which_70 rfl (⟨_, rfl, by rw [← he]; rfl, rfl, (F1.trans F.f).c, ⟨nx, pl, tk, fa, W1.l M F⟩, R1.of F.f⟩)
    | succ j ih =>
      intro i c0 g hi M F hc he
      have m1g : g 64 = nA 189 N := (F 64 (by decide) (by decide)).trans M1
      have M9 := M
      obtain ⟨⟨th9, mn9, m09⟩, f9, m89⟩ := M9
      refine a_il3 fM_which_21 ?_
      refine a_ic fM_which_22 ?_
      refine a_ic_ge fM_which_25 (fun c_ => absurd c_ (nI_ge (b := 10000) (by omega) (by decide))) (fun _ => ?_)
      refine a_al0 fM_which_28 ?_
      refine a_il3 fM_which_29 ?_
      refine a_ic fM_which_30 ?_
      refine a_idiv fM_which_32 (by decide) ?_
      refine a_il3 fM_which_33 ?_
      refine a_ic fM_which_34 ?_
      refine a_irem fM_which_36 (by decide) ?_
      rw [show nI i / 100 = nI (i / 100) from pk_div (d := 100) (by omega) (by decide) (by decide), show nI i - nI (i / 100) * 100 = nI (i % 100) by rw [← show nI i / 100 = nI (i / 100) from pk_div (d := 100) (by omega) (by decide) (by decide)]; exact pk_rem (d := 100) (by omega) (by decide) (by decide)]
      refine a_V2I fM_which_37 k_M_203 m_M_isTraced ⟨by decide, by decide⟩ m09 rfl ⟨rfl, rfl⟩ (Nat.le_of_ble_eq_true rfl) (c_MisTraced (m := i) M m1g O K.t (by omega)) (fun r3 n3 h3 p3 => ?_)
      obtain ⟨hr3, hn3, M3, F3⟩ := p3
      subst n3
      rw [hr3]
      by_cases c9 : ftP N i
      · refine a_if_eq fM_which_40 (fun c_ => absurd c_ (fun z => by rw [bI_t c9] at z; exact absurd z (by decide))) (fun _ => ?_)
        by_cases c8 : c0 = P9
        · refine a_il2 fM_which_43 ?_
          refine a_il1 fM_which_44 ?_
          refine a_ic_ne fM_which_45 (fun c_ => absurd (congrArg nI c8) c_) (fun _ => ?_)
          refine a_il3 fM_which_48 ?_
          exact a_ri fM_which_49 rfl (⟨_, rfl, by rw [← he]; simp only [lat]; rw [if_pos (decide_eq_true c9), if_pos c8]; rfl, rfl, (F1.trans (F.trans F3).f).c, ⟨nx, pl, tk, fa, W1.l M3 (F.trans F3)⟩, R1.of (F.trans F3).f⟩)
        · refine a_il2 fM_which_43 ?_
          refine a_il1 fM_which_44 ?_
          refine a_ic_ne fM_which_45 (fun _ => ?_) (fun c_ => absurd c_ (fun z => c8 ((nI_eq (by omega) h9).mp z)))
          refine a_inc2 fM_which_50 (by decide) rfl ?_
          refine a_inc3 fM_which_53 (by decide) rfl ?_
          refine a_goto fM_which_56 ?_
          rw [nI_1, nI_1]
          exact ih (i + 1) (c0 + 1) h3 (by omega) M3 (F.trans F3) (by omega) (by rw [← he]; simp only [lat]; rw [if_pos (decide_eq_true c9), if_neg c8])
      · refine a_if_eq fM_which_40 (fun _ => ?_) (fun c_ => absurd (by rw [bI_f c9]) c_)
        refine a_inc3 fM_which_53 (by decide) rfl ?_
        refine a_goto fM_which_56 ?_
        rw [nI_1]
        exact ih (i + 1) c0 h3 (by omega) M3 (F.trans F3) (by omega) (by rw [← he]; simp only [lat]; rw [if_neg (fun z => c9 (of_decide_eq_true z))])
  refine a_ic fM_which_17 ?_
  refine a_is2 fM_which_18 (by decide) rfl ?_
  refine a_ic fM_which_19 ?_
  refine a_is3 fM_which_20 (by decide) rfl ?_
  exact loop 10000 0 0 h1 rfl M2 mL.rf (Nat.le_refl _) rfl
theorem m_is_bad {f : Int32} (X : MS h N I tn bt ab be rb rn rf) (hb : ¬ ((0 ≤ f ∧ f ≤ 9))) : fE M_M_is E [.ref 63, .int f] n h (qI (fun r k g => r = -2 ∧ k = n ∧ fC h g ∧ MS g N I tn bt ab be (rb + 1) rn rf)) := by
  obtain ⟨⟨nx, pl, tk, fa, ⟨⟨th, mn, m0⟩, f0, m8⟩, w0, kw0, m7⟩, R0⟩ := X
  refine fE.of (L := [some (.ref 63), some (.int (f))]) (by decide +kernel) (Nat.le_of_ble_eq_true rfl) rfl ?_
  refine a_al0 fM_is_0 ?_
  refine a_ic fM_is_1 ?_
  refine a_pfi0 fM_is_2 p_M_43 m0 ?_
  obtain ⟨h1, e1, W1, R1, F1⟩ := mThr m0 m8 kw0 m7 R0
  change fA _ _ _ _ (va_up h 63 (mO (nI tn, nx, pl, tk, fa, (nI ab).toInt64, (nI be).toInt64) 0 mn)) _ _ _ _ _
  rw [e1]
  clear e1 R0 m7 m8 m0
  have W2 := W1
  obtain ⟨M2, w1, kw1, M7⟩ := W2
  have M3 := M2
  obtain ⟨⟨th1, mn1, M0⟩, f1, M8⟩ := M3
  have M1 := R1.1.1
  obtain ⟨Rf, M6, r0, r1, r2⟩ := R1.2.2.2.2
  by_cases d0 : (0 ≤ f ∧ f ≤ 9)
  · exact absurd d0 hb
  · refine a_il1 fM_is_5 ?_
    refine a_ic fM_is_6 ?_
    refine a_ic fM_is_7 ?_
    refine a_S3V fM_is_9 k_M_70 m_M_in ⟨by decide, by decide⟩ ⟨rfl, rfl⟩ (Nat.le_of_ble_eq_true rfl) (c_Min) ?_
    refine a_if_eq fM_is_12 (fun _ => ?_) (fun c_ => absurd (by rw [bI_f d0]) c_)
    refine a_al0 fM_is_23 ?_
    refine a_ic fM_is_24 ?_
    refine a_V1V fM_is_25 k_M_74 m_M_refuses ⟨by decide, by decide⟩ M0 rfl ⟨rfl, rfl⟩ (Nat.le_of_ble_eq_true rfl) (c_Mrefuses (w := 0) M0 M6 (by decide)) ?_
    exact a_ri fM_is_28 rfl (⟨_, rfl, rfl, rfl, F1.c.up (by decide), ⟨nx, pl, tk, fa, W1.up (by decide) (by decide) (by decide)⟩, R1.re0 M6 r0 r1 r2⟩)
theorem m_is {F9 : Nat} (X : MS h N I tn bt ab be rb rn rf) (K : okN N) (h9 : F9 < 10) : fE M_M_is E [.ref 63, .int (nI F9)] n h (qI (fun r k g => r = nI (kdR N F9) ∧ k = n ∧ fC h g ∧ MS g N I tn bt ab be rb rn rf)) := by
  have O := K.c
  have k31 := K.2.2.1.1
  obtain ⟨⟨nx, pl, tk, fa, ⟨⟨th, mn, m0⟩, f0, m8⟩, w0, kw0, m7⟩, R0⟩ := X
  refine fE.of (L := [some (.ref 63), some (.int (nI F9))]) (by decide +kernel) (Nat.le_of_ble_eq_true rfl) rfl ?_
  refine a_al0 fM_is_0 ?_
  refine a_ic fM_is_1 ?_
  refine a_pfi0 fM_is_2 p_M_43 m0 ?_
  obtain ⟨h1, e1, W1, R1, F1⟩ := mThr m0 m8 kw0 m7 R0
  change fA _ _ _ _ (va_up h 63 (mO (nI tn, nx, pl, tk, fa, (nI ab).toInt64, (nI be).toInt64) 0 mn)) _ _ _ _ _
  rw [e1]
  clear e1 R0 m7 m8 m0
  have W2 := W1
  obtain ⟨M2, w1, kw1, M7⟩ := W2
  have M3 := M2
  obtain ⟨⟨th1, mn1, M0⟩, f1, M8⟩ := M3
  have M1 := R1.1.1
  obtain ⟨Rf, M6, r0, r1, r2⟩ := R1.2.2.2.2
  refine a_il1 fM_is_5 ?_
  refine a_ic fM_is_6 ?_
  refine a_ic fM_is_7 ?_
  refine a_S3V fM_is_9 k_M_70 m_M_in ⟨by decide, by decide⟩ ⟨rfl, rfl⟩ (Nat.le_of_ble_eq_true rfl) (c_Min) ?_
  refine a_if_eq fM_is_12 (fun c_ => absurd c_ (fun z => by rw [bI_t ⟨nI_pos' (by omega), nI_le (b := 9) (by omega) (by decide)⟩] at z; exact absurd z (by decide))) (fun _ => ?_)
  refine a_al0 fM_is_15 ?_
  refine a_il1 fM_is_16 ?_
  refine a_V1V fM_is_17 k_M_206 m_M_kindsOf ⟨by decide, by decide⟩ M0 rfl ⟨rfl, rfl⟩ (Nat.le_of_ble_eq_true rfl) (c_MkindsOf M0 M1 K.t h9) ?_
  refine a_goto fM_is_20 ?_
  exact a_ri fM_is_28 rfl (⟨_, rfl, rfl, rfl, F1.c, ⟨nx, pl, tk, fa, W1⟩, R1⟩)
theorem m_look_bad {f : Int32} (X : MS h N I tn bt ab be rb rn rf) (hb : ¬ ((0 ≤ f ∧ f ≤ 9))) : fE M_M_look E [.ref 63, .int f] n h (qI (fun r k g => r = -2 ∧ k = n ∧ fC h g ∧ MS g N I tn bt ab be (rb + 1) rn rf)) := by
  obtain ⟨⟨nx, pl, tk, fa, ⟨⟨th, mn, m0⟩, f0, m8⟩, w0, kw0, m7⟩, R0⟩ := X
  refine fE.of (L := [some (.ref 63), some (.int (f)), none, none, none, none, none, none, none, none, none, none]) (by decide +kernel) (Nat.le_of_ble_eq_true rfl) rfl ?_
  refine a_al0 fM_look_0 ?_
  refine a_ic fM_look_1 ?_
  refine a_pfi0 fM_look_2 p_M_43 m0 ?_
  obtain ⟨h1, e1, W1, R1, F1⟩ := mThr m0 m8 kw0 m7 R0
  change fA _ _ _ _ (va_up h 63 (mO (nI tn, nx, pl, tk, fa, (nI ab).toInt64, (nI be).toInt64) 0 mn)) _ _ _ _ _
  rw [e1]
  clear e1 R0 m7 m8 m0
  have W2 := W1
  obtain ⟨M2, w1, kw1, M7⟩ := W2
  have M3 := M2
  obtain ⟨⟨th1, mn1, M0⟩, f1, M8⟩ := M3
  have M1 := R1.1.1
  obtain ⟨Rf, M6, r0, r1, r2⟩ := R1.2.2.2.2
  by_cases d0 : (0 ≤ f ∧ f ≤ 9)
  · exact absurd d0 hb
  · refine a_il1 fM_look_5 ?_
    refine a_ic fM_look_6 ?_
    refine a_ic fM_look_7 ?_
    refine a_S3V fM_look_9 k_M_70 m_M_in ⟨by decide, by decide⟩ ⟨rfl, rfl⟩ (Nat.le_of_ble_eq_true rfl) (c_Min) ?_
    refine a_if_ne fM_look_12 (fun c_ => absurd (by rw [bI_f d0]) c_) (fun _ => ?_)
    refine a_al0 fM_look_15 ?_
    refine a_ic fM_look_16 ?_
    refine a_V1V fM_look_17 k_M_74 m_M_refuses ⟨by decide, by decide⟩ M0 rfl ⟨rfl, rfl⟩ (Nat.le_of_ble_eq_true rfl) (c_Mrefuses (w := 0) M0 M6 (by decide)) ?_
    exact a_ri fM_look_20 rfl (⟨_, rfl, rfl, rfl, F1.c.up (by decide), ⟨nx, pl, tk, fa, W1.up (by decide) (by decide) (by decide)⟩, R1.re0 M6 r0 r1 r2⟩)
theorem m_look {F9 : Nat} (X : MS h N I tn bt ab be rb rn rf) (K : okN N) (h9 : F9 < 10) : fE M_M_look E [.ref 63, .int (nI F9)] n h (qI (fun r k g => r = bsF (if kdR N F9 = 0 then none else nlK (mal (kdR N F9)) 4 0 none) ∧ k = n ∧ fC h g ∧ MS g N I tn bt ab be rb rn rf)) := by
  have O := K.c
  have k31 := K.2.2.1.1
  obtain ⟨⟨nx, pl, tk, fa, ⟨⟨th, mn, m0⟩, f0, m8⟩, w0, kw0, m7⟩, R0⟩ := X
  refine fE.of (L := [some (.ref 63), some (.int (nI F9)), none, none, none, none, none, none, none, none, none, none]) (by decide +kernel) (Nat.le_of_ble_eq_true rfl) rfl ?_
  refine a_al0 fM_look_0 ?_
  refine a_ic fM_look_1 ?_
  refine a_pfi0 fM_look_2 p_M_43 m0 ?_
  obtain ⟨h1, e1, W1, R1, F1⟩ := mThr m0 m8 kw0 m7 R0
  change fA _ _ _ _ (va_up h 63 (mO (nI tn, nx, pl, tk, fa, (nI ab).toInt64, (nI be).toInt64) 0 mn)) _ _ _ _ _
  rw [e1]
  clear e1 R0 m7 m8 m0
  have W2 := W1
  obtain ⟨M2, w1, kw1, M7⟩ := W2
  have M3 := M2
  obtain ⟨⟨th1, mn1, M0⟩, f1, M8⟩ := M3
  have M1 := R1.1.1
  obtain ⟨Rf, M6, r0, r1, r2⟩ := R1.2.2.2.2
  refine a_il1 fM_look_5 ?_
  refine a_ic fM_look_6 ?_
  refine a_ic fM_look_7 ?_
  refine a_S3V fM_look_9 k_M_70 m_M_in ⟨by decide, by decide⟩ ⟨rfl, rfl⟩ (Nat.le_of_ble_eq_true rfl) (c_Min) ?_
  refine a_if_ne fM_look_12 (fun _ => ?_) (fun c_ => absurd c_ (fun z => by rw [bI_t ⟨nI_pos' (by omega), nI_le (b := 9) (by omega) (by decide)⟩] at z; exact absurd z (by decide)))
  refine a_al0 fM_look_21 ?_
  refine a_il1 fM_look_22 ?_
  refine a_V1V fM_look_23 k_M_206 m_M_kindsOf ⟨by decide, by decide⟩ M0 rfl ⟨rfl, rfl⟩ (Nat.le_of_ble_eq_true rfl) (c_MkindsOf M0 M1 K.t h9) ?_
  refine a_is2 fM_look_26 (by decide) rfl ?_
  refine a_ic fM_look_27 ?_
  refine a_is3 fM_look_28 (by decide) rfl ?_
  refine a_ic fM_look_29 ?_
  refine a_is4 fM_look_31 (by decide) rfl ?_
  refine a_ic fM_look_33 ?_
  refine a_is5 fM_look_34 (by decide) rfl ?_
  have hks : kdR N F9 < 64 := kbs_lt _ 6 0 0 (by decide) (by decide)
  by_cases z0 : kdR N F9 = 0
  · refine a_il5 fM_look_36 ?_
    refine a_ic fM_look_38 ?_
    refine a_ic_ge fM_look_39 (fun c_ => absurd c_ (by decide)) (fun _ => ?_)
    refine a_il2 fM_look_42 ?_
    refine a_if_eq fM_look_43 (fun _ => ?_) (fun c_ => absurd (congrArg nI z0) c_)
    refine a_il3 fM_look_221 ?_
    exact a_ri fM_look_222 rfl (⟨_, rfl, by rw [if_pos z0]; rfl, rfl, F1.c, ⟨nx, pl, tk, fa, W1⟩, R1⟩)
  rw [if_neg z0]
  generalize kdR N F9 = ks at hks z0 ⊢
  have Lb : ∀ (s : Option (Nat × Nat)) (k d worst a : Nat) (x11 : Option Value), k < 4 → d < 14 → a < 6 → (∀ (y11 : Option Value), fA M_M_look E (fZ M_M_look E (qI (fun r k g => r = bsF (nlK (mal ks) 4 0 none) ∧ k = n ∧ fC h g ∧ MS g N I tn bt ab be rb rn rf))) n h1 0 0 151 [some (.ref 63), some (.int (nI F9)), some (.int (nI ks)), some (.int (bsF s)), some (.int (lkL s)), some (.int (nI k)), some (.int (nI d)), some (.int (nI worst)), some (.int (nI a)), some (.int (nI (alk ks k d a))), some (.int (nI 6)), y11] []) → ∀ (j b al : Nat) (x11 : Option Value), b + j = 6 → ncn (fun b => decide (ks / 2 ^ a % 2 = 1 ∧ ks / 2 ^ b % 2 = 1 ∧ wr a k d = wr b k d)) j b al = alk ks k d a → fA M_M_look E (fZ M_M_look E (qI (fun r k g => r = bsF (nlK (mal ks) 4 0 none) ∧ k = n ∧ fC h g ∧ MS g N I tn bt ab be rb rn rf))) n h1 0 0 75 [some (.ref 63), some (.int (nI F9)), some (.int (nI ks)), some (.int (bsF s)), some (.int (lkL s)), some (.int (nI k)), some (.int (nI d)), some (.int (nI worst)), some (.int (nI a)), some (.int (nI al)), some (.int (nI b)), x11] [] := by
    intro s k d worst a x11 hk hd ha kk j
    induction j with
    | zero =>
      intro b al x11 hi he
      obtain rfl : b = 6 := by omega
      refine a_il10 fM_look_75 ?_
      refine a_ic fM_look_77 ?_
      refine a_ic_ge fM_look_79 (fun _ => ?_) (fun c_ => absurd (Int32.le_refl _) c_)
      have he2 : al = alk ks k d a := he
      subst he2
      exact kk _
    | succ j ih =>
      intro b al x11 hi he
      have b1 : wr a k d ≤ 6 := wr_le (by omega)
      have b2 : wr b k d ≤ 6 := wr_le (by omega)
      refine a_il10 fM_look_75 ?_
      refine a_ic fM_look_77 ?_
      refine a_ic_ge fM_look_79 (fun c_ => absurd c_ (nI_ge (b := 6) (by omega) (by decide))) (fun _ => ?_)
      have nx2 : ∀ (al2 : Nat) (y11 : Option Value), (if (ks / 2 ^ a % 2 = 1 ∧ ks / 2 ^ b % 2 = 1 ∧ wr a k d = wr b k d) then al + 1 else al) = al2 → fA M_M_look E (fZ M_M_look E (qI (fun r k g => r = bsF (nlK (mal ks) 4 0 none) ∧ k = n ∧ fC h g ∧ MS g N I tn bt ab be rb rn rf))) n h1 0 0 143 [some (.ref 63), some (.int (nI F9)), some (.int (nI ks)), some (.int (bsF s)), some (.int (lkL s)), some (.int (nI k)), some (.int (nI d)), some (.int (nI worst)), some (.int (nI a)), some (.int (nI al)), some (.int (nI b)), y11] [.int (nI al2)] := by
        intro al2 y11 h2
        refine a_is9 fM_look_143 (by decide) rfl ?_
        refine a_inc10 fM_look_145 (by decide) rfl ?_
        refine a_goto fM_look_148 ?_
        rw [nI_1]
        exact ih (b + 1) al2 _ (by omega) (by rw [← he, ← h2]; simp only [ncn, decide_eq_true_eq])
      refine a_il2 fM_look_82 ?_
      refine a_il8 fM_look_83 ?_
      refine a_ishr fM_look_85 ?_
      refine a_ic fM_look_86 ?_
      refine a_iand fM_look_87 ?_
      rw [nbit ks a hks (by omega)]
      by_cases ca : ks / 2 ^ a % 2 = 1
      · refine a_ic fM_look_88 ?_
        refine a_ic_ne fM_look_89 (fun c_ => absurd (by rw [ca]; rfl) c_) (fun _ => ?_)
        refine a_il2 fM_look_92 ?_
        refine a_il10 fM_look_93 ?_
        refine a_ishr fM_look_95 ?_
        refine a_ic fM_look_96 ?_
        refine a_iand fM_look_97 ?_
        rw [nbit ks b hks (by omega)]
        by_cases cb : ks / 2 ^ b % 2 = 1
        · refine a_ic fM_look_98 ?_
          refine a_ic_ne fM_look_99 (fun c_ => absurd (by rw [cb]; rfl) c_) (fun _ => ?_)
          refine a_ic fM_look_102 ?_
          refine a_goto fM_look_103 ?_
          refine a_is11 fM_look_107 (by decide) rfl ?_
          refine a_il9 fM_look_109 ?_
          refine a_il11 fM_look_111 ?_
          refine a_if_eq fM_look_113 (fun c_ => absurd c_ (by decide)) (fun _ => ?_)
          refine a_il8 fM_look_116 ?_
          refine a_il5 fM_look_118 ?_
          refine a_il6 fM_look_120 ?_
          refine a_S3V fM_look_122 k_M_58 m_M_wearOf ⟨by decide, by decide⟩ ⟨rfl, rfl⟩ (Nat.le_of_ble_eq_true rfl) (c_MwearOf (k := k) (D := d) (by omega) (by omega) (by omega)) ?_
          refine a_il10 fM_look_125 ?_
          refine a_il5 fM_look_127 ?_
          refine a_il6 fM_look_129 ?_
          refine a_S3V fM_look_131 k_M_58 m_M_wearOf ⟨by decide, by decide⟩ ⟨rfl, rfl⟩ (Nat.le_of_ble_eq_true rfl) (c_MwearOf (k := k) (D := d) (by omega) (by omega) (by omega)) ?_
          by_cases cw : wr a k d = wr b k d
          · refine a_ic_ne fM_look_134 (fun c_ => absurd (congrArg nI cw) c_) (fun _ => ?_)
            refine a_ic fM_look_137 ?_
            refine a_goto fM_look_138 ?_
            refine a_iadd fM_look_142 ?_
            rw [nI_1]
            exact nx2 _ _ (if_pos ⟨ca, cb, cw⟩)
          · refine a_ic_ne fM_look_134 (fun _ => ?_) (fun c_ => absurd c_ (fun z => cw ((nI_eq (by omega) (by omega)).mp z)))
            refine a_ic fM_look_141 ?_
            refine a_iadd fM_look_142 ?_
            rw [show nI al + 0 = nI al from nI_add al 0]
            exact nx2 _ _ (if_neg (fun z => cw z.2.2))
        · refine a_ic fM_look_98 ?_
          refine a_ic_ne fM_look_99 (fun _ => ?_) (fun c_ => absurd c_ (fun z => cb ((nI_eq (b := 1) (by omega) (by decide)).mp z)))
          refine a_ic fM_look_106 ?_
          refine a_is11 fM_look_107 (by decide) rfl ?_
          refine a_il9 fM_look_109 ?_
          refine a_il11 fM_look_111 ?_
          refine a_if_eq fM_look_113 (fun _ => ?_) (fun c_ => absurd (by decide) c_)
          refine a_ic fM_look_141 ?_
          refine a_iadd fM_look_142 ?_
          rw [show nI al + 0 = nI al from nI_add al 0]
          exact nx2 _ _ (if_neg (fun z => cb z.2.1))
      · refine a_ic fM_look_88 ?_
        refine a_ic_ne fM_look_89 (fun _ => ?_) (fun c_ => absurd c_ (fun z => ca ((nI_eq (b := 1) (by omega) (by decide)).mp z)))
        refine a_ic fM_look_106 ?_
        refine a_is11 fM_look_107 (by decide) rfl ?_
        refine a_il9 fM_look_109 ?_
        refine a_il11 fM_look_111 ?_
        refine a_if_eq fM_look_113 (fun _ => ?_) (fun c_ => absurd (by decide) c_)
        refine a_ic fM_look_141 ?_
        refine a_iadd fM_look_142 ?_
        rw [show nI al + 0 = nI al from nI_add al 0]
        exact nx2 _ _ (if_neg (fun z => ca z.1))
  have La : ∀ (s : Option (Nat × Nat)) (k d : Nat), k < 4 → d < 14 → (∀ (y8 y9 y10 y11 : Option Value), fA M_M_look E (fZ M_M_look E (qI (fun r k g => r = bsF (nlK (mal ks) 4 0 none) ∧ k = n ∧ fC h g ∧ MS g N I tn bt ab be rb rn rf))) n h1 0 0 173 [some (.ref 63), some (.int (nI F9)), some (.int (nI ks)), some (.int (bsF s)), some (.int (lkL s)), some (.int (nI k)), some (.int (nI d)), some (.int (nI (mal ks k d))), y8, y9, y10, y11] []) → ∀ (j a worst : Nat) (x9 x10 x11 : Option Value), a + j = 6 → worst ≤ 6 → maxL (alk ks k d) j a worst = mal ks k d → fA M_M_look E (fZ M_M_look E (qI (fun r k g => r = bsF (nlK (mal ks) 4 0 none) ∧ k = n ∧ fC h g ∧ MS g N I tn bt ab be rb rn rf))) n h1 0 0 62 [some (.ref 63), some (.int (nI F9)), some (.int (nI ks)), some (.int (bsF s)), some (.int (lkL s)), some (.int (nI k)), some (.int (nI d)), some (.int (nI worst)), some (.int (nI a)), x9, x10, x11] [] := by
    intro s k d hk hd kk j
    induction j with
    | zero =>
      intro a worst x9 x10 x11 hi hw he
      obtain rfl : a = 6 := by omega
      refine a_il8 fM_look_62 ?_
      refine a_ic fM_look_64 ?_
      refine a_ic_ge fM_look_66 (fun _ => ?_) (fun c_ => absurd (Int32.le_refl _) c_)
      have he2 : worst = mal ks k d := he
      subst he2
      exact kk _ _ _ _
    | succ j ih =>
      intro a worst x9 x10 x11 hi hw he
      refine a_il8 fM_look_62 ?_
      refine a_ic fM_look_64 ?_
      refine a_ic_ge fM_look_66 (fun c_ => absurd c_ (nI_ge (b := 6) (by omega) (by decide))) (fun _ => ?_)
      have al6 := @alk_le ks k d a
      refine a_ic fM_look_69 ?_
      refine a_is9 fM_look_70 (by decide) rfl ?_
      refine a_ic fM_look_72 ?_
      refine a_is10 fM_look_73 (by decide) rfl ?_
      refine Lb s k d worst a none hk hd (by omega) (fun y11 => ?_) 6 0 0 _ rfl rfl
      by_cases cm : worst < alk ks k d a
      · refine a_il9 fM_look_151 ?_
        refine a_il7 fM_look_153 ?_
        refine a_ic_le fM_look_155 (fun c_ => absurd c_ (fun z => absurd ((nI_leI (by omega) (by omega)).mp z) (by omega))) (fun _ => ?_)
        refine a_il9 fM_look_158 ?_
        refine a_goto fM_look_160 ?_
        refine a_is7 fM_look_165 (by decide) rfl ?_
        refine a_inc8 fM_look_167 (by decide) rfl ?_
        refine a_goto fM_look_170 ?_
        rw [nI_1]
        exact ih (a + 1) _ _ _ _ (by omega) al6 (by rw [← he]; simp only [maxL]; rw [if_pos cm])
      · refine a_il9 fM_look_151 ?_
        refine a_il7 fM_look_153 ?_
        refine a_ic_le fM_look_155 (fun _ => ?_) (fun c_ => absurd (nI_le (by omega) (by omega)) c_)
        refine a_il7 fM_look_163 ?_
        refine a_is7 fM_look_165 (by decide) rfl ?_
        refine a_inc8 fM_look_167 (by decide) rfl ?_
        refine a_goto fM_look_170 ?_
        rw [nI_1]
        exact ih (a + 1) _ _ _ _ (by omega) hw (by rw [← he]; simp only [maxL]; rw [if_neg cm])
  have Ld : ∀ (k : Nat), k < 4 → ∀ (S9 : Option (Nat × Nat)), (∀ (y6 y7 y8 y9 y10 y11 : Option Value), fA M_M_look E (fZ M_M_look E (qI (fun r k g => r = bsF (nlK (mal ks) 4 0 none) ∧ k = n ∧ fC h g ∧ MS g N I tn bt ab be rb rn rf))) n h1 0 0 215 [some (.ref 63), some (.int (nI F9)), some (.int (nI ks)), some (.int (bsF S9)), some (.int (lkL S9)), some (.int (nI k)), y6, y7, y8, y9, y10, y11] []) → ∀ (j d : Nat) (s : Option (Nat × Nat)) (x7 x8 x9 x10 x11 : Option Value), d + j = 14 → (∀ q, s = some q → q.2 ≤ 6) → nlD (mal ks) k j d s = S9 → fA M_M_look E (fZ M_M_look E (qI (fun r k g => r = bsF (nlK (mal ks) 4 0 none) ∧ k = n ∧ fC h g ∧ MS g N I tn bt ab be rb rn rf))) n h1 0 0 49 [some (.ref 63), some (.int (nI F9)), some (.int (nI ks)), some (.int (bsF s)), some (.int (lkL s)), some (.int (nI k)), some (.int (nI d)), x7, x8, x9, x10, x11] [] := by
    intro k hk S9 kk j
    induction j with
    | zero =>
      intro d s x7 x8 x9 x10 x11 hi hs he
      obtain rfl : d = 14 := by omega
      refine a_il6 fM_look_49 ?_
      refine a_ic fM_look_51 ?_
      refine a_ic_ge fM_look_53 (fun _ => ?_) (fun c_ => absurd (Int32.le_refl _) c_)
      have he2 : s = S9 := he
      subst he2
      exact kk _ _ _ _ _ _
    | succ j ih =>
      intro d s x7 x8 x9 x10 x11 hi hs he
      have m6 : mal ks k d ≤ 6 := mal_le
      refine a_il6 fM_look_49 ?_
      refine a_ic fM_look_51 ?_
      refine a_ic_ge fM_look_53 (fun c_ => absurd c_ (nI_ge (b := 14) (by omega) (by decide))) (fun _ => ?_)
      refine a_ic fM_look_56 ?_
      refine a_is7 fM_look_57 (by decide) rfl ?_
      refine a_ic fM_look_59 ?_
      refine a_is8 fM_look_60 (by decide) rfl ?_
      refine La s k d hk (by omega) (fun y8 y9 y10 y11 => ?_) 6 0 0 _ _ _ rfl (by decide) rfl
      by_cases cl : nlb (mal ks) k s d = true
      · have lt9 : nI (mal ks k d) < lkL s := by
          cases s with
          | none => exact nI_lt (b := 9) (by omega) (by decide)
          | some q => exact nI_lt (of_decide_eq_true cl) (by have := hs q rfl; omega)
        refine a_il7 fM_look_173 ?_
        refine a_il4 fM_look_175 ?_
        refine a_ic_ge fM_look_177 (fun c_ => absurd c_ (Int32.not_le.mpr lt9)) (fun _ => ?_)
        refine a_ic fM_look_180 ?_
        refine a_il5 fM_look_182 ?_
        refine a_imul fM_look_184 ?_
        refine a_il6 fM_look_185 ?_
        rw [show (100 : Int32) * nI k = nI (100 * k) from pk_mul 100 k]
        refine a_iadd fM_look_187 ?_
        rw [nI_add]
        refine a_goto fM_look_188 ?_
        refine a_is3 fM_look_192 (by decide) rfl ?_
        refine a_il7 fM_look_193 ?_
        refine a_il4 fM_look_195 ?_
        refine a_ic_ge fM_look_197 (fun c_ => absurd c_ (Int32.not_le.mpr lt9)) (fun _ => ?_)
        refine a_il7 fM_look_200 ?_
        refine a_goto fM_look_202 ?_
        refine a_is4 fM_look_207 (by decide) rfl ?_
        refine a_inc6 fM_look_209 (by decide) rfl ?_
        refine a_goto fM_look_212 ?_
        rw [nI_1]
        exact ih (d + 1) (some (100 * k + d, mal ks k d)) _ _ _ _ _ (by omega) (fun q hq => by cases hq; exact m6) (by rw [← he]; simp only [nlD]; rw [if_pos cl])
      · have ge9 : lkL s ≤ nI (mal ks k d) := by
          cases s with
          | none => exact absurd rfl cl
          | some q => exact nI_le (Nat.not_lt.mp (fun z => cl (decide_eq_true z))) (by omega)
        refine a_il7 fM_look_173 ?_
        refine a_il4 fM_look_175 ?_
        refine a_ic_ge fM_look_177 (fun _ => ?_) (fun c_ => absurd (ge9) c_)
        refine a_il3 fM_look_191 ?_
        refine a_is3 fM_look_192 (by decide) rfl ?_
        refine a_il7 fM_look_193 ?_
        refine a_il4 fM_look_195 ?_
        refine a_ic_ge fM_look_197 (fun _ => ?_) (fun c_ => absurd (ge9) c_)
        refine a_il4 fM_look_205 ?_
        refine a_is4 fM_look_207 (by decide) rfl ?_
        refine a_inc6 fM_look_209 (by decide) rfl ?_
        refine a_goto fM_look_212 ?_
        rw [nI_1]
        exact ih (d + 1) s _ _ _ _ _ (by omega) hs (by rw [← he]; simp only [nlD]; rw [if_neg cl])
  have nlD_ok : ∀ (k j d : Nat) (s : Option (Nat × Nat)), (∀ q, s = some q → q.2 ≤ 6) → ∀ q, nlD (mal ks) k j d s = some q → q.2 ≤ 6 := by
    intro k j
    induction j with
    | zero => intro d s hs q hq; exact hs q hq
    | succ j ih =>
      intro d s hs q hq
      refine ih (d + 1) _ (fun q2 h2 => ?_) q hq
      split at h2
      · cases h2; show mal ks k d ≤ 6; exact mal_le
      · exact hs q2 h2
  have Lk : ∀ (j k : Nat) (s : Option (Nat × Nat)) (x6 x7 x8 x9 x10 x11 : Option Value), k + j = 4 → (∀ q, s = some q → q.2 ≤ 6) → nlK (mal ks) j k s = nlK (mal ks) 4 0 none → fA M_M_look E (fZ M_M_look E (qI (fun r k g => r = bsF (nlK (mal ks) 4 0 none) ∧ k = n ∧ fC h g ∧ MS g N I tn bt ab be rb rn rf))) n h1 0 0 36 [some (.ref 63), some (.int (nI F9)), some (.int (nI ks)), some (.int (bsF s)), some (.int (lkL s)), some (.int (nI k)), x6, x7, x8, x9, x10, x11] [] := by
    intro j
    induction j with
    | zero =>
      intro k s x6 x7 x8 x9 x10 x11 hi hs he
      obtain rfl : k = 4 := by omega
      refine a_il5 fM_look_36 ?_
      refine a_ic fM_look_38 ?_
      refine a_ic_ge fM_look_39 (fun _ => ?_) (fun c_ => absurd (Int32.le_refl _) c_)
      refine a_il3 fM_look_221 ?_
      exact a_ri fM_look_222 rfl (⟨_, rfl, by rw [← he]; rfl, rfl, F1.c, ⟨nx, pl, tk, fa, W1⟩, R1⟩)
    | succ j ih =>
      intro k s x6 x7 x8 x9 x10 x11 hi hs he
      refine a_il5 fM_look_36 ?_
      refine a_ic fM_look_38 ?_
      refine a_ic_ge fM_look_39 (fun c_ => absurd c_ (nI_ge (b := 4) (by omega) (by decide))) (fun _ => ?_)
      refine a_il2 fM_look_42 ?_
      refine a_if_eq fM_look_43 (fun c_ => absurd c_ (nI_ne0 (by omega) (by omega))) (fun _ => ?_)
      refine a_ic fM_look_46 ?_
      refine a_is6 fM_look_47 (by decide) rfl ?_
      refine Ld k (by omega) (nlD (mal ks) k 14 0 s) (fun y6 y7 y8 y9 y10 y11 => ?_) 14 0 s _ _ _ _ _ rfl hs rfl
      refine a_inc5 fM_look_215 (by decide) rfl ?_
      refine a_goto fM_look_218 ?_
      rw [nI_1]
      exact ih (k + 1) _ _ _ _ _ _ _ (by omega) (nlD_ok k 14 0 s hs) (by rw [← he]; rfl)
  exact Lk 4 0 none none none none none none none rfl (fun _ z => by cases z) rfl
theorem m_status0 (X : MS h N I tn bt ab be rb rn rf) (K : okN N) : fE M_M_status E [.ref 63, .int (nI 0)] n h (qI (fun r k g => r = nI rb ∧ k = n ∧ fC h g ∧ MS g N I tn bt ab be rb rn rf)) := by
  have O := K.c
  have k31 := K.2.2.1.1
  obtain ⟨⟨nx, pl, tk, fa, ⟨⟨th, mn, m0⟩, f0, m8⟩, w0, kw0, m7⟩, R0⟩ := X
  refine fE.of (L := [some (.ref 63), some (.int (nI 0))]) (by decide +kernel) (Nat.le_of_ble_eq_true rfl) rfl ?_
  refine a_al0 fM_status_0 ?_
  refine a_ic fM_status_1 ?_
  refine a_pfi0 fM_status_2 p_M_43 m0 ?_
  obtain ⟨h1, e1, W1, R1, F1⟩ := mThr m0 m8 kw0 m7 R0
  change fA _ _ _ _ (va_up h 63 (mO (nI tn, nx, pl, tk, fa, (nI ab).toInt64, (nI be).toInt64) 0 mn)) _ _ _ _ _
  rw [e1]
  clear e1 R0 m7 m8 m0
  have W2 := W1
  obtain ⟨M2, w1, kw1, M7⟩ := W2
  have M3 := M2
  obtain ⟨⟨th1, mn1, M0⟩, f1, M8⟩ := M3
  have M1 := R1.1.1
  obtain ⟨Rf, M6, r0, r1, r2⟩ := R1.2.2.2.2
  refine a_il1 fM_status_5 ?_
  refine a_ic fM_status_6 ?_
  refine a_ic fM_status_7 ?_
  refine a_S3V fM_status_8 k_M_70 m_M_in ⟨by decide, by decide⟩ ⟨rfl, rfl⟩ (Nat.le_of_ble_eq_true rfl) (c_Min) ?_
  refine a_if_eq fM_status_11 (fun c_ => absurd c_ (by decide)) (fun _ => ?_)
  refine a_al0 fM_status_14 ?_
  refine a_gf fM_status_15 l_M_26 M0 rfl ?_
  refine a_il1 fM_status_18 ?_
  refine a_ia fM_status_19 M6 rfl (by omega) (by decide) ?_
  refine a_goto fM_status_20 ?_
  exact a_ri fM_status_28 rfl (⟨_, rfl, by rw [← r0]; rfl, rfl, F1.c, ⟨nx, pl, tk, fa, W1⟩, R1⟩)
theorem m_status1 (X : MS h N I tn bt ab be rb rn rf) (K : okN N) : fE M_M_status E [.ref 63, .int (nI 1)] n h (qI (fun r k g => r = nI rn ∧ k = n ∧ fC h g ∧ MS g N I tn bt ab be rb rn rf)) := by
  have O := K.c
  have k31 := K.2.2.1.1
  obtain ⟨⟨nx, pl, tk, fa, ⟨⟨th, mn, m0⟩, f0, m8⟩, w0, kw0, m7⟩, R0⟩ := X
  refine fE.of (L := [some (.ref 63), some (.int (nI 1))]) (by decide +kernel) (Nat.le_of_ble_eq_true rfl) rfl ?_
  refine a_al0 fM_status_0 ?_
  refine a_ic fM_status_1 ?_
  refine a_pfi0 fM_status_2 p_M_43 m0 ?_
  obtain ⟨h1, e1, W1, R1, F1⟩ := mThr m0 m8 kw0 m7 R0
  change fA _ _ _ _ (va_up h 63 (mO (nI tn, nx, pl, tk, fa, (nI ab).toInt64, (nI be).toInt64) 0 mn)) _ _ _ _ _
  rw [e1]
  clear e1 R0 m7 m8 m0
  have W2 := W1
  obtain ⟨M2, w1, kw1, M7⟩ := W2
  have M3 := M2
  obtain ⟨⟨th1, mn1, M0⟩, f1, M8⟩ := M3
  have M1 := R1.1.1
  obtain ⟨Rf, M6, r0, r1, r2⟩ := R1.2.2.2.2
  refine a_il1 fM_status_5 ?_
  refine a_ic fM_status_6 ?_
  refine a_ic fM_status_7 ?_
  refine a_S3V fM_status_8 k_M_70 m_M_in ⟨by decide, by decide⟩ ⟨rfl, rfl⟩ (Nat.le_of_ble_eq_true rfl) (c_Min) ?_
  refine a_if_eq fM_status_11 (fun c_ => absurd c_ (by decide)) (fun _ => ?_)
  refine a_al0 fM_status_14 ?_
  refine a_gf fM_status_15 l_M_26 M0 rfl ?_
  refine a_il1 fM_status_18 ?_
  refine a_ia fM_status_19 M6 rfl (by omega) (by decide) ?_
  refine a_goto fM_status_20 ?_
  exact a_ri fM_status_28 rfl (⟨_, rfl, by rw [← r1]; rfl, rfl, F1.c, ⟨nx, pl, tk, fa, W1⟩, R1⟩)
theorem m_status2 (X : MS h N I tn bt ab be rb rn rf) (K : okN N) : fE M_M_status E [.ref 63, .int (nI 2)] n h (qI (fun r k g => r = nI rf ∧ k = n ∧ fC h g ∧ MS g N I tn bt ab be rb rn rf)) := by
  have O := K.c
  have k31 := K.2.2.1.1
  obtain ⟨⟨nx, pl, tk, fa, ⟨⟨th, mn, m0⟩, f0, m8⟩, w0, kw0, m7⟩, R0⟩ := X
  refine fE.of (L := [some (.ref 63), some (.int (nI 2))]) (by decide +kernel) (Nat.le_of_ble_eq_true rfl) rfl ?_
  refine a_al0 fM_status_0 ?_
  refine a_ic fM_status_1 ?_
  refine a_pfi0 fM_status_2 p_M_43 m0 ?_
  obtain ⟨h1, e1, W1, R1, F1⟩ := mThr m0 m8 kw0 m7 R0
  change fA _ _ _ _ (va_up h 63 (mO (nI tn, nx, pl, tk, fa, (nI ab).toInt64, (nI be).toInt64) 0 mn)) _ _ _ _ _
  rw [e1]
  clear e1 R0 m7 m8 m0
  have W2 := W1
  obtain ⟨M2, w1, kw1, M7⟩ := W2
  have M3 := M2
  obtain ⟨⟨th1, mn1, M0⟩, f1, M8⟩ := M3
  have M1 := R1.1.1
  obtain ⟨Rf, M6, r0, r1, r2⟩ := R1.2.2.2.2
  refine a_il1 fM_status_5 ?_
  refine a_ic fM_status_6 ?_
  refine a_ic fM_status_7 ?_
  refine a_S3V fM_status_8 k_M_70 m_M_in ⟨by decide, by decide⟩ ⟨rfl, rfl⟩ (Nat.le_of_ble_eq_true rfl) (c_Min) ?_
  refine a_if_eq fM_status_11 (fun c_ => absurd c_ (by decide)) (fun _ => ?_)
  refine a_al0 fM_status_14 ?_
  refine a_gf fM_status_15 l_M_26 M0 rfl ?_
  refine a_il1 fM_status_18 ?_
  refine a_ia fM_status_19 M6 rfl (by omega) (by decide) ?_
  refine a_goto fM_status_20 ?_
  exact a_ri fM_status_28 rfl (⟨_, rfl, by rw [← r2]; rfl, rfl, F1.c, ⟨nx, pl, tk, fa, W1⟩, R1⟩)
theorem m_status_bad {w : Int32} (X : MS h N I tn bt ab be rb rn rf) (hb : ¬ (0 ≤ w ∧ w ≤ 2)) : fE M_M_status E [.ref 63, .int w] n h (qI (fun r k g => r = -1 ∧ k = n ∧ fC h g ∧ MS g N I tn bt ab be (rb + 1) rn rf)) := by
  obtain ⟨⟨nx, pl, tk, fa, ⟨⟨th, mn, m0⟩, f0, m8⟩, w0, kw0, m7⟩, R0⟩ := X
  refine fE.of (L := [some (.ref 63), some (.int (w))]) (by decide +kernel) (Nat.le_of_ble_eq_true rfl) rfl ?_
  refine a_al0 fM_status_0 ?_
  refine a_ic fM_status_1 ?_
  refine a_pfi0 fM_status_2 p_M_43 m0 ?_
  obtain ⟨h1, e1, W1, R1, F1⟩ := mThr m0 m8 kw0 m7 R0
  change fA _ _ _ _ (va_up h 63 (mO (nI tn, nx, pl, tk, fa, (nI ab).toInt64, (nI be).toInt64) 0 mn)) _ _ _ _ _
  rw [e1]
  clear e1 R0 m7 m8 m0
  have W2 := W1
  obtain ⟨M2, w1, kw1, M7⟩ := W2
  have M3 := M2
  obtain ⟨⟨th1, mn1, M0⟩, f1, M8⟩ := M3
  have M1 := R1.1.1
  obtain ⟨Rf, M6, r0, r1, r2⟩ := R1.2.2.2.2
  refine a_il1 fM_status_5 ?_
  refine a_ic fM_status_6 ?_
  refine a_ic fM_status_7 ?_
  refine a_S3V fM_status_8 k_M_70 m_M_in ⟨by decide, by decide⟩ ⟨rfl, rfl⟩ (Nat.le_of_ble_eq_true rfl) (c_Min) ?_
  refine a_if_eq fM_status_11 (fun _ => ?_) (fun c_ => absurd (by rw [bI_f hb]) c_)
  refine a_al0 fM_status_23 ?_
  refine a_ic fM_status_24 ?_
  refine a_V1V fM_status_25 k_M_191 m_M_refusesAs ⟨by decide, by decide⟩ M0 rfl ⟨rfl, rfl⟩ (Nat.le_of_ble_eq_true rfl) (c_MrefusesAs (v := -1) M0 M6) ?_
  exact a_ri fM_status_28 rfl (⟨_, rfl, rfl, rfl, F1.c.up (by decide), ⟨nx, pl, tk, fa, W1.up (by decide) (by decide) (by decide)⟩, R1.re0 M6 r0 r1 r2⟩)
theorem m_count_bad {w : Int32} (X : MS h N I tn bt ab be rb rn rf) (hb : ¬ ((0 ≤ w ∧ w ≤ 8))) : fE M_M_count E [.ref 63, .int w] n h (qI (fun r k g => r = -2 ∧ k = n ∧ fC h g ∧ MS g N I tn bt ab be (rb + 1) rn rf)) := by
  obtain ⟨⟨nx, pl, tk, fa, ⟨⟨th, mn, m0⟩, f0, m8⟩, w0, kw0, m7⟩, R0⟩ := X
  refine fE.of (L := [some (.ref 63), some (.int (w))]) (by decide +kernel) (Nat.le_of_ble_eq_true rfl) rfl ?_
  refine a_al0 fM_count_0 ?_
  refine a_ic fM_count_1 ?_
  refine a_pfi0 fM_count_2 p_M_43 m0 ?_
  obtain ⟨h1, e1, W1, R1, F1⟩ := mThr m0 m8 kw0 m7 R0
  change fA _ _ _ _ (va_up h 63 (mO (nI tn, nx, pl, tk, fa, (nI ab).toInt64, (nI be).toInt64) 0 mn)) _ _ _ _ _
  rw [e1]
  clear e1 R0 m7 m8 m0
  have W2 := W1
  obtain ⟨M2, w1, kw1, M7⟩ := W2
  have M3 := M2
  obtain ⟨⟨th1, mn1, M0⟩, f1, M8⟩ := M3
  have M1 := R1.1.1
  obtain ⟨Rf, M6, r0, r1, r2⟩ := R1.2.2.2.2
  by_cases d0 : (0 ≤ w ∧ w ≤ 8)
  · exact absurd d0 hb
  · refine a_il1 fM_count_5 ?_
    refine a_ic fM_count_6 ?_
    refine a_ic fM_count_7 ?_
    refine a_S3V fM_count_9 k_M_70 m_M_in ⟨by decide, by decide⟩ ⟨rfl, rfl⟩ (Nat.le_of_ble_eq_true rfl) (c_Min) ?_
    refine a_if_eq fM_count_12 (fun _ => ?_) (fun c_ => absurd (by rw [bI_f d0]) c_)
    refine a_al0 fM_count_23 ?_
    refine a_ic fM_count_24 ?_
    refine a_V1V fM_count_25 k_M_74 m_M_refuses ⟨by decide, by decide⟩ M0 rfl ⟨rfl, rfl⟩ (Nat.le_of_ble_eq_true rfl) (c_Mrefuses (w := 0) M0 M6 (by decide)) ?_
    exact a_ri fM_count_28 rfl (⟨_, rfl, rfl, rfl, F1.c.up (by decide), ⟨nx, pl, tk, fa, W1.up (by decide) (by decide) (by decide)⟩, R1.re0 M6 r0 r1 r2⟩)
theorem m_count {W9 : Nat} (X : MS h N I tn bt ab be rb rn rf) (K : okN N) (h9 : W9 ≤ 8) : fE M_M_count E [.ref 63, .int (nI W9)] n h (qI (fun r k g => r = nI (cwN N tn W9) ∧ k = n ∧ fC h g ∧ MS g N I tn bt ab be rb rn rf)) := by
  have O := K.c
  have k31 := K.2.2.1.1
  obtain ⟨⟨nx, pl, tk, fa, ⟨⟨th, mn, m0⟩, f0, m8⟩, w0, kw0, m7⟩, R0⟩ := X
  refine fE.of (L := [some (.ref 63), some (.int (nI W9))]) (by decide +kernel) (Nat.le_of_ble_eq_true rfl) rfl ?_
  refine a_al0 fM_count_0 ?_
  refine a_ic fM_count_1 ?_
  refine a_pfi0 fM_count_2 p_M_43 m0 ?_
  obtain ⟨h1, e1, W1, R1, F1⟩ := mThr m0 m8 kw0 m7 R0
  change fA _ _ _ _ (va_up h 63 (mO (nI tn, nx, pl, tk, fa, (nI ab).toInt64, (nI be).toInt64) 0 mn)) _ _ _ _ _
  rw [e1]
  clear e1 R0 m7 m8 m0
  have W2 := W1
  obtain ⟨M2, w1, kw1, M7⟩ := W2
  have M3 := M2
  obtain ⟨⟨th1, mn1, M0⟩, f1, M8⟩ := M3
  have M1 := R1.1.1
  obtain ⟨Rf, M6, r0, r1, r2⟩ := R1.2.2.2.2
  refine a_il1 fM_count_5 ?_
  refine a_ic fM_count_6 ?_
  refine a_ic fM_count_7 ?_
  refine a_S3V fM_count_9 k_M_70 m_M_in ⟨by decide, by decide⟩ ⟨rfl, rfl⟩ (Nat.le_of_ble_eq_true rfl) (c_Min) ?_
  refine a_if_eq fM_count_12 (fun c_ => absurd c_ (fun z => by rw [bI_t ⟨nI_pos' (by omega), nI_le (b := 8) (by omega) (by decide)⟩] at z; exact absurd z (by decide))) (fun _ => ?_)
  refine a_al0 fM_count_15 ?_
  refine a_il1 fM_count_16 ?_
  refine a_V1V fM_count_17 k_M_238 m_M_counted ⟨by decide, by decide⟩ M0 rfl ⟨rfl, rfl⟩ (Nat.le_of_ble_eq_true rfl) (c_Mcounted M0 M1 h9) ?_
  refine a_goto fM_count_20 ?_
  exact a_ri fM_count_28 rfl (⟨_, rfl, rfl, rfl, F1.c, ⟨nx, pl, tk, fa, W1⟩, R1⟩)
theorem m_part0 (X : MS h N I tn bt ab be rb rn rf) : fE M_M_part E [.ref 63, .int (nI 0)] n h (fun r k g => r = some (.long (nI ab).toInt64) ∧ k = n ∧ fC h g ∧ MS g N I tn bt ab be rb rn rf) := by
  obtain ⟨⟨nx, pl, tk, fa, ⟨⟨th, mn, m0⟩, f0, m8⟩, w0, kw0, m7⟩, R0⟩ := X
  refine fE.of (L := [some (.ref 63), some (.int (nI 0))]) (by decide +kernel) (Nat.le_of_ble_eq_true rfl) rfl ?_
  refine a_al0 fM_part_0 ?_
  refine a_ic fM_part_1 ?_
  refine a_pfi0 fM_part_2 p_M_43 m0 ?_
  obtain ⟨h1, e1, W1, R1, F1⟩ := mThr m0 m8 kw0 m7 R0
  change fA _ _ _ _ (va_up h 63 (mO (nI tn, nx, pl, tk, fa, (nI ab).toInt64, (nI be).toInt64) 0 mn)) _ _ _ _ _
  rw [e1]
  clear e1 R0 m7 m8 m0
  have W2 := W1
  obtain ⟨M2, w1, kw1, M7⟩ := W2
  have M3 := M2
  obtain ⟨⟨th1, mn1, M0⟩, f1, M8⟩ := M3
  have M1 := R1.1.1
  obtain ⟨Rf, M6, r0, r1, r2⟩ := R1.2.2.2.2
  refine a_il1 fM_part_5 ?_
  refine a_ic fM_part_6 ?_
  refine a_ic fM_part_7 ?_
  refine a_S3V fM_part_8 k_M_70 m_M_in ⟨by decide, by decide⟩ ⟨rfl, rfl⟩ (Nat.le_of_ble_eq_true rfl) (c_Min) ?_
  refine a_if_ne fM_part_11 (fun _ => ?_) (fun c_ => absurd c_ (by decide))
  refine a_il1 fM_part_21 ?_
  refine a_if_ne fM_part_22 (fun c_ => absurd (by decide) c_) (fun _ => ?_)
  refine a_al0 fM_part_25 ?_
  refine a_gf fM_part_26 l_M_221 M0 rfl ?_
  refine a_goto fM_part_29 ?_
  exact a_rl fM_part_36 rfl (⟨rfl, rfl, F1.c, ⟨nx, pl, tk, fa, W1⟩, R1⟩)
theorem m_part1 (X : MS h N I tn bt ab be rb rn rf) : fE M_M_part E [.ref 63, .int (nI 1)] n h (fun r k g => r = some (.long (nI be).toInt64) ∧ k = n ∧ fC h g ∧ MS g N I tn bt ab be rb rn rf) := by
  obtain ⟨⟨nx, pl, tk, fa, ⟨⟨th, mn, m0⟩, f0, m8⟩, w0, kw0, m7⟩, R0⟩ := X
  refine fE.of (L := [some (.ref 63), some (.int (nI 1))]) (by decide +kernel) (Nat.le_of_ble_eq_true rfl) rfl ?_
  refine a_al0 fM_part_0 ?_
  refine a_ic fM_part_1 ?_
  refine a_pfi0 fM_part_2 p_M_43 m0 ?_
  obtain ⟨h1, e1, W1, R1, F1⟩ := mThr m0 m8 kw0 m7 R0
  change fA _ _ _ _ (va_up h 63 (mO (nI tn, nx, pl, tk, fa, (nI ab).toInt64, (nI be).toInt64) 0 mn)) _ _ _ _ _
  rw [e1]
  clear e1 R0 m7 m8 m0
  have W2 := W1
  obtain ⟨M2, w1, kw1, M7⟩ := W2
  have M3 := M2
  obtain ⟨⟨th1, mn1, M0⟩, f1, M8⟩ := M3
  have M1 := R1.1.1
  obtain ⟨Rf, M6, r0, r1, r2⟩ := R1.2.2.2.2
  refine a_il1 fM_part_5 ?_
  refine a_ic fM_part_6 ?_
  refine a_ic fM_part_7 ?_
  refine a_S3V fM_part_8 k_M_70 m_M_in ⟨by decide, by decide⟩ ⟨rfl, rfl⟩ (Nat.le_of_ble_eq_true rfl) (c_Min) ?_
  refine a_if_ne fM_part_11 (fun _ => ?_) (fun c_ => absurd c_ (by decide))
  refine a_il1 fM_part_21 ?_
  refine a_if_ne fM_part_22 (fun _ => ?_) (fun c_ => absurd c_ (by decide))
  refine a_al0 fM_part_32 ?_
  refine a_gf fM_part_33 l_M_29 M0 rfl ?_
  exact a_rl fM_part_36 rfl (⟨rfl, rfl, F1.c, ⟨nx, pl, tk, fa, W1⟩, R1⟩)
theorem m_part_bad {w : Int32} (X : MS h N I tn bt ab be rb rn rf) (hb : ¬ (0 ≤ w ∧ w ≤ 1)) : fE M_M_part E [.ref 63, .int w] n h (fun r k g => r = some (.long (-2)) ∧ k = n ∧ fC h g ∧ MS g N I tn bt ab be (rb + 1) rn rf) := by
  obtain ⟨⟨nx, pl, tk, fa, ⟨⟨th, mn, m0⟩, f0, m8⟩, w0, kw0, m7⟩, R0⟩ := X
  refine fE.of (L := [some (.ref 63), some (.int (w))]) (by decide +kernel) (Nat.le_of_ble_eq_true rfl) rfl ?_
  refine a_al0 fM_part_0 ?_
  refine a_ic fM_part_1 ?_
  refine a_pfi0 fM_part_2 p_M_43 m0 ?_
  obtain ⟨h1, e1, W1, R1, F1⟩ := mThr m0 m8 kw0 m7 R0
  change fA _ _ _ _ (va_up h 63 (mO (nI tn, nx, pl, tk, fa, (nI ab).toInt64, (nI be).toInt64) 0 mn)) _ _ _ _ _
  rw [e1]
  clear e1 R0 m7 m8 m0
  have W2 := W1
  obtain ⟨M2, w1, kw1, M7⟩ := W2
  have M3 := M2
  obtain ⟨⟨th1, mn1, M0⟩, f1, M8⟩ := M3
  have M1 := R1.1.1
  obtain ⟨Rf, M6, r0, r1, r2⟩ := R1.2.2.2.2
  refine a_il1 fM_part_5 ?_
  refine a_ic fM_part_6 ?_
  refine a_ic fM_part_7 ?_
  refine a_S3V fM_part_8 k_M_70 m_M_in ⟨by decide, by decide⟩ ⟨rfl, rfl⟩ (Nat.le_of_ble_eq_true rfl) (c_Min) ?_
  refine a_if_ne fM_part_11 (fun c_ => absurd (by rw [bI_f hb]) c_) (fun _ => ?_)
  refine a_al0 fM_part_14 ?_
  refine a_ic fM_part_15 ?_
  refine a_V1V fM_part_16 k_M_74 m_M_refuses ⟨by decide, by decide⟩ M0 rfl ⟨rfl, rfl⟩ (Nat.le_of_ble_eq_true rfl) (c_Mrefuses (w := 0) M0 M6 (by decide)) ?_
  refine a_i2l fM_part_19 ?_
  exact a_rl fM_part_20 rfl (⟨rfl, rfl, F1.c.up (by decide), ⟨nx, pl, tk, fa, W1.up (by decide) (by decide) (by decide)⟩, R1.re0 M6 r0 r1 r2⟩)
theorem m_digest (X : MS h N I tn bt ab be rb rn rf) (K : okN N) : fE M_M_digest E [.ref 63] n h (fun r k g => r = some (.long (dgN N tn ab be)) ∧ k = n ∧ fC h g ∧ MS g N I tn bt ab be rb rn rf) := by
  have O := K.c
  have k31 := K.2.2.1.1
  obtain ⟨⟨nx, pl, tk, fa, ⟨⟨th, mn, m0⟩, f0, m8⟩, w0, kw0, m7⟩, R0⟩ := X
  refine fE.of (L := [some (.ref 63), none, none, none]) (by decide +kernel) (Nat.le_of_ble_eq_true rfl) rfl ?_
  refine a_al0 fM_digest_0 ?_
  refine a_ic fM_digest_1 ?_
  refine a_pfi0 fM_digest_2 p_M_43 m0 ?_
  obtain ⟨h1, e1, W1, R1, F1⟩ := mThr m0 m8 kw0 m7 R0
  change fA _ _ _ _ (va_up h 63 (mO (nI tn, nx, pl, tk, fa, (nI ab).toInt64, (nI be).toInt64) 0 mn)) _ _ _ _ _
  rw [e1]
  clear e1 R0 m7 m8 m0
  have W2 := W1
  obtain ⟨M2, w1, kw1, M7⟩ := W2
  have M3 := M2
  obtain ⟨⟨th1, mn1, M0⟩, f1, M8⟩ := M3
  have M1 := R1.1.1
  obtain ⟨Rf, M6, r0, r1, r2⟩ := R1.2.2.2.2
  have k46 := K.2.2.1.2.1
  have k59 := K.2.2.1.2.2.1
  have l5 : ∀ (j i : Nat) (x y : Int64), i + j = N 59 → mxL (fun i => [N (60 + i), N (66 + i), N (72 + i), N (78 + i)]) j i x = y → fA M_M_digest E (fZ M_M_digest E (fun r k g => r = some (.long (mx (mx (y) ab) be)) ∧ k = n ∧ fC h g ∧ MS g N I tn bt ab be rb rn rf)) n h1 0 0 208 [some (.ref 63), some (.long x), none, some (.int (nI i))] [] := by
    intro j
    induction j with
    | zero =>
      intro i x y hi hy
      skip
      refine a_il3 fM_digest_208 ?_
      refine a_al0 fM_digest_209 ?_
      refine a_gf fM_digest_210 l_M_7 M0 rfl ?_
      refine a_ic fM_digest_213 ?_
      refine a_ia fM_digest_215 M1 (show (59 : Int32) = nI 59 from rfl) (by decide) (by decide) ?_
      refine a_ic_ge fM_digest_216 (fun _ => ?_) (fun c_ => absurd (nI_le (show N 59 ≤ i by omega) (by omega)) c_)
      have e : x = y := hy
      subst e
      refine a_lc fM_digest_293 ?_
      refine a_ll1 fM_digest_296 ?_
      refine a_lmul fM_digest_297 ?_
      refine a_al0 fM_digest_298 ?_
      refine a_gf fM_digest_299 l_M_221 M0 rfl ?_
      refine a_ladd fM_digest_302 ?_
      refine a_lt1 fM_digest_303 (by decide) rfl ?_
      refine a_lc fM_digest_304 ?_
      refine a_ll1 fM_digest_307 ?_
      refine a_lmul fM_digest_308 ?_
      refine a_al0 fM_digest_309 ?_
      refine a_gf fM_digest_310 l_M_29 M0 rfl ?_
      refine a_ladd fM_digest_313 ?_
      exact a_rl fM_digest_314 rfl (⟨rfl, rfl, F1.c, ⟨nx, pl, tk, fa, W1⟩, R1⟩)
    | succ j ih =>
      intro i x y hi hy
      refine a_il3 fM_digest_208 ?_
      refine a_al0 fM_digest_209 ?_
      refine a_gf fM_digest_210 l_M_7 M0 rfl ?_
      refine a_ic fM_digest_213 ?_
      refine a_ia fM_digest_215 M1 (show (59 : Int32) = nI 59 from rfl) (by decide) (by decide) ?_
      refine a_ic_ge fM_digest_216 (fun c_ => absurd c_ (nI_ge (show i < N 59 by omega) (by omega))) (fun _ => ?_)
      refine a_lc fM_digest_219 ?_
      refine a_ll1 fM_digest_222 ?_
      refine a_lmul fM_digest_223 ?_
      refine a_al0 fM_digest_224 ?_
      refine a_gf fM_digest_225 l_M_7 M0 rfl ?_
      refine a_ic fM_digest_228 ?_
      refine a_il3 fM_digest_230 ?_
      refine a_iadd fM_digest_231 ?_
      refine a_ia fM_digest_232 M1 (nI_add 60 _) (by omega) (by decide) ?_
      refine a_i2l fM_digest_233 ?_
      refine a_ladd fM_digest_234 ?_
      refine a_lt1 fM_digest_235 (by decide) rfl ?_
      refine a_lc fM_digest_236 ?_
      refine a_ll1 fM_digest_239 ?_
      refine a_lmul fM_digest_240 ?_
      refine a_al0 fM_digest_241 ?_
      refine a_gf fM_digest_242 l_M_7 M0 rfl ?_
      refine a_ic fM_digest_245 ?_
      refine a_il3 fM_digest_247 ?_
      refine a_iadd fM_digest_248 ?_
      refine a_ia fM_digest_249 M1 (nI_add 66 _) (by omega) (by decide) ?_
      refine a_i2l fM_digest_250 ?_
      refine a_ladd fM_digest_251 ?_
      refine a_lt1 fM_digest_252 (by decide) rfl ?_
      refine a_lc fM_digest_253 ?_
      refine a_ll1 fM_digest_256 ?_
      refine a_lmul fM_digest_257 ?_
      refine a_al0 fM_digest_258 ?_
      refine a_gf fM_digest_259 l_M_7 M0 rfl ?_
      refine a_ic fM_digest_262 ?_
      refine a_il3 fM_digest_264 ?_
      refine a_iadd fM_digest_265 ?_
      refine a_ia fM_digest_266 M1 (nI_add 72 _) (by omega) (by decide) ?_
      refine a_i2l fM_digest_267 ?_
      refine a_ladd fM_digest_268 ?_
      refine a_lt1 fM_digest_269 (by decide) rfl ?_
      refine a_lc fM_digest_270 ?_
      refine a_ll1 fM_digest_273 ?_
      refine a_lmul fM_digest_274 ?_
      refine a_al0 fM_digest_275 ?_
      refine a_gf fM_digest_276 l_M_7 M0 rfl ?_
      refine a_ic fM_digest_279 ?_
      refine a_il3 fM_digest_281 ?_
      refine a_iadd fM_digest_282 ?_
      refine a_ia fM_digest_283 M1 (nI_add 78 _) (by omega) (by decide) ?_
      refine a_i2l fM_digest_284 ?_
      refine a_ladd fM_digest_285 ?_
      refine a_lt1 fM_digest_286 (by decide) rfl ?_
      refine a_inc3 fM_digest_287 (by decide) rfl ?_
      refine a_goto fM_digest_290 ?_
      rw [nI_1]
      exact ih (i + 1) _ y (by omega) (by rw [← hy]; rfl)
  have l4 : ∀ (j i : Nat) (x y : Int64), i + j = N 46 → mxL (fun i => [N (47 + i), N (53 + i)]) j i x = y → fA M_M_digest E (fZ M_M_digest E (fun r k g => r = some (.long (mx (mx (mxL (fun i => [N (60 + i), N (66 + i), N (72 + i), N (78 + i)]) (N 59) 0 y) ab) be)) ∧ k = n ∧ fC h g ∧ MS g N I tn bt ab be rb rn rf)) n h1 0 0 155 [some (.ref 63), some (.long x), none, some (.int (nI i))] [] := by
    intro j
    induction j with
    | zero =>
      intro i x y hi hy
      skip
      refine a_il3 fM_digest_155 ?_
      refine a_al0 fM_digest_156 ?_
      refine a_gf fM_digest_157 l_M_7 M0 rfl ?_
      refine a_ic fM_digest_160 ?_
      refine a_ia fM_digest_162 M1 (show (46 : Int32) = nI 46 from rfl) (by decide) (by decide) ?_
      refine a_ic_ge fM_digest_163 (fun _ => ?_) (fun c_ => absurd (nI_le (show N 46 ≤ i by omega) (by omega)) c_)
      have e : x = y := hy
      subst e
      refine a_ic fM_digest_206 ?_
      refine a_is3 fM_digest_207 (by decide) rfl ?_
      exact l5 (N 59) 0 _ _ (by omega) rfl
    | succ j ih =>
      intro i x y hi hy
      refine a_il3 fM_digest_155 ?_
      refine a_al0 fM_digest_156 ?_
      refine a_gf fM_digest_157 l_M_7 M0 rfl ?_
      refine a_ic fM_digest_160 ?_
      refine a_ia fM_digest_162 M1 (show (46 : Int32) = nI 46 from rfl) (by decide) (by decide) ?_
      refine a_ic_ge fM_digest_163 (fun c_ => absurd c_ (nI_ge (show i < N 46 by omega) (by omega))) (fun _ => ?_)
      refine a_lc fM_digest_166 ?_
      refine a_ll1 fM_digest_169 ?_
      refine a_lmul fM_digest_170 ?_
      refine a_al0 fM_digest_171 ?_
      refine a_gf fM_digest_172 l_M_7 M0 rfl ?_
      refine a_ic fM_digest_175 ?_
      refine a_il3 fM_digest_177 ?_
      refine a_iadd fM_digest_178 ?_
      refine a_ia fM_digest_179 M1 (nI_add 47 _) (by omega) (by decide) ?_
      refine a_i2l fM_digest_180 ?_
      refine a_ladd fM_digest_181 ?_
      refine a_lt1 fM_digest_182 (by decide) rfl ?_
      refine a_lc fM_digest_183 ?_
      refine a_ll1 fM_digest_186 ?_
      refine a_lmul fM_digest_187 ?_
      refine a_al0 fM_digest_188 ?_
      refine a_gf fM_digest_189 l_M_7 M0 rfl ?_
      refine a_ic fM_digest_192 ?_
      refine a_il3 fM_digest_194 ?_
      refine a_iadd fM_digest_195 ?_
      refine a_ia fM_digest_196 M1 (nI_add 53 _) (by omega) (by decide) ?_
      refine a_i2l fM_digest_197 ?_
      refine a_ladd fM_digest_198 ?_
      refine a_lt1 fM_digest_199 (by decide) rfl ?_
      refine a_inc3 fM_digest_200 (by decide) rfl ?_
      refine a_goto fM_digest_203 ?_
      rw [nI_1]
      exact ih (i + 1) _ y (by omega) (by rw [← hy]; rfl)
  have l3 : ∀ (j i : Nat) (x y : Int64), i + j = N 31 → mxL (fun i => [N (32 + i), N (38 + i)]) j i x = y → fA M_M_digest E (fZ M_M_digest E (fun r k g => r = some (.long (mx (mx (mxL (fun i => [N (60 + i), N (66 + i), N (72 + i), N (78 + i)]) (N 59) 0 (mxL (fun i => [N (47 + i), N (53 + i)]) (N 46) 0 y)) ab) be)) ∧ k = n ∧ fC h g ∧ MS g N I tn bt ab be rb rn rf)) n h1 0 0 102 [some (.ref 63), some (.long x), none, some (.int (nI i))] [] := by
    intro j
    induction j with
    | zero =>
      intro i x y hi hy
      skip
      refine a_il3 fM_digest_102 ?_
      refine a_al0 fM_digest_103 ?_
      refine a_gf fM_digest_104 l_M_7 M0 rfl ?_
      refine a_ic fM_digest_107 ?_
      refine a_ia fM_digest_109 M1 (show (31 : Int32) = nI 31 from rfl) (by decide) (by decide) ?_
      refine a_ic_ge fM_digest_110 (fun _ => ?_) (fun c_ => absurd (nI_le (show N 31 ≤ i by omega) (by omega)) c_)
      have e : x = y := hy
      subst e
      refine a_ic fM_digest_153 ?_
      refine a_is3 fM_digest_154 (by decide) rfl ?_
      exact l4 (N 46) 0 _ _ (by omega) rfl
    | succ j ih =>
      intro i x y hi hy
      refine a_il3 fM_digest_102 ?_
      refine a_al0 fM_digest_103 ?_
      refine a_gf fM_digest_104 l_M_7 M0 rfl ?_
      refine a_ic fM_digest_107 ?_
      refine a_ia fM_digest_109 M1 (show (31 : Int32) = nI 31 from rfl) (by decide) (by decide) ?_
      refine a_ic_ge fM_digest_110 (fun c_ => absurd c_ (nI_ge (show i < N 31 by omega) (by omega))) (fun _ => ?_)
      refine a_lc fM_digest_113 ?_
      refine a_ll1 fM_digest_116 ?_
      refine a_lmul fM_digest_117 ?_
      refine a_al0 fM_digest_118 ?_
      refine a_gf fM_digest_119 l_M_7 M0 rfl ?_
      refine a_ic fM_digest_122 ?_
      refine a_il3 fM_digest_124 ?_
      refine a_iadd fM_digest_125 ?_
      refine a_ia fM_digest_126 M1 (nI_add 32 _) (by omega) (by decide) ?_
      refine a_i2l fM_digest_127 ?_
      refine a_ladd fM_digest_128 ?_
      refine a_lt1 fM_digest_129 (by decide) rfl ?_
      refine a_lc fM_digest_130 ?_
      refine a_ll1 fM_digest_133 ?_
      refine a_lmul fM_digest_134 ?_
      refine a_al0 fM_digest_135 ?_
      refine a_gf fM_digest_136 l_M_7 M0 rfl ?_
      refine a_ic fM_digest_139 ?_
      refine a_il3 fM_digest_141 ?_
      refine a_iadd fM_digest_142 ?_
      refine a_ia fM_digest_143 M1 (nI_add 38 _) (by omega) (by decide) ?_
      refine a_i2l fM_digest_144 ?_
      refine a_ladd fM_digest_145 ?_
      refine a_lt1 fM_digest_146 (by decide) rfl ?_
      refine a_inc3 fM_digest_147 (by decide) rfl ?_
      refine a_goto fM_digest_150 ?_
      rw [nI_1]
      exact ih (i + 1) _ y (by omega) (by rw [← hy]; rfl)
  have l2 : ∀ (j i : Nat) (x y : Int64), i + j = 10 → mxL (fun i => [N i, N (10 + i), N (20 + i)]) j i x = y → fA M_M_digest E (fZ M_M_digest E (fun r k g => r = some (.long (mx (mx (mxL (fun i => [N (60 + i), N (66 + i), N (72 + i), N (78 + i)]) (N 59) 0 (mxL (fun i => [N (47 + i), N (53 + i)]) (N 46) 0 (mxL (fun i => [N (32 + i), N (38 + i)]) (N 31) 0 y))) ab) be)) ∧ k = n ∧ fC h g ∧ MS g N I tn bt ab be rb rn rf)) n h1 0 0 38 [some (.ref 63), some (.long x), none, some (.int (nI i))] [] := by
    intro j
    induction j with
    | zero =>
      intro i x y hi hy
      obtain rfl : i = 10 := by omega
      refine a_il3 fM_digest_38 ?_
      refine a_ic fM_digest_39 ?_
      refine a_ic_ge fM_digest_41 (fun _ => ?_) (fun c_ => absurd (Int32.le_refl _) c_)
      have e : x = y := hy
      subst e
      refine a_ic fM_digest_100 ?_
      refine a_is3 fM_digest_101 (by decide) rfl ?_
      exact l3 (N 31) 0 _ _ (by omega) rfl
    | succ j ih =>
      intro i x y hi hy
      refine a_il3 fM_digest_38 ?_
      refine a_ic fM_digest_39 ?_
      refine a_ic_ge fM_digest_41 (fun c_ => absurd c_ (nI_ge (b := 10) (by omega) (by decide))) (fun _ => ?_)
      refine a_lc fM_digest_44 ?_
      refine a_ll1 fM_digest_47 ?_
      refine a_lmul fM_digest_48 ?_
      refine a_al0 fM_digest_49 ?_
      refine a_gf fM_digest_50 l_M_7 M0 rfl ?_
      refine a_ic fM_digest_53 ?_
      refine a_il3 fM_digest_54 ?_
      refine a_iadd fM_digest_55 ?_
      refine a_ia fM_digest_56 M1 (Int32.zero_add _) (by omega) (by decide) ?_
      refine a_i2l fM_digest_57 ?_
      refine a_ladd fM_digest_58 ?_
      refine a_lt1 fM_digest_59 (by decide) rfl ?_
      refine a_lc fM_digest_60 ?_
      refine a_ll1 fM_digest_63 ?_
      refine a_lmul fM_digest_64 ?_
      refine a_al0 fM_digest_65 ?_
      refine a_gf fM_digest_66 l_M_7 M0 rfl ?_
      refine a_ic fM_digest_69 ?_
      refine a_il3 fM_digest_71 ?_
      refine a_iadd fM_digest_72 ?_
      refine a_ia fM_digest_73 M1 (nI_add 10 _) (by omega) (by decide) ?_
      refine a_i2l fM_digest_74 ?_
      refine a_ladd fM_digest_75 ?_
      refine a_lt1 fM_digest_76 (by decide) rfl ?_
      refine a_lc fM_digest_77 ?_
      refine a_ll1 fM_digest_80 ?_
      refine a_lmul fM_digest_81 ?_
      refine a_al0 fM_digest_82 ?_
      refine a_gf fM_digest_83 l_M_7 M0 rfl ?_
      refine a_ic fM_digest_86 ?_
      refine a_il3 fM_digest_88 ?_
      refine a_iadd fM_digest_89 ?_
      refine a_ia fM_digest_90 M1 (nI_add 20 _) (by omega) (by decide) ?_
      refine a_i2l fM_digest_91 ?_
      refine a_ladd fM_digest_92 ?_
      refine a_lt1 fM_digest_93 (by decide) rfl ?_
      refine a_inc3 fM_digest_94 (by decide) rfl ?_
      refine a_goto fM_digest_97 ?_
      rw [nI_1]
      exact ih (i + 1) _ y (by omega) (by rw [← hy]; rfl)
  have l1 : ∀ (j i : Nat) (x y : Int64), i + j = 9 → mxL (fun w => [cwN N tn w]) j i x = y → fA M_M_digest E (fZ M_M_digest E (fun r k g => r = some (.long (mx (mx (mxL (fun i => [N (60 + i), N (66 + i), N (72 + i), N (78 + i)]) (N 59) 0 (mxL (fun i => [N (47 + i), N (53 + i)]) (N 46) 0 (mxL (fun i => [N (32 + i), N (38 + i)]) (N 31) 0 (mxL (fun i => [N i, N (10 + i), N (20 + i)]) 10 0 y)))) ab) be)) ∧ k = n ∧ fC h g ∧ MS g N I tn bt ab be rb rn rf)) n h1 0 0 11 [some (.ref 63), some (.long x), none, some (.int (nI i))] [] := by
    intro j
    induction j with
    | zero =>
      intro i x y hi hy
      obtain rfl : i = 9 := by omega
      refine a_il3 fM_digest_11 ?_
      refine a_ic fM_digest_12 ?_
      refine a_ic_gt fM_digest_14 (fun _ => ?_) (fun c_ => absurd (by decide) c_)
      have e : x = y := hy
      subst e
      refine a_ic fM_digest_36 ?_
      refine a_is3 fM_digest_37 (by decide) rfl ?_
      exact l2 10 0 _ _ (by omega) rfl
    | succ j ih =>
      intro i x y hi hy
      refine a_il3 fM_digest_11 ?_
      refine a_ic fM_digest_12 ?_
      refine a_ic_gt fM_digest_14 (fun c_ => absurd c_ (fun z => absurd ((nI_ltI (a := 8) (by decide) (by omega)).mp z) (by omega))) (fun _ => ?_)
      refine a_lc fM_digest_17 ?_
      refine a_ll1 fM_digest_20 ?_
      refine a_lmul fM_digest_21 ?_
      refine a_al0 fM_digest_22 ?_
      refine a_il3 fM_digest_23 ?_
      refine a_V1V fM_digest_24 k_M_238 m_M_counted ⟨by decide, by decide⟩ M0 rfl ⟨rfl, rfl⟩ (Nat.le_of_ble_eq_true rfl) (c_Mcounted (w := i) M0 M1 (by omega)) ?_
      refine a_i2l fM_digest_27 ?_
      refine a_ladd fM_digest_28 ?_
      refine a_lt1 fM_digest_29 (by decide) rfl ?_
      refine a_inc3 fM_digest_30 (by decide) rfl ?_
      refine a_goto fM_digest_33 ?_
      rw [nI_1]
      exact ih (i + 1) _ y (by omega) hy
  refine a_lc fM_digest_5 ?_
  refine a_lt1 fM_digest_8 (by decide) rfl ?_
  refine a_ic fM_digest_9 ?_
  refine a_is3 fM_digest_10 (by decide) rfl ?_
  exact l1 9 0 _ _ (by omega) rfl
end P7
