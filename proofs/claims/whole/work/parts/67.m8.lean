/-! odds, years, images, the constructor -/
def smG (K : Nat → Nat) (D free F : Nat) : Nat → List Nat → Nat
  | _, [] => 0
  | k, f :: r => (if f = F ∧ free / 2 ^ k % 2 = 0 then wr (K F) k D else 0) + smG K D free F (k + 1) r
theorem wfr_sum {K : Nat → Nat} {D free F : Nat} : ∀ (r : List Nat) (k : Nat) (W : Nat → Nat), wfr K D free k r W F = W F + smG K D free F k r := by
  intro r
  induction r with
  | nil => intro k W; rfl
  | cons f r ih =>
    intro k W
    simp only [wfr, smG]
    by_cases c2 : free / 2 ^ k % 2 = 0
    · rw [if_pos c2, ih]
      by_cases c : f = F
      · subst c; rw [up_s, if_pos ⟨rfl, c2⟩]; omega
      · rw [vn (Ne.symm c), if_neg (fun z => c z.1)]; omega
    · rw [if_neg c2, ih, if_neg (fun z => c2 z.2)]; omega
theorem smG_le {K : Nat → Nat} {D free F : Nat} : ∀ (r : List Nat) (k : Nat), k + r.length ≤ 4 → smG K D free F k r ≤ 6 * r.length := by
  intro r
  induction r with
  | nil => intro k _; exact Nat.le_refl _
  | cons f r ih =>
    intro k hk
    simp only [List.length_cons] at hk
    have := ih (k + 1) (by omega)
    have h6 : wr (K F) k D ≤ 6 := wr_le (by omega)
    simp only [smG, List.length_cons]
    split <;> omega
theorem wys_0 {c f : Nat} : ∀ (j k : Nat), wys c f j k 0 = 0
  | 0, _ => rfl
  | j + 1, k => by simp only [wys, Nat.zero_mul]; exact wys_0 j (k + 1)
section M8
variable {E : eT} {n : Nat} {h : hT} {c : mT} {th mn : Int32} {N : Nat → Nat}
theorem c_Mgcd {a b : Nat} (ha : a < 2 ^ 63) (hb : b < 2 ^ 63) : fE M_M_gcd E [.long (lN a), .long (lN b)] n h (eV (.long (lN (Nat.gcd a b))) n h) := by
  have loop : ∀ (y x : Nat) (x8 x9 : Option Value), x < 2 ^ 63 → y < 2 ^ 63 → Nat.gcd x y = Nat.gcd a b → fA M_M_gcd E (fZ M_M_gcd E (eV (.long (lN (Nat.gcd a b))) n h)) n h 0 0 6 [some (.long (lN a)), none, some (.long (lN b)), none, some (.long (lN x)), none, some (.long (lN y)), none, x8, x9] [] := by
    intro y
    induction y using Nat.strongRecOn with
    | _ y ih =>
      intro x x8 x9 hx hy hg
      by_cases c9 : y = 0
      · subst c9
        refine a_ll6 fM_gcd_6 ?_
        refine a_lc fM_gcd_8 ?_
        refine a_lcmp fM_gcd_9 ?_
        refine a_if_eq fM_gcd_10 (fun _ => ?_) (fun c_ => absurd ((lg_cmp_eq _ _).mpr rfl) c_)
        refine a_ll4 fM_gcd_31 ?_
        exact a_rl fM_gcd_33 rfl (⟨svl (by rw [← hg, Nat.gcd_zero_right]), rfl, rfl⟩)
      · have nz : ¬ lN y = 0 := fun z => c9 ((pk_lEQ (b := 0) hy (by decide)).mp z)
        refine a_ll6 fM_gcd_6 ?_
        refine a_lc fM_gcd_8 ?_
        refine a_lcmp fM_gcd_9 ?_
        refine a_if_eq fM_gcd_10 (fun c_ => absurd c_ (fun z => nz ((lg_cmp_eq _ _).mp z))) (fun _ => ?_)
        refine a_ll4 fM_gcd_13 ?_
        refine a_ll6 fM_gcd_15 ?_
        refine a_lrem fM_gcd_17 nz ?_
        rw [pk_lRem hx (by omega) hy]
        refine a_lt8 fM_gcd_18 (by decide) rfl ?_
        refine a_ll6 fM_gcd_20 ?_
        refine a_lt4 fM_gcd_22 (by decide) rfl ?_
        refine a_ll8 fM_gcd_24 ?_
        refine a_lt6 fM_gcd_26 (by decide) rfl ?_
        refine a_goto fM_gcd_28 ?_
        have hm := Nat.mod_lt x (show 0 < y by omega)
        exact ih (x % y) hm y _ _ hy (by omega) (by rw [← hg, Nat.gcd_comm x y, Nat.gcd_rec y x, Nat.gcd_comm])
  refine fE.of (L := [some (.long (lN a)), none, some (.long (lN b)), none, none, none, none, none, none, none]) (by decide +kernel) (Nat.le_of_ble_eq_true rfl) rfl ?_
  refine a_ll0 fM_gcd_0 ?_
  refine a_lt4 fM_gcd_1 (by decide) rfl ?_
  refine a_ll2 fM_gcd_3 ?_
  refine a_lt6 fM_gcd_4 (by decide) rfl ?_
  exact loop b a none none ha hb rfl
theorem c_McanFree {v x free : Nat} (M : mM c h) (m1 : h 64 = nA 189 N) (O : okC N) (hv : v < 100) (hx : x < 100) (hf : free < 64) : fE M_M_canFree E [.ref 63, .int (nI v), .int (nI x), .int (nI free)] n h (qI (fun r k g => r = bI (cfR N v x free) ∧ k = n ∧ mM c g ∧ mL h g)) := by
  obtain ⟨⟨th, mn, m0⟩, f0, m8⟩ := M
  refine fE.of (L := [some (.ref 63), some (.int (nI v)), some (.int (nI x)), some (.int (nI free)), none, none, none, none]) (by decide +kernel) (Nat.le_of_ble_eq_true rfl) rfl ?_
  refine a_al0 fM_canFree_0 ?_
  refine a_il1 fM_canFree_1 ?_
  refine a_il2 fM_canFree_2 ?_
  refine a_V2Q fM_canFree_3 k_M_62 m_M_line ⟨by decide, by decide⟩ m0 rfl ⟨rfl, rfl⟩ (Nat.le_of_ble_eq_true rfl) (c_Mline m0 m8 hv hx) (fun n1 h1 p1 => ?_)
  obtain ⟨hn1, g2, q1, hg2⟩ := p1
  subst n1
  have M0 : h1 63 = mO c th (nI (sgn v x).length) := by rw [hg2]; exact up_n (by decide) up_s
  have M8 : h1 71 = ia 4 g2 := by rw [hg2]; exact up_s
  have F1 : mL h h1 := by rw [hg2]; exact fun a x1 x2 => up_n x2 (up_n x1 rfl)
  clear hg2
  have M1 : h1 64 = nA 189 N := (F1 64 (by decide) (by decide)).trans m1
  have h4 := q1.1
  have P9 : cfR N v x free ↔ ∀ f ∈ sgn v x, N (20 + f) + smG (sl N 0 10) (N 30) free f 0 (sgn v x) ≤ N (10 + f) := by
    have e : ∀ f ∈ sgn v x, (wfr (sl N 0 10) (N 30) free 0 (sgn v x) (sl N 20 10) f ≤ sl N 10 10 f ↔ N (20 + f) + smG (sl N 0 10) (N 30) free f 0 (sgn v x) ≤ N (10 + f)) := fun f hf => by
      have := sg_lt q1 f hf
      rw [wfr_sum, sl_lt this, sl_lt this]
    exact ⟨fun z f hf => (e f hf).mp (z f hf), fun z f hf => (e f hf).mpr (z f hf)⟩
  have inner : ∀ (F i : Nat) (q : Bool) (T : Nat), F < 10 → g2 i = nI F → i < (sgn v x).length → fA M_M_canFree E (fZ M_M_canFree E (qI (fun r k g => r = bI (cfR N v x free) ∧ k = n ∧ mM c g ∧ mL h g))) n h1 0 0 108 [some (.ref 63), some (.int (nI v)), some (.int (nI x)), some (.int (nI free)), some (.int (bI (q = true))), some (.int (nI i)), some (.int (nI T)), some (.int (nI (sgn v x).length))] [] → ∀ (r : List Nat) (e t0 : Nat), (sgn v x).drop e = r → e ≤ (sgn v x).length → t0 + smG (sl N 0 10) (N 30) free F e r = T → fA M_M_canFree E (fZ M_M_canFree E (qI (fun r k g => r = bI (cfR N v x free) ∧ k = n ∧ mM c g ∧ mL h g))) n h1 0 0 41 [some (.ref 63), some (.int (nI v)), some (.int (nI x)), some (.int (nI free)), some (.int (bI (q = true))), some (.int (nI i)), some (.int (nI t0)), some (.int (nI e))] [] := by
    intro F i q T hF hi0 hi1 kk r
    induction r with
    | nil =>
      intro e t0 hr hi he
      refine a_il7 fM_canFree_41 ?_
      refine a_al0 fM_canFree_43 ?_
      refine a_gf fM_canFree_44 l_M_51 M0 rfl ?_
      refine a_ic_ge fM_canFree_47 (fun _ => ?_) (fun c_ => absurd (nI_le (dropn hr) (by omega)) c_)
      rw [show e = (sgn v x).length by have := dropn hr; omega, show t0 = T by rw [← he]; rfl]
      exact kk
    | cons f r ih =>
      intro e t0 hr hi he
      obtain ⟨r1, r2, r3⟩ := dropc hr
      obtain ⟨g1, g3⟩ := q1.2 e f r2
      refine a_il7 fM_canFree_41 ?_
      refine a_al0 fM_canFree_43 ?_
      refine a_gf fM_canFree_44 l_M_51 M0 rfl ?_
      refine a_ic_ge fM_canFree_47 (fun c_ => absurd c_ (nI_ge r1 (by omega))) (fun _ => ?_)
      refine a_il6 fM_canFree_50 ?_
      refine a_al0 fM_canFree_52 ?_
      refine a_gf fM_canFree_53 l_M_36 M0 rfl ?_
      refine a_il7 fM_canFree_56 ?_
      refine a_ia fM_canFree_58 M8 rfl (by omega) (by decide) ?_
      refine a_al0 fM_canFree_59 ?_
      refine a_gf fM_canFree_60 l_M_36 M0 rfl ?_
      refine a_il5 fM_canFree_63 ?_
      refine a_ia fM_canFree_65 M8 rfl (by omega) (by decide) ?_
      rw [g1, hi0]
      by_cases c9 : f = F
      · refine a_ic_ne fM_canFree_66 (fun c_ => absurd (by rw [c9]) c_) (fun _ => ?_)
        refine a_il3 fM_canFree_69 ?_
        refine a_il7 fM_canFree_70 ?_
        refine a_ishr fM_canFree_72 ?_
        refine a_ic fM_canFree_73 ?_
        refine a_iand fM_canFree_74 ?_
        rw [nbit free e hf (by omega)]
        by_cases cb : free / 2 ^ e % 2 = 0
        · refine a_if_ne fM_canFree_75 (fun c_ => absurd (congrArg nI cb) c_) (fun _ => ?_)
          refine a_al0 fM_canFree_78 ?_
          refine a_al0 fM_canFree_79 ?_
          refine a_gf fM_canFree_80 l_M_7 M0 rfl ?_
          refine a_il7 fM_canFree_83 ?_
          refine a_al0 fM_canFree_85 ?_
          refine a_gf fM_canFree_86 l_M_7 M0 rfl ?_
          refine a_ic fM_canFree_89 ?_
          refine a_ia fM_canFree_91 M1 (show (30 : Int32) = nI 30 from rfl) (by decide) (by decide) ?_
          refine a_V3V fM_canFree_92 k_M_66 m_M_wearsBy ⟨by decide, by decide⟩ M0 rfl ⟨rfl, rfl⟩ (Nat.le_of_ble_eq_true rfl) (c_MwearsBy (a := 64) (D := N 30) M0 M8 M1 g1 g3 (by omega) ((O.1 _ g3).1) O.D) ?_
          refine a_goto fM_canFree_95 ?_
          refine a_iadd fM_canFree_99 ?_
          refine a_is6 fM_canFree_100 (by decide) rfl ?_
          refine a_inc7 fM_canFree_102 (by decide) rfl ?_
          refine a_goto fM_canFree_105 ?_
          rw [nI_1, nI_add]
          exact ih (e + 1) _ r3 r1 (by subst c9; rw [← he]; simp only [smG]; rw [if_pos ⟨trivial, cb⟩, sl0 g3]; omega)
        · refine a_if_ne fM_canFree_75 (fun _ => ?_) (fun c_ => absurd c_ (nI_ne0 (by omega) (by omega)))
          refine a_ic fM_canFree_98 ?_
          refine a_iadd fM_canFree_99 ?_
          refine a_is6 fM_canFree_100 (by decide) rfl ?_
          refine a_inc7 fM_canFree_102 (by decide) rfl ?_
          refine a_goto fM_canFree_105 ?_
          rw [nI_1, show nI t0 + 0 = nI t0 from nI_add t0 0]
          exact ih (e + 1) _ r3 r1 (by rw [← he]; simp only [smG]; rw [if_neg (fun z => cb z.2)]; omega)
      · refine a_ic_ne fM_canFree_66 (fun _ => ?_) (fun c_ => absurd c_ (fun z => c9 ((nI_eq (by omega) (by omega)).mp z)))
        refine a_ic fM_canFree_98 ?_
        refine a_iadd fM_canFree_99 ?_
        refine a_is6 fM_canFree_100 (by decide) rfl ?_
        refine a_inc7 fM_canFree_102 (by decide) rfl ?_
        refine a_goto fM_canFree_105 ?_
        rw [nI_1, show nI t0 + 0 = nI t0 from nI_add t0 0]
        exact ih (e + 1) _ r3 r1 (by rw [← he]; simp only [smG]; rw [if_neg (fun z => c9 z.1)]; omega)
  have loop : ∀ (r : List Nat) (i : Nat) (q : Bool) (x6 x7 : Option Value), (sgn v x).drop i = r → i ≤ (sgn v x).length → ((q = true ∧ ∀ f ∈ r, N (20 + f) + smG (sl N 0 10) (N 30) free f 0 (sgn v x) ≤ N (10 + f)) ↔ cfR N v x free) → fA M_M_canFree E (fZ M_M_canFree E (qI (fun r k g => r = bI (cfR N v x free) ∧ k = n ∧ mM c g ∧ mL h g))) n h1 0 0 12 [some (.ref 63), some (.int (nI v)), some (.int (nI x)), some (.int (nI free)), some (.int (bI (q = true))), some (.int (nI i)), x6, x7] [] := by
    intro r
    induction r with
    | nil =>
      intro i q x6 x7 hr hi he
      refine a_il5 fM_canFree_12 ?_
      refine a_al0 fM_canFree_14 ?_
      refine a_gf fM_canFree_15 l_M_51 M0 rfl ?_
      refine a_ic_ge fM_canFree_18 (fun _ => ?_) (fun c_ => absurd (nI_le (dropn hr) (by omega)) c_)
      refine a_il4 fM_canFree_146 ?_
      exact a_rz fM_canFree_148 rfl (bI_n _) ⟨_, rfl, bI_cg ⟨fun z => he.mp ⟨z, fun _ z => by cases z⟩, fun z => (he.mpr z).1⟩, rfl, ⟨⟨_, _, M0⟩, _, M8⟩, F1⟩
    | cons f r ih =>
      intro i q x6 x7 hr hi he
      obtain ⟨r1, r2, r3⟩ := dropc hr
      obtain ⟨g1, g3⟩ := q1.2 i f r2
      have b6 : smG (sl N 0 10) (N 30) free f 0 (sgn v x) ≤ 24 := Nat.le_trans (smG_le _ 0 (by omega)) (by omega)
      have b7 := O.1 f g3
      refine a_il5 fM_canFree_12 ?_
      refine a_al0 fM_canFree_14 ?_
      refine a_gf fM_canFree_15 l_M_51 M0 rfl ?_
      refine a_ic_ge fM_canFree_18 (fun c_ => absurd c_ (nI_ge r1 (by omega))) (fun _ => ?_)
      refine a_al0 fM_canFree_21 ?_
      refine a_gf fM_canFree_22 l_M_7 M0 rfl ?_
      refine a_ic fM_canFree_25 ?_
      refine a_al0 fM_canFree_27 ?_
      refine a_gf fM_canFree_28 l_M_36 M0 rfl ?_
      refine a_il5 fM_canFree_31 ?_
      refine a_ia fM_canFree_33 M8 rfl (by omega) (by decide) ?_
      rw [g1]
      refine a_iadd fM_canFree_34 ?_
      refine a_ia fM_canFree_35 M1 (show (20 : Int32) + nI f = nI (20 + f) from nI_add 20 f) (by omega) (by decide) ?_
      refine a_is6 fM_canFree_36 (by decide) rfl ?_
      refine a_ic fM_canFree_38 ?_
      refine a_is7 fM_canFree_39 (by decide) rfl ?_
      refine inner f i q (N (20 + f) + smG (sl N 0 10) (N 30) free f 0 (sgn v x)) g3 g1 r1 ?_ (sgn v x) 0 (N (20 + f)) rfl (Nat.zero_le _) rfl
      have nx : ∀ (q2 : Bool) (y6 y7 : Option Value), ((q2 = true ∧ ∀ f ∈ r, N (20 + f) + smG (sl N 0 10) (N 30) free f 0 (sgn v x) ≤ N (10 + f)) ↔ cfR N v x free) → fA M_M_canFree E (fZ M_M_canFree E (qI (fun r k g => r = bI (cfR N v x free) ∧ k = n ∧ mM c g ∧ mL h g))) n h1 0 0 138 [some (.ref 63), some (.int (nI v)), some (.int (nI x)), some (.int (nI free)), some (.int (bI (q = true))), some (.int (nI i)), y6, y7] [.int (bI (q2 = true))] := by
        intro q2 y6 y7 hq2
        refine a_is4 fM_canFree_138 (by decide) rfl ?_
        refine a_inc5 fM_canFree_140 (by decide) rfl ?_
        refine a_goto fM_canFree_143 ?_
        rw [nI_1]
        exact ih (i + 1) q2 _ _ r3 r1 hq2
      by_cases cq : q = true
      · refine a_il4 fM_canFree_108 ?_
        refine a_if_eq fM_canFree_110 (fun c_ => absurd c_ (fun z => by rw [bI_t cq] at z; exact absurd z (by decide))) (fun _ => ?_)
        refine a_il6 fM_canFree_113 ?_
        refine a_al0 fM_canFree_115 ?_
        refine a_gf fM_canFree_116 l_M_7 M0 rfl ?_
        refine a_ic fM_canFree_119 ?_
        refine a_al0 fM_canFree_121 ?_
        refine a_gf fM_canFree_122 l_M_36 M0 rfl ?_
        refine a_il5 fM_canFree_125 ?_
        refine a_ia fM_canFree_127 M8 rfl (by omega) (by decide) ?_
        rw [g1]
        refine a_iadd fM_canFree_128 ?_
        refine a_ia fM_canFree_129 M1 (show (10 : Int32) + nI f = nI (10 + f) from nI_add 10 f) (by omega) (by decide) ?_
        by_cases cP : N (20 + f) + smG (sl N 0 10) (N 30) free f 0 (sgn v x) ≤ N (10 + f)
        · refine a_ic_gt fM_canFree_130 (fun c_ => absurd c_ (fun z => absurd ((nI_ltI (by omega) (by omega)).mp z) (by omega))) (fun _ => ?_)
          refine a_ic fM_canFree_133 ?_
          refine a_goto fM_canFree_134 ?_
          refine nx true _ _ (Iff.trans ⟨fun z => ⟨cq, fun y hy => ?_⟩, fun z => ⟨rfl, fun y hy => z.2 y (List.mem_cons_of_mem _ hy)⟩⟩ he)
          rcases List.mem_cons.mp hy with rfl | hy
          · exact cP
          · exact z.2 y hy
        · refine a_ic_gt fM_canFree_130 (fun _ => ?_) (fun c_ => absurd (nI_lt (by omega) (by omega)) c_)
          refine a_ic fM_canFree_137 ?_
          exact nx false _ _ (Iff.trans ⟨fun z => (by cases z.1), fun z => absurd (z.2 f List.mem_cons_self) cP⟩ he)
      · refine a_il4 fM_canFree_108 ?_
        refine a_if_eq fM_canFree_110 (fun _ => ?_) (fun c_ => absurd (by rw [bI_f cq]) c_)
        refine a_ic fM_canFree_137 ?_
        exact nx false _ _ (Iff.trans ⟨fun z => (by cases z.1), fun z => absurd z.1 cq⟩ he)
  refine a_ic fM_canFree_6 ?_
  refine a_is4 fM_canFree_7 (by decide) rfl ?_
  refine a_ic fM_canFree_9 ?_
  refine a_is5 fM_canFree_10 (by decide) rfl ?_
  exact loop (sgn v x) 0 true none none rfl (Nat.zero_le _) ⟨fun z => P9.mpr z.2, fun z => ⟨rfl, P9.mp z⟩⟩
end M8
section P8
variable {E : eT} {n : Nat} {h : hT} {N : Nat → Nat} {I : Nat → Option (Nat → Nat)} {tn : Nat} {bt : Nat → Nat} {ab be rb rn rf : Nat}
theorem m_odds_bad {v x c9 : Int32} (X : MS h N I tn bt ab be rb rn rf) (hb : ¬ ((0 ≤ v ∧ v ≤ 99) ∧ (0 ≤ x ∧ x ≤ 99) ∧ (0 ≤ c9 ∧ c9 ≤ 10))) : fE M_M_odds E [.ref 63, .int v, .int x, .int c9] n h (qI (fun r k g => r = -2 ∧ k = n ∧ fC h g ∧ MS g N I tn bt ab be (rb + 1) rn rf)) := by
  obtain ⟨⟨nx, pl, tk, fa, ⟨⟨th, mn, m0⟩, f0, m8⟩, w0, kw0, m7⟩, R0⟩ := X
  refine fE.of (L := [some (.ref 63), some (.int (v)), some (.int (x)), some (.int (c9)), none, none, none, none, none, none, none, none, none]) (by decide +kernel) (Nat.le_of_ble_eq_true rfl) rfl ?_
  refine a_al0 fM_odds_0 ?_
  refine a_ic fM_odds_1 ?_
  refine a_pfi0 fM_odds_2 p_M_43 m0 ?_
  obtain ⟨h1, e1, W1, R1, F1⟩ := mThr m0 m8 kw0 m7 R0
  change fA _ _ _ _ (va_up h 63 (mO (nI tn, nx, pl, tk, fa, (nI ab).toInt64, (nI be).toInt64) 0 mn)) _ _ _ _ _
  rw [e1]
  clear e1 R0 m7 m8 m0
  have W2 := W1
  obtain ⟨M2, w1, kw1, M7⟩ := W2
  have M3 := M2
  obtain ⟨⟨th1, mn1, M0⟩, f1, M8⟩ := M3
  have M1 := R1.1.1
  obtain ⟨Rf, M6, r0, r1, r2⟩ := R1.2.2.2.2
  by_cases d0 : ((0 ≤ v ∧ v ≤ 99) ∧ (0 ≤ x ∧ x ≤ 99))
  · refine a_il1 fM_odds_5 ?_
    refine a_il2 fM_odds_6 ?_
    refine a_S2V fM_odds_7 k_M_142 m_M_areLine ⟨by decide, by decide⟩ ⟨rfl, rfl⟩ (Nat.le_of_ble_eq_true rfl) (c_MareLine) ?_
    refine a_if_eq fM_odds_10 (fun c_ => absurd c_ (fun z => by rw [bI_t d0] at z; exact absurd z (by decide))) (fun _ => ?_)
    by_cases d1 : (0 ≤ c9 ∧ c9 ≤ 10)
    · exact absurd ⟨d0.1, d0.2, d1⟩ hb
    · refine a_il3 fM_odds_13 ?_
      refine a_ic fM_odds_14 ?_
      refine a_ic fM_odds_15 ?_
      refine a_S3V fM_odds_17 k_M_70 m_M_in ⟨by decide, by decide⟩ ⟨rfl, rfl⟩ (Nat.le_of_ble_eq_true rfl) (c_Min) ?_
      refine a_if_ne fM_odds_20 (fun c_ => absurd (by rw [bI_f d1]) c_) (fun _ => ?_)
      refine a_al0 fM_odds_23 ?_
      refine a_ic fM_odds_24 ?_
      refine a_V1V fM_odds_25 k_M_74 m_M_refuses ⟨by decide, by decide⟩ M0 rfl ⟨rfl, rfl⟩ (Nat.le_of_ble_eq_true rfl) (c_Mrefuses (w := 0) M0 M6 (by decide)) ?_
      exact a_ri fM_odds_28 rfl (⟨_, rfl, rfl, rfl, F1.c.up (by decide), ⟨nx, pl, tk, fa, W1.up (by decide) (by decide) (by decide)⟩, R1.re0 M6 r0 r1 r2⟩)
  · refine a_il1 fM_odds_5 ?_
    refine a_il2 fM_odds_6 ?_
    refine a_S2V fM_odds_7 k_M_142 m_M_areLine ⟨by decide, by decide⟩ ⟨rfl, rfl⟩ (Nat.le_of_ble_eq_true rfl) (c_MareLine) ?_
    refine a_if_eq fM_odds_10 (fun _ => ?_) (fun c_ => absurd (by rw [bI_f d0]) c_)
    refine a_al0 fM_odds_23 ?_
    refine a_ic fM_odds_24 ?_
    refine a_V1V fM_odds_25 k_M_74 m_M_refuses ⟨by decide, by decide⟩ M0 rfl ⟨rfl, rfl⟩ (Nat.le_of_ble_eq_true rfl) (c_Mrefuses (w := 0) M0 M6 (by decide)) ?_
    exact a_ri fM_odds_28 rfl (⟨_, rfl, rfl, rfl, F1.c.up (by decide), ⟨nx, pl, tk, fa, W1.up (by decide) (by decide) (by decide)⟩, R1.re0 M6 r0 r1 r2⟩)
theorem m_odds {V9 X9 C9 : Nat} (X : MS h N I tn bt ab be rb rn rf) (K : okN N) (h9 : V9 < 100) (h8 : X9 < 100) (h7 : C9 ≤ 10) : fE M_M_odds E [.ref 63, .int (nI V9), .int (nI X9), .int (nI C9)] n h (qI (fun r k g => r = 1 ∧ k = n ∧ fC h g ∧ MS g N I tn bt (odT N V9 X9 C9 / Nat.gcd (10 ^ (sgn V9 X9).length) (odT N V9 X9 C9)) (10 ^ (sgn V9 X9).length / Nat.gcd (10 ^ (sgn V9 X9).length) (odT N V9 X9 C9)) rb rn rf)) := by
  have O := K.c
  have k31 := K.2.2.1.1
  obtain ⟨⟨nx, pl, tk, fa, ⟨⟨th, mn, m0⟩, f0, m8⟩, w0, kw0, m7⟩, R0⟩ := X
  refine fE.of (L := [some (.ref 63), some (.int (nI V9)), some (.int (nI X9)), some (.int (nI C9)), none, none, none, none, none, none, none, none, none]) (by decide +kernel) (Nat.le_of_ble_eq_true rfl) rfl ?_
  refine a_al0 fM_odds_0 ?_
  refine a_ic fM_odds_1 ?_
  refine a_pfi0 fM_odds_2 p_M_43 m0 ?_
  obtain ⟨h1, e1, W1, R1, F1⟩ := mThr m0 m8 kw0 m7 R0
  change fA _ _ _ _ (va_up h 63 (mO (nI tn, nx, pl, tk, fa, (nI ab).toInt64, (nI be).toInt64) 0 mn)) _ _ _ _ _
  rw [e1]
  clear e1 R0 m7 m8 m0
  have W2 := W1
  obtain ⟨M2, w1, kw1, M7⟩ := W2
  have M3 := M2
  obtain ⟨⟨th1, mn1, M0⟩, f1, M8⟩ := M3
  have M1 := R1.1.1
  obtain ⟨Rf, M6, r0, r1, r2⟩ := R1.2.2.2.2
  refine a_il1 fM_odds_5 ?_
  refine a_il2 fM_odds_6 ?_
  refine a_S2V fM_odds_7 k_M_142 m_M_areLine ⟨by decide, by decide⟩ ⟨rfl, rfl⟩ (Nat.le_of_ble_eq_true rfl) (c_MareLine) ?_
  refine a_if_eq fM_odds_10 (fun c_ => absurd c_ (fun z => by rw [bI_t ⟨⟨nI_pos' (by omega), nI_le (b := 99) (by omega) (by decide)⟩, ⟨nI_pos' (by omega), nI_le (b := 99) (by omega) (by decide)⟩⟩] at z; exact absurd z (by decide))) (fun _ => ?_)
  refine a_il3 fM_odds_13 ?_
  refine a_ic fM_odds_14 ?_
  refine a_ic fM_odds_15 ?_
  refine a_S3V fM_odds_17 k_M_70 m_M_in ⟨by decide, by decide⟩ ⟨rfl, rfl⟩ (Nat.le_of_ble_eq_true rfl) (c_Min) ?_
  refine a_if_ne fM_odds_20 (fun _ => ?_) (fun c_ => absurd c_ (fun z => by rw [bI_t ⟨nI_pos' (by omega), nI_le (b := 10) (by omega) (by decide)⟩] at z; exact absurd z (by decide)))
  refine a_al0 fM_odds_29 ?_
  refine a_il1 fM_odds_30 ?_
  refine a_il2 fM_odds_31 ?_
  refine a_V2Q fM_odds_32 k_M_62 m_M_line ⟨by decide, by decide⟩ M0 rfl ⟨rfl, rfl⟩ (Nat.le_of_ble_eq_true rfl) (c_Mline M0 M8 h9 h8) (fun n3 h3 p3 => ?_)
  obtain ⟨hn3, g2, q1, hg2⟩ := p3
  subst n3
  have M03 : h3 63 = mO (nI tn, nx, pl, tk, fa, (nI ab).toInt64, (nI be).toInt64) th1 (nI (sgn V9 X9).length) := by rw [hg2]; exact up_n (by decide) up_s
  have M83 : h3 71 = ia 4 g2 := by rw [hg2]; exact up_s
  have F3 : mL h1 h3 := by rw [hg2]; exact fun a x1 x2 => up_n x2 (up_n x1 rfl)
  clear hg2
  have M23 : mM (nI tn, nx, pl, tk, fa, (nI ab).toInt64, (nI be).toInt64) h3 := ⟨⟨_, _, M03⟩, _, M83⟩
  have l4 := q1.1
  have p4 : 2 ^ (sgn V9 X9).length ≤ 16 := Nat.le_trans (Nat.pow_le_pow_right (by decide) l4) (by decide)
  have t4 : 10 ^ (sgn V9 X9).length ≤ 10000 := Nat.le_trans (Nat.pow_le_pow_right (by decide) l4) (by decide)
  have t0 : 0 < 10 ^ (sgn V9 X9).length := Nat.pow_pos (by decide)
  have od := odT_le (N := N) (v := V9) (x := X9) h7
  refine a_al0 fM_odds_35 ?_
  refine a_gf fM_odds_36 l_M_51 M03 rfl ?_
  refine a_is4 fM_odds_39 (by decide) rfl ?_
  refine a_lc fM_odds_41 ?_
  refine a_lt5 fM_odds_42 (by decide) rfl ?_
  refine a_lc fM_odds_44 ?_
  refine a_lt7 fM_odds_45 (by decide) rfl ?_
  refine a_ic fM_odds_47 ?_
  refine a_is9 fM_odds_48 (by decide) rfl ?_
  have inner : ∀ (g : hT) (free S0 B0 : Nat), free < 16 → (fA M_M_odds E (fZ M_M_odds E (qI (fun r k g => r = 1 ∧ k = n ∧ fC h g ∧ MS g N I tn bt (odT N V9 X9 C9 / Nat.gcd (10 ^ (sgn V9 X9).length) (odT N V9 X9 C9)) (10 ^ (sgn V9 X9).length / Nat.gcd (10 ^ (sgn V9 X9).length) (odT N V9 X9 C9)) rb rn rf))) n g 0 0 143 [some (.ref 63), some (.int (nI V9)), some (.int (nI X9)), some (.int (nI C9)), some (.int (nI (sgn V9 X9).length)), some (.long (lN S0)), none, some (.long (lN (10 ^ (sgn V9 X9).length))), none, some (.int (nI free)), some (.long (lN (wys C9 free (sgn V9 X9).length 0 B0))), none, some (.int (nI (sgn V9 X9).length))] []) → ∀ (j k b : Nat), k + j = (sgn V9 X9).length → wys C9 free j k b = wys C9 free (sgn V9 X9).length 0 B0 → fA M_M_odds E (fZ M_M_odds E (qI (fun r k g => r = 1 ∧ k = n ∧ fC h g ∧ MS g N I tn bt (odT N V9 X9 C9 / Nat.gcd (10 ^ (sgn V9 X9).length) (odT N V9 X9 C9)) (10 ^ (sgn V9 X9).length / Nat.gcd (10 ^ (sgn V9 X9).length) (odT N V9 X9 C9)) rb rn rf))) n g 0 0 104 [some (.ref 63), some (.int (nI V9)), some (.int (nI X9)), some (.int (nI C9)), some (.int (nI (sgn V9 X9).length)), some (.long (lN S0)), none, some (.long (lN (10 ^ (sgn V9 X9).length))), none, some (.int (nI free)), some (.long (lN b)), none, some (.int (nI k))] [] := by
    intro g free S0 B0 hfr kk j
    induction j with
    | zero =>
      intro k b hk he
      obtain rfl : k = (sgn V9 X9).length := by omega
      refine a_il12 fM_odds_104 ?_
      refine a_il4 fM_odds_106 ?_
      refine a_ic_ge fM_odds_108 (fun _ => ?_) (fun c_ => absurd (Int32.le_refl _) c_)
      have he2 : b = wys C9 free (sgn V9 X9).length 0 B0 := he
      subst he2
      exact kk
    | succ j ih =>
      intro k b hk he
      refine a_il12 fM_odds_104 ?_
      refine a_il4 fM_odds_106 ?_
      refine a_ic_ge fM_odds_108 (fun c_ => absurd c_ (nI_ge (show k < (sgn V9 X9).length by omega) (by omega))) (fun _ => ?_)
      refine a_ll10 fM_odds_111 ?_
      refine a_il9 fM_odds_113 ?_
      refine a_il12 fM_odds_115 ?_
      refine a_ishr fM_odds_117 ?_
      refine a_ic fM_odds_118 ?_
      refine a_iand fM_odds_119 ?_
      rw [nbit free k (by omega) (by omega)]
      by_cases cb : free / 2 ^ k % 2 = 1
      · refine a_ic fM_odds_120 ?_
        refine a_ic_ne fM_odds_121 (fun c_ => absurd (by rw [cb]; rfl) c_) (fun _ => ?_)
        refine a_il3 fM_odds_124 ?_
        refine a_i2l fM_odds_125 ?_
        refine a_goto fM_odds_126 ?_
        rw [nI_l (by omega)]
        refine a_lmul fM_odds_134 ?_
        rw [lN_mul]
        refine a_lt10 fM_odds_135 (by decide) rfl ?_
        refine a_inc12 fM_odds_137 (by decide) rfl ?_
        refine a_goto fM_odds_140 ?_
        rw [nI_1]
        exact ih (k + 1) _ (by omega) (by rw [← he]; simp only [wys]; rw [if_pos cb])
      · refine a_ic fM_odds_120 ?_
        refine a_ic_ne fM_odds_121 (fun _ => ?_) (fun c_ => absurd c_ (fun z => cb ((nI_eq (b := 1) (by omega) (by decide)).mp z)))
        refine a_ic fM_odds_129 ?_
        refine a_il3 fM_odds_131 ?_
        refine a_isub fM_odds_132 ?_
        rw [show (10 : Int32) - nI C9 = nI (10 - C9) from pk_sub (a := 10) h7]
        refine a_i2l fM_odds_133 ?_
        rw [nI_l (by omega)]
        refine a_lmul fM_odds_134 ?_
        rw [lN_mul]
        refine a_lt10 fM_odds_135 (by decide) rfl ?_
        refine a_inc12 fM_odds_137 (by decide) rfl ?_
        refine a_goto fM_odds_140 ?_
        rw [nI_1]
        exact ih (k + 1) _ (by omega) (by rw [← he]; simp only [wys]; rw [if_neg cb])
  have lf : ∀ (j i S0 : Nat) (g : hT) (x10 x11 x12 : Option Value), i + j = 2 ^ (sgn V9 X9).length → mM (nI tn, nx, pl, tk, fa, (nI ab).toInt64, (nI be).toInt64) g → mL h1 g → lck (fun f => decide (cfR N V9 X9 f)) (fun f => wys C9 f (sgn V9 X9).length 0 1) j i S0 = odT N V9 X9 C9 → fA M_M_odds E (fZ M_M_odds E (qI (fun r k g => r = 1 ∧ k = n ∧ fC h g ∧ MS g N I tn bt (odT N V9 X9 C9 / Nat.gcd (10 ^ (sgn V9 X9).length) (odT N V9 X9 C9)) (10 ^ (sgn V9 X9).length / Nat.gcd (10 ^ (sgn V9 X9).length) (odT N V9 X9 C9)) rb rn rf))) n g 0 0 74 [some (.ref 63), some (.int (nI V9)), some (.int (nI X9)), some (.int (nI C9)), some (.int (nI (sgn V9 X9).length)), some (.long (lN S0)), none, some (.long (lN (10 ^ (sgn V9 X9).length))), none, some (.int (nI i)), x10, x11, x12] [] := by
    intro j
    induction j with
    | zero =>
      intro i S0 g x10 x11 x12 hi M F he
      have he2 : S0 = odT N V9 X9 C9 := he
      subst he2
      have M9 := M
      obtain ⟨⟨th9, mn9, m09⟩, f9, m89⟩ := M9
      refine a_il9 fM_odds_74 ?_
      refine a_ic fM_odds_76 ?_
      refine a_il4 fM_odds_77 ?_
      refine a_ishl fM_odds_79 ?_
      rw [sh6 (sgn V9 X9).length (by omega)]
      refine a_ic_ge fM_odds_80 (fun _ => ?_) (fun c_ => absurd (nI_le (by omega) (by omega)) c_)
      have g0 : 0 < Nat.gcd (odT N V9 X9 C9) (10 ^ (sgn V9 X9).length) := Nat.gcd_pos_of_pos_right _ t0
      have gl : Nat.gcd (odT N V9 X9 C9) (10 ^ (sgn V9 X9).length) ≤ 10 ^ (sgn V9 X9).length := Nat.gcd_le_right _ t0
      have gz : ¬ lN (Nat.gcd (odT N V9 X9 C9) (10 ^ (sgn V9 X9).length)) = 0 := fun z => by have := (pk_lEQ (b := 0) (by omega) (by decide)).mp z; omega
      refine a_ll5 fM_odds_156 ?_
      refine a_ll7 fM_odds_158 ?_
      refine a_S2V fM_odds_160 k_M_217 m_M_gcd ⟨by decide, by decide⟩ ⟨rfl, rfl⟩ (Nat.le_of_ble_eq_true rfl) (c_Mgcd (a := odT N V9 X9 C9) (b := 10 ^ (sgn V9 X9).length) (by omega) (by omega)) ?_
      refine a_lt9 fM_odds_163 (by decide) rfl ?_
      refine a_al0 fM_odds_165 ?_
      refine a_ll5 fM_odds_166 ?_
      refine a_ll9 fM_odds_168 ?_
      refine a_ldiv fM_odds_170 gz ?_
      rw [pk_lDiv (by omega) g0 (by omega)]
      refine a_pfl12 fM_odds_171 p_M_221 m09 ?_
      refine a_al0 fM_odds_174 ?_
      refine a_ll7 fM_odds_175 ?_
      refine a_ll9 fM_odds_177 ?_
      refine a_ldiv fM_odds_179 gz ?_
      rw [pk_lDiv (by omega) g0 (by omega)]
      refine a_pfl13 fM_odds_180 p_M_29 up_s ?_
      rw [bx_uu]
      have d1 : odT N V9 X9 C9 / Nat.gcd (odT N V9 X9 C9) (10 ^ (sgn V9 X9).length) ≤ odT N V9 X9 C9 := Nat.div_le_self _ _
      have d2 : 10 ^ (sgn V9 X9).length / Nat.gcd (odT N V9 X9 C9) (10 ^ (sgn V9 X9).length) ≤ 10 ^ (sgn V9 X9).length := Nat.div_le_self _ _
      have hW : mW (nI tn, nx, pl, tk, fa, (nI (odT N V9 X9 C9 / Nat.gcd (10 ^ (sgn V9 X9).length) (odT N V9 X9 C9))).toInt64, (nI (10 ^ (sgn V9 X9).length / Nat.gcd (10 ^ (sgn V9 X9).length) (odT N V9 X9 C9))).toInt64) (va_up g 63 (mO (nI tn, nx, pl, tk, fa, lN (odT N V9 X9 C9 / Nat.gcd (odT N V9 X9 C9) (10 ^ (sgn V9 X9).length)), lN (10 ^ (sgn V9 X9).length / Nat.gcd (odT N V9 X9 C9) (10 ^ (sgn V9 X9).length))) th9 mn9)) := by
        rw [Nat.gcd_comm (10 ^ (sgn V9 X9).length), nI_l (by omega), nI_l (by omega)]
        exact ⟨⟨⟨_, _, up_s⟩, f9, up_n (by decide) m89⟩, w1, kw1, up_n (by decide) ((F 70 (by decide) (by decide)).trans M7)⟩
      refine a_ic fM_odds_183 ?_
      exact a_ri fM_odds_184 rfl (⟨_, rfl, rfl, rfl, (F1.trans F.f).c.up (by decide), ⟨nx, pl, tk, fa, hW⟩, R1.of (fun a a1 a2 a3 => up_n a1 (F a a1 a3))⟩)
    | succ j ih =>
      intro i S0 g x10 x11 x12 hi M F he
      have m1g : g 64 = nA 189 N := (F 64 (by decide) (by decide)).trans M1
      have M9 := M
      obtain ⟨⟨th9, mn9, m09⟩, f9, m89⟩ := M9
      refine a_il9 fM_odds_74 ?_
      refine a_ic fM_odds_76 ?_
      refine a_il4 fM_odds_77 ?_
      refine a_ishl fM_odds_79 ?_
      rw [sh6 (sgn V9 X9).length (by omega)]
      refine a_ic_ge fM_odds_80 (fun c_ => absurd c_ (nI_ge (by omega) (by omega))) (fun _ => ?_)
      refine a_al0 fM_odds_83 ?_
      refine a_il1 fM_odds_84 ?_
      refine a_il2 fM_odds_85 ?_
      refine a_il9 fM_odds_86 ?_
      refine a_V3I fM_odds_88 k_M_214 m_M_canFree ⟨by decide, by decide⟩ m09 rfl ⟨rfl, rfl⟩ (Nat.le_of_ble_eq_true rfl) (c_McanFree (free := i) M m1g O h9 h8 (by omega)) (fun r3 n3 h5 p3 => ?_)
      obtain ⟨hr3, hn3, M5, F5⟩ := p3
      subst n3
      rw [hr3]
      have tl : ∀ (B0 S2 : Nat), S0 + wys C9 i (sgn V9 X9).length 0 B0 = S2 → lck (fun f => decide (cfR N V9 X9 f)) (fun f => wys C9 f (sgn V9 X9).length 0 1) j (i + 1) S2 = odT N V9 X9 C9 → fA M_M_odds E (fZ M_M_odds E (qI (fun r k g => r = 1 ∧ k = n ∧ fC h g ∧ MS g N I tn bt (odT N V9 X9 C9 / Nat.gcd (10 ^ (sgn V9 X9).length) (odT N V9 X9 C9)) (10 ^ (sgn V9 X9).length / Nat.gcd (10 ^ (sgn V9 X9).length) (odT N V9 X9 C9)) rb rn rf))) n h5 0 0 99 [some (.ref 63), some (.int (nI V9)), some (.int (nI X9)), some (.int (nI C9)), some (.int (nI (sgn V9 X9).length)), some (.long (lN S0)), none, some (.long (lN (10 ^ (sgn V9 X9).length))), none, some (.int (nI i)), x10, x11, x12] [.long (lN B0)] := by
        intro B0 S2 hS hl
        refine a_lt10 fM_odds_99 (by decide) rfl ?_
        refine a_ic fM_odds_101 ?_
        refine a_is12 fM_odds_102 (by decide) rfl ?_
        refine inner h5 i S0 B0 (by omega) ?_ (sgn V9 X9).length 0 B0 (by omega) rfl
        refine a_ll5 fM_odds_143 ?_
        refine a_ll10 fM_odds_145 ?_
        refine a_ladd fM_odds_147 ?_
        rw [lN_add, hS]
        refine a_lt5 fM_odds_148 (by decide) rfl ?_
        refine a_inc9 fM_odds_150 (by decide) rfl ?_
        refine a_goto fM_odds_153 ?_
        rw [nI_1]
        exact ih (i + 1) S2 h5 _ _ _ (by omega) M5 (F.trans F5) hl
      by_cases c9 : cfR N V9 X9 i
      · refine a_if_eq fM_odds_91 (fun c_ => absurd c_ (fun z => by rw [bI_t c9] at z; exact absurd z (by decide))) (fun _ => ?_)
        refine a_lc fM_odds_94 ?_
        refine a_goto fM_odds_95 ?_
        exact tl 1 _ rfl (by rw [← he]; simp only [lck]; rw [if_pos (decide_eq_true c9)])
      · refine a_if_eq fM_odds_91 (fun _ => ?_) (fun c_ => absurd (by rw [bI_f c9]) c_)
        refine a_lc fM_odds_98 ?_
        exact tl 0 S0 (by rw [wys_0]; omega) (by rw [← he]; simp only [lck]; rw [if_neg (fun z => c9 (of_decide_eq_true z))])
  have la : ∀ (j i : Nat), i + j = (sgn V9 X9).length → fA M_M_odds E (fZ M_M_odds E (qI (fun r k g => r = 1 ∧ k = n ∧ fC h g ∧ MS g N I tn bt (odT N V9 X9 C9 / Nat.gcd (10 ^ (sgn V9 X9).length) (odT N V9 X9 C9)) (10 ^ (sgn V9 X9).length / Nat.gcd (10 ^ (sgn V9 X9).length) (odT N V9 X9 C9)) rb rn rf))) n h3 0 0 50 [some (.ref 63), some (.int (nI V9)), some (.int (nI X9)), some (.int (nI C9)), some (.int (nI (sgn V9 X9).length)), some (.long (lN 0)), none, some (.long (lN (10 ^ i))), none, some (.int (nI i)), none, none, none] [] := by
    intro j
    induction j with
    | zero =>
      intro i hi
      obtain rfl : i = (sgn V9 X9).length := by omega
      refine a_il9 fM_odds_50 ?_
      refine a_il4 fM_odds_52 ?_
      refine a_ic_ge fM_odds_54 (fun _ => ?_) (fun c_ => absurd (Int32.le_refl _) c_)
      refine a_ic fM_odds_71 ?_
      refine a_is9 fM_odds_72 (by decide) rfl ?_
      exact lf (2 ^ (sgn V9 X9).length) 0 0 h3 none none none (by omega) M23 F3 rfl
    | succ j ih =>
      intro i hi
      refine a_il9 fM_odds_50 ?_
      refine a_il4 fM_odds_52 ?_
      refine a_ic_ge fM_odds_54 (fun c_ => absurd c_ (nI_ge (show i < (sgn V9 X9).length by omega) (by omega))) (fun _ => ?_)
      refine a_ll7 fM_odds_57 ?_
      refine a_lc fM_odds_59 ?_
      refine a_lmul fM_odds_62 ?_
      rw [show lN (10 ^ i) * 10 = lN (10 ^ (i + 1)) from lN_mul _ 10]
      refine a_lt7 fM_odds_63 (by decide) rfl ?_
      refine a_inc9 fM_odds_65 (by decide) rfl ?_
      refine a_goto fM_odds_68 ?_
      rw [nI_1]
      exact ih (i + 1) (by omega)
  exact la (sgn V9 X9).length 0 (by omega)
theorem m_years_bad {a b : Int32} (X : MS h N I tn bt ab be rb rn rf) (hb : ¬ ((0 ≤ a ∧ a ≤ 999999) ∧ (0 ≤ b ∧ b ≤ 60))) : fE M_M_years E [.ref 63, .int a, .int b] n h (qI (fun r k g => r = -2 ∧ k = n ∧ fC h g ∧ MS g N I tn bt ab be (rb + 1) rn rf)) := by
  obtain ⟨⟨nx, pl, tk, fa, ⟨⟨th, mn, m0⟩, f0, m8⟩, w0, kw0, m7⟩, R0⟩ := X
  refine fE.of (L := [some (.ref 63), some (.int (a)), some (.int (b)), none, none, none, none, none]) (by decide +kernel) (Nat.le_of_ble_eq_true rfl) rfl ?_
  refine a_al0 fM_years_0 ?_
  refine a_ic fM_years_1 ?_
  refine a_pfi0 fM_years_2 p_M_43 m0 ?_
  obtain ⟨h1, e1, W1, R1, F1⟩ := mThr m0 m8 kw0 m7 R0
  change fA _ _ _ _ (va_up h 63 (mO (nI tn, nx, pl, tk, fa, (nI ab).toInt64, (nI be).toInt64) 0 mn)) _ _ _ _ _
  rw [e1]
  clear e1 R0 m7 m8 m0
  have W2 := W1
  obtain ⟨M2, w1, kw1, M7⟩ := W2
  have M3 := M2
  obtain ⟨⟨th1, mn1, M0⟩, f1, M8⟩ := M3
  have M1 := R1.1.1
  obtain ⟨Rf, M6, r0, r1, r2⟩ := R1.2.2.2.2
  by_cases d0 : (0 ≤ a ∧ a ≤ 999999)
  · refine a_il1 fM_years_5 ?_
    refine a_ic fM_years_6 ?_
    refine a_ic fM_years_7 ?_
    refine a_S3V fM_years_9 k_M_70 m_M_in ⟨by decide, by decide⟩ ⟨rfl, rfl⟩ (Nat.le_of_ble_eq_true rfl) (c_Min) ?_
    refine a_if_eq fM_years_12 (fun c_ => absurd c_ (fun z => by rw [bI_t d0] at z; exact absurd z (by decide))) (fun _ => ?_)
    by_cases d1 : (0 ≤ b ∧ b ≤ 60)
    · exact absurd ⟨d0, d1⟩ hb
    · refine a_il2 fM_years_15 ?_
      refine a_ic fM_years_16 ?_
      refine a_ic fM_years_17 ?_
      refine a_S3V fM_years_19 k_M_70 m_M_in ⟨by decide, by decide⟩ ⟨rfl, rfl⟩ (Nat.le_of_ble_eq_true rfl) (c_Min) ?_
      refine a_if_ne fM_years_22 (fun c_ => absurd (by rw [bI_f d1]) c_) (fun _ => ?_)
      refine a_al0 fM_years_25 ?_
      refine a_ic fM_years_26 ?_
      refine a_V1V fM_years_27 k_M_74 m_M_refuses ⟨by decide, by decide⟩ M0 rfl ⟨rfl, rfl⟩ (Nat.le_of_ble_eq_true rfl) (c_Mrefuses (w := 0) M0 M6 (by decide)) ?_
      exact a_ri fM_years_30 rfl (⟨_, rfl, rfl, rfl, F1.c.up (by decide), ⟨nx, pl, tk, fa, W1.up (by decide) (by decide) (by decide)⟩, R1.re0 M6 r0 r1 r2⟩)
  · refine a_il1 fM_years_5 ?_
    refine a_ic fM_years_6 ?_
    refine a_ic fM_years_7 ?_
    refine a_S3V fM_years_9 k_M_70 m_M_in ⟨by decide, by decide⟩ ⟨rfl, rfl⟩ (Nat.le_of_ble_eq_true rfl) (c_Min) ?_
    refine a_if_eq fM_years_12 (fun _ => ?_) (fun c_ => absurd (by rw [bI_f d0]) c_)
    refine a_al0 fM_years_25 ?_
    refine a_ic fM_years_26 ?_
    refine a_V1V fM_years_27 k_M_74 m_M_refuses ⟨by decide, by decide⟩ M0 rfl ⟨rfl, rfl⟩ (Nat.le_of_ble_eq_true rfl) (c_Mrefuses (w := 0) M0 M6 (by decide)) ?_
    exact a_ri fM_years_30 rfl (⟨_, rfl, rfl, rfl, F1.c.up (by decide), ⟨nx, pl, tk, fa, W1.up (by decide) (by decide) (by decide)⟩, R1.re0 M6 r0 r1 r2⟩)
theorem m_years {A9 B9 : Nat} (X : MS h N I tn bt ab be rb rn rf) (K : okN N) (h9 : A9 < 1000000) (h8 : B9 ≤ 60) : fE M_M_years E [.ref 63, .int (nI A9), .int (nI B9)] n h (qI (fun r k g => r = nI (yrs (sl N 0 10) (sl N 10 10) B9 A9 0 (sl N 20 10) (N 30)) ∧ k = n ∧ fC h g ∧ MS g N I tn bt ab be rb rn rf)) := by
  have O := K.c
  have k31 := K.2.2.1.1
  obtain ⟨⟨nx, pl, tk, fa, ⟨⟨th, mn, m0⟩, f0, m8⟩, w0, kw0, m7⟩, R0⟩ := X
  refine fE.of (L := [some (.ref 63), some (.int (nI A9)), some (.int (nI B9)), none, none, none, none, none]) (by decide +kernel) (Nat.le_of_ble_eq_true rfl) rfl ?_
  refine a_al0 fM_years_0 ?_
  refine a_ic fM_years_1 ?_
  refine a_pfi0 fM_years_2 p_M_43 m0 ?_
  obtain ⟨h1, e1, W1, R1, F1⟩ := mThr m0 m8 kw0 m7 R0
  change fA _ _ _ _ (va_up h 63 (mO (nI tn, nx, pl, tk, fa, (nI ab).toInt64, (nI be).toInt64) 0 mn)) _ _ _ _ _
  rw [e1]
  clear e1 R0 m7 m8 m0
  have W2 := W1
  obtain ⟨M2, w1, kw1, M7⟩ := W2
  have M3 := M2
  obtain ⟨⟨th1, mn1, M0⟩, f1, M8⟩ := M3
  have M1 := R1.1.1
  obtain ⟨Rf, M6, r0, r1, r2⟩ := R1.2.2.2.2
  refine a_il1 fM_years_5 ?_
  refine a_ic fM_years_6 ?_
  refine a_ic fM_years_7 ?_
  refine a_S3V fM_years_9 k_M_70 m_M_in ⟨by decide, by decide⟩ ⟨rfl, rfl⟩ (Nat.le_of_ble_eq_true rfl) (c_Min) ?_
  refine a_if_eq fM_years_12 (fun c_ => absurd c_ (fun z => by rw [bI_t ⟨nI_pos' (by omega), nI_le (b := 999999) (by omega) (by decide)⟩] at z; exact absurd z (by decide))) (fun _ => ?_)
  refine a_il2 fM_years_15 ?_
  refine a_ic fM_years_16 ?_
  refine a_ic fM_years_17 ?_
  refine a_S3V fM_years_19 k_M_70 m_M_in ⟨by decide, by decide⟩ ⟨rfl, rfl⟩ (Nat.le_of_ble_eq_true rfl) (c_Min) ?_
  refine a_if_ne fM_years_22 (fun _ => ?_) (fun c_ => absurd c_ (fun z => by rw [bI_t ⟨nI_pos' (by omega), nI_le (b := 60) (by omega) (by decide)⟩] at z; exact absurd z (by decide)))
  refine a_al0 fM_years_31 ?_
  refine a_V0N fM_years_32 k_M_164 m_M_wornNow ⟨by decide, by decide⟩ M0 rfl ⟨rfl, rfl⟩ (Nat.le_of_ble_eq_true rfl) (c_MwornNow M0 M1 M7 kw1) ?_
  refine a_il1 fM_years_35 ?_
  refine a_i2l fM_years_36 ?_
  rw [nI_l (by omega)]
  refine a_lt3 fM_years_37 (by decide) rfl ?_
  refine a_ic fM_years_38 ?_
  refine a_is5 fM_years_39 (by decide) rfl ?_
  refine a_ic fM_years_41 ?_
  refine a_is6 fM_years_42 (by decide) rfl ?_
  have loop : ∀ (j i : Nat) (g : hT) (W : Nat → Nat) (c0 y : Nat) (x7 : Option Value), i + j = B9 → y < 2147483648 → mM (nI tn, nx, pl, tk, fa, (nI ab).toInt64, (nI be).toInt64) g → mF h1 g → g 70 = nA 10 W → kz W → sml W 100 → yrs (sl N 0 10) (sl N 10 10) j y c0 W (N 30 + i) = yrs (sl N 0 10) (sl N 10 10) B9 A9 0 (sl N 20 10) (N 30) → fA M_M_years E (fZ M_M_years E (qI (fun r k g => r = nI (yrs (sl N 0 10) (sl N 10 10) B9 A9 0 (sl N 20 10) (N 30)) ∧ k = n ∧ fC h g ∧ MS g N I tn bt ab be rb rn rf))) n g 0 0 44 [some (.ref 63), some (.int (nI A9)), some (.int (nI B9)), some (.long (lN y)), none, some (.int (nI c0)), some (.int (nI i)), x7] [] := by
    intro j
    induction j with
    | zero =>
      intro i g W c0 y x7 hi hy M F m7 kW bW he
      refine a_il6 fM_years_44 ?_
      refine a_il2 fM_years_46 ?_
      refine a_ic_ge fM_years_47 (fun _ => ?_) (fun c_ => absurd (nI_le (by omega) (by omega)) c_)
      refine a_il5 fM_years_133 ?_
      exact a_ri fM_years_135 rfl (⟨_, rfl, congrArg nI he, rfl, (F1.trans F).c, ⟨nx, pl, tk, fa, M, W, kW, m7⟩, R1.of F⟩)
    | succ j ih =>
      intro i g W c0 y x7 hi hy M F m7 kW bW he
      have m1g : g 64 = nA 189 N := (F 64 (by decide) (by decide) (by decide)).trans M1
      have M9 := M
      obtain ⟨⟨th9, mn9, m09⟩, f9, m89⟩ := M9
      refine a_il6 fM_years_44 ?_
      refine a_il2 fM_years_46 ?_
      refine a_ic_ge fM_years_47 (fun c_ => absurd c_ (nI_ge (by omega) (by omega))) (fun _ => ?_)
      have b1 : y * 1103515245 + 12345 < 2 ^ 63 := by omega
      have e1 : (lN y * 1103515245 + 12345) - (lN y * 1103515245 + 12345) / 2147483648 * 2147483648 = lN (sdx y) := by
        rw [show lN y * 1103515245 = lN (y * 1103515245) from lN_mul y 1103515245, show lN (y * 1103515245) + 12345 = lN (y * 1103515245 + 12345) from lN_add _ 12345]
        exact pk_lRem (b := 2147483648) b1 (by decide) (by decide)
      have b2 : sdx y < 2147483648 := Nat.mod_lt _ (by decide)
      refine a_ll3 fM_years_50 ?_
      refine a_lc fM_years_51 ?_
      refine a_lmul fM_years_54 ?_
      refine a_lc fM_years_55 ?_
      refine a_ladd fM_years_58 ?_
      refine a_lc fM_years_59 ?_
      refine a_lrem fM_years_62 (by decide) ?_
      rw [e1]
      refine a_lt3 fM_years_63 (by decide) rfl ?_
      refine a_ll3 fM_years_64 ?_
      refine a_lc fM_years_65 ?_
      refine a_ldiv fM_years_68 (by decide) ?_
      refine a_lc fM_years_69 ?_
      refine a_lrem fM_years_72 (by decide) ?_
      have e2 : lN (sdx y) / 65536 - lN (sdx y) / 65536 / 100 * 100 = lN (sdv (sdx y)) := by
        rw [show lN (sdx y) / 65536 = lN (sdx y / 65536) from pk_lDiv (b := 65536) (by omega) (by decide) (by decide)]
        exact pk_lRem (b := 100) (by omega) (by decide) (by decide)
      rw [e2]
      refine a_l2i fM_years_73 ?_
      rw [lN_i]
      have b3 : sdv (sdx y) < 100 := Nat.mod_lt _ (by decide)
      have hD : N 30 + i < 2 ^ 31 := by have := O.2; omega
      refine a_is7 fM_years_74 (by decide) rfl ?_
      refine a_al0 fM_years_76 ?_
      refine a_il7 fM_years_77 ?_
      refine a_al0 fM_years_79 ?_
      refine a_gf fM_years_80 l_M_7 m09 rfl ?_
      refine a_ic fM_years_83 ?_
      refine a_ia fM_years_85 m1g (show (30 : Int32) = nI 30 from rfl) (by decide) (by decide) ?_
      refine a_il6 fM_years_86 ?_
      refine a_iadd fM_years_88 ?_
      rw [show nF N 30 + nI i = nI (N 30 + i) from nI_add _ _]
      refine a_V2Q fM_years_89 k_M_167 m_M_asideBy ⟨by decide, by decide⟩ m09 rfl ⟨rfl, rfl⟩ (Nat.le_of_ble_eq_true rfl) (c_MasideBy (v := (sdv (sdx y))) (D := N 30 + i) M m1g m7 O b3 hD) (fun n3 h3 p3 => ?_)
      obtain ⟨hn3, M23, m73, F3⟩ := p3
      subst n3
      have m13 : h3 64 = nA 189 N := (F3 64 (by decide) (by decide) (by decide)).trans m1g
      have M93 := M23
      obtain ⟨⟨th3, mn3, m03⟩, f3, m83⟩ := M93
      have bW3 : sml (wad (sl N 0 10) (N 30 + i) 0 (sgn (sdv (sdx y)) (sdv (sdx y))) W) 1000 := fun f hf => by
        have := wad_le (K := sl N 0 10) (D := N 30 + i) (sgn (sdv (sdx y)) (sdv (sdx y))) 0 W f (by have := @sgn_len (sdv (sdx y)) (sdv (sdx y)); omega)
        have := bW f hf
        have := @sgn_len (sdv (sdx y)) (sdv (sdx y))
        omega
      refine a_al0 fM_years_92 ?_
      refine a_il7 fM_years_93 ?_
      refine a_V1I fM_years_95 k_M_170 m_M_isWithin ⟨by decide, by decide⟩ m03 rfl ⟨rfl, rfl⟩ (Nat.le_of_ble_eq_true rfl) (c_MisWithin (v := (sdv (sdx y))) M23 m13 m73 O b3 bW3) (fun r4 n4 h4 p4 => ?_)
      obtain ⟨hr4, hn4, M24, F4⟩ := p4
      subst n4
      rw [hr4]
      have F5 : mF h1 h4 := F.trans (F3.trans F4.f)
      have m74 : h4 70 = nA 10 (wad (sl N 0 10) (N 30 + i) 0 (sgn (sdv (sdx y)) (sdv (sdx y))) W) := (F4 70 (by decide) (by decide)).trans m73
      have m14 : h4 64 = nA 189 N := (F4 64 (by decide) (by decide)).trans m13
      have tl : ∀ (g2 : hT) (W2 : Nat → Nat) (c2 : Nat), mM (nI tn, nx, pl, tk, fa, (nI ab).toInt64, (nI be).toInt64) g2 → mF h1 g2 → g2 70 = nA 10 W2 → kz W2 → sml W2 100 → yrs (sl N 0 10) (sl N 10 10) j (sdx y) c2 (rsW (sl N 0 10) W2) (N 30 + i + 1) = yrs (sl N 0 10) (sl N 10 10) B9 A9 0 (sl N 20 10) (N 30) → fA M_M_years E (fZ M_M_years E (qI (fun r k g => r = nI (yrs (sl N 0 10) (sl N 10 10) B9 A9 0 (sl N 20 10) (N 30)) ∧ k = n ∧ fC h g ∧ MS g N I tn bt ab be rb rn rf))) n g2 0 0 123 [some (.ref 63), some (.int (nI A9)), some (.int (nI B9)), some (.long (lN (sdx y))), none, some (.int (nI c2)), some (.int (nI i)), some (.int (nI (sdv (sdx y))))] [] := by
        intro g2 W2 c2 M2 F2 m72 kW2 bW2 he2
        have m12 : g2 64 = nA 189 N := (F2 64 (by decide) (by decide) (by decide)).trans M1
        have M92 := M2
        obtain ⟨⟨th2, mn2, m02⟩, f2, m82⟩ := M92
        refine a_al0 fM_years_123 ?_
        refine a_V0N fM_years_124 k_M_173 m_M_rests ⟨by decide, by decide⟩ m02 rfl ⟨rfl, rfl⟩ (Nat.le_of_ble_eq_true rfl) (c_Mrests m02 m12 m72 (fun f hf => (O.1 f hf).1) (fun f hf => Nat.le_trans (bW2 f hf) (by decide))) ?_
        refine a_inc6 fM_years_127 (by decide) rfl ?_
        refine a_goto fM_years_130 ?_
        rw [nI_1]
        exact ih (i + 1) _ _ c2 (sdx y) _ (by omega) b2 (M2.up (by decide) (by decide)) (fun a a1 a2 a3 => up_n a2 (F2 a a1 a2 a3)) up_s (kz_rsW kW2) (rsW_le bW2) he2
      by_cases c9 : can (sl N 0 10) (sl N 10 10) W (N 30 + i) (sgn (sdv (sdx y)) (sdv (sdx y)))
      · refine a_if_eq fM_years_98 (fun c_ => absurd c_ (fun z => by rw [bI_t c9] at z; exact absurd z (by decide))) (fun _ => ?_)
        refine a_inc5 fM_years_101 (by decide) rfl ?_
        refine a_goto fM_years_104 ?_
        rw [nI_1]
        exact tl h4 _ _ M24 F5 m74 (kz_wad _ _ _ (sgn_lt b3 b3) kW) (can_le c9 O.S bW) (by rw [← he]; simp only [yrs]; rw [if_pos c9])
      · refine a_if_eq fM_years_98 (fun _ => ?_) (fun c_ => absurd (by rw [bI_f c9]) c_)
        have M94 := M24
        obtain ⟨⟨th4, mn4, m04⟩, f4, m84⟩ := M94
        refine a_al0 fM_years_107 ?_
        refine a_il7 fM_years_108 ?_
        refine a_al0 fM_years_110 ?_
        refine a_gf fM_years_111 l_M_7 m04 rfl ?_
        refine a_ic fM_years_114 ?_
        refine a_ia fM_years_116 m14 (show (30 : Int32) = nI 30 from rfl) (by decide) (by decide) ?_
        refine a_il6 fM_years_117 ?_
        refine a_iadd fM_years_119 ?_
        rw [show nF N 30 + nI i = nI (N 30 + i) from nI_add _ _]
        refine a_V2Q fM_years_120 k_M_235 m_M_takesBack ⟨by decide, by decide⟩ m04 rfl ⟨rfl, rfl⟩ (Nat.le_of_ble_eq_true rfl) (c_MtakesBack (v := (sdv (sdx y))) (D := N 30 + i) M24 m14 m74 O b3 hD) (fun n6 h6 p6 => ?_)
        obtain ⟨hn6, M26, m76, F6⟩ := p6
        subst n6
        rw [← wby_one, wby_back] at m76
        exact tl h6 W c0 M26 (F5.trans F6) m76 kW bW (by rw [← he]; simp only [yrs]; rw [if_neg c9])
  exact loop B9 0 _ (sl N 20 10) 0 A9 none (by omega) (by omega) (M2.up (by decide) (by decide)) (fun a _ a2 _ => up_n a2 rfl) up_s kz_sl O.W rfl
theorem m_image_bad {i9 : Int32} (X : MS h N I tn bt ab be rb rn rf) (hb : ¬ ((0 ≤ i9 ∧ i9 ≤ 1))) : fE M_M_image E [.ref 63, .int i9] n h (qI (fun r k g => r = -2 ∧ k = n ∧ fC h g ∧ MS g N I tn bt ab be (rb + 1) rn rf)) := by
  obtain ⟨⟨nx, pl, tk, fa, ⟨⟨th, mn, m0⟩, f0, m8⟩, w0, kw0, m7⟩, R0⟩ := X
  refine fE.of (L := [some (.ref 63), some (.int (i9)), none]) (by decide +kernel) (Nat.le_of_ble_eq_true rfl) rfl ?_
  refine a_al0 fM_image_0 ?_
  refine a_ic fM_image_1 ?_
  refine a_pfi0 fM_image_2 p_M_43 m0 ?_
  obtain ⟨h1, e1, W1, R1, F1⟩ := mThr m0 m8 kw0 m7 R0
  change fA _ _ _ _ (va_up h 63 (mO (nI tn, nx, pl, tk, fa, (nI ab).toInt64, (nI be).toInt64) 0 mn)) _ _ _ _ _
  rw [e1]
  clear e1 R0 m7 m8 m0
  have W2 := W1
  obtain ⟨M2, w1, kw1, M7⟩ := W2
  have M3 := M2
  obtain ⟨⟨th1, mn1, M0⟩, f1, M8⟩ := M3
  have M1 := R1.1.1
  obtain ⟨Rf, M6, r0, r1, r2⟩ := R1.2.2.2.2
  by_cases d0 : (0 ≤ i9 ∧ i9 ≤ 1)
  · exact absurd d0 hb
  · refine a_il1 fM_image_5 ?_
    refine a_ic fM_image_6 ?_
    refine a_ic fM_image_7 ?_
    refine a_S3V fM_image_8 k_M_70 m_M_in ⟨by decide, by decide⟩ ⟨rfl, rfl⟩ (Nat.le_of_ble_eq_true rfl) (c_Min) ?_
    refine a_if_ne fM_image_11 (fun c_ => absurd (by rw [bI_f d0]) c_) (fun _ => ?_)
    refine a_al0 fM_image_14 ?_
    refine a_ic fM_image_15 ?_
    refine a_V1V fM_image_16 k_M_74 m_M_refuses ⟨by decide, by decide⟩ M0 rfl ⟨rfl, rfl⟩ (Nat.le_of_ble_eq_true rfl) (c_Mrefuses (w := 0) M0 M6 (by decide)) ?_
    exact a_ri fM_image_19 rfl (⟨_, rfl, rfl, rfl, F1.c.up (by decide), ⟨nx, pl, tk, fa, W1.up (by decide) (by decide) (by decide)⟩, R1.re0 M6 r0 r1 r2⟩)
theorem m_image {I9 : Nat} (X : MS h N I tn bt ab be rb rn rf) (K : okN N) (h9 : I9 < 2) : fE M_M_image E [.ref 63, .int (nI I9)] n h (qI (fun r k g => r = 1 ∧ k = n ∧ fC h g ∧ MS g N (va_up I I9 (some N)) tn bt ab be rb rn rf)) := by
  have O := K.c
  have k31 := K.2.2.1.1
  obtain ⟨⟨nx, pl, tk, fa, ⟨⟨th, mn, m0⟩, f0, m8⟩, w0, kw0, m7⟩, R0⟩ := X
  refine fE.of (L := [some (.ref 63), some (.int (nI I9)), none]) (by decide +kernel) (Nat.le_of_ble_eq_true rfl) rfl ?_
  refine a_al0 fM_image_0 ?_
  refine a_ic fM_image_1 ?_
  refine a_pfi0 fM_image_2 p_M_43 m0 ?_
  obtain ⟨h1, e1, W1, R1, F1⟩ := mThr m0 m8 kw0 m7 R0
  change fA _ _ _ _ (va_up h 63 (mO (nI tn, nx, pl, tk, fa, (nI ab).toInt64, (nI be).toInt64) 0 mn)) _ _ _ _ _
  rw [e1]
  clear e1 R0 m7 m8 m0
  have W2 := W1
  obtain ⟨M2, w1, kw1, M7⟩ := W2
  have M3 := M2
  obtain ⟨⟨th1, mn1, M0⟩, f1, M8⟩ := M3
  have M1 := R1.1.1
  obtain ⟨Rf, M6, r0, r1, r2⟩ := R1.2.2.2.2
  refine a_il1 fM_image_5 ?_
  refine a_ic fM_image_6 ?_
  refine a_ic fM_image_7 ?_
  refine a_S3V fM_image_8 k_M_70 m_M_in ⟨by decide, by decide⟩ ⟨rfl, rfl⟩ (Nat.le_of_ble_eq_true rfl) (c_Min) ?_
  refine a_if_ne fM_image_11 (fun _ => ?_) (fun c_ => absurd c_ (fun z => by rw [bI_t ⟨nI_pos' (by omega), nI_le (b := 1) (by omega) (by decide)⟩] at z; exact absurd z (by decide)))
  obtain ⟨⟨a1, a2⟩, ⟨D0, b1, b2⟩, ⟨Kp, ik, c1, c2, c3⟩, d1, _⟩ := R1
  have loop : ∀ (j i : Nat), i + j = 189 → fA M_M_image E (fZ M_M_image E (qI (fun r k g => r = 1 ∧ k = n ∧ fC h g ∧ MS g N (va_up I I9 (some N)) tn bt ab be rb rn rf))) n (va_up h1 66 (nA 378 (fun y => if 189 * I9 ≤ y ∧ y < 189 * I9 + i then N (y - 189 * I9) else Kp y))) 0 0 22 [some (.ref 63), some (.int (nI I9)), some (.int (nI i))] [] := by
    intro j
    induction j with
    | zero =>
      intro i hi
      obtain rfl : i = 189 := by omega
      refine a_il2 fM_image_22 ?_
      refine a_ic fM_image_23 ?_
      refine a_ic_ge fM_image_26 (fun _ => ?_) (fun c_ => absurd (Int32.le_refl _) c_)
      refine a_al0 fM_image_53 ?_
      refine a_gf fM_image_54 l_M_19 (up_n (by decide) M0) rfl ?_
      refine a_il1 fM_image_57 ?_
      refine a_ic fM_image_58 ?_
      refine a_zast fM_image_59 (up_n (by decide) c2) (pk_in I9 2 h9) ?_
      rw [nI_clamp (by omega)]
      refine a_ic fM_image_60 (a_ri fM_image_61 rfl ⟨_, rfl, rfl, rfl, (F1.c.up (by decide)).up (by decide), ⟨nx, pl, tk, fa, (W1.up (by decide) (by decide) (by decide)).up (by decide) (by decide) (by decide)⟩, ⟨up_n (by decide) (up_n (by decide) a1), a2⟩, ⟨D0, up_n (by decide) (up_n (by decide) b1), b2⟩, ⟨_, _, up_n (by decide) up_s, up_s, fun x hx => ?_⟩, up_n (by decide) (up_n (by decide) d1), Rf, up_n (by decide) (up_n (by decide) M6), r0, r1, r2⟩)
      by_cases q : x = I9
      · subst q
        exact Or.inr ⟨N, up_s, pk_us, a2, fun j hj => by rw [if_pos (by omega)]; congr 1; omega⟩
      · rcases c3 x hx with ⟨z1, z2⟩ | ⟨R, z1, z2, z3, z4⟩
        · exact Or.inl ⟨(vn q).trans z1, (pk_un q).trans z2⟩
        · exact Or.inr ⟨R, (vn q).trans z1, (pk_un q).trans z2, z3, fun j hj => by rw [if_neg (by omega)]; exact z4 j hj⟩
    | succ j ih =>
      intro i hi
      refine a_il2 fM_image_22 ?_
      refine a_ic fM_image_23 ?_
      refine a_ic_ge fM_image_26 (fun c_ => absurd c_ (nI_ge (b := 189) (by omega) (by decide))) (fun _ => ?_)
      refine a_al0 fM_image_29 ?_
      refine a_gf fM_image_30 l_M_16 (up_n (by decide) M0) rfl ?_
      refine a_ic fM_image_33 ?_
      refine a_il1 fM_image_36 ?_
      refine a_imul fM_image_37 ?_
      refine a_il2 fM_image_38 ?_
      refine a_iadd fM_image_39 ?_
      refine a_al0 fM_image_40 ?_
      refine a_gf fM_image_41 l_M_7 (up_n (by decide) M0) rfl ?_
      refine a_il2 fM_image_44 ?_
      refine a_ia fM_image_45 (up_n (by decide) a1) rfl (by omega) (by decide) ?_
      refine a_it fM_image_46 up_s (show (189 : Int32) * nI I9 + nI i = nI (189 * I9 + i) by rw [show (189 : Int32) * nI I9 = nI (189 * I9) from pk_mul 189 _]; exact nI_add _ _) (by omega) (by decide) ?_
      refine a_inc2 fM_image_47 (by decide) rfl ?_
      refine a_goto fM_image_50 ?_
      rw [bx_uu, nI_1]
      refine fA.ud (v := N i) (F2 := fun y => if 189 * I9 ≤ y ∧ y < 189 * I9 + (i + 1) then N (y - 189 * I9) else Kp y) rfl (fun j => by grind) ?_
      exact ih (i + 1) (by omega)
  refine a_ic fM_image_20 ?_
  refine a_is2 fM_image_21 (by decide) rfl ?_
  have := loop 189 0 (by omega)
  rw [show (fun y => if 189 * I9 ≤ y ∧ y < 189 * I9 + 0 then N (y - 189 * I9) else Kp y) = Kp from funext (fun y => by rw [if_neg (by omega)]), up_id c1] at this
  exact this
theorem m_from_bad {i9 : Int32} (X : MS h N I tn bt ab be rb rn rf) (hb : ¬ ((0 ≤ i9 ∧ i9 ≤ 1))) : fE M_M_from E [.ref 63, .int i9] n h (qI (fun r k g => r = -2 ∧ k = n ∧ fC h g ∧ MS g N I tn bt ab be (rb + 1) rn rf)) := by
  obtain ⟨⟨nx, pl, tk, fa, ⟨⟨th, mn, m0⟩, f0, m8⟩, w0, kw0, m7⟩, R0⟩ := X
  refine fE.of (L := [some (.ref 63), some (.int (i9)), none]) (by decide +kernel) (Nat.le_of_ble_eq_true rfl) rfl ?_
  refine a_al0 fM_from_0 ?_
  refine a_ic fM_from_1 ?_
  refine a_pfi0 fM_from_2 p_M_43 m0 ?_
  obtain ⟨h1, e1, W1, R1, F1⟩ := mThr m0 m8 kw0 m7 R0
  change fA _ _ _ _ (va_up h 63 (mO (nI tn, nx, pl, tk, fa, (nI ab).toInt64, (nI be).toInt64) 0 mn)) _ _ _ _ _
  rw [e1]
  clear e1 R0 m7 m8 m0
  have W2 := W1
  obtain ⟨M2, w1, kw1, M7⟩ := W2
  have M3 := M2
  obtain ⟨⟨th1, mn1, M0⟩, f1, M8⟩ := M3
  have M1 := R1.1.1
  obtain ⟨Rf, M6, r0, r1, r2⟩ := R1.2.2.2.2
  by_cases d0 : (0 ≤ i9 ∧ i9 ≤ 1)
  · exact absurd d0 hb
  · refine a_il1 fM_from_5 ?_
    refine a_ic fM_from_6 ?_
    refine a_ic fM_from_7 ?_
    refine a_S3V fM_from_8 k_M_70 m_M_in ⟨by decide, by decide⟩ ⟨rfl, rfl⟩ (Nat.le_of_ble_eq_true rfl) (c_Min) ?_
    refine a_if_ne fM_from_11 (fun c_ => absurd (by rw [bI_f d0]) c_) (fun _ => ?_)
    refine a_al0 fM_from_14 ?_
    refine a_ic fM_from_15 ?_
    refine a_V1V fM_from_16 k_M_74 m_M_refuses ⟨by decide, by decide⟩ M0 rfl ⟨rfl, rfl⟩ (Nat.le_of_ble_eq_true rfl) (c_Mrefuses (w := 0) M0 M6 (by decide)) ?_
    exact a_ri fM_from_19 rfl (⟨_, rfl, rfl, rfl, F1.c.up (by decide), ⟨nx, pl, tk, fa, W1.up (by decide) (by decide) (by decide)⟩, R1.re0 M6 r0 r1 r2⟩)
theorem m_from_no {I9 : Nat} (X : MS h N I tn bt ab be rb rn rf) (K : okN N) (h9 : I9 < 2) (h8 : I I9 = none) : fE M_M_from E [.ref 63, .int (nI I9)] n h (qI (fun r k g => r = -3 ∧ k = n ∧ fC h g ∧ MS g N I tn bt ab be rb (rn + 1) rf)) := by
  have O := K.c
  have k31 := K.2.2.1.1
  obtain ⟨⟨nx, pl, tk, fa, ⟨⟨th, mn, m0⟩, f0, m8⟩, w0, kw0, m7⟩, R0⟩ := X
  refine fE.of (L := [some (.ref 63), some (.int (nI I9)), none]) (by decide +kernel) (Nat.le_of_ble_eq_true rfl) rfl ?_
  refine a_al0 fM_from_0 ?_
  refine a_ic fM_from_1 ?_
  refine a_pfi0 fM_from_2 p_M_43 m0 ?_
  obtain ⟨h1, e1, W1, R1, F1⟩ := mThr m0 m8 kw0 m7 R0
  change fA _ _ _ _ (va_up h 63 (mO (nI tn, nx, pl, tk, fa, (nI ab).toInt64, (nI be).toInt64) 0 mn)) _ _ _ _ _
  rw [e1]
  clear e1 R0 m7 m8 m0
  have W2 := W1
  obtain ⟨M2, w1, kw1, M7⟩ := W2
  have M3 := M2
  obtain ⟨⟨th1, mn1, M0⟩, f1, M8⟩ := M3
  have M1 := R1.1.1
  obtain ⟨Rf, M6, r0, r1, r2⟩ := R1.2.2.2.2
  refine a_il1 fM_from_5 ?_
  refine a_ic fM_from_6 ?_
  refine a_ic fM_from_7 ?_
  refine a_S3V fM_from_8 k_M_70 m_M_in ⟨by decide, by decide⟩ ⟨rfl, rfl⟩ (Nat.le_of_ble_eq_true rfl) (c_Min) ?_
  refine a_if_ne fM_from_11 (fun _ => ?_) (fun c_ => absurd c_ (fun z => by rw [bI_t ⟨nI_pos' (by omega), nI_le (b := 1) (by omega) (by decide)⟩] at z; exact absurd z (by decide)))
  obtain ⟨Kp, ik, c1, c2, c3⟩ := R1.2.2.1
  have z : ik I9 = 0 := by
    rcases c3 I9 h9 with q | ⟨R, q, _⟩
    · exact q.2
    · rw [h8] at q; cases q
  refine a_al0 fM_from_20 ?_
  refine a_gf fM_from_21 l_M_19 M0 rfl ?_
  refine a_il1 fM_from_24 ?_
  refine a_zald fM_from_25 c2 (pk_in I9 2 h9) ?_
  rw [nI_clamp (by omega), z]
  refine a_if_ne fM_from_26 (fun c_ => absurd (rfl) c_) (fun _ => ?_)
  refine a_al0 fM_from_29 ?_
  refine a_ic fM_from_30 ?_
  refine a_V1V fM_from_31 k_M_74 m_M_refuses ⟨by decide, by decide⟩ M0 rfl ⟨rfl, rfl⟩ (Nat.le_of_ble_eq_true rfl) (c_Mrefuses (w := 1) M0 M6 (by decide)) ?_
  exact a_ri fM_from_34 rfl (⟨_, rfl, rfl, rfl, F1.c.up (by decide), ⟨nx, pl, tk, fa, W1.up (by decide) (by decide) (by decide)⟩, R1.re1 M6 r0 r1 r2⟩)
theorem m_from {I9 : Nat} {R : Nat → Nat} (X : MS h N I tn bt ab be rb rn rf) (K : okN N) (h9 : I9 < 2) (h8 : I I9 = some R) : fE M_M_from E [.ref 63, .int (nI I9)] n h (qI (fun r k g => r = 1 ∧ k = n ∧ fC h g ∧ MS g R I tn bt ab be rb rn rf)) := by
  have O := K.c
  have k31 := K.2.2.1.1
  obtain ⟨⟨nx, pl, tk, fa, ⟨⟨th, mn, m0⟩, f0, m8⟩, w0, kw0, m7⟩, R0⟩ := X
  refine fE.of (L := [some (.ref 63), some (.int (nI I9)), none]) (by decide +kernel) (Nat.le_of_ble_eq_true rfl) rfl ?_
  refine a_al0 fM_from_0 ?_
  refine a_ic fM_from_1 ?_
  refine a_pfi0 fM_from_2 p_M_43 m0 ?_
  obtain ⟨h1, e1, W1, R1, F1⟩ := mThr m0 m8 kw0 m7 R0
  change fA _ _ _ _ (va_up h 63 (mO (nI tn, nx, pl, tk, fa, (nI ab).toInt64, (nI be).toInt64) 0 mn)) _ _ _ _ _
  rw [e1]
  clear e1 R0 m7 m8 m0
  have W2 := W1
  obtain ⟨M2, w1, kw1, M7⟩ := W2
  have M3 := M2
  obtain ⟨⟨th1, mn1, M0⟩, f1, M8⟩ := M3
  have M1 := R1.1.1
  obtain ⟨Rf, M6, r0, r1, r2⟩ := R1.2.2.2.2
  refine a_il1 fM_from_5 ?_
  refine a_ic fM_from_6 ?_
  refine a_ic fM_from_7 ?_
  refine a_S3V fM_from_8 k_M_70 m_M_in ⟨by decide, by decide⟩ ⟨rfl, rfl⟩ (Nat.le_of_ble_eq_true rfl) (c_Min) ?_
  refine a_if_ne fM_from_11 (fun _ => ?_) (fun c_ => absurd c_ (fun z => by rw [bI_t ⟨nI_pos' (by omega), nI_le (b := 1) (by omega) (by decide)⟩] at z; exact absurd z (by decide)))
  obtain ⟨Kp, ik, c1, c2, c3⟩ := R1.2.2.1
  have z : ik I9 = 1 ∧ z9 R ∧ ∀ j, j < 189 → Kp (189 * I9 + j) = R j := by
    rcases c3 I9 h9 with q | ⟨R2, q1, q2, q3, q4⟩
    · rw [h8] at q; cases q.1
    · rw [h8] at q1; cases q1; exact ⟨q2, q3, q4⟩
  refine a_al0 fM_from_20 ?_
  refine a_gf fM_from_21 l_M_19 M0 rfl ?_
  refine a_il1 fM_from_24 ?_
  refine a_zald fM_from_25 c2 (pk_in I9 2 h9) ?_
  rw [nI_clamp (by omega), z.1]
  refine a_if_ne fM_from_26 (fun _ => ?_) (fun c_ => absurd c_ (by decide))
  have loop : ∀ (j i : Nat), i + j = 189 → fA M_M_from E (fZ M_M_from E (qI (fun r k g => r = 1 ∧ k = n ∧ fC h g ∧ MS g R I tn bt ab be rb rn rf))) n (va_up h1 64 (nA 189 (fun y => if y < i then R y else N y))) 0 0 37 [some (.ref 63), some (.int (nI I9)), some (.int (nI i))] [] := by
    intro j
    induction j with
    | zero =>
      intro i hi
      obtain rfl : i = 189 := by omega
      rw [show (fun y => if y < 189 then R y else N y) = R from funext (fun y => by have := z.2.1 y; have := R1.1.2 y; grind)]
      refine a_il2 fM_from_37 ?_
      refine a_ic fM_from_38 ?_
      refine a_ic_ge fM_from_41 (fun _ => ?_) (fun c_ => absurd (Int32.le_refl _) c_)
      refine a_ic fM_from_68 ?_
      exact a_ri fM_from_69 rfl (⟨_, rfl, rfl, rfl, F1.n.up.c, ⟨nx, pl, tk, fa, W1.up (by decide) (by decide) (by decide)⟩, R1.now z.2.1⟩)
    | succ j ih =>
      intro i hi
      refine a_il2 fM_from_37 ?_
      refine a_ic fM_from_38 ?_
      refine a_ic_ge fM_from_41 (fun c_ => absurd c_ (nI_ge (b := 189) (by omega) (by decide))) (fun _ => ?_)
      refine a_al0 fM_from_44 ?_
      refine a_gf fM_from_45 l_M_7 (up_n (by decide) M0) rfl ?_
      refine a_il2 fM_from_48 ?_
      refine a_al0 fM_from_49 ?_
      refine a_gf fM_from_50 l_M_16 (up_n (by decide) M0) rfl ?_
      refine a_ic fM_from_53 ?_
      refine a_il1 fM_from_56 ?_
      refine a_imul fM_from_57 ?_
      refine a_il2 fM_from_58 ?_
      refine a_iadd fM_from_59 ?_
      refine a_ia fM_from_60 (up_n (by decide) c1) (show (189 : Int32) * nI I9 + nI i = nI (189 * I9 + i) by rw [show (189 : Int32) * nI I9 = nI (189 * I9) from pk_mul 189 _]; exact nI_add _ _) (by omega) (by decide) ?_
      refine a_it fM_from_61 up_s rfl (by omega) (by decide) ?_
      refine a_inc2 fM_from_62 (by decide) rfl ?_
      refine a_goto fM_from_65 ?_
      rw [bx_uu, nI_1]
      refine fA.ud (v := R i) (F2 := fun y => if y < i + 1 then R y else N y) (congrArg nI (z.2.2 i (by omega))) (fun j => by grind) ?_
      exact ih (i + 1) (by omega)
  refine a_ic fM_from_35 ?_
  refine a_is2 fM_from_36 (by decide) rfl ?_
  have := loop 189 0 (by omega)
  rw [show (fun y => if y < 0 then R y else N y) = N from funext (fun y => by rw [if_neg (by omega)]), up_id M1] at this
  exact this
end P8
section MI
variable {E : eT} {h : hT}
theorem m_init (hs : h 63 = .inr (10, [.int 0, .null, .null, .null, .null, .null, .int 0, .int 0, .int 0, .int 0, .int 0, .null, .long 0, .long 0, .null, .null, .int 0])) : fE M_M_init E [.ref 63] 53 h (qN (fun k g => k = 61 ∧ MS g N0 (fun _ => none) 0 zF 0 1 0 0 0 ∧ fC h g)) := by
  refine fE.of (L := [some (.ref 63)]) (by decide +kernel) (Nat.le_of_ble_eq_true rfl) rfl ?_
  refine a_al0 fM_init_0 ?_
  refine a_oi fM_init_1 k_M_1 w_oiI w_oiC (by decide) (Nat.le_of_ble_eq_true rfl) ?_
  refine a_al0 fM_init_4 ?_
  refine a_ic fM_init_5 ?_
  refine a_newi fM_init_8 w_ai (by decide) (show _ = 189 from rfl) (by decide) (by decide) (by decide) ?_
  refine a_pF1 fM_init_10 q_M_7 rfl (Or.inr ⟨_, rfl⟩) (up_n (by decide) hs) ?_
  refine a_al0 fM_init_13 ?_
  refine a_ic fM_init_14 ?_
  refine a_newi fM_init_17 w_ai (by decide) (show _ = 189 from rfl) (by decide) (by decide) (by decide) ?_
  refine a_pF2 fM_init_19 q_M_13 rfl (Or.inr ⟨_, rfl⟩) (up_n (by decide) up_s) ?_
  refine a_al0 fM_init_22 ?_
  refine a_ic fM_init_23 ?_
  refine a_newi fM_init_26 w_ai (by decide) (show _ = 378 from rfl) (by decide) (by decide) (by decide) ?_
  refine a_pF3 fM_init_28 q_M_16 rfl (Or.inr ⟨_, rfl⟩) (up_n (by decide) up_s) ?_
  refine a_al0 fM_init_31 ?_
  refine a_ic fM_init_32 ?_
  refine a_newz fM_init_33 w_az (by decide) (show _ = 2 from rfl) (by decide) (by decide) (by decide) ?_
  refine a_pF4 fM_init_35 q_M_19 rfl (Or.inr ⟨_, rfl⟩) (up_n (by decide) up_s) ?_
  refine a_al0 fM_init_38 ?_
  refine a_ic fM_init_39 ?_
  refine a_newi fM_init_42 w_ai (by decide) (show _ = 150 from rfl) (by decide) (by decide) (by decide) ?_
  refine a_pF5 fM_init_44 q_M_23 rfl (Or.inr ⟨_, rfl⟩) (up_n (by decide) up_s) ?_
  refine a_al0 fM_init_47 ?_
  refine a_ic fM_init_48 ?_
  refine a_newi fM_init_49 w_ai (by decide) (show _ = 3 from rfl) (by decide) (by decide) (by decide) ?_
  refine a_pF11 fM_init_51 q_M_26 rfl (Or.inr ⟨_, rfl⟩) (up_n (by decide) up_s) ?_
  refine a_al0 fM_init_54 ?_
  refine a_lc fM_init_55 ?_
  refine a_pfl13 fM_init_56 p_M_29 up_s ?_
  refine a_al0 fM_init_59 ?_
  refine a_ic fM_init_60 ?_
  refine a_newi fM_init_62 w_ai (by decide) (show _ = 10 from rfl) (by decide) (by decide) (by decide) ?_
  refine a_pF14 fM_init_64 q_M_33 rfl (Or.inr ⟨_, rfl⟩) (up_n (by decide) up_s) ?_
  refine a_al0 fM_init_67 ?_
  refine a_ic fM_init_68 ?_
  refine a_newi fM_init_69 w_ai (by decide) (show _ = 4 from rfl) (by decide) (by decide) (by decide) ?_
  refine a_pF15 fM_init_71 q_M_36 rfl (Or.inr ⟨_, rfl⟩) (up_n (by decide) up_s) ?_
  refine a_al0 fM_init_74 ?_
  refine a_gf fM_init_75 l_M_7 up_s rfl ?_
  have n64 : ∀ {g : hT} {x : cT}, va_up g 63 x 63 = x := up_s
  refine a_S1N fM_init_78 k_M_39 m_M_begins ⟨by decide, by decide⟩ ⟨rfl, rfl⟩ (Nat.le_of_ble_eq_true rfl) (c_Mbegins (a := 53 + 11) (A := zF) (by repeat (first | exact up_s | refine up_n (by decide) ?_)) (fun _ _ => rfl)) ?_
  refine a_rv fM_init_81 rfl ⟨rfl, rfl, ⟨⟨0, 0, 0, 0, ⟨⟨0, 0, ?_⟩, nF zF, ?_⟩, zF, fun _ _ => rfl, ?_⟩, ⟨?_, z9_N0⟩, ⟨zF, ?_, fun _ _ => rfl⟩, ⟨zF, fun _ => 0, ?_, ?_, fun i _ => Or.inl ⟨rfl, rfl⟩⟩, ?_, zF, ?_, rfl, rfl, rfl⟩, fun a ha => ?_⟩
  · exact up_n (by decide) up_s
  · repeat (first | exact up_s | refine up_n (by decide) ?_)
  · repeat (first | exact up_s | refine up_n (by decide) ?_)
  · repeat (first | exact up_s | refine up_n (by decide) ?_)
  · repeat (first | exact up_s | refine up_n (by decide) ?_)
  · repeat (first | exact up_s | refine up_n (by decide) ?_)
  · repeat (first | exact up_s | refine up_n (by decide) ?_)
  · repeat (first | exact up_s | refine up_n (by decide) ?_)
  · repeat (first | exact up_s | refine up_n (by decide) ?_)
  · repeat (first | exact rfl | refine up_n (by omega) ?_)
end MI
