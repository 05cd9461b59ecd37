/-! the reference's reader: numbers, words, items -/
def wC (i : Nat) : Nat := match i with
  | 0 => 4562700
  | 1 => 91030092
  | 2 => 46363
  | 3 => 12584643
  | _ => 7622760
def cdl (f : Nat → Nat) : Nat → Nat
  | 0 => 0
  | k + 1 => 27 * cdl f k + f k
theorem wcd_cdl {bt : Nat → Nat} {p : Nat} : ∀ k, wcd bt p k = cdl (fun i => bt (p + i) - 96) k
  | 0 => rfl
  | k + 1 => by simp only [wcd, cdl]; rw [wcd_cdl k]
theorem wC_cd : ∀ i, i < 5 → wC i = 100 + cdl (fun j => (wB i).getD j 0 - 96) (wB i).length := by decide
theorem wB_let : ∀ i, i < 5 → ∀ j, j < (wB i).length → 97 ≤ (wB i).getD j 0 ∧ (wB i).getD j 0 ≤ 122 := by decide
theorem wC_ne : ∀ i, i < 5 → 101 ≤ wC i ∧ wC i < 2 ^ 31 := by decide
theorem cdl_inj : ∀ (m n : Nat) (f g : Nat → Nat), (∀ i, i < m → 1 ≤ f i ∧ f i ≤ 26) → (∀ i, i < n → 1 ≤ g i ∧ g i ≤ 26) → cdl f m = cdl g n → m = n ∧ ∀ i, i < m → f i = g i := by
  intro m
  induction m with
  | zero =>
    intro n f g hf hg e
    cases n with
    | zero => exact ⟨rfl, fun i hi => by omega⟩
    | succ n => have := hg n (by omega); simp only [cdl] at e; omega
  | succ m ih =>
    intro n f g hf hg e
    cases n with
    | zero => have := hf m (by omega); simp only [cdl] at e; omega
    | succ n =>
      have h1 := hf m (by omega)
      have h2 := hg n (by omega)
      simp only [cdl] at e
      obtain ⟨e1, e2⟩ := ih n f g (fun i hi => hf i (by omega)) (fun i hi => hg i (by omega)) (by omega)
      subst e1
      refine ⟨rfl, fun i hi => ?_⟩
      rcases Nat.lt_or_ge i m with q | q
      · exact e2 i q
      · rw [show i = m by omega]; omega
def wix (t : Int32) : Int32 := if t = nI (wC 0) then 0 else if t = nI (wC 1) then 1 else if t = nI (wC 2) then 2 else if t = nI (wC 3) then 3 else if t = nI (wC 4) then 4 else -1
theorem wix_i : ∀ i, i < 5 → wix (nI (wC i)) = nI i := by decide
section TK
variable {tn : Nat} {bt : Nat → Nat} {a : Nat}
theorem tk_let (z : tkS tn bt a = 1) : ∀ i, i < tkE tn bt a - tkP tn bt a → 97 ≤ bt (tkP tn bt a + i) ∧ bt (tkP tn bt a + i) ≤ 122 := by
  have h0 : tkS0 tn bt a = 1 := by
    unfold tkS at z
    split at z
    · cases z
    · exact z
  intro i hi
  rw [tkE_run h0 (Or.inl rfl)] at hi
  exact srt_1 (tn := tn) (skp_in 150 (tkP tn bt a) (tkP tn bt a + i) (by omega) (by omega))
theorem tok_wd {i : Nat} (z : tkS tn bt a = 1) (hi : i < 5) : tok tn bt a = nI (wC i) ↔ isWd bt (tkP tn bt a) (tkE tn bt a) i := by
  have e : tok tn bt a = wtk tn bt a := by unfold tok; rw [if_neg (by rw [z]; decide), if_pos z]
  have l6 : (wB i).length ≤ 6 := by unfold wB; split <;> decide
  have L := tk_let z
  have wc := wC_ne i hi
  rw [e]
  unfold wtk
  by_cases c : 6 < tkE tn bt a - tkP tn bt a
  · rw [if_pos c]
    refine ⟨fun q => ?_, fun q => by have := q.1; omega⟩
    have h2 := nI_pos' wc.2
    rw [← q] at h2
    exact absurd h2 (by decide)
  · rw [if_neg c]
    have vb := wcd_lt (bt := bt) (p := tkP tn bt a) (tkE tn bt a - tkP tn bt a) L
    have p6 : 27 ^ (tkE tn bt a - tkP tn bt a) ≤ 27 ^ 6 := Nat.pow_le_pow_right (by decide) (by omega)
    have p7 : 27 ^ 6 = 387420489 := by decide
    rw [nI_eq (by omega) wc.2, wC_cd i hi, wcd_cdl]
    constructor
    · intro q
      obtain ⟨e1, e2⟩ := cdl_inj _ _ _ _ (fun j hj => by have := L j hj; show 1 ≤ bt (tkP tn bt a + j) - 96 ∧ bt (tkP tn bt a + j) - 96 ≤ 26; omega) (fun j hj => by have := wB_let i hi j hj; show 1 ≤ (wB i).getD j 0 - 96 ∧ (wB i).getD j 0 - 96 ≤ 26; omega) (Nat.add_left_cancel q)
      refine ⟨e1, fun j hj => ?_⟩
      have h1 := e2 j (by omega)
      have h2 := L j (by omega)
      have h3 := wB_let i hi j hj
      omega
    · rintro ⟨q1, q2⟩
      rw [q1]
      congr 1
      have : ∀ k, k ≤ (wB i).length → cdl (fun j => bt (tkP tn bt a + j) - 96) k = cdl (fun j => (wB i).getD j 0 - 96) k := by
        intro k
        induction k with
        | zero => intro _; rfl
        | succ k ih => intro hk; simp only [cdl]; rw [ih (by omega), q2 k (by omega)]
      exact this _ (Nat.le_refl _)
theorem tok_nw {i : Nat} (z : ¬ tkS tn bt a = 1) (hi : i < 5) : ¬ tok tn bt a = nI (wC i) := by
  have wc := wC_ne i hi
  have h2 := nI_pos' wc.2
  intro q
  unfold tok at q
  by_cases c0 : tkS tn bt a = 0
  · rw [if_pos c0] at q; rw [← q] at h2; exact absurd h2 (by decide)
  rw [if_neg c0, if_neg z] at q
  by_cases c2 : tkS tn bt a = 2
  · rw [if_pos c2] at q
    have := tkV_lt (v := 0) c2
    have := (nI_eq (by omega) wc.2).mp q
    omega
  rw [if_neg c2] at q
  by_cases c3 : tkS tn bt a = 3
  · rw [if_pos c3] at q; rw [← q] at h2; exact absurd h2 (by decide)
  · rw [if_neg c3] at q; rw [← q] at h2; exact absurd h2 (by decide)
theorem tok_no {lo hi : Nat} (h1 : lo ≤ 100) (h2 : hi ≤ 99) : ((nI lo ≤ tok tn bt a ∧ tok tn bt a ≤ nI hi) ∧ tok tn bt a < 100) ↔ isNo tn bt a lo hi := by
  have hl := nI_pos' (n := lo) (by omega)
  have neg : ∀ t : Int32, t < 0 → ¬ nI lo ≤ t := fun t ht z => Int32.lt_irrefl (Int32.lt_of_le_of_lt (Int32.le_trans hl z) ht)
  by_cases c2 : tkS tn bt a = 2
  · have v := tkV_lt (v := 0) c2
    have e : tok tn bt a = nI (tkV tn bt a 0) := by unfold tok; rw [if_neg (by rw [c2]; decide), if_neg (by rw [c2]; decide), if_pos c2]
    rw [e, nI_leI (by omega) (by omega), nI_leI (by omega) (by omega), show (100 : Int32) = nI 100 from rfl, nI_ltI (by omega) (by decide)]
    exact ⟨fun z => ⟨c2, z.1⟩, fun z => ⟨z.2, v⟩⟩
  · refine ⟨fun z => ?_, fun z => absurd z.1 c2⟩
    exfalso
    unfold tok at z
    by_cases c0 : tkS tn bt a = 0
    · rw [if_pos c0] at z; exact neg _ (by decide) z.1.1
    rw [if_neg c0] at z
    by_cases c1 : tkS tn bt a = 1
    · rw [if_pos c1] at z
      unfold wtk at z
      by_cases c6 : 6 < tkE tn bt a - tkP tn bt a
      · rw [if_pos c6] at z; exact neg _ (by decide) z.1.1
      · rw [if_neg c6] at z
        have vb := wcd_lt (bt := bt) (p := tkP tn bt a) (tkE tn bt a - tkP tn bt a) (tk_let c1)
        have p6 : 27 ^ (tkE tn bt a - tkP tn bt a) ≤ 27 ^ 6 := Nat.pow_le_pow_right (by decide) (by omega)
        have p7 : 27 ^ 6 = 387420489 := by decide
        have := (nI_ltI (b := 100) (by omega) (by decide)).mp z.2
        omega
    rw [if_neg c1, if_neg c2] at z
    by_cases c3 : tkS tn bt a = 3
    · rw [if_pos c3] at z; exact neg _ (by decide) z.1.1
    · rw [if_neg c3] at z; exact neg _ (by decide) z.1.1
theorem tok_st : tok tn bt a = -3 ↔ tkS tn bt a = 3 := by
  unfold tok
  constructor
  · intro q
    split at q
    · exact absurd q (by decide)
    split at q
    · rename_i c1
      unfold wtk at q
      split at q
      · exact absurd q (by decide)
      · rename_i c6
        have vb := wcd_lt (bt := bt) (p := tkP tn bt a) (tkE tn bt a - tkP tn bt a) (tk_let c1)
        have p6 : 27 ^ (tkE tn bt a - tkP tn bt a) ≤ 27 ^ 6 := Nat.pow_le_pow_right (by decide) (by omega)
        have p7 : 27 ^ 6 = 387420489 := by decide
        have h2 := nI_pos' (n := 100 + wcd bt (tkP tn bt a) (tkE tn bt a - tkP tn bt a)) (by omega)
        rw [q] at h2
        exact absurd h2 (by decide)
    split at q
    · rename_i c2
      have h2 := nI_pos' (n := tkV tn bt a 0) (by have := tkV_lt (v := 0) c2; omega)
      rw [q] at h2
      exact absurd h2 (by decide)
    split at q
    · assumption
    · exact absurd q (by decide)
  · intro z
    rw [z]
    rfl
theorem tok_end : tok tn bt a = -4 ↔ tkS tn bt a = 0 := by
  unfold tok
  constructor
  · intro q
    split at q
    · assumption
    split at q
    · rename_i c1
      unfold wtk at q
      split at q
      · exact absurd q (by decide)
      · rename_i c6
        have vb := wcd_lt (bt := bt) (p := tkP tn bt a) (tkE tn bt a - tkP tn bt a) (tk_let c1)
        have p6 : 27 ^ (tkE tn bt a - tkP tn bt a) ≤ 27 ^ 6 := Nat.pow_le_pow_right (by decide) (by omega)
        have p7 : 27 ^ 6 = 387420489 := by decide
        have h2 := nI_pos' (n := 100 + wcd bt (tkP tn bt a) (tkE tn bt a - tkP tn bt a)) (by omega)
        rw [q] at h2
        exact absurd h2 (by decide)
    split at q
    · rename_i c2
      have h2 := nI_pos' (n := tkV tn bt a 0) (by have := tkV_lt (v := 0) c2; omega)
      rw [q] at h2
      exact absurd h2 (by decide)
    split at q
    · exact absurd q (by decide)
    · exact absurd q (by decide)
  · intro z
    rw [if_pos z]
end TK
section MB
variable {E : eT} {n : Nat} {h : hT} {tn : Nat} {bt : Nat → Nat} {th mn : Int32} {up lo : Int64}
abbrev sW (tn : Nat) (bt : Nat → Nat) (up lo : Int64) (a : Nat) (th mn : Int32) : cT := mO (nI tn, nI (tkE tn bt a), nI (tkP tn bt a), tok tn bt a, -1, up, lo) th mn
theorem c_MisWell {tt nx pl tk fa : Int32} (m0 : h 63 = mO (tt, nx, pl, tk, fa, up, lo) th mn) : fE M_M_isWell E [.ref 63] n h (eV (.int (bI (fa < 0))) n h) := by
  refine fE.of (L := [some (.ref 63)]) (by decide +kernel) (Nat.le_of_ble_eq_true rfl) rfl ?_
  refine a_al0 fM_isWell_0 ?_
  refine a_gf fM_isWell_1 l_M_105 m0 rfl ?_
  refine a_if_ge fM_isWell_4 (fun c => ?_) (fun c => ?_)
  · refine a_ic fM_isWell_11 ?_
    exact a_rz fM_isWell_12 rfl (by first | rfl | (split <;> rfl)) (⟨sv (by rw [bI_f (fun z => absurd c (Int32.not_le.mpr z))]), rfl, rfl⟩)
  · refine a_ic fM_isWell_7 ?_
    refine a_goto fM_isWell_8 ?_
    exact a_rz fM_isWell_12 rfl (by first | rfl | (split <;> rfl)) (⟨sv (by rw [bI_t (Int32.not_le.mp c)]), rfl, rfl⟩)
theorem c_Mtk_t {a : Nat} {pl tk : Int32} (m0 : h 63 = mO (nI tn, nI a, pl, tk, -1, up, lo) th mn) (m5 : h 68 = nA 150 bt) (K : okX tn bt) (ha : a ≤ tn) : fE M_M_takes E [.ref 63, .int 1] n h (eV (.int tk) n (va_up h 63 (sW tn bt up lo a th mn))) := by
  refine fE.of (L := [some (.ref 63), some (.int 1), none]) (by decide +kernel) (Nat.le_of_ble_eq_true rfl) rfl ?_
  refine a_al0 fM_takes_0 ?_
  refine a_V0V fM_takes_1 k_M_108 m_M_isWell ⟨by decide, by decide⟩ m0 rfl ⟨rfl, rfl⟩ (Nat.le_of_ble_eq_true rfl) (c_MisWell m0) ?_
  refine a_if_eq fM_takes_4 (fun c_ => absurd c_ (by decide)) (fun _ => ?_)
  refine a_il1 fM_takes_7 ?_
  refine a_if_ne fM_takes_8 (fun _ => ?_) (fun c_ => absurd c_ (by decide))
  refine a_al0 fM_takes_19 ?_
  refine a_gf fM_takes_20 l_M_98 m0 rfl ?_
  refine a_is2 fM_takes_23 (by decide) rfl ?_
  refine a_al0 fM_takes_24 ?_
  refine a_V0V fM_takes_25 k_M_108 m_M_isWell ⟨by decide, by decide⟩ m0 rfl ⟨rfl, rfl⟩ (Nat.le_of_ble_eq_true rfl) (c_MisWell m0) ?_
  refine a_if_eq fM_takes_28 (fun c_ => absurd c_ (by decide)) (fun _ => ?_)
  refine a_al0 fM_takes_31 ?_
  refine a_V0N fM_takes_32 k_M_112 m_M_advances ⟨by decide, by decide⟩ m0 rfl ⟨rfl, rfl⟩ (Nat.le_of_ble_eq_true rfl) (c_Madvances m0 m5 K ha) ?_
  refine a_il2 fM_takes_35 ?_
  exact a_ri fM_takes_36 rfl (⟨rfl, rfl, rfl⟩)
theorem c_Mtk_f {P : Nat} {nx tk : Int32} (m0 : h 63 = mO (nI tn, nx, nI P, tk, -1, up, lo) th mn) (hP : P ≤ 150) : fE M_M_takes E [.ref 63, .int 0] n h (eV (.int tk) n (va_up h 63 (mO (nI tn, nx, nI P, tk, nI P, up, lo) th mn))) := by
  refine fE.of (L := [some (.ref 63), some (.int 0), none]) (by decide +kernel) (Nat.le_of_ble_eq_true rfl) rfl ?_
  refine a_al0 fM_takes_0 ?_
  refine a_V0V fM_takes_1 k_M_108 m_M_isWell ⟨by decide, by decide⟩ m0 rfl ⟨rfl, rfl⟩ (Nat.le_of_ble_eq_true rfl) (c_MisWell m0) ?_
  refine a_if_eq fM_takes_4 (fun c_ => absurd c_ (by decide)) (fun _ => ?_)
  refine a_il1 fM_takes_7 ?_
  refine a_if_ne fM_takes_8 (fun c_ => absurd (rfl) c_) (fun _ => ?_)
  refine a_al0 fM_takes_11 ?_
  refine a_al0 fM_takes_12 ?_
  refine a_gf fM_takes_13 l_M_95 m0 rfl ?_
  refine a_pfi10 fM_takes_16 p_M_105 m0 ?_
  refine a_al0 fM_takes_19 ?_
  refine a_gf fM_takes_20 l_M_98 up_s rfl ?_
  refine a_is2 fM_takes_23 (by decide) rfl ?_
  refine a_al0 fM_takes_24 ?_
  refine a_V0V fM_takes_25 k_M_108 m_M_isWell ⟨by decide, by decide⟩ up_s rfl ⟨rfl, rfl⟩ (Nat.le_of_ble_eq_true rfl) (c_MisWell (tt := nI tn) (nx := nx) (pl := nI P) (tk := tk) (fa := nI P) (up := up) (lo := lo) (th := th) (mn := mn) up_s) ?_
  refine a_if_eq fM_takes_28 (fun _ => ?_) (fun c_ => absurd (by rw [bI_f (nI_pos (by omega))]) c_)
  refine a_il2 fM_takes_35 ?_
  exact a_ri fM_takes_36 rfl (⟨rfl, rfl, rfl⟩)
theorem c_Mtk_b {f : Nat} {b tt nx pl tk : Int32} (m0 : h 63 = mO (tt, nx, pl, tk, nI f, up, lo) th mn) (hf : f ≤ 150) : fE M_M_takes E [.ref 63, .int b] n h (eV (.int tk) n h) := by
  refine fE.of (L := [some (.ref 63), some (.int b), none]) (by decide +kernel) (Nat.le_of_ble_eq_true rfl) rfl ?_
  refine a_al0 fM_takes_0 ?_
  refine a_V0V fM_takes_1 k_M_108 m_M_isWell ⟨by decide, by decide⟩ m0 rfl ⟨rfl, rfl⟩ (Nat.le_of_ble_eq_true rfl) (c_MisWell m0) ?_
  refine a_if_eq fM_takes_4 (fun _ => ?_) (fun c_ => absurd (by rw [bI_f (nI_pos (by omega))]) c_)
  refine a_al0 fM_takes_19 ?_
  refine a_gf fM_takes_20 l_M_98 m0 rfl ?_
  refine a_is2 fM_takes_23 (by decide) rfl ?_
  refine a_al0 fM_takes_24 ?_
  refine a_V0V fM_takes_25 k_M_108 m_M_isWell ⟨by decide, by decide⟩ m0 rfl ⟨rfl, rfl⟩ (Nat.le_of_ble_eq_true rfl) (c_MisWell m0) ?_
  refine a_if_eq fM_takes_28 (fun _ => ?_) (fun c_ => absurd (by rw [bI_f (nI_pos (by omega))]) c_)
  refine a_il2 fM_takes_35 ?_
  exact a_ri fM_takes_36 rfl (⟨rfl, rfl, rfl⟩)
theorem c_Mnum_t {a l9 h9 : Nat} (m0 : h 63 = sW tn bt up lo a th mn) (m5 : h 68 = nA 150 bt) (K : okX tn bt) (ha : a ≤ tn) (b1 : l9 ≤ 100) (b2 : h9 ≤ 99) (c : isNo tn bt a l9 h9) : fE M_M_number E [.ref 63, .int (nI l9), .int (nI h9)] n h (eV (.int (nI (tkV tn bt a 0))) n (va_up h 63 (sW tn bt up lo (tkE tn bt a) th mn))) := by
  have t := (tok_no b1 b2).mpr c
  have e : tok tn bt a = nI (tkV tn bt a 0) := by unfold tok; rw [if_neg (by rw [c.1]; decide), if_neg (by rw [c.1]; decide), if_pos c.1]
  refine fE.of (L := [some (.ref 63), some (.int (nI l9)), some (.int (nI h9))]) (by decide +kernel) (Nat.le_of_ble_eq_true rfl) rfl ?_
  refine a_al0 fM_number_0 ?_
  refine a_al0 fM_number_1 ?_
  refine a_gf fM_number_2 l_M_98 m0 rfl ?_
  refine a_il1 fM_number_5 ?_
  refine a_il2 fM_number_6 ?_
  refine a_S3V fM_number_7 k_M_70 m_M_in ⟨by decide, by decide⟩ ⟨rfl, rfl⟩ (Nat.le_of_ble_eq_true rfl) (c_Min) ?_
  refine a_if_eq fM_number_10 (fun c_ => absurd c_ (fun z => by rw [bI_t t.1] at z; exact absurd z (by decide))) (fun _ => ?_)
  refine a_al0 fM_number_13 ?_
  refine a_gf fM_number_14 l_M_98 m0 rfl ?_
  refine a_ic fM_number_17 ?_
  refine a_ic_ge fM_number_19 (fun c_ => absurd c_ (Int32.not_le.mpr t.2)) (fun _ => ?_)
  refine a_ic fM_number_22 ?_
  refine a_goto fM_number_23 ?_
  refine a_V1V fM_number_27 k_M_115 m_M_takes ⟨by decide, by decide⟩ m0 rfl ⟨rfl, rfl⟩ (Nat.le_of_ble_eq_true rfl) (c_Mtk_t m0 m5 K (tkE_le ha)) ?_
  exact a_ri fM_number_30 rfl (⟨sv e, rfl, rfl⟩)
theorem c_Mnum_f {a l9 h9 : Nat} (m0 : h 63 = sW tn bt up lo a th mn) (K : okX tn bt) (ha : a ≤ tn) (b1 : l9 ≤ 100) (b2 : h9 ≤ 99) (c : ¬ isNo tn bt a l9 h9) : fE M_M_number E [.ref 63, .int (nI l9), .int (nI h9)] n h (eV (.int (tok tn bt a)) n (va_up h 63 (mO (nI tn, nI (tkE tn bt a), nI (tkP tn bt a), tok tn bt a, nI (tkP tn bt a), up, lo) th mn))) := by
  have k0 := K.1
  have Pt := tkP_le (bt := bt) ha
  refine fE.of (L := [some (.ref 63), some (.int (nI l9)), some (.int (nI h9))]) (by decide +kernel) (Nat.le_of_ble_eq_true rfl) rfl ?_
  by_cases c1 : nI l9 ≤ tok tn bt a ∧ tok tn bt a ≤ nI h9
  · refine a_al0 fM_number_0 ?_
    refine a_al0 fM_number_1 ?_
    refine a_gf fM_number_2 l_M_98 m0 rfl ?_
    refine a_il1 fM_number_5 ?_
    refine a_il2 fM_number_6 ?_
    refine a_S3V fM_number_7 k_M_70 m_M_in ⟨by decide, by decide⟩ ⟨rfl, rfl⟩ (Nat.le_of_ble_eq_true rfl) (c_Min) ?_
    refine a_if_eq fM_number_10 (fun c_ => absurd c_ (fun z => by rw [bI_t c1] at z; exact absurd z (by decide))) (fun _ => ?_)
    refine a_al0 fM_number_13 ?_
    refine a_gf fM_number_14 l_M_98 m0 rfl ?_
    refine a_ic fM_number_17 ?_
    refine a_ic_ge fM_number_19 (fun _ => ?_) (fun c_ => absurd (Int32.not_lt.mp (fun z => c ((tok_no b1 b2).mp ⟨c1, z⟩))) c_)
    refine a_ic fM_number_26 ?_
    refine a_V1V fM_number_27 k_M_115 m_M_takes ⟨by decide, by decide⟩ m0 rfl ⟨rfl, rfl⟩ (Nat.le_of_ble_eq_true rfl) (c_Mtk_f m0 (by omega)) ?_
    exact a_ri fM_number_30 rfl (⟨rfl, rfl, rfl⟩)
  · refine a_al0 fM_number_0 ?_
    refine a_al0 fM_number_1 ?_
    refine a_gf fM_number_2 l_M_98 m0 rfl ?_
    refine a_il1 fM_number_5 ?_
    refine a_il2 fM_number_6 ?_
    refine a_S3V fM_number_7 k_M_70 m_M_in ⟨by decide, by decide⟩ ⟨rfl, rfl⟩ (Nat.le_of_ble_eq_true rfl) (c_Min) ?_
    refine a_if_eq fM_number_10 (fun _ => ?_) (fun c_ => absurd (by rw [bI_f c1]) c_)
    refine a_ic fM_number_26 ?_
    refine a_V1V fM_number_27 k_M_115 m_M_takes ⟨by decide, by decide⟩ m0 rfl ⟨rfl, rfl⟩ (Nat.le_of_ble_eq_true rfl) (c_Mtk_f m0 (by omega)) ?_
    exact a_ri fM_number_30 rfl (⟨rfl, rfl, rfl⟩)
theorem c_Mnum_b {f : Nat} {l9 h9 tt nx pl tk : Int32} (m0 : h 63 = mO (tt, nx, pl, tk, nI f, up, lo) th mn) (hf : f ≤ 150) : fE M_M_number E [.ref 63, .int l9, .int h9] n h (eV (.int tk) n h) := by
  refine fE.of (L := [some (.ref 63), some (.int l9), some (.int h9)]) (by decide +kernel) (Nat.le_of_ble_eq_true rfl) rfl ?_
  by_cases c1 : l9 ≤ tk ∧ tk ≤ h9
  · refine a_al0 fM_number_0 ?_
    refine a_al0 fM_number_1 ?_
    refine a_gf fM_number_2 l_M_98 m0 rfl ?_
    refine a_il1 fM_number_5 ?_
    refine a_il2 fM_number_6 ?_
    refine a_S3V fM_number_7 k_M_70 m_M_in ⟨by decide, by decide⟩ ⟨rfl, rfl⟩ (Nat.le_of_ble_eq_true rfl) (c_Min) ?_
    refine a_if_eq fM_number_10 (fun c_ => absurd c_ (fun z => by rw [bI_t c1] at z; exact absurd z (by decide))) (fun _ => ?_)
    by_cases c2 : tk < 100
    · refine a_al0 fM_number_13 ?_
      refine a_gf fM_number_14 l_M_98 m0 rfl ?_
      refine a_ic fM_number_17 ?_
      refine a_ic_ge fM_number_19 (fun c_ => absurd c_ (Int32.not_le.mpr c2)) (fun _ => ?_)
      refine a_ic fM_number_22 ?_
      refine a_goto fM_number_23 ?_
      refine a_V1V fM_number_27 k_M_115 m_M_takes ⟨by decide, by decide⟩ m0 rfl ⟨rfl, rfl⟩ (Nat.le_of_ble_eq_true rfl) (c_Mtk_b m0 hf) ?_
      exact a_ri fM_number_30 rfl (⟨rfl, rfl, rfl⟩)
    · refine a_al0 fM_number_13 ?_
      refine a_gf fM_number_14 l_M_98 m0 rfl ?_
      refine a_ic fM_number_17 ?_
      refine a_ic_ge fM_number_19 (fun _ => ?_) (fun c_ => absurd (Int32.not_lt.mp c2) c_)
      refine a_ic fM_number_26 ?_
      refine a_V1V fM_number_27 k_M_115 m_M_takes ⟨by decide, by decide⟩ m0 rfl ⟨rfl, rfl⟩ (Nat.le_of_ble_eq_true rfl) (c_Mtk_b m0 hf) ?_
      exact a_ri fM_number_30 rfl (⟨rfl, rfl, rfl⟩)
  · refine a_al0 fM_number_0 ?_
    refine a_al0 fM_number_1 ?_
    refine a_gf fM_number_2 l_M_98 m0 rfl ?_
    refine a_il1 fM_number_5 ?_
    refine a_il2 fM_number_6 ?_
    refine a_S3V fM_number_7 k_M_70 m_M_in ⟨by decide, by decide⟩ ⟨rfl, rfl⟩ (Nat.le_of_ble_eq_true rfl) (c_Min) ?_
    refine a_if_eq fM_number_10 (fun _ => ?_) (fun c_ => absurd (by rw [bI_f c1]) c_)
    refine a_ic fM_number_26 ?_
    refine a_V1V fM_number_27 k_M_115 m_M_takes ⟨by decide, by decide⟩ m0 rfl ⟨rfl, rfl⟩ (Nat.le_of_ble_eq_true rfl) (c_Mtk_b m0 hf) ?_
    exact a_ri fM_number_30 rfl (⟨rfl, rfl, rfl⟩)
theorem c_Msum5 {a b c d e : Nat} (hb : ¬ nI b = 0) (hc : ¬ nI c = 0) (hd : ¬ nI d = 0) (he : ¬ nI e = 0) : fE M_M_sum E [.int (nI a), .int (nI b), .int (nI c), .int (nI d), .int (nI e)] n h (eV (.int (100 + (27 * (27 * (27 * (27 * nI a + nI b) + nI c) + nI d) + nI e))) n h) := by
  refine fE.of (L := [some (.int (nI a)), some (.int (nI b)), some (.int (nI c)), some (.int (nI d)), some (.int (nI e)), none]) (by decide +kernel) (Nat.le_of_ble_eq_true rfl) rfl ?_
  refine a_il0 fM_sum_0 ?_
  refine a_is5 fM_sum_1 (by decide) rfl ?_
  refine a_il1 fM_sum_3 ?_
  refine a_if_ne fM_sum_4 (fun _ => ?_) (fun c_ => absurd c_ (hb))
  refine a_ic fM_sum_12 ?_
  refine a_il5 fM_sum_14 ?_
  refine a_imul fM_sum_16 ?_
  refine a_il1 fM_sum_17 ?_
  refine a_iadd fM_sum_18 ?_
  refine a_is5 fM_sum_19 (by decide) rfl ?_
  refine a_il2 fM_sum_21 ?_
  refine a_if_ne fM_sum_22 (fun _ => ?_) (fun c_ => absurd c_ (hc))
  refine a_ic fM_sum_30 ?_
  refine a_il5 fM_sum_32 ?_
  refine a_imul fM_sum_34 ?_
  refine a_il2 fM_sum_35 ?_
  refine a_iadd fM_sum_36 ?_
  refine a_is5 fM_sum_37 (by decide) rfl ?_
  refine a_il3 fM_sum_39 ?_
  refine a_if_ne fM_sum_40 (fun _ => ?_) (fun c_ => absurd c_ (hd))
  refine a_ic fM_sum_48 ?_
  refine a_il5 fM_sum_50 ?_
  refine a_imul fM_sum_52 ?_
  refine a_il3 fM_sum_53 ?_
  refine a_iadd fM_sum_54 ?_
  refine a_is5 fM_sum_55 (by decide) rfl ?_
  refine a_ic fM_sum_57 ?_
  refine a_il4 fM_sum_59 ?_
  refine a_if_ne fM_sum_61 (fun _ => ?_) (fun c_ => absurd c_ (he))
  refine a_ic fM_sum_69 ?_
  refine a_il5 fM_sum_71 ?_
  refine a_imul fM_sum_73 ?_
  refine a_il4 fM_sum_74 ?_
  refine a_iadd fM_sum_76 ?_
  refine a_iadd fM_sum_77 ?_
  exact a_ri fM_sum_78 rfl (⟨rfl, rfl, rfl⟩)
theorem c_Msum4 {a b c d : Nat} (hb : ¬ nI b = 0) (hc : ¬ nI c = 0) (hd : ¬ nI d = 0) : fE M_M_sum E [.int (nI a), .int (nI b), .int (nI c), .int (nI d), .int 0] n h (eV (.int (100 + (27 * (27 * (27 * nI a + nI b) + nI c) + nI d))) n h) := by
  refine fE.of (L := [some (.int (nI a)), some (.int (nI b)), some (.int (nI c)), some (.int (nI d)), some (.int 0), none]) (by decide +kernel) (Nat.le_of_ble_eq_true rfl) rfl ?_
  refine a_il0 fM_sum_0 ?_
  refine a_is5 fM_sum_1 (by decide) rfl ?_
  refine a_il1 fM_sum_3 ?_
  refine a_if_ne fM_sum_4 (fun _ => ?_) (fun c_ => absurd c_ (hb))
  refine a_ic fM_sum_12 ?_
  refine a_il5 fM_sum_14 ?_
  refine a_imul fM_sum_16 ?_
  refine a_il1 fM_sum_17 ?_
  refine a_iadd fM_sum_18 ?_
  refine a_is5 fM_sum_19 (by decide) rfl ?_
  refine a_il2 fM_sum_21 ?_
  refine a_if_ne fM_sum_22 (fun _ => ?_) (fun c_ => absurd c_ (hc))
  refine a_ic fM_sum_30 ?_
  refine a_il5 fM_sum_32 ?_
  refine a_imul fM_sum_34 ?_
  refine a_il2 fM_sum_35 ?_
  refine a_iadd fM_sum_36 ?_
  refine a_is5 fM_sum_37 (by decide) rfl ?_
  refine a_il3 fM_sum_39 ?_
  refine a_if_ne fM_sum_40 (fun _ => ?_) (fun c_ => absurd c_ (hd))
  refine a_ic fM_sum_48 ?_
  refine a_il5 fM_sum_50 ?_
  refine a_imul fM_sum_52 ?_
  refine a_il3 fM_sum_53 ?_
  refine a_iadd fM_sum_54 ?_
  refine a_is5 fM_sum_55 (by decide) rfl ?_
  refine a_ic fM_sum_57 ?_
  refine a_il4 fM_sum_59 ?_
  refine a_if_ne fM_sum_61 (fun c_ => absurd (rfl) c_) (fun _ => ?_)
  refine a_il5 fM_sum_64 ?_
  refine a_goto fM_sum_66 ?_
  refine a_iadd fM_sum_77 ?_
  exact a_ri fM_sum_78 rfl (⟨rfl, rfl, rfl⟩)
theorem c_MwordIs {tt nx pl tk fa : Int32} (m0 : h 63 = mO (tt, nx, pl, tk, fa, up, lo) th mn) : fE M_M_wordIs E [.ref 63] n h (eV (.int (wix tk)) n h) := by
  refine fE.of (L := [some (.ref 63)]) (by decide +kernel) (Nat.le_of_ble_eq_true rfl) rfl ?_
  refine a_al0 fM_wordIs_0 ?_
  refine a_gf fM_wordIs_1 l_M_98 m0 rfl ?_
  refine a_ic fM_wordIs_4 ?_
  refine a_ic fM_wordIs_6 ?_
  refine a_ic fM_wordIs_8 ?_
  refine a_ic fM_wordIs_10 ?_
  refine a_ic fM_wordIs_12 ?_
  refine a_S5V fM_wordIs_13 k_M_119 m_M_sum ⟨by decide, by decide⟩ ⟨rfl, rfl⟩ (Nat.le_of_ble_eq_true rfl) (c_Msum5 (a := 8) (b := 15) (c := 21) (d := 19) (e := 5) (by decide) (by decide) (by decide) (by decide)) ?_
  rw [show (100 : Int32) + (27 * (27 * (27 * (27 * nI 8 + nI 15) + nI 21) + nI 19) + nI 5) = nI (wC 0) by decide]
  by_cases c0 : tk = nI (wC 0)
  · refine a_ic_ne fM_wordIs_16 (fun c_ => absurd (c0) c_) (fun _ => ?_)
    refine a_ic fM_wordIs_19 ?_
    exact a_ri fM_wordIs_20 rfl (⟨sv (by unfold wix; rw [if_pos c0]), rfl, rfl⟩)
  · refine a_ic_ne fM_wordIs_16 (fun _ => ?_) (fun c_ => absurd c_ (c0))
    refine a_al0 fM_wordIs_21 ?_
    refine a_gf fM_wordIs_22 l_M_98 m0 rfl ?_
    refine a_ic fM_wordIs_25 ?_
    refine a_ic fM_wordIs_27 ?_
    refine a_ic fM_wordIs_29 ?_
    refine a_ic fM_wordIs_31 ?_
    refine a_ic fM_wordIs_33 ?_
    refine a_S5V fM_wordIs_35 k_M_119 m_M_sum ⟨by decide, by decide⟩ ⟨rfl, rfl⟩ (Nat.le_of_ble_eq_true rfl) (c_Msum5 (a := 6) (b := 9) (c := 7) (d := 21) (e := 18) (by decide) (by decide) (by decide) (by decide)) ?_
    refine a_ic fM_wordIs_38 ?_
    refine a_isub fM_wordIs_40 ?_
    refine a_ic fM_wordIs_41 ?_
    refine a_imul fM_wordIs_43 ?_
    refine a_ic fM_wordIs_44 ?_
    refine a_iadd fM_wordIs_45 ?_
    refine a_ic fM_wordIs_46 ?_
    refine a_iadd fM_wordIs_48 ?_
    rw [show (100 + (27 * (27 * (27 * (27 * nI 6 + nI 9) + nI 7) + nI 21) + nI 18) - 100) * 27 + 5 + 100 = nI (wC 1) by decide]
    by_cases c1 : tk = nI (wC 1)
    · refine a_ic_ne fM_wordIs_49 (fun c_ => absurd (c1) c_) (fun _ => ?_)
      refine a_ic fM_wordIs_52 ?_
      exact a_ri fM_wordIs_53 rfl (⟨sv (by unfold wix; rw [if_neg c0, if_pos c1]), rfl, rfl⟩)
    · refine a_ic_ne fM_wordIs_49 (fun _ => ?_) (fun c_ => absurd c_ (c1))
      refine a_al0 fM_wordIs_54 ?_
      refine a_gf fM_wordIs_55 l_M_98 m0 rfl ?_
      refine a_ic fM_wordIs_58 ?_
      refine a_ic fM_wordIs_59 ?_
      refine a_ic fM_wordIs_61 ?_
      refine a_ic fM_wordIs_63 ?_
      refine a_ic fM_wordIs_65 ?_
      refine a_S5V fM_wordIs_66 k_M_119 m_M_sum ⟨by decide, by decide⟩ ⟨rfl, rfl⟩ (Nat.le_of_ble_eq_true rfl) (c_Msum4 (a := 2) (b := 9) (c := 12) (d := 12) (by decide) (by decide) (by decide)) ?_
      rw [show (100 : Int32) + (27 * (27 * (27 * nI 2 + nI 9) + nI 12) + nI 12) = nI (wC 2) by decide]
      by_cases c2 : tk = nI (wC 2)
      · refine a_ic_ne fM_wordIs_69 (fun c_ => absurd (c2) c_) (fun _ => ?_)
        refine a_ic fM_wordIs_72 ?_
        refine a_goto fM_wordIs_73 ?_
        exact a_ri fM_wordIs_124 rfl (⟨sv (by unfold wix; rw [if_neg c0, if_neg c1, if_pos c2]), rfl, rfl⟩)
      · refine a_ic_ne fM_wordIs_69 (fun _ => ?_) (fun c_ => absurd c_ (c2))
        refine a_al0 fM_wordIs_76 ?_
        refine a_gf fM_wordIs_77 l_M_98 m0 rfl ?_
        refine a_ic fM_wordIs_80 ?_
        refine a_ic fM_wordIs_82 ?_
        refine a_ic fM_wordIs_84 ?_
        refine a_ic fM_wordIs_86 ?_
        refine a_ic fM_wordIs_88 ?_
        refine a_S5V fM_wordIs_89 k_M_119 m_M_sum ⟨by decide, by decide⟩ ⟨rfl, rfl⟩ (Nat.le_of_ble_eq_true rfl) (c_Msum5 (a := 23) (b := 18) (c := 9) (d := 20) (e := 5) (by decide) (by decide) (by decide) (by decide)) ?_
        rw [show (100 : Int32) + (27 * (27 * (27 * (27 * nI 23 + nI 18) + nI 9) + nI 20) + nI 5) = nI (wC 3) by decide]
        by_cases c3 : tk = nI (wC 3)
        · refine a_ic_ne fM_wordIs_92 (fun c_ => absurd (c3) c_) (fun _ => ?_)
          refine a_ic fM_wordIs_95 ?_
          refine a_goto fM_wordIs_96 ?_
          exact a_ri fM_wordIs_124 rfl (⟨sv (by unfold wix; rw [if_neg c0, if_neg c1, if_neg c2, if_pos c3]), rfl, rfl⟩)
        · refine a_ic_ne fM_wordIs_92 (fun _ => ?_) (fun c_ => absurd c_ (c3))
          refine a_al0 fM_wordIs_99 ?_
          refine a_gf fM_wordIs_100 l_M_98 m0 rfl ?_
          refine a_ic fM_wordIs_103 ?_
          refine a_ic fM_wordIs_105 ?_
          refine a_ic fM_wordIs_107 ?_
          refine a_ic fM_wordIs_109 ?_
          refine a_ic fM_wordIs_111 ?_
          refine a_S5V fM_wordIs_113 k_M_119 m_M_sum ⟨by decide, by decide⟩ ⟨rfl, rfl⟩ (Nat.le_of_ble_eq_true rfl) (c_Msum5 (a := 14) (b := 9) (c := 7) (d := 8) (e := 20) (by decide) (by decide) (by decide) (by decide)) ?_
          rw [show (100 : Int32) + (27 * (27 * (27 * (27 * nI 14 + nI 9) + nI 7) + nI 8) + nI 20) = nI (wC 4) by decide]
          by_cases c4 : tk = nI (wC 4)
          · refine a_ic_ne fM_wordIs_116 (fun c_ => absurd (c4) c_) (fun _ => ?_)
            refine a_ic fM_wordIs_119 ?_
            refine a_goto fM_wordIs_120 ?_
            exact a_ri fM_wordIs_124 rfl (⟨sv (by unfold wix; rw [if_neg c0, if_neg c1, if_neg c2, if_neg c3, if_pos c4]), rfl, rfl⟩)
          · refine a_ic_ne fM_wordIs_116 (fun _ => ?_) (fun c_ => absurd c_ (c4))
            refine a_ic fM_wordIs_123 ?_
            exact a_ri fM_wordIs_124 rfl (⟨sv (by unfold wix; rw [if_neg c0, if_neg c1, if_neg c2, if_neg c3, if_neg c4]), rfl, rfl⟩)
end MB
