theorem bI_cg {p q : Prop} [Decidable p] [Decidable q] (e : p ↔ q) : bI p = bI q := by
  by_cases hp : p
  · rw [bI_t hp, bI_t (e.mp hp)]
  · rw [bI_f hp, bI_f (fun z => hp (e.mpr z))]
theorem sl0 {N : Nat → Nat} {f : Nat} (h : f < 10) : sl N 0 10 f = N f := by rw [sl_lt h, Nat.zero_add]
/-- a row with other worn figures -/
def wrow (A W : Nat → Nat) : Nat → Nat := fun y => if 20 ≤ y ∧ y < 30 then W (y - 20) else A y
theorem wrow_in {A W : Nat → Nat} {f : Nat} (h : f < 10) : wrow A W (20 + f) = W f := by unfold wrow; rw [if_pos (by omega)]; congr 1; omega
theorem wrow_out {A W : Nat → Nat} {f : Nat} (h : f < 20 ∨ 30 ≤ f) : wrow A W f = A f := by unfold wrow; rw [if_neg (by omega)]
theorem wrow_up {A W : Nat → Nat} {f v : Nat} (h : f < 10) : ∀ j, wrow A (va_up W f v) j = if j = 20 + f then v else wrow A W j := by
  intro j
  unfold wrow va_up
  grind
theorem wrow_id {A : Nat → Nat} : wrow A (sl A 20 10) = A := by
  funext j
  unfold wrow sl
  grind
theorem wrow_wd {A : Nat → Nat} {sg : List Nat} : wrow A (wad (sl A 0 10) (A 30) 0 sg (sl A 20 10)) = wdN A sg := rfl
section M2
variable {E : eT} {n : Nat} {h : hT} {c : mT} {th mn : Int32} {N : Nat → Nat}
theorem c_MwearsBy {a k D f : Nat} {A : Nat → Nat} {g : Nat → Int32} (m0 : h 63 = mO c th mn) (m8 : h 71 = ia 4 g) (hA : h a = nA 189 A) (hg : g k = nI f) (hf : f < 10) (hk : k < 4) (bA : A f ≤ 5) (hD : D < 2 ^ 31) : fE M_M_wearsBy E [.ref 63, .ref a, .int (nI k), .int (nI D)] n h (eV (.int (nI (wr (A f) k D))) n h) := by
  refine fE.of (L := [some (.ref 63), some (.ref a), some (.int (nI k)), some (.int (nI D))]) (by decide +kernel) (Nat.le_of_ble_eq_true rfl) rfl ?_
  refine a_al1 fM_wearsBy_0 ?_
  refine a_ic fM_wearsBy_1 ?_
  refine a_al0 fM_wearsBy_2 ?_
  refine a_gf fM_wearsBy_3 l_M_36 m0 rfl ?_
  refine a_il2 fM_wearsBy_6 ?_
  refine a_ia fM_wearsBy_7 m8 rfl (by omega) (by decide) ?_
  refine a_iadd fM_wearsBy_8 ?_
  refine a_ia fM_wearsBy_9 hA (show (0 : Int32) + g k = nI f by rw [hg, Int32.zero_add]) (by omega) (by decide) ?_
  refine a_il2 fM_wearsBy_10 ?_
  refine a_il3 fM_wearsBy_11 ?_
  refine a_S3V fM_wearsBy_12 k_M_58 m_M_wearOf ⟨by decide, by decide⟩ ⟨rfl, rfl⟩ (Nat.le_of_ble_eq_true rfl) (c_MwearOf (K := A f) bA (by omega) hD) ?_
  exact a_ri fM_wearsBy_15 rfl (⟨rfl, rfl, rfl⟩)
theorem c_McostOf {v x : Nat} (M : mM c h) (m1 : h 64 = nA 189 N) (O : okC N) (hv : v < 100) (hx : x < 100) : fE M_M_costOf E [.ref 63, .int (nI v), .int (nI x)] n h (qI (fun r k g => r = nI (cstR N v x) ∧ k = n ∧ mM c g ∧ mL h g)) := by
  obtain ⟨⟨th, mn, m0⟩, f0, m8⟩ := M
  refine fE.of (L := [some (.ref 63), some (.int (nI v)), some (.int (nI x)), none, none]) (by decide +kernel) (Nat.le_of_ble_eq_true rfl) rfl ?_
  refine a_al0 fM_costOf_0 ?_
  refine a_il1 fM_costOf_1 ?_
  refine a_il2 fM_costOf_2 ?_
  refine a_V2Q fM_costOf_3 k_M_62 m_M_line ⟨by decide, by decide⟩ m0 rfl ⟨rfl, rfl⟩ (Nat.le_of_ble_eq_true rfl) (c_Mline m0 m8 hv hx) (fun n1 h1 p1 => ?_)
  obtain ⟨hn1, g2, q1, hg2⟩ := p1
  subst n1
  have M0 : h1 63 = mO c th (nI (sgn v x).length) := by rw [hg2]; exact up_n (by decide) up_s
  have M8 : h1 71 = ia 4 g2 := by rw [hg2]; exact up_s
  have F1 : mL h h1 := by rw [hg2]; exact fun a x1 x2 => up_n x2 (up_n x1 rfl)
  clear hg2
  have M1 : h1 64 = nA 189 N := (F1 64 (by decide) (by decide)).trans m1
  have h4 := q1.1
  have loop : ∀ (r : List Nat) (i c0 : Nat), (sgn v x).drop i = r → i ≤ (sgn v x).length → c0 + cst (sl N 0 10) (N 30) i r = cstR N v x → fA M_M_costOf E (fZ M_M_costOf E (qI (fun r k g => r = nI (cstR N v x) ∧ k = n ∧ mM c g ∧ mL h g))) n h1 0 0 11 [some (.ref 63), some (.int (nI v)), some (.int (nI x)), some (.int (nI c0)), some (.int (nI i))] [] := by
    intro r
    induction r with
    | nil =>
      intro i c0 hr hi he
      refine a_il4 fM_costOf_11 ?_
      refine a_al0 fM_costOf_13 ?_
      refine a_gf fM_costOf_14 l_M_51 M0 rfl ?_
      refine a_ic_ge fM_costOf_17 (fun _ => ?_) (fun c_ => absurd (nI_le (dropn hr) (by omega)) c_)
      refine a_il3 fM_costOf_46 ?_
      exact a_ri fM_costOf_47 rfl (⟨_, rfl, by rw [← he]; rfl, rfl, ⟨⟨_, _, M0⟩, _, M8⟩, F1⟩)
    | cons f r ih =>
      intro i c0 hr hi he
      obtain ⟨r1, r2, r3⟩ := dropc hr
      obtain ⟨g1, g3⟩ := q1.2 i f r2
      refine a_il4 fM_costOf_11 ?_
      refine a_al0 fM_costOf_13 ?_
      refine a_gf fM_costOf_14 l_M_51 M0 rfl ?_
      refine a_ic_ge fM_costOf_17 (fun c_ => absurd c_ (nI_ge r1 (by omega))) (fun _ => ?_)
      refine a_il3 fM_costOf_20 ?_
      refine a_al0 fM_costOf_21 ?_
      refine a_al0 fM_costOf_22 ?_
      refine a_gf fM_costOf_23 l_M_7 M0 rfl ?_
      refine a_il4 fM_costOf_26 ?_
      refine a_al0 fM_costOf_28 ?_
      refine a_gf fM_costOf_29 l_M_7 M0 rfl ?_
      refine a_ic fM_costOf_32 ?_
      refine a_ia fM_costOf_34 M1 (show (30 : Int32) = nI 30 from rfl) (by decide) (by decide) ?_
      refine a_V3V fM_costOf_35 k_M_66 m_M_wearsBy ⟨by decide, by decide⟩ M0 rfl ⟨rfl, rfl⟩ (Nat.le_of_ble_eq_true rfl) (c_MwearsBy (a := 64) (D := N 30) M0 M8 M1 g1 g3 (by omega) ((O.1 _ g3).1) O.D) ?_
      refine a_iadd fM_costOf_38 ?_
      refine a_is3 fM_costOf_39 (by decide) rfl ?_
      refine a_inc4 fM_costOf_40 (by decide) rfl ?_
      refine a_goto fM_costOf_43 ?_
      rw [nI_1, nI_add]
      exact ih (i + 1) _ r3 r1 (by rw [← he]; simp only [cst, sl0 g3]; omega)
  refine a_ic fM_costOf_6 ?_
  refine a_is3 fM_costOf_7 (by decide) rfl ?_
  refine a_ic fM_costOf_8 ?_
  refine a_is4 fM_costOf_9 (by decide) rfl ?_
  exact loop (sgn v x) 0 0 rfl (Nat.zero_le _) (Nat.zero_add _)
theorem c_MwornBy {F : Nat} {sg : List Nat} {g : Nat → Int32} (m0 : h 63 = mO c th (nI sg.length)) (m8 : h 71 = ia 4 g) (hsg : isSg g sg) (m1 : h 64 = nA 189 N) (O : okC N) (hF : F < 10) : fE M_M_wornBy E [.ref 63, .int (nI F)] n h (eV (.int (nI (smF (sl N 0 10) (N 30) F 0 sg))) n h) := by
  have h4 := hsg.1
  have loop : ∀ (r : List Nat) (i c0 : Nat), sg.drop i = r → i ≤ sg.length → c0 + smF (sl N 0 10) (N 30) F i r = smF (sl N 0 10) (N 30) F 0 sg → fA M_M_wornBy E (fZ M_M_wornBy E (eV (.int (nI (smF (sl N 0 10) (N 30) F 0 sg))) n h)) n h 0 0 4 [some (.ref 63), some (.int (nI F)), some (.int (nI c0)), some (.int (nI i))] [] := by
    intro r
    induction r with
    | nil =>
      intro i c0 hr hi he
      refine a_il3 fM_wornBy_4 ?_
      refine a_al0 fM_wornBy_5 ?_
      refine a_gf fM_wornBy_6 l_M_51 m0 rfl ?_
      refine a_ic_ge fM_wornBy_9 (fun _ => ?_) (fun c_ => absurd (nI_le (dropn hr) (by omega)) c_)
      refine a_il2 fM_wornBy_51 ?_
      exact a_ri fM_wornBy_52 rfl (⟨sv (by rw [← he]; rfl), rfl, rfl⟩)
    | cons f r ih =>
      intro i c0 hr hi he
      obtain ⟨r1, r2, r3⟩ := dropc hr
      obtain ⟨g1, g3⟩ := hsg.2 i f r2
      refine a_il3 fM_wornBy_4 ?_
      refine a_al0 fM_wornBy_5 ?_
      refine a_gf fM_wornBy_6 l_M_51 m0 rfl ?_
      refine a_ic_ge fM_wornBy_9 (fun c_ => absurd c_ (nI_ge r1 (by omega))) (fun _ => ?_)
      refine a_il2 fM_wornBy_12 ?_
      refine a_al0 fM_wornBy_13 ?_
      refine a_gf fM_wornBy_14 l_M_36 m0 rfl ?_
      refine a_il3 fM_wornBy_17 ?_
      refine a_ia fM_wornBy_18 m8 rfl (by omega) (by decide) ?_
      rw [g1]
      by_cases c9 : f = F
      · refine a_il1 fM_wornBy_19 ?_
        refine a_ic_ne fM_wornBy_20 (fun c_ => absurd (by rw [c9]) c_) (fun _ => ?_)
        refine a_al0 fM_wornBy_23 ?_
        refine a_al0 fM_wornBy_24 ?_
        refine a_gf fM_wornBy_25 l_M_7 m0 rfl ?_
        refine a_il3 fM_wornBy_28 ?_
        refine a_al0 fM_wornBy_29 ?_
        refine a_gf fM_wornBy_30 l_M_7 m0 rfl ?_
        refine a_ic fM_wornBy_33 ?_
        refine a_ia fM_wornBy_35 m1 (show (30 : Int32) = nI 30 from rfl) (by decide) (by decide) ?_
        refine a_V3V fM_wornBy_36 k_M_66 m_M_wearsBy ⟨by decide, by decide⟩ m0 rfl ⟨rfl, rfl⟩ (Nat.le_of_ble_eq_true rfl) (c_MwearsBy (a := 64) (D := N 30) m0 m8 m1 g1 g3 (by omega) ((O.1 _ g3).1) O.D) ?_
        refine a_goto fM_wornBy_39 ?_
        refine a_iadd fM_wornBy_43 ?_
        refine a_is2 fM_wornBy_44 (by decide) rfl ?_
        refine a_inc3 fM_wornBy_45 (by decide) rfl ?_
        refine a_goto fM_wornBy_48 ?_
        rw [nI_1, nI_add]
        exact ih (i + 1) _ r3 r1 (by subst c9; rw [← he]; simp only [smF, ↓reduceIte, sl0 g3]; omega)
      · refine a_il1 fM_wornBy_19 ?_
        refine a_ic_ne fM_wornBy_20 (fun _ => ?_) (fun c_ => absurd c_ (fun z => c9 ((nI_eq (by omega) (by omega)).mp z)))
        refine a_ic fM_wornBy_42 ?_
        refine a_iadd fM_wornBy_43 ?_
        refine a_is2 fM_wornBy_44 (by decide) rfl ?_
        refine a_inc3 fM_wornBy_45 (by decide) rfl ?_
        refine a_goto fM_wornBy_48 ?_
        rw [nI_1, show nI c0 + 0 = nI c0 from nI_add c0 0]
        exact ih (i + 1) _ r3 r1 (by rw [← he]; simp only [smF, if_neg c9]; omega)
  refine fE.of (L := [some (.ref 63), some (.int (nI F)), none, none]) (by decide +kernel) (Nat.le_of_ble_eq_true rfl) rfl ?_
  refine a_ic fM_wornBy_0 ?_
  refine a_is2 fM_wornBy_1 (by decide) rfl ?_
  refine a_ic fM_wornBy_2 ?_
  refine a_is3 fM_wornBy_3 (by decide) rfl ?_
  exact loop sg 0 0 rfl (Nat.zero_le _) (by omega)
theorem c_McanOf {a v x : Nat} {A : Nat → Nat} (M : mM c h) (hA : h a = nA 189 A) (a1 : a ≠ 63) (a2 : a ≠ 71) (O : okC A) (hv : v < 100) (hx : x < 100) : fE M_M_canOf E [.ref 63, .ref a, .int (nI v), .int (nI x)] n h (qI (fun r k g => r = bI (canR A v x) ∧ k = n ∧ mM c g ∧ mL h g)) := by
  obtain ⟨⟨th, mn, m0⟩, f0, m8⟩ := M
  refine fE.of (L := [some (.ref 63), some (.ref a), some (.int (nI v)), some (.int (nI x)), none, none, none, none, none]) (by decide +kernel) (Nat.le_of_ble_eq_true rfl) rfl ?_
  refine a_al0 fM_canOf_0 ?_
  refine a_il2 fM_canOf_1 ?_
  refine a_il3 fM_canOf_2 ?_
  refine a_V2Q fM_canOf_3 k_M_62 m_M_line ⟨by decide, by decide⟩ m0 rfl ⟨rfl, rfl⟩ (Nat.le_of_ble_eq_true rfl) (c_Mline m0 m8 hv hx) (fun n1 h1 p1 => ?_)
  obtain ⟨hn1, g2, q1, hg2⟩ := p1
  subst n1
  have M0 : h1 63 = mO c th (nI (sgn v x).length) := by rw [hg2]; exact up_n (by decide) up_s
  have M8 : h1 71 = ia 4 g2 := by rw [hg2]; exact up_s
  have F1 : mL h h1 := by rw [hg2]; exact fun a x1 x2 => up_n x2 (up_n x1 rfl)
  clear hg2
  have M1 : h1 a = nA 189 A := (F1 a a1 a2).trans hA
  have h4 := q1.1
  have P9 : canR A v x ↔ ∀ f ∈ sgn v x, A (20 + f) + smF (sl A 0 10) (A 30) f 0 (sgn v x) ≤ A (10 + f) := by
    have e : ∀ f ∈ sgn v x, (wad (sl A 0 10) (A 30) 0 (sgn v x) (sl A 20 10) f ≤ sl A 10 10 f ↔ A (20 + f) + smF (sl A 0 10) (A 30) f 0 (sgn v x) ≤ A (10 + f)) := fun f hf => by
      have := sg_lt q1 f hf
      rw [wad_sum, sl_lt this, sl_lt this]
    exact ⟨fun z f hf => (e f hf).mp (z f hf), fun z f hf => (e f hf).mpr (z f hf)⟩
  have inner : ∀ (F i : Nat) (q : Bool) (T : Nat), F < 10 → fA M_M_canOf E (fZ M_M_canOf E (qI (fun r k g => r = bI (canR A v x) ∧ k = n ∧ mM c g ∧ mL h g))) n h1 0 0 89 [some (.ref 63), some (.ref a), some (.int (nI v)), some (.int (nI x)), some (.int (bI (q = true))), some (.int (nI i)), some (.int (nI F)), some (.int (nI T)), some (.int (nI (sgn v x).length))] [] → ∀ (r : List Nat) (e t0 : Nat), (sgn v x).drop e = r → e ≤ (sgn v x).length → t0 + smF (sl A 0 10) (A 30) F e r = T → fA M_M_canOf E (fZ M_M_canOf E (qI (fun r k g => r = bI (canR A v x) ∧ k = n ∧ mM c g ∧ mL h g))) n h1 0 0 42 [some (.ref 63), some (.ref a), some (.int (nI v)), some (.int (nI x)), some (.int (bI (q = true))), some (.int (nI i)), some (.int (nI F)), some (.int (nI t0)), some (.int (nI e))] [] := by
    intro F i q T hF kk r
    induction r with
    | nil =>
      intro e t0 hr hi he
      refine a_il8 fM_canOf_42 ?_
      refine a_al0 fM_canOf_44 ?_
      refine a_gf fM_canOf_45 l_M_51 M0 rfl ?_
      refine a_ic_ge fM_canOf_48 (fun _ => ?_) (fun c_ => absurd (nI_le (dropn hr) (by omega)) c_)
      rw [show e = (sgn v x).length by have := dropn hr; omega, show t0 = T by rw [← he]; rfl]
      exact kk
    | cons f r ih =>
      intro e t0 hr hi he
      obtain ⟨r1, r2, r3⟩ := dropc hr
      obtain ⟨g1, g3⟩ := q1.2 e f r2
      refine a_il8 fM_canOf_42 ?_
      refine a_al0 fM_canOf_44 ?_
      refine a_gf fM_canOf_45 l_M_51 M0 rfl ?_
      refine a_ic_ge fM_canOf_48 (fun c_ => absurd c_ (nI_ge r1 (by omega))) (fun _ => ?_)
      refine a_il7 fM_canOf_51 ?_
      refine a_al0 fM_canOf_53 ?_
      refine a_gf fM_canOf_54 l_M_36 M0 rfl ?_
      refine a_il8 fM_canOf_57 ?_
      refine a_ia fM_canOf_59 M8 rfl (by omega) (by decide) ?_
      rw [g1]
      by_cases c9 : f = F
      · refine a_il6 fM_canOf_60 ?_
        refine a_ic_ne fM_canOf_62 (fun c_ => absurd (by rw [c9]) c_) (fun _ => ?_)
        refine a_al0 fM_canOf_65 ?_
        refine a_al1 fM_canOf_66 ?_
        refine a_il8 fM_canOf_67 ?_
        refine a_al1 fM_canOf_69 ?_
        refine a_ic fM_canOf_70 ?_
        refine a_ia fM_canOf_72 M1 (show (30 : Int32) = nI 30 from rfl) (by decide) (by decide) ?_
        refine a_V3V fM_canOf_73 k_M_66 m_M_wearsBy ⟨by decide, by decide⟩ M0 rfl ⟨rfl, rfl⟩ (Nat.le_of_ble_eq_true rfl) (c_MwearsBy (a := a) (D := A 30) M0 M8 M1 g1 g3 (by omega) ((O.1 _ g3).1) O.D) ?_
        refine a_goto fM_canOf_76 ?_
        refine a_iadd fM_canOf_80 ?_
        refine a_is7 fM_canOf_81 (by decide) rfl ?_
        refine a_inc8 fM_canOf_83 (by decide) rfl ?_
        refine a_goto fM_canOf_86 ?_
        rw [nI_1, nI_add]
        exact ih (e + 1) _ r3 r1 (by subst c9; rw [← he]; simp only [smF, ↓reduceIte, sl0 g3]; omega)
      · refine a_il6 fM_canOf_60 ?_
        refine a_ic_ne fM_canOf_62 (fun _ => ?_) (fun c_ => absurd c_ (fun z => c9 ((nI_eq (by omega) (by omega)).mp z)))
        refine a_ic fM_canOf_79 ?_
        refine a_iadd fM_canOf_80 ?_
        refine a_is7 fM_canOf_81 (by decide) rfl ?_
        refine a_inc8 fM_canOf_83 (by decide) rfl ?_
        refine a_goto fM_canOf_86 ?_
        rw [nI_1, show nI t0 + 0 = nI t0 from nI_add t0 0]
        exact ih (e + 1) _ r3 r1 (by rw [← he]; simp only [smF, if_neg c9]; omega)
  have loop : ∀ (r : List Nat) (i : Nat) (q : Bool) (x6 x7 x8 : Option Value), (sgn v x).drop i = r → i ≤ (sgn v x).length → ((q = true ∧ ∀ f ∈ r, A (20 + f) + smF (sl A 0 10) (A 30) f 0 (sgn v x) ≤ A (10 + f)) ↔ canR A v x) → fA M_M_canOf E (fZ M_M_canOf E (qI (fun r k g => r = bI (canR A v x) ∧ k = n ∧ mM c g ∧ mL h g))) n h1 0 0 12 [some (.ref 63), some (.ref a), some (.int (nI v)), some (.int (nI x)), some (.int (bI (q = true))), some (.int (nI i)), x6, x7, x8] [] := by
    intro r
    induction r with
    | nil =>
      intro i q x6 x7 x8 hr hi he
      refine a_il5 fM_canOf_12 ?_
      refine a_al0 fM_canOf_14 ?_
      refine a_gf fM_canOf_15 l_M_51 M0 rfl ?_
      refine a_ic_ge fM_canOf_18 (fun _ => ?_) (fun c_ => absurd (nI_le (dropn hr) (by omega)) c_)
      refine a_il4 fM_canOf_119 ?_
      exact a_rz fM_canOf_121 rfl (bI_n _) ⟨_, rfl, bI_cg ⟨fun z => he.mp ⟨z, fun _ z => by cases z⟩, fun z => (he.mpr z).1⟩, rfl, ⟨⟨_, _, M0⟩, _, M8⟩, F1⟩
    | cons f r ih =>
      intro i q x6 x7 x8 hr hi he
      obtain ⟨r1, r2, r3⟩ := dropc hr
      obtain ⟨g1, g3⟩ := q1.2 i f r2
      have b6 : smF (sl A 0 10) (A 30) f 0 (sgn v x) ≤ 24 := Nat.le_trans (smF_le _ 0 (by omega)) (by omega)
      have b7 := O.1 f g3
      refine a_il5 fM_canOf_12 ?_
      refine a_al0 fM_canOf_14 ?_
      refine a_gf fM_canOf_15 l_M_51 M0 rfl ?_
      refine a_ic_ge fM_canOf_18 (fun c_ => absurd c_ (nI_ge r1 (by omega))) (fun _ => ?_)
      refine a_al0 fM_canOf_21 ?_
      refine a_gf fM_canOf_22 l_M_36 M0 rfl ?_
      refine a_il5 fM_canOf_25 ?_
      refine a_ia fM_canOf_27 M8 rfl (by omega) (by decide) ?_
      rw [g1]
      refine a_is6 fM_canOf_28 (by decide) rfl ?_
      refine a_al1 fM_canOf_30 ?_
      refine a_ic fM_canOf_31 ?_
      refine a_il6 fM_canOf_33 ?_
      refine a_iadd fM_canOf_35 ?_
      refine a_ia fM_canOf_36 M1 (nI_add 20 _) (by omega) (by decide) ?_
      refine a_is7 fM_canOf_37 (by decide) rfl ?_
      refine a_ic fM_canOf_39 ?_
      refine a_is8 fM_canOf_40 (by decide) rfl ?_
      refine inner f i q (A (20 + f) + smF (sl A 0 10) (A 30) f 0 (sgn v x)) g3 ?_ (sgn v x) 0 (A (20 + f)) rfl (Nat.zero_le _) rfl
      have nx : ∀ (q2 : Bool) (y6 y7 y8 : Option Value), ((q2 = true ∧ ∀ f ∈ r, A (20 + f) + smF (sl A 0 10) (A 30) f 0 (sgn v x) ≤ A (10 + f)) ↔ canR A v x) → fA M_M_canOf E (fZ M_M_canOf E (qI (fun r k g => r = bI (canR A v x) ∧ k = n ∧ mM c g ∧ mL h g))) n h1 0 0 111 [some (.ref 63), some (.ref a), some (.int (nI v)), some (.int (nI x)), some (.int (bI (q = true))), some (.int (nI i)), y6, y7, y8] [.int (bI (q2 = true))] := by
        intro q2 y6 y7 y8 hq2
        refine a_is4 fM_canOf_111 (by decide) rfl ?_
        refine a_inc5 fM_canOf_113 (by decide) rfl ?_
        refine a_goto fM_canOf_116 ?_
        rw [nI_1]
        exact ih (i + 1) q2 _ _ _ r3 r1 hq2
      by_cases cq : q = true
      · refine a_il4 fM_canOf_89 ?_
        refine a_if_eq fM_canOf_91 (fun c_ => absurd c_ (fun z => by rw [bI_t cq] at z; exact absurd z (by decide))) (fun _ => ?_)
        by_cases cP : A (20 + f) + smF (sl A 0 10) (A 30) f 0 (sgn v x) ≤ A (10 + f)
        · refine a_il7 fM_canOf_94 ?_
          refine a_al1 fM_canOf_96 ?_
          refine a_ic fM_canOf_97 ?_
          refine a_il6 fM_canOf_99 ?_
          refine a_iadd fM_canOf_101 ?_
          refine a_ia fM_canOf_102 M1 (nI_add 10 _) (by omega) (by decide) ?_
          refine a_ic_gt fM_canOf_103 (fun c_ => absurd c_ (fun z => absurd ((nI_ltI (by omega) (by omega)).mp z) (by omega))) (fun _ => ?_)
          refine a_ic fM_canOf_106 ?_
          refine a_goto fM_canOf_107 ?_
          refine nx true _ _ _ (Iff.trans ⟨fun z => ⟨cq, fun y hy => ?_⟩, fun z => ⟨rfl, fun y hy => z.2 y (List.mem_cons_of_mem _ hy)⟩⟩ he)
          rcases List.mem_cons.mp hy with rfl | hy
          · exact cP
          · exact z.2 y hy
        · refine a_il7 fM_canOf_94 ?_
          refine a_al1 fM_canOf_96 ?_
          refine a_ic fM_canOf_97 ?_
          refine a_il6 fM_canOf_99 ?_
          refine a_iadd fM_canOf_101 ?_
          refine a_ia fM_canOf_102 M1 (nI_add 10 _) (by omega) (by decide) ?_
          refine a_ic_gt fM_canOf_103 (fun _ => ?_) (fun c_ => absurd (nI_lt (by omega) (by omega)) c_)
          refine a_ic fM_canOf_110 ?_
          exact nx false _ _ _ (Iff.trans ⟨fun z => (by cases z.1), fun z => absurd (z.2 f List.mem_cons_self) cP⟩ he)
      · refine a_il4 fM_canOf_89 ?_
        refine a_if_eq fM_canOf_91 (fun _ => ?_) (fun c_ => absurd (by rw [bI_f cq]) c_)
        refine a_ic fM_canOf_110 ?_
        exact nx false _ _ _ (Iff.trans ⟨fun z => (by cases z.1), fun z => absurd z.1 cq⟩ he)
  refine a_ic fM_canOf_6 ?_
  refine a_is4 fM_canOf_7 (by decide) rfl ?_
  refine a_ic fM_canOf_9 ?_
  refine a_is5 fM_canOf_10 (by decide) rfl ?_
  exact loop (sgn v x) 0 true none none none rfl (Nat.zero_le _) ⟨fun z => P9.mpr z.2, fun z => ⟨rfl, P9.mp z⟩⟩
theorem c_Mwrites {a v x : Nat} {A : Nat → Nat} (M : mM c h) (hA : h a = nA 189 A) (a1 : a ≠ 63) (a2 : a ≠ 71) (O : okC A) (hv : v < 100) (hx : x < 100) : fE M_M_writes E [.ref 63, .ref a, .int (nI v), .int (nI x)] n h (qN (fun k g => k = n ∧ mM c g ∧ g a = nA 189 (wdN A (sgn v x)) ∧ ∀ y, y ≠ 63 → y ≠ 71 → y ≠ a → g y = h y)) := by
  obtain ⟨⟨th, mn, m0⟩, f0, m8⟩ := M
  refine fE.of (L := [some (.ref 63), some (.ref a), some (.int (nI v)), some (.int (nI x)), none]) (by decide +kernel) (Nat.le_of_ble_eq_true rfl) rfl ?_
  refine a_al0 fM_writes_0 ?_
  refine a_il2 fM_writes_1 ?_
  refine a_il3 fM_writes_2 ?_
  refine a_V2Q fM_writes_3 k_M_62 m_M_line ⟨by decide, by decide⟩ m0 rfl ⟨rfl, rfl⟩ (Nat.le_of_ble_eq_true rfl) (c_Mline m0 m8 hv hx) (fun n1 h1 p1 => ?_)
  obtain ⟨hn1, g2, q1, hg2⟩ := p1
  subst n1
  have M0 : h1 63 = mO c th (nI (sgn v x).length) := by rw [hg2]; exact up_n (by decide) up_s
  have M8 : h1 71 = ia 4 g2 := by rw [hg2]; exact up_s
  have F1 : mL h h1 := by rw [hg2]; exact fun a x1 x2 => up_n x2 (up_n x1 rfl)
  clear hg2
  have M1 : h1 a = nA 189 A := (F1 a a1 a2).trans hA
  have h4 := q1.1
  have loop : ∀ (r : List Nat) (i : Nat) (W : Nat → Nat), (sgn v x).drop i = r → i ≤ (sgn v x).length → wad (sl A 0 10) (A 30) i r W = wad (sl A 0 10) (A 30) 0 (sgn v x) (sl A 20 10) → fA M_M_writes E (fZ M_M_writes E (qN (fun k g => k = n ∧ mM c g ∧ g a = nA 189 (wdN A (sgn v x)) ∧ ∀ y, y ≠ 63 → y ≠ 71 → y ≠ a → g y = h y))) n (va_up h1 a (nA 189 (wrow A W))) 0 0 9 [some (.ref 63), some (.ref a), some (.int (nI v)), some (.int (nI x)), some (.int (nI i))] [] := by
    intro r
    induction r with
    | nil =>
      intro i W hr hi he
      refine a_il4 fM_writes_9 ?_
      refine a_al0 fM_writes_11 ?_
      refine a_gf fM_writes_12 l_M_51 (up_n (Ne.symm a1) M0) rfl ?_
      refine a_ic_ge fM_writes_15 (fun _ => ?_) (fun c_ => absurd (nI_le (dropn hr) (by omega)) c_)
      exact a_rv fM_writes_50 rfl (⟨rfl, rfl, ⟨⟨_, _, up_n (Ne.symm a1) M0⟩, _, up_n (Ne.symm a2) M8⟩, by rw [← wrow_wd, ← he]; exact up_s, fun y y1 y2 y3 => up_n y3 (F1 y y1 y2)⟩)
    | cons f r ih =>
      intro i W hr hi he
      obtain ⟨r1, r2, r3⟩ := dropc hr
      obtain ⟨g1, g3⟩ := q1.2 i f r2
      refine a_il4 fM_writes_9 ?_
      refine a_al0 fM_writes_11 ?_
      refine a_gf fM_writes_12 l_M_51 (up_n (Ne.symm a1) M0) rfl ?_
      refine a_ic_ge fM_writes_15 (fun c_ => absurd c_ (nI_ge r1 (by omega))) (fun _ => ?_)
      refine a_al1 fM_writes_18 ?_
      refine a_ic fM_writes_19 ?_
      refine a_al0 fM_writes_21 ?_
      refine a_gf fM_writes_22 l_M_36 (up_n (Ne.symm a1) M0) rfl ?_
      refine a_il4 fM_writes_25 ?_
      refine a_ia fM_writes_27 (up_n (Ne.symm a2) M8) rfl (by omega) (by decide) ?_
      refine a_iadd fM_writes_28 ?_
      refine a_dup2 fM_writes_29 rfl rfl ?_
      refine a_ia fM_writes_30 up_s (show (20 : Int32) + g2 i = nI (20 + f) by rw [g1]; exact nI_add 20 f) (by omega) (by decide) ?_
      refine a_al0 fM_writes_31 ?_
      refine a_al1 fM_writes_32 ?_
      refine a_il4 fM_writes_33 ?_
      refine a_al1 fM_writes_35 ?_
      refine a_ic fM_writes_36 ?_
      refine a_ia fM_writes_38 up_s (show (30 : Int32) = nI 30 from rfl) (by decide) (by decide) ?_
      rw [show nF (wrow A W) 30 = nI (A 30) from congrArg nI (wrow_out (by omega))]
      refine a_V3V fM_writes_39 k_M_66 m_M_wearsBy ⟨by decide, by decide⟩ (up_n (Ne.symm a1) M0) rfl ⟨rfl, rfl⟩ (Nat.le_of_ble_eq_true rfl) (c_MwearsBy (a := a) (D := A 30) (up_n (Ne.symm a1) M0) (up_n (Ne.symm a2) M8) up_s g1 g3 (by omega) (by rw [wrow_out (by omega)]; exact (O.1 _ g3).1) O.D) ?_
      refine a_iadd fM_writes_42 ?_
      refine a_it fM_writes_43 up_s (show (20 : Int32) + g2 i = nI (20 + f) by rw [g1]; exact nI_add 20 f) (by omega) (by decide) ?_
      refine a_inc4 fM_writes_44 (by decide) rfl ?_
      refine a_goto fM_writes_47 ?_
      rw [bx_uu, nI_1]
      refine fA.ud (v := W f + wr (sl A 0 10 f) i (A 30)) (F2 := wrow A (va_up W f (W f + wr (sl A 0 10 f) i (A 30)))) (by rw [show nF (wrow A W) (20 + f) = nI (W f) from congrArg nI (wrow_in g3), show wrow A W f = A f from wrow_out (by omega), sl0 g3, nI_add]) (wrow_up g3) ?_
      exact ih (i + 1) _ r3 r1 he
  refine a_ic fM_writes_6 ?_
  refine a_is4 fM_writes_7 (by decide) rfl ?_
  have := loop (sgn v x) 0 (sl A 20 10) rfl (Nat.zero_le _) rfl
  rw [wrow_id, up_id M1] at this
  exact this
theorem c_MasideBy {v D : Nat} {w : Nat → Nat} (M : mM c h) (m1 : h 64 = nA 189 N) (m7 : h 70 = nA 10 w) (O : okC N) (hv : v < 100) (hD : D < 2 ^ 31) : fE M_M_asideBy E [.ref 63, .int (nI v), .int (nI D)] n h (qN (fun k g => k = n ∧ mM c g ∧ g 70 = nA 10 (wad (sl N 0 10) D 0 (sgn v v) w) ∧ mF h g)) := by
  obtain ⟨⟨th, mn, m0⟩, f0, m8⟩ := M
  refine fE.of (L := [some (.ref 63), some (.int (nI v)), some (.int (nI D)), none]) (by decide +kernel) (Nat.le_of_ble_eq_true rfl) rfl ?_
  refine a_al0 fM_asideBy_0 ?_
  refine a_il1 fM_asideBy_1 ?_
  refine a_il1 fM_asideBy_2 ?_
  refine a_V2Q fM_asideBy_3 k_M_62 m_M_line ⟨by decide, by decide⟩ m0 rfl ⟨rfl, rfl⟩ (Nat.le_of_ble_eq_true rfl) (c_Mline m0 m8 hv hv) (fun n1 h1 p1 => ?_)
  obtain ⟨hn1, g2, q1, hg2⟩ := p1
  subst n1
  have M0 : h1 63 = mO c th (nI (sgn v v).length) := by rw [hg2]; exact up_n (by decide) up_s
  have M8 : h1 71 = ia 4 g2 := by rw [hg2]; exact up_s
  have F1 : mL h h1 := by rw [hg2]; exact fun a x1 x2 => up_n x2 (up_n x1 rfl)
  clear hg2
  have M1 : h1 64 = nA 189 N := (F1 64 (by decide) (by decide)).trans m1
  have M7 : h1 70 = nA 10 w := (F1 70 (by decide) (by decide)).trans m7
  have h4 := q1.1
  have loop : ∀ (r : List Nat) (i : Nat) (W : Nat → Nat), (sgn v v).drop i = r → i ≤ (sgn v v).length → wad (sl N 0 10) D i r W = wad (sl N 0 10) D 0 (sgn v v) w → fA M_M_asideBy E (fZ M_M_asideBy E (qN (fun k g => k = n ∧ mM c g ∧ g 70 = nA 10 (wad (sl N 0 10) D 0 (sgn v v) w) ∧ mF h g))) n (va_up h1 70 (nA 10 W)) 0 0 8 [some (.ref 63), some (.int (nI v)), some (.int (nI D)), some (.int (nI i))] [] := by
    intro r
    induction r with
    | nil =>
      intro i W hr hi he
      refine a_il3 fM_asideBy_8 ?_
      refine a_al0 fM_asideBy_9 ?_
      refine a_gf fM_asideBy_10 l_M_51 (up_n (by decide) M0) rfl ?_
      refine a_ic_ge fM_asideBy_13 (fun _ => ?_) (fun c_ => absurd (nI_le (dropn hr) (by omega)) c_)
      exact a_rv fM_asideBy_46 rfl (⟨rfl, rfl, ⟨⟨_, _, up_n (by decide) M0⟩, _, up_n (by decide) M8⟩, by rw [← he]; exact up_s, fun y y1 y2 y3 => up_n y2 (F1 y y1 y3)⟩)
    | cons f r ih =>
      intro i W hr hi he
      obtain ⟨r1, r2, r3⟩ := dropc hr
      obtain ⟨g1, g3⟩ := q1.2 i f r2
      refine a_il3 fM_asideBy_8 ?_
      refine a_al0 fM_asideBy_9 ?_
      refine a_gf fM_asideBy_10 l_M_51 (up_n (by decide) M0) rfl ?_
      refine a_ic_ge fM_asideBy_13 (fun c_ => absurd c_ (nI_ge r1 (by omega))) (fun _ => ?_)
      refine a_al0 fM_asideBy_16 ?_
      refine a_gf fM_asideBy_17 l_M_33 (up_n (by decide) M0) rfl ?_
      refine a_al0 fM_asideBy_20 ?_
      refine a_gf fM_asideBy_21 l_M_36 (up_n (by decide) M0) rfl ?_
      refine a_il3 fM_asideBy_24 ?_
      refine a_ia fM_asideBy_25 (up_n (by decide) M8) rfl (by omega) (by decide) ?_
      refine a_dup2 fM_asideBy_26 rfl rfl ?_
      refine a_ia fM_asideBy_27 up_s g1 (by omega) (by decide) ?_
      refine a_al0 fM_asideBy_28 ?_
      refine a_al0 fM_asideBy_29 ?_
      refine a_gf fM_asideBy_30 l_M_7 (up_n (by decide) M0) rfl ?_
      refine a_il3 fM_asideBy_33 ?_
      refine a_il2 fM_asideBy_34 ?_
      refine a_V3V fM_asideBy_35 k_M_66 m_M_wearsBy ⟨by decide, by decide⟩ (up_n (by decide) M0) rfl ⟨rfl, rfl⟩ (Nat.le_of_ble_eq_true rfl) (c_MwearsBy (a := 64) (D := D) (up_n (by decide) M0) (up_n (by decide) M8) (up_n (by decide) M1) g1 g3 (by omega) ((O.1 _ g3).1) hD) ?_
      refine a_iadd fM_asideBy_38 ?_
      refine a_it fM_asideBy_39 up_s g1 (by omega) (by decide) ?_
      refine a_inc3 fM_asideBy_40 (by decide) rfl ?_
      refine a_goto fM_asideBy_43 ?_
      rw [bx_uu, nI_1]
      refine fA.ud (v := W f + wr (sl N 0 10 f) i D) (F2 := va_up W f (W f + wr (sl N 0 10 f) i D)) (by rw [sl0 g3]; exact nI_add _ _) (fun j => rfl) ?_
      exact ih (i + 1) _ r3 r1 he
  refine a_ic fM_asideBy_6 ?_
  refine a_is3 fM_asideBy_7 (by decide) rfl ?_
  have := loop (sgn v v) 0 w rfl (Nat.zero_le _) rfl
  rw [up_id M7] at this
  exact this
theorem c_MtakesBack {v D : Nat} {w : Nat → Int32} (M : mM c h) (m1 : h 64 = nA 189 N) (m7 : h 70 = ia 10 w) (O : okC N) (hv : v < 100) (hD : D < 2 ^ 31) : fE M_M_takesBack E [.ref 63, .int (nI v), .int (nI D)] n h (qN (fun k g => k = n ∧ mM c g ∧ g 70 = ia 10 (wby (-1) (sl N 0 10) D 0 (sgn v v) w) ∧ mF h g)) := by
  obtain ⟨⟨th, mn, m0⟩, f0, m8⟩ := M
  refine fE.of (L := [some (.ref 63), some (.int (nI v)), some (.int (nI D)), none]) (by decide +kernel) (Nat.le_of_ble_eq_true rfl) rfl ?_
  refine a_al0 fM_takesBack_0 ?_
  refine a_il1 fM_takesBack_1 ?_
  refine a_il1 fM_takesBack_2 ?_
  refine a_V2Q fM_takesBack_3 k_M_62 m_M_line ⟨by decide, by decide⟩ m0 rfl ⟨rfl, rfl⟩ (Nat.le_of_ble_eq_true rfl) (c_Mline m0 m8 hv hv) (fun n1 h1 p1 => ?_)
  obtain ⟨hn1, g2, q1, hg2⟩ := p1
  subst n1
  have M0 : h1 63 = mO c th (nI (sgn v v).length) := by rw [hg2]; exact up_n (by decide) up_s
  have M8 : h1 71 = ia 4 g2 := by rw [hg2]; exact up_s
  have F1 : mL h h1 := by rw [hg2]; exact fun a x1 x2 => up_n x2 (up_n x1 rfl)
  clear hg2
  have M1 : h1 64 = nA 189 N := (F1 64 (by decide) (by decide)).trans m1
  have M7 : h1 70 = ia 10 w := (F1 70 (by decide) (by decide)).trans m7
  have h4 := q1.1
  have loop : ∀ (r : List Nat) (i : Nat) (W : Nat → Int32), (sgn v v).drop i = r → i ≤ (sgn v v).length → wby (-1) (sl N 0 10) D i r W = wby (-1) (sl N 0 10) D 0 (sgn v v) w → fA M_M_takesBack E (fZ M_M_takesBack E (qN (fun k g => k = n ∧ mM c g ∧ g 70 = ia 10 (wby (-1) (sl N 0 10) D 0 (sgn v v) w) ∧ mF h g))) n (va_up h1 70 (ia 10 W)) 0 0 8 [some (.ref 63), some (.int (nI v)), some (.int (nI D)), some (.int (nI i))] [] := by
    intro r
    induction r with
    | nil =>
      intro i W hr hi he
      refine a_il3 fM_takesBack_8 ?_
      refine a_al0 fM_takesBack_9 ?_
      refine a_gf fM_takesBack_10 l_M_51 (up_n (by decide) M0) rfl ?_
      refine a_ic_ge fM_takesBack_13 (fun _ => ?_) (fun c_ => absurd (nI_le (dropn hr) (by omega)) c_)
      exact a_rv fM_takesBack_46 rfl (⟨rfl, rfl, ⟨⟨_, _, up_n (by decide) M0⟩, _, up_n (by decide) M8⟩, by rw [← he]; exact up_s, fun y y1 y2 y3 => up_n y2 (F1 y y1 y3)⟩)
    | cons f r ih =>
      intro i W hr hi he
      obtain ⟨r1, r2, r3⟩ := dropc hr
      obtain ⟨g1, g3⟩ := q1.2 i f r2
      refine a_il3 fM_takesBack_8 ?_
      refine a_al0 fM_takesBack_9 ?_
      refine a_gf fM_takesBack_10 l_M_51 (up_n (by decide) M0) rfl ?_
      refine a_ic_ge fM_takesBack_13 (fun c_ => absurd c_ (nI_ge r1 (by omega))) (fun _ => ?_)
      refine a_al0 fM_takesBack_16 ?_
      refine a_gf fM_takesBack_17 l_M_33 (up_n (by decide) M0) rfl ?_
      refine a_al0 fM_takesBack_20 ?_
      refine a_gf fM_takesBack_21 l_M_36 (up_n (by decide) M0) rfl ?_
      refine a_il3 fM_takesBack_24 ?_
      refine a_ia fM_takesBack_25 (up_n (by decide) M8) rfl (by omega) (by decide) ?_
      refine a_dup2 fM_takesBack_26 rfl rfl ?_
      refine a_ia fM_takesBack_27 up_s g1 (by omega) (by decide) ?_
      refine a_al0 fM_takesBack_28 ?_
      refine a_al0 fM_takesBack_29 ?_
      refine a_gf fM_takesBack_30 l_M_7 (up_n (by decide) M0) rfl ?_
      refine a_il3 fM_takesBack_33 ?_
      refine a_il2 fM_takesBack_34 ?_
      refine a_V3V fM_takesBack_35 k_M_66 m_M_wearsBy ⟨by decide, by decide⟩ (up_n (by decide) M0) rfl ⟨rfl, rfl⟩ (Nat.le_of_ble_eq_true rfl) (c_MwearsBy (a := 64) (D := D) (up_n (by decide) M0) (up_n (by decide) M8) (up_n (by decide) M1) g1 g3 (by omega) ((O.1 _ g3).1) hD) ?_
      refine a_isub fM_takesBack_38 ?_
      refine a_it fM_takesBack_39 up_s g1 (by omega) (by decide) ?_
      refine a_inc3 fM_takesBack_40 (by decide) rfl ?_
      refine a_goto fM_takesBack_43 ?_
      rw [bx_uu, nI_1, show W f - nI (wr (N f) i D) = W f + -1 * nI (wr (sl N 0 10 f) i D) by rw [sl0 g3, Int32.neg_mul, Int32.one_mul, Int32.sub_eq_add_neg]]
      exact ih (i + 1) _ r3 r1 he
  refine a_ic fM_takesBack_6 ?_
  refine a_is3 fM_takesBack_7 (by decide) rfl ?_
  have := loop (sgn v v) 0 w rfl (Nat.zero_le _) rfl
  rw [up_id M7] at this
  exact this
theorem c_MisWithin {v : Nat} {w : Nat → Nat} (M : mM c h) (m1 : h 64 = nA 189 N) (m7 : h 70 = nA 10 w) (O : okC N) (hv : v < 100) (bW : sml w 1000) : fE M_M_isWithin E [.ref 63, .int (nI v)] n h (qI (fun r k g => r = bI (bear (sl N 10 10) w (sgn v v)) ∧ k = n ∧ mM c g ∧ mL h g)) := by
  obtain ⟨⟨th, mn, m0⟩, f0, m8⟩ := M
  refine fE.of (L := [some (.ref 63), some (.int (nI v)), none, none]) (by decide +kernel) (Nat.le_of_ble_eq_true rfl) rfl ?_
  refine a_al0 fM_isWithin_0 ?_
  refine a_il1 fM_isWithin_1 ?_
  refine a_il1 fM_isWithin_2 ?_
  refine a_V2Q fM_isWithin_3 k_M_62 m_M_line ⟨by decide, by decide⟩ m0 rfl ⟨rfl, rfl⟩ (Nat.le_of_ble_eq_true rfl) (c_Mline m0 m8 hv hv) (fun n1 h1 p1 => ?_)
  obtain ⟨hn1, g2, q1, hg2⟩ := p1
  subst n1
  have M0 : h1 63 = mO c th (nI (sgn v v).length) := by rw [hg2]; exact up_n (by decide) up_s
  have M8 : h1 71 = ia 4 g2 := by rw [hg2]; exact up_s
  have F1 : mL h h1 := by rw [hg2]; exact fun a x1 x2 => up_n x2 (up_n x1 rfl)
  clear hg2
  have M1 : h1 64 = nA 189 N := (F1 64 (by decide) (by decide)).trans m1
  have M7 : h1 70 = nA 10 w := (F1 70 (by decide) (by decide)).trans m7
  have h4 := q1.1
  have loop : ∀ (r : List Nat) (i : Nat) (q : Bool), (sgn v v).drop i = r → i ≤ (sgn v v).length → ((q = true ∧ bear (sl N 10 10) w r) ↔ bear (sl N 10 10) w (sgn v v)) → fA M_M_isWithin E (fZ M_M_isWithin E (qI (fun r k g => r = bI (bear (sl N 10 10) w (sgn v v)) ∧ k = n ∧ mM c g ∧ mL h g))) n h1 0 0 10 [some (.ref 63), some (.int (nI v)), some (.int (bI (q = true))), some (.int (nI i))] [] := by
    intro r
    induction r with
    | nil =>
      intro i q hr hi he
      refine a_il3 fM_isWithin_10 ?_
      refine a_al0 fM_isWithin_11 ?_
      refine a_gf fM_isWithin_12 l_M_51 M0 rfl ?_
      refine a_ic_ge fM_isWithin_15 (fun _ => ?_) (fun c_ => absurd (nI_le (dropn hr) (by omega)) c_)
      refine a_il2 fM_isWithin_62 ?_
      exact a_rz fM_isWithin_63 rfl (bI_n _) ⟨_, rfl, bI_cg ⟨fun z => he.mp ⟨z, fun _ z => by cases z⟩, fun z => (he.mpr z).1⟩, rfl, ⟨⟨_, _, M0⟩, _, M8⟩, F1⟩
    | cons f r ih =>
      intro i q hr hi he
      obtain ⟨r1, r2, r3⟩ := dropc hr
      obtain ⟨g1, g3⟩ := q1.2 i f r2
      have b7 := O.1 f g3
      have b8 := bW f g3
      refine a_il3 fM_isWithin_10 ?_
      refine a_al0 fM_isWithin_11 ?_
      refine a_gf fM_isWithin_12 l_M_51 M0 rfl ?_
      refine a_ic_ge fM_isWithin_15 (fun c_ => absurd c_ (nI_ge r1 (by omega))) (fun _ => ?_)
      have nx : ∀ (q2 : Bool), ((q2 = true ∧ bear (sl N 10 10) w r) ↔ bear (sl N 10 10) w (sgn v v)) → fA M_M_isWithin E (fZ M_M_isWithin E (qI (fun r k g => r = bI (bear (sl N 10 10) w (sgn v v)) ∧ k = n ∧ mM c g ∧ mL h g))) n h1 0 0 55 [some (.ref 63), some (.int (nI v)), some (.int (bI (q = true))), some (.int (nI i))] [.int (bI (q2 = true))] := by
        intro q2 hq2
        refine a_is2 fM_isWithin_55 (by decide) rfl ?_
        refine a_inc3 fM_isWithin_56 (by decide) rfl ?_
        refine a_goto fM_isWithin_59 ?_
        rw [nI_1]
        exact ih (i + 1) q2 r3 r1 hq2
      by_cases cq : q = true
      · refine a_il2 fM_isWithin_18 ?_
        refine a_if_eq fM_isWithin_19 (fun c_ => absurd c_ (fun z => by rw [bI_t cq] at z; exact absurd z (by decide))) (fun _ => ?_)
        by_cases cP : w f ≤ sl N 10 10 f
        · rw [sl_lt g3] at cP
          refine a_al0 fM_isWithin_22 ?_
          refine a_gf fM_isWithin_23 l_M_33 M0 rfl ?_
          refine a_al0 fM_isWithin_26 ?_
          refine a_gf fM_isWithin_27 l_M_36 M0 rfl ?_
          refine a_il3 fM_isWithin_30 ?_
          refine a_ia fM_isWithin_31 M8 rfl (by omega) (by decide) ?_
          refine a_ia fM_isWithin_32 M7 g1 (by omega) (by decide) ?_
          refine a_al0 fM_isWithin_33 ?_
          refine a_gf fM_isWithin_34 l_M_7 M0 rfl ?_
          refine a_ic fM_isWithin_37 ?_
          refine a_al0 fM_isWithin_39 ?_
          refine a_gf fM_isWithin_40 l_M_36 M0 rfl ?_
          refine a_il3 fM_isWithin_43 ?_
          refine a_ia fM_isWithin_44 M8 rfl (by omega) (by decide) ?_
          refine a_iadd fM_isWithin_45 ?_
          refine a_ia fM_isWithin_46 M1 (show (10 : Int32) + g2 i = nI (10 + f) by rw [g1]; exact nI_add 10 f) (by omega) (by decide) ?_
          refine a_ic_gt fM_isWithin_47 (fun c_ => absurd c_ (fun z => absurd ((nI_ltI (by omega) (by omega)).mp z) (by omega))) (fun _ => ?_)
          refine a_ic fM_isWithin_50 ?_
          refine a_goto fM_isWithin_51 ?_
          refine nx true (Iff.trans ⟨fun z => ⟨cq, fun y hy => ?_⟩, fun z => ⟨rfl, fun y hy => z.2 y (List.mem_cons_of_mem _ hy)⟩⟩ he)
          rcases List.mem_cons.mp hy with rfl | hy
          · rw [sl_lt g3]; exact cP
          · exact z.2 y hy
        · have cP2 := cP
          rw [sl_lt g3] at cP2
          refine a_al0 fM_isWithin_22 ?_
          refine a_gf fM_isWithin_23 l_M_33 M0 rfl ?_
          refine a_al0 fM_isWithin_26 ?_
          refine a_gf fM_isWithin_27 l_M_36 M0 rfl ?_
          refine a_il3 fM_isWithin_30 ?_
          refine a_ia fM_isWithin_31 M8 rfl (by omega) (by decide) ?_
          refine a_ia fM_isWithin_32 M7 g1 (by omega) (by decide) ?_
          refine a_al0 fM_isWithin_33 ?_
          refine a_gf fM_isWithin_34 l_M_7 M0 rfl ?_
          refine a_ic fM_isWithin_37 ?_
          refine a_al0 fM_isWithin_39 ?_
          refine a_gf fM_isWithin_40 l_M_36 M0 rfl ?_
          refine a_il3 fM_isWithin_43 ?_
          refine a_ia fM_isWithin_44 M8 rfl (by omega) (by decide) ?_
          refine a_iadd fM_isWithin_45 ?_
          refine a_ia fM_isWithin_46 M1 (show (10 : Int32) + g2 i = nI (10 + f) by rw [g1]; exact nI_add 10 f) (by omega) (by decide) ?_
          refine a_ic_gt fM_isWithin_47 (fun _ => ?_) (fun c_ => absurd (nI_lt (by omega) (by omega)) c_)
          refine a_ic fM_isWithin_54 ?_
          exact nx false (Iff.trans ⟨fun z => (by cases z.1), fun z => absurd (z.2 f List.mem_cons_self) cP⟩ he)
      · refine a_il2 fM_isWithin_18 ?_
        refine a_if_eq fM_isWithin_19 (fun _ => ?_) (fun c_ => absurd (by rw [bI_f cq]) c_)
        refine a_ic fM_isWithin_54 ?_
        exact nx false (Iff.trans ⟨fun z => (by cases z.1), fun z => absurd z.1 cq⟩ he)
  refine a_ic fM_isWithin_6 ?_
  refine a_is2 fM_isWithin_7 (by decide) rfl ?_
  refine a_ic fM_isWithin_8 ?_
  refine a_is3 fM_isWithin_9 (by decide) rfl ?_
  exact loop (sgn v v) 0 true rfl (Nat.zero_le _) ⟨fun z => z.2, fun z => ⟨rfl, z⟩⟩
def slP (A : Nat → Nat) (i : Nat) : Nat → Nat := fun y => if 20 ≤ y ∧ y < 20 + i then A y - rst (A (y - 20)) (A y) else A y
theorem slP_at {A : Nat → Nat} {i : Nat} : slP A i (20 + i) = A (20 + i) := by unfold slP; rw [if_neg (by omega)]
theorem slP_lo {A : Nat → Nat} {i y : Nat} (h : y < 20 ∨ 30 ≤ y) (h2 : i ≤ 10) : slP A i y = A y := by unfold slP; rw [if_neg (by omega)]
theorem c_Msleeps {a : Nat} {A : Nat → Nat} (hA : h a = nA 189 A) (bK : ∀ f, f < 10 → A f ≤ 5) (bW : ∀ f, f < 10 → A (20 + f) ≤ 1000) (bD : A 30 ≤ 9999) : fE M_M_sleeps E [.ref a] n h (eN n (va_up h a (nA 189 (ngt1 A)))) := by
  have loop : ∀ (j i : Nat) (x2 : Option Value), i + j = 10 → fA M_M_sleeps E (fZ M_M_sleeps E (eN n (va_up h a (nA 189 (ngt1 A))))) n (va_up h a (nA 189 (slP A i))) 0 0 2 [some (.ref a), some (.int (nI i)), x2] [] := by
    intro j
    induction j with
    | zero =>
      intro i x2 hi
      obtain rfl : i = 10 := by omega
      have e3 : nF (slP A 10) 30 = nI (A 30) := congrArg nI (slP_lo (by omega) (by omega))
      refine a_il1 fM_sleeps_2 ?_
      refine a_ic fM_sleeps_3 ?_
      refine a_ic_ge fM_sleeps_5 (fun _ => ?_) (fun c_ => absurd (Int32.le_refl _) c_)
      refine a_al0 fM_sleeps_57 ?_
      refine a_ic fM_sleeps_58 ?_
      refine a_al0 fM_sleeps_60 ?_
      refine a_ic fM_sleeps_61 ?_
      refine a_ia fM_sleeps_63 up_s (show (30 : Int32) = nI 30 from rfl) (by decide) (by decide) ?_
      rw [e3]
      by_cases c9 : A 30 < 9999
      · refine a_ic fM_sleeps_64 ?_
        refine a_ic_ge fM_sleeps_67 (fun c_ => absurd c_ (nI_ge (b := 9999) c9 (by decide))) (fun _ => ?_)
        refine a_al0 fM_sleeps_70 ?_
        refine a_ic fM_sleeps_71 ?_
        refine a_ia fM_sleeps_73 up_s (show (30 : Int32) = nI 30 from rfl) (by decide) (by decide) ?_
        rw [e3]
        refine a_ic fM_sleeps_74 ?_
        refine a_iadd fM_sleeps_75 ?_
        refine a_goto fM_sleeps_76 ?_
        refine a_it fM_sleeps_82 up_s (show (30 : Int32) = nI 30 from rfl) (by decide) (by decide) ?_
        rw [bx_uu]
        refine fA.ud (v := A 30 + 1) (F2 := ngt1 A) (nI_1 _) (fun j => by unfold slP ngt1; grind) ?_
        exact a_rv fM_sleeps_83 rfl (⟨rfl, rfl, rfl⟩)
      · refine a_ic fM_sleeps_64 ?_
        refine a_ic_ge fM_sleeps_67 (fun _ => ?_) (fun c_ => absurd (nI_le (a := 9999) (by omega) (by omega)) c_)
        refine a_ic fM_sleeps_79 ?_
        refine a_it fM_sleeps_82 up_s (show (30 : Int32) = nI 30 from rfl) (by decide) (by decide) ?_
        rw [bx_uu]
        refine fA.ud (v := 9999) (F2 := ngt1 A) rfl (fun j => by unfold slP ngt1; grind) ?_
        exact a_rv fM_sleeps_83 rfl (⟨rfl, rfl, rfl⟩)
    | succ j ih =>
      intro i x2 hi
      have e0 : nF (slP A i) (0 + i) = nI (A i) := congrArg nI (by rw [Nat.zero_add]; exact slP_lo (by omega) (by omega))
      have e1 : nF (slP A i) (20 + i) = nI (A (20 + i)) := congrArg nI slP_at
      have b1 := bW i (by omega)
      have b2 : rst (A i) (A (20 + i)) < 2 ^ 30 := rst_lt
      refine a_il1 fM_sleeps_2 ?_
      refine a_ic fM_sleeps_3 ?_
      refine a_ic_ge fM_sleeps_5 (fun c_ => absurd c_ (nI_ge (b := 10) (by omega) (by decide))) (fun _ => ?_)
      refine a_al0 fM_sleeps_8 ?_
      refine a_ic fM_sleeps_9 ?_
      refine a_il1 fM_sleeps_10 ?_
      refine a_iadd fM_sleeps_11 ?_
      refine a_ia fM_sleeps_12 up_s (nI_add 0 _) (by omega) (by decide) ?_
      refine a_al0 fM_sleeps_13 ?_
      refine a_ic fM_sleeps_14 ?_
      refine a_il1 fM_sleeps_16 ?_
      refine a_iadd fM_sleeps_17 ?_
      refine a_ia fM_sleeps_18 up_s (nI_add 20 _) (by omega) (by decide) ?_
      rw [e0, e1]
      refine a_S2V fM_sleeps_19 k_M_47 m_M_restOf ⟨by decide, by decide⟩ ⟨rfl, rfl⟩ (Nat.le_of_ble_eq_true rfl) (c_MrestOf (bK i (by omega)) (by omega)) ?_
      refine a_is2 fM_sleeps_22 (by decide) rfl ?_
      refine a_al0 fM_sleeps_23 ?_
      refine a_ic fM_sleeps_24 ?_
      refine a_il1 fM_sleeps_26 ?_
      refine a_iadd fM_sleeps_27 ?_
      refine a_al0 fM_sleeps_28 ?_
      refine a_ic fM_sleeps_29 ?_
      refine a_il1 fM_sleeps_31 ?_
      refine a_iadd fM_sleeps_32 ?_
      refine a_ia fM_sleeps_33 up_s (nI_add 20 _) (by omega) (by decide) ?_
      rw [e1]
      by_cases c9 : A (20 + i) ≤ rst (A i) (A (20 + i))
      · refine a_il2 fM_sleeps_34 ?_
        refine a_ic_le fM_sleeps_35 (fun _ => ?_) (fun c_ => absurd (nI_le c9 (by omega)) c_)
        refine a_ic fM_sleeps_49 ?_
        refine a_it fM_sleeps_50 up_s (nI_add 20 _) (by omega) (by decide) ?_
        refine a_inc1 fM_sleeps_51 (by decide) rfl ?_
        refine a_goto fM_sleeps_54 ?_
        rw [bx_uu, nI_1]
        refine fA.ud (v := 0) (F2 := slP A (i + 1)) rfl (fun j => by unfold slP; grind) ?_
        exact ih (i + 1) _ (by omega)
      · refine a_il2 fM_sleeps_34 ?_
        refine a_ic_le fM_sleeps_35 (fun c_ => absurd c_ (fun z => c9 ((nI_leI (by omega) (by omega)).mp z))) (fun _ => ?_)
        refine a_al0 fM_sleeps_38 ?_
        refine a_ic fM_sleeps_39 ?_
        refine a_il1 fM_sleeps_41 ?_
        refine a_iadd fM_sleeps_42 ?_
        refine a_ia fM_sleeps_43 up_s (nI_add 20 _) (by omega) (by decide) ?_
        rw [e1]
        refine a_il2 fM_sleeps_44 ?_
        refine a_isub fM_sleeps_45 ?_
        refine a_goto fM_sleeps_46 ?_
        refine a_it fM_sleeps_50 up_s (nI_add 20 _) (by omega) (by decide) ?_
        refine a_inc1 fM_sleeps_51 (by decide) rfl ?_
        refine a_goto fM_sleeps_54 ?_
        rw [bx_uu, nI_1]
        refine fA.ud (v := A (20 + i) - rst (A i) (A (20 + i))) (F2 := slP A (i + 1)) (pk_sub (by omega)) (fun j => by unfold slP; grind) ?_
        exact ih (i + 1) _ (by omega)
  refine fE.of (L := [some (.ref a), none, none]) (by decide +kernel) (Nat.le_of_ble_eq_true rfl) rfl ?_
  refine a_ic fM_sleeps_0 ?_
  refine a_is1 fM_sleeps_1 (by decide) rfl ?_
  have := loop 10 0 none (by omega)
  rw [show slP A 0 = A from funext (fun y => by unfold slP; rw [if_neg (by omega)]), up_id hA] at this
  exact this
end M2
