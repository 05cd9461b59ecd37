/-! the sleuth -/
def smF (K : Nat → Nat) (D F : Nat) : Nat → List Nat → Nat
  | _, [] => 0
  | k, f :: r => (if f = F then wr (K F) k D else 0) + smF K D F (k + 1) r
theorem wad_sum {K : Nat → Nat} {D F : Nat} : ∀ (r : List Nat) (k : Nat) (W : Nat → Nat), wad K D k r W F = W F + smF K D F k r := by
  intro r
  induction r with
  | nil => intro k W; rfl
  | cons f r ih =>
    intro k W
    simp only [wad, smF]
    rw [ih]
    by_cases c : f = F
    · subst c; rw [up_s, if_pos rfl]; omega
    · rw [vn (Ne.symm c), if_neg c]; omega
theorem smF_le {K : Nat → Nat} {D F : Nat} : ∀ (r : List Nat) (k : Nat), k + r.length ≤ 4 → smF K D F k r ≤ 6 * r.length := by
  intro r
  induction r with
  | nil => intro k _; exact Nat.le_refl _
  | cons f r ih =>
    intro k hk
    simp only [List.length_cons] at hk
    have := ih (k + 1) (by omega)
    have h6 : wr (K F) k D ≤ 6 := wr_le (by omega)
    simp only [smF, List.length_cons]
    split <;> omega
/-- the clues of now -/
def cv (g : hT) (N : Nat → Nat) : Prop := g 20 = cO 20 (N 46) (N 59) ∧ ∃ tf tm nf ng nd nm, (g 21 = nA 6 tf ∧ g 22 = nA 6 tm ∧ g 23 = nA 6 nf ∧ g 24 = nA 6 ng ∧ g 25 = nA 6 nd ∧ g 26 = nA 6 nm) ∧ (∀ i, i < N 46 → tf i = N (47 + i) ∧ tm i = N (53 + i)) ∧ ∀ i, i < N 59 → nf i = N (60 + i) ∧ ng i = N (66 + i) ∧ nd i = N (72 + i) ∧ nm i = N (78 + i)
def okT (N : Nat → Nat) : Prop := (N 46 ≤ 6 ∧ ∀ i, i < N 46 → N (47 + i) < 10 ∧ N (53 + i) ≤ 40) ∧ N 59 ≤ 6 ∧ ∀ i, i < N 59 → N (60 + i) < 10 ∧ N (66 + i) ≤ 3 ∧ N (72 + i) ≤ 99 ∧ N (78 + i) ≤ 20
abbrev uO : cT := .inr (8, [.ref 55])
def sS (g : hT) : Prop := g 54 = uO ∧ ∃ (m : Nat) (f : Nat → Int32), g 55 = lO 56 m ∧ g 56 = ia 4 f
def frs (h g : hT) : Prop := ∀ a, a < 54 ∨ 56 < a → g a = h a
theorem frs.rf {h : hT} : frs h h := fun _ _ => rfl
theorem frs.trans {a b c : hT} (x : frs a b) (z : frs b c) : frs a c := fun i hi => (z i hi).trans (x i hi)
theorem hv.frs {h g : hT} {N : Nat → Nat} (H : hv h N) (F : frs h g) : hv g N := ⟨(F _ (by omega)).trans H.1, (F _ (by omega)).trans H.2.1, (F _ (by omega)).trans H.2.2.1, (F _ (by omega)).trans H.2.2.2.1, (F _ (by omega)).trans H.2.2.2.2⟩
theorem cv.frs {h g : hT} {N : Nat → Nat} (H : cv h N) (F : frs h g) : cv g N := by
  obtain ⟨a, tf, tm, nf, ng, nd, nm, ⟨b1, b2, b3, b4, b5, b6⟩, c⟩ := H
  exact ⟨(F _ (by omega)).trans a, tf, tm, nf, ng, nd, nm, ⟨(F _ (by omega)).trans b1, (F _ (by omega)).trans b2, (F _ (by omega)).trans b3, (F _ (by omega)).trans b4, (F _ (by omega)).trans b5, (F _ (by omega)).trans b6⟩, c⟩
abbrev ftP (N : Nat → Nat) (m : Nat) : Prop := ∀ i, i < N 46 → smF (sl N 0 10) (N 30) (N (47 + i)) 0 (sgn (m / 100) (m % 100)) = N (53 + i)
def lat (P : Nat → Bool) (p : Nat) : Nat → Nat → Nat → Option Nat
  | 0, _, _ => none
  | j + 1, i, c => if P i then (if c = p then some i else lat P p j (i + 1) (c + 1)) else lat P p j (i + 1) c
def o5 (r : Option Nat) : Int32 := match r with
  | none => -5
  | some x => nI x
def maxL (C : Nat → Nat) : Nat → Nat → Nat → Nat
  | 0, _, m => m
  | j + 1, i, m => maxL C j (i + 1) (if m < C i then C i else m)
/-- how many of the kinds wear like kind a -/
def alk (ks k d a : Nat) : Nat := ncn (fun b => decide (ks / 2 ^ a % 2 = 1 ∧ ks / 2 ^ b % 2 = 1 ∧ wr a k d = wr b k d)) 6 0 0
def mal (ks k d : Nat) : Nat := maxL (alk ks k d) 6 0 0
def nlb (C : Nat → Nat → Nat) (k : Nat) (s : Option (Nat × Nat)) (d : Nat) : Bool := match s with
  | none => true
  | some q => decide (C k d < q.2)
def nlD (C : Nat → Nat → Nat) (k : Nat) : Nat → Nat → Option (Nat × Nat) → Option (Nat × Nat)
  | 0, _, s => s
  | j + 1, d, s => nlD C k j (d + 1) (if nlb C k s d = true then some (100 * k + d, C k d) else s)
def nlK (C : Nat → Nat → Nat) : Nat → Nat → Option (Nat × Nat) → Option (Nat × Nat)
  | 0, _, s => s
  | j + 1, k, s => nlK C j (k + 1) (nlD C k 14 0 s)
theorem maxL_le {C : Nat → Nat} {b : Nat} (h : ∀ i, C i ≤ b) : ∀ j i m, m ≤ b → maxL C j i m ≤ b := by
  intro j
  induction j with
  | zero => intro i m hm; exact hm
  | succ j ih => intro i m hm; simp only [maxL]; apply ih; have := h i; split <;> omega
theorem alk_le {ks k d a : Nat} : alk ks k d a ≤ 6 := by
  unfold alk
  have := ncn_le (P := fun b => decide (ks / 2 ^ a % 2 = 1 ∧ ks / 2 ^ b % 2 = 1 ∧ wr a k d = wr b k d)) 6 0 0
  omega
section SL
variable {E : eT} {n : Nat} {h : hT} {N : Nat → Nat}
theorem c_moreWorn {F : Nat} {sg : List Nat} {g : Nat → Int32} (V : hv h N) (O : okC N) (k4 : h 54 = uO) (k5 : h 55 = lO 56 sg.length) (k6 : h 56 = ia 4 g) (hsg : isSg g sg) (hF : F < 10) : fE M_U_moreWorn E [.ref 54, .ref 12, .int (nI F)] n h (eV (.int (nI (smF (sl N 0 10) (N 30) F 0 sg))) n h) := by
  have h4 := hsg.1
  have loop : ∀ (r : List Nat) (i c0 T : Nat), sg.drop i = r → i ≤ sg.length → c0 + smF (sl N 0 10) (N 30) F i r = T → fA M_U_moreWorn E (fZ M_U_moreWorn E (eV (.int (nI T)) n h)) n h 0 0 5 [some (.ref 54), some (.ref 12), some (.int (nI F)), some (.int (nI c0)), some (.int (nI i))] [] := by
    intro r
    induction r with
    | nil =>
      intro i c0 T hr hi hT
      refine a_il4 fU_moreWorn_5 ?_
      refine a_al0 fU_moreWorn_7 ?_
      refine a_gf fU_moreWorn_8 l_U_12 k4 rfl ?_
      refine a_gf fU_moreWorn_11 l_U_49 k5 rfl ?_
      refine a_ic_ge fU_moreWorn_14 (fun _ => ?_) (fun c_ => absurd (nI_le (dropn hr) (by omega)) c_)
      refine a_il3 fU_moreWorn_58 ?_
      exact a_ri fU_moreWorn_59 rfl (⟨sv (by rw [← hT]; rfl), rfl, rfl⟩)
    | cons f r ih =>
      intro i c0 T hr hi hT
      obtain ⟨h1, h2, h3⟩ := dropc hr
      obtain ⟨g1, g2⟩ := hsg.2 i f h2
      refine a_il4 fU_moreWorn_5 ?_
      refine a_al0 fU_moreWorn_7 ?_
      refine a_gf fU_moreWorn_8 l_U_12 k4 rfl ?_
      refine a_gf fU_moreWorn_11 l_U_49 k5 rfl ?_
      refine a_ic_ge fU_moreWorn_14 (fun c_ => absurd c_ (nI_ge h1 (by omega))) (fun _ => ?_)
      refine a_al0 fU_moreWorn_17 ?_
      refine a_gf fU_moreWorn_18 l_U_12 k4 rfl ?_
      refine a_gf fU_moreWorn_21 l_U_52 k5 rfl ?_
      refine a_il4 fU_moreWorn_24 ?_
      refine a_ia fU_moreWorn_26 k6 rfl (by omega) (by decide) ?_
      rw [g1]
      by_cases c : f = F
      · refine a_il2 fU_moreWorn_27 ?_
        refine a_ic_ne fU_moreWorn_28 (fun c_ => absurd (congrArg nI c) c_) (fun _ => ?_)
        refine a_il3 fU_moreWorn_31 ?_
        refine a_al1 fU_moreWorn_32 ?_
        refine a_gf fU_moreWorn_33 l_U_55 V.1 rfl ?_
        refine a_il2 fU_moreWorn_36 ?_
        refine a_ia fU_moreWorn_37 V.2.1 rfl (by omega) (by decide) ?_
        refine a_il4 fU_moreWorn_38 ?_
        refine a_al1 fU_moreWorn_40 ?_
        refine a_gf fU_moreWorn_41 l_U_58 V.1 rfl ?_
        refine a_gf fU_moreWorn_44 l_U_62 V.2.2.2.1 rfl ?_
        refine a_S3V fU_moreWorn_47 k_U_67 m_I_wear ⟨by decide, by decide⟩ ⟨rfl, rfl⟩ (Nat.le_of_ble_eq_true rfl) (c_wear (O.K F hF) (k := i) (by omega) O.D) ?_
        refine a_iadd fU_moreWorn_50 ?_
        refine a_is3 fU_moreWorn_51 (by decide) rfl ?_
        refine a_inc4 fU_moreWorn_52 (by decide) rfl ?_
        refine a_goto fU_moreWorn_55 ?_
        rw [nI_1, nI_add]
        exact ih (i + 1) _ T h3 h1 (by rw [← hT]; simp only [smF]; rw [if_pos c]; omega)
      · refine a_il2 fU_moreWorn_27 ?_
        refine a_ic_ne fU_moreWorn_28 (fun _ => ?_) (fun c_ => absurd c_ (fun z => c ((nI_eq (by omega) (by omega)).mp z)))
        refine a_inc4 fU_moreWorn_52 (by decide) rfl ?_
        refine a_goto fU_moreWorn_55 ?_
        rw [nI_1]
        exact ih (i + 1) _ T h3 h1 (by rw [← hT]; simp only [smF]; rw [if_neg c]; omega)
  refine fE.of (L := [some (.ref 54), some (.ref 12), some (.int (nI F)), none, none]) (by decide +kernel) (Nat.le_of_ble_eq_true rfl) rfl ?_
  refine a_ic fU_moreWorn_0 ?_
  refine a_is3 fU_moreWorn_1 (by decide) rfl ?_
  refine a_ic fU_moreWorn_2 ?_
  refine a_is4 fU_moreWorn_3 (by decide) rfl ?_
  exact loop sg 0 0 _ rfl (Nat.zero_le _) (by omega)
theorem c_fits {m : Nat} (V : hv h N) (C : cv h N) (S : sS h) (O : okC N) (OT : okT N) (hm : m < 10000) : fE M_U_fitsTraces E [.ref 54, .ref 12, .int (nI m)] n h (qI (fun r k g => r = bI (ftP N m) ∧ k = n ∧ sS g ∧ frs h g)) := by
  obtain ⟨s4, lm, lf, s5, s6⟩ := S
  refine fE.of (L := [some (.ref 54), some (.ref 12), some (.int (nI m)), none]) (by decide +kernel) (Nat.le_of_ble_eq_true rfl) rfl ?_
  refine a_al0 fU_fitsTraces_0 ?_
  refine a_gf fU_fitsTraces_1 l_U_12 s4 rfl ?_
  refine a_il2 fU_fitsTraces_4 ?_
  refine a_ic fU_fitsTraces_5 ?_
  refine a_idiv fU_fitsTraces_7 (by decide) ?_
  rw [show nI m / 100 = nI (m / 100) from pk_div (d := 100) (by omega) (by decide) (by decide)]
  refine a_il2 fU_fitsTraces_8 ?_
  refine a_ic fU_fitsTraces_9 ?_
  refine a_irem fU_fitsTraces_11 (by decide) ?_
  rw [show nI m - nI m / 100 * 100 = nI (m % 100) from pk_rem (d := 100) (by omega) (by decide) (by decide)]
  refine a_V2Q fU_fitsTraces_12 k_U_22 m_L_tell ⟨by decide, by decide⟩ s5 rfl ⟨rfl, rfl⟩ (Nat.le_of_ble_eq_true rfl) (c_tell (l := 55) s5 s6 (v := m / 100) (x := m % 100) (by omega) (by omega)) (fun n1 h1 p1 => ?_)
  obtain ⟨hn1, g2, q1, hg2⟩ := p1
  subst n1
  have F1 : frs h h1 := by rw [hg2]; exact fun a ha => up_n (by omega) (up_n (by omega) rfl)
  have K4 : h1 54 = uO := by rw [hg2]; exact up_n (by decide) (up_n (by decide) s4)
  have K5 : h1 55 = lO 56 (sgn (m / 100) (m % 100)).length := by rw [hg2]; exact up_n (by decide) up_s
  have K6 : h1 56 = ia 4 g2 := by rw [hg2]; exact up_s
  clear hg2
  have V1 := V.frs F1
  obtain ⟨c1, tf, tm, nf, ng, nd, nm, ⟨t1, t2, t3, t4, t5, t6⟩, l1, l2⟩ := C.frs F1
  have ob := OT.1.1
  have loop : ∀ (j i : Nat), i + j = N 46 → (∀ x, x < i → smF (sl N 0 10) (N 30) (N (47 + x)) 0 (sgn (m / 100) (m % 100)) = N (53 + x)) → fA M_U_fitsTraces E (fZ M_U_fitsTraces E (qI (fun r k g => r = bI (ftP N m) ∧ k = n ∧ sS g ∧ frs h g))) n h1 0 0 17 [some (.ref 54), some (.ref 12), some (.int (nI m)), some (.int (nI i))] [] := by
    intro j
    induction j with
    | zero =>
      intro i hi hx
      refine a_il3 fU_fitsTraces_17 ?_
      refine a_al1 fU_fitsTraces_18 ?_
      refine a_gf fU_fitsTraces_19 l_U_26 V1.1 rfl ?_
      refine a_gf fU_fitsTraces_22 l_U_32 c1 rfl ?_
      refine a_ic_ge fU_fitsTraces_25 (fun _ => ?_) (fun c_ => absurd (nI_le (by omega) (by omega)) c_)
      refine a_ic fU_fitsTraces_68 ?_
      exact a_rz fU_fitsTraces_69 rfl (by first | rfl | (split <;> rfl)) (⟨_, rfl, by rw [bI_t (fun x hx2 => hx x (by omega))], rfl, ⟨K4, _, g2, K5, K6⟩, F1⟩)
    | succ j ih =>
      intro i hi hx
      obtain ⟨e1, e2⟩ := l1 i (by omega)
      obtain ⟨e3, e4⟩ := OT.1.2 i (by omega)
      refine a_il3 fU_fitsTraces_17 ?_
      refine a_al1 fU_fitsTraces_18 ?_
      refine a_gf fU_fitsTraces_19 l_U_26 V1.1 rfl ?_
      refine a_gf fU_fitsTraces_22 l_U_32 c1 rfl ?_
      refine a_ic_ge fU_fitsTraces_25 (fun c_ => absurd c_ (nI_ge (by omega) (by omega))) (fun _ => ?_)
      refine a_il3 fU_fitsTraces_28 ?_
      refine a_ic fU_fitsTraces_29 ?_
      refine a_ic_ge fU_fitsTraces_31 (fun c_ => absurd c_ (nI_ge (b := 6) (by omega) (by decide))) (fun _ => ?_)
      refine a_al0 fU_fitsTraces_34 ?_
      refine a_al1 fU_fitsTraces_35 ?_
      refine a_al1 fU_fitsTraces_36 ?_
      refine a_gf fU_fitsTraces_37 l_U_26 V1.1 rfl ?_
      refine a_gf fU_fitsTraces_40 l_U_38 c1 rfl ?_
      refine a_il3 fU_fitsTraces_43 ?_
      refine a_ia fU_fitsTraces_44 t1 rfl (by omega) (by decide) ?_
      rw [show nF tf i = nI (N (47 + i)) from congrArg nI e1]
      refine a_V2V fU_fitsTraces_45 k_U_42 m_U_moreWorn ⟨by decide, by decide⟩ K4 rfl ⟨rfl, rfl⟩ (Nat.le_of_ble_eq_true rfl) (c_moreWorn V1 O K4 K5 K6 q1 e3) ?_
      refine a_al1 fU_fitsTraces_48 ?_
      refine a_gf fU_fitsTraces_49 l_U_26 V1.1 rfl ?_
      refine a_gf fU_fitsTraces_52 l_U_46 c1 rfl ?_
      refine a_il3 fU_fitsTraces_55 ?_
      refine a_ia fU_fitsTraces_56 t2 rfl (by omega) (by decide) ?_
      rw [show nF tm i = nI (N (53 + i)) from congrArg nI e2]
      have sl9 := smF_le (K := sl N 0 10) (D := N 30) (F := N (47 + i)) (sgn (m / 100) (m % 100)) 0 (by have := @sgn_len (m / 100) (m % 100); omega)
      have sl8 := @sgn_len (m / 100) (m % 100)
      by_cases c : smF (sl N 0 10) (N 30) (N (47 + i)) 0 (sgn (m / 100) (m % 100)) = N (53 + i)
      · refine a_ic_eq fU_fitsTraces_57 (fun _ => ?_) (fun c_ => absurd (congrArg nI c) c_)
        refine a_inc3 fU_fitsTraces_62 (by decide) rfl ?_
        refine a_goto fU_fitsTraces_65 ?_
        rw [nI_1]
        refine ih (i + 1) (by omega) (fun x hx2 => ?_)
        by_cases c8 : x = i
        · subst c8; exact c
        · exact hx x (by omega)
      · refine a_ic_eq fU_fitsTraces_57 (fun c_ => absurd c_ (fun z => c ((nI_eq (by omega) (by omega)).mp z))) (fun _ => ?_)
        refine a_ic fU_fitsTraces_60 ?_
        exact a_rz fU_fitsTraces_61 rfl (by first | rfl | (split <;> rfl)) (⟨_, rfl, by rw [bI_f (fun z => c (z i (by omega)))], rfl, ⟨K4, _, g2, K5, K6⟩, F1⟩)
  refine a_ic fU_fitsTraces_15 ?_
  refine a_is3 fU_fitsTraces_16 (by decide) rfl ?_
  exact loop (N 46) 0 (by omega) (fun x hx => by omega)
theorem c_howMany (V : hv h N) (C : cv h N) (S : sS h) (O : okC N) (OT : okT N) : fE M_U_howManyLines E [.ref 54, .ref 12] n h (qI (fun r k g => r = nI (ncn (fun m => decide (ftP N m)) 10000 0 0) ∧ k = n ∧ sS g ∧ frs h g)) := by
  have loop : ∀ (j i c0 : Nat) (g : hT) (T : Nat), i + j = 10000 → hv g N → cv g N → sS g → frs h g → ncn (fun m => decide (ftP N m)) j i c0 = T → fA M_U_howManyLines E (fZ M_U_howManyLines E (qI (fun r k g => r = nI T ∧ k = n ∧ sS g ∧ frs h g))) n g 0 0 4 [some (.ref 54), some (.ref 12), some (.int (nI c0)), some (.int (nI i))] [] := by
    intro j
    induction j with
    | zero =>
      intro i c0 g T hi V C S Fr hT
      obtain rfl : i = 10000 := by omega
      refine a_il3 fU_howManyLines_4 ?_
      refine a_ic fU_howManyLines_5 ?_
      refine a_ic_ge fU_howManyLines_8 (fun _ => ?_) (fun c_ => absurd (Int32.le_refl _) c_)
      refine a_il2 fU_howManyLines_29 ?_
      exact a_ri fU_howManyLines_30 rfl (⟨_, rfl, by rw [← hT]; rfl, rfl, S, Fr⟩)
    | succ j ih =>
      intro i c0 g T hi V C S Fr hT
      refine a_il3 fU_howManyLines_4 ?_
      refine a_ic fU_howManyLines_5 ?_
      refine a_ic_ge fU_howManyLines_8 (fun c_ => absurd c_ (nI_ge (b := 10000) (by omega) (by decide))) (fun _ => ?_)
      refine a_al0 fU_howManyLines_11 ?_
      refine a_al1 fU_howManyLines_12 ?_
      refine a_il3 fU_howManyLines_13 ?_
      refine a_V2I fU_howManyLines_14 k_U_18 m_U_fitsTraces ⟨by decide, by decide⟩ S.1 rfl ⟨rfl, rfl⟩ (Nat.le_of_ble_eq_true rfl) (c_fits V C S O OT (m := i) (by omega)) (fun r1 n1 h1 p1 => ?_)
      obtain ⟨rfl, hn1, S1, F1⟩ := p1
      subst n1
      by_cases c9 : ftP N i
      · refine a_if_eq fU_howManyLines_17 (fun c_ => absurd c_ (fun z => by rw [bI_t c9] at z; exact absurd z (by decide))) (fun _ => ?_)
        refine a_inc2 fU_howManyLines_20 (by decide) rfl ?_
        refine a_inc3 fU_howManyLines_23 (by decide) rfl ?_
        refine a_goto fU_howManyLines_26 ?_
        rw [nI_1, nI_1]
        exact ih (i + 1) _ h1 T (by omega) (V.frs F1) (C.frs F1) S1 (Fr.trans F1) (by rw [← hT]; simp only [ncn, decide_eq_true c9, if_true])
      · refine a_if_eq fU_howManyLines_17 (fun _ => ?_) (fun c_ => absurd (by rw [bI_f c9]) c_)
        refine a_inc3 fU_howManyLines_23 (by decide) rfl ?_
        refine a_goto fU_howManyLines_26 ?_
        rw [nI_1]
        exact ih (i + 1) _ h1 T (by omega) (V.frs F1) (C.frs F1) S1 (Fr.trans F1) (by rw [← hT]; simp only [ncn, decide_eq_false c9]; rfl)
  refine fE.of (L := [some (.ref 54), some (.ref 12), none, none]) (by decide +kernel) (Nat.le_of_ble_eq_true rfl) rfl ?_
  refine a_ic fU_howManyLines_0 ?_
  refine a_is2 fU_howManyLines_1 (by decide) rfl ?_
  refine a_ic fU_howManyLines_2 ?_
  refine a_is3 fU_howManyLines_3 (by decide) rfl ?_
  exact loop 10000 0 0 h _ rfl V C S frs.rf rfl
theorem c_lineAt {p : Nat} (V : hv h N) (C : cv h N) (S : sS h) (O : okC N) (OT : okT N) (hp : p < 2 ^ 31) : fE M_U_lineAt E [.ref 54, .ref 12, .int (nI p)] n h (qI (fun r k g => r = o5 (lat (fun m => decide (ftP N m)) p 10000 0 0) ∧ k = n ∧ sS g ∧ frs h g)) := by
  have loop : ∀ (j i c0 : Nat) (g : hT) (T : Option Nat), i + j = 10000 → c0 ≤ i → hv g N → cv g N → sS g → frs h g → lat (fun m => decide (ftP N m)) p j i c0 = T → fA M_U_lineAt E (fZ M_U_lineAt E (qI (fun r k g => r = o5 T ∧ k = n ∧ sS g ∧ frs h g))) n g 0 0 5 [some (.ref 54), some (.ref 12), some (.int (nI p)), some (.int (nI c0)), some (.int (nI i))] [] := by
    intro j
    induction j with
    | zero =>
      intro i c0 g T hi hc V C S Fr hT
      obtain rfl : i = 10000 := by omega
      refine a_il4 fU_lineAt_5 ?_
      refine a_ic fU_lineAt_7 ?_
      refine a_ic_ge fU_lineAt_10 (fun _ => ?_) (fun c_ => absurd (Int32.le_refl _) c_)
      refine a_ic fU_lineAt_40 ?_
      exact a_ri fU_lineAt_42 rfl (⟨_, rfl, by rw [← hT]; rfl, rfl, S, Fr⟩)
    | succ j ih =>
      intro i c0 g T hi hc V C S Fr hT
      refine a_il4 fU_lineAt_5 ?_
      refine a_ic fU_lineAt_7 ?_
      refine a_ic_ge fU_lineAt_10 (fun c_ => absurd c_ (nI_ge (b := 10000) (by omega) (by decide))) (fun _ => ?_)
      refine a_al0 fU_lineAt_13 ?_
      refine a_al1 fU_lineAt_14 ?_
      refine a_il4 fU_lineAt_15 ?_
      refine a_V2I fU_lineAt_17 k_U_18 m_U_fitsTraces ⟨by decide, by decide⟩ S.1 rfl ⟨rfl, rfl⟩ (Nat.le_of_ble_eq_true rfl) (c_fits V C S O OT (m := i) (by omega)) (fun r1 n1 h1 p1 => ?_)
      obtain ⟨rfl, hn1, S1, F1⟩ := p1
      subst n1
      by_cases c9 : ftP N i
      · refine a_if_eq fU_lineAt_20 (fun c_ => absurd c_ (fun z => by rw [bI_t c9] at z; exact absurd z (by decide))) (fun _ => ?_)
        by_cases c8 : c0 = p
        · refine a_il3 fU_lineAt_23 ?_
          refine a_il2 fU_lineAt_24 ?_
          refine a_ic_ne fU_lineAt_25 (fun c_ => absurd (congrArg nI c8) c_) (fun _ => ?_)
          refine a_il4 fU_lineAt_28 ?_
          exact a_ri fU_lineAt_30 rfl (⟨_, rfl, by rw [← hT]; simp only [lat, decide_eq_true c9, if_true]; rw [if_pos c8]; rfl, rfl, S1, Fr.trans F1⟩)
        · refine a_il3 fU_lineAt_23 ?_
          refine a_il2 fU_lineAt_24 ?_
          refine a_ic_ne fU_lineAt_25 (fun _ => ?_) (fun c_ => absurd c_ (fun z => c8 ((nI_eq (by omega) (by omega)).mp z)))
          refine a_inc3 fU_lineAt_31 (by decide) rfl ?_
          refine a_inc4 fU_lineAt_34 (by decide) rfl ?_
          refine a_goto fU_lineAt_37 ?_
          rw [nI_1, nI_1]
          exact ih (i + 1) _ h1 T (by omega) (by omega) (V.frs F1) (C.frs F1) S1 (Fr.trans F1) (by rw [← hT]; simp only [lat, decide_eq_true c9, if_true]; rw [if_neg c8])
      · refine a_if_eq fU_lineAt_20 (fun _ => ?_) (fun c_ => absurd (by rw [bI_f c9]) c_)
        refine a_inc4 fU_lineAt_34 (by decide) rfl ?_
        refine a_goto fU_lineAt_37 ?_
        rw [nI_1]
        exact ih (i + 1) _ h1 T (by omega) (by omega) (V.frs F1) (C.frs F1) S1 (Fr.trans F1) (by rw [← hT]; simp only [lat, decide_eq_false c9]; rfl)
  refine fE.of (L := [some (.ref 54), some (.ref 12), some (.int (nI p)), none, none]) (by decide +kernel) (Nat.le_of_ble_eq_true rfl) rfl ?_
  refine a_ic fU_lineAt_0 ?_
  refine a_is3 fU_lineAt_1 (by decide) rfl ?_
  refine a_ic fU_lineAt_2 ?_
  refine a_is4 fU_lineAt_3 (by decide) rfl ?_
  exact loop 10000 0 0 h _ rfl (Nat.le_refl _) V C S frs.rf rfl
theorem c_mostAlike {ks k d : Nat} (hks : ks < 64) (hk : k < 4) (hd : d < 14) : fE M_U_mostAlike E [.ref 54, .int (nI ks), .int (nI k), .int (nI d)] n h (eV (.int (nI (mal ks k d))) n h) := by
  have inner : ∀ (j b a mo c0 A : Nat) (x8 : Option Value), b + j = 6 → a < 6 → ncn (fun b => decide (ks / 2 ^ a % 2 = 1 ∧ ks / 2 ^ b % 2 = 1 ∧ wr a k d = wr b k d)) j b c0 = A → (∀ y8 : Option Value, fA M_U_mostAlike E (fZ M_U_mostAlike E (eV (.int (nI (mal ks k d))) n h)) n h 0 0 82 [some (.ref 54), some (.int (nI ks)), some (.int (nI k)), some (.int (nI d)), some (.int (nI mo)), some (.int (nI a)), some (.int (nI A)), some (.int (nI 6)), y8] []) → fA M_U_mostAlike E (fZ M_U_mostAlike E (eV (.int (nI (mal ks k d))) n h)) n h 0 0 18 [some (.ref 54), some (.int (nI ks)), some (.int (nI k)), some (.int (nI d)), some (.int (nI mo)), some (.int (nI a)), some (.int (nI c0)), some (.int (nI b)), x8] [] := by
    intro j
    induction j with
    | zero =>
      intro b a mo c0 A x8 hb ha hA kk
      obtain rfl : b = 6 := by omega
      refine a_il7 fU_mostAlike_18 ?_
      refine a_ic fU_mostAlike_20 ?_
      refine a_ic_gt fU_mostAlike_21 (fun _ => ?_) (fun c_ => absurd (by decide) c_)
      have e : c0 = A := hA
      rw [e]
      exact kk _
    | succ j ih =>
      intro b a mo c0 A x8 hb ha hA kk
      refine a_il7 fU_mostAlike_18 ?_
      refine a_ic fU_mostAlike_20 ?_
      refine a_ic_gt fU_mostAlike_21 (fun c_ => absurd c_ (fun z => absurd ((nI_ltI (a := 5) (by decide) (by omega)).mp z) (by omega))) (fun _ => ?_)
      have skip : ∀ y8 : Option Value, ¬ (ks / 2 ^ a % 2 = 1 ∧ ks / 2 ^ b % 2 = 1 ∧ wr a k d = wr b k d) → fA M_U_mostAlike E (fZ M_U_mostAlike E (eV (.int (nI (mal ks k d))) n h)) n h 0 0 76 [some (.ref 54), some (.int (nI ks)), some (.int (nI k)), some (.int (nI d)), some (.int (nI mo)), some (.int (nI a)), some (.int (nI c0)), some (.int (nI b)), y8] [] := by
        intro y8 hc
        refine a_inc7 fU_mostAlike_76 (by decide) rfl ?_
        refine a_goto fU_mostAlike_79 ?_
        rw [nI_1]
        exact ih (b + 1) a mo c0 A _ (by omega) ha (by rw [← hA]; simp only [ncn]; rw [if_neg (fun z => hc (of_decide_eq_true z))]) kk
      have none0 : ¬ (ks / 2 ^ a % 2 = 1 ∧ ks / 2 ^ b % 2 = 1) → fA M_U_mostAlike E (fZ M_U_mostAlike E (eV (.int (nI (mal ks k d))) n h)) n h 0 0 48 [some (.ref 54), some (.int (nI ks)), some (.int (nI k)), some (.int (nI d)), some (.int (nI mo)), some (.int (nI a)), some (.int (nI c0)), some (.int (nI b)), x8] [] := by
        intro hc
        refine a_ic fU_mostAlike_48 ?_
        refine a_is8 fU_mostAlike_49 (by decide) rfl ?_
        refine a_il8 fU_mostAlike_51 ?_
        refine a_if_eq fU_mostAlike_53 (fun _ => ?_) (fun c_ => absurd (rfl) c_)
        exact skip _ (fun z => hc ⟨z.1, z.2.1⟩)
      refine a_il1 fU_mostAlike_24 ?_
      refine a_il5 fU_mostAlike_25 ?_
      refine a_ishr fU_mostAlike_27 ?_
      refine a_ic fU_mostAlike_28 ?_
      refine a_iand fU_mostAlike_29 ?_
      rw [nbit ks a hks (by omega)]
      by_cases c1 : ks / 2 ^ a % 2 = 1
      · refine a_ic fU_mostAlike_30 ?_
        refine a_ic_ne fU_mostAlike_31 (fun c_ => absurd (congrArg nI c1) c_) (fun _ => ?_)
        refine a_il1 fU_mostAlike_34 ?_
        refine a_il7 fU_mostAlike_35 ?_
        refine a_ishr fU_mostAlike_37 ?_
        refine a_ic fU_mostAlike_38 ?_
        refine a_iand fU_mostAlike_39 ?_
        rw [nbit ks b hks (by omega)]
        by_cases c2 : ks / 2 ^ b % 2 = 1
        · refine a_ic fU_mostAlike_40 ?_
          refine a_ic_ne fU_mostAlike_41 (fun c_ => absurd (congrArg nI c2) c_) (fun _ => ?_)
          refine a_ic fU_mostAlike_44 ?_
          refine a_goto fU_mostAlike_45 ?_
          refine a_is8 fU_mostAlike_49 (by decide) rfl ?_
          refine a_il8 fU_mostAlike_51 ?_
          refine a_if_eq fU_mostAlike_53 (fun c_ => absurd c_ (by decide)) (fun _ => ?_)
          refine a_il5 fU_mostAlike_56 ?_
          refine a_il2 fU_mostAlike_58 ?_
          refine a_il3 fU_mostAlike_59 ?_
          refine a_S3V fU_mostAlike_60 k_U_67 m_I_wear ⟨by decide, by decide⟩ ⟨rfl, rfl⟩ (Nat.le_of_ble_eq_true rfl) (c_wear (K := a) (k := k) (D := d) (by omega) (by omega) (by omega)) ?_
          refine a_il7 fU_mostAlike_63 ?_
          refine a_il2 fU_mostAlike_65 ?_
          refine a_il3 fU_mostAlike_66 ?_
          refine a_S3V fU_mostAlike_67 k_U_67 m_I_wear ⟨by decide, by decide⟩ ⟨rfl, rfl⟩ (Nat.le_of_ble_eq_true rfl) (c_wear (K := b) (k := k) (D := d) (by omega) (by omega) (by omega)) ?_
          have w1 := wr_le (K := a) (D := d) (k := k) (by omega)
          have w2 := wr_le (K := b) (D := d) (k := k) (by omega)
          by_cases c3 : wr a k d = wr b k d
          · refine a_ic_ne fU_mostAlike_70 (fun c_ => absurd (congrArg nI c3) c_) (fun _ => ?_)
            refine a_inc6 fU_mostAlike_73 (by decide) rfl ?_
            refine a_inc7 fU_mostAlike_76 (by decide) rfl ?_
            refine a_goto fU_mostAlike_79 ?_
            rw [nI_1, nI_1]
            exact ih (b + 1) a mo (c0 + 1) A _ (by omega) ha (by rw [← hA]; simp only [ncn]; rw [if_pos (decide_eq_true ⟨c1, c2, c3⟩)]) kk
          · refine a_ic_ne fU_mostAlike_70 (fun _ => ?_) (fun c_ => absurd c_ (fun z => c3 ((nI_eq (by omega) (by omega)).mp z)))
            exact skip _ (fun z => c3 z.2.2)
        · refine a_ic fU_mostAlike_40 ?_
          refine a_ic_ne fU_mostAlike_41 (fun _ => ?_) (fun c_ => absurd c_ (fun z => c2 ((nI_eq (b := 1) (by omega) (by decide)).mp z)))
          exact none0 (fun z => c2 z.2)
      · refine a_ic fU_mostAlike_30 ?_
        refine a_ic_ne fU_mostAlike_31 (fun _ => ?_) (fun c_ => absurd c_ (fun z => c1 ((nI_eq (b := 1) (by omega) (by decide)).mp z)))
        exact none0 (fun z => c1 z.1)
  have outer : ∀ (j a mo : Nat) (x6 x7 x8 : Option Value), a + j = 6 → mo ≤ 6 → maxL (alk ks k d) j a mo = mal ks k d → fA M_U_mostAlike E (fZ M_U_mostAlike E (eV (.int (nI (mal ks k d))) n h)) n h 0 0 6 [some (.ref 54), some (.int (nI ks)), some (.int (nI k)), some (.int (nI d)), some (.int (nI mo)), some (.int (nI a)), x6, x7, x8] [] := by
    intro j
    induction j with
    | zero =>
      intro a mo x6 x7 x8 ha hm hT
      obtain rfl : a = 6 := by omega
      refine a_il5 fU_mostAlike_6 ?_
      refine a_ic fU_mostAlike_8 ?_
      refine a_ic_gt fU_mostAlike_9 (fun _ => ?_) (fun c_ => absurd (by decide) c_)
      refine a_il4 fU_mostAlike_97 ?_
      exact a_ri fU_mostAlike_99 rfl (⟨sv (by rw [← hT]; rfl), rfl, rfl⟩)
    | succ j ih =>
      intro a mo x6 x7 x8 ha hm hT
      refine a_il5 fU_mostAlike_6 ?_
      refine a_ic fU_mostAlike_8 ?_
      refine a_ic_gt fU_mostAlike_9 (fun c_ => absurd c_ (fun z => absurd ((nI_ltI (a := 5) (by decide) (by omega)).mp z) (by omega))) (fun _ => ?_)
      refine a_ic fU_mostAlike_12 ?_
      refine a_is6 fU_mostAlike_13 (by decide) rfl ?_
      refine a_ic fU_mostAlike_15 ?_
      refine a_is7 fU_mostAlike_16 (by decide) rfl ?_
      refine inner 6 0 a mo 0 (alk ks k d a) _ rfl (by omega) rfl (fun y8 => ?_)
      have al := @alk_le ks k d a
      refine a_il4 fU_mostAlike_82 ?_
      refine a_il6 fU_mostAlike_84 ?_
      refine a_mmax fU_mostAlike_86 k_U_76 w_maxS w_Math w_maxC (by decide) (Nat.le_of_ble_eq_true rfl) ?_
      have e : (if nI mo < nI (alk ks k d a) then nI (alk ks k d a) else nI mo) = nI (if mo < alk ks k d a then alk ks k d a else mo) := by
        by_cases c : mo < alk ks k d a
        · rw [if_pos c, if_pos (nI_lt c (by omega))]
        · rw [if_neg c, if_neg (fun z => c ((nI_ltI (by omega) (by omega)).mp z))]
      rw [e]
      refine a_is4 fU_mostAlike_89 (by decide) rfl ?_
      refine a_inc5 fU_mostAlike_91 (by decide) rfl ?_
      refine a_goto fU_mostAlike_94 ?_
      rw [nI_1]
      exact ih (a + 1) _ _ _ _ (by omega) (by split <;> omega) hT
  refine fE.of (L := [some (.ref 54), some (.int (nI ks)), some (.int (nI k)), some (.int (nI d)), none, none, none, none, none]) (by decide +kernel) (Nat.le_of_ble_eq_true rfl) rfl ?_
  refine a_ic fU_mostAlike_0 ?_
  refine a_is4 fU_mostAlike_1 (by decide) rfl ?_
  refine a_ic fU_mostAlike_3 ?_
  refine a_is5 fU_mostAlike_4 (by decide) rfl ?_
  exact outer 6 0 0 none none none rfl (by omega) rfl
theorem c_nextLook {ks : Nat} (k4 : h 54 = uO) (hks : ks < 64) : fE M_U_nextLook E [.ref 54, .int (nI ks)] n h (eV (.int (bsF (if ks = 0 then none else nlK (mal ks) 4 0 none))) n h) := by
  have ml : ∀ k d, mal ks k d ≤ 6 := fun k d => maxL_le (fun _ => alk_le) _ _ _ (by decide)
  let sc : Option (Nat × Nat) → Int32 := fun s => match s with | none => 0 | some q => nI q.2
  have inner : ∀ (j d k : Nat) (s T : Option (Nat × Nat)) (x6 : Option Value), d + j = 14 → k < 4 → (∀ q, s = some q → q.1 < 1000 ∧ q.2 ≤ 6) → nlD (mal ks) k j d s = T → (∀ (y6 : Option Value), (∀ q, T = some q → q.1 < 1000 ∧ q.2 ≤ 6) → fA M_U_nextLook E (fZ M_U_nextLook E (eV (.int (bsF (nlK (mal ks) 4 0 none))) n h)) n h 0 0 69 [some (.ref 54), some (.int (nI ks)), some (.int (bsF T)), some (.int (sc T)), some (.int (nI k)), some (.int (nI 14)), y6] []) → fA M_U_nextLook E (fZ M_U_nextLook E (eV (.int (bsF (nlK (mal ks) 4 0 none))) n h)) n h 0 0 22 [some (.ref 54), some (.int (nI ks)), some (.int (bsF s)), some (.int (sc s)), some (.int (nI k)), some (.int (nI d)), x6] [] := by
    intro j
    induction j with
    | zero =>
      intro d k s T x6 hd hk hs hT kk
      obtain rfl : d = 14 := by omega
      refine a_il5 fU_nextLook_22 ?_
      refine a_ic fU_nextLook_24 ?_
      refine a_ic_ge fU_nextLook_26 (fun _ => ?_) (fun c_ => absurd (Int32.le_refl _) c_)
      have e : s = T := hT
      subst e
      exact kk _ hs
    | succ j ih =>
      intro d k s T x6 hd hk hs hT kk
      refine a_il5 fU_nextLook_22 ?_
      refine a_ic fU_nextLook_24 ?_
      refine a_ic_ge fU_nextLook_26 (fun c_ => absurd c_ (nI_ge (b := 14) (by omega) (by decide))) (fun _ => ?_)
      refine a_al0 fU_nextLook_29 ?_
      refine a_il1 fU_nextLook_30 ?_
      refine a_il4 fU_nextLook_31 ?_
      refine a_il5 fU_nextLook_33 ?_
      refine a_V3V fU_nextLook_35 k_U_73 m_U_mostAlike ⟨by decide, by decide⟩ k4 rfl ⟨rfl, rfl⟩ (Nat.le_of_ble_eq_true rfl) (c_mostAlike hks hk (d := d) (by omega)) ?_
      refine a_is6 fU_nextLook_38 (by decide) rfl ?_
      have m6 := ml k d
      have tk : nlb (mal ks) k s d = true → fA M_U_nextLook E (fZ M_U_nextLook E (eV (.int (bsF (nlK (mal ks) 4 0 none))) n h)) n h 0 0 51 [some (.ref 54), some (.int (nI ks)), some (.int (bsF s)), some (.int (sc s)), some (.int (nI k)), some (.int (nI d)), some (.int (nI (mal ks k d)))] [] := by
        intro hb
        refine a_il6 fU_nextLook_51 ?_
        refine a_is3 fU_nextLook_53 (by decide) rfl ?_
        refine a_ic fU_nextLook_54 ?_
        refine a_il4 fU_nextLook_56 ?_
        refine a_imul fU_nextLook_58 ?_
        refine a_il5 fU_nextLook_59 ?_
        refine a_iadd fU_nextLook_61 ?_
        rw [show (100 : Int32) * nI k = nI (100 * k) from pk_mul 100 k, nI_add]
        refine a_is2 fU_nextLook_62 (by decide) rfl ?_
        refine a_inc5 fU_nextLook_63 (by decide) rfl ?_
        refine a_goto fU_nextLook_66 ?_
        rw [nI_1]
        exact ih (d + 1) k (some (100 * k + d, mal ks k d)) T _ (by omega) hk (fun q hq => by cases hq; exact ⟨by simp only; omega, m6⟩) (by rw [← hT]; simp only [nlD]; rw [if_pos hb]) kk
      cases s with
      | none =>
        refine a_il2 fU_nextLook_40 ?_
        refine a_ic fU_nextLook_41 ?_
        refine a_ic_eq fU_nextLook_42 (fun _ => ?_) (fun c_ => absurd (rfl) c_)
        exact tk rfl
      | some q =>
        obtain ⟨q1, q2⟩ := hs q rfl
        refine a_il2 fU_nextLook_40 ?_
        refine a_ic fU_nextLook_41 ?_
        refine a_ic_eq fU_nextLook_42 (fun c_ => absurd c_ (nI_nm1 (by omega))) (fun _ => ?_)
        by_cases c : mal ks k d < q.2
        · refine a_il6 fU_nextLook_45 ?_
          refine a_il3 fU_nextLook_47 ?_
          refine a_ic_ge fU_nextLook_48 (fun c_ => absurd c_ (fun z => absurd ((nI_leI (by omega) (by omega)).mp z) (by omega))) (fun _ => ?_)
          exact tk (decide_eq_true c)
        · refine a_il6 fU_nextLook_45 ?_
          refine a_il3 fU_nextLook_47 ?_
          refine a_ic_ge fU_nextLook_48 (fun _ => ?_) (fun c_ => absurd (nI_le (by omega) (by omega)) c_)
          refine a_inc5 fU_nextLook_63 (by decide) rfl ?_
          refine a_goto fU_nextLook_66 ?_
          rw [nI_1]
          exact ih (d + 1) k (some q) T _ (by omega) hk hs (by rw [← hT]; simp only [nlD]; rw [if_neg (show ¬ nlb (mal ks) k (some q) d = true from fun z => c (of_decide_eq_true z))]) kk
  have outer : ∀ (j k : Nat) (s : Option (Nat × Nat)) (x5 x6 : Option Value), k + j = 4 → (∀ q, s = some q → q.1 < 1000 ∧ q.2 ≤ 6) → nlK (mal ks) j k s = nlK (mal ks) 4 0 none → fA M_U_nextLook E (fZ M_U_nextLook E (eV (.int (bsF (nlK (mal ks) 4 0 none))) n h)) n h 0 0 13 [some (.ref 54), some (.int (nI ks)), some (.int (bsF s)), some (.int (sc s)), some (.int (nI k)), x5, x6] [] := by
    intro j
    induction j with
    | zero =>
      intro k s x5 x6 hk hs hT
      obtain rfl : k = 4 := by omega
      refine a_il4 fU_nextLook_13 ?_
      refine a_ic fU_nextLook_15 ?_
      refine a_ic_ge fU_nextLook_16 (fun _ => ?_) (fun c_ => absurd (Int32.le_refl _) c_)
      refine a_il2 fU_nextLook_75 ?_
      exact a_ri fU_nextLook_76 rfl (⟨sv (by rw [← hT]; rfl), rfl, rfl⟩)
    | succ j ih =>
      intro k s x5 x6 hk hs hT
      refine a_il4 fU_nextLook_13 ?_
      refine a_ic fU_nextLook_15 ?_
      refine a_ic_ge fU_nextLook_16 (fun c_ => absurd c_ (nI_ge (b := 4) (by omega) (by decide))) (fun _ => ?_)
      refine a_ic fU_nextLook_19 ?_
      refine a_is5 fU_nextLook_20 (by decide) rfl ?_
      refine inner 14 0 k s _ _ rfl (by omega) hs rfl (fun y6 hs2 => ?_)
      refine a_inc4 fU_nextLook_69 (by decide) rfl ?_
      refine a_goto fU_nextLook_72 ?_
      rw [nI_1]
      exact ih (k + 1) _ _ _ (by omega) hs2 hT
  refine fE.of (L := [some (.ref 54), some (.int (nI ks)), none, none, none, none, none]) (by decide +kernel) (Nat.le_of_ble_eq_true rfl) rfl ?_
  by_cases c : ks = 0
  · rw [if_pos c]
    refine a_il1 fU_nextLook_0 ?_
    refine a_if_ne fU_nextLook_1 (fun c_ => absurd (by rw [c]; rfl) c_) (fun _ => ?_)
    refine a_ic fU_nextLook_4 ?_
    exact a_ri fU_nextLook_5 rfl (⟨rfl, rfl, rfl⟩)
  · rw [if_neg c]
    refine a_il1 fU_nextLook_0 ?_
    refine a_if_ne fU_nextLook_1 (fun _ => ?_) (fun c_ => absurd c_ (fun z => c ((nI_eq (b := 0) (by omega) (by decide)).mp z)))
    refine a_ic fU_nextLook_6 ?_
    refine a_is2 fU_nextLook_7 (by decide) rfl ?_
    refine a_ic fU_nextLook_8 ?_
    refine a_is3 fU_nextLook_9 (by decide) rfl ?_
    refine a_ic fU_nextLook_10 ?_
    refine a_is4 fU_nextLook_11 (by decide) rfl ?_
    exact outer 4 0 none none none rfl (fun q hq => by cases hq) rfl
end SL
