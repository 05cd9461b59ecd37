/-! THE REFERENCE: places 63 (itself), 64 now, 65 draft, 66 kept, 67 isKept, 68 text, 69 refused, 70 worn, 71 signs -/
abbrev mT : Type := Int32 × Int32 × Int32 × Int32 × Int32 × Int64 × Int64
abbrev mO (c : mT) (th mn : Int32) : cT := .inr (10, [.int th, .ref 64, .ref 65, .ref 66, .ref 67, .ref 68, .int c.1, .int c.2.1, .int c.2.2.1, .int c.2.2.2.1, .int c.2.2.2.2.1, .ref 69, .long c.2.2.2.2.2.1, .long c.2.2.2.2.2.2, .ref 70, .ref 71, .int mn])
def z9 (N : Nat → Nat) : Prop := ∀ i, 189 ≤ i → N i = 0
/-- only the line has changed -/
def mL (h g : hT) : Prop := ∀ a, a ≠ 63 → a ≠ 71 → g a = h a
/-- only the line and the row aside have changed -/
def mF (h g : hT) : Prop := ∀ a, a ≠ 63 → a ≠ 70 → a ≠ 71 → g a = h a
def mM (c : mT) (g : hT) : Prop := (∃ th mn, g 63 = mO c th mn) ∧ ∃ f, g 71 = ia 4 f
theorem mL.rf {h : hT} : mL h h := fun _ _ _ => rfl
theorem mF.rf {h : hT} : mF h h := fun _ _ _ _ => rfl
theorem mL.trans {a b c : hT} (x : mL a b) (z : mL b c) : mL a c := fun i h1 h2 => (z i h1 h2).trans (x i h1 h2)
theorem mF.trans {a b c : hT} (x : mF a b) (z : mF b c) : mF a c := fun i h1 h2 h3 => (z i h1 h2 h3).trans (x i h1 h2 h3)
theorem mL.f {a b : hT} (x : mL a b) : mF a b := fun i h1 _ h3 => x i h1 h3
theorem upd_c {F F2 : Nat → Nat} {i v : Nat} {x : Int32} (hx : x = nI v) (e : ∀ j, F2 j = if j = i then v else F j) : upd (nF F) i x = nF F2 := by
  subst hx
  rw [upd_nF]
  congr 1
  funext j
  rw [e j]
  rfl
theorem fA.ud {y : mI} {E : eT} {Z : zT} {k : Nat} {h : hT} {nc ns pc : Nat} {L : lT} {st : List Value} {a m i v : Nat} {F F2 : Nat → Nat} {x : Int32} (hx : x = nI v) (e : ∀ j, F2 j = if j = i then v else F j) (kk : fA y E Z k (va_up h a (nA m F2)) nc ns pc L st) : fA y E Z k (va_up h a (ia m (upd (nF F) i x))) nc ns pc L st := by
  rw [upd_c hx e]
  exact kk
def rfI (w : Nat) : Int32 := if w = 0 then -2 else if w = 1 then -3 else -4
section M1
variable {E : eT} {n : Nat} {h : hT} {c : mT} {th mn : Int32} {N : Nat → Nat}
theorem c_Min {a b c9 : Int32} : fE M_M_in E [.int a, .int b, .int c9] n h (eV (.int (bI (b ≤ a ∧ a ≤ c9))) n h) := by
  refine fE.of (L := [some (.int a), some (.int b), some (.int c9)]) (by decide +kernel) (Nat.le_of_ble_eq_true rfl) rfl ?_
  refine a_il0 fM_in_0 ?_
  refine a_il1 fM_in_1 ?_
  refine a_ic_lt fM_in_2 (fun c => ?_) (fun c => ?_)
  · refine a_ic fM_in_14 ?_
    exact a_rz fM_in_15 rfl (by first | rfl | (split <;> rfl)) (⟨sv (by rw [bI_f (fun z => absurd z.1 (Int32.not_le.mpr c))]), rfl, rfl⟩)
  · have c1 := Int32.not_lt.mp c
    refine a_il0 fM_in_5 ?_
    refine a_il2 fM_in_6 ?_
    refine a_ic_gt fM_in_7 (fun c => ?_) (fun c => ?_)
    · refine a_ic fM_in_14 ?_
      exact a_rz fM_in_15 rfl (by first | rfl | (split <;> rfl)) (⟨sv (by rw [bI_f (fun z => absurd z.2 (Int32.not_le.mpr c))]), rfl, rfl⟩)
    · refine a_ic fM_in_10 ?_
      refine a_goto fM_in_11 ?_
      exact a_rz fM_in_15 rfl (by first | rfl | (split <;> rfl)) (⟨sv (by rw [bI_t ⟨c1, Int32.not_lt.mp c⟩]), rfl, rfl⟩)
theorem c_Mrefuses {w : Nat} {R : Nat → Nat} (m0 : h 63 = mO c th mn) (m6 : h 69 = nA 3 R) (hw : w < 3) : fE M_M_refuses E [.ref 63, .int (nI w)] n h (eV (.int (rfI w)) n (va_up h 69 (nA 3 (va_up R w (R w + 1))))) := by
  refine fE.of (L := [some (.ref 63), some (.int (nI w))]) (by decide +kernel) (Nat.le_of_ble_eq_true rfl) rfl ?_
  refine a_al0 fM_refuses_0 ?_
  refine a_gf fM_refuses_1 l_M_26 m0 rfl ?_
  refine a_il1 fM_refuses_4 ?_
  refine a_dup2 fM_refuses_5 rfl rfl ?_
  refine a_ia fM_refuses_6 m6 rfl (by omega) (by decide) ?_
  refine a_ic fM_refuses_7 ?_
  refine a_iadd fM_refuses_8 ?_
  refine a_it fM_refuses_9 m6 rfl (by omega) (by decide) ?_
  rw [show nF R w + 1 = nI (R w + 1) from nI_1 _, upd_nF]
  match w, hw with
  | 0, _ =>
    refine a_il1 fM_refuses_10 ?_
    refine a_if_ne fM_refuses_11 (fun c_ => absurd (by decide) c_) (fun _ => ?_)
    refine a_ic fM_refuses_14 ?_
    refine a_goto fM_refuses_16 ?_
    exact a_ri fM_refuses_31 rfl (⟨rfl, rfl, rfl⟩)
  | 1, _ =>
    refine a_il1 fM_refuses_10 ?_
    refine a_if_ne fM_refuses_11 (fun _ => ?_) (fun c_ => absurd c_ (by decide))
    refine a_il1 fM_refuses_19 ?_
    refine a_ic fM_refuses_20 ?_
    refine a_ic_ne fM_refuses_21 (fun c_ => absurd (by decide) c_) (fun _ => ?_)
    refine a_ic fM_refuses_24 ?_
    refine a_goto fM_refuses_26 ?_
    exact a_ri fM_refuses_31 rfl (⟨rfl, rfl, rfl⟩)
  | 2, _ =>
    refine a_il1 fM_refuses_10 ?_
    refine a_if_ne fM_refuses_11 (fun _ => ?_) (fun c_ => absurd c_ (by decide))
    refine a_il1 fM_refuses_19 ?_
    refine a_ic fM_refuses_20 ?_
    refine a_ic_ne fM_refuses_21 (fun _ => ?_) (fun c_ => absurd c_ (by decide))
    refine a_ic fM_refuses_29 ?_
    exact a_ri fM_refuses_31 rfl (⟨rfl, rfl, rfl⟩)
theorem c_MrefusesAs {v : Int32} {R : Nat → Nat} (m0 : h 63 = mO c th mn) (m6 : h 69 = nA 3 R) : fE M_M_refusesAs E [.ref 63, .int v] n h (eV (.int v) n (va_up h 69 (nA 3 (va_up R 0 (R 0 + 1))))) := by
  refine fE.of (L := [some (.ref 63), some (.int v)]) (by decide +kernel) (Nat.le_of_ble_eq_true rfl) rfl ?_
  refine a_al0 fM_refusesAs_0 ?_
  refine a_gf fM_refusesAs_1 l_M_26 m0 rfl ?_
  refine a_ic fM_refusesAs_4 ?_
  refine a_dup2 fM_refusesAs_5 rfl rfl ?_
  refine a_ia fM_refusesAs_6 m6 (show (0 : Int32) = nI 0 from rfl) (by decide) (by decide) ?_
  refine a_ic fM_refusesAs_7 ?_
  refine a_iadd fM_refusesAs_8 ?_
  refine a_it fM_refusesAs_9 m6 (show (0 : Int32) = nI 0 from rfl) (by decide) (by decide) ?_
  rw [show nF R 0 + 1 = nI (R 0 + 1) from nI_1 _, upd_nF]
  refine a_il1 fM_refusesAs_10 ?_
  exact a_ri fM_refusesAs_11 rfl (⟨rfl, rfl, rfl⟩)
theorem c_Mbegins {a : Nat} {A : Nat → Nat} (ha : h a = nA 189 A) (z : z9 A) : fE M_M_begins E [.ref a] n h (eN n (va_up h a (nA 189 N0))) := by
  have l2 : ∀ (j i : Nat), i + j = 10 → fA M_M_begins E (fZ M_M_begins E (eN n (va_up h a (nA 189 N0)))) n (va_up h a (nA 189 (fun x => if 10 ≤ x ∧ x < 10 + i then 20 else 0))) 0 0 21 [some (.ref a), some (.int (nI i))] [] := by
    intro j
    induction j with
    | zero =>
      intro i hi
      obtain rfl : i = 10 := by omega
      refine a_il1 fM_begins_21 ?_
      refine a_ic fM_begins_22 ?_
      refine a_ic_ge fM_begins_24 (fun _ => ?_) (fun c_ => absurd (Int32.le_refl _) c_)
      exact a_rv fM_begins_41 rfl (⟨rfl, rfl, rfl⟩)
    | succ j ih =>
      intro i hi
      refine a_il1 fM_begins_21 ?_
      refine a_ic fM_begins_22 ?_
      refine a_ic_ge fM_begins_24 (fun c_ => absurd c_ (nI_ge (b := 10) (by omega) (by decide))) (fun _ => ?_)
      refine a_al0 fM_begins_27 ?_
      refine a_ic fM_begins_28 ?_
      refine a_il1 fM_begins_30 ?_
      refine a_iadd fM_begins_31 ?_
      refine a_ic fM_begins_32 ?_
      refine a_it fM_begins_34 up_s (nI_add 10 _) (by omega) (by decide) ?_
      refine a_inc1 fM_begins_35 (by decide) rfl ?_
      refine a_goto fM_begins_38 ?_
      rw [bx_uu, nI_1]
      refine fA.ud (v := 20) (F2 := fun x => if 10 ≤ x ∧ x < 10 + (i + 1) then 20 else 0) rfl (fun j => by grind) ?_
      exact ih (i + 1) (by omega)
  have l1 : ∀ (j i : Nat), i + j = 189 → fA M_M_begins E (fZ M_M_begins E (eN n (va_up h a (nA 189 N0)))) n (va_up h a (nA 189 (fun x => if x < i then 0 else A x))) 0 0 2 [some (.ref a), some (.int (nI i))] [] := by
    intro j
    induction j with
    | zero =>
      intro i hi
      obtain rfl : i = 189 := by omega
      refine a_il1 fM_begins_2 ?_
      refine a_ic fM_begins_3 ?_
      refine a_ic_ge fM_begins_6 (fun _ => ?_) (fun c_ => absurd (Int32.le_refl _) c_)
      refine a_ic fM_begins_19 ?_
      refine a_is1 fM_begins_20 (by decide) rfl ?_
      rw [show (fun x => if x < 189 then 0 else A x) = (fun x => if 10 ≤ x ∧ x < 10 + 0 then 20 else 0) from funext (fun x => by have := z x; grind)]
      exact l2 10 0 rfl
    | succ j ih =>
      intro i hi
      refine a_il1 fM_begins_2 ?_
      refine a_ic fM_begins_3 ?_
      refine a_ic_ge fM_begins_6 (fun c_ => absurd c_ (nI_ge (b := 189) (by omega) (by decide))) (fun _ => ?_)
      refine a_al0 fM_begins_9 ?_
      refine a_il1 fM_begins_10 ?_
      refine a_ic fM_begins_11 ?_
      refine a_it fM_begins_12 up_s rfl (by omega) (by decide) ?_
      refine a_inc1 fM_begins_13 (by decide) rfl ?_
      refine a_goto fM_begins_16 ?_
      rw [bx_uu, nI_1]
      refine fA.ud (v := 0) (F2 := fun x => if x < i + 1 then 0 else A x) rfl (fun j => by grind) ?_
      exact ih (i + 1) (by omega)
  refine fE.of (L := [some (.ref a), none]) (by decide +kernel) (Nat.le_of_ble_eq_true rfl) rfl ?_
  refine a_ic fM_begins_0 ?_
  refine a_is1 fM_begins_1 (by decide) rfl ?_
  have := l1 189 0 (by omega)
  rw [show (fun x => if x < 0 then 0 else A x) = A from funext (fun x => by simp), up_id ha] at this
  exact this
theorem c_MwearOf {K k D : Nat} (hK : K ≤ 5) (hk : k < 2 ^ 30) (hD : D < 2 ^ 31) : fE M_M_wearOf E [.int (nI K), .int (nI k), .int (nI D)] n h (eV (.int (nI (wr K k D))) n h) := by
  refine fE.of (L := [some (.int (nI K)), some (.int (nI k)), some (.int (nI D))]) (by decide +kernel) (Nat.le_of_ble_eq_true rfl) rfl ?_
  match K, hK with
  | 0, _ =>
    refine a_il0 fM_wearOf_0 ?_
    refine a_ic fM_wearOf_1 ?_
    refine a_ic_eq fM_wearOf_2 (fun c_ => absurd c_ (by decide)) (fun _ => ?_)
    refine a_il0 fM_wearOf_5 ?_
    refine a_ic fM_wearOf_6 ?_
    refine a_ic_ne fM_wearOf_7 (fun _ => ?_) (fun c_ => absurd c_ (by decide))
    refine a_il0 fM_wearOf_33 ?_
    refine a_ic fM_wearOf_34 ?_
    refine a_ic_eq fM_wearOf_35 (fun c_ => absurd c_ (by decide)) (fun _ => ?_)
    refine a_il0 fM_wearOf_38 ?_
    refine a_ic fM_wearOf_39 ?_
    refine a_ic_ne fM_wearOf_40 (fun _ => ?_) (fun c_ => absurd c_ (by decide))
    refine a_il0 fM_wearOf_61 ?_
    refine a_ic fM_wearOf_62 ?_
    refine a_ic_ne fM_wearOf_63 (fun _ => ?_) (fun c_ => absurd c_ (by decide))
    refine a_ic fM_wearOf_79 ?_
    exact a_ri fM_wearOf_80 rfl (⟨rfl, rfl, rfl⟩)
  | 1, _ =>
    refine a_il0 fM_wearOf_0 ?_
    refine a_ic fM_wearOf_1 ?_
    refine a_ic_eq fM_wearOf_2 (fun _ => ?_) (fun c_ => absurd (by decide) c_)
    refine a_il0 fM_wearOf_10 ?_
    refine a_ic fM_wearOf_11 ?_
    refine a_ic_ne fM_wearOf_12 (fun c_ => absurd (by decide) c_) (fun _ => ?_)
    refine a_ic fM_wearOf_15 ?_
    refine a_il1 fM_wearOf_16 ?_
    refine a_iadd fM_wearOf_17 ?_
    refine a_goto fM_wearOf_18 ?_
    exact a_ri fM_wearOf_32 rfl (⟨sv (nI_add 2 k), rfl, rfl⟩)
  | 2, _ =>
    refine a_il0 fM_wearOf_0 ?_
    refine a_ic fM_wearOf_1 ?_
    refine a_ic_eq fM_wearOf_2 (fun c_ => absurd c_ (by decide)) (fun _ => ?_)
    refine a_il0 fM_wearOf_5 ?_
    refine a_ic fM_wearOf_6 ?_
    refine a_ic_ne fM_wearOf_7 (fun _ => ?_) (fun c_ => absurd c_ (by decide))
    refine a_il0 fM_wearOf_33 ?_
    refine a_ic fM_wearOf_34 ?_
    refine a_ic_eq fM_wearOf_35 (fun _ => ?_) (fun c_ => absurd (by decide) c_)
    refine a_il0 fM_wearOf_43 ?_
    refine a_ic fM_wearOf_44 ?_
    refine a_ic_ne fM_wearOf_45 (fun _ => ?_) (fun c_ => absurd c_ (by decide))
    refine a_ic fM_wearOf_59 ?_
    exact a_ri fM_wearOf_60 rfl (⟨rfl, rfl, rfl⟩)
  | 3, _ =>
    have e7 : nI D - nI D / 7 * 7 = nI (D % 7) := pk_rem (d := 7) hD (by decide) (by decide)
    refine a_il0 fM_wearOf_0 ?_
    refine a_ic fM_wearOf_1 ?_
    refine a_ic_eq fM_wearOf_2 (fun c_ => absurd c_ (by decide)) (fun _ => ?_)
    refine a_il0 fM_wearOf_5 ?_
    refine a_ic fM_wearOf_6 ?_
    refine a_ic_ne fM_wearOf_7 (fun _ => ?_) (fun c_ => absurd c_ (by decide))
    refine a_il0 fM_wearOf_33 ?_
    refine a_ic fM_wearOf_34 ?_
    refine a_ic_eq fM_wearOf_35 (fun c_ => absurd c_ (by decide)) (fun _ => ?_)
    refine a_il0 fM_wearOf_38 ?_
    refine a_ic fM_wearOf_39 ?_
    refine a_ic_ne fM_wearOf_40 (fun _ => ?_) (fun c_ => absurd c_ (by decide))
    refine a_il0 fM_wearOf_61 ?_
    refine a_ic fM_wearOf_62 ?_
    refine a_ic_ne fM_wearOf_63 (fun c_ => absurd (by decide) c_) (fun _ => ?_)
    refine a_il2 fM_wearOf_66 ?_
    refine a_ic fM_wearOf_67 ?_
    refine a_irem fM_wearOf_69 (by decide) ?_
    refine a_ic fM_wearOf_70 ?_
    refine a_ic_ne fM_wearOf_72 (fun c => ?_) (fun c => ?_)
    · have c7 : ¬ D % 7 = 6 := fun z => c (by rw [e7, z]; rfl)
      refine a_ic fM_wearOf_79 ?_
      exact a_ri fM_wearOf_80 rfl (⟨sv (by simp only [wr, if_neg c7]; rfl), rfl, rfl⟩)
    · have c7 : D % 7 = 6 := (nI_eq (b := 6) (by omega) (by decide)).mp (e7.symm.trans c)
      refine a_ic fM_wearOf_75 ?_
      refine a_goto fM_wearOf_76 ?_
      exact a_ri fM_wearOf_80 rfl (⟨sv (by simp only [wr, if_pos c7]; rfl), rfl, rfl⟩)
  | 4, _ =>
    refine a_il0 fM_wearOf_0 ?_
    refine a_ic fM_wearOf_1 ?_
    refine a_ic_eq fM_wearOf_2 (fun c_ => absurd c_ (by decide)) (fun _ => ?_)
    refine a_il0 fM_wearOf_5 ?_
    refine a_ic fM_wearOf_6 ?_
    refine a_ic_ne fM_wearOf_7 (fun c_ => absurd (by decide) c_) (fun _ => ?_)
    refine a_il0 fM_wearOf_10 ?_
    refine a_ic fM_wearOf_11 ?_
    refine a_ic_ne fM_wearOf_12 (fun _ => ?_) (fun c_ => absurd c_ (by decide))
    refine a_il1 fM_wearOf_21 ?_
    refine a_if_ne fM_wearOf_22 (fun c => ?_) (fun c => ?_)
    · have c7 : ¬ k = 0 := fun z => c (by rw [z]; rfl)
      refine a_ic fM_wearOf_29 ?_
      refine a_il1 fM_wearOf_30 ?_
      refine a_iadd fM_wearOf_31 ?_
      exact a_ri fM_wearOf_32 rfl (⟨sv (by simp only [wr, if_neg c7]; exact nI_add 3 k), rfl, rfl⟩)
    · have c7 : k = 0 := (nI_eq (b := 0) (by omega) (by decide)).mp c
      refine a_ic fM_wearOf_25 ?_
      refine a_goto fM_wearOf_26 ?_
      exact a_ri fM_wearOf_32 rfl (⟨sv (by simp only [wr, if_pos c7]; rfl), rfl, rfl⟩)
  | 5, _ =>
    have e7 : nI D - nI D / 2 * 2 = nI (D % 2) := pk_rem (d := 2) hD (by decide) (by decide)
    refine a_il0 fM_wearOf_0 ?_
    refine a_ic fM_wearOf_1 ?_
    refine a_ic_eq fM_wearOf_2 (fun c_ => absurd c_ (by decide)) (fun _ => ?_)
    refine a_il0 fM_wearOf_5 ?_
    refine a_ic fM_wearOf_6 ?_
    refine a_ic_ne fM_wearOf_7 (fun _ => ?_) (fun c_ => absurd c_ (by decide))
    refine a_il0 fM_wearOf_33 ?_
    refine a_ic fM_wearOf_34 ?_
    refine a_ic_eq fM_wearOf_35 (fun c_ => absurd c_ (by decide)) (fun _ => ?_)
    refine a_il0 fM_wearOf_38 ?_
    refine a_ic fM_wearOf_39 ?_
    refine a_ic_ne fM_wearOf_40 (fun c_ => absurd (by decide) c_) (fun _ => ?_)
    refine a_il0 fM_wearOf_43 ?_
    refine a_ic fM_wearOf_44 ?_
    refine a_ic_ne fM_wearOf_45 (fun c_ => absurd (by decide) c_) (fun _ => ?_)
    refine a_il2 fM_wearOf_48 ?_
    refine a_ic fM_wearOf_49 ?_
    refine a_irem fM_wearOf_50 (by decide) ?_
    refine a_ic fM_wearOf_51 ?_
    refine a_ic_ne fM_wearOf_52 (fun c => ?_) (fun c => ?_)
    · have c7 : ¬ D % 2 = 1 := fun z => c (by rw [e7, z]; rfl)
      refine a_ic fM_wearOf_59 ?_
      exact a_ri fM_wearOf_60 rfl (⟨sv (by simp only [wr, if_neg c7]; rfl), rfl, rfl⟩)
    · have c7 : D % 2 = 1 := (nI_eq (b := 1) (by omega) (by decide)).mp (e7.symm.trans c)
      refine a_ic fM_wearOf_55 ?_
      refine a_goto fM_wearOf_56 ?_
      exact a_ri fM_wearOf_60 rfl (⟨sv (by simp only [wr, if_pos c7]; rfl), rfl, rfl⟩)
theorem c_MrestOf {K w : Nat} (hK : K ≤ 5) (hw : w < 2 ^ 31) : fE M_M_restOf E [.int (nI K), .int (nI w)] n h (eV (.int (nI (rst K w))) n h) := by
  refine fE.of (L := [some (.int (nI K)), some (.int (nI w))]) (by decide +kernel) (Nat.le_of_ble_eq_true rfl) rfl ?_
  match K, hK with
  | 0, _ =>
    refine a_il0 fM_restOf_0 ?_
    refine a_ic fM_restOf_1 ?_
    refine a_ic_ne fM_restOf_2 (fun _ => ?_) (fun c_ => absurd c_ (by decide))
    refine a_il0 fM_restOf_22 ?_
    refine a_ic fM_restOf_23 ?_
    refine a_ic_ne fM_restOf_24 (fun _ => ?_) (fun c_ => absurd c_ (by decide))
    refine a_il0 fM_restOf_32 ?_
    refine a_ic fM_restOf_33 ?_
    refine a_ic_ne fM_restOf_34 (fun _ => ?_) (fun c_ => absurd c_ (by decide))
    refine a_ic fM_restOf_41 ?_
    exact a_ri fM_restOf_42 rfl (⟨rfl, rfl, rfl⟩)
  | 1, _ =>
    refine a_il0 fM_restOf_0 ?_
    refine a_ic fM_restOf_1 ?_
    refine a_ic_ne fM_restOf_2 (fun _ => ?_) (fun c_ => absurd c_ (by decide))
    refine a_il0 fM_restOf_22 ?_
    refine a_ic fM_restOf_23 ?_
    refine a_ic_ne fM_restOf_24 (fun _ => ?_) (fun c_ => absurd c_ (by decide))
    refine a_il0 fM_restOf_32 ?_
    refine a_ic fM_restOf_33 ?_
    refine a_ic_ne fM_restOf_34 (fun _ => ?_) (fun c_ => absurd c_ (by decide))
    refine a_ic fM_restOf_41 ?_
    exact a_ri fM_restOf_42 rfl (⟨rfl, rfl, rfl⟩)
  | 2, _ =>
    refine a_il0 fM_restOf_0 ?_
    refine a_ic fM_restOf_1 ?_
    refine a_ic_ne fM_restOf_2 (fun _ => ?_) (fun c_ => absurd c_ (by decide))
    refine a_il0 fM_restOf_22 ?_
    refine a_ic fM_restOf_23 ?_
    refine a_ic_ne fM_restOf_24 (fun c_ => absurd (by decide) c_) (fun _ => ?_)
    refine a_ic fM_restOf_27 ?_
    refine a_goto fM_restOf_29 ?_
    exact a_ri fM_restOf_42 rfl (⟨rfl, rfl, rfl⟩)
  | 3, _ =>
    refine a_il0 fM_restOf_0 ?_
    refine a_ic fM_restOf_1 ?_
    refine a_ic_ne fM_restOf_2 (fun _ => ?_) (fun c_ => absurd c_ (by decide))
    refine a_il0 fM_restOf_22 ?_
    refine a_ic fM_restOf_23 ?_
    refine a_ic_ne fM_restOf_24 (fun _ => ?_) (fun c_ => absurd c_ (by decide))
    refine a_il0 fM_restOf_32 ?_
    refine a_ic fM_restOf_33 ?_
    refine a_ic_ne fM_restOf_34 (fun c_ => absurd (by decide) c_) (fun _ => ?_)
    refine a_ic fM_restOf_37 ?_
    refine a_goto fM_restOf_38 ?_
    exact a_ri fM_restOf_42 rfl (⟨rfl, rfl, rfl⟩)
  | 4, _ =>
    refine a_il0 fM_restOf_0 ?_
    refine a_ic fM_restOf_1 ?_
    refine a_ic_ne fM_restOf_2 (fun _ => ?_) (fun c_ => absurd c_ (by decide))
    refine a_il0 fM_restOf_22 ?_
    refine a_ic fM_restOf_23 ?_
    refine a_ic_ne fM_restOf_24 (fun _ => ?_) (fun c_ => absurd c_ (by decide))
    refine a_il0 fM_restOf_32 ?_
    refine a_ic fM_restOf_33 ?_
    refine a_ic_ne fM_restOf_34 (fun _ => ?_) (fun c_ => absurd c_ (by decide))
    refine a_ic fM_restOf_41 ?_
    exact a_ri fM_restOf_42 rfl (⟨rfl, rfl, rfl⟩)
  | 5, _ =>
    have e7 : nI w / 2 = nI (w / 2) := pk_div (d := 2) hw (by decide) (by decide)
    refine a_il0 fM_restOf_0 ?_
    refine a_ic fM_restOf_1 ?_
    refine a_ic_ne fM_restOf_2 (fun c_ => absurd (by decide) c_) (fun _ => ?_)
    refine a_il1 fM_restOf_5 ?_
    refine a_ic fM_restOf_6 ?_
    refine a_idiv fM_restOf_7 (by decide) ?_
    rw [e7]
    by_cases c7 : w / 2 < 6
    · refine a_ic fM_restOf_8 ?_
      refine a_ic_ge fM_restOf_10 (fun c_ => absurd c_ (nI_ge (b := 6) c7 (by decide))) (fun _ => ?_)
      refine a_il1 fM_restOf_13 ?_
      refine a_ic fM_restOf_14 ?_
      refine a_idiv fM_restOf_15 (by decide) ?_
      rw [e7]
      refine a_goto fM_restOf_16 ?_
      exact a_ri fM_restOf_21 rfl (⟨sv (by simp only [rst, if_pos c7]), rfl, rfl⟩)
    · refine a_ic fM_restOf_8 ?_
      refine a_ic_ge fM_restOf_10 (fun _ => ?_) (fun c_ => absurd (nI_le (a := 6) (by omega) (by omega)) c_)
      refine a_ic fM_restOf_19 ?_
      exact a_ri fM_restOf_21 rfl (⟨sv (by simp only [rst, if_neg c7]; rfl), rfl, rfl⟩)
theorem c_MwornNow {w : Nat → Nat} (m0 : h 63 = mO c th mn) (m1 : h 64 = nA 189 N) (m7 : h 70 = nA 10 w) (kw : kz w) : fE M_M_wornNow E [.ref 63] n h (eN n (va_up h 70 (nA 10 (sl N 20 10)))) := by
  have loop : ∀ (j i : Nat), i + j = 10 → fA M_M_wornNow E (fZ M_M_wornNow E (eN n (va_up h 70 (nA 10 (sl N 20 10))))) n (va_up h 70 (nA 10 (fun x => if x < i then N (20 + x) else w x))) 0 0 2 [some (.ref 63), some (.int (nI i))] [] := by
    intro j
    induction j with
    | zero =>
      intro i hi
      obtain rfl : i = 10 := by omega
      refine a_il1 fM_wornNow_2 ?_
      refine a_ic fM_wornNow_3 ?_
      refine a_ic_ge fM_wornNow_5 (fun _ => ?_) (fun c_ => absurd (Int32.le_refl _) c_)
      rw [show (fun x => if x < 10 then N (20 + x) else w x) = sl N 20 10 from funext (fun x => by have := kw x; unfold sl; grind)]
      exact a_rv fM_wornNow_29 rfl (⟨rfl, rfl, rfl⟩)
    | succ j ih =>
      intro i hi
      refine a_il1 fM_wornNow_2 ?_
      refine a_ic fM_wornNow_3 ?_
      refine a_ic_ge fM_wornNow_5 (fun c_ => absurd c_ (nI_ge (b := 10) (by omega) (by decide))) (fun _ => ?_)
      refine a_al0 fM_wornNow_8 ?_
      refine a_gf fM_wornNow_9 l_M_33 (up_n (by decide) m0) rfl ?_
      refine a_il1 fM_wornNow_12 ?_
      refine a_al0 fM_wornNow_13 ?_
      refine a_gf fM_wornNow_14 l_M_7 (up_n (by decide) m0) rfl ?_
      refine a_ic fM_wornNow_17 ?_
      refine a_il1 fM_wornNow_19 ?_
      refine a_iadd fM_wornNow_20 ?_
      refine a_ia fM_wornNow_21 (up_n (by decide) m1) (nI_add 20 _) (by omega) (by decide) ?_
      refine a_it fM_wornNow_22 up_s rfl (by omega) (by decide) ?_
      refine a_inc1 fM_wornNow_23 (by decide) rfl ?_
      refine a_goto fM_wornNow_26 ?_
      rw [bx_uu, nI_1]
      refine fA.ud (v := N (20 + i)) (F2 := fun x => if x < i + 1 then N (20 + x) else w x) rfl (fun j => by grind) ?_
      exact ih (i + 1) (by omega)
  refine fE.of (L := [some (.ref 63), none]) (by decide +kernel) (Nat.le_of_ble_eq_true rfl) rfl ?_
  refine a_ic fM_wornNow_0 ?_
  refine a_is1 fM_wornNow_1 (by decide) rfl ?_
  have := loop 10 0 (by omega)
  rw [show (fun x => if x < 0 then N (20 + x) else w x) = w from funext (fun x => by simp), up_id m7] at this
  exact this
def rsP (N w : Nat → Nat) (i : Nat) : Nat → Nat := fun x => if x < i then w x - rst (N x) (w x) else w x
theorem rsP_at {w : Nat → Nat} {i : Nat} : rsP N w i i = w i := by unfold rsP; rw [if_neg (by omega)]
theorem c_Mrests {w : Nat → Nat} (m0 : h 63 = mO c th mn) (m1 : h 64 = nA 189 N) (m7 : h 70 = nA 10 w) (bK : ∀ f, f < 10 → N f ≤ 5) (bW : sml w 1000) : fE M_M_rests E [.ref 63] n h (eN n (va_up h 70 (nA 10 (rsW (sl N 0 10) w)))) := by
  have loop : ∀ (j i : Nat) (x2 : Option Value), i + j = 10 → fA M_M_rests E (fZ M_M_rests E (eN n (va_up h 70 (nA 10 (rsW (sl N 0 10) w))))) n (va_up h 70 (nA 10 (rsP N w i))) 0 0 2 [some (.ref 63), some (.int (nI i)), x2] [] := by
    intro j
    induction j with
    | zero =>
      intro i x2 hi
      obtain rfl : i = 10 := by omega
      refine a_il1 fM_rests_2 ?_
      refine a_ic fM_rests_3 ?_
      refine a_ic_ge fM_rests_5 (fun _ => ?_) (fun c_ => absurd (Int32.le_refl _) c_)
      rw [show rsP N w 10 = rsW (sl N 0 10) w from funext (fun x => by unfold rsP rsW sl; grind)]
      exact a_rv fM_rests_60 rfl (⟨rfl, rfl, rfl⟩)
    | succ j ih =>
      intro i x2 hi
      have e0 : nF N (0 + i) = nI (N i) := congrArg nI (by rw [Nat.zero_add])
      have e1 : nF (rsP N w i) i = nI (w i) := congrArg nI rsP_at
      have b1 := bW i (by omega)
      have b2 : rst (N i) (w i) < 2 ^ 30 := rst_lt
      refine a_il1 fM_rests_2 ?_
      refine a_ic fM_rests_3 ?_
      refine a_ic_ge fM_rests_5 (fun c_ => absurd c_ (nI_ge (b := 10) (by omega) (by decide))) (fun _ => ?_)
      refine a_al0 fM_rests_8 ?_
      refine a_gf fM_rests_9 l_M_7 (up_n (by decide) m0) rfl ?_
      refine a_ic fM_rests_12 ?_
      refine a_il1 fM_rests_13 ?_
      refine a_iadd fM_rests_14 ?_
      refine a_ia fM_rests_15 (up_n (by decide) m1) (nI_add 0 _) (by omega) (by decide) ?_
      refine a_al0 fM_rests_16 ?_
      refine a_gf fM_rests_17 l_M_33 (up_n (by decide) m0) rfl ?_
      refine a_il1 fM_rests_20 ?_
      refine a_ia fM_rests_21 up_s rfl (by omega) (by decide) ?_
      rw [e0, e1]
      refine a_S2V fM_rests_22 k_M_47 m_M_restOf ⟨by decide, by decide⟩ ⟨rfl, rfl⟩ (Nat.le_of_ble_eq_true rfl) (c_MrestOf (bK i (by omega)) (by omega)) ?_
      refine a_is2 fM_rests_25 (by decide) rfl ?_
      refine a_al0 fM_rests_26 ?_
      refine a_gf fM_rests_27 l_M_33 (up_n (by decide) m0) rfl ?_
      refine a_il1 fM_rests_30 ?_
      refine a_al0 fM_rests_31 ?_
      refine a_gf fM_rests_32 l_M_33 (up_n (by decide) m0) rfl ?_
      refine a_il1 fM_rests_35 ?_
      refine a_ia fM_rests_36 up_s rfl (by omega) (by decide) ?_
      rw [e1]
      by_cases c9 : w i ≤ rst (N i) (w i)
      · refine a_il2 fM_rests_37 ?_
        refine a_ic_le fM_rests_38 (fun _ => ?_) (fun c_ => absurd (nI_le c9 (by omega)) c_)
        refine a_ic fM_rests_52 ?_
        refine a_it fM_rests_53 up_s rfl (by omega) (by decide) ?_
        refine a_inc1 fM_rests_54 (by decide) rfl ?_
        refine a_goto fM_rests_57 ?_
        rw [bx_uu, nI_1]
        refine fA.ud (v := 0) (F2 := rsP N w (i + 1)) rfl (fun j => by unfold rsP; grind) ?_
        exact ih (i + 1) _ (by omega)
      · refine a_il2 fM_rests_37 ?_
        refine a_ic_le fM_rests_38 (fun c_ => absurd c_ (fun z => c9 ((nI_leI (by omega) (by omega)).mp z))) (fun _ => ?_)
        refine a_al0 fM_rests_41 ?_
        refine a_gf fM_rests_42 l_M_33 (up_n (by decide) m0) rfl ?_
        refine a_il1 fM_rests_45 ?_
        refine a_ia fM_rests_46 up_s rfl (by omega) (by decide) ?_
        rw [e1]
        refine a_il2 fM_rests_47 ?_
        refine a_isub fM_rests_48 ?_
        refine a_goto fM_rests_49 ?_
        refine a_it fM_rests_53 up_s rfl (by omega) (by decide) ?_
        refine a_inc1 fM_rests_54 (by decide) rfl ?_
        refine a_goto fM_rests_57 ?_
        rw [bx_uu, nI_1]
        refine fA.ud (v := w i - rst (N i) (w i)) (F2 := rsP N w (i + 1)) (pk_sub (by omega)) (fun j => by unfold rsP; grind) ?_
        exact ih (i + 1) _ (by omega)
  refine fE.of (L := [some (.ref 63), none, none]) (by decide +kernel) (Nat.le_of_ble_eq_true rfl) rfl ?_
  refine a_ic fM_rests_0 ?_
  refine a_is1 fM_rests_1 (by decide) rfl ?_
  have := loop 10 0 none (by omega)
  rw [show rsP N w 0 = w from funext (fun x => by unfold rsP; simp), up_id m7] at this
  exact this
theorem c_Madds {m v : Nat} {g : Nat → Int32} (m0 : h 63 = mO c th (nI m)) (m8 : h 71 = ia 4 g) (hm : m ≤ 2) (hv : v < 100) : fE M_M_adds E [.ref 63, .int (nI v)] n h (eN n (va_up (va_up h 71 (ia 4 (ladd g m (dig v)))) 63 (mO c th (nI (m + (dig v).length))))) := by
  refine fE.of (L := [some (.ref 63), some (.int (nI v))]) (by decide +kernel) (Nat.le_of_ble_eq_true rfl) rfl ?_
  refine a_il1 fM_adds_0 ?_
  refine a_ic fM_adds_1 ?_
  refine a_ic_le fM_adds_3 (fun c => ?_) (fun c => ?_)
  · have c1 : v ≤ 9 := (nI_leI (b := 9) (by omega) (by decide)).mp c
    have e : nI v - nI v / 10 * 10 = nI v := by rw [show nI v - nI v / 10 * 10 = nI (v % 10) from pk_rem (d := 10) (by omega) (by decide) (by decide), Nat.mod_eq_of_lt (by omega)]
    refine a_al0 fM_adds_29 ?_
    refine a_gf fM_adds_30 l_M_36 m0 rfl ?_
    refine a_al0 fM_adds_33 ?_
    refine a_gf fM_adds_34 l_M_51 m0 rfl ?_
    refine a_il1 fM_adds_37 ?_
    refine a_ic fM_adds_38 ?_
    refine a_irem fM_adds_40 (by decide) ?_
    rw [e]
    refine a_it fM_adds_41 m8 rfl (by omega) (by decide) ?_
    refine a_al0 fM_adds_42 ?_
    refine a_dup fM_adds_43 rfl ?_
    refine a_gf fM_adds_44 l_M_51 (up_n (by decide) m0) rfl ?_
    refine a_ic fM_adds_47 ?_
    refine a_iadd fM_adds_48 ?_
    refine a_pfi16 fM_adds_49 p_M_51 (up_n (by decide) m0) ?_
    rw [show nI m + 1 = nI (m + 1) from nI_1 m]
    exact a_rv fM_adds_52 rfl (⟨rfl, rfl, by unfold dig; rw [if_pos c1]; rfl⟩)
  · have c1 : ¬ v ≤ 9 := fun z => c (nI_le (b := 9) z (by decide))
    refine a_al0 fM_adds_6 ?_
    refine a_gf fM_adds_7 l_M_36 m0 rfl ?_
    refine a_al0 fM_adds_10 ?_
    refine a_gf fM_adds_11 l_M_51 m0 rfl ?_
    refine a_il1 fM_adds_14 ?_
    refine a_ic fM_adds_15 ?_
    refine a_idiv fM_adds_17 (by decide) ?_
    rw [show nI v / 10 = nI (v / 10) from pk_div (d := 10) (by omega) (by decide) (by decide)]
    refine a_it fM_adds_18 m8 rfl (by omega) (by decide) ?_
    refine a_al0 fM_adds_19 ?_
    refine a_dup fM_adds_20 rfl ?_
    refine a_gf fM_adds_21 l_M_51 (up_n (by decide) m0) rfl ?_
    refine a_ic fM_adds_24 ?_
    refine a_iadd fM_adds_25 ?_
    refine a_pfi16 fM_adds_26 p_M_51 (up_n (by decide) m0) ?_
    rw [show nI m + 1 = nI (m + 1) from nI_1 m]
    refine a_al0 fM_adds_29 ?_
    refine a_gf fM_adds_30 l_M_36 up_s rfl ?_
    refine a_al0 fM_adds_33 ?_
    refine a_gf fM_adds_34 l_M_51 up_s rfl ?_
    refine a_il1 fM_adds_37 ?_
    refine a_ic fM_adds_38 ?_
    refine a_irem fM_adds_40 (by decide) ?_
    rw [show nI v - nI v / 10 * 10 = nI (v % 10) from pk_rem (d := 10) (by omega) (by decide) (by decide)]
    refine a_it fM_adds_41 (up_n (by decide) up_s) rfl (by omega) (by decide) ?_
    rw [up_swap (by decide)]
    refine a_al0 fM_adds_42 ?_
    refine a_dup fM_adds_43 rfl ?_
    refine a_gf fM_adds_44 l_M_51 up_s rfl ?_
    refine a_ic fM_adds_47 ?_
    refine a_iadd fM_adds_48 ?_
    refine a_pfi16 fM_adds_49 p_M_51 up_s ?_
    rw [bx_uu, show nI (m + 1) + 1 = nI (m + 2) from nI_1 (m + 1)]
    exact a_rv fM_adds_52 rfl (⟨rfl, rfl, by unfold dig; rw [if_neg c1]; rfl⟩)
theorem c_Mline {v x : Nat} {g : Nat → Int32} (m0 : h 63 = mO c th mn) (m8 : h 71 = ia 4 g) (hv : v < 100) (hx : x < 100) : fE M_M_line E [.ref 63, .int (nI v), .int (nI x)] n h (qN (fun k h2 => k = n ∧ ∃ g2, isSg g2 (sgn v x) ∧ h2 = va_up (va_up h 63 (mO c th (nI (sgn v x).length))) 71 (ia 4 g2))) := by
  have l1 := @dig_len x
  have hd : (if x < v then v - x else x - v) < 100 := by split <;> omega
  have hs := ladd_sg (g := g) hv hx
  refine fE.of (L := [some (.ref 63), some (.int (nI v)), some (.int (nI x))]) (by decide +kernel) (Nat.le_of_ble_eq_true rfl) rfl ?_
  refine a_al0 fM_line_0 ?_
  refine a_ic fM_line_1 ?_
  refine a_pfi16 fM_line_2 p_M_51 m0 ?_
  refine a_al0 fM_line_5 ?_
  refine a_il2 fM_line_6 ?_
  refine a_V1N fM_line_7 k_M_54 m_M_adds ⟨by decide, by decide⟩ up_s rfl ⟨rfl, rfl⟩ (Nat.le_of_ble_eq_true rfl) (c_Madds (m := 0) up_s (up_n (by decide) m8) (by decide) hx) ?_
  rw [up_swap (by decide), Nat.zero_add]
  by_cases c9 : x = v
  · refine a_il2 fM_line_10 ?_
    refine a_il1 fM_line_11 ?_
    refine a_ic_eq fM_line_12 (fun _ => ?_) (fun c_ => absurd (by rw [c9]) c_)
    rw [if_pos c9] at hs
    exact a_rv fM_line_33 rfl (⟨rfl, rfl, _, hs, by unfold sgn; rw [if_pos c9, List.append_nil]⟩)
  · refine a_il2 fM_line_10 ?_
    refine a_il1 fM_line_11 ?_
    refine a_ic_eq fM_line_12 (fun c_ => absurd c_ (fun z => c9 ((nI_eq (by omega) (by omega)).mp z))) (fun _ => ?_)
    rw [if_neg c9] at hs
    have nx : fA M_M_line E (fZ M_M_line E (qN (fun k h2 => k = n ∧ ∃ g2, isSg g2 (sgn v x) ∧ h2 = va_up (va_up h 63 (mO c th (nI (sgn v x).length))) 71 (ia 4 g2)))) n (va_up (va_up h 63 (mO c th (nI (dig x).length))) 71 (ia 4 (ladd g 0 (dig x)))) 0 0 30 [some (.ref 63), some (.int (nI v)), some (.int (nI x))] [.int (nI (if x < v then v - x else x - v)), .ref 63] := by
      refine a_V1N fM_line_30 k_M_54 m_M_adds ⟨by decide, by decide⟩ (up_n (by decide) up_s) rfl ⟨rfl, rfl⟩ (Nat.le_of_ble_eq_true rfl) (c_Madds (up_n (by decide) up_s) up_s l1.2 hd) ?_
      rw [bx_uu, up_swap (by decide)]
      exact a_rv fM_line_33 rfl (⟨rfl, rfl, _, hs, by unfold sgn; rw [if_neg c9, List.length_append]⟩)
    by_cases c8 : x < v
    · refine a_al0 fM_line_15 ?_
      refine a_il2 fM_line_16 ?_
      refine a_il1 fM_line_17 ?_
      refine a_ic_ge fM_line_18 (fun c_ => absurd c_ (nI_ge c8 (by omega))) (fun _ => ?_)
      refine a_il1 fM_line_21 ?_
      refine a_il2 fM_line_22 ?_
      refine a_isub fM_line_23 ?_
      refine a_goto fM_line_24 ?_
      rw [pk_sub (by omega)]
      rw [if_pos c8] at nx
      exact nx
    · refine a_al0 fM_line_15 ?_
      refine a_il2 fM_line_16 ?_
      refine a_il1 fM_line_17 ?_
      refine a_ic_ge fM_line_18 (fun _ => ?_) (fun c_ => absurd (nI_le (by omega) (by omega)) c_)
      refine a_il2 fM_line_27 ?_
      refine a_il1 fM_line_28 ?_
      refine a_isub fM_line_29 ?_
      rw [pk_sub (by omega)]
      rw [if_neg c8] at nx
      exact nx
end M1
