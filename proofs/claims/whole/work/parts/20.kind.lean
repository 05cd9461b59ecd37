/-! the pure words -/
theorem sv {a b : Int32} (e : a = b) : some (Value.int a) = some (Value.int b) := by rw [e]
theorem svl {a b : Int64} (e : a = b) : some (Value.long a) = some (Value.long b) := by rw [e]
/-- what a kind wears as sign k on day D -/
def wr (K k D : Nat) : Nat := match K with
  | 1 => 2 + k
  | 2 => 4
  | 3 => if D % 7 = 6 then 0 else 2
  | 4 => if k = 0 then 0 else 3 + k
  | 5 => if D % 2 = 1 then 5 else 4
  | _ => 2
/-- what a kind rests -/
def rst (K w : Nat) : Nat := match K with
  | 2 => 6
  | 3 => 2
  | 5 => if w / 2 < 6 then w / 2 else 6
  | _ => 3
def bI (p : Prop) [Decidable p] : Int32 := if p then 1 else 0
theorem bI_t {p : Prop} [Decidable p] (h : p) : bI p = 1 := if_pos h
theorem bI_f {p : Prop} [Decidable p] (h : ¬ p) : bI p = 0 := if_neg h
theorem bI_n (p : Prop) [Decidable p] : narrow .boolean (.int (bI p)) = .int (bI p) := by unfold bI; split <;> rfl
def nF (W : Nat → Nat) : Nat → Int32 := fun j => nI (W j)
abbrev nA (n : Nat) (W : Nat → Nat) : cT := ia n (nF W)
theorem upd_nF {W : Nat → Nat} {i v : Nat} : upd (nF W) i (nI v) = nF (va_up W i v) := by
  funext j
  unfold upd nF va_up
  split <;> rfl
theorem up_s {α : Type} {f : Nat → α} {a : Nat} {c : α} : va_up f a c a = c := by simp [va_up]
theorem up_n {α : Type} {f : Nat → α} {a b : Nat} {c d : α} (n : b ≠ a) (e : f b = d) : va_up f a c b = d := by rw [va_up, if_neg n]; exact e
theorem up_swap {h : hT} {a b : Nat} {x z w : cT} (n : a ≠ b) : va_up (va_up (va_up h a x) b z) a w = va_up (va_up h a w) b z := by
  funext j
  unfold va_up
  by_cases h1 : j = a
  · subst h1; simp [n]
  · simp [h1]
theorem up_id {α : Type} {h : Nat → α} {a : Nat} {c : α} (e : h a = c) : va_up h a c = h := by
  funext j
  unfold va_up
  split
  · subst_vars; rfl
  · rfl
abbrev sO (w d : Nat) : cT := .inr (2, [.ref w, .int (nI d)])
abbrev lO (g n : Nat) : cT := .inr (6, [.ref g, .int (nI n)])
abbrev hO (q : Nat) : cT := .inr (1, [.ref (q + 1), .ref (q + 2), .ref (q + 3), .ref (q + 5), .ref (q + 8), .ref (q + 15)])
theorem dropc {α : Type} {l r : List α} {a : α} {i : Nat} (e : l.drop i = a :: r) : i < l.length ∧ l[i]? = some a ∧ l.drop (i + 1) = r := by
  have h : i < l.length := by
    rcases Nat.lt_or_ge i l.length with h | h
    · exact h
    · rw [List.drop_eq_nil_of_le h] at e; cases e
  rw [List.drop_eq_getElem_cons h] at e
  cases e
  exact ⟨h, List.getElem?_eq_getElem h, rfl⟩
theorem dropn {α : Type} {l : List α} {i : Nat} (e : l.drop i = []) : l.length ≤ i := List.drop_eq_nil_iff.mp e
/-- the array g holds the signs sg -/
def isSg (g : Nat → Int32) (sg : List Nat) : Prop := sg.length ≤ 4 ∧ ∀ j f, sg[j]? = some f → g j = nI f ∧ f < 10
/-- worn by signs, each times t -/
def wby (t : Int32) (K : Nat → Nat) (D : Nat) : Nat → List Nat → (Nat → Int32) → (Nat → Int32)
  | _, [], w => w
  | k, f :: r, w => wby t K D (k + 1) r (upd w f (w f + t * nI (wr (K f) k D)))
section KI
variable {E : eT} {n : Nat} {h : hT}
theorem c_wear {K k D : Nat} (hK : K ≤ 5) (hk : k < 2 ^ 30) (hD : D < 2 ^ 31) : fE M_I_wear E [.int (nI K), .int (nI k), .int (nI D)] n h (eV (.int (nI (wr K k D))) n h) := by
  refine fE.of (L := [some (.int (nI K)), some (.int (nI k)), some (.int (nI D))]) (by decide +kernel) (Nat.le_of_ble_eq_true rfl) rfl ?_
  refine a_il0 fI_wear_0 ?_
  match K, hK with
  | 0, _ =>
    refine a_tsO (tgt := 84) fI_wear_1 (by decide) (by decide) ?_
    refine a_ic fI_wear_84 ?_
    exact a_ri fI_wear_85 rfl (⟨rfl, rfl, rfl⟩)
  | 1, _ =>
    refine a_tsI (off := 35) (tgt := 36) fI_wear_1 (by decide) (by decide) rfl (by decide) ?_
    refine a_ic fI_wear_36 ?_
    refine a_il1 fI_wear_37 ?_
    refine a_iadd fI_wear_38 ?_
    exact a_ri fI_wear_39 rfl (⟨sv (nI_add 2 k), rfl, rfl⟩)
  | 2, _ =>
    refine a_tsI (off := 39) (tgt := 40) fI_wear_1 (by decide) (by decide) rfl (by decide) ?_
    refine a_ic fI_wear_40 ?_
    exact a_ri fI_wear_41 rfl (⟨rfl, rfl, rfl⟩)
  | 3, _ =>
    refine a_tsI (off := 41) (tgt := 42) fI_wear_1 (by decide) (by decide) rfl (by decide) ?_
    have e7 : nI D - nI D / 7 * 7 = nI (D % 7) := pk_rem (d := 7) hD (by decide) (by decide)
    refine a_il2 fI_wear_42 ?_
    refine a_ic fI_wear_43 ?_
    refine a_irem fI_wear_45 (by decide) ?_
    refine a_ic fI_wear_46 ?_
    refine a_ic_ne fI_wear_48 (fun c => ?_) (fun c => ?_)
    · have c7 : ¬ D % 7 = 6 := fun z => c (by rw [e7, z]; rfl)
      refine a_ic fI_wear_55 ?_
      exact a_ri fI_wear_56 rfl (⟨sv (by simp only [wr, if_neg c7]; rfl), rfl, rfl⟩)
    · have c7 : D % 7 = 6 := (nI_eq (b := 6) (by omega) (by decide)).mp (e7.symm.trans c)
      refine a_ic fI_wear_51 ?_
      refine a_goto fI_wear_52 ?_
      exact a_ri fI_wear_56 rfl (⟨sv (by simp only [wr, if_pos c7]; rfl), rfl, rfl⟩)
  | 4, _ =>
    refine a_tsI (off := 56) (tgt := 57) fI_wear_1 (by decide) (by decide) rfl (by decide) ?_
    refine a_il1 fI_wear_57 ?_
    refine a_if_ne fI_wear_58 (fun c => ?_) (fun c => ?_)
    · have c7 : ¬ k = 0 := fun z => c (by rw [z]; rfl)
      refine a_ic fI_wear_65 ?_
      refine a_il1 fI_wear_66 ?_
      refine a_iadd fI_wear_67 ?_
      refine a_ic fI_wear_68 ?_
      refine a_iadd fI_wear_69 ?_
      exact a_ri fI_wear_70 rfl (⟨sv (by simp only [wr, if_neg c7]; rw [show (2 : Int32) + nI k = nI (2 + k) from nI_add 2 k, show nI (2 + k) + 1 = nI (2 + k + 1) from nI_1 _]; congr 1; omega), rfl, rfl⟩)
    · have c7 : k = 0 := (nI_eq (b := 0) (by omega) (by decide)).mp c
      refine a_ic fI_wear_61 ?_
      refine a_goto fI_wear_62 ?_
      exact a_ri fI_wear_70 rfl (⟨sv (by simp only [wr, if_pos c7]; rfl), rfl, rfl⟩)
  | 5, _ =>
    refine a_tsI (off := 70) (tgt := 71) fI_wear_1 (by decide) (by decide) rfl (by decide) ?_
    have e7 : nI D - nI D / 2 * 2 = nI (D % 2) := pk_rem (d := 2) hD (by decide) (by decide)
    refine a_il2 fI_wear_71 ?_
    refine a_ic fI_wear_72 ?_
    refine a_irem fI_wear_73 (by decide) ?_
    refine a_ic fI_wear_74 ?_
    refine a_ic_ne fI_wear_75 (fun c => ?_) (fun c => ?_)
    · have c7 : ¬ D % 2 = 1 := fun z => c (by rw [e7, z]; rfl)
      refine a_ic fI_wear_82 ?_
      exact a_ri fI_wear_83 rfl (⟨sv (by simp only [wr, if_neg c7]; rfl), rfl, rfl⟩)
    · have c7 : D % 2 = 1 := (nI_eq (b := 1) (by omega) (by decide)).mp (e7.symm.trans c)
      refine a_ic fI_wear_78 ?_
      refine a_goto fI_wear_79 ?_
      exact a_ri fI_wear_83 rfl (⟨sv (by simp only [wr, if_pos c7]; rfl), rfl, rfl⟩)
theorem c_within {a b c9 : Int32} : fE M_F_within E [.int a, .int b, .int c9] n h (eV (.int (bI (b ≤ a ∧ a ≤ c9))) n h) := by
  refine fE.of (L := [some (.int a), some (.int b), some (.int c9)]) (by decide +kernel) (Nat.le_of_ble_eq_true rfl) rfl ?_
  refine a_il0 fF_within_0 ?_
  refine a_il1 fF_within_1 ?_
  refine a_ic_lt fF_within_2 (fun c => ?_) (fun c => ?_)
  · refine a_ic fF_within_14 ?_
    exact a_rz fF_within_15 rfl (by first | rfl | (split <;> rfl)) (⟨sv (by rw [bI_f (fun z => absurd z.1 (Int32.not_le.mpr c))]), rfl, rfl⟩)
  · have c1 := Int32.not_lt.mp c
    refine a_il0 fF_within_5 ?_
    refine a_il2 fF_within_6 ?_
    refine a_ic_gt fF_within_7 (fun c => ?_) (fun c => ?_)
    · refine a_ic fF_within_14 ?_
      exact a_rz fF_within_15 rfl (by first | rfl | (split <;> rfl)) (⟨sv (by rw [bI_f (fun z => absurd z.2 (Int32.not_le.mpr c))]), rfl, rfl⟩)
    · refine a_ic fF_within_10 ?_
      refine a_goto fF_within_11 ?_
      exact a_rz fF_within_15 rfl (by first | rfl | (split <;> rfl)) (⟨sv (by rw [bI_t ⟨c1, Int32.not_lt.mp c⟩]), rfl, rfl⟩)
end KI
