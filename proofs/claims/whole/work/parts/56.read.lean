/-! an item, the whole text -/
theorem nI_sur (x : Int32) : ∃ m : Nat, x = nI m := ⟨x.toBitVec.toNat, Int32.toBitVec_inj.mp (BitVec.eq_of_toNat_eq (pk_tn x.toBitVec.isLt).symm)⟩
section RD
variable {tn : Nat} {bt : Nat → Nat}
/-- behind an item's numbers: the stop -/
def rdZ (tn : Nat) (bt : Nat → Nat) (c : (Nat → Nat) × Nat ⊕ Nat) : (Nat → Nat) × Nat ⊕ Nat := match c with
  | .inr f => .inr f
  | .inl x => if tkS tn bt x.2 = 3 then .inl (x.1, tkE tn bt x.2) else .inr (tkP tn bt x.2)
/-- an item's word and numbers -/
def rdC (tn : Nat) (bt D : Nat → Nat) (b : Bool) (a : Nat) : (Nat → Nat) × Nat ⊕ Nat :=
  if b = true then (if isWd bt (tkP tn bt a) (tkE tn bt a) 0 then .inl (D, tkE tn bt a) else .inr (tkP tn bt a))
  else if isWd bt (tkP tn bt a) (tkE tn bt a) 1 then rdF tn bt D (tkE tn bt a)
  else if isWd bt (tkP tn bt a) (tkE tn bt a) 2 then rdB tn bt D (tkP tn bt a) (tkE tn bt a)
  else if isWd bt (tkP tn bt a) (tkE tn bt a) 3 then rdW tn bt D (tkE tn bt a)
  else if isWd bt (tkP tn bt a) (tkE tn bt a) 4 then rdN tn bt D (tkE tn bt a) else .inr (tkP tn bt a)
def rdI (tn : Nat) (bt D : Nat → Nat) (b : Bool) (a : Nat) : (Nat → Nat) × Nat ⊕ Nat :=
  if tkS tn bt a = 1 then rdZ tn bt (rdC tn bt D b a) else .inr (tkP tn bt a)
/-- items, one behind the other -/
def rdA (tn : Nat) (bt : Nat → Nat) : Nat → Nat → (Nat → Nat) → Nat → (Nat → Nat) × Nat ⊕ Nat
  | 0, _, _, a => .inr a
  | j + 1, it, D, a => if tkS tn bt a = 0 ∧ 0 < it then .inl (D, it) else match rdI tn bt D (decide (it = 0)) a with
    | .inr f => .inr f
    | .inl x => rdA tn bt j (it + 1) x.1 x.2
theorem rdF_ok {D : Nat → Nat} {a : Nat} {x : (Nat → Nat) × Nat} (K : okN D) (ha : a ≤ tn) (e : rdF tn bt D a = .inl x) : okN x.1 ∧ a ≤ x.2 ∧ x.2 ≤ tn := by
  unfold rdF at e
  split at e
  · cases e
  split at e
  · cases e
  split at e
  · cases e
  rename_i c1 c2 c3
  have c1 := Decidable.of_not_not c1
  have c2 := Decidable.of_not_not c2
  have c3 := Decidable.of_not_not c3
  have a1 := tkE_le (bt := bt) ha
  have a2 := tkE_le (bt := bt) a1
  have a3 := tkE_le (bt := bt) a2
  have b1 := Nat.le_trans (tkP_ge (tn := tn) (bt := bt) (a := a)) tkE_ge
  have b2 := Nat.le_trans (tkP_ge (tn := tn) (bt := bt) (a := tkE tn bt a)) tkE_ge
  have b3 := Nat.le_trans (tkP_ge (tn := tn) (bt := bt) (a := tkE tn bt (tkE tn bt a))) tkE_ge
  cases e
  exact ⟨okN_tf K (by have := c1.2.2; omega) c2.2.2 ⟨c3.2.1, c3.2.2⟩, by show a ≤ tkE tn bt (tkE tn bt (tkE tn bt a)); omega, a3⟩
theorem rdB_ok {D : Nat → Nat} {a P : Nat} {x : (Nat → Nat) × Nat} (K : okN D) (ha : a ≤ tn) (e : rdB tn bt D P a = .inl x) : okN x.1 ∧ a ≤ x.2 ∧ x.2 ≤ tn := by
  unfold rdB at e
  split at e
  · cases e
  split at e
  · cases e
  split at e
  · cases e
  rename_i c1 c2 c3
  have c1 := Decidable.of_not_not c1
  have c2 := Decidable.of_not_not c2
  have c3 := Decidable.of_not_not c3
  have a1 := tkE_le (bt := bt) ha
  have a2 := tkE_le (bt := bt) a1
  have b1 := Nat.le_trans (tkP_ge (tn := tn) (bt := bt) (a := a)) tkE_ge
  have b2 := Nat.le_trans (tkP_ge (tn := tn) (bt := bt) (a := tkE tn bt a)) tkE_ge
  cases e
  exact ⟨okN_tb K c1 (by have := c2.2.2; omega) (by have := c3.2.2; omega), by show a ≤ tkE tn bt (tkE tn bt a); omega, a2⟩
theorem rdW_ok {D : Nat → Nat} {a : Nat} {x : (Nat → Nat) × Nat} (K : okN D) (ha : a ≤ tn) (e : rdW tn bt D a = .inl x) : okN x.1 ∧ a ≤ x.2 ∧ x.2 ≤ tn := by
  unfold rdW at e
  split at e
  · cases e
  split at e
  · cases e
  split at e
  · cases e
  rename_i c1 c2 c3
  have c3 := Decidable.of_not_not c3
  have a1 := tkE_le (bt := bt) ha
  have a2 := tkE_le (bt := bt) a1
  have b1 := Nat.le_trans (tkP_ge (tn := tn) (bt := bt) (a := a)) tkE_ge
  have b2 := Nat.le_trans (tkP_ge (tn := tn) (bt := bt) (a := tkE tn bt a)) tkE_ge
  cases e
  exact ⟨okN_wd K c3, by show a ≤ tkE tn bt (tkE tn bt a); omega, a2⟩
theorem rdN_ok {D : Nat → Nat} {a : Nat} {x : (Nat → Nat) × Nat} (K : okN D) (ha : a ≤ tn) (e : rdN tn bt D a = .inl x) : okN x.1 ∧ a ≤ x.2 ∧ x.2 ≤ tn := by
  unfold rdN at e
  split at e
  · cases e
  have a1 := tkE_le (bt := bt) ha
  have b1 := Nat.le_trans (tkP_ge (tn := tn) (bt := bt) (a := a)) tkE_ge
  cases e
  exact ⟨okN_ngt _ K, b1, a1⟩
theorem rdC_ok {D : Nat → Nat} {a : Nat} {b : Bool} {x : (Nat → Nat) × Nat} (K : okN D) (ha : a ≤ tn) (e : rdC tn bt D b a = .inl x) : okN x.1 ∧ tkE tn bt a ≤ x.2 ∧ x.2 ≤ tn := by
  have a1 := tkE_le (bt := bt) ha
  unfold rdC at e
  split at e
  · split at e
    · cases e; exact ⟨K, Nat.le_refl _, a1⟩
    · cases e
  split at e
  · exact rdF_ok K a1 e
  split at e
  · exact rdB_ok K a1 e
  split at e
  · exact rdW_ok K a1 e
  split at e
  · exact rdN_ok K a1 e
  · cases e
theorem skp_go {s f a : Nat} (h : a < tn ∧ srt tn bt a = s) : skp tn bt s (f + 1) a = skp tn bt s f (a + 1) := by
  simp only [skp]
  rw [if_pos h]
theorem tkE_wd {a : Nat} (z : tkS tn bt a = 1) : a < tkE tn bt a := by
  have h0 : tkS0 tn bt a = 1 := by
    unfold tkS at z
    split at z
    · cases z
    · exact z
  have hp : tkP tn bt a < tn := by
    unfold tkS0 at h0
    rcases Nat.lt_or_ge (tkP tn bt a) tn with q | q
    · exact q
    · unfold srt at h0; rw [if_neg (by omega)] at h0; cases h0
  have := tkP_ge (tn := tn) (bt := bt) (a := a)
  have e : tkE tn bt a = skp tn bt 1 150 (tkP tn bt a) := by
    unfold tkE
    rw [h0]
    simp
  rw [e, show (150 : Nat) = 149 + 1 from rfl, skp_go ⟨hp, h0⟩]
  have := skp_ge (tn := tn) (bt := bt) (s := 1) 149 (tkP tn bt a + 1)
  omega
theorem rdI_ok {D : Nat → Nat} {a : Nat} {b : Bool} {x : (Nat → Nat) × Nat} (K : okN D) (ha : a ≤ tn) (e : rdI tn bt D b a = .inl x) : okN x.1 ∧ a < x.2 ∧ x.2 ≤ tn := by
  unfold rdI at e
  split at e
  · rename_i z
    have hw := tkE_wd z
    cases c : rdC tn bt D b a with
    | inr f => rw [c] at e; cases e
    | inl y =>
      rw [c] at e
      obtain ⟨k1, k2, k3⟩ := rdC_ok K ha c
      unfold rdZ at e
      dsimp only at e
      split at e
      · cases e
        have := tkE_le (bt := bt) k3
        have := Nat.le_trans (tkP_ge (tn := tn) (bt := bt) (a := y.2)) tkE_ge
        exact ⟨k1, by show a < tkE tn bt y.2; omega, by show tkE tn bt y.2 ≤ tn; omega⟩
      · cases e
  · cases e
theorem rdF_le {D : Nat → Nat} {a f : Nat} (ha : a ≤ tn) (e : rdF tn bt D a = .inr f) : f ≤ tn := by
  have a1 := tkE_le (bt := bt) ha
  have a2 := tkE_le (bt := bt) a1
  unfold rdF at e
  split at e
  · cases e; exact tkP_le ha
  split at e
  · cases e; exact tkP_le a1
  split at e
  · cases e; exact tkP_le a2
  · cases e
theorem rdB_le {D : Nat → Nat} {a P f : Nat} (ha : a ≤ tn) (hP : P ≤ tn) (e : rdB tn bt D P a = .inr f) : f ≤ tn := by
  have a1 := tkE_le (bt := bt) ha
  unfold rdB at e
  split at e
  · cases e; exact hP
  split at e
  · cases e; exact tkP_le ha
  split at e
  · cases e; exact tkP_le a1
  · cases e
theorem rdW_le {D : Nat → Nat} {a f : Nat} (ha : a ≤ tn) (e : rdW tn bt D a = .inr f) : f ≤ tn := by
  have a1 := tkE_le (bt := bt) ha
  unfold rdW at e
  split at e
  · cases e; exact tkP_le ha
  split at e
  · cases e; exact tkP_le a1
  split at e
  · cases e; exact tkP_le a1
  · cases e
theorem rdN_le {D : Nat → Nat} {a f : Nat} (ha : a ≤ tn) (e : rdN tn bt D a = .inr f) : f ≤ tn := by
  unfold rdN at e
  split at e
  · cases e; exact tkP_le ha
  · cases e
theorem rdC_le {D : Nat → Nat} {a f : Nat} {b : Bool} (ha : a ≤ tn) (e : rdC tn bt D b a = .inr f) : f ≤ tn := by
  have a1 := tkE_le (bt := bt) ha
  have p1 := tkP_le (bt := bt) ha
  unfold rdC at e
  split at e
  · split at e
    · cases e
    · cases e; exact p1
  split at e
  · exact rdF_le a1 e
  split at e
  · exact rdB_le a1 p1 e
  split at e
  · exact rdW_le a1 e
  split at e
  · exact rdN_le a1 e
  · cases e; exact p1
theorem rdF_e {D : Nat → Nat} {a : Nat} {x : (Nat → Nat) × Nat} (ha : a ≤ tn) (e : rdF tn bt D a = .inl x) : x.2 ≤ tn := by
  unfold rdF at e
  split at e
  · cases e
  split at e
  · cases e
  split at e
  · cases e
  · cases e; exact tkE_le (tkE_le (tkE_le ha))
theorem rdB_e {D : Nat → Nat} {a P : Nat} {x : (Nat → Nat) × Nat} (ha : a ≤ tn) (e : rdB tn bt D P a = .inl x) : x.2 ≤ tn := by
  unfold rdB at e
  split at e
  · cases e
  split at e
  · cases e
  split at e
  · cases e
  · cases e; exact tkE_le (tkE_le ha)
theorem rdW_e {D : Nat → Nat} {a : Nat} {x : (Nat → Nat) × Nat} (ha : a ≤ tn) (e : rdW tn bt D a = .inl x) : x.2 ≤ tn := by
  unfold rdW at e
  split at e
  · cases e
  split at e
  · cases e
  split at e
  · cases e
  · cases e; exact tkE_le (tkE_le ha)
theorem rdN_e {D : Nat → Nat} {a : Nat} {x : (Nat → Nat) × Nat} (ha : a ≤ tn) (e : rdN tn bt D a = .inl x) : x.2 ≤ tn := by
  unfold rdN at e
  split at e
  · cases e
  · cases e; exact tkE_le ha
theorem rdC_e {D : Nat → Nat} {a : Nat} {b : Bool} {y : (Nat → Nat) × Nat} (ha : a ≤ tn) (c : rdC tn bt D b a = .inl y) : y.2 ≤ tn := by
  have a1 := tkE_le (bt := bt) ha
  unfold rdC at c
  split at c
  · split at c
    · cases c; exact a1
    · cases c
  split at c
  · exact rdF_e a1 c
  split at c
  · exact rdB_e a1 c
  split at c
  · exact rdW_e a1 c
  split at c
  · exact rdN_e a1 c
  · cases c
theorem rdI_le {D : Nat → Nat} {a f : Nat} {b : Bool} (ha : a ≤ tn) (e : rdI tn bt D b a = .inr f) : f ≤ tn := by
  unfold rdI at e
  split at e
  · cases c : rdC tn bt D b a with
    | inr g =>
      rw [c] at e
      have e2 : g = f := Sum.inr.inj e
      rw [← e2]
      exact rdC_le ha c
    | inl y =>
      rw [c] at e
      have k3 := rdC_e ha c
      unfold rdZ at e
      dsimp only at e
      split at e
      · cases e
      · have e2 := Sum.inr.inj e
        rw [← e2]
        exact tkP_le k3
  · have e2 := Sum.inr.inj e
    rw [← e2]
    exact tkP_le ha
end RD
