/-! the clerk: what can be written -/
def hv (g : hT) (N : Nat → Nat) : Prop := g 12 = hO 12 ∧ g 13 = nA 10 (sl N 0 10) ∧ g 14 = nA 10 (sl N 10 10) ∧ g 15 = sO 16 (N 30) ∧ g 16 = nA 10 (sl N 20 10)
abbrev kO (op dp : Int32) : cT := .inr (7, [.ref 48, .ref 50, .ref 52, .ref 53, .int op, .int dp])
def kz (W : Nat → Nat) : Prop := ∀ i, 10 ≤ i → W i = 0
/-- the clerk's cells, whatever they hold -/
def kS (g : hT) : Prop := ∃ (m : Nat) (f : Nat → Int32) (D : Nat) (W ob cd : Nat → Nat) (op dp : Int32), g 47 = kO op dp ∧ g 48 = lO 49 m ∧ g 49 = ia 4 f ∧ g 50 = sO 51 D ∧ g 51 = nA 10 W ∧ g 52 = nA 6 ob ∧ g 53 = nA 6 cd ∧ kz W
/-- only the clerk's cells are others -/
def frk (h g : hT) : Prop := ∀ a, a < 47 ∨ 53 < a → g a = h a
theorem hv.up {g : hT} {N : Nat → Nat} {a : Nat} {c : cT} (H : hv g N) (ha : a < 12 ∨ 16 < a) : hv (va_up g a c) N := ⟨up_n (by omega) H.1, up_n (by omega) H.2.1, up_n (by omega) H.2.2.1, up_n (by omega) H.2.2.2.1, up_n (by omega) H.2.2.2.2⟩
theorem frk.up {h g : hT} {a : Nat} {c : cT} (H : frk h g) (ha : 47 ≤ a ∧ a ≤ 53) : frk h (va_up g a c) := fun x hx => up_n (by omega) (H x hx)
theorem frk.rf {h : hT} : frk h h := fun _ _ => rfl
theorem frk.trans {a b c : hT} (x : frk a b) (z : frk b c) : frk a c := fun i hi => (z i hi).trans (x i hi)
theorem hv.fr {h g : hT} {N : Nat → Nat} (H : hv h N) (F : frk h g) : hv g N := ⟨(F _ (by omega)).trans H.1, (F _ (by omega)).trans H.2.1, (F _ (by omega)).trans H.2.2.1, (F _ (by omega)).trans H.2.2.2.1, (F _ (by omega)).trans H.2.2.2.2⟩
/-- numbers are small -/
def okC (N : Nat → Nat) : Prop := (∀ f, f < 10 → N f ≤ 5 ∧ N (10 + f) ≤ 100 ∧ N (20 + f) ≤ 100) ∧ N 30 ≤ 20000
theorem okC.K {N : Nat → Nat} (O : okC N) : sml (sl N 0 10) 5 := fun f hf => by rw [sl_lt hf, Nat.zero_add]; exact (O.1 f hf).1
theorem okC.S {N : Nat → Nat} (O : okC N) : sml (sl N 10 10) 100 := fun f hf => by rw [sl_lt hf]; exact (O.1 f hf).2.1
theorem okC.W {N : Nat → Nat} (O : okC N) : sml (sl N 20 10) 100 := fun f hf => by rw [sl_lt hf]; exact (O.1 f hf).2.2
theorem okC.D {N : Nat → Nat} (O : okC N) : N 30 < 2 ^ 31 := by have := O.2; omega
abbrev canR (N : Nat → Nat) (v x : Nat) : Prop := can (sl N 0 10) (sl N 10 10) (sl N 20 10) (N 30) (sgn v x)
abbrev cstR (N : Nat → Nat) (v x : Nat) : Nat := cst (sl N 0 10) (N 30) 0 (sgn v x)
theorem sgn_len {v x : Nat} : (sgn v x).length ≤ 4 := by
  unfold sgn
  have := @dig_len x
  rw [List.length_append]
  split
  · simp; omega
  · have := @dig_len (if x < v then v - x else x - v); omega
theorem cst_le {K : Nat → Nat} {D : Nat} : ∀ (r : List Nat) (k : Nat), k + r.length ≤ 4 → cst K D k r ≤ 6 * r.length := by
  intro r
  induction r with
  | nil => intro k _; exact Nat.le_refl _
  | cons a r ih =>
    intro k hk
    simp only [List.length_cons] at hk
    have := ih (k + 1) (by omega)
    have h6 : wr (K a) k D ≤ 6 := wr_le (by omega)
    simp only [cst, List.length_cons]
    omega
theorem nI_nm1 {x : Nat} (h : x < 2 ^ 31) : ¬ nI x = -1 := fun z => by
  have h1 := nI_toInt h
  rw [z] at h1
  have : (-1 : Int32).toInt = -1 := by decide
  omega
/-- the best so far -/
def bet (C : Nat → Nat) (v : Nat) (s : Option (Nat × Nat)) (x : Nat) : Bool := match s with
  | none => true
  | some q => decide (C x < q.2 ∨ C x = q.2 ∧ x = v)
def bst (P : Nat → Bool) (C : Nat → Nat) (v : Nat) (s : Option (Nat × Nat)) (x : Nat) : Option (Nat × Nat) := if P x = true ∧ bet C v s x = true then some (x, C x) else s
noncomputable def bC (p : Prop) : Int32 := @ite _ p (Classical.propDecidable p) 1 0
theorem bC_t {p : Prop} (h : p) : bC p = 1 := by unfold bC; exact if_pos h
theorem bC_f {p : Prop} (h : ¬ p) : bC p = 0 := by unfold bC; exact if_neg h
theorem bC_n (p : Prop) : narrow .boolean (.int (bC p)) = .int (bC p) := by
  by_cases h : p
  · rw [bC_t h]; rfl
  · rw [bC_f h]; rfl
def bstL (P : Nat → Bool) (C : Nat → Nat) (v : Nat) : Nat → Nat → Option (Nat × Nat) → Option (Nat × Nat)
  | 0, _, s => s
  | j + 1, i, s => bstL P C v j (i + 1) (bst P C v s i)
def bsF (s : Option (Nat × Nat)) : Int32 := match s with
  | none => -1
  | some q => nI q.1
def bsC (s : Option (Nat × Nat)) : Int32 := match s with
  | none => -1
  | some q => nI q.2
/-- one by one, till one can not be -/
def cnt (K S : Nat → Nat) (D : Nat) : Nat → Nat → (Nat → Nat) → Nat
  | 0, v, _ => v
  | j + 1, v, W => if can K S W D (sgn v v) then cnt K S D j (v + 1) (wad K D 0 (sgn v v) W) else v
/-- the first night -/
def whn (K S : Nat → Nat) (sg : List Nat) : Nat → Nat → (Nat → Nat) → Nat → Option Nat
  | 0, _, _, _ => none
  | j + 1, i, W, D => if can K S W D sg then some i else whn K S sg j (i + 1) (rsW K W) (D + 1)
def oI (r : Option Nat) : Int32 := match r with
  | none => -1
  | some x => nI x
theorem rsW_le {K W : Nat → Nat} {b : Nat} (h : sml W b) : sml (rsW K W) b := fun f hf => by unfold rsW; rw [if_pos hf]; have := h f hf; omega
section KL
variable {E : eT} {n : Nat} {h : hT} {N : Nat → Nat}
theorem c_byAny {v : Nat} (V : hv h N) (S : kS h) (O : okC N) (hv9 : v < 100) : fE M_K_byAny E [.ref 47, .ref 12, .int (nI v)] n h (qI (fun r k g => r = bC (∃ x, x < 100 ∧ canR N v x) ∧ k = n ∧ kS g ∧ frk h g)) := by
  have loop : ∀ (j i : Nat) (g : hT), i + j = 100 → hv g N → kS g → frk h g → (∀ x, x < i → ¬ canR N v x) → fA M_K_byAny E (fZ M_K_byAny E (qI (fun r k g => r = bC (∃ x, x < 100 ∧ canR N v x) ∧ k = n ∧ kS g ∧ frk h g))) n g 0 0 2 [some (.ref 47), some (.ref 12), some (.int (nI v)), some (.int (nI i))] [] := by
    intro j
    induction j with
    | zero =>
      intro i g hi V S Fr hx
      obtain rfl : i = 100 := by omega
      refine a_il3 fK_byAny_2 ?_
      refine a_ic fK_byAny_3 ?_
      refine a_ic_ge fK_byAny_5 (fun _ => ?_) (fun c => absurd (Int32.le_refl _) c)
      refine a_ic fK_byAny_40 ?_
      exact a_rz fK_byAny_41 rfl (by first | rfl | (split <;> rfl)) (⟨_, rfl, by rw [bC_f (fun z => hx z.choose z.choose_spec.1 z.choose_spec.2)], rfl, S, Fr⟩)
    | succ j ih =>
      intro i g hi V S Fr hx
      obtain ⟨m, f, D, W, ob, cd, op, dp, k7, k8, k9, k0, k1, k2, k3, kw⟩ := S
      refine a_il3 fK_byAny_2 ?_
      refine a_ic fK_byAny_3 ?_
      refine a_ic_ge fK_byAny_5 (fun c => absurd c (nI_ge (b := 100) (by omega) (by decide))) (fun _ => ?_)
      refine a_al0 fK_byAny_8 ?_
      refine a_gf fK_byAny_9 l_K_12 k7 rfl ?_
      refine a_il2 fK_byAny_12 ?_
      refine a_il3 fK_byAny_13 ?_
      refine a_V2Q fK_byAny_14 k_K_39 m_L_tell ⟨by decide, by decide⟩ k8 rfl ⟨rfl, rfl⟩ (Nat.le_of_ble_eq_true rfl) (c_tell (l := 48) k8 k9 hv9 (x := i) (by omega)) (fun n1 h1 p1 => ?_)
      obtain ⟨hn1, g2, q1, rfl⟩ := p1
      subst n1
      have V1 : hv (va_up (va_up g 48 (lO (48 + 1) (sgn v i).length)) (48 + 1) (ia 4 g2)) N := (V.up (by omega)).up (by omega)
      have S1 : kS (va_up (va_up g 48 (lO (48 + 1) (sgn v i).length)) (48 + 1) (ia 4 g2)) := ⟨_, g2, D, W, ob, cd, op, dp, up_n (by decide) (up_n (by decide) k7), up_n (by decide) up_s, up_s, up_n (by decide) (up_n (by decide) k0), up_n (by decide) (up_n (by decide) k1), up_n (by decide) (up_n (by decide) k2), up_n (by decide) (up_n (by decide) k3), kw⟩
      have F1 := (Fr.up (a := 48) (c := lO (48 + 1) (sgn v i).length) (by omega)).up (a := 48 + 1) (c := ia 4 g2) (by omega)
      by_cases c9 : canR N v i
      · refine a_al1 fK_byAny_17 ?_
        refine a_al1 fK_byAny_18 ?_
        refine a_gf fK_byAny_19 l_K_49 V1.1 rfl ?_
        refine a_al0 fK_byAny_22 ?_
        refine a_gf fK_byAny_23 l_K_12 (up_n (by decide) (up_n (by decide) k7)) rfl ?_
        refine a_V2V fK_byAny_26 k_K_52 m_H_takes ⟨by decide, by decide⟩ V1.1 rfl ⟨rfl, rfl⟩ (Nat.le_of_ble_eq_true rfl) (c_takes (q := 12) (s := 15) (l := 48) V1.1 V1.2.1 V1.2.2.1 V1.2.2.2.1 V1.2.2.2.2 (up_n (by decide) up_s) up_s q1 O.K O.S O.W O.D (by omega) (by omega)) ?_
        refine a_if_eq fK_byAny_29 (fun c => absurd c (fun z => by rw [bI_t c9] at z; exact absurd z (by decide))) (fun _ => ?_)
        refine a_ic fK_byAny_32 ?_
        exact a_rz fK_byAny_33 rfl (by first | rfl | (split <;> rfl)) (⟨_, rfl, by rw [bC_t ⟨i, by omega, c9⟩], rfl, S1, F1⟩)
      · refine a_al1 fK_byAny_17 ?_
        refine a_al1 fK_byAny_18 ?_
        refine a_gf fK_byAny_19 l_K_49 V1.1 rfl ?_
        refine a_al0 fK_byAny_22 ?_
        refine a_gf fK_byAny_23 l_K_12 (up_n (by decide) (up_n (by decide) k7)) rfl ?_
        refine a_V2V fK_byAny_26 k_K_52 m_H_takes ⟨by decide, by decide⟩ V1.1 rfl ⟨rfl, rfl⟩ (Nat.le_of_ble_eq_true rfl) (c_takes (q := 12) (s := 15) (l := 48) V1.1 V1.2.1 V1.2.2.1 V1.2.2.2.1 V1.2.2.2.2 (up_n (by decide) up_s) up_s q1 O.K O.S O.W O.D (by omega) (by omega)) ?_
        refine a_if_eq fK_byAny_29 (fun _ => ?_) (fun c => absurd (by rw [bI_f c9]) c)
        refine a_inc3 fK_byAny_34 (by decide) rfl ?_
        refine a_goto fK_byAny_37 ?_
        rw [nI_1]
        refine ih (i + 1) _ (by omega) V1 S1 F1 (fun x hx2 => ?_)
        by_cases c8 : x = i
        · subst c8; exact c9
        · exact hx x (by omega)
  refine fE.of (L := [some (.ref 47), some (.ref 12), some (.int (nI v)), none]) (by decide +kernel) (Nat.le_of_ble_eq_true rfl) rfl ?_
  refine a_ic fK_byAny_0 ?_
  refine a_is3 fK_byAny_1 (by decide) rfl ?_
  exact loop 100 0 h rfl V S frk.rf (fun x hx => by omega)
/-- the first number there is none of -/
def isFst (P : Nat → Prop) (r : Int32) : Prop := (∃ v, v < 100 ∧ P v ∧ (∀ u, u < v → ¬ P u) ∧ r = nI v) ∨ ((∀ v, v < 100 → ¬ P v) ∧ r = -1)
theorem c_firstW (V : hv h N) (S : kS h) (O : okC N) : fE M_K_firstWithout E [.ref 47, .ref 12] n h (qI (fun r k g => isFst (fun v => ¬ ∃ x, x < 100 ∧ canR N v x) r ∧ k = n ∧ kS g ∧ frk h g)) := by
  have loop : ∀ (j i : Nat) (g : hT), i + j = 100 → hv g N → kS g → frk h g → (∀ x, x < i → ∃ z, z < 100 ∧ canR N x z) → fA M_K_firstWithout E (fZ M_K_firstWithout E (qI (fun r k g => isFst (fun v => ¬ ∃ x, x < 100 ∧ canR N v x) r ∧ k = n ∧ kS g ∧ frk h g))) n g 0 0 2 [some (.ref 47), some (.ref 12), some (.int (nI i))] [] := by
    intro j
    induction j with
    | zero =>
      intro i g hi V S Fr hx
      obtain rfl : i = 100 := by omega
      refine a_il2 fK_firstWithout_2 ?_
      refine a_ic fK_firstWithout_3 ?_
      refine a_ic_ge fK_firstWithout_5 (fun _ => ?_) (fun c => absurd (Int32.le_refl _) c)
      refine a_ic fK_firstWithout_25 ?_
      exact a_ri fK_firstWithout_26 rfl (⟨_, rfl, Or.inr ⟨fun v hv2 z => z (hx v hv2), rfl⟩, rfl, S, Fr⟩)
    | succ j ih =>
      intro i g hi V S Fr hx
      refine a_il2 fK_firstWithout_2 ?_
      refine a_ic fK_firstWithout_3 ?_
      refine a_ic_ge fK_firstWithout_5 (fun c => absurd c (nI_ge (b := 100) (by omega) (by decide))) (fun _ => ?_)
      have k7 : ∃ op dp, g 47 = kO op dp := by obtain ⟨m, f, D, W, ob, cd, op, dp, k7, _⟩ := S; exact ⟨op, dp, k7⟩
      obtain ⟨op, dp, k7⟩ := k7
      refine a_al0 fK_firstWithout_8 ?_
      refine a_al1 fK_firstWithout_9 ?_
      refine a_il2 fK_firstWithout_10 ?_
      refine a_V2I fK_firstWithout_11 k_K_56 m_K_byAny ⟨by decide, by decide⟩ k7 rfl ⟨rfl, rfl⟩ (Nat.le_of_ble_eq_true rfl) (c_byAny V S O (v := i) (by omega)) (fun r1 n1 h1 p1 => ?_)
      obtain ⟨rfl, hn1, S1, F1⟩ := p1
      subst n1
      by_cases c9 : ∃ x, x < 100 ∧ canR N i x
      · refine a_if_ne fK_firstWithout_14 (fun _ => ?_) (fun c => absurd c (fun z => by rw [bC_t c9] at z; exact absurd z (by decide)))
        refine a_inc2 fK_firstWithout_19 (by decide) rfl ?_
        refine a_goto fK_firstWithout_22 ?_
        rw [nI_1]
        refine ih (i + 1) _ (by omega) (V.fr F1) S1 (Fr.trans F1) (fun x hx2 => ?_)
        by_cases c8 : x = i
        · subst c8; exact c9
        · exact hx x (by omega)
      · refine a_if_ne fK_firstWithout_14 (fun c => absurd (by rw [bC_f c9]) c) (fun _ => ?_)
        refine a_il2 fK_firstWithout_17 ?_
        exact a_ri fK_firstWithout_18 rfl (⟨_, rfl, Or.inl ⟨i, by omega, c9, fun u hu z => z (hx u hu), rfl⟩, rfl, S1, Fr.trans F1⟩)
  refine fE.of (L := [some (.ref 47), some (.ref 12), none]) (by decide +kernel) (Nat.le_of_ble_eq_true rfl) rfl ?_
  refine a_ic fK_firstWithout_0 ?_
  refine a_is2 fK_firstWithout_1 (by decide) rfl ?_
  exact loop 100 0 h rfl V S frk.rf (fun x hx => by omega)
theorem c_cheapest {v : Nat} (V : hv h N) (S : kS h) (O : okC N) (hv9 : v < 100) : fE M_K_cheapest E [.ref 47, .ref 12, .int (nI v)] n h (qI (fun r k g => r = bsF (bstL (fun x => decide (canR N v x)) (cstR N v) v 100 0 none) ∧ k = n ∧ kS g ∧ frk h g)) := by
  have loop : ∀ (j i : Nat) (g : hT) (s : Option (Nat × Nat)) (T : Int32) (x6 x7 : Option Value), i + j = 100 → hv g N → kS g → frk h g → (∀ q, s = some q → q.1 < 100 ∧ q.2 ≤ 24) → bsF (bstL (fun x => decide (canR N v x)) (cstR N v) v j i s) = T → fA M_K_cheapest E (fZ M_K_cheapest E (qI (fun r k g => r = T ∧ k = n ∧ kS g ∧ frk h g))) n g 0 0 8 [some (.ref 47), some (.ref 12), some (.int (nI v)), some (.int (bsC s)), some (.int (bsF s)), some (.int (nI i)), x6, x7] [] := by
    intro j
    induction j with
    | zero =>
      intro i g s T x6 x7 hi V S Fr hs hT
      obtain rfl : i = 100 := by omega
      refine a_il5 fK_cheapest_8 ?_
      refine a_ic fK_cheapest_10 ?_
      refine a_ic_ge fK_cheapest_12 (fun _ => ?_) (fun c => absurd (Int32.le_refl _) c)
      refine a_il4 fK_cheapest_99 ?_
      exact a_ri fK_cheapest_101 rfl (⟨_, rfl, hT, rfl, S, Fr⟩)
    | succ j ih =>
      intro i g s T x6 x7 hi V S Fr hs hT
      obtain ⟨m, f, D, W, ob, cd, op, dp, k7, k8, k9, k0, k1, k2, k3, kw⟩ := S
      refine a_il5 fK_cheapest_8 ?_
      refine a_ic fK_cheapest_10 ?_
      refine a_ic_ge fK_cheapest_12 (fun c => absurd c (nI_ge (b := 100) (by omega) (by decide))) (fun _ => ?_)
      refine a_al0 fK_cheapest_15 ?_
      refine a_gf fK_cheapest_16 l_K_12 k7 rfl ?_
      refine a_il2 fK_cheapest_19 ?_
      refine a_il5 fK_cheapest_20 ?_
      refine a_V2Q fK_cheapest_22 k_K_39 m_L_tell ⟨by decide, by decide⟩ k8 rfl ⟨rfl, rfl⟩ (Nat.le_of_ble_eq_true rfl) (c_tell (l := 48) k8 k9 hv9 (x := i) (by omega)) (fun n1 h1 p1 => ?_)
      obtain ⟨hn1, g2, q1, rfl⟩ := p1
      subst n1
      have V1 : hv (va_up (va_up g 48 (lO (48 + 1) (sgn v i).length)) (48 + 1) (ia 4 g2)) N := (V.up (by omega)).up (by omega)
      have S1 : kS (va_up (va_up g 48 (lO (48 + 1) (sgn v i).length)) (48 + 1) (ia 4 g2)) := ⟨_, g2, D, W, ob, cd, op, dp, up_n (by decide) (up_n (by decide) k7), up_n (by decide) up_s, up_s, up_n (by decide) (up_n (by decide) k0), up_n (by decide) (up_n (by decide) k1), up_n (by decide) (up_n (by decide) k2), up_n (by decide) (up_n (by decide) k3), kw⟩
      have F1 := (Fr.up (a := 48) (c := lO (48 + 1) (sgn v i).length) (by omega)).up (a := 48 + 1) (c := ia 4 g2) (by omega)
      have K7 := up_n (f := va_up g 48 (lO (48 + 1) (sgn v i).length)) (a := 48 + 1) (b := 47) (c := ia 4 g2) (by decide) (up_n (f := g) (a := 48) (c := lO (48 + 1) (sgn v i).length) (by decide) k7)
      have L8 : va_up (va_up g 48 (lO (48 + 1) (sgn v i).length)) (48 + 1) (ia 4 g2) 48 = lO 49 (sgn v i).length := up_n (by decide) up_s
      have L9 : va_up (va_up g 48 (lO (48 + 1) (sgn v i).length)) (48 + 1) (ia 4 g2) 49 = ia 4 g2 := up_s
      generalize va_up (va_up g 48 (lO (48 + 1) (sgn v i).length)) (48 + 1) (ia 4 g2) = gg at V1 S1 F1 K7 L8 L9 ⊢
      have hc : cstR N v i ≤ 24 := Nat.le_trans (cst_le _ 0 (by have := @sgn_len v i; omega)) (by have := @sgn_len v i; omega)
      refine a_al1 fK_cheapest_25 ?_
      refine a_al0 fK_cheapest_26 ?_
      refine a_gf fK_cheapest_27 l_K_12 K7 rfl ?_
      refine a_V1V fK_cheapest_30 k_K_43 m_H_costOf ⟨by decide, by decide⟩ V1.1 rfl ⟨rfl, rfl⟩ (Nat.le_of_ble_eq_true rfl) (c_costOf (q := 12) (l := 48) V1.1 V1.2.1 V1.2.2.2.1 L8 L9 q1 O.K O.D) ?_
      refine a_is6 fK_cheapest_33 (by decide) rfl ?_
      have nx : ∀ (s2 : Option (Nat × Nat)) (y7 : Option Value), bst (fun x => decide (canR N v x)) (cstR N v) v s i = s2 → fA M_K_cheapest E (fZ M_K_cheapest E (qI (fun r k g => r = T ∧ k = n ∧ kS g ∧ frk h g))) n gg 0 0 93 [some (.ref 47), some (.ref 12), some (.int (nI v)), some (.int (bsC s2)), some (.int (bsF s2)), some (.int (nI i)), some (.int (nI (cstR N v i))), y7] [] := by
        intro s2 y7 he
        refine a_inc5 fK_cheapest_93 (by decide) rfl ?_
        refine a_goto fK_cheapest_96 ?_
        rw [nI_1]
        refine ih (i + 1) gg s2 T _ _ (by omega) V1 S1 F1 (fun q hq => ?_) (by rw [← hT, ← he]; rfl)
        rw [hq] at he
        unfold bst at he
        split at he
        · cases he; exact ⟨by omega, hc⟩
        · exact hs q he
      -- better
      have bt : (bet (cstR N v) v s i = true) → fA M_K_cheapest E (fZ M_K_cheapest E (qI (fun r k g => r = T ∧ k = n ∧ kS g ∧ frk h g))) n gg 0 0 59 [some (.ref 47), some (.ref 12), some (.int (nI v)), some (.int (bsC s)), some (.int (bsF s)), some (.int (nI i)), some (.int (nI (cstR N v i))), x7] [] := by
        intro hb
        refine a_ic fK_cheapest_59 ?_
        refine a_goto fK_cheapest_60 ?_
        refine a_is7 fK_cheapest_64 (by decide) rfl ?_
        refine a_il7 fK_cheapest_66 ?_
        refine a_if_eq fK_cheapest_68 (fun c => absurd c (by decide)) (fun _ => ?_)
        by_cases c9 : canR N v i
        · refine a_al1 fK_cheapest_71 ?_
          refine a_al1 fK_cheapest_72 ?_
          refine a_gf fK_cheapest_73 l_K_49 V1.1 rfl ?_
          refine a_al0 fK_cheapest_76 ?_
          refine a_gf fK_cheapest_77 l_K_12 K7 rfl ?_
          refine a_V2V fK_cheapest_80 k_K_52 m_H_takes ⟨by decide, by decide⟩ V1.1 rfl ⟨rfl, rfl⟩ (Nat.le_of_ble_eq_true rfl) (c_takes (q := 12) (s := 15) (l := 48) V1.1 V1.2.1 V1.2.2.1 V1.2.2.2.1 V1.2.2.2.2 L8 L9 q1 O.K O.S O.W O.D (by omega) (by omega)) ?_
          refine a_if_eq fK_cheapest_83 (fun c => absurd c (fun z => by rw [bI_t c9] at z; exact absurd z (by decide))) (fun _ => ?_)
          refine a_il6 fK_cheapest_86 ?_
          refine a_is3 fK_cheapest_88 (by decide) rfl ?_
          refine a_il5 fK_cheapest_89 ?_
          refine a_is4 fK_cheapest_91 (by decide) rfl ?_
          exact nx (some (i, cstR N v i)) _ (by unfold bst; rw [if_pos ⟨decide_eq_true c9, hb⟩])
        · refine a_al1 fK_cheapest_71 ?_
          refine a_al1 fK_cheapest_72 ?_
          refine a_gf fK_cheapest_73 l_K_49 V1.1 rfl ?_
          refine a_al0 fK_cheapest_76 ?_
          refine a_gf fK_cheapest_77 l_K_12 K7 rfl ?_
          refine a_V2V fK_cheapest_80 k_K_52 m_H_takes ⟨by decide, by decide⟩ V1.1 rfl ⟨rfl, rfl⟩ (Nat.le_of_ble_eq_true rfl) (c_takes (q := 12) (s := 15) (l := 48) V1.1 V1.2.1 V1.2.2.1 V1.2.2.2.1 V1.2.2.2.2 L8 L9 q1 O.K O.S O.W O.D (by omega) (by omega)) ?_
          refine a_if_eq fK_cheapest_83 (fun _ => ?_) (fun c => absurd (by rw [bI_f c9]) c)
          exact nx s _ (by unfold bst; rw [if_neg (fun z => absurd (of_decide_eq_true z.1) c9)])
      have nb : ¬ (bet (cstR N v) v s i = true) → fA M_K_cheapest E (fZ M_K_cheapest E (qI (fun r k g => r = T ∧ k = n ∧ kS g ∧ frk h g))) n gg 0 0 63 [some (.ref 47), some (.ref 12), some (.int (nI v)), some (.int (bsC s)), some (.int (bsF s)), some (.int (nI i)), some (.int (nI (cstR N v i))), x7] [] := by
        intro hb
        refine a_ic fK_cheapest_63 ?_
        refine a_is7 fK_cheapest_64 (by decide) rfl ?_
        refine a_il7 fK_cheapest_66 ?_
        refine a_if_eq fK_cheapest_68 (fun _ => ?_) (fun c => absurd (rfl) c)
        exact nx s _ (by unfold bst; rw [if_neg (fun z => hb z.2)])
      cases s with
      | none =>
        refine a_il4 fK_cheapest_35 ?_
        refine a_ic fK_cheapest_37 ?_
        refine a_ic_eq fK_cheapest_38 (fun _ => ?_) (fun c => absurd (rfl) c)
        exact bt rfl
      | some q =>
        obtain ⟨b1, b2⟩ := hs q rfl
        refine a_il4 fK_cheapest_35 ?_
        refine a_ic fK_cheapest_37 ?_
        refine a_ic_eq fK_cheapest_38 (fun c => absurd c (nI_nm1 (by omega))) (fun _ => ?_)
        refine a_il6 fK_cheapest_41 ?_
        refine a_il3 fK_cheapest_43 ?_
        refine a_ic_lt fK_cheapest_44 (fun c => ?_) (fun c => ?_)
        · exact bt (decide_eq_true (Or.inl ((nI_ltI (by omega) (by omega)).mp c)))
        · have c1 : ¬ cstR N v i < q.2 := fun z => c (nI_lt z (by omega))
          refine a_il6 fK_cheapest_47 ?_
          refine a_il3 fK_cheapest_49 ?_
          refine a_ic_ne fK_cheapest_50 (fun c => ?_) (fun c => ?_)
          · have c2 : ¬ cstR N v i = q.2 := fun z => c (congrArg nI z)
            exact nb (fun z => (of_decide_eq_true z).elim c1 (fun z => c2 z.1))
          · have c2 : cstR N v i = q.2 := (nI_eq (by omega) (by omega)).mp c
            refine a_il5 fK_cheapest_53 ?_
            refine a_il2 fK_cheapest_55 ?_
            refine a_ic_ne fK_cheapest_56 (fun c => ?_) (fun c => ?_)
            · exact nb (fun z => (of_decide_eq_true z).elim c1 (fun z => c (by rw [z.2])))
            · exact bt (decide_eq_true (Or.inr ⟨c2, (nI_eq (by omega) (by omega)).mp c⟩))
  refine fE.of (L := [some (.ref 47), some (.ref 12), some (.int (nI v)), none, none, none, none, none]) (by decide +kernel) (Nat.le_of_ble_eq_true rfl) rfl ?_
  refine a_ic fK_cheapest_0 ?_
  refine a_is3 fK_cheapest_1 (by decide) rfl ?_
  refine a_ic fK_cheapest_2 ?_
  refine a_is4 fK_cheapest_3 (by decide) rfl ?_
  refine a_ic fK_cheapest_5 ?_
  refine a_is5 fK_cheapest_6 (by decide) rfl ?_
  exact loop 100 0 h none _ none none rfl V S frk.rf (fun q hq => by cases hq) rfl
end KL
