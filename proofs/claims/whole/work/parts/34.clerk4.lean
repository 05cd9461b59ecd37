/-! the clerk: two clerks, odds -/
def pb (a b p : Nat) : Nat := (if p % 2 = 0 then 0 else 2 ^ a) ||| (if p / 2 = 0 then 0 else 2 ^ b)
def gR (N : Nat → Nat) (own a b p : Nat) : Nat := if (if own = a then p % 2 else p / 2) = 0 then N (38 + own) / 2 else if gtR N (pb a b p) = true then N (38 + own) else 0
def rpP (N : Nat → Nat) (a b p : Nat) : Bool := decide (gR N a a b (p ^^^ 1) ≤ gR N a a b p ∧ gR N b a b (p ^^^ 2) ≤ gR N b a b p)
theorem and1 : ∀ p, p < 4 → nI p &&& 1 = nI (p % 2) := by decide
theorem and2 : ∀ p, p < 4 → nI p &&& 2 = nI (p / 2 * 2) := by decide
theorem xor1 : ∀ p, p < 4 → nI p ^^^ 1 = nI (p ^^^ 1) ∧ p ^^^ 1 < 4 := by decide
theorem xor2 : ∀ p, p < 4 → nI p ^^^ 2 = nI (p ^^^ 2) ∧ p ^^^ 2 < 4 := by decide
theorem sh6 : ∀ m, m ≤ 6 → (1 : Int32) <<< (nI m &&& 31) = nI (2 ^ m) := by decide
theorem pb_lt {a b p : Nat} (ha : a < 6) (hb : b < 6) : pb a b p < 64 := by
  unfold pb
  have h1 : (if p % 2 = 0 then 0 else 2 ^ a) < 2 ^ 6 := by split; decide; exact Nat.pow_lt_pow_right (by decide) ha
  have h2 : (if p / 2 = 0 then 0 else 2 ^ b) < 2 ^ 6 := by split; decide; exact Nat.pow_lt_pow_right (by decide) hb
  exact Nat.or_lt_two_pow h1 h2
theorem gR_le {N : Nat → Nat} {own a b p : Nat} (h : N (38 + own) < 100) : gR N own a b p < 100 := by
  unfold gR
  by_cases c : (if own = a then p % 2 else p / 2) = 0
  · rw [if_pos c]; omega
  · rw [if_neg c]; split <;> omega
/-- worn by the signs that aren't free -/
def wfr (K : Nat → Nat) (D free : Nat) : Nat → List Nat → (Nat → Nat) → (Nat → Nat)
  | _, [], w => w
  | k, f :: r, w => if free / 2 ^ k % 2 = 0 then wfr K D free (k + 1) r (va_up w f (w f + wr (K f) k D)) else wfr K D free (k + 1) r w
/-- the ways of a row of free signs -/
def wys (c free : Nat) : Nat → Nat → Nat → Nat
  | 0, _, w => w
  | j + 1, k, w => wys c free j (k + 1) (w * (if free / 2 ^ k % 2 = 1 then c else 10 - c))
def lck (P : Nat → Bool) (C : Nat → Nat) : Nat → Nat → Nat → Nat
  | 0, _, s => s
  | j + 1, i, s => lck P C j (i + 1) (if P i then s + C i else s)
theorem wfr_le {K : Nat → Nat} {D free : Nat} : ∀ (r : List Nat) (k : Nat) (W : Nat → Nat) (f : Nat), k + r.length ≤ 4 → wfr K D free k r W f ≤ W f + 6 * r.length := by
  intro r
  induction r with
  | nil => intro k W f _; exact Nat.le_add_right _ _
  | cons a r ih =>
    intro k W f hk
    simp only [List.length_cons] at hk
    have h6 : wr (K a) k D ≤ 6 := wr_le (by omega)
    simp only [wfr, List.length_cons]
    split
    · have := ih (k + 1) (va_up W a (W a + wr (K a) k D)) f (by omega)
      by_cases h1 : f = a
      · subst h1; simp [va_up] at this; omega
      · simp [va_up, h1] at this; omega
    · have := ih (k + 1) W f (by omega); omega
theorem kz_wfr {K : Nat → Nat} {D free : Nat} : ∀ (r : List Nat) (k : Nat) (W : Nat → Nat), (∀ f ∈ r, f < 10) → kz W → kz (wfr K D free k r W) := by
  intro r
  induction r with
  | nil => intro k W _ h; exact h
  | cons a r ih =>
    intro k W hr h
    simp only [wfr]
    split
    · refine ih (k + 1) _ (fun f hf => hr f (List.mem_cons_of_mem _ hf)) (fun i hi => ?_)
      have := hr a List.mem_cons_self
      rw [vn (by omega)]
      exact h i hi
    · exact ih (k + 1) _ (fun f hf => hr f (List.mem_cons_of_mem _ hf)) h
section K4
variable {E : eT} {n : Nat} {h : hT} {N : Nat → Nat}
theorem c_gain {own a b p : Nat} (V : hv h N) (B : bv h N) (S : kS h) (O : okC N) (OB : okB N) (ho : own < N 31) (ha : a < N 31) (hb : b < N 31) (hp : p < 4) : fE M_K_gain E [.ref 47, .ref 12, .int (nI own), .int (nI a), .int (nI b), .int (nI p)] n h (qI (fun r k g => r = nI (gR N own a b p) ∧ k = n ∧ kS g ∧ frk h g)) := by
  have ob6 := OB.1
  obtain ⟨b1, bn, bw, b2, b3, b4⟩ := id B
  have ew : nF bw own = nI (N (38 + own)) := congrArg nI (b4 own ho).2
  have lw := (OB.2.1 own ho).2
  have k7 : ∃ op dp, h 47 = kO op dp := by obtain ⟨m, f, D, W, ob, cd, op, dp, k7, _⟩ := S; exact ⟨op, dp, k7⟩
  obtain ⟨op, dp, k7⟩ := k7
  have k73 : ∀ (v1 v2 : Nat), v1 ||| v2 = pb a b p → ¬ (if own = a then p % 2 else p / 2) = 0 → ∀ y7 y8 : Option Value, c1 y7 = true → fA M_K_gain E (fZ M_K_gain E (qI (fun r k g => r = nI (gR N own a b p) ∧ k = n ∧ kS g ∧ frk h g))) n h 0 0 73 [some (.ref 47), some (.ref 12), some (.int (nI own)), some (.int (nI a)), some (.int (nI b)), some (.int (nI p)), some (.int (nI (N (38 + own)))), y7, y8] [.int (nI v2), .int (nI v1)] := by
    intro v1 v2 hv hw y7 y8 hy
    refine a_ior fK_gain_73 ?_
    rw [nI_or, hv]
    refine a_is8 fK_gain_74 (by decide) hy ?_
    refine a_al0 fK_gain_76 ?_
    refine a_al1 fK_gain_77 ?_
    refine a_il8 fK_gain_78 ?_
    refine a_V2I fK_gain_80 k_K_86 m_K_goTogether ⟨by decide, by decide⟩ k7 rfl ⟨rfl, rfl⟩ (Nat.le_of_ble_eq_true rfl) (c_goTogether V B S O OB (bits := pb a b p) (pb_lt (by omega) (by omega))) (fun r1 n1 h1 p1 => ?_)
    obtain ⟨rfl, hn1, S1, F1⟩ := p1
    subst n1
    by_cases c3 : gtR N (pb a b p) = true
    · refine a_if_eq fK_gain_83 (fun c_ => absurd c_ (fun z => by rw [bI_t c3] at z; exact absurd z (by decide))) (fun _ => ?_)
      refine a_il6 fK_gain_86 ?_
      refine a_goto fK_gain_88 ?_
      exact a_ri fK_gain_92 rfl (⟨_, rfl, by unfold gR; rw [if_neg hw, if_pos c3], rfl, S1, F1⟩)
    · refine a_if_eq fK_gain_83 (fun _ => ?_) (fun c_ => absurd (by rw [bI_f c3]) c_)
      refine a_ic fK_gain_91 ?_
      exact a_ri fK_gain_92 rfl (⟨_, rfl, by unfold gR; rw [if_neg hw, if_neg c3]; rfl, rfl, S1, F1⟩)
  have k58 : ∀ (v1 : Nat), v1 = (if p % 2 = 0 then 0 else 2 ^ a) → ¬ (if own = a then p % 2 else p / 2) = 0 → ∀ y7 y8 : Option Value, c1 y7 = true → fA M_K_gain E (fZ M_K_gain E (qI (fun r k g => r = nI (gR N own a b p) ∧ k = n ∧ kS g ∧ frk h g))) n h 0 0 58 [some (.ref 47), some (.ref 12), some (.int (nI own)), some (.int (nI a)), some (.int (nI b)), some (.int (nI p)), some (.int (nI (N (38 + own)))), y7, y8] [.int (nI v1)] := by
    intro v1 hv hw y7 y8 hy
    refine a_il5 fK_gain_58 ?_
    refine a_ic fK_gain_60 ?_
    refine a_iand fK_gain_61 ?_
    rw [and2 p hp]
    by_cases c : p / 2 = 0
    · refine a_if_ne fK_gain_62 (fun c_ => absurd (by rw [c]; rfl) c_) (fun _ => ?_)
      refine a_ic fK_gain_65 ?_
      refine a_goto fK_gain_66 ?_
      exact k73 v1 0 (by unfold pb; rw [if_pos c, hv]) hw y7 y8 hy
    · refine a_if_ne fK_gain_62 (fun _ => ?_) (fun c_ => absurd c_ (fun z => c (by have := (nI_eq (b := 0) (by omega) (by decide)).mp z; omega)))
      refine a_ic fK_gain_69 ?_
      refine a_il4 fK_gain_70 ?_
      refine a_ishl fK_gain_72 ?_
      rw [sh6 b (by omega)]
      exact k73 v1 (2 ^ b) (by unfold pb; rw [if_neg c, hv]) hw y7 y8 hy
  have k24 : ∀ (w : Nat), w < 4 → (w = 0 ↔ (if own = a then p % 2 else p / 2) = 0) → fA M_K_gain E (fZ M_K_gain E (qI (fun r k g => r = nI (gR N own a b p) ∧ k = n ∧ kS g ∧ frk h g))) n h 0 0 24 [some (.ref 47), some (.ref 12), some (.int (nI own)), some (.int (nI a)), some (.int (nI b)), some (.int (nI p)), some (.int (nI (N (38 + own)))), none, none] [.int (nI w)] := by
    intro w hw4 hw
    by_cases c : w = 0
    · refine a_if_ne fK_gain_24 (fun c_ => absurd (by rw [c]; rfl) c_) (fun _ => ?_)
      refine a_ic fK_gain_27 ?_
      refine a_goto fK_gain_28 ?_
      refine a_is7 fK_gain_32 (by decide) rfl ?_
      refine a_il7 fK_gain_34 ?_
      refine a_if_eq fK_gain_36 (fun c_ => absurd c_ (by decide)) (fun _ => ?_)
      refine a_il6 fK_gain_39 ?_
      refine a_ic fK_gain_41 ?_
      refine a_idiv fK_gain_42 (by decide) ?_
      rw [show nI (N (38 + own)) / 2 = nI (N (38 + own) / 2) from pk_div (d := 2) (by omega) (by decide) (by decide)]
      exact a_ri fK_gain_43 rfl ⟨_, rfl, by unfold gR; rw [if_pos (hw.mp c)], rfl, S, frk.rf⟩
    · refine a_if_ne fK_gain_24 (fun _ => ?_) (fun c_ => absurd c_ (fun z => c ((nI_eq (b := 0) (by omega) (by decide)).mp z)))
      refine a_ic fK_gain_31 ?_
      refine a_is7 fK_gain_32 (by decide) rfl ?_
      refine a_il7 fK_gain_34 ?_
      refine a_if_eq fK_gain_36 (fun _ => ?_) (fun c_ => absurd (rfl) c_)
      have hw2 : ¬ (if own = a then p % 2 else p / 2) = 0 := fun z => c (hw.mpr z)
      refine a_il5 fK_gain_44 ?_
      refine a_ic fK_gain_46 ?_
      refine a_iand fK_gain_47 ?_
      rw [and1 p hp]
      by_cases c2 : p % 2 = 0
      · refine a_if_ne fK_gain_48 (fun c_ => absurd (by rw [c2]; rfl) c_) (fun _ => ?_)
        refine a_ic fK_gain_51 ?_
        refine a_goto fK_gain_52 ?_
        exact k58 0 (by rw [if_pos c2]) hw2 _ _ rfl
      · refine a_if_ne fK_gain_48 (fun _ => ?_) (fun c_ => absurd c_ (fun z => c2 ((nI_eq (b := 0) (by omega) (by decide)).mp z)))
        refine a_ic fK_gain_55 ?_
        refine a_il3 fK_gain_56 ?_
        refine a_ishl fK_gain_57 ?_
        rw [sh6 a (by omega)]
        exact k58 (2 ^ a) (by rw [if_neg c2]) hw2 _ _ rfl
  refine fE.of (L := [some (.ref 47), some (.ref 12), some (.int (nI own)), some (.int (nI a)), some (.int (nI b)), some (.int (nI p)), none, none, none]) (by decide +kernel) (Nat.le_of_ble_eq_true rfl) rfl ?_
  refine a_al1 fK_gain_0 ?_
  refine a_gf fK_gain_1 l_K_70 V.1 rfl ?_
  refine a_gf fK_gain_4 l_K_118 b1 rfl ?_
  refine a_il2 fK_gain_7 ?_
  refine a_ia fK_gain_8 b3 rfl (by omega) (by decide) ?_
  rw [ew]
  refine a_is6 fK_gain_9 (by decide) rfl ?_
  by_cases co : own = a
  · refine a_il5 fK_gain_11 ?_
    refine a_il2 fK_gain_13 ?_
    refine a_il3 fK_gain_14 ?_
    refine a_ic_ne fK_gain_15 (fun c_ => absurd (congrArg nI co) c_) (fun _ => ?_)
    refine a_ic fK_gain_18 ?_
    refine a_goto fK_gain_19 ?_
    refine a_iand fK_gain_23 ?_
    rw [and1 p hp]
    exact k24 _ (by omega) (by rw [if_pos co])
  · refine a_il5 fK_gain_11 ?_
    refine a_il2 fK_gain_13 ?_
    refine a_il3 fK_gain_14 ?_
    refine a_ic_ne fK_gain_15 (fun _ => ?_) (fun c_ => absurd c_ (fun z => co ((nI_eq (by omega) (by omega)).mp z)))
    refine a_ic fK_gain_22 ?_
    refine a_iand fK_gain_23 ?_
    rw [and2 p hp]
    exact k24 _ (by omega) (by rw [if_neg co]; omega)
theorem c_resting {a b : Nat} (V : hv h N) (B : bv h N) (S : kS h) (O : okC N) (OB : okB N) (ha : a < N 31) (hb : b < N 31) : fE M_K_restingPairs E [.ref 47, .ref 12, .int (nI a), .int (nI b)] n h (qI (fun r k g => r = nI (kbs (rpP N a b) 4 0 0) ∧ k = n ∧ kS g ∧ frk h g)) := by
  have ob6 := OB.1
  have la := (OB.2.1 a ha).2
  have lb := (OB.2.1 b hb).2
  have kx : ∀ g : hT, kS g → ∃ op dp, g 47 = kO op dp := fun g S => by obtain ⟨m, f, D, W, ob, cd, op, dp, k7, _⟩ := S; exact ⟨op, dp, k7⟩
  have loop : ∀ (j i b0 : Nat) (g : hT) (T : Nat) (x6 x7 : Option Value), i + j = 4 → hv g N → bv g N → kS g → frk h g → kbs (rpP N a b) j i b0 = T → fA M_K_restingPairs E (fZ M_K_restingPairs E (qI (fun r k g => r = nI T ∧ k = n ∧ kS g ∧ frk h g))) n g 0 0 6 [some (.ref 47), some (.ref 12), some (.int (nI a)), some (.int (nI b)), some (.int (nI b0)), some (.int (nI i)), x6, x7] [] := by
    intro j
    induction j with
    | zero =>
      intro i b0 g T x6 x7 hi V B S Fr hT
      obtain rfl : i = 4 := by omega
      refine a_il5 fK_restingPairs_6 ?_
      refine a_ic fK_restingPairs_8 ?_
      refine a_ic_ge fK_restingPairs_9 (fun _ => ?_) (fun c_ => absurd (Int32.le_refl _) c_)
      refine a_il4 fK_restingPairs_101 ?_
      exact a_ri fK_restingPairs_103 rfl (⟨_, rfl, by rw [← hT]; rfl, rfl, S, Fr⟩)
    | succ j ih =>
      intro i b0 g T x6 x7 hi V B S Fr hT
      obtain ⟨op, dp, k7⟩ := kx g S
      refine a_il5 fK_restingPairs_6 ?_
      refine a_ic fK_restingPairs_8 ?_
      refine a_ic_ge fK_restingPairs_9 (fun c_ => absurd c_ (nI_ge (b := 4) (by omega) (by decide))) (fun _ => ?_)
      obtain ⟨x1, x1l⟩ := xor1 i (by omega)
      obtain ⟨x2, x2l⟩ := xor2 i (by omega)
      refine a_al0 fK_restingPairs_12 ?_
      refine a_al1 fK_restingPairs_13 ?_
      refine a_il2 fK_restingPairs_14 ?_
      refine a_il2 fK_restingPairs_15 ?_
      refine a_il3 fK_restingPairs_16 ?_
      refine a_il5 fK_restingPairs_17 ?_
      refine a_V5I fK_restingPairs_19 k_K_114 m_K_gain ⟨by decide, by decide⟩ k7 rfl ⟨rfl, rfl⟩ (Nat.le_of_ble_eq_true rfl) (c_gain V B S O OB ha ha hb (p := i) (by omega)) (fun r1 n1 h1 p1 => ?_)
      obtain ⟨rfl, hn1, S1, F1⟩ := p1
      subst n1
      have V1 := V.fr F1
      have B1 := B.fr F1
      obtain ⟨op1, dp1, k71⟩ := kx h1 S1
      refine a_al0 fK_restingPairs_22 ?_
      refine a_al1 fK_restingPairs_23 ?_
      refine a_il2 fK_restingPairs_24 ?_
      refine a_il2 fK_restingPairs_25 ?_
      refine a_il3 fK_restingPairs_26 ?_
      refine a_il5 fK_restingPairs_27 ?_
      refine a_ic fK_restingPairs_29 ?_
      refine a_ixor fK_restingPairs_30 ?_
      rw [x1]
      refine a_V5I fK_restingPairs_31 k_K_114 m_K_gain ⟨by decide, by decide⟩ k71 rfl ⟨rfl, rfl⟩ (Nat.le_of_ble_eq_true rfl) (c_gain V1 B1 S1 O OB ha ha hb x1l) (fun r2 n1 h2 p2 => ?_)
      obtain ⟨rfl, hn1, S2, F2⟩ := p2
      subst n1
      have V2 := V1.fr F2
      have B2 := B1.fr F2
      obtain ⟨op2, dp2, k72⟩ := kx h2 S2
      have g1 := gR_le (N := N) (own := a) (a := a) (b := b) (p := i) la
      have g2 := gR_le (N := N) (own := a) (a := a) (b := b) (p := i ^^^ 1) la
      have g3 := gR_le (N := N) (own := b) (a := a) (b := b) (p := i) lb
      have g4 := gR_le (N := N) (own := b) (a := a) (b := b) (p := i ^^^ 2) lb
      have k42 : fA M_K_restingPairs E (fZ M_K_restingPairs E (qI (fun r k g => r = nI T ∧ k = n ∧ kS g ∧ frk h g))) n h2 0 0 42 [some (.ref 47), some (.ref 12), some (.int (nI a)), some (.int (nI b)), some (.int (nI b0)), some (.int (nI i)), x6, x7] [.int (bI (gR N a a b (i ^^^ 1) ≤ gR N a a b i))] := by
        refine a_is6 fK_restingPairs_42 (by decide) rfl ?_
        refine a_al0 fK_restingPairs_44 ?_
        refine a_al1 fK_restingPairs_45 ?_
        refine a_il3 fK_restingPairs_46 ?_
        refine a_il2 fK_restingPairs_47 ?_
        refine a_il3 fK_restingPairs_48 ?_
        refine a_il5 fK_restingPairs_49 ?_
        refine a_V5I fK_restingPairs_51 k_K_114 m_K_gain ⟨by decide, by decide⟩ k72 rfl ⟨rfl, rfl⟩ (Nat.le_of_ble_eq_true rfl) (c_gain V2 B2 S2 O OB hb ha hb (p := i) (by omega)) (fun r3 n1 h3 p3 => ?_)
        obtain ⟨rfl, hn1, S3, F3⟩ := p3
        subst n1
        have V3 := V2.fr F3
        have B3 := B2.fr F3
        obtain ⟨op3, dp3, k73⟩ := kx h3 S3
        refine a_al0 fK_restingPairs_54 ?_
        refine a_al1 fK_restingPairs_55 ?_
        refine a_il3 fK_restingPairs_56 ?_
        refine a_il2 fK_restingPairs_57 ?_
        refine a_il3 fK_restingPairs_58 ?_
        refine a_il5 fK_restingPairs_59 ?_
        refine a_ic fK_restingPairs_61 ?_
        refine a_ixor fK_restingPairs_62 ?_
        rw [x2]
        refine a_V5I fK_restingPairs_63 k_K_114 m_K_gain ⟨by decide, by decide⟩ k73 rfl ⟨rfl, rfl⟩ (Nat.le_of_ble_eq_true rfl) (c_gain V3 B3 S3 O OB hb ha hb x2l) (fun r4 n1 h4 p4 => ?_)
        obtain ⟨rfl, hn1, S4, F4⟩ := p4
        subst n1
        have V4 := V3.fr F4
        have B4 := B3.fr F4
        have Fz : frk h h4 := (((Fr.trans F1).trans F2).trans F3).trans F4
        have nx : ∀ (b2 : Nat) (y6 y7 : Option Value), (if rpP N a b i then b0 ||| 2 ^ i else b0) = b2 → fA M_K_restingPairs E (fZ M_K_restingPairs E (qI (fun r k g => r = nI T ∧ k = n ∧ kS g ∧ frk h g))) n h4 0 0 95 [some (.ref 47), some (.ref 12), some (.int (nI a)), some (.int (nI b)), some (.int (nI b2)), some (.int (nI i)), y6, y7] [] := by
          intro b2 y6 y7 he
          refine a_inc5 fK_restingPairs_95 (by decide) rfl ?_
          refine a_goto fK_restingPairs_98 ?_
          rw [nI_1]
          exact ih (i + 1) b2 h4 T _ _ (by omega) V4 B4 S4 Fz (by rw [← hT, ← he]; rfl)
        have k74 : fA M_K_restingPairs E (fZ M_K_restingPairs E (qI (fun r k g => r = nI T ∧ k = n ∧ kS g ∧ frk h g))) n h4 0 0 74 [some (.ref 47), some (.ref 12), some (.int (nI a)), some (.int (nI b)), some (.int (nI b0)), some (.int (nI i)), some (.int (bI (gR N a a b (i ^^^ 1) ≤ gR N a a b i))), x7] [.int (bI (gR N b a b (i ^^^ 2) ≤ gR N b a b i))] := by
          refine a_is7 fK_restingPairs_74 (by decide) rfl ?_
          by_cases d1 : gR N a a b (i ^^^ 1) ≤ gR N a a b i
          · refine a_il6 fK_restingPairs_76 ?_
            refine a_if_eq fK_restingPairs_78 (fun c_ => absurd c_ (fun z => by rw [bI_t d1] at z; exact absurd z (by decide))) (fun _ => ?_)
            by_cases d2 : gR N b a b (i ^^^ 2) ≤ gR N b a b i
            · refine a_il7 fK_restingPairs_81 ?_
              refine a_if_eq fK_restingPairs_83 (fun c_ => absurd c_ (fun z => by rw [bI_t d2] at z; exact absurd z (by decide))) (fun _ => ?_)
              refine a_il4 fK_restingPairs_86 ?_
              refine a_ic fK_restingPairs_88 ?_
              refine a_il5 fK_restingPairs_89 ?_
              refine a_ishl fK_restingPairs_91 ?_
              refine a_ior fK_restingPairs_92 ?_
              rw [shl1 i (by omega), nI_or]
              refine a_is4 fK_restingPairs_93 (by decide) rfl ?_
              exact nx _ _ _ (by unfold rpP; rw [if_pos (decide_eq_true ⟨d1, d2⟩)])
            · refine a_il7 fK_restingPairs_81 ?_
              refine a_if_eq fK_restingPairs_83 (fun _ => ?_) (fun c_ => absurd (by rw [bI_f d2]) c_)
              exact nx _ _ _ (by unfold rpP; rw [if_neg (fun z => d2 (of_decide_eq_true z).2)])
          · refine a_il6 fK_restingPairs_76 ?_
            refine a_if_eq fK_restingPairs_78 (fun _ => ?_) (fun c_ => absurd (by rw [bI_f d1]) c_)
            exact nx _ _ _ (by unfold rpP; rw [if_neg (fun z => d1 (of_decide_eq_true z).1)])
        by_cases d2 : gR N b a b (i ^^^ 2) ≤ gR N b a b i
        · refine a_ic_lt fK_restingPairs_66 (fun c_ => absurd c_ (fun z => absurd ((nI_ltI (by omega) (by omega)).mp z) (by omega))) (fun _ => ?_)
          refine a_ic fK_restingPairs_69 ?_
          refine a_goto fK_restingPairs_70 ?_
          rw [← bI_t d2]
          exact k74
        · refine a_ic_lt fK_restingPairs_66 (fun _ => ?_) (fun c_ => absurd (nI_lt (by omega) (by omega)) c_)
          refine a_ic fK_restingPairs_73 ?_
          rw [← bI_f d2]
          exact k74
      by_cases d1 : gR N a a b (i ^^^ 1) ≤ gR N a a b i
      · refine a_ic_lt fK_restingPairs_34 (fun c_ => absurd c_ (fun z => absurd ((nI_ltI (by omega) (by omega)).mp z) (by omega))) (fun _ => ?_)
        refine a_ic fK_restingPairs_37 ?_
        refine a_goto fK_restingPairs_38 ?_
        rw [← bI_t d1]
        exact k42
      · refine a_ic_lt fK_restingPairs_34 (fun _ => ?_) (fun c_ => absurd (nI_lt (by omega) (by omega)) c_)
        refine a_ic fK_restingPairs_41 ?_
        rw [← bI_f d1]
        exact k42
  refine fE.of (L := [some (.ref 47), some (.ref 12), some (.int (nI a)), some (.int (nI b)), none, none, none, none]) (by decide +kernel) (Nat.le_of_ble_eq_true rfl) rfl ?_
  refine a_ic fK_restingPairs_0 ?_
  refine a_is4 fK_restingPairs_1 (by decide) rfl ?_
  refine a_ic fK_restingPairs_3 ?_
  refine a_is5 fK_restingPairs_4 (by decide) rfl ?_
  exact loop 4 0 0 h _ none none rfl V B S frk.rf rfl
end K4
