/-! bills: all written, then all looked at -/
def adA (K : Nat → Nat) (D : Nat) (nb : Nat → Nat) (bits : Nat) : Nat → Nat → (Nat → Nat) → (Nat → Nat)
  | 0, _, W => W
  | j + 1, i, W => adA K D nb bits j (i + 1) (if bits / 2 ^ i % 2 = 1 then wad K D 0 (sgn (nb i) (nb i)) W else W)
section AD
variable {K S : Nat → Nat} {D : Nat} {nb : Nat → Nat} {bits : Nat}
theorem adA_ge : ∀ (j i : Nat) (W : Nat → Nat) (f : Nat), W f ≤ adA K D nb bits j i W f := by
  intro j
  induction j with
  | zero => intro i W f; exact Nat.le_refl _
  | succ j ih =>
    intro i W f
    simp only [adA]
    refine Nat.le_trans ?_ (ih _ _ _)
    split
    · exact wad_ge _ _ _ _
    · exact Nat.le_refl _
theorem wad_no {F : Nat} : ∀ (r : List Nat) (k : Nat) (W : Nat → Nat), ¬ F ∈ r → wad K D k r W F = W F := by
  intro r
  induction r with
  | nil => intro k W _; rfl
  | cons f r ih =>
    intro k W h
    simp only [wad]
    have hn : F ≠ f := fun z => h (by rw [z]; exact List.mem_cons_self)
    rw [ih _ _ (fun z => h (List.mem_cons_of_mem _ z)), vn hn]
theorem adA_no {F : Nat} : ∀ (j i : Nat) (W : Nat → Nat), (∀ b, i ≤ b → b < i + j → bits / 2 ^ b % 2 = 1 → ¬ F ∈ sgn (nb b) (nb b)) → adA K D nb bits j i W F = W F := by
  intro j
  induction j with
  | zero => intro i W _; rfl
  | succ j ih =>
    intro i W h
    simp only [adA]
    rw [ih _ _ (fun b h1 h2 => h b (by omega) (by omega))]
    split
    · rename_i c
      exact wad_no _ _ _ (h i (Nat.le_refl _) (by omega) c)
    · rfl
theorem gto_all : ∀ (j i : Nat) (W : Nat → Nat), gto K S D nb bits j i W = true ↔ ∀ b, i ≤ b → b < i + j → bits / 2 ^ b % 2 = 1 → bear S (adA K D nb bits j i W) (sgn (nb b) (nb b)) := by
  intro j
  induction j with
  | zero => intro i W; exact ⟨fun _ b h1 h2 => by omega, fun _ => rfl⟩
  | succ j ih =>
    intro i W
    simp only [gto, adA]
    by_cases c : bits / 2 ^ i % 2 = 1
    · rw [if_pos c, if_pos c]
      by_cases c2 : can K S W D (sgn (nb i) (nb i))
      · rw [if_pos c2, ih]
        constructor
        · intro z b h1 h2 h3 f hf
          by_cases q : b = i
          · subst q
            by_cases q2 : ∃ b2, b + 1 ≤ b2 ∧ b2 < b + 1 + j ∧ bits / 2 ^ b2 % 2 = 1 ∧ f ∈ sgn (nb b2) (nb b2)
            · obtain ⟨b2, x1, x2, x3, x4⟩ := q2
              exact z b2 x1 x2 x3 f x4
            · rw [adA_no j (b + 1) _ (fun b2 x1 x2 x3 x4 => q2 ⟨b2, x1, x2, x3, x4⟩)]
              exact c2 f hf
          · exact z b (by omega) (by omega) h3 f hf
        · intro z b h1 h2 h3
          exact z b (by omega) (by omega) h3
      · rw [if_neg c2]
        refine ⟨fun z => (by cases z), fun z => absurd (fun f hf => ?_) c2⟩
        exact Nat.le_trans (adA_ge j (i + 1) _ f) (z i (Nat.le_refl _) (by omega) c f hf)
    · rw [if_neg c, if_neg c, ih]
      constructor
      · intro z b h1 h2 h3
        by_cases q : b = i
        · subst q; exact absurd h3 c
        · exact z b (by omega) (by omega) h3
      · intro z b h1 h2 h3
        exact z b (by omega) (by omega) h3
theorem adA_le : ∀ (j i : Nat) (W : Nat → Nat) (b : Nat), sml W b → sml (adA K D nb bits j i W) (b + 24 * j) := by
  intro j
  induction j with
  | zero => intro i W b h; exact h
  | succ j ih =>
    intro i W b h f hf
    simp only [adA]
    have := ih (i + 1) (if bits / 2 ^ i % 2 = 1 then wad K D 0 (sgn (nb i) (nb i)) W else W) (b + 24) (fun f hf => by
      have h1 := h f hf
      split
      · have h2 := wad_le (K := K) (D := D) (sgn (nb i) (nb i)) 0 W f (by have := @sgn_len (nb i) (nb i); omega)
        have h3 := @sgn_len (nb i) (nb i)
        omega
      · omega) f hf
    omega
theorem adA_kz : ∀ (j i : Nat) (W : Nat → Nat), (∀ b, i ≤ b → b < i + j → nb b < 100) → kz W → kz (adA K D nb bits j i W) := by
  intro j
  induction j with
  | zero => intro i W _ h; exact h
  | succ j ih =>
    intro i W hn h
    simp only [adA]
    refine ih _ _ (fun b h1 h2 => hn b (by omega) (by omega)) ?_
    have := hn i (Nat.le_refl _) (by omega)
    split
    · exact kz_wad _ _ _ (sgn_lt this this) h
    · exact h
end AD
abbrev adR (N : Nat → Nat) (bits : Nat) : Nat → Nat := adA (sl N 0 10) (N 30) (fun i => N (32 + i)) bits (N 31) 0 (sl N 20 10)
/-- all bills of the bits are within the row aside -/
abbrev awP (N w : Nat → Nat) (bits : Nat) : Prop := ∀ b, b < N 31 → bits / 2 ^ b % 2 = 1 → bear (sl N 10 10) w (sgn (N (32 + b)) (N (32 + b)))
theorem gtR_all {N : Nat → Nat} {bits : Nat} : gtR N bits = true ↔ awP N (adR N bits) bits := by
  rw [gto_all]
  exact ⟨fun z b h1 => z b (Nat.zero_le _) (by omega), fun z b _ h2 => z b (by omega)⟩
theorem wsm_add {g : Nat → Nat} {bits : Nat} : ∀ (d j i : Nat), bits < 2 ^ (i + j) → wsm g bits (j + d) i = wsm g bits j i := by
  intro d j
  induction j with
  | zero =>
    induction d with
    | zero => intro i _; rfl
    | succ d ih =>
      intro i hi
      rw [show 0 + (d + 1) = (0 + d) + 1 by omega]
      simp only [wsm]
      rw [if_neg (bit_hi hi (by omega)), ih (i + 1) (Nat.lt_trans hi (Nat.pow_lt_pow_right (by decide) (by omega)))]
      rfl
  | succ j ih =>
    intro i hi
    rw [show j + 1 + d = (j + d) + 1 by omega]
    simp only [wsm]
    rw [ih (i + 1) (by rw [show i + 1 + j = i + (j + 1) by omega]; exact hi)]
theorem wsR_cut {N : Nat → Nat} {bits : Nat} (h6 : N 31 ≤ 6) (hb : bits < 2 ^ N 31) : wsm (fun i => N (38 + i)) bits (N 31) 0 = wsR N bits := by
  have := wsm_add (g := fun i => N (38 + i)) (bits := bits) (6 - N 31) (N 31) 0 (by rw [Nat.zero_add]; exact hb)
  rw [← this, show N 31 + (6 - N 31) = 6 by omega]
theorem unp : ∀ m, m < 7 → ∀ p, p < 64 → (((1 : Int32) <<< (nI m &&& 31)) - 1) &&& (nI p ^^^ -1) = nI ((63 ^^^ p) &&& (2 ^ m - 1)) := by decide +kernel
theorem nunp : ∀ u, u < 64 → ∀ s, s < 64 → nI s &&& (nI u ^^^ -1) = nI (s &&& (63 ^^^ u)) := by decide +kernel
theorem setp : ∀ m, m < 7 → ∀ p, p < 64 → ∀ s, s < 64 → ((s &&& (63 ^^^ ((63 ^^^ p) &&& (2 ^ m - 1))) = 0) ↔ (s < 2 ^ m ∧ s &&& p = 0)) := by decide +kernel
theorem unp_lt : ∀ m, m < 7 → ∀ p, p < 64 → (63 ^^^ p) &&& (2 ^ m - 1) < 64 := by decide +kernel
section ML
variable {P P2 G : Nat → Bool} {C : Nat → Nat}
theorem mosL_add : ∀ (a b i s : Nat), mosL P G C (a + b) i s = mosL P G C b (i + a) (mosL P G C a i s) := by
  intro a
  induction a with
  | zero => intro b i s; rw [Nat.zero_add]; rfl
  | succ a ih =>
    intro b i s
    rw [show a + 1 + b = (a + b) + 1 by omega]
    simp only [mosL]
    rw [ih, show i + 1 + a = i + (a + 1) by omega]
theorem mosL_z : mosL P G C 1 0 0 = 0 := by
  simp only [mosL, ite_self]
theorem mosL_1 (k : Nat) : mosL P G C (1 + k) 0 0 = mosL P G C k 1 0 := by rw [mosL_add, mosL_z]
theorem mosL_no : ∀ (j i s : Nat), (∀ b, i ≤ b → ¬ P b = true) → mosL P G C j i s = s := by
  intro j
  induction j with
  | zero => intro i s _; rfl
  | succ j ih =>
    intro i s h
    simp only [mosL]
    rw [if_neg (fun z => h i (Nat.le_refl _) z.1), ih _ _ (fun b hb => h b (by omega))]
theorem mosL_cg : ∀ (j i s : Nat), (∀ b, i ≤ b → b < i + j → P b = P2 b) → mosL P G C j i s = mosL P2 G C j i s := by
  intro j
  induction j with
  | zero => intro i s _; rfl
  | succ j ih =>
    intro i s h
    simp only [mosL]
    rw [h i (Nat.le_refl _) (by omega), ih _ _ (fun b h1 h2 => h b (by omega) (by omega))]
end ML
theorem mos_eq {G : Nat → Bool} {C : Nat → Nat} {m p : Nat} (h : m ≤ 6) : mosL (fun b => decide (b < 2 ^ m ∧ b &&& p = 0)) G C 64 0 0 = mosL (fun b => decide (b &&& p = 0)) G C (2 ^ m - 1) 1 0 := by
  have p1 := pw64 h
  have p2 : 0 < 2 ^ m := Nat.two_pow_pos _
  rw [show (64 : Nat) = 1 + ((2 ^ m - 1) + (64 - 2 ^ m)) by omega, mosL_1, mosL_add, mosL_no _ _ _ (fun b hb z => by have := (of_decide_eq_true z).1; omega)]
  exact mosL_cg _ _ _ (fun b h1 h2 => by simp only [show b < 2 ^ m by omega, true_and])
section M6
variable {E : eT} {n : Nat} {h : hT} {c : mT} {th mn : Int32} {N : Nat → Nat}
theorem c_MareWithin {bits : Nat} {w : Nat → Nat} (M : mM c h) (m1 : h 64 = nA 189 N) (m7 : h 70 = nA 10 w) (O : okC N) (OB : okB N) (hb : bits < 64) (bW : sml w 1000) : fE M_M_areWithin E [.ref 63, .int (nI bits)] n h (qI (fun r k g => r = bI (awP N w bits) ∧ k = n ∧ mM c g ∧ mL h g)) := by
  have h6 := OB.1
  have loop : ∀ (j i : Nat) (g : hT) (q : Bool), i + j = N 31 → mM c g → mL h g → ((q = true ∧ ∀ b, i ≤ b → b < N 31 → bits / 2 ^ b % 2 = 1 → bear (sl N 10 10) w (sgn (N (32 + b)) (N (32 + b)))) ↔ awP N w bits) → fA M_M_areWithin E (fZ M_M_areWithin E (qI (fun r k g => r = bI (awP N w bits) ∧ k = n ∧ mM c g ∧ mL h g))) n g 0 0 4 [some (.ref 63), some (.int (nI bits)), some (.int (bI (q = true))), some (.int (nI i))] [] := by
    intro j
    induction j with
    | zero =>
      intro i g q hi M F he
      have m1g : g 64 = nA 189 N := (F 64 (by decide) (by decide)).trans m1
      have M9 := M
      obtain ⟨⟨th, mn, m0⟩, f0, m8⟩ := M9
      refine a_il3 fM_areWithin_4 ?_
      refine a_al0 fM_areWithin_5 ?_
      refine a_gf fM_areWithin_6 l_M_7 m0 rfl ?_
      refine a_ic fM_areWithin_9 ?_
      refine a_ia fM_areWithin_11 m1g (show (31 : Int32) = nI 31 from rfl) (by decide) (by decide) ?_
      refine a_ic_ge fM_areWithin_12 (fun _ => ?_) (fun c_ => absurd (nI_le (show N 31 ≤ i by omega) (by omega)) c_)
      refine a_il2 fM_areWithin_55 ?_
      exact a_rz fM_areWithin_56 rfl (bI_n _) ⟨_, rfl, bI_cg ⟨fun z => he.mp ⟨z, fun b h1 h2 => by omega⟩, fun z => (he.mpr z).1⟩, rfl, M, F⟩
    | succ j ih =>
      intro i g q hi M F he
      have m1g : g 64 = nA 189 N := (F 64 (by decide) (by decide)).trans m1
      have M9 := M
      obtain ⟨⟨th, mn, m0⟩, f0, m8⟩ := M9
      refine a_il3 fM_areWithin_4 ?_
      refine a_al0 fM_areWithin_5 ?_
      refine a_gf fM_areWithin_6 l_M_7 m0 rfl ?_
      refine a_ic fM_areWithin_9 ?_
      refine a_ia fM_areWithin_11 m1g (show (31 : Int32) = nI 31 from rfl) (by decide) (by decide) ?_
      refine a_ic_ge fM_areWithin_12 (fun c_ => absurd c_ (nI_ge (show i < N 31 by omega) (by omega))) (fun _ => ?_)
      have nx : ∀ (g2 : hT) (q2 : Bool), mM c g2 → mL h g2 → ((q2 = true ∧ ∀ b, i + 1 ≤ b → b < N 31 → bits / 2 ^ b % 2 = 1 → bear (sl N 10 10) w (sgn (N (32 + b)) (N (32 + b)))) ↔ awP N w bits) → fA M_M_areWithin E (fZ M_M_areWithin E (qI (fun r k g => r = bI (awP N w bits) ∧ k = n ∧ mM c g ∧ mL h g))) n g2 0 0 48 [some (.ref 63), some (.int (nI bits)), some (.int (bI (q = true))), some (.int (nI i))] [.int (bI (q2 = true))] := by
        intro g2 q2 M2 F2 hq2
        refine a_is2 fM_areWithin_48 (by decide) rfl ?_
        refine a_inc3 fM_areWithin_49 (by decide) rfl ?_
        refine a_goto fM_areWithin_52 ?_
        rw [nI_1]
        exact ih (i + 1) g2 q2 (by omega) M2 F2 hq2
      by_cases cq : q = true
      · refine a_il2 fM_areWithin_15 ?_
        refine a_if_eq fM_areWithin_16 (fun c_ => absurd c_ (fun z => by rw [bI_t cq] at z; exact absurd z (by decide))) (fun _ => ?_)
        refine a_il1 fM_areWithin_19 ?_
        refine a_il3 fM_areWithin_20 ?_
        refine a_ishr fM_areWithin_21 ?_
        refine a_ic fM_areWithin_22 ?_
        refine a_iand fM_areWithin_23 ?_
        rw [nbit bits i hb (by omega)]
        by_cases cb : bits / 2 ^ i % 2 = 1
        · refine a_if_eq fM_areWithin_24 (fun c_ => absurd c_ (by rw [cb]; decide)) (fun _ => ?_)
          have m7g : g 70 = nA 10 w := (F 70 (by decide) (by decide)).trans m7
          refine a_al0 fM_areWithin_27 ?_
          refine a_al0 fM_areWithin_28 ?_
          refine a_gf fM_areWithin_29 l_M_7 m0 rfl ?_
          refine a_ic fM_areWithin_32 ?_
          refine a_il3 fM_areWithin_34 ?_
          refine a_iadd fM_areWithin_35 ?_
          refine a_ia fM_areWithin_36 m1g (nI_add 32 _) (by omega) (by decide) ?_
          refine a_V1I fM_areWithin_37 k_M_170 m_M_isWithin ⟨by decide, by decide⟩ m0 rfl ⟨rfl, rfl⟩ (Nat.le_of_ble_eq_true rfl) (c_MisWithin (v := N (32 + i)) M m1g m7g O (OB.2.1 i (by omega)).1 bW) (fun r3 n3 h3 p3 => ?_)
          obtain ⟨hr3, hn3, M3, F3⟩ := p3
          subst n3
          rw [hr3]
          by_cases cP : bear (sl N 10 10) w (sgn (N (32 + i)) (N (32 + i)))
          · refine a_if_eq fM_areWithin_40 (fun c_ => absurd c_ (fun z => by rw [bI_t cP] at z; exact absurd z (by decide))) (fun _ => ?_)
            refine a_ic fM_areWithin_43 ?_
            refine a_goto fM_areWithin_44 ?_
            refine nx h3 true M3 (F.trans F3) (Iff.trans ⟨fun z => ⟨cq, fun b h1 h2 h3 => ?_⟩, fun z => ⟨rfl, fun b h1 h2 h3 => z.2 b (by omega) h2 h3⟩⟩ he)
            by_cases qb : b = i
            · subst qb; exact cP
            · exact z.2 b (by omega) h2 h3
          · refine a_if_eq fM_areWithin_40 (fun _ => ?_) (fun c_ => absurd (by rw [bI_f cP]) c_)
            refine a_ic fM_areWithin_47 ?_
            exact nx h3 false M3 (F.trans F3) (Iff.trans ⟨fun z => (by cases z.1), fun z => absurd (z.2 i (Nat.le_refl _) (by omega) cb) cP⟩ he)
        · refine a_if_eq fM_areWithin_24 (fun _ => ?_) (fun c_ => absurd (by rw [show bits / 2 ^ i % 2 = 0 by omega]; rfl) c_)
          refine a_ic fM_areWithin_43 ?_
          refine a_goto fM_areWithin_44 ?_
          refine nx g true M F (Iff.trans ⟨fun z => ⟨cq, fun b h1 h2 h3 => ?_⟩, fun z => ⟨rfl, fun b h1 h2 h3 => z.2 b (by omega) h2 h3⟩⟩ he)
          by_cases qb : b = i
          · subst qb; exact absurd h3 cb
          · exact z.2 b (by omega) h2 h3
      · refine a_il2 fM_areWithin_15 ?_
        refine a_if_eq fM_areWithin_16 (fun _ => ?_) (fun c_ => absurd (by rw [bI_f cq]) c_)
        refine a_ic fM_areWithin_47 ?_
        exact nx g false M F (Iff.trans ⟨fun z => (by cases z.1), fun z => absurd z.1 cq⟩ he)
  refine fE.of (L := [some (.ref 63), some (.int (nI bits)), none, none]) (by decide +kernel) (Nat.le_of_ble_eq_true rfl) rfl ?_
  refine a_ic fM_areWithin_0 ?_
  refine a_is2 fM_areWithin_1 (by decide) rfl ?_
  refine a_ic fM_areWithin_2 ?_
  refine a_is3 fM_areWithin_3 (by decide) rfl ?_
  exact loop (N 31) 0 h true (by omega) M mL.rf ⟨fun z b h1 h2 => z.2 b (Nat.zero_le _) h1 h2, fun z => ⟨rfl, fun b _ h1 h2 => z b h1 h2⟩⟩
theorem c_McanAll {bits : Nat} (W : mW c h) (m1 : h 64 = nA 189 N) (O : okC N) (OB : okB N) (hb : bits < 64) : fE M_M_canAll E [.ref 63, .int (nI bits)] n h (qI (fun r k g => r = bI (gtR N bits = true) ∧ k = n ∧ mW c g ∧ mF h g)) := by
  have h6 := OB.1
  obtain ⟨M, w0, kw0, m7⟩ := W
  have M9 := M
  obtain ⟨⟨th, mn, m0⟩, f0, m8⟩ := M9
  have loop : ∀ (j i : Nat) (g : hT) (W : Nat → Nat), i + j = N 31 → mM c g → mF h g → g 70 = nA 10 W → kz W → adA (sl N 0 10) (N 30) (fun i => N (32 + i)) bits j i W = adR N bits → fA M_M_canAll E (fZ M_M_canAll E (qI (fun r k g => r = bI (gtR N bits = true) ∧ k = n ∧ mW c g ∧ mF h g))) n g 0 0 6 [some (.ref 63), some (.int (nI bits)), some (.int (nI i))] [] := by
    intro j
    induction j with
    | zero =>
      intro i g W hi M F m7 kW hW
      have m1g : g 64 = nA 189 N := (F 64 (by decide) (by decide) (by decide)).trans m1
      have M9 := M
      obtain ⟨⟨th, mn, m0⟩, f0, m8⟩ := M9
      refine a_il2 fM_canAll_6 ?_
      refine a_al0 fM_canAll_7 ?_
      refine a_gf fM_canAll_8 l_M_7 m0 rfl ?_
      refine a_ic fM_canAll_11 ?_
      refine a_ia fM_canAll_13 m1g (show (31 : Int32) = nI 31 from rfl) (by decide) (by decide) ?_
      refine a_ic_ge fM_canAll_14 (fun _ => ?_) (fun c_ => absurd (nI_le (show N 31 ≤ i by omega) (by omega)) c_)
      have eW : W = adR N bits := hW
      subst eW
      have bW : sml (adR N bits) 1000 := fun f hf => Nat.le_trans (adA_le (N 31) 0 (sl N 20 10) 100 O.W f hf) (by omega)
      refine a_al0 fM_canAll_52 ?_
      refine a_il1 fM_canAll_53 ?_
      refine a_V1I fM_canAll_54 k_M_176 m_M_areWithin ⟨by decide, by decide⟩ m0 rfl ⟨rfl, rfl⟩ (Nat.le_of_ble_eq_true rfl) (c_MareWithin M m1g m7 O OB hb bW) (fun r3 n3 h3 p3 => ?_)
      obtain ⟨hr3, hn3, M3, F3⟩ := p3
      subst n3
      rw [hr3]
      exact a_rz fM_canAll_57 rfl (bI_n _) ⟨_, rfl, bI_cg gtR_all.symm, rfl, ⟨M3, _, kW, (F3 70 (by decide) (by decide)).trans m7⟩, F.trans F3.f⟩
    | succ j ih =>
      intro i g W hi M F m7 kW hW
      have m1g : g 64 = nA 189 N := (F 64 (by decide) (by decide) (by decide)).trans m1
      have M9 := M
      obtain ⟨⟨th, mn, m0⟩, f0, m8⟩ := M9
      have hv := (OB.2.1 i (by omega)).1
      refine a_il2 fM_canAll_6 ?_
      refine a_al0 fM_canAll_7 ?_
      refine a_gf fM_canAll_8 l_M_7 m0 rfl ?_
      refine a_ic fM_canAll_11 ?_
      refine a_ia fM_canAll_13 m1g (show (31 : Int32) = nI 31 from rfl) (by decide) (by decide) ?_
      refine a_ic_ge fM_canAll_14 (fun c_ => absurd c_ (nI_ge (show i < N 31 by omega) (by omega))) (fun _ => ?_)
      refine a_il1 fM_canAll_17 ?_
      refine a_il2 fM_canAll_18 ?_
      refine a_ishr fM_canAll_19 ?_
      refine a_ic fM_canAll_20 ?_
      refine a_iand fM_canAll_21 ?_
      rw [nbit bits i hb (by omega)]
      by_cases cb : bits / 2 ^ i % 2 = 1
      · refine a_ic fM_canAll_22 ?_
        refine a_ic_ne fM_canAll_23 (fun c_ => absurd (by rw [cb]; rfl) c_) (fun _ => ?_)
        refine a_al0 fM_canAll_26 ?_
        refine a_al0 fM_canAll_27 ?_
        refine a_gf fM_canAll_28 l_M_7 m0 rfl ?_
        refine a_ic fM_canAll_31 ?_
        refine a_il2 fM_canAll_33 ?_
        refine a_iadd fM_canAll_34 ?_
        refine a_ia fM_canAll_35 m1g (nI_add 32 _) (by omega) (by decide) ?_
        refine a_al0 fM_canAll_36 ?_
        refine a_gf fM_canAll_37 l_M_7 m0 rfl ?_
        refine a_ic fM_canAll_40 ?_
        refine a_ia fM_canAll_42 m1g (show (30 : Int32) = nI 30 from rfl) (by decide) (by decide) ?_
        refine a_V2Q fM_canAll_43 k_M_167 m_M_asideBy ⟨by decide, by decide⟩ m0 rfl ⟨rfl, rfl⟩ (Nat.le_of_ble_eq_true rfl) (c_MasideBy (v := N (32 + i)) (D := N 30) M m1g m7 O hv O.D) (fun n3 h3 p3 => ?_)
        obtain ⟨hn3, M3, m73, F3⟩ := p3
        subst n3
        refine a_inc2 fM_canAll_46 (by decide) rfl ?_
        refine a_goto fM_canAll_49 ?_
        rw [nI_1]
        exact ih (i + 1) h3 _ (by omega) M3 (F.trans F3) m73 (kz_wad _ _ _ (sgn_lt hv hv) kW) (by rw [← hW]; simp only [adA, if_pos cb])
      · refine a_ic fM_canAll_22 ?_
        refine a_ic_ne fM_canAll_23 (fun _ => ?_) (fun c_ => absurd c_ (fun z => cb ((nI_eq (b := 1) (by omega) (by decide)).mp z)))
        refine a_inc2 fM_canAll_46 (by decide) rfl ?_
        refine a_goto fM_canAll_49 ?_
        rw [nI_1]
        exact ih (i + 1) g W (by omega) M F m7 kW (by rw [← hW]; simp only [adA, if_neg cb])
  refine fE.of (L := [some (.ref 63), some (.int (nI bits)), none]) (by decide +kernel) (Nat.le_of_ble_eq_true rfl) rfl ?_
  refine a_al0 fM_canAll_0 ?_
  refine a_V0N fM_canAll_1 k_M_164 m_M_wornNow ⟨by decide, by decide⟩ m0 rfl ⟨rfl, rfl⟩ (Nat.le_of_ble_eq_true rfl) (c_MwornNow m0 m1 m7 kw0) ?_
  refine a_ic fM_canAll_4 ?_
  refine a_is2 fM_canAll_5 (by decide) rfl ?_
  exact loop (N 31) 0 _ (sl N 20 10) (by omega) (M.up (by decide) (by decide)) (fun a _ a2 _ => up_n a2 rfl) up_s kz_sl rfl
theorem c_MworthOf {bits : Nat} (m0 : h 63 = mO c th mn) (m1 : h 64 = nA 189 N) (OB : okB N) (hb : bits < 64) : fE M_M_worthOf E [.ref 63, .int (nI bits)] n h (eV (.int (nI (wsm (fun i => N (38 + i)) bits (N 31) 0))) n h) := by
  have h6 := OB.1
  have loop : ∀ (j i c0 : Nat), i + j = N 31 → c0 + wsm (fun i => N (38 + i)) bits j i = wsm (fun i => N (38 + i)) bits (N 31) 0 → fA M_M_worthOf E (fZ M_M_worthOf E (eV (.int (nI (wsm (fun i => N (38 + i)) bits (N 31) 0))) n h)) n h 0 0 4 [some (.ref 63), some (.int (nI bits)), some (.int (nI c0)), some (.int (nI i))] [] := by
    intro j
    induction j with
    | zero =>
      intro i c0 hi he
      refine a_il3 fM_worthOf_4 ?_
      refine a_al0 fM_worthOf_5 ?_
      refine a_gf fM_worthOf_6 l_M_7 m0 rfl ?_
      refine a_ic fM_worthOf_9 ?_
      refine a_ia fM_worthOf_11 m1 (show (31 : Int32) = nI 31 from rfl) (by decide) (by decide) ?_
      refine a_ic_ge fM_worthOf_12 (fun _ => ?_) (fun c_ => absurd (nI_le (show N 31 ≤ i by omega) (by omega)) c_)
      refine a_il2 fM_worthOf_46 ?_
      exact a_ri fM_worthOf_47 rfl (⟨sv (by rw [← he]; rfl), rfl, rfl⟩)
    | succ j ih =>
      intro i c0 hi he
      refine a_il3 fM_worthOf_4 ?_
      refine a_al0 fM_worthOf_5 ?_
      refine a_gf fM_worthOf_6 l_M_7 m0 rfl ?_
      refine a_ic fM_worthOf_9 ?_
      refine a_ia fM_worthOf_11 m1 (show (31 : Int32) = nI 31 from rfl) (by decide) (by decide) ?_
      refine a_ic_ge fM_worthOf_12 (fun c_ => absurd c_ (nI_ge (show i < N 31 by omega) (by omega))) (fun _ => ?_)
      refine a_il2 fM_worthOf_15 ?_
      refine a_il1 fM_worthOf_16 ?_
      refine a_il3 fM_worthOf_17 ?_
      refine a_ishr fM_worthOf_18 ?_
      refine a_ic fM_worthOf_19 ?_
      refine a_iand fM_worthOf_20 ?_
      rw [nbit bits i hb (by omega)]
      by_cases cb : bits / 2 ^ i % 2 = 1
      · refine a_ic fM_worthOf_21 ?_
        refine a_ic_ne fM_worthOf_22 (fun c_ => absurd (by rw [cb]; rfl) c_) (fun _ => ?_)
        refine a_al0 fM_worthOf_25 ?_
        refine a_gf fM_worthOf_26 l_M_7 m0 rfl ?_
        refine a_ic fM_worthOf_29 ?_
        refine a_il3 fM_worthOf_31 ?_
        refine a_iadd fM_worthOf_32 ?_
        refine a_ia fM_worthOf_33 m1 (nI_add 38 _) (by omega) (by decide) ?_
        refine a_goto fM_worthOf_34 ?_
        refine a_iadd fM_worthOf_38 ?_
        refine a_is2 fM_worthOf_39 (by decide) rfl ?_
        refine a_inc3 fM_worthOf_40 (by decide) rfl ?_
        refine a_goto fM_worthOf_43 ?_
        rw [nI_1, show nI c0 + nF N (38 + i) = nI (c0 + N (38 + i)) from nI_add _ _]
        exact ih (i + 1) _ (by omega) (by rw [← he]; simp only [wsm, if_pos cb]; omega)
      · refine a_ic fM_worthOf_21 ?_
        refine a_ic_ne fM_worthOf_22 (fun _ => ?_) (fun c_ => absurd c_ (fun z => cb ((nI_eq (b := 1) (by omega) (by decide)).mp z)))
        refine a_ic fM_worthOf_37 ?_
        refine a_iadd fM_worthOf_38 ?_
        refine a_is2 fM_worthOf_39 (by decide) rfl ?_
        refine a_inc3 fM_worthOf_40 (by decide) rfl ?_
        refine a_goto fM_worthOf_43 ?_
        rw [nI_1, show nI c0 + 0 = nI c0 from nI_add c0 0]
        exact ih (i + 1) _ (by omega) (by rw [← he]; simp only [wsm, if_neg cb]; omega)
  refine fE.of (L := [some (.ref 63), some (.int (nI bits)), none, none]) (by decide +kernel) (Nat.le_of_ble_eq_true rfl) rfl ?_
  refine a_ic fM_worthOf_0 ?_
  refine a_is2 fM_worthOf_1 (by decide) rfl ?_
  refine a_ic fM_worthOf_2 ?_
  refine a_is3 fM_worthOf_3 (by decide) rfl ?_
  exact loop (N 31) 0 0 (by omega) (Nat.zero_add _)
theorem c_Munpaid (m0 : h 63 = mO c th mn) (m1 : h 64 = nA 189 N) (h6 : N 31 ≤ 6) (hp : N 44 < 64) : fE M_M_unpaid E [.ref 63] n h (eV (.int (nI ((63 ^^^ N 44) &&& (2 ^ N 31 - 1)))) n h) := by
  refine fE.of (L := [some (.ref 63)]) (by decide +kernel) (Nat.le_of_ble_eq_true rfl) rfl ?_
  refine a_ic fM_unpaid_0 ?_
  refine a_al0 fM_unpaid_1 ?_
  refine a_gf fM_unpaid_2 l_M_7 m0 rfl ?_
  refine a_ic fM_unpaid_5 ?_
  refine a_ia fM_unpaid_7 m1 (show (31 : Int32) = nI 31 from rfl) (by decide) (by decide) ?_
  refine a_ishl fM_unpaid_8 ?_
  refine a_ic fM_unpaid_9 ?_
  refine a_isub fM_unpaid_10 ?_
  refine a_al0 fM_unpaid_11 ?_
  refine a_gf fM_unpaid_12 l_M_7 m0 rfl ?_
  refine a_ic fM_unpaid_15 ?_
  refine a_ia fM_unpaid_17 m1 (show (44 : Int32) = nI 44 from rfl) (by decide) (by decide) ?_
  refine a_ic fM_unpaid_18 ?_
  refine a_ixor fM_unpaid_19 ?_
  refine a_iand fM_unpaid_20 ?_
  exact a_ri fM_unpaid_21 rfl ⟨sv (unp (N 31) (by omega) (N 44) hp), rfl, rfl⟩
def hsR (N : Nat → Nat) (b bits : Nat) : Nat := if bits / 2 ^ b % 2 = 0 then N (38 + b) / 2 else if gtR N bits = true then N (38 + b) else 0
theorem c_Mhas {b bits : Nat} (W : mW c h) (m1 : h 64 = nA 189 N) (O : okC N) (OB : okB N) (hb : b < N 31) (hs : bits < 64) : fE M_M_has E [.ref 63, .int (nI b), .int (nI bits)] n h (qI (fun r k g => r = nI (hsR N b bits) ∧ k = n ∧ mW c g ∧ mF h g)) := by
  have h6 := OB.1
  have W9 := W
  obtain ⟨⟨⟨th, mn, m0⟩, f0, m8⟩, w0, kw0, m7⟩ := W9
  refine fE.of (L := [some (.ref 63), some (.int (nI b)), some (.int (nI bits))]) (by decide +kernel) (Nat.le_of_ble_eq_true rfl) rfl ?_
  refine a_il2 fM_has_0 ?_
  refine a_il1 fM_has_1 ?_
  refine a_ishr fM_has_2 ?_
  refine a_ic fM_has_3 ?_
  refine a_iand fM_has_4 ?_
  rw [nbit bits b hs (by omega)]
  by_cases cb : bits / 2 ^ b % 2 = 0
  · refine a_if_ne fM_has_5 (fun c_ => absurd (congrArg nI cb) c_) (fun _ => ?_)
    refine a_al0 fM_has_8 ?_
    refine a_gf fM_has_9 l_M_7 m0 rfl ?_
    refine a_ic fM_has_12 ?_
    refine a_il1 fM_has_14 ?_
    refine a_iadd fM_has_15 ?_
    refine a_ia fM_has_16 m1 (nI_add 38 _) (by omega) (by decide) ?_
    refine a_ic fM_has_17 ?_
    refine a_idiv fM_has_18 (by decide) ?_
    have := (OB.2.1 b hb).2
    exact a_ri fM_has_19 rfl ⟨_, rfl, by unfold hsR; rw [if_pos cb]; exact pk_div (d := 2) (by omega) (by decide) (by decide), rfl, W, mF.rf⟩
  · refine a_if_ne fM_has_5 (fun _ => ?_) (fun c_ => absurd c_ (nI_ne0 (by omega) (by omega)))
    refine a_al0 fM_has_20 ?_
    refine a_il2 fM_has_21 ?_
    refine a_V1I fM_has_22 k_M_185 m_M_canAll ⟨by decide, by decide⟩ m0 rfl ⟨rfl, rfl⟩ (Nat.le_of_ble_eq_true rfl) (c_McanAll W m1 O OB hs) (fun r3 n3 h3 p3 => ?_)
    obtain ⟨hr3, hn3, W3, F3⟩ := p3
    subst n3
    rw [hr3]
    have m13 : h3 64 = nA 189 N := (F3 64 (by decide) (by decide) (by decide)).trans m1
    have W93 := W3
    obtain ⟨⟨⟨th3, mn3, m03⟩, f3, m83⟩, w3, kw3, m73⟩ := W93
    by_cases cg : gtR N bits = true
    · refine a_if_eq fM_has_25 (fun c_ => absurd c_ (fun z => by rw [bI_t cg] at z; exact absurd z (by decide))) (fun _ => ?_)
      refine a_al0 fM_has_28 ?_
      refine a_gf fM_has_29 l_M_7 m03 rfl ?_
      refine a_ic fM_has_32 ?_
      refine a_il1 fM_has_34 ?_
      refine a_iadd fM_has_35 ?_
      refine a_ia fM_has_36 m13 (nI_add 38 _) (by omega) (by decide) ?_
      refine a_goto fM_has_37 ?_
      exact a_ri fM_has_41 rfl (⟨_, rfl, by unfold hsR; rw [if_neg cb, if_pos cg]; rfl, rfl, W3, F3⟩)
    · refine a_if_eq fM_has_25 (fun _ => ?_) (fun c_ => absurd (by rw [bI_f cg]) c_)
      refine a_ic fM_has_40 ?_
      exact a_ri fM_has_41 rfl (⟨_, rfl, by unfold hsR; rw [if_neg cb, if_neg cg]; rfl, rfl, W3, F3⟩)
theorem c_MmanyCan (M : mM c h) (m1 : h 64 = nA 189 N) (O : okC N) : fE M_M_manyCan E [.ref 63] n h (qI (fun r k g => r = nI (ncn (fun v => decide (canR N v v)) 100 0 0) ∧ k = n ∧ mM c g ∧ mL h g)) := by
  have loop : ∀ (j i c0 : Nat) (g : hT), i + j = 100 → mM c g → mL h g → ncn (fun v => decide (canR N v v)) j i c0 = ncn (fun v => decide (canR N v v)) 100 0 0 → fA M_M_manyCan E (fZ M_M_manyCan E (qI (fun r k g => r = nI (ncn (fun v => decide (canR N v v)) 100 0 0) ∧ k = n ∧ mM c g ∧ mL h g))) n g 0 0 4 [some (.ref 63), some (.int (nI c0)), some (.int (nI i))] [] := by
    intro j
    induction j with
    | zero =>
      intro i c0 g hi M F he
      obtain rfl : i = 100 := by omega
      refine a_il2 fM_manyCan_4 ?_
      refine a_ic fM_manyCan_5 ?_
      refine a_ic_ge fM_manyCan_7 (fun _ => ?_) (fun c_ => absurd (Int32.le_refl _) c_)
      refine a_il1 fM_manyCan_37 ?_
      exact a_ri fM_manyCan_38 rfl (⟨_, rfl, by rw [← he]; rfl, rfl, M, F⟩)
    | succ j ih =>
      intro i c0 g hi M F he
      have m1g : g 64 = nA 189 N := (F 64 (by decide) (by decide)).trans m1
      have M9 := M
      obtain ⟨⟨th, mn, m0⟩, f0, m8⟩ := M9
      refine a_il2 fM_manyCan_4 ?_
      refine a_ic fM_manyCan_5 ?_
      refine a_ic_ge fM_manyCan_7 (fun c_ => absurd c_ (nI_ge (b := 100) (by omega) (by decide))) (fun _ => ?_)
      refine a_il1 fM_manyCan_10 ?_
      refine a_al0 fM_manyCan_11 ?_
      refine a_al0 fM_manyCan_12 ?_
      refine a_gf fM_manyCan_13 l_M_7 m0 rfl ?_
      refine a_il2 fM_manyCan_16 ?_
      refine a_il2 fM_manyCan_17 ?_
      refine a_V3I fM_manyCan_18 k_M_126 m_M_canOf ⟨by decide, by decide⟩ m0 rfl ⟨rfl, rfl⟩ (Nat.le_of_ble_eq_true rfl) (c_McanOf M m1g (by decide) (by decide) O (v := i) (x := i) (by omega) (by omega)) (fun r3 n3 h3 p3 => ?_)
      obtain ⟨hr3, hn3, M3, F3⟩ := p3
      subst n3
      rw [hr3]
      by_cases c9 : canR N i i
      · refine a_if_eq fM_manyCan_21 (fun c_ => absurd c_ (fun z => by rw [bI_t c9] at z; exact absurd z (by decide))) (fun _ => ?_)
        refine a_ic fM_manyCan_24 ?_
        refine a_goto fM_manyCan_25 ?_
        refine a_iadd fM_manyCan_29 ?_
        refine a_is1 fM_manyCan_30 (by decide) rfl ?_
        refine a_inc2 fM_manyCan_31 (by decide) rfl ?_
        refine a_goto fM_manyCan_34 ?_
        rw [nI_1, nI_1]
        exact ih (i + 1) _ h3 (by omega) M3 (F.trans F3) (by rw [← he]; simp only [ncn]; rw [if_pos (decide_eq_true c9)])
      · refine a_if_eq fM_manyCan_21 (fun _ => ?_) (fun c_ => absurd (by rw [bI_f c9]) c_)
        refine a_ic fM_manyCan_28 ?_
        refine a_iadd fM_manyCan_29 ?_
        refine a_is1 fM_manyCan_30 (by decide) rfl ?_
        refine a_inc2 fM_manyCan_31 (by decide) rfl ?_
        refine a_goto fM_manyCan_34 ?_
        rw [nI_1, show nI c0 + 0 = nI c0 from nI_add c0 0]
        exact ih (i + 1) _ h3 (by omega) M3 (F.trans F3) (by rw [← he]; simp only [ncn, c9, decide_false, Bool.false_eq_true, ↓reduceIte])
  refine fE.of (L := [some (.ref 63), none, none]) (by decide +kernel) (Nat.le_of_ble_eq_true rfl) rfl ?_
  refine a_ic fM_manyCan_0 ?_
  refine a_is1 fM_manyCan_1 (by decide) rfl ?_
  refine a_ic fM_manyCan_2 ?_
  refine a_is2 fM_manyCan_3 (by decide) rfl ?_
  exact loop 100 0 0 h rfl M mL.rf rfl
end M6
theorem pb_a : ∀ a, a < 6 → ∀ b, b < 6 → a ≠ b → ∀ p, p < 4 → pb a b p / 2 ^ a % 2 = p % 2 ∧ pb a b p / 2 ^ b % 2 = p / 2 := by decide +kernel
theorem pb_i : ∀ a, a < 6 → ∀ b, b < 6 → ∀ p, p < 4 → ((nI p &&& 1) <<< (nI a &&& 31)) ||| ((nI p >>> ((1 : Int32) &&& 31)) <<< (nI b &&& 31)) = nI (pb a b p) := by decide +kernel
theorem pb_x : ∀ a, a < 6 → ∀ b, b < 6 → a ≠ b → ∀ p, p < 4 → nI (pb a b p) ^^^ ((1 : Int32) <<< (nI a &&& 31)) = nI (pb a b (p ^^^ 1)) ∧ nI (pb a b p) ^^^ ((1 : Int32) <<< (nI b &&& 31)) = nI (pb a b (p ^^^ 2)) := by decide +kernel
theorem hs_a {N : Nat → Nat} {a b p : Nat} (ha : a < 6) (hb : b < 6) (hn : a ≠ b) (hp : p < 4) : hsR N a (pb a b p) = gR N a a b p := by
  unfold hsR gR
  rw [(pb_a a ha b hb hn p hp).1, if_pos rfl]
theorem hs_b {N : Nat → Nat} {a b p : Nat} (ha : a < 6) (hb : b < 6) (hn : a ≠ b) (hp : p < 4) : hsR N b (pb a b p) = gR N b a b p := by
  unfold hsR gR
  rw [(pb_a a ha b hb hn p hp).2, if_neg (Ne.symm hn)]
section P6
variable {E : eT} {n : Nat} {h : hT} {N : Nat → Nat} {I : Nat → Option (Nat → Nat)} {tn : Nat} {bt : Nat → Nat} {ab be rb rn rf : Nat}
theorem m_most_bad {w : Int32} (X : MS h N I tn bt ab be rb rn rf) (hb : ¬ ((0 ≤ w ∧ w ≤ 1))) : fE M_M_most E [.ref 63, .int w] n h (qI (fun r k g => r = -2 ∧ k = n ∧ fC h g ∧ MS g N I tn bt ab be (rb + 1) rn rf)) := by
  obtain ⟨⟨nx, pl, tk, fa, ⟨⟨th, mn, m0⟩, f0, m8⟩, w0, kw0, m7⟩, R0⟩ := X
  refine fE.of (L := [some (.ref 63), some (.int (w)), none, none]) (by decide +kernel) (Nat.le_of_ble_eq_true rfl) rfl ?_
  refine a_al0 fM_most_0 ?_
  refine a_ic fM_most_1 ?_
  refine a_pfi0 fM_most_2 p_M_43 m0 ?_
  obtain ⟨h1, e1, W1, R1, F1⟩ := mThr m0 m8 kw0 m7 R0
  change fA _ _ _ _ (va_up h 63 (mO (nI tn, nx, pl, tk, fa, (nI ab).toInt64, (nI be).toInt64) 0 mn)) _ _ _ _ _
  rw [e1]
  clear e1 R0 m7 m8 m0
  have W2 := W1
  obtain ⟨M2, w1, kw1, M7⟩ := W2
  have M3 := M2
  obtain ⟨⟨th1, mn1, M0⟩, f1, M8⟩ := M3
  have M1 := R1.1.1
  obtain ⟨Rf, M6, r0, r1, r2⟩ := R1.2.2.2.2
  by_cases d0 : (0 ≤ w ∧ w ≤ 1)
  · exact absurd d0 hb
  · refine a_il1 fM_most_5 ?_
    refine a_ic fM_most_6 ?_
    refine a_ic fM_most_7 ?_
    refine a_S3V fM_most_8 k_M_70 m_M_in ⟨by decide, by decide⟩ ⟨rfl, rfl⟩ (Nat.le_of_ble_eq_true rfl) (c_Min) ?_
    refine a_if_ne fM_most_11 (fun c_ => absurd (by rw [bI_f d0]) c_) (fun _ => ?_)
    refine a_al0 fM_most_14 ?_
    refine a_ic fM_most_15 ?_
    refine a_V1V fM_most_16 k_M_74 m_M_refuses ⟨by decide, by decide⟩ M0 rfl ⟨rfl, rfl⟩ (Nat.le_of_ble_eq_true rfl) (c_Mrefuses (w := 0) M0 M6 (by decide)) ?_
    exact a_ri fM_most_19 rfl (⟨_, rfl, rfl, rfl, F1.c.up (by decide), ⟨nx, pl, tk, fa, W1.up (by decide) (by decide) (by decide)⟩, R1.re0 M6 r0 r1 r2⟩)
theorem m_most0 (X : MS h N I tn bt ab be rb rn rf) (K : okN N) : fE M_M_most E [.ref 63, .int (nI 0)] n h (qI (fun r k g => r = nI (mosL (fun b => decide (b &&& N 44 = 0)) (gtR N) (wsR N) (2 ^ N 31 - 1) 1 0) ∧ k = n ∧ fC h g ∧ MS g N I tn bt ab be rb rn rf)) := by
  have O := K.c
  have k31 := K.2.2.1.1
  obtain ⟨⟨nx, pl, tk, fa, ⟨⟨th, mn, m0⟩, f0, m8⟩, w0, kw0, m7⟩, R0⟩ := X
  refine fE.of (L := [some (.ref 63), some (.int (nI 0)), none, none]) (by decide +kernel) (Nat.le_of_ble_eq_true rfl) rfl ?_
  refine a_al0 fM_most_0 ?_
  refine a_ic fM_most_1 ?_
  refine a_pfi0 fM_most_2 p_M_43 m0 ?_
  obtain ⟨h1, e1, W1, R1, F1⟩ := mThr m0 m8 kw0 m7 R0
  change fA _ _ _ _ (va_up h 63 (mO (nI tn, nx, pl, tk, fa, (nI ab).toInt64, (nI be).toInt64) 0 mn)) _ _ _ _ _
  rw [e1]
  clear e1 R0 m7 m8 m0
  have W2 := W1
  obtain ⟨M2, w1, kw1, M7⟩ := W2
  have M3 := M2
  obtain ⟨⟨th1, mn1, M0⟩, f1, M8⟩ := M3
  have M1 := R1.1.1
  obtain ⟨Rf, M6, r0, r1, r2⟩ := R1.2.2.2.2
  have hp : N 44 < 64 := Nat.lt_of_lt_of_le K.2.2.2.2.1 (pw64 k31)
  have p6 := pw64 k31
  have p0 : 0 < 2 ^ N 31 := Nat.two_pow_pos _
  refine a_il1 fM_most_5 ?_
  refine a_ic fM_most_6 ?_
  refine a_ic fM_most_7 ?_
  refine a_S3V fM_most_8 k_M_70 m_M_in ⟨by decide, by decide⟩ ⟨rfl, rfl⟩ (Nat.le_of_ble_eq_true rfl) (c_Min) ?_
  refine a_if_ne fM_most_11 (fun _ => ?_) (fun c_ => absurd c_ (by decide))
  have loop : ∀ (j i s : Nat) (g : hT), i + j = 64 → mW (nI tn, nx, pl, tk, fa, (nI ab).toInt64, (nI be).toInt64) g → mF h1 g → s < 2 ^ N 31 → mosL (fun b => decide (b < 2 ^ N 31 ∧ b &&& N 44 = 0)) (gtR N) (wsR N) j i s = mosL (fun b => decide (b &&& N 44 = 0)) (gtR N) (wsR N) (2 ^ N 31 - 1) 1 0 → fA M_M_most E (fZ M_M_most E (qI (fun r k g => r = nI (mosL (fun b => decide (b &&& N 44 = 0)) (gtR N) (wsR N) (2 ^ N 31 - 1) 1 0) ∧ k = n ∧ fC h g ∧ MS g N I tn bt ab be rb rn rf))) n g 0 0 24 [some (.ref 63), some (.int (nI 0)), some (.int (nI s)), some (.int (nI i))] [] := by
    intro j
    induction j with
    | zero =>
      intro i s g hi W F hs he
      obtain rfl : i = 64 := by omega
      have m1g : g 64 = nA 189 N := (F 64 (by decide) (by decide) (by decide)).trans M1
      have W9 := W
      obtain ⟨⟨⟨th9, mn9, m09⟩, f9, m89⟩, w9, kw9, m79⟩ := W9
      have he2 : s = mosL (fun b => decide (b &&& N 44 = 0)) (gtR N) (wsR N) (2 ^ N 31 - 1) 1 0 := he
      refine a_il3 fM_most_24 ?_
      refine a_ic fM_most_25 ?_
      refine a_ic_ge fM_most_27 (fun _ => ?_) (fun c_ => absurd (Int32.le_refl _) c_)
      refine a_il1 fM_most_74 ?_
      refine a_if_ne fM_most_75 (fun c_ => absurd (by decide) c_) (fun _ => ?_)
      refine a_il2 fM_most_78 ?_
      refine a_goto fM_most_79 ?_
      exact a_ri fM_most_87 rfl (⟨_, rfl, congrArg nI he2, rfl, (F1.trans F).c, ⟨nx, pl, tk, fa, W⟩, R1.of F⟩)
    | succ j ih =>
      intro i s g hi W F hs he
      have m1g : g 64 = nA 189 N := (F 64 (by decide) (by decide) (by decide)).trans M1
      have W9 := W
      obtain ⟨⟨⟨th9, mn9, m09⟩, f9, m89⟩, w9, kw9, m79⟩ := W9
      refine a_il3 fM_most_24 ?_
      refine a_ic fM_most_25 ?_
      refine a_ic_ge fM_most_27 (fun c_ => absurd c_ (nI_ge (b := 64) (by omega) (by decide))) (fun _ => ?_)
      have nx2 : ∀ (g2 : hT) (s2 : Nat), mW (nI tn, nx, pl, tk, fa, (nI ab).toInt64, (nI be).toInt64) g2 → mF h1 g2 → s2 < 2 ^ N 31 → (if (fun b => decide (b < 2 ^ N 31 ∧ b &&& N 44 = 0)) i = true ∧ wsR N s < wsR N i ∧ gtR N i = true then i else s) = s2 → fA M_M_most E (fZ M_M_most E (qI (fun r k g => r = nI (mosL (fun b => decide (b &&& N 44 = 0)) (gtR N) (wsR N) (2 ^ N 31 - 1) 1 0) ∧ k = n ∧ fC h g ∧ MS g N I tn bt ab be rb rn rf))) n g2 0 0 67 [some (.ref 63), some (.int (nI 0)), some (.int (nI s)), some (.int (nI i))] [.int (nI s2)] := by
        intro g2 s2 W2 F2 hs2 he2
        refine a_is2 fM_most_67 (by decide) rfl ?_
        refine a_inc3 fM_most_68 (by decide) rfl ?_
        refine a_goto fM_most_71 ?_
        rw [nI_1]
        exact ih (i + 1) s2 g2 (by omega) W2 F2 hs2 (by rw [← he, ← he2]; rfl)
      refine a_il3 fM_most_30 ?_
      refine a_al0 fM_most_31 ?_
      refine a_V0V fM_most_32 k_M_179 m_M_unpaid ⟨by decide, by decide⟩ m09 rfl ⟨rfl, rfl⟩ (Nat.le_of_ble_eq_true rfl) (c_Munpaid m09 m1g k31 hp) ?_
      refine a_ic fM_most_35 ?_
      refine a_ixor fM_most_36 ?_
      refine a_iand fM_most_37 ?_
      rw [nunp _ (unp_lt (N 31) (by omega) (N 44) hp) i (by omega)]
      by_cases cp : i < 2 ^ N 31 ∧ i &&& N 44 = 0
      · refine a_if_ne fM_most_38 (fun c_ => absurd (congrArg nI ((setp (N 31) (by omega) (N 44) hp i (by omega)).mpr cp)) c_) (fun _ => ?_)
        refine a_al0 fM_most_41 ?_
        refine a_il3 fM_most_42 ?_
        refine a_V1V fM_most_43 k_M_182 m_M_worthOf ⟨by decide, by decide⟩ m09 rfl ⟨rfl, rfl⟩ (Nat.le_of_ble_eq_true rfl) (c_MworthOf (bits := i) m09 m1g K.b (by omega)) ?_
        refine a_al0 fM_most_46 ?_
        refine a_il2 fM_most_47 ?_
        refine a_V1V fM_most_48 k_M_182 m_M_worthOf ⟨by decide, by decide⟩ m09 rfl ⟨rfl, rfl⟩ (Nat.le_of_ble_eq_true rfl) (c_MworthOf (bits := s) m09 m1g K.b (by omega)) ?_
        rw [wsR_cut k31 cp.1, wsR_cut k31 hs]
        have b1 : ∀ x, x < 2 ^ N 31 → wsR N x ≤ 99 * 6 := fun x hx => wsm_le 6 0 (fun y => by
          by_cases q : y < N 31
          · exact Or.inl (by have := (K.2.2.2.1 y q).2; omega)
          · exact Or.inr (bit_hi hx (by omega)))
        have b2 := b1 i cp.1
        have b3 := b1 s hs
        by_cases cw : wsR N s < wsR N i
        · refine a_ic_le fM_most_51 (fun c_ => absurd c_ (fun z => absurd ((nI_leI (by omega) (by omega)).mp z) (by omega))) (fun _ => ?_)
          refine a_al0 fM_most_54 ?_
          refine a_il3 fM_most_55 ?_
          refine a_V1I fM_most_56 k_M_185 m_M_canAll ⟨by decide, by decide⟩ m09 rfl ⟨rfl, rfl⟩ (Nat.le_of_ble_eq_true rfl) (c_McanAll (bits := i) W m1g O K.b (by omega)) (fun r3 n3 h3 p3 => ?_)
          obtain ⟨hr3, hn3, W3, F3⟩ := p3
          subst n3
          rw [hr3]
          by_cases cg : gtR N i = true
          · refine a_if_eq fM_most_59 (fun c_ => absurd c_ (fun z => by rw [bI_t cg] at z; exact absurd z (by decide))) (fun _ => ?_)
            refine a_il3 fM_most_62 ?_
            refine a_goto fM_most_63 ?_
            exact nx2 h3 i W3 (F.trans F3) cp.1 (by rw [if_pos ⟨decide_eq_true cp, cw, cg⟩])
          · refine a_if_eq fM_most_59 (fun _ => ?_) (fun c_ => absurd (by rw [bI_f cg]) c_)
            refine a_il2 fM_most_66 ?_
            exact nx2 h3 s W3 (F.trans F3) hs (by rw [if_neg (fun z => cg z.2.2)])
        · refine a_ic_le fM_most_51 (fun _ => ?_) (fun c_ => absurd (nI_le (by omega) (by omega)) c_)
          refine a_il2 fM_most_66 ?_
          exact nx2 g s W F hs (by rw [if_neg (fun z => cw z.2.1)])
      · refine a_if_ne fM_most_38 (fun _ => ?_) (fun c_ => absurd c_ (fun z => cp ((setp (N 31) (by omega) (N 44) hp i (by omega)).mp ((nI_eq (b := 0) (Nat.lt_of_le_of_lt Nat.and_le_left (by omega)) (by decide)).mp z))))
        refine a_il2 fM_most_66 ?_
        exact nx2 g s W F hs (by rw [if_neg (fun z => cp (of_decide_eq_true z.1))])
  refine a_ic fM_most_20 ?_
  refine a_is2 fM_most_21 (by decide) rfl ?_
  refine a_ic fM_most_22 ?_
  refine a_is3 fM_most_23 (by decide) rfl ?_
  exact loop 64 0 0 h1 rfl W1 mF.rf p0 (mos_eq k31)
theorem m_most1 (X : MS h N I tn bt ab be rb rn rf) (K : okN N) : fE M_M_most E [.ref 63, .int (nI 1)] n h (qI (fun r k g => r = nI (wsR N (mosL (fun b => decide (b &&& N 44 = 0)) (gtR N) (wsR N) (2 ^ N 31 - 1) 1 0)) ∧ k = n ∧ fC h g ∧ MS g N I tn bt ab be rb rn rf)) := by
  have O := K.c
  have k31 := K.2.2.1.1
  obtain ⟨⟨nx, pl, tk, fa, ⟨⟨th, mn, m0⟩, f0, m8⟩, w0, kw0, m7⟩, R0⟩ := X
  refine fE.of (L := [some (.ref 63), some (.int (nI 1)), none, none]) (by decide +kernel) (Nat.le_of_ble_eq_true rfl) rfl ?_
  refine a_al0 fM_most_0 ?_
  refine a_ic fM_most_1 ?_
  refine a_pfi0 fM_most_2 p_M_43 m0 ?_
  obtain ⟨h1, e1, W1, R1, F1⟩ := mThr m0 m8 kw0 m7 R0
  change fA _ _ _ _ (va_up h 63 (mO (nI tn, nx, pl, tk, fa, (nI ab).toInt64, (nI be).toInt64) 0 mn)) _ _ _ _ _
  rw [e1]
  clear e1 R0 m7 m8 m0
  have W2 := W1
  obtain ⟨M2, w1, kw1, M7⟩ := W2
  have M3 := M2
  obtain ⟨⟨th1, mn1, M0⟩, f1, M8⟩ := M3
  have M1 := R1.1.1
  obtain ⟨Rf, M6, r0, r1, r2⟩ := R1.2.2.2.2
  have hp : N 44 < 64 := Nat.lt_of_lt_of_le K.2.2.2.2.1 (pw64 k31)
  have p6 := pw64 k31
  have p0 : 0 < 2 ^ N 31 := Nat.two_pow_pos _
  refine a_il1 fM_most_5 ?_
  refine a_ic fM_most_6 ?_
  refine a_ic fM_most_7 ?_
  refine a_S3V fM_most_8 k_M_70 m_M_in ⟨by decide, by decide⟩ ⟨rfl, rfl⟩ (Nat.le_of_ble_eq_true rfl) (c_Min) ?_
  refine a_if_ne fM_most_11 (fun _ => ?_) (fun c_ => absurd c_ (by decide))
  have loop : ∀ (j i s : Nat) (g : hT), i + j = 64 → mW (nI tn, nx, pl, tk, fa, (nI ab).toInt64, (nI be).toInt64) g → mF h1 g → s < 2 ^ N 31 → mosL (fun b => decide (b < 2 ^ N 31 ∧ b &&& N 44 = 0)) (gtR N) (wsR N) j i s = mosL (fun b => decide (b &&& N 44 = 0)) (gtR N) (wsR N) (2 ^ N 31 - 1) 1 0 → fA M_M_most E (fZ M_M_most E (qI (fun r k g => r = nI (wsR N (mosL (fun b => decide (b &&& N 44 = 0)) (gtR N) (wsR N) (2 ^ N 31 - 1) 1 0)) ∧ k = n ∧ fC h g ∧ MS g N I tn bt ab be rb rn rf))) n g 0 0 24 [some (.ref 63), some (.int (nI 1)), some (.int (nI s)), some (.int (nI i))] [] := by
    intro j
    induction j with
    | zero =>
      intro i s g hi W F hs he
      obtain rfl : i = 64 := by omega
      have m1g : g 64 = nA 189 N := (F 64 (by decide) (by decide) (by decide)).trans M1
      have W9 := W
      obtain ⟨⟨⟨th9, mn9, m09⟩, f9, m89⟩, w9, kw9, m79⟩ := W9
      have he2 : s = mosL (fun b => decide (b &&& N 44 = 0)) (gtR N) (wsR N) (2 ^ N 31 - 1) 1 0 := he
      refine a_il3 fM_most_24 ?_
      refine a_ic fM_most_25 ?_
      refine a_ic_ge fM_most_27 (fun _ => ?_) (fun c_ => absurd (Int32.le_refl _) c_)
      refine a_il1 fM_most_74 ?_
      refine a_if_ne fM_most_75 (fun _ => ?_) (fun c_ => absurd c_ (by decide))
      refine a_al0 fM_most_82 ?_
      refine a_il2 fM_most_83 ?_
      refine a_V1V fM_most_84 k_M_182 m_M_worthOf ⟨by decide, by decide⟩ m09 rfl ⟨rfl, rfl⟩ (Nat.le_of_ble_eq_true rfl) (c_MworthOf (bits := s) m09 m1g K.b (by omega)) ?_
      exact a_ri fM_most_87 rfl (⟨_, rfl, by rw [wsR_cut k31 hs, ← he2], rfl, (F1.trans F).c, ⟨nx, pl, tk, fa, W⟩, R1.of F⟩)
    | succ j ih =>
      intro i s g hi W F hs he
      have m1g : g 64 = nA 189 N := (F 64 (by decide) (by decide) (by decide)).trans M1
      have W9 := W
      obtain ⟨⟨⟨th9, mn9, m09⟩, f9, m89⟩, w9, kw9, m79⟩ := W9
      refine a_il3 fM_most_24 ?_
      refine a_ic fM_most_25 ?_
      refine a_ic_ge fM_most_27 (fun c_ => absurd c_ (nI_ge (b := 64) (by omega) (by decide))) (fun _ => ?_)
      have nx2 : ∀ (g2 : hT) (s2 : Nat), mW (nI tn, nx, pl, tk, fa, (nI ab).toInt64, (nI be).toInt64) g2 → mF h1 g2 → s2 < 2 ^ N 31 → (if (fun b => decide (b < 2 ^ N 31 ∧ b &&& N 44 = 0)) i = true ∧ wsR N s < wsR N i ∧ gtR N i = true then i else s) = s2 → fA M_M_most E (fZ M_M_most E (qI (fun r k g => r = nI (wsR N (mosL (fun b => decide (b &&& N 44 = 0)) (gtR N) (wsR N) (2 ^ N 31 - 1) 1 0)) ∧ k = n ∧ fC h g ∧ MS g N I tn bt ab be rb rn rf))) n g2 0 0 67 [some (.ref 63), some (.int (nI 1)), some (.int (nI s)), some (.int (nI i))] [.int (nI s2)] := by
        intro g2 s2 W2 F2 hs2 he2
        refine a_is2 fM_most_67 (by decide) rfl ?_
        refine a_inc3 fM_most_68 (by decide) rfl ?_
        refine a_goto fM_most_71 ?_
        rw [nI_1]
        exact ih (i + 1) s2 g2 (by omega) W2 F2 hs2 (by rw [← he, ← he2]; rfl)
      refine a_il3 fM_most_30 ?_
      refine a_al0 fM_most_31 ?_
      refine a_V0V fM_most_32 k_M_179 m_M_unpaid ⟨by decide, by decide⟩ m09 rfl ⟨rfl, rfl⟩ (Nat.le_of_ble_eq_true rfl) (c_Munpaid m09 m1g k31 hp) ?_
      refine a_ic fM_most_35 ?_
      refine a_ixor fM_most_36 ?_
      refine a_iand fM_most_37 ?_
      rw [nunp _ (unp_lt (N 31) (by omega) (N 44) hp) i (by omega)]
      by_cases cp : i < 2 ^ N 31 ∧ i &&& N 44 = 0
      · refine a_if_ne fM_most_38 (fun c_ => absurd (congrArg nI ((setp (N 31) (by omega) (N 44) hp i (by omega)).mpr cp)) c_) (fun _ => ?_)
        refine a_al0 fM_most_41 ?_
        refine a_il3 fM_most_42 ?_
        refine a_V1V fM_most_43 k_M_182 m_M_worthOf ⟨by decide, by decide⟩ m09 rfl ⟨rfl, rfl⟩ (Nat.le_of_ble_eq_true rfl) (c_MworthOf (bits := i) m09 m1g K.b (by omega)) ?_
        refine a_al0 fM_most_46 ?_
        refine a_il2 fM_most_47 ?_
        refine a_V1V fM_most_48 k_M_182 m_M_worthOf ⟨by decide, by decide⟩ m09 rfl ⟨rfl, rfl⟩ (Nat.le_of_ble_eq_true rfl) (c_MworthOf (bits := s) m09 m1g K.b (by omega)) ?_
        rw [wsR_cut k31 cp.1, wsR_cut k31 hs]
        have b1 : ∀ x, x < 2 ^ N 31 → wsR N x ≤ 99 * 6 := fun x hx => wsm_le 6 0 (fun y => by
          by_cases q : y < N 31
          · exact Or.inl (by have := (K.2.2.2.1 y q).2; omega)
          · exact Or.inr (bit_hi hx (by omega)))
        have b2 := b1 i cp.1
        have b3 := b1 s hs
        by_cases cw : wsR N s < wsR N i
        · refine a_ic_le fM_most_51 (fun c_ => absurd c_ (fun z => absurd ((nI_leI (by omega) (by omega)).mp z) (by omega))) (fun _ => ?_)
          refine a_al0 fM_most_54 ?_
          refine a_il3 fM_most_55 ?_
          refine a_V1I fM_most_56 k_M_185 m_M_canAll ⟨by decide, by decide⟩ m09 rfl ⟨rfl, rfl⟩ (Nat.le_of_ble_eq_true rfl) (c_McanAll (bits := i) W m1g O K.b (by omega)) (fun r3 n3 h3 p3 => ?_)
          obtain ⟨hr3, hn3, W3, F3⟩ := p3
          subst n3
          rw [hr3]
          by_cases cg : gtR N i = true
          · refine a_if_eq fM_most_59 (fun c_ => absurd c_ (fun z => by rw [bI_t cg] at z; exact absurd z (by decide))) (fun _ => ?_)
            refine a_il3 fM_most_62 ?_
            refine a_goto fM_most_63 ?_
            exact nx2 h3 i W3 (F.trans F3) cp.1 (by rw [if_pos ⟨decide_eq_true cp, cw, cg⟩])
          · refine a_if_eq fM_most_59 (fun _ => ?_) (fun c_ => absurd (by rw [bI_f cg]) c_)
            refine a_il2 fM_most_66 ?_
            exact nx2 h3 s W3 (F.trans F3) hs (by rw [if_neg (fun z => cg z.2.2)])
        · refine a_ic_le fM_most_51 (fun _ => ?_) (fun c_ => absurd (nI_le (by omega) (by omega)) c_)
          refine a_il2 fM_most_66 ?_
          exact nx2 g s W F hs (by rw [if_neg (fun z => cw z.2.1)])
      · refine a_if_ne fM_most_38 (fun _ => ?_) (fun c_ => absurd c_ (fun z => cp ((setp (N 31) (by omega) (N 44) hp i (by omega)).mp ((nI_eq (b := 0) (Nat.lt_of_le_of_lt Nat.and_le_left (by omega)) (by decide)).mp z))))
        refine a_il2 fM_most_66 ?_
        exact nx2 g s W F hs (by rw [if_neg (fun z => cp (of_decide_eq_true z.1))])
  refine a_ic fM_most_20 ?_
  refine a_is2 fM_most_21 (by decide) rfl ?_
  refine a_ic fM_most_22 ?_
  refine a_is3 fM_most_23 (by decide) rfl ?_
  exact loop 64 0 0 h1 rfl W1 mF.rf p0 (mos_eq k31)
theorem m_wanted_bad {w : Int32} (X : MS h N I tn bt ab be rb rn rf) (hb : ¬ ((0 ≤ w ∧ w ≤ 1))) : fE M_M_wanted E [.ref 63, .int w] n h (qI (fun r k g => r = -2 ∧ k = n ∧ fC h g ∧ MS g N I tn bt ab be (rb + 1) rn rf)) := by
  obtain ⟨⟨nx, pl, tk, fa, ⟨⟨th, mn, m0⟩, f0, m8⟩, w0, kw0, m7⟩, R0⟩ := X
  refine fE.of (L := [some (.ref 63), some (.int (w)), none, none, none, none]) (by decide +kernel) (Nat.le_of_ble_eq_true rfl) rfl ?_
  refine a_al0 fM_wanted_0 ?_
  refine a_ic fM_wanted_1 ?_
  refine a_pfi0 fM_wanted_2 p_M_43 m0 ?_
  obtain ⟨h1, e1, W1, R1, F1⟩ := mThr m0 m8 kw0 m7 R0
  change fA _ _ _ _ (va_up h 63 (mO (nI tn, nx, pl, tk, fa, (nI ab).toInt64, (nI be).toInt64) 0 mn)) _ _ _ _ _
  rw [e1]
  clear e1 R0 m7 m8 m0
  have W2 := W1
  obtain ⟨M2, w1, kw1, M7⟩ := W2
  have M3 := M2
  obtain ⟨⟨th1, mn1, M0⟩, f1, M8⟩ := M3
  have M1 := R1.1.1
  obtain ⟨Rf, M6, r0, r1, r2⟩ := R1.2.2.2.2
  by_cases d0 : (0 ≤ w ∧ w ≤ 1)
  · exact absurd d0 hb
  · refine a_il1 fM_wanted_5 ?_
    refine a_ic fM_wanted_6 ?_
    refine a_ic fM_wanted_7 ?_
    refine a_S3V fM_wanted_8 k_M_70 m_M_in ⟨by decide, by decide⟩ ⟨rfl, rfl⟩ (Nat.le_of_ble_eq_true rfl) (c_Min) ?_
    refine a_if_ne fM_wanted_11 (fun c_ => absurd (by rw [bI_f d0]) c_) (fun _ => ?_)
    refine a_al0 fM_wanted_14 ?_
    refine a_ic fM_wanted_15 ?_
    refine a_V1V fM_wanted_16 k_M_74 m_M_refuses ⟨by decide, by decide⟩ M0 rfl ⟨rfl, rfl⟩ (Nat.le_of_ble_eq_true rfl) (c_Mrefuses (w := 0) M0 M6 (by decide)) ?_
    exact a_ri fM_wanted_19 rfl (⟨_, rfl, rfl, rfl, F1.c.up (by decide), ⟨nx, pl, tk, fa, W1.up (by decide) (by decide) (by decide)⟩, R1.re0 M6 r0 r1 r2⟩)
theorem mstL_at {C : Nat → Nat} : ∀ (j i s : Nat) (m : Option Nat), (∀ c, m = some c → c = C s) → (j = 0 → m ≠ none) → ∃ s2, mstL C j i s m = s2 := fun j i s m _ _ => ⟨_, rfl⟩
def wnI (m : Option Nat) (s : Nat) : Int32 := match m with
  | none => -1
  | some _ => nI s
def wnC (m : Option Nat) : Int32 := match m with
  | none => -1
  | some c => nI c
theorem m_wanted0 (X : MS h N I tn bt ab be rb rn rf) (K : okN N) : fE M_M_wanted E [.ref 63, .int (nI 0)] n h (qI (fun r k g => r = nI (mstL (nwt N) 10 0 0 none) ∧ k = n ∧ fC h g ∧ MS g N I tn bt ab be rb rn rf)) := by
  have O := K.c
  have k31 := K.2.2.1.1
  obtain ⟨⟨nx, pl, tk, fa, ⟨⟨th, mn, m0⟩, f0, m8⟩, w0, kw0, m7⟩, R0⟩ := X
  refine fE.of (L := [some (.ref 63), some (.int (nI 0)), none, none, none, none]) (by decide +kernel) (Nat.le_of_ble_eq_true rfl) rfl ?_
  refine a_al0 fM_wanted_0 ?_
  refine a_ic fM_wanted_1 ?_
  refine a_pfi0 fM_wanted_2 p_M_43 m0 ?_
  obtain ⟨h1, e1, W1, R1, F1⟩ := mThr m0 m8 kw0 m7 R0
  change fA _ _ _ _ (va_up h 63 (mO (nI tn, nx, pl, tk, fa, (nI ab).toInt64, (nI be).toInt64) 0 mn)) _ _ _ _ _
  rw [e1]
  clear e1 R0 m7 m8 m0
  have W2 := W1
  obtain ⟨M2, w1, kw1, M7⟩ := W2
  have M3 := M2
  obtain ⟨⟨th1, mn1, M0⟩, f1, M8⟩ := M3
  have M1 := R1.1.1
  obtain ⟨Rf, M6, r0, r1, r2⟩ := R1.2.2.2.2
  refine a_il1 fM_wanted_5 ?_
  refine a_ic fM_wanted_6 ?_
  refine a_ic fM_wanted_7 ?_
  refine a_S3V fM_wanted_8 k_M_70 m_M_in ⟨by decide, by decide⟩ ⟨rfl, rfl⟩ (Nat.le_of_ble_eq_true rfl) (c_Min) ?_
  refine a_if_ne fM_wanted_11 (fun _ => ?_) (fun c_ => absurd c_ (by decide))
  have loop : ∀ (j i s : Nat) (m : Option Nat) (g : hT) (x5 : Option Value), i + j = 10 → mM (nI tn, nx, pl, tk, fa, (nI ab).toInt64, (nI be).toInt64) g → mL h1 g → (m = none ∨ m = some (nwt N s)) → (m = none ↔ i = 0) → (∀ c, m = some c → c ≤ 100) → mstL (nwt N) j i s m = mstL (nwt N) 10 0 0 none → fA M_M_wanted E (fZ M_M_wanted E (qI (fun r k g => r = nI (mstL (nwt N) 10 0 0 none) ∧ k = n ∧ fC h g ∧ MS g N I tn bt ab be rb rn rf))) n g 0 0 27 [some (.ref 63), some (.int (nI 0)), some (.int (wnI m s)), some (.int (wnC m)), some (.int (nI i)), x5] [] := by
    intro j
    induction j with
    | zero =>
      intro i s m g x5 hi M F h1m h2m h3m he
      obtain rfl : i = 10 := by omega
      have he2 : s = mstL (nwt N) 10 0 0 none := he
      have hm : m = some (nwt N s) := h1m.resolve_left (fun z => absurd (h2m.mp z) (by decide))
      subst hm
      refine a_il4 fM_wanted_27 ?_
      refine a_ic fM_wanted_29 ?_
      refine a_ic_ge fM_wanted_31 (fun _ => ?_) (fun c_ => absurd (Int32.le_refl _) c_)
      refine a_il1 fM_wanted_102 ?_
      refine a_if_ne fM_wanted_103 (fun c_ => absurd (by decide) c_) (fun _ => ?_)
      refine a_il2 fM_wanted_106 ?_
      refine a_goto fM_wanted_107 ?_
      exact a_ri fM_wanted_111 rfl (⟨_, rfl, congrArg nI he2, rfl, (F1.trans F.f).c, ⟨nx, pl, tk, fa, W1.l M F⟩, R1.of F.f⟩)
    | succ j ih =>
      intro i s m g x5 hi M F h1m h2m h3m he
      have m1g : g 64 = nA 189 N := (F 64 (by decide) (by decide)).trans M1
      have M9 := M
      obtain ⟨⟨th9, mn9, m09⟩, f9, m89⟩ := M9
      have ks := K.s i (by omega)
      refine a_il4 fM_wanted_27 ?_
      refine a_ic fM_wanted_29 ?_
      refine a_ic_ge fM_wanted_31 (fun c_ => absurd c_ (nI_ge (b := 10) (by omega) (by decide))) (fun _ => ?_)
      refine a_al0 fM_wanted_34 ?_
      refine a_gf fM_wanted_35 l_M_7 m09 rfl ?_
      refine a_ic fM_wanted_38 ?_
      refine a_il4 fM_wanted_40 ?_
      refine a_iadd fM_wanted_42 ?_
      refine a_dup2 fM_wanted_43 rfl rfl ?_
      refine a_ia fM_wanted_44 m1g (nI_add 10 _) (by omega) (by decide) ?_
      refine a_ic fM_wanted_45 ?_
      refine a_iadd fM_wanted_47 ?_
      refine a_it fM_wanted_48 m1g (nI_add 10 _) (by omega) (by decide) ?_
      rw [show nF N (10 + i) + 10 = nI (N (10 + i) + 10) from nI_add _ 10, upd_nF]
      have O9 : okC (strN N i) := ⟨fun f hf => by
        have := O.1 f hf
        have := K.s f hf
        unfold strN va_up
        grind, by unfold strN; rw [vn (by omega)]; exact O.2⟩
      refine a_al0 fM_wanted_49 ?_
      refine a_V0I fM_wanted_50 k_M_197 m_M_manyCan ⟨by decide, by decide⟩ (up_n (by decide) m09) rfl ⟨rfl, rfl⟩ (Nat.le_of_ble_eq_true rfl) (c_MmanyCan (N := strN N i) (M.up (by decide) (by decide)) up_s O9) (fun r3 n3 h3 p3 => ?_)
      obtain ⟨hr3, hn3, M3, F3⟩ := p3
      subst n3
      have hr4 : r3 = nI (nwt N i) := hr3
      rw [hr4]
      have m13 : h3 64 = nA 189 (strN N i) := (F3 64 (by decide) (by decide)).trans up_s
      have M93 := M3
      obtain ⟨⟨th3, mn3, m03⟩, f3, m83⟩ := M93
      refine a_is5 fM_wanted_53 (by decide) rfl ?_
      refine a_al0 fM_wanted_55 ?_
      refine a_gf fM_wanted_56 l_M_7 m03 rfl ?_
      refine a_ic fM_wanted_59 ?_
      refine a_il4 fM_wanted_61 ?_
      refine a_iadd fM_wanted_63 ?_
      refine a_dup2 fM_wanted_64 rfl rfl ?_
      refine a_ia fM_wanted_65 m13 (nI_add 10 _) (by omega) (by decide) ?_
      refine a_ic fM_wanted_66 ?_
      refine a_isub fM_wanted_68 ?_
      refine a_it fM_wanted_69 m13 (nI_add 10 _) (by omega) (by decide) ?_
      refine fA.ud (v := N (10 + i)) (F2 := N) (by rw [show nF (strN N i) (10 + i) = nI (N (10 + i) + 10) from congrArg nI up_s]; exact (pk_sub (b := 10) (by omega)).trans (congrArg nI (by omega))) (fun j => by unfold strN va_up; grind) ?_
      have F5 : mL h1 (va_up h3 64 (nA 189 N)) := fun a a1 a2 => by
        by_cases q : a = 64
        · subst q; exact up_s.trans M1.symm
        · exact up_n q ((F3 a a1 a2).trans (up_n q (F a a1 a2)))
      have M5 : mM (nI tn, nx, pl, tk, fa, (nI ab).toInt64, (nI be).toInt64) (va_up h3 64 (nA 189 N)) := M3.up (by decide) (by decide)
      have nb : nwt N i ≤ 100 := by have := ncn_le (P := fun v => decide (canR (strN N i) v v)) 100 0 0; unfold nwt; omega
      cases m with
      | none =>
        obtain rfl : i = 0 := h2m.mp rfl
        refine a_il5 fM_wanted_70 ?_
        refine a_il3 fM_wanted_72 ?_
        refine a_ic_le fM_wanted_73 (fun c_ => absurd c_ (fun z => absurd z (Int32.not_le.mpr (Int32.lt_of_lt_of_le (by decide) (nI_pos' (show nwt N 0 < 2 ^ 31 by omega)))))) (fun _ => ?_)
        refine a_il4 fM_wanted_76 ?_
        refine a_goto fM_wanted_78 ?_
        refine a_is2 fM_wanted_82 (by decide) rfl ?_
        refine a_il5 fM_wanted_83 ?_
        refine a_il3 fM_wanted_85 ?_
        refine a_ic_le fM_wanted_86 (fun c_ => absurd c_ (fun z => absurd z (Int32.not_le.mpr (Int32.lt_of_lt_of_le (by decide) (nI_pos' (show nwt N 0 < 2 ^ 31 by omega)))))) (fun _ => ?_)
        refine a_il5 fM_wanted_89 ?_
        refine a_goto fM_wanted_91 ?_
        refine a_is3 fM_wanted_95 (by decide) rfl ?_
        refine a_inc4 fM_wanted_96 (by decide) rfl ?_
        refine a_goto fM_wanted_99 ?_
        rw [nI_1]
        exact ih 1 0 (some (nwt N 0)) _ _ (by omega) M5 F5 (Or.inr rfl) ⟨fun z => (by cases z), fun z => (by omega)⟩ (fun c hc => by cases hc; exact nb) he
      | some c =>
        have c1 := h3m c rfl
        by_cases c9 : c < nwt N i
        · refine a_il5 fM_wanted_70 ?_
          refine a_il3 fM_wanted_72 ?_
          refine a_ic_le fM_wanted_73 (fun c_ => absurd c_ (fun z => absurd ((nI_leI (by omega) (by omega)).mp z) (by omega))) (fun _ => ?_)
          refine a_il4 fM_wanted_76 ?_
          refine a_goto fM_wanted_78 ?_
          refine a_is2 fM_wanted_82 (by decide) rfl ?_
          refine a_il5 fM_wanted_83 ?_
          refine a_il3 fM_wanted_85 ?_
          refine a_ic_le fM_wanted_86 (fun c_ => absurd c_ (fun z => absurd ((nI_leI (by omega) (by omega)).mp z) (by omega))) (fun _ => ?_)
          refine a_il5 fM_wanted_89 ?_
          refine a_goto fM_wanted_91 ?_
          refine a_is3 fM_wanted_95 (by decide) rfl ?_
          refine a_inc4 fM_wanted_96 (by decide) rfl ?_
          refine a_goto fM_wanted_99 ?_
          rw [nI_1]
          exact ih (i + 1) i (some (nwt N i)) _ _ (by omega) M5 F5 (Or.inr rfl) ⟨fun z => (by cases z), fun z => (by omega)⟩ (fun c hc => by cases hc; exact nb) (by rw [← he]; simp only [mstL, mgt, c9, decide_true, ↓reduceIte])
        · refine a_il5 fM_wanted_70 ?_
          refine a_il3 fM_wanted_72 ?_
          refine a_ic_le fM_wanted_73 (fun _ => ?_) (fun c_ => absurd (nI_le (by omega) (by omega)) c_)
          refine a_il2 fM_wanted_81 ?_
          refine a_is2 fM_wanted_82 (by decide) rfl ?_
          refine a_il5 fM_wanted_83 ?_
          refine a_il3 fM_wanted_85 ?_
          refine a_ic_le fM_wanted_86 (fun _ => ?_) (fun c_ => absurd (nI_le (by omega) (by omega)) c_)
          refine a_il3 fM_wanted_94 ?_
          refine a_is3 fM_wanted_95 (by decide) rfl ?_
          refine a_inc4 fM_wanted_96 (by decide) rfl ?_
          refine a_goto fM_wanted_99 ?_
          rw [nI_1]
          exact ih (i + 1) s (some c) _ _ (by omega) M5 F5 (Or.inr (h1m.resolve_left (fun z => by cases z))) ⟨fun z => (by cases z), fun z => (by omega)⟩ h3m (by rw [← he]; simp only [mstL, mgt, c9, decide_false, Bool.false_eq_true, ↓reduceIte])
  refine a_ic fM_wanted_20 ?_
  refine a_is2 fM_wanted_21 (by decide) rfl ?_
  refine a_ic fM_wanted_22 ?_
  refine a_is3 fM_wanted_23 (by decide) rfl ?_
  refine a_ic fM_wanted_24 ?_
  refine a_is4 fM_wanted_25 (by decide) rfl ?_
  exact loop 10 0 0 none h1 none rfl M2 mL.rf (Or.inl rfl) ⟨fun _ => rfl, fun _ => rfl⟩ (fun _ z => by cases z) rfl
theorem m_wanted1 (X : MS h N I tn bt ab be rb rn rf) (K : okN N) : fE M_M_wanted E [.ref 63, .int (nI 1)] n h (qI (fun r k g => r = nI (nwt N (mstL (nwt N) 10 0 0 none)) ∧ k = n ∧ fC h g ∧ MS g N I tn bt ab be rb rn rf)) := by
  have O := K.c
  have k31 := K.2.2.1.1
  obtain ⟨⟨nx, pl, tk, fa, ⟨⟨th, mn, m0⟩, f0, m8⟩, w0, kw0, m7⟩, R0⟩ := X
  refine fE.of (L := [some (.ref 63), some (.int (nI 1)), none, none, none, none]) (by decide +kernel) (Nat.le_of_ble_eq_true rfl) rfl ?_
  refine a_al0 fM_wanted_0 ?_
  refine a_ic fM_wanted_1 ?_
  refine a_pfi0 fM_wanted_2 p_M_43 m0 ?_
  obtain ⟨h1, e1, W1, R1, F1⟩ := mThr m0 m8 kw0 m7 R0
  change fA _ _ _ _ (va_up h 63 (mO (nI tn, nx, pl, tk, fa, (nI ab).toInt64, (nI be).toInt64) 0 mn)) _ _ _ _ _
  rw [e1]
  clear e1 R0 m7 m8 m0
  have W2 := W1
  obtain ⟨M2, w1, kw1, M7⟩ := W2
  have M3 := M2
  obtain ⟨⟨th1, mn1, M0⟩, f1, M8⟩ := M3
  have M1 := R1.1.1
  obtain ⟨Rf, M6, r0, r1, r2⟩ := R1.2.2.2.2
  refine a_il1 fM_wanted_5 ?_
  refine a_ic fM_wanted_6 ?_
  refine a_ic fM_wanted_7 ?_
  refine a_S3V fM_wanted_8 k_M_70 m_M_in ⟨by decide, by decide⟩ ⟨rfl, rfl⟩ (Nat.le_of_ble_eq_true rfl) (c_Min) ?_
  refine a_if_ne fM_wanted_11 (fun _ => ?_) (fun c_ => absurd c_ (by decide))
  have loop : ∀ (j i s : Nat) (m : Option Nat) (g : hT) (x5 : Option Value), i + j = 10 → mM (nI tn, nx, pl, tk, fa, (nI ab).toInt64, (nI be).toInt64) g → mL h1 g → (m = none ∨ m = some (nwt N s)) → (m = none ↔ i = 0) → (∀ c, m = some c → c ≤ 100) → mstL (nwt N) j i s m = mstL (nwt N) 10 0 0 none → fA M_M_wanted E (fZ M_M_wanted E (qI (fun r k g => r = nI (nwt N (mstL (nwt N) 10 0 0 none)) ∧ k = n ∧ fC h g ∧ MS g N I tn bt ab be rb rn rf))) n g 0 0 27 [some (.ref 63), some (.int (nI 1)), some (.int (wnI m s)), some (.int (wnC m)), some (.int (nI i)), x5] [] := by
    intro j
    induction j with
    | zero =>
      intro i s m g x5 hi M F h1m h2m h3m he
      obtain rfl : i = 10 := by omega
      have he2 : s = mstL (nwt N) 10 0 0 none := he
      have hm : m = some (nwt N s) := h1m.resolve_left (fun z => absurd (h2m.mp z) (by decide))
      subst hm
      refine a_il4 fM_wanted_27 ?_
      refine a_ic fM_wanted_29 ?_
      refine a_ic_ge fM_wanted_31 (fun _ => ?_) (fun c_ => absurd (Int32.le_refl _) c_)
      refine a_il1 fM_wanted_102 ?_
      refine a_if_ne fM_wanted_103 (fun _ => ?_) (fun c_ => absurd c_ (by decide))
      refine a_il3 fM_wanted_110 ?_
      exact a_ri fM_wanted_111 rfl (⟨_, rfl, by rw [← he2]; rfl, rfl, (F1.trans F.f).c, ⟨nx, pl, tk, fa, W1.l M F⟩, R1.of F.f⟩)
    | succ j ih =>
      intro i s m g x5 hi M F h1m h2m h3m he
      have m1g : g 64 = nA 189 N := (F 64 (by decide) (by decide)).trans M1
      have M9 := M
      obtain ⟨⟨th9, mn9, m09⟩, f9, m89⟩ := M9
      have ks := K.s i (by omega)
      refine a_il4 fM_wanted_27 ?_
      refine a_ic fM_wanted_29 ?_
      refine a_ic_ge fM_wanted_31 (fun c_ => absurd c_ (nI_ge (b := 10) (by omega) (by decide))) (fun _ => ?_)
      refine a_al0 fM_wanted_34 ?_
      refine a_gf fM_wanted_35 l_M_7 m09 rfl ?_
      refine a_ic fM_wanted_38 ?_
      refine a_il4 fM_wanted_40 ?_
      refine a_iadd fM_wanted_42 ?_
      refine a_dup2 fM_wanted_43 rfl rfl ?_
      refine a_ia fM_wanted_44 m1g (nI_add 10 _) (by omega) (by decide) ?_
      refine a_ic fM_wanted_45 ?_
      refine a_iadd fM_wanted_47 ?_
      refine a_it fM_wanted_48 m1g (nI_add 10 _) (by omega) (by decide) ?_
      rw [show nF N (10 + i) + 10 = nI (N (10 + i) + 10) from nI_add _ 10, upd_nF]
      have O9 : okC (strN N i) := ⟨fun f hf => by
        have := O.1 f hf
        have := K.s f hf
        unfold strN va_up
        grind, by unfold strN; rw [vn (by omega)]; exact O.2⟩
      refine a_al0 fM_wanted_49 ?_
      refine a_V0I fM_wanted_50 k_M_197 m_M_manyCan ⟨by decide, by decide⟩ (up_n (by decide) m09) rfl ⟨rfl, rfl⟩ (Nat.le_of_ble_eq_true rfl) (c_MmanyCan (N := strN N i) (M.up (by decide) (by decide)) up_s O9) (fun r3 n3 h3 p3 => ?_)
      obtain ⟨hr3, hn3, M3, F3⟩ := p3
      subst n3
      have hr4 : r3 = nI (nwt N i) := hr3
      rw [hr4]
      have m13 : h3 64 = nA 189 (strN N i) := (F3 64 (by decide) (by decide)).trans up_s
      have M93 := M3
      obtain ⟨⟨th3, mn3, m03⟩, f3, m83⟩ := M93
      refine a_is5 fM_wanted_53 (by decide) rfl ?_
      refine a_al0 fM_wanted_55 ?_
      refine a_gf fM_wanted_56 l_M_7 m03 rfl ?_
      refine a_ic fM_wanted_59 ?_
      refine a_il4 fM_wanted_61 ?_
      refine a_iadd fM_wanted_63 ?_
      refine a_dup2 fM_wanted_64 rfl rfl ?_
      refine a_ia fM_wanted_65 m13 (nI_add 10 _) (by omega) (by decide) ?_
      refine a_ic fM_wanted_66 ?_
      refine a_isub fM_wanted_68 ?_
      refine a_it fM_wanted_69 m13 (nI_add 10 _) (by omega) (by decide) ?_
      refine fA.ud (v := N (10 + i)) (F2 := N) (by rw [show nF (strN N i) (10 + i) = nI (N (10 + i) + 10) from congrArg nI up_s]; exact (pk_sub (b := 10) (by omega)).trans (congrArg nI (by omega))) (fun j => by unfold strN va_up; grind) ?_
      have F5 : mL h1 (va_up h3 64 (nA 189 N)) := fun a a1 a2 => by
        by_cases q : a = 64
        · subst q; exact up_s.trans M1.symm
        · exact up_n q ((F3 a a1 a2).trans (up_n q (F a a1 a2)))
      have M5 : mM (nI tn, nx, pl, tk, fa, (nI ab).toInt64, (nI be).toInt64) (va_up h3 64 (nA 189 N)) := M3.up (by decide) (by decide)
      have nb : nwt N i ≤ 100 := by have := ncn_le (P := fun v => decide (canR (strN N i) v v)) 100 0 0; unfold nwt; omega
      cases m with
      | none =>
        obtain rfl : i = 0 := h2m.mp rfl
        refine a_il5 fM_wanted_70 ?_
        refine a_il3 fM_wanted_72 ?_
        refine a_ic_le fM_wanted_73 (fun c_ => absurd c_ (fun z => absurd z (Int32.not_le.mpr (Int32.lt_of_lt_of_le (by decide) (nI_pos' (show nwt N 0 < 2 ^ 31 by omega)))))) (fun _ => ?_)
        refine a_il4 fM_wanted_76 ?_
        refine a_goto fM_wanted_78 ?_
        refine a_is2 fM_wanted_82 (by decide) rfl ?_
        refine a_il5 fM_wanted_83 ?_
        refine a_il3 fM_wanted_85 ?_
        refine a_ic_le fM_wanted_86 (fun c_ => absurd c_ (fun z => absurd z (Int32.not_le.mpr (Int32.lt_of_lt_of_le (by decide) (nI_pos' (show nwt N 0 < 2 ^ 31 by omega)))))) (fun _ => ?_)
        refine a_il5 fM_wanted_89 ?_
        refine a_goto fM_wanted_91 ?_
        refine a_is3 fM_wanted_95 (by decide) rfl ?_
        refine a_inc4 fM_wanted_96 (by decide) rfl ?_
        refine a_goto fM_wanted_99 ?_
        rw [nI_1]
        exact ih 1 0 (some (nwt N 0)) _ _ (by omega) M5 F5 (Or.inr rfl) ⟨fun z => (by cases z), fun z => (by omega)⟩ (fun c hc => by cases hc; exact nb) he
      | some c =>
        have c1 := h3m c rfl
        by_cases c9 : c < nwt N i
        · refine a_il5 fM_wanted_70 ?_
          refine a_il3 fM_wanted_72 ?_
          refine a_ic_le fM_wanted_73 (fun c_ => absurd c_ (fun z => absurd ((nI_leI (by omega) (by omega)).mp z) (by omega))) (fun _ => ?_)
          refine a_il4 fM_wanted_76 ?_
          refine a_goto fM_wanted_78 ?_
          refine a_is2 fM_wanted_82 (by decide) rfl ?_
          refine a_il5 fM_wanted_83 ?_
          refine a_il3 fM_wanted_85 ?_
          refine a_ic_le fM_wanted_86 (fun c_ => absurd c_ (fun z => absurd ((nI_leI (by omega) (by omega)).mp z) (by omega))) (fun _ => ?_)
          refine a_il5 fM_wanted_89 ?_
          refine a_goto fM_wanted_91 ?_
          refine a_is3 fM_wanted_95 (by decide) rfl ?_
          refine a_inc4 fM_wanted_96 (by decide) rfl ?_
          refine a_goto fM_wanted_99 ?_
          rw [nI_1]
          exact ih (i + 1) i (some (nwt N i)) _ _ (by omega) M5 F5 (Or.inr rfl) ⟨fun z => (by cases z), fun z => (by omega)⟩ (fun c hc => by cases hc; exact nb) (by rw [← he]; simp only [mstL, mgt, c9, decide_true, ↓reduceIte])
        · refine a_il5 fM_wanted_70 ?_
          refine a_il3 fM_wanted_72 ?_
          refine a_ic_le fM_wanted_73 (fun _ => ?_) (fun c_ => absurd (nI_le (by omega) (by omega)) c_)
          refine a_il2 fM_wanted_81 ?_
          refine a_is2 fM_wanted_82 (by decide) rfl ?_
          refine a_il5 fM_wanted_83 ?_
          refine a_il3 fM_wanted_85 ?_
          refine a_ic_le fM_wanted_86 (fun _ => ?_) (fun c_ => absurd (nI_le (by omega) (by omega)) c_)
          refine a_il3 fM_wanted_94 ?_
          refine a_is3 fM_wanted_95 (by decide) rfl ?_
          refine a_inc4 fM_wanted_96 (by decide) rfl ?_
          refine a_goto fM_wanted_99 ?_
          rw [nI_1]
          exact ih (i + 1) s (some c) _ _ (by omega) M5 F5 (Or.inr (h1m.resolve_left (fun z => by cases z))) ⟨fun z => (by cases z), fun z => (by omega)⟩ h3m (by rw [← he]; simp only [mstL, mgt, c9, decide_false, Bool.false_eq_true, ↓reduceIte])
  refine a_ic fM_wanted_20 ?_
  refine a_is2 fM_wanted_21 (by decide) rfl ?_
  refine a_ic fM_wanted_22 ?_
  refine a_is3 fM_wanted_23 (by decide) rfl ?_
  refine a_ic fM_wanted_24 ?_
  refine a_is4 fM_wanted_25 (by decide) rfl ?_
  exact loop 10 0 0 none h1 none rfl M2 mL.rf (Or.inl rfl) ⟨fun _ => rfl, fun _ => rfl⟩ (fun _ z => by cases z) rfl
theorem m_two_bad {a b : Int32} (X : MS h N I tn bt ab be rb rn rf) (K : okN N) (hb : ¬ ((0 ≤ a ∧ a < nI (N 31)) ∧ (0 ≤ b ∧ b < nI (N 31)) ∧ ¬ a = b)) : fE M_M_two E [.ref 63, .int a, .int b] n h (qI (fun r k g => r = -2 ∧ k = n ∧ fC h g ∧ MS g N I tn bt ab be (rb + 1) rn rf)) := by
  obtain ⟨⟨nx, pl, tk, fa, ⟨⟨th, mn, m0⟩, f0, m8⟩, w0, kw0, m7⟩, R0⟩ := X
  refine fE.of (L := [some (.ref 63), some (.int (a)), some (.int (b)), none, none, none, none]) (by decide +kernel) (Nat.le_of_ble_eq_true rfl) rfl ?_
  refine a_al0 fM_two_0 ?_
  refine a_ic fM_two_1 ?_
  refine a_pfi0 fM_two_2 p_M_43 m0 ?_
  obtain ⟨h1, e1, W1, R1, F1⟩ := mThr m0 m8 kw0 m7 R0
  change fA _ _ _ _ (va_up h 63 (mO (nI tn, nx, pl, tk, fa, (nI ab).toInt64, (nI be).toInt64) 0 mn)) _ _ _ _ _
  rw [e1]
  clear e1 R0 m7 m8 m0
  have W2 := W1
  obtain ⟨M2, w1, kw1, M7⟩ := W2
  have M3 := M2
  obtain ⟨⟨th1, mn1, M0⟩, f1, M8⟩ := M3
  have M1 := R1.1.1
  obtain ⟨Rf, M6, r0, r1, r2⟩ := R1.2.2.2.2
  by_cases d0 : 0 ≤ a ∧ a < nI (N 31)
  · refine a_al0 fM_two_5 ?_
    refine a_il1 fM_two_6 ?_
    refine a_V1V fM_two_7 k_M_152 m_M_isBill ⟨by decide, by decide⟩ M0 rfl ⟨rfl, rfl⟩ (Nat.le_of_ble_eq_true rfl) (c_MisBill M0 M1 K.2.2.1.1) ?_
    refine a_if_eq fM_two_10 (fun c_ => absurd c_ (fun z => by rw [bI_t d0] at z; exact absurd z (by decide))) (fun _ => ?_)
    by_cases d1 : 0 ≤ b ∧ b < nI (N 31)
    · refine a_al0 fM_two_13 ?_
      refine a_il2 fM_two_14 ?_
      refine a_V1V fM_two_15 k_M_152 m_M_isBill ⟨by decide, by decide⟩ M0 rfl ⟨rfl, rfl⟩ (Nat.le_of_ble_eq_true rfl) (c_MisBill M0 M1 K.2.2.1.1) ?_
      refine a_if_eq fM_two_18 (fun c_ => absurd c_ (fun z => by rw [bI_t d1] at z; exact absurd z (by decide))) (fun _ => ?_)
      by_cases d2 : a = b
      · refine a_il1 fM_two_21 ?_
        refine a_il2 fM_two_22 ?_
        refine a_ic_ne fM_two_23 (fun c_ => absurd (d2) c_) (fun _ => ?_)
        refine a_al0 fM_two_26 ?_
        refine a_ic fM_two_27 ?_
        refine a_V1V fM_two_28 k_M_74 m_M_refuses ⟨by decide, by decide⟩ M0 rfl ⟨rfl, rfl⟩ (Nat.le_of_ble_eq_true rfl) (c_Mrefuses (w := 0) M0 M6 (by decide)) ?_
        exact a_ri fM_two_31 rfl (⟨_, rfl, rfl, rfl, F1.c.up (by decide), ⟨nx, pl, tk, fa, W1.up (by decide) (by decide) (by decide)⟩, R1.re0 M6 r0 r1 r2⟩)
      · exact absurd ⟨d0, d1, d2⟩ hb
    · refine a_al0 fM_two_13 ?_
      refine a_il2 fM_two_14 ?_
      refine a_V1V fM_two_15 k_M_152 m_M_isBill ⟨by decide, by decide⟩ M0 rfl ⟨rfl, rfl⟩ (Nat.le_of_ble_eq_true rfl) (c_MisBill M0 M1 K.2.2.1.1) ?_
      refine a_if_eq fM_two_18 (fun _ => ?_) (fun c_ => absurd (by rw [bI_f d1]) c_)
      refine a_al0 fM_two_26 ?_
      refine a_ic fM_two_27 ?_
      refine a_V1V fM_two_28 k_M_74 m_M_refuses ⟨by decide, by decide⟩ M0 rfl ⟨rfl, rfl⟩ (Nat.le_of_ble_eq_true rfl) (c_Mrefuses (w := 0) M0 M6 (by decide)) ?_
      exact a_ri fM_two_31 rfl (⟨_, rfl, rfl, rfl, F1.c.up (by decide), ⟨nx, pl, tk, fa, W1.up (by decide) (by decide) (by decide)⟩, R1.re0 M6 r0 r1 r2⟩)
  · refine a_al0 fM_two_5 ?_
    refine a_il1 fM_two_6 ?_
    refine a_V1V fM_two_7 k_M_152 m_M_isBill ⟨by decide, by decide⟩ M0 rfl ⟨rfl, rfl⟩ (Nat.le_of_ble_eq_true rfl) (c_MisBill M0 M1 K.2.2.1.1) ?_
    refine a_if_eq fM_two_10 (fun _ => ?_) (fun c_ => absurd (by rw [bI_f d0]) c_)
    refine a_al0 fM_two_26 ?_
    refine a_ic fM_two_27 ?_
    refine a_V1V fM_two_28 k_M_74 m_M_refuses ⟨by decide, by decide⟩ M0 rfl ⟨rfl, rfl⟩ (Nat.le_of_ble_eq_true rfl) (c_Mrefuses (w := 0) M0 M6 (by decide)) ?_
    exact a_ri fM_two_31 rfl (⟨_, rfl, rfl, rfl, F1.c.up (by decide), ⟨nx, pl, tk, fa, W1.up (by decide) (by decide) (by decide)⟩, R1.re0 M6 r0 r1 r2⟩)
theorem m_two_no {A9 B9 : Nat} (X : MS h N I tn bt ab be rb rn rf) (K : okN N) (h9 : A9 < N 31) (h8 : B9 < N 31) (h7 : ¬ A9 = B9) (h6 : N 44 / 2 ^ A9 % 2 = 1 ∨ N 44 / 2 ^ B9 % 2 = 1) : fE M_M_two E [.ref 63, .int (nI A9), .int (nI B9)] n h (qI (fun r k g => r = -3 ∧ k = n ∧ fC h g ∧ MS g N I tn bt ab be rb (rn + 1) rf)) := by
  have O := K.c
  have k31 := K.2.2.1.1
  obtain ⟨⟨nx, pl, tk, fa, ⟨⟨th, mn, m0⟩, f0, m8⟩, w0, kw0, m7⟩, R0⟩ := X
  refine fE.of (L := [some (.ref 63), some (.int (nI A9)), some (.int (nI B9)), none, none, none, none]) (by decide +kernel) (Nat.le_of_ble_eq_true rfl) rfl ?_
  refine a_al0 fM_two_0 ?_
  refine a_ic fM_two_1 ?_
  refine a_pfi0 fM_two_2 p_M_43 m0 ?_
  obtain ⟨h1, e1, W1, R1, F1⟩ := mThr m0 m8 kw0 m7 R0
  change fA _ _ _ _ (va_up h 63 (mO (nI tn, nx, pl, tk, fa, (nI ab).toInt64, (nI be).toInt64) 0 mn)) _ _ _ _ _
  rw [e1]
  clear e1 R0 m7 m8 m0
  have W2 := W1
  obtain ⟨M2, w1, kw1, M7⟩ := W2
  have M3 := M2
  obtain ⟨⟨th1, mn1, M0⟩, f1, M8⟩ := M3
  have M1 := R1.1.1
  obtain ⟨Rf, M6, r0, r1, r2⟩ := R1.2.2.2.2
  have hp : N 44 < 64 := Nat.lt_of_lt_of_le K.2.2.2.2.1 (pw64 k31)
  refine a_al0 fM_two_5 ?_
  refine a_il1 fM_two_6 ?_
  refine a_V1V fM_two_7 k_M_152 m_M_isBill ⟨by decide, by decide⟩ M0 rfl ⟨rfl, rfl⟩ (Nat.le_of_ble_eq_true rfl) (c_MisBill M0 M1 K.2.2.1.1) ?_
  refine a_if_eq fM_two_10 (fun c_ => absurd c_ (fun z => by rw [bI_t ⟨nI_pos' (by omega), nI_lt h9 (by omega)⟩] at z; exact absurd z (by decide))) (fun _ => ?_)
  refine a_al0 fM_two_13 ?_
  refine a_il2 fM_two_14 ?_
  refine a_V1V fM_two_15 k_M_152 m_M_isBill ⟨by decide, by decide⟩ M0 rfl ⟨rfl, rfl⟩ (Nat.le_of_ble_eq_true rfl) (c_MisBill M0 M1 K.2.2.1.1) ?_
  refine a_if_eq fM_two_18 (fun c_ => absurd c_ (fun z => by rw [bI_t ⟨nI_pos' (by omega), nI_lt h8 (by omega)⟩] at z; exact absurd z (by decide))) (fun _ => ?_)
  refine a_il1 fM_two_21 ?_
  refine a_il2 fM_two_22 ?_
  refine a_ic_ne fM_two_23 (fun _ => ?_) (fun c_ => absurd c_ (fun z => h7 ((nI_eq (by omega) (by omega)).mp z)))
  by_cases c6 : N 44 / 2 ^ A9 % 2 = 1
  · refine a_al0 fM_two_32 ?_
    refine a_il1 fM_two_33 ?_
    refine a_V1V fM_two_34 k_M_155 m_M_isPaid ⟨by decide, by decide⟩ M0 rfl ⟨rfl, rfl⟩ (Nat.le_of_ble_eq_true rfl) (c_MisPaid (b := A9) M0 M1 hp (by omega)) ?_
    refine a_if_ne fM_two_37 (fun _ => ?_) (fun c_ => absurd c_ (fun z => by rw [bI_t c6] at z; exact absurd z (by decide)))
    refine a_al0 fM_two_48 ?_
    refine a_ic fM_two_49 ?_
    refine a_V1V fM_two_50 k_M_74 m_M_refuses ⟨by decide, by decide⟩ M0 rfl ⟨rfl, rfl⟩ (Nat.le_of_ble_eq_true rfl) (c_Mrefuses (w := 1) M0 M6 (by decide)) ?_
    exact a_ri fM_two_53 rfl (⟨_, rfl, rfl, rfl, F1.c.up (by decide), ⟨nx, pl, tk, fa, W1.up (by decide) (by decide) (by decide)⟩, R1.re1 M6 r0 r1 r2⟩)
  · refine a_al0 fM_two_32 ?_
    refine a_il1 fM_two_33 ?_
    refine a_V1V fM_two_34 k_M_155 m_M_isPaid ⟨by decide, by decide⟩ M0 rfl ⟨rfl, rfl⟩ (Nat.le_of_ble_eq_true rfl) (c_MisPaid (b := A9) M0 M1 hp (by omega)) ?_
    refine a_if_ne fM_two_37 (fun c_ => absurd (by rw [bI_f c6]) c_) (fun _ => ?_)
    refine a_al0 fM_two_40 ?_
    refine a_il2 fM_two_41 ?_
    refine a_V1V fM_two_42 k_M_155 m_M_isPaid ⟨by decide, by decide⟩ M0 rfl ⟨rfl, rfl⟩ (Nat.le_of_ble_eq_true rfl) (c_MisPaid (b := B9) M0 M1 hp (by omega)) ?_
    refine a_if_eq fM_two_45 (fun c_ => absurd c_ (fun z => by rw [bI_t (h6.resolve_left c6)] at z; exact absurd z (by decide))) (fun _ => ?_)
    refine a_al0 fM_two_48 ?_
    refine a_ic fM_two_49 ?_
    refine a_V1V fM_two_50 k_M_74 m_M_refuses ⟨by decide, by decide⟩ M0 rfl ⟨rfl, rfl⟩ (Nat.le_of_ble_eq_true rfl) (c_Mrefuses (w := 1) M0 M6 (by decide)) ?_
    exact a_ri fM_two_53 rfl (⟨_, rfl, rfl, rfl, F1.c.up (by decide), ⟨nx, pl, tk, fa, W1.up (by decide) (by decide) (by decide)⟩, R1.re1 M6 r0 r1 r2⟩)
theorem m_two {A9 B9 : Nat} (X : MS h N I tn bt ab be rb rn rf) (K : okN N) (h9 : A9 < N 31) (h8 : B9 < N 31) (h7 : ¬ A9 = B9) (h6 : ¬ N 44 / 2 ^ A9 % 2 = 1) (h5 : ¬ N 44 / 2 ^ B9 % 2 = 1) : fE M_M_two E [.ref 63, .int (nI A9), .int (nI B9)] n h (qI (fun r k g => r = nI (kbs (rpP N A9 B9) 4 0 0) ∧ k = n ∧ fC h g ∧ MS g N I tn bt ab be rb rn rf)) := by
  have O := K.c
  have k31 := K.2.2.1.1
  obtain ⟨⟨nx, pl, tk, fa, ⟨⟨th, mn, m0⟩, f0, m8⟩, w0, kw0, m7⟩, R0⟩ := X
  refine fE.of (L := [some (.ref 63), some (.int (nI A9)), some (.int (nI B9)), none, none, none, none]) (by decide +kernel) (Nat.le_of_ble_eq_true rfl) rfl ?_
  refine a_al0 fM_two_0 ?_
  refine a_ic fM_two_1 ?_
  refine a_pfi0 fM_two_2 p_M_43 m0 ?_
  obtain ⟨h1, e1, W1, R1, F1⟩ := mThr m0 m8 kw0 m7 R0
  change fA _ _ _ _ (va_up h 63 (mO (nI tn, nx, pl, tk, fa, (nI ab).toInt64, (nI be).toInt64) 0 mn)) _ _ _ _ _
  rw [e1]
  clear e1 R0 m7 m8 m0
  have W2 := W1
  obtain ⟨M2, w1, kw1, M7⟩ := W2
  have M3 := M2
  obtain ⟨⟨th1, mn1, M0⟩, f1, M8⟩ := M3
  have M1 := R1.1.1
  obtain ⟨Rf, M6, r0, r1, r2⟩ := R1.2.2.2.2
  have hp : N 44 < 64 := Nat.lt_of_lt_of_le K.2.2.2.2.1 (pw64 k31)
  refine a_al0 fM_two_5 ?_
  refine a_il1 fM_two_6 ?_
  refine a_V1V fM_two_7 k_M_152 m_M_isBill ⟨by decide, by decide⟩ M0 rfl ⟨rfl, rfl⟩ (Nat.le_of_ble_eq_true rfl) (c_MisBill M0 M1 K.2.2.1.1) ?_
  refine a_if_eq fM_two_10 (fun c_ => absurd c_ (fun z => by rw [bI_t ⟨nI_pos' (by omega), nI_lt h9 (by omega)⟩] at z; exact absurd z (by decide))) (fun _ => ?_)
  refine a_al0 fM_two_13 ?_
  refine a_il2 fM_two_14 ?_
  refine a_V1V fM_two_15 k_M_152 m_M_isBill ⟨by decide, by decide⟩ M0 rfl ⟨rfl, rfl⟩ (Nat.le_of_ble_eq_true rfl) (c_MisBill M0 M1 K.2.2.1.1) ?_
  refine a_if_eq fM_two_18 (fun c_ => absurd c_ (fun z => by rw [bI_t ⟨nI_pos' (by omega), nI_lt h8 (by omega)⟩] at z; exact absurd z (by decide))) (fun _ => ?_)
  refine a_il1 fM_two_21 ?_
  refine a_il2 fM_two_22 ?_
  refine a_ic_ne fM_two_23 (fun _ => ?_) (fun c_ => absurd c_ (fun z => h7 ((nI_eq (by omega) (by omega)).mp z)))
  refine a_al0 fM_two_32 ?_
  refine a_il1 fM_two_33 ?_
  refine a_V1V fM_two_34 k_M_155 m_M_isPaid ⟨by decide, by decide⟩ M0 rfl ⟨rfl, rfl⟩ (Nat.le_of_ble_eq_true rfl) (c_MisPaid (b := A9) M0 M1 hp (by omega)) ?_
  refine a_if_ne fM_two_37 (fun c_ => absurd (by rw [bI_f h6]) c_) (fun _ => ?_)
  refine a_al0 fM_two_40 ?_
  refine a_il2 fM_two_41 ?_
  refine a_V1V fM_two_42 k_M_155 m_M_isPaid ⟨by decide, by decide⟩ M0 rfl ⟨rfl, rfl⟩ (Nat.le_of_ble_eq_true rfl) (c_MisPaid (b := B9) M0 M1 hp (by omega)) ?_
  refine a_if_eq fM_two_45 (fun _ => ?_) (fun c_ => absurd (by rw [bI_f h5]) c_)
  have loop : ∀ (j i s : Nat) (g : hT) (x5 x6 : Option Value), i + j = 4 → mW (nI tn, nx, pl, tk, fa, (nI ab).toInt64, (nI be).toInt64) g → mF h1 g → kbs (rpP N A9 B9) j i s = kbs (rpP N A9 B9) 4 0 0 → fA M_M_two E (fZ M_M_two E (qI (fun r k g => r = nI (kbs (rpP N A9 B9) 4 0 0) ∧ k = n ∧ fC h g ∧ MS g N I tn bt ab be rb rn rf))) n g 0 0 59 [some (.ref 63), some (.int (nI A9)), some (.int (nI B9)), some (.int (nI s)), some (.int (nI i)), x5, x6] [] := by
    intro j
    induction j with
    | zero =>
      intro i s g x5 x6 hi W F he
      obtain rfl : i = 4 := by omega
      refine a_il4 fM_two_59 ?_
      refine a_ic fM_two_61 ?_
      refine a_ic_ge fM_two_62 (fun _ => ?_) (fun c_ => absurd (Int32.le_refl _) c_)
      refine a_il3 fM_two_151 ?_
      exact a_ri fM_two_152 rfl (⟨_, rfl, congrArg nI he, rfl, (F1.trans F).c, ⟨nx, pl, tk, fa, W⟩, R1.of F⟩)
    | succ j ih =>
      intro i s g x5 x6 hi Wg F he
      have m1g : g 64 = nA 189 N := (F 64 (by decide) (by decide) (by decide)).trans M1
      have W9 := Wg
      obtain ⟨⟨⟨th9, mn9, m0g⟩, f9, m89⟩, w9, kw9, m79⟩ := W9
      have a6 : A9 < 6 := by omega
      have b6 : B9 < 6 := by omega
      have i4 : i < 4 := by omega
      have gb : ∀ own p, own < N 31 → gR N own A9 B9 p < 100 := fun own p ho => gR_le (K.2.2.2.1 own ho).2
      refine a_il4 fM_two_59 ?_
      refine a_ic fM_two_61 ?_
      refine a_ic_ge fM_two_62 (fun c_ => absurd c_ (nI_ge (b := 4) (by omega) (by decide))) (fun _ => ?_)
      refine a_il4 fM_two_65 ?_
      refine a_ic fM_two_67 ?_
      refine a_iand fM_two_68 ?_
      refine a_il1 fM_two_69 ?_
      refine a_ishl fM_two_70 ?_
      refine a_il4 fM_two_71 ?_
      refine a_ic fM_two_73 ?_
      refine a_ishr fM_two_74 ?_
      refine a_il2 fM_two_75 ?_
      refine a_ishl fM_two_76 ?_
      refine a_ior fM_two_77 ?_
      rw [pb_i A9 a6 B9 b6 i i4]
      refine a_is5 fM_two_78 (by decide) rfl ?_
      refine a_al0 fM_two_80 ?_
      refine a_il1 fM_two_81 ?_
      refine a_il5 fM_two_82 ?_
      refine a_V2I fM_two_84 k_M_209 m_M_has ⟨by decide, by decide⟩ m0g rfl ⟨rfl, rfl⟩ (Nat.le_of_ble_eq_true rfl) (c_Mhas (b := A9) (bits := pb A9 B9 i) Wg m1g O K.b h9 (pb_lt (by omega) (by omega))) (fun r3 n3 h3 p3 => ?_)
      obtain ⟨hr3, hn3, W3, F3⟩ := p3
      subst n3
      rw [hr3]
      have m13 : h3 64 = nA 189 N := (F3 64 (by decide) (by decide) (by decide)).trans m1g
      have WW3 := W3
      obtain ⟨⟨⟨th3, mn3, m03⟩, f3, m83⟩, w3, kw3, m73⟩ := WW3
      refine a_al0 fM_two_87 ?_
      refine a_il1 fM_two_88 ?_
      refine a_il5 fM_two_89 ?_
      refine a_ic fM_two_91 ?_
      refine a_il1 fM_two_92 ?_
      refine a_ishl fM_two_93 ?_
      refine a_ixor fM_two_94 ?_
      rw [(pb_x A9 a6 B9 b6 h7 i i4).1]
      refine a_V2I fM_two_95 k_M_209 m_M_has ⟨by decide, by decide⟩ m03 rfl ⟨rfl, rfl⟩ (Nat.le_of_ble_eq_true rfl) (c_Mhas (b := A9) (bits := pb A9 B9 (i ^^^ 1)) W3 m13 O K.b h9 (pb_lt (by omega) (by omega))) (fun r4 n4 h4 p4 => ?_)
      obtain ⟨hr4, hn4, W4, F4⟩ := p4
      subst n4
      rw [hr4]
      have m14 : h4 64 = nA 189 N := (F4 64 (by decide) (by decide) (by decide)).trans m13
      have WW4 := W4
      obtain ⟨⟨⟨th4, mn4, m04⟩, f4, m84⟩, w4, kw4, m74⟩ := WW4
      rw [hs_a a6 b6 h7 i4, hs_a a6 b6 h7 (xor1 i i4).2]
      have nx2 : ∀ (g2 : hT) (q2 : Bool), mW (nI tn, nx, pl, tk, fa, (nI ab).toInt64, (nI be).toInt64) g2 → mF h1 g2 → rpP N A9 B9 i = q2 → fA M_M_two E (fZ M_M_two E (qI (fun r k g => r = nI (kbs (rpP N A9 B9) 4 0 0) ∧ k = n ∧ fC h g ∧ MS g N I tn bt ab be rb rn rf))) n g2 0 0 127 [some (.ref 63), some (.int (nI A9)), some (.int (nI B9)), some (.int (nI s)), some (.int (nI i)), some (.int (nI (pb A9 B9 i))), x6] [.int (bI (q2 = true))] := by
        intro g2 q2 W2 F2 hq2
        refine a_is6 fM_two_127 (by decide) rfl ?_
        refine a_il3 fM_two_129 ?_
        refine a_il6 fM_two_130 ?_
        by_cases cq : q2 = true
        · refine a_if_eq fM_two_132 (fun c_ => absurd c_ (fun z => by rw [bI_t cq] at z; exact absurd z (by decide))) (fun _ => ?_)
          refine a_ic fM_two_135 ?_
          refine a_il4 fM_two_136 ?_
          refine a_ishl fM_two_138 ?_
          refine a_goto fM_two_139 ?_
          rw [shl1 i (by omega)]
          refine a_ior fM_two_143 ?_
          rw [nI_or]
          refine a_is3 fM_two_144 (by decide) rfl ?_
          refine a_inc4 fM_two_145 (by decide) rfl ?_
          refine a_goto fM_two_148 ?_
          rw [nI_1]
          exact ih (i + 1) _ g2 _ _ (by omega) W2 F2 (by rw [← he]; simp only [kbs, hq2, cq, ↓reduceIte])
        · refine a_if_eq fM_two_132 (fun _ => ?_) (fun c_ => absurd (by rw [bI_f cq]) c_)
          refine a_ic fM_two_142 ?_
          refine a_ior fM_two_143 ?_
          refine a_is3 fM_two_144 (by decide) rfl ?_
          refine a_inc4 fM_two_145 (by decide) rfl ?_
          refine a_goto fM_two_148 ?_
          rw [nI_1, show nI s ||| 0 = nI s by rw [show (0 : Int32) = nI 0 from rfl, nI_or, Nat.or_zero]]
          exact ih (i + 1) _ g2 _ _ (by omega) W2 F2 (by rw [← he]; simp only [kbs, hq2, cq, Bool.false_eq_true, ↓reduceIte])
      have ga := gb A9 i h9
      have ga2 := gb A9 (i ^^^ 1) h9
      by_cases c1 : gR N A9 A9 B9 (i ^^^ 1) ≤ gR N A9 A9 B9 i
      · refine a_ic_lt fM_two_98 (fun c_ => absurd c_ (fun z => absurd ((nI_ltI (by omega) (by omega)).mp z) (by omega))) (fun _ => ?_)
        refine a_al0 fM_two_101 ?_
        refine a_il2 fM_two_102 ?_
        refine a_il5 fM_two_103 ?_
        refine a_V2I fM_two_105 k_M_209 m_M_has ⟨by decide, by decide⟩ m04 rfl ⟨rfl, rfl⟩ (Nat.le_of_ble_eq_true rfl) (c_Mhas (b := B9) (bits := pb A9 B9 i) W4 m14 O K.b h8 (pb_lt (by omega) (by omega))) (fun r5 n5 h5 p5 => ?_)
        obtain ⟨hr5, hn5, W5, F5⟩ := p5
        subst n5
        rw [hr5]
        have m15 : h5 64 = nA 189 N := (F5 64 (by decide) (by decide) (by decide)).trans m14
        have WW5 := W5
        obtain ⟨⟨⟨th5, mn5, m05⟩, f5, m85⟩, w5, kw5, m75⟩ := WW5
        refine a_al0 fM_two_108 ?_
        refine a_il2 fM_two_109 ?_
        refine a_il5 fM_two_110 ?_
        refine a_ic fM_two_112 ?_
        refine a_il2 fM_two_113 ?_
        refine a_ishl fM_two_114 ?_
        refine a_ixor fM_two_115 ?_
        rw [(pb_x A9 a6 B9 b6 h7 i i4).2]
        refine a_V2I fM_two_116 k_M_209 m_M_has ⟨by decide, by decide⟩ m05 rfl ⟨rfl, rfl⟩ (Nat.le_of_ble_eq_true rfl) (c_Mhas (b := B9) (bits := pb A9 B9 (i ^^^ 2)) W5 m15 O K.b h8 (pb_lt (by omega) (by omega))) (fun r6 n6 h6 p6 => ?_)
        obtain ⟨hr6, hn6, W6, F6⟩ := p6
        subst n6
        rw [hr6]
        have m16 : h6 64 = nA 189 N := (F6 64 (by decide) (by decide) (by decide)).trans m15
        have WW6 := W6
        obtain ⟨⟨⟨th6, mn6, m06⟩, f6, m86⟩, w6, kw6, m76⟩ := WW6
        rw [hs_b a6 b6 h7 i4, hs_b a6 b6 h7 (xor2 i i4).2]
        have gc := gb B9 i h8
        have gc2 := gb B9 (i ^^^ 2) h8
        have F9 := F.trans (F3.trans (F4.trans (F5.trans F6)))
        by_cases c2 : gR N B9 A9 B9 (i ^^^ 2) ≤ gR N B9 A9 B9 i
        · refine a_ic_lt fM_two_119 (fun c_ => absurd c_ (fun z => absurd ((nI_ltI (by omega) (by omega)).mp z) (by omega))) (fun _ => ?_)
          refine a_ic fM_two_122 ?_
          refine a_goto fM_two_123 ?_
          exact nx2 h6 true W6 F9 (decide_eq_true ⟨c1, c2⟩)
        · refine a_ic_lt fM_two_119 (fun _ => ?_) (fun c_ => absurd (nI_lt (by omega) (by omega)) c_)
          refine a_ic fM_two_126 ?_
          exact nx2 h6 false W6 F9 (decide_eq_false (fun z => c2 z.2))
      · refine a_ic_lt fM_two_98 (fun _ => ?_) (fun c_ => absurd (nI_lt (by omega) (by omega)) c_)
        refine a_ic fM_two_126 ?_
        exact nx2 h4 false W4 (F.trans (F3.trans F4)) (decide_eq_false (fun z => c1 z.1))
  refine a_ic fM_two_54 ?_
  refine a_is3 fM_two_55 (by decide) rfl ?_
  refine a_ic fM_two_56 ?_
  refine a_is4 fM_two_57 (by decide) rfl ?_
  exact loop 4 0 0 h1 none none rfl W1 mF.rf rfl
end P6
