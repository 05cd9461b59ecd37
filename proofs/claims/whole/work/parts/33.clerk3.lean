/-! the clerk: bills together, two clerks, odds -/
/-- the bills of now -/
def bv (g : hT) (N : Nat → Nat) : Prop := g 17 = bO 17 (N 31) (N 44) (N 45) ∧ ∃ bn bw, g 18 = nA 6 bn ∧ g 19 = nA 6 bw ∧ ∀ i, i < N 31 → bn i = N (32 + i) ∧ bw i = N (38 + i)
def okB (N : Nat → Nat) : Prop := N 31 ≤ 6 ∧ (∀ i, i < N 31 → N (32 + i) < 100 ∧ N (38 + i) < 100) ∧ N 44 < 64
theorem bv.fr {h g : hT} {N : Nat → Nat} (H : bv h N) (F : frk h g) : bv g N := by
  obtain ⟨a, bn, bw, b, c, d⟩ := H
  exact ⟨(F _ (by omega)).trans a, bn, bw, (F _ (by omega)).trans b, (F _ (by omega)).trans c, d⟩
/-- bills by bits, one behind the other -/
def gto (K S : Nat → Nat) (D : Nat) (nb : Nat → Nat) (bits : Nat) : Nat → Nat → (Nat → Nat) → Bool
  | 0, _, _ => true
  | j + 1, i, W => if bits / 2 ^ i % 2 = 1 then (if can K S W D (sgn (nb i) (nb i)) then gto K S D nb bits j (i + 1) (wad K D 0 (sgn (nb i) (nb i)) W) else false) else gto K S D nb bits j (i + 1) W
abbrev gtR (N : Nat → Nat) (bits : Nat) : Bool := gto (sl N 0 10) (sl N 10 10) (N 30) (fun i => N (32 + i)) bits (N 31) 0 (sl N 20 10)
abbrev wsR (N : Nat → Nat) (bits : Nat) : Nat := wsm (fun i => N (38 + i)) bits 6 0
/-- the dearest so far -/
def mosL (P G : Nat → Bool) (C : Nat → Nat) : Nat → Nat → Nat → Nat
  | 0, _, s => s
  | j + 1, i, s => mosL P G C j (i + 1) (if P i = true ∧ C s < C i ∧ G i = true then i else s)
theorem wsm_cg {f g : Nat → Nat} {bits m : Nat} (hb : bits < 2 ^ m) (h : ∀ i, i < m → f i = g i) : ∀ j i, wsm f bits j i = wsm g bits j i := by
  intro j
  induction j with
  | zero => intro i; rfl
  | succ j ih =>
    intro i
    simp only [wsm]
    rw [ih]
    by_cases c : i < m
    · rw [h i c]
    · have : bits / 2 ^ i % 2 = 0 := by
        have h1 : bits < 2 ^ i := Nat.lt_of_lt_of_le hb (Nat.pow_le_pow_right (by decide) (by omega))
        rw [Nat.div_eq_of_lt h1]
      rw [if_neg (by omega), if_neg (by omega)]
theorem wsm_le {f : Nat → Nat} {bits : Nat} : ∀ j i, (∀ x, f x ≤ 99 ∨ ¬ bits / 2 ^ x % 2 = 1) → wsm f bits j i ≤ 99 * j := by
  intro j
  induction j with
  | zero => intro i _; exact Nat.le_refl _
  | succ j ih =>
    intro i h
    have := ih (i + 1) h
    simp only [wsm]
    rcases h i with c | c
    · split <;> omega
    · rw [if_neg c]; omega
theorem pw64 {m : Nat} (h : m ≤ 6) : 2 ^ m ≤ 64 := Nat.le_trans (Nat.pow_le_pow_right (by decide) h) (by decide)
theorem bit_hi {bits m x : Nat} (hb : bits < 2 ^ m) (hx : m ≤ x) : ¬ bits / 2 ^ x % 2 = 1 := by
  rw [Nat.div_eq_of_lt (Nat.lt_of_lt_of_le hb (Nat.pow_le_pow_right (by decide) hx))]
  decide
theorem nI_and (a b : Nat) : nI a &&& nI b = nI (a &&& b) := by
  apply Int32.toBitVec_inj.mp
  show (BitVec.ofNat 32 a) &&& (BitVec.ofNat 32 b) = BitVec.ofNat 32 (a &&& b)
  apply BitVec.eq_of_toNat_eq
  simp [BitVec.toNat_and, Nat.and_mod_two_pow]
section K3
variable {E : eT} {n : Nat} {h : hT} {N : Nat → Nat}
theorem c_goTogether {bits : Nat} (V : hv h N) (B : bv h N) (S : kS h) (O : okC N) (OB : okB N) (hb : bits < 64) : fE M_K_goTogether E [.ref 47, .ref 12, .int (nI bits)] n h (qI (fun r k g => r = bI (gtR N bits = true) ∧ k = n ∧ kS g ∧ frk h g)) := by
  have loop : ∀ (j i : Nat) (g : hT) (m : Nat) (f : Nat → Int32) (W ob cd : Nat → Nat) (op dp : Int32) (T : Bool) (D : Nat), D = N 30 → i + j = N 31 → hv g N → bv g N → g 47 = kO op dp → g 48 = lO 49 m → g 49 = ia 4 f → g 50 = sO 51 D → g 51 = nA 10 W → g 52 = nA 6 ob → g 53 = nA 6 cd → kz W → frk h g → sml W 100 → gto (sl N 0 10) (sl N 10 10) (N 30) (fun i => N (32 + i)) bits j i W = T → fA M_K_goTogether E (fZ M_K_goTogether E (qI (fun r k g => r = bI (T = true) ∧ k = n ∧ kS g ∧ frk h g))) n g 0 0 13 [some (.ref 47), some (.ref 12), some (.int (nI bits)), some (.int (nI i))] [] := by
    intro j
    induction j with
    | zero =>
      intro i g m f W ob cd op dp T D hD hi V B k7 k8 k9 k0 k1 k2 k3 kw Fr bW hT
      refine a_il3 fK_goTogether_13 ?_
      refine a_al1 fK_goTogether_14 ?_
      refine a_gf fK_goTogether_15 l_K_70 V.1 rfl ?_
      refine a_gf fK_goTogether_18 l_K_74 B.1 rfl ?_
      refine a_ic_ge fK_goTogether_21 (fun _ => ?_) (fun c => absurd (nI_le (by omega) (by have := OB.1; omega)) c)
      refine a_ic fK_goTogether_87 ?_
      exact a_rz fK_goTogether_88 rfl (by first | rfl | (split <;> rfl)) (⟨_, rfl, by rw [← hT]; exact (bI_t rfl).symm, rfl, ⟨m, f, D, W, ob, cd, op, dp, k7, k8, k9, k0, k1, k2, k3, kw⟩, Fr⟩)
    | succ j ih =>
      intro i g m f W ob cd op dp T D hD hi V B k7 k8 k9 k0 k1 k2 k3 kw Fr bW hT
      have ob6 := OB.1
      have B9 := B
      obtain ⟨b1, bn, bw, b2, b3, b4⟩ := B
      obtain ⟨e1, e2⟩ := b4 i (by omega)
      obtain ⟨e3, e4⟩ := OB.2.1 i (by omega)
      refine a_il3 fK_goTogether_13 ?_
      refine a_al1 fK_goTogether_14 ?_
      refine a_gf fK_goTogether_15 l_K_70 V.1 rfl ?_
      refine a_gf fK_goTogether_18 l_K_74 b1 rfl ?_
      refine a_ic_ge fK_goTogether_21 (fun c => absurd c (nI_ge (by omega) (by omega))) (fun _ => ?_)
      refine a_il3 fK_goTogether_24 ?_
      refine a_ic fK_goTogether_25 ?_
      refine a_ic_ge fK_goTogether_27 (fun c => absurd c (nI_ge (b := 6) (by omega) (by decide))) (fun _ => ?_)
      refine a_il2 fK_goTogether_30 ?_
      refine a_il3 fK_goTogether_31 ?_
      refine a_ishr fK_goTogether_32 ?_
      refine a_ic fK_goTogether_33 ?_
      refine a_iand fK_goTogether_34 ?_
      rw [nbit bits i hb (by omega)]
      refine a_ic fK_goTogether_35 ?_
      refine a_ic_ne fK_goTogether_36 (fun c => ?_) (fun c => ?_)
      · have c1 : ¬ bits / 2 ^ i % 2 = 1 := fun z => c (by rw [z]; rfl)
        refine a_inc3 fK_goTogether_81 (by decide) rfl ?_
        refine a_goto fK_goTogether_84 ?_
        rw [nI_1]
        exact ih (i + 1) g m f W ob cd op dp T D hD (by omega) V B9 k7 k8 k9 k0 k1 k2 k3 kw Fr bW (by rw [← hT]; simp only [gto]; rw [if_neg c1])
      · have c1 : bits / 2 ^ i % 2 = 1 := (nI_eq (b := 1) (by omega) (by decide)).mp c
        have e5 : nF bn i = nI (N (32 + i)) := congrArg nI e1
        refine a_al0 fK_goTogether_39 ?_
        refine a_gf fK_goTogether_40 l_K_12 k7 rfl ?_
        refine a_al1 fK_goTogether_43 ?_
        refine a_gf fK_goTogether_44 l_K_70 V.1 rfl ?_
        refine a_gf fK_goTogether_47 l_K_89 b1 rfl ?_
        refine a_il3 fK_goTogether_50 ?_
        refine a_ia fK_goTogether_51 b2 rfl (by omega) (by decide) ?_
        rw [e5]
        refine a_al1 fK_goTogether_52 ?_
        refine a_gf fK_goTogether_53 l_K_70 V.1 rfl ?_
        refine a_gf fK_goTogether_56 l_K_89 b1 rfl ?_
        refine a_il3 fK_goTogether_59 ?_
        refine a_ia fK_goTogether_60 b2 rfl (by omega) (by decide) ?_
        rw [e5]
        refine a_V2Q fK_goTogether_61 k_K_39 m_L_tell ⟨by decide, by decide⟩ k8 rfl ⟨rfl, rfl⟩ (Nat.le_of_ble_eq_true rfl) (c_tell (l := 48) k8 k9 e3 e3) (fun n1 h1 p1 => ?_)
        obtain ⟨hn1, g2, q1, hg2⟩ := p1
        subst n1
        have V1 : hv h1 N := by rw [hg2]; exact (V.up (by omega)).up (by omega)
        have K7 : h1 47 = kO op dp := by rw [hg2]; exact up_n (by decide) (up_n (by decide) k7)
        have K8 : h1 48 = lO 49 (sgn (N (32 + i)) (N (32 + i))).length := by rw [hg2]; exact up_n (by decide) up_s
        have K9 : h1 49 = ia 4 g2 := by rw [hg2]; exact up_s
        have K0 : h1 50 = sO 51 D := by rw [hg2]; exact up_n (by decide) (up_n (by decide) k0)
        have K1 : h1 51 = nA 10 W := by rw [hg2]; exact up_n (by decide) (up_n (by decide) k1)
        have K2 : h1 52 = nA 6 ob := by rw [hg2]; exact up_n (by decide) (up_n (by decide) k2)
        have K3 : h1 53 = nA 6 cd := by rw [hg2]; exact up_n (by decide) (up_n (by decide) k3)
        have F1 : frk h h1 := by rw [hg2]; exact (Fr.up (by omega)).up (by omega)
        clear hg2
        refine a_al1 fK_goTogether_64 ?_
        refine a_al0 fK_goTogether_65 ?_
        refine a_gf fK_goTogether_66 l_K_21 K7 rfl ?_
        refine a_al0 fK_goTogether_69 ?_
        refine a_gf fK_goTogether_70 l_K_12 K7 rfl ?_
        refine a_V2V fK_goTogether_73 k_K_64 m_H_puts ⟨by decide, by decide⟩ V1.1 rfl ⟨rfl, rfl⟩ (Nat.le_of_ble_eq_true rfl) (c_puts (q := 12) (s := 50) (l := 48) V1.1 V1.2.1 V1.2.2.1 K0 K1 K8 K9 q1 O.K O.S bW (by rw [hD]; exact O.D) (by omega) (by omega)) ?_
        have Fa : ∀ c, frk h (va_up h1 (50 + 1) c) := fun c => F1.up (by omega)
        have B1 : ∀ c, bv (va_up h1 (50 + 1) c) N := fun c => by
          have Fg : frk g (va_up h1 (50 + 1) c) := fun a ha => (Fa c a ha).trans (Fr a ha).symm
          exact B9.fr Fg
        by_cases c9 : can (sl N 0 10) (sl N 10 10) W D (sgn (N (32 + i)) (N (32 + i)))
        · rw [if_pos c9]
          refine a_if_ne fK_goTogether_76 (fun _ => ?_) (fun c => absurd c (fun z => by rw [bI_t c9] at z; exact absurd z (by decide)))
          refine a_inc3 fK_goTogether_81 (by decide) rfl ?_
          refine a_goto fK_goTogether_84 ?_
          rw [nI_1]
          refine ih (i + 1) _ _ _ _ _ _ _ _ T D hD (by omega) (V1.up (by omega)) (B1 _) (up_n (by decide) K7) (up_n (by decide) K8) (up_n (by decide) K9) (up_n (by decide) K0) up_s (up_n (by decide) K2) (up_n (by decide) K3) (kz_wad _ _ _ (sg_lt q1) kw) (Fa _) (can_le c9 O.S bW) ?_
          rw [← hT]; simp only [gto]; rw [if_pos c1, ← hD, if_pos c9]
        · rw [if_neg c9]
          refine a_if_ne fK_goTogether_76 (fun c => absurd (by rw [bI_f c9]) c) (fun _ => ?_)
          refine a_ic fK_goTogether_79 ?_
          exact a_rz fK_goTogether_80 rfl (by first | rfl | (split <;> rfl)) (⟨_, rfl, by rw [← hT]; simp only [gto]; rw [if_pos c1, ← hD, if_neg c9]; rfl, rfl, ⟨_, g2, D, W, ob, cd, op, dp, up_n (by decide) K7, up_n (by decide) K8, up_n (by decide) K9, up_n (by decide) K0, up_s, up_n (by decide) K2, up_n (by decide) K3, kw⟩, Fa _⟩)
  obtain ⟨m, f, D, W, ob, cd, op, dp, k7, k8, k9, k0, k1, k2, k3, kw⟩ := S
  refine fE.of (L := [some (.ref 47), some (.ref 12), some (.int (nI bits)), none]) (by decide +kernel) (Nat.le_of_ble_eq_true rfl) rfl ?_
  refine a_al0 fK_goTogether_0 ?_
  refine a_gf fK_goTogether_1 l_K_21 k7 rfl ?_
  refine a_al1 fK_goTogether_4 ?_
  refine a_gf fK_goTogether_5 l_K_49 V.1 rfl ?_
  refine a_V1N fK_goTogether_8 k_K_60 m_S_become ⟨by decide, by decide⟩ k0 rfl ⟨rfl, rfl⟩ (Nat.le_of_ble_eq_true rfl) (c_Sbecome (s := 50) (o := 15) k0 k1 V.2.2.2.1 V.2.2.2.2 (by omega)) ?_
  refine a_ic fK_goTogether_11 ?_
  refine a_is3 fK_goTogether_12 (by decide) rfl ?_
  rw [cpy_kz kw]
  have Fh : frk h (va_up (va_up h (50 + 1) (nA 10 (sl N 20 10))) 50 (sO (50 + 1) (N 30))) := (frk.rf.up (by omega)).up (by omega)
  exact loop (N 31) 0 _ m f _ ob cd op dp _ (N 30) rfl (by omega) (V.fr Fh) (B.fr Fh) (up_n (by decide) (up_n (by decide) k7)) (up_n (by decide) (up_n (by decide) k8)) (up_n (by decide) (up_n (by decide) k9)) up_s (up_n (by decide) up_s) (up_n (by decide) (up_n (by decide) k2)) (up_n (by decide) (up_n (by decide) k3)) kz_sl Fh O.W rfl
theorem c_dearest (V : hv h N) (B : bv h N) (S : kS h) (O : okC N) (OB : okB N) : fE M_K_dearestBills E [.ref 47, .ref 12] n h (qI (fun r k g => r = nI (mosL (fun b => decide (b &&& N 44 = 0)) (gtR N) (wsR N) (2 ^ N 31 - 1) 1 0) ∧ k = n ∧ kS g ∧ frk h g)) := by
  have ob6 := OB.1
  have p6 := pw64 ob6
  have sh : ∀ m, m ≤ 6 → (1 : Int32) <<< (nI m &&& 31) = nI (2 ^ m) := by decide
  have wl : ∀ b, b < 2 ^ N 31 → wsR N b ≤ 594 := fun b hb => by
    have := wsm_le (f := fun i => N (38 + i)) (bits := b) 6 0 (fun x => by
      by_cases c : x < N 31
      · exact Or.inl (by have := (OB.2.1 x c).2; omega)
      · exact Or.inr (bit_hi hb (by omega)))
    omega
  have loop : ∀ (j i s : Nat) (g : hT) (T : Nat) (x5 : Option Value), i + j = 2 ^ N 31 → s < 2 ^ N 31 → hv g N → bv g N → kS g → frk h g → mosL (fun b => decide (b &&& N 44 = 0)) (gtR N) (wsR N) j i s = T → fA M_K_dearestBills E (fZ M_K_dearestBills E (qI (fun r k g => r = nI T ∧ k = n ∧ kS g ∧ frk h g))) n g 0 0 7 [some (.ref 47), some (.ref 12), some (.int (nI s)), some (.int (nI (wsR N s))), some (.int (nI i)), x5] [] := by
    intro j
    induction j with
    | zero =>
      intro i s g T x5 hi hs V B S Fr hT
      refine a_il4 fK_dearestBills_7 ?_
      refine a_ic fK_dearestBills_9 ?_
      refine a_al1 fK_dearestBills_10 ?_
      refine a_gf fK_dearestBills_11 l_K_70 V.1 rfl ?_
      refine a_gf fK_dearestBills_14 l_K_74 B.1 rfl ?_
      refine a_ishl fK_dearestBills_17 ?_
      rw [sh _ ob6]
      refine a_ic_ge fK_dearestBills_18 (fun _ => ?_) (fun c => absurd (nI_le (by omega) (by omega)) c)
      refine a_il2 fK_dearestBills_73 ?_
      exact a_ri fK_dearestBills_74 rfl (⟨_, rfl, by rw [← hT]; rfl, rfl, S, Fr⟩)
    | succ j ih =>
      intro i s g T x5 hi hs V B S Fr hT
      obtain ⟨b1, bn, bw, b2, b3, b4⟩ := id B
      have k7 : ∃ op dp, g 47 = kO op dp := by obtain ⟨m, f, D, W, ob, cd, op, dp, k7, _⟩ := S; exact ⟨op, dp, k7⟩
      obtain ⟨op, dp, k7⟩ := k7
      have ew : wsm bw i 6 0 = wsR N i := wsm_cg (m := N 31) (by omega) (fun x hx => (b4 x hx).2) 6 0
      have w1 := wl i (by omega)
      have w2 := wl s hs
      refine a_il4 fK_dearestBills_7 ?_
      refine a_ic fK_dearestBills_9 ?_
      refine a_al1 fK_dearestBills_10 ?_
      refine a_gf fK_dearestBills_11 l_K_70 V.1 rfl ?_
      refine a_gf fK_dearestBills_14 l_K_74 b1 rfl ?_
      refine a_ishl fK_dearestBills_17 ?_
      rw [sh _ ob6]
      refine a_ic_ge fK_dearestBills_18 (fun c => absurd c (nI_ge (by omega) (by omega))) (fun _ => ?_)
      have nx : ∀ (g9 : Nat → cT) (s2 : Nat) (y5 : Option Value), hv g9 N → bv g9 N → kS g9 → frk h g9 → s2 < 2 ^ N 31 → (if (decide (i &&& N 44 = 0)) = true ∧ wsR N s < wsR N i ∧ gtR N i = true then i else s) = s2 → fA M_K_dearestBills E (fZ M_K_dearestBills E (qI (fun r k g => r = nI T ∧ k = n ∧ kS g ∧ frk h g))) n g9 0 0 67 [some (.ref 47), some (.ref 12), some (.int (nI s2)), some (.int (nI (wsR N s2))), some (.int (nI i)), y5] [] := by
        intro g9 s2 y5 V9 B9 S9 F9 hs2 he
        refine a_inc4 fK_dearestBills_67 (by decide) rfl ?_
        refine a_goto fK_dearestBills_70 ?_
        rw [nI_1]
        exact ih (i + 1) s2 g9 T _ (by omega) hs2 V9 B9 S9 F9 (by rw [← hT, ← he]; rfl)
      have ea : nI i &&& nI (N 44) = nI (i &&& N 44) := nI_and i (N 44)
      have la : i &&& N 44 < 2 ^ 31 := Nat.lt_of_le_of_lt (Nat.and_le_left) (by omega)
      refine a_il4 fK_dearestBills_21 ?_
      refine a_al1 fK_dearestBills_23 ?_
      refine a_gf fK_dearestBills_24 l_K_70 V.1 rfl ?_
      refine a_gf fK_dearestBills_27 l_K_79 b1 rfl ?_
      refine a_iand fK_dearestBills_30 ?_
      rw [ea]
      by_cases c1 : i &&& N 44 = 0
      · refine a_if_ne fK_dearestBills_31 (fun c => absurd (by rw [c1]; rfl) c) (fun _ => ?_)
        refine a_al1 fK_dearestBills_34 ?_
        refine a_gf fK_dearestBills_35 l_K_70 V.1 rfl ?_
        refine a_il4 fK_dearestBills_38 ?_
        refine a_V1V fK_dearestBills_40 k_K_82 m_B_worthOf ⟨by decide, by decide⟩ b1 rfl ⟨rfl, rfl⟩ (Nat.le_of_ble_eq_true rfl) (c_worthOf (b := 17) b1 b3 (bits := i) (by omega)) ?_
        rw [ew]
        refine a_is5 fK_dearestBills_43 (by decide) rfl ?_
        by_cases c2 : wsR N s < wsR N i
        · refine a_il5 fK_dearestBills_45 ?_
          refine a_il3 fK_dearestBills_47 ?_
          refine a_ic_le fK_dearestBills_48 (fun c => absurd c (fun z => absurd ((nI_leI (by omega) (by omega)).mp z) (by omega))) (fun _ => ?_)
          refine a_al0 fK_dearestBills_51 ?_
          refine a_al1 fK_dearestBills_52 ?_
          refine a_il4 fK_dearestBills_53 ?_
          refine a_V2I fK_dearestBills_55 k_K_86 m_K_goTogether ⟨by decide, by decide⟩ k7 rfl ⟨rfl, rfl⟩ (Nat.le_of_ble_eq_true rfl) (c_goTogether V B S O OB (bits := i) (by omega)) (fun r1 n1 h1 p1 => ?_)
          obtain ⟨rfl, hn1, S1, F1⟩ := p1
          subst n1
          by_cases c3 : gtR N i = true
          · refine a_if_eq fK_dearestBills_58 (fun c => absurd c (fun z => by rw [bI_t c3] at z; exact absurd z (by decide))) (fun _ => ?_)
            refine a_il5 fK_dearestBills_61 ?_
            refine a_is3 fK_dearestBills_63 (by decide) rfl ?_
            refine a_il4 fK_dearestBills_64 ?_
            refine a_is2 fK_dearestBills_66 (by decide) rfl ?_
            exact nx h1 i _ (V.fr F1) (B.fr F1) S1 (Fr.trans F1) (by omega) (if_pos ⟨decide_eq_true c1, c2, c3⟩)
          · refine a_if_eq fK_dearestBills_58 (fun _ => ?_) (fun c => absurd (by rw [bI_f c3]) c)
            exact nx h1 s _ (V.fr F1) (B.fr F1) S1 (Fr.trans F1) hs (if_neg (fun z => c3 z.2.2))
        · refine a_il5 fK_dearestBills_45 ?_
          refine a_il3 fK_dearestBills_47 ?_
          refine a_ic_le fK_dearestBills_48 (fun _ => ?_) (fun c => absurd (nI_le (by omega) (by omega)) c)
          exact nx g s _ V B S Fr hs (if_neg (fun z => c2 z.2.1))
      · refine a_if_ne fK_dearestBills_31 (fun _ => ?_) (fun c => absurd c (fun z => c1 ((nI_eq (b := 0) la (by decide)).mp z)))
        exact nx g s _ V B S Fr hs (if_neg (fun z => c1 (of_decide_eq_true z.1)))
  refine fE.of (L := [some (.ref 47), some (.ref 12), none, none, none, none]) (by decide +kernel) (Nat.le_of_ble_eq_true rfl) rfl ?_
  refine a_ic fK_dearestBills_0 ?_
  refine a_is2 fK_dearestBills_1 (by decide) rfl ?_
  refine a_ic fK_dearestBills_2 ?_
  refine a_is3 fK_dearestBills_3 (by decide) rfl ?_
  refine a_ic fK_dearestBills_4 ?_
  refine a_is4 fK_dearestBills_5 (by decide) rfl ?_
  have e0 : wsR N 0 = 0 := by simp [wsR, wsm]
  have := loop (2 ^ N 31 - 1) 1 0 h _ none (by have := Nat.one_le_two_pow (n := N 31); omega) (Nat.two_pow_pos _) V B S frk.rf rfl
  rw [e0] at this
  exact this
end K3
