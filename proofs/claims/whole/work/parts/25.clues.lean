/-! clues: what kinds may be; mixing -/
abbrev mbe (nf ng nd nm : Nat → Nat) (m F kd : Nat) : Prop := ∀ i, i < m → nf i = F → wr kd (ng i) (nd i) = nm i
/-- the bits of those of i, i + 1, .. (j) that P takes -/
def kbs (P : Nat → Bool) : Nat → Nat → Nat → Nat
  | 0, _, b => b
  | j + 1, i, b => kbs P j (i + 1) (if P i then b ||| 2 ^ i else b)
def mx (h : Int64) (v : Nat) : Int64 := 31 * h + (nI v).toInt64
def mxL (f : Nat → List Nat) : Nat → Nat → Int64 → Int64
  | 0, _, h => h
  | j + 1, i, h => mxL f j (i + 1) ((f i).foldl mx h)
theorem mxL_congr {f g : Nat → List Nat} : ∀ (j i : Nat) (h : Int64), (∀ x, i ≤ x → x < i + j → f x = g x) → mxL f j i h = mxL g j i h := by
  intro j
  induction j with
  | zero => intro i h _; rfl
  | succ j ih =>
    intro i h hx
    show mxL f j (i + 1) ((f i).foldl mx h) = mxL g j (i + 1) ((g i).foldl mx h)
    rw [hx i (Nat.le_refl _) (by omega)]
    exact ih (i + 1) _ (fun x a b => hx x (by omega) (by omega))
theorem shl1 : ∀ i, i < 6 → ((1 : Int32) <<< (nI i &&& 31)) = nI (2 ^ i) := by decide
section CK
variable {E : eT} {n : Nat} {h : hT}
theorem c_mayBe {c t m F kd : Nat} {nf ng nd nm : Nat → Nat} (hc : h c = cO c t m) (k3 : h (c + 3) = nA 6 nf) (k4 : h (c + 4) = nA 6 ng) (k5 : h (c + 5) = nA 6 nd) (k6 : h (c + 6) = nA 6 nm) (hm : m ≤ 6) (hF : F < 10) (hkd : kd ≤ 5) (bn : ∀ i, i < m → nf i < 10 ∧ ng i ≤ 3 ∧ nd i ≤ 99 ∧ nm i ≤ 20) :
    fE M_C_mayBe E [.ref c, .int (nI F), .int (nI kd)] n h (eV (.int (bI (mbe nf ng nd nm m F kd))) n h) := by
  have loop : ∀ (j i : Nat), i + j = m → (∀ x, x < i → nf x = F → wr kd (ng x) (nd x) = nm x) → fA M_C_mayBe E (fZ M_C_mayBe E (eV (.int (bI (mbe nf ng nd nm m F kd))) n h)) n h 0 0 2 [some (.ref c), some (.int (nI F)), some (.int (nI kd)), some (.int (nI i))] [] := by
    intro j
    induction j with
    | zero =>
      intro i hi hx
      refine a_il3 fC_mayBe_2 ?_
      refine a_al0 fC_mayBe_3 ?_
      refine a_gf fC_mayBe_4 l_C_34 hc rfl ?_
      refine a_ic_ge fC_mayBe_7 (fun _ => ?_) (fun c => absurd (nI_le (by omega) (by omega)) c)
      refine a_ic fC_mayBe_59 ?_
      exact a_rz fC_mayBe_60 rfl (by first | rfl | (split <;> rfl)) (⟨sv (by rw [bI_t (fun x hx2 => hx x (by omega))]), rfl, rfl⟩)
    | succ j ih =>
      intro i hi hx
      obtain ⟨b1, b2, b3, b4⟩ := bn i (by omega)
      refine a_il3 fC_mayBe_2 ?_
      refine a_al0 fC_mayBe_3 ?_
      refine a_gf fC_mayBe_4 l_C_34 hc rfl ?_
      refine a_ic_ge fC_mayBe_7 (fun c => absurd c (nI_ge (by omega) (by omega))) (fun _ => ?_)
      refine a_il3 fC_mayBe_10 ?_
      refine a_ic fC_mayBe_11 ?_
      refine a_ic_ge fC_mayBe_13 (fun c => absurd c (nI_ge (b := 6) (by omega) (by decide))) (fun _ => ?_)
      have next : (nf i = F → wr kd (ng i) (nd i) = nm i) → fA M_C_mayBe E (fZ M_C_mayBe E (eV (.int (bI (mbe nf ng nd nm m F kd))) n h)) n h 0 0 53 [some (.ref c), some (.int (nI F)), some (.int (nI kd)), some (.int (nI i))] [] := by
        intro hy
        refine a_inc3 fC_mayBe_53 (by decide) rfl ?_
        refine a_goto fC_mayBe_56 ?_
        rw [nI_1]
        refine ih (i + 1) (by omega) (fun x hx2 => ?_)
        by_cases c9 : x = i
        · subst c9; exact hy
        · exact hx x (by omega)
      refine a_al0 fC_mayBe_16 ?_
      refine a_gf fC_mayBe_17 l_C_22 hc rfl ?_
      refine a_il3 fC_mayBe_20 ?_
      refine a_ia fC_mayBe_21 k3 rfl (by omega) (by decide) ?_
      refine a_il1 fC_mayBe_22 ?_
      refine a_ic_ne fC_mayBe_23 (fun c => ?_) (fun c => ?_)
      · exact next (fun z => absurd (show nF nf i = nI F by rw [← z]; rfl) c)
      · have c1 : nf i = F := (nI_eq (by omega) (by omega)).mp c
        refine a_il2 fC_mayBe_26 ?_
        refine a_al0 fC_mayBe_27 ?_
        refine a_gf fC_mayBe_28 l_C_25 hc rfl ?_
        refine a_il3 fC_mayBe_31 ?_
        refine a_ia fC_mayBe_32 k4 rfl (by omega) (by decide) ?_
        refine a_al0 fC_mayBe_33 ?_
        refine a_gf fC_mayBe_34 l_C_28 hc rfl ?_
        refine a_il3 fC_mayBe_37 ?_
        refine a_ia fC_mayBe_38 k5 rfl (by omega) (by decide) ?_
        refine a_S3V fC_mayBe_39 k_C_49 m_I_wear ⟨by decide, by decide⟩ ⟨rfl, rfl⟩ (Nat.le_of_ble_eq_true rfl) (c_wear hkd (k := ng i) (D := nd i) (by omega) (by omega)) ?_
        refine a_al0 fC_mayBe_42 ?_
        refine a_gf fC_mayBe_43 l_C_31 hc rfl ?_
        refine a_il3 fC_mayBe_46 ?_
        refine a_ia fC_mayBe_47 k6 rfl (by omega) (by decide) ?_
        refine a_ic_eq fC_mayBe_48 (fun c => ?_) (fun c => ?_)
        · exact next (fun _ => (nI_eq (by have := wr_le (K := kd) (D := nd i) b2; omega) (by omega)).mp c)
        · refine a_ic fC_mayBe_51 ?_
          exact a_rz fC_mayBe_52 rfl (by first | rfl | (split <;> rfl)) (⟨sv (by rw [bI_f (fun z => c (by rw [z i (by omega) c1]; rfl))]), rfl, rfl⟩)
  refine fE.of (L := [some (.ref c), some (.int (nI F)), some (.int (nI kd)), none]) (by decide +kernel) (Nat.le_of_ble_eq_true rfl) rfl ?_
  refine a_ic fC_mayBe_0 ?_
  refine a_is3 fC_mayBe_1 (by decide) rfl ?_
  exact loop m 0 (by omega) (fun x hx => by omega)
theorem c_kindsOf {c t m F : Nat} {nf ng nd nm : Nat → Nat} (hc : h c = cO c t m) (k3 : h (c + 3) = nA 6 nf) (k4 : h (c + 4) = nA 6 ng) (k5 : h (c + 5) = nA 6 nd) (k6 : h (c + 6) = nA 6 nm) (hm : m ≤ 6) (hF : F < 10) (bn : ∀ i, i < m → nf i < 10 ∧ ng i ≤ 3 ∧ nd i ≤ 99 ∧ nm i ≤ 20) :
    fE M_C_kindsOf E [.ref c, .int (nI F)] n h (eV (.int (nI (kbs (fun kd => decide (mbe nf ng nd nm m F kd)) 6 0 0))) n h) := by
  have loop : ∀ (j i b T : Nat), i + j = 6 → kbs (fun kd => decide (mbe nf ng nd nm m F kd)) j i b = T → fA M_C_kindsOf E (fZ M_C_kindsOf E (eV (.int (nI T)) n h)) n h 0 0 4 [some (.ref c), some (.int (nI F)), some (.int (nI b)), some (.int (nI i))] [] := by
    intro j
    induction j with
    | zero =>
      intro i b T hi hT
      obtain rfl : i = 6 := by omega
      refine a_il3 fC_kindsOf_4 ?_
      refine a_ic fC_kindsOf_5 ?_
      refine a_ic_gt fC_kindsOf_6 (fun _ => ?_) (fun c => absurd ((by decide)) c)
      refine a_il2 fC_kindsOf_30 ?_
      exact a_ri fC_kindsOf_31 rfl (⟨sv (by rw [← hT]; rfl), rfl, rfl⟩)
    | succ j ih =>
      intro i b T hi hT
      refine a_il3 fC_kindsOf_4 ?_
      refine a_ic fC_kindsOf_5 ?_
      refine a_ic_gt fC_kindsOf_6 (fun c => absurd c (fun z => absurd ((nI_ltI (a := 5) (by decide) (by omega)).mp z) (by omega))) (fun _ => ?_)
      refine a_al0 fC_kindsOf_9 ?_
      refine a_il1 fC_kindsOf_10 ?_
      refine a_il3 fC_kindsOf_11 ?_
      refine a_V2V fC_kindsOf_12 k_C_45 m_C_mayBe ⟨by decide, by decide⟩ hc rfl ⟨rfl, rfl⟩ (Nat.le_of_ble_eq_true rfl) (c_mayBe hc k3 k4 k5 k6 hm hF (kd := i) (by omega) bn) ?_
      by_cases c9 : mbe nf ng nd nm m F i
      · refine a_if_eq fC_kindsOf_15 (fun c => absurd c (fun z => by rw [bI_t c9] at z; exact absurd z (by decide))) (fun _ => ?_)
        refine a_il2 fC_kindsOf_18 ?_
        refine a_ic fC_kindsOf_19 ?_
        refine a_il3 fC_kindsOf_20 ?_
        refine a_ishl fC_kindsOf_21 ?_
        refine a_ior fC_kindsOf_22 ?_
        rw [shl1 i (by omega), nI_or]
        refine a_is2 fC_kindsOf_23 (by decide) rfl ?_
        refine a_inc3 fC_kindsOf_24 (by decide) rfl ?_
        refine a_goto fC_kindsOf_27 ?_
        rw [nI_1]
        exact ih (i + 1) _ T (by omega) (by rw [← hT]; simp only [kbs, decide_eq_true c9, if_true])
      · refine a_if_eq fC_kindsOf_15 (fun _ => ?_) (fun c => absurd (by rw [bI_f c9]) c)
        refine a_inc3 fC_kindsOf_24 (by decide) rfl ?_
        refine a_goto fC_kindsOf_27 ?_
        rw [nI_1]
        exact ih (i + 1) _ T (by omega) (by rw [← hT]; simp only [kbs, decide_eq_false c9]; rfl)
  refine fE.of (L := [some (.ref c), some (.int (nI F)), none, none]) (by decide +kernel) (Nat.le_of_ble_eq_true rfl) rfl ?_
  refine a_ic fC_kindsOf_0 ?_
  refine a_is2 fC_kindsOf_1 (by decide) rfl ?_
  refine a_ic fC_kindsOf_2 ?_
  refine a_is3 fC_kindsOf_3 (by decide) rfl ?_
  exact loop 6 0 0 _ rfl rfl
theorem c_Cmix {c t m : Nat} {h0 : Int64} {tf tm nf ng nd nm : Nat → Nat} (hc : h c = cO c t m) (k1 : h (c + 1) = nA 6 tf) (k2 : h (c + 2) = nA 6 tm) (k3 : h (c + 3) = nA 6 nf) (k4 : h (c + 4) = nA 6 ng) (k5 : h (c + 5) = nA 6 nd) (k6 : h (c + 6) = nA 6 nm) (ht : t ≤ 6) (hm : m ≤ 6) :
    fE M_C_mixInto E [.ref c, .long h0] n h (eV (.long (mxL (fun i => [nf i, ng i, nd i, nm i]) m 0 (mxL (fun i => [tf i, tm i]) t 0 h0))) n h) := by
  have loop2 : ∀ (j i : Nat) (x T : Int64), i + j = m → mxL (fun i => [nf i, ng i, nd i, nm i]) j i x = T → fA M_C_mixInto E (fZ M_C_mixInto E (eV (.long T) n h)) n h 0 0 60 [some (.ref c), some (.long h0), none, some (.long x), none, some (.int (nI i))] [] := by
    intro j
    induction j with
    | zero =>
      intro i x T hi hT
      refine a_il5 fC_mixInto_60 ?_
      refine a_al0 fC_mixInto_62 ?_
      refine a_gf fC_mixInto_63 l_C_34 hc rfl ?_
      refine a_ic_ge fC_mixInto_66 (fun _ => ?_) (fun c => absurd (nI_le (by omega) (by omega)) c)
      refine a_ll3 fC_mixInto_142 ?_
      exact a_rl fC_mixInto_143 rfl (⟨svl (by rw [← hT]; rfl), rfl, rfl⟩)
    | succ j ih =>
      intro i x T hi hT
      refine a_il5 fC_mixInto_60 ?_
      refine a_al0 fC_mixInto_62 ?_
      refine a_gf fC_mixInto_63 l_C_34 hc rfl ?_
      refine a_ic_ge fC_mixInto_66 (fun c => absurd c (nI_ge (by omega) (by omega))) (fun _ => ?_)
      refine a_il5 fC_mixInto_69 ?_
      refine a_ic fC_mixInto_71 ?_
      refine a_ic_ge fC_mixInto_73 (fun c => absurd c (nI_ge (b := 6) (by omega) (by decide))) (fun _ => ?_)
      refine a_lc fC_mixInto_76 ?_
      refine a_ll3 fC_mixInto_79 ?_
      refine a_lmul fC_mixInto_80 ?_
      refine a_al0 fC_mixInto_81 ?_
      refine a_gf fC_mixInto_82 l_C_22 hc rfl ?_
      refine a_il5 fC_mixInto_85 ?_
      refine a_ia fC_mixInto_87 k3 rfl (by omega) (by decide) ?_
      refine a_i2l fC_mixInto_88 ?_
      refine a_ladd fC_mixInto_89 ?_
      refine a_lt3 fC_mixInto_90 (by decide) rfl ?_
      refine a_lc fC_mixInto_91 ?_
      refine a_ll3 fC_mixInto_94 ?_
      refine a_lmul fC_mixInto_95 ?_
      refine a_al0 fC_mixInto_96 ?_
      refine a_gf fC_mixInto_97 l_C_25 hc rfl ?_
      refine a_il5 fC_mixInto_100 ?_
      refine a_ia fC_mixInto_102 k4 rfl (by omega) (by decide) ?_
      refine a_i2l fC_mixInto_103 ?_
      refine a_ladd fC_mixInto_104 ?_
      refine a_lt3 fC_mixInto_105 (by decide) rfl ?_
      refine a_lc fC_mixInto_106 ?_
      refine a_ll3 fC_mixInto_109 ?_
      refine a_lmul fC_mixInto_110 ?_
      refine a_al0 fC_mixInto_111 ?_
      refine a_gf fC_mixInto_112 l_C_28 hc rfl ?_
      refine a_il5 fC_mixInto_115 ?_
      refine a_ia fC_mixInto_117 k5 rfl (by omega) (by decide) ?_
      refine a_i2l fC_mixInto_118 ?_
      refine a_ladd fC_mixInto_119 ?_
      refine a_lt3 fC_mixInto_120 (by decide) rfl ?_
      refine a_lc fC_mixInto_121 ?_
      refine a_ll3 fC_mixInto_124 ?_
      refine a_lmul fC_mixInto_125 ?_
      refine a_al0 fC_mixInto_126 ?_
      refine a_gf fC_mixInto_127 l_C_31 hc rfl ?_
      refine a_il5 fC_mixInto_130 ?_
      refine a_ia fC_mixInto_132 k6 rfl (by omega) (by decide) ?_
      refine a_i2l fC_mixInto_133 ?_
      refine a_ladd fC_mixInto_134 ?_
      refine a_lt3 fC_mixInto_135 (by decide) rfl ?_
      refine a_inc5 fC_mixInto_136 (by decide) rfl ?_
      refine a_goto fC_mixInto_139 ?_
      rw [nI_1]
      exact ih (i + 1) _ T (by omega) hT
  have loop1 : ∀ (j i : Nat) (x y : Int64), i + j = t → mxL (fun i => [tf i, tm i]) j i x = y → fA M_C_mixInto E (fZ M_C_mixInto E (eV (.long (mxL (fun i => [nf i, ng i, nd i, nm i]) m 0 y)) n h)) n h 0 0 5 [some (.ref c), some (.long h0), none, some (.long x), none, some (.int (nI i))] [] := by
    intro j
    induction j with
    | zero =>
      intro i x y hi hT
      refine a_il5 fC_mixInto_5 ?_
      refine a_al0 fC_mixInto_7 ?_
      refine a_gf fC_mixInto_8 l_C_18 hc rfl ?_
      refine a_ic_ge fC_mixInto_11 (fun _ => ?_) (fun c => absurd (nI_le (by omega) (by omega)) c)
      refine a_ic fC_mixInto_57 ?_
      refine a_is5 fC_mixInto_58 (by decide) rfl ?_
      exact loop2 m 0 _ _ (by omega) (by rw [← hT]; rfl)
    | succ j ih =>
      intro i x y hi hT
      refine a_il5 fC_mixInto_5 ?_
      refine a_al0 fC_mixInto_7 ?_
      refine a_gf fC_mixInto_8 l_C_18 hc rfl ?_
      refine a_ic_ge fC_mixInto_11 (fun c => absurd c (nI_ge (by omega) (by omega))) (fun _ => ?_)
      refine a_il5 fC_mixInto_14 ?_
      refine a_ic fC_mixInto_16 ?_
      refine a_ic_ge fC_mixInto_18 (fun c => absurd c (nI_ge (b := 6) (by omega) (by decide))) (fun _ => ?_)
      refine a_lc fC_mixInto_21 ?_
      refine a_ll3 fC_mixInto_24 ?_
      refine a_lmul fC_mixInto_25 ?_
      refine a_al0 fC_mixInto_26 ?_
      refine a_gf fC_mixInto_27 l_C_9 hc rfl ?_
      refine a_il5 fC_mixInto_30 ?_
      refine a_ia fC_mixInto_32 k1 rfl (by omega) (by decide) ?_
      refine a_i2l fC_mixInto_33 ?_
      refine a_ladd fC_mixInto_34 ?_
      refine a_lt3 fC_mixInto_35 (by decide) rfl ?_
      refine a_lc fC_mixInto_36 ?_
      refine a_ll3 fC_mixInto_39 ?_
      refine a_lmul fC_mixInto_40 ?_
      refine a_al0 fC_mixInto_41 ?_
      refine a_gf fC_mixInto_42 l_C_15 hc rfl ?_
      refine a_il5 fC_mixInto_45 ?_
      refine a_ia fC_mixInto_47 k2 rfl (by omega) (by decide) ?_
      refine a_i2l fC_mixInto_48 ?_
      refine a_ladd fC_mixInto_49 ?_
      refine a_lt3 fC_mixInto_50 (by decide) rfl ?_
      refine a_inc5 fC_mixInto_51 (by decide) rfl ?_
      refine a_goto fC_mixInto_54 ?_
      rw [nI_1]
      exact ih (i + 1) _ y (by omega) hT
  refine fE.of (L := [some (.ref c), some (.long h0), none, none, none, none]) (by decide +kernel) (Nat.le_of_ble_eq_true rfl) rfl ?_
  refine a_ll1 fC_mixInto_0 ?_
  refine a_lt3 fC_mixInto_1 (by decide) rfl ?_
  refine a_ic fC_mixInto_2 ?_
  refine a_is5 fC_mixInto_3 (by decide) rfl ?_
  exact loop1 t 0 _ _ (by omega) rfl
end CK
