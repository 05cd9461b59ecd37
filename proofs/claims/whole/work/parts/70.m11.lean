/-! the reference's reader: tokens -/
def atI (tn : Nat) (bt : Nat → Nat) (k : Nat) : Int32 := if k < tn then nI (bt k) else -1
/-- letters as one number -/
def wcd (bt : Nat → Nat) (p : Nat) : Nat → Nat
  | 0 => 0
  | k + 1 => 27 * wcd bt p k + (bt (p + k) - 96)
section LX
variable {tn : Nat} {bt : Nat → Nat}
theorem at_sp {i : Nat} (K : okX tn bt) : atI tn bt i = 32 ↔ srt tn bt i = 4 := by
  unfold atI srt
  by_cases c : i < tn
  · have := K.2 i c
    rw [if_pos c, if_pos c, show (32 : Int32) = nI 32 from rfl, nI_eq (by omega) (by decide)]
    grind
  · rw [if_neg c, if_neg c]
    exact ⟨fun z => absurd z (by decide), fun z => absurd z (by decide)⟩
theorem at_neg {i : Nat} (K : okX tn bt) : 0 ≤ atI tn bt i ↔ i < tn := by
  unfold atI
  by_cases c : i < tn
  · have := K.2 i c
    rw [if_pos c]
    exact ⟨fun _ => c, fun _ => nI_pos' (by omega)⟩
  · rw [if_neg c]
    exact ⟨fun z => absurd z (by decide), fun z => absurd z c⟩
theorem at_lt {i : Nat} (K : okX tn bt) : (97 ≤ atI tn bt i ∧ atI tn bt i ≤ 122) ↔ srt tn bt i = 1 := by
  unfold atI srt
  by_cases c : i < tn
  · have := K.2 i c
    rw [if_pos c, if_pos c, show (97 : Int32) = nI 97 from rfl, show (122 : Int32) = nI 122 from rfl, nI_leI (by decide) (by omega), nI_leI (by omega) (by decide)]
    grind
  · rw [if_neg c, if_neg c]
    exact ⟨fun z => absurd z.1 (by decide), fun z => absurd z (by decide)⟩
theorem at_dg {i : Nat} (K : okX tn bt) : (48 ≤ atI tn bt i ∧ atI tn bt i ≤ 57) ↔ srt tn bt i = 2 := by
  unfold atI srt
  by_cases c : i < tn
  · have := K.2 i c
    rw [if_pos c, if_pos c, show (48 : Int32) = nI 48 from rfl, show (57 : Int32) = nI 57 from rfl, nI_leI (by decide) (by omega), nI_leI (by omega) (by decide)]
    grind
  · rw [if_neg c, if_neg c]
    exact ⟨fun z => absurd z.1 (by decide), fun z => absurd z (by decide)⟩
theorem at_st {i : Nat} (K : okX tn bt) (h : i < tn) : atI tn bt i = 59 ↔ srt tn bt i = 3 := by
  unfold atI srt
  have := K.2 i h
  rw [if_pos h, if_pos h, show (59 : Int32) = nI 59 from rfl, nI_eq (by omega) (by decide)]
  grind
theorem srt_in {i s : Nat} (h : srt tn bt i = s) (h0 : s ≠ 0) : i < tn := by
  rcases Nat.lt_or_ge i tn with q | q
  · exact q
  · unfold srt at h; rw [if_neg (by omega)] at h; exact absurd h.symm h0
theorem srt_1 {i : Nat} (z : srt tn bt i = 1) : 97 ≤ bt i ∧ bt i ≤ 122 := by
  have c := srt_in z (by decide)
  unfold srt at z
  rw [if_pos c] at z
  grind
theorem wcd_lt {p : Nat} : ∀ k, (∀ i, i < k → 97 ≤ bt (p + i) ∧ bt (p + i) ≤ 122) → wcd bt p k < 27 ^ k
  | 0, _ => by simp only [wcd]; exact Nat.one_pos
  | k + 1, h => by
    have h1 := wcd_lt k (fun i hi => h i (by omega))
    have h2 := h k (by omega)
    simp only [wcd]
    rw [Nat.pow_succ]
    omega
theorem skp_no {s f a : Nat} (h : ¬ (a < tn ∧ srt tn bt a = s)) : skp tn bt s (f + 1) a = a := by
  simp only [skp]
  rw [if_neg h]
def wtk (tn : Nat) (bt : Nat → Nat) (a : Nat) : Int32 := if 6 < tkE tn bt a - tkP tn bt a then -5 else nI (100 + wcd bt (tkP tn bt a) (tkE tn bt a - tkP tn bt a))
/-- the reference's token -/
def tok (tn : Nat) (bt : Nat → Nat) (a : Nat) : Int32 := if tkS tn bt a = 0 then -4 else if tkS tn bt a = 1 then wtk tn bt a else if tkS tn bt a = 2 then nI (tkV tn bt a 0) else if tkS tn bt a = 3 then -3 else -5
end LX
section MA
variable {E : eT} {n : Nat} {h : hT} {tn : Nat} {bt : Nat → Nat} {th mn : Int32} {up lo : Int64}
theorem c_Mat {k : Nat} {nx pl tk fa : Int32} (m0 : h 63 = mO (nI tn, nx, pl, tk, fa, up, lo) th mn) (m5 : h 68 = nA 150 bt) (K : okX tn bt) (hk : k ≤ 150) : fE M_M_at E [.ref 63, .int (nI k)] n h (eV (.int (atI tn bt k)) n h) := by
  have k0 := K.1
  refine fE.of (L := [some (.ref 63), some (.int (nI k))]) (by decide +kernel) (Nat.le_of_ble_eq_true rfl) rfl ?_
  by_cases c : k < tn
  · refine a_il1 fM_at_0 ?_
    refine a_al0 fM_at_1 ?_
    refine a_gf fM_at_2 l_M_82 m0 rfl ?_
    refine a_ic_ge fM_at_5 (fun c_ => absurd c_ (nI_ge c (by omega))) (fun _ => ?_)
    refine a_al0 fM_at_8 ?_
    refine a_gf fM_at_9 l_M_23 m0 rfl ?_
    refine a_il1 fM_at_12 ?_
    refine a_ia fM_at_13 m5 rfl (by omega) (by decide) ?_
    refine a_goto fM_at_14 ?_
    exact a_ri fM_at_18 rfl (⟨sv (by unfold atI; rw [if_pos c]; rfl), rfl, rfl⟩)
  · refine a_il1 fM_at_0 ?_
    refine a_al0 fM_at_1 ?_
    refine a_gf fM_at_2 l_M_82 m0 rfl ?_
    refine a_ic_ge fM_at_5 (fun _ => ?_) (fun c_ => absurd (nI_le (show tn ≤ k by omega) (by omega)) c_)
    refine a_ic fM_at_17 ?_
    exact a_ri fM_at_18 rfl (⟨sv (by unfold atI; rw [if_neg c]), rfl, rfl⟩)
theorem c_MisLetter {x : Int32} : fE M_M_isLetter E [.int x] n h (eV (.int (bI (97 ≤ x ∧ x ≤ 122))) n h) := by
  refine fE.of (L := [some (.int x)]) (by decide +kernel) (Nat.le_of_ble_eq_true rfl) rfl ?_
  refine a_il0 fM_isLetter_0 ?_
  refine a_ic fM_isLetter_1 ?_
  refine a_ic fM_isLetter_3 ?_
  refine a_S3V fM_isLetter_5 k_M_70 m_M_in ⟨by decide, by decide⟩ ⟨rfl, rfl⟩ (Nat.le_of_ble_eq_true rfl) (c_Min) ?_
  exact a_rz fM_isLetter_8 rfl (bI_n _) ⟨rfl, rfl, rfl⟩
theorem c_Mword {p : Nat} {tk fa : Int32} (m0 : h 63 = mO (nI tn, nI p, nI p, tk, fa, up, lo) th mn) (m5 : h 68 = nA 150 bt) (K : okX tn bt) (hp : p ≤ tn) : fE M_M_word E [.ref 63] n h (eV (.int (if 6 < skp tn bt 1 150 p - p then -5 else nI (100 + wcd bt p (skp tn bt 1 150 p - p)))) n (va_up h 63 (mO (nI tn, nI (skp tn bt 1 150 p), nI p, tk, fa, up, lo) th mn))) := by
  have k0 := K.1
  generalize hS : skp tn bt 1 150 p = Sx
  have fin : ∀ (x v : Nat), p ≤ x → v = wcd bt p (if x - p ≤ 6 then x - p else 6) → Sx = x → x ≤ 150 → fA M_M_word E (fZ M_M_word E (eV (.int (if 6 < Sx - p then -5 else nI (100 + wcd bt p (Sx - p)))) n (va_up h 63 (mO (nI tn, nI Sx, nI p, tk, fa, up, lo) th mn)))) n (va_up h 63 (mO (nI tn, nI x, nI p, tk, fa, up, lo) th mn)) 0 0 63 [some (.ref 63), some (.int (nI v))] [] := by
    intro x v h1 hv es h9
    subst es
    refine a_al0 fM_word_63 ?_
    refine a_gf fM_word_64 l_M_85 up_s rfl ?_
    refine a_al0 fM_word_67 ?_
    refine a_gf fM_word_68 l_M_95 up_s rfl ?_
    refine a_isub fM_word_71 ?_
    rw [pk_sub h1]
    by_cases c6 : 6 < Sx - p
    · refine a_ic fM_word_72 ?_
      refine a_ic_le fM_word_74 (fun c_ => absurd c_ (fun z => absurd ((nI_leI (b := 6) (by omega) (by decide)).mp z) (by omega))) (fun _ => ?_)
      refine a_ic fM_word_77 ?_
      refine a_goto fM_word_79 ?_
      exact a_ri fM_word_86 rfl (⟨sv (by rw [if_pos c6]), rfl, rfl⟩)
    · refine a_ic fM_word_72 ?_
      refine a_ic_le fM_word_74 (fun _ => ?_) (fun c_ => absurd (nI_le (b := 6) (by omega) (by decide)) c_)
      rw [if_pos (by omega)] at hv
      refine a_ic fM_word_82 ?_
      refine a_il1 fM_word_84 ?_
      refine a_iadd fM_word_85 ?_
      exact a_ri fM_word_86 rfl (⟨sv (by rw [if_neg c6, hv]; exact nI_add 100 _), rfl, rfl⟩)
  have loop : ∀ (f x v : Nat), tn ≤ x + f → p ≤ x → x ≤ tn → (∀ i, i < x - p → 97 ≤ bt (p + i) ∧ bt (p + i) ≤ 122) → v = wcd bt p (if x - p ≤ 6 then x - p else 6) → skp tn bt 1 f x = Sx → fA M_M_word E (fZ M_M_word E (eV (.int (if 6 < Sx - p then -5 else nI (100 + wcd bt p (Sx - p)))) n (va_up h 63 (mO (nI tn, nI Sx, nI p, tk, fa, up, lo) th mn)))) n (va_up h 63 (mO (nI tn, nI x, nI p, tk, fa, up, lo) th mn)) 0 0 2 [some (.ref 63), some (.int (nI v))] [] := by
    intro f
    induction f with
    | zero =>
      intro x v hf h1 h2 h3 hv he
      refine a_al0 fM_word_2 ?_
      refine a_al0 fM_word_3 ?_
      refine a_gf fM_word_4 l_M_85 up_s rfl ?_
      refine a_V1V fM_word_7 k_M_88 m_M_at ⟨by decide, by decide⟩ up_s rfl ⟨rfl, rfl⟩ (Nat.le_of_ble_eq_true rfl) (c_Mat (k := x) up_s (up_n (by decide) m5) K (by omega)) ?_
      refine a_S1V fM_word_10 k_M_91 m_M_isLetter ⟨by decide, by decide⟩ ⟨rfl, rfl⟩ (Nat.le_of_ble_eq_true rfl) (c_MisLetter) ?_
      refine a_if_eq fM_word_13 (fun _ => ?_) (fun c_ => absurd (by rw [bI_f (fun z => by have := srt_in ((at_lt K).mp z) (by decide); omega)]) c_)
      exact fin x v h1 hv he.symm (by omega)
    | succ f ih =>
      intro x v hf h1 h2 h3 hv he
      by_cases c : srt tn bt x = 1
      · have xt := srt_in c (by decide)
        have xb := srt_1 c
        refine a_al0 fM_word_2 ?_
        refine a_al0 fM_word_3 ?_
        refine a_gf fM_word_4 l_M_85 up_s rfl ?_
        refine a_V1V fM_word_7 k_M_88 m_M_at ⟨by decide, by decide⟩ up_s rfl ⟨rfl, rfl⟩ (Nat.le_of_ble_eq_true rfl) (c_Mat (k := x) up_s (up_n (by decide) m5) K (by omega)) ?_
        refine a_S1V fM_word_10 k_M_91 m_M_isLetter ⟨by decide, by decide⟩ ⟨rfl, rfl⟩ (Nat.le_of_ble_eq_true rfl) (c_MisLetter) ?_
        refine a_if_eq fM_word_13 (fun c_ => absurd c_ (fun z => by rw [bI_t ((at_lt K).mpr c)] at z; exact absurd z (by decide))) (fun _ => ?_)
        have he2 : skp tn bt 1 f (x + 1) = Sx := by rw [← he, skp_go ⟨xt, c⟩]
        have h32 : ∀ i, i < x + 1 - p → 97 ≤ bt (p + i) ∧ bt (p + i) ≤ 122 := fun i hi => by
          rcases Nat.lt_or_ge i (x - p) with q | q
          · exact h3 i q
          · rw [show p + i = x by omega]; exact xb
        refine a_al0 fM_word_16 ?_
        refine a_gf fM_word_17 l_M_85 up_s rfl ?_
        refine a_al0 fM_word_20 ?_
        refine a_gf fM_word_21 l_M_95 up_s rfl ?_
        refine a_isub fM_word_24 ?_
        rw [pk_sub h1]
        by_cases c5 : 5 < x - p
        · refine a_ic fM_word_25 ?_
          refine a_ic_le fM_word_26 (fun c_ => absurd c_ (fun z => absurd ((nI_leI (b := 5) (by omega) (by decide)).mp z) (by omega))) (fun _ => ?_)
          refine a_il1 fM_word_29 ?_
          refine a_goto fM_word_30 ?_
          refine a_is1 fM_word_49 (by decide) rfl ?_
          refine a_al0 fM_word_50 ?_
          refine a_dup fM_word_51 rfl ?_
          refine a_gf fM_word_52 l_M_85 up_s rfl ?_
          refine a_ic fM_word_55 ?_
          refine a_iadd fM_word_56 ?_
          refine a_pfi7 fM_word_57 p_M_85 up_s ?_
          refine a_goto fM_word_60 ?_
          rw [bx_uu, nI_1]
          refine ih (x + 1) v (by omega) (by omega) (by omega) h32 ?_ he2
          rw [hv]
          by_cases c6 : x - p ≤ 6
          · rw [if_pos c6, if_neg (by omega), show x - p = 6 by omega]
          · rw [if_neg c6, if_neg (by omega)]
        · refine a_ic fM_word_25 ?_
          refine a_ic_le fM_word_26 (fun _ => ?_) (fun c_ => absurd (nI_le (b := 5) (by omega) (by decide)) c_)
          rw [if_pos (by omega)] at hv
          have vb : v < 27 ^ 6 := by rw [hv]; exact Nat.lt_of_lt_of_le (wcd_lt _ h3) (Nat.pow_le_pow_right (by decide) (by omega))
          have p6 : 27 ^ 6 = 387420489 := by decide
          refine a_ic fM_word_33 ?_
          refine a_il1 fM_word_35 ?_
          refine a_imul fM_word_36 ?_
          refine a_al0 fM_word_37 ?_
          refine a_al0 fM_word_38 ?_
          refine a_gf fM_word_39 l_M_85 up_s rfl ?_
          refine a_V1V fM_word_42 k_M_88 m_M_at ⟨by decide, by decide⟩ up_s rfl ⟨rfl, rfl⟩ (Nat.le_of_ble_eq_true rfl) (c_Mat (k := x) up_s (up_n (by decide) m5) K (by omega)) ?_
          refine a_iadd fM_word_45 ?_
          refine a_ic fM_word_46 ?_
          refine a_isub fM_word_48 ?_
          rw [show (27 : Int32) * nI v + atI tn bt x - 96 = nI (27 * v + (bt x - 96)) by
            unfold atI
            rw [if_pos xt, show (27 : Int32) * nI v = nI (27 * v) from pk_mul 27 v, nI_add, show nI (27 * v + bt x) - 96 = nI (27 * v + bt x - 96) from pk_sub (b := 96) (by omega), show 27 * v + bt x - 96 = 27 * v + (bt x - 96) by omega]]
          refine a_is1 fM_word_49 (by decide) rfl ?_
          refine a_al0 fM_word_50 ?_
          refine a_dup fM_word_51 rfl ?_
          refine a_gf fM_word_52 l_M_85 up_s rfl ?_
          refine a_ic fM_word_55 ?_
          refine a_iadd fM_word_56 ?_
          refine a_pfi7 fM_word_57 p_M_85 up_s ?_
          refine a_goto fM_word_60 ?_
          rw [bx_uu, nI_1]
          refine ih (x + 1) _ (by omega) (by omega) (by omega) h32 ?_ he2
          rw [if_pos (by omega), show x + 1 - p = (x - p) + 1 by omega]
          simp only [wcd]
          rw [← hv, show p + (x - p) = x by omega]
      · refine a_al0 fM_word_2 ?_
        refine a_al0 fM_word_3 ?_
        refine a_gf fM_word_4 l_M_85 up_s rfl ?_
        refine a_V1V fM_word_7 k_M_88 m_M_at ⟨by decide, by decide⟩ up_s rfl ⟨rfl, rfl⟩ (Nat.le_of_ble_eq_true rfl) (c_Mat (k := x) up_s (up_n (by decide) m5) K (by omega)) ?_
        refine a_S1V fM_word_10 k_M_91 m_M_isLetter ⟨by decide, by decide⟩ ⟨rfl, rfl⟩ (Nat.le_of_ble_eq_true rfl) (c_MisLetter) ?_
        refine a_if_eq fM_word_13 (fun _ => ?_) (fun c_ => absurd (by rw [bI_f (fun z => c ((at_lt K).mp z))]) c_)
        exact fin x v h1 hv (by rw [← he, skp_no (fun z => c z.2)]) (by omega)
  refine fE.of (L := [some (.ref 63), none]) (by decide +kernel) (Nat.le_of_ble_eq_true rfl) rfl ?_
  refine a_ic fM_word_0 ?_
  refine a_is1 fM_word_1 (by decide) rfl ?_
  have := loop 150 p 0 (by omega) (Nat.le_refl _) hp (fun i hi => by omega) (by rw [Nat.sub_self]; rfl) hS
  rw [up_id m0] at this
  exact this
theorem tkE_end {a : Nat} (q : ¬ tkP tn bt a < tn) : tkE tn bt a = tkP tn bt a ∧ tkS tn bt a = 0 := by
  have h0 : tkS0 tn bt a = 0 := by unfold tkS0 srt; rw [if_neg q]
  refine ⟨?_, ?_⟩
  · unfold tkE; rw [h0, if_neg (by decide), if_neg q]
  · unfold tkS; rw [h0, if_neg (fun z => absurd z.1 (by decide))]
theorem tkE_run {a s : Nat} (h0 : tkS0 tn bt a = s) (hs : s = 1 ∨ s = 2) : tkE tn bt a = skp tn bt s 150 (tkP tn bt a) := by
  unfold tkE
  rw [h0, if_pos hs]
theorem tkE_one {a : Nat} (h1 : ¬ tkS0 tn bt a = 1) (h2 : ¬ tkS0 tn bt a = 2) (q : tkP tn bt a < tn) : tkE tn bt a = tkP tn bt a + 1 ∧ tkS tn bt a = tkS0 tn bt a := by
  refine ⟨?_, ?_⟩
  · unfold tkE; rw [if_neg (fun z => z.elim h1 h2), if_pos q]
  · unfold tkS; rw [if_neg (fun z => h2 z.1)]
theorem c_Madvances {a : Nat} {pl tk fa : Int32} (m0 : h 63 = mO (nI tn, nI a, pl, tk, fa, up, lo) th mn) (m5 : h 68 = nA 150 bt) (K : okX tn bt) (ha : a ≤ tn) : fE M_M_advances E [.ref 63] n h (eN n (va_up h 63 (mO (nI tn, nI (tkE tn bt a), nI (tkP tn bt a), tok tn bt a, fa, up, lo) th mn))) := by
  have k0 := K.1
  have Pt := tkP_le (bt := bt) ha
  have ph2 : fA M_M_advances E (fZ M_M_advances E (eN n (va_up h 63 (mO (nI tn, nI (tkE tn bt a), nI (tkP tn bt a), tok tn bt a, fa, up, lo) th mn)))) n (va_up h 63 (mO (nI tn, nI (tkP tn bt a), pl, tk, fa, up, lo) th mn)) 0 0 26 [some (.ref 63), none, none] [] := by
    refine a_al0 fM_advances_26 ?_
    refine a_al0 fM_advances_27 ?_
    refine a_gf fM_advances_28 l_M_85 up_s rfl ?_
    refine a_pfi8 fM_advances_31 p_M_95 up_s ?_
    rw [bx_uu]
    refine a_al0 fM_advances_34 ?_
    refine a_al0 fM_advances_35 ?_
    refine a_gf fM_advances_36 l_M_85 up_s rfl ?_
    refine a_V1V fM_advances_39 k_M_88 m_M_at ⟨by decide, by decide⟩ up_s rfl ⟨rfl, rfl⟩ (Nat.le_of_ble_eq_true rfl) (c_Mat (k := tkP tn bt a) (nx := nI (tkP tn bt a)) (pl := nI (tkP tn bt a)) (tk := tk) (fa := fa) (up := up) (lo := lo) (th := th) (mn := mn) up_s (up_n (by decide) m5) K (by omega)) ?_
    refine a_is1 fM_advances_42 (by decide) rfl ?_
    by_cases q : tkP tn bt a < tn
    · refine a_il1 fM_advances_43 ?_
      refine a_if_ge fM_advances_44 (fun _ => ?_) (fun c_ => absurd ((at_neg K).mpr q) c_)
      by_cases c2 : srt tn bt (tkP tn bt a) = 2
      · -- a number
        have eE := tkE_run (tn := tn) (bt := bt) (a := a) (s := 2) c2 (Or.inr rfl)
        have Et := tkE_le (bt := bt) ha
        have Pe : tkP tn bt a ≤ tkE tn bt a := tkE_ge
        refine a_il1 fM_advances_56 ?_
        refine a_ic fM_advances_57 ?_
        refine a_ic fM_advances_59 ?_
        refine a_S3V fM_advances_61 k_M_70 m_M_in ⟨by decide, by decide⟩ ⟨rfl, rfl⟩ (Nat.le_of_ble_eq_true rfl) (c_Min) ?_
        refine a_if_eq fM_advances_64 (fun c_ => absurd c_ (fun z => by rw [bI_t ((at_dg K).mpr c2)] at z; exact absurd z (by decide))) (fun _ => ?_)
        have fin : ∀ (x v : Nat), tkE tn bt a = x → v ≤ 999 → (x - tkP tn bt a ≤ 2 → v = dgs bt (tkP tn bt a) (x - tkP tn bt a)) → fA M_M_advances E (fZ M_M_advances E (eN n (va_up h 63 (mO (nI tn, nI (tkE tn bt a), nI (tkP tn bt a), tok tn bt a, fa, up, lo) th mn)))) n (va_up h 63 (mO (nI tn, nI x, nI (tkP tn bt a), tk, fa, up, lo) th mn)) 0 0 127 [some (.ref 63), some (.int (atI tn bt (tkP tn bt a))), some (.int (nI v))] [] := by
          intro x v ex hv hd
          refine a_al0 fM_advances_127 ?_
          refine a_al0 fM_advances_128 ?_
          refine a_gf fM_advances_129 l_M_85 up_s rfl ?_
          refine a_al0 fM_advances_132 ?_
          refine a_gf fM_advances_133 l_M_95 up_s rfl ?_
          refine a_isub fM_advances_136 ?_
          rw [pk_sub (by omega)]
          by_cases c3 : 2 < x - tkP tn bt a
          · have eS : tkS tn bt a = 5 := by unfold tkS; rw [if_pos ⟨c2, by rw [ex]; exact c3⟩]
            have eT : tok tn bt a = -5 := by unfold tok; rw [eS]; rfl
            refine a_ic fM_advances_137 ?_
            refine a_ic_le fM_advances_138 (fun c_ => absurd c_ (fun z => absurd ((nI_leI (b := 2) (by omega) (by decide)).mp z) (by omega))) (fun _ => ?_)
            refine a_ic fM_advances_141 ?_
            refine a_goto fM_advances_143 ?_
            refine a_pfi9 fM_advances_147 p_M_98 up_s ?_
            refine a_goto fM_advances_150 ?_
            rw [bx_uu]
            exact a_rv fM_advances_198 rfl (⟨rfl, rfl, by rw [eT, ex]⟩)
          · have eS : tkS tn bt a = 2 := by unfold tkS; rw [if_neg (fun z => c3 (by rw [ex] at z; exact z.2))]; exact c2
            have eT : tok tn bt a = nI v := by unfold tok; rw [eS]; show nI (tkV tn bt a 0) = nI v; unfold tkV; rw [if_pos eS, ex, ← hd (by omega)]
            refine a_ic fM_advances_137 ?_
            refine a_ic_le fM_advances_138 (fun _ => ?_) (fun c_ => absurd (nI_le (b := 2) (by omega) (by decide)) c_)
            refine a_il2 fM_advances_146 ?_
            refine a_pfi9 fM_advances_147 p_M_98 up_s ?_
            refine a_goto fM_advances_150 ?_
            rw [bx_uu]
            exact a_rv fM_advances_198 rfl (⟨rfl, rfl, by rw [eT, ex]⟩)
        have loop : ∀ (f x v : Nat), tn ≤ x + f → tkP tn bt a ≤ x → x ≤ tn → v ≤ 999 → (x - tkP tn bt a ≤ 2 → v = dgs bt (tkP tn bt a) (x - tkP tn bt a)) → (∀ i, i < x - tkP tn bt a → bt (tkP tn bt a + i) ≤ 57) → skp tn bt 2 f x = tkE tn bt a → fA M_M_advances E (fZ M_M_advances E (eN n (va_up h 63 (mO (nI tn, nI (tkE tn bt a), nI (tkP tn bt a), tok tn bt a, fa, up, lo) th mn)))) n (va_up h 63 (mO (nI tn, nI x, nI (tkP tn bt a), tk, fa, up, lo) th mn)) 0 0 69 [some (.ref 63), some (.int (atI tn bt (tkP tn bt a))), some (.int (nI v))] [] := by
          intro f
          induction f with
          | zero =>
            intro x v hf h1 h2 hv hd h57 he
            refine a_al0 fM_advances_69 ?_
            refine a_al0 fM_advances_70 ?_
            refine a_gf fM_advances_71 l_M_85 up_s rfl ?_
            refine a_V1V fM_advances_74 k_M_88 m_M_at ⟨by decide, by decide⟩ up_s rfl ⟨rfl, rfl⟩ (Nat.le_of_ble_eq_true rfl) (c_Mat (k := x) up_s (up_n (by decide) m5) K (by omega)) ?_
            refine a_ic fM_advances_77 ?_
            refine a_ic fM_advances_79 ?_
            refine a_S3V fM_advances_81 k_M_70 m_M_in ⟨by decide, by decide⟩ ⟨rfl, rfl⟩ (Nat.le_of_ble_eq_true rfl) (c_Min) ?_
            refine a_if_eq fM_advances_84 (fun _ => ?_) (fun c_ => absurd (by rw [bI_f (fun z => by have := srt_in ((at_dg K).mp z) (by decide); omega)]) c_)
            exact fin x v he.symm hv hd
          | succ f ih =>
            intro x v hf h1 h2 hv hd h57 he
            by_cases c : srt tn bt x = 2
            · have xt := srt_in c (by decide)
              have xb := srt_2 c
              have he2 : skp tn bt 2 f (x + 1) = tkE tn bt a := by rw [← he, skp_go ⟨xt, c⟩]
              have h572 : ∀ i, i < x + 1 - tkP tn bt a → bt (tkP tn bt a + i) ≤ 57 := fun i hi => by
                rcases Nat.lt_or_ge i (x - tkP tn bt a) with q | q
                · exact h57 i q
                · rw [show tkP tn bt a + i = x by omega]; exact xb.2
              refine a_al0 fM_advances_69 ?_
              refine a_al0 fM_advances_70 ?_
              refine a_gf fM_advances_71 l_M_85 up_s rfl ?_
              refine a_V1V fM_advances_74 k_M_88 m_M_at ⟨by decide, by decide⟩ up_s rfl ⟨rfl, rfl⟩ (Nat.le_of_ble_eq_true rfl) (c_Mat (k := x) up_s (up_n (by decide) m5) K (by omega)) ?_
              refine a_ic fM_advances_77 ?_
              refine a_ic fM_advances_79 ?_
              refine a_S3V fM_advances_81 k_M_70 m_M_in ⟨by decide, by decide⟩ ⟨rfl, rfl⟩ (Nat.le_of_ble_eq_true rfl) (c_Min) ?_
              refine a_if_eq fM_advances_84 (fun c_ => absurd c_ (fun z => by rw [bI_t ((at_dg K).mpr c)] at z; exact absurd z (by decide))) (fun _ => ?_)
              by_cases c9 : 99 < v
              · refine a_il2 fM_advances_87 ?_
                refine a_ic fM_advances_88 ?_
                refine a_ic_le fM_advances_90 (fun c_ => absurd c_ (fun z => absurd ((nI_leI (b := 99) (by omega) (by decide)).mp z) (by omega))) (fun _ => ?_)
                refine a_il2 fM_advances_93 ?_
                refine a_goto fM_advances_94 ?_
                refine a_is2 fM_advances_113 (by decide) rfl ?_
                refine a_al0 fM_advances_114 ?_
                refine a_dup fM_advances_115 rfl ?_
                refine a_gf fM_advances_116 l_M_85 up_s rfl ?_
                refine a_ic fM_advances_119 ?_
                refine a_iadd fM_advances_120 ?_
                refine a_pfi7 fM_advances_121 p_M_85 up_s ?_
                refine a_goto fM_advances_124 ?_
                rw [bx_uu, nI_1]
                refine ih (x + 1) v (by omega) (by omega) (by omega) hv (fun z => ?_) h572 he2
                exfalso
                have d2 := hd (by omega)
                have d3 := dgs_lt (bt := bt) (p := tkP tn bt a) (x - tkP tn bt a) h57
                have d4 : 10 ^ (x - tkP tn bt a) ≤ 10 ^ 1 := Nat.pow_le_pow_right (by decide) (by omega)
                omega
              · refine a_il2 fM_advances_87 ?_
                refine a_ic fM_advances_88 ?_
                refine a_ic_le fM_advances_90 (fun _ => ?_) (fun c_ => absurd (nI_le (b := 99) (by omega) (by decide)) c_)
                refine a_ic fM_advances_97 ?_
                refine a_il2 fM_advances_99 ?_
                refine a_imul fM_advances_100 ?_
                refine a_al0 fM_advances_101 ?_
                refine a_al0 fM_advances_102 ?_
                refine a_gf fM_advances_103 l_M_85 up_s rfl ?_
                refine a_V1V fM_advances_106 k_M_88 m_M_at ⟨by decide, by decide⟩ up_s rfl ⟨rfl, rfl⟩ (Nat.le_of_ble_eq_true rfl) (c_Mat (k := x) up_s (up_n (by decide) m5) K (by omega)) ?_
                refine a_iadd fM_advances_109 ?_
                refine a_ic fM_advances_110 ?_
                refine a_isub fM_advances_112 ?_
                rw [show (10 : Int32) * nI v + atI tn bt x - 48 = nI (10 * v + (bt x - 48)) by
                  unfold atI
                  rw [if_pos xt, show (10 : Int32) * nI v = nI (10 * v) from pk_mul 10 v, nI_add, show nI (10 * v + bt x) - 48 = nI (10 * v + bt x - 48) from pk_sub (b := 48) (by omega), show 10 * v + bt x - 48 = 10 * v + (bt x - 48) by omega]]
                refine a_is2 fM_advances_113 (by decide) rfl ?_
                refine a_al0 fM_advances_114 ?_
                refine a_dup fM_advances_115 rfl ?_
                refine a_gf fM_advances_116 l_M_85 up_s rfl ?_
                refine a_ic fM_advances_119 ?_
                refine a_iadd fM_advances_120 ?_
                refine a_pfi7 fM_advances_121 p_M_85 up_s ?_
                refine a_goto fM_advances_124 ?_
                rw [bx_uu, nI_1]
                refine ih (x + 1) _ (by omega) (by omega) (by omega) (by omega) (fun z => ?_) h572 he2
                rw [show x + 1 - tkP tn bt a = (x - tkP tn bt a) + 1 by omega]
                simp only [dgs]
                rw [← hd (by omega), show tkP tn bt a + (x - tkP tn bt a) = x by omega]
            · refine a_al0 fM_advances_69 ?_
              refine a_al0 fM_advances_70 ?_
              refine a_gf fM_advances_71 l_M_85 up_s rfl ?_
              refine a_V1V fM_advances_74 k_M_88 m_M_at ⟨by decide, by decide⟩ up_s rfl ⟨rfl, rfl⟩ (Nat.le_of_ble_eq_true rfl) (c_Mat (k := x) up_s (up_n (by decide) m5) K (by omega)) ?_
              refine a_ic fM_advances_77 ?_
              refine a_ic fM_advances_79 ?_
              refine a_S3V fM_advances_81 k_M_70 m_M_in ⟨by decide, by decide⟩ ⟨rfl, rfl⟩ (Nat.le_of_ble_eq_true rfl) (c_Min) ?_
              refine a_if_eq fM_advances_84 (fun _ => ?_) (fun c_ => absurd (by rw [bI_f (fun z => c ((at_dg K).mp z))]) c_)
              exact fin x v (by rw [← he, skp_no (fun z => c z.2)]) hv hd
        refine a_ic fM_advances_67 ?_
        refine a_is2 fM_advances_68 (by decide) rfl ?_
        exact loop 150 (tkP tn bt a) 0 (by omega) (Nat.le_refl _) Pt (by omega) (fun _ => by rw [Nat.sub_self]; rfl) (fun i hi => by omega) eE.symm
      · refine a_il1 fM_advances_56 ?_
        refine a_ic fM_advances_57 ?_
        refine a_ic fM_advances_59 ?_
        refine a_S3V fM_advances_61 k_M_70 m_M_in ⟨by decide, by decide⟩ ⟨rfl, rfl⟩ (Nat.le_of_ble_eq_true rfl) (c_Min) ?_
        refine a_if_eq fM_advances_64 (fun _ => ?_) (fun c_ => absurd (by rw [bI_f (fun z => c2 ((at_dg K).mp z))]) c_)
        by_cases c1 : srt tn bt (tkP tn bt a) = 1
        · have eE := tkE_run (tn := tn) (bt := bt) (a := a) (s := 1) c1 (Or.inl rfl)
          have eS : tkS tn bt a = 1 := by unfold tkS; rw [show tkS0 tn bt a = 1 from c1, if_neg (fun z => absurd z.1 (by decide))]
          have eT : tok tn bt a = if 6 < skp tn bt 1 150 (tkP tn bt a) - tkP tn bt a then -5 else nI (100 + wcd bt (tkP tn bt a) (skp tn bt 1 150 (tkP tn bt a) - tkP tn bt a)) := by unfold tok; rw [if_neg (by rw [eS]; decide), if_pos eS]; unfold wtk; rw [eE]
          refine a_il1 fM_advances_153 ?_
          refine a_S1V fM_advances_154 k_M_91 m_M_isLetter ⟨by decide, by decide⟩ ⟨rfl, rfl⟩ (Nat.le_of_ble_eq_true rfl) (c_MisLetter) ?_
          refine a_if_eq fM_advances_157 (fun c_ => absurd c_ (fun z => by rw [bI_t ((at_lt K).mpr c1)] at z; exact absurd z (by decide))) (fun _ => ?_)
          refine a_al0 fM_advances_160 ?_
          refine a_al0 fM_advances_161 ?_
          refine a_V0V fM_advances_162 k_M_101 m_M_word ⟨by decide, by decide⟩ up_s rfl ⟨rfl, rfl⟩ (Nat.le_of_ble_eq_true rfl) (c_Mword (p := tkP tn bt a) (tk := tk) (fa := fa) (up := up) (lo := lo) (th := th) (mn := mn) up_s (up_n (by decide) m5) K Pt) ?_
          rw [bx_uu]
          refine a_pfi9 fM_advances_165 p_M_98 up_s ?_
          refine a_goto fM_advances_168 ?_
          rw [bx_uu]
          exact a_rv fM_advances_198 rfl (⟨rfl, rfl, by rw [eT, eE]⟩)
        · obtain ⟨eE, eS⟩ := tkE_one (tn := tn) (bt := bt) (a := a) c1 c2 q
          refine a_il1 fM_advances_153 ?_
          refine a_S1V fM_advances_154 k_M_91 m_M_isLetter ⟨by decide, by decide⟩ ⟨rfl, rfl⟩ (Nat.le_of_ble_eq_true rfl) (c_MisLetter) ?_
          refine a_if_eq fM_advances_157 (fun _ => ?_) (fun c_ => absurd (by rw [bI_f (fun z => c1 ((at_lt K).mp z))]) c_)
          refine a_al0 fM_advances_171 ?_
          refine a_dup fM_advances_172 rfl ?_
          refine a_gf fM_advances_173 l_M_85 up_s rfl ?_
          refine a_ic fM_advances_176 ?_
          refine a_iadd fM_advances_177 ?_
          refine a_pfi7 fM_advances_178 p_M_85 up_s ?_
          rw [bx_uu, nI_1]
          have s0 : ¬ tkS0 tn bt a = 0 := by
            unfold tkS0 srt
            rw [if_pos q]
            grind
          by_cases c3 : srt tn bt (tkP tn bt a) = 3
          · have eT : tok tn bt a = -3 := by unfold tok; rw [eS, show tkS0 tn bt a = 3 from c3]; rfl
            refine a_al0 fM_advances_181 ?_
            refine a_il1 fM_advances_182 ?_
            refine a_ic fM_advances_183 ?_
            refine a_ic_ne fM_advances_185 (fun c_ => absurd ((at_st K q).mpr c3) c_) (fun _ => ?_)
            refine a_ic fM_advances_188 ?_
            refine a_goto fM_advances_190 ?_
            refine a_pfi9 fM_advances_195 p_M_98 up_s ?_
            rw [bx_uu]
            exact a_rv fM_advances_198 rfl (⟨rfl, rfl, by rw [eT, eE]⟩)
          · have eT : tok tn bt a = -5 := by unfold tok; rw [eS, if_neg s0, if_neg (show ¬ tkS0 tn bt a = 1 from c1), if_neg (show ¬ tkS0 tn bt a = 2 from c2), if_neg (show ¬ tkS0 tn bt a = 3 from c3)]
            refine a_al0 fM_advances_181 ?_
            refine a_il1 fM_advances_182 ?_
            refine a_ic fM_advances_183 ?_
            refine a_ic_ne fM_advances_185 (fun _ => ?_) (fun c_ => absurd c_ (fun z => c3 ((at_st K q).mp z)))
            refine a_ic fM_advances_193 ?_
            refine a_pfi9 fM_advances_195 p_M_98 up_s ?_
            rw [bx_uu]
            exact a_rv fM_advances_198 rfl (⟨rfl, rfl, by rw [eT, eE]⟩)
    · obtain ⟨eE, eS⟩ := tkE_end (tn := tn) (bt := bt) (a := a) q
      have eT : tok tn bt a = -4 := by unfold tok; rw [if_pos eS]
      refine a_il1 fM_advances_43 ?_
      refine a_if_ge fM_advances_44 (fun c_ => absurd c_ (fun z => q ((at_neg K).mp z))) (fun _ => ?_)
      refine a_al0 fM_advances_47 ?_
      refine a_ic fM_advances_48 ?_
      refine a_pfi9 fM_advances_50 p_M_98 up_s ?_
      refine a_goto fM_advances_53 ?_
      rw [bx_uu]
      exact a_rv fM_advances_198 rfl (⟨rfl, rfl, by rw [eT, eE]⟩)
  have loop : ∀ (f x : Nat), tn ≤ x + f → x ≤ tn → skp tn bt 4 f x = tkP tn bt a → fA M_M_advances E (fZ M_M_advances E (eN n (va_up h 63 (mO (nI tn, nI (tkE tn bt a), nI (tkP tn bt a), tok tn bt a, fa, up, lo) th mn)))) n (va_up h 63 (mO (nI tn, nI x, pl, tk, fa, up, lo) th mn)) 0 0 0 [some (.ref 63), none, none] [] := by
    intro f
    induction f with
    | zero =>
      intro x hf h2 he
      have he2 : x = tkP tn bt a := he
      subst he2
      refine a_al0 fM_advances_0 ?_
      refine a_al0 fM_advances_1 ?_
      refine a_gf fM_advances_2 l_M_85 up_s rfl ?_
      refine a_V1V fM_advances_5 k_M_88 m_M_at ⟨by decide, by decide⟩ up_s rfl ⟨rfl, rfl⟩ (Nat.le_of_ble_eq_true rfl) (c_Mat (k := tkP tn bt a) up_s (up_n (by decide) m5) K (by omega)) ?_
      refine a_ic fM_advances_8 ?_
      refine a_ic_ne fM_advances_10 (fun _ => ?_) (fun c_ => absurd c_ (fun z => by have := srt_in ((at_sp K).mp z) (by decide); omega))
      exact ph2
    | succ f ih =>
      intro x hf h2 he
      by_cases c : srt tn bt x = 4
      · have xt := srt_in c (by decide)
        refine a_al0 fM_advances_0 ?_
        refine a_al0 fM_advances_1 ?_
        refine a_gf fM_advances_2 l_M_85 up_s rfl ?_
        refine a_V1V fM_advances_5 k_M_88 m_M_at ⟨by decide, by decide⟩ up_s rfl ⟨rfl, rfl⟩ (Nat.le_of_ble_eq_true rfl) (c_Mat (k := x) up_s (up_n (by decide) m5) K (by omega)) ?_
        refine a_ic fM_advances_8 ?_
        refine a_ic_ne fM_advances_10 (fun c_ => absurd ((at_sp K).mpr c) c_) (fun _ => ?_)
        refine a_al0 fM_advances_13 ?_
        refine a_dup fM_advances_14 rfl ?_
        refine a_gf fM_advances_15 l_M_85 up_s rfl ?_
        refine a_ic fM_advances_18 ?_
        refine a_iadd fM_advances_19 ?_
        refine a_pfi7 fM_advances_20 p_M_85 up_s ?_
        refine a_goto fM_advances_23 ?_
        rw [bx_uu, nI_1]
        exact ih (x + 1) (by omega) (by omega) (by rw [← he, skp_go ⟨xt, c⟩])
      · refine a_al0 fM_advances_0 ?_
        refine a_al0 fM_advances_1 ?_
        refine a_gf fM_advances_2 l_M_85 up_s rfl ?_
        refine a_V1V fM_advances_5 k_M_88 m_M_at ⟨by decide, by decide⟩ up_s rfl ⟨rfl, rfl⟩ (Nat.le_of_ble_eq_true rfl) (c_Mat (k := x) up_s (up_n (by decide) m5) K (by omega)) ?_
        refine a_ic fM_advances_8 ?_
        refine a_ic_ne fM_advances_10 (fun _ => ?_) (fun c_ => absurd c_ (fun z => c ((at_sp K).mp z)))
        rw [show x = tkP tn bt a by rw [← he, skp_no (fun z => c z.2)]]
        exact ph2
  refine fE.of (L := [some (.ref 63), none, none]) (by decide +kernel) (Nat.le_of_ble_eq_true rfl) rfl ?_
  have := loop 150 a (by omega) ha rfl
  rw [up_id m0] at this
  exact this
end MA
