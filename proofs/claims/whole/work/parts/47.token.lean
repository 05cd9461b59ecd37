section TY
variable {E : eT} {n : Nat} {h : hT} {tn : Nat} {bt : Nat → Nat}
theorem nX_sub {a b : Nat} (h : b ≤ a) : nI a - nI b = nI (a - b) := by
  have e : nI (a - b) + nI b = nI a := by rw [nI_add, Nat.sub_add_cancel h]
  rw [← e]
  exact Int32.add_sub_cancel _ _
theorem nX_mul (a b : Nat) : nI a * nI b = nI (a * b) := (Int32.ofNat_mul a b).symm
theorem dgs_lt {p : Nat} : ∀ k, (∀ i, i < k → bt (p + i) ≤ 57) → dgs bt p k < 10 ^ k
  | 0, _ => by simp [dgs]
  | k + 1, H => by
    have a := dgs_lt k (fun i hi => H i (by omega))
    have b := H k (by omega)
    unfold dgs
    rw [Nat.pow_succ]
    omega
theorem c_weigh5 {e q : Nat} {v : Int32} (h1 : h 57 = tO tn (nI e) (nI q) 2 v) (he : e ≤ 150) (hq : q ≤ e) (hc : 2 < e - q) : fE M_T_weighNumber E [.ref 57] n h (eN n (va_up h 57 (tO tn (nI e) (nI q) 5 v))) := by
  refine fE.of (L := [some (.ref 57), none]) (by decide +kernel) (Nat.le_of_ble_eq_true rfl) rfl ?_
  refine a_al0 fT_weighNumber_0 ?_
  refine a_gf fT_weighNumber_1 l_T_26 h1 rfl ?_
  refine a_al0 fT_weighNumber_4 ?_
  refine a_gf fT_weighNumber_5 l_T_29 h1 rfl ?_
  refine a_isub fT_weighNumber_8 ?_
  rw [nX_sub hq]
  refine a_ic fT_weighNumber_9 ?_
  refine a_ic_le fT_weighNumber_10 (fun c_ => absurd c_ (nI_ge (a := 2) hc (by omega))) (fun _ => ?_)
  refine a_al0 fT_weighNumber_13 ?_
  refine a_ic fT_weighNumber_14 ?_
  refine a_pfi5 fT_weighNumber_15 p_T_32 h1 ?_
  exact a_rv fT_weighNumber_18 rfl (⟨rfl, rfl, rfl⟩)
theorem c_weigh2 {e q : Nat} {v : Int32} (h1 : h 57 = tO tn (nI e) (nI q) 2 v) (h2 : h 58 = nA 150 bt) (he : e ≤ 150) (hq : q ≤ e) (hc : e - q ≤ 2) (hd : ∀ i, q ≤ i → i < e → 48 ≤ bt i ∧ bt i ≤ 57) : fE M_T_weighNumber E [.ref 57] n h (eN n (va_up h 57 (tO tn (nI e) (nI q) 2 (nI (dgs bt q (e - q)))))) := by
  have loop : ∀ (j i : Nat) (g : hT), i + j = e - q → g = va_up h 57 (tO tn (nI e) (nI q) 2 (nI (dgs bt q i))) → fA M_T_weighNumber E (fZ M_T_weighNumber E (eN n (va_up h 57 (tO tn (nI e) (nI q) 2 (nI (dgs bt q (e - q))))))) n g 0 0 29 [some (.ref 57), some (.int (nI (q + i)))] [] := by
    intro j
    induction j with
    | zero =>
      intro i g hi hg
      subst hg
      refine a_il1 fT_weighNumber_29 ?_
      refine a_al0 fT_weighNumber_30 ?_
      refine a_gf fT_weighNumber_31 l_T_26 up_s rfl ?_
      refine a_ic_ge fT_weighNumber_34 (fun _ => ?_) (fun c_ => absurd (nI_le (by omega) (by omega)) c_)
      rw [show e - q = i by omega]
      exact a_rv fT_weighNumber_71 rfl (⟨rfl, rfl, rfl⟩)
    | succ j ih =>
      intro i g hi hg
      subst hg
      refine a_il1 fT_weighNumber_29 ?_
      refine a_al0 fT_weighNumber_30 ?_
      refine a_gf fT_weighNumber_31 l_T_26 up_s rfl ?_
      refine a_ic_ge fT_weighNumber_34 (fun c_ => absurd c_ (nI_ge (by omega) (by omega))) (fun _ => ?_)
      refine a_il1 fT_weighNumber_37 ?_
      refine a_ic fT_weighNumber_38 ?_
      refine a_ic_ge fT_weighNumber_41 (fun c_ => absurd c_ (nI_ge (b := 150) (by omega) (by decide))) (fun _ => ?_)
      have d := hd (q + i) (by omega) (by omega)
      refine a_al0 fT_weighNumber_44 ?_
      refine a_ic fT_weighNumber_45 ?_
      refine a_al0 fT_weighNumber_47 ?_
      refine a_gf fT_weighNumber_48 l_T_35 up_s rfl ?_
      refine a_imul fT_weighNumber_51 ?_
      refine a_al0 fT_weighNumber_52 ?_
      refine a_gf fT_weighNumber_53 l_T_9 up_s rfl ?_
      refine a_il1 fT_weighNumber_56 ?_
      refine a_ia fT_weighNumber_57 (up_n (by decide) h2) rfl (by omega) (by decide) ?_
      refine a_iadd fT_weighNumber_58 ?_
      refine a_ic fT_weighNumber_59 ?_
      refine a_isub fT_weighNumber_61 ?_
      rw [show (10 : Int32) = nI 10 from rfl, nX_mul, show nF bt (q + i) = nI (bt (q + i)) from rfl, nI_add, show (48 : Int32) = nI 48 from rfl, nX_sub (by omega)]
      refine a_pfi6 fT_weighNumber_62 p_T_35 up_s ?_
      refine a_inc1 fT_weighNumber_65 (by decide) rfl ?_
      refine a_goto fT_weighNumber_68 ?_
      rw [nI_1, bx_uu]
      refine ih (i + 1) _ (by omega) ?_
      rw [show 10 * dgs bt q i + bt (q + i) - 48 = dgs bt q (i + 1) by rw [show dgs bt q (i + 1) = 10 * dgs bt q i + (bt (q + i) - 48) from rfl]; omega]
  refine fE.of (L := [some (.ref 57), none]) (by decide +kernel) (Nat.le_of_ble_eq_true rfl) rfl ?_
  refine a_al0 fT_weighNumber_0 ?_
  refine a_gf fT_weighNumber_1 l_T_26 h1 rfl ?_
  refine a_al0 fT_weighNumber_4 ?_
  refine a_gf fT_weighNumber_5 l_T_29 h1 rfl ?_
  refine a_isub fT_weighNumber_8 ?_
  rw [nX_sub hq]
  refine a_ic fT_weighNumber_9 ?_
  refine a_ic_le fT_weighNumber_10 (fun _ => ?_) (fun c_ => absurd (nI_le (b := 2) hc (by decide)) c_)
  refine a_al0 fT_weighNumber_19 ?_
  refine a_ic fT_weighNumber_20 ?_
  refine a_pfi6 fT_weighNumber_21 p_T_35 h1 ?_
  refine a_al0 fT_weighNumber_24 ?_
  refine a_gf fT_weighNumber_25 l_T_29 up_s rfl ?_
  refine a_is1 fT_weighNumber_28 (by decide) rfl ?_
  exact loop (e - q) 0 _ (by omega) rfl
theorem srt_le {i : Nat} : srt tn bt i ≤ 5 := by
  unfold srt
  repeat' split
  all_goals omega
theorem srt_2 {i : Nat} (z : srt tn bt i = 2) : 48 ≤ bt i ∧ bt i ≤ 57 := by
  unfold srt at z
  repeat' split at z
  all_goals first | assumption | omega
theorem c_nextToken {a v : Nat} {p s : Int32} (h1 : h 57 = tO tn (nI a) p s (nI v)) (h2 : h 58 = nA 150 bt) (K : okX tn bt) (ha : a ≤ tn) : fE M_T_nextToken E [.ref 57] n h (eN n (va_up h 57 (tO tn (nI (tkE tn bt a)) (nI (tkP tn bt a)) (nI (tkS tn bt a)) (nI (tkV tn bt a v))))) := by
  have k0 := K.1
  generalize hQ : (eN n (va_up h 57 (tO tn (nI (tkE tn bt a)) (nI (tkP tn bt a)) (nI (tkS tn bt a)) (nI (tkV tn bt a v))))) = Q
  have fin : tkS0 tn bt a = 2 ∨ tkS0 tn bt a ≠ 2 → fA M_T_nextToken E (fZ M_T_nextToken E Q) n (va_up h 57 (tO tn (nI (tkE tn bt a)) (nI (tkP tn bt a)) (nI (tkS0 tn bt a)) (nI v))) 0 0 132 [some (.ref 57)] [] := by
    rintro (c | c)
    · rw [c]
      refine a_al0 fT_nextToken_132 ?_
      refine a_gf fT_nextToken_133 l_T_32 up_s rfl ?_
      refine a_ic fT_nextToken_136 ?_
      refine a_ic_ne fT_nextToken_137 (fun c_ => absurd (rfl) c_) (fun _ => ?_)
      have hp : tkP tn bt a ≤ tn := skp_le 150 a ha
      have he0 : tkE tn bt a = skp tn bt 2 150 (tkP tn bt a) := by unfold tkE; rw [if_pos (Or.inr c), c]
      have he : tkE tn bt a ≤ tn := by rw [he0]; exact skp_le _ _ hp
      have hq : tkP tn bt a ≤ tkE tn bt a := by rw [he0]; exact skp_ge _ _
      by_cases c2 : 2 < tkE tn bt a - tkP tn bt a
      · have e1 : tkS tn bt a = 5 := by unfold tkS; rw [if_pos ⟨c, c2⟩]
        have e2 : tkV tn bt a v = v := by unfold tkV; rw [if_neg (by rw [e1]; decide)]
        rw [e1, e2] at hQ
        refine a_al0 fT_nextToken_140 ?_
        refine a_V0N fT_nextToken_141 k_T_125 m_T_weighNumber ⟨by decide, by decide⟩ up_s rfl ⟨rfl, rfl⟩ (Nat.le_of_ble_eq_true rfl) (c_weigh5 up_s (by omega) hq c2) ?_
        rw [bx_uu]
        subst hQ
        exact a_rv fT_nextToken_144 rfl (⟨rfl, rfl, rfl⟩)
      · have e1 : tkS tn bt a = 2 := by unfold tkS; rw [if_neg (fun z => c2 z.2), c]
        have e2 : tkV tn bt a v = dgs bt (tkP tn bt a) (tkE tn bt a - tkP tn bt a) := by unfold tkV; rw [if_pos e1]
        rw [e1, e2] at hQ
        refine a_al0 fT_nextToken_140 ?_
        refine a_V0N fT_nextToken_141 k_T_125 m_T_weighNumber ⟨by decide, by decide⟩ up_s rfl ⟨rfl, rfl⟩ (Nat.le_of_ble_eq_true rfl) (c_weigh2 (bt := bt) up_s (up_n (by decide) h2) (by omega) hq (by omega) (fun i i1 i2 => srt_2 (skp_in 150 _ i i1 (he0 ▸ i2)))) ?_
        rw [bx_uu]
        subst hQ
        exact a_rv fT_nextToken_144 rfl (⟨rfl, rfl, rfl⟩)
    · refine a_al0 fT_nextToken_132 ?_
      refine a_gf fT_nextToken_133 l_T_32 up_s rfl ?_
      refine a_ic fT_nextToken_136 ?_
      refine a_ic_ne fT_nextToken_137 (fun _ => ?_) (fun c_ => absurd c_ (fun z => c ((nI_eq (b := 2) (by have : tkS0 tn bt a ≤ 5 := srt_le; omega) (by decide)).mp z)))
      have e1 : tkS tn bt a = tkS0 tn bt a := by unfold tkS; rw [if_neg (fun z => c z.1)]
      have e2 : tkV tn bt a v = v := by unfold tkV; rw [if_neg (by rw [e1]; exact c)]
      rw [e1, e2] at hQ
      subst hQ
      exact a_rv fT_nextToken_144 rfl (⟨rfl, rfl, rfl⟩)
  have lp2 : ∀ (f i : Nat), tn ≤ i + f → i ≤ tn → skp tn bt (tkS0 tn bt a) f i = tkE tn bt a → fA M_T_nextToken E (fZ M_T_nextToken E Q) n (va_up h 57 (tO tn (nI i) (nI (tkP tn bt a)) (nI (tkS0 tn bt a)) (nI v))) 0 0 72 [some (.ref 57)] [] := by
    intro f
    induction f with
    | zero =>
      intro i hi hi2 hE
      refine a_al0 fT_nextToken_72 ?_
      refine a_gf fT_nextToken_73 l_T_26 up_s rfl ?_
      refine a_al0 fT_nextToken_76 ?_
      refine a_gf fT_nextToken_77 l_T_22 up_s rfl ?_
      refine a_ic_ge fT_nextToken_80 (fun _ => ?_) (fun c_ => absurd (nI_le (by omega) (by omega)) c_)
      rw [show i = tkE tn bt a from hE]
      exact fin (Decidable.em _)
    | succ f ih =>
      intro i hi hi2 hE
      unfold skp at hE
      by_cases c : i < tn
      · refine a_al0 fT_nextToken_72 ?_
        refine a_gf fT_nextToken_73 l_T_26 up_s rfl ?_
        refine a_al0 fT_nextToken_76 ?_
        refine a_gf fT_nextToken_77 l_T_22 up_s rfl ?_
        refine a_ic_ge fT_nextToken_80 (fun c_ => absurd c_ (nI_ge c (by omega))) (fun _ => ?_)
        by_cases c2 : srt tn bt i = tkS0 tn bt a
        · refine a_al0 fT_nextToken_83 ?_
          refine a_al0 fT_nextToken_84 ?_
          refine a_gf fT_nextToken_85 l_T_26 up_s rfl ?_
          refine a_V1V fT_nextToken_88 k_T_121 m_T_sortAt ⟨by decide, by decide⟩ up_s rfl ⟨rfl, rfl⟩ (Nat.le_of_ble_eq_true rfl) (c_sortAt up_s (up_n (by decide) h2) K (by omega)) ?_
          refine a_al0 fT_nextToken_91 ?_
          refine a_gf fT_nextToken_92 l_T_32 up_s rfl ?_
          refine a_ic_ne fT_nextToken_95 (fun c_ => absurd (by rw [c2]) c_) (fun _ => ?_)
          refine a_al0 fT_nextToken_98 ?_
          refine a_dup fT_nextToken_99 rfl ?_
          refine a_gf fT_nextToken_100 l_T_26 up_s rfl ?_
          refine a_ic fT_nextToken_103 ?_
          refine a_iadd fT_nextToken_104 ?_
          refine a_pfi3 fT_nextToken_105 p_T_26 up_s ?_
          refine a_goto fT_nextToken_108 ?_
          rw [nI_1, bx_uu]
          rw [if_pos ⟨c, c2⟩] at hE
          exact ih (i + 1) (by omega) (by omega) hE
        · refine a_al0 fT_nextToken_83 ?_
          refine a_al0 fT_nextToken_84 ?_
          refine a_gf fT_nextToken_85 l_T_26 up_s rfl ?_
          refine a_V1V fT_nextToken_88 k_T_121 m_T_sortAt ⟨by decide, by decide⟩ up_s rfl ⟨rfl, rfl⟩ (Nat.le_of_ble_eq_true rfl) (c_sortAt up_s (up_n (by decide) h2) K (by omega)) ?_
          refine a_al0 fT_nextToken_91 ?_
          refine a_gf fT_nextToken_92 l_T_32 up_s rfl ?_
          refine a_ic_ne fT_nextToken_95 (fun _ => ?_) (fun c_ => absurd c_ (fun z => c2 ((nI_eq (by have := srt_le (tn := tn) (bt := bt) (i := i); omega) (by have : tkS0 tn bt a ≤ 5 := srt_le; omega)).mp z)))
          rw [if_neg (fun z => c2 z.2)] at hE
          rw [hE]
          exact fin (Decidable.em _)
      · refine a_al0 fT_nextToken_72 ?_
        refine a_gf fT_nextToken_73 l_T_26 up_s rfl ?_
        refine a_al0 fT_nextToken_76 ?_
        refine a_gf fT_nextToken_77 l_T_22 up_s rfl ?_
        refine a_ic_ge fT_nextToken_80 (fun _ => ?_) (fun c_ => absurd (nI_le (by omega) (by omega)) c_)
        rw [if_neg (fun z => c z.1)] at hE
        rw [hE]
        exact fin (Decidable.em _)
  have mid : fA M_T_nextToken E (fZ M_T_nextToken E Q) n (va_up h 57 (tO tn (nI (tkP tn bt a)) p s (nI v))) 0 0 36 [some (.ref 57)] [] := by
    have hp : tkP tn bt a ≤ tn := skp_le 150 a ha
    have hz : tkS0 tn bt a ≤ 5 := srt_le
    refine a_al0 fT_nextToken_36 ?_
    refine a_al0 fT_nextToken_37 ?_
    refine a_gf fT_nextToken_38 l_T_26 up_s rfl ?_
    refine a_pfi4 fT_nextToken_41 p_T_29 up_s ?_
    rw [bx_uu]
    refine a_al0 fT_nextToken_44 ?_
    refine a_al0 fT_nextToken_45 ?_
    refine a_al0 fT_nextToken_46 ?_
    refine a_gf fT_nextToken_47 l_T_26 up_s rfl ?_
    refine a_V1V fT_nextToken_50 k_T_121 m_T_sortAt ⟨by decide, by decide⟩ up_s rfl ⟨rfl, rfl⟩ (Nat.le_of_ble_eq_true rfl) (c_sortAt up_s (up_n (by decide) h2) K (by omega)) ?_
    refine a_pfi5 fT_nextToken_53 p_T_32 up_s ?_
    rw [bx_uu, show srt tn bt (tkP tn bt a) = tkS0 tn bt a from rfl]
    by_cases c1 : tkS0 tn bt a = 1
    · refine a_al0 fT_nextToken_56 ?_
      refine a_gf fT_nextToken_57 l_T_32 up_s rfl ?_
      refine a_ic fT_nextToken_60 ?_
      refine a_ic_eq fT_nextToken_61 (fun _ => ?_) (fun c_ => absurd (by rw [c1]; rfl) c_)
      exact lp2 150 _ (by omega) hp (by unfold tkE; rw [if_pos (Or.inl c1)])
    · refine a_al0 fT_nextToken_56 ?_
      refine a_gf fT_nextToken_57 l_T_32 up_s rfl ?_
      refine a_ic fT_nextToken_60 ?_
      refine a_ic_eq fT_nextToken_61 (fun c_ => absurd c_ (fun z => c1 ((nI_eq (b := 1) (by omega) (by decide)).mp z))) (fun _ => ?_)
      by_cases c2 : tkS0 tn bt a = 2
      · refine a_al0 fT_nextToken_64 ?_
        refine a_gf fT_nextToken_65 l_T_32 up_s rfl ?_
        refine a_ic fT_nextToken_68 ?_
        refine a_ic_ne fT_nextToken_69 (fun c_ => absurd (by rw [c2]; rfl) c_) (fun _ => ?_)
        exact lp2 150 _ (by omega) hp (by unfold tkE; rw [if_pos (Or.inr c2)])
      · refine a_al0 fT_nextToken_64 ?_
        refine a_gf fT_nextToken_65 l_T_32 up_s rfl ?_
        refine a_ic fT_nextToken_68 ?_
        refine a_ic_ne fT_nextToken_69 (fun _ => ?_) (fun c_ => absurd c_ (fun z => c2 ((nI_eq (b := 2) (by omega) (by decide)).mp z)))
        by_cases c3 : tkP tn bt a < tn
        · refine a_al0 fT_nextToken_111 ?_
          refine a_gf fT_nextToken_112 l_T_26 up_s rfl ?_
          refine a_al0 fT_nextToken_115 ?_
          refine a_gf fT_nextToken_116 l_T_22 up_s rfl ?_
          refine a_ic_ge fT_nextToken_119 (fun c_ => absurd c_ (nI_ge c3 (by omega))) (fun _ => ?_)
          refine a_al0 fT_nextToken_122 ?_
          refine a_dup fT_nextToken_123 rfl ?_
          refine a_gf fT_nextToken_124 l_T_26 up_s rfl ?_
          refine a_ic fT_nextToken_127 ?_
          refine a_iadd fT_nextToken_128 ?_
          refine a_pfi3 fT_nextToken_129 p_T_26 up_s ?_
          rw [nI_1, bx_uu]
          have e0 : tkE tn bt a = tkP tn bt a + 1 := by unfold tkE; rw [if_neg (by omega), if_pos c3]
          rw [← e0]
          exact fin (Decidable.em _)
        · refine a_al0 fT_nextToken_111 ?_
          refine a_gf fT_nextToken_112 l_T_26 up_s rfl ?_
          refine a_al0 fT_nextToken_115 ?_
          refine a_gf fT_nextToken_116 l_T_22 up_s rfl ?_
          refine a_ic_ge fT_nextToken_119 (fun _ => ?_) (fun c_ => absurd (nI_le (by omega) (by omega)) c_)
          have e0 : tkE tn bt a = tkP tn bt a := by unfold tkE; rw [if_neg (by omega), if_neg c3]
          have f0 := fin (Decidable.em _)
          rw [e0] at f0
          exact f0
  have lp1 : ∀ (f i : Nat), tn ≤ i + f → i ≤ tn → skp tn bt 4 f i = tkP tn bt a → fA M_T_nextToken E (fZ M_T_nextToken E Q) n (va_up h 57 (tO tn (nI i) p s (nI v))) 0 0 0 [some (.ref 57)] [] := by
    intro f
    induction f with
    | zero =>
      intro i hi hi2 hE
      refine a_al0 fT_nextToken_0 ?_
      refine a_gf fT_nextToken_1 l_T_26 up_s rfl ?_
      refine a_al0 fT_nextToken_4 ?_
      refine a_gf fT_nextToken_5 l_T_22 up_s rfl ?_
      refine a_ic_ge fT_nextToken_8 (fun _ => ?_) (fun c_ => absurd (nI_le (by omega) (by omega)) c_)
      rw [show i = tkP tn bt a from hE]
      exact mid
    | succ f ih =>
      intro i hi hi2 hE
      unfold skp at hE
      by_cases c : i < tn
      · refine a_al0 fT_nextToken_0 ?_
        refine a_gf fT_nextToken_1 l_T_26 up_s rfl ?_
        refine a_al0 fT_nextToken_4 ?_
        refine a_gf fT_nextToken_5 l_T_22 up_s rfl ?_
        refine a_ic_ge fT_nextToken_8 (fun c_ => absurd c_ (nI_ge c (by omega))) (fun _ => ?_)
        by_cases c2 : srt tn bt i = 4
        · refine a_al0 fT_nextToken_11 ?_
          refine a_al0 fT_nextToken_12 ?_
          refine a_gf fT_nextToken_13 l_T_26 up_s rfl ?_
          refine a_V1V fT_nextToken_16 k_T_121 m_T_sortAt ⟨by decide, by decide⟩ up_s rfl ⟨rfl, rfl⟩ (Nat.le_of_ble_eq_true rfl) (c_sortAt up_s (up_n (by decide) h2) K (by omega)) ?_
          refine a_ic fT_nextToken_19 ?_
          refine a_ic_ne fT_nextToken_20 (fun c_ => absurd (by rw [c2]; rfl) c_) (fun _ => ?_)
          refine a_al0 fT_nextToken_23 ?_
          refine a_dup fT_nextToken_24 rfl ?_
          refine a_gf fT_nextToken_25 l_T_26 up_s rfl ?_
          refine a_ic fT_nextToken_28 ?_
          refine a_iadd fT_nextToken_29 ?_
          refine a_pfi3 fT_nextToken_30 p_T_26 up_s ?_
          refine a_goto fT_nextToken_33 ?_
          rw [nI_1, bx_uu]
          rw [if_pos ⟨c, c2⟩] at hE
          exact ih (i + 1) (by omega) (by omega) hE
        · refine a_al0 fT_nextToken_11 ?_
          refine a_al0 fT_nextToken_12 ?_
          refine a_gf fT_nextToken_13 l_T_26 up_s rfl ?_
          refine a_V1V fT_nextToken_16 k_T_121 m_T_sortAt ⟨by decide, by decide⟩ up_s rfl ⟨rfl, rfl⟩ (Nat.le_of_ble_eq_true rfl) (c_sortAt up_s (up_n (by decide) h2) K (by omega)) ?_
          refine a_ic fT_nextToken_19 ?_
          refine a_ic_ne fT_nextToken_20 (fun _ => ?_) (fun c_ => absurd c_ (fun z => c2 ((nI_eq (b := 4) (by have := srt_le (tn := tn) (bt := bt) (i := i); omega) (by decide)).mp z)))
          rw [if_neg (fun z => c2 z.2)] at hE
          rw [hE]
          exact mid
      · refine a_al0 fT_nextToken_0 ?_
        refine a_gf fT_nextToken_1 l_T_26 up_s rfl ?_
        refine a_al0 fT_nextToken_4 ?_
        refine a_gf fT_nextToken_5 l_T_22 up_s rfl ?_
        refine a_ic_ge fT_nextToken_8 (fun _ => ?_) (fun c_ => absurd (nI_le (by omega) (by omega)) c_)
        rw [if_neg (fun z => c z.1)] at hE
        rw [hE]
        exact mid
  refine fE.of (L := [some (.ref 57)]) (by decide +kernel) (Nat.le_of_ble_eq_true rfl) rfl ?_
  have l0 := lp1 150 a (by omega) ha rfl
  rw [up_id h1] at l0
  exact l0
end TY
