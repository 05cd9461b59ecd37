/-! remember, go back, mix -/
theorem nt_lo {N : Nat → Nat} {i : Nat} (h : i < 84) (hz : N 84 ≤ 8) : ntN N i = N i := by
  have e : (if N 84 = 8 then shN N else N) i = N i := by
    split
    · unfold shN; rw [if_neg (by omega), if_neg (by omega)]
    · rfl
  unfold ntN puN
  rw [if_neg (by omega), if_neg (by omega), if_neg (by omega), if_neg (by omega), if_neg (by omega)]
  exact e
theorem nt_84 {N : Nat → Nat} (hz : N 84 ≤ 8) : ntN N 84 = if N 84 = 8 then 8 else N 84 + 1 := by
  unfold ntN puN
  rw [if_neg (by omega), if_neg (by omega), if_neg (by omega), if_neg (by omega), if_pos rfl]
  by_cases c : N 84 = 8
  · simp only [if_pos c]; unfold shN; simp
  · simp only [if_neg c]
theorem ps_at {rw W : Nat → Nat} {z D p e i : Nat} : psR rw W z D p e i = if 13 * z ≤ i ∧ i < 13 * z + 10 then W (i - 13 * z) else if i = 13 * z + 10 then D else if i = 13 * z + 11 then p else if i = 13 * z + 12 then e else rw i := by
  unfold psR va_up va_cpy
  by_cases c1 : i = z * 13 + 12
  · rw [if_pos c1, if_neg (by omega), if_neg (by omega), if_neg (by omega), if_pos (by omega)]
  · rw [if_neg c1]
    by_cases c2 : i = z * 13 + 11
    · rw [if_pos c2, if_neg (by omega), if_neg (by omega), if_pos (by omega)]
    · rw [if_neg c2]
      by_cases c3 : i = z * 13 + 10
      · rw [if_pos c3, if_neg (by omega), if_pos (by omega)]
      · rw [if_neg c3]
        by_cases c4 : z * 13 ≤ i ∧ i < z * 13 + 10
        · rw [if_pos c4, if_pos (by omega)]; congr 1; omega
        · rw [if_neg c4, if_neg (by omega), if_neg (by omega), if_neg (by omega), if_neg (by omega)]
theorem pu_at {N : Nat → Nat} {i : Nat} : puN N (85 + i) = if 13 * N 84 ≤ i ∧ i < 13 * N 84 + 10 then N (20 + (i - 13 * N 84)) else if i = 13 * N 84 + 10 then N 30 else if i = 13 * N 84 + 11 then N 44 else if i = 13 * N 84 + 12 then N 45 else N (85 + i) := by
  unfold puN
  generalize N 84 = z
  simp only [show (85 + 13 * z ≤ 85 + i ∧ 85 + i < 95 + 13 * z) = (13 * z ≤ i ∧ i < 13 * z + 10) from propext (by omega), show (85 + i = 95 + 13 * z) = (i = 13 * z + 10) from propext (by omega), show (85 + i = 96 + 13 * z) = (i = 13 * z + 11) from propext (by omega), show (85 + i = 97 + 13 * z) = (i = 13 * z + 12) from propext (by omega), if_neg (show ¬ 85 + i = 84 by omega), show 85 + i - (85 + 13 * z) = i - 13 * z by omega]
theorem nt_rows {N rw : Nat → Nat} (hz : N 84 ≤ 8) (l4 : ∀ i, i < 13 * N 84 → rw i = N (85 + i)) : ∀ i, i < 13 * ntN N 84 → (if N 84 = 8 then psR (va_cpy rw rw 13 0 91) (sl N 20 10) 7 (N 30) (N 44) (N 45) else psR rw (sl N 20 10) (N 84) (N 30) (N 44) (N 45)) i = ntN N (85 + i) := by
  intro i hi
  rw [nt_84 hz] at hi
  have key : ∀ (M r : Nat → Nat) (z : Nat), M 84 = z → (∀ j, j < 84 → M j = N j) → (i < 13 * z → r i = M (85 + i)) → i < 13 * z + 13 → psR r (sl N 20 10) z (N 30) (N 44) (N 45) i = puN M (85 + i) := by
    intro M r z hM hlo hr hi2
    rw [pu_at, ps_at, hM, hlo 30 (by omega), hlo 44 (by omega), hlo 45 (by omega)]
    by_cases c4 : 13 * z ≤ i ∧ i < 13 * z + 10
    · rw [if_pos c4, if_pos c4, sl_lt (by omega), hlo _ (by omega)]
    · rw [if_neg c4, if_neg c4]
      by_cases c1 : i = 13 * z + 10
      · rw [if_pos c1, if_pos c1]
      · rw [if_neg c1, if_neg c1]
        by_cases c2 : i = 13 * z + 11
        · rw [if_pos c2, if_pos c2]
        · rw [if_neg c2, if_neg c2]
          by_cases c3 : i = 13 * z + 12
          · rw [if_pos c3, if_pos c3]
          · rw [if_neg c3, if_neg c3]; exact hr (by omega)
  by_cases c : N 84 = 8
  · rw [if_pos c] at hi ⊢
    unfold ntN
    rw [if_pos c]
    refine key (shN N) _ 7 (by unfold shN; simp) (fun j hj => by unfold shN; rw [if_neg (by omega), if_neg (by omega)]) (fun h2 => ?_) (by omega)
    unfold shN va_cpy
    rw [if_pos (by omega), if_pos (by omega), l4 _ (by omega)]
    congr 1; omega
  · rw [if_neg c] at hi ⊢
    unfold ntN
    rw [if_neg c]
    exact key N rw (N 84) rfl (fun _ _ => rfl) (fun h2 => l4 i h2) (by omega)
section PB
variable {E : eT} {n : Nat} {h : hT}
theorem c_remember {q : Nat} {N : Nat → Nat} (H : isH h q N) (bN : N 31 ≤ 6 ∧ N 46 ≤ 6 ∧ N 59 ≤ 6 ∧ N 84 ≤ 8) : fE M_H_remember E [.ref q] n h (qN (fun k g => k = n ∧ isH g q (ntN N) ∧ (frq q h g ∧ ∀ a, a ≠ q + 15 → a ≠ q + 16 → g a = h a))) := by
  obtain ⟨bn, bw, tf, tm, nf, ng, nd, nm, rw, ⟨⟨a1, a2, a3, a4, a5⟩, ⟨a6, a7, a8⟩, ⟨a9, b1, b2, b3, b4, b5, b6⟩, b7, b8⟩, l1, l2, l3, l4⟩ := H
  refine fE.of (L := [some (.ref q)]) (by decide +kernel) (Nat.le_of_ble_eq_true rfl) rfl ?_
  refine a_al0 fH_remember_0 ?_
  refine a_gf fH_remember_1 l_H_42 a1 rfl ?_
  refine a_al0 fH_remember_4 ?_
  refine a_gf fH_remember_5 l_H_21 a1 rfl ?_
  refine a_al0 fH_remember_8 ?_
  refine a_gf fH_remember_9 l_H_28 a1 rfl ?_
  refine a_V2N fH_remember_12 k_H_94 m_P_push ⟨by decide, by decide⟩ b7 rfl ⟨rfl, rfl⟩ (Nat.le_of_ble_eq_true rfl) (c_push (r := q + 15) (s := q + 3) (b := q + 5) b7 b8 a4 a5 a6 bN.2.2.2 (by omega) (by omega)) ?_
  have lo : ∀ i, i < 84 → ntN N i = N i := fun i hi => nt_lo hi bN.2.2.2
  refine a_rv fH_remember_15 rfl ⟨rfl, rfl, ?_, fun a ha => ?_, fun a x1 x2 => ?_⟩
  · refine ⟨bn, bw, tf, tm, nf, ng, nd, nm, _, ⟨⟨?_, ?_, ?_, ?_, ?_⟩, ⟨?_, ?_, ?_⟩, ⟨?_, ?_, ?_, ?_, ?_, ?_, ?_⟩, ?_, up_n (by omega) up_s⟩, ?_⟩
    · repeat (first | exact up_s | assumption | refine up_n (by omega) ?_)
    · rw [show sl (ntN N) 0 10 = sl N 0 10 from sl_eq (fun i hi => lo _ (by omega))]; repeat (first | exact up_s | assumption | refine up_n (by omega) ?_)
    · rw [show sl (ntN N) 10 10 = sl N 10 10 from sl_eq (fun i hi => lo _ (by omega))]; repeat (first | exact up_s | assumption | refine up_n (by omega) ?_)
    · rw [lo 30 (by omega)]; repeat (first | exact up_s | assumption | refine up_n (by omega) ?_)
    · rw [show sl (ntN N) 20 10 = sl N 20 10 from sl_eq (fun i hi => lo _ (by omega))]; repeat (first | exact up_s | assumption | refine up_n (by omega) ?_)
    · rw [lo 31 (by omega), lo 44 (by omega), lo 45 (by omega)]; repeat (first | exact up_s | assumption | refine up_n (by omega) ?_)
    · repeat (first | exact up_s | assumption | refine up_n (by omega) ?_)
    · repeat (first | exact up_s | assumption | refine up_n (by omega) ?_)
    · rw [lo 46 (by omega), lo 59 (by omega)]; repeat (first | exact up_s | assumption | refine up_n (by omega) ?_)
    · repeat (first | exact up_s | assumption | refine up_n (by omega) ?_)
    · repeat (first | exact up_s | assumption | refine up_n (by omega) ?_)
    · repeat (first | exact up_s | assumption | refine up_n (by omega) ?_)
    · repeat (first | exact up_s | assumption | refine up_n (by omega) ?_)
    · repeat (first | exact up_s | assumption | refine up_n (by omega) ?_)
    · repeat (first | exact up_s | assumption | refine up_n (by omega) ?_)
    · rw [nt_84 bN.2.2.2]; exact up_s
    · refine ⟨fun i hi => ?_, fun i hi => ?_, fun i hi => ?_, nt_rows bN.2.2.2 l4⟩
      · rw [lo 31 (by omega)] at hi; rw [lo _ (by omega), lo _ (by omega)]; exact l1 i hi
      · rw [lo 46 (by omega)] at hi; rw [lo _ (by omega), lo _ (by omega)]; exact l2 i hi
      · rw [lo 59 (by omega)] at hi; rw [lo _ (by omega), lo _ (by omega), lo (72 + i) (by omega), lo (78 + i) (by omega)]; exact l3 i hi
  · repeat (first | refine up_n (by omega) ?_)
    rfl
  · exact up_n (by omega) (up_n (by omega) rfl)
theorem c_goBack {q : Nat} {N : Nat → Nat} (H : isH h q N) (bN : N 31 ≤ 6 ∧ N 46 ≤ 6 ∧ N 59 ≤ 6 ∧ N 84 ≤ 8) (h0 : 0 < N 84) : fE M_H_goBack E [.ref q] n h (qN (fun k g => k = n ∧ isH g q (unN N) ∧ frq q h g)) := by
  obtain ⟨bn, bw, tf, tm, nf, ng, nd, nm, rw, ⟨⟨a1, a2, a3, a4, a5⟩, ⟨a6, a7, a8⟩, ⟨a9, b1, b2, b3, b4, b5, b6⟩, b7, b8⟩, l1, l2, l3, l4⟩ := H
  obtain ⟨z, hz⟩ : ∃ z, N 84 = z + 1 := ⟨N 84 - 1, by omega⟩
  rw [hz] at b7
  refine fE.of (L := [some (.ref q)]) (by decide +kernel) (Nat.le_of_ble_eq_true rfl) rfl ?_
  refine a_al0 fH_goBack_0 ?_
  refine a_gf fH_goBack_1 l_H_42 a1 rfl ?_
  refine a_al0 fH_goBack_4 ?_
  refine a_gf fH_goBack_5 l_H_21 a1 rfl ?_
  refine a_al0 fH_goBack_8 ?_
  refine a_gf fH_goBack_9 l_H_28 a1 rfl ?_
  refine a_V2N fH_goBack_12 k_H_98 m_P_pop ⟨by decide, by decide⟩ b7 rfl ⟨rfl, rfl⟩ (Nat.le_of_ble_eq_true rfl) (c_pop (r := q + 15) (s := q + 3) (b := q + 5) (z := z) b7 b8 a4 a5 a6 (by omega) (by omega) (by omega) (by omega)) ?_
  have hzz : N 84 - 1 = z := by omega
  have lo : ∀ i, i < 20 ∨ 30 < i → i ≠ 44 → i ≠ 45 → i ≠ 84 → unN N i = N i := fun i h1 h2 h3 h4 => by unfold unN; rw [if_neg (by omega), if_neg (by omega), if_neg h2, if_neg h3, if_neg h4]
  have e30 : unN N 30 = rw (z * 13 + 10) := by unfold unN; rw [hzz, l4 _ (by omega)]; simp; congr 1; omega
  have e44 : unN N 44 = rw (z * 13 + 11) := by unfold unN; rw [hzz, l4 _ (by omega)]; simp; congr 1; omega
  have e45 : unN N 45 = rw (z * 13 + 12) := by unfold unN; rw [hzz, l4 _ (by omega)]; simp; congr 1; omega
  have e84 : unN N 84 = z := by unfold unN; rw [hzz]; simp
  have e20 : sl (unN N) 20 10 = va_cpy rw (sl N 20 10) (z * 13) 0 10 := by
    funext i
    unfold sl va_cpy
    by_cases c : i < 10
    · rw [if_pos c, if_pos (by omega), l4 _ (by omega)]
      unfold unN
      rw [if_pos (by omega), hzz]; congr 1; omega
    · rw [if_neg c, if_neg (by omega)]; simp [c]
  refine a_rv fH_goBack_15 rfl ⟨rfl, rfl, ?_, fun a ha => ?_⟩
  · refine ⟨bn, bw, tf, tm, nf, ng, nd, nm, rw, ⟨⟨?_, ?_, ?_, ?_, ?_⟩, ⟨?_, ?_, ?_⟩, ⟨?_, ?_, ?_, ?_, ?_, ?_, ?_⟩, ?_, ?_⟩, ?_⟩
    · repeat (first | exact up_s | assumption | refine up_n (by omega) ?_)
    · rw [show sl (unN N) 0 10 = sl N 0 10 from sl_eq (fun i hi => lo _ (by omega) (by omega) (by omega) (by omega))]; repeat (first | exact up_s | assumption | refine up_n (by omega) ?_)
    · rw [show sl (unN N) 10 10 = sl N 10 10 from sl_eq (fun i hi => lo _ (by omega) (by omega) (by omega) (by omega))]; repeat (first | exact up_s | assumption | refine up_n (by omega) ?_)
    · rw [e30]; repeat (first | exact up_s | assumption | refine up_n (by omega) ?_)
    · rw [e20]; repeat (first | exact up_s | assumption | refine up_n (by omega) ?_)
    · rw [lo 31 (by omega) (by omega) (by omega) (by omega), e44, e45]; repeat (first | exact up_s | assumption | refine up_n (by omega) ?_)
    · repeat (first | exact up_s | assumption | refine up_n (by omega) ?_)
    · repeat (first | exact up_s | assumption | refine up_n (by omega) ?_)
    · rw [lo 46 (by omega) (by omega) (by omega) (by omega), lo 59 (by omega) (by omega) (by omega) (by omega)]; repeat (first | exact up_s | assumption | refine up_n (by omega) ?_)
    · repeat (first | exact up_s | assumption | refine up_n (by omega) ?_)
    · repeat (first | exact up_s | assumption | refine up_n (by omega) ?_)
    · repeat (first | exact up_s | assumption | refine up_n (by omega) ?_)
    · repeat (first | exact up_s | assumption | refine up_n (by omega) ?_)
    · repeat (first | exact up_s | assumption | refine up_n (by omega) ?_)
    · repeat (first | exact up_s | assumption | refine up_n (by omega) ?_)
    · rw [e84]; repeat (first | exact up_s | assumption | refine up_n (by omega) ?_)
    · repeat (first | exact up_s | assumption | refine up_n (by omega) ?_)
    · refine ⟨fun i hi => ?_, fun i hi => ?_, fun i hi => ?_, fun i hi => ?_⟩
      · rw [lo 31 (by omega) (by omega) (by omega) (by omega)] at hi; rw [lo _ (by omega) (by omega) (by omega) (by omega), lo _ (by omega) (by omega) (by omega) (by omega)]; exact l1 i hi
      · rw [lo 46 (by omega) (by omega) (by omega) (by omega)] at hi; rw [lo _ (by omega) (by omega) (by omega) (by omega), lo _ (by omega) (by omega) (by omega) (by omega)]; exact l2 i hi
      · rw [lo 59 (by omega) (by omega) (by omega) (by omega)] at hi; rw [lo _ (by omega) (by omega) (by omega) (by omega), lo _ (by omega) (by omega) (by omega) (by omega), lo (72 + i) (by omega) (by omega) (by omega) (by omega), lo (78 + i) (by omega) (by omega) (by omega) (by omega)]; exact l3 i hi
      · rw [e84] at hi; rw [lo _ (by omega) (by omega) (by omega) (by omega)]; exact l4 i (by omega)
  · repeat (first | refine up_n (by omega) ?_)
    rfl
theorem c_Hmix {q : Nat} {N bn bw tf tm nf ng nd nm rw : Nat → Nat} {h0 : Int64} (H : hC h q N bn bw tf tm nf ng nd nm rw) (bN : N 31 ≤ 6 ∧ N 46 ≤ 6 ∧ N 59 ≤ 6 ∧ N 84 ≤ 8) :
    fE M_H_mixInto E [.ref q, .long h0] n h (eV (.long (mxL (fun i => [nf i, ng i, nd i, nm i]) (N 59) 0 (mxL (fun i => [tf i, tm i]) (N 46) 0 (mxL (fun i => [bn i, bw i]) (N 31) 0 (mxL (fun i => [sl N 0 10 i, sl N 10 10 i, sl N 20 10 i]) 10 0 h0))))) n h) := by
  obtain ⟨⟨a1, a2, a3, a4, a5⟩, ⟨a6, a7, a8⟩, ⟨a9, b1, b2, b3, b4, b5, b6⟩, b7, b8⟩ := H
  have loop2 : ∀ (j i : Nat) (x T : Int64), i + j = N 31 → mxL (fun i => [bn i, bw i]) j i x = T → fA M_H_mixInto E (fZ M_H_mixInto E (eV (.long (mxL (fun i => [nf i, ng i, nd i, nm i]) (N 59) 0 (mxL (fun i => [tf i, tm i]) (N 46) 0 T))) n h)) n h 0 0 69 [some (.ref q), some (.long h0), none, some (.long x), none, some (.int (nI i))] [] := by
    intro j
    induction j with
    | zero =>
      intro i x T hi hT
      refine a_il5 fH_mixInto_69 ?_
      refine a_al0 fH_mixInto_71 ?_
      refine a_gf fH_mixInto_72 l_H_28 a1 rfl ?_
      refine a_gf fH_mixInto_75 l_H_144 a6 rfl ?_
      refine a_ic_ge fH_mixInto_78 (fun _ => ?_) (fun c => absurd (nI_le (by omega) (by omega)) c)
      refine a_al0 fH_mixInto_130 ?_
      refine a_gf fH_mixInto_131 l_H_35 a1 rfl ?_
      refine a_ll3 fH_mixInto_134 ?_
      refine a_V1V fH_mixInto_135 k_H_151 m_C_mixInto ⟨by decide, by decide⟩ a9 rfl ⟨rfl, rfl⟩ (Nat.le_of_ble_eq_true rfl) (c_Cmix (c := q + 8) a9 b1 b2 b3 b4 b5 b6 bN.2.1 bN.2.2.1) ?_
      exact a_rl fH_mixInto_138 rfl (⟨svl (by rw [← hT]; rfl), rfl, rfl⟩)
    | succ j ih =>
      intro i x T hi hT
      refine a_il5 fH_mixInto_69 ?_
      refine a_al0 fH_mixInto_71 ?_
      refine a_gf fH_mixInto_72 l_H_28 a1 rfl ?_
      refine a_gf fH_mixInto_75 l_H_144 a6 rfl ?_
      refine a_ic_ge fH_mixInto_78 (fun c => absurd c (nI_ge (by omega) (by omega))) (fun _ => ?_)
      refine a_il5 fH_mixInto_81 ?_
      refine a_ic fH_mixInto_83 ?_
      refine a_ic_ge fH_mixInto_85 (fun c => absurd c (nI_ge (b := 6) (by omega) (by decide))) (fun _ => ?_)
      refine a_lc fH_mixInto_88 ?_
      refine a_ll3 fH_mixInto_91 ?_
      refine a_lmul fH_mixInto_92 ?_
      refine a_al0 fH_mixInto_93 ?_
      refine a_gf fH_mixInto_94 l_H_28 a1 rfl ?_
      refine a_gf fH_mixInto_97 l_H_145 a6 rfl ?_
      refine a_il5 fH_mixInto_100 ?_
      refine a_ia fH_mixInto_102 a7 rfl (by omega) (by decide) ?_
      refine a_i2l fH_mixInto_103 ?_
      refine a_ladd fH_mixInto_104 ?_
      refine a_lt3 fH_mixInto_105 (by decide) rfl ?_
      refine a_lc fH_mixInto_106 ?_
      refine a_ll3 fH_mixInto_109 ?_
      refine a_lmul fH_mixInto_110 ?_
      refine a_al0 fH_mixInto_111 ?_
      refine a_gf fH_mixInto_112 l_H_28 a1 rfl ?_
      refine a_gf fH_mixInto_115 l_H_148 a6 rfl ?_
      refine a_il5 fH_mixInto_118 ?_
      refine a_ia fH_mixInto_120 a8 rfl (by omega) (by decide) ?_
      refine a_i2l fH_mixInto_121 ?_
      refine a_ladd fH_mixInto_122 ?_
      refine a_lt3 fH_mixInto_123 (by decide) rfl ?_
      refine a_inc5 fH_mixInto_124 (by decide) rfl ?_
      refine a_goto fH_mixInto_127 ?_
      rw [nI_1]
      exact ih (i + 1) _ T (by omega) hT
  have loop1 : ∀ (j i : Nat) (x y : Int64), i + j = 10 → mxL (fun i => [sl N 0 10 i, sl N 10 10 i, sl N 20 10 i]) j i x = y → fA M_H_mixInto E (fZ M_H_mixInto E (eV (.long (mxL (fun i => [nf i, ng i, nd i, nm i]) (N 59) 0 (mxL (fun i => [tf i, tm i]) (N 46) 0 (mxL (fun i => [bn i, bw i]) (N 31) 0 y)))) n h)) n h 0 0 5 [some (.ref q), some (.long h0), none, some (.long x), none, some (.int (nI i))] [] := by
    intro j
    induction j with
    | zero =>
      intro i x y hi hT
      obtain rfl : i = 10 := by omega
      refine a_il5 fH_mixInto_5 ?_
      refine a_ic fH_mixInto_7 ?_
      refine a_ic_ge fH_mixInto_9 (fun _ => ?_) (fun c => absurd (Int32.le_refl _) c)
      refine a_ic fH_mixInto_66 ?_
      refine a_is5 fH_mixInto_67 (by decide) rfl ?_
      exact loop2 (N 31) 0 _ _ (by omega) (by rw [← hT]; rfl)
    | succ j ih =>
      intro i x y hi hT
      refine a_il5 fH_mixInto_5 ?_
      refine a_ic fH_mixInto_7 ?_
      refine a_ic_ge fH_mixInto_9 (fun c => absurd c (nI_ge (b := 10) (by omega) (by decide))) (fun _ => ?_)
      refine a_lc fH_mixInto_12 ?_
      refine a_ll3 fH_mixInto_15 ?_
      refine a_lmul fH_mixInto_16 ?_
      refine a_al0 fH_mixInto_17 ?_
      refine a_gf fH_mixInto_18 l_H_9 a1 rfl ?_
      refine a_il5 fH_mixInto_21 ?_
      refine a_ia fH_mixInto_23 a2 rfl (by omega) (by decide) ?_
      refine a_i2l fH_mixInto_24 ?_
      refine a_ladd fH_mixInto_25 ?_
      refine a_lt3 fH_mixInto_26 (by decide) rfl ?_
      refine a_lc fH_mixInto_27 ?_
      refine a_ll3 fH_mixInto_30 ?_
      refine a_lmul fH_mixInto_31 ?_
      refine a_al0 fH_mixInto_32 ?_
      refine a_gf fH_mixInto_33 l_H_15 a1 rfl ?_
      refine a_il5 fH_mixInto_36 ?_
      refine a_ia fH_mixInto_38 a3 rfl (by omega) (by decide) ?_
      refine a_i2l fH_mixInto_39 ?_
      refine a_ladd fH_mixInto_40 ?_
      refine a_lt3 fH_mixInto_41 (by decide) rfl ?_
      refine a_lc fH_mixInto_42 ?_
      refine a_ll3 fH_mixInto_45 ?_
      refine a_lmul fH_mixInto_46 ?_
      refine a_al0 fH_mixInto_47 ?_
      refine a_gf fH_mixInto_48 l_H_21 a1 rfl ?_
      refine a_gf fH_mixInto_51 l_H_113 a4 rfl ?_
      refine a_il5 fH_mixInto_54 ?_
      refine a_ia fH_mixInto_56 a5 rfl (by omega) (by decide) ?_
      refine a_i2l fH_mixInto_57 ?_
      refine a_ladd fH_mixInto_58 ?_
      refine a_lt3 fH_mixInto_59 (by decide) rfl ?_
      refine a_inc5 fH_mixInto_60 (by decide) rfl ?_
      refine a_goto fH_mixInto_63 ?_
      rw [nI_1]
      exact ih (i + 1) _ y (by omega) hT
  refine fE.of (L := [some (.ref q), some (.long h0), none, none, none, none]) (by decide +kernel) (Nat.le_of_ble_eq_true rfl) rfl ?_
  refine a_ll1 fH_mixInto_0 ?_
  refine a_lt3 fH_mixInto_1 (by decide) rfl ?_
  refine a_ic fH_mixInto_2 ?_
  refine a_is5 fH_mixInto_3 (by decide) rfl ?_
  exact loop1 10 0 _ _ (by omega) rfl
end PB
