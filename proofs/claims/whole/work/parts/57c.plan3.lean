/-- the bills below m that are open -/
def opL (N : Nat → Nat) (m : Nat) : List Nat := (List.range m).filter (fun b => decide (¬ N 44 / 2 ^ b % 2 = 1))
theorem opL_s {N : Nat → Nat} {m : Nat} : opL N (m + 1) = opL N m ++ (if N 44 / 2 ^ m % 2 = 1 then [] else [m]) := by
  unfold opL
  rw [List.range_succ, List.filter_append]
  congr 1
  by_cases c : N 44 / 2 ^ m % 2 = 1
  · rw [if_pos c, List.filter_cons_of_neg (by simp [c])]; rfl
  · rw [if_neg c, List.filter_cons_of_pos (by simp [c])]; rfl
theorem opL_mem {N : Nat → Nat} {m b : Nat} : b ∈ opL N m ↔ b < m ∧ ¬ N 44 / 2 ^ b % 2 = 1 := by
  unfold opL
  rw [List.mem_filter, List.mem_range]
  simp
theorem opL_nd {N : Nat → Nat} {m : Nat} : (opL N m).Nodup := List.Pairwise.filter _ List.nodup_range
theorem opL_len {N : Nat → Nat} {m : Nat} : (opL N m).length ≤ m := by
  have := List.length_filter_le (fun b => decide (¬ N 44 / 2 ^ b % 2 = 1)) (List.range m)
  rw [List.length_range] at this
  exact this
/-- the fewest days and the first way -/
def pdR (N : Nat → Nat) (l : List Nat) (r : Int32) (c : Nat → Nat) : Prop :=
  (l.length = 0 ∧ r = 0) ∨ (0 < l.length ∧ ((∃ d, 1 ≤ d ∧ d ≤ 4 ∧ r = nI d ∧ vld N l d c ∧ (∀ c2, vld N l d c2 → ¬ blw l.length c2 c) ∧ ∀ e, 1 ≤ e → e < d → ∀ c2, ¬ vld N l e c2) ∨ (r = -1 ∧ ∀ e, 1 ≤ e → e ≤ 4 → ∀ c2, ¬ vld N l e c2)))
def pdy (l : List Nat) (dp : Int32) (c : Nat → Nat) (b : Nat) : Int32 := if dp = -1 then -1 else if b ∈ l then nI (c (ixo l b)) else -1
section P3
variable {E : eT} {n : Nat} {h : hT} {N : Nat → Nat}
theorem c_planDays (V : hv h N) (B : bv h N) (S : kS h) (O : okC N) (OB : okB N) : fE M_K_planDays E [.ref 47, .ref 12] n h (qI (fun r k g => k = n ∧ frk h g ∧ ∃ ob c, kP g (nI (opL N (N 31)).length) r ob c ∧ (∀ i x, (opL N (N 31))[i]? = some x → ob i = x) ∧ pdR N (opL N (N 31)) r c)) := by
  have ob6 := OB.1
  have l6 : (opL N (N 31)).length ≤ 6 := Nat.le_trans opL_len ob6
  have hxl : ∀ i x, (opL N (N 31))[i]? = some x → x < N 31 := fun i x hi => (opL_mem.mp (List.mem_of_getElem? hi)).1
  have loop2 : ∀ (j d : Nat) (g : hT) (ob c : Nat → Nat), d + j = 5 → 1 ≤ d → 0 < (opL N (N 31)).length → kP g (nI (opL N (N 31)).length) (-1) ob c → (∀ i x, (opL N (N 31))[i]? = some x → ob i = x) → hv g N → bv g N → frk h g → (∀ e, 1 ≤ e → e < d → ∀ c2, ¬ vld N (opL N (N 31)) e c2) → fA M_K_planDays E (fZ M_K_planDays E (qI (fun r k g => k = n ∧ frk h g ∧ ∃ ob c, kP g (nI (opL N (N 31)).length) r ob c ∧ (∀ i x, (opL N (N 31))[i]? = some x → ob i = x) ∧ pdR N (opL N (N 31)) r c))) n g 0 0 88 [some (.ref 47), some (.ref 12), some (.int (nI d))] [] := by
    intro j
    induction j with
    | zero =>
      intro d g ob c hj hd1 hl0 P hob V B Fr hno
      obtain rfl : d = 5 := by omega
      have P9 := P
      obtain ⟨m, f, D, W, k7, k8, k9, k0, k1, k2, k3, kw⟩ := P9
      refine a_il2 fK_planDays_88 ?_
      refine a_ic fK_planDays_89 ?_
      refine a_ic_gt fK_planDays_90 (fun _ => ?_) (fun c_ => absurd (by decide) c_)
      refine a_al0 fK_planDays_121 ?_
      refine a_gf fK_planDays_122 l_K_36 k7 rfl ?_
      exact a_ri fK_planDays_125 rfl (⟨_, rfl, rfl, Fr, ob, c, P, hob, Or.inr ⟨hl0, Or.inr ⟨rfl, fun e e1 e2 => hno e e1 (by omega)⟩⟩⟩)
    | succ j ih =>
      intro d g ob c hj hd1 hl0 P hob V B Fr hno
      have P9 := P
      obtain ⟨m, f, D, W, k7, k8, k9, k0, k1, k2, k3, kw⟩ := P9
      refine a_il2 fK_planDays_88 ?_
      refine a_ic fK_planDays_89 ?_
      refine a_ic_gt fK_planDays_90 (fun c_ => absurd c_ (nI_nlt (a := 4) (b := d) (by omega) (by decide))) (fun _ => ?_)
      refine a_al0 fK_planDays_93 ?_
      refine a_gf fK_planDays_94 l_K_36 k7 rfl ?_
      refine a_ic fK_planDays_97 ?_
      refine a_ic_ne fK_planDays_98 (fun c_ => absurd (rfl) c_) (fun _ => ?_)
      refine a_al0 fK_planDays_101 ?_
      refine a_al1 fK_planDays_102 ?_
      refine a_il2 fK_planDays_103 ?_
      refine a_V2I fK_planDays_104 k_K_96 m_K_planWithin ⟨by decide, by decide⟩ k7 rfl ⟨rfl, rfl⟩ (Nat.le_of_ble_eq_true rfl) (c_planWithin (d := d) V B P O OB l6 hl0 opL_nd (fun i x hi => ⟨hob i x hi, hxl i x hi⟩) (by omega) hd1) (fun r1 n1 h1 p1 => ?_)
      obtain ⟨hn1, F1, q⟩ := p1
      subst n1
      have Fr1 := Fr.trans F1
      rcases q with ⟨rfl, c1, P1, v1, v2⟩ | ⟨rfl, ⟨c1, P1⟩, v1⟩
      · refine a_if_eq fK_planDays_107 (fun c_ => absurd c_ (by decide)) (fun _ => ?_)
        have P19 := P1
        obtain ⟨m1, f1, D1, W1, j7, j8, j9, j0, j1, j2, j3, jw⟩ := P19
        refine a_al0 fK_planDays_110 ?_
        refine a_il2 fK_planDays_111 ?_
        refine a_pfi5 fK_planDays_112 p_K_36 j7 ?_
        have P2 : kP (va_up h1 47 (kO (nI (opL N (N 31)).length) (nI d))) (nI (opL N (N 31)).length) (nI d) ob c1 := ⟨m1, f1, D1, W1, up_s, up_n (by decide) j8, up_n (by decide) j9, up_n (by decide) j0, up_n (by decide) j1, up_n (by decide) j2, up_n (by decide) j3, jw⟩
        refine a_inc2 fK_planDays_115 (by decide) rfl ?_
        refine a_goto fK_planDays_118 ?_
        rw [nI_1]
        have fin : pdR N (opL N (N 31)) (nI d) c1 := Or.inr ⟨hl0, Or.inl ⟨d, hd1, by omega, rfl, v1, v2, hno⟩⟩
        by_cases c5 : d + 1 ≤ 4
        · refine a_il2 fK_planDays_88 ?_
          refine a_ic fK_planDays_89 ?_
          refine a_ic_gt fK_planDays_90 (fun c_ => absurd c_ (nI_nlt (a := 4) (by omega) (by decide))) (fun _ => ?_)
          refine a_al0 fK_planDays_93 ?_
          refine a_gf fK_planDays_94 l_K_36 up_s rfl ?_
          refine a_ic fK_planDays_97 ?_
          refine a_ic_ne fK_planDays_98 (fun _ => ?_) (fun c_ => absurd c_ (nI_nm1 (by omega)))
          refine a_al0 fK_planDays_121 ?_
          refine a_gf fK_planDays_122 l_K_36 up_s rfl ?_
          exact a_ri fK_planDays_125 rfl (⟨_, rfl, rfl, Fr1.up (by omega), ob, c1, P2, hob, fin⟩)
        · refine a_il2 fK_planDays_88 ?_
          refine a_ic fK_planDays_89 ?_
          refine a_ic_gt fK_planDays_90 (fun _ => ?_) (fun c_ => absurd (nI_lt (a := 4) (by omega) (by omega)) c_)
          refine a_al0 fK_planDays_121 ?_
          refine a_gf fK_planDays_122 l_K_36 up_s rfl ?_
          exact a_ri fK_planDays_125 rfl (⟨_, rfl, rfl, Fr1.up (by omega), ob, c1, P2, hob, fin⟩)
      · refine a_if_eq fK_planDays_107 (fun _ => ?_) (fun c_ => absurd (rfl) c_)
        refine a_inc2 fK_planDays_115 (by decide) rfl ?_
        refine a_goto fK_planDays_118 ?_
        rw [nI_1]
        exact ih (d + 1) h1 ob c1 (by omega) (by omega) hl0 P1 hob (V.fr F1) (B.fr F1) Fr1 (fun e e1 e2 c2 => by
          rcases Nat.lt_or_ge e d with q | q
          · exact hno e e1 q c2
          · rw [show e = d by omega]; exact v1 c2)
  have loop1 : ∀ (j b : Nat) (g : hT) (dp : Int32) (ob c : Nat → Nat), b + j = N 31 → kP g (nI (opL N b).length) dp ob c → (∀ i x, (opL N b)[i]? = some x → ob i = x) → hv g N → bv g N → frk h g → fA M_K_planDays E (fZ M_K_planDays E (qI (fun r k g => k = n ∧ frk h g ∧ ∃ ob c, kP g (nI (opL N (N 31)).length) r ob c ∧ (∀ i x, (opL N (N 31))[i]? = some x → ob i = x) ∧ pdR N (opL N (N 31)) r c))) n g 0 0 7 [some (.ref 47), some (.ref 12), some (.int (nI b))] [] := by
    intro j
    induction j with
    | zero =>
      intro b g dp ob c hj P hob V B Fr
      obtain rfl : b = N 31 := by omega
      have P9 := P
      obtain ⟨m, f, D, W, k7, k8, k9, k0, k1, k2, k3, kw⟩ := P9
      refine a_il2 fK_planDays_7 ?_
      refine a_al1 fK_planDays_8 ?_
      refine a_gf fK_planDays_9 l_K_70 V.1 rfl ?_
      refine a_gf fK_planDays_12 l_K_74 B.1 rfl ?_
      refine a_ic_ge fK_planDays_15 (fun _ => ?_) (fun c_ => absurd (Int32.le_refl _) c_)
      by_cases c0 : (opL N (N 31)).length = 0
      · refine a_al0 fK_planDays_70 ?_
        refine a_al0 fK_planDays_71 ?_
        refine a_gf fK_planDays_72 l_K_32 k7 rfl ?_
        refine a_if_ne fK_planDays_75 (fun c_ => absurd (congrArg nI c0) c_) (fun _ => ?_)
        refine a_ic fK_planDays_78 ?_
        refine a_goto fK_planDays_79 ?_
        refine a_pfi5 fK_planDays_83 p_K_36 k7 ?_
        have P2 : kP (va_up g 47 (kO (nI (opL N (N 31)).length) 0)) (nI (opL N (N 31)).length) 0 ob c := ⟨m, f, D, W, up_s, up_n (by decide) k8, up_n (by decide) k9, up_n (by decide) k0, up_n (by decide) k1, up_n (by decide) k2, up_n (by decide) k3, kw⟩
        refine a_ic fK_planDays_86 ?_
        refine a_is2 fK_planDays_87 (by decide) rfl ?_
        refine a_il2 fK_planDays_88 ?_
        refine a_ic fK_planDays_89 ?_
        refine a_ic_gt fK_planDays_90 (fun c_ => absurd c_ (by decide)) (fun _ => ?_)
        refine a_al0 fK_planDays_93 ?_
        refine a_gf fK_planDays_94 l_K_36 up_s rfl ?_
        refine a_ic fK_planDays_97 ?_
        refine a_ic_ne fK_planDays_98 (fun _ => ?_) (fun c_ => absurd c_ (by decide))
        refine a_al0 fK_planDays_121 ?_
        refine a_gf fK_planDays_122 l_K_36 up_s rfl ?_
        exact a_ri fK_planDays_125 rfl (⟨_, rfl, rfl, Fr.up (by omega), ob, c, P2, hob, Or.inl ⟨c0, rfl⟩⟩)
      · skip
        refine a_al0 fK_planDays_70 ?_
        refine a_al0 fK_planDays_71 ?_
        refine a_gf fK_planDays_72 l_K_32 k7 rfl ?_
        refine a_if_ne fK_planDays_75 (fun _ => ?_) (fun c_ => absurd c_ (nI_ne0 (by omega) (by omega)))
        refine a_ic fK_planDays_82 ?_
        refine a_pfi5 fK_planDays_83 p_K_36 k7 ?_
        refine a_ic fK_planDays_86 ?_
        refine a_is2 fK_planDays_87 (by decide) rfl ?_
        exact loop2 4 1 _ ob c rfl (by decide) (by omega) ⟨m, f, D, W, up_s, up_n (by decide) k8, up_n (by decide) k9, up_n (by decide) k0, up_n (by decide) k1, up_n (by decide) k2, up_n (by decide) k3, kw⟩ hob (V.up (by omega)) (B.fr (frk.rf.up (by omega))) (Fr.up (by omega)) (fun e e1 e2 => by omega)
    | succ j ih =>
      intro b g dp ob c hj P hob V B Fr
      have P9 := P
      obtain ⟨m, f, D, W, k7, k8, k9, k0, k1, k2, k3, kw⟩ := P9
      have bl := @opL_len N b
      refine a_il2 fK_planDays_7 ?_
      refine a_al1 fK_planDays_8 ?_
      refine a_gf fK_planDays_9 l_K_70 V.1 rfl ?_
      refine a_gf fK_planDays_12 l_K_74 B.1 rfl ?_
      refine a_ic_ge fK_planDays_15 (fun c_ => absurd c_ (nI_ge (show b < N 31 by omega) (by omega))) (fun _ => ?_)
      refine a_il2 fK_planDays_18 ?_
      refine a_ic fK_planDays_19 ?_
      refine a_ic_ge fK_planDays_21 (fun c_ => absurd c_ (nI_ge (b := 6) (by omega) (by decide))) (fun _ => ?_)
      by_cases cp : N 44 / 2 ^ b % 2 = 1
      · have eo : opL N (b + 1) = opL N b := by rw [opL_s, if_pos cp, List.append_nil]
        refine a_al1 fK_planDays_24 ?_
        refine a_gf fK_planDays_25 l_K_70 V.1 rfl ?_
        refine a_il2 fK_planDays_28 ?_
        refine a_V1V fK_planDays_29 k_K_92 m_B_isPaid ⟨by decide, by decide⟩ B.1 rfl ⟨rfl, rfl⟩ (Nat.le_of_ble_eq_true rfl) (c_isPaid (b := 17) B.1 OB.2.2 (i := b) (by omega)) ?_
        refine a_if_ne fK_planDays_32 (fun _ => ?_) (fun c_ => absurd c_ (fun z => by rw [bI_t cp] at z; exact absurd z (by decide)))
        refine a_inc2 fK_planDays_64 (by decide) rfl ?_
        refine a_goto fK_planDays_67 ?_
        rw [nI_1]
        exact ih (b + 1) g dp ob c (by omega) (by rw [eo]; exact P) (by rw [eo]; exact hob) V B Fr
      · have eo : opL N (b + 1) = opL N b ++ [b] := by rw [opL_s, if_neg cp]
        have el : (opL N (b + 1)).length = (opL N b).length + 1 := by rw [eo, List.length_append]; rfl
        refine a_al1 fK_planDays_24 ?_
        refine a_gf fK_planDays_25 l_K_70 V.1 rfl ?_
        refine a_il2 fK_planDays_28 ?_
        refine a_V1V fK_planDays_29 k_K_92 m_B_isPaid ⟨by decide, by decide⟩ B.1 rfl ⟨rfl, rfl⟩ (Nat.le_of_ble_eq_true rfl) (c_isPaid (b := 17) B.1 OB.2.2 (i := b) (by omega)) ?_
        refine a_if_ne fK_planDays_32 (fun c_ => absurd (by rw [bI_f cp]) c_) (fun _ => ?_)
        refine a_al0 fK_planDays_35 ?_
        refine a_gf fK_planDays_36 l_K_32 k7 rfl ?_
        refine a_ic fK_planDays_39 ?_
        refine a_ic_ge fK_planDays_41 (fun c_ => absurd c_ (nI_ge (b := 6) (by omega) (by decide))) (fun _ => ?_)
        refine a_al0 fK_planDays_44 ?_
        refine a_gf fK_planDays_45 l_K_25 k7 rfl ?_
        refine a_al0 fK_planDays_48 ?_
        refine a_gf fK_planDays_49 l_K_32 k7 rfl ?_
        refine a_il2 fK_planDays_52 ?_
        refine a_it fK_planDays_53 k2 (show nI (opL N b).length = nI (opL N b).length from rfl) (by omega) (by decide) ?_
        rw [upd_nF]
        refine a_al0 fK_planDays_54 ?_
        refine a_dup fK_planDays_55 rfl ?_
        refine a_gf fK_planDays_56 l_K_32 (up_n (by decide) k7) rfl ?_
        refine a_ic fK_planDays_59 ?_
        refine a_iadd fK_planDays_60 ?_
        refine a_pfi4 fK_planDays_61 p_K_32 (up_n (by decide) k7) ?_
        rw [nI_1]
        refine a_inc2 fK_planDays_64 (by decide) rfl ?_
        refine a_goto fK_planDays_67 ?_
        rw [nI_1]
        refine ih (b + 1) _ dp (va_up ob (opL N b).length b) c (by omega) ⟨m, f, D, W, by rw [el]; exact up_s, up_n (by decide) (up_n (by decide) k8), up_n (by decide) (up_n (by decide) k9), up_n (by decide) (up_n (by decide) k0), up_n (by decide) (up_n (by decide) k1), up_n (by decide) up_s, up_n (by decide) (up_n (by decide) k3), kw⟩ (fun i x hi => ?_) ((V.up (by omega)).up (by omega)) (B.fr ((frk.rf.up (by omega)).up (by omega))) ((Fr.up (by omega)).up (by omega))
        rw [eo] at hi
        rcases Nat.lt_or_ge i (opL N b).length with q | q
        · rw [List.getElem?_append_left q] at hi
          rw [vn (by omega)]
          exact hob i x hi
        · rw [List.getElem?_append_right q] at hi
          rcases Nat.lt_or_ge (opL N b).length i with q2 | q2
          · rw [show i - (opL N b).length = (i - (opL N b).length - 1) + 1 by omega] at hi
            simp at hi
          · have ei : i = (opL N b).length := by omega
            subst ei
            rw [Nat.sub_self] at hi
            have : b = x := by simpa using hi
            rw [up_s, this]
  obtain ⟨m, f, D, W, ob, cd, op, dp, k7, k8, k9, k0, k1, k2, k3, kw⟩ := S
  refine fE.of (L := [some (.ref 47), some (.ref 12), none]) (by decide +kernel) (Nat.le_of_ble_eq_true rfl) rfl ?_
  refine a_al0 fK_planDays_0 ?_
  refine a_ic fK_planDays_1 ?_
  refine a_pfi4 fK_planDays_2 p_K_32 k7 ?_
  refine a_ic fK_planDays_5 ?_
  refine a_is2 fK_planDays_6 (by decide) rfl ?_
  exact loop1 (N 31) 0 _ dp ob cd (by omega) ⟨m, f, D, W, up_s, up_n (by decide) k8, up_n (by decide) k9, up_n (by decide) k0, up_n (by decide) k1, up_n (by decide) k2, up_n (by decide) k3, kw⟩ (fun i x hi => by simp [opL] at hi) (V.up (by omega)) (B.fr (frk.rf.up (by omega))) (frk.rf.up (by omega))
theorem c_plannedDay {l : List Nat} {b : Nat} {dp : Int32} {ob c : Nat → Nat} (P : kP h (nI l.length) dp ob c) (hl6 : l.length ≤ 6) (hn : l.Nodup) (hob : ∀ i x, l[i]? = some x → ob i = x ∧ x < 6) (hb : b < 6) : fE M_K_plannedDay E [.ref 47, .int (nI b)] n h (eV (.int (pdy l dp c b)) n h) := by
  obtain ⟨m, f, D, W, k7, k8, k9, k0, k1, k2, k3, kw⟩ := P
  have loop : ∀ (r : List Nat) (i : Nat), l.drop i = r → i ≤ l.length → (dp = -1 ∨ ∀ y, y < i → l[y]? ≠ some b) → fA M_K_plannedDay E (fZ M_K_plannedDay E (eV (.int (pdy l dp c b)) n h)) n h 0 0 2 [some (.ref 47), some (.int (nI b)), some (.int (nI i))] [] := by
    intro r
    induction r with
    | nil =>
      intro i hr hi hy
      refine a_il2 fK_plannedDay_2 ?_
      refine a_al0 fK_plannedDay_3 ?_
      refine a_gf fK_plannedDay_4 l_K_32 k7 rfl ?_
      refine a_ic_ge fK_plannedDay_7 (fun _ => ?_) (fun c_ => absurd (nI_le (dropn hr) (by omega)) c_)
      have e9 : (-1 : Int32) = pdy l dp c b := by
        unfold pdy
        rcases hy with hy | hy
        · rw [if_pos hy]
        · have nm : ¬ b ∈ l := fun z => by
            obtain ⟨y, q⟩ := List.getElem?_of_mem z
            have q1 := (List.getElem?_eq_some_iff.mp q).1
            have q2 := dropn hr
            exact hy y (by omega) q
          rw [if_neg nm, ite_self]
      refine a_ic fK_plannedDay_47 ?_
      exact a_ri fK_plannedDay_48 rfl (⟨sv e9, rfl, rfl⟩)
    | cons x r ih =>
      intro i hr hi hy
      obtain ⟨r1, r2, r3⟩ := dropc hr
      obtain ⟨y1, y2⟩ := hob i x r2
      refine a_il2 fK_plannedDay_2 ?_
      refine a_al0 fK_plannedDay_3 ?_
      refine a_gf fK_plannedDay_4 l_K_32 k7 rfl ?_
      refine a_ic_ge fK_plannedDay_7 (fun c_ => absurd c_ (nI_ge r1 (by omega))) (fun _ => ?_)
      refine a_il2 fK_plannedDay_10 ?_
      refine a_ic fK_plannedDay_11 ?_
      refine a_ic_ge fK_plannedDay_13 (fun c_ => absurd c_ (nI_ge (b := 6) (by omega) (by decide))) (fun _ => ?_)
      refine a_al0 fK_plannedDay_16 ?_
      refine a_gf fK_plannedDay_17 l_K_25 k7 rfl ?_
      refine a_il2 fK_plannedDay_20 ?_
      refine a_ia fK_plannedDay_21 k2 rfl (by omega) (by decide) ?_
      rw [show nF ob i = nI x from congrArg nI y1]
      by_cases c1 : x = b
      · subst c1
        refine a_il1 fK_plannedDay_22 ?_
        refine a_ic_ne fK_plannedDay_23 (fun c_ => absurd (rfl) c_) (fun _ => ?_)
        by_cases c2 : dp = -1
        · refine a_al0 fK_plannedDay_26 ?_
          refine a_gf fK_plannedDay_27 l_K_36 k7 rfl ?_
          refine a_ic fK_plannedDay_30 ?_
          refine a_ic_eq fK_plannedDay_31 (fun _ => ?_) (fun c_ => absurd (c2) c_)
          refine a_inc2 fK_plannedDay_41 (by decide) rfl ?_
          refine a_goto fK_plannedDay_44 ?_
          rw [nI_1]
          exact ih (i + 1) r3 r1 (Or.inl c2)
        · refine a_al0 fK_plannedDay_26 ?_
          refine a_gf fK_plannedDay_27 l_K_36 k7 rfl ?_
          refine a_ic fK_plannedDay_30 ?_
          refine a_ic_eq fK_plannedDay_31 (fun c_ => absurd c_ (c2)) (fun _ => ?_)
          refine a_al0 fK_plannedDay_34 ?_
          refine a_gf fK_plannedDay_35 l_K_29 k7 rfl ?_
          refine a_il2 fK_plannedDay_38 ?_
          refine a_ia fK_plannedDay_39 k3 rfl (by omega) (by decide) ?_
          exact a_ri fK_plannedDay_40 rfl ⟨sv (by unfold pdy; rw [if_neg c2, if_pos (List.mem_of_getElem? r2), ixo_at l hn i x r2]; rfl), rfl, rfl⟩
      · refine a_il1 fK_plannedDay_22 ?_
        refine a_ic_ne fK_plannedDay_23 (fun _ => ?_) (fun c_ => absurd c_ (fun z => c1 ((nI_eq (by omega) (by omega)).mp z)))
        refine a_inc2 fK_plannedDay_41 (by decide) rfl ?_
        refine a_goto fK_plannedDay_44 ?_
        rw [nI_1]
        refine ih (i + 1) r3 r1 (hy.imp id (fun hy y h1 q => ?_))
        rcases Nat.lt_or_ge y i with z | z
        · exact hy y z q
        · rw [show y = i by omega, r2] at q; exact c1 (Option.some.inj q)
  refine fE.of (L := [some (.ref 47), some (.int (nI b)), none]) (by decide +kernel) (Nat.le_of_ble_eq_true rfl) rfl ?_
  refine a_ic fK_plannedDay_0 ?_
  refine a_is2 fK_plannedDay_1 (by decide) rfl ?_
  exact loop l 0 rfl (Nat.zero_le _) (Or.inr (fun y hy => by omega))
end P3
section P4
variable {E : eT} {n : Nat} {h : hT} {N : Nat → Nat} {I : Nat → Option (Nat → Nat)} {tn : Nat} {bt : Nat → Nat} {ab be rb rn rf : Nat}
theorem x_plan_bad {b : Int32} (X : XS h n N I tn bt ab be rb rn rf) (K : okN N) (h1 : ¬ b = -1) (hb : ¬ (0 ≤ b ∧ b < nI (N 31))) : fE M_F_plan E [.ref 11, .int b] n h (qI (fun r k g => r = -10 ∧ k = n ∧ fM h g ∧ XS g n N I tn bt ab be (rb + 1) rn rf)) := by
  have B := X.2.1.b
  refine fE.of (L := [some (.ref 11), some (.int b), none]) (by decide +kernel) (Nat.le_of_ble_eq_true rfl) rfl ?_
  refine a_il1 fF_plan_0 ?_
  refine a_ic fF_plan_1 ?_
  refine a_ic_eq fF_plan_2 (fun c_ => absurd c_ (h1)) (fun _ => ?_)
  refine a_al0 fF_plan_5 ?_
  refine a_gf fF_plan_6 l_F_10 X.1.1 rfl ?_
  refine a_gf fF_plan_9 l_F_67 X.2.1.v.1 rfl ?_
  refine a_il1 fF_plan_12 ?_
  refine a_V1V fF_plan_13 k_F_153 m_B_holds ⟨by decide, by decide⟩ B.1 rfl ⟨rfl, rfl⟩ (Nat.le_of_ble_eq_true rfl) (c_holds (b := 17) B.1 K.2.2.1.1) ?_
  refine a_if_ne fF_plan_16 (fun c_ => absurd (by rw [bI_f hb]) c_) (fun _ => ?_)
  refine a_al0 fF_plan_19 ?_
  refine a_V0V fF_plan_20 k_F_89 m_F_bad ⟨by decide, by decide⟩ X.1.1 rfl ⟨rfl, rfl⟩ (Nat.le_of_ble_eq_true rfl) (c_bad X.1.1) ?_
  refine a_pop fF_plan_23 rfl ?_
  refine a_ic fF_plan_24 ?_
  exact a_ri fF_plan_26 rfl (⟨_, rfl, rfl, rfl, fM.r0.up (by decide), X.fl _ _ _ _ _⟩)
theorem x_plan_n (X : XS h n N I tn bt ab be rb rn rf) (K : okN N) : fE M_F_plan E [.ref 11, .int (-1)] n h (qI (fun r k g => (∃ c, pdR N (opL N (N 31)) r c) ∧ k = n ∧ fM h g ∧ XS g n N I tn bt ab be rb rn rf)) := by
  have V := X.2.1.v
  have B := X.2.1.b
  have S := X.2.2.2.1
  have k7 : ∃ op dp, h 47 = kO op dp := by obtain ⟨m, f, D, W, ob, cd, op, dp, k7, _⟩ := S; exact ⟨op, dp, k7⟩
  obtain ⟨op, dp, k7⟩ := k7
  refine fE.of (L := [some (.ref 11), some (.int (-1)), none]) (by decide +kernel) (Nat.le_of_ble_eq_true rfl) rfl ?_
  refine a_il1 fF_plan_0 ?_
  refine a_ic fF_plan_1 ?_
  refine a_ic_eq fF_plan_2 (fun _ => ?_) (fun c_ => absurd (rfl) c_)
  refine a_al0 fF_plan_27 ?_
  refine a_gf fF_plan_28 l_F_26 X.1.1 rfl ?_
  refine a_al0 fF_plan_31 ?_
  refine a_gf fF_plan_32 l_F_10 X.1.1 rfl ?_
  refine a_V1I fF_plan_35 k_F_228 m_K_planDays ⟨by decide, by decide⟩ k7 rfl ⟨rfl, rfl⟩ (Nat.le_of_ble_eq_true rfl) (c_planDays V B S K.c K.b) (fun r1 n1 h1 p1 => ?_)
  refine a_is2 fF_plan_38 (by decide) rfl ?_
  obtain ⟨hn1, F1, ob, c, P1, q1, q2⟩ := p1
  subst n1
  refine a_il1 fF_plan_39 ?_
  refine a_ic fF_plan_40 ?_
  refine a_ic_ne fF_plan_41 (fun c_ => absurd (rfl) c_) (fun _ => ?_)
  refine a_il2 fF_plan_44 ?_
  refine a_goto fF_plan_45 ?_
  exact a_ri fF_plan_56 rfl (⟨_, rfl, ⟨c, q2⟩, rfl, fM.k F1, X.ofk F1 P1.s⟩)
theorem x_plan {B9 : Nat} (X : XS h n N I tn bt ab be rb rn rf) (K : okN N) (h9 : B9 < N 31) : fE M_F_plan E [.ref 11, .int (nI B9)] n h (qI (fun r k g => (∃ dp c, pdR N (opL N (N 31)) dp c ∧ r = pdy (opL N (N 31)) dp c B9) ∧ k = n ∧ fM h g ∧ XS g n N I tn bt ab be rb rn rf)) := by
  have V := X.2.1.v
  have B := X.2.1.b
  have S := X.2.2.2.1
  have k31 := K.2.2.1.1
  have k7 : ∃ op dp, h 47 = kO op dp := by obtain ⟨m, f, D, W, ob, cd, op, dp, k7, _⟩ := S; exact ⟨op, dp, k7⟩
  obtain ⟨op, dp, k7⟩ := k7
  refine fE.of (L := [some (.ref 11), some (.int (nI B9)), none]) (by decide +kernel) (Nat.le_of_ble_eq_true rfl) rfl ?_
  refine a_il1 fF_plan_0 ?_
  refine a_ic fF_plan_1 ?_
  refine a_ic_eq fF_plan_2 (fun c_ => absurd c_ (nI_nm1 (by omega))) (fun _ => ?_)
  refine a_al0 fF_plan_5 ?_
  refine a_gf fF_plan_6 l_F_10 X.1.1 rfl ?_
  refine a_gf fF_plan_9 l_F_67 V.1 rfl ?_
  refine a_il1 fF_plan_12 ?_
  refine a_V1V fF_plan_13 k_F_153 m_B_holds ⟨by decide, by decide⟩ B.1 rfl ⟨rfl, rfl⟩ (Nat.le_of_ble_eq_true rfl) (c_holds (b := 17) B.1 K.2.2.1.1) ?_
  refine a_if_ne fF_plan_16 (fun _ => ?_) (fun c_ => absurd c_ (fun z => by rw [bI_t ⟨nI_pos' (by omega), nI_lt h9 (by omega)⟩] at z; exact absurd z (by decide)))
  refine a_al0 fF_plan_27 ?_
  refine a_gf fF_plan_28 l_F_26 X.1.1 rfl ?_
  refine a_al0 fF_plan_31 ?_
  refine a_gf fF_plan_32 l_F_10 X.1.1 rfl ?_
  refine a_V1I fF_plan_35 k_F_228 m_K_planDays ⟨by decide, by decide⟩ k7 rfl ⟨rfl, rfl⟩ (Nat.le_of_ble_eq_true rfl) (c_planDays V B S K.c K.b) (fun r1 n1 h1 p1 => ?_)
  refine a_is2 fF_plan_38 (by decide) rfl ?_
  obtain ⟨hn1, F1, ob, c, P1, q1, q2⟩ := p1
  subst n1
  refine a_il1 fF_plan_39 ?_
  refine a_ic fF_plan_40 ?_
  refine a_ic_ne fF_plan_41 (fun _ => ?_) (fun c_ => absurd c_ (nI_nm1 (by omega)))
  have P19 := P1
  obtain ⟨m1, f1, D1, W1, j7, j8, j9, j0, j1, j2, j3, jw⟩ := P19
  refine a_al0 fF_plan_48 ?_
  refine a_gf fF_plan_49 l_F_26 ((F1 _ (by omega)).trans X.1.1) rfl ?_
  refine a_il1 fF_plan_52 ?_
  refine a_V1V fF_plan_53 k_F_231 m_K_plannedDay ⟨by decide, by decide⟩ j7 rfl ⟨rfl, rfl⟩ (Nat.le_of_ble_eq_true rfl) (c_plannedDay (b := B9) P1 (Nat.le_trans opL_len k31) opL_nd (fun i x hi => ⟨q1 i x hi, by have := (opL_mem.mp (List.mem_of_getElem? hi)).1; omega⟩) (by omega)) ?_
  exact a_ri fF_plan_56 rfl (⟨_, rfl, ⟨r1, c, q2, rfl⟩, rfl, fM.k F1, X.ofk F1 P1.s⟩)
end P4
