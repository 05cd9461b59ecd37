/-- all but now, the line and the row aside is as it was -/
def mN (h g : hT) : Prop := ∀ a, a ≠ 63 → a ≠ 64 → a ≠ 70 → a ≠ 71 → g a = h a
theorem mN.trans {a b c : hT} (x : mN a b) (z : mN b c) : mN a c := fun i h1 h2 h3 h4 => (z i h1 h2 h3 h4).trans (x i h1 h2 h3 h4)
theorem mF.n {h g : hT} (F : mF h g) : mN h g := fun a h1 _ h3 h4 => F a h1 h3 h4
theorem mL.n {h g : hT} (F : mL h g) : mN h g := F.f.n
theorem mN.up {h g : hT} {x : cT} (F : mN h g) : mN h (va_up g 64 x) := fun a h1 h2 h3 h4 => up_n h2 (F a h1 h2 h3 h4)
theorem mN.c {h g : hT} (F : mN h g) : fC h g := fun a ha => F a (by omega) (by omega) (by omega) (by omega)
theorem z9_sh {N : Nat → Nat} (z : z9 N) : z9 (shN N) := fun i hi => by have := z i hi; unfold shN; grind
theorem z9_pu {N : Nat → Nat} (z : z9 N) (h7 : N 84 ≤ 7) : z9 (puN N) := fun i hi => by have := z i hi; unfold puN; grind
theorem z9_nt {N : Nat → Nat} (z : z9 N) (hz : N 84 ≤ 8) : z9 (ntN N) := by
  unfold ntN
  split
  · exact z9_pu (z9_sh z) (by unfold shN; grind)
  · exact z9_pu z (by omega)
theorem z9_wd {N : Nat → Nat} {sg : List Nat} (z : z9 N) : z9 (wdN N sg) := fun i hi => by unfold wdN; rw [if_neg (by omega)]; exact z i hi
theorem z9_ngt1 {N : Nat → Nat} (z : z9 N) : z9 (ngt1 N) := fun i hi => by unfold ngt1; rw [if_neg (by omega), if_neg (by omega)]; exact z i hi
theorem z9_ngt : ∀ (m : Nat) {N : Nat → Nat}, z9 N → z9 (ngt m N)
  | 0, _, z => z
  | m + 1, _, z => z9_ngt m (z9_ngt1 z)
theorem z9_un {N : Nat → Nat} (z : z9 N) : z9 (unN N) := fun i hi => by have := z i hi; unfold unN; grind
theorem okC_nt {N : Nat → Nat} (O : okC N) (hz : N 84 ≤ 8) : okC (ntN N) := ⟨fun f hf => by rw [nt_lo (by omega) hz, nt_lo (by omega) hz, nt_lo (by omega) hz]; exact O.1 f hf, by rw [nt_lo (by omega) hz]; exact O.2⟩
theorem wd_44 {N : Nat → Nat} {sg : List Nat} {i : Nat} (h : i < 20 ∨ 30 ≤ i) : wdN N sg i = N i := by unfold wdN; rw [if_neg (by omega)]
def unP (B : Nat → Nat) (t i : Nat) : Nat → Nat := fun y => if 20 ≤ y ∧ y < 20 + i then B (t + (y - 20)) else B y
section M4
variable {E : eT} {n : Nat} {h : hT} {c : mT} {th mn : Int32} {N : Nat → Nat}
theorem c_MleftOf {f : Nat} (m0 : h 63 = mO c th mn) (m1 : h 64 = nA 189 N) (O : okC N) (hf : f < 10) : fE M_M_leftOf E [.ref 63, .int (nI f)] n h (eV (.int (nI (if N (10 + f) < N (20 + f) then 0 else if wr (N f) 0 (N 30) = 0 ∨ 99 < (N (10 + f) - N (20 + f)) / wr (N f) 0 (N 30) then 99 else (N (10 + f) - N (20 + f)) / wr (N f) 0 (N 30)))) n h) := by
  have b1 := O.1 f hf
  have b2 : wr (N f) 0 (N 30) ≤ 6 := wr_le (by omega)
  refine fE.of (L := [some (.ref 63), some (.int (nI f)), none, none]) (by decide +kernel) (Nat.le_of_ble_eq_true rfl) rfl ?_
  refine a_al0 fM_leftOf_0 ?_
  refine a_gf fM_leftOf_1 l_M_7 m0 rfl ?_
  refine a_ic fM_leftOf_4 ?_
  refine a_il1 fM_leftOf_6 ?_
  refine a_iadd fM_leftOf_7 ?_
  refine a_ia fM_leftOf_8 m1 (nI_add 10 _) (by omega) (by decide) ?_
  refine a_al0 fM_leftOf_9 ?_
  refine a_gf fM_leftOf_10 l_M_7 m0 rfl ?_
  refine a_ic fM_leftOf_13 ?_
  refine a_il1 fM_leftOf_15 ?_
  refine a_iadd fM_leftOf_16 ?_
  refine a_ia fM_leftOf_17 m1 (nI_add 20 _) (by omega) (by decide) ?_
  refine a_isub fM_leftOf_18 ?_
  refine a_is2 fM_leftOf_19 (by decide) rfl ?_
  refine a_al0 fM_leftOf_20 ?_
  refine a_gf fM_leftOf_21 l_M_7 m0 rfl ?_
  refine a_ic fM_leftOf_24 ?_
  refine a_il1 fM_leftOf_25 ?_
  refine a_iadd fM_leftOf_26 ?_
  refine a_ia fM_leftOf_27 m1 (Int32.zero_add _) (by omega) (by decide) ?_
  refine a_ic fM_leftOf_28 ?_
  refine a_al0 fM_leftOf_29 ?_
  refine a_gf fM_leftOf_30 l_M_7 m0 rfl ?_
  refine a_ic fM_leftOf_33 ?_
  refine a_ia fM_leftOf_35 m1 (show (30 : Int32) = nI 30 from rfl) (by decide) (by decide) ?_
  refine a_S3V fM_leftOf_36 k_M_58 m_M_wearOf ⟨by decide, by decide⟩ ⟨rfl, rfl⟩ (Nat.le_of_ble_eq_true rfl) (c_MwearOf (K := N f) (k := 0) b1.1 (by decide) O.D) ?_
  refine a_is3 fM_leftOf_39 (by decide) rfl ?_
  by_cases c1 : N (10 + f) < N (20 + f)
  · refine a_il2 fM_leftOf_40 ?_
    refine a_if_ge fM_leftOf_41 (fun c_ => absurd c_ (fun z => absurd z (Int32.not_le.mpr (pk_sneg (by omega) c1)))) (fun _ => ?_)
    refine a_ic fM_leftOf_44 ?_
    exact a_ri fM_leftOf_45 rfl (⟨sv (by rw [if_pos c1]; rfl), rfl, rfl⟩)
  · have e : nF N (10 + f) - nF N (20 + f) = nI (N (10 + f) - N (20 + f)) := pk_sub (by omega)
    rw [e, if_neg c1]
    refine a_il2 fM_leftOf_40 ?_
    refine a_if_ge fM_leftOf_41 (fun _ => ?_) (fun c_ => absurd (nI_pos' (by omega)) c_)
    by_cases c2 : wr (N f) 0 (N 30) = 0
    · refine a_il3 fM_leftOf_46 ?_
      refine a_if_eq fM_leftOf_47 (fun _ => ?_) (fun c_ => absurd (congrArg nI c2) c_)
      refine a_ic fM_leftOf_58 ?_
      refine a_goto fM_leftOf_60 ?_
      exact a_ri fM_leftOf_66 rfl (⟨sv (by rw [if_pos (Or.inl c2)]; rfl), rfl, rfl⟩)
    · have q1 : (N (10 + f) - N (20 + f)) / wr (N f) 0 (N 30) ≤ N (10 + f) - N (20 + f) := Nat.div_le_self _ _
      have e2 : nI (N (10 + f) - N (20 + f)) / nI (wr (N f) 0 (N 30)) = nI ((N (10 + f) - N (20 + f)) / wr (N f) 0 (N 30)) := pk_div (by omega) (by omega) (by omega)
      have nz : ¬ nI (wr (N f) 0 (N 30)) = 0 := nI_ne0 (by omega) (by omega)
      refine a_il3 fM_leftOf_46 ?_
      refine a_if_eq fM_leftOf_47 (fun c_ => absurd c_ (nz)) (fun _ => ?_)
      refine a_il2 fM_leftOf_50 ?_
      refine a_il3 fM_leftOf_51 ?_
      refine a_idiv fM_leftOf_52 nz ?_
      rw [e2]
      by_cases c3 : 99 < (N (10 + f) - N (20 + f)) / wr (N f) 0 (N 30)
      · refine a_ic fM_leftOf_53 ?_
        refine a_ic_le fM_leftOf_55 (fun c_ => absurd c_ (fun z => absurd ((nI_leI (b := 99) (by omega) (by decide)).mp z) (by omega))) (fun _ => ?_)
        refine a_ic fM_leftOf_58 ?_
        refine a_goto fM_leftOf_60 ?_
        exact a_ri fM_leftOf_66 rfl (⟨sv (by rw [if_pos (Or.inr c3)]; rfl), rfl, rfl⟩)
      · refine a_ic fM_leftOf_53 ?_
        refine a_ic_le fM_leftOf_55 (fun _ => ?_) (fun c_ => absurd (nI_le (b := 99) (by omega) (by decide)) c_)
        refine a_il2 fM_leftOf_63 ?_
        refine a_il3 fM_leftOf_64 ?_
        refine a_idiv fM_leftOf_65 nz ?_
        rw [e2]
        exact a_ri fM_leftOf_66 rfl (⟨sv (by rw [if_neg (fun z => z.elim c2 c3)]), rfl, rfl⟩)
end M4
section P4
variable {E : eT} {n : Nat} {h : hT} {N : Nat → Nat} {I : Nat → Option (Nat → Nat)} {tn : Nat} {bt : Nat → Nat} {ab be rb rn rf : Nat}
theorem m_write_bad {v x : Int32} (X : MS h N I tn bt ab be rb rn rf) (hb : ¬ ((0 ≤ v ∧ v ≤ 99) ∧ (0 ≤ x ∧ x ≤ 99))) : fE M_M_write E [.ref 63, .int v, .int x] n h (qI (fun r k g => r = -2 ∧ k = n ∧ fC h g ∧ MS g N I tn bt ab be (rb + 1) rn rf)) := by
  obtain ⟨⟨nx, pl, tk, fa, ⟨⟨th, mn, m0⟩, f0, m8⟩, w0, kw0, m7⟩, R0⟩ := X
  refine fE.of (L := [some (.ref 63), some (.int (v)), some (.int (x)), none]) (by decide +kernel) (Nat.le_of_ble_eq_true rfl) rfl ?_
  refine a_al0 fM_write_0 ?_
  refine a_ic fM_write_1 ?_
  refine a_pfi0 fM_write_2 p_M_43 m0 ?_
  obtain ⟨h1, e1, W1, R1, F1⟩ := mThr m0 m8 kw0 m7 R0
  change fA _ _ _ _ (va_up h 63 (mO (nI tn, nx, pl, tk, fa, (nI ab).toInt64, (nI be).toInt64) 0 mn)) _ _ _ _ _
  rw [e1]
  clear e1 R0 m7 m8 m0
  have W2 := W1
  obtain ⟨M2, w1, kw1, M7⟩ := W2
  have M3 := M2
  obtain ⟨⟨th1, mn1, M0⟩, f1, M8⟩ := M3
  have M1 := R1.1.1
  obtain ⟨Rf, M6, r0, r1, r2⟩ := R1.2.2.2.2
  by_cases d0 : ((0 ≤ v ∧ v ≤ 99) ∧ (0 ≤ x ∧ x ≤ 99))
  · exact absurd ⟨d0.1, d0.2⟩ hb
  · refine a_il1 fM_write_5 ?_
    refine a_il2 fM_write_6 ?_
    refine a_S2V fM_write_7 k_M_142 m_M_areLine ⟨by decide, by decide⟩ ⟨rfl, rfl⟩ (Nat.le_of_ble_eq_true rfl) (c_MareLine) ?_
    refine a_if_ne fM_write_10 (fun c_ => absurd (by rw [bI_f d0]) c_) (fun _ => ?_)
    refine a_al0 fM_write_13 ?_
    refine a_ic fM_write_14 ?_
    refine a_V1V fM_write_15 k_M_74 m_M_refuses ⟨by decide, by decide⟩ M0 rfl ⟨rfl, rfl⟩ (Nat.le_of_ble_eq_true rfl) (c_Mrefuses (w := 0) M0 M6 (by decide)) ?_
    exact a_ri fM_write_18 rfl (⟨_, rfl, rfl, rfl, F1.c.up (by decide), ⟨nx, pl, tk, fa, W1.up (by decide) (by decide) (by decide)⟩, R1.re0 M6 r0 r1 r2⟩)
theorem m_write_no {V9 X9 : Nat} (X : MS h N I tn bt ab be rb rn rf) (K : okN N) (h9 : V9 < 100) (h8 : X9 < 100) (h7 : ¬ canR N V9 X9) : fE M_M_write E [.ref 63, .int (nI V9), .int (nI X9)] n h (qI (fun r k g => r = -3 ∧ k = n ∧ fC h g ∧ MS g N I tn bt ab be rb (rn + 1) rf)) := by
  have O := K.c
  have k31 := K.2.2.1.1
  obtain ⟨⟨nx, pl, tk, fa, ⟨⟨th, mn, m0⟩, f0, m8⟩, w0, kw0, m7⟩, R0⟩ := X
  refine fE.of (L := [some (.ref 63), some (.int (nI V9)), some (.int (nI X9)), none]) (by decide +kernel) (Nat.le_of_ble_eq_true rfl) rfl ?_
  refine a_al0 fM_write_0 ?_
  refine a_ic fM_write_1 ?_
  refine a_pfi0 fM_write_2 p_M_43 m0 ?_
  obtain ⟨h1, e1, W1, R1, F1⟩ := mThr m0 m8 kw0 m7 R0
  change fA _ _ _ _ (va_up h 63 (mO (nI tn, nx, pl, tk, fa, (nI ab).toInt64, (nI be).toInt64) 0 mn)) _ _ _ _ _
  rw [e1]
  clear e1 R0 m7 m8 m0
  have W2 := W1
  obtain ⟨M2, w1, kw1, M7⟩ := W2
  have M3 := M2
  obtain ⟨⟨th1, mn1, M0⟩, f1, M8⟩ := M3
  have M1 := R1.1.1
  obtain ⟨Rf, M6, r0, r1, r2⟩ := R1.2.2.2.2
  refine a_il1 fM_write_5 ?_
  refine a_il2 fM_write_6 ?_
  refine a_S2V fM_write_7 k_M_142 m_M_areLine ⟨by decide, by decide⟩ ⟨rfl, rfl⟩ (Nat.le_of_ble_eq_true rfl) (c_MareLine) ?_
  refine a_if_ne fM_write_10 (fun _ => ?_) (fun c_ => absurd c_ (fun z => by rw [bI_t ⟨⟨nI_pos' (by omega), nI_le (b := 99) (by omega) (by decide)⟩, ⟨nI_pos' (by omega), nI_le (b := 99) (by omega) (by decide)⟩⟩] at z; exact absurd z (by decide)))
  refine a_al0 fM_write_19 ?_
  refine a_al0 fM_write_20 ?_
  refine a_gf fM_write_21 l_M_7 M0 rfl ?_
  refine a_il1 fM_write_24 ?_
  refine a_il2 fM_write_25 ?_
  refine a_V3I fM_write_26 k_M_126 m_M_canOf ⟨by decide, by decide⟩ M0 rfl ⟨rfl, rfl⟩ (Nat.le_of_ble_eq_true rfl) (c_McanOf M2 M1 (by decide) (by decide) O h9 h8) (fun r3 n3 h3 p3 => ?_)
  obtain ⟨hr3, hn3, M23, F3⟩ := p3
  subst n3
  have W3 := W1.l M23 F3
  have R3 := R1.of F3.f
  have M13 := R3.1.1
  have M63 : h3 69 = nA 3 Rf := (F3 69 (by decide) (by decide)).trans M6
  have M33 := M23
  obtain ⟨⟨th3, mn3, M03⟩, f3, M83⟩ := M33
  rw [hr3]
  refine a_if_ne fM_write_29 (fun c_ => absurd (by rw [bI_f h7]) c_) (fun _ => ?_)
  refine a_al0 fM_write_32 ?_
  refine a_ic fM_write_33 ?_
  refine a_V1V fM_write_34 k_M_74 m_M_refuses ⟨by decide, by decide⟩ M03 rfl ⟨rfl, rfl⟩ (Nat.le_of_ble_eq_true rfl) (c_Mrefuses (w := 1) M03 M63 (by decide)) ?_
  exact a_ri fM_write_37 rfl (⟨_, rfl, rfl, rfl, (F1.trans F3.f).c.up (by decide), ⟨nx, pl, tk, fa, W3.up (by decide) (by decide) (by decide)⟩, R3.re1 M63 r0 r1 r2⟩)
theorem m_write {V9 X9 : Nat} (X : MS h N I tn bt ab be rb rn rf) (K : okN N) (h9 : V9 < 100) (h8 : X9 < 100) (h7 : canR N V9 X9) : fE M_M_write E [.ref 63, .int (nI V9), .int (nI X9)] n h (qI (fun r k g => r = nI (cstR N V9 X9) ∧ k = n ∧ fC h g ∧ MS g (wdN (ntN N) (sgn V9 X9)) I tn bt ab be rb rn rf)) := by
  have O := K.c
  have k31 := K.2.2.1.1
  obtain ⟨⟨nx, pl, tk, fa, ⟨⟨th, mn, m0⟩, f0, m8⟩, w0, kw0, m7⟩, R0⟩ := X
  refine fE.of (L := [some (.ref 63), some (.int (nI V9)), some (.int (nI X9)), none]) (by decide +kernel) (Nat.le_of_ble_eq_true rfl) rfl ?_
  refine a_al0 fM_write_0 ?_
  refine a_ic fM_write_1 ?_
  refine a_pfi0 fM_write_2 p_M_43 m0 ?_
  obtain ⟨h1, e1, W1, R1, F1⟩ := mThr m0 m8 kw0 m7 R0
  change fA _ _ _ _ (va_up h 63 (mO (nI tn, nx, pl, tk, fa, (nI ab).toInt64, (nI be).toInt64) 0 mn)) _ _ _ _ _
  rw [e1]
  clear e1 R0 m7 m8 m0
  have W2 := W1
  obtain ⟨M2, w1, kw1, M7⟩ := W2
  have M3 := M2
  obtain ⟨⟨th1, mn1, M0⟩, f1, M8⟩ := M3
  have M1 := R1.1.1
  obtain ⟨Rf, M6, r0, r1, r2⟩ := R1.2.2.2.2
  refine a_il1 fM_write_5 ?_
  refine a_il2 fM_write_6 ?_
  refine a_S2V fM_write_7 k_M_142 m_M_areLine ⟨by decide, by decide⟩ ⟨rfl, rfl⟩ (Nat.le_of_ble_eq_true rfl) (c_MareLine) ?_
  refine a_if_ne fM_write_10 (fun _ => ?_) (fun c_ => absurd c_ (fun z => by rw [bI_t ⟨⟨nI_pos' (by omega), nI_le (b := 99) (by omega) (by decide)⟩, ⟨nI_pos' (by omega), nI_le (b := 99) (by omega) (by decide)⟩⟩] at z; exact absurd z (by decide)))
  refine a_al0 fM_write_19 ?_
  refine a_al0 fM_write_20 ?_
  refine a_gf fM_write_21 l_M_7 M0 rfl ?_
  refine a_il1 fM_write_24 ?_
  refine a_il2 fM_write_25 ?_
  refine a_V3I fM_write_26 k_M_126 m_M_canOf ⟨by decide, by decide⟩ M0 rfl ⟨rfl, rfl⟩ (Nat.le_of_ble_eq_true rfl) (c_McanOf M2 M1 (by decide) (by decide) O h9 h8) (fun r3 n3 h3 p3 => ?_)
  obtain ⟨hr3, hn3, M23, F3⟩ := p3
  subst n3
  have W3 := W1.l M23 F3
  have R3 := R1.of F3.f
  have M13 := R3.1.1
  have M63 : h3 69 = nA 3 Rf := (F3 69 (by decide) (by decide)).trans M6
  have M33 := M23
  obtain ⟨⟨th3, mn3, M03⟩, f3, M83⟩ := M33
  rw [hr3]
  refine a_if_ne fM_write_29 (fun _ => ?_) (fun c_ => absurd c_ (fun z => by rw [bI_t h7] at z; exact absurd z (by decide)))
  have hz := K.2.2.1.2.2.2
  refine a_al0 fM_write_38 ?_
  refine a_V0N fM_write_39 k_M_146 m_M_notes ⟨by decide, by decide⟩ M03 rfl ⟨rfl, rfl⟩ (Nat.le_of_ble_eq_true rfl) (c_Mnotes M03 M13 hz) ?_
  have O4 := okC_nt O hz
  refine a_al0 fM_write_42 ?_
  refine a_il1 fM_write_43 ?_
  refine a_il2 fM_write_44 ?_
  refine a_V2I fM_write_45 k_M_149 m_M_costOf ⟨by decide, by decide⟩ (up_n (by decide) M03) rfl ⟨rfl, rfl⟩ (Nat.le_of_ble_eq_true rfl) (c_McostOf (N := ntN N) (M23.up (by decide) (by decide)) up_s O4 h9 h8) (fun r4 n4 h4 p4 => ?_)
  obtain ⟨hr4, hn4, M24, F4⟩ := p4
  subst n4
  have M14 : h4 64 = nA 189 (ntN N) := (F4 64 (by decide) (by decide)).trans up_s
  have M34 := M24
  obtain ⟨⟨th4, mn4, M04⟩, f4, M84⟩ := M34
  refine a_is3 fM_write_48 (by decide) rfl ?_
  refine a_al0 fM_write_49 ?_
  refine a_al0 fM_write_50 ?_
  refine a_gf fM_write_51 l_M_7 M04 rfl ?_
  refine a_il1 fM_write_54 ?_
  refine a_il2 fM_write_55 ?_
  refine a_V3Q fM_write_56 k_M_130 m_M_writes ⟨by decide, by decide⟩ M04 rfl ⟨rfl, rfl⟩ (Nat.le_of_ble_eq_true rfl) (c_Mwrites (a := 64) M24 M14 (by decide) (by decide) O4 h9 h8) (fun n5 h5 p5 => ?_)
  obtain ⟨hn5, M25, M15, F5⟩ := p5
  subst n5
  have F6 : mN h3 h5 := fun a a1 a2 a3 a4 => (F5 a a1 a4 a2).trans ((F4 a a1 a4).trans (up_n a2 rfl))
  have F7 : mN h1 h5 := F3.n.trans F6
  have e70 : h5 70 = nA 10 w1 := (F5 70 (by decide) (by decide) (by decide)).trans ((F4 70 (by decide) (by decide)).trans ((up_n (by decide) rfl).trans ((F3 70 (by decide) (by decide)).trans M7)))
  refine a_il3 fM_write_59 ?_
  exact a_ri fM_write_60 rfl (⟨_, rfl, by rw [hr4]; unfold cstR; rw [sl_nt hz (by decide), nt_lo (by decide) hz], rfl, (F1.n.trans F7).c, ⟨nx, pl, tk, fa, M25, w1, kw1, e70⟩, R1.nw (z9_wd (z9_nt R1.1.2 hz)) M15 F7⟩)
theorem m_pay_bad {b : Int32} (X : MS h N I tn bt ab be rb rn rf) (K : okN N) (hb : ¬ ((0 ≤ b ∧ b < nI (N 31)))) : fE M_M_pay E [.ref 63, .int b] n h (qI (fun r k g => r = -2 ∧ k = n ∧ fC h g ∧ MS g N I tn bt ab be (rb + 1) rn rf)) := by
  obtain ⟨⟨nx, pl, tk, fa, ⟨⟨th, mn, m0⟩, f0, m8⟩, w0, kw0, m7⟩, R0⟩ := X
  refine fE.of (L := [some (.ref 63), some (.int (b)), none]) (by decide +kernel) (Nat.le_of_ble_eq_true rfl) rfl ?_
  refine a_al0 fM_pay_0 ?_
  refine a_ic fM_pay_1 ?_
  refine a_pfi0 fM_pay_2 p_M_43 m0 ?_
  obtain ⟨h1, e1, W1, R1, F1⟩ := mThr m0 m8 kw0 m7 R0
  change fA _ _ _ _ (va_up h 63 (mO (nI tn, nx, pl, tk, fa, (nI ab).toInt64, (nI be).toInt64) 0 mn)) _ _ _ _ _
  rw [e1]
  clear e1 R0 m7 m8 m0
  have W2 := W1
  obtain ⟨M2, w1, kw1, M7⟩ := W2
  have M3 := M2
  obtain ⟨⟨th1, mn1, M0⟩, f1, M8⟩ := M3
  have M1 := R1.1.1
  obtain ⟨Rf, M6, r0, r1, r2⟩ := R1.2.2.2.2
  by_cases d0 : (0 ≤ b ∧ b < nI (N 31))
  · exact absurd d0 hb
  · refine a_al0 fM_pay_5 ?_
    refine a_il1 fM_pay_6 ?_
    refine a_V1V fM_pay_7 k_M_152 m_M_isBill ⟨by decide, by decide⟩ M0 rfl ⟨rfl, rfl⟩ (Nat.le_of_ble_eq_true rfl) (c_MisBill M0 M1 K.2.2.1.1) ?_
    refine a_if_ne fM_pay_10 (fun c_ => absurd (by rw [bI_f d0]) c_) (fun _ => ?_)
    refine a_al0 fM_pay_13 ?_
    refine a_ic fM_pay_14 ?_
    refine a_V1V fM_pay_15 k_M_74 m_M_refuses ⟨by decide, by decide⟩ M0 rfl ⟨rfl, rfl⟩ (Nat.le_of_ble_eq_true rfl) (c_Mrefuses (w := 0) M0 M6 (by decide)) ?_
    exact a_ri fM_pay_18 rfl (⟨_, rfl, rfl, rfl, F1.c.up (by decide), ⟨nx, pl, tk, fa, W1.up (by decide) (by decide) (by decide)⟩, R1.re0 M6 r0 r1 r2⟩)
theorem m_pay_no {B9 : Nat} (X : MS h N I tn bt ab be rb rn rf) (K : okN N) (h9 : B9 < N 31) (h7 : N 44 / 2 ^ B9 % 2 = 1 ∨ ¬ canR N (N (32 + B9)) (N (32 + B9))) : fE M_M_pay E [.ref 63, .int (nI B9)] n h (qI (fun r k g => r = -3 ∧ k = n ∧ fC h g ∧ MS g N I tn bt ab be rb (rn + 1) rf)) := by
  have O := K.c
  have k31 := K.2.2.1.1
  obtain ⟨⟨nx, pl, tk, fa, ⟨⟨th, mn, m0⟩, f0, m8⟩, w0, kw0, m7⟩, R0⟩ := X
  refine fE.of (L := [some (.ref 63), some (.int (nI B9)), none]) (by decide +kernel) (Nat.le_of_ble_eq_true rfl) rfl ?_
  refine a_al0 fM_pay_0 ?_
  refine a_ic fM_pay_1 ?_
  refine a_pfi0 fM_pay_2 p_M_43 m0 ?_
  obtain ⟨h1, e1, W1, R1, F1⟩ := mThr m0 m8 kw0 m7 R0
  change fA _ _ _ _ (va_up h 63 (mO (nI tn, nx, pl, tk, fa, (nI ab).toInt64, (nI be).toInt64) 0 mn)) _ _ _ _ _
  rw [e1]
  clear e1 R0 m7 m8 m0
  have W2 := W1
  obtain ⟨M2, w1, kw1, M7⟩ := W2
  have M3 := M2
  obtain ⟨⟨th1, mn1, M0⟩, f1, M8⟩ := M3
  have M1 := R1.1.1
  obtain ⟨Rf, M6, r0, r1, r2⟩ := R1.2.2.2.2
  refine a_al0 fM_pay_5 ?_
  refine a_il1 fM_pay_6 ?_
  refine a_V1V fM_pay_7 k_M_152 m_M_isBill ⟨by decide, by decide⟩ M0 rfl ⟨rfl, rfl⟩ (Nat.le_of_ble_eq_true rfl) (c_MisBill M0 M1 K.2.2.1.1) ?_
  refine a_if_ne fM_pay_10 (fun _ => ?_) (fun c_ => absurd c_ (fun z => by rw [bI_t ⟨nI_pos' (by omega), nI_lt (by omega) (by omega)⟩] at z; exact absurd z (by decide)))
  have hp : N 44 < 64 := Nat.lt_of_lt_of_le K.2.2.2.2.1 (pw64 k31)
  have hv9 := (K.2.2.2.1 B9 h9).1
  refine a_al0 fM_pay_19 ?_
  refine a_gf fM_pay_20 l_M_7 M0 rfl ?_
  refine a_ic fM_pay_23 ?_
  refine a_il1 fM_pay_25 ?_
  refine a_iadd fM_pay_26 ?_
  refine a_ia fM_pay_27 M1 (nI_add 32 _) (by omega) (by decide) ?_
  refine a_is2 fM_pay_28 (by decide) rfl ?_
  refine a_al0 fM_pay_29 ?_
  refine a_il1 fM_pay_30 ?_
  refine a_V1V fM_pay_31 k_M_155 m_M_isPaid ⟨by decide, by decide⟩ M0 rfl ⟨rfl, rfl⟩ (Nat.le_of_ble_eq_true rfl) (c_MisPaid M0 M1 hp (by omega)) ?_
  by_cases c6 : N 44 / 2 ^ B9 % 2 = 1
  · refine a_if_ne fM_pay_34 (fun _ => ?_) (fun c_ => absurd c_ (fun z => by rw [bI_t c6] at z; exact absurd z (by decide)))
    refine a_al0 fM_pay_50 ?_
    refine a_ic fM_pay_51 ?_
    refine a_V1V fM_pay_52 k_M_74 m_M_refuses ⟨by decide, by decide⟩ M0 rfl ⟨rfl, rfl⟩ (Nat.le_of_ble_eq_true rfl) (c_Mrefuses (w := 1) M0 M6 (by decide)) ?_
    exact a_ri fM_pay_55 rfl (⟨_, rfl, rfl, rfl, F1.c.up (by decide), ⟨nx, pl, tk, fa, W1.up (by decide) (by decide) (by decide)⟩, R1.re1 M6 r0 r1 r2⟩)
  · refine a_if_ne fM_pay_34 (fun c_ => absurd (by rw [bI_f c6]) c_) (fun _ => ?_)
    have h7 := h7.resolve_left c6
    refine a_al0 fM_pay_37 ?_
    refine a_al0 fM_pay_38 ?_
    refine a_gf fM_pay_39 l_M_7 M0 rfl ?_
    refine a_il2 fM_pay_42 ?_
    refine a_il2 fM_pay_43 ?_
    refine a_V3I fM_pay_44 k_M_126 m_M_canOf ⟨by decide, by decide⟩ M0 rfl ⟨rfl, rfl⟩ (Nat.le_of_ble_eq_true rfl) (c_McanOf M2 M1 (by decide) (by decide) O hv9 hv9) (fun r3 n3 h3 p3 => ?_)
    obtain ⟨hr3, hn3, M23, F3⟩ := p3
    subst n3
    have W3 := W1.l M23 F3
    have R3 := R1.of F3.f
    have M13 := R3.1.1
    have M63 : h3 69 = nA 3 Rf := (F3 69 (by decide) (by decide)).trans M6
    have M33 := M23
    obtain ⟨⟨th3, mn3, M03⟩, f3, M83⟩ := M33
    rw [hr3]
    refine a_if_ne fM_pay_47 (fun c_ => absurd (by rw [bI_f h7]) c_) (fun _ => ?_)
    refine a_al0 fM_pay_50 ?_
    refine a_ic fM_pay_51 ?_
    refine a_V1V fM_pay_52 k_M_74 m_M_refuses ⟨by decide, by decide⟩ M03 rfl ⟨rfl, rfl⟩ (Nat.le_of_ble_eq_true rfl) (c_Mrefuses (w := 1) M03 M63 (by decide)) ?_
    exact a_ri fM_pay_55 rfl (⟨_, rfl, rfl, rfl, (F1.trans F3.f).c.up (by decide), ⟨nx, pl, tk, fa, W3.up (by decide) (by decide) (by decide)⟩, R3.re1 M63 r0 r1 r2⟩)
theorem m_pay {B9 : Nat} (X : MS h N I tn bt ab be rb rn rf) (K : okN N) (h9 : B9 < N 31) (h6 : ¬ N 44 / 2 ^ B9 % 2 = 1) (h7 : canR N (N (32 + B9)) (N (32 + B9))) : fE M_M_pay E [.ref 63, .int (nI B9)] n h (qI (fun r k g => r = nI (N 45 + N (38 + B9)) ∧ k = n ∧ fC h g ∧ MS g (pyN N B9) I tn bt ab be rb rn rf)) := by
  have O := K.c
  have k31 := K.2.2.1.1
  obtain ⟨⟨nx, pl, tk, fa, ⟨⟨th, mn, m0⟩, f0, m8⟩, w0, kw0, m7⟩, R0⟩ := X
  refine fE.of (L := [some (.ref 63), some (.int (nI B9)), none]) (by decide +kernel) (Nat.le_of_ble_eq_true rfl) rfl ?_
  refine a_al0 fM_pay_0 ?_
  refine a_ic fM_pay_1 ?_
  refine a_pfi0 fM_pay_2 p_M_43 m0 ?_
  obtain ⟨h1, e1, W1, R1, F1⟩ := mThr m0 m8 kw0 m7 R0
  change fA _ _ _ _ (va_up h 63 (mO (nI tn, nx, pl, tk, fa, (nI ab).toInt64, (nI be).toInt64) 0 mn)) _ _ _ _ _
  rw [e1]
  clear e1 R0 m7 m8 m0
  have W2 := W1
  obtain ⟨M2, w1, kw1, M7⟩ := W2
  have M3 := M2
  obtain ⟨⟨th1, mn1, M0⟩, f1, M8⟩ := M3
  have M1 := R1.1.1
  obtain ⟨Rf, M6, r0, r1, r2⟩ := R1.2.2.2.2
  refine a_al0 fM_pay_5 ?_
  refine a_il1 fM_pay_6 ?_
  refine a_V1V fM_pay_7 k_M_152 m_M_isBill ⟨by decide, by decide⟩ M0 rfl ⟨rfl, rfl⟩ (Nat.le_of_ble_eq_true rfl) (c_MisBill M0 M1 K.2.2.1.1) ?_
  refine a_if_ne fM_pay_10 (fun _ => ?_) (fun c_ => absurd c_ (fun z => by rw [bI_t ⟨nI_pos' (by omega), nI_lt (by omega) (by omega)⟩] at z; exact absurd z (by decide)))
  have hp : N 44 < 64 := Nat.lt_of_lt_of_le K.2.2.2.2.1 (pw64 k31)
  have hv9 := (K.2.2.2.1 B9 h9).1
  refine a_al0 fM_pay_19 ?_
  refine a_gf fM_pay_20 l_M_7 M0 rfl ?_
  refine a_ic fM_pay_23 ?_
  refine a_il1 fM_pay_25 ?_
  refine a_iadd fM_pay_26 ?_
  refine a_ia fM_pay_27 M1 (nI_add 32 _) (by omega) (by decide) ?_
  refine a_is2 fM_pay_28 (by decide) rfl ?_
  refine a_al0 fM_pay_29 ?_
  refine a_il1 fM_pay_30 ?_
  refine a_V1V fM_pay_31 k_M_155 m_M_isPaid ⟨by decide, by decide⟩ M0 rfl ⟨rfl, rfl⟩ (Nat.le_of_ble_eq_true rfl) (c_MisPaid M0 M1 hp (by omega)) ?_
  refine a_if_ne fM_pay_34 (fun c_ => absurd (by rw [bI_f h6]) c_) (fun _ => ?_)
  refine a_al0 fM_pay_37 ?_
  refine a_al0 fM_pay_38 ?_
  refine a_gf fM_pay_39 l_M_7 M0 rfl ?_
  refine a_il2 fM_pay_42 ?_
  refine a_il2 fM_pay_43 ?_
  refine a_V3I fM_pay_44 k_M_126 m_M_canOf ⟨by decide, by decide⟩ M0 rfl ⟨rfl, rfl⟩ (Nat.le_of_ble_eq_true rfl) (c_McanOf M2 M1 (by decide) (by decide) O hv9 hv9) (fun r3 n3 h3 p3 => ?_)
  obtain ⟨hr3, hn3, M23, F3⟩ := p3
  subst n3
  have W3 := W1.l M23 F3
  have R3 := R1.of F3.f
  have M13 := R3.1.1
  have M63 : h3 69 = nA 3 Rf := (F3 69 (by decide) (by decide)).trans M6
  have M33 := M23
  obtain ⟨⟨th3, mn3, M03⟩, f3, M83⟩ := M33
  rw [hr3]
  refine a_if_ne fM_pay_47 (fun _ => ?_) (fun c_ => absurd c_ (fun z => by rw [bI_t h7] at z; exact absurd z (by decide)))
  have hz := K.2.2.1.2.2.2
  refine a_al0 fM_pay_56 ?_
  refine a_V0N fM_pay_57 k_M_146 m_M_notes ⟨by decide, by decide⟩ M03 rfl ⟨rfl, rfl⟩ (Nat.le_of_ble_eq_true rfl) (c_Mnotes M03 M13 hz) ?_
  have O4 := okC_nt O hz
  refine a_al0 fM_pay_60 ?_
  refine a_al0 fM_pay_61 ?_
  refine a_gf fM_pay_62 l_M_7 (up_n (by decide) M03) rfl ?_
  refine a_il2 fM_pay_65 ?_
  refine a_il2 fM_pay_66 ?_
  refine a_V3Q fM_pay_67 k_M_130 m_M_writes ⟨by decide, by decide⟩ (up_n (by decide) M03) rfl ⟨rfl, rfl⟩ (Nat.le_of_ble_eq_true rfl) (c_Mwrites (a := 64) (M23.up (by decide) (by decide)) up_s (by decide) (by decide) O4 hv9 hv9) (fun n5 h5 p5 => ?_)
  obtain ⟨hn5, M25, M15, F5⟩ := p5
  subst n5
  have F6 : mN h3 h5 := fun a a1 a2 a3 a4 => (F5 a a1 a4 a2).trans (up_n a2 rfl)
  have F7 : mN h1 h5 := F3.n.trans F6
  have e70 : h5 70 = nA 10 w1 := (F5 70 (by decide) (by decide) (by decide)).trans ((up_n (by decide) rfl).trans ((F3 70 (by decide) (by decide)).trans M7))
  have M35 := M25
  obtain ⟨⟨th5, mn5, M05⟩, f5, M85⟩ := M35
  refine a_al0 fM_pay_70 ?_
  refine a_gf fM_pay_71 l_M_7 M05 rfl ?_
  refine a_ic fM_pay_74 ?_
  refine a_dup2 fM_pay_76 rfl rfl ?_
  refine a_ia fM_pay_77 M15 (show (44 : Int32) = nI 44 from rfl) (by decide) (by decide) ?_
  have w4 : ∀ i, i < 20 ∨ 30 ≤ i ∧ i < 84 → wdN (ntN N) (sgn (N (32 + B9)) (N (32 + B9))) i = N i := fun i hi => (wd_44 (by omega)).trans (nt_lo (by omega) hz)
  rw [show nF (wdN (ntN N) (sgn (N (32 + B9)) (N (32 + B9)))) 44 = nI (N 44) from congrArg nI (w4 44 (by omega))]
  refine a_ic fM_pay_78 ?_
  refine a_il1 fM_pay_79 ?_
  refine a_ishl fM_pay_80 ?_
  refine a_ior fM_pay_81 ?_
  rw [sh6 B9 (by omega), nI_or]
  refine a_it fM_pay_82 M15 (show (44 : Int32) = nI 44 from rfl) (by decide) (by decide) ?_
  rw [upd_nF]
  refine a_al0 fM_pay_83 ?_
  refine a_gf fM_pay_84 l_M_7 (up_n (by decide) M05) rfl ?_
  refine a_ic fM_pay_87 ?_
  refine a_dup2 fM_pay_89 rfl rfl ?_
  refine a_ia fM_pay_90 up_s (show (45 : Int32) = nI 45 from rfl) (by decide) (by decide) ?_
  refine a_al0 fM_pay_91 ?_
  refine a_gf fM_pay_92 l_M_7 (up_n (by decide) M05) rfl ?_
  refine a_ic fM_pay_95 ?_
  refine a_il1 fM_pay_97 ?_
  refine a_iadd fM_pay_98 ?_
  refine a_ia fM_pay_99 up_s (nI_add 38 _) (by omega) (by decide) ?_
  refine a_iadd fM_pay_100 ?_
  rw [show nF (va_up (wdN (ntN N) (sgn (N (32 + B9)) (N (32 + B9)))) 44 (N 44 ||| 2 ^ B9)) 45 + nF (va_up (wdN (ntN N) (sgn (N (32 + B9)) (N (32 + B9)))) 44 (N 44 ||| 2 ^ B9)) (38 + B9) = nI (N 45 + N (38 + B9)) by rw [show nF (va_up (wdN (ntN N) (sgn (N (32 + B9)) (N (32 + B9)))) 44 (N 44 ||| 2 ^ B9)) 45 = nI (N 45) from congrArg nI ((vn (by omega)).trans (w4 45 (by omega))), show nF (va_up (wdN (ntN N) (sgn (N (32 + B9)) (N (32 + B9)))) 44 (N 44 ||| 2 ^ B9)) (38 + B9) = nI (N (38 + B9)) from congrArg nI ((vn (by omega)).trans (w4 (38 + B9) (by omega)))]; exact nI_add _ _]
  refine a_it fM_pay_101 up_s (show (45 : Int32) = nI 45 from rfl) (by decide) (by decide) ?_
  rw [bx_uu, upd_nF]
  refine a_al0 fM_pay_102 ?_
  refine a_gf fM_pay_103 l_M_7 (up_n (by decide) M05) rfl ?_
  refine a_ic fM_pay_106 ?_
  refine a_ia fM_pay_108 up_s (show (45 : Int32) = nI 45 from rfl) (by decide) (by decide) ?_
  exact a_ri fM_pay_109 rfl ⟨_, rfl, congrArg nI up_s, rfl, (F1.n.trans F7).up.c, ⟨nx, pl, tk, fa, M25.up (by decide) (by decide), w1, kw1, up_n (by decide) e70⟩, R1.nw (N2 := pyN N B9) (((z9_wd (z9_nt R1.1.2 hz)).up (by omega)).up (by omega)) up_s F7.up⟩
theorem m_night_bad {m : Int32} (X : MS h N I tn bt ab be rb rn rf) (hb : ¬ ((1 ≤ m ∧ m ≤ 60))) : fE M_M_night E [.ref 63, .int m] n h (qI (fun r k g => r = -2 ∧ k = n ∧ fC h g ∧ MS g N I tn bt ab be (rb + 1) rn rf)) := by
  obtain ⟨⟨nx, pl, tk, fa, ⟨⟨th, mn, m0⟩, f0, m8⟩, w0, kw0, m7⟩, R0⟩ := X
  refine fE.of (L := [some (.ref 63), some (.int (m)), none]) (by decide +kernel) (Nat.le_of_ble_eq_true rfl) rfl ?_
  refine a_al0 fM_night_0 ?_
  refine a_ic fM_night_1 ?_
  refine a_pfi0 fM_night_2 p_M_43 m0 ?_
  obtain ⟨h1, e1, W1, R1, F1⟩ := mThr m0 m8 kw0 m7 R0
  change fA _ _ _ _ (va_up h 63 (mO (nI tn, nx, pl, tk, fa, (nI ab).toInt64, (nI be).toInt64) 0 mn)) _ _ _ _ _
  rw [e1]
  clear e1 R0 m7 m8 m0
  have W2 := W1
  obtain ⟨M2, w1, kw1, M7⟩ := W2
  have M3 := M2
  obtain ⟨⟨th1, mn1, M0⟩, f1, M8⟩ := M3
  have M1 := R1.1.1
  obtain ⟨Rf, M6, r0, r1, r2⟩ := R1.2.2.2.2
  by_cases d0 : (1 ≤ m ∧ m ≤ 60)
  · exact absurd d0 hb
  · refine a_il1 fM_night_5 ?_
    refine a_ic fM_night_6 ?_
    refine a_ic fM_night_7 ?_
    refine a_S3V fM_night_9 k_M_70 m_M_in ⟨by decide, by decide⟩ ⟨rfl, rfl⟩ (Nat.le_of_ble_eq_true rfl) (c_Min) ?_
    refine a_if_ne fM_night_12 (fun c_ => absurd (by rw [bI_f d0]) c_) (fun _ => ?_)
    refine a_al0 fM_night_15 ?_
    refine a_ic fM_night_16 ?_
    refine a_V1V fM_night_17 k_M_74 m_M_refuses ⟨by decide, by decide⟩ M0 rfl ⟨rfl, rfl⟩ (Nat.le_of_ble_eq_true rfl) (c_Mrefuses (w := 0) M0 M6 (by decide)) ?_
    exact a_ri fM_night_20 rfl (⟨_, rfl, rfl, rfl, F1.c.up (by decide), ⟨nx, pl, tk, fa, W1.up (by decide) (by decide) (by decide)⟩, R1.re0 M6 r0 r1 r2⟩)
theorem m_night {M9 : Nat} (X : MS h N I tn bt ab be rb rn rf) (K : okN N) (h9 : 1 ≤ M9 ∧ M9 ≤ 60) : fE M_M_night E [.ref 63, .int (nI M9)] n h (qI (fun r k g => r = nI (ngt M9 (ntN N) 30) ∧ k = n ∧ fC h g ∧ MS g (ngt M9 (ntN N)) I tn bt ab be rb rn rf)) := by
  have O := K.c
  have k31 := K.2.2.1.1
  obtain ⟨⟨nx, pl, tk, fa, ⟨⟨th, mn, m0⟩, f0, m8⟩, w0, kw0, m7⟩, R0⟩ := X
  refine fE.of (L := [some (.ref 63), some (.int (nI M9)), none]) (by decide +kernel) (Nat.le_of_ble_eq_true rfl) rfl ?_
  refine a_al0 fM_night_0 ?_
  refine a_ic fM_night_1 ?_
  refine a_pfi0 fM_night_2 p_M_43 m0 ?_
  obtain ⟨h1, e1, W1, R1, F1⟩ := mThr m0 m8 kw0 m7 R0
  change fA _ _ _ _ (va_up h 63 (mO (nI tn, nx, pl, tk, fa, (nI ab).toInt64, (nI be).toInt64) 0 mn)) _ _ _ _ _
  rw [e1]
  clear e1 R0 m7 m8 m0
  have W2 := W1
  obtain ⟨M2, w1, kw1, M7⟩ := W2
  have M3 := M2
  obtain ⟨⟨th1, mn1, M0⟩, f1, M8⟩ := M3
  have M1 := R1.1.1
  obtain ⟨Rf, M6, r0, r1, r2⟩ := R1.2.2.2.2
  refine a_il1 fM_night_5 ?_
  refine a_ic fM_night_6 ?_
  refine a_ic fM_night_7 ?_
  refine a_S3V fM_night_9 k_M_70 m_M_in ⟨by decide, by decide⟩ ⟨rfl, rfl⟩ (Nat.le_of_ble_eq_true rfl) (c_Min) ?_
  refine a_if_ne fM_night_12 (fun _ => ?_) (fun c_ => absurd c_ (fun z => by rw [bI_t ⟨nI_le (a := 1) (by omega) (by omega), nI_le (b := 60) (by omega) (by decide)⟩] at z; exact absurd z (by decide)))
  have hz := K.2.2.1.2.2.2
  refine a_al0 fM_night_21 ?_
  refine a_V0N fM_night_22 k_M_146 m_M_notes ⟨by decide, by decide⟩ M0 rfl ⟨rfl, rfl⟩ (Nat.le_of_ble_eq_true rfl) (c_Mnotes M0 M1 hz) ?_
  have loop : ∀ (j i : Nat) (B : Nat → Nat), i + j = M9 → ngt j B = ngt M9 (ntN N) → (∀ f, f < 10 → B f ≤ 5) → (∀ f, f < 10 → B (20 + f) ≤ 1000) → B 30 ≤ 9999 → fA M_M_night E (fZ M_M_night E (qI (fun r k g => r = nI (ngt M9 (ntN N) 30) ∧ k = n ∧ fC h g ∧ MS g (ngt M9 (ntN N)) I tn bt ab be rb rn rf))) n (va_up h1 64 (nA 189 B)) 0 0 27 [some (.ref 63), some (.int (nI M9)), some (.int (nI i))] [] := by
    intro j
    induction j with
    | zero =>
      intro i B hi hB b1 b2 b3
      have hB2 : B = ngt M9 (ntN N) := hB
      subst hB2
      refine a_il2 fM_night_27 ?_
      refine a_il1 fM_night_28 ?_
      refine a_ic_ge fM_night_29 (fun _ => ?_) (fun c_ => absurd (nI_le (by omega) (by omega)) c_)
      refine a_al0 fM_night_45 ?_
      refine a_gf fM_night_46 l_M_7 (up_n (by decide) M0) rfl ?_
      refine a_ic fM_night_49 ?_
      refine a_ia fM_night_51 up_s (show (30 : Int32) = nI 30 from rfl) (by decide) (by decide) ?_
      exact a_ri fM_night_52 rfl (⟨_, rfl, rfl, rfl, F1.n.up.c, ⟨nx, pl, tk, fa, W1.up (by decide) (by decide) (by decide)⟩, R1.now (z9_ngt _ (z9_nt R1.1.2 hz))⟩)
    | succ j ih =>
      intro i B hi hB b1 b2 b3
      refine a_il2 fM_night_27 ?_
      refine a_il1 fM_night_28 ?_
      refine a_ic_ge fM_night_29 (fun c_ => absurd c_ (nI_ge (by omega) (by omega))) (fun _ => ?_)
      refine a_al0 fM_night_32 ?_
      refine a_gf fM_night_33 l_M_7 (up_n (by decide) M0) rfl ?_
      refine a_S1N fM_night_36 k_M_133 m_M_sleeps ⟨by decide, by decide⟩ ⟨rfl, rfl⟩ (Nat.le_of_ble_eq_true rfl) (c_Msleeps (a := 64) up_s b1 b2 b3) ?_
      refine a_inc2 fM_night_39 (by decide) rfl ?_
      refine a_goto fM_night_42 ?_
      rw [bx_uu, nI_1]
      exact ih (i + 1) (ngt1 B) (by omega) hB (fun f hf => by unfold ngt1; rw [if_neg (by omega), if_neg (by omega)]; exact b1 f hf) (fun f hf => by unfold ngt1; rw [if_pos (by omega)]; have := b2 f hf; omega) (by unfold ngt1; rw [if_neg (by omega), if_pos rfl]; split <;> omega)
  have O4 := okC_nt O hz
  refine a_ic fM_night_25 ?_
  refine a_is2 fM_night_26 (by decide) rfl ?_
  exact loop M9 0 (ntN N) (by omega) rfl (fun f hf => (O4.1 f hf).1) (fun f hf => Nat.le_trans (O4.1 f hf).2.2 (by decide)) (by rw [nt_lo (by decide) hz]; exact K.2.1)
theorem m_undo_no (X : MS h N I tn bt ab be rb rn rf) (K : okN N) (h9 : N 84 = 0) : fE M_M_undo E [.ref 63] n h (qI (fun r k g => r = -3 ∧ k = n ∧ fC h g ∧ MS g N I tn bt ab be rb (rn + 1) rf)) := by
  have O := K.c
  have k31 := K.2.2.1.1
  obtain ⟨⟨nx, pl, tk, fa, ⟨⟨th, mn, m0⟩, f0, m8⟩, w0, kw0, m7⟩, R0⟩ := X
  refine fE.of (L := [some (.ref 63), none, none]) (by decide +kernel) (Nat.le_of_ble_eq_true rfl) rfl ?_
  refine a_al0 fM_undo_0 ?_
  refine a_ic fM_undo_1 ?_
  refine a_pfi0 fM_undo_2 p_M_43 m0 ?_
  obtain ⟨h1, e1, W1, R1, F1⟩ := mThr m0 m8 kw0 m7 R0
  change fA _ _ _ _ (va_up h 63 (mO (nI tn, nx, pl, tk, fa, (nI ab).toInt64, (nI be).toInt64) 0 mn)) _ _ _ _ _
  rw [e1]
  clear e1 R0 m7 m8 m0
  have W2 := W1
  obtain ⟨M2, w1, kw1, M7⟩ := W2
  have M3 := M2
  obtain ⟨⟨th1, mn1, M0⟩, f1, M8⟩ := M3
  have M1 := R1.1.1
  obtain ⟨Rf, M6, r0, r1, r2⟩ := R1.2.2.2.2
  refine a_al0 fM_undo_5 ?_
  refine a_gf fM_undo_6 l_M_7 M0 rfl ?_
  refine a_ic fM_undo_9 ?_
  refine a_ia fM_undo_11 M1 (show (84 : Int32) = nI 84 from rfl) (by decide) (by decide) ?_
  refine a_if_ne fM_undo_12 (fun c_ => absurd (congrArg nI h9) c_) (fun _ => ?_)
  refine a_al0 fM_undo_15 ?_
  refine a_ic fM_undo_16 ?_
  refine a_V1V fM_undo_17 k_M_74 m_M_refuses ⟨by decide, by decide⟩ M0 rfl ⟨rfl, rfl⟩ (Nat.le_of_ble_eq_true rfl) (c_Mrefuses (w := 1) M0 M6 (by decide)) ?_
  exact a_ri fM_undo_20 rfl (⟨_, rfl, rfl, rfl, F1.c.up (by decide), ⟨nx, pl, tk, fa, W1.up (by decide) (by decide) (by decide)⟩, R1.re1 M6 r0 r1 r2⟩)
theorem m_undo (X : MS h N I tn bt ab be rb rn rf) (K : okN N) (h9 : 0 < N 84) : fE M_M_undo E [.ref 63] n h (qI (fun r k g => r = nI (unN N 30) ∧ k = n ∧ fC h g ∧ MS g (unN N) I tn bt ab be rb rn rf)) := by
  have O := K.c
  have k31 := K.2.2.1.1
  obtain ⟨⟨nx, pl, tk, fa, ⟨⟨th, mn, m0⟩, f0, m8⟩, w0, kw0, m7⟩, R0⟩ := X
  refine fE.of (L := [some (.ref 63), none, none]) (by decide +kernel) (Nat.le_of_ble_eq_true rfl) rfl ?_
  refine a_al0 fM_undo_0 ?_
  refine a_ic fM_undo_1 ?_
  refine a_pfi0 fM_undo_2 p_M_43 m0 ?_
  obtain ⟨h1, e1, W1, R1, F1⟩ := mThr m0 m8 kw0 m7 R0
  change fA _ _ _ _ (va_up h 63 (mO (nI tn, nx, pl, tk, fa, (nI ab).toInt64, (nI be).toInt64) 0 mn)) _ _ _ _ _
  rw [e1]
  clear e1 R0 m7 m8 m0
  have W2 := W1
  obtain ⟨M2, w1, kw1, M7⟩ := W2
  have M3 := M2
  obtain ⟨⟨th1, mn1, M0⟩, f1, M8⟩ := M3
  have M1 := R1.1.1
  obtain ⟨Rf, M6, r0, r1, r2⟩ := R1.2.2.2.2
  have hz := K.2.2.1.2.2.2
  refine a_al0 fM_undo_5 ?_
  refine a_gf fM_undo_6 l_M_7 M0 rfl ?_
  refine a_ic fM_undo_9 ?_
  refine a_ia fM_undo_11 M1 (show (84 : Int32) = nI 84 from rfl) (by decide) (by decide) ?_
  refine a_if_ne fM_undo_12 (fun _ => ?_) (fun c_ => absurd c_ (nI_ne0 h9 (by omega)))
  refine a_al0 fM_undo_21 ?_
  refine a_gf fM_undo_22 l_M_7 M0 rfl ?_
  refine a_ic fM_undo_25 ?_
  refine a_dup2 fM_undo_27 rfl rfl ?_
  refine a_ia fM_undo_28 M1 (show (84 : Int32) = nI 84 from rfl) (by decide) (by decide) ?_
  refine a_ic fM_undo_29 ?_
  refine a_isub fM_undo_30 ?_
  refine a_it fM_undo_31 M1 (show (84 : Int32) = nI 84 from rfl) (by decide) (by decide) ?_
  refine fA.ud (v := N 84 - 1) (F2 := va_up N 84 (N 84 - 1)) (pk_sub (b := 1) (by omega)) (fun j => rfl) ?_
  refine a_ic fM_undo_32 ?_
  refine a_ic fM_undo_34 ?_
  refine a_al0 fM_undo_36 ?_
  refine a_gf fM_undo_37 l_M_7 (up_n (by decide) M0) rfl ?_
  refine a_ic fM_undo_40 ?_
  refine a_ia fM_undo_42 up_s (show (84 : Int32) = nI 84 from rfl) (by decide) (by decide) ?_
  refine a_imul fM_undo_43 ?_
  rw [show (13 : Int32) * nF (va_up N 84 (N 84 - 1)) 84 = nI (13 * (N 84 - 1)) by rw [show nF (va_up N 84 (N 84 - 1)) 84 = nI (N 84 - 1) from congrArg nI up_s]; exact pk_mul 13 _]
  refine a_iadd fM_undo_44 ?_
  rw [show (85 : Int32) + nI (13 * (N 84 - 1)) = nI (85 + 13 * (N 84 - 1)) from nI_add 85 _]
  refine a_is1 fM_undo_45 (by decide) rfl ?_
  refine a_ic fM_undo_46 ?_
  refine a_is2 fM_undo_47 (by decide) rfl ?_
  have loop : ∀ (j i : Nat), i + j = 10 → fA M_M_undo E (fZ M_M_undo E (qI (fun r k g => r = nI (unN N 30) ∧ k = n ∧ fC h g ∧ MS g (unN N) I tn bt ab be rb rn rf))) n (va_up h1 64 (nA 189 (unP (va_up N 84 (N 84 - 1)) (85 + 13 * (N 84 - 1)) i))) 0 0 48 [some (.ref 63), some (.int (nI (85 + 13 * (N 84 - 1)))), some (.int (nI i))] [] := by
    intro j
    induction j with
    | zero =>
      intro i hi
      obtain rfl : i = 10 := by omega
      refine a_il2 fM_undo_48 ?_
      refine a_ic fM_undo_49 ?_
      refine a_ic_ge fM_undo_51 (fun _ => ?_) (fun c_ => absurd (Int32.le_refl _) c_)
      refine a_al0 fM_undo_77 ?_
      refine a_gf fM_undo_78 l_M_7 (up_n (by decide) M0) rfl ?_
      refine a_ic fM_undo_81 ?_
      refine a_al0 fM_undo_83 ?_
      refine a_gf fM_undo_84 l_M_7 (up_n (by decide) M0) rfl ?_
      refine a_il1 fM_undo_87 ?_
      refine a_ic fM_undo_88 ?_
      refine a_iadd fM_undo_90 ?_
      refine a_ia fM_undo_91 up_s (show nI (85 + 13 * (N 84 - 1)) + 10 = nI (85 + 13 * (N 84 - 1) + 10) from nI_add _ 10) (by omega) (by decide) ?_
      refine a_it fM_undo_92 up_s (show (30 : Int32) = nI 30 from rfl) (by decide) (by decide) ?_
      rw [bx_uu]
      refine fA.ud (v := N (95 + 13 * (N 84 - 1))) (F2 := va_up (unP (va_up N 84 (N 84 - 1)) (85 + 13 * (N 84 - 1)) 10) 30 (N (95 + 13 * (N 84 - 1)))) (congrArg nI (by unfold unP va_up; grind)) (fun j => rfl) ?_
      refine a_al0 fM_undo_93 ?_
      refine a_gf fM_undo_94 l_M_7 (up_n (by decide) M0) rfl ?_
      refine a_ic fM_undo_97 ?_
      refine a_al0 fM_undo_99 ?_
      refine a_gf fM_undo_100 l_M_7 (up_n (by decide) M0) rfl ?_
      refine a_il1 fM_undo_103 ?_
      refine a_ic fM_undo_104 ?_
      refine a_iadd fM_undo_106 ?_
      refine a_ia fM_undo_107 up_s (show nI (85 + 13 * (N 84 - 1)) + 11 = nI (85 + 13 * (N 84 - 1) + 11) from nI_add _ 11) (by omega) (by decide) ?_
      refine a_it fM_undo_108 up_s (show (44 : Int32) = nI 44 from rfl) (by decide) (by decide) ?_
      rw [bx_uu]
      refine fA.ud (v := N (96 + 13 * (N 84 - 1))) (F2 := va_up (va_up (unP (va_up N 84 (N 84 - 1)) (85 + 13 * (N 84 - 1)) 10) 30 (N (95 + 13 * (N 84 - 1)))) 44 (N (96 + 13 * (N 84 - 1)))) (congrArg nI (by unfold unP va_up; grind)) (fun j => rfl) ?_
      refine a_al0 fM_undo_109 ?_
      refine a_gf fM_undo_110 l_M_7 (up_n (by decide) M0) rfl ?_
      refine a_ic fM_undo_113 ?_
      refine a_al0 fM_undo_115 ?_
      refine a_gf fM_undo_116 l_M_7 (up_n (by decide) M0) rfl ?_
      refine a_il1 fM_undo_119 ?_
      refine a_ic fM_undo_120 ?_
      refine a_iadd fM_undo_122 ?_
      refine a_ia fM_undo_123 up_s (show nI (85 + 13 * (N 84 - 1)) + 12 = nI (85 + 13 * (N 84 - 1) + 12) from nI_add _ 12) (by omega) (by decide) ?_
      refine a_it fM_undo_124 up_s (show (45 : Int32) = nI 45 from rfl) (by decide) (by decide) ?_
      rw [bx_uu]
      refine fA.ud (v := N (97 + 13 * (N 84 - 1))) (F2 := unN N) (congrArg nI (by unfold unP va_up; grind)) (fun j => by unfold unN unP va_up; grind) ?_
      refine a_al0 fM_undo_125 ?_
      refine a_gf fM_undo_126 l_M_7 (up_n (by decide) M0) rfl ?_
      refine a_ic fM_undo_129 ?_
      refine a_ia fM_undo_131 up_s (show (30 : Int32) = nI 30 from rfl) (by decide) (by decide) ?_
      exact a_ri fM_undo_132 rfl (⟨_, rfl, rfl, rfl, F1.n.up.c, ⟨nx, pl, tk, fa, W1.up (by decide) (by decide) (by decide)⟩, R1.now (z9_un R1.1.2)⟩)
    | succ j ih =>
      intro i hi
      refine a_il2 fM_undo_48 ?_
      refine a_ic fM_undo_49 ?_
      refine a_ic_ge fM_undo_51 (fun c_ => absurd c_ (nI_ge (b := 10) (by omega) (by decide))) (fun _ => ?_)
      refine a_al0 fM_undo_54 ?_
      refine a_gf fM_undo_55 l_M_7 (up_n (by decide) M0) rfl ?_
      refine a_ic fM_undo_58 ?_
      refine a_il2 fM_undo_60 ?_
      refine a_iadd fM_undo_61 ?_
      refine a_al0 fM_undo_62 ?_
      refine a_gf fM_undo_63 l_M_7 (up_n (by decide) M0) rfl ?_
      refine a_il1 fM_undo_66 ?_
      refine a_il2 fM_undo_67 ?_
      refine a_iadd fM_undo_68 ?_
      refine a_ia fM_undo_69 up_s (show nI (85 + 13 * (N 84 - 1)) + nI i = nI (85 + 13 * (N 84 - 1) + i) from nI_add _ _) (by omega) (by decide) ?_
      refine a_it fM_undo_70 up_s (nI_add 20 _) (by omega) (by decide) ?_
      refine a_inc2 fM_undo_71 (by decide) rfl ?_
      refine a_goto fM_undo_74 ?_
      rw [bx_uu, nI_1]
      refine fA.ud (v := va_up N 84 (N 84 - 1) (85 + 13 * (N 84 - 1) + i)) (F2 := unP (va_up N 84 (N 84 - 1)) (85 + 13 * (N 84 - 1)) (i + 1)) (congrArg nI (by unfold unP; rw [if_neg (by omega)])) (fun j => by unfold unP; grind) ?_
      exact ih (i + 1) (by omega)
  have := loop 10 0 (by omega)
  rw [show unP (va_up N 84 (N 84 - 1)) (85 + 13 * (N 84 - 1)) 0 = va_up N 84 (N 84 - 1) from funext (fun y => by unfold unP; rw [if_neg (by omega)])] at this
  exact this
theorem m_of_bad {f w : Int32} (X : MS h N I tn bt ab be rb rn rf) (hb : ¬ ((0 ≤ f ∧ f ≤ 9) ∧ (0 ≤ w ∧ w ≤ 4))) : fE M_M_of E [.ref 63, .int f, .int w] n h (qI (fun r k g => r = -2 ∧ k = n ∧ fC h g ∧ MS g N I tn bt ab be (rb + 1) rn rf)) := by
  obtain ⟨⟨nx, pl, tk, fa, ⟨⟨th, mn, m0⟩, f0, m8⟩, w0, kw0, m7⟩, R0⟩ := X
  refine fE.of (L := [some (.ref 63), some (.int (f)), some (.int (w))]) (by decide +kernel) (Nat.le_of_ble_eq_true rfl) rfl ?_
  refine a_al0 fM_of_0 ?_
  refine a_ic fM_of_1 ?_
  refine a_pfi0 fM_of_2 p_M_43 m0 ?_
  obtain ⟨h1, e1, W1, R1, F1⟩ := mThr m0 m8 kw0 m7 R0
  change fA _ _ _ _ (va_up h 63 (mO (nI tn, nx, pl, tk, fa, (nI ab).toInt64, (nI be).toInt64) 0 mn)) _ _ _ _ _
  rw [e1]
  clear e1 R0 m7 m8 m0
  have W2 := W1
  obtain ⟨M2, w1, kw1, M7⟩ := W2
  have M3 := M2
  obtain ⟨⟨th1, mn1, M0⟩, f1, M8⟩ := M3
  have M1 := R1.1.1
  obtain ⟨Rf, M6, r0, r1, r2⟩ := R1.2.2.2.2
  by_cases d0 : (0 ≤ f ∧ f ≤ 9)
  · refine a_il1 fM_of_5 ?_
    refine a_ic fM_of_6 ?_
    refine a_ic fM_of_7 ?_
    refine a_S3V fM_of_9 k_M_70 m_M_in ⟨by decide, by decide⟩ ⟨rfl, rfl⟩ (Nat.le_of_ble_eq_true rfl) (c_Min) ?_
    refine a_if_eq fM_of_12 (fun c_ => absurd c_ (fun z => by rw [bI_t d0] at z; exact absurd z (by decide))) (fun _ => ?_)
    by_cases d1 : (0 ≤ w ∧ w ≤ 4)
    · exact absurd ⟨d0, d1⟩ hb
    · refine a_il2 fM_of_15 ?_
      refine a_ic fM_of_16 ?_
      refine a_ic fM_of_17 ?_
      refine a_S3V fM_of_18 k_M_70 m_M_in ⟨by decide, by decide⟩ ⟨rfl, rfl⟩ (Nat.le_of_ble_eq_true rfl) (c_Min) ?_
      refine a_if_ne fM_of_21 (fun c_ => absurd (by rw [bI_f d1]) c_) (fun _ => ?_)
      refine a_al0 fM_of_24 ?_
      refine a_ic fM_of_25 ?_
      refine a_V1V fM_of_26 k_M_74 m_M_refuses ⟨by decide, by decide⟩ M0 rfl ⟨rfl, rfl⟩ (Nat.le_of_ble_eq_true rfl) (c_Mrefuses (w := 0) M0 M6 (by decide)) ?_
      exact a_ri fM_of_29 rfl (⟨_, rfl, rfl, rfl, F1.c.up (by decide), ⟨nx, pl, tk, fa, W1.up (by decide) (by decide) (by decide)⟩, R1.re0 M6 r0 r1 r2⟩)
  · refine a_il1 fM_of_5 ?_
    refine a_ic fM_of_6 ?_
    refine a_ic fM_of_7 ?_
    refine a_S3V fM_of_9 k_M_70 m_M_in ⟨by decide, by decide⟩ ⟨rfl, rfl⟩ (Nat.le_of_ble_eq_true rfl) (c_Min) ?_
    refine a_if_eq fM_of_12 (fun _ => ?_) (fun c_ => absurd (by rw [bI_f d0]) c_)
    refine a_al0 fM_of_24 ?_
    refine a_ic fM_of_25 ?_
    refine a_V1V fM_of_26 k_M_74 m_M_refuses ⟨by decide, by decide⟩ M0 rfl ⟨rfl, rfl⟩ (Nat.le_of_ble_eq_true rfl) (c_Mrefuses (w := 0) M0 M6 (by decide)) ?_
    exact a_ri fM_of_29 rfl (⟨_, rfl, rfl, rfl, F1.c.up (by decide), ⟨nx, pl, tk, fa, W1.up (by decide) (by decide) (by decide)⟩, R1.re0 M6 r0 r1 r2⟩)
theorem m_of0 {F9 : Nat} (X : MS h N I tn bt ab be rb rn rf) (K : okN N) (h9 : F9 < 10) : fE M_M_of E [.ref 63, .int (nI F9), .int (nI 0)] n h (qI (fun r k g => r = nI (N F9) ∧ k = n ∧ fC h g ∧ MS g N I tn bt ab be rb rn rf)) := by
  have O := K.c
  have k31 := K.2.2.1.1
  obtain ⟨⟨nx, pl, tk, fa, ⟨⟨th, mn, m0⟩, f0, m8⟩, w0, kw0, m7⟩, R0⟩ := X
  refine fE.of (L := [some (.ref 63), some (.int (nI F9)), some (.int (nI 0))]) (by decide +kernel) (Nat.le_of_ble_eq_true rfl) rfl ?_
  refine a_al0 fM_of_0 ?_
  refine a_ic fM_of_1 ?_
  refine a_pfi0 fM_of_2 p_M_43 m0 ?_
  obtain ⟨h1, e1, W1, R1, F1⟩ := mThr m0 m8 kw0 m7 R0
  change fA _ _ _ _ (va_up h 63 (mO (nI tn, nx, pl, tk, fa, (nI ab).toInt64, (nI be).toInt64) 0 mn)) _ _ _ _ _
  rw [e1]
  clear e1 R0 m7 m8 m0
  have W2 := W1
  obtain ⟨M2, w1, kw1, M7⟩ := W2
  have M3 := M2
  obtain ⟨⟨th1, mn1, M0⟩, f1, M8⟩ := M3
  have M1 := R1.1.1
  obtain ⟨Rf, M6, r0, r1, r2⟩ := R1.2.2.2.2
  refine a_il1 fM_of_5 ?_
  refine a_ic fM_of_6 ?_
  refine a_ic fM_of_7 ?_
  refine a_S3V fM_of_9 k_M_70 m_M_in ⟨by decide, by decide⟩ ⟨rfl, rfl⟩ (Nat.le_of_ble_eq_true rfl) (c_Min) ?_
  refine a_if_eq fM_of_12 (fun c_ => absurd c_ (fun z => by rw [bI_t ⟨nI_pos' (by omega), nI_le (b := 9) (by omega) (by decide)⟩] at z; exact absurd z (by decide))) (fun _ => ?_)
  refine a_il2 fM_of_15 ?_
  refine a_ic fM_of_16 ?_
  refine a_ic fM_of_17 ?_
  refine a_S3V fM_of_18 k_M_70 m_M_in ⟨by decide, by decide⟩ ⟨rfl, rfl⟩ (Nat.le_of_ble_eq_true rfl) (c_Min) ?_
  refine a_if_ne fM_of_21 (fun _ => ?_) (fun c_ => absurd c_ (by decide))
  refine a_il2 fM_of_30 ?_
  refine a_ic fM_of_31 ?_
  refine a_ic_ge fM_of_32 (fun c_ => absurd c_ (by decide)) (fun _ => ?_)
  refine a_il2 fM_of_35 ?_
  refine a_if_ne fM_of_36 (fun c_ => absurd (by decide) c_) (fun _ => ?_)
  refine a_al0 fM_of_39 ?_
  refine a_gf fM_of_40 l_M_7 M0 rfl ?_
  refine a_ic fM_of_43 ?_
  refine a_il1 fM_of_44 ?_
  refine a_iadd fM_of_45 ?_
  refine a_ia fM_of_46 M1 (Int32.zero_add _) (by omega) (by decide) ?_
  refine a_goto fM_of_47 ?_
  exact a_ri fM_of_76 rfl (⟨_, rfl, rfl, rfl, F1.c, ⟨nx, pl, tk, fa, W1⟩, R1⟩)
theorem m_of1 {F9 : Nat} (X : MS h N I tn bt ab be rb rn rf) (K : okN N) (h9 : F9 < 10) : fE M_M_of E [.ref 63, .int (nI F9), .int (nI 1)] n h (qI (fun r k g => r = nI (N (10 + F9)) ∧ k = n ∧ fC h g ∧ MS g N I tn bt ab be rb rn rf)) := by
  have O := K.c
  have k31 := K.2.2.1.1
  obtain ⟨⟨nx, pl, tk, fa, ⟨⟨th, mn, m0⟩, f0, m8⟩, w0, kw0, m7⟩, R0⟩ := X
  refine fE.of (L := [some (.ref 63), some (.int (nI F9)), some (.int (nI 1))]) (by decide +kernel) (Nat.le_of_ble_eq_true rfl) rfl ?_
  refine a_al0 fM_of_0 ?_
  refine a_ic fM_of_1 ?_
  refine a_pfi0 fM_of_2 p_M_43 m0 ?_
  obtain ⟨h1, e1, W1, R1, F1⟩ := mThr m0 m8 kw0 m7 R0
  change fA _ _ _ _ (va_up h 63 (mO (nI tn, nx, pl, tk, fa, (nI ab).toInt64, (nI be).toInt64) 0 mn)) _ _ _ _ _
  rw [e1]
  clear e1 R0 m7 m8 m0
  have W2 := W1
  obtain ⟨M2, w1, kw1, M7⟩ := W2
  have M3 := M2
  obtain ⟨⟨th1, mn1, M0⟩, f1, M8⟩ := M3
  have M1 := R1.1.1
  obtain ⟨Rf, M6, r0, r1, r2⟩ := R1.2.2.2.2
  refine a_il1 fM_of_5 ?_
  refine a_ic fM_of_6 ?_
  refine a_ic fM_of_7 ?_
  refine a_S3V fM_of_9 k_M_70 m_M_in ⟨by decide, by decide⟩ ⟨rfl, rfl⟩ (Nat.le_of_ble_eq_true rfl) (c_Min) ?_
  refine a_if_eq fM_of_12 (fun c_ => absurd c_ (fun z => by rw [bI_t ⟨nI_pos' (by omega), nI_le (b := 9) (by omega) (by decide)⟩] at z; exact absurd z (by decide))) (fun _ => ?_)
  refine a_il2 fM_of_15 ?_
  refine a_ic fM_of_16 ?_
  refine a_ic fM_of_17 ?_
  refine a_S3V fM_of_18 k_M_70 m_M_in ⟨by decide, by decide⟩ ⟨rfl, rfl⟩ (Nat.le_of_ble_eq_true rfl) (c_Min) ?_
  refine a_if_ne fM_of_21 (fun _ => ?_) (fun c_ => absurd c_ (by decide))
  refine a_il2 fM_of_30 ?_
  refine a_ic fM_of_31 ?_
  refine a_ic_ge fM_of_32 (fun c_ => absurd c_ (by decide)) (fun _ => ?_)
  refine a_il2 fM_of_35 ?_
  refine a_if_ne fM_of_36 (fun _ => ?_) (fun c_ => absurd c_ (by decide))
  refine a_il2 fM_of_50 ?_
  refine a_ic fM_of_51 ?_
  refine a_ic_ne fM_of_52 (fun c_ => absurd (by decide) c_) (fun _ => ?_)
  refine a_al0 fM_of_55 ?_
  refine a_gf fM_of_56 l_M_7 M0 rfl ?_
  refine a_ic fM_of_59 ?_
  refine a_il1 fM_of_61 ?_
  refine a_iadd fM_of_62 ?_
  refine a_ia fM_of_63 M1 (nI_add 10 _) (by omega) (by decide) ?_
  refine a_goto fM_of_64 ?_
  exact a_ri fM_of_76 rfl (⟨_, rfl, rfl, rfl, F1.c, ⟨nx, pl, tk, fa, W1⟩, R1⟩)
theorem m_of2 {F9 : Nat} (X : MS h N I tn bt ab be rb rn rf) (K : okN N) (h9 : F9 < 10) : fE M_M_of E [.ref 63, .int (nI F9), .int (nI 2)] n h (qI (fun r k g => r = nI (N (20 + F9)) ∧ k = n ∧ fC h g ∧ MS g N I tn bt ab be rb rn rf)) := by
  have O := K.c
  have k31 := K.2.2.1.1
  obtain ⟨⟨nx, pl, tk, fa, ⟨⟨th, mn, m0⟩, f0, m8⟩, w0, kw0, m7⟩, R0⟩ := X
  refine fE.of (L := [some (.ref 63), some (.int (nI F9)), some (.int (nI 2))]) (by decide +kernel) (Nat.le_of_ble_eq_true rfl) rfl ?_
  refine a_al0 fM_of_0 ?_
  refine a_ic fM_of_1 ?_
  refine a_pfi0 fM_of_2 p_M_43 m0 ?_
  obtain ⟨h1, e1, W1, R1, F1⟩ := mThr m0 m8 kw0 m7 R0
  change fA _ _ _ _ (va_up h 63 (mO (nI tn, nx, pl, tk, fa, (nI ab).toInt64, (nI be).toInt64) 0 mn)) _ _ _ _ _
  rw [e1]
  clear e1 R0 m7 m8 m0
  have W2 := W1
  obtain ⟨M2, w1, kw1, M7⟩ := W2
  have M3 := M2
  obtain ⟨⟨th1, mn1, M0⟩, f1, M8⟩ := M3
  have M1 := R1.1.1
  obtain ⟨Rf, M6, r0, r1, r2⟩ := R1.2.2.2.2
  refine a_il1 fM_of_5 ?_
  refine a_ic fM_of_6 ?_
  refine a_ic fM_of_7 ?_
  refine a_S3V fM_of_9 k_M_70 m_M_in ⟨by decide, by decide⟩ ⟨rfl, rfl⟩ (Nat.le_of_ble_eq_true rfl) (c_Min) ?_
  refine a_if_eq fM_of_12 (fun c_ => absurd c_ (fun z => by rw [bI_t ⟨nI_pos' (by omega), nI_le (b := 9) (by omega) (by decide)⟩] at z; exact absurd z (by decide))) (fun _ => ?_)
  refine a_il2 fM_of_15 ?_
  refine a_ic fM_of_16 ?_
  refine a_ic fM_of_17 ?_
  refine a_S3V fM_of_18 k_M_70 m_M_in ⟨by decide, by decide⟩ ⟨rfl, rfl⟩ (Nat.le_of_ble_eq_true rfl) (c_Min) ?_
  refine a_if_ne fM_of_21 (fun _ => ?_) (fun c_ => absurd c_ (by decide))
  refine a_il2 fM_of_30 ?_
  refine a_ic fM_of_31 ?_
  refine a_ic_ge fM_of_32 (fun c_ => absurd c_ (by decide)) (fun _ => ?_)
  refine a_il2 fM_of_35 ?_
  refine a_if_ne fM_of_36 (fun _ => ?_) (fun c_ => absurd c_ (by decide))
  refine a_il2 fM_of_50 ?_
  refine a_ic fM_of_51 ?_
  refine a_ic_ne fM_of_52 (fun _ => ?_) (fun c_ => absurd c_ (by decide))
  refine a_al0 fM_of_67 ?_
  refine a_gf fM_of_68 l_M_7 M0 rfl ?_
  refine a_ic fM_of_71 ?_
  refine a_il1 fM_of_73 ?_
  refine a_iadd fM_of_74 ?_
  refine a_ia fM_of_75 M1 (nI_add 20 _) (by omega) (by decide) ?_
  exact a_ri fM_of_76 rfl (⟨_, rfl, rfl, rfl, F1.c, ⟨nx, pl, tk, fa, W1⟩, R1⟩)
theorem m_of3 {F9 : Nat} (X : MS h N I tn bt ab be rb rn rf) (K : okN N) (h9 : F9 < 10) : fE M_M_of E [.ref 63, .int (nI F9), .int (nI 3)] n h (qI (fun r k g => r = nI (if N (10 + F9) < N (20 + F9) then 0 else if wr (N F9) 0 (N 30) = 0 ∨ 99 < (N (10 + F9) - N (20 + F9)) / wr (N F9) 0 (N 30) then 99 else (N (10 + F9) - N (20 + F9)) / wr (N F9) 0 (N 30)) ∧ k = n ∧ fC h g ∧ MS g N I tn bt ab be rb rn rf)) := by
  have O := K.c
  have k31 := K.2.2.1.1
  obtain ⟨⟨nx, pl, tk, fa, ⟨⟨th, mn, m0⟩, f0, m8⟩, w0, kw0, m7⟩, R0⟩ := X
  refine fE.of (L := [some (.ref 63), some (.int (nI F9)), some (.int (nI 3))]) (by decide +kernel) (Nat.le_of_ble_eq_true rfl) rfl ?_
  refine a_al0 fM_of_0 ?_
  refine a_ic fM_of_1 ?_
  refine a_pfi0 fM_of_2 p_M_43 m0 ?_
  obtain ⟨h1, e1, W1, R1, F1⟩ := mThr m0 m8 kw0 m7 R0
  change fA _ _ _ _ (va_up h 63 (mO (nI tn, nx, pl, tk, fa, (nI ab).toInt64, (nI be).toInt64) 0 mn)) _ _ _ _ _
  rw [e1]
  clear e1 R0 m7 m8 m0
  have W2 := W1
  obtain ⟨M2, w1, kw1, M7⟩ := W2
  have M3 := M2
  obtain ⟨⟨th1, mn1, M0⟩, f1, M8⟩ := M3
  have M1 := R1.1.1
  obtain ⟨Rf, M6, r0, r1, r2⟩ := R1.2.2.2.2
  refine a_il1 fM_of_5 ?_
  refine a_ic fM_of_6 ?_
  refine a_ic fM_of_7 ?_
  refine a_S3V fM_of_9 k_M_70 m_M_in ⟨by decide, by decide⟩ ⟨rfl, rfl⟩ (Nat.le_of_ble_eq_true rfl) (c_Min) ?_
  refine a_if_eq fM_of_12 (fun c_ => absurd c_ (fun z => by rw [bI_t ⟨nI_pos' (by omega), nI_le (b := 9) (by omega) (by decide)⟩] at z; exact absurd z (by decide))) (fun _ => ?_)
  refine a_il2 fM_of_15 ?_
  refine a_ic fM_of_16 ?_
  refine a_ic fM_of_17 ?_
  refine a_S3V fM_of_18 k_M_70 m_M_in ⟨by decide, by decide⟩ ⟨rfl, rfl⟩ (Nat.le_of_ble_eq_true rfl) (c_Min) ?_
  refine a_if_ne fM_of_21 (fun _ => ?_) (fun c_ => absurd c_ (by decide))
  refine a_il2 fM_of_30 ?_
  refine a_ic fM_of_31 ?_
  refine a_ic_ge fM_of_32 (fun _ => ?_) (fun c_ => absurd (by decide) c_)
  refine a_il2 fM_of_77 ?_
  refine a_ic fM_of_78 ?_
  refine a_ic_ne fM_of_79 (fun c_ => absurd (by decide) c_) (fun _ => ?_)
  refine a_al0 fM_of_82 ?_
  refine a_il1 fM_of_83 ?_
  refine a_V1V fM_of_84 k_M_158 m_M_leftOf ⟨by decide, by decide⟩ M0 rfl ⟨rfl, rfl⟩ (Nat.le_of_ble_eq_true rfl) (c_MleftOf M0 M1 O h9) ?_
  refine a_goto fM_of_87 ?_
  exact a_ri fM_of_110 rfl (⟨_, rfl, rfl, rfl, F1.c, ⟨nx, pl, tk, fa, W1⟩, R1⟩)
theorem m_of4 {F9 : Nat} (X : MS h N I tn bt ab be rb rn rf) (K : okN N) (h9 : F9 < 10) : fE M_M_of E [.ref 63, .int (nI F9), .int (nI 4)] n h (qI (fun r k g => r = nI (rst (N F9) (N (20 + F9))) ∧ k = n ∧ fC h g ∧ MS g N I tn bt ab be rb rn rf)) := by
  have O := K.c
  have k31 := K.2.2.1.1
  obtain ⟨⟨nx, pl, tk, fa, ⟨⟨th, mn, m0⟩, f0, m8⟩, w0, kw0, m7⟩, R0⟩ := X
  refine fE.of (L := [some (.ref 63), some (.int (nI F9)), some (.int (nI 4))]) (by decide +kernel) (Nat.le_of_ble_eq_true rfl) rfl ?_
  refine a_al0 fM_of_0 ?_
  refine a_ic fM_of_1 ?_
  refine a_pfi0 fM_of_2 p_M_43 m0 ?_
  obtain ⟨h1, e1, W1, R1, F1⟩ := mThr m0 m8 kw0 m7 R0
  change fA _ _ _ _ (va_up h 63 (mO (nI tn, nx, pl, tk, fa, (nI ab).toInt64, (nI be).toInt64) 0 mn)) _ _ _ _ _
  rw [e1]
  clear e1 R0 m7 m8 m0
  have W2 := W1
  obtain ⟨M2, w1, kw1, M7⟩ := W2
  have M3 := M2
  obtain ⟨⟨th1, mn1, M0⟩, f1, M8⟩ := M3
  have M1 := R1.1.1
  obtain ⟨Rf, M6, r0, r1, r2⟩ := R1.2.2.2.2
  refine a_il1 fM_of_5 ?_
  refine a_ic fM_of_6 ?_
  refine a_ic fM_of_7 ?_
  refine a_S3V fM_of_9 k_M_70 m_M_in ⟨by decide, by decide⟩ ⟨rfl, rfl⟩ (Nat.le_of_ble_eq_true rfl) (c_Min) ?_
  refine a_if_eq fM_of_12 (fun c_ => absurd c_ (fun z => by rw [bI_t ⟨nI_pos' (by omega), nI_le (b := 9) (by omega) (by decide)⟩] at z; exact absurd z (by decide))) (fun _ => ?_)
  refine a_il2 fM_of_15 ?_
  refine a_ic fM_of_16 ?_
  refine a_ic fM_of_17 ?_
  refine a_S3V fM_of_18 k_M_70 m_M_in ⟨by decide, by decide⟩ ⟨rfl, rfl⟩ (Nat.le_of_ble_eq_true rfl) (c_Min) ?_
  refine a_if_ne fM_of_21 (fun _ => ?_) (fun c_ => absurd c_ (by decide))
  refine a_il2 fM_of_30 ?_
  refine a_ic fM_of_31 ?_
  refine a_ic_ge fM_of_32 (fun _ => ?_) (fun c_ => absurd (by decide) c_)
  refine a_il2 fM_of_77 ?_
  refine a_ic fM_of_78 ?_
  refine a_ic_ne fM_of_79 (fun _ => ?_) (fun c_ => absurd c_ (by decide))
  refine a_al0 fM_of_90 ?_
  refine a_gf fM_of_91 l_M_7 M0 rfl ?_
  refine a_ic fM_of_94 ?_
  refine a_il1 fM_of_95 ?_
  refine a_iadd fM_of_96 ?_
  refine a_ia fM_of_97 M1 (Int32.zero_add _) (by omega) (by decide) ?_
  refine a_al0 fM_of_98 ?_
  refine a_gf fM_of_99 l_M_7 M0 rfl ?_
  refine a_ic fM_of_102 ?_
  refine a_il1 fM_of_104 ?_
  refine a_iadd fM_of_105 ?_
  refine a_ia fM_of_106 M1 (nI_add 20 _) (by omega) (by decide) ?_
  refine a_S2V fM_of_107 k_M_47 m_M_restOf ⟨by decide, by decide⟩ ⟨rfl, rfl⟩ (Nat.le_of_ble_eq_true rfl) (c_MrestOf (K := N F9) (w := N (20 + F9)) (O.1 F9 h9).1 (by have := (O.1 F9 h9).2.2; omega)) ?_
  exact a_ri fM_of_110 rfl (⟨_, rfl, rfl, rfl, F1.c, ⟨nx, pl, tk, fa, W1⟩, R1⟩)
theorem m_about_bad {b w : Int32} (X : MS h N I tn bt ab be rb rn rf) (K : okN N) (hb : ¬ ((0 ≤ b ∧ b < nI (N 31)) ∧ (0 ≤ w ∧ w ≤ 2))) : fE M_M_about E [.ref 63, .int b, .int w] n h (qI (fun r k g => r = -2 ∧ k = n ∧ fC h g ∧ MS g N I tn bt ab be (rb + 1) rn rf)) := by
  obtain ⟨⟨nx, pl, tk, fa, ⟨⟨th, mn, m0⟩, f0, m8⟩, w0, kw0, m7⟩, R0⟩ := X
  refine fE.of (L := [some (.ref 63), some (.int (b)), some (.int (w))]) (by decide +kernel) (Nat.le_of_ble_eq_true rfl) rfl ?_
  refine a_al0 fM_about_0 ?_
  refine a_ic fM_about_1 ?_
  refine a_pfi0 fM_about_2 p_M_43 m0 ?_
  obtain ⟨h1, e1, W1, R1, F1⟩ := mThr m0 m8 kw0 m7 R0
  change fA _ _ _ _ (va_up h 63 (mO (nI tn, nx, pl, tk, fa, (nI ab).toInt64, (nI be).toInt64) 0 mn)) _ _ _ _ _
  rw [e1]
  clear e1 R0 m7 m8 m0
  have W2 := W1
  obtain ⟨M2, w1, kw1, M7⟩ := W2
  have M3 := M2
  obtain ⟨⟨th1, mn1, M0⟩, f1, M8⟩ := M3
  have M1 := R1.1.1
  obtain ⟨Rf, M6, r0, r1, r2⟩ := R1.2.2.2.2
  by_cases d0 : (0 ≤ b ∧ b < nI (N 31))
  · refine a_al0 fM_about_5 ?_
    refine a_il1 fM_about_6 ?_
    refine a_V1V fM_about_7 k_M_152 m_M_isBill ⟨by decide, by decide⟩ M0 rfl ⟨rfl, rfl⟩ (Nat.le_of_ble_eq_true rfl) (c_MisBill M0 M1 K.2.2.1.1) ?_
    refine a_if_eq fM_about_10 (fun c_ => absurd c_ (fun z => by rw [bI_t d0] at z; exact absurd z (by decide))) (fun _ => ?_)
    by_cases d1 : (0 ≤ w ∧ w ≤ 2)
    · exact absurd ⟨d0, d1⟩ hb
    · refine a_il2 fM_about_13 ?_
      refine a_ic fM_about_14 ?_
      refine a_ic fM_about_15 ?_
      refine a_S3V fM_about_16 k_M_70 m_M_in ⟨by decide, by decide⟩ ⟨rfl, rfl⟩ (Nat.le_of_ble_eq_true rfl) (c_Min) ?_
      refine a_if_ne fM_about_19 (fun c_ => absurd (by rw [bI_f d1]) c_) (fun _ => ?_)
      refine a_al0 fM_about_22 ?_
      refine a_ic fM_about_23 ?_
      refine a_V1V fM_about_24 k_M_74 m_M_refuses ⟨by decide, by decide⟩ M0 rfl ⟨rfl, rfl⟩ (Nat.le_of_ble_eq_true rfl) (c_Mrefuses (w := 0) M0 M6 (by decide)) ?_
      exact a_ri fM_about_27 rfl (⟨_, rfl, rfl, rfl, F1.c.up (by decide), ⟨nx, pl, tk, fa, W1.up (by decide) (by decide) (by decide)⟩, R1.re0 M6 r0 r1 r2⟩)
  · refine a_al0 fM_about_5 ?_
    refine a_il1 fM_about_6 ?_
    refine a_V1V fM_about_7 k_M_152 m_M_isBill ⟨by decide, by decide⟩ M0 rfl ⟨rfl, rfl⟩ (Nat.le_of_ble_eq_true rfl) (c_MisBill M0 M1 K.2.2.1.1) ?_
    refine a_if_eq fM_about_10 (fun _ => ?_) (fun c_ => absurd (by rw [bI_f d0]) c_)
    refine a_al0 fM_about_22 ?_
    refine a_ic fM_about_23 ?_
    refine a_V1V fM_about_24 k_M_74 m_M_refuses ⟨by decide, by decide⟩ M0 rfl ⟨rfl, rfl⟩ (Nat.le_of_ble_eq_true rfl) (c_Mrefuses (w := 0) M0 M6 (by decide)) ?_
    exact a_ri fM_about_27 rfl (⟨_, rfl, rfl, rfl, F1.c.up (by decide), ⟨nx, pl, tk, fa, W1.up (by decide) (by decide) (by decide)⟩, R1.re0 M6 r0 r1 r2⟩)
theorem m_about0 {B9 : Nat} (X : MS h N I tn bt ab be rb rn rf) (K : okN N) (h9 : B9 < N 31) : fE M_M_about E [.ref 63, .int (nI B9), .int (nI 0)] n h (qI (fun r k g => r = nI (N (32 + B9)) ∧ k = n ∧ fC h g ∧ MS g N I tn bt ab be rb rn rf)) := by
  have O := K.c
  have k31 := K.2.2.1.1
  obtain ⟨⟨nx, pl, tk, fa, ⟨⟨th, mn, m0⟩, f0, m8⟩, w0, kw0, m7⟩, R0⟩ := X
  refine fE.of (L := [some (.ref 63), some (.int (nI B9)), some (.int (nI 0))]) (by decide +kernel) (Nat.le_of_ble_eq_true rfl) rfl ?_
  refine a_al0 fM_about_0 ?_
  refine a_ic fM_about_1 ?_
  refine a_pfi0 fM_about_2 p_M_43 m0 ?_
  obtain ⟨h1, e1, W1, R1, F1⟩ := mThr m0 m8 kw0 m7 R0
  change fA _ _ _ _ (va_up h 63 (mO (nI tn, nx, pl, tk, fa, (nI ab).toInt64, (nI be).toInt64) 0 mn)) _ _ _ _ _
  rw [e1]
  clear e1 R0 m7 m8 m0
  have W2 := W1
  obtain ⟨M2, w1, kw1, M7⟩ := W2
  have M3 := M2
  obtain ⟨⟨th1, mn1, M0⟩, f1, M8⟩ := M3
  have M1 := R1.1.1
  obtain ⟨Rf, M6, r0, r1, r2⟩ := R1.2.2.2.2
  refine a_al0 fM_about_5 ?_
  refine a_il1 fM_about_6 ?_
  refine a_V1V fM_about_7 k_M_152 m_M_isBill ⟨by decide, by decide⟩ M0 rfl ⟨rfl, rfl⟩ (Nat.le_of_ble_eq_true rfl) (c_MisBill M0 M1 K.2.2.1.1) ?_
  refine a_if_eq fM_about_10 (fun c_ => absurd c_ (fun z => by rw [bI_t ⟨nI_pos' (by omega), nI_lt (by omega) (by omega)⟩] at z; exact absurd z (by decide))) (fun _ => ?_)
  refine a_il2 fM_about_13 ?_
  refine a_ic fM_about_14 ?_
  refine a_ic fM_about_15 ?_
  refine a_S3V fM_about_16 k_M_70 m_M_in ⟨by decide, by decide⟩ ⟨rfl, rfl⟩ (Nat.le_of_ble_eq_true rfl) (c_Min) ?_
  refine a_if_ne fM_about_19 (fun _ => ?_) (fun c_ => absurd c_ (by decide))
  refine a_il2 fM_about_28 ?_
  refine a_if_ne fM_about_29 (fun c_ => absurd (by decide) c_) (fun _ => ?_)
  refine a_al0 fM_about_32 ?_
  refine a_gf fM_about_33 l_M_7 M0 rfl ?_
  refine a_ic fM_about_36 ?_
  refine a_il1 fM_about_38 ?_
  refine a_iadd fM_about_39 ?_
  refine a_ia fM_about_40 M1 (nI_add 32 _) (by omega) (by decide) ?_
  refine a_goto fM_about_41 ?_
  exact a_ri fM_about_72 rfl (⟨_, rfl, rfl, rfl, F1.c, ⟨nx, pl, tk, fa, W1⟩, R1⟩)
theorem m_about1 {B9 : Nat} (X : MS h N I tn bt ab be rb rn rf) (K : okN N) (h9 : B9 < N 31) : fE M_M_about E [.ref 63, .int (nI B9), .int (nI 1)] n h (qI (fun r k g => r = nI (N (38 + B9)) ∧ k = n ∧ fC h g ∧ MS g N I tn bt ab be rb rn rf)) := by
  have O := K.c
  have k31 := K.2.2.1.1
  obtain ⟨⟨nx, pl, tk, fa, ⟨⟨th, mn, m0⟩, f0, m8⟩, w0, kw0, m7⟩, R0⟩ := X
  refine fE.of (L := [some (.ref 63), some (.int (nI B9)), some (.int (nI 1))]) (by decide +kernel) (Nat.le_of_ble_eq_true rfl) rfl ?_
  refine a_al0 fM_about_0 ?_
  refine a_ic fM_about_1 ?_
  refine a_pfi0 fM_about_2 p_M_43 m0 ?_
  obtain ⟨h1, e1, W1, R1, F1⟩ := mThr m0 m8 kw0 m7 R0
  change fA _ _ _ _ (va_up h 63 (mO (nI tn, nx, pl, tk, fa, (nI ab).toInt64, (nI be).toInt64) 0 mn)) _ _ _ _ _
  rw [e1]
  clear e1 R0 m7 m8 m0
  have W2 := W1
  obtain ⟨M2, w1, kw1, M7⟩ := W2
  have M3 := M2
  obtain ⟨⟨th1, mn1, M0⟩, f1, M8⟩ := M3
  have M1 := R1.1.1
  obtain ⟨Rf, M6, r0, r1, r2⟩ := R1.2.2.2.2
  refine a_al0 fM_about_5 ?_
  refine a_il1 fM_about_6 ?_
  refine a_V1V fM_about_7 k_M_152 m_M_isBill ⟨by decide, by decide⟩ M0 rfl ⟨rfl, rfl⟩ (Nat.le_of_ble_eq_true rfl) (c_MisBill M0 M1 K.2.2.1.1) ?_
  refine a_if_eq fM_about_10 (fun c_ => absurd c_ (fun z => by rw [bI_t ⟨nI_pos' (by omega), nI_lt (by omega) (by omega)⟩] at z; exact absurd z (by decide))) (fun _ => ?_)
  refine a_il2 fM_about_13 ?_
  refine a_ic fM_about_14 ?_
  refine a_ic fM_about_15 ?_
  refine a_S3V fM_about_16 k_M_70 m_M_in ⟨by decide, by decide⟩ ⟨rfl, rfl⟩ (Nat.le_of_ble_eq_true rfl) (c_Min) ?_
  refine a_if_ne fM_about_19 (fun _ => ?_) (fun c_ => absurd c_ (by decide))
  refine a_il2 fM_about_28 ?_
  refine a_if_ne fM_about_29 (fun _ => ?_) (fun c_ => absurd c_ (by decide))
  refine a_il2 fM_about_44 ?_
  refine a_ic fM_about_45 ?_
  refine a_ic_ne fM_about_46 (fun c_ => absurd (by decide) c_) (fun _ => ?_)
  refine a_al0 fM_about_49 ?_
  refine a_gf fM_about_50 l_M_7 M0 rfl ?_
  refine a_ic fM_about_53 ?_
  refine a_il1 fM_about_55 ?_
  refine a_iadd fM_about_56 ?_
  refine a_ia fM_about_57 M1 (nI_add 38 _) (by omega) (by decide) ?_
  refine a_goto fM_about_58 ?_
  exact a_ri fM_about_72 rfl (⟨_, rfl, rfl, rfl, F1.c, ⟨nx, pl, tk, fa, W1⟩, R1⟩)
theorem m_about2 {B9 : Nat} (X : MS h N I tn bt ab be rb rn rf) (K : okN N) (h9 : B9 < N 31) : fE M_M_about E [.ref 63, .int (nI B9), .int (nI 2)] n h (qI (fun r k g => r = bI (N 44 / 2 ^ B9 % 2 = 1) ∧ k = n ∧ fC h g ∧ MS g N I tn bt ab be rb rn rf)) := by
  have O := K.c
  have k31 := K.2.2.1.1
  obtain ⟨⟨nx, pl, tk, fa, ⟨⟨th, mn, m0⟩, f0, m8⟩, w0, kw0, m7⟩, R0⟩ := X
  refine fE.of (L := [some (.ref 63), some (.int (nI B9)), some (.int (nI 2))]) (by decide +kernel) (Nat.le_of_ble_eq_true rfl) rfl ?_
  refine a_al0 fM_about_0 ?_
  refine a_ic fM_about_1 ?_
  refine a_pfi0 fM_about_2 p_M_43 m0 ?_
  obtain ⟨h1, e1, W1, R1, F1⟩ := mThr m0 m8 kw0 m7 R0
  change fA _ _ _ _ (va_up h 63 (mO (nI tn, nx, pl, tk, fa, (nI ab).toInt64, (nI be).toInt64) 0 mn)) _ _ _ _ _
  rw [e1]
  clear e1 R0 m7 m8 m0
  have W2 := W1
  obtain ⟨M2, w1, kw1, M7⟩ := W2
  have M3 := M2
  obtain ⟨⟨th1, mn1, M0⟩, f1, M8⟩ := M3
  have M1 := R1.1.1
  obtain ⟨Rf, M6, r0, r1, r2⟩ := R1.2.2.2.2
  refine a_al0 fM_about_5 ?_
  refine a_il1 fM_about_6 ?_
  refine a_V1V fM_about_7 k_M_152 m_M_isBill ⟨by decide, by decide⟩ M0 rfl ⟨rfl, rfl⟩ (Nat.le_of_ble_eq_true rfl) (c_MisBill M0 M1 K.2.2.1.1) ?_
  refine a_if_eq fM_about_10 (fun c_ => absurd c_ (fun z => by rw [bI_t ⟨nI_pos' (by omega), nI_lt (by omega) (by omega)⟩] at z; exact absurd z (by decide))) (fun _ => ?_)
  refine a_il2 fM_about_13 ?_
  refine a_ic fM_about_14 ?_
  refine a_ic fM_about_15 ?_
  refine a_S3V fM_about_16 k_M_70 m_M_in ⟨by decide, by decide⟩ ⟨rfl, rfl⟩ (Nat.le_of_ble_eq_true rfl) (c_Min) ?_
  refine a_if_ne fM_about_19 (fun _ => ?_) (fun c_ => absurd c_ (by decide))
  refine a_il2 fM_about_28 ?_
  refine a_if_ne fM_about_29 (fun _ => ?_) (fun c_ => absurd c_ (by decide))
  refine a_il2 fM_about_44 ?_
  refine a_ic fM_about_45 ?_
  refine a_ic_ne fM_about_46 (fun _ => ?_) (fun c_ => absurd c_ (by decide))
  have hp : N 44 < 64 := Nat.lt_of_lt_of_le K.2.2.2.2.1 (pw64 k31)
  refine a_al0 fM_about_61 ?_
  refine a_gf fM_about_62 l_M_7 M0 rfl ?_
  refine a_ic fM_about_65 ?_
  refine a_ia fM_about_67 M1 (show (44 : Int32) = nI 44 from rfl) (by decide) (by decide) ?_
  refine a_il1 fM_about_68 ?_
  refine a_ishr fM_about_69 ?_
  refine a_ic fM_about_70 ?_
  refine a_iand fM_about_71 ?_
  rw [show (nF N 44 >>> (nI B9 &&& 31)) &&& 1 = nI (N 44 / 2 ^ B9 % 2) from nbit (N 44) B9 hp (by omega)]
  exact a_ri fM_about_72 rfl ⟨_, rfl, by rcases Nat.mod_two_eq_zero_or_one (N 44 / 2 ^ B9) with q | q <;> rw [q] <;> decide, rfl, F1.c, ⟨nx, pl, tk, fa, W1⟩, R1⟩
theorem m_wears_bad {f k : Int32} (X : MS h N I tn bt ab be rb rn rf) (hb : ¬ ((0 ≤ f ∧ f ≤ 9) ∧ (0 ≤ k ∧ k ≤ 3))) : fE M_M_wears E [.ref 63, .int f, .int k] n h (qI (fun r k g => r = -2 ∧ k = n ∧ fC h g ∧ MS g N I tn bt ab be (rb + 1) rn rf)) := by
  obtain ⟨⟨nx, pl, tk, fa, ⟨⟨th, mn, m0⟩, f0, m8⟩, w0, kw0, m7⟩, R0⟩ := X
  refine fE.of (L := [some (.ref 63), some (.int (f)), some (.int (k))]) (by decide +kernel) (Nat.le_of_ble_eq_true rfl) rfl ?_
  refine a_al0 fM_wears_0 ?_
  refine a_ic fM_wears_1 ?_
  refine a_pfi0 fM_wears_2 p_M_43 m0 ?_
  obtain ⟨h1, e1, W1, R1, F1⟩ := mThr m0 m8 kw0 m7 R0
  change fA _ _ _ _ (va_up h 63 (mO (nI tn, nx, pl, tk, fa, (nI ab).toInt64, (nI be).toInt64) 0 mn)) _ _ _ _ _
  rw [e1]
  clear e1 R0 m7 m8 m0
  have W2 := W1
  obtain ⟨M2, w1, kw1, M7⟩ := W2
  have M3 := M2
  obtain ⟨⟨th1, mn1, M0⟩, f1, M8⟩ := M3
  have M1 := R1.1.1
  obtain ⟨Rf, M6, r0, r1, r2⟩ := R1.2.2.2.2
  by_cases d0 : (0 ≤ f ∧ f ≤ 9)
  · refine a_il1 fM_wears_5 ?_
    refine a_ic fM_wears_6 ?_
    refine a_ic fM_wears_7 ?_
    refine a_S3V fM_wears_9 k_M_70 m_M_in ⟨by decide, by decide⟩ ⟨rfl, rfl⟩ (Nat.le_of_ble_eq_true rfl) (c_Min) ?_
    refine a_if_eq fM_wears_12 (fun c_ => absurd c_ (fun z => by rw [bI_t d0] at z; exact absurd z (by decide))) (fun _ => ?_)
    by_cases d1 : (0 ≤ k ∧ k ≤ 3)
    · exact absurd ⟨d0, d1⟩ hb
    · refine a_il2 fM_wears_15 ?_
      refine a_ic fM_wears_16 ?_
      refine a_ic fM_wears_17 ?_
      refine a_S3V fM_wears_18 k_M_70 m_M_in ⟨by decide, by decide⟩ ⟨rfl, rfl⟩ (Nat.le_of_ble_eq_true rfl) (c_Min) ?_
      refine a_if_eq fM_wears_21 (fun _ => ?_) (fun c_ => absurd (by rw [bI_f d1]) c_)
      refine a_al0 fM_wears_46 ?_
      refine a_ic fM_wears_47 ?_
      refine a_V1V fM_wears_48 k_M_74 m_M_refuses ⟨by decide, by decide⟩ M0 rfl ⟨rfl, rfl⟩ (Nat.le_of_ble_eq_true rfl) (c_Mrefuses (w := 0) M0 M6 (by decide)) ?_
      exact a_ri fM_wears_51 rfl (⟨_, rfl, rfl, rfl, F1.c.up (by decide), ⟨nx, pl, tk, fa, W1.up (by decide) (by decide) (by decide)⟩, R1.re0 M6 r0 r1 r2⟩)
  · refine a_il1 fM_wears_5 ?_
    refine a_ic fM_wears_6 ?_
    refine a_ic fM_wears_7 ?_
    refine a_S3V fM_wears_9 k_M_70 m_M_in ⟨by decide, by decide⟩ ⟨rfl, rfl⟩ (Nat.le_of_ble_eq_true rfl) (c_Min) ?_
    refine a_if_eq fM_wears_12 (fun _ => ?_) (fun c_ => absurd (by rw [bI_f d0]) c_)
    refine a_al0 fM_wears_46 ?_
    refine a_ic fM_wears_47 ?_
    refine a_V1V fM_wears_48 k_M_74 m_M_refuses ⟨by decide, by decide⟩ M0 rfl ⟨rfl, rfl⟩ (Nat.le_of_ble_eq_true rfl) (c_Mrefuses (w := 0) M0 M6 (by decide)) ?_
    exact a_ri fM_wears_51 rfl (⟨_, rfl, rfl, rfl, F1.c.up (by decide), ⟨nx, pl, tk, fa, W1.up (by decide) (by decide) (by decide)⟩, R1.re0 M6 r0 r1 r2⟩)
theorem m_wears {F9 K9 : Nat} (X : MS h N I tn bt ab be rb rn rf) (K : okN N) (h9 : F9 < 10) (h8 : K9 ≤ 3) : fE M_M_wears E [.ref 63, .int (nI F9), .int (nI K9)] n h (qI (fun r k g => r = nI (wr (N F9) K9 (N 30)) ∧ k = n ∧ fC h g ∧ MS g N I tn bt ab be rb rn rf)) := by
  have O := K.c
  have k31 := K.2.2.1.1
  obtain ⟨⟨nx, pl, tk, fa, ⟨⟨th, mn, m0⟩, f0, m8⟩, w0, kw0, m7⟩, R0⟩ := X
  refine fE.of (L := [some (.ref 63), some (.int (nI F9)), some (.int (nI K9))]) (by decide +kernel) (Nat.le_of_ble_eq_true rfl) rfl ?_
  refine a_al0 fM_wears_0 ?_
  refine a_ic fM_wears_1 ?_
  refine a_pfi0 fM_wears_2 p_M_43 m0 ?_
  obtain ⟨h1, e1, W1, R1, F1⟩ := mThr m0 m8 kw0 m7 R0
  change fA _ _ _ _ (va_up h 63 (mO (nI tn, nx, pl, tk, fa, (nI ab).toInt64, (nI be).toInt64) 0 mn)) _ _ _ _ _
  rw [e1]
  clear e1 R0 m7 m8 m0
  have W2 := W1
  obtain ⟨M2, w1, kw1, M7⟩ := W2
  have M3 := M2
  obtain ⟨⟨th1, mn1, M0⟩, f1, M8⟩ := M3
  have M1 := R1.1.1
  obtain ⟨Rf, M6, r0, r1, r2⟩ := R1.2.2.2.2
  refine a_il1 fM_wears_5 ?_
  refine a_ic fM_wears_6 ?_
  refine a_ic fM_wears_7 ?_
  refine a_S3V fM_wears_9 k_M_70 m_M_in ⟨by decide, by decide⟩ ⟨rfl, rfl⟩ (Nat.le_of_ble_eq_true rfl) (c_Min) ?_
  refine a_if_eq fM_wears_12 (fun c_ => absurd c_ (fun z => by rw [bI_t ⟨nI_pos' (by omega), nI_le (b := 9) (by omega) (by decide)⟩] at z; exact absurd z (by decide))) (fun _ => ?_)
  refine a_il2 fM_wears_15 ?_
  refine a_ic fM_wears_16 ?_
  refine a_ic fM_wears_17 ?_
  refine a_S3V fM_wears_18 k_M_70 m_M_in ⟨by decide, by decide⟩ ⟨rfl, rfl⟩ (Nat.le_of_ble_eq_true rfl) (c_Min) ?_
  refine a_if_eq fM_wears_21 (fun c_ => absurd c_ (fun z => by rw [bI_t ⟨nI_pos' (by omega), nI_le (b := 3) (by omega) (by decide)⟩] at z; exact absurd z (by decide))) (fun _ => ?_)
  refine a_al0 fM_wears_24 ?_
  refine a_gf fM_wears_25 l_M_7 M0 rfl ?_
  refine a_ic fM_wears_28 ?_
  refine a_il1 fM_wears_29 ?_
  refine a_iadd fM_wears_30 ?_
  refine a_ia fM_wears_31 M1 (Int32.zero_add _) (by omega) (by decide) ?_
  refine a_il2 fM_wears_32 ?_
  refine a_al0 fM_wears_33 ?_
  refine a_gf fM_wears_34 l_M_7 M0 rfl ?_
  refine a_ic fM_wears_37 ?_
  refine a_ia fM_wears_39 M1 (show (30 : Int32) = nI 30 from rfl) (by decide) (by decide) ?_
  refine a_S3V fM_wears_40 k_M_58 m_M_wearOf ⟨by decide, by decide⟩ ⟨rfl, rfl⟩ (Nat.le_of_ble_eq_true rfl) (c_MwearOf (K := N F9) (k := K9) (O.1 F9 h9).1 (by omega) O.D) ?_
  refine a_goto fM_wears_43 ?_
  exact a_ri fM_wears_51 rfl (⟨_, rfl, rfl, rfl, F1.c, ⟨nx, pl, tk, fa, W1⟩, R1⟩)
end P4
