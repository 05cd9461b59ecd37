/-! the public methods, on -/
theorem isH.cl {h : hT} {q : Nat} {N : Nat → Nat} (H : isH h q N) (bN : N 31 ≤ 6 ∧ N 46 ≤ 6 ∧ N 59 ≤ 6 ∧ N 84 ≤ 8) (t m : Nat) (ht : t ≤ N 46) (hm : m ≤ N 59) : isH (va_up h (q + 8) (cO (q + 8) t m)) q (va_up (va_up N 46 t) 59 m) := by
  obtain ⟨bn, bw, tf, tm, nf, ng, nd, nm, rw, ⟨⟨a1, a2, a3, a4, a5⟩, ⟨a6, a7, a8⟩, ⟨a9, b1, b2, b3, b4, b5, b6⟩, b7, b8⟩, l1, l2, l3, l4⟩ := H
  have eo : ∀ i, i ≠ 46 ∧ i ≠ 59 → va_up (va_up N 46 t) 59 m i = N i := fun i h1 => by rw [vn h1.2, vn h1.1]
  have e46 : va_up (va_up N 46 t) 59 m 46 = t := by rw [vn (by decide)]; exact up_s
  have e59 : va_up (va_up N 46 t) 59 m 59 = m := up_s
  refine ⟨bn, bw, tf, tm, nf, ng, nd, nm, rw, ⟨⟨?_, ?_, ?_, ?_, ?_⟩, ⟨?_, ?_, ?_⟩, ⟨?_, ?_, ?_, ?_, ?_, ?_, ?_⟩, ?_, ?_⟩, ?_⟩
  · repeat (first | exact up_s | assumption | refine up_n (by omega) ?_)
  · rw [show sl (va_up (va_up N 46 t) 59 m) 0 10 = sl N 0 10 from sl_eq (fun i hi => eo _ (by omega))]; repeat (first | exact up_s | assumption | refine up_n (by omega) ?_)
  · rw [show sl (va_up (va_up N 46 t) 59 m) 10 10 = sl N 10 10 from sl_eq (fun i hi => eo _ (by omega))]; repeat (first | exact up_s | assumption | refine up_n (by omega) ?_)
  · rw [eo 30 (by omega)]; repeat (first | exact up_s | assumption | refine up_n (by omega) ?_)
  · rw [show sl (va_up (va_up N 46 t) 59 m) 20 10 = sl N 20 10 from sl_eq (fun i hi => eo _ (by omega))]; repeat (first | exact up_s | assumption | refine up_n (by omega) ?_)
  · rw [eo 31 (by omega), eo 44 (by omega), eo 45 (by omega)]; repeat (first | exact up_s | assumption | refine up_n (by omega) ?_)
  · repeat (first | exact up_s | assumption | refine up_n (by omega) ?_)
  · repeat (first | exact up_s | assumption | refine up_n (by omega) ?_)
  · rw [e46, e59]; repeat (first | exact up_s | assumption | refine up_n (by omega) ?_)
  · repeat (first | exact up_s | assumption | refine up_n (by omega) ?_)
  · repeat (first | exact up_s | assumption | refine up_n (by omega) ?_)
  · repeat (first | exact up_s | assumption | refine up_n (by omega) ?_)
  · repeat (first | exact up_s | assumption | refine up_n (by omega) ?_)
  · repeat (first | exact up_s | assumption | refine up_n (by omega) ?_)
  · repeat (first | exact up_s | assumption | refine up_n (by omega) ?_)
  · rw [eo 84 (by omega)]; repeat (first | exact up_s | assumption | refine up_n (by omega) ?_)
  · repeat (first | exact up_s | assumption | refine up_n (by omega) ?_)
  · exact ⟨fun i hi => by rw [eo 31 (by omega)] at hi; rw [eo _ (by omega), eo _ (by omega)]; exact l1 i hi, fun i hi => by rw [e46] at hi; rw [eo _ (by omega), eo _ (by omega)]; exact l2 i (by omega), fun i hi => by rw [e59] at hi; rw [eo _ (by omega), eo _ (by omega), eo _ (by omega), eo _ (by omega)]; exact l3 i (by omega), fun i hi => by rw [eo 84 (by omega)] at hi; rw [eo _ (by omega)]; exact l4 i hi⟩
theorem sw_out {w lo hi : Int32} (h : ¬ (lo ≤ w ∧ w ≤ hi)) : w.toInt < lo.toInt ∨ hi.toInt < w.toInt := by
  rcases Int.lt_or_le w.toInt lo.toInt with c | c
  · exact Or.inl c
  · exact Or.inr (Int.not_le.mp (fun z => h ⟨Int32.le_iff_toInt_le.mpr c, Int32.le_iff_toInt_le.mpr z⟩))
theorem kbs_lt (P : Nat → Bool) : ∀ (j i b : Nat), i + j ≤ 6 → b < 64 → kbs P j i b < 64 := by
  intro j
  induction j with
  | zero => intro i b _ hb; exact hb
  | succ j ih =>
    intro i b hi hb
    simp only [kbs]
    apply ih _ _ (by omega)
    split
    · exact Nat.or_lt_two_pow (n := 6) hb (Nat.pow_lt_pow_right (by decide) (by omega))
    · exact hb
section PU
variable {E : eT} {n : Nat} {h : hT} {N : Nat → Nat} {I : Nat → Option (Nat → Nat)} {tn : Nat} {bt : Nat → Nat} {ab be rb rn rf : Nat}
theorem x_of0 {F9 : Nat} (X : XS h n N I tn bt ab be rb rn rf) (K : okN N) (h9 : F9 < 10) : fE M_F_of E [.ref 11, .int (nI F9), .int (nI 0)] n h (qI (fun r k g => r = nI (N F9) ∧ k = n ∧ fM h g ∧ XS g n N I tn bt ab be rb rn rf)) := by
  have V := X.2.1.v
  have B := X.2.1.b
  have C := X.2.1.c
  have S := X.2.2.2.1
  have O := K.c
  refine fE.of (L := [some (.ref 11), some (.int (nI F9)), some (.int (nI 0))]) (by decide +kernel) (Nat.le_of_ble_eq_true rfl) rfl ?_
  refine a_il1 fF_of_0 ?_
  refine a_S1V fF_of_1 k_F_79 m_F_isFigure ⟨by decide, by decide⟩ ⟨rfl, rfl⟩ (Nat.le_of_ble_eq_true rfl) (c_isFigure) ?_
  refine a_if_ne fF_of_4 (fun _ => ?_) (fun c_ => absurd c_ (fun z => by rw [bI_t ⟨nI_pos' (by omega), nI_le (b := 9) (by omega) (by decide)⟩] at z; exact absurd z (by decide)))
  refine a_il2 fF_of_12 ?_
  refine a_tsI (off := 35) (tgt := 48) fF_of_13 (by decide) (by decide) rfl (by decide) ?_
  refine a_al0 fF_of_48 ?_
  refine a_gf fF_of_49 l_F_10 X.1.1 rfl ?_
  refine a_gf fF_of_52 l_F_93 V.1 rfl ?_
  refine a_il1 fF_of_55 ?_
  refine a_ia fF_of_56 V.2.1 rfl (by omega) (by decide) ?_
  exact a_ri fF_of_57 rfl (⟨_, rfl, congrArg nI (show sl N 0 10 F9 = N F9 from by rw [sl_lt h9, Nat.zero_add]), rfl, fM.r0, X⟩)
theorem x_of1 {F9 : Nat} (X : XS h n N I tn bt ab be rb rn rf) (K : okN N) (h9 : F9 < 10) : fE M_F_of E [.ref 11, .int (nI F9), .int (nI 1)] n h (qI (fun r k g => r = nI (N (10 + F9)) ∧ k = n ∧ fM h g ∧ XS g n N I tn bt ab be rb rn rf)) := by
  have V := X.2.1.v
  have B := X.2.1.b
  have C := X.2.1.c
  have S := X.2.2.2.1
  have O := K.c
  refine fE.of (L := [some (.ref 11), some (.int (nI F9)), some (.int (nI 1))]) (by decide +kernel) (Nat.le_of_ble_eq_true rfl) rfl ?_
  refine a_il1 fF_of_0 ?_
  refine a_S1V fF_of_1 k_F_79 m_F_isFigure ⟨by decide, by decide⟩ ⟨rfl, rfl⟩ (Nat.le_of_ble_eq_true rfl) (c_isFigure) ?_
  refine a_if_ne fF_of_4 (fun _ => ?_) (fun c_ => absurd c_ (fun z => by rw [bI_t ⟨nI_pos' (by omega), nI_le (b := 9) (by omega) (by decide)⟩] at z; exact absurd z (by decide)))
  refine a_il2 fF_of_12 ?_
  refine a_tsI (off := 45) (tgt := 58) fF_of_13 (by decide) (by decide) rfl (by decide) ?_
  refine a_al0 fF_of_58 ?_
  refine a_gf fF_of_59 l_F_10 X.1.1 rfl ?_
  refine a_gf fF_of_62 l_F_97 V.1 rfl ?_
  refine a_il1 fF_of_65 ?_
  refine a_ia fF_of_66 V.2.2.1 rfl (by omega) (by decide) ?_
  exact a_ri fF_of_67 rfl (⟨_, rfl, congrArg nI (show sl N 10 10 F9 = N (10 + F9) from sl_lt h9), rfl, fM.r0, X⟩)
theorem x_of2 {F9 : Nat} (X : XS h n N I tn bt ab be rb rn rf) (K : okN N) (h9 : F9 < 10) : fE M_F_of E [.ref 11, .int (nI F9), .int (nI 2)] n h (qI (fun r k g => r = nI (N (20 + F9)) ∧ k = n ∧ fM h g ∧ XS g n N I tn bt ab be rb rn rf)) := by
  have V := X.2.1.v
  have B := X.2.1.b
  have C := X.2.1.c
  have S := X.2.2.2.1
  have O := K.c
  refine fE.of (L := [some (.ref 11), some (.int (nI F9)), some (.int (nI 2))]) (by decide +kernel) (Nat.le_of_ble_eq_true rfl) rfl ?_
  refine a_il1 fF_of_0 ?_
  refine a_S1V fF_of_1 k_F_79 m_F_isFigure ⟨by decide, by decide⟩ ⟨rfl, rfl⟩ (Nat.le_of_ble_eq_true rfl) (c_isFigure) ?_
  refine a_if_ne fF_of_4 (fun _ => ?_) (fun c_ => absurd c_ (fun z => by rw [bI_t ⟨nI_pos' (by omega), nI_le (b := 9) (by omega) (by decide)⟩] at z; exact absurd z (by decide)))
  refine a_il2 fF_of_12 ?_
  refine a_tsI (off := 55) (tgt := 68) fF_of_13 (by decide) (by decide) rfl (by decide) ?_
  refine a_al0 fF_of_68 ?_
  refine a_gf fF_of_69 l_F_10 X.1.1 rfl ?_
  refine a_gf fF_of_72 l_F_132 V.1 rfl ?_
  refine a_gf fF_of_75 l_F_187 V.2.2.2.1 rfl ?_
  refine a_il1 fF_of_78 ?_
  refine a_ia fF_of_79 V.2.2.2.2 rfl (by omega) (by decide) ?_
  exact a_ri fF_of_80 rfl (⟨_, rfl, congrArg nI (show sl N 20 10 F9 = N (20 + F9) from sl_lt h9), rfl, fM.r0, X⟩)
theorem x_of3 {F9 : Nat} (X : XS h n N I tn bt ab be rb rn rf) (K : okN N) (h9 : F9 < 10) : fE M_F_of E [.ref 11, .int (nI F9), .int (nI 3)] n h (qI (fun r k g => r = nI (if N (10 + F9) < N (20 + F9) then 0 else if wr (N F9) 0 (N 30) = 0 ∨ 99 < (N (10 + F9) - N (20 + F9)) / wr (N F9) 0 (N 30) then 99 else (N (10 + F9) - N (20 + F9)) / wr (N F9) 0 (N 30)) ∧ k = n ∧ fM h g ∧ XS g n N I tn bt ab be rb rn rf)) := by
  have V := X.2.1.v
  have B := X.2.1.b
  have C := X.2.1.c
  have S := X.2.2.2.1
  have O := K.c
  refine fE.of (L := [some (.ref 11), some (.int (nI F9)), some (.int (nI 3))]) (by decide +kernel) (Nat.le_of_ble_eq_true rfl) rfl ?_
  refine a_il1 fF_of_0 ?_
  refine a_S1V fF_of_1 k_F_79 m_F_isFigure ⟨by decide, by decide⟩ ⟨rfl, rfl⟩ (Nat.le_of_ble_eq_true rfl) (c_isFigure) ?_
  refine a_if_ne fF_of_4 (fun _ => ?_) (fun c_ => absurd c_ (fun z => by rw [bI_t ⟨nI_pos' (by omega), nI_le (b := 9) (by omega) (by decide)⟩] at z; exact absurd z (by decide)))
  refine a_il2 fF_of_12 ?_
  refine a_tsI (off := 68) (tgt := 81) fF_of_13 (by decide) (by decide) rfl (by decide) ?_
  refine a_al0 fF_of_81 ?_
  refine a_gf fF_of_82 l_F_10 X.1.1 rfl ?_
  refine a_il1 fF_of_85 ?_
  refine a_V1V fF_of_86 k_F_190 m_H_leftOf ⟨by decide, by decide⟩ V.1 rfl ⟨rfl, rfl⟩ (Nat.le_of_ble_eq_true rfl) (c_leftOf (q := 12) V.1 V.2.1 V.2.2.1 V.2.2.2.1 V.2.2.2.2 O.K (fun f hf => Nat.le_trans (O.S f hf) (by decide)) (fun f hf => Nat.le_trans (O.W f hf) (by decide)) O.D h9) ?_
  exact a_ri fF_of_89 rfl (⟨_, rfl, by rw [show sl N 0 10 F9 = N F9 from by rw [sl_lt h9, Nat.zero_add], show sl N 10 10 F9 = N (10 + F9) from sl_lt h9, show sl N 20 10 F9 = N (20 + F9) from sl_lt h9], rfl, fM.r0, X⟩)
theorem x_of4 {F9 : Nat} (X : XS h n N I tn bt ab be rb rn rf) (K : okN N) (h9 : F9 < 10) : fE M_F_of E [.ref 11, .int (nI F9), .int (nI 4)] n h (qI (fun r k g => r = nI (rst (N F9) (N (20 + F9))) ∧ k = n ∧ fM h g ∧ XS g n N I tn bt ab be rb rn rf)) := by
  have V := X.2.1.v
  have B := X.2.1.b
  have C := X.2.1.c
  have S := X.2.2.2.1
  have O := K.c
  refine fE.of (L := [some (.ref 11), some (.int (nI F9)), some (.int (nI 4))]) (by decide +kernel) (Nat.le_of_ble_eq_true rfl) rfl ?_
  refine a_il1 fF_of_0 ?_
  refine a_S1V fF_of_1 k_F_79 m_F_isFigure ⟨by decide, by decide⟩ ⟨rfl, rfl⟩ (Nat.le_of_ble_eq_true rfl) (c_isFigure) ?_
  refine a_if_ne fF_of_4 (fun _ => ?_) (fun c_ => absurd c_ (fun z => by rw [bI_t ⟨nI_pos' (by omega), nI_le (b := 9) (by omega) (by decide)⟩] at z; exact absurd z (by decide)))
  refine a_il2 fF_of_12 ?_
  refine a_tsI (off := 77) (tgt := 90) fF_of_13 (by decide) (by decide) rfl (by decide) ?_
  refine a_al0 fF_of_90 ?_
  refine a_gf fF_of_91 l_F_10 X.1.1 rfl ?_
  refine a_gf fF_of_94 l_F_93 V.1 rfl ?_
  refine a_il1 fF_of_97 ?_
  refine a_ia fF_of_98 V.2.1 rfl (by omega) (by decide) ?_
  refine a_al0 fF_of_99 ?_
  refine a_gf fF_of_100 l_F_10 X.1.1 rfl ?_
  refine a_gf fF_of_103 l_F_132 V.1 rfl ?_
  refine a_gf fF_of_106 l_F_187 V.2.2.2.1 rfl ?_
  refine a_il1 fF_of_109 ?_
  refine a_ia fF_of_110 V.2.2.2.2 rfl (by omega) (by decide) ?_
  refine a_S2V fF_of_111 k_F_194 m_I_rest ⟨by decide, by decide⟩ ⟨rfl, rfl⟩ (Nat.le_of_ble_eq_true rfl) (c_rest (K := sl N 0 10 F9) (w := sl N 20 10 F9) (O.K F9 h9) (by have := O.W F9 h9; omega)) ?_
  exact a_ri fF_of_114 rfl (⟨_, rfl, by rw [show sl N 0 10 F9 = N F9 from by rw [sl_lt h9, Nat.zero_add], show sl N 20 10 F9 = N (20 + F9) from sl_lt h9], rfl, fM.r0, X⟩)
theorem x_of_bad {f w : Int32} (X : XS h n N I tn bt ab be rb rn rf) (hb : ¬ ((0 ≤ f ∧ f ≤ 9) ∧ (0 ≤ w ∧ w ≤ 4))) : fE M_F_of E [.ref 11, .int f, .int w] n h (qI (fun r k g => r = -2 ∧ k = n ∧ fM h g ∧ XS g n N I tn bt ab be (rb + 1) rn rf)) := by
  refine fE.of (L := [some (.ref 11), some (.int f), some (.int w)]) (by decide +kernel) (Nat.le_of_ble_eq_true rfl) rfl ?_
  by_cases d0 : 0 ≤ f ∧ f ≤ 9
  · refine a_il1 fF_of_0 ?_
    refine a_S1V fF_of_1 k_F_79 m_F_isFigure ⟨by decide, by decide⟩ ⟨rfl, rfl⟩ (Nat.le_of_ble_eq_true rfl) (c_isFigure) ?_
    refine a_if_ne fF_of_4 (fun _ => ?_) (fun c_ => absurd c_ (fun z => by rw [bI_t d0] at z; exact absurd z (by decide)))
    refine a_il2 fF_of_12 ?_
    refine a_tsO (tgt := 115) fF_of_13 (sw_out (lo := 0) (hi := 4) (fun z => hb ⟨d0, z⟩)) (by decide) ?_
    refine a_al0 fF_of_115 ?_
    refine a_V0V fF_of_116 k_F_89 m_F_bad ⟨by decide, by decide⟩ X.1.1 rfl ⟨rfl, rfl⟩ (Nat.le_of_ble_eq_true rfl) (c_bad X.1.1) ?_
    exact a_ri fF_of_119 rfl (⟨_, rfl, rfl, rfl, fM.r0.up (by decide), X.fl _ _ _ _ _⟩)
  · refine a_il1 fF_of_0 ?_
    refine a_S1V fF_of_1 k_F_79 m_F_isFigure ⟨by decide, by decide⟩ ⟨rfl, rfl⟩ (Nat.le_of_ble_eq_true rfl) (c_isFigure) ?_
    refine a_if_ne fF_of_4 (fun c_ => absurd (by rw [bI_f d0]) c_) (fun _ => ?_)
    refine a_al0 fF_of_7 ?_
    refine a_V0V fF_of_8 k_F_89 m_F_bad ⟨by decide, by decide⟩ X.1.1 rfl ⟨rfl, rfl⟩ (Nat.le_of_ble_eq_true rfl) (c_bad X.1.1) ?_
    exact a_ri fF_of_11 rfl (⟨_, rfl, rfl, rfl, fM.r0.up (by decide), X.fl _ _ _ _ _⟩)
theorem x_about0 {B9 : Nat} (X : XS h n N I tn bt ab be rb rn rf) (K : okN N) (h9 : B9 < N 31) : fE M_F_about E [.ref 11, .int (nI B9), .int (nI 0)] n h (qI (fun r k g => r = nI (N (32 + B9)) ∧ k = n ∧ fM h g ∧ XS g n N I tn bt ab be rb rn rf)) := by
  have V := X.2.1.v
  have B := X.2.1.b
  have C := X.2.1.c
  have S := X.2.2.2.1
  have O := K.c
  refine fE.of (L := [some (.ref 11), some (.int (nI B9)), some (.int (nI 0))]) (by decide +kernel) (Nat.le_of_ble_eq_true rfl) rfl ?_
  have bd := K.2.2.1.1
  obtain ⟨q1b, bn, bw, q2b, q3b, q4b⟩ := B
  refine a_al0 fF_about_0 ?_
  refine a_gf fF_about_1 l_F_10 X.1.1 rfl ?_
  refine a_gf fF_about_4 l_F_67 V.1 rfl ?_
  refine a_il1 fF_about_7 ?_
  refine a_V1V fF_about_8 k_F_153 m_B_holds ⟨by decide, by decide⟩ q1b rfl ⟨rfl, rfl⟩ (Nat.le_of_ble_eq_true rfl) (c_holds (b := 17) q1b bd) ?_
  refine a_if_ne fF_about_11 (fun _ => ?_) (fun c_ => absurd c_ (fun z => by rw [bI_t ⟨nI_pos' (by omega), nI_lt h9 (by omega)⟩] at z; exact absurd z (by decide)))
  refine a_il2 fF_about_19 ?_
  refine a_tsI (off := 28) (tgt := 48) fF_about_20 (by decide) (by decide) rfl (by decide) ?_
  refine a_al0 fF_about_48 ?_
  refine a_gf fF_about_49 l_F_10 X.1.1 rfl ?_
  refine a_gf fF_about_52 l_F_67 V.1 rfl ?_
  refine a_gf fF_about_55 l_F_156 q1b rfl ?_
  refine a_il1 fF_about_58 ?_
  refine a_ia fF_about_59 q2b rfl (by omega) (by decide) ?_
  exact a_ri fF_about_60 rfl (⟨_, rfl, congrArg nI (q4b B9 h9).1, rfl, fM.r0, X⟩)
theorem x_about1 {B9 : Nat} (X : XS h n N I tn bt ab be rb rn rf) (K : okN N) (h9 : B9 < N 31) : fE M_F_about E [.ref 11, .int (nI B9), .int (nI 1)] n h (qI (fun r k g => r = nI (N (38 + B9)) ∧ k = n ∧ fM h g ∧ XS g n N I tn bt ab be rb rn rf)) := by
  have V := X.2.1.v
  have B := X.2.1.b
  have C := X.2.1.c
  have S := X.2.2.2.1
  have O := K.c
  refine fE.of (L := [some (.ref 11), some (.int (nI B9)), some (.int (nI 1))]) (by decide +kernel) (Nat.le_of_ble_eq_true rfl) rfl ?_
  have bd := K.2.2.1.1
  obtain ⟨q1b, bn, bw, q2b, q3b, q4b⟩ := B
  refine a_al0 fF_about_0 ?_
  refine a_gf fF_about_1 l_F_10 X.1.1 rfl ?_
  refine a_gf fF_about_4 l_F_67 V.1 rfl ?_
  refine a_il1 fF_about_7 ?_
  refine a_V1V fF_about_8 k_F_153 m_B_holds ⟨by decide, by decide⟩ q1b rfl ⟨rfl, rfl⟩ (Nat.le_of_ble_eq_true rfl) (c_holds (b := 17) q1b bd) ?_
  refine a_if_ne fF_about_11 (fun _ => ?_) (fun c_ => absurd c_ (fun z => by rw [bI_t ⟨nI_pos' (by omega), nI_lt h9 (by omega)⟩] at z; exact absurd z (by decide)))
  refine a_il2 fF_about_19 ?_
  refine a_tsI (off := 41) (tgt := 61) fF_about_20 (by decide) (by decide) rfl (by decide) ?_
  refine a_al0 fF_about_61 ?_
  refine a_gf fF_about_62 l_F_10 X.1.1 rfl ?_
  refine a_gf fF_about_65 l_F_67 V.1 rfl ?_
  refine a_gf fF_about_68 l_F_198 q1b rfl ?_
  refine a_il1 fF_about_71 ?_
  refine a_ia fF_about_72 q3b rfl (by omega) (by decide) ?_
  exact a_ri fF_about_73 rfl (⟨_, rfl, congrArg nI (q4b B9 h9).2, rfl, fM.r0, X⟩)
theorem x_about2 {B9 : Nat} (X : XS h n N I tn bt ab be rb rn rf) (K : okN N) (h9 : B9 < N 31) : fE M_F_about E [.ref 11, .int (nI B9), .int (nI 2)] n h (qI (fun r k g => r = bI (N 44 / 2 ^ B9 % 2 = 1) ∧ k = n ∧ fM h g ∧ XS g n N I tn bt ab be rb rn rf)) := by
  have V := X.2.1.v
  have B := X.2.1.b
  have C := X.2.1.c
  have S := X.2.2.2.1
  have O := K.c
  refine fE.of (L := [some (.ref 11), some (.int (nI B9)), some (.int (nI 2))]) (by decide +kernel) (Nat.le_of_ble_eq_true rfl) rfl ?_
  have bd := K.2.2.1.1
  obtain ⟨q1b, bn, bw, q2b, q3b, q4b⟩ := B
  refine a_al0 fF_about_0 ?_
  refine a_gf fF_about_1 l_F_10 X.1.1 rfl ?_
  refine a_gf fF_about_4 l_F_67 V.1 rfl ?_
  refine a_il1 fF_about_7 ?_
  refine a_V1V fF_about_8 k_F_153 m_B_holds ⟨by decide, by decide⟩ q1b rfl ⟨rfl, rfl⟩ (Nat.le_of_ble_eq_true rfl) (c_holds (b := 17) q1b bd) ?_
  refine a_if_ne fF_about_11 (fun _ => ?_) (fun c_ => absurd c_ (fun z => by rw [bI_t ⟨nI_pos' (by omega), nI_lt h9 (by omega)⟩] at z; exact absurd z (by decide)))
  refine a_il2 fF_about_19 ?_
  refine a_tsI (off := 54) (tgt := 74) fF_about_20 (by decide) (by decide) rfl (by decide) ?_
  by_cases c9 : N 44 / 2 ^ B9 % 2 = 1
  · refine a_al0 fF_about_74 ?_
    refine a_gf fF_about_75 l_F_10 X.1.1 rfl ?_
    refine a_gf fF_about_78 l_F_67 V.1 rfl ?_
    refine a_il1 fF_about_81 ?_
    refine a_V1V fF_about_82 k_F_159 m_B_isPaid ⟨by decide, by decide⟩ q1b rfl ⟨rfl, rfl⟩ (Nat.le_of_ble_eq_true rfl) (c_isPaid (b := 17) q1b (Nat.lt_of_lt_of_le K.2.2.2.2.1 (pw64 bd)) (i := B9) (by omega)) ?_
    refine a_if_eq fF_about_85 (fun c_ => absurd c_ (fun z => by rw [bI_t c9] at z; exact absurd z (by decide))) (fun _ => ?_)
    refine a_ic fF_about_88 ?_
    refine a_goto fF_about_89 ?_
    exact a_ri fF_about_93 rfl (⟨_, rfl, by rw [bI_t c9], rfl, fM.r0, X⟩)
  · refine a_al0 fF_about_74 ?_
    refine a_gf fF_about_75 l_F_10 X.1.1 rfl ?_
    refine a_gf fF_about_78 l_F_67 V.1 rfl ?_
    refine a_il1 fF_about_81 ?_
    refine a_V1V fF_about_82 k_F_159 m_B_isPaid ⟨by decide, by decide⟩ q1b rfl ⟨rfl, rfl⟩ (Nat.le_of_ble_eq_true rfl) (c_isPaid (b := 17) q1b (Nat.lt_of_lt_of_le K.2.2.2.2.1 (pw64 bd)) (i := B9) (by omega)) ?_
    refine a_if_eq fF_about_85 (fun _ => ?_) (fun c_ => absurd (by rw [bI_f c9]) c_)
    refine a_ic fF_about_92 ?_
    exact a_ri fF_about_93 rfl (⟨_, rfl, by rw [bI_f c9], rfl, fM.r0, X⟩)
theorem x_about_bad {b w : Int32} (X : XS h n N I tn bt ab be rb rn rf) (K : okN N) (hb : ¬ ((0 ≤ b ∧ b < nI (N 31)) ∧ (0 ≤ w ∧ w ≤ 2))) : fE M_F_about E [.ref 11, .int b, .int w] n h (qI (fun r k g => r = -2 ∧ k = n ∧ fM h g ∧ XS g n N I tn bt ab be (rb + 1) rn rf)) := by
  have V := X.2.1.v
  have B := X.2.1.b
  refine fE.of (L := [some (.ref 11), some (.int b), some (.int w)]) (by decide +kernel) (Nat.le_of_ble_eq_true rfl) rfl ?_
  by_cases d0 : 0 ≤ b ∧ b < nI (N 31)
  · refine a_al0 fF_about_0 ?_
    refine a_gf fF_about_1 l_F_10 X.1.1 rfl ?_
    refine a_gf fF_about_4 l_F_67 V.1 rfl ?_
    refine a_il1 fF_about_7 ?_
    refine a_V1V fF_about_8 k_F_153 m_B_holds ⟨by decide, by decide⟩ B.1 rfl ⟨rfl, rfl⟩ (Nat.le_of_ble_eq_true rfl) (c_holds (b := 17) B.1 K.2.2.1.1) ?_
    refine a_if_ne fF_about_11 (fun _ => ?_) (fun c_ => absurd c_ (fun z => by rw [bI_t d0] at z; exact absurd z (by decide)))
    refine a_il2 fF_about_19 ?_
    refine a_tsO (tgt := 94) fF_about_20 (sw_out (lo := 0) (hi := 2) (fun z => hb ⟨d0, z⟩)) (by decide) ?_
    refine a_al0 fF_about_94 ?_
    refine a_V0V fF_about_95 k_F_89 m_F_bad ⟨by decide, by decide⟩ X.1.1 rfl ⟨rfl, rfl⟩ (Nat.le_of_ble_eq_true rfl) (c_bad X.1.1) ?_
    exact a_ri fF_about_98 rfl (⟨_, rfl, rfl, rfl, fM.r0.up (by decide), X.fl _ _ _ _ _⟩)
  · refine a_al0 fF_about_0 ?_
    refine a_gf fF_about_1 l_F_10 X.1.1 rfl ?_
    refine a_gf fF_about_4 l_F_67 V.1 rfl ?_
    refine a_il1 fF_about_7 ?_
    refine a_V1V fF_about_8 k_F_153 m_B_holds ⟨by decide, by decide⟩ B.1 rfl ⟨rfl, rfl⟩ (Nat.le_of_ble_eq_true rfl) (c_holds (b := 17) B.1 K.2.2.1.1) ?_
    refine a_if_ne fF_about_11 (fun c_ => absurd (by rw [bI_f d0]) c_) (fun _ => ?_)
    refine a_al0 fF_about_14 ?_
    refine a_V0V fF_about_15 k_F_89 m_F_bad ⟨by decide, by decide⟩ X.1.1 rfl ⟨rfl, rfl⟩ (Nat.le_of_ble_eq_true rfl) (c_bad X.1.1) ?_
    exact a_ri fF_about_18 rfl (⟨_, rfl, rfl, rfl, fM.r0.up (by decide), X.fl _ _ _ _ _⟩)
theorem x_status0 (X : XS h n N I tn bt ab be rb rn rf) (K : okN N) : fE M_F_status E [.ref 11, .int (nI 0)] n h (qI (fun r k g => r = nI rb ∧ k = n ∧ fM h g ∧ XS g n N I tn bt ab be rb rn rf)) := by
  have V := X.2.1.v
  have B := X.2.1.b
  have C := X.2.1.c
  have S := X.2.2.2.1
  have O := K.c
  refine fE.of (L := [some (.ref 11), some (.int (nI 0))]) (by decide +kernel) (Nat.le_of_ble_eq_true rfl) rfl ?_
  refine a_il1 fF_status_0 ?_
  refine a_tsI (off := 27) (tgt := 28) fF_status_1 (by decide) (by decide) rfl (by decide) ?_
  refine a_al0 fF_status_28 ?_
  refine a_gf fF_status_29 l_F_58 X.1.1 rfl ?_
  exact a_ri fF_status_32 rfl (⟨_, rfl, rfl, rfl, fM.r0, X⟩)
theorem x_status1 (X : XS h n N I tn bt ab be rb rn rf) (K : okN N) : fE M_F_status E [.ref 11, .int (nI 1)] n h (qI (fun r k g => r = nI rn ∧ k = n ∧ fM h g ∧ XS g n N I tn bt ab be rb rn rf)) := by
  have V := X.2.1.v
  have B := X.2.1.b
  have C := X.2.1.c
  have S := X.2.2.2.1
  have O := K.c
  refine fE.of (L := [some (.ref 11), some (.int (nI 1))]) (by decide +kernel) (Nat.le_of_ble_eq_true rfl) rfl ?_
  refine a_il1 fF_status_0 ?_
  refine a_tsI (off := 32) (tgt := 33) fF_status_1 (by decide) (by decide) rfl (by decide) ?_
  refine a_al0 fF_status_33 ?_
  refine a_gf fF_status_34 l_F_61 X.1.1 rfl ?_
  exact a_ri fF_status_37 rfl (⟨_, rfl, rfl, rfl, fM.r0, X⟩)
theorem x_status2 (X : XS h n N I tn bt ab be rb rn rf) (K : okN N) : fE M_F_status E [.ref 11, .int (nI 2)] n h (qI (fun r k g => r = nI rf ∧ k = n ∧ fM h g ∧ XS g n N I tn bt ab be rb rn rf)) := by
  have V := X.2.1.v
  have B := X.2.1.b
  have C := X.2.1.c
  have S := X.2.2.2.1
  have O := K.c
  refine fE.of (L := [some (.ref 11), some (.int (nI 2))]) (by decide +kernel) (Nat.le_of_ble_eq_true rfl) rfl ?_
  refine a_il1 fF_status_0 ?_
  refine a_tsI (off := 37) (tgt := 38) fF_status_1 (by decide) (by decide) rfl (by decide) ?_
  refine a_al0 fF_status_38 ?_
  refine a_gf fF_status_39 l_F_64 X.1.1 rfl ?_
  exact a_ri fF_status_42 rfl (⟨_, rfl, rfl, rfl, fM.r0, X⟩)
theorem x_status_bad {w : Int32} (X : XS h n N I tn bt ab be rb rn rf) (hb : ¬ (0 ≤ w ∧ w ≤ 2)) : fE M_F_status E [.ref 11, .int w] n h (qI (fun r k g => r = -1 ∧ k = n ∧ fM h g ∧ XS g n N I tn bt ab be (rb + 1) rn rf)) := by
  refine fE.of (L := [some (.ref 11), some (.int w)]) (by decide +kernel) (Nat.le_of_ble_eq_true rfl) rfl ?_
  refine a_il1 fF_status_0 ?_
  refine a_tsO (tgt := 43) fF_status_1 (sw_out (lo := 0) (hi := 2) hb) (by decide) ?_
  refine a_al0 fF_status_43 ?_
  refine a_V0V fF_status_44 k_F_89 m_F_bad ⟨by decide, by decide⟩ X.1.1 rfl ⟨rfl, rfl⟩ (Nat.le_of_ble_eq_true rfl) (c_bad X.1.1) ?_
  refine a_pop fF_status_47 rfl ?_
  refine a_ic fF_status_48 ?_
  exact a_ri fF_status_49 rfl (⟨_, rfl, rfl, rfl, fM.r0.up (by decide), X.fl _ _ _ _ _⟩)
theorem x_which_bad {w : Int32} (X : XS h n N I tn bt ab be rb rn rf) (hb : w < -1) : fE M_F_which E [.ref 11, .int w] n h (qI (fun r k g => r = -10 ∧ k = n ∧ fM h g ∧ XS g n N I tn bt ab be (rb + 1) rn rf)) := by
  refine fE.of (L := [some (.ref 11), some (.int w)]) (by decide +kernel) (Nat.le_of_ble_eq_true rfl) rfl ?_
  refine a_il1 fF_which_0 ?_
  refine a_ic fF_which_1 ?_
  refine a_ic_ge fF_which_2 (fun c_ => absurd c_ (Int32.not_le.mpr hb)) (fun _ => ?_)
  refine a_al0 fF_which_5 ?_
  refine a_V0V fF_which_6 k_F_89 m_F_bad ⟨by decide, by decide⟩ X.1.1 rfl ⟨rfl, rfl⟩ (Nat.le_of_ble_eq_true rfl) (c_bad X.1.1) ?_
  refine a_pop fF_which_9 rfl ?_
  refine a_ic fF_which_10 ?_
  exact a_ri fF_which_12 rfl (⟨_, rfl, rfl, rfl, fM.r0.up (by decide), X.fl _ _ _ _ _⟩)
theorem x_which_n (X : XS h n N I tn bt ab be rb rn rf) (K : okN N) : fE M_F_which E [.ref 11, .int (-1)] n h (qI (fun r k g => r = nI (ncn (fun m => decide (ftP N m)) 10000 0 0) ∧ k = n ∧ fM h g ∧ XS g n N I tn bt ab be rb rn rf)) := by
  have V := X.2.1.v
  have B := X.2.1.b
  have C := X.2.1.c
  have S := X.2.2.2.1
  have O := K.c
  refine fE.of (L := [some (.ref 11), some (.int (-1))]) (by decide +kernel) (Nat.le_of_ble_eq_true rfl) rfl ?_
  refine a_il1 fF_which_0 ?_
  refine a_ic fF_which_1 ?_
  refine a_ic_ge fF_which_2 (fun _ => ?_) (fun c_ => absurd (Int32.le_refl _) c_)
  refine a_il1 fF_which_13 ?_
  refine a_ic fF_which_14 ?_
  refine a_ic_ne fF_which_15 (fun c_ => absurd (rfl) c_) (fun _ => ?_)
  refine a_al0 fF_which_18 ?_
  refine a_gf fF_which_19 l_F_33 X.1.1 rfl ?_
  refine a_al0 fF_which_22 ?_
  refine a_gf fF_which_23 l_F_10 X.1.1 rfl ?_
  refine a_V1I fF_which_26 k_F_252 m_U_howManyLines ⟨by decide, by decide⟩ X.2.2.2.2.1.1 rfl ⟨rfl, rfl⟩ (Nat.le_of_ble_eq_true rfl) (c_howMany V C X.2.2.2.2.1 O K.t) (fun r1 n1 h1 p1 => ?_)
  refine a_goto fF_which_29 ?_
  obtain ⟨hr, hn1, S1, F1⟩ := p1
  subst n1
  exact a_ri fF_which_44 rfl ⟨_, rfl, hr, rfl, fM.s F1, X.ofs F1 S1⟩
theorem x_which {P9 : Nat} (X : XS h n N I tn bt ab be rb rn rf) (K : okN N) (h9 : P9 < 2 ^ 31) : fE M_F_which E [.ref 11, .int (nI P9)] n h (qI (fun r k g => r = o5 (lat (fun m => decide (ftP N m)) P9 10000 0 0) ∧ k = n ∧ fM h g ∧ XS g n N I tn bt ab be rb rn rf)) := by
  have V := X.2.1.v
  have B := X.2.1.b
  have C := X.2.1.c
  have S := X.2.2.2.1
  have O := K.c
  refine fE.of (L := [some (.ref 11), some (.int (nI P9))]) (by decide +kernel) (Nat.le_of_ble_eq_true rfl) rfl ?_
  refine a_il1 fF_which_0 ?_
  refine a_ic fF_which_1 ?_
  refine a_ic_ge fF_which_2 (fun _ => ?_) (fun c_ => absurd (by rw [Int32.le_iff_toInt_le, nI_toInt h9, show (-1 : Int32).toInt = -1 from rfl]; omega) c_)
  refine a_il1 fF_which_13 ?_
  refine a_ic fF_which_14 ?_
  refine a_ic_ne fF_which_15 (fun _ => ?_) (fun c_ => absurd c_ (nI_nm1 h9))
  refine a_al0 fF_which_32 ?_
  refine a_gf fF_which_33 l_F_33 X.1.1 rfl ?_
  refine a_al0 fF_which_36 ?_
  refine a_gf fF_which_37 l_F_10 X.1.1 rfl ?_
  refine a_il1 fF_which_40 ?_
  refine a_V2I fF_which_41 k_F_255 m_U_lineAt ⟨by decide, by decide⟩ X.2.2.2.2.1.1 rfl ⟨rfl, rfl⟩ (Nat.le_of_ble_eq_true rfl) (c_lineAt V C X.2.2.2.2.1 O K.t h9) (fun r1 n1 h1 p1 => ?_)
  obtain ⟨hr, hn1, S1, F1⟩ := p1
  subst n1
  exact a_ri fF_which_44 rfl ⟨_, rfl, hr, rfl, fM.s F1, X.ofs F1 S1⟩
theorem x_is_bad {f : Int32} (X : XS h n N I tn bt ab be rb rn rf) (hb : ¬ ((0 ≤ f ∧ f ≤ 9))) : fE M_F_is E [.ref 11, .int f] n h (qI (fun r k g => r = -2 ∧ k = n ∧ fM h g ∧ XS g n N I tn bt ab be (rb + 1) rn rf)) := by
  refine fE.of (L := [some (.ref 11), some (.int f)]) (by decide +kernel) (Nat.le_of_ble_eq_true rfl) rfl ?_
  by_cases d0 : (0 ≤ f ∧ f ≤ 9)
  · exact absurd d0 hb
  · refine a_il1 fF_is_0 ?_
    refine a_S1V fF_is_1 k_F_79 m_F_isFigure ⟨by decide, by decide⟩ ⟨rfl, rfl⟩ (Nat.le_of_ble_eq_true rfl) (c_isFigure) ?_
    refine a_if_ne fF_is_4 (fun c_ => absurd (by rw [bI_f d0]) c_) (fun _ => ?_)
    refine a_al0 fF_is_7 ?_
    refine a_V0V fF_is_8 k_F_89 m_F_bad ⟨by decide, by decide⟩ X.1.1 rfl ⟨rfl, rfl⟩ (Nat.le_of_ble_eq_true rfl) (c_bad X.1.1) ?_
    exact a_ri fF_is_11 rfl (⟨_, rfl, rfl, rfl, fM.r0.up (by decide), X.fl _ _ _ _ _⟩)
theorem x_look_bad {f : Int32} (X : XS h n N I tn bt ab be rb rn rf) (hb : ¬ ((0 ≤ f ∧ f ≤ 9))) : fE M_F_look E [.ref 11, .int f] n h (qI (fun r k g => r = -2 ∧ k = n ∧ fM h g ∧ XS g n N I tn bt ab be (rb + 1) rn rf)) := by
  refine fE.of (L := [some (.ref 11), some (.int f)]) (by decide +kernel) (Nat.le_of_ble_eq_true rfl) rfl ?_
  by_cases d0 : (0 ≤ f ∧ f ≤ 9)
  · exact absurd d0 hb
  · refine a_il1 fF_look_0 ?_
    refine a_S1V fF_look_1 k_F_79 m_F_isFigure ⟨by decide, by decide⟩ ⟨rfl, rfl⟩ (Nat.le_of_ble_eq_true rfl) (c_isFigure) ?_
    refine a_if_ne fF_look_4 (fun c_ => absurd (by rw [bI_f d0]) c_) (fun _ => ?_)
    refine a_al0 fF_look_7 ?_
    refine a_V0V fF_look_8 k_F_89 m_F_bad ⟨by decide, by decide⟩ X.1.1 rfl ⟨rfl, rfl⟩ (Nat.le_of_ble_eq_true rfl) (c_bad X.1.1) ?_
    exact a_ri fF_look_11 rfl (⟨_, rfl, rfl, rfl, fM.r0.up (by decide), X.fl _ _ _ _ _⟩)
theorem x_is {F9 : Nat} (X : XS h n N I tn bt ab be rb rn rf) (K : okN N) (h9 : F9 < 10) : fE M_F_is E [.ref 11, .int (nI F9)] n h (qI (fun r k g => r = nI (kbs (fun kd => decide (mbe (fun i => N (60 + i)) (fun i => N (66 + i)) (fun i => N (72 + i)) (fun i => N (78 + i)) (N 59) F9 kd)) 6 0 0) ∧ k = n ∧ fM h g ∧ XS g n N I tn bt ab be rb rn rf)) := by
  have V := X.2.1.v
  have B := X.2.1.b
  have C := X.2.1.c
  have S := X.2.2.2.1
  have O := K.c
  refine fE.of (L := [some (.ref 11), some (.int (nI F9))]) (by decide +kernel) (Nat.le_of_ble_eq_true rfl) rfl ?_
  refine a_il1 fF_is_0 ?_
  refine a_S1V fF_is_1 k_F_79 m_F_isFigure ⟨by decide, by decide⟩ ⟨rfl, rfl⟩ (Nat.le_of_ble_eq_true rfl) (c_isFigure) ?_
  refine a_if_ne fF_is_4 (fun _ => ?_) (fun c_ => absurd c_ (fun z => by rw [bI_t ⟨nI_pos' (by omega), nI_le (b := 9) (by omega) (by decide)⟩] at z; exact absurd z (by decide)))
  obtain ⟨c0, tf, tm, nf, ng, nd, nm, ⟨u1, u2, u3, u4, u5, u6⟩, w1, w2⟩ := C
  have ek : kbs (fun kd => decide (mbe nf ng nd nm (N 59) F9 kd)) 6 0 0 = kbs (fun kd => decide (mbe (fun i => N (60 + i)) (fun i => N (66 + i)) (fun i => N (72 + i)) (fun i => N (78 + i)) (N 59) F9 kd)) 6 0 0 := by
    congr 1; funext kd; congr 1; apply propext
    constructor
    · intro z i hi hf; obtain ⟨e1, e2, e3, e4⟩ := w2 i hi; show wr kd (N (66 + i)) (N (72 + i)) = N (78 + i); rw [← e2, ← e3, ← e4]; exact z i hi (e1.trans hf)
    · intro z i hi hf; obtain ⟨e1, e2, e3, e4⟩ := w2 i hi; rw [e2, e3, e4]; exact z i hi (e1.symm.trans hf)
  refine a_al0 fF_is_12 ?_
  refine a_gf fF_is_13 l_F_10 X.1.1 rfl ?_
  refine a_gf fF_is_16 l_F_240 V.1 rfl ?_
  refine a_il1 fF_is_19 ?_
  refine a_V1V fF_is_20 k_F_271 m_C_kindsOf ⟨by decide, by decide⟩ c0 rfl ⟨rfl, rfl⟩ (Nat.le_of_ble_eq_true rfl) (c_kindsOf (c := 20) c0 u3 u4 u5 u6 K.2.2.1.2.2.1 h9 (fun i hi => by obtain ⟨e1, e2, e3, e4⟩ := w2 i hi; rw [e1, e2, e3, e4]; exact K.2.2.2.2.2.2.1 i hi)) ?_
  exact a_ri fF_is_23 rfl (⟨_, rfl, by rw [ek], rfl, fM.r0, X⟩)
theorem x_look {F9 : Nat} (X : XS h n N I tn bt ab be rb rn rf) (K : okN N) (h9 : F9 < 10) : fE M_F_look E [.ref 11, .int (nI F9)] n h (qI (fun r k g => r = bsF (if kbs (fun kd => decide (mbe (fun i => N (60 + i)) (fun i => N (66 + i)) (fun i => N (72 + i)) (fun i => N (78 + i)) (N 59) F9 kd)) 6 0 0 = 0 then none else nlK (mal (kbs (fun kd => decide (mbe (fun i => N (60 + i)) (fun i => N (66 + i)) (fun i => N (72 + i)) (fun i => N (78 + i)) (N 59) F9 kd)) 6 0 0)) 4 0 none) ∧ k = n ∧ fM h g ∧ XS g n N I tn bt ab be rb rn rf)) := by
  have V := X.2.1.v
  have B := X.2.1.b
  have C := X.2.1.c
  have S := X.2.2.2.1
  have O := K.c
  refine fE.of (L := [some (.ref 11), some (.int (nI F9))]) (by decide +kernel) (Nat.le_of_ble_eq_true rfl) rfl ?_
  refine a_il1 fF_look_0 ?_
  refine a_S1V fF_look_1 k_F_79 m_F_isFigure ⟨by decide, by decide⟩ ⟨rfl, rfl⟩ (Nat.le_of_ble_eq_true rfl) (c_isFigure) ?_
  refine a_if_ne fF_look_4 (fun _ => ?_) (fun c_ => absurd c_ (fun z => by rw [bI_t ⟨nI_pos' (by omega), nI_le (b := 9) (by omega) (by decide)⟩] at z; exact absurd z (by decide)))
  obtain ⟨c0, tf, tm, nf, ng, nd, nm, ⟨u1, u2, u3, u4, u5, u6⟩, w1, w2⟩ := C
  have ek : kbs (fun kd => decide (mbe nf ng nd nm (N 59) F9 kd)) 6 0 0 = kbs (fun kd => decide (mbe (fun i => N (60 + i)) (fun i => N (66 + i)) (fun i => N (72 + i)) (fun i => N (78 + i)) (N 59) F9 kd)) 6 0 0 := by
    congr 1; funext kd; congr 1; apply propext
    constructor
    · intro z i hi hf; obtain ⟨e1, e2, e3, e4⟩ := w2 i hi; show wr kd (N (66 + i)) (N (72 + i)) = N (78 + i); rw [← e2, ← e3, ← e4]; exact z i hi (e1.trans hf)
    · intro z i hi hf; obtain ⟨e1, e2, e3, e4⟩ := w2 i hi; rw [e2, e3, e4]; exact z i hi (e1.symm.trans hf)
  refine a_al0 fF_look_12 ?_
  refine a_gf fF_look_13 l_F_33 X.1.1 rfl ?_
  refine a_al0 fF_look_16 ?_
  refine a_gf fF_look_17 l_F_10 X.1.1 rfl ?_
  refine a_gf fF_look_20 l_F_240 V.1 rfl ?_
  refine a_il1 fF_look_23 ?_
  refine a_V1V fF_look_24 k_F_271 m_C_kindsOf ⟨by decide, by decide⟩ c0 rfl ⟨rfl, rfl⟩ (Nat.le_of_ble_eq_true rfl) (c_kindsOf (c := 20) c0 u3 u4 u5 u6 K.2.2.1.2.2.1 h9 (fun i hi => by obtain ⟨e1, e2, e3, e4⟩ := w2 i hi; rw [e1, e2, e3, e4]; exact K.2.2.2.2.2.2.1 i hi)) ?_
  rw [ek]
  refine a_V1V fF_look_27 k_F_274 m_U_nextLook ⟨by decide, by decide⟩ X.2.2.2.2.1.1 rfl ⟨rfl, rfl⟩ (Nat.le_of_ble_eq_true rfl) (c_nextLook X.2.2.2.2.1.1 (kbs_lt _ 6 0 0 (by decide) (by decide))) ?_
  exact a_ri fF_look_30 rfl (⟨_, rfl, rfl, rfl, fM.r0, X⟩)
theorem x_forget_bad {w : Int32} (X : XS h n N I tn bt ab be rb rn rf) (hb : ¬ ((0 ≤ w ∧ w ≤ 1))) : fE M_F_forget E [.ref 11, .int w] n h (qI (fun r k g => r = -2 ∧ k = n ∧ fM h g ∧ XS g n N I tn bt ab be (rb + 1) rn rf)) := by
  refine fE.of (L := [some (.ref 11), some (.int w)]) (by decide +kernel) (Nat.le_of_ble_eq_true rfl) rfl ?_
  by_cases d0 : (0 ≤ w ∧ w ≤ 1)
  · exact absurd d0 hb
  · refine a_il1 fF_forget_0 ?_
    refine a_ic fF_forget_1 ?_
    refine a_ic fF_forget_2 ?_
    refine a_S3V fF_forget_3 k_F_85 m_F_within ⟨by decide, by decide⟩ ⟨rfl, rfl⟩ (Nat.le_of_ble_eq_true rfl) (c_within) ?_
    refine a_if_ne fF_forget_6 (fun c_ => absurd (by rw [bI_f d0]) c_) (fun _ => ?_)
    refine a_al0 fF_forget_9 ?_
    refine a_V0V fF_forget_10 k_F_89 m_F_bad ⟨by decide, by decide⟩ X.1.1 rfl ⟨rfl, rfl⟩ (Nat.le_of_ble_eq_true rfl) (c_bad X.1.1) ?_
    exact a_ri fF_forget_13 rfl (⟨_, rfl, rfl, rfl, fM.r0.up (by decide), X.fl _ _ _ _ _⟩)
theorem x_forget0 (X : XS h n N I tn bt ab be rb rn rf) (K : okN N) : fE M_F_forget E [.ref 11, .int (nI 0)] n h (qI (fun r k g => r = nI (N 46) ∧ k = n ∧ fM h g ∧ XS g n (va_up N 46 0) I tn bt ab be rb rn rf)) := by
  have V := X.2.1.v
  have B := X.2.1.b
  have C := X.2.1.c
  have S := X.2.2.2.1
  have O := K.c
  refine fE.of (L := [some (.ref 11), some (.int (nI 0))]) (by decide +kernel) (Nat.le_of_ble_eq_true rfl) rfl ?_
  refine a_il1 fF_forget_0 ?_
  refine a_ic fF_forget_1 ?_
  refine a_ic fF_forget_2 ?_
  refine a_S3V fF_forget_3 k_F_85 m_F_within ⟨by decide, by decide⟩ ⟨rfl, rfl⟩ (Nat.le_of_ble_eq_true rfl) (c_within) ?_
  refine a_if_ne fF_forget_6 (fun _ => ?_) (fun c_ => absurd c_ (fun z => by rw [bI_t ⟨nI_pos' (by omega), nI_le (b := 1) (by omega) (by decide)⟩] at z; exact absurd z (by decide)))
  refine a_il1 fF_forget_14 ?_
  refine a_if_ne fF_forget_15 (fun c_ => absurd (rfl) c_) (fun _ => ?_)
  refine a_al0 fF_forget_18 ?_
  refine a_gf fF_forget_19 l_F_10 X.1.1 rfl ?_
  refine a_gf fF_forget_22 l_F_240 V.1 rfl ?_
  refine a_V0V fF_forget_25 k_F_265 m_C_dropTraces ⟨by decide, by decide⟩ C.1 rfl ⟨rfl, rfl⟩ (Nat.le_of_ble_eq_true rfl) (c_dropTraces (c := 20) C.1) ?_
  refine a_goto fF_forget_28 ?_
  have H1 := X.2.1.cl K.2.2.1 0 (N 59) (Nat.zero_le _) (Nat.le_refl _)
  rw [up_id (show va_up N 46 0 59 = N 59 from vn (by decide))] at H1
  have F1 : frq 12 h (va_up h (12 + 8) (cO (12 + 8) 0 (N 59))) := fun a ha => up_n (by omega) rfl
  exact a_ri fF_forget_41 rfl ⟨_, rfl, rfl, rfl, fM.q F1, X.ofq F1 H1⟩
theorem x_forget1 (X : XS h n N I tn bt ab be rb rn rf) (K : okN N) : fE M_F_forget E [.ref 11, .int (nI 1)] n h (qI (fun r k g => r = nI (N 59) ∧ k = n ∧ fM h g ∧ XS g n (va_up N 59 0) I tn bt ab be rb rn rf)) := by
  have V := X.2.1.v
  have B := X.2.1.b
  have C := X.2.1.c
  have S := X.2.2.2.1
  have O := K.c
  refine fE.of (L := [some (.ref 11), some (.int (nI 1))]) (by decide +kernel) (Nat.le_of_ble_eq_true rfl) rfl ?_
  refine a_il1 fF_forget_0 ?_
  refine a_ic fF_forget_1 ?_
  refine a_ic fF_forget_2 ?_
  refine a_S3V fF_forget_3 k_F_85 m_F_within ⟨by decide, by decide⟩ ⟨rfl, rfl⟩ (Nat.le_of_ble_eq_true rfl) (c_within) ?_
  refine a_if_ne fF_forget_6 (fun _ => ?_) (fun c_ => absurd c_ (fun z => by rw [bI_t ⟨nI_pos' (by omega), nI_le (b := 1) (by omega) (by decide)⟩] at z; exact absurd z (by decide)))
  refine a_il1 fF_forget_14 ?_
  refine a_if_ne fF_forget_15 (fun _ => ?_) (fun c_ => absurd c_ (by decide))
  refine a_al0 fF_forget_31 ?_
  refine a_gf fF_forget_32 l_F_10 X.1.1 rfl ?_
  refine a_gf fF_forget_35 l_F_240 V.1 rfl ?_
  refine a_V0V fF_forget_38 k_F_268 m_C_dropNotes ⟨by decide, by decide⟩ C.1 rfl ⟨rfl, rfl⟩ (Nat.le_of_ble_eq_true rfl) (c_dropNotes (c := 20) C.1) ?_
  have H1 := X.2.1.cl K.2.2.1 (N 46) 0 (Nat.le_refl _) (Nat.zero_le _)
  rw [up_id (show N 46 = N 46 from rfl)] at H1
  have F1 : frq 12 h (va_up h (12 + 8) (cO (12 + 8) (N 46) 0)) := fun a ha => up_n (by omega) rfl
  exact a_ri fF_forget_41 rfl ⟨_, rfl, rfl, rfl, fM.q F1, X.ofq F1 H1⟩
theorem x_two_bad {a b : Int32} (X : XS h n N I tn bt ab be rb rn rf) (K : okN N) (hb : ¬ ((0 ≤ a ∧ a < nI (N 31)) ∧ (0 ≤ b ∧ b < nI (N 31)) ∧ ¬ a = b)) : fE M_F_two E [.ref 11, .int a, .int b] n h (qI (fun r k g => r = -2 ∧ k = n ∧ fM h g ∧ XS g n N I tn bt ab be (rb + 1) rn rf)) := by
  have V := X.2.1.v
  have B := X.2.1.b
  refine fE.of (L := [some (.ref 11), some (.int a), some (.int b)]) (by decide +kernel) (Nat.le_of_ble_eq_true rfl) rfl ?_
  by_cases d0 : 0 ≤ a ∧ a < nI (N 31)
  · refine a_al0 fF_two_0 ?_
    refine a_gf fF_two_1 l_F_10 X.1.1 rfl ?_
    refine a_gf fF_two_4 l_F_67 V.1 rfl ?_
    refine a_il1 fF_two_7 ?_
    refine a_V1V fF_two_8 k_F_153 m_B_holds ⟨by decide, by decide⟩ B.1 rfl ⟨rfl, rfl⟩ (Nat.le_of_ble_eq_true rfl) (c_holds (b := 17) B.1 K.2.2.1.1) ?_
    refine a_if_eq fF_two_11 (fun c_ => absurd c_ (fun z => by rw [bI_t d0] at z; exact absurd z (by decide))) (fun _ => ?_)
    by_cases d1 : 0 ≤ b ∧ b < nI (N 31)
    · refine a_al0 fF_two_14 ?_
      refine a_gf fF_two_15 l_F_10 X.1.1 rfl ?_
      refine a_gf fF_two_18 l_F_67 V.1 rfl ?_
      refine a_il2 fF_two_21 ?_
      refine a_V1V fF_two_22 k_F_153 m_B_holds ⟨by decide, by decide⟩ B.1 rfl ⟨rfl, rfl⟩ (Nat.le_of_ble_eq_true rfl) (c_holds (b := 17) B.1 K.2.2.1.1) ?_
      refine a_if_eq fF_two_25 (fun c_ => absurd c_ (fun z => by rw [bI_t d1] at z; exact absurd z (by decide))) (fun _ => ?_)
      by_cases d2 : a = b
      · refine a_il1 fF_two_28 ?_
        refine a_il2 fF_two_29 ?_
        refine a_ic_ne fF_two_30 (fun c_ => absurd (d2) c_) (fun _ => ?_)
        refine a_al0 fF_two_33 ?_
        refine a_V0V fF_two_34 k_F_89 m_F_bad ⟨by decide, by decide⟩ X.1.1 rfl ⟨rfl, rfl⟩ (Nat.le_of_ble_eq_true rfl) (c_bad X.1.1) ?_
        exact a_ri fF_two_37 rfl (⟨_, rfl, rfl, rfl, fM.r0.up (by decide), X.fl _ _ _ _ _⟩)
      · exact absurd ⟨d0, d1, d2⟩ hb
    · refine a_al0 fF_two_14 ?_
      refine a_gf fF_two_15 l_F_10 X.1.1 rfl ?_
      refine a_gf fF_two_18 l_F_67 V.1 rfl ?_
      refine a_il2 fF_two_21 ?_
      refine a_V1V fF_two_22 k_F_153 m_B_holds ⟨by decide, by decide⟩ B.1 rfl ⟨rfl, rfl⟩ (Nat.le_of_ble_eq_true rfl) (c_holds (b := 17) B.1 K.2.2.1.1) ?_
      refine a_if_eq fF_two_25 (fun _ => ?_) (fun c_ => absurd (by rw [bI_f d1]) c_)
      refine a_al0 fF_two_33 ?_
      refine a_V0V fF_two_34 k_F_89 m_F_bad ⟨by decide, by decide⟩ X.1.1 rfl ⟨rfl, rfl⟩ (Nat.le_of_ble_eq_true rfl) (c_bad X.1.1) ?_
      exact a_ri fF_two_37 rfl (⟨_, rfl, rfl, rfl, fM.r0.up (by decide), X.fl _ _ _ _ _⟩)
  · refine a_al0 fF_two_0 ?_
    refine a_gf fF_two_1 l_F_10 X.1.1 rfl ?_
    refine a_gf fF_two_4 l_F_67 V.1 rfl ?_
    refine a_il1 fF_two_7 ?_
    refine a_V1V fF_two_8 k_F_153 m_B_holds ⟨by decide, by decide⟩ B.1 rfl ⟨rfl, rfl⟩ (Nat.le_of_ble_eq_true rfl) (c_holds (b := 17) B.1 K.2.2.1.1) ?_
    refine a_if_eq fF_two_11 (fun _ => ?_) (fun c_ => absurd (by rw [bI_f d0]) c_)
    refine a_al0 fF_two_33 ?_
    refine a_V0V fF_two_34 k_F_89 m_F_bad ⟨by decide, by decide⟩ X.1.1 rfl ⟨rfl, rfl⟩ (Nat.le_of_ble_eq_true rfl) (c_bad X.1.1) ?_
    exact a_ri fF_two_37 rfl (⟨_, rfl, rfl, rfl, fM.r0.up (by decide), X.fl _ _ _ _ _⟩)
theorem x_two_no {A9 B9 : Nat} (X : XS h n N I tn bt ab be rb rn rf) (K : okN N) (h9 : A9 < N 31) (h8 : B9 < N 31) (h7 : ¬ A9 = B9) (h6 : N 44 / 2 ^ A9 % 2 = 1 ∨ N 44 / 2 ^ B9 % 2 = 1) : fE M_F_two E [.ref 11, .int (nI A9), .int (nI B9)] n h (qI (fun r k g => r = -3 ∧ k = n ∧ fM h g ∧ XS g n N I tn bt ab be rb (rn + 1) rf)) := by
  have V := X.2.1.v
  have B := X.2.1.b
  have C := X.2.1.c
  have S := X.2.2.2.1
  have O := K.c
  refine fE.of (L := [some (.ref 11), some (.int (nI A9)), some (.int (nI B9))]) (by decide +kernel) (Nat.le_of_ble_eq_true rfl) rfl ?_
  have bd := K.2.2.1.1
  have bp := Nat.lt_of_lt_of_le K.2.2.2.2.1 (pw64 bd)
  refine a_al0 fF_two_0 ?_
  refine a_gf fF_two_1 l_F_10 X.1.1 rfl ?_
  refine a_gf fF_two_4 l_F_67 V.1 rfl ?_
  refine a_il1 fF_two_7 ?_
  refine a_V1V fF_two_8 k_F_153 m_B_holds ⟨by decide, by decide⟩ B.1 rfl ⟨rfl, rfl⟩ (Nat.le_of_ble_eq_true rfl) (c_holds (b := 17) B.1 bd) ?_
  refine a_if_eq fF_two_11 (fun c_ => absurd c_ (fun z => by rw [bI_t ⟨nI_pos' (by omega), nI_lt h9 (by omega)⟩] at z; exact absurd z (by decide))) (fun _ => ?_)
  refine a_al0 fF_two_14 ?_
  refine a_gf fF_two_15 l_F_10 X.1.1 rfl ?_
  refine a_gf fF_two_18 l_F_67 V.1 rfl ?_
  refine a_il2 fF_two_21 ?_
  refine a_V1V fF_two_22 k_F_153 m_B_holds ⟨by decide, by decide⟩ B.1 rfl ⟨rfl, rfl⟩ (Nat.le_of_ble_eq_true rfl) (c_holds (b := 17) B.1 bd) ?_
  refine a_if_eq fF_two_25 (fun c_ => absurd c_ (fun z => by rw [bI_t ⟨nI_pos' (by omega), nI_lt h8 (by omega)⟩] at z; exact absurd z (by decide))) (fun _ => ?_)
  refine a_il1 fF_two_28 ?_
  refine a_il2 fF_two_29 ?_
  refine a_ic_ne fF_two_30 (fun _ => ?_) (fun c_ => absurd c_ (fun z => h7 ((nI_eq (by omega) (by omega)).mp z)))
  by_cases c9 : N 44 / 2 ^ A9 % 2 = 1
  · refine a_al0 fF_two_38 ?_
    refine a_gf fF_two_39 l_F_10 X.1.1 rfl ?_
    refine a_gf fF_two_42 l_F_67 V.1 rfl ?_
    refine a_il1 fF_two_45 ?_
    refine a_V1V fF_two_46 k_F_159 m_B_isPaid ⟨by decide, by decide⟩ B.1 rfl ⟨rfl, rfl⟩ (Nat.le_of_ble_eq_true rfl) (c_isPaid (b := 17) B.1 bp (i := A9) (by omega)) ?_
    refine a_if_ne fF_two_49 (fun _ => ?_) (fun c_ => absurd c_ (fun z => by rw [bI_t c9] at z; exact absurd z (by decide)))
    refine a_al0 fF_two_66 ?_
    refine a_V0V fF_two_67 k_F_140 m_F_no ⟨by decide, by decide⟩ X.1.1 rfl ⟨rfl, rfl⟩ (Nat.le_of_ble_eq_true rfl) (c_no X.1.1) ?_
    exact a_ri fF_two_70 rfl (⟨_, rfl, rfl, rfl, fM.r0.up (by decide), X.fl _ _ _ _ _⟩)
  · have c8 := h6.resolve_left c9
    refine a_al0 fF_two_38 ?_
    refine a_gf fF_two_39 l_F_10 X.1.1 rfl ?_
    refine a_gf fF_two_42 l_F_67 V.1 rfl ?_
    refine a_il1 fF_two_45 ?_
    refine a_V1V fF_two_46 k_F_159 m_B_isPaid ⟨by decide, by decide⟩ B.1 rfl ⟨rfl, rfl⟩ (Nat.le_of_ble_eq_true rfl) (c_isPaid (b := 17) B.1 bp (i := A9) (by omega)) ?_
    refine a_if_ne fF_two_49 (fun c_ => absurd (by rw [bI_f c9]) c_) (fun _ => ?_)
    refine a_al0 fF_two_52 ?_
    refine a_gf fF_two_53 l_F_10 X.1.1 rfl ?_
    refine a_gf fF_two_56 l_F_67 V.1 rfl ?_
    refine a_il2 fF_two_59 ?_
    refine a_V1V fF_two_60 k_F_159 m_B_isPaid ⟨by decide, by decide⟩ B.1 rfl ⟨rfl, rfl⟩ (Nat.le_of_ble_eq_true rfl) (c_isPaid (b := 17) B.1 bp (i := B9) (by omega)) ?_
    refine a_if_eq fF_two_63 (fun c_ => absurd c_ (fun z => by rw [bI_t c8] at z; exact absurd z (by decide))) (fun _ => ?_)
    refine a_al0 fF_two_66 ?_
    refine a_V0V fF_two_67 k_F_140 m_F_no ⟨by decide, by decide⟩ X.1.1 rfl ⟨rfl, rfl⟩ (Nat.le_of_ble_eq_true rfl) (c_no X.1.1) ?_
    exact a_ri fF_two_70 rfl (⟨_, rfl, rfl, rfl, fM.r0.up (by decide), X.fl _ _ _ _ _⟩)
theorem x_two {A9 B9 : Nat} (X : XS h n N I tn bt ab be rb rn rf) (K : okN N) (h9 : A9 < N 31) (h8 : B9 < N 31) (h7 : ¬ A9 = B9) (h6 : ¬ N 44 / 2 ^ A9 % 2 = 1) (h5 : ¬ N 44 / 2 ^ B9 % 2 = 1) : fE M_F_two E [.ref 11, .int (nI A9), .int (nI B9)] n h (qI (fun r k g => r = nI (kbs (rpP N A9 B9) 4 0 0) ∧ k = n ∧ fM h g ∧ XS g n N I tn bt ab be rb rn rf)) := by
  have V := X.2.1.v
  have B := X.2.1.b
  have C := X.2.1.c
  have S := X.2.2.2.1
  have O := K.c
  refine fE.of (L := [some (.ref 11), some (.int (nI A9)), some (.int (nI B9))]) (by decide +kernel) (Nat.le_of_ble_eq_true rfl) rfl ?_
  have bd := K.2.2.1.1
  have bp := Nat.lt_of_lt_of_le K.2.2.2.2.1 (pw64 bd)
  refine a_al0 fF_two_0 ?_
  refine a_gf fF_two_1 l_F_10 X.1.1 rfl ?_
  refine a_gf fF_two_4 l_F_67 V.1 rfl ?_
  refine a_il1 fF_two_7 ?_
  refine a_V1V fF_two_8 k_F_153 m_B_holds ⟨by decide, by decide⟩ B.1 rfl ⟨rfl, rfl⟩ (Nat.le_of_ble_eq_true rfl) (c_holds (b := 17) B.1 bd) ?_
  refine a_if_eq fF_two_11 (fun c_ => absurd c_ (fun z => by rw [bI_t ⟨nI_pos' (by omega), nI_lt h9 (by omega)⟩] at z; exact absurd z (by decide))) (fun _ => ?_)
  refine a_al0 fF_two_14 ?_
  refine a_gf fF_two_15 l_F_10 X.1.1 rfl ?_
  refine a_gf fF_two_18 l_F_67 V.1 rfl ?_
  refine a_il2 fF_two_21 ?_
  refine a_V1V fF_two_22 k_F_153 m_B_holds ⟨by decide, by decide⟩ B.1 rfl ⟨rfl, rfl⟩ (Nat.le_of_ble_eq_true rfl) (c_holds (b := 17) B.1 bd) ?_
  refine a_if_eq fF_two_25 (fun c_ => absurd c_ (fun z => by rw [bI_t ⟨nI_pos' (by omega), nI_lt h8 (by omega)⟩] at z; exact absurd z (by decide))) (fun _ => ?_)
  refine a_il1 fF_two_28 ?_
  refine a_il2 fF_two_29 ?_
  refine a_ic_ne fF_two_30 (fun _ => ?_) (fun c_ => absurd c_ (fun z => h7 ((nI_eq (by omega) (by omega)).mp z)))
  refine a_al0 fF_two_38 ?_
  refine a_gf fF_two_39 l_F_10 X.1.1 rfl ?_
  refine a_gf fF_two_42 l_F_67 V.1 rfl ?_
  refine a_il1 fF_two_45 ?_
  refine a_V1V fF_two_46 k_F_159 m_B_isPaid ⟨by decide, by decide⟩ B.1 rfl ⟨rfl, rfl⟩ (Nat.le_of_ble_eq_true rfl) (c_isPaid (b := 17) B.1 bp (i := A9) (by omega)) ?_
  refine a_if_ne fF_two_49 (fun c_ => absurd (by rw [bI_f h6]) c_) (fun _ => ?_)
  refine a_al0 fF_two_52 ?_
  refine a_gf fF_two_53 l_F_10 X.1.1 rfl ?_
  refine a_gf fF_two_56 l_F_67 V.1 rfl ?_
  refine a_il2 fF_two_59 ?_
  refine a_V1V fF_two_60 k_F_159 m_B_isPaid ⟨by decide, by decide⟩ B.1 rfl ⟨rfl, rfl⟩ (Nat.le_of_ble_eq_true rfl) (c_isPaid (b := 17) B.1 bp (i := B9) (by omega)) ?_
  refine a_if_eq fF_two_63 (fun _ => ?_) (fun c_ => absurd (by rw [bI_f h5]) c_)
  have k7 : ∃ op dp, h 47 = kO op dp := by obtain ⟨m, f, D, W, ob, cd, op, dp, k7, _⟩ := S; exact ⟨op, dp, k7⟩
  obtain ⟨op, dp, k7⟩ := k7
  refine a_al0 fF_two_71 ?_
  refine a_gf fF_two_72 l_F_26 X.1.1 rfl ?_
  refine a_al0 fF_two_75 ?_
  refine a_gf fF_two_76 l_F_10 X.1.1 rfl ?_
  refine a_il1 fF_two_79 ?_
  refine a_il2 fF_two_80 ?_
  refine a_V3I fF_two_81 k_F_277 m_K_restingPairs ⟨by decide, by decide⟩ k7 rfl ⟨rfl, rfl⟩ (Nat.le_of_ble_eq_true rfl) (c_resting V B S O K.b h9 h8) (fun r1 n1 h1 p1 => ?_)
  obtain ⟨hr, hn1, S1, F1⟩ := p1
  subst n1
  exact a_ri fF_two_84 rfl ⟨_, rfl, hr, rfl, fM.k F1, X.ofk F1 S1⟩
end PU
