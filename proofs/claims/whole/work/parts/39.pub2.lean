/-! the public methods, on -/
/-- a line is written over a row -/
def wdN (N : Nat → Nat) (sg : List Nat) : Nat → Nat := fun i => if 20 ≤ i ∧ i < 30 then wad (sl N 0 10) (N 30) 0 sg (sl N 20 10) (i - 20) else N i
def pyN (N : Nat → Nat) (b : Nat) : Nat → Nat := va_up (va_up (wdN (ntN N) (sgn (N (32 + b)) (N (32 + b)))) 44 (N 44 ||| 2 ^ b)) 45 (N 45 + N (38 + b))
def trN (N : Nat → Nat) (f x : Nat) : Nat → Nat := va_up (va_up (va_up N (47 + N 46) f) (53 + N 46) x) 46 (N 46 + 1)
def noN (N : Nat → Nat) (f k d x : Nat) : Nat → Nat := va_up (va_up (va_up (va_up (va_up N (60 + N 59) f) (66 + N 59) k) (72 + N 59) d) (78 + N 59) x) 59 (N 59 + 1)
theorem sl_nt {N : Nat → Nat} {a : Nat} (hz : N 84 ≤ 8) (ha : a + 10 ≤ 84) : sl (ntN N) a 10 = sl N a 10 := sl_eq (fun i hi => nt_lo (by omega) hz)
theorem sl_wd {N : Nat → Nat} {sg : List Nat} (h : ∀ f ∈ sg, f < 10) : sl (wdN N sg) 20 10 = wad (sl N 0 10) (N 30) 0 sg (sl N 20 10) := by
  funext i
  unfold sl wdN
  by_cases c : i < 10
  · rw [if_pos c, if_pos (by omega), show 20 + i - 20 = i by omega]; rfl
  · rw [if_neg c]
    exact (kz_wad sg 0 _ h (kz_sl (N := N) (a := 20)) i (by omega)).symm
theorem isH.bl {h : hT} {q : Nat} {N : Nat → Nat} (H : isH h q N) (h6 : N 31 ≤ 6) (p e : Nat) : isH (va_up h (q + 5) (bO (q + 5) (N 31) p e)) q (va_up (va_up N 44 p) 45 e) := by
  obtain ⟨bn, bw, tf, tm, nf, ng, nd, nm, rw, ⟨⟨a1, a2, a3, a4, a5⟩, ⟨a6, a7, a8⟩, ⟨a9, b1, b2, b3, b4, b5, b6⟩, b7, b8⟩, l1, l2, l3, l4⟩ := H
  have eo : ∀ i, i ≠ 44 → i ≠ 45 → va_up (va_up N 44 p) 45 e i = N i := fun i h1 h2 => by rw [vn h2, vn h1]
  have e44 : va_up (va_up N 44 p) 45 e 44 = p := by rw [vn (by decide)]; exact up_s
  have e45 : va_up (va_up N 44 p) 45 e 45 = e := up_s
  refine ⟨bn, bw, tf, tm, nf, ng, nd, nm, rw, ⟨⟨?_, ?_, ?_, ?_, ?_⟩, ⟨?_, ?_, ?_⟩, ⟨?_, ?_, ?_, ?_, ?_, ?_, ?_⟩, ?_, ?_⟩, ?_⟩
  · exact up_n (by omega) a1
  · rw [show sl (va_up (va_up N 44 p) 45 e) 0 10 = sl N 0 10 from sl_eq (fun i hi => eo _ (by omega) (by omega))]; exact up_n (by omega) a2
  · rw [show sl (va_up (va_up N 44 p) 45 e) 10 10 = sl N 10 10 from sl_eq (fun i hi => eo _ (by omega) (by omega))]; exact up_n (by omega) a3
  · rw [eo 30 (by omega) (by omega)]; exact up_n (by omega) a4
  · rw [show sl (va_up (va_up N 44 p) 45 e) 20 10 = sl N 20 10 from sl_eq (fun i hi => eo _ (by omega) (by omega))]; exact up_n (by omega) a5
  · rw [eo 31 (by omega) (by omega), e44, e45]; exact up_s
  · exact up_n (by omega) a7
  · exact up_n (by omega) a8
  · rw [eo 46 (by omega) (by omega), eo 59 (by omega) (by omega)]; exact up_n (by omega) a9
  · exact up_n (by omega) b1
  · exact up_n (by omega) b2
  · exact up_n (by omega) b3
  · exact up_n (by omega) b4
  · exact up_n (by omega) b5
  · exact up_n (by omega) b6
  · rw [eo 84 (by omega) (by omega)]; exact up_n (by omega) b7
  · exact up_n (by omega) b8
  · refine ⟨fun i hi => ?_, fun i hi => ?_, fun i hi => ?_, fun i hi => ?_⟩
    · rw [eo 31 (by omega) (by omega)] at hi
      by_cases c : i < 6
      · rw [eo _ (by omega) (by omega), eo _ (by omega) (by omega)]; exact l1 i hi
      · omega
    · rw [eo 46 (by omega) (by omega)] at hi; rw [eo _ (by omega) (by omega), eo _ (by omega) (by omega)]; exact l2 i hi
    · rw [eo 59 (by omega) (by omega)] at hi; rw [eo _ (by omega) (by omega), eo _ (by omega) (by omega), eo _ (by omega) (by omega), eo _ (by omega) (by omega)]; exact l3 i hi
    · rw [eo 84 (by omega) (by omega)] at hi; rw [eo _ (by omega) (by omega)]; exact l4 i hi
theorem ngt_out : ∀ (m : Nat) (N : Nat → Nat) (i : Nat), i < 20 ∨ 30 < i → ngt m N i = N i := by
  intro m
  induction m with
  | zero => intro N i _; rfl
  | succ m ih =>
    intro N i hi
    show ngt m (ngt1 N) i = N i
    rw [ih _ _ hi]
    unfold ngt1
    rw [if_neg (by omega), if_neg (by omega)]
section PU
variable {E : eT} {n : Nat} {h : hT} {N : Nat → Nat} {I : Nat → Option (Nat → Nat)} {tn : Nat} {bt : Nat → Nat} {ab be rb rn rf : Nat}
theorem x_clear (X : XS h n N I tn bt ab be rb rn rf) (K : okN N) : fE M_F_clear E [.ref 11] n h (qI (fun r k g => r = nI tn ∧ k = n ∧ fM h g ∧ XS g n N I 0 bt ab be rb rn rf)) := by
  have V := X.2.1.v
  have B := X.2.1.b
  have C := X.2.1.c
  have S := X.2.2.2.1
  have O := K.c
  refine fE.of (L := [some (.ref 11), none]) (by decide +kernel) (Nat.le_of_ble_eq_true rfl) rfl ?_
  obtain ⟨ta, tp, ts, tv, t1⟩ := X.2.2.2.2.2.1
  have t2 := X.2.2.2.2.2.2.1.1
  refine a_al0 fF_clear_0 ?_
  refine a_gf fF_clear_1 l_F_40 X.1.1 rfl ?_
  refine a_gf fF_clear_4 l_F_114 t1 rfl ?_
  refine a_is1 fF_clear_7 (by decide) rfl ?_
  refine a_al0 fF_clear_8 ?_
  refine a_gf fF_clear_9 l_F_40 X.1.1 rfl ?_
  refine a_ic fF_clear_12 ?_
  refine a_pfi2 fF_clear_13 p_F_114 t1 ?_
  refine a_il1 fF_clear_16 ?_
  exact a_ri fF_clear_17 rfl (⟨_, rfl, rfl, rfl, fM.r0.up (by decide), X.oft (fun a x1 x2 => up_n x1 rfl) (show va_up h 57 _ 57 = tO 0 ta tp ts tv from up_s) (up_n (by decide) t2)⟩)
theorem x_type_bad {c : Int32} (X : XS h n N I tn bt ab be rb rn rf) (hb : ¬ ((0 ≤ c ∧ c ≤ 127))) : fE M_F_type E [.ref 11, .int c] n h (qI (fun r k g => r = -2 ∧ k = n ∧ fM h g ∧ XS g n N I tn bt ab be (rb + 1) rn rf)) := by
  refine fE.of (L := [some (.ref 11), some (.int c)]) (by decide +kernel) (Nat.le_of_ble_eq_true rfl) rfl ?_
  by_cases d0 : (0 ≤ c ∧ c ≤ 127)
  · exact absurd d0 hb
  · refine a_il1 fF_type_0 ?_
    refine a_ic fF_type_1 ?_
    refine a_ic fF_type_2 ?_
    refine a_S3V fF_type_4 k_F_85 m_F_within ⟨by decide, by decide⟩ ⟨rfl, rfl⟩ (Nat.le_of_ble_eq_true rfl) (c_within) ?_
    refine a_if_ne fF_type_7 (fun c_ => absurd (by rw [bI_f d0]) c_) (fun _ => ?_)
    refine a_al0 fF_type_10 ?_
    refine a_V0V fF_type_11 k_F_89 m_F_bad ⟨by decide, by decide⟩ X.1.1 rfl ⟨rfl, rfl⟩ (Nat.le_of_ble_eq_true rfl) (c_bad X.1.1) ?_
    exact a_ri fF_type_14 rfl (⟨_, rfl, rfl, rfl, fM.r0.up (by decide), X.fl _ _ _ _ _⟩)
theorem x_type_full {C9 : Nat} (X : XS h n N I tn bt ab be rb rn rf) (K : okN N) (h9 : C9 ≤ 127) (h8 : tn = 150) : fE M_F_type E [.ref 11, .int (nI C9)] n h (qI (fun r k g => r = -4 ∧ k = n ∧ fM h g ∧ XS g n N I tn bt ab be rb rn (rf + 1))) := by
  have V := X.2.1.v
  have B := X.2.1.b
  have C := X.2.1.c
  have S := X.2.2.2.1
  have O := K.c
  refine fE.of (L := [some (.ref 11), some (.int (nI C9))]) (by decide +kernel) (Nat.le_of_ble_eq_true rfl) rfl ?_
  refine a_il1 fF_type_0 ?_
  refine a_ic fF_type_1 ?_
  refine a_ic fF_type_2 ?_
  refine a_S3V fF_type_4 k_F_85 m_F_within ⟨by decide, by decide⟩ ⟨rfl, rfl⟩ (Nat.le_of_ble_eq_true rfl) (c_within) ?_
  refine a_if_ne fF_type_7 (fun _ => ?_) (fun c_ => absurd c_ (fun z => by rw [bI_t ⟨nI_pos' (by omega), nI_le (b := 127) (by omega) (by decide)⟩] at z; exact absurd z (by decide)))
  obtain ⟨ta, tp, ts, tv, t1⟩ := X.2.2.2.2.2.1
  have t2 := X.2.2.2.2.2.2.1.1
  refine a_al0 fF_type_15 ?_
  refine a_gf fF_type_16 l_F_40 X.1.1 rfl ?_
  refine a_gf fF_type_19 l_F_114 t1 rfl ?_
  refine a_ic fF_type_22 ?_
  refine a_ic_lt fF_type_25 (fun c_ => absurd c_ (fun z => by rw [h8] at z; exact absurd z (by decide))) (fun _ => ?_)
  refine a_al0 fF_type_28 ?_
  refine a_V0V fF_type_29 k_F_107 m_F_full ⟨by decide, by decide⟩ X.1.1 rfl ⟨rfl, rfl⟩ (Nat.le_of_ble_eq_true rfl) (c_full X.1.1) ?_
  exact a_ri fF_type_32 rfl (⟨_, rfl, rfl, rfl, fM.r0.up (by decide), X.fl _ _ _ _ _⟩)
theorem x_type {C9 : Nat} (X : XS h n N I tn bt ab be rb rn rf) (K : okN N) (h9 : C9 ≤ 127) (h8 : tn < 150) : fE M_F_type E [.ref 11, .int (nI C9)] n h (qI (fun r k g => r = nI (tn + 1) ∧ k = n ∧ fM h g ∧ XS g n N I (tn + 1) (va_up bt tn C9) ab be rb rn rf)) := by
  have V := X.2.1.v
  have B := X.2.1.b
  have C := X.2.1.c
  have S := X.2.2.2.1
  have O := K.c
  refine fE.of (L := [some (.ref 11), some (.int (nI C9))]) (by decide +kernel) (Nat.le_of_ble_eq_true rfl) rfl ?_
  refine a_il1 fF_type_0 ?_
  refine a_ic fF_type_1 ?_
  refine a_ic fF_type_2 ?_
  refine a_S3V fF_type_4 k_F_85 m_F_within ⟨by decide, by decide⟩ ⟨rfl, rfl⟩ (Nat.le_of_ble_eq_true rfl) (c_within) ?_
  refine a_if_ne fF_type_7 (fun _ => ?_) (fun c_ => absurd c_ (fun z => by rw [bI_t ⟨nI_pos' (by omega), nI_le (b := 127) (by omega) (by decide)⟩] at z; exact absurd z (by decide)))
  obtain ⟨ta, tp, ts, tv, t1⟩ := X.2.2.2.2.2.1
  have t2 := X.2.2.2.2.2.2.1.1
  refine a_al0 fF_type_15 ?_
  refine a_gf fF_type_16 l_F_40 X.1.1 rfl ?_
  refine a_gf fF_type_19 l_F_114 t1 rfl ?_
  refine a_ic fF_type_22 ?_
  refine a_ic_lt fF_type_25 (fun _ => ?_) (fun c_ => absurd (nI_lt (b := 150) h8 (by decide)) c_)
  refine a_al0 fF_type_33 ?_
  refine a_gf fF_type_34 l_F_40 X.1.1 rfl ?_
  refine a_gf fF_type_37 l_F_115 t1 rfl ?_
  refine a_al0 fF_type_40 ?_
  refine a_gf fF_type_41 l_F_40 X.1.1 rfl ?_
  refine a_gf fF_type_44 l_F_114 t1 rfl ?_
  refine a_il1 fF_type_47 ?_
  refine a_it fF_type_48 t2 rfl (by omega) (by decide) ?_
  rw [upd_nF]
  refine a_al0 fF_type_49 ?_
  refine a_gf fF_type_50 l_F_40 (up_n (by decide) X.1.1) rfl ?_
  refine a_dup fF_type_53 rfl ?_
  refine a_gf fF_type_54 l_F_114 (up_n (by decide) t1) rfl ?_
  refine a_ic fF_type_57 ?_
  refine a_iadd fF_type_58 ?_
  refine a_pfi2 fF_type_59 p_F_114 (up_n (by decide) t1) ?_
  rw [nI_1]
  refine a_al0 fF_type_62 ?_
  refine a_gf fF_type_63 l_F_40 (up_n (by decide) (up_n (by decide) X.1.1)) rfl ?_
  refine a_gf fF_type_66 l_F_114 up_s rfl ?_
  exact a_ri fF_type_69 rfl (⟨_, rfl, rfl, rfl, (fM.r0.up (by decide)).up (by decide), X.oft (fun a x1 x2 => up_n x1 (up_n x2 rfl)) (show va_up _ 57 _ 57 = tO (tn + 1) ta tp ts tv from up_s) (up_n (by decide) up_s)⟩)
theorem x_write_bad {v x : Int32} (X : XS h n N I tn bt ab be rb rn rf) (hb : ¬ ((0 ≤ v ∧ v ≤ 99) ∧ (0 ≤ x ∧ x ≤ 99))) : fE M_F_write E [.ref 11, .int v, .int x] n h (qI (fun r k g => r = -2 ∧ k = n ∧ fM h g ∧ XS g n N I tn bt ab be (rb + 1) rn rf)) := by
  refine fE.of (L := [some (.ref 11), some (.int v), some (.int x)]) (by decide +kernel) (Nat.le_of_ble_eq_true rfl) rfl ?_
  by_cases d0 : (0 ≤ v ∧ v ≤ 99)
  · refine a_il1 fF_write_0 ?_
    refine a_S1V fF_write_1 k_F_104 m_F_isNumber ⟨by decide, by decide⟩ ⟨rfl, rfl⟩ (Nat.le_of_ble_eq_true rfl) (c_isNumber) ?_
    refine a_if_eq fF_write_4 (fun c_ => absurd c_ (fun z => by rw [bI_t d0] at z; exact absurd z (by decide))) (fun _ => ?_)
    by_cases d1 : (0 ≤ x ∧ x ≤ 99)
    · exact absurd ⟨d0, d1⟩ hb
    · refine a_il2 fF_write_7 ?_
      refine a_S1V fF_write_8 k_F_104 m_F_isNumber ⟨by decide, by decide⟩ ⟨rfl, rfl⟩ (Nat.le_of_ble_eq_true rfl) (c_isNumber) ?_
      refine a_if_ne fF_write_11 (fun c_ => absurd (by rw [bI_f d1]) c_) (fun _ => ?_)
      refine a_al0 fF_write_14 ?_
      refine a_V0V fF_write_15 k_F_89 m_F_bad ⟨by decide, by decide⟩ X.1.1 rfl ⟨rfl, rfl⟩ (Nat.le_of_ble_eq_true rfl) (c_bad X.1.1) ?_
      exact a_ri fF_write_18 rfl (⟨_, rfl, rfl, rfl, fM.r0.up (by decide), X.fl _ _ _ _ _⟩)
  · refine a_il1 fF_write_0 ?_
    refine a_S1V fF_write_1 k_F_104 m_F_isNumber ⟨by decide, by decide⟩ ⟨rfl, rfl⟩ (Nat.le_of_ble_eq_true rfl) (c_isNumber) ?_
    refine a_if_eq fF_write_4 (fun _ => ?_) (fun c_ => absurd (by rw [bI_f d0]) c_)
    refine a_al0 fF_write_14 ?_
    refine a_V0V fF_write_15 k_F_89 m_F_bad ⟨by decide, by decide⟩ X.1.1 rfl ⟨rfl, rfl⟩ (Nat.le_of_ble_eq_true rfl) (c_bad X.1.1) ?_
    exact a_ri fF_write_18 rfl (⟨_, rfl, rfl, rfl, fM.r0.up (by decide), X.fl _ _ _ _ _⟩)
theorem x_write_no {V9 X9 : Nat} (X : XS h n N I tn bt ab be rb rn rf) (K : okN N) (h9 : V9 < 100) (h8 : X9 < 100) (h7 : ¬ canR N V9 X9) : fE M_F_write E [.ref 11, .int (nI V9), .int (nI X9)] n h (qI (fun r k g => r = -3 ∧ k = n ∧ fM h g ∧ XS g n N I tn bt ab be rb (rn + 1) rf)) := by
  have V := X.2.1.v
  have B := X.2.1.b
  have C := X.2.1.c
  have S := X.2.2.2.1
  have O := K.c
  refine fE.of (L := [some (.ref 11), some (.int (nI V9)), some (.int (nI X9))]) (by decide +kernel) (Nat.le_of_ble_eq_true rfl) rfl ?_
  refine a_il1 fF_write_0 ?_
  refine a_S1V fF_write_1 k_F_104 m_F_isNumber ⟨by decide, by decide⟩ ⟨rfl, rfl⟩ (Nat.le_of_ble_eq_true rfl) (c_isNumber) ?_
  refine a_if_eq fF_write_4 (fun c_ => absurd c_ (fun z => by rw [bI_t ⟨nI_pos' (by omega), nI_le (b := 99) (by omega) (by decide)⟩] at z; exact absurd z (by decide))) (fun _ => ?_)
  refine a_il2 fF_write_7 ?_
  refine a_S1V fF_write_8 k_F_104 m_F_isNumber ⟨by decide, by decide⟩ ⟨rfl, rfl⟩ (Nat.le_of_ble_eq_true rfl) (c_isNumber) ?_
  refine a_if_ne fF_write_11 (fun _ => ?_) (fun c_ => absurd c_ (fun z => by rw [bI_t ⟨nI_pos' (by omega), nI_le (b := 99) (by omega) (by decide)⟩] at z; exact absurd z (by decide)))
  obtain ⟨lm, lf, l1, l2⟩ := X.2.2.2.2.2.2.2.1
  refine a_al0 fF_write_19 ?_
  refine a_gf fF_write_20 l_F_47 X.1.1 rfl ?_
  refine a_il1 fF_write_23 ?_
  refine a_il2 fF_write_24 ?_
  refine a_V2Q fF_write_25 k_F_129 m_L_tell ⟨by decide, by decide⟩ l1 rfl ⟨rfl, rfl⟩ (Nat.le_of_ble_eq_true rfl) (c_tell (l := 61) l1 l2 h9 h8) (fun n1 h1 p1 => ?_)
  obtain ⟨hn1, g2, q1, hg2⟩ := p1
  subst n1
  have Fl : ∀ a, a ≠ 61 → a ≠ 62 → h1 a = h a := by rw [hg2]; exact fun a x1 x2 => up_n x2 (up_n x1 rfl)
  have M1 : h1 61 = lO 62 (sgn V9 X9).length := by rw [hg2]; exact up_n (by decide) up_s
  have M2 : h1 62 = ia 4 g2 := by rw [hg2]; exact up_s
  clear hg2
  have X1 := X.ofl Fl M1 M2
  have V1 := X1.2.1.v
  have B1 := X1.2.1.b
  have Fm : fM h h1 := fun a x1 x2 => Fl a (by omega) (by omega)
  refine a_al0 fF_write_28 ?_
  refine a_gf fF_write_29 l_F_10 X1.1.1 rfl ?_
  refine a_al0 fF_write_32 ?_
  refine a_gf fF_write_33 l_F_10 X1.1.1 rfl ?_
  refine a_gf fF_write_36 l_F_132 V1.1 rfl ?_
  refine a_al0 fF_write_39 ?_
  refine a_gf fF_write_40 l_F_47 X1.1.1 rfl ?_
  refine a_V2V fF_write_43 k_F_136 m_H_takes ⟨by decide, by decide⟩ V1.1 rfl ⟨rfl, rfl⟩ (Nat.le_of_ble_eq_true rfl) (c_takes (q := 12) (s := 15) (l := 61) V1.1 V1.2.1 V1.2.2.1 V1.2.2.2.1 V1.2.2.2.2 M1 M2 q1 O.K O.S O.W O.D (by omega) (by omega)) ?_
  refine a_if_ne fF_write_46 (fun c_ => absurd (by rw [bI_f h7]) c_) (fun _ => ?_)
  refine a_al0 fF_write_49 ?_
  refine a_V0V fF_write_50 k_F_140 m_F_no ⟨by decide, by decide⟩ X1.1.1 rfl ⟨rfl, rfl⟩ (Nat.le_of_ble_eq_true rfl) (c_no X1.1.1) ?_
  exact a_ri fF_write_53 rfl (⟨_, rfl, rfl, rfl, Fm.up (by decide), X1.fl _ _ _ _ _⟩)
theorem x_write {V9 X9 : Nat} (X : XS h n N I tn bt ab be rb rn rf) (K : okN N) (h9 : V9 < 100) (h8 : X9 < 100) (h7 : canR N V9 X9) : fE M_F_write E [.ref 11, .int (nI V9), .int (nI X9)] n h (qI (fun r k g => r = nI (cstR N V9 X9) ∧ k = n ∧ fM h g ∧ XS g n (wdN (ntN N) (sgn V9 X9)) I tn bt ab be rb rn rf)) := by
  have V := X.2.1.v
  have B := X.2.1.b
  have C := X.2.1.c
  have S := X.2.2.2.1
  have O := K.c
  refine fE.of (L := [some (.ref 11), some (.int (nI V9)), some (.int (nI X9))]) (by decide +kernel) (Nat.le_of_ble_eq_true rfl) rfl ?_
  refine a_il1 fF_write_0 ?_
  refine a_S1V fF_write_1 k_F_104 m_F_isNumber ⟨by decide, by decide⟩ ⟨rfl, rfl⟩ (Nat.le_of_ble_eq_true rfl) (c_isNumber) ?_
  refine a_if_eq fF_write_4 (fun c_ => absurd c_ (fun z => by rw [bI_t ⟨nI_pos' (by omega), nI_le (b := 99) (by omega) (by decide)⟩] at z; exact absurd z (by decide))) (fun _ => ?_)
  refine a_il2 fF_write_7 ?_
  refine a_S1V fF_write_8 k_F_104 m_F_isNumber ⟨by decide, by decide⟩ ⟨rfl, rfl⟩ (Nat.le_of_ble_eq_true rfl) (c_isNumber) ?_
  refine a_if_ne fF_write_11 (fun _ => ?_) (fun c_ => absurd c_ (fun z => by rw [bI_t ⟨nI_pos' (by omega), nI_le (b := 99) (by omega) (by decide)⟩] at z; exact absurd z (by decide)))
  obtain ⟨lm, lf, l1, l2⟩ := X.2.2.2.2.2.2.2.1
  refine a_al0 fF_write_19 ?_
  refine a_gf fF_write_20 l_F_47 X.1.1 rfl ?_
  refine a_il1 fF_write_23 ?_
  refine a_il2 fF_write_24 ?_
  refine a_V2Q fF_write_25 k_F_129 m_L_tell ⟨by decide, by decide⟩ l1 rfl ⟨rfl, rfl⟩ (Nat.le_of_ble_eq_true rfl) (c_tell (l := 61) l1 l2 h9 h8) (fun n1 h1 p1 => ?_)
  obtain ⟨hn1, g2, q1, hg2⟩ := p1
  subst n1
  have Fl : ∀ a, a ≠ 61 → a ≠ 62 → h1 a = h a := by rw [hg2]; exact fun a x1 x2 => up_n x2 (up_n x1 rfl)
  have M1 : h1 61 = lO 62 (sgn V9 X9).length := by rw [hg2]; exact up_n (by decide) up_s
  have M2 : h1 62 = ia 4 g2 := by rw [hg2]; exact up_s
  clear hg2
  have X1 := X.ofl Fl M1 M2
  have V1 := X1.2.1.v
  have B1 := X1.2.1.b
  have Fm : fM h h1 := fun a x1 x2 => Fl a (by omega) (by omega)
  refine a_al0 fF_write_28 ?_
  refine a_gf fF_write_29 l_F_10 X1.1.1 rfl ?_
  refine a_al0 fF_write_32 ?_
  refine a_gf fF_write_33 l_F_10 X1.1.1 rfl ?_
  refine a_gf fF_write_36 l_F_132 V1.1 rfl ?_
  refine a_al0 fF_write_39 ?_
  refine a_gf fF_write_40 l_F_47 X1.1.1 rfl ?_
  refine a_V2V fF_write_43 k_F_136 m_H_takes ⟨by decide, by decide⟩ V1.1 rfl ⟨rfl, rfl⟩ (Nat.le_of_ble_eq_true rfl) (c_takes (q := 12) (s := 15) (l := 61) V1.1 V1.2.1 V1.2.2.1 V1.2.2.2.1 V1.2.2.2.2 M1 M2 q1 O.K O.S O.W O.D (by omega) (by omega)) ?_
  refine a_if_ne fF_write_46 (fun _ => ?_) (fun c_ => absurd c_ (fun z => by rw [bI_t h7] at z; exact absurd z (by decide)))
  refine a_al0 fF_write_54 ?_
  refine a_gf fF_write_55 l_F_10 X1.1.1 rfl ?_
  refine a_V0Q fF_write_58 k_F_143 m_H_remember ⟨by decide, by decide⟩ V1.1 rfl ⟨rfl, rfl⟩ (Nat.le_of_ble_eq_true rfl) (c_remember X1.2.1 K.2.2.1) (fun n1 h2 p2 => ?_)
  obtain ⟨hn1, H2, F2, F3⟩ := p2
  subst n1
  have X2 := X1.ofq F2 H2
  have V2 := H2.v
  have z8 := K.2.2.1.2.2.2
  have M3 : h2 61 = lO 62 (sgn V9 X9).length := (F2 _ (by omega)).trans M1
  have M4 : h2 62 = ia 4 g2 := (F2 _ (by omega)).trans M2
  have e0 := sl_nt (N := N) (a := 0) z8 (by decide)
  have e1 := sl_nt (N := N) (a := 10) z8 (by decide)
  have e2 := sl_nt (N := N) (a := 20) z8 (by decide)
  have e3 : ntN N 30 = N 30 := nt_lo (by decide) z8
  have h7' : canR (ntN N) V9 X9 := by unfold canR; rw [e0, e1, e2, e3]; exact h7
  refine a_al0 fF_write_61 ?_
  refine a_gf fF_write_62 l_F_10 X2.1.1 rfl ?_
  refine a_al0 fF_write_65 ?_
  refine a_gf fF_write_66 l_F_10 X2.1.1 rfl ?_
  refine a_gf fF_write_69 l_F_132 V2.1 rfl ?_
  refine a_al0 fF_write_72 ?_
  refine a_gf fF_write_73 l_F_47 X2.1.1 rfl ?_
  refine a_V2V fF_write_76 k_F_146 m_H_puts ⟨by decide, by decide⟩ V2.1 rfl ⟨rfl, rfl⟩ (Nat.le_of_ble_eq_true rfl) (c_puts (q := 12) (s := 15) (l := 61) V2.1 V2.2.1 V2.2.2.1 V2.2.2.2.1 V2.2.2.2.2 M3 M4 q1 (by rw [e0]; exact O.K) (by rw [e1]; exact O.S) (by rw [e2]; exact O.W) (by rw [e3]; exact O.D) (by omega) (by omega)) ?_
  refine a_pop fF_write_79 rfl ?_
  rw [if_pos h7']
  have es := sl_wd (N := ntN N) (sg := sgn V9 X9) (sg_lt q1)
  have H3 : isH (va_up h2 (15 + 1) (nA 10 (wad (sl (ntN N) 0 10) (ntN N 30) 0 (sgn V9 X9) (sl (ntN N) 20 10)))) 12 (wdN (ntN N) (sgn V9 X9)) := by
    have := H2.wd (M := wdN (ntN N) (sgn V9 X9)) (fun i hi => by unfold wdN; rw [if_neg (by omega)])
    rw [es, show wdN (ntN N) (sgn V9 X9) 30 = ntN N 30 from by unfold wdN; rw [if_neg (by omega)]] at this
    rw [up_id (show va_up h2 (12 + 4) (nA 10 (wad (sl (ntN N) 0 10) (ntN N 30) 0 (sgn V9 X9) (sl (ntN N) 20 10))) (12 + 3) = sO (12 + 4) (ntN N 30) from up_n (by decide) V2.2.2.2.1)] at this
    exact this
  have F4 : frq 12 h2 (va_up h2 (15 + 1) (nA 10 (wad (sl (ntN N) 0 10) (ntN N 30) 0 (sgn V9 X9) (sl (ntN N) 20 10)))) := fun a ha => up_n (by omega) rfl
  generalize va_up h2 (15 + 1) (nA 10 (wad (sl (ntN N) 0 10) (ntN N 30) 0 (sgn V9 X9) (sl (ntN N) 20 10))) = h3 at H3 F4 ⊢
  have X3 := X2.ofq F4 H3
  have V3 := H3.v
  have M5 : h3 61 = lO 62 (sgn V9 X9).length := (F4 _ (by omega)).trans M3
  have M6 : h3 62 = ia 4 g2 := (F4 _ (by omega)).trans M4
  have Fz : fM h h3 := (Fm.trans (fM.q F2)).trans (fM.q F4)
  have f0 : sl (wdN (ntN N) (sgn V9 X9)) 0 10 = sl N 0 10 := by rw [← e0]; exact sl_eq (fun i hi => by unfold wdN; rw [if_neg (by omega)])
  have f3 : wdN (ntN N) (sgn V9 X9) 30 = N 30 := by rw [← e3]; unfold wdN; rw [if_neg (by omega)]
  refine a_al0 fF_write_80 ?_
  refine a_gf fF_write_81 l_F_10 X3.1.1 rfl ?_
  refine a_al0 fF_write_84 ?_
  refine a_gf fF_write_85 l_F_47 X3.1.1 rfl ?_
  refine a_V1V fF_write_88 k_F_149 m_H_costOf ⟨by decide, by decide⟩ V3.1 rfl ⟨rfl, rfl⟩ (Nat.le_of_ble_eq_true rfl) (c_costOf (q := 12) (l := 61) V3.1 V3.2.1 V3.2.2.2.1 M5 M6 q1 (by rw [f0]; exact O.K) (by rw [f3]; exact O.D)) ?_
  exact a_ri fF_write_91 rfl (⟨_, rfl, by rw [f0, f3], rfl, Fz, X3⟩)
theorem x_pay_bad {b : Int32} (X : XS h n N I tn bt ab be rb rn rf) (K : okN N) (hb : ¬ (0 ≤ b ∧ b < nI (N 31))) : fE M_F_pay E [.ref 11, .int b] n h (qI (fun r k g => r = -2 ∧ k = n ∧ fM h g ∧ XS g n N I tn bt ab be (rb + 1) rn rf)) := by
  have V := X.2.1.v
  have B := X.2.1.b
  refine fE.of (L := [some (.ref 11), some (.int b), none]) (by decide +kernel) (Nat.le_of_ble_eq_true rfl) rfl ?_
  refine a_al0 fF_pay_0 ?_
  refine a_gf fF_pay_1 l_F_10 X.1.1 rfl ?_
  refine a_gf fF_pay_4 l_F_67 V.1 rfl ?_
  refine a_il1 fF_pay_7 ?_
  refine a_V1V fF_pay_8 k_F_153 m_B_holds ⟨by decide, by decide⟩ B.1 rfl ⟨rfl, rfl⟩ (Nat.le_of_ble_eq_true rfl) (c_holds (b := 17) B.1 K.2.2.1.1) ?_
  refine a_if_ne fF_pay_11 (fun c_ => absurd (by rw [bI_f hb]) c_) (fun _ => ?_)
  refine a_al0 fF_pay_14 ?_
  refine a_V0V fF_pay_15 k_F_89 m_F_bad ⟨by decide, by decide⟩ X.1.1 rfl ⟨rfl, rfl⟩ (Nat.le_of_ble_eq_true rfl) (c_bad X.1.1) ?_
  exact a_ri fF_pay_18 rfl (⟨_, rfl, rfl, rfl, fM.r0.up (by decide), X.fl _ _ _ _ _⟩)
theorem x_pay_no {B9 : Nat} (X : XS h n N I tn bt ab be rb rn rf) (K : okN N) (h9 : B9 < N 31) (h7 : N 44 / 2 ^ B9 % 2 = 1 ∨ ¬ canR N (N (32 + B9)) (N (32 + B9))) : fE M_F_pay E [.ref 11, .int (nI B9)] n h (qI (fun r k g => r = -3 ∧ k = n ∧ fM h g ∧ XS g n N I tn bt ab be rb (rn + 1) rf)) := by
  have V := X.2.1.v
  have B := X.2.1.b
  have C := X.2.1.c
  have S := X.2.2.2.1
  have O := K.c
  refine fE.of (L := [some (.ref 11), some (.int (nI B9)), none]) (by decide +kernel) (Nat.le_of_ble_eq_true rfl) rfl ?_
  have bd := K.2.2.1.1
  have b9 := (K.2.2.2.1 B9 h9).1
  obtain ⟨q1b, bn, bw, q2b, q3b, q4b⟩ := B
  refine a_al0 fF_pay_0 ?_
  refine a_gf fF_pay_1 l_F_10 X.1.1 rfl ?_
  refine a_gf fF_pay_4 l_F_67 V.1 rfl ?_
  refine a_il1 fF_pay_7 ?_
  refine a_V1V fF_pay_8 k_F_153 m_B_holds ⟨by decide, by decide⟩ q1b rfl ⟨rfl, rfl⟩ (Nat.le_of_ble_eq_true rfl) (c_holds (b := 17) q1b bd) ?_
  refine a_if_ne fF_pay_11 (fun _ => ?_) (fun c_ => absurd c_ (fun z => by rw [bI_t ⟨nI_pos' (by omega), nI_lt h9 (by omega)⟩] at z; exact absurd z (by decide)))
  refine a_al0 fF_pay_19 ?_
  refine a_gf fF_pay_20 l_F_10 X.1.1 rfl ?_
  refine a_gf fF_pay_23 l_F_67 V.1 rfl ?_
  refine a_gf fF_pay_26 l_F_156 q1b rfl ?_
  refine a_il1 fF_pay_29 ?_
  refine a_ia fF_pay_30 q2b rfl (by omega) (by decide) ?_
  rw [show nF bn B9 = nI (N (32 + B9)) from congrArg nI (q4b B9 h9).1]
  refine a_is2 fF_pay_31 (by decide) rfl ?_
  obtain ⟨lm, lf, l1, l2⟩ := X.2.2.2.2.2.2.2.1
  refine a_al0 fF_pay_32 ?_
  refine a_gf fF_pay_33 l_F_47 X.1.1 rfl ?_
  refine a_il2 fF_pay_36 ?_
  refine a_il2 fF_pay_37 ?_
  refine a_V2Q fF_pay_38 k_F_129 m_L_tell ⟨by decide, by decide⟩ l1 rfl ⟨rfl, rfl⟩ (Nat.le_of_ble_eq_true rfl) (c_tell (l := 61) l1 l2 b9 b9) (fun n1 h1 p1 => ?_)
  obtain ⟨hn1, g2, q1, hg2⟩ := p1
  subst n1
  have Fl : ∀ a, a ≠ 61 → a ≠ 62 → h1 a = h a := by rw [hg2]; exact fun a x1 x2 => up_n x2 (up_n x1 rfl)
  have M1 : h1 61 = lO 62 (sgn (N (32 + B9)) (N (32 + B9))).length := by rw [hg2]; exact up_n (by decide) up_s
  have M2 : h1 62 = ia 4 g2 := by rw [hg2]; exact up_s
  clear hg2
  have X1 := X.ofl Fl M1 M2
  have V1 := X1.2.1.v
  have B1 := X1.2.1.b
  have Fm : fM h h1 := fun a x1 x2 => Fl a (by omega) (by omega)
  refine a_al0 fF_pay_41 ?_
  refine a_gf fF_pay_42 l_F_10 X1.1.1 rfl ?_
  refine a_gf fF_pay_45 l_F_67 V1.1 rfl ?_
  refine a_il1 fF_pay_48 ?_
  refine a_V1V fF_pay_49 k_F_159 m_B_isPaid ⟨by decide, by decide⟩ B1.1 rfl ⟨rfl, rfl⟩ (Nat.le_of_ble_eq_true rfl) (c_isPaid (b := 17) B1.1 (Nat.lt_of_lt_of_le K.2.2.2.2.1 (pw64 bd)) (i := B9) (by omega)) ?_
  by_cases c9 : N 44 / 2 ^ B9 % 2 = 1
  · refine a_if_ne fF_pay_52 (fun _ => ?_) (fun c_ => absurd c_ (fun z => by rw [bI_t c9] at z; exact absurd z (by decide)))
    refine a_al0 fF_pay_76 ?_
    refine a_V0V fF_pay_77 k_F_140 m_F_no ⟨by decide, by decide⟩ X1.1.1 rfl ⟨rfl, rfl⟩ (Nat.le_of_ble_eq_true rfl) (c_no X1.1.1) ?_
    exact a_ri fF_pay_80 rfl (⟨_, rfl, rfl, rfl, Fm.up (by decide), X1.fl _ _ _ _ _⟩)
  · have c8 := h7.resolve_left c9
    refine a_if_ne fF_pay_52 (fun c_ => absurd (by rw [bI_f c9]) c_) (fun _ => ?_)
    refine a_al0 fF_pay_55 ?_
    refine a_gf fF_pay_56 l_F_10 X1.1.1 rfl ?_
    refine a_al0 fF_pay_59 ?_
    refine a_gf fF_pay_60 l_F_10 X1.1.1 rfl ?_
    refine a_gf fF_pay_63 l_F_132 V1.1 rfl ?_
    refine a_al0 fF_pay_66 ?_
    refine a_gf fF_pay_67 l_F_47 X1.1.1 rfl ?_
    refine a_V2V fF_pay_70 k_F_136 m_H_takes ⟨by decide, by decide⟩ V1.1 rfl ⟨rfl, rfl⟩ (Nat.le_of_ble_eq_true rfl) (c_takes (q := 12) (s := 15) (l := 61) V1.1 V1.2.1 V1.2.2.1 V1.2.2.2.1 V1.2.2.2.2 M1 M2 q1 O.K O.S O.W O.D (by omega) (by omega)) ?_
    refine a_if_ne fF_pay_73 (fun c_ => absurd (by rw [bI_f c8]) c_) (fun _ => ?_)
    refine a_al0 fF_pay_76 ?_
    refine a_V0V fF_pay_77 k_F_140 m_F_no ⟨by decide, by decide⟩ X1.1.1 rfl ⟨rfl, rfl⟩ (Nat.le_of_ble_eq_true rfl) (c_no X1.1.1) ?_
    exact a_ri fF_pay_80 rfl (⟨_, rfl, rfl, rfl, Fm.up (by decide), X1.fl _ _ _ _ _⟩)
theorem x_pay {B9 : Nat} (X : XS h n N I tn bt ab be rb rn rf) (K : okN N) (h9 : B9 < N 31) (h6 : ¬ N 44 / 2 ^ B9 % 2 = 1) (h7 : canR N (N (32 + B9)) (N (32 + B9))) : fE M_F_pay E [.ref 11, .int (nI B9)] n h (qI (fun r k g => r = nI (N 45 + N (38 + B9)) ∧ k = n ∧ fM h g ∧ XS g n (pyN N B9) I tn bt ab be rb rn rf)) := by
  have V := X.2.1.v
  have B := X.2.1.b
  have C := X.2.1.c
  have S := X.2.2.2.1
  have O := K.c
  refine fE.of (L := [some (.ref 11), some (.int (nI B9)), none]) (by decide +kernel) (Nat.le_of_ble_eq_true rfl) rfl ?_
  have bd := K.2.2.1.1
  have b9 := (K.2.2.2.1 B9 h9).1
  obtain ⟨q1b, bn, bw, q2b, q3b, q4b⟩ := B
  refine a_al0 fF_pay_0 ?_
  refine a_gf fF_pay_1 l_F_10 X.1.1 rfl ?_
  refine a_gf fF_pay_4 l_F_67 V.1 rfl ?_
  refine a_il1 fF_pay_7 ?_
  refine a_V1V fF_pay_8 k_F_153 m_B_holds ⟨by decide, by decide⟩ q1b rfl ⟨rfl, rfl⟩ (Nat.le_of_ble_eq_true rfl) (c_holds (b := 17) q1b bd) ?_
  refine a_if_ne fF_pay_11 (fun _ => ?_) (fun c_ => absurd c_ (fun z => by rw [bI_t ⟨nI_pos' (by omega), nI_lt h9 (by omega)⟩] at z; exact absurd z (by decide)))
  refine a_al0 fF_pay_19 ?_
  refine a_gf fF_pay_20 l_F_10 X.1.1 rfl ?_
  refine a_gf fF_pay_23 l_F_67 V.1 rfl ?_
  refine a_gf fF_pay_26 l_F_156 q1b rfl ?_
  refine a_il1 fF_pay_29 ?_
  refine a_ia fF_pay_30 q2b rfl (by omega) (by decide) ?_
  rw [show nF bn B9 = nI (N (32 + B9)) from congrArg nI (q4b B9 h9).1]
  refine a_is2 fF_pay_31 (by decide) rfl ?_
  obtain ⟨lm, lf, l1, l2⟩ := X.2.2.2.2.2.2.2.1
  refine a_al0 fF_pay_32 ?_
  refine a_gf fF_pay_33 l_F_47 X.1.1 rfl ?_
  refine a_il2 fF_pay_36 ?_
  refine a_il2 fF_pay_37 ?_
  refine a_V2Q fF_pay_38 k_F_129 m_L_tell ⟨by decide, by decide⟩ l1 rfl ⟨rfl, rfl⟩ (Nat.le_of_ble_eq_true rfl) (c_tell (l := 61) l1 l2 b9 b9) (fun n1 h1 p1 => ?_)
  obtain ⟨hn1, g2, q1, hg2⟩ := p1
  subst n1
  have Fl : ∀ a, a ≠ 61 → a ≠ 62 → h1 a = h a := by rw [hg2]; exact fun a x1 x2 => up_n x2 (up_n x1 rfl)
  have M1 : h1 61 = lO 62 (sgn (N (32 + B9)) (N (32 + B9))).length := by rw [hg2]; exact up_n (by decide) up_s
  have M2 : h1 62 = ia 4 g2 := by rw [hg2]; exact up_s
  clear hg2
  have X1 := X.ofl Fl M1 M2
  have V1 := X1.2.1.v
  have B1 := X1.2.1.b
  have Fm : fM h h1 := fun a x1 x2 => Fl a (by omega) (by omega)
  refine a_al0 fF_pay_41 ?_
  refine a_gf fF_pay_42 l_F_10 X1.1.1 rfl ?_
  refine a_gf fF_pay_45 l_F_67 V1.1 rfl ?_
  refine a_il1 fF_pay_48 ?_
  refine a_V1V fF_pay_49 k_F_159 m_B_isPaid ⟨by decide, by decide⟩ B1.1 rfl ⟨rfl, rfl⟩ (Nat.le_of_ble_eq_true rfl) (c_isPaid (b := 17) B1.1 (Nat.lt_of_lt_of_le K.2.2.2.2.1 (pw64 bd)) (i := B9) (by omega)) ?_
  refine a_if_ne fF_pay_52 (fun c_ => absurd (by rw [bI_f h6]) c_) (fun _ => ?_)
  refine a_al0 fF_pay_55 ?_
  refine a_gf fF_pay_56 l_F_10 X1.1.1 rfl ?_
  refine a_al0 fF_pay_59 ?_
  refine a_gf fF_pay_60 l_F_10 X1.1.1 rfl ?_
  refine a_gf fF_pay_63 l_F_132 V1.1 rfl ?_
  refine a_al0 fF_pay_66 ?_
  refine a_gf fF_pay_67 l_F_47 X1.1.1 rfl ?_
  refine a_V2V fF_pay_70 k_F_136 m_H_takes ⟨by decide, by decide⟩ V1.1 rfl ⟨rfl, rfl⟩ (Nat.le_of_ble_eq_true rfl) (c_takes (q := 12) (s := 15) (l := 61) V1.1 V1.2.1 V1.2.2.1 V1.2.2.2.1 V1.2.2.2.2 M1 M2 q1 O.K O.S O.W O.D (by omega) (by omega)) ?_
  refine a_if_ne fF_pay_73 (fun _ => ?_) (fun c_ => absurd c_ (fun z => by rw [bI_t h7] at z; exact absurd z (by decide)))
  refine a_al0 fF_pay_81 ?_
  refine a_gf fF_pay_82 l_F_10 X1.1.1 rfl ?_
  refine a_V0Q fF_pay_85 k_F_143 m_H_remember ⟨by decide, by decide⟩ V1.1 rfl ⟨rfl, rfl⟩ (Nat.le_of_ble_eq_true rfl) (c_remember X1.2.1 K.2.2.1) (fun n1 h2 p2 => ?_)
  obtain ⟨hn1, H2, F2, F3⟩ := p2
  subst n1
  have X2 := X1.ofq F2 H2
  have V2 := H2.v
  have z8 := K.2.2.1.2.2.2
  have M3 : h2 61 = lO 62 (sgn (N (32 + B9)) (N (32 + B9))).length := (F2 _ (by omega)).trans M1
  have M4 : h2 62 = ia 4 g2 := (F2 _ (by omega)).trans M2
  have e0 := sl_nt (N := N) (a := 0) z8 (by decide)
  have e1 := sl_nt (N := N) (a := 10) z8 (by decide)
  have e2 := sl_nt (N := N) (a := 20) z8 (by decide)
  have e3 : ntN N 30 = N 30 := nt_lo (by decide) z8
  have h7' : canR (ntN N) (N (32 + B9)) (N (32 + B9)) := by unfold canR; rw [e0, e1, e2, e3]; exact h7
  refine a_al0 fF_pay_88 ?_
  refine a_gf fF_pay_89 l_F_10 X2.1.1 rfl ?_
  refine a_al0 fF_pay_92 ?_
  refine a_gf fF_pay_93 l_F_10 X2.1.1 rfl ?_
  refine a_gf fF_pay_96 l_F_132 V2.1 rfl ?_
  refine a_al0 fF_pay_99 ?_
  refine a_gf fF_pay_100 l_F_47 X2.1.1 rfl ?_
  refine a_V2V fF_pay_103 k_F_146 m_H_puts ⟨by decide, by decide⟩ V2.1 rfl ⟨rfl, rfl⟩ (Nat.le_of_ble_eq_true rfl) (c_puts (q := 12) (s := 15) (l := 61) V2.1 V2.2.1 V2.2.2.1 V2.2.2.2.1 V2.2.2.2.2 M3 M4 q1 (by rw [e0]; exact O.K) (by rw [e1]; exact O.S) (by rw [e2]; exact O.W) (by rw [e3]; exact O.D) (by omega) (by omega)) ?_
  refine a_pop fF_pay_106 rfl ?_
  rw [if_pos h7']
  have es := sl_wd (N := ntN N) (sg := sgn (N (32 + B9)) (N (32 + B9))) (sg_lt q1)
  have H3 : isH (va_up h2 (15 + 1) (nA 10 (wad (sl (ntN N) 0 10) (ntN N 30) 0 (sgn (N (32 + B9)) (N (32 + B9))) (sl (ntN N) 20 10)))) 12 (wdN (ntN N) (sgn (N (32 + B9)) (N (32 + B9)))) := by
    have := H2.wd (M := wdN (ntN N) (sgn (N (32 + B9)) (N (32 + B9)))) (fun i hi => by unfold wdN; rw [if_neg (by omega)])
    rw [es, show wdN (ntN N) (sgn (N (32 + B9)) (N (32 + B9))) 30 = ntN N 30 from by unfold wdN; rw [if_neg (by omega)]] at this
    rw [up_id (show va_up h2 (12 + 4) (nA 10 (wad (sl (ntN N) 0 10) (ntN N 30) 0 (sgn (N (32 + B9)) (N (32 + B9))) (sl (ntN N) 20 10))) (12 + 3) = sO (12 + 4) (ntN N 30) from up_n (by decide) V2.2.2.2.1)] at this
    exact this
  have F4 : frq 12 h2 (va_up h2 (15 + 1) (nA 10 (wad (sl (ntN N) 0 10) (ntN N 30) 0 (sgn (N (32 + B9)) (N (32 + B9))) (sl (ntN N) 20 10)))) := fun a ha => up_n (by omega) rfl
  generalize va_up h2 (15 + 1) (nA 10 (wad (sl (ntN N) 0 10) (ntN N 30) 0 (sgn (N (32 + B9)) (N (32 + B9))) (sl (ntN N) 20 10))) = h3 at H3 F4 ⊢
  have X3 := X2.ofq F4 H3
  have V3 := H3.v
  have M5 : h3 61 = lO 62 (sgn (N (32 + B9)) (N (32 + B9))).length := (F4 _ (by omega)).trans M3
  have M6 : h3 62 = ia 4 g2 := (F4 _ (by omega)).trans M4
  have Fz : fM h h3 := (Fm.trans (fM.q F2)).trans (fM.q F4)
  have f31 : wdN (ntN N) (sgn (N (32 + B9)) (N (32 + B9))) 31 = N 31 := by unfold wdN; rw [if_neg (by omega)]; exact nt_lo (by decide) z8
  have f44 : wdN (ntN N) (sgn (N (32 + B9)) (N (32 + B9))) 44 = N 44 := by unfold wdN; rw [if_neg (by omega)]; exact nt_lo (by decide) z8
  have f45 : wdN (ntN N) (sgn (N (32 + B9)) (N (32 + B9))) 45 = N 45 := by unfold wdN; rw [if_neg (by omega)]; exact nt_lo (by decide) z8
  obtain ⟨s1, bn3, bw3, s2, s3, s4⟩ := H3.b
  have f38 : bw3 B9 = N (38 + B9) := by rw [(s4 B9 (by rw [f31]; exact h9)).2]; unfold wdN; rw [if_neg (by omega)]; exact nt_lo (by omega) z8
  rw [f31, f44, f45] at s1
  refine a_al0 fF_pay_107 ?_
  refine a_gf fF_pay_108 l_F_10 X3.1.1 rfl ?_
  refine a_gf fF_pay_111 l_F_67 V3.1 rfl ?_
  refine a_il1 fF_pay_114 ?_
  refine a_V1N fF_pay_115 k_F_162 m_B_settle ⟨by decide, by decide⟩ s1 rfl ⟨rfl, rfl⟩ (Nat.le_of_ble_eq_true rfl) (c_settle (b := 17) s1 s3 bd h9) ?_
  rw [f38]
  have H4 := H3.bl (by rw [f31]; exact bd) (N 44 ||| 2 ^ B9) (N 45 + N (38 + B9))
  rw [f31] at H4
  have F5 : frq 12 h3 (va_up h3 (12 + 5) (bO (12 + 5) (N 31) (N 44 ||| 2 ^ B9) (N 45 + N (38 + B9)))) := fun a ha => up_n (by omega) rfl
  have X4 := X3.ofq F5 H4
  refine a_al0 fF_pay_118 ?_
  refine a_gf fF_pay_119 l_F_10 X4.1.1 rfl ?_
  refine a_gf fF_pay_122 l_F_67 X4.2.1.v.1 rfl ?_
  refine a_gf fF_pay_125 l_F_166 up_s rfl ?_
  exact a_ri fF_pay_128 rfl (⟨_, rfl, rfl, rfl, Fz.trans (fM.q F5), X4⟩)
theorem x_night_bad {m : Int32} (X : XS h n N I tn bt ab be rb rn rf) (hb : ¬ ((1 ≤ m ∧ m ≤ 60))) : fE M_F_night E [.ref 11, .int m] n h (qI (fun r k g => r = -2 ∧ k = n ∧ fM h g ∧ XS g n N I tn bt ab be (rb + 1) rn rf)) := by
  refine fE.of (L := [some (.ref 11), some (.int m)]) (by decide +kernel) (Nat.le_of_ble_eq_true rfl) rfl ?_
  by_cases d0 : (1 ≤ m ∧ m ≤ 60)
  · exact absurd d0 hb
  · refine a_il1 fF_night_0 ?_
    refine a_ic fF_night_1 ?_
    refine a_ic fF_night_2 ?_
    refine a_S3V fF_night_4 k_F_85 m_F_within ⟨by decide, by decide⟩ ⟨rfl, rfl⟩ (Nat.le_of_ble_eq_true rfl) (c_within) ?_
    refine a_if_ne fF_night_7 (fun c_ => absurd (by rw [bI_f d0]) c_) (fun _ => ?_)
    refine a_al0 fF_night_10 ?_
    refine a_V0V fF_night_11 k_F_89 m_F_bad ⟨by decide, by decide⟩ X.1.1 rfl ⟨rfl, rfl⟩ (Nat.le_of_ble_eq_true rfl) (c_bad X.1.1) ?_
    exact a_ri fF_night_14 rfl (⟨_, rfl, rfl, rfl, fM.r0.up (by decide), X.fl _ _ _ _ _⟩)
theorem x_night {M9 : Nat} (X : XS h n N I tn bt ab be rb rn rf) (K : okN N) (h9 : 1 ≤ M9 ∧ M9 ≤ 60) : fE M_F_night E [.ref 11, .int (nI M9)] n h (qI (fun r k g => r = nI (ngt M9 (ntN N) 30) ∧ k = n ∧ fM h g ∧ XS g n (ngt M9 (ntN N)) I tn bt ab be rb rn rf)) := by
  have V := X.2.1.v
  have B := X.2.1.b
  have C := X.2.1.c
  have S := X.2.2.2.1
  have O := K.c
  refine fE.of (L := [some (.ref 11), some (.int (nI M9))]) (by decide +kernel) (Nat.le_of_ble_eq_true rfl) rfl ?_
  refine a_il1 fF_night_0 ?_
  refine a_ic fF_night_1 ?_
  refine a_ic fF_night_2 ?_
  refine a_S3V fF_night_4 k_F_85 m_F_within ⟨by decide, by decide⟩ ⟨rfl, rfl⟩ (Nat.le_of_ble_eq_true rfl) (c_within) ?_
  refine a_if_ne fF_night_7 (fun _ => ?_) (fun c_ => absurd c_ (fun z => by rw [bI_t ⟨nI_le (a := 1) (by omega) (by omega), nI_le (b := 60) (by omega) (by decide)⟩] at z; exact absurd z (by decide)))
  have X1 := X
  refine a_al0 fF_night_15 ?_
  refine a_gf fF_night_16 l_F_10 X.1.1 rfl ?_
  refine a_V0Q fF_night_19 k_F_143 m_H_remember ⟨by decide, by decide⟩ V.1 rfl ⟨rfl, rfl⟩ (Nat.le_of_ble_eq_true rfl) (c_remember X1.2.1 K.2.2.1) (fun n1 h2 p2 => ?_)
  obtain ⟨hn1, H2, F2, F3⟩ := p2
  subst n1
  have X2 := X1.ofq F2 H2
  have V2 := H2.v
  have z8 := K.2.2.1.2.2.2
  have lo : ∀ i, i < 84 → ntN N i = N i := fun i hi => nt_lo hi z8
  refine a_al0 fF_night_22 ?_
  refine a_gf fF_night_23 l_F_10 X2.1.1 rfl ?_
  refine a_il1 fF_night_26 ?_
  refine a_V1N fF_night_27 k_F_169 m_H_sleep ⟨by decide, by decide⟩ V2.1 rfl ⟨rfl, rfl⟩ (Nat.le_of_ble_eq_true rfl) (c_sleep (q := 12) (N := ntN N) V2.1 V2.2.1 V2.2.2.2.1 V2.2.2.2.2 (fun f hf => by rw [lo _ (by omega)]; exact (K.1 f hf).1) (fun f hf => by rw [lo _ (by omega)]; have := K.1 f hf; omega) (by rw [lo _ (by omega)]; exact K.2.1) (m := M9) h9.2) ?_
  have H3 := H2.wd (M := ngt M9 (ntN N)) (fun i hi => ngt_out M9 _ i hi)
  have F4 : frq 12 h2 (va_up (va_up h2 (12 + 4) (nA 10 (sl (ngt M9 (ntN N)) 20 10))) (12 + 3) (sO (12 + 4) (ngt M9 (ntN N) 30))) := frq_wd
  have X3 := X2.ofq F4 H3
  refine a_al0 fF_night_30 ?_
  refine a_gf fF_night_31 l_F_10 X3.1.1 rfl ?_
  refine a_gf fF_night_34 l_F_132 X3.2.1.v.1 rfl ?_
  refine a_gf fF_night_37 l_F_172 up_s rfl ?_
  exact a_ri fF_night_40 rfl (⟨_, rfl, rfl, rfl, (fM.q F2).trans (fM.q F4), X3⟩)
theorem x_undo_no (X : XS h n N I tn bt ab be rb rn rf) (K : okN N) (h9 : N 84 = 0) : fE M_F_undo E [.ref 11] n h (qI (fun r k g => r = -3 ∧ k = n ∧ fM h g ∧ XS g n N I tn bt ab be rb (rn + 1) rf)) := by
  have V := X.2.1.v
  have B := X.2.1.b
  have C := X.2.1.c
  have S := X.2.2.2.1
  have O := K.c
  refine fE.of (L := [some (.ref 11)]) (by decide +kernel) (Nat.le_of_ble_eq_true rfl) rfl ?_
  refine a_al0 fF_undo_0 ?_
  refine a_gf fF_undo_1 l_F_10 X.1.1 rfl ?_
  refine a_gf fF_undo_4 l_F_177 V.1 rfl ?_
  refine a_gf fF_undo_7 l_F_181 X.2.1.p rfl ?_
  refine a_if_gt fF_undo_10 (fun c_ => absurd c_ (fun z => by rw [h9] at z; exact absurd z (by decide))) (fun _ => ?_)
  refine a_al0 fF_undo_13 ?_
  refine a_V0V fF_undo_14 k_F_140 m_F_no ⟨by decide, by decide⟩ X.1.1 rfl ⟨rfl, rfl⟩ (Nat.le_of_ble_eq_true rfl) (c_no X.1.1) ?_
  exact a_ri fF_undo_17 rfl (⟨_, rfl, rfl, rfl, fM.r0.up (by decide), X.fl _ _ _ _ _⟩)
theorem x_undo (X : XS h n N I tn bt ab be rb rn rf) (K : okN N) (h9 : 0 < N 84) : fE M_F_undo E [.ref 11] n h (qI (fun r k g => r = nI (unN N 30) ∧ k = n ∧ fM h g ∧ XS g n (unN N) I tn bt ab be rb rn rf)) := by
  have V := X.2.1.v
  have B := X.2.1.b
  have C := X.2.1.c
  have S := X.2.2.2.1
  have O := K.c
  refine fE.of (L := [some (.ref 11)]) (by decide +kernel) (Nat.le_of_ble_eq_true rfl) rfl ?_
  refine a_al0 fF_undo_0 ?_
  refine a_gf fF_undo_1 l_F_10 X.1.1 rfl ?_
  refine a_gf fF_undo_4 l_F_177 V.1 rfl ?_
  refine a_gf fF_undo_7 l_F_181 X.2.1.p rfl ?_
  refine a_if_gt fF_undo_10 (fun _ => ?_) (fun c_ => absurd (nI_lt (a := 0) h9 (by have := K.2.2.1.2.2.2; omega)) c_)
  refine a_al0 fF_undo_18 ?_
  refine a_gf fF_undo_19 l_F_10 X.1.1 rfl ?_
  refine a_V0Q fF_undo_22 k_F_184 m_H_goBack ⟨by decide, by decide⟩ V.1 rfl ⟨rfl, rfl⟩ (Nat.le_of_ble_eq_true rfl) (c_goBack X.2.1 K.2.2.1 h9) (fun n1 h1 p1 => ?_)
  obtain ⟨hn1, H1, F1⟩ := p1
  subst n1
  have X1 := X.ofq F1 H1
  refine a_al0 fF_undo_25 ?_
  refine a_gf fF_undo_26 l_F_10 X1.1.1 rfl ?_
  refine a_gf fF_undo_29 l_F_132 H1.v.1 rfl ?_
  refine a_gf fF_undo_32 l_F_172 H1.v.2.2.2.1 rfl ?_
  exact a_ri fF_undo_35 rfl (⟨_, rfl, rfl, rfl, fM.q F1, X1⟩)
end PU
