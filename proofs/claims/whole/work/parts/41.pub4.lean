/-! the public methods, on -/
theorem isH_tr {h : hT} {q f x : Nat} {N : Nat → Nat} (H : isH h q N) (bN : N 31 ≤ 6 ∧ N 46 ≤ 6 ∧ N 59 ≤ 6 ∧ N 84 ≤ 8) (h6 : N 46 < 6) : ∃ tf tm, h (q + 9) = nA 6 tf ∧ h (q + 10) = nA 6 tm ∧ isH (va_up (va_up (va_up h (q + 8 + 1) (nA 6 (va_up tf (N 46) f))) (q + 8 + 2) (nA 6 (va_up tm (N 46) x))) (q + 8) (cO (q + 8) (N 46 + 1) (N 59))) q (trN N f x) := by
  obtain ⟨bn, bw, tf, tm, nf, ng, nd, nm, rw, ⟨⟨a1, a2, a3, a4, a5⟩, ⟨a6, a7, a8⟩, ⟨a9, b1, b2, b3, b4, b5, b6⟩, b7, b8⟩, l1, l2, l3, l4⟩ := H
  refine ⟨tf, tm, b1, b2, ?_⟩
  have eo : ∀ i, i < 46 ∨ 59 ≤ i → trN N f x i = N i := fun i hi => by unfold trN; rw [vn (by omega), vn (by omega), vn (by omega)]
  have e46 : trN N f x 46 = N 46 + 1 := up_s
  have en : ∀ i, i < N 46 + 1 → va_up tf (N 46) f i = trN N f x (47 + i) ∧ va_up tm (N 46) x i = trN N f x (53 + i) := by
    intro i hi
    have t1 : trN N f x (47 + i) = va_up N (47 + N 46) f (47 + i) := by unfold trN; rw [vn (by omega : 47 + i ≠ 46), vn (by omega : 47 + i ≠ 53 + N 46)]
    have t2 : trN N f x (53 + i) = va_up (va_up N (47 + N 46) f) (53 + N 46) x (53 + i) := by unfold trN; rw [vn (by omega : 53 + i ≠ 46)]
    rw [t1, t2]
    by_cases c : i = N 46
    · subst c; exact ⟨by rw [up_s, up_s], by rw [up_s, up_s]⟩
    · rw [vn c, vn c, vn (by omega : 47 + i ≠ 47 + N 46), vn (by omega : 53 + i ≠ 53 + N 46), vn (by omega : 53 + i ≠ 47 + N 46)]
      exact l2 i (by omega)
  refine ⟨bn, bw, va_up tf (N 46) f, va_up tm (N 46) x, nf, ng, nd, nm, rw, ⟨⟨?_, ?_, ?_, ?_, ?_⟩, ⟨?_, ?_, ?_⟩, ⟨?_, ?_, ?_, ?_, ?_, ?_, ?_⟩, ?_, ?_⟩, ?_⟩
  · repeat (first | exact up_s | assumption | refine up_n (by omega) ?_)
  · rw [show sl (trN N f x) 0 10 = sl N 0 10 from sl_eq (fun i hi => eo _ (by omega))]; repeat (first | exact up_s | assumption | refine up_n (by omega) ?_)
  · rw [show sl (trN N f x) 10 10 = sl N 10 10 from sl_eq (fun i hi => eo _ (by omega))]; repeat (first | exact up_s | assumption | refine up_n (by omega) ?_)
  · rw [eo 30 (by omega)]; repeat (first | exact up_s | assumption | refine up_n (by omega) ?_)
  · rw [show sl (trN N f x) 20 10 = sl N 20 10 from sl_eq (fun i hi => eo _ (by omega))]; repeat (first | exact up_s | assumption | refine up_n (by omega) ?_)
  · rw [eo 31 (by omega), eo 44 (by omega), eo 45 (by omega)]; repeat (first | exact up_s | assumption | refine up_n (by omega) ?_)
  · repeat (first | exact up_s | assumption | refine up_n (by omega) ?_)
  · repeat (first | exact up_s | assumption | refine up_n (by omega) ?_)
  · rw [e46, eo 59 (by omega)]; repeat (first | exact up_s | assumption | refine up_n (by omega) ?_)
  · repeat (first | exact up_s | assumption | refine up_n (by omega) ?_)
  · repeat (first | exact up_s | assumption | refine up_n (by omega) ?_)
  · repeat (first | exact up_s | assumption | refine up_n (by omega) ?_)
  · repeat (first | exact up_s | assumption | refine up_n (by omega) ?_)
  · repeat (first | exact up_s | assumption | refine up_n (by omega) ?_)
  · repeat (first | exact up_s | assumption | refine up_n (by omega) ?_)
  · rw [eo 84 (by omega)]; repeat (first | exact up_s | assumption | refine up_n (by omega) ?_)
  · repeat (first | exact up_s | assumption | refine up_n (by omega) ?_)
  · exact ⟨fun i hi => by rw [eo 31 (by omega)] at hi; rw [eo _ (by omega), eo _ (by omega)]; exact l1 i hi, fun i hi => by rw [e46] at hi; exact en i hi, fun i hi => by rw [eo 59 (by omega)] at hi; rw [eo _ (by omega), eo _ (by omega), eo _ (by omega), eo _ (by omega)]; exact l3 i hi, fun i hi => by rw [eo 84 (by omega)] at hi; rw [eo _ (by omega)]; exact l4 i hi⟩
theorem isH_no {h : hT} {q f k d x : Nat} {N : Nat → Nat} (H : isH h q N) (bN : N 31 ≤ 6 ∧ N 46 ≤ 6 ∧ N 59 ≤ 6 ∧ N 84 ≤ 8) (h6 : N 59 < 6) : ∃ f1 f2 f3 f4, h (q + 11) = nA 6 f1 ∧ h (q + 12) = nA 6 f2 ∧ h (q + 13) = nA 6 f3 ∧ h (q + 14) = nA 6 f4 ∧ isH (va_up (va_up (va_up (va_up (va_up h (q + 8 + 3) (nA 6 (va_up f1 (N 59) f))) (q + 8 + 4) (nA 6 (va_up f2 (N 59) k))) (q + 8 + 5) (nA 6 (va_up f3 (N 59) d))) (q + 8 + 6) (nA 6 (va_up f4 (N 59) x))) (q + 8) (cO (q + 8) (N 46) (N 59 + 1))) q (noN N f k d x) := by
  obtain ⟨bn, bw, tf, tm, nf, ng, nd, nm, rw, ⟨⟨a1, a2, a3, a4, a5⟩, ⟨a6, a7, a8⟩, ⟨a9, b1, b2, b3, b4, b5, b6⟩, b7, b8⟩, l1, l2, l3, l4⟩ := H
  refine ⟨nf, ng, nd, nm, b3, b4, b5, b6, ?_⟩
  have eo : ∀ i, i < 59 ∨ 84 ≤ i → noN N f k d x i = N i := fun i hi => by unfold noN; rw [vn (by omega), vn (by omega), vn (by omega), vn (by omega), vn (by omega)]
  have e59 : noN N f k d x 59 = N 59 + 1 := up_s
  have en : ∀ i, i < N 59 + 1 → va_up nf (N 59) f i = noN N f k d x (60 + i) ∧ va_up ng (N 59) k i = noN N f k d x (66 + i) ∧ va_up nd (N 59) d i = noN N f k d x (72 + i) ∧ va_up nm (N 59) x i = noN N f k d x (78 + i) := by
    intro i hi
    have t1 : noN N f k d x (60 + i) = va_up N (60 + N 59) f (60 + i) := by unfold noN; rw [vn (by omega : 60 + i ≠ 59), vn (by omega : 60 + i ≠ 78 + N 59), vn (by omega : 60 + i ≠ 72 + N 59), vn (by omega : 60 + i ≠ 66 + N 59)]
    have t2 : noN N f k d x (66 + i) = va_up N (66 + N 59) k (66 + i) := by
      unfold noN; rw [vn (by omega : 66 + i ≠ 59), vn (by omega : 66 + i ≠ 78 + N 59), vn (by omega : 66 + i ≠ 72 + N 59)]
      unfold va_up; by_cases c : 66 + i = 66 + N 59
      · rw [if_pos c, if_pos c]
      · rw [if_neg c, if_neg c, if_neg (by omega)]
    have t3 : noN N f k d x (72 + i) = va_up N (72 + N 59) d (72 + i) := by
      unfold noN; rw [vn (by omega : 72 + i ≠ 59), vn (by omega : 72 + i ≠ 78 + N 59)]
      unfold va_up; by_cases c : 72 + i = 72 + N 59
      · rw [if_pos c, if_pos c]
      · rw [if_neg c, if_neg c, if_neg (by omega), if_neg (by omega)]
    have t4 : noN N f k d x (78 + i) = va_up N (78 + N 59) x (78 + i) := by
      unfold noN; rw [vn (by omega : 78 + i ≠ 59)]
      unfold va_up; by_cases c : 78 + i = 78 + N 59
      · rw [if_pos c, if_pos c]
      · rw [if_neg c, if_neg c, if_neg (by omega), if_neg (by omega), if_neg (by omega)]
    rw [t1, t2, t3, t4]
    by_cases c : i = N 59
    · subst c; exact ⟨by rw [up_s, up_s], by rw [up_s, up_s], by rw [up_s, up_s], by rw [up_s, up_s]⟩
    · rw [vn c, vn c, vn c, vn c, vn (by omega : 60 + i ≠ 60 + N 59), vn (by omega : 66 + i ≠ 66 + N 59), vn (by omega : 72 + i ≠ 72 + N 59), vn (by omega : 78 + i ≠ 78 + N 59)]
      exact l3 i (by omega)
  refine ⟨bn, bw, tf, tm, va_up nf (N 59) f, va_up ng (N 59) k, va_up nd (N 59) d, va_up nm (N 59) x, rw, ⟨⟨?_, ?_, ?_, ?_, ?_⟩, ⟨?_, ?_, ?_⟩, ⟨?_, ?_, ?_, ?_, ?_, ?_, ?_⟩, ?_, ?_⟩, ?_⟩
  · repeat (first | exact up_s | assumption | refine up_n (by omega) ?_)
  · rw [show sl (noN N f k d x) 0 10 = sl N 0 10 from sl_eq (fun i hi => eo _ (by omega))]; repeat (first | exact up_s | assumption | refine up_n (by omega) ?_)
  · rw [show sl (noN N f k d x) 10 10 = sl N 10 10 from sl_eq (fun i hi => eo _ (by omega))]; repeat (first | exact up_s | assumption | refine up_n (by omega) ?_)
  · rw [eo 30 (by omega)]; repeat (first | exact up_s | assumption | refine up_n (by omega) ?_)
  · rw [show sl (noN N f k d x) 20 10 = sl N 20 10 from sl_eq (fun i hi => eo _ (by omega))]; repeat (first | exact up_s | assumption | refine up_n (by omega) ?_)
  · rw [eo 31 (by omega), eo 44 (by omega), eo 45 (by omega)]; repeat (first | exact up_s | assumption | refine up_n (by omega) ?_)
  · repeat (first | exact up_s | assumption | refine up_n (by omega) ?_)
  · repeat (first | exact up_s | assumption | refine up_n (by omega) ?_)
  · rw [eo 46 (by omega), e59]; repeat (first | exact up_s | assumption | refine up_n (by omega) ?_)
  · repeat (first | exact up_s | assumption | refine up_n (by omega) ?_)
  · repeat (first | exact up_s | assumption | refine up_n (by omega) ?_)
  · repeat (first | exact up_s | assumption | refine up_n (by omega) ?_)
  · repeat (first | exact up_s | assumption | refine up_n (by omega) ?_)
  · repeat (first | exact up_s | assumption | refine up_n (by omega) ?_)
  · repeat (first | exact up_s | assumption | refine up_n (by omega) ?_)
  · rw [eo 84 (by omega)]; repeat (first | exact up_s | assumption | refine up_n (by omega) ?_)
  · repeat (first | exact up_s | assumption | refine up_n (by omega) ?_)
  · exact ⟨fun i hi => by rw [eo 31 (by omega)] at hi; rw [eo _ (by omega), eo _ (by omega)]; exact l1 i hi, fun i hi => by rw [eo 46 (by omega)] at hi; rw [eo _ (by omega), eo _ (by omega)]; exact l2 i hi, fun i hi => by rw [e59] at hi; exact en i hi, fun i hi => by rw [eo 84 (by omega)] at hi; rw [eo _ (by omega)]; exact l4 i hi⟩
/-- what count(w) tells -/
def cwN (N : Nat → Nat) (tn w : Nat) : Nat := match w with
  | 0 => N 31
  | 1 => N 30
  | 2 => N 45
  | 3 => N 44
  | 4 => sm (sl N 20 10) 10 0
  | 5 => N 46
  | 6 => N 59
  | 7 => N 84
  | _ => tn
/-- the digest -/
def dgN (N : Nat → Nat) (tn ab be : Nat) : Int64 := mx (mx (mxL (fun i => [N (60 + i), N (66 + i), N (72 + i), N (78 + i)]) (N 59) 0 (mxL (fun i => [N (47 + i), N (53 + i)]) (N 46) 0 (mxL (fun i => [N (32 + i), N (38 + i)]) (N 31) 0 (mxL (fun i => [N i, N (10 + i), N (20 + i)]) 10 0 (mxL (fun w => [cwN N tn w]) 9 0 1493))))) ab) be
section PU
variable {E : eT} {n : Nat} {h : hT} {N : Nat → Nat} {I : Nat → Option (Nat → Nat)} {tn : Nat} {bt : Nat → Nat} {ab be rb rn rf : Nat}
theorem x_trace_bad {f x : Int32} (X : XS h n N I tn bt ab be rb rn rf) (hb : ¬ ((0 ≤ f ∧ f ≤ 9) ∧ (0 ≤ x ∧ x ≤ 40))) : fE M_F_trace E [.ref 11, .int f, .int x] n h (qI (fun r k g => r = -2 ∧ k = n ∧ fM h g ∧ XS g n N I tn bt ab be (rb + 1) rn rf)) := by
  refine fE.of (L := [some (.ref 11), some (.int f), some (.int x)]) (by decide +kernel) (Nat.le_of_ble_eq_true rfl) rfl ?_
  by_cases d0 : (0 ≤ f ∧ f ≤ 9)
  · refine a_il1 fF_trace_0 ?_
    refine a_S1V fF_trace_1 k_F_79 m_F_isFigure ⟨by decide, by decide⟩ ⟨rfl, rfl⟩ (Nat.le_of_ble_eq_true rfl) (c_isFigure) ?_
    refine a_if_eq fF_trace_4 (fun c_ => absurd c_ (fun z => by rw [bI_t d0] at z; exact absurd z (by decide))) (fun _ => ?_)
    by_cases d1 : (0 ≤ x ∧ x ≤ 40)
    · exact absurd ⟨d0, d1⟩ hb
    · refine a_il2 fF_trace_7 ?_
      refine a_ic fF_trace_8 ?_
      refine a_ic fF_trace_9 ?_
      refine a_S3V fF_trace_11 k_F_85 m_F_within ⟨by decide, by decide⟩ ⟨rfl, rfl⟩ (Nat.le_of_ble_eq_true rfl) (c_within) ?_
      refine a_if_ne fF_trace_14 (fun c_ => absurd (by rw [bI_f d1]) c_) (fun _ => ?_)
      refine a_al0 fF_trace_17 ?_
      refine a_V0V fF_trace_18 k_F_89 m_F_bad ⟨by decide, by decide⟩ X.1.1 rfl ⟨rfl, rfl⟩ (Nat.le_of_ble_eq_true rfl) (c_bad X.1.1) ?_
      exact a_ri fF_trace_21 rfl (⟨_, rfl, rfl, rfl, fM.r0.up (by decide), X.fl _ _ _ _ _⟩)
  · refine a_il1 fF_trace_0 ?_
    refine a_S1V fF_trace_1 k_F_79 m_F_isFigure ⟨by decide, by decide⟩ ⟨rfl, rfl⟩ (Nat.le_of_ble_eq_true rfl) (c_isFigure) ?_
    refine a_if_eq fF_trace_4 (fun _ => ?_) (fun c_ => absurd (by rw [bI_f d0]) c_)
    refine a_al0 fF_trace_17 ?_
    refine a_V0V fF_trace_18 k_F_89 m_F_bad ⟨by decide, by decide⟩ X.1.1 rfl ⟨rfl, rfl⟩ (Nat.le_of_ble_eq_true rfl) (c_bad X.1.1) ?_
    exact a_ri fF_trace_21 rfl (⟨_, rfl, rfl, rfl, fM.r0.up (by decide), X.fl _ _ _ _ _⟩)
theorem x_trace_full {F9 X9 : Nat} (X : XS h n N I tn bt ab be rb rn rf) (K : okN N) (h9 : F9 < 10) (h8 : X9 ≤ 40) (h7 : N 46 = 6) : fE M_F_trace E [.ref 11, .int (nI F9), .int (nI X9)] n h (qI (fun r k g => r = -4 ∧ k = n ∧ fM h g ∧ XS g n N I tn bt ab be rb rn (rf + 1))) := by
  have V := X.2.1.v
  have B := X.2.1.b
  have C := X.2.1.c
  have S := X.2.2.2.1
  have O := K.c
  refine fE.of (L := [some (.ref 11), some (.int (nI F9)), some (.int (nI X9))]) (by decide +kernel) (Nat.le_of_ble_eq_true rfl) rfl ?_
  refine a_il1 fF_trace_0 ?_
  refine a_S1V fF_trace_1 k_F_79 m_F_isFigure ⟨by decide, by decide⟩ ⟨rfl, rfl⟩ (Nat.le_of_ble_eq_true rfl) (c_isFigure) ?_
  refine a_if_eq fF_trace_4 (fun c_ => absurd c_ (fun z => by rw [bI_t ⟨nI_pos' (by omega), nI_le (b := 9) (by omega) (by decide)⟩] at z; exact absurd z (by decide))) (fun _ => ?_)
  refine a_il2 fF_trace_7 ?_
  refine a_ic fF_trace_8 ?_
  refine a_ic fF_trace_9 ?_
  refine a_S3V fF_trace_11 k_F_85 m_F_within ⟨by decide, by decide⟩ ⟨rfl, rfl⟩ (Nat.le_of_ble_eq_true rfl) (c_within) ?_
  refine a_if_ne fF_trace_14 (fun _ => ?_) (fun c_ => absurd c_ (fun z => by rw [bI_t ⟨nI_pos' (by omega), nI_le (b := 40) (by omega) (by decide)⟩] at z; exact absurd z (by decide)))
  refine a_al0 fF_trace_22 ?_
  refine a_gf fF_trace_23 l_F_10 X.1.1 rfl ?_
  refine a_gf fF_trace_26 l_F_240 V.1 rfl ?_
  refine a_gf fF_trace_29 l_F_244 C.1 rfl ?_
  refine a_ic fF_trace_32 ?_
  refine a_ic_lt fF_trace_34 (fun c_ => absurd c_ (fun z => by rw [h7] at z; exact absurd z (by decide))) (fun _ => ?_)
  refine a_al0 fF_trace_37 ?_
  refine a_V0V fF_trace_38 k_F_107 m_F_full ⟨by decide, by decide⟩ X.1.1 rfl ⟨rfl, rfl⟩ (Nat.le_of_ble_eq_true rfl) (c_full X.1.1) ?_
  exact a_ri fF_trace_41 rfl (⟨_, rfl, rfl, rfl, fM.r0.up (by decide), X.fl _ _ _ _ _⟩)
theorem x_trace {F9 X9 : Nat} (X : XS h n N I tn bt ab be rb rn rf) (K : okN N) (h9 : F9 < 10) (h8 : X9 ≤ 40) (h7 : N 46 < 6) : fE M_F_trace E [.ref 11, .int (nI F9), .int (nI X9)] n h (qI (fun r k g => r = nI (N 46 + 1) ∧ k = n ∧ fM h g ∧ XS g n (trN N F9 X9) I tn bt ab be rb rn rf)) := by
  have V := X.2.1.v
  have B := X.2.1.b
  have C := X.2.1.c
  have S := X.2.2.2.1
  have O := K.c
  refine fE.of (L := [some (.ref 11), some (.int (nI F9)), some (.int (nI X9))]) (by decide +kernel) (Nat.le_of_ble_eq_true rfl) rfl ?_
  refine a_il1 fF_trace_0 ?_
  refine a_S1V fF_trace_1 k_F_79 m_F_isFigure ⟨by decide, by decide⟩ ⟨rfl, rfl⟩ (Nat.le_of_ble_eq_true rfl) (c_isFigure) ?_
  refine a_if_eq fF_trace_4 (fun c_ => absurd c_ (fun z => by rw [bI_t ⟨nI_pos' (by omega), nI_le (b := 9) (by omega) (by decide)⟩] at z; exact absurd z (by decide))) (fun _ => ?_)
  refine a_il2 fF_trace_7 ?_
  refine a_ic fF_trace_8 ?_
  refine a_ic fF_trace_9 ?_
  refine a_S3V fF_trace_11 k_F_85 m_F_within ⟨by decide, by decide⟩ ⟨rfl, rfl⟩ (Nat.le_of_ble_eq_true rfl) (c_within) ?_
  refine a_if_ne fF_trace_14 (fun _ => ?_) (fun c_ => absurd c_ (fun z => by rw [bI_t ⟨nI_pos' (by omega), nI_le (b := 40) (by omega) (by decide)⟩] at z; exact absurd z (by decide)))
  refine a_al0 fF_trace_22 ?_
  refine a_gf fF_trace_23 l_F_10 X.1.1 rfl ?_
  refine a_gf fF_trace_26 l_F_240 V.1 rfl ?_
  refine a_gf fF_trace_29 l_F_244 C.1 rfl ?_
  refine a_ic fF_trace_32 ?_
  refine a_ic_lt fF_trace_34 (fun _ => ?_) (fun c_ => absurd (nI_lt (b := 6) h7 (by decide)) c_)
  obtain ⟨tf, tm, g1, g2, H1⟩ := isH_tr (f := F9) (x := X9) X.2.1 K.2.2.1 h7
  refine a_al0 fF_trace_42 ?_
  refine a_gf fF_trace_43 l_F_10 X.1.1 rfl ?_
  refine a_gf fF_trace_46 l_F_240 V.1 rfl ?_
  refine a_il1 fF_trace_49 ?_
  refine a_il2 fF_trace_50 ?_
  refine a_V2N fF_trace_51 k_F_249 m_C_addTrace ⟨by decide, by decide⟩ C.1 rfl ⟨rfl, rfl⟩ (Nat.le_of_ble_eq_true rfl) (c_addTrace (c := 20) C.1 g1 g2 h7) ?_
  have F1 : frq 12 h (va_up (va_up (va_up h (12 + 8 + 1) (nA 6 (va_up tf (N 46) F9))) (12 + 8 + 2) (nA 6 (va_up tm (N 46) X9))) (12 + 8) (cO (12 + 8) (N 46 + 1) (N 59))) := fun a ha => up_n (by omega) (up_n (by omega) (up_n (by omega) rfl))
  have X1 := X.ofq F1 H1
  refine a_al0 fF_trace_54 ?_
  refine a_gf fF_trace_55 l_F_10 X1.1.1 rfl ?_
  refine a_gf fF_trace_58 l_F_240 H1.v.1 rfl ?_
  refine a_gf fF_trace_61 l_F_244 up_s rfl ?_
  exact a_ri fF_trace_64 rfl (⟨_, rfl, rfl, rfl, fM.q F1, X1⟩)
theorem x_note_bad {f k d x : Int32} (X : XS h n N I tn bt ab be rb rn rf) (hb : ¬ ((0 ≤ f ∧ f ≤ 9) ∧ (0 ≤ k ∧ k ≤ 3) ∧ (0 ≤ d ∧ d ≤ 99) ∧ (0 ≤ x ∧ x ≤ 20))) : fE M_F_note E [.ref 11, .int f, .int k, .int d, .int x] n h (qI (fun r k g => r = -2 ∧ k = n ∧ fM h g ∧ XS g n N I tn bt ab be (rb + 1) rn rf)) := by
  refine fE.of (L := [some (.ref 11), some (.int f), some (.int k), some (.int d), some (.int x)]) (by decide +kernel) (Nat.le_of_ble_eq_true rfl) rfl ?_
  by_cases d0 : (0 ≤ f ∧ f ≤ 9)
  · refine a_il1 fF_note_0 ?_
    refine a_S1V fF_note_1 k_F_79 m_F_isFigure ⟨by decide, by decide⟩ ⟨rfl, rfl⟩ (Nat.le_of_ble_eq_true rfl) (c_isFigure) ?_
    refine a_if_eq fF_note_4 (fun c_ => absurd c_ (fun z => by rw [bI_t d0] at z; exact absurd z (by decide))) (fun _ => ?_)
    by_cases d1 : (0 ≤ k ∧ k ≤ 3)
    · refine a_il2 fF_note_7 ?_
      refine a_S1V fF_note_8 k_F_201 m_F_isSign ⟨by decide, by decide⟩ ⟨rfl, rfl⟩ (Nat.le_of_ble_eq_true rfl) (c_isSign) ?_
      refine a_if_eq fF_note_11 (fun c_ => absurd c_ (fun z => by rw [bI_t d1] at z; exact absurd z (by decide))) (fun _ => ?_)
      by_cases d2 : (0 ≤ d ∧ d ≤ 99)
      · refine a_il3 fF_note_14 ?_
        refine a_ic fF_note_15 ?_
        refine a_ic fF_note_16 ?_
        refine a_S3V fF_note_18 k_F_85 m_F_within ⟨by decide, by decide⟩ ⟨rfl, rfl⟩ (Nat.le_of_ble_eq_true rfl) (c_within) ?_
        refine a_if_eq fF_note_21 (fun c_ => absurd c_ (fun z => by rw [bI_t d2] at z; exact absurd z (by decide))) (fun _ => ?_)
        by_cases d3 : (0 ≤ x ∧ x ≤ 20)
        · exact absurd ⟨d0, d1, d2, d3⟩ hb
        · refine a_il4 fF_note_24 ?_
          refine a_ic fF_note_26 ?_
          refine a_ic fF_note_27 ?_
          refine a_S3V fF_note_29 k_F_85 m_F_within ⟨by decide, by decide⟩ ⟨rfl, rfl⟩ (Nat.le_of_ble_eq_true rfl) (c_within) ?_
          refine a_if_ne fF_note_32 (fun c_ => absurd (by rw [bI_f d3]) c_) (fun _ => ?_)
          refine a_al0 fF_note_35 ?_
          refine a_V0V fF_note_36 k_F_89 m_F_bad ⟨by decide, by decide⟩ X.1.1 rfl ⟨rfl, rfl⟩ (Nat.le_of_ble_eq_true rfl) (c_bad X.1.1) ?_
          exact a_ri fF_note_39 rfl (⟨_, rfl, rfl, rfl, fM.r0.up (by decide), X.fl _ _ _ _ _⟩)
      · refine a_il3 fF_note_14 ?_
        refine a_ic fF_note_15 ?_
        refine a_ic fF_note_16 ?_
        refine a_S3V fF_note_18 k_F_85 m_F_within ⟨by decide, by decide⟩ ⟨rfl, rfl⟩ (Nat.le_of_ble_eq_true rfl) (c_within) ?_
        refine a_if_eq fF_note_21 (fun _ => ?_) (fun c_ => absurd (by rw [bI_f d2]) c_)
        refine a_al0 fF_note_35 ?_
        refine a_V0V fF_note_36 k_F_89 m_F_bad ⟨by decide, by decide⟩ X.1.1 rfl ⟨rfl, rfl⟩ (Nat.le_of_ble_eq_true rfl) (c_bad X.1.1) ?_
        exact a_ri fF_note_39 rfl (⟨_, rfl, rfl, rfl, fM.r0.up (by decide), X.fl _ _ _ _ _⟩)
    · refine a_il2 fF_note_7 ?_
      refine a_S1V fF_note_8 k_F_201 m_F_isSign ⟨by decide, by decide⟩ ⟨rfl, rfl⟩ (Nat.le_of_ble_eq_true rfl) (c_isSign) ?_
      refine a_if_eq fF_note_11 (fun _ => ?_) (fun c_ => absurd (by rw [bI_f d1]) c_)
      refine a_al0 fF_note_35 ?_
      refine a_V0V fF_note_36 k_F_89 m_F_bad ⟨by decide, by decide⟩ X.1.1 rfl ⟨rfl, rfl⟩ (Nat.le_of_ble_eq_true rfl) (c_bad X.1.1) ?_
      exact a_ri fF_note_39 rfl (⟨_, rfl, rfl, rfl, fM.r0.up (by decide), X.fl _ _ _ _ _⟩)
  · refine a_il1 fF_note_0 ?_
    refine a_S1V fF_note_1 k_F_79 m_F_isFigure ⟨by decide, by decide⟩ ⟨rfl, rfl⟩ (Nat.le_of_ble_eq_true rfl) (c_isFigure) ?_
    refine a_if_eq fF_note_4 (fun _ => ?_) (fun c_ => absurd (by rw [bI_f d0]) c_)
    refine a_al0 fF_note_35 ?_
    refine a_V0V fF_note_36 k_F_89 m_F_bad ⟨by decide, by decide⟩ X.1.1 rfl ⟨rfl, rfl⟩ (Nat.le_of_ble_eq_true rfl) (c_bad X.1.1) ?_
    exact a_ri fF_note_39 rfl (⟨_, rfl, rfl, rfl, fM.r0.up (by decide), X.fl _ _ _ _ _⟩)
theorem x_note_full {F9 K9 D9 X9 : Nat} (X : XS h n N I tn bt ab be rb rn rf) (K : okN N) (h9 : F9 < 10) (h8 : K9 ≤ 3) (h5 : D9 ≤ 99) (h6 : X9 ≤ 20) (h7 : N 59 = 6) : fE M_F_note E [.ref 11, .int (nI F9), .int (nI K9), .int (nI D9), .int (nI X9)] n h (qI (fun r k g => r = -4 ∧ k = n ∧ fM h g ∧ XS g n N I tn bt ab be rb rn (rf + 1))) := by
  have V := X.2.1.v
  have B := X.2.1.b
  have C := X.2.1.c
  have S := X.2.2.2.1
  have O := K.c
  refine fE.of (L := [some (.ref 11), some (.int (nI F9)), some (.int (nI K9)), some (.int (nI D9)), some (.int (nI X9))]) (by decide +kernel) (Nat.le_of_ble_eq_true rfl) rfl ?_
  refine a_il1 fF_note_0 ?_
  refine a_S1V fF_note_1 k_F_79 m_F_isFigure ⟨by decide, by decide⟩ ⟨rfl, rfl⟩ (Nat.le_of_ble_eq_true rfl) (c_isFigure) ?_
  refine a_if_eq fF_note_4 (fun c_ => absurd c_ (fun z => by rw [bI_t ⟨nI_pos' (by omega), nI_le (b := 9) (by omega) (by decide)⟩] at z; exact absurd z (by decide))) (fun _ => ?_)
  refine a_il2 fF_note_7 ?_
  refine a_S1V fF_note_8 k_F_201 m_F_isSign ⟨by decide, by decide⟩ ⟨rfl, rfl⟩ (Nat.le_of_ble_eq_true rfl) (c_isSign) ?_
  refine a_if_eq fF_note_11 (fun c_ => absurd c_ (fun z => by rw [bI_t ⟨nI_pos' (by omega), nI_le (b := 3) (by omega) (by decide)⟩] at z; exact absurd z (by decide))) (fun _ => ?_)
  refine a_il3 fF_note_14 ?_
  refine a_ic fF_note_15 ?_
  refine a_ic fF_note_16 ?_
  refine a_S3V fF_note_18 k_F_85 m_F_within ⟨by decide, by decide⟩ ⟨rfl, rfl⟩ (Nat.le_of_ble_eq_true rfl) (c_within) ?_
  refine a_if_eq fF_note_21 (fun c_ => absurd c_ (fun z => by rw [bI_t ⟨nI_pos' (by omega), nI_le (b := 99) (by omega) (by decide)⟩] at z; exact absurd z (by decide))) (fun _ => ?_)
  refine a_il4 fF_note_24 ?_
  refine a_ic fF_note_26 ?_
  refine a_ic fF_note_27 ?_
  refine a_S3V fF_note_29 k_F_85 m_F_within ⟨by decide, by decide⟩ ⟨rfl, rfl⟩ (Nat.le_of_ble_eq_true rfl) (c_within) ?_
  refine a_if_ne fF_note_32 (fun _ => ?_) (fun c_ => absurd c_ (fun z => by rw [bI_t ⟨nI_pos' (by omega), nI_le (b := 20) (by omega) (by decide)⟩] at z; exact absurd z (by decide)))
  refine a_al0 fF_note_40 ?_
  refine a_gf fF_note_41 l_F_10 X.1.1 rfl ?_
  refine a_gf fF_note_44 l_F_240 V.1 rfl ?_
  refine a_gf fF_note_47 l_F_258 C.1 rfl ?_
  refine a_ic fF_note_50 ?_
  refine a_ic_lt fF_note_52 (fun c_ => absurd c_ (fun z => by rw [h7] at z; exact absurd z (by decide))) (fun _ => ?_)
  refine a_al0 fF_note_55 ?_
  refine a_V0V fF_note_56 k_F_107 m_F_full ⟨by decide, by decide⟩ X.1.1 rfl ⟨rfl, rfl⟩ (Nat.le_of_ble_eq_true rfl) (c_full X.1.1) ?_
  exact a_ri fF_note_59 rfl (⟨_, rfl, rfl, rfl, fM.r0.up (by decide), X.fl _ _ _ _ _⟩)
theorem x_note {F9 K9 D9 X9 : Nat} (X : XS h n N I tn bt ab be rb rn rf) (K : okN N) (h9 : F9 < 10) (h8 : K9 ≤ 3) (h5 : D9 ≤ 99) (h6 : X9 ≤ 20) (h7 : N 59 < 6) : fE M_F_note E [.ref 11, .int (nI F9), .int (nI K9), .int (nI D9), .int (nI X9)] n h (qI (fun r k g => r = nI (N 59 + 1) ∧ k = n ∧ fM h g ∧ XS g n (noN N F9 K9 D9 X9) I tn bt ab be rb rn rf)) := by
  have V := X.2.1.v
  have B := X.2.1.b
  have C := X.2.1.c
  have S := X.2.2.2.1
  have O := K.c
  refine fE.of (L := [some (.ref 11), some (.int (nI F9)), some (.int (nI K9)), some (.int (nI D9)), some (.int (nI X9))]) (by decide +kernel) (Nat.le_of_ble_eq_true rfl) rfl ?_
  refine a_il1 fF_note_0 ?_
  refine a_S1V fF_note_1 k_F_79 m_F_isFigure ⟨by decide, by decide⟩ ⟨rfl, rfl⟩ (Nat.le_of_ble_eq_true rfl) (c_isFigure) ?_
  refine a_if_eq fF_note_4 (fun c_ => absurd c_ (fun z => by rw [bI_t ⟨nI_pos' (by omega), nI_le (b := 9) (by omega) (by decide)⟩] at z; exact absurd z (by decide))) (fun _ => ?_)
  refine a_il2 fF_note_7 ?_
  refine a_S1V fF_note_8 k_F_201 m_F_isSign ⟨by decide, by decide⟩ ⟨rfl, rfl⟩ (Nat.le_of_ble_eq_true rfl) (c_isSign) ?_
  refine a_if_eq fF_note_11 (fun c_ => absurd c_ (fun z => by rw [bI_t ⟨nI_pos' (by omega), nI_le (b := 3) (by omega) (by decide)⟩] at z; exact absurd z (by decide))) (fun _ => ?_)
  refine a_il3 fF_note_14 ?_
  refine a_ic fF_note_15 ?_
  refine a_ic fF_note_16 ?_
  refine a_S3V fF_note_18 k_F_85 m_F_within ⟨by decide, by decide⟩ ⟨rfl, rfl⟩ (Nat.le_of_ble_eq_true rfl) (c_within) ?_
  refine a_if_eq fF_note_21 (fun c_ => absurd c_ (fun z => by rw [bI_t ⟨nI_pos' (by omega), nI_le (b := 99) (by omega) (by decide)⟩] at z; exact absurd z (by decide))) (fun _ => ?_)
  refine a_il4 fF_note_24 ?_
  refine a_ic fF_note_26 ?_
  refine a_ic fF_note_27 ?_
  refine a_S3V fF_note_29 k_F_85 m_F_within ⟨by decide, by decide⟩ ⟨rfl, rfl⟩ (Nat.le_of_ble_eq_true rfl) (c_within) ?_
  refine a_if_ne fF_note_32 (fun _ => ?_) (fun c_ => absurd c_ (fun z => by rw [bI_t ⟨nI_pos' (by omega), nI_le (b := 20) (by omega) (by decide)⟩] at z; exact absurd z (by decide)))
  refine a_al0 fF_note_40 ?_
  refine a_gf fF_note_41 l_F_10 X.1.1 rfl ?_
  refine a_gf fF_note_44 l_F_240 V.1 rfl ?_
  refine a_gf fF_note_47 l_F_258 C.1 rfl ?_
  refine a_ic fF_note_50 ?_
  refine a_ic_lt fF_note_52 (fun _ => ?_) (fun c_ => absurd (nI_lt (b := 6) h7 (by decide)) c_)
  obtain ⟨f1, f2, f3, f4, g1, g2, g3, g4, H1⟩ := isH_no (f := F9) (k := K9) (d := D9) (x := X9) X.2.1 K.2.2.1 h7
  refine a_al0 fF_note_60 ?_
  refine a_gf fF_note_61 l_F_10 X.1.1 rfl ?_
  refine a_gf fF_note_64 l_F_240 V.1 rfl ?_
  refine a_il1 fF_note_67 ?_
  refine a_il2 fF_note_68 ?_
  refine a_il3 fF_note_69 ?_
  refine a_il4 fF_note_70 ?_
  refine a_V4N fF_note_72 k_F_261 m_C_addNote ⟨by decide, by decide⟩ C.1 rfl ⟨rfl, rfl⟩ (Nat.le_of_ble_eq_true rfl) (c_addNote (c := 20) C.1 g1 g2 g3 g4 h7) ?_
  have F1 : frq 12 h (va_up (va_up (va_up (va_up (va_up h (12 + 8 + 3) (nA 6 (va_up f1 (N 59) F9))) (12 + 8 + 4) (nA 6 (va_up f2 (N 59) K9))) (12 + 8 + 5) (nA 6 (va_up f3 (N 59) D9))) (12 + 8 + 6) (nA 6 (va_up f4 (N 59) X9))) (12 + 8) (cO (12 + 8) (N 46) (N 59 + 1))) := fun a ha => up_n (by omega) (up_n (by omega) (up_n (by omega) (up_n (by omega) (up_n (by omega) rfl))))
  have X1 := X.ofq F1 H1
  refine a_al0 fF_note_75 ?_
  refine a_gf fF_note_76 l_F_10 X1.1.1 rfl ?_
  refine a_gf fF_note_79 l_F_240 H1.v.1 rfl ?_
  refine a_gf fF_note_82 l_F_258 up_s rfl ?_
  exact a_ri fF_note_85 rfl (⟨_, rfl, rfl, rfl, fM.q F1, X1⟩)
theorem c_howManyF {w : Nat} (X : XS h n N I tn bt ab be rb rn rf) (hw : w ≤ 8) : fE M_F_howMany E [.ref 11, .int (nI w)] n h (eV (.int (nI (cwN N tn w))) n h) := by
  have V := X.2.1.v
  have B := X.2.1.b
  have C := X.2.1.c
  obtain ⟨ta, tp, ts, tv, t1⟩ := X.2.2.2.2.2.1
  refine fE.of (L := [some (.ref 11), some (.int (nI w))]) (by decide +kernel) (Nat.le_of_ble_eq_true rfl) rfl ?_
  refine a_il1 fF_howMany_0 ?_
  match w, hw with
  | 0, _ =>
    refine a_tsI (off := 47) (tgt := 48) fF_howMany_1 (by decide) (by decide) rfl (by decide) ?_
    refine a_al0 fF_howMany_48 ?_
    refine a_gf fF_howMany_49 l_F_10 X.1.1 rfl ?_
    refine a_gf fF_howMany_52 l_F_67 V.1 rfl ?_
    refine a_gf fF_howMany_55 l_F_71 B.1 rfl ?_
    exact a_ri fF_howMany_58 rfl (⟨rfl, rfl, rfl⟩)
  | 1, _ =>
    refine a_tsI (off := 58) (tgt := 59) fF_howMany_1 (by decide) (by decide) rfl (by decide) ?_
    refine a_al0 fF_howMany_59 ?_
    refine a_gf fF_howMany_60 l_F_10 X.1.1 rfl ?_
    refine a_gf fF_howMany_63 l_F_132 V.1 rfl ?_
    refine a_gf fF_howMany_66 l_F_172 V.2.2.2.1 rfl ?_
    exact a_ri fF_howMany_69 rfl (⟨rfl, rfl, rfl⟩)
  | 2, _ =>
    refine a_tsI (off := 69) (tgt := 70) fF_howMany_1 (by decide) (by decide) rfl (by decide) ?_
    refine a_al0 fF_howMany_70 ?_
    refine a_gf fF_howMany_71 l_F_10 X.1.1 rfl ?_
    refine a_gf fF_howMany_74 l_F_67 V.1 rfl ?_
    refine a_gf fF_howMany_77 l_F_166 B.1 rfl ?_
    exact a_ri fF_howMany_80 rfl (⟨rfl, rfl, rfl⟩)
  | 3, _ =>
    refine a_tsI (off := 80) (tgt := 81) fF_howMany_1 (by decide) (by decide) rfl (by decide) ?_
    refine a_al0 fF_howMany_81 ?_
    refine a_gf fF_howMany_82 l_F_10 X.1.1 rfl ?_
    refine a_gf fF_howMany_85 l_F_67 V.1 rfl ?_
    refine a_gf fF_howMany_88 l_F_303 B.1 rfl ?_
    exact a_ri fF_howMany_91 rfl (⟨rfl, rfl, rfl⟩)
  | 4, _ =>
    refine a_tsI (off := 91) (tgt := 92) fF_howMany_1 (by decide) (by decide) rfl (by decide) ?_
    refine a_al0 fF_howMany_92 ?_
    refine a_gf fF_howMany_93 l_F_10 X.1.1 rfl ?_
    refine a_gf fF_howMany_96 l_F_132 V.1 rfl ?_
    refine a_V0V fF_howMany_99 k_F_306 m_S_wornTogether ⟨by decide, by decide⟩ V.2.2.2.1 rfl ⟨rfl, rfl⟩ (Nat.le_of_ble_eq_true rfl) (c_wornTog (s := 15) V.2.2.2.1 V.2.2.2.2) ?_
    exact a_ri fF_howMany_102 rfl (⟨rfl, rfl, rfl⟩)
  | 5, _ =>
    refine a_tsI (off := 102) (tgt := 103) fF_howMany_1 (by decide) (by decide) rfl (by decide) ?_
    refine a_al0 fF_howMany_103 ?_
    refine a_gf fF_howMany_104 l_F_10 X.1.1 rfl ?_
    refine a_gf fF_howMany_107 l_F_240 V.1 rfl ?_
    refine a_gf fF_howMany_110 l_F_244 C.1 rfl ?_
    exact a_ri fF_howMany_113 rfl (⟨rfl, rfl, rfl⟩)
  | 6, _ =>
    refine a_tsI (off := 113) (tgt := 114) fF_howMany_1 (by decide) (by decide) rfl (by decide) ?_
    refine a_al0 fF_howMany_114 ?_
    refine a_gf fF_howMany_115 l_F_10 X.1.1 rfl ?_
    refine a_gf fF_howMany_118 l_F_240 V.1 rfl ?_
    refine a_gf fF_howMany_121 l_F_258 C.1 rfl ?_
    exact a_ri fF_howMany_124 rfl (⟨rfl, rfl, rfl⟩)
  | 7, _ =>
    refine a_tsI (off := 124) (tgt := 125) fF_howMany_1 (by decide) (by decide) rfl (by decide) ?_
    refine a_al0 fF_howMany_125 ?_
    refine a_gf fF_howMany_126 l_F_10 X.1.1 rfl ?_
    refine a_gf fF_howMany_129 l_F_177 V.1 rfl ?_
    refine a_gf fF_howMany_132 l_F_181 X.2.1.p rfl ?_
    exact a_ri fF_howMany_135 rfl (⟨rfl, rfl, rfl⟩)
  | 8, _ =>
    refine a_tsO (tgt := 136) fF_howMany_1 (by decide) (by decide) ?_
    refine a_al0 fF_howMany_136 ?_
    refine a_gf fF_howMany_137 l_F_40 X.1.1 rfl ?_
    refine a_gf fF_howMany_140 l_F_114 t1 rfl ?_
    exact a_ri fF_howMany_143 rfl (⟨rfl, rfl, rfl⟩)
theorem x_count_bad {w : Int32} (X : XS h n N I tn bt ab be rb rn rf) (hb : ¬ ((0 ≤ w ∧ w ≤ 8))) : fE M_F_count E [.ref 11, .int w] n h (qI (fun r k g => r = -2 ∧ k = n ∧ fM h g ∧ XS g n N I tn bt ab be (rb + 1) rn rf)) := by
  refine fE.of (L := [some (.ref 11), some (.int w)]) (by decide +kernel) (Nat.le_of_ble_eq_true rfl) rfl ?_
  by_cases d0 : (0 ≤ w ∧ w ≤ 8)
  · exact absurd d0 hb
  · refine a_il1 fF_count_0 ?_
    refine a_ic fF_count_1 ?_
    refine a_ic fF_count_2 ?_
    refine a_S3V fF_count_4 k_F_85 m_F_within ⟨by decide, by decide⟩ ⟨rfl, rfl⟩ (Nat.le_of_ble_eq_true rfl) (c_within) ?_
    refine a_if_eq fF_count_7 (fun _ => ?_) (fun c_ => absurd (by rw [bI_f d0]) c_)
    refine a_al0 fF_count_18 ?_
    refine a_V0V fF_count_19 k_F_89 m_F_bad ⟨by decide, by decide⟩ X.1.1 rfl ⟨rfl, rfl⟩ (Nat.le_of_ble_eq_true rfl) (c_bad X.1.1) ?_
    exact a_ri fF_count_22 rfl (⟨_, rfl, rfl, rfl, fM.r0.up (by decide), X.fl _ _ _ _ _⟩)
theorem x_count {W9 : Nat} (X : XS h n N I tn bt ab be rb rn rf) (K : okN N) (h9 : W9 ≤ 8) : fE M_F_count E [.ref 11, .int (nI W9)] n h (qI (fun r k g => r = nI (cwN N tn W9) ∧ k = n ∧ fM h g ∧ XS g n N I tn bt ab be rb rn rf)) := by
  have V := X.2.1.v
  have B := X.2.1.b
  have C := X.2.1.c
  have S := X.2.2.2.1
  have O := K.c
  refine fE.of (L := [some (.ref 11), some (.int (nI W9))]) (by decide +kernel) (Nat.le_of_ble_eq_true rfl) rfl ?_
  refine a_il1 fF_count_0 ?_
  refine a_ic fF_count_1 ?_
  refine a_ic fF_count_2 ?_
  refine a_S3V fF_count_4 k_F_85 m_F_within ⟨by decide, by decide⟩ ⟨rfl, rfl⟩ (Nat.le_of_ble_eq_true rfl) (c_within) ?_
  refine a_if_eq fF_count_7 (fun c_ => absurd c_ (fun z => by rw [bI_t ⟨nI_pos' (by omega), nI_le (b := 8) (by omega) (by decide)⟩] at z; exact absurd z (by decide))) (fun _ => ?_)
  refine a_al0 fF_count_10 ?_
  refine a_il1 fF_count_11 ?_
  refine a_V1V fF_count_12 k_F_292 m_F_howMany ⟨by decide, by decide⟩ X.1.1 rfl ⟨rfl, rfl⟩ (Nat.le_of_ble_eq_true rfl) (c_howManyF X h9) ?_
  refine a_goto fF_count_15 ?_
  exact a_ri fF_count_22 rfl (⟨_, rfl, rfl, rfl, fM.r0, X⟩)
theorem x_part0 (X : XS h n N I tn bt ab be rb rn rf) : fE M_F_part E [.ref 11, .int (nI 0)] n h (fun r k g => r = some (.long (nI ab).toInt64) ∧ k = n ∧ fM h g ∧ XS g n N I tn bt ab be rb rn rf) := by
  refine fE.of (L := [some (.ref 11), some (.int (nI 0))]) (by decide +kernel) (Nat.le_of_ble_eq_true rfl) rfl ?_
  refine a_il1 fF_part_0 ?_
  refine a_ls2 (off := 27) (tgt := 28) fF_part_1 (by decide) (by decide) (by decide) ?_
  refine a_al0 fF_part_28 ?_
  refine a_gf fF_part_29 l_F_51 X.1.1 rfl ?_
  refine a_i2l fF_part_32 ?_
  exact a_rl fF_part_33 rfl (⟨rfl, rfl, fM.r0, X⟩)
theorem x_part1 (X : XS h n N I tn bt ab be rb rn rf) : fE M_F_part E [.ref 11, .int (nI 1)] n h (fun r k g => r = some (.long (nI be).toInt64) ∧ k = n ∧ fM h g ∧ XS g n N I tn bt ab be rb rn rf) := by
  refine fE.of (L := [some (.ref 11), some (.int (nI 1))]) (by decide +kernel) (Nat.le_of_ble_eq_true rfl) rfl ?_
  refine a_il1 fF_part_0 ?_
  refine a_ls2 (off := 33) (tgt := 34) fF_part_1 (by decide) (by decide) (by decide) ?_
  refine a_al0 fF_part_34 ?_
  refine a_gf fF_part_35 l_F_55 X.1.1 rfl ?_
  refine a_i2l fF_part_38 ?_
  exact a_rl fF_part_39 rfl (⟨rfl, rfl, fM.r0, X⟩)
theorem x_part_bad {w : Int32} (X : XS h n N I tn bt ab be rb rn rf) (hb : ¬ (0 ≤ w ∧ w ≤ 1)) : fE M_F_part E [.ref 11, .int w] n h (fun r k g => r = some (.long (-2)) ∧ k = n ∧ fM h g ∧ XS g n N I tn bt ab be (rb + 1) rn rf) := by
  refine fE.of (L := [some (.ref 11), some (.int w)]) (by decide +kernel) (Nat.le_of_ble_eq_true rfl) rfl ?_
  refine a_il1 fF_part_0 ?_
  have h0 : ¬ w.toInt = 0 := fun z => hb ⟨Int32.le_iff_toInt_le.mpr (by rw [z]; decide), Int32.le_iff_toInt_le.mpr (by rw [z]; decide)⟩
  have h1 : ¬ w.toInt = 1 := fun z => hb ⟨Int32.le_iff_toInt_le.mpr (by rw [z]; decide), Int32.le_iff_toInt_le.mpr (by rw [z]; decide)⟩
  refine a_ls2 (off := 39) (tgt := 40) fF_part_1 (by decide) (by simp [Op.lookupswitch.offset, h0, h1, Ne.symm h0, Ne.symm h1, fun z : (0 : Int) = w.toInt => h0 z.symm, fun z : (1 : Int) = w.toInt => h1 z.symm]) (by decide) ?_
  refine a_al0 fF_part_40 ?_
  refine a_V0V fF_part_41 k_F_89 m_F_bad ⟨by decide, by decide⟩ X.1.1 rfl ⟨rfl, rfl⟩ (Nat.le_of_ble_eq_true rfl) (c_bad X.1.1) ?_
  refine a_i2l fF_part_44 ?_
  exact a_rl fF_part_45 rfl (⟨rfl, rfl, fM.r0.up (by decide), X.fl _ _ _ _ _⟩)
theorem x_digest (X : XS h n N I tn bt ab be rb rn rf) (K : okN N) : fE M_F_digest E [.ref 11] n h (fun r k g => r = some (.long (dgN N tn ab be)) ∧ k = n ∧ fM h g ∧ XS g n N I tn bt ab be rb rn rf) := by
  have V := X.2.1.v
  obtain ⟨bn, bw, tf, tm, nf, ng, nd, nm, rw, HC, l1, l2, l3, l4⟩ := X.2.1
  have eq9 : ∀ T : Int64, mxL (fun i => [nf i, ng i, nd i, nm i]) (N 59) 0 (mxL (fun i => [tf i, tm i]) (N 46) 0 (mxL (fun i => [bn i, bw i]) (N 31) 0 (mxL (fun i => [sl N 0 10 i, sl N 10 10 i, sl N 20 10 i]) 10 0 T))) = mxL (fun i => [N (60 + i), N (66 + i), N (72 + i), N (78 + i)]) (N 59) 0 (mxL (fun i => [N (47 + i), N (53 + i)]) (N 46) 0 (mxL (fun i => [N (32 + i), N (38 + i)]) (N 31) 0 (mxL (fun i => [N i, N (10 + i), N (20 + i)]) 10 0 T))) := by
    intro T
    rw [mxL_congr (f := fun i => [sl N 0 10 i, sl N 10 10 i, sl N 20 10 i]) (g := fun i => [N i, N (10 + i), N (20 + i)]) 10 0 T (fun x _ hx => by rw [sl_lt (by omega), sl_lt (by omega), sl_lt (by omega), Nat.zero_add])]
    rw [mxL_congr (f := fun i => [bn i, bw i]) (g := fun i => [N (32 + i), N (38 + i)]) (N 31) 0 _ (fun x _ hx => by rw [(l1 x (by omega)).1, (l1 x (by omega)).2])]
    rw [mxL_congr (f := fun i => [tf i, tm i]) (g := fun i => [N (47 + i), N (53 + i)]) (N 46) 0 _ (fun x _ hx => by rw [(l2 x (by omega)).1, (l2 x (by omega)).2])]
    rw [mxL_congr (f := fun i => [nf i, ng i, nd i, nm i]) (g := fun i => [N (60 + i), N (66 + i), N (72 + i), N (78 + i)]) (N 59) 0 _ (fun x _ hx => by obtain ⟨e1, e2, e3, e4⟩ := l3 x (by omega); rw [e1, e2, e3, e4])]
  have loop : ∀ (j i : Nat) (x y : Int64), i + j = 9 → mxL (fun w => [cwN N tn w]) j i x = y → fA M_F_digest E (fZ M_F_digest E (fun r k g => r = some (.long (mx (mx (mxL (fun i => [N (60 + i), N (66 + i), N (72 + i), N (78 + i)]) (N 59) 0 (mxL (fun i => [N (47 + i), N (53 + i)]) (N 46) 0 (mxL (fun i => [N (32 + i), N (38 + i)]) (N 31) 0 (mxL (fun i => [N i, N (10 + i), N (20 + i)]) 10 0 y)))) ab) be)) ∧ k = n ∧ fM h g ∧ XS g n N I tn bt ab be rb rn rf)) n h 0 0 6 [some (.ref 11), some (.long x), none, some (.int (nI i))] [] := by
    intro j
    induction j with
    | zero =>
      intro i x y hi hy
      obtain rfl : i = 9 := by omega
      refine a_il3 fF_digest_6 ?_
      refine a_ic fF_digest_7 ?_
      refine a_ic_gt fF_digest_9 (fun _ => ?_) (fun c_ => absurd (by decide) c_)
      refine a_al0 fF_digest_31 ?_
      refine a_gf fF_digest_32 l_F_10 X.1.1 rfl ?_
      refine a_ll1 fF_digest_35 ?_
      refine a_V1V fF_digest_36 k_F_299 m_H_mixInto ⟨by decide, by decide⟩ V.1 rfl ⟨rfl, rfl⟩ (Nat.le_of_ble_eq_true rfl) (c_Hmix HC K.2.2.1) ?_
      rw [eq9]
      have e : x = y := hy
      rw [e]
      refine a_lt1 fF_digest_39 (by decide) rfl ?_
      refine a_lc fF_digest_40 ?_
      refine a_ll1 fF_digest_43 ?_
      refine a_lmul fF_digest_44 ?_
      refine a_al0 fF_digest_45 ?_
      refine a_gf fF_digest_46 l_F_51 X.1.1 rfl ?_
      refine a_i2l fF_digest_49 ?_
      refine a_ladd fF_digest_50 ?_
      refine a_lt1 fF_digest_51 (by decide) rfl ?_
      refine a_lc fF_digest_52 ?_
      refine a_ll1 fF_digest_55 ?_
      refine a_lmul fF_digest_56 ?_
      refine a_al0 fF_digest_57 ?_
      refine a_gf fF_digest_58 l_F_55 X.1.1 rfl ?_
      refine a_i2l fF_digest_61 ?_
      refine a_ladd fF_digest_62 ?_
      exact a_rl fF_digest_63 rfl (⟨rfl, rfl, fM.r0, X⟩)
    | succ j ih =>
      intro i x y hi hy
      refine a_il3 fF_digest_6 ?_
      refine a_ic fF_digest_7 ?_
      refine a_ic_gt fF_digest_9 (fun c_ => absurd c_ (fun z => absurd ((nI_ltI (a := 8) (by decide) (by omega)).mp z) (by omega))) (fun _ => ?_)
      refine a_lc fF_digest_12 ?_
      refine a_ll1 fF_digest_15 ?_
      refine a_lmul fF_digest_16 ?_
      refine a_al0 fF_digest_17 ?_
      refine a_il3 fF_digest_18 ?_
      refine a_V1V fF_digest_19 k_F_292 m_F_howMany ⟨by decide, by decide⟩ X.1.1 rfl ⟨rfl, rfl⟩ (Nat.le_of_ble_eq_true rfl) (c_howManyF X (w := i) (by omega)) ?_
      refine a_i2l fF_digest_22 ?_
      refine a_ladd fF_digest_23 ?_
      refine a_lt1 fF_digest_24 (by decide) rfl ?_
      refine a_inc3 fF_digest_25 (by decide) rfl ?_
      refine a_goto fF_digest_28 ?_
      rw [nI_1]
      exact ih (i + 1) _ y (by omega) hy
  refine fE.of (L := [some (.ref 11), none, none, none]) (by decide +kernel) (Nat.le_of_ble_eq_true rfl) rfl ?_
  refine a_lc fF_digest_0 ?_
  refine a_lt1 fF_digest_3 (by decide) rfl ?_
  refine a_ic fF_digest_4 ?_
  refine a_is3 fF_digest_5 (by decide) rfl ?_
  exact loop 9 0 _ _ rfl rfl
end PU
