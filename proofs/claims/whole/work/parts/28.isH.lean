/-! a house at q holds the row N -/
def hC (h : hT) (q : Nat) (N bn bw tf tm nf ng nd nm rw : Nat → Nat) : Prop :=
  (h q = hO q ∧ h (q + 1) = nA 10 (sl N 0 10) ∧ h (q + 2) = nA 10 (sl N 10 10) ∧ h (q + 3) = sO (q + 4) (N 30) ∧ h (q + 4) = nA 10 (sl N 20 10)) ∧
  (h (q + 5) = bO (q + 5) (N 31) (N 44) (N 45) ∧ h (q + 6) = nA 6 bn ∧ h (q + 7) = nA 6 bw) ∧
  (h (q + 8) = cO (q + 8) (N 46) (N 59) ∧ h (q + 9) = nA 6 tf ∧ h (q + 10) = nA 6 tm ∧ h (q + 11) = nA 6 nf ∧ h (q + 12) = nA 6 ng ∧ h (q + 13) = nA 6 nd ∧ h (q + 14) = nA 6 nm) ∧
  h (q + 15) = pO (q + 15) (N 84) ∧ h (q + 16) = nA 104 rw
def hL (N bn bw tf tm nf ng nd nm rw : Nat → Nat) : Prop :=
  (∀ i, i < N 31 → bn i = N (32 + i) ∧ bw i = N (38 + i)) ∧ (∀ i, i < N 46 → tf i = N (47 + i) ∧ tm i = N (53 + i)) ∧ (∀ i, i < N 59 → nf i = N (60 + i) ∧ ng i = N (66 + i) ∧ nd i = N (72 + i) ∧ nm i = N (78 + i)) ∧ ∀ i, i < 13 * N 84 → rw i = N (85 + i)
def isH (h : hT) (q : Nat) (N : Nat → Nat) : Prop := ∃ bn bw tf tm nf ng nd nm rw, hC h q N bn bw tf tm nf ng nd nm rw ∧ hL N bn bw tf tm nf ng nd nm rw
/-- only the cells of the house at q are others -/
def frq (q : Nat) (h g : hT) : Prop := ∀ a, a < q ∨ q + 16 < a → g a = h a
def N0 : Nat → Nat := fun i => if 10 ≤ i ∧ i < 20 then 20 else 0
theorem hC.of {h g : hT} {q : Nat} {N bn bw tf tm nf ng nd nm rw : Nat → Nat} (H : hC h q N bn bw tf tm nf ng nd nm rw) (e : ∀ a, q ≤ a → a ≤ q + 16 → g a = h a) : hC g q N bn bw tf tm nf ng nd nm rw := by
  obtain ⟨⟨a1, a2, a3, a4, a5⟩, ⟨a6, a7, a8⟩, ⟨a9, b1, b2, b3, b4, b5, b6⟩, b7, b8⟩ := H
  refine ⟨⟨?_, ?_, ?_, ?_, ?_⟩, ⟨?_, ?_, ?_⟩, ⟨?_, ?_, ?_, ?_, ?_, ?_, ?_⟩, ?_, ?_⟩ <;> (rw [e _ (by omega) (by omega)]; assumption)
theorem isH.of {h g : hT} {q : Nat} {N : Nat → Nat} (H : isH h q N) (e : ∀ a, q ≤ a → a ≤ q + 16 → g a = h a) : isH g q N := by
  obtain ⟨bn, bw, tf, tm, nf, ng, nd, nm, rw, c, l⟩ := H
  exact ⟨bn, bw, tf, tm, nf, ng, nd, nm, rw, c.of e, l⟩
theorem isH.fr {h g : hT} {q q2 : Nat} {N : Nat → Nat} (H : isH h q N) (e : frq q2 h g) (d : q + 16 < q2 ∨ q2 + 16 < q) : isH g q N := H.of (fun a _ _ => e a (by omega))
theorem sl_eq {N M : Nat → Nat} {a n : Nat} (h : ∀ i, i < n → N (a + i) = M (a + i)) : sl N a n = sl M a n := by
  funext i
  unfold sl
  split
  · rename_i c; exact h i c
  · rfl
theorem cpy_sl {N M : Nat → Nat} {a n : Nat} : va_cpy (sl N a n) (sl M a n) 0 0 n = sl N a n := by
  funext i
  unfold va_cpy sl
  by_cases c : i < n
  · simp [c]
  · simp [c]
theorem cpy_lt {f g : Nat → Nat} {n i : Nat} (h : i < n) : va_cpy f g 0 0 n i = f i := by
  unfold va_cpy
  rw [if_pos (by omega)]
  simp
/-- worn and the day are others -/
theorem isH.wd {h : hT} {q : Nat} {N M : Nat → Nat} (H : isH h q N) (e : ∀ i, i < 20 ∨ 30 < i → M i = N i) : isH (va_up (va_up h (q + 4) (nA 10 (sl M 20 10))) (q + 3) (sO (q + 4) (M 30))) q M := by
  obtain ⟨bn, bw, tf, tm, nf, ng, nd, nm, rw, c, l⟩ := H
  obtain ⟨⟨a1, a2, a3, a4, a5⟩, ⟨a6, a7, a8⟩, ⟨a9, b1, b2, b3, b4, b5, b6⟩, b7, b8⟩ := c
  have e1 : sl M 0 10 = sl N 0 10 := sl_eq (fun i hi => e _ (by omega))
  have e2 : sl M 10 10 = sl N 10 10 := sl_eq (fun i hi => e _ (by omega))
  refine ⟨bn, bw, tf, tm, nf, ng, nd, nm, rw, ⟨⟨?_, ?_, ?_, ?_, ?_⟩, ⟨?_, ?_, ?_⟩, ⟨?_, ?_, ?_, ?_, ?_, ?_, ?_⟩, ?_, ?_⟩, ?_⟩
  · exact up_n (by omega) (up_n (by omega) a1)
  · rw [e1]; exact up_n (by omega) (up_n (by omega) a2)
  · rw [e2]; exact up_n (by omega) (up_n (by omega) a3)
  · exact up_s
  · exact up_n (by omega) up_s
  · rw [e 31 (by omega), e 44 (by omega), e 45 (by omega)]; exact up_n (by omega) (up_n (by omega) a6)
  · exact up_n (by omega) (up_n (by omega) a7)
  · exact up_n (by omega) (up_n (by omega) a8)
  · rw [e 46 (by omega), e 59 (by omega)]; exact up_n (by omega) (up_n (by omega) a9)
  · exact up_n (by omega) (up_n (by omega) b1)
  · exact up_n (by omega) (up_n (by omega) b2)
  · exact up_n (by omega) (up_n (by omega) b3)
  · exact up_n (by omega) (up_n (by omega) b4)
  · exact up_n (by omega) (up_n (by omega) b5)
  · exact up_n (by omega) (up_n (by omega) b6)
  · rw [e 84 (by omega)]; exact up_n (by omega) (up_n (by omega) b7)
  · exact up_n (by omega) (up_n (by omega) b8)
  · obtain ⟨l1, l2, l3, l4⟩ := l
    refine ⟨fun i hi => ?_, fun i hi => ?_, fun i hi => ?_, fun i hi => ?_⟩
    · rw [e 31 (by omega)] at hi; rw [e _ (by omega), e _ (by omega)]; exact l1 i hi
    · rw [e 46 (by omega)] at hi; rw [e _ (by omega), e _ (by omega)]; exact l2 i hi
    · rw [e 59 (by omega)] at hi; rw [e _ (by omega), e _ (by omega), e _ (by omega), e _ (by omega)]; exact l3 i hi
    · rw [e 84 (by omega)] at hi; rw [e _ (by omega)]; exact l4 i hi
theorem frq_wd {h : hT} {q : Nat} {x w : cT} : frq q h (va_up (va_up h (q + 4) x) (q + 3) w) := fun a ha => up_n (by omega) (up_n (by omega) rfl)
theorem frq.trans {q : Nat} {a b c : hT} (x : frq q a b) (z : frq q b c) : frq q a c := fun i hi => (z i hi).trans (x i hi)
theorem frq.rf {q : Nat} {a : hT} : frq q a a := fun _ _ => rfl
section HH
variable {E : eT} {n : Nat} {h : hT}
theorem c_Hinit (hs : h (n + 10) = .inr (1, [.null, .null, .null, .null, .null, .null])) : fE M_H_init E [.ref (n + 10)] n h (qN (fun k g => k = n + 16 ∧ isH g (n + 10) N0 ∧ frq (n + 10) h g)) := by
  refine fE.of (L := [some (.ref (n + 10))]) (by decide +kernel) (Nat.le_of_ble_eq_true rfl) rfl ?_
  refine a_al0 fH_init_0 ?_
  refine a_oi fH_init_1 k_H_3 w_oiI w_oiC (by decide) (Nat.le_of_ble_eq_true rfl) ?_
  refine a_al0 fH_init_4 ?_
  refine a_ic fH_init_5 ?_
  refine a_newi fH_init_7 w_ai (by decide) (show _ = 10 from rfl) (by decide) (by decide) (by decide) ?_
  refine a_pF0 fH_init_9 q_H_9 rfl (Or.inr ⟨_, rfl⟩) (up_n (by omega) hs) ?_
  refine a_al0 fH_init_12 ?_
  refine a_ic fH_init_13 ?_
  refine a_newi fH_init_15 w_ai (by decide) (show _ = 10 from rfl) (by decide) (by decide) (by decide) ?_
  refine a_pF1 fH_init_17 q_H_15 rfl (Or.inr ⟨_, rfl⟩) (up_n (by omega) up_s) ?_
  refine a_al0 fH_init_20 ?_
  refine a_new fH_init_21 n_H_18 (by decide) (by decide) ?_
  refine a_dup fH_init_24 rfl ?_
  refine a_I0D fH_init_25 k_H_20 m_S_init ⟨by decide, by decide⟩ (cc := 1) (cs := 10) ⟨rfl, rfl⟩ (by decide) (by decide) (Nat.le_of_ble_eq_true rfl) (c_Sinit (n := n + 3) up_s) (fun k1 h1 p1 => ?_)
  obtain ⟨rfl, s1, s2, s3⟩ := p1
  refine a_pF2 fH_init_28 q_H_21 rfl (Or.inl ⟨_, rfl⟩) ((s3 _ (by omega)).trans (up_n (by omega) up_s)) ?_
  refine a_al0 fH_init_31 ?_
  refine a_new fH_init_32 n_H_25 (by decide) (by decide) ?_
  refine a_dup fH_init_35 rfl ?_
  refine a_I0D fH_init_36 k_H_27 m_B_init ⟨by decide, by decide⟩ (cc := 2) (cs := 12) ⟨rfl, rfl⟩ (by decide) (by decide) (Nat.le_of_ble_eq_true rfl) (c_Binit (n := n + 5) up_s) (fun k1 h2 p2 => ?_)
  obtain ⟨rfl, t1, t2, t3, t4⟩ := p2
  refine a_pF3 fH_init_39 q_H_28 rfl (Or.inl ⟨_, rfl⟩) ((t4 _ (by omega)).trans (up_n (by omega) up_s)) ?_
  refine a_al0 fH_init_42 ?_
  refine a_new fH_init_43 n_H_32 (by decide) (by decide) ?_
  refine a_dup fH_init_46 rfl ?_
  refine a_I0D fH_init_47 k_H_34 m_C_init ⟨by decide, by decide⟩ (cc := 6) (cs := 36) ⟨rfl, rfl⟩ (by decide) (by decide) (Nat.le_of_ble_eq_true rfl) (c_Cinit (n := n + 8) up_s) (fun k1 h3 p3 => ?_)
  obtain ⟨rfl, u1, u2, u3⟩ := p3
  refine a_pF4 fH_init_50 q_H_35 rfl (Or.inl ⟨_, rfl⟩) ((u3 _ (by omega)).trans (up_n (by omega) up_s)) ?_
  refine a_al0 fH_init_53 ?_
  refine a_new fH_init_54 n_H_39 (by decide) (by decide) ?_
  refine a_dup fH_init_57 rfl ?_
  refine a_I0D fH_init_58 k_H_41 m_P_init ⟨by decide, by decide⟩ (cc := 1) (cs := 104) ⟨rfl, rfl⟩ (by decide) (by decide) (Nat.le_of_ble_eq_true rfl) (c_Pinit (n := n + 15) up_s) (fun k1 h4 p4 => ?_)
  obtain ⟨rfl, v1, v2, v3⟩ := p4
  refine a_pF5 fH_init_61 q_H_42 rfl (Or.inl ⟨_, rfl⟩) ((v3 _ (by omega)).trans (up_n (by omega) up_s)) ?_
  have w12 : h4 (n + 12) = nA 10 zF := by
    repeat (first | exact up_s | exact s1 | exact s2 | exact t1 | exact t2 | exact t3 | exact u1 | exact u2.1 | exact u2.2.1 | exact u2.2.2.1 | exact u2.2.2.2.1 | exact u2.2.2.2.2.1 | exact u2.2.2.2.2.2 | exact v1 | exact v2 | refine up_n (by omega) ?_ | refine (v3 _ (by omega)).trans ?_ | refine (u3 _ (by omega)).trans ?_ | refine (t4 _ (by omega)).trans ?_ | refine (s3 _ (by omega)).trans ?_)
  have e0 : sl N0 0 10 = zF := by funext i; unfold sl N0; split <;> simp_all <;> omega
  have e2 : sl N0 20 10 = zF := by funext i; unfold sl N0; split <;> simp_all <;> omega
  have e1 : sl N0 10 10 = (fun j => if j < 10 then 20 else zF j) := by funext i; unfold sl N0; split <;> simp_all <;> omega
  refine a_al0 fH_init_64 ?_
  refine a_gf fH_init_65 l_H_15 up_s rfl ?_
  refine a_ic fH_init_68 ?_
  refine a_S2N fH_init_70 k_H_46 m_A_fill ⟨by decide, by decide⟩ ⟨rfl, rfl⟩ (Nat.le_of_ble_eq_true rfl) (c_fill (f := zF) (V := 20) (by decide) (up_n (by omega) w12)) ?_
  refine a_rv fH_init_73 rfl ⟨rfl, rfl, ⟨zF, zF, zF, zF, zF, zF, zF, zF, zF, ⟨⟨?_, ?_, ?_, ?_, ?_⟩, ⟨?_, ?_, ?_⟩, ⟨?_, ?_, ?_, ?_, ?_, ?_, ?_⟩, ?_, ?_⟩, ?_⟩, ?_⟩
  · repeat (first | exact up_s | exact s1 | exact s2 | exact t1 | exact t2 | exact t3 | exact u1 | exact u2.1 | exact u2.2.1 | exact u2.2.2.1 | exact u2.2.2.2.1 | exact u2.2.2.2.2.1 | exact u2.2.2.2.2.2 | exact v1 | exact v2 | refine up_n (by omega) ?_ | refine (v3 _ (by omega)).trans ?_ | refine (u3 _ (by omega)).trans ?_ | refine (t4 _ (by omega)).trans ?_ | refine (s3 _ (by omega)).trans ?_)
  · rw [e0]; repeat (first | exact up_s | exact s1 | exact s2 | exact t1 | exact t2 | exact t3 | exact u1 | exact u2.1 | exact u2.2.1 | exact u2.2.2.1 | exact u2.2.2.2.1 | exact u2.2.2.2.2.1 | exact u2.2.2.2.2.2 | exact v1 | exact v2 | refine up_n (by omega) ?_ | refine (v3 _ (by omega)).trans ?_ | refine (u3 _ (by omega)).trans ?_ | refine (t4 _ (by omega)).trans ?_ | refine (s3 _ (by omega)).trans ?_)
  · rw [e1]; repeat (first | exact up_s | exact s1 | exact s2 | exact t1 | exact t2 | exact t3 | exact u1 | exact u2.1 | exact u2.2.1 | exact u2.2.2.1 | exact u2.2.2.2.1 | exact u2.2.2.2.2.1 | exact u2.2.2.2.2.2 | exact v1 | exact v2 | refine up_n (by omega) ?_ | refine (v3 _ (by omega)).trans ?_ | refine (u3 _ (by omega)).trans ?_ | refine (t4 _ (by omega)).trans ?_ | refine (s3 _ (by omega)).trans ?_)
  · repeat (first | exact up_s | exact s1 | exact s2 | exact t1 | exact t2 | exact t3 | exact u1 | exact u2.1 | exact u2.2.1 | exact u2.2.2.1 | exact u2.2.2.2.1 | exact u2.2.2.2.2.1 | exact u2.2.2.2.2.2 | exact v1 | exact v2 | refine up_n (by omega) ?_ | refine (v3 _ (by omega)).trans ?_ | refine (u3 _ (by omega)).trans ?_ | refine (t4 _ (by omega)).trans ?_ | refine (s3 _ (by omega)).trans ?_)
  · rw [e2]; repeat (first | exact up_s | exact s1 | exact s2 | exact t1 | exact t2 | exact t3 | exact u1 | exact u2.1 | exact u2.2.1 | exact u2.2.2.1 | exact u2.2.2.2.1 | exact u2.2.2.2.2.1 | exact u2.2.2.2.2.2 | exact v1 | exact v2 | refine up_n (by omega) ?_ | refine (v3 _ (by omega)).trans ?_ | refine (u3 _ (by omega)).trans ?_ | refine (t4 _ (by omega)).trans ?_ | refine (s3 _ (by omega)).trans ?_)
  · repeat (first | exact up_s | exact s1 | exact s2 | exact t1 | exact t2 | exact t3 | exact u1 | exact u2.1 | exact u2.2.1 | exact u2.2.2.1 | exact u2.2.2.2.1 | exact u2.2.2.2.2.1 | exact u2.2.2.2.2.2 | exact v1 | exact v2 | refine up_n (by omega) ?_ | refine (v3 _ (by omega)).trans ?_ | refine (u3 _ (by omega)).trans ?_ | refine (t4 _ (by omega)).trans ?_ | refine (s3 _ (by omega)).trans ?_)
  · repeat (first | exact up_s | exact s1 | exact s2 | exact t1 | exact t2 | exact t3 | exact u1 | exact u2.1 | exact u2.2.1 | exact u2.2.2.1 | exact u2.2.2.2.1 | exact u2.2.2.2.2.1 | exact u2.2.2.2.2.2 | exact v1 | exact v2 | refine up_n (by omega) ?_ | refine (v3 _ (by omega)).trans ?_ | refine (u3 _ (by omega)).trans ?_ | refine (t4 _ (by omega)).trans ?_ | refine (s3 _ (by omega)).trans ?_)
  · repeat (first | exact up_s | exact s1 | exact s2 | exact t1 | exact t2 | exact t3 | exact u1 | exact u2.1 | exact u2.2.1 | exact u2.2.2.1 | exact u2.2.2.2.1 | exact u2.2.2.2.2.1 | exact u2.2.2.2.2.2 | exact v1 | exact v2 | refine up_n (by omega) ?_ | refine (v3 _ (by omega)).trans ?_ | refine (u3 _ (by omega)).trans ?_ | refine (t4 _ (by omega)).trans ?_ | refine (s3 _ (by omega)).trans ?_)
  · repeat (first | exact up_s | exact s1 | exact s2 | exact t1 | exact t2 | exact t3 | exact u1 | exact u2.1 | exact u2.2.1 | exact u2.2.2.1 | exact u2.2.2.2.1 | exact u2.2.2.2.2.1 | exact u2.2.2.2.2.2 | exact v1 | exact v2 | refine up_n (by omega) ?_ | refine (v3 _ (by omega)).trans ?_ | refine (u3 _ (by omega)).trans ?_ | refine (t4 _ (by omega)).trans ?_ | refine (s3 _ (by omega)).trans ?_)
  · repeat (first | exact up_s | exact s1 | exact s2 | exact t1 | exact t2 | exact t3 | exact u1 | exact u2.1 | exact u2.2.1 | exact u2.2.2.1 | exact u2.2.2.2.1 | exact u2.2.2.2.2.1 | exact u2.2.2.2.2.2 | exact v1 | exact v2 | refine up_n (by omega) ?_ | refine (v3 _ (by omega)).trans ?_ | refine (u3 _ (by omega)).trans ?_ | refine (t4 _ (by omega)).trans ?_ | refine (s3 _ (by omega)).trans ?_)
  · repeat (first | exact up_s | exact s1 | exact s2 | exact t1 | exact t2 | exact t3 | exact u1 | exact u2.1 | exact u2.2.1 | exact u2.2.2.1 | exact u2.2.2.2.1 | exact u2.2.2.2.2.1 | exact u2.2.2.2.2.2 | exact v1 | exact v2 | refine up_n (by omega) ?_ | refine (v3 _ (by omega)).trans ?_ | refine (u3 _ (by omega)).trans ?_ | refine (t4 _ (by omega)).trans ?_ | refine (s3 _ (by omega)).trans ?_)
  · repeat (first | exact up_s | exact s1 | exact s2 | exact t1 | exact t2 | exact t3 | exact u1 | exact u2.1 | exact u2.2.1 | exact u2.2.2.1 | exact u2.2.2.2.1 | exact u2.2.2.2.2.1 | exact u2.2.2.2.2.2 | exact v1 | exact v2 | refine up_n (by omega) ?_ | refine (v3 _ (by omega)).trans ?_ | refine (u3 _ (by omega)).trans ?_ | refine (t4 _ (by omega)).trans ?_ | refine (s3 _ (by omega)).trans ?_)
  · repeat (first | exact up_s | exact s1 | exact s2 | exact t1 | exact t2 | exact t3 | exact u1 | exact u2.1 | exact u2.2.1 | exact u2.2.2.1 | exact u2.2.2.2.1 | exact u2.2.2.2.2.1 | exact u2.2.2.2.2.2 | exact v1 | exact v2 | refine up_n (by omega) ?_ | refine (v3 _ (by omega)).trans ?_ | refine (u3 _ (by omega)).trans ?_ | refine (t4 _ (by omega)).trans ?_ | refine (s3 _ (by omega)).trans ?_)
  · repeat (first | exact up_s | exact s1 | exact s2 | exact t1 | exact t2 | exact t3 | exact u1 | exact u2.1 | exact u2.2.1 | exact u2.2.2.1 | exact u2.2.2.2.1 | exact u2.2.2.2.2.1 | exact u2.2.2.2.2.2 | exact v1 | exact v2 | refine up_n (by omega) ?_ | refine (v3 _ (by omega)).trans ?_ | refine (u3 _ (by omega)).trans ?_ | refine (t4 _ (by omega)).trans ?_ | refine (s3 _ (by omega)).trans ?_)
  · repeat (first | exact up_s | exact s1 | exact s2 | exact t1 | exact t2 | exact t3 | exact u1 | exact u2.1 | exact u2.2.1 | exact u2.2.2.1 | exact u2.2.2.2.1 | exact u2.2.2.2.2.1 | exact u2.2.2.2.2.2 | exact v1 | exact v2 | refine up_n (by omega) ?_ | refine (v3 _ (by omega)).trans ?_ | refine (u3 _ (by omega)).trans ?_ | refine (t4 _ (by omega)).trans ?_ | refine (s3 _ (by omega)).trans ?_)
  · repeat (first | exact up_s | exact s1 | exact s2 | exact t1 | exact t2 | exact t3 | exact u1 | exact u2.1 | exact u2.2.1 | exact u2.2.2.1 | exact u2.2.2.2.1 | exact u2.2.2.2.2.1 | exact u2.2.2.2.2.2 | exact v1 | exact v2 | refine up_n (by omega) ?_ | refine (v3 _ (by omega)).trans ?_ | refine (u3 _ (by omega)).trans ?_ | refine (t4 _ (by omega)).trans ?_ | refine (s3 _ (by omega)).trans ?_)
  · repeat (first | exact up_s | exact s1 | exact s2 | exact t1 | exact t2 | exact t3 | exact u1 | exact u2.1 | exact u2.2.1 | exact u2.2.2.1 | exact u2.2.2.2.1 | exact u2.2.2.2.2.1 | exact u2.2.2.2.2.2 | exact v1 | exact v2 | refine up_n (by omega) ?_ | refine (v3 _ (by omega)).trans ?_ | refine (u3 _ (by omega)).trans ?_ | refine (t4 _ (by omega)).trans ?_ | refine (s3 _ (by omega)).trans ?_)
  · exact ⟨fun i hi => absurd hi (Nat.not_lt_zero _), fun i hi => absurd hi (Nat.not_lt_zero _), fun i hi => absurd hi (Nat.not_lt_zero _), fun i hi => absurd hi (Nat.not_lt_zero _)⟩
  · intro a ha
    repeat (first | exact up_s | exact s1 | exact s2 | exact t1 | exact t2 | exact t3 | exact u1 | exact u2.1 | exact u2.2.1 | exact u2.2.2.1 | exact u2.2.2.2.1 | exact u2.2.2.2.2.1 | exact u2.2.2.2.2.2 | exact v1 | exact v2 | refine up_n (by omega) ?_ | refine (v3 _ (by omega)).trans ?_ | refine (u3 _ (by omega)).trans ?_ | refine (t4 _ (by omega)).trans ?_ | refine (s3 _ (by omega)).trans ?_)
    rfl
end HH
