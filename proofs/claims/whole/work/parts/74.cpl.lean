/-! the class and the reference side by side -/
theorem MS.ofM {h g : hT} {N : Nat → Nat} {I : Nat → Option (Nat → Nat)} {tn : Nat} {bt : Nat → Nat} {ab be rb rn rf : Nat} (X : MS h N I tn bt ab be rb rn rf) (F : fM h g) : MS g N I tn bt ab be rb rn rf := by
  obtain ⟨⟨nx, pl, tk, fa, ⟨⟨th, mn, m0⟩, f0, m8⟩, w, kw, m7⟩, ⟨a1, a2⟩, ⟨D, b1, b2⟩, ⟨Kp, ik, c1, c2, c3⟩, d1, Rf, e1, e2⟩ := X
  exact ⟨⟨nx, pl, tk, fa, ⟨⟨th, mn, (F 63 (by decide) (by decide)).trans m0⟩, f0, (F 71 (by decide) (by decide)).trans m8⟩, w, kw, (F 70 (by decide) (by decide)).trans m7⟩, ⟨(F 64 (by decide) (by decide)).trans a1, a2⟩, ⟨D, (F 65 (by decide) (by decide)).trans b1, b2⟩, ⟨Kp, ik, (F 66 (by decide) (by decide)).trans c1, (F 67 (by decide) (by decide)).trans c2, c3⟩, (F 68 (by decide) (by decide)).trans d1, Rf, (F 69 (by decide) (by decide)).trans e1, e2⟩
theorem MS.c63 {h : hT} {N : Nat → Nat} {I : Nat → Option (Nat → Nat)} {tn : Nat} {bt : Nat → Nat} {ab be rb rn rf : Nat} (X : MS h N I tn bt ab be rb rn rf) : ∃ fs, h 63 = .inr (10, fs) := by
  obtain ⟨⟨nx, pl, tk, fa, ⟨⟨th, mn, m0⟩, -⟩, -⟩, -⟩ := X
  exact ⟨_, m0⟩
theorem rdA_ok {tn : Nat} {bt : Nat → Nat} : ∀ (j it : Nat) {D : Nat → Nat} {a : Nat} {x : (Nat → Nat) × Nat}, okN D → a ≤ tn → rdA tn bt j it D a = .inl x → okN x.1 := by
  intro j
  induction j with
  | zero => intro it D a x K ha e; cases e
  | succ j ih =>
    intro it D a x K ha e
    simp only [rdA] at e
    split at e
    · cases e; exact K
    · cases c : rdI tn bt D (decide (it = 0)) a with
      | inr f => rw [c] at e; cases e
      | inl y =>
        rw [c] at e
        have q := rdI_ok K ha c
        exact ih (it + 1) q.1 q.2.2 e
theorem rdO_ok {N : Nat → Nat} {tn : Nat} {bt : Nat → Nat} (K : okN N) : okN (rdO N (rdA tn bt 151 0 N0 0)).1 := by
  cases c : rdA tn bt 151 0 N0 0 with
  | inr f => exact K
  | inl x => exact rdA_ok 151 0 okN_N0 (Nat.zero_le _) c
/-- both hold the same -/
def SS (h : hT) (n : Nat) : Prop := ∃ N I tn bt ab be rb rn rf, XS h n N I tn bt ab be rb rn rf ∧ MS h N I tn bt ab be rb rn rf ∧ okN N ∧ (∀ i R, I i = some R → okN R) ∧ okX tn bt
/-- called so, both answer the same, and hold the same again -/
def PR (E : eT) (zc zm : mI) (As : List Value) (h : hT) (n : Nat) : Prop :=
  (∃ fs, h 11 = .inr (0, fs)) ∧ ∃ P : Int32 → Nat → hT → Prop, fE zc E (.ref 11 :: As) n h (qI P) ∧ ∀ r k g, P r k g → (∃ fs, g 63 = .inr (10, fs)) ∧ ∃ Q : Int32 → Nat → hT → Prop, fE zm E (.ref 63 :: As) k g (qI Q) ∧ ∀ r2 k2 g2, Q r2 k2 g2 → r = r2 ∧ SS g2 k2
abbrev qL (P : Int64 → Nat → hT → Prop) : Option Value → Nat → hT → Prop := fun r k h => ∃ v : Int64, r = some (.long v) ∧ P v k h
def PJ (E : eT) (zc zm : mI) (As : List Value) (h : hT) (n : Nat) : Prop :=
  (∃ fs, h 11 = .inr (0, fs)) ∧ ∃ P : Option Value → Nat → hT → Prop, fE zc E (.ref 11 :: As) n h P ∧ ∀ r k g, P r k g → ∃ v : Int64, r = some (.long v) ∧ (∃ fs, g 63 = .inr (10, fs)) ∧ ∃ Q : Option Value → Nat → hT → Prop, fE zm E (.ref 63 :: As) k g Q ∧ ∀ r2 k2 g2, Q r2 k2 g2 → r2 = some (.long v) ∧ SS g2 k2
section SP
variable {E : eT} {zc zm : mI} {As : List Value} {n n2 : Nat} {h : hT} {N N2 : Nat → Nat} {I I2 : Nat → Option (Nat → Nat)} {tn tn2 : Nat} {bt bt2 : Nat → Nat} {ab be rb rn rf ab2 be2 rb2 rn2 rf2 : Nat}
theorem pr {Ac Bm : Int32 → Prop} (X : XS h n N I tn bt ab be rb rn rf) (Y : MS h N I tn bt ab be rb rn rf) (hx : fE zc E (.ref 11 :: As) n h (qI (fun r k g => Ac r ∧ k = n2 ∧ fM h g ∧ XS g n2 N2 I2 tn2 bt2 ab2 be2 rb2 rn2 rf2))) (hm : ∀ g, MS g N I tn bt ab be rb rn rf → fE zm E (.ref 63 :: As) n2 g (qI (fun r k g2 => Bm r ∧ k = n2 ∧ fC g g2 ∧ MS g2 N2 I2 tn2 bt2 ab2 be2 rb2 rn2 rf2))) (hAB : ∀ a b, Ac a → Bm b → a = b) (K2 : okN N2) (KI2 : ∀ i R, I2 i = some R → okN R) (KX2 : okX tn2 bt2) : PR E zc zm As h n := by
  refine ⟨⟨_, X.1.1⟩, _, hx, fun r k g p => ?_⟩
  obtain ⟨p1, p2, p3, p4⟩ := p
  subst p2
  have Y2 := Y.ofM p3
  refine ⟨Y2.c63, _, hm g Y2, fun r2 k2 g2 q => ?_⟩
  obtain ⟨q1, q2, q3, q4⟩ := q
  subst q2
  exact ⟨hAB _ _ p1 q1, N2, I2, tn2, bt2, ab2, be2, rb2, rn2, rf2, p4.ofm q3, q4, K2, KI2, KX2⟩
theorem prJ {v : Int64} (X : XS h n N I tn bt ab be rb rn rf) (Y : MS h N I tn bt ab be rb rn rf) (hx : fE zc E (.ref 11 :: As) n h (fun r k g => r = some (.long v) ∧ k = n2 ∧ fM h g ∧ XS g n2 N2 I2 tn2 bt2 ab2 be2 rb2 rn2 rf2)) (hm : ∀ g, MS g N I tn bt ab be rb rn rf → fE zm E (.ref 63 :: As) n2 g (fun r k g2 => r = some (.long v) ∧ k = n2 ∧ fC g g2 ∧ MS g2 N2 I2 tn2 bt2 ab2 be2 rb2 rn2 rf2)) (K2 : okN N2) (KI2 : ∀ i R, I2 i = some R → okN R) (KX2 : okX tn2 bt2) : PJ E zc zm As h n := by
  refine ⟨⟨_, X.1.1⟩, _, hx, fun r k g p => ?_⟩
  obtain ⟨p1, p2, p3, p4⟩ := p
  subst p2
  have Y2 := Y.ofM p3
  refine ⟨v, p1, Y2.c63, _, hm g Y2, fun r2 k2 g2 q => ?_⟩
  obtain ⟨q1, q2, q3, q4⟩ := q
  subst q2
  exact ⟨q1, N2, I2, tn2, bt2, ab2, be2, rb2, rn2, rf2, p4.ofm q3, q4, K2, KI2, KX2⟩
theorem ee {V : Int32} : ∀ a b : Int32, a = V → b = V → a = b := fun _ _ h1 h2 => h1.trans h2.symm
theorem rg {v : Int32} {m : Nat} (h : 0 ≤ v ∧ v ≤ nI m) (hm : m < 2 ^ 31) : ∃ V, V ≤ m ∧ v = nI V := by
  obtain ⟨j, hj, rfl⟩ := nI_of (Int32.not_lt.mpr h.1)
  exact ⟨j, (nI_leI hj hm).mp h.2, rfl⟩
theorem rg1 {v : Int32} {m : Nat} (h : 1 ≤ v ∧ v ≤ nI m) (hm : m < 2 ^ 31) : ∃ V, (1 ≤ V ∧ V ≤ m) ∧ v = nI V := by
  obtain ⟨j, hj, rfl⟩ := nI_of (x := v) (Int32.not_lt.mpr (Int32.le_trans (by decide) h.1))
  exact ⟨j, ⟨(nI_leI (a := 1) (by decide) hj).mp h.1, (nI_leI hj hm).mp h.2⟩, rfl⟩
theorem rgb {v : Int32} {m : Nat} (h : 0 ≤ v ∧ v < nI m) (hm : m ≤ 6) : ∃ V, V < m ∧ v = nI V := by
  obtain ⟨j, hj, rfl⟩ := nI_of (Int32.not_lt.mpr h.1)
  exact ⟨j, (nI_ltI hj (by omega)).mp h.2, rfl⟩
theorem KIup {I9 : Nat} (K : okN N) (KI : ∀ i R, I i = some R → okN R) : ∀ i R, va_up I I9 (some N) i = some R → okN R := by
  intro i R hR
  by_cases hi : i = I9
  · subst hi
    have e : va_up I i (some N) i = some N := by simp [va_up]
    rw [e] at hR
    cases hR
    exact K
  · rw [vn hi] at hR
    exact KI i R hR

theorem s_house (S : SS h n) : PR E M_F_house M_M_house [] h n := by
  obtain ⟨N, I, tn, bt, ab, be, rb, rn, rf, X, Y, K, KI, KX⟩ := S
  exact pr X Y (x_house X K) (fun g Y => m_house Y K) ee okN_N0 KI KX
theorem s_figure {f k s : Int32} (S : SS h n) : PR E M_F_figure M_M_figure [.int f, .int k, .int s] h n := by
  obtain ⟨N, I, tn, bt, ab, be, rb, rn, rf, X, Y, K, KI, KX⟩ := S
  by_cases hb : (0 ≤ f ∧ f ≤ 9) ∧ (0 ≤ k ∧ k ≤ 5) ∧ (1 ≤ s ∧ s ≤ 60)
  · obtain ⟨F9, r0, rfl⟩ := rg (m := 9) hb.1 (by decide)
    obtain ⟨K9, r1, rfl⟩ := rg (m := 5) hb.2.1 (by decide)
    obtain ⟨S9, r2, rfl⟩ := rg1 (m := 60) hb.2.2 (by decide)
    exact pr X Y (x_figure X K (by omega) r1 r2) (fun g Y => m_figure Y K (by omega) r1 r2) ee (okN_tf K (by omega) r1 r2) KI KX
  · exact pr X Y (x_figure_bad X hb) (fun g Y => m_figure_bad Y hb) ee K KI KX
theorem s_bill {v w : Int32} (S : SS h n) : PR E M_F_bill M_M_bill [.int v, .int w] h n := by
  obtain ⟨N, I, tn, bt, ab, be, rb, rn, rf, X, Y, K, KI, KX⟩ := S
  by_cases hb : (0 ≤ v ∧ v ≤ 99) ∧ (0 ≤ w ∧ w ≤ 99)
  · obtain ⟨V9, r0, rfl⟩ := rg (m := 99) hb.1 (by decide)
    obtain ⟨W9, r1, rfl⟩ := rg (m := 99) hb.2 (by decide)
    by_cases h7 : N 31 = 6
    · exact pr X Y (x_bill_full X K (by omega) (by omega) h7) (fun g Y => m_bill_full Y K (by omega) (by omega) h7) ee K KI KX
    · have h6 : N 31 < 6 := by have := K.2.2.1.1; omega
      exact pr X Y (x_bill X K (by omega) (by omega) h6) (fun g Y => m_bill Y K (by omega) (by omega) h6) ee (okN_tb K h6 (by omega) (by omega)) KI KX
  · exact pr X Y (x_bill_bad X hb) (fun g Y => m_bill_bad Y hb) ee K KI KX
theorem s_type {c : Int32} (S : SS h n) : PR E M_F_type M_M_type [.int c] h n := by
  obtain ⟨N, I, tn, bt, ab, be, rb, rn, rf, X, Y, K, KI, KX⟩ := S
  by_cases hb : (0 ≤ c ∧ c ≤ 127)
  · obtain ⟨C9, r0, rfl⟩ := rg (m := 127) hb (by decide)
    by_cases h8 : tn = 150
    · exact pr X Y (x_type_full X K r0 h8) (fun g Y => m_type_full Y K r0 h8) ee K KI KX
    · have h7 : tn < 150 := by have := KX.1; omega
      exact pr X Y (x_type X K r0 h7) (fun g Y => m_type Y K r0 h7) ee K KI (⟨by omega, fun i hi => by by_cases e : i = tn; (subst e; simp only [va_up, if_true]; exact r0); (rw [vn e]; exact KX.2 i (by omega))⟩)
  · exact pr X Y (x_type_bad X hb) (fun g Y => m_type_bad Y hb) ee K KI KX
theorem s_clear (S : SS h n) : PR E M_F_clear M_M_clear [] h n := by
  obtain ⟨N, I, tn, bt, ab, be, rb, rn, rf, X, Y, K, KI, KX⟩ := S
  exact pr X Y (x_clear X K) (fun g Y => m_clear Y K) ee K KI (⟨by omega, fun i hi => absurd hi (by omega)⟩)
theorem s_read (S : SS h n) : PR E M_F_read M_M_read [] h n := by
  obtain ⟨N, I, tn, bt, ab, be, rb, rn, rf, X, Y, K, KI, KX⟩ := S
  exact pr X Y (x_read X KX) (fun g Y => m_read Y KX) ee (rdO_ok K) KI KX
theorem s_write {v x : Int32} (S : SS h n) : PR E M_F_write M_M_write [.int v, .int x] h n := by
  obtain ⟨N, I, tn, bt, ab, be, rb, rn, rf, X, Y, K, KI, KX⟩ := S
  by_cases hb : (0 ≤ v ∧ v ≤ 99) ∧ (0 ≤ x ∧ x ≤ 99)
  · obtain ⟨V9, r0, rfl⟩ := rg (m := 99) hb.1 (by decide)
    obtain ⟨X9, r1, rfl⟩ := rg (m := 99) hb.2 (by decide)
    by_cases h7 : canR N V9 X9
    · have hz : N 84 ≤ 8 := K.2.2.1.2.2.2
      exact pr X Y (x_write X K (by omega) (by omega) h7) (fun g Y => m_write Y K (by omega) (by omega) h7) ee (okN_wd (okN_nt K) (by rw [sl_nt hz (by decide), sl_nt hz (by decide), sl_nt hz (by decide), nt_lo (by decide) hz]; exact h7)) KI KX
    · exact pr X Y (x_write_no X K (by omega) (by omega) h7) (fun g Y => m_write_no Y K (by omega) (by omega) h7) ee K KI KX
  · exact pr X Y (x_write_bad X hb) (fun g Y => m_write_bad Y hb) ee K KI KX
theorem s_pay {b : Int32} (S : SS h n) : PR E M_F_pay M_M_pay [.int b] h n := by
  obtain ⟨N, I, tn, bt, ab, be, rb, rn, rf, X, Y, K, KI, KX⟩ := S
  by_cases hb : (0 ≤ b ∧ b < nI (N 31))
  · obtain ⟨B9, r0, rfl⟩ := rgb hb K.2.2.1.1
    by_cases h6 : N 44 / 2 ^ B9 % 2 = 1
    · exact pr X Y (x_pay_no X K r0 (Or.inl h6)) (fun g Y => m_pay_no Y K r0 (Or.inl h6)) ee K KI KX
    · by_cases h7 : canR N (N (32 + B9)) (N (32 + B9))
      · exact pr X Y (x_pay X K r0 h6 h7) (fun g Y => m_pay Y K r0 h6 h7) ee (okN_py K r0 h7) KI KX
      · exact pr X Y (x_pay_no X K r0 (Or.inr h7)) (fun g Y => m_pay_no Y K r0 (Or.inr h7)) ee K KI KX
  · exact pr X Y (x_pay_bad X K hb) (fun g Y => m_pay_bad Y K hb) ee K KI KX
theorem s_night {m : Int32} (S : SS h n) : PR E M_F_night M_M_night [.int m] h n := by
  obtain ⟨N, I, tn, bt, ab, be, rb, rn, rf, X, Y, K, KI, KX⟩ := S
  by_cases hb : (1 ≤ m ∧ m ≤ 60)
  · obtain ⟨M9, r0, rfl⟩ := rg1 (m := 60) hb (by decide)
    exact pr X Y (x_night X K r0) (fun g Y => m_night Y K r0) ee (okN_ngt _ (okN_nt K)) KI KX
  · exact pr X Y (x_night_bad X hb) (fun g Y => m_night_bad Y hb) ee K KI KX
theorem s_undo (S : SS h n) : PR E M_F_undo M_M_undo [] h n := by
  obtain ⟨N, I, tn, bt, ab, be, rb, rn, rf, X, Y, K, KI, KX⟩ := S
  by_cases h9 : N 84 = 0
  · exact pr X Y (x_undo_no X K h9) (fun g Y => m_undo_no Y K h9) ee K KI KX
  · exact pr X Y (x_undo X K (by omega)) (fun g Y => m_undo Y K (by omega)) ee (okN_un K (by omega)) KI KX
theorem s_of {f w : Int32} (S : SS h n) : PR E M_F_of M_M_of [.int f, .int w] h n := by
  obtain ⟨N, I, tn, bt, ab, be, rb, rn, rf, X, Y, K, KI, KX⟩ := S
  by_cases hb : (0 ≤ f ∧ f ≤ 9) ∧ (0 ≤ w ∧ w ≤ 4)
  · obtain ⟨F9, r0, rfl⟩ := rg (m := 9) hb.1 (by decide)
    obtain ⟨W9, r1, rfl⟩ := rg (m := 4) hb.2 (by decide)
    obtain rfl | rfl | rfl | rfl | rfl : W9 = 0 ∨ W9 = 1 ∨ W9 = 2 ∨ W9 = 3 ∨ W9 = 4 := by omega
    · exact pr X Y (x_of0 X K (by omega)) (fun g Y => m_of0 Y K (by omega)) ee K KI KX
    · exact pr X Y (x_of1 X K (by omega)) (fun g Y => m_of1 Y K (by omega)) ee K KI KX
    · exact pr X Y (x_of2 X K (by omega)) (fun g Y => m_of2 Y K (by omega)) ee K KI KX
    · exact pr X Y (x_of3 X K (by omega)) (fun g Y => m_of3 Y K (by omega)) ee K KI KX
    · exact pr X Y (x_of4 X K (by omega)) (fun g Y => m_of4 Y K (by omega)) ee K KI KX
  · exact pr X Y (x_of_bad X hb) (fun g Y => m_of_bad Y hb) ee K KI KX
theorem s_about {b w : Int32} (S : SS h n) : PR E M_F_about M_M_about [.int b, .int w] h n := by
  obtain ⟨N, I, tn, bt, ab, be, rb, rn, rf, X, Y, K, KI, KX⟩ := S
  by_cases hb : (0 ≤ b ∧ b < nI (N 31)) ∧ (0 ≤ w ∧ w ≤ 2)
  · obtain ⟨B9, r0, rfl⟩ := rgb hb.1 K.2.2.1.1
    obtain ⟨W9, r1, rfl⟩ := rg (m := 2) hb.2 (by decide)
    obtain rfl | rfl | rfl : W9 = 0 ∨ W9 = 1 ∨ W9 = 2 := by omega
    · exact pr X Y (x_about0 X K r0) (fun g Y => m_about0 Y K r0) ee K KI KX
    · exact pr X Y (x_about1 X K r0) (fun g Y => m_about1 Y K r0) ee K KI KX
    · exact pr X Y (x_about2 X K r0) (fun g Y => m_about2 Y K r0) ee K KI KX
  · exact pr X Y (x_about_bad X K hb) (fun g Y => m_about_bad Y K hb) ee K KI KX
theorem s_wears {f k : Int32} (S : SS h n) : PR E M_F_wears M_M_wears [.int f, .int k] h n := by
  obtain ⟨N, I, tn, bt, ab, be, rb, rn, rf, X, Y, K, KI, KX⟩ := S
  by_cases hb : (0 ≤ f ∧ f ≤ 9) ∧ (0 ≤ k ∧ k ≤ 3)
  · obtain ⟨F9, r0, rfl⟩ := rg (m := 9) hb.1 (by decide)
    obtain ⟨K9, r1, rfl⟩ := rg (m := 3) hb.2 (by decide)
    exact pr X Y (x_wears X K (by omega) r1) (fun g Y => m_wears Y K (by omega) r1) ee K KI KX
  · exact pr X Y (x_wears_bad X hb) (fun g Y => m_wears_bad Y hb) ee K KI KX
theorem s_cost {v x : Int32} (S : SS h n) : PR E M_F_cost M_M_cost [.int v, .int x] h n := by
  obtain ⟨N, I, tn, bt, ab, be, rb, rn, rf, X, Y, K, KI, KX⟩ := S
  by_cases hb : (0 ≤ v ∧ v ≤ 99) ∧ (0 ≤ x ∧ x ≤ 99)
  · obtain ⟨V9, r0, rfl⟩ := rg (m := 99) hb.1 (by decide)
    obtain ⟨X9, r1, rfl⟩ := rg (m := 99) hb.2 (by decide)
    exact pr X Y (x_cost X K (by omega) (by omega)) (fun g Y => m_cost Y K (by omega) (by omega)) ee K KI KX
  · exact pr X Y (x_cost_bad X hb) (fun g Y => m_cost_bad Y hb) ee K KI KX
theorem s_can {v x : Int32} (S : SS h n) : PR E M_F_can M_M_can [.int v, .int x] h n := by
  obtain ⟨N, I, tn, bt, ab, be, rb, rn, rf, X, Y, K, KI, KX⟩ := S
  by_cases hb : (0 ≤ v ∧ v ≤ 99) ∧ (0 ≤ x ∧ x ≤ 99)
  · obtain ⟨V9, r0, rfl⟩ := rg (m := 99) hb.1 (by decide)
    obtain ⟨X9, r1, rfl⟩ := rg (m := 99) hb.2 (by decide)
    exact pr X Y (x_can X K (by omega) (by omega)) (fun g Y => m_can Y K (by omega) (by omega)) ee K KI KX
  · exact pr X Y (x_can_bad X hb) (fun g Y => m_can_bad Y hb) ee K KI KX
theorem s_best {v : Int32} (S : SS h n) : PR E M_F_best M_M_best [.int v] h n := by
  obtain ⟨N, I, tn, bt, ab, be, rb, rn, rf, X, Y, K, KI, KX⟩ := S
  by_cases hb : (0 ≤ v ∧ v ≤ 99)
  · obtain ⟨V9, r0, rfl⟩ := rg (m := 99) hb (by decide)
    exact pr X Y (x_best X K (by omega)) (fun g Y => m_best Y K (by omega)) ee K KI KX
  · exact pr X Y (x_best_bad X hb) (fun g Y => m_best_bad Y hb) ee K KI KX
theorem s_first (S : SS h n) : PR E M_F_first M_M_first [] h n := by
  obtain ⟨N, I, tn, bt, ab, be, rb, rn, rf, X, Y, K, KI, KX⟩ := S
  exact pr X Y (x_first X K) (fun g Y => m_first Y K) (fun _ _ a b => isFst_u a b) K KI KX
theorem s_counts (S : SS h n) : PR E M_F_counts M_M_counts [] h n := by
  obtain ⟨N, I, tn, bt, ab, be, rb, rn, rf, X, Y, K, KI, KX⟩ := S
  exact pr X Y (x_counts X K) (fun g Y => m_counts Y K) ee K KI KX
theorem s_when {v x : Int32} (S : SS h n) : PR E M_F_when M_M_when [.int v, .int x] h n := by
  obtain ⟨N, I, tn, bt, ab, be, rb, rn, rf, X, Y, K, KI, KX⟩ := S
  by_cases hb : (0 ≤ v ∧ v ≤ 99) ∧ (0 ≤ x ∧ x ≤ 99)
  · obtain ⟨V9, r0, rfl⟩ := rg (m := 99) hb.1 (by decide)
    obtain ⟨X9, r1, rfl⟩ := rg (m := 99) hb.2 (by decide)
    exact pr X Y (x_when X K (by omega) (by omega)) (fun g Y => m_when Y K (by omega) (by omega)) ee K KI KX
  · exact pr X Y (x_when_bad X hb) (fun g Y => m_when_bad Y hb) ee K KI KX
theorem s_most {w : Int32} (S : SS h n) : PR E M_F_most M_M_most [.int w] h n := by
  obtain ⟨N, I, tn, bt, ab, be, rb, rn, rf, X, Y, K, KI, KX⟩ := S
  by_cases hb : (0 ≤ w ∧ w ≤ 1)
  · obtain ⟨W9, r0, rfl⟩ := rg (m := 1) hb (by decide)
    obtain rfl | rfl : W9 = 0 ∨ W9 = 1 := by omega
    · exact pr X Y (x_most0 X K) (fun g Y => m_most0 Y K) ee K KI KX
    · exact pr X Y (x_most1 X K) (fun g Y => m_most1 Y K) ee K KI KX
  · exact pr X Y (x_most_bad X hb) (fun g Y => m_most_bad Y hb) ee K KI KX
theorem s_plan {b : Int32} (S : SS h n) : PR E M_F_plan M_M_plan [.int b] h n := by
  obtain ⟨N, I, tn, bt, ab, be, rb, rn, rf, X, Y, K, KI, KX⟩ := S
  by_cases h1 : b = -1
  · subst h1
    exact pr X Y (x_plan_n X K) (fun g Y => m_plan_n Y K) (fun a b p q => by obtain ⟨c, p⟩ := p; obtain ⟨st, q, e⟩ := q; exact ((plan_eq K.2.2.1.1 p q).1).trans e.symm) K KI KX
  · by_cases hb : 0 ≤ b ∧ b < nI (N 31)
    · obtain ⟨B9, r0, rfl⟩ := rgb hb K.2.2.1.1
      exact pr X Y (x_plan X K r0) (fun g Y => m_plan Y K r0) (fun a b p q => by obtain ⟨dp, c, p, e⟩ := p; obtain ⟨st, q, e2⟩ := q; rw [e, e2]; exact (plan_eq K.2.2.1.1 p q).2 _ r0) K KI KX
    · exact pr X Y (x_plan_bad X K h1 hb) (fun g Y => m_plan_bad Y K h1 hb) ee K KI KX
theorem s_wanted {w : Int32} (S : SS h n) : PR E M_F_wanted M_M_wanted [.int w] h n := by
  obtain ⟨N, I, tn, bt, ab, be, rb, rn, rf, X, Y, K, KI, KX⟩ := S
  by_cases hb : (0 ≤ w ∧ w ≤ 1)
  · obtain ⟨W9, r0, rfl⟩ := rg (m := 1) hb (by decide)
    obtain rfl | rfl : W9 = 0 ∨ W9 = 1 := by omega
    · exact pr X Y (x_wanted0 X K) (fun g Y => m_wanted0 Y K) ee K KI KX
    · exact pr X Y (x_wanted1 X K) (fun g Y => m_wanted1 Y K) ee K KI KX
  · exact pr X Y (x_wanted_bad X hb) (fun g Y => m_wanted_bad Y hb) ee K KI KX
theorem s_trace {f x : Int32} (S : SS h n) : PR E M_F_trace M_M_trace [.int f, .int x] h n := by
  obtain ⟨N, I, tn, bt, ab, be, rb, rn, rf, X, Y, K, KI, KX⟩ := S
  by_cases hb : (0 ≤ f ∧ f ≤ 9) ∧ (0 ≤ x ∧ x ≤ 40)
  · obtain ⟨F9, r0, rfl⟩ := rg (m := 9) hb.1 (by decide)
    obtain ⟨X9, r1, rfl⟩ := rg (m := 40) hb.2 (by decide)
    by_cases h7 : N 46 = 6
    · exact pr X Y (x_trace_full X K (by omega) r1 h7) (fun g Y => m_trace_full Y K (by omega) r1 h7) ee K KI KX
    · have h6 : N 46 < 6 := by have := K.2.2.1.2.1; omega
      exact pr X Y (x_trace X K (by omega) r1 h6) (fun g Y => m_trace Y K (by omega) r1 h6) ee (okN_tr K h6 (by omega) r1) KI KX
  · exact pr X Y (x_trace_bad X hb) (fun g Y => m_trace_bad Y hb) ee K KI KX
theorem s_which {w : Int32} (S : SS h n) : PR E M_F_which M_M_which [.int w] h n := by
  obtain ⟨N, I, tn, bt, ab, be, rb, rn, rf, X, Y, K, KI, KX⟩ := S
  by_cases hb : w < -1
  · exact pr X Y (x_which_bad X hb) (fun g Y => m_which_bad Y hb) ee K KI KX
  · by_cases h1 : w = -1
    · subst h1
      exact pr X Y (x_which_n X K) (fun g Y => m_which_n Y K) ee K KI KX
    · obtain ⟨P9, h9, rfl⟩ := nI_of (x := w) (fun z => by have z1 := Int32.lt_iff_toInt_lt.mp z; have z2 : ¬ w.toInt < (-1 : Int32).toInt := fun y => hb (Int32.lt_iff_toInt_lt.mpr y); have z3 : ¬ w.toInt = (-1 : Int32).toInt := fun y => h1 (Int32.toInt_inj.mp y); rw [show (-1 : Int32).toInt = -1 from by decide] at z2 z3; rw [show (0 : Int32).toInt = 0 from by decide] at z1; omega)
      exact pr X Y (x_which X K h9) (fun g Y => m_which Y K h9) ee K KI KX
theorem s_note {f k d x : Int32} (S : SS h n) : PR E M_F_note M_M_note [.int f, .int k, .int d, .int x] h n := by
  obtain ⟨N, I, tn, bt, ab, be, rb, rn, rf, X, Y, K, KI, KX⟩ := S
  by_cases hb : (0 ≤ f ∧ f ≤ 9) ∧ (0 ≤ k ∧ k ≤ 3) ∧ (0 ≤ d ∧ d ≤ 99) ∧ (0 ≤ x ∧ x ≤ 20)
  · obtain ⟨F9, r0, rfl⟩ := rg (m := 9) hb.1 (by decide)
    obtain ⟨K9, r1, rfl⟩ := rg (m := 3) hb.2.1 (by decide)
    obtain ⟨D9, r2, rfl⟩ := rg (m := 99) hb.2.2.1 (by decide)
    obtain ⟨X9, r3, rfl⟩ := rg (m := 20) hb.2.2.2 (by decide)
    by_cases h7 : N 59 = 6
    · exact pr X Y (x_note_full X K (by omega) r1 r2 r3 h7) (fun g Y => m_note_full Y K (by omega) r1 r2 r3 h7) ee K KI KX
    · have h6 : N 59 < 6 := by have := K.2.2.1.2.2.1; omega
      exact pr X Y (x_note X K (by omega) r1 r2 r3 h6) (fun g Y => m_note Y K (by omega) r1 r2 r3 h6) ee (okN_no K h6 (by omega) r1 r2 r3) KI KX
  · exact pr X Y (x_note_bad X hb) (fun g Y => m_note_bad Y hb) ee K KI KX
theorem s_forget {w : Int32} (S : SS h n) : PR E M_F_forget M_M_forget [.int w] h n := by
  obtain ⟨N, I, tn, bt, ab, be, rb, rn, rf, X, Y, K, KI, KX⟩ := S
  by_cases hb : (0 ≤ w ∧ w ≤ 1)
  · obtain ⟨W9, r0, rfl⟩ := rg (m := 1) hb (by decide)
    obtain rfl | rfl : W9 = 0 ∨ W9 = 1 := by omega
    · exact pr X Y (x_forget0 X K) (fun g Y => m_forget0 Y K) ee (okN_f46 K) KI KX
    · exact pr X Y (x_forget1 X K) (fun g Y => m_forget1 Y K) ee (okN_f59 K) KI KX
  · exact pr X Y (x_forget_bad X hb) (fun g Y => m_forget_bad Y hb) ee K KI KX
theorem s_is {f : Int32} (S : SS h n) : PR E M_F_is M_M_is [.int f] h n := by
  obtain ⟨N, I, tn, bt, ab, be, rb, rn, rf, X, Y, K, KI, KX⟩ := S
  by_cases hb : (0 ≤ f ∧ f ≤ 9)
  · obtain ⟨F9, r0, rfl⟩ := rg (m := 9) hb (by decide)
    exact pr X Y (x_is X K (by omega)) (fun g Y => m_is Y K (by omega)) ee K KI KX
  · exact pr X Y (x_is_bad X hb) (fun g Y => m_is_bad Y hb) ee K KI KX
theorem s_look {f : Int32} (S : SS h n) : PR E M_F_look M_M_look [.int f] h n := by
  obtain ⟨N, I, tn, bt, ab, be, rb, rn, rf, X, Y, K, KI, KX⟩ := S
  by_cases hb : (0 ≤ f ∧ f ≤ 9)
  · obtain ⟨F9, r0, rfl⟩ := rg (m := 9) hb (by decide)
    exact pr X Y (x_look X K (by omega)) (fun g Y => m_look Y K (by omega)) ee K KI KX
  · exact pr X Y (x_look_bad X hb) (fun g Y => m_look_bad Y hb) ee K KI KX
theorem s_two {a b : Int32} (S : SS h n) : PR E M_F_two M_M_two [.int a, .int b] h n := by
  obtain ⟨N, I, tn, bt, ab, be, rb, rn, rf, X, Y, K, KI, KX⟩ := S
  by_cases hb : (0 ≤ a ∧ a < nI (N 31)) ∧ (0 ≤ b ∧ b < nI (N 31)) ∧ ¬ a = b
  · obtain ⟨A9, r0, rfl⟩ := rgb hb.1 K.2.2.1.1
    obtain ⟨B9, r1, rfl⟩ := rgb hb.2.1 K.2.2.1.1
    have h7 : ¬ A9 = B9 := fun e => hb.2.2 (by rw [e])
    by_cases h6 : N 44 / 2 ^ A9 % 2 = 1
    · exact pr X Y (x_two_no X K r0 r1 h7 (Or.inl h6)) (fun g Y => m_two_no Y K r0 r1 h7 (Or.inl h6)) ee K KI KX
    · by_cases h5 : N 44 / 2 ^ B9 % 2 = 1
      · exact pr X Y (x_two_no X K r0 r1 h7 (Or.inr h5)) (fun g Y => m_two_no Y K r0 r1 h7 (Or.inr h5)) ee K KI KX
      · exact pr X Y (x_two X K r0 r1 h7 h6 h5) (fun g Y => m_two Y K r0 r1 h7 h6 h5) ee K KI KX
  · exact pr X Y (x_two_bad X K hb) (fun g Y => m_two_bad Y K hb) ee K KI KX
theorem s_odds {v x c : Int32} (S : SS h n) : PR E M_F_odds M_M_odds [.int v, .int x, .int c] h n := by
  obtain ⟨N, I, tn, bt, ab, be, rb, rn, rf, X, Y, K, KI, KX⟩ := S
  by_cases hb : (0 ≤ v ∧ v ≤ 99) ∧ (0 ≤ x ∧ x ≤ 99) ∧ (0 ≤ c ∧ c ≤ 10)
  · obtain ⟨V9, r0, rfl⟩ := rg (m := 99) hb.1 (by decide)
    obtain ⟨X9, r1, rfl⟩ := rg (m := 99) hb.2.1 (by decide)
    obtain ⟨C9, r2, rfl⟩ := rg (m := 10) hb.2.2 (by decide)
    exact pr X Y (x_odds X K (by omega) (by omega) r2) (fun g Y => m_odds Y K (by omega) (by omega) r2) ee K KI KX
  · exact pr X Y (x_odds_bad X hb) (fun g Y => m_odds_bad Y hb) ee K KI KX
theorem s_years {a b : Int32} (S : SS h n) : PR E M_F_years M_M_years [.int a, .int b] h n := by
  obtain ⟨N, I, tn, bt, ab, be, rb, rn, rf, X, Y, K, KI, KX⟩ := S
  by_cases hb : (0 ≤ a ∧ a ≤ 999999) ∧ (0 ≤ b ∧ b ≤ 60)
  · obtain ⟨A9, r0, rfl⟩ := rg (m := 999999) hb.1 (by decide)
    obtain ⟨B9, r1, rfl⟩ := rg (m := 60) hb.2 (by decide)
    exact pr X Y (x_years X K (by omega) r1) (fun g Y => m_years Y K (by omega) r1) ee K KI KX
  · exact pr X Y (x_years_bad X hb) (fun g Y => m_years_bad Y hb) ee K KI KX
theorem s_part {w : Int32} (S : SS h n) : PJ E M_F_part M_M_part [.int w] h n := by
  obtain ⟨N, I, tn, bt, ab, be, rb, rn, rf, X, Y, K, KI, KX⟩ := S
  by_cases hb : (0 ≤ w ∧ w ≤ 1)
  · obtain ⟨W9, r0, rfl⟩ := rg (m := 1) hb (by decide)
    obtain rfl | rfl : W9 = 0 ∨ W9 = 1 := by omega
    · exact prJ X Y (x_part0 X) (fun g Y => m_part0 Y) K KI KX
    · exact prJ X Y (x_part1 X) (fun g Y => m_part1 Y) K KI KX
  · exact prJ X Y (x_part_bad X hb) (fun g Y => m_part_bad Y hb) K KI KX
theorem s_image {i : Int32} (S : SS h n) : PR E M_F_image M_M_image [.int i] h n := by
  obtain ⟨N, I, tn, bt, ab, be, rb, rn, rf, X, Y, K, KI, KX⟩ := S
  by_cases hb : (0 ≤ i ∧ i ≤ 1)
  · obtain ⟨I9, r0, rfl⟩ := rg (m := 1) hb (by decide)
    cases h8 : I I9 with
    | some R => exact pr X Y (x_image_kept X K (by omega) h8) (fun g Y => m_image Y K (by omega)) ee K (KIup K KI) KX
    | none => exact pr X Y (x_image_new X K (by omega) h8) (fun g Y => m_image Y K (by omega)) ee K (KIup K KI) KX
  · exact pr X Y (x_image_bad X hb) (fun g Y => m_image_bad Y hb) ee K KI KX
theorem s_from {i : Int32} (S : SS h n) : PR E M_F_from M_M_from [.int i] h n := by
  obtain ⟨N, I, tn, bt, ab, be, rb, rn, rf, X, Y, K, KI, KX⟩ := S
  by_cases hb : (0 ≤ i ∧ i ≤ 1)
  · obtain ⟨I9, r0, rfl⟩ := rg (m := 1) hb (by decide)
    cases h8 : I I9 with
    | none => exact pr X Y (x_from_no X K (by omega) h8) (fun g Y => m_from_no Y K (by omega) h8) ee K KI KX
    | some R => exact pr X Y (x_from X K (by omega) h8 (KI _ _ h8)) (fun g Y => m_from Y K (by omega) h8) ee (KI _ _ h8) KI KX
  · exact pr X Y (x_from_bad X hb) (fun g Y => m_from_bad Y hb) ee K KI KX
theorem s_status {w : Int32} (S : SS h n) : PR E M_F_status M_M_status [.int w] h n := by
  obtain ⟨N, I, tn, bt, ab, be, rb, rn, rf, X, Y, K, KI, KX⟩ := S
  by_cases hb : (0 ≤ w ∧ w ≤ 2)
  · obtain ⟨W9, r0, rfl⟩ := rg (m := 2) hb (by decide)
    obtain rfl | rfl | rfl : W9 = 0 ∨ W9 = 1 ∨ W9 = 2 := by omega
    · exact pr X Y (x_status0 X K) (fun g Y => m_status0 Y K) ee K KI KX
    · exact pr X Y (x_status1 X K) (fun g Y => m_status1 Y K) ee K KI KX
    · exact pr X Y (x_status2 X K) (fun g Y => m_status2 Y K) ee K KI KX
  · exact pr X Y (x_status_bad X hb) (fun g Y => m_status_bad Y hb) ee K KI KX
theorem s_count {w : Int32} (S : SS h n) : PR E M_F_count M_M_count [.int w] h n := by
  obtain ⟨N, I, tn, bt, ab, be, rb, rn, rf, X, Y, K, KI, KX⟩ := S
  by_cases hb : (0 ≤ w ∧ w ≤ 8)
  · obtain ⟨W9, r0, rfl⟩ := rg (m := 8) hb (by decide)
    exact pr X Y (x_count X K r0) (fun g Y => m_count Y K r0) ee K KI KX
  · exact pr X Y (x_count_bad X hb) (fun g Y => m_count_bad Y hb) ee K KI KX
theorem s_digest (S : SS h n) : PJ E M_F_digest M_M_digest [] h n := by
  obtain ⟨N, I, tn, bt, ab, be, rb, rn, rf, X, Y, K, KI, KX⟩ := S
  exact prJ X Y (x_digest X K) (fun g Y => m_digest Y K) K KI KX
end SP
