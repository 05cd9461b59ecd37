/-! the whole object -/
abbrev fO (ab be rb rn rf : Nat) : cT := .inr (0, [.ref 12, .ref 29, .ref 46, .ref 47, .ref 54, .ref 57, .ref 61, .int (nI ab), .int (nI be), .int (nI rb), .int (nI rn), .int (nI rf)])
abbrev tO (tn : Nat) (a p s v : Int32) : cT := .inr (9, [.ref 58, .ref 59, .int (nI tn), .int a, .int p, .int s, .int v])
/-- what a row keeps to -/
def okN (N : Nat → Nat) : Prop :=
  (∀ f, f < 10 → N f ≤ 5 ∧ 1 ≤ N (10 + f) ∧ N (10 + f) ≤ 60 ∧ N (20 + f) ≤ 60) ∧ N 30 ≤ 9999 ∧ (N 31 ≤ 6 ∧ N 46 ≤ 6 ∧ N 59 ≤ 6 ∧ N 84 ≤ 8) ∧
  (∀ i, i < N 31 → N (32 + i) < 100 ∧ N (38 + i) < 100) ∧ N 44 < 2 ^ N 31 ∧ (∀ i, i < N 46 → N (47 + i) < 10 ∧ N (53 + i) ≤ 40) ∧ (∀ i, i < N 59 → N (60 + i) < 10 ∧ N (66 + i) ≤ 3 ∧ N (72 + i) ≤ 99 ∧ N (78 + i) ≤ 20) ∧
  ∀ j, j < N 84 → (∀ f, f < 10 → N (85 + 13 * j + f) ≤ 60) ∧ N (95 + 13 * j) ≤ 9999 ∧ N (96 + 13 * j) < 2 ^ N 31
theorem okN.c {N : Nat → Nat} (K : okN N) : okC N := ⟨fun f hf => by have := K.1 f hf; omega, by have := K.2.1; omega⟩
theorem okN.b {N : Nat → Nat} (K : okN N) : okB N := ⟨K.2.2.1.1, K.2.2.2.1, Nat.lt_of_lt_of_le K.2.2.2.2.1 (pw64 K.2.2.1.1)⟩
theorem okN.t {N : Nat → Nat} (K : okN N) : okT N := ⟨⟨K.2.2.1.2.1, K.2.2.2.2.2.1⟩, K.2.2.1.2.2.1, K.2.2.2.2.2.2.1⟩
theorem okN.s {N : Nat → Nat} (K : okN N) : ∀ f, f < 10 → N (10 + f) ≤ 60 := fun f hf => (K.1 f hf).2.2.1
theorem isH.v {h : hT} {N : Nat → Nat} (H : isH h 12 N) : hv h N := by
  obtain ⟨bn, bw, tf, tm, nf, ng, nd, nm, rw, ⟨⟨a1, a2, a3, a4, a5⟩, _⟩, _⟩ := H
  exact ⟨a1, a2, a3, a4, a5⟩
theorem isH.b {h : hT} {N : Nat → Nat} (H : isH h 12 N) : bv h N := by
  obtain ⟨bn, bw, tf, tm, nf, ng, nd, nm, rw, ⟨_, ⟨a6, a7, a8⟩, _⟩, l1, _⟩ := H
  exact ⟨a6, bn, bw, a7, a8, l1⟩
theorem isH.c {h : hT} {N : Nat → Nat} (H : isH h 12 N) : cv h N := by
  obtain ⟨bn, bw, tf, tm, nf, ng, nd, nm, rw, ⟨_, _, ⟨a9, b1, b2, b3, b4, b5, b6⟩, _⟩, _, l2, l3, _⟩ := H
  exact ⟨a9, tf, tm, nf, ng, nd, nm, ⟨b1, b2, b3, b4, b5, b6⟩, l2, l3⟩
theorem isH.p {h : hT} {N : Nat → Nat} (H : isH h 12 N) : h 27 = pO 27 (N 84) := by
  obtain ⟨bn, bw, tf, tm, nf, ng, nd, nm, rw, ⟨_, _, _, b7, _⟩, _⟩ := H
  exact b7
/-- the images -/
def iS (h : hT) (n : Nat) (I : Nat → Option (Nat → Nat)) : Prop := ∃ im : Nat → Option Nat, h 46 = ra 2 im ∧ (∀ i, i < 2 → (im i = none ∧ I i = none) ∨ ∃ q R, im i = some q ∧ I i = some R ∧ isH h q R ∧ 72 ≤ q ∧ q + 6 ≤ n) ∧ ∀ q0 q1, im 0 = some q0 → im 1 = some q1 → q0 + 17 ≤ q1 ∨ q1 + 17 ≤ q0
/-- the object: now N, images I, the text's first tn bytes bt, the fraction ab by be, refused rb, rn, rf -/
def XS (h : hT) (n : Nat) (N : Nat → Nat) (I : Nat → Option (Nat → Nat)) (tn : Nat) (bt : Nat → Nat) (ab be rb rn rf : Nat) : Prop :=
  (h 11 = fO ab be rb rn rf ∧ 61 ≤ n) ∧ isH h 12 N ∧ (∃ M, isH h 29 M ∧ M 31 ≤ 6 ∧ M 46 ≤ 6 ∧ M 59 ≤ 6 ∧ M 84 ≤ 8) ∧ kS h ∧ sS h ∧ (∃ a p s v, h 57 = tO tn a p s v) ∧ (h 58 = nA 150 bt ∧ ∃ m f, h 59 = lO 60 m ∧ h 60 = ia 4 f) ∧ (∃ m f, h 61 = lO 62 m ∧ h 62 = ia 4 f) ∧ iS h n I
/-- the reference's cells are as they were -/
def fM (h g : hT) : Prop := ∀ a, 63 ≤ a → a ≤ 71 → g a = h a
theorem iS.of {h g : hT} {n : Nat} {I : Nat → Option (Nat → Nat)} (X : iS h n I) (e : ∀ a, a = 46 ∨ 72 ≤ a → g a = h a) : iS g n I := by
  obtain ⟨im, h1, h2, h3⟩ := X
  refine ⟨im, (e 46 (Or.inl rfl)).trans h1, fun i hi => ?_, h3⟩
  rcases h2 i hi with z | ⟨q, R, a, b, c, d⟩
  · exact Or.inl z
  · exact Or.inr ⟨q, R, a, b, c.of (fun x _ _ => e x (by omega)), d⟩
section XL
variable {h g : hT} {n : Nat} {N : Nat → Nat} {I : Nat → Option (Nat → Nat)} {tn : Nat} {bt : Nat → Nat} {ab be rb rn rf : Nat}
theorem XS.fl (X : XS h n N I tn bt ab be rb rn rf) (ab2 be2 rb2 rn2 rf2 : Nat) : XS (va_up h 11 (fO ab2 be2 rb2 rn2 rf2)) n N I tn bt ab2 be2 rb2 rn2 rf2 := by
  obtain ⟨⟨x1, x0⟩, x2, ⟨M, x3, x4⟩, x5, ⟨s1, m1, f1, s2, s3⟩, ⟨a, p, s, v, x7⟩, ⟨x8, m2, f2, x9, y1⟩, ⟨m3, f3, y2, y3⟩, y4⟩ := X
  obtain ⟨m, f, D, W, ob, cd, op, dp, k7, k8, k9, k0, k1, k2, k3, kw⟩ := x5
  have u : ∀ a, a ≠ 11 → va_up h 11 (fO ab2 be2 rb2 rn2 rf2) a = h a := fun a ha => vn ha
  refine ⟨⟨up_s, x0⟩, x2.of (fun a _ _ => u a (by omega)), ⟨M, x3.of (fun a _ _ => u a (by omega)), x4⟩, ⟨m, f, D, W, ob, cd, op, dp, ?_, ?_, ?_, ?_, ?_, ?_, ?_, kw⟩, ⟨?_, m1, f1, ?_, ?_⟩, ⟨a, p, s, v, ?_⟩, ⟨?_, m2, f2, ?_, ?_⟩, ⟨m3, f3, ?_, ?_⟩, y4.of (fun a ha => u a (by omega))⟩ <;> (rw [u _ (by decide)]; assumption)
theorem XS.ofk (X : XS h n N I tn bt ab be rb rn rf) (F : frk h g) (S : kS g) : XS g n N I tn bt ab be rb rn rf := by
  obtain ⟨⟨x1, x0⟩, x2, ⟨M, x3, x4⟩, x5, ⟨s1, m1, f1, s2, s3⟩, ⟨a, p, s, v, x7⟩, ⟨x8, m2, f2, x9, y1⟩, ⟨m3, f3, y2, y3⟩, y4⟩ := X
  refine ⟨⟨?_, x0⟩, x2.of (fun a _ _ => F a (by omega)), ⟨M, x3.of (fun a _ _ => F a (by omega)), x4⟩, S, ⟨?_, m1, f1, ?_, ?_⟩, ⟨a, p, s, v, ?_⟩, ⟨?_, m2, f2, ?_, ?_⟩, ⟨m3, f3, ?_, ?_⟩, y4.of (fun a ha => F a (by omega))⟩ <;> (rw [F _ (by omega)]; assumption)
theorem XS.ofs (X : XS h n N I tn bt ab be rb rn rf) (F : frs h g) (S : sS g) : XS g n N I tn bt ab be rb rn rf := by
  obtain ⟨⟨x1, x0⟩, x2, ⟨M, x3, x4⟩, x5, x6, ⟨a, p, s, v, x7⟩, ⟨x8, m2, f2, x9, y1⟩, ⟨m3, f3, y2, y3⟩, y4⟩ := X
  obtain ⟨m, f, D, W, ob, cd, op, dp, k7, k8, k9, k0, k1, k2, k3, kw⟩ := x5
  refine ⟨⟨?_, x0⟩, x2.of (fun a _ _ => F a (by omega)), ⟨M, x3.of (fun a _ _ => F a (by omega)), x4⟩, ⟨m, f, D, W, ob, cd, op, dp, ?_, ?_, ?_, ?_, ?_, ?_, ?_, kw⟩, S, ⟨a, p, s, v, ?_⟩, ⟨?_, m2, f2, ?_, ?_⟩, ⟨m3, f3, ?_, ?_⟩, y4.of (fun a ha => F a (by omega))⟩ <;> (rw [F _ (by omega)]; assumption)
/-- now is another row -/
theorem XS.ofq (X : XS h n N I tn bt ab be rb rn rf) (F : frq 12 h g) {N2 : Nat → Nat} (H : isH g 12 N2) : XS g n N2 I tn bt ab be rb rn rf := by
  obtain ⟨⟨x1, x0⟩, x2, ⟨M, x3, x4⟩, x5, ⟨s1, m1, f1, s2, s3⟩, ⟨a, p, s, v, x7⟩, ⟨x8, m2, f2, x9, y1⟩, ⟨m3, f3, y2, y3⟩, y4⟩ := X
  obtain ⟨m, f, D, W, ob, cd, op, dp, k7, k8, k9, k0, k1, k2, k3, kw⟩ := x5
  refine ⟨⟨?_, x0⟩, H, ⟨M, x3.of (fun a _ _ => F a (by omega)), x4⟩, ⟨m, f, D, W, ob, cd, op, dp, ?_, ?_, ?_, ?_, ?_, ?_, ?_, kw⟩, ⟨?_, m1, f1, ?_, ?_⟩, ⟨a, p, s, v, ?_⟩, ⟨?_, m2, f2, ?_, ?_⟩, ⟨m3, f3, ?_, ?_⟩, y4.of (fun a ha => F a (by omega))⟩ <;> (rw [F _ (by omega)]; assumption)
/-- the object's own line is another -/
theorem XS.ofl (X : XS h n N I tn bt ab be rb rn rf) (F : ∀ a, a ≠ 61 → a ≠ 62 → g a = h a) {m : Nat} {f : Nat → Int32} (h1 : g 61 = lO 62 m) (h2 : g 62 = ia 4 f) : XS g n N I tn bt ab be rb rn rf := by
  obtain ⟨⟨x1, x0⟩, x2, ⟨M, x3, x4⟩, x5, ⟨s1, m1, f1, s2, s3⟩, ⟨a, p, s, v, x7⟩, ⟨x8, m2, f2, x9, y1⟩, _, y4⟩ := X
  obtain ⟨m5, f5, D, W, ob, cd, op, dp, k7, k8, k9, k0, k1, k2, k3, kw⟩ := x5
  refine ⟨⟨?_, x0⟩, x2.of (fun a _ _ => F a (by omega) (by omega)), ⟨M, x3.of (fun a _ _ => F a (by omega) (by omega)), x4⟩, ⟨m5, f5, D, W, ob, cd, op, dp, ?_, ?_, ?_, ?_, ?_, ?_, ?_, kw⟩, ⟨?_, m1, f1, ?_, ?_⟩, ⟨a, p, s, v, ?_⟩, ⟨?_, m2, f2, ?_, ?_⟩, ⟨m, f, h1, h2⟩, y4.of (fun a ha => F a (by omega) (by omega))⟩ <;> (rw [F _ (by omega) (by omega)]; assumption)
/-- the text is another -/
theorem XS.oft (X : XS h n N I tn bt ab be rb rn rf) (F : ∀ a, a ≠ 57 → a ≠ 58 → g a = h a) {tn2 : Nat} {bt2 : Nat → Nat} {a p s v : Int32} (h1 : g 57 = tO tn2 a p s v) (h2 : g 58 = nA 150 bt2) : XS g n N I tn2 bt2 ab be rb rn rf := by
  obtain ⟨⟨x1, x0⟩, x2, ⟨M, x3, x4⟩, x5, ⟨s1, m1, f1, s2, s3⟩, _, ⟨x8, m2, f2, x9, y1⟩, ⟨m3, f3, y2, y3⟩, y4⟩ := X
  obtain ⟨m5, f5, D, W, ob, cd, op, dp, k7, k8, k9, k0, k1, k2, k3, kw⟩ := x5
  refine ⟨⟨?_, x0⟩, x2.of (fun a _ _ => F a (by omega) (by omega)), ⟨M, x3.of (fun a _ _ => F a (by omega) (by omega)), x4⟩, ⟨m5, f5, D, W, ob, cd, op, dp, ?_, ?_, ?_, ?_, ?_, ?_, ?_, kw⟩, ⟨?_, m1, f1, ?_, ?_⟩, ⟨a, p, s, v, h1⟩, ⟨h2, m2, f2, ?_, ?_⟩, ⟨m3, f3, ?_, ?_⟩, y4.of (fun a ha => F a (by omega) (by omega))⟩ <;> (rw [F _ (by omega) (by omega)]; assumption)
theorem fM.k (F : frk h g) : fM h g := fun a _ _ => F a (by omega)
theorem fM.s (F : frs h g) : fM h g := fun a _ _ => F a (by omega)
theorem fM.q (F : frq 12 h g) : fM h g := fun a _ _ => F a (by omega)
theorem fM.r0 : fM h h := fun _ _ _ => rfl
theorem fM.up {a : Nat} {c : cT} (F : fM h g) (ha : a < 63 ∨ 71 < a) : fM h (va_up g a c) := fun x h1 h2 => up_n (by omega) (F x h1 h2)
theorem fM.trans {k : hT} (a : fM h g) (b : fM g k) : fM h k := fun x h1 h2 => (b x h1 h2).trans (a x h1 h2)
end XL
section XB
variable {E : eT} {n : Nat} {h : hT} {N : Nat → Nat} {I : Nat → Option (Nat → Nat)} {tn : Nat} {bt : Nat → Nat} {ab be rb rn rf : Nat}
theorem c_bad (h1 : h 11 = fO ab be rb rn rf) : fE M_F_bad E [.ref 11] n h (eV (.int (-2)) n (va_up h 11 (fO ab be (rb + 1) rn rf))) := by
  refine fE.of (L := [some (.ref 11)]) (by decide +kernel) (Nat.le_of_ble_eq_true rfl) rfl ?_
  refine a_al0 fF_bad_0 ?_
  refine a_dup fF_bad_1 rfl ?_
  refine a_gf fF_bad_2 l_F_58 h1 rfl ?_
  refine a_ic fF_bad_5 ?_
  refine a_iadd fF_bad_6 ?_
  refine a_pfi9 fF_bad_7 p_F_58 h1 ?_
  rw [nI_1]
  refine a_ic fF_bad_10 ?_
  exact a_ri fF_bad_12 rfl (⟨rfl, rfl, rfl⟩)
theorem c_no (h1 : h 11 = fO ab be rb rn rf) : fE M_F_no E [.ref 11] n h (eV (.int (-3)) n (va_up h 11 (fO ab be rb (rn + 1) rf))) := by
  refine fE.of (L := [some (.ref 11)]) (by decide +kernel) (Nat.le_of_ble_eq_true rfl) rfl ?_
  refine a_al0 fF_no_0 ?_
  refine a_dup fF_no_1 rfl ?_
  refine a_gf fF_no_2 l_F_61 h1 rfl ?_
  refine a_ic fF_no_5 ?_
  refine a_iadd fF_no_6 ?_
  refine a_pfi10 fF_no_7 p_F_61 h1 ?_
  rw [nI_1]
  refine a_ic fF_no_10 ?_
  exact a_ri fF_no_12 rfl (⟨rfl, rfl, rfl⟩)
theorem c_full (h1 : h 11 = fO ab be rb rn rf) : fE M_F_full E [.ref 11] n h (eV (.int (-4)) n (va_up h 11 (fO ab be rb rn (rf + 1)))) := by
  refine fE.of (L := [some (.ref 11)]) (by decide +kernel) (Nat.le_of_ble_eq_true rfl) rfl ?_
  refine a_al0 fF_full_0 ?_
  refine a_dup fF_full_1 rfl ?_
  refine a_gf fF_full_2 l_F_64 h1 rfl ?_
  refine a_ic fF_full_5 ?_
  refine a_iadd fF_full_6 ?_
  refine a_pfi11 fF_full_7 p_F_64 h1 ?_
  rw [nI_1]
  refine a_ic fF_full_10 ?_
  exact a_ri fF_full_12 rfl (⟨rfl, rfl, rfl⟩)
end XB
