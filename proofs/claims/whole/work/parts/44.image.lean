section PV
variable {E : eT} {n : Nat} {h g : hT} {N : Nat → Nat} {I : Nat → Option (Nat → Nat)} {tn : Nat} {bt : Nat → Nat} {ab be rb rn rf : Nat}
theorem im_kept {im : Nat → Option Nat} {h1 : hT} {I9 q : Nat} (h9 : I9 < 2) (e0 : im I9 = some q) (i2 : ∀ i, i < 2 → (im i = none ∧ I i = none) ∨ ∃ q R, im i = some q ∧ I i = some R ∧ isH h q R ∧ 72 ≤ q ∧ q + 6 ≤ n) (i3 : ∀ q0 q1, im 0 = some q0 → im 1 = some q1 → q0 + 17 ≤ q1 ∨ q1 + 17 ≤ q0) (H1 : isH h1 q N) (F1 : frq q h h1) (q7 : 72 ≤ q) (q8 : q + 6 ≤ n) : ∀ i, i < 2 → (im i = none ∧ va_up I I9 (some N) i = none) ∨ ∃ q R, im i = some q ∧ va_up I I9 (some N) i = some R ∧ isH h1 q R ∧ 72 ≤ q ∧ q + 6 ≤ n := by
  intro i hi
  by_cases c : i = I9
  · subst c
    exact Or.inr ⟨q, N, e0, up_s, H1, q7, q8⟩
  · rcases i2 i hi with z | ⟨q2, R, a, b, d, z⟩
    · exact Or.inl ⟨z.1, (vn c).trans z.2⟩
    · refine Or.inr ⟨q2, R, a, (vn c).trans b, d.fr F1 ?_, z⟩
      have : (i = 0 ∧ I9 = 1) ∨ (i = 1 ∧ I9 = 0) := by omega
      rcases this with ⟨rfl, rfl⟩ | ⟨rfl, rfl⟩
      · have := i3 _ _ a e0; omega
      · have := i3 _ _ e0 a; omega
theorem im_new {im : Nat → Option Nat} {h2 : hT} {I9 : Nat} (h9 : I9 < 2) (i2 : ∀ i, i < 2 → (im i = none ∧ I i = none) ∨ ∃ q R, im i = some q ∧ I i = some R ∧ isH h q R ∧ 72 ≤ q ∧ q + 6 ≤ n) (H4 : isH h2 (n + 11) N) (F : ∀ a, a < n + 11 → a ≠ 46 → h2 a = h a) (n0 : 61 ≤ n) : ∀ i, i < 2 → (va_up im I9 (some (n + 11)) i = none ∧ va_up I I9 (some N) i = none) ∨ ∃ q R, va_up im I9 (some (n + 11)) i = some q ∧ va_up I I9 (some N) i = some R ∧ isH h2 q R ∧ 72 ≤ q ∧ q + 6 ≤ n + 17 := by
  intro i hi
  by_cases c : i = I9
  · subst c
    exact Or.inr ⟨n + 11, N, up_s, up_s, H4, by omega, by omega⟩
  · rcases i2 i hi with z | ⟨q2, R, a, b, d, z⟩
    · exact Or.inl ⟨(vn c).trans z.1, (vn c).trans z.2⟩
    · exact Or.inr ⟨q2, R, (vn c).trans a, (vn c).trans b, d.of (fun a _ _ => F a (by omega) (by omega)), by omega, by omega⟩
theorem im_dis {im : Nat → Option Nat} {I9 : Nat} (h9 : I9 < 2) (i2 : ∀ i, i < 2 → (im i = none ∧ I i = none) ∨ ∃ q R, im i = some q ∧ I i = some R ∧ isH h q R ∧ 72 ≤ q ∧ q + 6 ≤ n) : ∀ q0 q1, va_up im I9 (some (n + 11)) 0 = some q0 → va_up im I9 (some (n + 11)) 1 = some q1 → q0 + 17 ≤ q1 ∨ q1 + 17 ≤ q0 := by
  intro q0 q1 a b
  have : I9 = 0 ∨ I9 = 1 := by omega
  rcases this with rfl | rfl
  · rw [up_s] at a; cases a
    rw [vn (by decide)] at b
    rcases i2 1 (by omega) with z | ⟨q, R, a2, _, _, z⟩
    · rw [z.1] at b; cases b
    · rw [a2] at b; cases b; omega
  · rw [up_s] at b; cases b
    rw [vn (by decide)] at a
    rcases i2 0 (by omega) with z | ⟨q, R, a2, _, _, z⟩
    · rw [z.1] at a; cases a
    · rw [a2] at a; cases a; omega
theorem isH.o {q : Nat} (H : isH h q N) : h q = hO q := by
  obtain ⟨bn, bw, tf, tm, nf, ng, nd, nm, rw, ⟨⟨a1, _⟩, _⟩, _⟩ := H
  exact a1
/-- the images are others -/
theorem XS.ofi (X : XS h n N I tn bt ab be rb rn rf) (F : ∀ a, a < 72 → a ≠ 46 → g a = h a) {n2 : Nat} (hn : n ≤ n2) {I2 : Nat → Option (Nat → Nat)} (J : iS g n2 I2) : XS g n2 N I2 tn bt ab be rb rn rf := by
  obtain ⟨⟨x1, x0⟩, x2, ⟨M, x3, x4⟩, x5, ⟨s1, m1, f1, s2, s3⟩, ⟨a, p, s, v, x7⟩, ⟨x8, m2, f2, x9, y1⟩, ⟨m3, f3, y2, y3⟩, y4⟩ := X
  obtain ⟨m5, f5, D, W, ob, cd, op, dp, k7, k8, k9, k0, k1, k2, k3, kw⟩ := x5
  refine ⟨⟨?_, by omega⟩, x2.of (fun a _ _ => F a (by omega) (by omega)), ⟨M, x3.of (fun a _ _ => F a (by omega) (by omega)), x4⟩, ⟨m5, f5, D, W, ob, cd, op, dp, ?_, ?_, ?_, ?_, ?_, ?_, ?_, kw⟩, ⟨?_, m1, f1, ?_, ?_⟩, ⟨a, p, s, v, ?_⟩, ⟨?_, m2, f2, ?_, ?_⟩, ⟨m3, f3, ?_, ?_⟩, J⟩ <;> (rw [F _ (by omega) (by omega)]; assumption)
theorem x_image_kept {I9 : Nat} {R : Nat → Nat} (X : XS h n N I tn bt ab be rb rn rf) (K : okN N) (h9 : I9 < 2) (h8 : I I9 = some R) : fE M_F_image E [.ref 11, .int (nI I9)] n h (qI (fun r k g => r = 1 ∧ k = n ∧ fM h g ∧ XS g n N (va_up I I9 (some N)) tn bt ab be rb rn rf)) := by
  refine fE.of (L := [some (.ref 11), some (.int (nI I9)), none]) (by decide +kernel) (Nat.le_of_ble_eq_true rfl) rfl ?_
  refine a_il1 fF_image_0 ?_
  refine a_ic fF_image_1 ?_
  refine a_ic fF_image_2 ?_
  refine a_S3V fF_image_3 k_F_85 m_F_within ⟨by decide, by decide⟩ ⟨rfl, rfl⟩ (Nat.le_of_ble_eq_true rfl) (c_within) ?_
  refine a_if_ne fF_image_6 (fun _ => ?_) (fun c_ => absurd c_ (fun z => by rw [bI_t ⟨nI_pos' (by omega), nI_le (b := 1) (by omega) (by decide)⟩] at z; exact absurd z (by decide)))
  obtain ⟨im, i1, i2, i3⟩ := X.2.2.2.2.2.2.2.2
  obtain ⟨q, e0, H0, q7, q8⟩ : ∃ q, im I9 = some q ∧ isH h q R ∧ 72 ≤ q ∧ q + 6 ≤ n := by
    rcases i2 I9 h9 with z | ⟨q, R2, a, b, c, d⟩
    · rw [h8] at z; cases z.2
    · rw [h8] at b; cases b; exact ⟨q, a, c, d⟩
  refine a_al0 fF_image_14 ?_
  refine a_gf fF_image_15 l_F_19 X.1.1 rfl ?_
  refine a_il1 fF_image_18 ?_
  refine a_aald fF_image_19 i1 (vp_in_nI h9 (by decide)) ?_
  rw [nI_clamp (by omega), e0]
  refine a_as2 fF_image_20 (by decide) rfl ?_
  refine a_al2 fF_image_21 ?_
  refine a_nnR fF_image_22 ?_
  refine a_al2 fF_image_40 ?_
  refine a_al0 fF_image_41 ?_
  refine a_gf fF_image_42 l_F_10 X.1.1 rfl ?_
  refine a_V1Q fF_image_45 k_F_125 m_H_become ⟨by decide, by decide⟩ H0.o rfl ⟨rfl, rfl⟩ (Nat.le_of_ble_eq_true rfl) (c_Hbecome H0 X.2.1 (by omega) K.2.2.1) (fun n1 h1 p1 => ?_)
  obtain ⟨hn1, H1, F1⟩ := p1
  subst n1
  refine a_ic fF_image_48 ?_
  exact a_ri fF_image_49 rfl (⟨_, rfl, rfl, rfl, fun a _ _ => F1 a (by omega), X.ofi (fun a _ _ => F1 a (by omega)) (Nat.le_refl _) ⟨im, (F1 46 (by omega)).trans i1, im_kept h9 e0 i2 i3 H1 F1 q7 q8, i3⟩⟩)
theorem x_image_new {I9 : Nat} (X : XS h n N I tn bt ab be rb rn rf) (K : okN N) (h9 : I9 < 2) (h8 : I I9 = none) : fE M_F_image E [.ref 11, .int (nI I9)] n h (qI (fun r k g => r = 1 ∧ k = n + 17 ∧ fM h g ∧ XS g (n + 17) N (va_up I I9 (some N)) tn bt ab be rb rn rf)) := by
  refine fE.of (L := [some (.ref 11), some (.int (nI I9)), none]) (by decide +kernel) (Nat.le_of_ble_eq_true rfl) rfl ?_
  refine a_il1 fF_image_0 ?_
  refine a_ic fF_image_1 ?_
  refine a_ic fF_image_2 ?_
  refine a_S3V fF_image_3 k_F_85 m_F_within ⟨by decide, by decide⟩ ⟨rfl, rfl⟩ (Nat.le_of_ble_eq_true rfl) (c_within) ?_
  refine a_if_ne fF_image_6 (fun _ => ?_) (fun c_ => absurd c_ (fun z => by rw [bI_t ⟨nI_pos' (by omega), nI_le (b := 1) (by omega) (by decide)⟩] at z; exact absurd z (by decide)))
  have n0 := X.1.2
  obtain ⟨im, i1, i2, i3⟩ := X.2.2.2.2.2.2.2.2
  have e0 : im I9 = none := by
    rcases i2 I9 h9 with z | ⟨q, R, a, b, _⟩
    · exact z.1
    · rw [h8] at b; cases b
  refine a_al0 fF_image_14 ?_
  refine a_gf fF_image_15 l_F_19 X.1.1 rfl ?_
  refine a_il1 fF_image_18 ?_
  refine a_aald fF_image_19 i1 (vp_in_nI h9 (by decide)) ?_
  rw [nI_clamp (by omega), e0]
  refine a_ns2 fF_image_20 (by decide) rfl ?_
  refine a_nl2 fF_image_21 ?_
  refine a_nnN fF_image_22 ?_
  refine a_new fF_image_25 n_F_7 (by decide) (by decide) ?_
  refine a_dup fF_image_28 rfl ?_
  refine a_I0D fF_image_29 k_F_9 m_H_init ⟨by decide, by decide⟩ (cc := 16) (cs := 199) ⟨rfl, rfl⟩ (by decide) (by decide) (Nat.le_of_ble_eq_true rfl) (c_Hinit (n := n + 1) up_s) (fun k1 h1 p1 => ?_)
  obtain ⟨hk1, H1, F1⟩ := p1
  subst k1
  have F2 : ∀ a, a < 72 → h1 a = h a := fun a ha => (F1 a (by omega)).trans (vn (by omega))
  have j1 : h1 46 = ra 2 im := (F2 46 (by omega)).trans i1
  refine a_as2 fF_image_32 (by decide) rfl ?_
  refine a_al0 fF_image_33 ?_
  refine a_gf fF_image_34 l_F_19 ((F2 11 (by omega)).trans X.1.1) rfl ?_
  refine a_il1 fF_image_37 ?_
  refine a_al2 fF_image_38 ?_
  have hq : h1 (n + 11) = hO (n + 11) := H1.o
  refine a_aast fF_image_39 j1 hq rfl (vp_in_nI h9 (by decide)) ?_
  rw [nI_clamp (by omega)]
  have H2 : isH (va_up h1 46 (ra 2 (va_up im I9 (some (n + 11))))) (n + 11) N0 := H1.of (fun a _ _ => vn (by omega))
  have H3 : isH (va_up h1 46 (ra 2 (va_up im I9 (some (n + 11))))) 12 N := X.2.1.of (fun a _ _ => (vn (by omega)).trans (F2 a (by omega)))
  refine a_al2 fF_image_40 ?_
  refine a_al0 fF_image_41 ?_
  refine a_gf fF_image_42 l_F_10 (up_n (by decide) ((F2 11 (by omega)).trans X.1.1)) rfl ?_
  refine a_V1Q fF_image_45 k_F_125 m_H_become ⟨by decide, by decide⟩ H2.o rfl ⟨rfl, rfl⟩ (Nat.le_of_ble_eq_true rfl) (c_Hbecome H2 H3 (by omega) K.2.2.1) (fun n1 h2 p2 => ?_)
  obtain ⟨hn1, H4, F4⟩ := p2
  subst n1
  have F5 : ∀ a, a < 72 → a ≠ 46 → h2 a = h a := fun a ha hb => (F4 a (by omega)).trans ((vn hb).trans (F2 a ha))
  refine a_ic fF_image_48 ?_
  exact a_ri fF_image_49 rfl (⟨_, rfl, rfl, rfl, fun a _ _ => F5 a (by omega) (by omega), X.ofi F5 (by omega) ⟨va_up im I9 (some (n + 11)), (F4 46 (by omega)).trans up_s, im_new h9 i2 H4 (fun a ha hb => (F4 a (by omega)).trans ((vn (by omega)).trans ((F1 a (by omega)).trans (vn (by omega))))) n0, im_dis h9 i2⟩⟩)
end PV
