section RX
variable {E : eT} {n : Nat} {h : hT} {N : Nat → Nat} {I : Nat → Option (Nat → Nat)} {tn : Nat} {bt : Nat → Nat} {ab be rb rn rf : Nat}
def rdO (N : Nat → Nat) (o : (Nat → Nat) × Nat ⊕ Nat) : (Nat → Nat) × Int32 := match o with
  | .inl x => (x.1, nI x.2)
  | .inr f => (N, -10 - nI f)
theorem x_read (X : XS h n N I tn bt ab be rb rn rf) (KX : okX tn bt) : fE M_F_read E [.ref 11] n h (qI (fun r k g => r = (rdO N (rdA tn bt 151 0 N0 0)).2 ∧ k = n ∧ fM h g ∧ XS g n (rdO N (rdA tn bt 151 0 N0 0)).1 I tn bt ab be rb rn rf)) := by
  obtain ⟨⟨x1, x2⟩, HN, ⟨M, HM, bM⟩, kS9, sS9, ⟨ta, tp, ts, tv, x57⟩, ⟨x58, lm, lf, x59, x60⟩, ln, im⟩ := X
  refine fE.of (L := [some (.ref 11), none]) (by decide +kernel) (Nat.le_of_ble_eq_true rfl) rfl ?_
  refine a_al0 fF_read_0 ?_
  refine a_gf fF_read_1 l_F_40 x1 rfl ?_
  refine a_al0 fF_read_4 ?_
  refine a_gf fF_read_5 l_F_16 x1 rfl ?_
  refine a_V1I fF_read_8 k_F_118 m_T_readInto ⟨by decide, by decide⟩ x57 rfl ⟨rfl, rfl⟩ (Nat.le_of_ble_eq_true rfl) (c_readInto x57 x58 KX x59 x60 HM) (fun r1 n1 h3 p1 => ?_)
  refine a_is1 fF_read_11 (by decide) rfl ?_
  obtain ⟨hn1, fr, ⟨m3, f3, l1, l2⟩, A, P, V, S, q5, q6⟩ := p1
  subst n1
  have HN3 : isH h3 12 N := HN.of (fun a h5 h6 => fr a (by omega) (by omega) (by omega) (by omega))
  have x13 : h3 11 = fO ab be rb rn rf := (fr 11 (by omega) (by omega) (by omega) (by omega)).trans x1
  have x583 : h3 58 = nA 150 bt := (fr 58 (by omega) (by omega) (by omega) (by omega)).trans x58
  have kS3 : kS h3 := by
    obtain ⟨m, f, D, W, ob, cd, op, dp, k7, k8, k9, k0, k1, k2, k3, kw⟩ := kS9
    exact ⟨m, f, D, W, ob, cd, op, dp, (fr _ (by omega) (by omega) (by omega) (by omega)).trans k7, (fr _ (by omega) (by omega) (by omega) (by omega)).trans k8, (fr _ (by omega) (by omega) (by omega) (by omega)).trans k9, (fr _ (by omega) (by omega) (by omega) (by omega)).trans k0, (fr _ (by omega) (by omega) (by omega) (by omega)).trans k1, (fr _ (by omega) (by omega) (by omega) (by omega)).trans k2, (fr _ (by omega) (by omega) (by omega) (by omega)).trans k3, kw⟩
  have sS3 : sS h3 := by
    obtain ⟨s4, m, f, s5, s6⟩ := sS9
    exact ⟨(fr _ (by omega) (by omega) (by omega) (by omega)).trans s4, m, f, (fr _ (by omega) (by omega) (by omega) (by omega)).trans s5, (fr _ (by omega) (by omega) (by omega) (by omega)).trans s6⟩
  have ln3 : ∃ m f, h3 61 = lO 62 m ∧ h3 62 = ia 4 f := by
    obtain ⟨m, f, l1, l2⟩ := ln
    exact ⟨m, f, (fr _ (by omega) (by omega) (by omega) (by omega)).trans l1, (fr _ (by omega) (by omega) (by omega) (by omega)).trans l2⟩
  have im3 : iS h3 n I := im.of (fun a ha => fr a (by omega) (by omega) (by omega) (by omega))
  have fm : fM h h3 := fun a a1 a2 => fr a (by omega) (by omega) (by omega) (by omega)
  cases eo : rdA tn bt 151 0 N0 0 with
  | inr ff =>
    rw [eo] at q6
    obtain ⟨rfl, rfl, -, D2, H2, B2⟩ := q6
    refine a_il1 fF_read_12 ?_
    refine a_ic fF_read_13 ?_
    refine a_ic_ne fF_read_14 (fun c_ => absurd (rfl) c_) (fun _ => ?_)
    refine a_ic fF_read_17 ?_
    refine a_al0 fF_read_19 ?_
    refine a_gf fF_read_20 l_F_40 x13 rfl ?_
    refine a_gf fF_read_23 l_F_122 q5 rfl ?_
    refine a_isub fF_read_26 ?_
    exact a_ri fF_read_27 rfl (⟨_, rfl, rfl, rfl, fm, ⟨x13, x2⟩, HN3, ⟨D2, H2, B2⟩, kS3, sS3, ⟨_, _, _, _, q5⟩, ⟨x583, m3, f3, l1, l2⟩, ln3, im3⟩)
  | inl x =>
    rw [eo] at q6
    obtain ⟨rfl, q7, H2, K2⟩ := q6
    refine a_il1 fF_read_12 ?_
    refine a_ic fF_read_13 ?_
    refine a_ic_ne fF_read_14 (fun _ => ?_) (fun c_ => absurd c_ (nI_nm1 (by omega)))
    refine a_al0 fF_read_28 ?_
    refine a_gf fF_read_29 l_F_10 x13 rfl ?_
    refine a_al0 fF_read_32 ?_
    refine a_gf fF_read_33 l_F_16 x13 rfl ?_
    refine a_V1Q fF_read_36 k_F_125 m_H_become ⟨by decide, by decide⟩ HN3.o rfl ⟨rfl, rfl⟩ (Nat.le_of_ble_eq_true rfl) (c_Hbecome (q := 12) (o := 29) HN3 H2 (by omega) K2.2.2.1) (fun n2 h4 p2 => ?_)
    obtain ⟨hn2, H4, F4⟩ := p2
    subst n2
    have X3 : XS h3 n N I tn bt ab be rb rn rf := ⟨⟨x13, x2⟩, HN3, ⟨x.1, H2, K2.2.2.1⟩, kS3, sS3, ⟨_, _, _, _, q5⟩, ⟨x583, m3, f3, l1, l2⟩, ln3, im3⟩
    refine a_il1 fF_read_39 ?_
    exact a_ri fF_read_40 rfl (⟨_, rfl, rfl, rfl, fun a a1 a2 => (F4 a (by omega)).trans (fm a a1 a2), X3.ofq F4 H4⟩)
end RX
