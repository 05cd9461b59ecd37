section TK
variable {E : eT} {n : Nat} {h : hT} {tn : Nat} {bt : Nat → Nat}
theorem isH.vq {q : Nat} {N : Nat → Nat} (H : isH h q N) : h q = hO q ∧ h (q + 1) = nA 10 (sl N 0 10) ∧ h (q + 2) = nA 10 (sl N 10 10) ∧ h (q + 3) = sO (q + 4) (N 30) ∧ h (q + 4) = nA 10 (sl N 20 10) := by
  obtain ⟨bn, bw, tf, tm, nf, ng, nd, nm, rw, ⟨a, _⟩, _⟩ := H
  exact a
/-- a night's number -/
def rdN (tn : Nat) (bt D : Nat → Nat) (a : Nat) : (Nat → Nat) × Nat ⊕ Nat :=
  if ¬ isNo tn bt a 1 60 then .inr (tkP tn bt a) else .inl (ngt (tkV tn bt a 0) D, tkE tn bt a)
theorem c_readNight {a v m : Nat} {p s : Int32} {f : Nat → Int32} {D : Nat → Nat} (h1 : h 57 = tO tn (nI a) p s (nI v)) (h2 : h 58 = nA 150 bt) (K : okX tn bt) (ha : a ≤ tn) (l1 : h 59 = lO 60 m) (l2 : h 60 = ia 4 f) (H : isH h 29 D) (B : okN D) : fE M_T_readNight E [.ref 57, .ref 29] n h (qI (rdQ tn h n (rdN tn bt D a))) := by
  refine fE.of (L := [some (.ref 57), some (.ref 29)]) (by decide +kernel) (Nat.le_of_ble_eq_true rfl) rfl ?_
  by_cases c1 : isNo tn bt a 1 60
  · refine a_al0 fT_readNight_0 ?_
    refine a_ic fT_readNight_1 ?_
    refine a_ic fT_readNight_2 ?_
    refine a_V2V fT_readNight_4 k_T_81 m_T_nextIsNumber ⟨by decide, by decide⟩ h1 rfl ⟨rfl, rfl⟩ (Nat.le_of_ble_eq_true rfl) (c_nextIsNumber h1 h2 K ha (lo := 1) (hi := 60) (by decide) (by decide)) ?_
    refine a_if_ne fT_readNight_7 (fun _ => ?_) (fun c_ => absurd c_ (fun z => by rw [bI_t c1] at z; exact absurd z (by decide)))
    rw [tkO_v c1.1]
    have H1 : isH (va_up h 57 (tkO tn bt a 0)) 29 D := H.of (fun a _ _ => vn (by omega))
    have V1 := H1.vq
    refine a_al1 fT_readNight_12 ?_
    refine a_al0 fT_readNight_13 ?_
    refine a_gf fT_readNight_14 l_T_35 up_s rfl ?_
    refine a_V1N fT_readNight_17 k_T_113 m_H_sleep ⟨by decide, by decide⟩ H1.o rfl ⟨rfl, rfl⟩ (Nat.le_of_ble_eq_true rfl) (c_sleep (q := 29) (N := D) V1.1 V1.2.1 V1.2.2.2.1 V1.2.2.2.2 (fun f hf => (B.1 f hf).1) (fun f hf => by have := B.1 f hf; omega) B.2.1 (m := tkV tn bt a 0) c1.2.2) ?_
    have H3 := H1.wd (M := ngt (tkV tn bt a 0) D) (fun i hi => ngt_out _ _ i hi)
    have F3 : frq 29 (va_up h 57 (tkO tn bt a 0)) _ := frq_wd (q := 29) (x := nA 10 (sl (ngt (tkV tn bt a 0) D) 20 10)) (w := sO (29 + 4) (ngt (tkV tn bt a 0) D 30))
    have e : rdN tn bt D a = .inl (ngt (tkV tn bt a 0) D, tkE tn bt a) := by unfold rdN; rw [if_neg (not_not_intro c1)]
    refine a_ic fT_readNight_20 ?_
    exact a_rz fT_readNight_21 rfl (by first | rfl | (split <;> rfl)) (⟨_, rfl, by rw [e]; exact ⟨rfl, fun a h5 h7 _ _ => (F3 a (by omega)).trans (vn h7), ⟨m, f, (F3 59 (by omega)).trans (up_n (by decide) l1), (F3 60 (by omega)).trans (up_n (by decide) l2)⟩, _, _, _, _, (F3 57 (by omega)).trans up_s, rfl, rfl, H3⟩⟩)
  · skip
    refine a_al0 fT_readNight_0 ?_
    refine a_ic fT_readNight_1 ?_
    refine a_ic fT_readNight_2 ?_
    refine a_V2V fT_readNight_4 k_T_81 m_T_nextIsNumber ⟨by decide, by decide⟩ h1 rfl ⟨rfl, rfl⟩ (Nat.le_of_ble_eq_true rfl) (c_nextIsNumber h1 h2 K ha (lo := 1) (hi := 60) (by decide) (by decide)) ?_
    refine a_if_ne fT_readNight_7 (fun c_ => absurd (by rw [bI_f c1]) c_) (fun _ => ?_)
    refine a_ic fT_readNight_10 ?_
    exact a_rz fT_readNight_11 rfl (by first | rfl | (split <;> rfl)) (⟨_, rfl, rdQ.no H B.2.2.1 l1 l2 (by unfold rdN; rw [if_pos c1])⟩)
end TK
