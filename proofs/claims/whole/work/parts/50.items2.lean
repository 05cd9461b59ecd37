section TJ
variable {E : eT} {n : Nat} {h : hT} {tn : Nat} {bt : Nat → Nat}
theorem isH.bq {q : Nat} {N : Nat → Nat} (H : isH h q N) : h (q + 5) = bO (q + 5) (N 31) (N 44) (N 45) := by
  obtain ⟨bn, bw, tf, tm, nf, ng, nd, nm, rw, ⟨_, ⟨a6, _⟩, _⟩, _⟩ := H
  exact a6
/-- a bill's two numbers -/
def rdB (tn : Nat) (bt D : Nat → Nat) (P a : Nat) : (Nat → Nat) × Nat ⊕ Nat :=
  if ¬ D 31 < 6 then .inr P else if ¬ isNo tn bt a 0 99 then .inr (tkP tn bt a) else if ¬ isNo tn bt (tkE tn bt a) 0 99 then .inr (tkP tn bt (tkE tn bt a)) else
  .inl (tbN D (tkV tn bt a 0) (tkV tn bt (tkE tn bt a) 0), tkE tn bt (tkE tn bt a))
theorem c_readBill {a v m P : Nat} {s : Int32} {f : Nat → Int32} {D : Nat → Nat} (h1 : h 57 = tO tn (nI a) (nI P) s (nI v)) (h2 : h 58 = nA 150 bt) (K : okX tn bt) (ha : a ≤ tn) (l1 : h 59 = lO 60 m) (l2 : h 60 = ia 4 f) (H : isH h 29 D) (B : bD D) : fE M_T_readBill E [.ref 57, .ref 29] n h (qI (rdQ tn h n (rdB tn bt D P a))) := by
  refine fE.of (L := [some (.ref 57), some (.ref 29), none]) (by decide +kernel) (Nat.le_of_ble_eq_true rfl) rfl ?_
  have B1 := B.1
  by_cases c0 : D 31 < 6
  · refine a_al1 fT_readBill_0 ?_
    refine a_gf fT_readBill_1 l_T_91 H.o rfl ?_
    refine a_gf fT_readBill_4 l_T_95 H.bq rfl ?_
    refine a_ic fT_readBill_7 ?_
    refine a_ic_ge fT_readBill_9 (fun c_ => absurd c_ (nI_ge (b := 6) c0 (by decide))) (fun _ => ?_)
    by_cases c1 : isNo tn bt a 0 99
    · refine a_al0 fT_readBill_12 ?_
      refine a_ic fT_readBill_13 ?_
      refine a_ic fT_readBill_14 ?_
      refine a_V2V fT_readBill_16 k_T_81 m_T_nextIsNumber ⟨by decide, by decide⟩ h1 rfl ⟨rfl, rfl⟩ (Nat.le_of_ble_eq_true rfl) (c_nextIsNumber h1 h2 K ha (lo := 0) (hi := 99) (by decide) (by decide)) ?_
      refine a_if_ne fT_readBill_19 (fun _ => ?_) (fun c_ => absurd c_ (fun z => by rw [bI_t c1] at z; exact absurd z (by decide)))
      have a1 := tkE_le (bt := bt) ha
      by_cases c2 : isNo tn bt (tkE tn bt a) 0 99
      · refine a_al0 fT_readBill_24 ?_
        refine a_gf fT_readBill_25 l_T_35 up_s rfl ?_
        refine a_is2 fT_readBill_28 (by decide) rfl ?_
        refine a_al0 fT_readBill_29 ?_
        refine a_ic fT_readBill_30 ?_
        refine a_ic fT_readBill_31 ?_
        refine a_V2V fT_readBill_33 k_T_81 m_T_nextIsNumber ⟨by decide, by decide⟩ up_s rfl ⟨rfl, rfl⟩ (Nat.le_of_ble_eq_true rfl) (c_nextIsNumber up_s (up_n (by decide) h2) K a1 (lo := 0) (hi := 99) (by decide) (by decide)) ?_
        refine a_if_ne fT_readBill_36 (fun _ => ?_) (fun c_ => absurd c_ (fun z => by rw [bI_t c2] at z; exact absurd z (by decide)))
        rw [bx_uu, tkV_v c1.1, tkO_v c2.1]
        have H1 : isH (va_up h 57 (tkO tn bt (tkE tn bt a) 0)) 29 D := H.of (fun a _ _ => vn (by omega))
        refine a_al1 fT_readBill_41 ?_
        refine a_il2 fT_readBill_42 ?_
        refine a_al0 fT_readBill_43 ?_
        refine a_gf fT_readBill_44 l_T_35 up_s rfl ?_
        refine a_V2Q fT_readBill_47 k_T_98 m_H_tellBill ⟨by decide, by decide⟩ H1.o rfl ⟨rfl, rfl⟩ (Nat.le_of_ble_eq_true rfl) (c_tellBill H1 B c0) (fun n1 h3 p1 => ?_)
        obtain ⟨hn1, H3, F3⟩ := p1
        subst n1
        have e : rdB tn bt D P a = .inl (tbN D (tkV tn bt a 0) (tkV tn bt (tkE tn bt a) 0), tkE tn bt (tkE tn bt a)) := by unfold rdB; rw [if_neg (not_not_intro c0), if_neg (not_not_intro c1), if_neg (not_not_intro c2)]
        refine a_ic fT_readBill_50 ?_
        exact a_rz fT_readBill_51 rfl (by first | rfl | (split <;> rfl)) (⟨_, rfl, by rw [e]; exact ⟨rfl, fun a h5 h7 _ _ => (F3 a (by omega)).trans (vn h7), ⟨m, f, (F3 59 (by omega)).trans (up_n (by decide) l1), (F3 60 (by omega)).trans (up_n (by decide) l2)⟩, _, _, _, _, (F3 57 (by omega)).trans up_s, rfl, rfl, H3⟩⟩)
      · skip
        refine a_al0 fT_readBill_24 ?_
        refine a_gf fT_readBill_25 l_T_35 up_s rfl ?_
        refine a_is2 fT_readBill_28 (by decide) rfl ?_
        refine a_al0 fT_readBill_29 ?_
        refine a_ic fT_readBill_30 ?_
        refine a_ic fT_readBill_31 ?_
        refine a_V2V fT_readBill_33 k_T_81 m_T_nextIsNumber ⟨by decide, by decide⟩ up_s rfl ⟨rfl, rfl⟩ (Nat.le_of_ble_eq_true rfl) (c_nextIsNumber up_s (up_n (by decide) h2) K a1 (lo := 0) (hi := 99) (by decide) (by decide)) ?_
        refine a_if_ne fT_readBill_36 (fun c_ => absurd (by rw [bI_f c2]) c_) (fun _ => ?_)
        rw [bx_uu]
        refine a_ic fT_readBill_39 ?_
        exact a_rz fT_readBill_40 rfl (by first | rfl | (split <;> rfl)) (⟨_, rfl, rdQ.no H B l1 l2 (by unfold rdB; rw [if_neg (not_not_intro c0), if_neg (not_not_intro c1), if_pos c2])⟩)
    · skip
      refine a_al0 fT_readBill_12 ?_
      refine a_ic fT_readBill_13 ?_
      refine a_ic fT_readBill_14 ?_
      refine a_V2V fT_readBill_16 k_T_81 m_T_nextIsNumber ⟨by decide, by decide⟩ h1 rfl ⟨rfl, rfl⟩ (Nat.le_of_ble_eq_true rfl) (c_nextIsNumber h1 h2 K ha (lo := 0) (hi := 99) (by decide) (by decide)) ?_
      refine a_if_ne fT_readBill_19 (fun c_ => absurd (by rw [bI_f c1]) c_) (fun _ => ?_)
      refine a_ic fT_readBill_22 ?_
      exact a_rz fT_readBill_23 rfl (by first | rfl | (split <;> rfl)) (⟨_, rfl, rdQ.no H B l1 l2 (by unfold rdB; rw [if_neg (not_not_intro c0), if_pos c1])⟩)
  · skip
    refine a_al1 fT_readBill_0 ?_
    refine a_gf fT_readBill_1 l_T_91 H.o rfl ?_
    refine a_gf fT_readBill_4 l_T_95 H.bq rfl ?_
    refine a_ic fT_readBill_7 ?_
    refine a_ic_ge fT_readBill_9 (fun _ => ?_) (fun c_ => absurd (nI_le (a := 6) (by omega) (by omega)) c_)
    have e : rdB tn bt D P a = .inr P := by unfold rdB; rw [if_pos c0]
    refine a_ic fT_readBill_22 ?_
    exact a_rz fT_readBill_23 rfl (by first | rfl | (split <;> rfl)) (⟨_, rfl, by rw [e]; exact ⟨rfl, fun a _ _ _ _ => rfl, ⟨m, f, l1, l2⟩, a, P, v, s, h1, rfl, rfl, D, H, B⟩⟩)
end TJ
