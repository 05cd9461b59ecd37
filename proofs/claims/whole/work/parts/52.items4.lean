section TL
variable {E : eT} {n : Nat} {h : hT} {tn : Nat} {bt : Nat → Nat}
abbrev canD (D : Nat → Nat) (v x : Nat) : Prop := can (sl D 0 10) (sl D 10 10) (sl D 20 10) (D 30) (sgn v x)
/-- a line's two numbers -/
def rdW (tn : Nat) (bt D : Nat → Nat) (a : Nat) : (Nat → Nat) × Nat ⊕ Nat :=
  if ¬ isNo tn bt a 0 99 then .inr (tkP tn bt a) else if ¬ isNo tn bt (tkE tn bt a) 0 99 then .inr (tkP tn bt (tkE tn bt a)) else if ¬ canD D (tkV tn bt a 0) (tkV tn bt (tkE tn bt a) 0) then .inr (tkP tn bt (tkE tn bt a)) else
  .inl (wdN D (sgn (tkV tn bt a 0) (tkV tn bt (tkE tn bt a) 0)), tkE tn bt (tkE tn bt a))
theorem c_readWrite {a v m : Nat} {p s : Int32} {f : Nat → Int32} {D : Nat → Nat} (h1 : h 57 = tO tn (nI a) p s (nI v)) (h2 : h 58 = nA 150 bt) (K : okX tn bt) (ha : a ≤ tn) (l1 : h 59 = lO 60 m) (l2 : h 60 = ia 4 f) (H : isH h 29 D) (B : okN D) : fE M_T_readWrite E [.ref 57, .ref 29] n h (qI (rdQ tn h n (rdW tn bt D a))) := by
  have O := B.c
  refine fE.of (L := [some (.ref 57), some (.ref 29), none]) (by decide +kernel) (Nat.le_of_ble_eq_true rfl) rfl ?_
  by_cases c1 : isNo tn bt a 0 99
  · refine a_al0 fT_readWrite_0 ?_
    refine a_ic fT_readWrite_1 ?_
    refine a_ic fT_readWrite_2 ?_
    refine a_V2V fT_readWrite_4 k_T_81 m_T_nextIsNumber ⟨by decide, by decide⟩ h1 rfl ⟨rfl, rfl⟩ (Nat.le_of_ble_eq_true rfl) (c_nextIsNumber h1 h2 K ha (lo := 0) (hi := 99) (by decide) (by decide)) ?_
    refine a_if_ne fT_readWrite_7 (fun _ => ?_) (fun c_ => absurd c_ (fun z => by rw [bI_t c1] at z; exact absurd z (by decide)))
    have a1 := tkE_le (bt := bt) ha
    by_cases c2 : isNo tn bt (tkE tn bt a) 0 99
    · refine a_al0 fT_readWrite_12 ?_
      refine a_gf fT_readWrite_13 l_T_35 up_s rfl ?_
      refine a_is2 fT_readWrite_16 (by decide) rfl ?_
      refine a_al0 fT_readWrite_17 ?_
      refine a_ic fT_readWrite_18 ?_
      refine a_ic fT_readWrite_19 ?_
      refine a_V2V fT_readWrite_21 k_T_81 m_T_nextIsNumber ⟨by decide, by decide⟩ up_s rfl ⟨rfl, rfl⟩ (Nat.le_of_ble_eq_true rfl) (c_nextIsNumber up_s (up_n (by decide) h2) K a1 (lo := 0) (hi := 99) (by decide) (by decide)) ?_
      refine a_if_ne fT_readWrite_24 (fun _ => ?_) (fun c_ => absurd c_ (fun z => by rw [bI_t c2] at z; exact absurd z (by decide)))
      rw [bx_uu, tkV_v c1.1, tkO_v c2.1]
      have v1 := tkV_lt (v := 0) c1.1
      have v2 := tkV_lt (v := 0) c2.1
      refine a_al0 fT_readWrite_29 ?_
      refine a_gf fT_readWrite_30 l_T_18 up_s rfl ?_
      refine a_il2 fT_readWrite_33 ?_
      refine a_al0 fT_readWrite_34 ?_
      refine a_gf fT_readWrite_35 l_T_35 up_s rfl ?_
      refine a_V2Q fT_readWrite_38 k_T_102 m_L_tell ⟨by decide, by decide⟩ (up_n (by decide) l1) rfl ⟨rfl, rfl⟩ (Nat.le_of_ble_eq_true rfl) (c_tell (l := 59) (up_n (by decide) l1) (up_n (by decide) l2) v1 v2) (fun n1 h3 p1 => ?_)
      obtain ⟨hn1, g2, q1, q2⟩ := p1
      subst n1
      have F3 : ∀ a, a ≠ 57 → a ≠ 59 → a ≠ 60 → h3 a = h a := fun a b1 b2 b3 => by rw [q2]; exact up_n b3 (up_n b2 (vn b1))
      have t1 : h3 57 = tO tn (nI (tkE tn bt (tkE tn bt a))) (nI (tkP tn bt (tkE tn bt a))) (nI (tkS tn bt (tkE tn bt a))) (nI (tkV tn bt (tkE tn bt a) 0)) := by rw [q2]; exact up_n (by decide) (up_n (by decide) up_s)
      have t2 : h3 59 = lO 60 (sgn (tkV tn bt a 0) (tkV tn bt (tkE tn bt a) 0)).length := by rw [q2]; exact up_n (by decide) up_s
      have t3 : h3 60 = ia 4 g2 := by rw [q2]; exact up_s
      have H3 : isH h3 29 D := H.of (fun a _ _ => F3 a (by omega) (by omega) (by omega))
      have V3 := H3.vq
      clear q2
      refine a_al1 fT_readWrite_41 ?_
      refine a_al1 fT_readWrite_42 ?_
      refine a_gf fT_readWrite_43 l_T_105 V3.1 rfl ?_
      refine a_al0 fT_readWrite_46 ?_
      refine a_gf fT_readWrite_47 l_T_18 t1 rfl ?_
      refine a_V2V fT_readWrite_50 k_T_109 m_H_puts ⟨by decide, by decide⟩ V3.1 rfl ⟨rfl, rfl⟩ (Nat.le_of_ble_eq_true rfl) (c_puts (q := 29) (s := 32) (l := 59) V3.1 V3.2.1 V3.2.2.1 V3.2.2.2.1 V3.2.2.2.2 t2 t3 q1 O.K O.S O.W O.D (by omega) (by omega)) ?_
      by_cases c3 : canD D (tkV tn bt a 0) (tkV tn bt (tkE tn bt a) 0)
      · rw [if_pos c3, bI_t c3]
        have es := sl_wd (N := D) (sg := sgn (tkV tn bt a 0) (tkV tn bt (tkE tn bt a) 0)) (sg_lt q1)
        have H4 : isH (va_up h3 (32 + 1) (nA 10 (wad (sl D 0 10) (D 30) 0 (sgn (tkV tn bt a 0) (tkV tn bt (tkE tn bt a) 0)) (sl D 20 10)))) 29 (wdN D (sgn (tkV tn bt a 0) (tkV tn bt (tkE tn bt a) 0))) := by
          have := H3.wd (M := wdN D (sgn (tkV tn bt a 0) (tkV tn bt (tkE tn bt a) 0))) (fun i hi => by unfold wdN; rw [if_neg (by omega)])
          rw [es, show wdN D (sgn (tkV tn bt a 0) (tkV tn bt (tkE tn bt a) 0)) 30 = D 30 from by unfold wdN; rw [if_neg (by omega)]] at this
          rw [up_id (show va_up h3 (29 + 4) (nA 10 (wad (sl D 0 10) (D 30) 0 (sgn (tkV tn bt a 0) (tkV tn bt (tkE tn bt a) 0)) (sl D 20 10))) (29 + 3) = sO (29 + 4) (D 30) from up_n (by decide) V3.2.2.2.1)] at this
          exact this
        have e : rdW tn bt D a = .inl (wdN D (sgn (tkV tn bt a 0) (tkV tn bt (tkE tn bt a) 0)), tkE tn bt (tkE tn bt a)) := by unfold rdW; rw [if_neg (not_not_intro c1), if_neg (not_not_intro c2), if_neg (not_not_intro c3)]
        exact a_rz fT_readWrite_53 rfl (by first | rfl | (split <;> rfl)) (⟨_, rfl, by rw [e]; exact ⟨rfl, fun a h5 h7 h8 h9 => up_n (by omega) (F3 a h7 h8 h9), ⟨_, _, up_n (by decide) t2, up_n (by decide) t3⟩, _, _, _, _, up_n (by decide) t1, rfl, rfl, H4⟩⟩)
      · rw [if_neg c3, bI_f c3, up_id V3.2.2.2.2]
        have e : rdW tn bt D a = .inr (tkP tn bt (tkE tn bt a)) := by unfold rdW; rw [if_neg (not_not_intro c1), if_neg (not_not_intro c2), if_pos c3]
        exact a_rz fT_readWrite_53 rfl (by first | rfl | (split <;> rfl)) (⟨_, rfl, by rw [e]; exact ⟨rfl, fun a h5 h7 h8 h9 => F3 a h7 h8 h9, ⟨_, _, t2, t3⟩, _, _, _, _, t1, rfl, rfl, D, H3, B.2.2.1⟩⟩)
    · skip
      refine a_al0 fT_readWrite_12 ?_
      refine a_gf fT_readWrite_13 l_T_35 up_s rfl ?_
      refine a_is2 fT_readWrite_16 (by decide) rfl ?_
      refine a_al0 fT_readWrite_17 ?_
      refine a_ic fT_readWrite_18 ?_
      refine a_ic fT_readWrite_19 ?_
      refine a_V2V fT_readWrite_21 k_T_81 m_T_nextIsNumber ⟨by decide, by decide⟩ up_s rfl ⟨rfl, rfl⟩ (Nat.le_of_ble_eq_true rfl) (c_nextIsNumber up_s (up_n (by decide) h2) K a1 (lo := 0) (hi := 99) (by decide) (by decide)) ?_
      refine a_if_ne fT_readWrite_24 (fun c_ => absurd (by rw [bI_f c2]) c_) (fun _ => ?_)
      rw [bx_uu]
      refine a_ic fT_readWrite_27 ?_
      exact a_rz fT_readWrite_28 rfl (by first | rfl | (split <;> rfl)) (⟨_, rfl, rdQ.no H B.2.2.1 l1 l2 (by unfold rdW; rw [if_neg (not_not_intro c1), if_pos c2])⟩)
  · skip
    refine a_al0 fT_readWrite_0 ?_
    refine a_ic fT_readWrite_1 ?_
    refine a_ic fT_readWrite_2 ?_
    refine a_V2V fT_readWrite_4 k_T_81 m_T_nextIsNumber ⟨by decide, by decide⟩ h1 rfl ⟨rfl, rfl⟩ (Nat.le_of_ble_eq_true rfl) (c_nextIsNumber h1 h2 K ha (lo := 0) (hi := 99) (by decide) (by decide)) ?_
    refine a_if_ne fT_readWrite_7 (fun c_ => absurd (by rw [bI_f c1]) c_) (fun _ => ?_)
    refine a_ic fT_readWrite_10 ?_
    exact a_rz fT_readWrite_11 rfl (by first | rfl | (split <;> rfl)) (⟨_, rfl, rdQ.no H B.2.2.1 l1 l2 (by unfold rdW; rw [if_pos c1])⟩)
end TL
