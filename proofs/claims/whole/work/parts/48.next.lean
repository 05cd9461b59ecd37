section TZ
variable {E : eT} {n : Nat} {h : hT} {tn : Nat} {bt : Nat → Nat}
theorem tkP_le {a : Nat} (ha : a ≤ tn) : tkP tn bt a ≤ tn := skp_le 150 a ha
theorem tkE_le {a : Nat} (ha : a ≤ tn) : tkE tn bt a ≤ tn := by
  have hp := tkP_le (bt := bt) ha
  unfold tkE
  repeat' split
  · exact skp_le _ _ hp
  · omega
  · omega
theorem tkE_ge {a : Nat} : tkP tn bt a ≤ tkE tn bt a := by
  unfold tkE
  repeat' split
  · exact skp_ge _ _
  · omega
  · omega
theorem tkP_ge {a : Nat} : a ≤ tkP tn bt a := skp_ge _ _
theorem tkS_2 {a : Nat} (z : tkS tn bt a = 2) : tkS0 tn bt a = 2 ∧ tkE tn bt a - tkP tn bt a ≤ 2 := by
  unfold tkS at z
  split at z
  · omega
  · rename_i c; exact ⟨z, by omega⟩
theorem tkS_le {a : Nat} : tkS tn bt a ≤ 5 := by
  unfold tkS
  split
  · omega
  · exact srt_le
theorem tk_dig {a : Nat} (z : tkS0 tn bt a = 2) : ∀ i, tkP tn bt a ≤ i → i < tkE tn bt a → 48 ≤ bt i ∧ bt i ≤ 57 := by
  intro i h1 h2
  have he0 : tkE tn bt a = skp tn bt 2 150 (tkP tn bt a) := by unfold tkE; rw [if_pos (Or.inr z), z]
  exact srt_2 (skp_in 150 _ i h1 (he0 ▸ h2))
theorem tkV_lt {a v : Nat} (z : tkS tn bt a = 2) : tkV tn bt a v < 100 := by
  obtain ⟨z1, z2⟩ := tkS_2 z
  unfold tkV
  rw [if_pos z]
  have := dgs_lt (bt := bt) (p := tkP tn bt a) (tkE tn bt a - tkP tn bt a) (fun i hi => (tk_dig z1 _ (by omega) (by omega)).2)
  have : (10 : Nat) ^ (tkE tn bt a - tkP tn bt a) ≤ 10 ^ 2 := Nat.pow_le_pow_right (by decide) z2
  omega
/-- the text after the next token -/
abbrev tkO (tn : Nat) (bt : Nat → Nat) (a v : Nat) : cT := tO tn (nI (tkE tn bt a)) (nI (tkP tn bt a)) (nI (tkS tn bt a)) (nI (tkV tn bt a v))
abbrev isNo (tn : Nat) (bt : Nat → Nat) (a lo hi : Nat) : Prop := tkS tn bt a = 2 ∧ lo ≤ tkV tn bt a 0 ∧ tkV tn bt a 0 ≤ hi
theorem tkV_v {a v : Nat} (z : tkS tn bt a = 2) : tkV tn bt a v = tkV tn bt a 0 := by unfold tkV; rw [if_pos z, if_pos z]
theorem c_nextIsNumber {a v lo hi : Nat} {p s : Int32} (h1 : h 57 = tO tn (nI a) p s (nI v)) (h2 : h 58 = nA 150 bt) (K : okX tn bt) (ha : a ≤ tn) (b1 : lo ≤ 100) (b2 : hi ≤ 100) : fE M_T_nextIsNumber E [.ref 57, .int (nI lo), .int (nI hi)] n h (eV (.int (bI (isNo tn bt a lo hi))) n (va_up h 57 (tkO tn bt a v))) := by
  refine fE.of (L := [some (.ref 57), some (.int (nI lo)), some (.int (nI hi))]) (by decide +kernel) (Nat.le_of_ble_eq_true rfl) rfl ?_
  refine a_al0 fT_nextIsNumber_0 ?_
  refine a_V0N fT_nextIsNumber_1 k_T_43 m_T_nextToken ⟨by decide, by decide⟩ h1 rfl ⟨rfl, rfl⟩ (Nat.le_of_ble_eq_true rfl) (c_nextToken h1 h2 K ha) ?_
  have k1 := tkS_le (tn := tn) (bt := bt) (a := a)
  by_cases c : tkS tn bt a = 2
  · refine a_al0 fT_nextIsNumber_4 ?_
    refine a_gf fT_nextIsNumber_5 l_T_32 up_s rfl ?_
    refine a_ic fT_nextIsNumber_8 ?_
    refine a_ic_ne fT_nextIsNumber_9 (fun c_ => absurd (by rw [c]; rfl) c_) (fun _ => ?_)
    have k2 := tkV_lt (v := v) c
    have k3 : nI lo ≤ nI (tkV tn bt a v) ∧ nI (tkV tn bt a v) ≤ nI hi ↔ isNo tn bt a lo hi := by
      rw [nI_leI (by omega) (by omega), nI_leI (by omega) (by omega), tkV_v c]
      exact ⟨fun z => ⟨c, z⟩, fun z => z.2⟩
    by_cases d : isNo tn bt a lo hi
    · refine a_al0 fT_nextIsNumber_12 ?_
      refine a_gf fT_nextIsNumber_13 l_T_35 up_s rfl ?_
      refine a_il1 fT_nextIsNumber_16 ?_
      refine a_il2 fT_nextIsNumber_17 ?_
      refine a_S3V fT_nextIsNumber_18 k_T_117 m_F_within ⟨by decide, by decide⟩ ⟨rfl, rfl⟩ (Nat.le_of_ble_eq_true rfl) (c_within) ?_
      refine a_if_eq fT_nextIsNumber_21 (fun c_ => absurd c_ (fun z => by rw [bI_t (k3.mpr d)] at z; exact absurd z (by decide))) (fun _ => ?_)
      refine a_ic fT_nextIsNumber_24 ?_
      refine a_goto fT_nextIsNumber_25 ?_
      exact a_rz fT_nextIsNumber_29 rfl (by first | rfl | (split <;> rfl)) (⟨sv (by rw [bI_t d]), rfl, rfl⟩)
    · refine a_al0 fT_nextIsNumber_12 ?_
      refine a_gf fT_nextIsNumber_13 l_T_35 up_s rfl ?_
      refine a_il1 fT_nextIsNumber_16 ?_
      refine a_il2 fT_nextIsNumber_17 ?_
      refine a_S3V fT_nextIsNumber_18 k_T_117 m_F_within ⟨by decide, by decide⟩ ⟨rfl, rfl⟩ (Nat.le_of_ble_eq_true rfl) (c_within) ?_
      refine a_if_eq fT_nextIsNumber_21 (fun _ => ?_) (fun c_ => absurd (by rw [bI_f (fun z => d (k3.mp z))]) c_)
      refine a_ic fT_nextIsNumber_28 ?_
      exact a_rz fT_nextIsNumber_29 rfl (by first | rfl | (split <;> rfl)) (⟨sv (by rw [bI_f d]), rfl, rfl⟩)
  · refine a_al0 fT_nextIsNumber_4 ?_
    refine a_gf fT_nextIsNumber_5 l_T_32 up_s rfl ?_
    refine a_ic fT_nextIsNumber_8 ?_
    refine a_ic_ne fT_nextIsNumber_9 (fun _ => ?_) (fun c_ => absurd c_ (fun z => c ((nI_eq (b := 2) (by omega) (by decide)).mp z)))
    refine a_ic fT_nextIsNumber_28 ?_
    exact a_rz fT_nextIsNumber_29 rfl (by first | rfl | (split <;> rfl)) (⟨sv (by rw [bI_f (fun z => c z.1)]), rfl, rfl⟩)
theorem c_nextIsStop {a v : Nat} {p s : Int32} (h1 : h 57 = tO tn (nI a) p s (nI v)) (h2 : h 58 = nA 150 bt) (K : okX tn bt) (ha : a ≤ tn) : fE M_T_nextIsStop E [.ref 57] n h (eV (.int (bI (tkS tn bt a = 3))) n (va_up h 57 (tkO tn bt a v))) := by
  refine fE.of (L := [some (.ref 57)]) (by decide +kernel) (Nat.le_of_ble_eq_true rfl) rfl ?_
  refine a_al0 fT_nextIsStop_0 ?_
  refine a_V0N fT_nextIsStop_1 k_T_43 m_T_nextToken ⟨by decide, by decide⟩ h1 rfl ⟨rfl, rfl⟩ (Nat.le_of_ble_eq_true rfl) (c_nextToken h1 h2 K ha) ?_
  have k1 := tkS_le (tn := tn) (bt := bt) (a := a)
  by_cases c : tkS tn bt a = 3
  · refine a_al0 fT_nextIsStop_4 ?_
    refine a_gf fT_nextIsStop_5 l_T_32 up_s rfl ?_
    refine a_ic fT_nextIsStop_8 ?_
    refine a_ic_ne fT_nextIsStop_9 (fun c_ => absurd (by rw [c]; rfl) c_) (fun _ => ?_)
    refine a_ic fT_nextIsStop_12 ?_
    refine a_goto fT_nextIsStop_13 ?_
    exact a_rz fT_nextIsStop_17 rfl (by first | rfl | (split <;> rfl)) (⟨sv (by rw [bI_t c]), rfl, rfl⟩)
  · refine a_al0 fT_nextIsStop_4 ?_
    refine a_gf fT_nextIsStop_5 l_T_32 up_s rfl ?_
    refine a_ic fT_nextIsStop_8 ?_
    refine a_ic_ne fT_nextIsStop_9 (fun _ => ?_) (fun c_ => absurd c_ (fun z => c ((nI_eq (b := 3) (by omega) (by decide)).mp z)))
    refine a_ic fT_nextIsStop_16 ?_
    exact a_rz fT_nextIsStop_17 rfl (by first | rfl | (split <;> rfl)) (⟨sv (by rw [bI_f c]), rfl, rfl⟩)
end TZ
