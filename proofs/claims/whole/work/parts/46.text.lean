/-! the text's tokens -/
def srt (tn : Nat) (bt : Nat → Nat) (i : Nat) : Nat :=
  if i < tn then (if 97 ≤ bt i ∧ bt i ≤ 122 then 1 else if 48 ≤ bt i ∧ bt i ≤ 57 then 2 else if bt i = 32 then 4 else if bt i = 59 then 3 else 5) else 0
/-- the first place from a on of another sort than s -/
def skp (tn : Nat) (bt : Nat → Nat) (s : Nat) : Nat → Nat → Nat
  | 0, a => a
  | f + 1, a => if a < tn ∧ srt tn bt a = s then skp tn bt s f (a + 1) else a
theorem skp_ge {tn s : Nat} {bt : Nat → Nat} : ∀ f a, a ≤ skp tn bt s f a
  | 0, a => Nat.le_refl a
  | f + 1, a => by unfold skp; split; · exact Nat.le_of_succ_le (skp_ge f (a + 1))
                   · exact Nat.le_refl a
theorem skp_le {tn s : Nat} {bt : Nat → Nat} : ∀ f a, a ≤ tn → skp tn bt s f a ≤ tn
  | 0, a, h => h
  | f + 1, a, h => by unfold skp; split; · exact skp_le f (a + 1) (by omega)
                      · exact h
theorem skp_in {tn s : Nat} {bt : Nat → Nat} : ∀ f a i, a ≤ i → i < skp tn bt s f a → srt tn bt i = s
  | 0, a, i, h1, h2 => by unfold skp at h2; omega
  | f + 1, a, i, h1, h2 => by
    unfold skp at h2
    split at h2
    · rename_i c
      by_cases e : i = a
      · subst e; exact c.2
      · exact skp_in f (a + 1) i (by omega) h2
    · omega
def okX (tn : Nat) (bt : Nat → Nat) : Prop := tn ≤ 150 ∧ ∀ i, i < tn → bt i ≤ 127
/-- a token from a on: its place, its end, its sort, its value -/
def tkP (tn : Nat) (bt : Nat → Nat) (a : Nat) : Nat := skp tn bt 4 150 a
def tkS0 (tn : Nat) (bt : Nat → Nat) (a : Nat) : Nat := srt tn bt (tkP tn bt a)
def tkE (tn : Nat) (bt : Nat → Nat) (a : Nat) : Nat :=
  if tkS0 tn bt a = 1 ∨ tkS0 tn bt a = 2 then skp tn bt (tkS0 tn bt a) 150 (tkP tn bt a) else if tkP tn bt a < tn then tkP tn bt a + 1 else tkP tn bt a
def tkS (tn : Nat) (bt : Nat → Nat) (a : Nat) : Nat := if tkS0 tn bt a = 2 ∧ 2 < tkE tn bt a - tkP tn bt a then 5 else tkS0 tn bt a
/-- the number that the digits from p to e make -/
def dgs (bt : Nat → Nat) (p : Nat) : Nat → Nat
  | 0 => 0
  | k + 1 => 10 * dgs bt p k + (bt (p + k) - 48)
def tkV (tn : Nat) (bt : Nat → Nat) (a : Nat) (v : Nat) : Nat := if tkS tn bt a = 2 then dgs bt (tkP tn bt a) (tkE tn bt a - tkP tn bt a) else v
section TX
variable {E : eT} {n : Nat} {h : hT} {tn : Nat} {bt : Nat → Nat} {p s v : Int32}
theorem c_sortAt {a : Int32} {i : Nat} (h1 : h 57 = tO tn a p s v) (h2 : h 58 = nA 150 bt) (K : okX tn bt) (hi : i ≤ 150) : fE M_T_sortAt E [.ref 57, .int (nI i)] n h (eV (.int (nI (srt tn bt i))) n h) := by
  refine fE.of (L := [some (.ref 57), some (.int (nI i)), none]) (by decide +kernel) (Nat.le_of_ble_eq_true rfl) rfl ?_
  have k0 := K.1
  refine a_il1 fT_sortAt_0 ?_
  refine a_if_lt fT_sortAt_1 (fun c_ => absurd c_ (fun z => absurd z (Int32.not_lt.mpr (nI_pos' (by omega))))) (fun _ => ?_)
  by_cases c : i < tn
  · refine a_il1 fT_sortAt_4 ?_
    refine a_al0 fT_sortAt_5 ?_
    refine a_gf fT_sortAt_6 l_T_22 h1 rfl ?_
    refine a_ic_ge fT_sortAt_9 (fun c_ => absurd c_ (nI_ge c (by omega))) (fun _ => ?_)
    refine a_il1 fT_sortAt_12 ?_
    refine a_ic fT_sortAt_13 ?_
    refine a_ic_lt fT_sortAt_16 (fun _ => ?_) (fun c_ => absurd ((nI_ltI (b := 150) (by omega) (by decide)).mpr (by omega)) c_)
    have hb := K.2 i c
    refine a_al0 fT_sortAt_21 ?_
    refine a_gf fT_sortAt_22 l_T_9 h1 rfl ?_
    refine a_il1 fT_sortAt_25 ?_
    refine a_ia fT_sortAt_26 h2 rfl (by omega) (by decide) ?_
    refine a_is2 fT_sortAt_27 (by decide) rfl ?_
    by_cases c1 : 97 ≤ bt i ∧ bt i ≤ 122
    · refine a_il2 fT_sortAt_28 ?_
      refine a_ic fT_sortAt_29 ?_
      refine a_ic_lt fT_sortAt_31 (fun c_ => absurd c_ (fun z => absurd ((nI_ltI (b := 97) (by omega) (by decide)).mp z) (by omega))) (fun _ => ?_)
      refine a_il2 fT_sortAt_34 ?_
      refine a_ic fT_sortAt_35 ?_
      refine a_ic_gt fT_sortAt_37 (fun c_ => absurd c_ (fun z => absurd ((nI_ltI (a := 122) (by decide) (by omega)).mp z) (by omega))) (fun _ => ?_)
      refine a_ic fT_sortAt_40 ?_
      exact a_ri fT_sortAt_41 rfl (⟨sv (by rw [show srt tn bt i = 1 by unfold srt; rw [if_pos c, if_pos c1]]; rfl), rfl, rfl⟩)
    · have n1 : fA M_T_sortAt E (fZ M_T_sortAt E (eV (.int (nI (srt tn bt i))) n h)) n h 0 0 42 [some (.ref 57), some (.int (nI i)), some (.int (nI (bt i)))] [] := by
        by_cases c2 : 48 ≤ bt i ∧ bt i ≤ 57
        · refine a_il2 fT_sortAt_42 ?_
          refine a_ic fT_sortAt_43 ?_
          refine a_ic_lt fT_sortAt_45 (fun c_ => absurd c_ (fun z => absurd ((nI_ltI (b := 48) (by omega) (by decide)).mp z) (by omega))) (fun _ => ?_)
          refine a_il2 fT_sortAt_48 ?_
          refine a_ic fT_sortAt_49 ?_
          refine a_ic_gt fT_sortAt_51 (fun c_ => absurd c_ (fun z => absurd ((nI_ltI (a := 57) (by decide) (by omega)).mp z) (by omega))) (fun _ => ?_)
          refine a_ic fT_sortAt_54 ?_
          exact a_ri fT_sortAt_55 rfl (⟨sv (by rw [show srt tn bt i = 2 by unfold srt; rw [if_pos c, if_neg c1, if_pos c2]]; rfl), rfl, rfl⟩)
        · have n2 : fA M_T_sortAt E (fZ M_T_sortAt E (eV (.int (nI (srt tn bt i))) n h)) n h 0 0 56 [some (.ref 57), some (.int (nI i)), some (.int (nI (bt i)))] [] := by
            by_cases c3 : bt i = 32
            · refine a_il2 fT_sortAt_56 ?_
              refine a_ic fT_sortAt_57 ?_
              refine a_ic_ne fT_sortAt_59 (fun c_ => absurd (by rw [c3]; rfl) c_) (fun _ => ?_)
              refine a_ic fT_sortAt_62 ?_
              exact a_ri fT_sortAt_63 rfl (⟨sv (by rw [show srt tn bt i = 4 by unfold srt; rw [if_pos c, if_neg c1, if_neg c2, if_pos c3]]; rfl), rfl, rfl⟩)
            · refine a_il2 fT_sortAt_56 ?_
              refine a_ic fT_sortAt_57 ?_
              refine a_ic_ne fT_sortAt_59 (fun _ => ?_) (fun c_ => absurd c_ (fun z => c3 ((nI_eq (b := 32) (by omega) (by decide)).mp z)))
              by_cases c4 : bt i = 59
              · refine a_il2 fT_sortAt_64 ?_
                refine a_ic fT_sortAt_65 ?_
                refine a_ic_ne fT_sortAt_67 (fun c_ => absurd (by rw [c4]; rfl) c_) (fun _ => ?_)
                refine a_ic fT_sortAt_70 ?_
                refine a_goto fT_sortAt_71 ?_
                exact a_ri fT_sortAt_75 rfl (⟨sv (by rw [show srt tn bt i = 3 by unfold srt; rw [if_pos c, if_neg c1, if_neg c2, if_neg c3, if_pos c4]]; rfl), rfl, rfl⟩)
              · refine a_il2 fT_sortAt_64 ?_
                refine a_ic fT_sortAt_65 ?_
                refine a_ic_ne fT_sortAt_67 (fun _ => ?_) (fun c_ => absurd c_ (fun z => c4 ((nI_eq (b := 59) (by omega) (by decide)).mp z)))
                refine a_ic fT_sortAt_74 ?_
                exact a_ri fT_sortAt_75 rfl (⟨sv (by rw [show srt tn bt i = 5 by unfold srt; rw [if_pos c, if_neg c1, if_neg c2, if_neg c3, if_neg c4]]; rfl), rfl, rfl⟩)
          by_cases c5 : bt i < 48
          · refine a_il2 fT_sortAt_42 ?_
            refine a_ic fT_sortAt_43 ?_
            refine a_ic_lt fT_sortAt_45 (fun _ => ?_) (fun c_ => absurd ((nI_ltI (b := 48) (by omega) (by decide)).mpr c5) c_)
            exact n2
          · refine a_il2 fT_sortAt_42 ?_
            refine a_ic fT_sortAt_43 ?_
            refine a_ic_lt fT_sortAt_45 (fun c_ => absurd c_ (fun z => absurd ((nI_ltI (b := 48) (by omega) (by decide)).mp z) c5)) (fun _ => ?_)
            refine a_il2 fT_sortAt_48 ?_
            refine a_ic fT_sortAt_49 ?_
            refine a_ic_gt fT_sortAt_51 (fun _ => ?_) (fun c_ => absurd ((nI_ltI (a := 57) (by decide) (by omega)).mpr (by omega)) c_)
            exact n2
      by_cases c5 : bt i < 97
      · refine a_il2 fT_sortAt_28 ?_
        refine a_ic fT_sortAt_29 ?_
        refine a_ic_lt fT_sortAt_31 (fun _ => ?_) (fun c_ => absurd ((nI_ltI (b := 97) (by omega) (by decide)).mpr c5) c_)
        exact n1
      · refine a_il2 fT_sortAt_28 ?_
        refine a_ic fT_sortAt_29 ?_
        refine a_ic_lt fT_sortAt_31 (fun c_ => absurd c_ (fun z => absurd ((nI_ltI (b := 97) (by omega) (by decide)).mp z) c5)) (fun _ => ?_)
        refine a_il2 fT_sortAt_34 ?_
        refine a_ic fT_sortAt_35 ?_
        refine a_ic_gt fT_sortAt_37 (fun _ => ?_) (fun c_ => absurd ((nI_ltI (a := 122) (by decide) (by omega)).mpr (by omega)) c_)
        exact n1
  · refine a_il1 fT_sortAt_4 ?_
    refine a_al0 fT_sortAt_5 ?_
    refine a_gf fT_sortAt_6 l_T_22 h1 rfl ?_
    refine a_ic_ge fT_sortAt_9 (fun _ => ?_) (fun c_ => absurd (nI_le (by omega) (by omega)) c_)
    refine a_ic fT_sortAt_19 ?_
    exact a_ri fT_sortAt_20 rfl (⟨sv (by rw [show srt tn bt i = 0 by unfold srt; rw [if_neg c]]; rfl), rfl, rfl⟩)
end TX
