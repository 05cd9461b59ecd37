/-! the clerk: odds -/
abbrev cfR (N : Nat → Nat) (v x free : Nat) : Prop := bear (sl N 10 10) (wfr (sl N 0 10) (N 30) free 0 (sgn v x) (sl N 20 10)) (sgn v x)
section K5
variable {E : eT} {n : Nat} {h : hT} {N : Nat → Nat}
theorem c_bearsFree {free : Nat} {sg : List Nat} {lg : Nat → Int32} (V : hv h N) (S : kS h) (O : okC N) (hl : h 61 = lO 62 sg.length) (hg : h 62 = ia 4 lg) (hsg : isSg lg sg) (hf : free < 64) : fE M_K_bearsFree E [.ref 47, .ref 12, .ref 61, .int (nI free)] n h (qI (fun r k g => r = bI (bear (sl N 10 10) (wfr (sl N 0 10) (N 30) free 0 sg (sl N 20 10)) sg) ∧ k = n ∧ kS g ∧ frk h g)) := by
  have h4 := hsg.1
  have loop : ∀ (r : List Nat) (i : Nat) (g : hT) (m : Nat) (f : Nat → Int32) (W ob cd Wz : Nat → Nat) (op dp : Int32) (D : Nat) (x5 : Option Value), D = N 30 → sg.drop i = r → i ≤ sg.length → hv g N → g 47 = kO op dp → g 48 = lO 49 m → g 49 = ia 4 f → g 50 = sO 51 D → g 51 = nA 10 W → g 52 = nA 6 ob → g 53 = nA 6 cd → kz W → frk h g → wfr (sl N 0 10) (N 30) free i r W = Wz → fA M_K_bearsFree E (fZ M_K_bearsFree E (qI (fun r k g => r = bI (bear (sl N 10 10) (wfr (sl N 0 10) (N 30) free 0 sg (sl N 20 10)) sg) ∧ k = n ∧ kS g ∧ frk h g))) n g 0 0 14 [some (.ref 47), some (.ref 12), some (.ref 61), some (.int (nI free)), some (.int (nI i)), x5] [] ∨ ¬ Wz = wfr (sl N 0 10) (N 30) free 0 sg (sl N 20 10) := by
    intro r
    induction r with
    | nil =>
      intro i g m f W ob cd Wz op dp D x5 hD hr hi V k7 k8 k9 k0 k1 k2 k3 kw Fr hW
      by_cases hz : Wz = wfr (sl N 0 10) (N 30) free 0 sg (sl N 20 10)
      · left
        have L1 : g 61 = lO 62 sg.length := (Fr _ (by omega)).trans hl
        have L2 : g 62 = ia 4 lg := (Fr _ (by omega)).trans hg
        have e : W = wfr (sl N 0 10) (N 30) free 0 sg (sl N 20 10) := by rw [← hz, ← hW]; rfl
        refine a_il4 fK_bearsFree_14 ?_
        refine a_al2 fK_bearsFree_16 ?_
        refine a_gf fK_bearsFree_17 l_K_121 L1 rfl ?_
        refine a_ic_ge fK_bearsFree_20 (fun _ => ?_) (fun c_ => absurd (nI_le (dropn hr) (by omega)) c_)
        refine a_al1 fK_bearsFree_79 ?_
        refine a_al0 fK_bearsFree_80 ?_
        refine a_gf fK_bearsFree_81 l_K_21 k7 rfl ?_
        refine a_al2 fK_bearsFree_84 ?_
        refine a_V2V fK_bearsFree_85 k_K_147 m_H_bears ⟨by decide, by decide⟩ V.1 rfl ⟨rfl, rfl⟩ (Nat.le_of_ble_eq_true rfl) (c_bears (q := 12) (s := 50) (l := 61) V.1 V.2.2.1 k0 k1 L1 L2 hsg (fun f hf => Nat.le_trans (O.S f hf) (by decide)) (fun f hf => by rw [e]; have := wfr_le (K := sl N 0 10) (D := N 30) (free := free) sg 0 (sl N 20 10) f (by omega); have := O.W f hf; omega)) ?_
        exact a_rz fK_bearsFree_88 rfl (bI_n _) ⟨_, rfl, by rw [e], rfl, ⟨m, f, D, W, ob, cd, op, dp, k7, k8, k9, k0, k1, k2, k3, kw⟩, Fr⟩
      · exact Or.inr hz
    | cons f0 r ih =>
      intro i g m f W ob cd Wz op dp D x5 hD hr hi V k7 k8 k9 k0 k1 k2 k3 kw Fr hW
      by_cases hz : Wz = wfr (sl N 0 10) (N 30) free 0 sg (sl N 20 10)
      · left
        have L1 : g 61 = lO 62 sg.length := (Fr _ (by omega)).trans hl
        have L2 : g 62 = ia 4 lg := (Fr _ (by omega)).trans hg
        obtain ⟨h1, h2, h3⟩ := dropc hr
        obtain ⟨g1, g2⟩ := hsg.2 i f0 h2
        refine a_il4 fK_bearsFree_14 ?_
        refine a_al2 fK_bearsFree_16 ?_
        refine a_gf fK_bearsFree_17 l_K_121 L1 rfl ?_
        refine a_ic_ge fK_bearsFree_20 (fun c_ => absurd c_ (nI_ge h1 (by omega))) (fun _ => ?_)
        refine a_il3 fK_bearsFree_23 ?_
        refine a_il4 fK_bearsFree_24 ?_
        refine a_ishr fK_bearsFree_26 ?_
        refine a_ic fK_bearsFree_27 ?_
        refine a_iand fK_bearsFree_28 ?_
        rw [nbit free i hf (by omega)]
        by_cases c9 : free / 2 ^ i % 2 = 0
        · refine a_if_ne fK_bearsFree_29 (fun c_ => absurd (by rw [c9]; rfl) c_) (fun _ => ?_)
          refine a_al2 fK_bearsFree_32 ?_
          refine a_gf fK_bearsFree_33 l_K_130 L1 rfl ?_
          refine a_il4 fK_bearsFree_36 ?_
          refine a_ia fK_bearsFree_38 L2 rfl (by omega) (by decide) ?_
          rw [g1]
          refine a_is5 fK_bearsFree_39 (by decide) rfl ?_
          refine a_al0 fK_bearsFree_41 ?_
          refine a_gf fK_bearsFree_42 l_K_21 k7 rfl ?_
          refine a_gf fK_bearsFree_45 l_K_133 k0 rfl ?_
          refine a_il5 fK_bearsFree_48 ?_
          refine a_dup2 fK_bearsFree_50 rfl rfl ?_
          refine a_ia fK_bearsFree_51 k1 rfl (by omega) (by decide) ?_
          refine a_al1 fK_bearsFree_52 ?_
          refine a_gf fK_bearsFree_53 l_K_136 V.1 rfl ?_
          refine a_il5 fK_bearsFree_56 ?_
          refine a_ia fK_bearsFree_58 V.2.1 rfl (by omega) (by decide) ?_
          refine a_il4 fK_bearsFree_59 ?_
          refine a_al0 fK_bearsFree_61 ?_
          refine a_gf fK_bearsFree_62 l_K_21 k7 rfl ?_
          refine a_gf fK_bearsFree_65 l_K_139 k0 rfl ?_
          refine a_S3V fK_bearsFree_68 k_K_142 m_I_wear ⟨by decide, by decide⟩ ⟨rfl, rfl⟩ (Nat.le_of_ble_eq_true rfl) (c_wear (O.K _ g2) (k := i) (by omega) (D := D) (by rw [hD]; exact O.D)) ?_
          refine a_iadd fK_bearsFree_71 ?_
          rw [show nF W f0 + nI (wr (sl N 0 10 f0) i D) = nI (W f0 + wr (sl N 0 10 f0) i D) from nI_add _ _]
          refine a_it fK_bearsFree_72 k1 rfl (by omega) (by decide) ?_
          refine a_inc4 fK_bearsFree_73 (by decide) rfl ?_
          refine a_goto fK_bearsFree_76 ?_
          rw [upd_nF, nI_1]
          rcases ih (i + 1) _ m f (va_up W f0 (W f0 + wr (sl N 0 10 f0) i D)) ob cd Wz op dp D _ hD h3 h1 (V.up (by omega)) (up_n (by decide) k7) (up_n (by decide) k8) (up_n (by decide) k9) (up_n (by decide) k0) up_s (up_n (by decide) k2) (up_n (by decide) k3) (fun x hx => by rw [vn (by omega)]; exact kw x hx) (Fr.up (by omega)) (by rw [← hW]; simp only [wfr]; rw [if_pos c9, hD]) with z | z
          · exact z
          · exact absurd hz z
        · refine a_if_ne fK_bearsFree_29 (fun _ => ?_) (fun c_ => absurd c_ (fun z => c9 ((nI_eq (b := 0) (by omega) (by decide)).mp z)))
          refine a_inc4 fK_bearsFree_73 (by decide) rfl ?_
          refine a_goto fK_bearsFree_76 ?_
          rw [nI_1]
          rcases ih (i + 1) g m f W ob cd Wz op dp D _ hD h3 h1 V k7 k8 k9 k0 k1 k2 k3 kw Fr (by rw [← hW]; simp only [wfr]; rw [if_neg c9]) with z | z
          · exact z
          · exact absurd hz z
      · exact Or.inr hz
  obtain ⟨m, f, D, W, ob, cd, op, dp, k7, k8, k9, k0, k1, k2, k3, kw⟩ := S
  refine fE.of (L := [some (.ref 47), some (.ref 12), some (.ref 61), some (.int (nI free)), none, none]) (by decide +kernel) (Nat.le_of_ble_eq_true rfl) rfl ?_
  refine a_al0 fK_bearsFree_0 ?_
  refine a_gf fK_bearsFree_1 l_K_21 k7 rfl ?_
  refine a_al1 fK_bearsFree_4 ?_
  refine a_gf fK_bearsFree_5 l_K_49 V.1 rfl ?_
  refine a_V1N fK_bearsFree_8 k_K_60 m_S_become ⟨by decide, by decide⟩ k0 rfl ⟨rfl, rfl⟩ (Nat.le_of_ble_eq_true rfl) (c_Sbecome (s := 50) (o := 15) k0 k1 V.2.2.2.1 V.2.2.2.2 (by omega)) ?_
  refine a_ic fK_bearsFree_11 ?_
  refine a_is4 fK_bearsFree_12 (by decide) rfl ?_
  rw [cpy_kz kw]
  have Fh : frk h (va_up (va_up h (50 + 1) (nA 10 (sl N 20 10))) 50 (sO (50 + 1) (N 30))) := (frk.rf.up (by omega)).up (by omega)
  rcases loop sg 0 _ m f _ ob cd _ op dp (N 30) none rfl rfl (Nat.zero_le _) (V.fr Fh) (up_n (by decide) (up_n (by decide) k7)) (up_n (by decide) (up_n (by decide) k8)) (up_n (by decide) (up_n (by decide) k9)) up_s (up_n (by decide) up_s) (up_n (by decide) (up_n (by decide) k2)) (up_n (by decide) (up_n (by decide) k3)) kz_sl Fh rfl with z | z
  · exact z
  · exact absurd rfl z
theorem c_waysOf {m free c : Nat} (S : kS h) (hm : m ≤ 4) (hf : free < 64) (hc : c ≤ 10) : fE M_K_waysOf E [.ref 47, .int (nI m), .int (nI free), .int (nI c)] n h (eV (.int (nI (wys c free m 0 1))) n h) := by
  have loop : ∀ (j i w T : Nat), i + j = m → wys c free j i w = T → fA M_K_waysOf E (fZ M_K_waysOf E (eV (.int (nI T)) n h)) n h 0 0 6 [some (.ref 47), some (.int (nI m)), some (.int (nI free)), some (.int (nI c)), some (.int (nI w)), some (.int (nI i))] [] := by
    intro j
    induction j with
    | zero =>
      intro i w T hi hT
      refine a_il5 fK_waysOf_6 ?_
      refine a_il1 fK_waysOf_8 ?_
      refine a_ic_ge fK_waysOf_9 (fun _ => ?_) (fun c_ => absurd (nI_le (by omega) (by omega)) c_)
      refine a_il4 fK_waysOf_41 ?_
      exact a_ri fK_waysOf_43 rfl (⟨sv (by rw [← hT]; rfl), rfl, rfl⟩)
    | succ j ih =>
      intro i w T hi hT
      refine a_il5 fK_waysOf_6 ?_
      refine a_il1 fK_waysOf_8 ?_
      refine a_ic_ge fK_waysOf_9 (fun c_ => absurd c_ (nI_ge (by omega) (by omega))) (fun _ => ?_)
      refine a_il4 fK_waysOf_12 ?_
      refine a_il2 fK_waysOf_14 ?_
      refine a_il5 fK_waysOf_15 ?_
      refine a_ishr fK_waysOf_17 ?_
      refine a_ic fK_waysOf_18 ?_
      refine a_iand fK_waysOf_19 ?_
      rw [nbit free i hf (by omega)]
      have nx : ∀ d : Nat, d = (if free / 2 ^ i % 2 = 1 then c else 10 - c) → fA M_K_waysOf E (fZ M_K_waysOf E (eV (.int (nI T)) n h)) n h 0 0 32 [some (.ref 47), some (.int (nI m)), some (.int (nI free)), some (.int (nI c)), some (.int (nI w)), some (.int (nI i))] [.int (nI d), .int (nI w)] := by
        intro d hd
        refine a_imul fK_waysOf_32 ?_
        rw [pk_mul]
        refine a_is4 fK_waysOf_33 (by decide) rfl ?_
        refine a_inc5 fK_waysOf_35 (by decide) rfl ?_
        refine a_goto fK_waysOf_38 ?_
        rw [nI_1]
        exact ih (i + 1) _ T (by omega) (by rw [← hT, hd]; rfl)
      by_cases c9 : free / 2 ^ i % 2 = 1
      · refine a_ic fK_waysOf_20 ?_
        refine a_ic_ne fK_waysOf_21 (fun c_ => absurd (by rw [c9]; rfl) c_) (fun _ => ?_)
        refine a_il3 fK_waysOf_24 ?_
        refine a_goto fK_waysOf_25 ?_
        exact nx c (by rw [if_pos c9])
      · refine a_ic fK_waysOf_20 ?_
        refine a_ic_ne fK_waysOf_21 (fun _ => ?_) (fun c_ => absurd c_ (fun z => c9 ((nI_eq (b := 1) (by omega) (by decide)).mp z)))
        refine a_ic fK_waysOf_28 ?_
        refine a_il3 fK_waysOf_30 ?_
        refine a_isub fK_waysOf_31 ?_
        rw [show (10 : Int32) - nI c = nI (10 - c) from pk_sub (a := 10) hc]
        exact nx (10 - c) (by rw [if_neg c9])
  refine fE.of (L := [some (.ref 47), some (.int (nI m)), some (.int (nI free)), some (.int (nI c)), none, none]) (by decide +kernel) (Nat.le_of_ble_eq_true rfl) rfl ?_
  refine a_ic fK_waysOf_0 ?_
  refine a_is4 fK_waysOf_1 (by decide) rfl ?_
  refine a_ic fK_waysOf_3 ?_
  refine a_is5 fK_waysOf_4 (by decide) rfl ?_
  exact loop m 0 1 _ (by omega) rfl
theorem c_lucky {v x c : Nat} {lg : Nat → Int32} (V : hv h N) (S : kS h) (O : okC N) (hl : h 61 = lO 62 (sgn v x).length) (hg : h 62 = ia 4 lg) (hsg : isSg lg (sgn v x)) (hc : c ≤ 10) : fE M_K_luckyWays E [.ref 47, .ref 12, .ref 61, .int (nI c)] n h (qI (fun r k g => r = nI (lck (fun f => decide (cfR N v x f)) (fun f => wys c f (sgn v x).length 0 1) (2 ^ (sgn v x).length) 0 0) ∧ k = n ∧ kS g ∧ frk h g)) := by
  have h4 := hsg.1
  have h16 : 2 ^ (sgn v x).length ≤ 16 := Nat.le_trans (Nat.pow_le_pow_right (by decide) h4) (by decide)
  have kx : ∀ g : hT, kS g → ∃ op dp, g 47 = kO op dp := fun g S => by obtain ⟨m, f, D, W, ob, cd, op, dp, k7, _⟩ := S; exact ⟨op, dp, k7⟩
  have loop : ∀ (j i s0 : Nat) (g : hT) (T : Nat), i + j = 2 ^ (sgn v x).length → hv g N → kS g → frk h g → lck (fun f => decide (cfR N v x f)) (fun f => wys c f (sgn v x).length 0 1) j i s0 = T → fA M_K_luckyWays E (fZ M_K_luckyWays E (qI (fun r k g => r = nI T ∧ k = n ∧ kS g ∧ frk h g))) n g 0 0 6 [some (.ref 47), some (.ref 12), some (.ref 61), some (.int (nI c)), some (.int (nI s0)), some (.int (nI i))] [] := by
    intro j
    induction j with
    | zero =>
      intro i s0 g T hi V S Fr hT
      have L1 : g 61 = lO 62 (sgn v x).length := (Fr _ (by omega)).trans hl
      refine a_il5 fK_luckyWays_6 ?_
      refine a_ic fK_luckyWays_8 ?_
      refine a_al2 fK_luckyWays_9 ?_
      refine a_gf fK_luckyWays_10 l_K_121 L1 rfl ?_
      refine a_ishl fK_luckyWays_13 ?_
      rw [sh6 _ (by omega)]
      refine a_ic_ge fK_luckyWays_14 (fun _ => ?_) (fun c_ => absurd (nI_le (by omega) (by omega)) c_)
      refine a_il4 fK_luckyWays_50 ?_
      exact a_ri fK_luckyWays_52 rfl (⟨_, rfl, by rw [← hT]; rfl, rfl, S, Fr⟩)
    | succ j ih =>
      intro i s0 g T hi V S Fr hT
      have L1 : g 61 = lO 62 (sgn v x).length := (Fr _ (by omega)).trans hl
      have L2 : g 62 = ia 4 lg := (Fr _ (by omega)).trans hg
      obtain ⟨op, dp, k7⟩ := kx g S
      refine a_il5 fK_luckyWays_6 ?_
      refine a_ic fK_luckyWays_8 ?_
      refine a_al2 fK_luckyWays_9 ?_
      refine a_gf fK_luckyWays_10 l_K_121 L1 rfl ?_
      refine a_ishl fK_luckyWays_13 ?_
      rw [sh6 _ (by omega)]
      refine a_ic_ge fK_luckyWays_14 (fun c_ => absurd c_ (nI_ge (by omega) (by omega))) (fun _ => ?_)
      refine a_al0 fK_luckyWays_17 ?_
      refine a_al1 fK_luckyWays_18 ?_
      refine a_al2 fK_luckyWays_19 ?_
      refine a_il5 fK_luckyWays_20 ?_
      refine a_V3I fK_luckyWays_22 k_K_122 m_K_bearsFree ⟨by decide, by decide⟩ k7 rfl ⟨rfl, rfl⟩ (Nat.le_of_ble_eq_true rfl) (c_bearsFree V S O L1 L2 hsg (free := i) (by omega)) (fun r1 n1 h1 p1 => ?_)
      obtain ⟨rfl, hn1, S1, F1⟩ := p1
      subst n1
      have V1 := V.fr F1
      have L3 : h1 61 = lO 62 (sgn v x).length := (F1 _ (by omega)).trans L1
      obtain ⟨op1, dp1, k71⟩ := kx h1 S1
      by_cases c9 : cfR N v x i
      · refine a_if_eq fK_luckyWays_25 (fun c_ => absurd c_ (fun z => by rw [bI_t c9] at z; exact absurd z (by decide))) (fun _ => ?_)
        refine a_il4 fK_luckyWays_28 ?_
        refine a_al0 fK_luckyWays_30 ?_
        refine a_al2 fK_luckyWays_31 ?_
        refine a_gf fK_luckyWays_32 l_K_121 L3 rfl ?_
        refine a_il5 fK_luckyWays_35 ?_
        refine a_il3 fK_luckyWays_37 ?_
        refine a_V3V fK_luckyWays_38 k_K_126 m_K_waysOf ⟨by decide, by decide⟩ k71 rfl ⟨rfl, rfl⟩ (Nat.le_of_ble_eq_true rfl) (c_waysOf S1 (m := (sgn v x).length) h4 (free := i) (by omega) hc) ?_
        refine a_iadd fK_luckyWays_41 ?_
        refine a_is4 fK_luckyWays_42 (by decide) rfl ?_
        refine a_inc5 fK_luckyWays_44 (by decide) rfl ?_
        refine a_goto fK_luckyWays_47 ?_
        rw [nI_1, nI_add]
        exact ih (i + 1) _ h1 T (by omega) V1 S1 (Fr.trans F1) (by rw [← hT]; simp only [lck, decide_eq_true c9, if_true])
      · refine a_if_eq fK_luckyWays_25 (fun _ => ?_) (fun c_ => absurd (by rw [bI_f c9]) c_)
        refine a_inc5 fK_luckyWays_44 (by decide) rfl ?_
        refine a_goto fK_luckyWays_47 ?_
        rw [nI_1]
        exact ih (i + 1) _ h1 T (by omega) V1 S1 (Fr.trans F1) (by rw [← hT]; simp only [lck, decide_eq_false c9]; rfl)
  refine fE.of (L := [some (.ref 47), some (.ref 12), some (.ref 61), some (.int (nI c)), none, none]) (by decide +kernel) (Nat.le_of_ble_eq_true rfl) rfl ?_
  refine a_ic fK_luckyWays_0 ?_
  refine a_is4 fK_luckyWays_1 (by decide) rfl ?_
  refine a_ic fK_luckyWays_3 ?_
  refine a_is5 fK_luckyWays_4 (by decide) rfl ?_
  exact loop (2 ^ (sgn v x).length) 0 0 h _ (by omega) V S frk.rf rfl
end K5
