/-! plans: days and bills -/
def adL (K : Nat → Nat) (D : Nat) : List Nat → (Nat → Nat) → (Nat → Nat)
  | [], W => W
  | v :: r, W => adL K D r (wad K D 0 (sgn v v) W)
def gtL (K S : Nat → Nat) (D : Nat) : List Nat → (Nat → Nat) → Bool
  | [], _ => true
  | v :: r, W => if can K S W D (sgn v v) then gtL K S D r (wad K D 0 (sgn v v) W) else false
/-- the numbers of the bills of a day -/
abbrev sel (nb a : Nat → Nat) (d : Nat) (l : List Nat) : List Nat := (l.filter (fun b => decide (a b = d))).map nb
def skL (K S nb a : Nat → Nat) (l : List Nat) : Nat → Nat → Nat → (Nat → Nat) → Bool
  | 0, _, _, _ => true
  | j + 1, d, D, W => if gtL K S D (sel nb a d l) W = true then skL K S nb a l j (d + 1) (D + 1) (rsW K (adL K D (sel nb a d l) W)) else false
abbrev skR (N a : Nat → Nat) (l : List Nat) (j : Nat) : Bool := skL (sl N 0 10) (sl N 10 10) (fun i => N (32 + i)) a l j 0 (N 30) (sl N 20 10)
def kP (g : hT) (op dp : Int32) (ob cd : Nat → Nat) : Prop := ∃ (m : Nat) (f : Nat → Int32) (D : Nat) (W : Nat → Nat), g 47 = kO op dp ∧ g 48 = lO 49 m ∧ g 49 = ia 4 f ∧ g 50 = sO 51 D ∧ g 51 = nA 10 W ∧ g 52 = nA 6 ob ∧ g 53 = nA 6 cd ∧ kz W
theorem kP.s {g : hT} {op dp : Int32} {ob cd : Nat → Nat} (P : kP g op dp ob cd) : kS g := by
  obtain ⟨m, f, D, W, k7, k8, k9, k0, k1, k2, k3, kw⟩ := P
  exact ⟨m, f, D, W, ob, cd, op, dp, k7, k8, k9, k0, k1, k2, k3, kw⟩
theorem sel_cons {nb a : Nat → Nat} {d x : Nat} {r : List Nat} : sel nb a d (x :: r) = if a x = d then nb x :: sel nb a d r else sel nb a d r := by
  unfold sel
  by_cases c : a x = d
  · rw [if_pos c, List.filter_cons_of_pos (by simpa using c)]; rfl
  · rw [if_neg c, List.filter_cons_of_neg (by simpa using c)]
section P1
variable {E : eT} {n : Nat} {h : hT} {N : Nat → Nat}
theorem c_holdsSoFar {l : List Nat} {days : Nat} {a ob cd : Nat → Nat} {op dp : Int32} (V : hv h N) (B : bv h N) (S : kP h op dp ob cd) (O : okC N) (OB : okB N) (hl6 : l.length ≤ 6) (hx : ∀ i x, l[i]? = some x → ob i = x ∧ x < N 31 ∧ a x = cd i ∧ cd i < 100) (hd : days ≤ 4) : fE M_K_holdsSoFar E [.ref 47, .ref 12, .int (nI l.length), .int (nI days)] n h (qI (fun r k g => r = bI (skR N a l days = true) ∧ k = n ∧ kP g op dp ob cd ∧ frk h g)) := by
  have ob6 := OB.1
  have loop : ∀ (j d : Nat) (g : hT) (m : Nat) (f : Nat → Int32) (W Wd : Nat → Nat) (T : Bool) (D0 D : Nat) (x5 x6 : Option Value), ((d = 0 ∧ W = Wd ∧ D0 = D) ∨ (0 < d ∧ rsW (sl N 0 10) W = Wd ∧ D0 + 1 = D)) → D = N 30 + d → d + j = days → hv g N → bv g N → g 47 = kO op dp → g 48 = lO 49 m → g 49 = ia 4 f → g 50 = sO 51 D0 → g 51 = nA 10 W → g 52 = nA 6 ob → g 53 = nA 6 cd → kz W → frk h g → sml W 100 → skL (sl N 0 10) (sl N 10 10) (fun i => N (32 + i)) a l j d D Wd = T → fA M_K_holdsSoFar E (fZ M_K_holdsSoFar E (qI (fun r k g => r = bI (T = true) ∧ k = n ∧ kP g op dp ob cd ∧ frk h g))) n g 0 0 14 [some (.ref 47), some (.ref 12), some (.int (nI l.length)), some (.int (nI days)), some (.int (nI d)), x5, x6] [] := by
    intro j
    induction j with
    | zero =>
      intro d g m f W Wd T D0 D x5 x6 hd0 hDd hi V B k7 k8 k9 k0 k1 k2 k3 kw Fr bW he
      refine a_il4 fK_holdsSoFar_14 ?_
      refine a_il3 fK_holdsSoFar_16 ?_
      refine a_ic_ge fK_holdsSoFar_17 (fun _ => ?_) (fun c_ => absurd (nI_le (by omega) (by omega)) c_)
      refine a_ic fK_holdsSoFar_118 ?_
      exact a_rz fK_holdsSoFar_119 rfl (by first | rfl | (split <;> rfl)) (⟨_, rfl, by rw [← he]; exact (bI_t rfl).symm, rfl, ⟨m, f, D0, W, k7, k8, k9, k0, k1, k2, k3, kw⟩, Fr⟩)
    | succ j ih =>
      intro d g m f W Wd T D0 D x5 x6 hd0 hDd hi V B k7 k8 k9 k0 k1 k2 k3 kw Fr bW he
      have inner : ∀ (r : List Nat) (i : Nat) (g : hT) (m : Nat) (f : Nat → Int32) (W : Nat → Nat) (x6 : Option Value), l.drop i = r → i ≤ l.length → hv g N → bv g N → g 47 = kO op dp → g 48 = lO 49 m → g 49 = ia 4 f → g 50 = sO 51 D → g 51 = nA 10 W → g 52 = nA 6 ob → g 53 = nA 6 cd → kz W → frk h g → sml W 100 → (if gtL (sl N 0 10) (sl N 10 10) D (sel (fun i => N (32 + i)) a d r) W = true then skL (sl N 0 10) (sl N 10 10) (fun i => N (32 + i)) a l j (d + 1) (D + 1) (rsW (sl N 0 10) (adL (sl N 0 10) D (sel (fun i => N (32 + i)) a d r) W)) else false) = T → fA M_K_holdsSoFar E (fZ M_K_holdsSoFar E (qI (fun r k g => r = bI (T = true) ∧ k = n ∧ kP g op dp ob cd ∧ frk h g))) n g 0 0 36 [some (.ref 47), some (.ref 12), some (.int (nI l.length)), some (.int (nI days)), some (.int (nI d)), some (.int (nI i)), x6] [] := by
        intro r
        induction r with
        | nil =>
          intro i g m f W x6 hr hi2 V B k7 k8 k9 k0 k1 k2 k3 kw Fr bW he
          refine a_il5 fK_holdsSoFar_36 ?_
          refine a_il2 fK_holdsSoFar_38 ?_
          refine a_ic_ge fK_holdsSoFar_39 (fun _ => ?_) (fun c_ => absurd (nI_le (dropn hr) (by omega)) c_)
          refine a_inc4 fK_holdsSoFar_112 (by decide) rfl ?_
          refine a_goto fK_holdsSoFar_115 ?_
          rw [nI_1]
          exact ih (d + 1) g m f W _ T D (D + 1) _ _ (Or.inr ⟨by omega, rfl, rfl⟩) (by omega) (by omega) V B k7 k8 k9 k0 k1 k2 k3 kw Fr bW he
        | cons x r ih2 =>
          intro i g m f W x6 hr hi2 V B k7 k8 k9 k0 k1 k2 k3 kw Fr bW he
          obtain ⟨r1, r2, r3⟩ := dropc hr
          obtain ⟨y1, y2, y3, y4⟩ := hx i x r2
          have B9 := B
          obtain ⟨b1, bn, bw, b2, b3, b4⟩ := B
          obtain ⟨e1, e2⟩ := b4 x y2
          obtain ⟨e3, e4⟩ := OB.2.1 x y2
          refine a_il5 fK_holdsSoFar_36 ?_
          refine a_il2 fK_holdsSoFar_38 ?_
          refine a_ic_ge fK_holdsSoFar_39 (fun c_ => absurd c_ (nI_ge r1 (by omega))) (fun _ => ?_)
          refine a_il5 fK_holdsSoFar_42 ?_
          refine a_ic fK_holdsSoFar_44 ?_
          refine a_ic_ge fK_holdsSoFar_46 (fun c_ => absurd c_ (nI_ge (b := 6) (by omega) (by decide))) (fun _ => ?_)
          refine a_al0 fK_holdsSoFar_49 ?_
          refine a_gf fK_holdsSoFar_50 l_K_29 k7 rfl ?_
          refine a_il5 fK_holdsSoFar_53 ?_
          refine a_ia fK_holdsSoFar_55 k3 rfl (by omega) (by decide) ?_
          rw [show nF cd i = nI (a x) from congrArg nI y3.symm]
          by_cases c9 : a x = d
          · refine a_il4 fK_holdsSoFar_56 ?_
            refine a_ic_ne fK_holdsSoFar_58 (fun c_ => absurd (congrArg nI c9) c_) (fun _ => ?_)
            refine a_al1 fK_holdsSoFar_61 ?_
            refine a_gf fK_holdsSoFar_62 l_K_70 V.1 rfl ?_
            refine a_gf fK_holdsSoFar_65 l_K_89 b1 rfl ?_
            refine a_al0 fK_holdsSoFar_68 ?_
            refine a_gf fK_holdsSoFar_69 l_K_25 k7 rfl ?_
            refine a_il5 fK_holdsSoFar_72 ?_
            refine a_ia fK_holdsSoFar_74 k2 rfl (by omega) (by decide) ?_
            refine a_ia fK_holdsSoFar_75 b2 (show nF ob i = nI x from congrArg nI y1) (by omega) (by decide) ?_
            rw [show nF bn x = nI (N (32 + x)) from congrArg nI e1]
            refine a_is6 fK_holdsSoFar_76 (by decide) rfl ?_
            refine a_al0 fK_holdsSoFar_78 ?_
            refine a_gf fK_holdsSoFar_79 l_K_12 k7 rfl ?_
            refine a_il6 fK_holdsSoFar_82 ?_
            refine a_il6 fK_holdsSoFar_84 ?_
            refine a_V2Q fK_holdsSoFar_86 k_K_39 m_L_tell ⟨by decide, by decide⟩ k8 rfl ⟨rfl, rfl⟩ (Nat.le_of_ble_eq_true rfl) (c_tell (l := 48) k8 k9 e3 e3) (fun n1 h1 p1 => ?_)
            obtain ⟨hn1, g2, q1, hg2⟩ := p1
            subst n1
            have V1 : hv h1 N := by rw [hg2]; exact (V.up (by omega)).up (by omega)
            have K7 : h1 47 = kO op dp := by rw [hg2]; exact up_n (by decide) (up_n (by decide) k7)
            have K8 : h1 48 = lO 49 (sgn (N (32 + x)) (N (32 + x))).length := by rw [hg2]; exact up_n (by decide) up_s
            have K9 : h1 49 = ia 4 g2 := by rw [hg2]; exact up_s
            have K0 : h1 50 = sO 51 D := by rw [hg2]; exact up_n (by decide) (up_n (by decide) k0)
            have K1 : h1 51 = nA 10 W := by rw [hg2]; exact up_n (by decide) (up_n (by decide) k1)
            have K2 : h1 52 = nA 6 ob := by rw [hg2]; exact up_n (by decide) (up_n (by decide) k2)
            have K3 : h1 53 = nA 6 cd := by rw [hg2]; exact up_n (by decide) (up_n (by decide) k3)
            have F1 : frk h h1 := by rw [hg2]; exact (Fr.up (by omega)).up (by omega)
            clear hg2
            refine a_al1 fK_holdsSoFar_89 ?_
            refine a_al0 fK_holdsSoFar_90 ?_
            refine a_gf fK_holdsSoFar_91 l_K_21 K7 rfl ?_
            refine a_al0 fK_holdsSoFar_94 ?_
            refine a_gf fK_holdsSoFar_95 l_K_12 K7 rfl ?_
            refine a_V2V fK_holdsSoFar_98 k_K_64 m_H_puts ⟨by decide, by decide⟩ V1.1 rfl ⟨rfl, rfl⟩ (Nat.le_of_ble_eq_true rfl) (c_puts (q := 12) (s := 50) (l := 48) V1.1 V1.2.1 V1.2.2.1 K0 K1 K8 K9 q1 O.K O.S bW (by have := O.2; omega) (by omega) (by omega)) ?_
            have Fa : ∀ c, frk h (va_up h1 (50 + 1) c) := fun c => F1.up (by omega)
            have B1 : ∀ c, bv (va_up h1 (50 + 1) c) N := fun c => by
              have Fg : frk g (va_up h1 (50 + 1) c) := fun a ha => (Fa c a ha).trans (Fr a ha).symm
              exact B9.fr Fg
            rw [sel_cons, if_pos c9] at he
            by_cases c8 : can (sl N 0 10) (sl N 10 10) W D (sgn (N (32 + x)) (N (32 + x)))
            · rw [if_pos c8]
              refine a_if_ne fK_holdsSoFar_101 (fun _ => ?_) (fun c_ => absurd c_ (fun z => by rw [bI_t c8] at z; exact absurd z (by decide)))
              refine a_inc5 fK_holdsSoFar_106 (by decide) rfl ?_
              refine a_goto fK_holdsSoFar_109 ?_
              rw [nI_1]
              refine ih2 (i + 1) _ _ _ _ _ r3 r1 (V1.up (by omega)) (B1 _) (up_n (by decide) K7) (up_n (by decide) K8) (up_n (by decide) K9) (up_n (by decide) K0) up_s (up_n (by decide) K2) (up_n (by decide) K3) (kz_wad _ _ _ (sg_lt q1) kw) (Fa _) (can_le c8 O.S bW) ?_
              have eg : gtL (sl N 0 10) (sl N 10 10) D (N (32 + x) :: sel (fun i => N (32 + i)) a d r) W = gtL (sl N 0 10) (sl N 10 10) D (sel (fun i => N (32 + i)) a d r) (wad (sl N 0 10) D 0 (sgn (N (32 + x)) (N (32 + x))) W) := by simp only [gtL]; rw [if_pos c8]
              rw [← he, eg]; rfl
            · rw [if_neg c8]
              have eg : gtL (sl N 0 10) (sl N 10 10) D (N (32 + x) :: sel (fun i => N (32 + i)) a d r) W = false := by simp only [gtL]; rw [if_neg c8]
              refine a_if_ne fK_holdsSoFar_101 (fun c_ => absurd (by rw [bI_f c8]) c_) (fun _ => ?_)
              refine a_ic fK_holdsSoFar_104 ?_
              exact a_rz fK_holdsSoFar_105 rfl (by first | rfl | (split <;> rfl)) (⟨_, rfl, by rw [← he, eg]; exact (bI_f (by simp)).symm, rfl, ⟨_, g2, D, W, up_n (by decide) K7, up_n (by decide) K8, up_n (by decide) K9, up_n (by decide) K0, up_s, up_n (by decide) K2, up_n (by decide) K3, kw⟩, Fa _⟩)
          · refine a_il4 fK_holdsSoFar_56 ?_
            refine a_ic_ne fK_holdsSoFar_58 (fun _ => ?_) (fun c_ => absurd c_ (fun z => c9 ((nI_eq (by omega) (by omega)).mp z)))
            rw [sel_cons, if_neg c9] at he
            refine a_inc5 fK_holdsSoFar_106 (by decide) rfl ?_
            refine a_goto fK_holdsSoFar_109 ?_
            rw [nI_1]
            exact ih2 (i + 1) g m f W _ r3 r1 V B9 k7 k8 k9 k0 k1 k2 k3 kw Fr bW he
      refine a_il4 fK_holdsSoFar_14 ?_
      refine a_il3 fK_holdsSoFar_16 ?_
      refine a_ic_ge fK_holdsSoFar_17 (fun c_ => absurd c_ (nI_ge (by omega) (by omega))) (fun _ => ?_)
      rcases hd0 with ⟨z1, z2, z3⟩ | ⟨z1, z2, z3⟩
      · subst z1
        subst z2
        subst z3
        refine a_il4 fK_holdsSoFar_20 ?_
        refine a_if_le fK_holdsSoFar_22 (fun _ => ?_) (fun c_ => absurd (by decide) c_)
        refine a_ic fK_holdsSoFar_33 ?_
        refine a_is5 fK_holdsSoFar_34 (by decide) rfl ?_
        exact inner l 0 g m f W _ rfl (Nat.zero_le _) V B k7 k8 k9 k0 k1 k2 k3 kw Fr bW (by rw [← he]; rfl)
      · subst z2
        subst z3
        refine a_il4 fK_holdsSoFar_20 ?_
        refine a_if_le fK_holdsSoFar_22 (fun c_ => absurd c_ (nI_nle z1 (by omega))) (fun _ => ?_)
        refine a_al1 fK_holdsSoFar_25 ?_
        refine a_al0 fK_holdsSoFar_26 ?_
        refine a_gf fK_holdsSoFar_27 l_K_21 k7 rfl ?_
        refine a_V1N fK_holdsSoFar_30 k_K_67 m_H_rests ⟨by decide, by decide⟩ V.1 rfl ⟨rfl, rfl⟩ (Nat.le_of_ble_eq_true rfl) (c_rests (q := 12) (s := 50) V.1 V.2.1 k0 k1 O.K (fun f hf => Nat.le_trans (bW f hf) (by decide)) (by omega)) ?_
        refine a_ic fK_holdsSoFar_33 ?_
        refine a_is5 fK_holdsSoFar_34 (by decide) rfl ?_
        have Fg : ∀ c c2, frk g (va_up (va_up g (50 + 1) c) 50 c2) := fun c c2 => (frk.rf.up (by omega)).up (by omega)
        exact inner l 0 _ m f _ _ rfl (Nat.zero_le _) (V.fr (Fg _ _)) (B.fr (Fg _ _)) (up_n (by decide) (up_n (by decide) k7)) (up_n (by decide) (up_n (by decide) k8)) (up_n (by decide) (up_n (by decide) k9)) up_s (up_n (by decide) up_s) (up_n (by decide) (up_n (by decide) k2)) (up_n (by decide) (up_n (by decide) k3)) (kz_rsW kw) (Fr.trans (Fg _ _)) (rsW_le bW) (by rw [← he]; rfl)
  obtain ⟨m, f, D, W, k7, k8, k9, k0, k1, k2, k3, kw⟩ := S
  refine fE.of (L := [some (.ref 47), some (.ref 12), some (.int (nI l.length)), some (.int (nI days)), none, none, none]) (by decide +kernel) (Nat.le_of_ble_eq_true rfl) rfl ?_
  refine a_al0 fK_holdsSoFar_0 ?_
  refine a_gf fK_holdsSoFar_1 l_K_21 k7 rfl ?_
  refine a_al1 fK_holdsSoFar_4 ?_
  refine a_gf fK_holdsSoFar_5 l_K_49 V.1 rfl ?_
  refine a_V1N fK_holdsSoFar_8 k_K_60 m_S_become ⟨by decide, by decide⟩ k0 rfl ⟨rfl, rfl⟩ (Nat.le_of_ble_eq_true rfl) (c_Sbecome (s := 50) (o := 15) k0 k1 V.2.2.2.1 V.2.2.2.2 (by omega)) ?_
  refine a_ic fK_holdsSoFar_11 ?_
  refine a_is4 fK_holdsSoFar_12 (by decide) rfl ?_
  rw [cpy_kz kw]
  have Fh : frk h (va_up (va_up h (50 + 1) (nA 10 (sl N 20 10))) 50 (sO (50 + 1) (N 30))) := (frk.rf.up (by omega)).up (by omega)
  exact loop days 0 _ m f _ _ _ (N 30) (N 30) none none (Or.inl ⟨rfl, rfl, rfl⟩) (by omega) (by omega) (V.fr Fh) (B.fr Fh) (up_n (by decide) (up_n (by decide) k7)) (up_n (by decide) (up_n (by decide) k8)) (up_n (by decide) (up_n (by decide) k9)) up_s (up_n (by decide) up_s) (up_n (by decide) (up_n (by decide) k2)) (up_n (by decide) (up_n (by decide) k3)) kz_sl Fh O.W rfl
end P1
