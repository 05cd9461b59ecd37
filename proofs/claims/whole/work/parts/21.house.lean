/-- worn by signs, plain numbers -/
def wad (K : Nat → Nat) (D : Nat) : Nat → List Nat → (Nat → Nat) → (Nat → Nat)
  | _, [], w => w
  | k, f :: r, w => wad K D (k + 1) r (va_up w f (w f + wr (K f) k D))
/-- no figure of the line is worn by more than its strength -/
abbrev bear (S W : Nat → Nat) (sg : List Nat) : Prop := ∀ f ∈ sg, W f ≤ S f
/-- the line can be -/
abbrev can (K S W : Nat → Nat) (D : Nat) (sg : List Nat) : Prop := bear S (wad K D 0 sg W) sg
/-- what the signs wear together -/
def cst (K : Nat → Nat) (D : Nat) : Nat → List Nat → Nat
  | _, [] => 0
  | k, f :: r => wr (K f) k D + cst K D (k + 1) r
/-- small numbers -/
def sml (W : Nat → Nat) (b : Nat) : Prop := ∀ f, f < 10 → W f ≤ b
theorem wr_le {K k D : Nat} (hk : k ≤ 3) : wr K k D ≤ 6 := by
  unfold wr
  split <;> (try split) <;> omega
theorem wby_one {K : Nat → Nat} {D : Nat} : ∀ (r : List Nat) (k : Nat) (W : Nat → Nat), wby 1 K D k r (nF W) = nF (wad K D k r W) := by
  intro r
  induction r with
  | nil => intro k W; rfl
  | cons f r ih =>
    intro k W
    show wby 1 K D (k + 1) r (upd (nF W) f (nF W f + 1 * nI (wr (K f) k D))) = _
    rw [Int32.one_mul, show nF W f + nI (wr (K f) k D) = nI (W f + wr (K f) k D) from nI_add _ _, upd_nF, ih]
    rfl
theorem wby_comm {t u : Int32} {K : Nat → Nat} {D : Nat} : ∀ (r : List Nat) (k : Nat) (w : Nat → Int32) (f : Nat) (x : Int32), wby t K D k r (upd w f (w f + x)) = upd (wby t K D k r w) f (wby t K D k r w f + x) := by
  intro r
  induction r with
  | nil => intro k w f x; rfl
  | cons a r ih =>
    intro k w f x
    show wby t K D (k + 1) r (upd (upd w f (w f + x)) a (upd w f (w f + x) a + t * nI (wr (K a) k D))) = _
    have e : upd (upd w f (w f + x)) a (upd w f (w f + x) a + t * nI (wr (K a) k D)) = upd (upd w a (w a + t * nI (wr (K a) k D))) f (upd w a (w a + t * nI (wr (K a) k D)) f + x) := by
      funext j
      unfold upd
      by_cases h1 : j = a <;> by_cases h2 : j = f
      · subst h1; subst h2; simp only [if_true]; rw [Int32.add_assoc, Int32.add_comm x, ← Int32.add_assoc]
      · subst h1; simp [h2]
      · subst h2; simp [h1]
      · simp [h1, h2]
    rw [e, ih]
    rfl
theorem wby_back {K : Nat → Nat} {D : Nat} : ∀ (r : List Nat) (k : Nat) (w : Nat → Int32), wby (-1) K D k r (wby 1 K D k r w) = w := by
  intro r
  induction r with
  | nil => intro k w; rfl
  | cons f r ih =>
    intro k w
    show wby (-1) K D (k + 1) r (upd (wby 1 K D (k + 1) r (upd w f (w f + 1 * nI (wr (K f) k D)))) f (wby 1 K D (k + 1) r (upd w f (w f + 1 * nI (wr (K f) k D))) f + -1 * nI (wr (K f) k D))) = w
    rw [wby_comm (u := 1) r (k + 1) _ f, ih]
    funext j
    unfold upd
    by_cases h1 : j = f
    · subst h1
      simp only [if_true]
      rw [Int32.neg_mul, Int32.one_mul, Int32.add_assoc, Int32.add_right_neg, Int32.add_zero]
    · simp [h1]
theorem wad_le {K : Nat → Nat} {D : Nat} : ∀ (r : List Nat) (k : Nat) (W : Nat → Nat) (f : Nat), k + r.length ≤ 4 → wad K D k r W f ≤ W f + 6 * r.length := by
  intro r
  induction r with
  | nil => intro k W f _; exact Nat.le_add_right _ _
  | cons a r ih =>
    intro k W f hk
    simp only [List.length_cons] at hk
    have := ih (k + 1) (va_up W a (W a + wr (K a) k D)) f (by omega)
    have h6 : wr (K a) k D ≤ 6 := wr_le (by omega)
    simp only [wad, List.length_cons]
    by_cases h1 : f = a
    · subst h1; simp [va_up] at this; omega
    · simp [va_up, h1] at this; omega
theorem wad_ge {K : Nat → Nat} {D : Nat} : ∀ (r : List Nat) (k : Nat) (W : Nat → Nat) (f : Nat), W f ≤ wad K D k r W f := by
  intro r
  induction r with
  | nil => intro k W f; exact Nat.le_refl _
  | cons a r ih =>
    intro k W f
    have := ih (k + 1) (va_up W a (W a + wr (K a) k D)) f
    simp only [wad]
    by_cases h1 : f = a
    · subst h1; simp [va_up] at this; omega
    · simp [va_up, h1] at this; omega
theorem min6 {a : Nat} (h : a < 2 ^ 31) : (if (6 : Int32) < nI a then (6 : Int32) else nI a) = nI (if a < 6 then a else 6) := by
  show (if nI 6 < nI a then nI 6 else nI a) = _
  by_cases c : a < 6
  · rw [if_pos c, if_neg (fun z => absurd ((nI_ltI (a := 6) (by decide) h).mp z) (by omega))]
  · rw [if_neg c]
    by_cases c2 : 6 < a
    · rw [if_pos (nI_lt c2 h)]
    · rw [if_neg (fun z => absurd ((nI_ltI (a := 6) (by decide) h).mp z) c2), show a = 6 by omega]
section HO
variable {E : eT} {n : Nat} {h : hT}
theorem c_rest {K w : Nat} (hK : K ≤ 5) (hw : w < 2 ^ 31) : fE M_I_rest E [.int (nI K), .int (nI w)] n h (eV (.int (nI (rst K w))) n h) := by
  refine fE.of (L := [some (.int (nI K)), some (.int (nI w))]) (by decide +kernel) (Nat.le_of_ble_eq_true rfl) rfl ?_
  refine a_il0 fI_rest_0 ?_
  match K, hK with
  | 0, _ =>
    refine a_tsO (tgt := 46) fI_rest_1 (by decide) (by decide) ?_
    refine a_ic fI_rest_46 ?_
    exact a_ri fI_rest_47 rfl (⟨rfl, rfl, rfl⟩)
  | 1, _ =>
    refine a_tsO (tgt := 46) fI_rest_1 (by decide) (by decide) ?_
    refine a_ic fI_rest_46 ?_
    exact a_ri fI_rest_47 rfl (⟨rfl, rfl, rfl⟩)
  | 2, _ =>
    refine a_tsI (off := 31) (tgt := 32) fI_rest_1 (by decide) (by decide) rfl (by decide) ?_
    refine a_ic fI_rest_32 ?_
    exact a_ri fI_rest_34 rfl (⟨rfl, rfl, rfl⟩)
  | 3, _ =>
    refine a_tsI (off := 34) (tgt := 35) fI_rest_1 (by decide) (by decide) rfl (by decide) ?_
    refine a_ic fI_rest_35 ?_
    exact a_ri fI_rest_36 rfl (⟨rfl, rfl, rfl⟩)
  | 4, _ =>
    refine a_tsI (off := 45) (tgt := 46) fI_rest_1 (by decide) (by decide) rfl (by decide) ?_
    refine a_ic fI_rest_46 ?_
    exact a_ri fI_rest_47 rfl (⟨rfl, rfl, rfl⟩)
  | 5, _ =>
    refine a_tsI (off := 36) (tgt := 37) fI_rest_1 (by decide) (by decide) rfl (by decide) ?_
    have e7 : nI w / 2 = nI (w / 2) := pk_div (d := 2) hw (by decide) (by decide)
    refine a_il1 fI_rest_37 ?_
    refine a_ic fI_rest_38 ?_
    refine a_idiv fI_rest_39 (by decide) ?_
    refine a_ic fI_rest_40 ?_
    refine a_mmin fI_rest_42 k_I_9 w_minS w_Math w_minC (by decide) (Nat.le_of_ble_eq_true rfl) ?_
    exact a_ri fI_rest_45 rfl (⟨sv (by rw [e7]; exact min6 (by omega)), rfl, rfl⟩)
theorem c_wearBy {q s l : Nat} {K : Nat → Nat} {w g : Nat → Int32} {D : Nat} {t : Int32} {sg : List Nat} (hq : h q = hO q) (hk : h (q + 1) = nA 10 K) (hs : h s = sO (s + 1) D) (hw : h (s + 1) = ia 10 w) (hl : h l = lO (l + 1) sg.length) (hg : h (l + 1) = ia 4 g) (hsg : isSg g sg) (hK : sml K 5) (hD : D < 2 ^ 31) (a1 : s + 1 < q ∨ q + 1 < s) (a2 : s + 1 < l ∨ l + 1 < s) :
    fE M_H_wearBy E [.ref q, .ref s, .ref l, .int t] n h (eN n (va_up h (s + 1) (ia 10 (wby t K D 0 sg w)))) := by
  have rq : ∀ w, va_up h (s + 1) (ia 10 w) q = hO q := fun w => up_n (by omega) hq
  have rk : ∀ w, va_up h (s + 1) (ia 10 w) (q + 1) = nA 10 K := fun w => up_n (by omega) hk
  have rs : ∀ w, va_up h (s + 1) (ia 10 w) s = sO (s + 1) D := fun w => up_n (by omega) hs
  have rl : ∀ w, va_up h (s + 1) (ia 10 w) l = lO (l + 1) sg.length := fun w => up_n (by omega) hl
  have rg : ∀ w, va_up h (s + 1) (ia 10 w) (l + 1) = ia 4 g := fun w => up_n (by omega) hg
  have h4 := hsg.1
  have loop : ∀ (r : List Nat) (i : Nat) (w1 : Nat → Int32) (x5 : Option Value), sg.drop i = r → i ≤ sg.length → wby t K D i r w1 = wby t K D 0 sg w → fA M_H_wearBy E (fZ M_H_wearBy E (eN n (va_up h (s + 1) (ia 10 (wby t K D 0 sg w))))) n (va_up h (s + 1) (ia 10 w1)) 0 0 3 [some (.ref q), some (.ref s), some (.ref l), some (.int t), some (.int (nI i)), x5] [] := by
    intro r
    induction r with
    | nil =>
      intro i w1 x5 hr hi he
      refine a_il4 fH_wearBy_3 ?_
      refine a_al2 fH_wearBy_5 ?_
      refine a_gf fH_wearBy_6 l_H_124 (rl _) rfl ?_
      refine a_ic_ge fH_wearBy_9 (fun _ => ?_) (fun c => absurd (nI_le (dropn hr) (by omega)) c)
      exact a_rv fH_wearBy_55 rfl (⟨rfl, rfl, by rw [← he]; rfl⟩)
    | cons f r ih =>
      intro i w1 x5 hr hi he
      obtain ⟨h1, h2, h3⟩ := dropc hr
      obtain ⟨g1, g2⟩ := hsg.2 i f h2
      refine a_il4 fH_wearBy_3 ?_
      refine a_al2 fH_wearBy_5 ?_
      refine a_gf fH_wearBy_6 l_H_124 (rl _) rfl ?_
      refine a_ic_ge fH_wearBy_9 (fun c => absurd c (nI_ge h1 (by omega))) (fun _ => ?_)
      refine a_al2 fH_wearBy_12 ?_
      refine a_gf fH_wearBy_13 l_H_127 (rl _) rfl ?_
      refine a_il4 fH_wearBy_16 ?_
      refine a_ia fH_wearBy_18 (rg _) rfl (by omega) (by decide) ?_
      rw [g1]
      refine a_is5 fH_wearBy_19 (by decide) rfl ?_
      refine a_al1 fH_wearBy_21 ?_
      refine a_gf fH_wearBy_22 l_H_113 (rs _) rfl ?_
      refine a_il5 fH_wearBy_25 ?_
      refine a_dup2 fH_wearBy_27 rfl rfl ?_
      refine a_ia fH_wearBy_28 up_s rfl (by omega) (by decide) ?_
      refine a_il3 fH_wearBy_29 ?_
      refine a_al0 fH_wearBy_30 ?_
      refine a_gf fH_wearBy_31 l_H_9 (rq _) rfl ?_
      refine a_il5 fH_wearBy_34 ?_
      refine a_ia fH_wearBy_36 (rk _) rfl (by omega) (by decide) ?_
      refine a_il4 fH_wearBy_37 ?_
      refine a_al1 fH_wearBy_39 ?_
      refine a_gf fH_wearBy_40 l_H_104 (rs _) rfl ?_
      refine a_S3V fH_wearBy_43 k_H_130 m_I_wear ⟨by decide, by decide⟩ ⟨rfl, rfl⟩ (Nat.le_of_ble_eq_true rfl) (c_wear (hK _ g2) (by omega) hD) ?_
      refine a_imul fH_wearBy_46 ?_
      refine a_iadd fH_wearBy_47 ?_
      refine a_it fH_wearBy_48 up_s rfl (by omega) (by decide) ?_
      refine a_inc4 fH_wearBy_49 (by decide) rfl ?_
      refine a_goto fH_wearBy_52 ?_
      rw [bx_uu, nI_1]
      exact ih (i + 1) _ _ h3 h1 he
  refine fE.of (L := [some (.ref q), some (.ref s), some (.ref l), some (.int t), none, none]) (by decide +kernel) (Nat.le_of_ble_eq_true rfl) rfl ?_
  refine a_ic fH_wearBy_0 ?_
  refine a_is4 fH_wearBy_1 (by decide) rfl ?_
  have := loop sg 0 w none rfl (Nat.zero_le _) rfl
  rw [up_id hw] at this
  exact this
theorem c_bears {q s l : Nat} {S W : Nat → Nat} {g : Nat → Int32} {D : Nat} {sg : List Nat} (hq : h q = hO q) (hk : h (q + 2) = nA 10 S) (hs : h s = sO (s + 1) D) (hw : h (s + 1) = nA 10 W) (hl : h l = lO (l + 1) sg.length) (hg : h (l + 1) = ia 4 g) (hsg : isSg g sg) (hS : sml S 1000) (hW : sml W 1000) :
    fE M_H_bears E [.ref q, .ref s, .ref l] n h (eV (.int (bI (bear S W sg))) n h) := by
  have h4 := hsg.1
  have loop : ∀ (r : List Nat) (i : Nat) (x4 : Option Value), sg.drop i = r → i ≤ sg.length → (bear S W r ↔ bear S W sg) → fA M_H_bears E (fZ M_H_bears E (eV (.int (bI (bear S W sg))) n h)) n h 0 0 2 [some (.ref q), some (.ref s), some (.ref l), some (.int (nI i)), x4] [] := by
    intro r
    induction r with
    | nil =>
      intro i x4 hr hi he
      refine a_il3 fH_bears_2 ?_
      refine a_al2 fH_bears_3 ?_
      refine a_gf fH_bears_4 l_H_124 hl rfl ?_
      refine a_ic_ge fH_bears_7 (fun _ => ?_) (fun c => absurd (nI_le (dropn hr) (by omega)) c)
      refine a_ic fH_bears_43 ?_
      exact a_rz fH_bears_44 rfl (by first | rfl | (split <;> rfl)) (⟨sv (by rw [bI_t (he.mp (fun _ z => by cases z))]), rfl, rfl⟩)
    | cons f r ih =>
      intro i x4 hr hi he
      obtain ⟨h1, h2, h3⟩ := dropc hr
      obtain ⟨g1, g2⟩ := hsg.2 i f h2
      have b1 := hS f g2
      have b2 := hW f g2
      refine a_il3 fH_bears_2 ?_
      refine a_al2 fH_bears_3 ?_
      refine a_gf fH_bears_4 l_H_124 hl rfl ?_
      refine a_ic_ge fH_bears_7 (fun c => absurd c (nI_ge h1 (by omega))) (fun _ => ?_)
      refine a_al2 fH_bears_10 ?_
      refine a_gf fH_bears_11 l_H_127 hl rfl ?_
      refine a_il3 fH_bears_14 ?_
      refine a_ia fH_bears_15 hg rfl (by omega) (by decide) ?_
      rw [g1]
      refine a_is4 fH_bears_16 (by decide) rfl ?_
      refine a_al1 fH_bears_18 ?_
      refine a_gf fH_bears_19 l_H_113 hs rfl ?_
      refine a_il4 fH_bears_22 ?_
      refine a_ia fH_bears_24 hw rfl (by omega) (by decide) ?_
      refine a_al0 fH_bears_25 ?_
      refine a_gf fH_bears_26 l_H_15 hq rfl ?_
      refine a_il4 fH_bears_29 ?_
      refine a_ia fH_bears_31 hk rfl (by omega) (by decide) ?_
      refine a_ic_le fH_bears_32 (fun c => ?_) (fun c => ?_)
      · have c1 : W f ≤ S f := (nI_leI (by omega) (by omega)).mp c
        refine a_inc3 fH_bears_37 (by decide) rfl ?_
        refine a_goto fH_bears_40 ?_
        rw [nI_1]
        refine ih (i + 1) _ h3 h1 (Iff.trans ⟨fun z x hx => ?_, fun z x hx => z x (List.mem_cons_of_mem _ hx)⟩ he)
        rcases List.mem_cons.mp hx with rfl | hx
        · exact c1
        · exact z x hx
      · have c1 : ¬ W f ≤ S f := fun z => c (nI_le z (by omega))
        refine a_ic fH_bears_35 ?_
        exact a_rz fH_bears_36 rfl (by first | rfl | (split <;> rfl)) (⟨sv (by rw [bI_f (fun z => c1 (he.mpr z f List.mem_cons_self))]), rfl, rfl⟩)
  refine fE.of (L := [some (.ref q), some (.ref s), some (.ref l), none, none]) (by decide +kernel) (Nat.le_of_ble_eq_true rfl) rfl ?_
  refine a_ic fH_bears_0 ?_
  refine a_is3 fH_bears_1 (by decide) rfl ?_
  exact loop sg 0 none rfl (Nat.zero_le _) Iff.rfl
theorem c_takes {q s l : Nat} {K S W : Nat → Nat} {g : Nat → Int32} {D : Nat} {sg : List Nat} (hq : h q = hO q) (hk : h (q + 1) = nA 10 K) (hS : h (q + 2) = nA 10 S) (hs : h s = sO (s + 1) D) (hw : h (s + 1) = nA 10 W) (hl : h l = lO (l + 1) sg.length) (hg : h (l + 1) = ia 4 g) (hsg : isSg g sg) (bK : sml K 5) (bS : sml S 100) (bW : sml W 100) (hD : D < 2 ^ 31) (a1 : s + 1 < q ∨ q + 2 < s) (a2 : s + 1 < l ∨ l + 1 < s) :
    fE M_H_takes E [.ref q, .ref s, .ref l] n h (eV (.int (bI (can K S W D sg))) n h) := by
  have b2 : sml (wad K D 0 sg W) 1000 := fun f hf => by have := wad_le (K := K) (D := D) sg 0 W f (by have := hsg.1; omega); have := bW f hf; have := hsg.1; omega
  refine fE.of (L := [some (.ref q), some (.ref s), some (.ref l), none]) (by decide +kernel) (Nat.le_of_ble_eq_true rfl) rfl ?_
  refine a_al0 fH_takes_0 ?_
  refine a_al1 fH_takes_1 ?_
  refine a_al2 fH_takes_2 ?_
  refine a_ic fH_takes_3 ?_
  refine a_V3N fH_takes_4 k_H_134 m_H_wearBy ⟨by decide, by decide⟩ hq rfl ⟨rfl, rfl⟩ (Nat.le_of_ble_eq_true rfl) (c_wearBy hq hk hs hw hl hg hsg bK hD (by omega) a2) ?_
  rw [wby_one]
  have rq : va_up h (s + 1) (nA 10 (wad K D 0 sg W)) q = hO q := up_n (by omega) hq
  have rk : va_up h (s + 1) (nA 10 (wad K D 0 sg W)) (q + 1) = nA 10 K := up_n (by omega) hk
  have rS : va_up h (s + 1) (nA 10 (wad K D 0 sg W)) (q + 2) = nA 10 S := up_n (by omega) hS
  have rs : va_up h (s + 1) (nA 10 (wad K D 0 sg W)) s = sO (s + 1) D := up_n (by omega) hs
  have rl : va_up h (s + 1) (nA 10 (wad K D 0 sg W)) l = lO (l + 1) sg.length := up_n (by omega) hl
  have rg : va_up h (s + 1) (nA 10 (wad K D 0 sg W)) (l + 1) = ia 4 g := up_n (by omega) hg
  refine a_al0 fH_takes_7 ?_
  refine a_al1 fH_takes_8 ?_
  refine a_al2 fH_takes_9 ?_
  refine a_V2V fH_takes_10 k_H_138 m_H_bears ⟨by decide, by decide⟩ rq rfl ⟨rfl, rfl⟩ (Nat.le_of_ble_eq_true rfl) (c_bears rq rS rs up_s rl rg hsg (fun f hf => Nat.le_trans (bS f hf) (by decide)) b2) ?_
  refine a_is3 fH_takes_13 (by decide) rfl ?_
  refine a_al0 fH_takes_14 ?_
  refine a_al1 fH_takes_15 ?_
  refine a_al2 fH_takes_16 ?_
  refine a_ic fH_takes_17 ?_
  refine a_V3N fH_takes_18 k_H_134 m_H_wearBy ⟨by decide, by decide⟩ rq rfl ⟨rfl, rfl⟩ (Nat.le_of_ble_eq_true rfl) (c_wearBy rq rk rs up_s rl rg hsg bK hD (by omega) a2) ?_
  rw [bx_uu, ← wby_one, wby_back, up_id hw]
  refine a_il3 fH_takes_21 ?_
  exact a_rz fH_takes_22 rfl (bI_n _) ⟨rfl, rfl, rfl⟩
theorem c_puts {q s l : Nat} {K S W : Nat → Nat} {g : Nat → Int32} {D : Nat} {sg : List Nat} (hq : h q = hO q) (hk : h (q + 1) = nA 10 K) (hS : h (q + 2) = nA 10 S) (hs : h s = sO (s + 1) D) (hw : h (s + 1) = nA 10 W) (hl : h l = lO (l + 1) sg.length) (hg : h (l + 1) = ia 4 g) (hsg : isSg g sg) (bK : sml K 5) (bS : sml S 100) (bW : sml W 100) (hD : D < 2 ^ 31) (a1 : s + 1 < q ∨ q + 2 < s) (a2 : s + 1 < l ∨ l + 1 < s) :
    fE M_H_puts E [.ref q, .ref s, .ref l] n h (eV (.int (bI (can K S W D sg))) n (va_up h (s + 1) (nA 10 (if can K S W D sg then wad K D 0 sg W else W)))) := by
  have b2 : sml (wad K D 0 sg W) 1000 := fun f hf => by have := wad_le (K := K) (D := D) sg 0 W f (by have := hsg.1; omega); have := bW f hf; have := hsg.1; omega
  refine fE.of (L := [some (.ref q), some (.ref s), some (.ref l)]) (by decide +kernel) (Nat.le_of_ble_eq_true rfl) rfl ?_
  refine a_al0 fH_puts_0 ?_
  refine a_al1 fH_puts_1 ?_
  refine a_al2 fH_puts_2 ?_
  refine a_ic fH_puts_3 ?_
  refine a_V3N fH_puts_4 k_H_134 m_H_wearBy ⟨by decide, by decide⟩ hq rfl ⟨rfl, rfl⟩ (Nat.le_of_ble_eq_true rfl) (c_wearBy hq hk hs hw hl hg hsg bK hD (by omega) a2) ?_
  rw [wby_one]
  have rq : va_up h (s + 1) (nA 10 (wad K D 0 sg W)) q = hO q := up_n (by omega) hq
  have rk : va_up h (s + 1) (nA 10 (wad K D 0 sg W)) (q + 1) = nA 10 K := up_n (by omega) hk
  have rS : va_up h (s + 1) (nA 10 (wad K D 0 sg W)) (q + 2) = nA 10 S := up_n (by omega) hS
  have rs : va_up h (s + 1) (nA 10 (wad K D 0 sg W)) s = sO (s + 1) D := up_n (by omega) hs
  have rl : va_up h (s + 1) (nA 10 (wad K D 0 sg W)) l = lO (l + 1) sg.length := up_n (by omega) hl
  have rg : va_up h (s + 1) (nA 10 (wad K D 0 sg W)) (l + 1) = ia 4 g := up_n (by omega) hg
  by_cases hc : can K S W D sg
  · refine a_al0 fH_puts_7 ?_
    refine a_al1 fH_puts_8 ?_
    refine a_al2 fH_puts_9 ?_
    refine a_V2V fH_puts_10 k_H_138 m_H_bears ⟨by decide, by decide⟩ rq rfl ⟨rfl, rfl⟩ (Nat.le_of_ble_eq_true rfl) (c_bears rq rS rs up_s rl rg hsg (fun f hf => Nat.le_trans (bS f hf) (by decide)) b2) ?_
    refine a_if_eq fH_puts_13 (fun c => absurd c (fun z => by rw [bI_t hc] at z; exact absurd z (by decide))) (fun _ => ?_)
    refine a_ic fH_puts_16 ?_
    exact a_rz fH_puts_17 rfl (by first | rfl | (split <;> rfl)) (⟨sv (by rw [bI_t hc]), rfl, by rw [if_pos hc]⟩)
  · refine a_al0 fH_puts_7 ?_
    refine a_al1 fH_puts_8 ?_
    refine a_al2 fH_puts_9 ?_
    refine a_V2V fH_puts_10 k_H_138 m_H_bears ⟨by decide, by decide⟩ rq rfl ⟨rfl, rfl⟩ (Nat.le_of_ble_eq_true rfl) (c_bears rq rS rs up_s rl rg hsg (fun f hf => Nat.le_trans (bS f hf) (by decide)) b2) ?_
    refine a_if_eq fH_puts_13 (fun _ => ?_) (fun c => absurd (by rw [bI_f hc]) c)
    refine a_al0 fH_puts_18 ?_
    refine a_al1 fH_puts_19 ?_
    refine a_al2 fH_puts_20 ?_
    refine a_ic fH_puts_21 ?_
    refine a_V3N fH_puts_22 k_H_134 m_H_wearBy ⟨by decide, by decide⟩ rq rfl ⟨rfl, rfl⟩ (Nat.le_of_ble_eq_true rfl) (c_wearBy rq rk rs up_s rl rg hsg bK hD (by omega) a2) ?_
    rw [bx_uu, ← wby_one, wby_back, up_id hw]
    refine a_ic fH_puts_25 ?_
    exact a_rz fH_puts_26 rfl (by first | rfl | (split <;> rfl)) (⟨sv (by rw [bI_f hc]), rfl, by rw [if_neg hc, up_id hw]⟩)
theorem c_costOf {q l : Nat} {K : Nat → Nat} {g : Nat → Int32} {D w9 : Nat} {sg : List Nat} (hq : h q = hO q) (hk : h (q + 1) = nA 10 K) (hs : h (q + 3) = sO w9 D) (hl : h l = lO (l + 1) sg.length) (hg : h (l + 1) = ia 4 g) (hsg : isSg g sg) (hK : sml K 5) (hD : D < 2 ^ 31) :
    fE M_H_costOf E [.ref q, .ref l] n h (eV (.int (nI (cst K D 0 sg))) n h) := by
  have h4 := hsg.1
  have loop : ∀ (r : List Nat) (i c0 : Nat), sg.drop i = r → i ≤ sg.length → c0 + cst K D i r = cst K D 0 sg → fA M_H_costOf E (fZ M_H_costOf E (eV (.int (nI (cst K D 0 sg))) n h)) n h 0 0 4 [some (.ref q), some (.ref l), some (.int (nI c0)), some (.int (nI i))] [] := by
    intro r
    induction r with
    | nil =>
      intro i c0 hr hi he
      refine a_il3 fH_costOf_4 ?_
      refine a_al1 fH_costOf_5 ?_
      refine a_gf fH_costOf_6 l_H_124 hl rfl ?_
      refine a_ic_ge fH_costOf_9 (fun _ => ?_) (fun c => absurd (nI_le (dropn hr) (by omega)) c)
      refine a_il2 fH_costOf_43 ?_
      exact a_ri fH_costOf_44 rfl (⟨sv (by rw [← he]; rfl), rfl, rfl⟩)
    | cons f r ih =>
      intro i c0 hr hi he
      obtain ⟨h1, h2, h3⟩ := dropc hr
      obtain ⟨g1, g2⟩ := hsg.2 i f h2
      refine a_il3 fH_costOf_4 ?_
      refine a_al1 fH_costOf_5 ?_
      refine a_gf fH_costOf_6 l_H_124 hl rfl ?_
      refine a_ic_ge fH_costOf_9 (fun c => absurd c (nI_ge h1 (by omega))) (fun _ => ?_)
      refine a_il2 fH_costOf_12 ?_
      refine a_al0 fH_costOf_13 ?_
      refine a_gf fH_costOf_14 l_H_9 hq rfl ?_
      refine a_al1 fH_costOf_17 ?_
      refine a_gf fH_costOf_18 l_H_127 hl rfl ?_
      refine a_il3 fH_costOf_21 ?_
      refine a_ia fH_costOf_22 hg rfl (by omega) (by decide) ?_
      refine a_ia fH_costOf_23 hk g1 g2 (by decide) ?_
      refine a_il3 fH_costOf_24 ?_
      refine a_al0 fH_costOf_25 ?_
      refine a_gf fH_costOf_26 l_H_21 hq rfl ?_
      refine a_gf fH_costOf_29 l_H_104 hs rfl ?_
      refine a_S3V fH_costOf_32 k_H_130 m_I_wear ⟨by decide, by decide⟩ ⟨rfl, rfl⟩ (Nat.le_of_ble_eq_true rfl) (c_wear (hK _ g2) (by omega) hD) ?_
      refine a_iadd fH_costOf_35 ?_
      refine a_is2 fH_costOf_36 (by decide) rfl ?_
      refine a_inc3 fH_costOf_37 (by decide) rfl ?_
      refine a_goto fH_costOf_40 ?_
      rw [nI_1, nI_add]
      exact ih (i + 1) _ h3 h1 (by rw [← he]; simp only [cst]; omega)
  refine fE.of (L := [some (.ref q), some (.ref l), none, none]) (by decide +kernel) (Nat.le_of_ble_eq_true rfl) rfl ?_
  refine a_ic fH_costOf_0 ?_
  refine a_is2 fH_costOf_1 (by decide) rfl ?_
  refine a_ic fH_costOf_2 ?_
  refine a_is3 fH_costOf_3 (by decide) rfl ?_
  exact loop sg 0 0 rfl (Nat.zero_le _) (by omega)
end HO
