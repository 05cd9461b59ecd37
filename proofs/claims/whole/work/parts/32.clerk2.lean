/-! the clerk: counting, nights, seeds, strength -/
theorem cpy_kz {N W : Nat → Nat} (h : kz W) : va_cpy (sl N 20 10) W 0 0 10 = sl N 20 10 := by
  funext i
  unfold va_cpy sl
  by_cases c : i < 10
  · simp [c]
  · simp [c, h i (by omega)]
theorem kz_sl {N : Nat → Nat} {a : Nat} : kz (sl N a 10) := fun i hi => by unfold sl; rw [if_neg (by omega)]
theorem kz_wad {K : Nat → Nat} {D : Nat} : ∀ (r : List Nat) (k : Nat) (W : Nat → Nat), (∀ f ∈ r, f < 10) → kz W → kz (wad K D k r W) := by
  intro r
  induction r with
  | nil => intro k W _ h; exact h
  | cons a r ih =>
    intro k W hr h
    refine ih (k + 1) _ (fun f hf => hr f (List.mem_cons_of_mem _ hf)) (fun i hi => ?_)
    have := hr a List.mem_cons_self
    rw [vn (by omega)]
    exact h i hi
theorem kz_rsW {K W : Nat → Nat} (h : kz W) : kz (rsW K W) := fun i hi => by unfold rsW; rw [if_neg (by omega)]; exact h i hi
theorem sg_lt {g : Nat → Int32} {sg : List Nat} (h : isSg g sg) : ∀ f ∈ sg, f < 10 := fun f hf => by
  obtain ⟨i, hi⟩ := List.getElem?_of_mem hf
  exact (h.2 i f hi).2
/-- written as long as it can be: no figure of the line is worn by more than its strength -/
theorem can_le {K S W : Nat → Nat} {D b : Nat} {sg : List Nat} (h : can K S W D sg) (hs : sml S b) (hw : sml W b) : sml (wad K D 0 sg W) b := by
  intro f hf
  by_cases c : f ∈ sg
  · exact Nat.le_trans (h f c) (hs f hf)
  · have key : ∀ (r : List Nat) (k : Nat) (W : Nat → Nat), f ∉ r → wad K D k r W f = W f := by
      intro r
      induction r with
      | nil => intro k W _; rfl
      | cons a r ih =>
        intro k W hn
        show wad K D (k + 1) r (va_up W a (W a + wr (K a) k D)) f = W f
        rw [ih _ _ (fun z => hn (List.mem_cons_of_mem _ z)), vn (fun z => hn (by rw [z]; exact List.mem_cons_self))]
    rw [key sg 0 W c]
    exact hw f hf
/-- a day's line by a seed -/
def sdx (x : Nat) : Nat := (x * 1103515245 + 12345) % 2147483648
def sdv (x : Nat) : Nat := x / 65536 % 100
/-- how many are written by a seed -/
def yrs (K S : Nat → Nat) : Nat → Nat → Nat → (Nat → Nat) → Nat → Nat
  | 0, _, c, _, _ => c
  | j + 1, x, c, W, D => if can K S W D (sgn (sdv (sdx x)) (sdv (sdx x))) then yrs K S j (sdx x) (c + 1) (rsW K (wad K D 0 (sgn (sdv (sdx x)) (sdv (sdx x))) W)) (D + 1) else yrs K S j (sdx x) c (rsW K W) (D + 1)
/-- how many numbers can be as themselves -/
def ncn (P : Nat → Bool) : Nat → Nat → Nat → Nat
  | 0, _, c => c
  | j + 1, i, c => ncn P j (i + 1) (if P i then c + 1 else c)
theorem ncn_le {P : Nat → Bool} : ∀ (j i c : Nat), ncn P j i c ≤ c + j := by
  intro j
  induction j with
  | zero => intro i c; exact Nat.le_refl _
  | succ j ih =>
    intro i c
    have h1 : (if P i then c + 1 else c) ≤ c + 1 := by split <;> omega
    have := ih (i + 1) (if P i then c + 1 else c); simp only [ncn]; omega
/-- the row with one figure 10 stronger -/
def strN (N : Nat → Nat) (f : Nat) : Nat → Nat := va_up N (10 + f) (N (10 + f) + 10)
def nwt (N : Nat → Nat) (f : Nat) : Nat := ncn (fun v => decide (canR (strN N f) v v)) 100 0 0
def mgt (C : Nat → Nat) (m : Option Nat) (i : Nat) : Bool := match m with
  | none => true
  | some c => decide (c < C i)
/-- the first of the most -/
def mstL (C : Nat → Nat) : Nat → Nat → Nat → Option Nat → Nat
  | 0, _, s, _ => s
  | j + 1, i, s, m => if mgt C m i = true then mstL C j (i + 1) i (some (C i)) else mstL C j (i + 1) s m
section K2
variable {E : eT} {n : Nat} {h : hT} {N : Nat → Nat}
theorem c_countOn (V : hv h N) (S : kS h) (O : okC N) : fE M_K_countOn E [.ref 47, .ref 12] n h (qI (fun r k g => r = nI (cnt (sl N 0 10) (sl N 10 10) (N 30) 100 0 (sl N 20 10)) ∧ k = n ∧ kS g ∧ frk h g)) := by
  have loop : ∀ (j i : Nat) (g : hT) (m : Nat) (f : Nat → Int32) (W ob cd : Nat → Nat) (op dp : Int32) (T : Nat) (D : Nat), D = N 30 → i + j = 100 → hv g N → g 47 = kO op dp → g 48 = lO 49 m → g 49 = ia 4 f → g 50 = sO 51 D → g 51 = nA 10 W → g 52 = nA 6 ob → g 53 = nA 6 cd → kz W → frk h g → sml W 100 → cnt (sl N 0 10) (sl N 10 10) (N 30) j i W = T → fA M_K_countOn E (fZ M_K_countOn E (qI (fun r k g => r = nI T ∧ k = n ∧ kS g ∧ frk h g))) n g 0 0 13 [some (.ref 47), some (.ref 12), some (.int (nI i))] [] := by
    intro j
    induction j with
    | zero =>
      intro i g m f W ob cd op dp T D hD hi V k7 k8 k9 k0 k1 k2 k3 kw Fr bW hT
      obtain rfl : i = 100 := by omega
      refine a_il2 fK_countOn_13 ?_
      refine a_ic fK_countOn_14 ?_
      refine a_ic_ge fK_countOn_16 (fun _ => ?_) (fun c => absurd (Int32.le_refl _) c)
      refine a_ic fK_countOn_51 ?_
      exact a_ri fK_countOn_53 rfl (⟨_, rfl, by rw [← hT]; rfl, rfl, ⟨m, f, D, W, ob, cd, op, dp, k7, k8, k9, k0, k1, k2, k3, kw⟩, Fr⟩)
    | succ j ih =>
      intro i g m f W ob cd op dp T D hD hi V k7 k8 k9 k0 k1 k2 k3 kw Fr bW hT
      refine a_il2 fK_countOn_13 ?_
      refine a_ic fK_countOn_14 ?_
      refine a_ic_ge fK_countOn_16 (fun c => absurd c (nI_ge (b := 100) (by omega) (by decide))) (fun _ => ?_)
      refine a_al0 fK_countOn_19 ?_
      refine a_gf fK_countOn_20 l_K_12 k7 rfl ?_
      refine a_il2 fK_countOn_23 ?_
      refine a_il2 fK_countOn_24 ?_
      refine a_V2Q fK_countOn_25 k_K_39 m_L_tell ⟨by decide, by decide⟩ k8 rfl ⟨rfl, rfl⟩ (Nat.le_of_ble_eq_true rfl) (c_tell (l := 48) k8 k9 (v := i) (x := i) (by omega) (by omega)) (fun n1 h1 p1 => ?_)
      obtain ⟨hn1, g2, q1, hg2⟩ := p1
      subst n1
      have V1 : hv h1 N := by rw [hg2]; exact (V.up (by omega)).up (by omega)
      have K7 : h1 47 = kO op dp := by rw [hg2]; exact up_n (by decide) (up_n (by decide) k7)
      have K8 : h1 48 = lO 49 (sgn i i).length := by rw [hg2]; exact up_n (by decide) up_s
      have K9 : h1 49 = ia 4 g2 := by rw [hg2]; exact up_s
      have K0 : h1 50 = sO 51 D := by rw [hg2]; exact up_n (by decide) (up_n (by decide) k0)
      have K1 : h1 51 = nA 10 W := by rw [hg2]; exact up_n (by decide) (up_n (by decide) k1)
      have K2 : h1 52 = nA 6 ob := by rw [hg2]; exact up_n (by decide) (up_n (by decide) k2)
      have K3 : h1 53 = nA 6 cd := by rw [hg2]; exact up_n (by decide) (up_n (by decide) k3)
      have F1 : frk h h1 := by rw [hg2]; exact (Fr.up (by omega)).up (by omega)
      clear hg2
      refine a_al1 fK_countOn_28 ?_
      refine a_al0 fK_countOn_29 ?_
      refine a_gf fK_countOn_30 l_K_21 K7 rfl ?_
      refine a_al0 fK_countOn_33 ?_
      refine a_gf fK_countOn_34 l_K_12 K7 rfl ?_
      refine a_V2V fK_countOn_37 k_K_64 m_H_puts ⟨by decide, by decide⟩ V1.1 rfl ⟨rfl, rfl⟩ (Nat.le_of_ble_eq_true rfl) (c_puts (q := 12) (s := 50) (l := 48) V1.1 V1.2.1 V1.2.2.1 K0 K1 K8 K9 q1 O.K O.S bW (by rw [hD]; exact O.D) (by omega) (by omega)) ?_
      have Fa : ∀ c, frk h (va_up h1 (50 + 1) c) := fun c => F1.up (by omega)
      by_cases c9 : can (sl N 0 10) (sl N 10 10) W D (sgn i i)
      · rw [if_pos c9]
        refine a_if_ne fK_countOn_40 (fun _ => ?_) (fun c => absurd c (fun z => by rw [bI_t c9] at z; exact absurd z (by decide)))
        refine a_inc2 fK_countOn_45 (by decide) rfl ?_
        refine a_goto fK_countOn_48 ?_
        rw [nI_1]
        refine ih (i + 1) _ _ _ _ _ _ _ _ T D hD (by omega) (V1.up (by omega)) (up_n (by decide) K7) (up_n (by decide) K8) (up_n (by decide) K9) (up_n (by decide) K0) up_s (up_n (by decide) K2) (up_n (by decide) K3) (kz_wad _ _ _ (sg_lt q1) kw) (Fa _) (can_le c9 O.S bW) ?_
        rw [← hT]; simp only [cnt]; rw [← hD, if_pos c9]
      · rw [if_neg c9]
        refine a_if_ne fK_countOn_40 (fun c => absurd (by rw [bI_f c9]) c) (fun _ => ?_)
        refine a_il2 fK_countOn_43 ?_
        exact a_ri fK_countOn_44 rfl (⟨_, rfl, by rw [← hT]; simp only [cnt]; rw [← hD, if_neg c9], rfl, ⟨_, g2, D, W, ob, cd, op, dp, up_n (by decide) K7, up_n (by decide) K8, up_n (by decide) K9, up_n (by decide) K0, up_s, up_n (by decide) K2, up_n (by decide) K3, kw⟩, Fa _⟩)
  obtain ⟨m, f, D, W, ob, cd, op, dp, k7, k8, k9, k0, k1, k2, k3, kw⟩ := S
  refine fE.of (L := [some (.ref 47), some (.ref 12), none]) (by decide +kernel) (Nat.le_of_ble_eq_true rfl) rfl ?_
  refine a_al0 fK_countOn_0 ?_
  refine a_gf fK_countOn_1 l_K_21 k7 rfl ?_
  refine a_al1 fK_countOn_4 ?_
  refine a_gf fK_countOn_5 l_K_49 V.1 rfl ?_
  refine a_V1N fK_countOn_8 k_K_60 m_S_become ⟨by decide, by decide⟩ k0 rfl ⟨rfl, rfl⟩ (Nat.le_of_ble_eq_true rfl) (c_Sbecome (s := 50) (o := 15) k0 k1 V.2.2.2.1 V.2.2.2.2 (by omega)) ?_
  refine a_ic fK_countOn_11 ?_
  refine a_is2 fK_countOn_12 (by decide) rfl ?_
  rw [cpy_kz kw]
  exact loop 100 0 _ m f _ ob cd op dp _ (N 30) rfl rfl ((V.up (by omega)).up (by omega)) (up_n (by decide) (up_n (by decide) k7)) (up_n (by decide) (up_n (by decide) k8)) (up_n (by decide) (up_n (by decide) k9)) up_s (up_n (by decide) up_s) (up_n (by decide) (up_n (by decide) k2)) (up_n (by decide) (up_n (by decide) k3)) kz_sl ((frk.rf.up (by omega)).up (by omega)) O.W rfl
theorem c_nightsTill {v x : Nat} (V : hv h N) (S : kS h) (O : okC N) (hv9 : v < 100) (hx9 : x < 100) : fE M_K_nightsTill E [.ref 47, .ref 12, .int (nI v), .int (nI x)] n h (qI (fun r k g => r = oI (whn (sl N 0 10) (sl N 10 10) (sgn v x) 61 0 (sl N 20 10) (N 30)) ∧ k = n ∧ kS g ∧ frk h g)) := by
  have loop : ∀ (j i : Nat) (g : hT) (f : Nat → Int32) (W ob cd : Nat → Nat) (op dp : Int32) (T : Option Nat) (D : Nat), D ≤ 20000 + i → i + j = 61 → hv g N → g 47 = kO op dp → g 48 = lO 49 (sgn v x).length → g 49 = ia 4 f → isSg f (sgn v x) → g 50 = sO 51 D → g 51 = nA 10 W → g 52 = nA 6 ob → g 53 = nA 6 cd → kz W → frk h g → sml W 100 → whn (sl N 0 10) (sl N 10 10) (sgn v x) j i W D = T → fA M_K_nightsTill E (fZ M_K_nightsTill E (qI (fun r k g => r = oI T ∧ k = n ∧ kS g ∧ frk h g))) n g 0 0 23 [some (.ref 47), some (.ref 12), some (.int (nI v)), some (.int (nI x)), some (.int (nI i))] [] := by
    intro j
    induction j with
    | zero =>
      intro i g f W ob cd op dp T D hD hi V k7 k8 k9 q1 k0 k1 k2 k3 kw Fr bW hT
      obtain rfl : i = 61 := by omega
      refine a_il4 fK_nightsTill_23 ?_
      refine a_ic fK_nightsTill_25 ?_
      refine a_ic_gt fK_nightsTill_27 (fun _ => ?_) (fun c => absurd (by decide) c)
      refine a_ic fK_nightsTill_62 ?_
      exact a_ri fK_nightsTill_63 rfl (⟨_, rfl, by rw [← hT]; rfl, rfl, ⟨_, f, D, W, ob, cd, op, dp, k7, k8, k9, k0, k1, k2, k3, kw⟩, Fr⟩)
    | succ j ih =>
      intro i g f W ob cd op dp T D hD hi V k7 k8 k9 q1 k0 k1 k2 k3 kw Fr bW hT
      refine a_il4 fK_nightsTill_23 ?_
      refine a_ic fK_nightsTill_25 ?_
      refine a_ic_gt fK_nightsTill_27 (fun c => absurd c (fun z => absurd ((nI_ltI (a := 60) (by decide) (by omega)).mp z) (by omega))) (fun _ => ?_)
      refine a_al1 fK_nightsTill_30 ?_
      refine a_al0 fK_nightsTill_31 ?_
      refine a_gf fK_nightsTill_32 l_K_21 k7 rfl ?_
      refine a_al0 fK_nightsTill_35 ?_
      refine a_gf fK_nightsTill_36 l_K_12 k7 rfl ?_
      refine a_V2V fK_nightsTill_39 k_K_52 m_H_takes ⟨by decide, by decide⟩ V.1 rfl ⟨rfl, rfl⟩ (Nat.le_of_ble_eq_true rfl) (c_takes (q := 12) (s := 50) (l := 48) V.1 V.2.1 V.2.2.1 k0 k1 k8 k9 q1 O.K O.S bW (by omega) (by omega) (by omega)) ?_
      by_cases c9 : can (sl N 0 10) (sl N 10 10) W D (sgn v x)
      · refine a_if_eq fK_nightsTill_42 (fun c => absurd c (fun z => by rw [bI_t c9] at z; exact absurd z (by decide))) (fun _ => ?_)
        refine a_il4 fK_nightsTill_45 ?_
        exact a_ri fK_nightsTill_47 rfl (⟨_, rfl, by rw [← hT]; simp only [whn]; rw [if_pos c9]; rfl, rfl, ⟨_, f, D, W, ob, cd, op, dp, k7, k8, k9, k0, k1, k2, k3, kw⟩, Fr⟩)
      · refine a_if_eq fK_nightsTill_42 (fun _ => ?_) (fun c => absurd (by rw [bI_f c9]) c)
        refine a_al1 fK_nightsTill_48 ?_
        refine a_al0 fK_nightsTill_49 ?_
        refine a_gf fK_nightsTill_50 l_K_21 k7 rfl ?_
        refine a_V1N fK_nightsTill_53 k_K_67 m_H_rests ⟨by decide, by decide⟩ V.1 rfl ⟨rfl, rfl⟩ (Nat.le_of_ble_eq_true rfl) (c_rests (q := 12) (s := 50) V.1 V.2.1 k0 k1 O.K (fun f hf => Nat.le_trans (bW f hf) (by decide)) (by omega)) ?_
        refine a_inc4 fK_nightsTill_56 (by decide) rfl ?_
        refine a_goto fK_nightsTill_59 ?_
        rw [nI_1]
        refine ih (i + 1) _ f (rsW (sl N 0 10) W) ob cd op dp T (D + 1) (by omega) (by omega) ((V.up (by omega)).up (by omega)) (up_n (by decide) (up_n (by decide) k7)) (up_n (by decide) (up_n (by decide) k8)) (up_n (by decide) (up_n (by decide) k9)) q1 up_s (up_n (by decide) up_s) (up_n (by decide) (up_n (by decide) k2)) (up_n (by decide) (up_n (by decide) k3)) (kz_rsW kw) ((Fr.up (by omega)).up (by omega)) (rsW_le bW) ?_
        rw [← hT]; simp only [whn]; rw [if_neg c9]
  obtain ⟨m, f, D, W, ob, cd, op, dp, k7, k8, k9, k0, k1, k2, k3, kw⟩ := S
  have Fr : frk h h := frk.rf
  refine fE.of (L := [some (.ref 47), some (.ref 12), some (.int (nI v)), some (.int (nI x)), none]) (by decide +kernel) (Nat.le_of_ble_eq_true rfl) rfl ?_
  refine a_al0 fK_nightsTill_0 ?_
  refine a_gf fK_nightsTill_1 l_K_12 k7 rfl ?_
  refine a_il2 fK_nightsTill_4 ?_
  refine a_il3 fK_nightsTill_5 ?_
  refine a_V2Q fK_nightsTill_6 k_K_39 m_L_tell ⟨by decide, by decide⟩ k8 rfl ⟨rfl, rfl⟩ (Nat.le_of_ble_eq_true rfl) (c_tell (l := 48) k8 k9 hv9 hx9) (fun n1 h1 p1 => ?_)
  obtain ⟨hn1, g2, q1, hg2⟩ := p1
  subst n1
  have V1 : hv h1 N := by rw [hg2]; exact (V.up (by omega)).up (by omega)
  have K7 : h1 47 = kO op dp := by rw [hg2]; exact up_n (by decide) (up_n (by decide) k7)
  have K8 : h1 48 = lO 49 (sgn v x).length := by rw [hg2]; exact up_n (by decide) up_s
  have K9 : h1 49 = ia 4 g2 := by rw [hg2]; exact up_s
  have K0 : h1 50 = sO 51 D := by rw [hg2]; exact up_n (by decide) (up_n (by decide) k0)
  have K1 : h1 51 = nA 10 W := by rw [hg2]; exact up_n (by decide) (up_n (by decide) k1)
  have K2 : h1 52 = nA 6 ob := by rw [hg2]; exact up_n (by decide) (up_n (by decide) k2)
  have K3 : h1 53 = nA 6 cd := by rw [hg2]; exact up_n (by decide) (up_n (by decide) k3)
  have F1 : frk h h1 := by rw [hg2]; exact (Fr.up (by omega)).up (by omega)
  clear hg2
  refine a_al0 fK_nightsTill_9 ?_
  refine a_gf fK_nightsTill_10 l_K_21 K7 rfl ?_
  refine a_al1 fK_nightsTill_13 ?_
  refine a_gf fK_nightsTill_14 l_K_49 V1.1 rfl ?_
  refine a_V1N fK_nightsTill_17 k_K_60 m_S_become ⟨by decide, by decide⟩ K0 rfl ⟨rfl, rfl⟩ (Nat.le_of_ble_eq_true rfl) (c_Sbecome (s := 50) (o := 15) K0 K1 V1.2.2.2.1 V1.2.2.2.2 (by omega)) ?_
  refine a_ic fK_nightsTill_20 ?_
  refine a_is4 fK_nightsTill_21 (by decide) rfl ?_
  rw [cpy_kz kw]
  exact loop 61 0 _ g2 _ ob cd op dp _ (N 30) O.2 rfl ((V1.up (by omega)).up (by omega)) (up_n (by decide) (up_n (by decide) K7)) (up_n (by decide) (up_n (by decide) K8)) (up_n (by decide) (up_n (by decide) K9)) q1 up_s (up_n (by decide) up_s) (up_n (by decide) (up_n (by decide) K2)) (up_n (by decide) (up_n (by decide) K3)) kz_sl ((F1.up (by omega)).up (by omega)) O.W rfl
theorem c_seed {sd ds : Nat} (V : hv h N) (S : kS h) (O : okC N) (hsd : sd < 1000000) (hds : ds ≤ 60) : fE M_K_writtenBySeed E [.ref 47, .ref 12, .int (nI sd), .int (nI ds)] n h (qI (fun r k g => r = nI (yrs (sl N 0 10) (sl N 10 10) ds sd 0 (sl N 20 10) (N 30)) ∧ k = n ∧ kS g ∧ frk h g)) := by
  have loop : ∀ (j i : Nat) (g : hT) (m : Nat) (f : Nat → Int32) (W ob cd : Nat → Nat) (op dp : Int32) (T c0 y : Nat) (D : Nat) (x8 : Option Value), D ≤ 20000 + i → i + j = ds → y < 2147483648 → hv g N → g 47 = kO op dp → g 48 = lO 49 m → g 49 = ia 4 f → g 50 = sO 51 D → g 51 = nA 10 W → g 52 = nA 6 ob → g 53 = nA 6 cd → kz W → frk h g → sml W 100 → yrs (sl N 0 10) (sl N 10 10) j y c0 W D = T → fA M_K_writtenBySeed E (fZ M_K_writtenBySeed E (qI (fun r k g => r = nI T ∧ k = n ∧ kS g ∧ frk h g))) n g 0 0 21 [some (.ref 47), some (.ref 12), some (.int (nI sd)), some (.int (nI ds)), some (.long (lN y)), none, some (.int (nI c0)), some (.int (nI i)), x8] [] := by
    intro j
    induction j with
    | zero =>
      intro i g m f W ob cd op dp T c0 y D x8 hD hi hy V k7 k8 k9 k0 k1 k2 k3 kw Fr bW hT
      refine a_il7 fK_writtenBySeed_21 ?_
      refine a_il3 fK_writtenBySeed_23 ?_
      refine a_ic_ge fK_writtenBySeed_24 (fun _ => ?_) (fun c => absurd (nI_le (by omega) (by omega)) c)
      refine a_il6 fK_writtenBySeed_99 ?_
      exact a_ri fK_writtenBySeed_101 rfl (⟨_, rfl, by rw [← hT]; rfl, rfl, ⟨m, f, D, W, ob, cd, op, dp, k7, k8, k9, k0, k1, k2, k3, kw⟩, Fr⟩)
    | succ j ih =>
      intro i g m f W ob cd op dp T c0 y D x8 hD hi hy V k7 k8 k9 k0 k1 k2 k3 kw Fr bW hT
      refine a_il7 fK_writtenBySeed_21 ?_
      refine a_il3 fK_writtenBySeed_23 ?_
      refine a_ic_ge fK_writtenBySeed_24 (fun c => absurd c (nI_ge (by omega) (by omega))) (fun _ => ?_)
      have b1 : y * 1103515245 + 12345 < 2 ^ 63 := by omega
      have e1 : (lN y * 1103515245 + 12345) - (lN y * 1103515245 + 12345) / 2147483648 * 2147483648 = lN (sdx y) := by
        rw [show lN y * 1103515245 = lN (y * 1103515245) from lN_mul y 1103515245, show lN (y * 1103515245) + 12345 = lN (y * 1103515245 + 12345) from lN_add _ 12345]
        exact pk_lRem (b := 2147483648) b1 (by decide) (by decide)
      have b2 : sdx y < 2147483648 := Nat.mod_lt _ (by decide)
      refine a_ll4 fK_writtenBySeed_27 ?_
      refine a_lc fK_writtenBySeed_29 ?_
      refine a_lmul fK_writtenBySeed_32 ?_
      refine a_lc fK_writtenBySeed_33 ?_
      refine a_ladd fK_writtenBySeed_36 ?_
      refine a_lc fK_writtenBySeed_37 ?_
      refine a_lrem fK_writtenBySeed_40 (by decide) ?_
      rw [e1]
      refine a_lt4 fK_writtenBySeed_41 (by decide) rfl ?_
      refine a_ll4 fK_writtenBySeed_43 ?_
      refine a_lc fK_writtenBySeed_45 ?_
      refine a_ldiv fK_writtenBySeed_48 (by decide) ?_
      have e2 : lN (sdx y) / 65536 - lN (sdx y) / 65536 / 100 * 100 = lN (sdv (sdx y)) := by
        rw [show lN (sdx y) / 65536 = lN (sdx y / 65536) from pk_lDiv (b := 65536) (by omega) (by decide) (by decide)]
        exact pk_lRem (b := 100) (by omega) (by decide) (by decide)
      refine a_lc fK_writtenBySeed_49 ?_
      refine a_lrem fK_writtenBySeed_52 (by decide) ?_
      rw [e2]
      refine a_l2i fK_writtenBySeed_53 ?_
      rw [lN_i]
      have b3 : sdv (sdx y) < 100 := Nat.mod_lt _ (by decide)
      refine a_is8 fK_writtenBySeed_54 (by decide) rfl ?_
      refine a_al0 fK_writtenBySeed_56 ?_
      refine a_gf fK_writtenBySeed_57 l_K_12 k7 rfl ?_
      refine a_il8 fK_writtenBySeed_60 ?_
      refine a_il8 fK_writtenBySeed_62 ?_
      refine a_V2Q fK_writtenBySeed_64 k_K_39 m_L_tell ⟨by decide, by decide⟩ k8 rfl ⟨rfl, rfl⟩ (Nat.le_of_ble_eq_true rfl) (c_tell (l := 48) k8 k9 (v := sdv (sdx y)) (x := sdv (sdx y)) b3 b3) (fun n1 h1 p1 => ?_)
      obtain ⟨hn1, g2, q1, hg2⟩ := p1
      subst n1
      have V1 : hv h1 N := by rw [hg2]; exact (V.up (by omega)).up (by omega)
      have K7 : h1 47 = kO op dp := by rw [hg2]; exact up_n (by decide) (up_n (by decide) k7)
      have K8 : h1 48 = lO 49 (sgn (sdv (sdx y)) (sdv (sdx y))).length := by rw [hg2]; exact up_n (by decide) up_s
      have K9 : h1 49 = ia 4 g2 := by rw [hg2]; exact up_s
      have K0 : h1 50 = sO 51 D := by rw [hg2]; exact up_n (by decide) (up_n (by decide) k0)
      have K1 : h1 51 = nA 10 W := by rw [hg2]; exact up_n (by decide) (up_n (by decide) k1)
      have K2 : h1 52 = nA 6 ob := by rw [hg2]; exact up_n (by decide) (up_n (by decide) k2)
      have K3 : h1 53 = nA 6 cd := by rw [hg2]; exact up_n (by decide) (up_n (by decide) k3)
      have F1 : frk h h1 := by rw [hg2]; exact (Fr.up (by omega)).up (by omega)
      clear hg2
      refine a_al1 fK_writtenBySeed_67 ?_
      refine a_al0 fK_writtenBySeed_68 ?_
      refine a_gf fK_writtenBySeed_69 l_K_21 K7 rfl ?_
      refine a_al0 fK_writtenBySeed_72 ?_
      refine a_gf fK_writtenBySeed_73 l_K_12 K7 rfl ?_
      refine a_V2V fK_writtenBySeed_76 k_K_64 m_H_puts ⟨by decide, by decide⟩ V1.1 rfl ⟨rfl, rfl⟩ (Nat.le_of_ble_eq_true rfl) (c_puts (q := 12) (s := 50) (l := 48) V1.1 V1.2.1 V1.2.2.1 K0 K1 K8 K9 q1 O.K O.S bW (by omega) (by omega) (by omega)) ?_
      have tl : ∀ (W2 : Nat → Nat) (c2 : Nat), kz W2 → sml W2 100 → yrs (sl N 0 10) (sl N 10 10) j (sdx y) c2 (rsW (sl N 0 10) W2) (D + 1) = T → fA M_K_writtenBySeed E (fZ M_K_writtenBySeed E (qI (fun r k g => r = nI T ∧ k = n ∧ kS g ∧ frk h g))) n (va_up h1 (50 + 1) (nA 10 W2)) 0 0 85 [some (.ref 47), some (.ref 12), some (.int (nI sd)), some (.int (nI ds)), some (.long (lN (sdx y))), none, some (.int (nI c2)), some (.int (nI i)), some (.int (nI (sdv (sdx y))))] [] := by
        intro W2 c2 kw2 bW2 hT2
        refine a_al1 fK_writtenBySeed_85 ?_
        refine a_al0 fK_writtenBySeed_86 ?_
        refine a_gf fK_writtenBySeed_87 l_K_21 (up_n (by decide) K7) rfl ?_
        refine a_V1N fK_writtenBySeed_90 k_K_67 m_H_rests ⟨by decide, by decide⟩ (up_n (by decide) V1.1) rfl ⟨rfl, rfl⟩ (Nat.le_of_ble_eq_true rfl) (c_rests (q := 12) (s := 50) (up_n (by decide) V1.1) (up_n (by decide) V1.2.1) (up_n (by decide) K0) up_s O.K (fun f hf => Nat.le_trans (bW2 f hf) (by decide)) (by omega)) ?_
        refine a_inc7 fK_writtenBySeed_93 (by decide) rfl ?_
        refine a_goto fK_writtenBySeed_96 ?_
        rw [nI_1, bx_uu]
        exact ih (i + 1) _ _ _ _ _ _ _ _ T c2 (sdx y) (D + 1) _ (by omega) (by omega) b2 ((V1.up (by omega)).up (by omega)) (up_n (by decide) (up_n (by decide) K7)) (up_n (by decide) (up_n (by decide) K8)) (up_n (by decide) (up_n (by decide) K9)) up_s (up_n (by decide) up_s) (up_n (by decide) (up_n (by decide) K2)) (up_n (by decide) (up_n (by decide) K3)) (kz_rsW kw2) ((F1.up (by omega)).up (by omega)) (rsW_le bW2) hT2
      by_cases c9 : can (sl N 0 10) (sl N 10 10) W D (sgn (sdv (sdx y)) (sdv (sdx y)))
      · rw [if_pos c9]
        refine a_if_eq fK_writtenBySeed_79 (fun c => absurd c (fun z => by rw [bI_t c9] at z; exact absurd z (by decide))) (fun _ => ?_)
        refine a_inc6 fK_writtenBySeed_82 (by decide) rfl ?_
        rw [nI_1]
        exact tl _ _ (kz_wad _ _ _ (sg_lt q1) kw) (can_le c9 O.S bW) (by rw [← hT]; simp only [yrs]; rw [if_pos c9])
      · rw [if_neg c9]
        refine a_if_eq fK_writtenBySeed_79 (fun _ => ?_) (fun c => absurd (by rw [bI_f c9]) c)
        exact tl _ _ kw bW (by rw [← hT]; simp only [yrs]; rw [if_neg c9])
  obtain ⟨m, f, D, W, ob, cd, op, dp, k7, k8, k9, k0, k1, k2, k3, kw⟩ := S
  refine fE.of (L := [some (.ref 47), some (.ref 12), some (.int (nI sd)), some (.int (nI ds)), none, none, none, none, none]) (by decide +kernel) (Nat.le_of_ble_eq_true rfl) rfl ?_
  refine a_il2 fK_writtenBySeed_0 ?_
  refine a_i2l fK_writtenBySeed_1 ?_
  rw [nI_l (by omega)]
  refine a_lt4 fK_writtenBySeed_2 (by decide) rfl ?_
  refine a_ic fK_writtenBySeed_4 ?_
  refine a_is6 fK_writtenBySeed_5 (by decide) rfl ?_
  refine a_al0 fK_writtenBySeed_7 ?_
  refine a_gf fK_writtenBySeed_8 l_K_21 k7 rfl ?_
  refine a_al1 fK_writtenBySeed_11 ?_
  refine a_gf fK_writtenBySeed_12 l_K_49 V.1 rfl ?_
  refine a_V1N fK_writtenBySeed_15 k_K_60 m_S_become ⟨by decide, by decide⟩ k0 rfl ⟨rfl, rfl⟩ (Nat.le_of_ble_eq_true rfl) (c_Sbecome (s := 50) (o := 15) k0 k1 V.2.2.2.1 V.2.2.2.2 (by omega)) ?_
  refine a_ic fK_writtenBySeed_18 ?_
  refine a_is7 fK_writtenBySeed_19 (by decide) rfl ?_
  rw [cpy_kz kw]
  exact loop ds 0 _ m f _ ob cd op dp _ 0 sd (N 30) none O.2 (by omega) (by omega) ((V.up (by omega)).up (by omega)) (up_n (by decide) (up_n (by decide) k7)) (up_n (by decide) (up_n (by decide) k8)) (up_n (by decide) (up_n (by decide) k9)) up_s (up_n (by decide) up_s) (up_n (by decide) (up_n (by decide) k2)) (up_n (by decide) (up_n (by decide) k3)) kz_sl ((frk.rf.up (by omega)).up (by omega)) O.W rfl
theorem str_sl {F : Nat} (hF : F < 10) : sl (strN N F) 10 10 = va_up (sl N 10 10) F (N (10 + F) + 10) ∧ sl (strN N F) 0 10 = sl N 0 10 ∧ sl (strN N F) 20 10 = sl N 20 10 ∧ strN N F 30 = N 30 := by
  unfold strN
  exact ⟨(sl_up hF).symm, sl_out (by omega), sl_out (by omega), vn (by omega)⟩
theorem c_numbersWith {F : Nat} (V : hv h N) (S : kS h) (O : okC N) (hF : F < 10) (hs : ∀ f, f < 10 → N (10 + f) ≤ 60) : fE M_K_numbersWith E [.ref 47, .ref 12, .int (nI F)] n h (qI (fun r k g => r = nI (nwt N F) ∧ k = n ∧ kS g ∧ frk h g)) := by
  obtain ⟨t1, t2, t3, t4⟩ := str_sl (N := N) hF
  have O2 : okC (strN N F) := ⟨fun f hf => by
    have := O.1 f hf
    have := hs f hf
    have := hs F hF
    unfold strN
    rw [vn (by omega : f ≠ 10 + F), vn (by omega : 20 + f ≠ 10 + F)]
    by_cases c : f = F
    · subst c; rw [up_s]; omega
    · rw [vn (by omega)]; omega, by rw [t4]; exact O.2⟩
  have V2 : hv (va_up h 14 (nA 10 (sl (strN N F) 10 10))) (strN N F) := ⟨up_n (by decide) V.1, by rw [t2]; exact up_n (by decide) V.2.1, up_s, by rw [t4]; exact up_n (by decide) V.2.2.2.1, by rw [t3]; exact up_n (by decide) V.2.2.2.2⟩
  generalize hh2 : va_up h 14 (nA 10 (sl (strN N F) 10 10)) = h2 at V2
  have loop : ∀ (j i c0 : Nat) (g : hT) (T : Nat), i + j = 100 → hv g (strN N F) → kS g → frk h2 g → ncn (fun v => decide (canR (strN N F) v v)) j i c0 = T → fA M_K_numbersWith E (fZ M_K_numbersWith E (qI (fun r k g => r = nI T ∧ k = n ∧ kS g ∧ frk h g))) n g 0 0 25 [some (.ref 47), some (.ref 12), some (.int (nI F)), some (.int (nI c0)), some (.int (nI i))] [] := by
    intro j
    induction j with
    | zero =>
      intro i c0 g T hi V3 S3 Fr hT
      obtain rfl : i = 100 := by omega
      refine a_il4 fK_numbersWith_25 ?_
      refine a_ic fK_numbersWith_27 ?_
      refine a_ic_ge fK_numbersWith_29 (fun _ => ?_) (fun c => absurd (Int32.le_refl _) c)
      have e14 : g 14 = nA 10 (va_up (sl N 10 10) F (N (10 + F) + 10)) := by rw [← t1]; exact V3.2.2.1
      refine a_al1 fK_numbersWith_67 ?_
      refine a_gf fK_numbersWith_68 l_K_111 V3.1 rfl ?_
      refine a_il2 fK_numbersWith_71 ?_
      refine a_dup2 fK_numbersWith_72 rfl rfl ?_
      refine a_ia fK_numbersWith_73 e14 rfl (by omega) (by decide) ?_
      refine a_ic fK_numbersWith_74 ?_
      refine a_isub fK_numbersWith_76 ?_
      rw [show nF (va_up (sl N 10 10) F (N (10 + F) + 10)) F = nI (N (10 + F) + 10) from congrArg nI up_s, show nI (N (10 + F) + 10) - 10 = nI (N (10 + F)) by rw [show (10 : Int32) = nI 10 from rfl, pk_sub (by omega)]; congr 1]
      refine a_it fK_numbersWith_77 e14 rfl (by omega) (by decide) ?_
      rw [upd_nF, bx_uu, show va_up (sl N 10 10) F (N (10 + F)) = sl N 10 10 from up_id (sl_lt hF)]
      obtain ⟨m, f, D, W, ob, cd, op, dp, k7, k8, k9, k0, k1, k2, k3, kw⟩ := S3
      have Fz : frk h (va_up g (12 + 2) (ia 10 (nF (sl N 10 10)))) := fun a ha => by
        by_cases c : a = 14
        · subst c; rw [V.2.2.1]; exact up_s
        · refine up_n c ((Fr a ha).trans ?_)
          rw [← hh2]; exact up_n c rfl
      refine a_il3 fK_numbersWith_78 ?_
      exact a_ri fK_numbersWith_79 rfl (⟨_, rfl, by rw [← hT]; rfl, rfl, ⟨m, f, D, W, ob, cd, op, dp, up_n (by decide) k7, up_n (by decide) k8, up_n (by decide) k9, up_n (by decide) k0, up_n (by decide) k1, up_n (by decide) k2, up_n (by decide) k3, kw⟩, Fz⟩)
    | succ j ih =>
      intro i c0 g T hi V S Fr hT
      obtain ⟨m, f, D, W, ob, cd, op, dp, k7, k8, k9, k0, k1, k2, k3, kw⟩ := S
      refine a_il4 fK_numbersWith_25 ?_
      refine a_ic fK_numbersWith_27 ?_
      refine a_ic_ge fK_numbersWith_29 (fun c => absurd c (nI_ge (b := 100) (by omega) (by decide))) (fun _ => ?_)
      refine a_al0 fK_numbersWith_32 ?_
      refine a_gf fK_numbersWith_33 l_K_12 k7 rfl ?_
      refine a_il4 fK_numbersWith_36 ?_
      refine a_il4 fK_numbersWith_38 ?_
      refine a_V2Q fK_numbersWith_40 k_K_39 m_L_tell ⟨by decide, by decide⟩ k8 rfl ⟨rfl, rfl⟩ (Nat.le_of_ble_eq_true rfl) (c_tell (l := 48) k8 k9 (v := i) (x := i) (by omega) (by omega)) (fun n1 h1 p1 => ?_)
      obtain ⟨hn1, g2, q1, hg2⟩ := p1
      subst n1
      have V1 : hv h1 (strN N F) := by rw [hg2]; exact (V.up (by omega)).up (by omega)
      have K7 : h1 47 = kO op dp := by rw [hg2]; exact up_n (by decide) (up_n (by decide) k7)
      have K8 : h1 48 = lO 49 (sgn i i).length := by rw [hg2]; exact up_n (by decide) up_s
      have K9 : h1 49 = ia 4 g2 := by rw [hg2]; exact up_s
      have S1 : kS h1 := by rw [hg2]; exact ⟨_, g2, D, W, ob, cd, op, dp, up_n (by decide) (up_n (by decide) k7), up_n (by decide) up_s, up_s, up_n (by decide) (up_n (by decide) k0), up_n (by decide) (up_n (by decide) k1), up_n (by decide) (up_n (by decide) k2), up_n (by decide) (up_n (by decide) k3), kw⟩
      have F1 : frk h2 h1 := by rw [hg2]; exact (Fr.up (by omega)).up (by omega)
      refine a_al1 fK_numbersWith_43 ?_
      refine a_al1 fK_numbersWith_44 ?_
      refine a_gf fK_numbersWith_45 l_K_49 V1.1 rfl ?_
      refine a_al0 fK_numbersWith_48 ?_
      refine a_gf fK_numbersWith_49 l_K_12 K7 rfl ?_
      refine a_V2V fK_numbersWith_52 k_K_52 m_H_takes ⟨by decide, by decide⟩ V1.1 rfl ⟨rfl, rfl⟩ (Nat.le_of_ble_eq_true rfl) (c_takes (q := 12) (s := 15) (l := 48) V1.1 V1.2.1 V1.2.2.1 V1.2.2.2.1 V1.2.2.2.2 K8 K9 q1 O2.K O2.S O2.W O2.D (by omega) (by omega)) ?_
      by_cases c9 : canR (strN N F) i i
      · refine a_if_eq fK_numbersWith_55 (fun c => absurd c (fun z => by rw [bI_t c9] at z; exact absurd z (by decide))) (fun _ => ?_)
        refine a_inc3 fK_numbersWith_58 (by decide) rfl ?_
        refine a_inc4 fK_numbersWith_61 (by decide) rfl ?_
        refine a_goto fK_numbersWith_64 ?_
        rw [nI_1, nI_1]
        exact ih (i + 1) (c0 + 1) h1 T (by omega) V1 S1 F1 (by rw [← hT]; simp only [ncn, decide_eq_true c9, if_true])
      · refine a_if_eq fK_numbersWith_55 (fun _ => ?_) (fun c => absurd (by rw [bI_f c9]) c)
        refine a_inc4 fK_numbersWith_61 (by decide) rfl ?_
        refine a_goto fK_numbersWith_64 ?_
        rw [nI_1]
        exact ih (i + 1) c0 h1 T (by omega) V1 S1 F1 (by rw [← hT]; simp only [ncn, decide_eq_false c9]; rfl)
  refine fE.of (L := [some (.ref 47), some (.ref 12), some (.int (nI F)), none, none]) (by decide +kernel) (Nat.le_of_ble_eq_true rfl) rfl ?_
  refine a_il2 fK_numbersWith_0 ?_
  refine a_S1V fK_numbersWith_1 k_K_108 m_F_isFigure ⟨by decide, by decide⟩ ⟨rfl, rfl⟩ (Nat.le_of_ble_eq_true rfl) (c_isFigure) ?_
  refine a_if_ne fK_numbersWith_4 (fun _ => ?_) (fun c => absurd c (fun z => by rw [bI_t ⟨nI_pos' (by omega), nI_le (b := 9) (by omega) (by decide)⟩] at z; exact absurd z (by decide)))
  refine a_ic fK_numbersWith_9 ?_
  refine a_is3 fK_numbersWith_10 (by decide) rfl ?_
  refine a_al1 fK_numbersWith_11 ?_
  refine a_gf fK_numbersWith_12 l_K_111 V.1 rfl ?_
  refine a_il2 fK_numbersWith_15 ?_
  refine a_dup2 fK_numbersWith_16 rfl rfl ?_
  refine a_ia fK_numbersWith_17 V.2.2.1 rfl (by omega) (by decide) ?_
  refine a_ic fK_numbersWith_18 ?_
  refine a_iadd fK_numbersWith_20 ?_
  rw [show nF (sl N 10 10) F = nI (N (10 + F)) from congrArg nI (sl_lt hF), show nI (N (10 + F)) + 10 = nI (N (10 + F) + 10) from nI_add _ 10]
  refine a_it fK_numbersWith_21 V.2.2.1 rfl (by omega) (by decide) ?_
  refine a_ic fK_numbersWith_22 ?_
  refine a_is4 fK_numbersWith_23 (by decide) rfl ?_
  rw [upd_nF, ← t1, show (12 + 2 : Nat) = 14 from rfl, hh2]
  have S2 : kS h2 := by
    obtain ⟨m, f, D, W, ob, cd, op, dp, k7, k8, k9, k0, k1, k2, k3, kw⟩ := S
    rw [← hh2]
    exact ⟨m, f, D, W, ob, cd, op, dp, up_n (by decide) k7, up_n (by decide) k8, up_n (by decide) k9, up_n (by decide) k0, up_n (by decide) k1, up_n (by decide) k2, up_n (by decide) k3, kw⟩
  exact loop 100 0 0 h2 _ rfl V2 S2 frk.rf rfl
theorem c_mostWanted (V : hv h N) (S : kS h) (O : okC N) (hs : ∀ f, f < 10 → N (10 + f) ≤ 60) : fE M_K_mostWanted E [.ref 47, .ref 12] n h (qI (fun r k g => r = nI (mstL (nwt N) 10 0 0 none) ∧ k = n ∧ kS g ∧ frk h g)) := by
  have loop : ∀ (j i s : Nat) (g : hT) (mm : Option Nat) (T : Nat) (x5 : Option Value), i + j = 10 → hv g N → kS g → frk h g → (∀ c, mm = some c → c ≤ 100) → mstL (nwt N) j i s mm = T → fA M_K_mostWanted E (fZ M_K_mostWanted E (qI (fun r k g => r = nI T ∧ k = n ∧ kS g ∧ frk h g))) n g 0 0 7 [some (.ref 47), some (.ref 12), some (.int (nI s)), some (.int (oI mm)), some (.int (nI i)), x5] [] := by
    intro j
    induction j with
    | zero =>
      intro i s g mm T x5 hi V S Fr hm hT
      obtain rfl : i = 10 := by omega
      refine a_il4 fK_mostWanted_7 ?_
      refine a_ic fK_mostWanted_9 ?_
      refine a_ic_ge fK_mostWanted_11 (fun _ => ?_) (fun c => absurd (Int32.le_refl _) c)
      refine a_il2 fK_mostWanted_41 ?_
      exact a_ri fK_mostWanted_42 rfl (⟨_, rfl, by rw [← hT]; rfl, rfl, S, Fr⟩)
    | succ j ih =>
      intro i s g mm T x5 hi V S Fr hm hT
      refine a_il4 fK_mostWanted_7 ?_
      refine a_ic fK_mostWanted_9 ?_
      refine a_ic_ge fK_mostWanted_11 (fun c => absurd c (nI_ge (b := 10) (by omega) (by decide))) (fun _ => ?_)
      have k7 : ∃ op dp, g 47 = kO op dp := by obtain ⟨m, f, D, W, ob, cd, op, dp, k7, _⟩ := S; exact ⟨op, dp, k7⟩
      obtain ⟨op, dp, k7⟩ := k7
      refine a_al0 fK_mostWanted_14 ?_
      refine a_al1 fK_mostWanted_15 ?_
      refine a_il4 fK_mostWanted_16 ?_
      refine a_V2I fK_mostWanted_18 k_K_104 m_K_numbersWith ⟨by decide, by decide⟩ k7 rfl ⟨rfl, rfl⟩ (Nat.le_of_ble_eq_true rfl) (c_numbersWith V S O (F := i) (by omega) hs) (fun r1 n1 h1 p1 => ?_)
      refine a_is5 fK_mostWanted_21 (by decide) rfl ?_
      obtain ⟨rfl, hn1, S1, F1⟩ := p1
      subst n1
      have bn : nwt N i ≤ 100 := by have := ncn_le (P := fun v => decide (canR (strN N i) v v)) 100 0 0; unfold nwt; omega
      have tk : ∀ (y5 : Option Value), mgt (nwt N) mm i = true → fA M_K_mostWanted E (fZ M_K_mostWanted E (qI (fun r k g => r = nI T ∧ k = n ∧ kS g ∧ frk h g))) n h1 0 0 29 [some (.ref 47), some (.ref 12), some (.int (nI s)), some (.int (oI mm)), some (.int (nI i)), some (.int (nI (nwt N i)))] [] := by
        intro y5 hb
        refine a_il5 fK_mostWanted_29 ?_
        refine a_is3 fK_mostWanted_31 (by decide) rfl ?_
        refine a_il4 fK_mostWanted_32 ?_
        refine a_is2 fK_mostWanted_34 (by decide) rfl ?_
        refine a_inc4 fK_mostWanted_35 (by decide) rfl ?_
        refine a_goto fK_mostWanted_38 ?_
        rw [nI_1]
        exact ih (i + 1) i h1 (some (nwt N i)) T _ (by omega) (V.fr F1) S1 (Fr.trans F1) (fun c hc => by cases hc; exact bn) (by rw [← hT]; simp only [mstL]; rw [if_pos hb])
      cases mm with
      | none =>
        have cz : ¬ nI (nwt N i) ≤ oI none := fun z => by
          rw [Int32.le_iff_toInt_le, nI_toInt (by omega), show (oI none).toInt = -1 from rfl] at z; omega
        refine a_il5 fK_mostWanted_23 ?_
        refine a_il3 fK_mostWanted_25 ?_
        refine a_ic_le fK_mostWanted_26 (fun c => absurd c (cz)) (fun _ => ?_)
        exact tk none rfl
      | some c0 =>
        have bc := hm c0 rfl
        by_cases c9 : c0 < nwt N i
        · refine a_il5 fK_mostWanted_23 ?_
          refine a_il3 fK_mostWanted_25 ?_
          refine a_ic_le fK_mostWanted_26 (fun c => absurd c (fun z => absurd ((nI_leI (by omega) (by omega)).mp z) (by omega))) (fun _ => ?_)
          exact tk none (decide_eq_true c9)
        · refine a_il5 fK_mostWanted_23 ?_
          refine a_il3 fK_mostWanted_25 ?_
          refine a_ic_le fK_mostWanted_26 (fun _ => ?_) (fun c => absurd (nI_le (by omega) (by omega)) c)
          refine a_inc4 fK_mostWanted_35 (by decide) rfl ?_
          refine a_goto fK_mostWanted_38 ?_
          rw [nI_1]
          exact ih (i + 1) s h1 (some c0) T _ (by omega) (V.fr F1) S1 (Fr.trans F1) hm (by rw [← hT]; simp only [mstL]; rw [if_neg (show ¬ mgt (nwt N) (some c0) i = true from fun z => c9 (of_decide_eq_true z))])
  refine fE.of (L := [some (.ref 47), some (.ref 12), none, none, none, none]) (by decide +kernel) (Nat.le_of_ble_eq_true rfl) rfl ?_
  refine a_ic fK_mostWanted_0 ?_
  refine a_is2 fK_mostWanted_1 (by decide) rfl ?_
  refine a_ic fK_mostWanted_2 ?_
  refine a_is3 fK_mostWanted_3 (by decide) rfl ?_
  refine a_ic fK_mostWanted_4 ?_
  refine a_is4 fK_mostWanted_5 (by decide) rfl ?_
  exact loop 10 0 0 h none _ none rfl V S frk.rf (fun c hc => by cases hc) rfl
end K2
