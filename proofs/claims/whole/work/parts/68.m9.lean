/-! plans by rows of days -/
def dg (r b : Nat) : Nat := r / 2 ^ (10 - 2 * b) % 4
theorem dg_lt {r b : Nat} : dg r b < 4 := Nat.mod_lt _ (by decide)
/-- the open bills from b on -/
def opD (N : Nat → Nat) : Nat → Nat → List Nat
  | 0, _ => []
  | j + 1, b => if N 44 / 2 ^ b % 2 = 1 then opD N j (b + 1) else b :: opD N j (b + 1)
theorem opD_eq {N : Nat → Nat} : ∀ (j b : Nat), opL N b ++ opD N j b = opL N (b + j)
  | 0, b => by simp [opD]
  | j + 1, b => by
    have h := opD_eq (N := N) j (b + 1)
    rw [show b + (j + 1) = b + 1 + j by omega, ← h, opL_s]
    simp only [opD]
    split
    · rw [List.append_nil]
    · rw [List.append_assoc]; rfl
theorem opD_0 {N : Nat → Nat} {m : Nat} : opD N m 0 = opL N m := by
  have := opD_eq (N := N) m 0
  rw [Nat.zero_add] at this
  rw [← this]
  rfl
/-- the last day and 1 -/
def isLa (a : Nat → Nat) (l : List Nat) (d L : Nat) : Prop := (∀ b ∈ l, a b < d → a b < L) ∧ (L = 0 ∨ ∃ b ∈ l, a b < d ∧ a b + 1 = L)
theorem orb : ∀ s, s < 64 → ∀ b, b < 6 → ∀ x, x < 6 → ((s ||| 2 ^ b) / 2 ^ x % 2 = 1 ↔ (s / 2 ^ x % 2 = 1 ∨ x = b)) := by decide +kernel
theorem adL_le {K : Nat → Nat} {D : Nat} : ∀ (bs : List Nat) (W : Nat → Nat) (b : Nat), sml W b → sml (adL K D bs W) (b + 24 * bs.length) := by
  intro bs
  induction bs with
  | nil => intro W b h; exact h
  | cons v r ih =>
    intro W b h f hf
    simp only [adL, List.length_cons]
    have := ih (wad K D 0 (sgn v v) W) (b + 24) (fun f hf => by
      have h1 := h f hf
      have h2 := wad_le (K := K) (D := D) (sgn v v) 0 W f (by have := @sgn_len v v; omega)
      have h3 := @sgn_len v v
      omega) f hf
    omega
theorem adL_kz {K : Nat → Nat} {D : Nat} : ∀ (bs : List Nat) (W : Nat → Nat), (∀ v ∈ bs, v < 100) → kz W → kz (adL K D bs W) := by
  intro bs
  induction bs with
  | nil => intro W _ h; exact h
  | cons v r ih =>
    intro W hb h
    have := hb v List.mem_cons_self
    exact ih _ (fun u hu => hb u (List.mem_cons_of_mem _ hu)) (kz_wad _ _ _ (sgn_lt this this) h)
theorem gtL_sml {K S W : Nat → Nat} {D b : Nat} {bs : List Nat} (h : gtL K S D bs W = true) (hS : sml S b) (hW : sml W b) : sml (adL K D bs W) b := by
  intro f hf
  rw [gtL_all] at h
  by_cases c : ∃ v, v ∈ bs ∧ f ∈ sgn v v
  · obtain ⟨v, c1, c2⟩ := c
    exact Nat.le_trans (h v c1 f c2) (hS f hf)
  · rw [adL_no bs W (fun v c1 c2 => c ⟨v, c1, c2⟩)]
    exact hW f hf
abbrev selR (N : Nat → Nat) (row d : Nat) (l : List Nat) : List Nat := sel (fun i => N (32 + i)) (dg row) d l
theorem sel_mem {nb a : Nat → Nat} {d v : Nat} {l : List Nat} : v ∈ sel nb a d l ↔ ∃ b, b ∈ l ∧ a b = d ∧ nb b = v := by
  unfold sel
  rw [List.mem_map]
  constructor
  · rintro ⟨b, h1, h2⟩
    rw [List.mem_filter] at h1
    exact ⟨b, h1.1, of_decide_eq_true h1.2, h2⟩
  · rintro ⟨b, h1, h2, h3⟩
    exact ⟨b, List.mem_filter.mpr ⟨h1, decide_eq_true h2⟩, h3⟩
section M9
variable {E : eT} {n : Nat} {h : hT} {c : mT} {th mn : Int32} {N : Nat → Nat}
theorem c_MdayOf {row b : Nat} (hr : row < 4096) (hb : b < 6) : fE M_M_dayOf E [.int (nI row), .int (nI b)] n h (eV (.int (nI (dg row b))) n h) := by
  refine fE.of (L := [some (.int (nI row)), some (.int (nI b))]) (by decide +kernel) (Nat.le_of_ble_eq_true rfl) rfl ?_
  refine a_il0 fM_dayOf_0 ?_
  refine a_ic fM_dayOf_1 ?_
  refine a_ic fM_dayOf_3 ?_
  refine a_il1 fM_dayOf_4 ?_
  refine a_imul fM_dayOf_5 ?_
  refine a_isub fM_dayOf_6 ?_
  refine a_ishr fM_dayOf_7 ?_
  refine a_ic fM_dayOf_8 ?_
  refine a_iand fM_dayOf_9 ?_
  have h2 : ∀ b, b < 32 → ((nI b).toBitVec.smod 32).toNat = b := by decide
  have h1 : nI (10 - 2 * b) &&& 31 = nI (10 - 2 * b) := by
    have := pk_andN (n := 10 - 2 * b) (by omega) (m := 31) 5 (by decide)
    rw [this]; congr 1; exact Nat.mod_eq_of_lt (by omega)
  have e : (nI row >>> (((10 : Int32) - 2 * nI b) &&& 31)) &&& 3 = nI (dg row b) := by
    rw [show (2 : Int32) * nI b = nI (2 * b) from pk_mul 2 b, show (10 : Int32) - nI (2 * b) = nI (10 - 2 * b) from pk_sub (a := 10) (by omega), h1, pk_shrN (by omega) (nI (10 - 2 * b)) (10 - 2 * b) (h2 _ (by omega))]
    exact pk_andN (n := row / 2 ^ (10 - 2 * b)) (Nat.lt_of_le_of_lt (Nat.div_le_self _ _) (by omega)) (m := 3) 2 (by decide)
  rw [e]
  exact a_ri fM_dayOf_10 rfl ⟨rfl, rfl, rfl⟩
theorem c_MdaysOf {row : Nat} (W : mW c h) (m1 : h 64 = nA 189 N) (O : okC N) (OB : okB N) (hr : row < 4096) : fE M_M_daysOf E [.ref 63, .int (nI row)] n h (qI (fun r k g => k = n ∧ mW c g ∧ mF h g ∧ ((skR N (dg row) (opL N (N 31)) 4 = true ∧ ∃ L, isLa (dg row) (opL N (N 31)) 4 L ∧ L ≤ 4 ∧ r = nI L) ∨ (skR N (dg row) (opL N (N 31)) 4 = false ∧ r = -1)))) := by
  have h6 := OB.1
  have hp := OB.2.2
  have l6 : (opL N (N 31)).length ≤ 6 := Nat.le_trans opL_len h6
  obtain ⟨M, w0, kw0, m7⟩ := W
  have M9 := M
  obtain ⟨⟨th, mn, m0⟩, f0, m8⟩ := M9
  have inner : ∀ (d L0 : Nat) (W0 : Nat → Nat), d < 4 → (∀ (g : hT) (s L : Nat), mM c g → mF h g → g 70 = nA 10 (adL (sl N 0 10) (N 30 + d) (selR N row d (opL N (N 31))) W0) → s < 64 → (∀ x, x < N 31 → (s / 2 ^ x % 2 = 1 ↔ (x ∈ opL N (N 31) ∧ dg row x = d))) → (((∃ x, x ∈ opL N (N 31) ∧ dg row x = d) ∧ L = d + 1) ∨ ((¬ ∃ x, x ∈ opL N (N 31) ∧ dg row x = d) ∧ L = L0)) → fA M_M_daysOf E (fZ M_M_daysOf E (qI (fun r k g => k = n ∧ mW c g ∧ mF h g ∧ ((skR N (dg row) (opL N (N 31)) 4 = true ∧ ∃ L, isLa (dg row) (opL N (N 31)) 4 L ∧ L ≤ 4 ∧ r = nI L) ∨ (skR N (dg row) (opL N (N 31)) 4 = false ∧ r = -1))))) n g 0 0 92 [some (.ref 63), some (.int (nI row)), some (.int (nI L)), some (.int (nI d)), some (.int (nI s)), some (.int (nI (N 31)))] []) → ∀ (j b : Nat) (g : hT) (s L : Nat) (W : Nat → Nat), b + j = N 31 → mM c g → mF h g → g 70 = nA 10 W → adL (sl N 0 10) (N 30 + d) (selR N row d (opD N j b)) W = adL (sl N 0 10) (N 30 + d) (selR N row d (opL N (N 31))) W0 → s < 2 ^ b → (∀ x, x < b → (s / 2 ^ x % 2 = 1 ↔ (x ∈ opL N (N 31) ∧ dg row x = d))) → (((∃ x, x < b ∧ x ∈ opL N (N 31) ∧ dg row x = d) ∧ L = d + 1) ∨ ((¬ ∃ x, x < b ∧ x ∈ opL N (N 31) ∧ dg row x = d) ∧ L = L0)) → fA M_M_daysOf E (fZ M_M_daysOf E (qI (fun r k g => k = n ∧ mW c g ∧ mF h g ∧ ((skR N (dg row) (opL N (N 31)) 4 = true ∧ ∃ L, isLa (dg row) (opL N (N 31)) 4 L ∧ L ≤ 4 ∧ r = nI L) ∨ (skR N (dg row) (opL N (N 31)) 4 = false ∧ r = -1))))) n g 0 0 19 [some (.ref 63), some (.int (nI row)), some (.int (nI L)), some (.int (nI d)), some (.int (nI s)), some (.int (nI b))] [] := by
    intro d L0 W0 hd kk j
    induction j with
    | zero =>
      intro b g s L W hj M F m7 hW hs hb hL
      obtain rfl : b = N 31 := by omega
      have m1g : g 64 = nA 189 N := (F 64 (by decide) (by decide) (by decide)).trans m1
      have M9 := M
      obtain ⟨⟨th, mn, m0⟩, f0, m8⟩ := M9
      refine a_il5 fM_daysOf_19 ?_
      refine a_al0 fM_daysOf_21 ?_
      refine a_gf fM_daysOf_22 l_M_7 m0 rfl ?_
      refine a_ic fM_daysOf_25 ?_
      refine a_ia fM_daysOf_27 m1g (show (31 : Int32) = nI 31 from rfl) (by decide) (by decide) ?_
      refine a_ic_ge fM_daysOf_28 (fun _ => ?_) (fun c_ => absurd (Int32.le_refl _) c_)
      have eW : W = adL (sl N 0 10) (N 30 + d) (selR N row d (opL N (N 31))) W0 := hW
      have mem : ∀ x, x ∈ opL N (N 31) → x < N 31 := fun x hx => (opL_mem.mp hx).1
      refine kk g s L M F (by rw [← eW]; exact m7) (Nat.lt_of_lt_of_le hs (pw64 h6)) hb ?_
      rcases hL with ⟨⟨x, x1, x2, x3⟩, e⟩ | ⟨nx, e⟩
      · exact Or.inl ⟨⟨x, x2, x3⟩, e⟩
      · exact Or.inr ⟨fun z => by obtain ⟨x, x2, x3⟩ := z; exact nx ⟨x, mem x x2, x2, x3⟩, e⟩
    | succ j ih =>
      intro b g s L W hj M F m7 hW hs hb hL
      have m1g : g 64 = nA 189 N := (F 64 (by decide) (by decide) (by decide)).trans m1
      have M9 := M
      obtain ⟨⟨th, mn, m0⟩, f0, m8⟩ := M9
      have s64 : s < 64 := Nat.lt_of_lt_of_le hs (pw64 (by omega))
      have p2 : 2 ^ (b + 1) = 2 ^ b * 2 := Nat.pow_succ 2 b
      refine a_il5 fM_daysOf_19 ?_
      refine a_al0 fM_daysOf_21 ?_
      refine a_gf fM_daysOf_22 l_M_7 m0 rfl ?_
      refine a_ic fM_daysOf_25 ?_
      refine a_ia fM_daysOf_27 m1g (show (31 : Int32) = nI 31 from rfl) (by decide) (by decide) ?_
      refine a_ic_ge fM_daysOf_28 (fun c_ => absurd c_ (nI_ge (show b < N 31 by omega) (by omega))) (fun _ => ?_)
      have skip9 : selR N row d (opD N (j + 1) b) = selR N row d (opD N j (b + 1)) → ¬ (b ∈ opL N (N 31) ∧ dg row b = d) → fA M_M_daysOf E (fZ M_M_daysOf E (qI (fun r k g => k = n ∧ mW c g ∧ mF h g ∧ ((skR N (dg row) (opL N (N 31)) 4 = true ∧ ∃ L, isLa (dg row) (opL N (N 31)) 4 L ∧ L ≤ 4 ∧ r = nI L) ∨ (skR N (dg row) (opL N (N 31)) 4 = false ∧ r = -1))))) n g 0 0 86 [some (.ref 63), some (.int (nI row)), some (.int (nI L)), some (.int (nI d)), some (.int (nI s)), some (.int (nI b))] [] := by
        intro e1 e2
        refine a_inc5 fM_daysOf_86 (by decide) rfl ?_
        refine a_goto fM_daysOf_89 ?_
        rw [nI_1]
        refine ih (b + 1) g s L W (by omega) M F m7 (by rw [← hW, e1]) (by omega) (fun x hx => ?_) ?_
        · by_cases q : x = b
          · subst q
            rw [Nat.div_eq_of_lt hs]
            exact ⟨fun z => absurd z (by decide), fun z => absurd z e2⟩
          · exact hb x (by omega)
        · rcases hL with ⟨⟨x, x1, x2, x3⟩, e⟩ | ⟨nx, e⟩
          · exact Or.inl ⟨⟨x, by omega, x2, x3⟩, e⟩
          · refine Or.inr ⟨fun z => ?_, e⟩
            obtain ⟨x, x1, x2, x3⟩ := z
            by_cases q : x = b
            · subst q; exact e2 ⟨x2, x3⟩
            · exact nx ⟨x, by omega, x2, x3⟩
      by_cases cp : N 44 / 2 ^ b % 2 = 1
      · refine a_al0 fM_daysOf_31 ?_
        refine a_il5 fM_daysOf_32 ?_
        refine a_V1V fM_daysOf_34 k_M_155 m_M_isPaid ⟨by decide, by decide⟩ m0 rfl ⟨rfl, rfl⟩ (Nat.le_of_ble_eq_true rfl) (c_MisPaid (b := b) m0 m1g hp (by omega)) ?_
        refine a_if_ne fM_daysOf_37 (fun _ => ?_) (fun c_ => absurd c_ (fun z => by rw [bI_t cp] at z; exact absurd z (by decide)))
        exact skip9 (by simp only [opD]; rw [if_pos cp]) (fun z => (opL_mem.mp z.1).2 cp)
      · have bm : b ∈ opL N (N 31) := opL_mem.mpr ⟨by omega, cp⟩
        have dl := @dg_lt row b
        refine a_al0 fM_daysOf_31 ?_
        refine a_il5 fM_daysOf_32 ?_
        refine a_V1V fM_daysOf_34 k_M_155 m_M_isPaid ⟨by decide, by decide⟩ m0 rfl ⟨rfl, rfl⟩ (Nat.le_of_ble_eq_true rfl) (c_MisPaid (b := b) m0 m1g hp (by omega)) ?_
        refine a_if_ne fM_daysOf_37 (fun c_ => absurd (by rw [bI_f cp]) c_) (fun _ => ?_)
        by_cases cd : dg row b = d
        · refine a_il1 fM_daysOf_40 ?_
          refine a_il5 fM_daysOf_41 ?_
          refine a_S2V fM_daysOf_43 k_M_188 m_M_dayOf ⟨by decide, by decide⟩ ⟨rfl, rfl⟩ (Nat.le_of_ble_eq_true rfl) (c_MdayOf (b := b) hr (by omega)) ?_
          refine a_il3 fM_daysOf_46 ?_
          refine a_ic_ne fM_daysOf_47 (fun c_ => absurd (congrArg nI cd) c_) (fun _ => ?_)
          have hv := (OB.2.1 b (by omega)).1
          refine a_il4 fM_daysOf_50 ?_
          refine a_ic fM_daysOf_52 ?_
          refine a_il5 fM_daysOf_53 ?_
          refine a_ishl fM_daysOf_55 ?_
          refine a_ior fM_daysOf_56 ?_
          rw [sh6 b (by omega), nI_or]
          refine a_is4 fM_daysOf_57 (by decide) rfl ?_
          refine a_al0 fM_daysOf_59 ?_
          refine a_al0 fM_daysOf_60 ?_
          refine a_gf fM_daysOf_61 l_M_7 m0 rfl ?_
          refine a_ic fM_daysOf_64 ?_
          refine a_il5 fM_daysOf_66 ?_
          refine a_iadd fM_daysOf_68 ?_
          refine a_ia fM_daysOf_69 m1g (nI_add 32 _) (by omega) (by decide) ?_
          refine a_al0 fM_daysOf_70 ?_
          refine a_gf fM_daysOf_71 l_M_7 m0 rfl ?_
          refine a_ic fM_daysOf_74 ?_
          refine a_ia fM_daysOf_76 m1g (show (30 : Int32) = nI 30 from rfl) (by decide) (by decide) ?_
          refine a_il3 fM_daysOf_77 ?_
          refine a_iadd fM_daysOf_78 ?_
          rw [show nF N 30 + nI d = nI (N 30 + d) from nI_add _ _]
          refine a_V2Q fM_daysOf_79 k_M_167 m_M_asideBy ⟨by decide, by decide⟩ m0 rfl ⟨rfl, rfl⟩ (Nat.le_of_ble_eq_true rfl) (c_MasideBy (v := N (32 + b)) (D := N 30 + d) M m1g m7 O hv (by have := O.2; omega)) (fun n3 h3 p3 => ?_)
          obtain ⟨hn3, M3, m73, F3⟩ := p3
          subst n3
          refine a_il3 fM_daysOf_82 ?_
          refine a_ic fM_daysOf_83 ?_
          refine a_iadd fM_daysOf_84 ?_
          refine a_is2 fM_daysOf_85 (by decide) rfl ?_
          rw [nI_1]
          refine a_inc5 fM_daysOf_86 (by decide) rfl ?_
          refine a_goto fM_daysOf_89 ?_
          rw [nI_1]
          refine ih (b + 1) h3 (s ||| 2 ^ b) (d + 1) _ (by omega) M3 (F.trans F3) m73 ?_ ?_ (fun x hx => ?_) (Or.inl ⟨⟨b, by omega, bm, cd⟩, rfl⟩)
          · have e9 : selR N row d (b :: opD N j (b + 1)) = N (32 + b) :: selR N row d (opD N j (b + 1)) := by unfold selR; rw [sel_cons, if_pos cd]
            rw [← hW, show opD N (j + 1) b = b :: opD N j (b + 1) by simp only [opD]; rw [if_neg cp], e9]
            rfl
          · exact Nat.or_lt_two_pow (by omega) (Nat.pow_lt_pow_right (by decide) (by omega))
          · rw [orb s s64 b (by omega) x (by omega)]
            by_cases q : x = b
            · subst q; exact ⟨fun _ => ⟨bm, cd⟩, fun _ => Or.inr rfl⟩
            · rw [← hb x (by omega)]; exact ⟨fun z => z.resolve_right q, Or.inl⟩
        · refine a_il1 fM_daysOf_40 ?_
          refine a_il5 fM_daysOf_41 ?_
          refine a_S2V fM_daysOf_43 k_M_188 m_M_dayOf ⟨by decide, by decide⟩ ⟨rfl, rfl⟩ (Nat.le_of_ble_eq_true rfl) (c_MdayOf (b := b) hr (by omega)) ?_
          refine a_il3 fM_daysOf_46 ?_
          refine a_ic_ne fM_daysOf_47 (fun _ => ?_) (fun c_ => absurd c_ (fun z => cd ((nI_eq (by omega) (by omega)).mp z)))
          exact skip9 (by rw [show opD N (j + 1) b = b :: opD N j (b + 1) by simp only [opD]; rw [if_neg cp]]; unfold selR; rw [sel_cons, if_neg cd]) (fun z => cd z.2)
  have loop : ∀ (j d L : Nat) (g : hT) (W : Nat → Nat) (x4 x5 : Option Value), d + j = 4 → L ≤ d → mM c g → mF h g → g 70 = nA 10 W → kz W → sml W 100 → isLa (dg row) (opL N (N 31)) d L → skL (sl N 0 10) (sl N 10 10) (fun i => N (32 + i)) (dg row) (opL N (N 31)) j d (N 30 + d) W = skR N (dg row) (opL N (N 31)) 4 → fA M_M_daysOf E (fZ M_M_daysOf E (qI (fun r k g => k = n ∧ mW c g ∧ mF h g ∧ ((skR N (dg row) (opL N (N 31)) 4 = true ∧ ∃ L, isLa (dg row) (opL N (N 31)) 4 L ∧ L ≤ 4 ∧ r = nI L) ∨ (skR N (dg row) (opL N (N 31)) 4 = false ∧ r = -1))))) n g 0 0 8 [some (.ref 63), some (.int (nI row)), some (.int (nI L)), some (.int (nI d)), x4, x5] [] := by
    intro j
    induction j with
    | zero =>
      intro d L g W x4 x5 hj hLd M F m7 kW bW hL he
      obtain rfl : d = 4 := by omega
      refine a_il3 fM_daysOf_8 ?_
      refine a_ic fM_daysOf_9 ?_
      refine a_ic_ge fM_daysOf_10 (fun _ => ?_) (fun c_ => absurd (Int32.le_refl _) c_)
      refine a_il2 fM_daysOf_113 ?_
      exact a_ri fM_daysOf_114 rfl (⟨_, rfl, rfl, ⟨M, W, kW, m7⟩, F, Or.inl ⟨by rw [← he]; rfl, L, hL, hLd, rfl⟩⟩)
    | succ j ih =>
      intro d L g W x4 x5 hj hLd M F m7 kW bW hL he
      refine a_il3 fM_daysOf_8 ?_
      refine a_ic fM_daysOf_9 ?_
      refine a_ic_ge fM_daysOf_10 (fun c_ => absurd c_ (nI_ge (b := 4) (by omega) (by decide))) (fun _ => ?_)
      refine a_ic fM_daysOf_13 ?_
      refine a_is4 fM_daysOf_14 (by decide) rfl ?_
      refine a_ic fM_daysOf_16 ?_
      refine a_is5 fM_daysOf_17 (by decide) rfl ?_
      refine inner d L W (by omega) (fun g2 s L2 M2 F2 m72 hs hsb hL2 => ?_) (N 31) 0 g 0 L W (by omega) M F m7 (by rw [opD_0]) (by decide) (fun x hx => by omega) (Or.inr ⟨fun z => by obtain ⟨x, x1, _⟩ := z; omega, rfl⟩)
      have m1g : g2 64 = nA 189 N := (F2 64 (by decide) (by decide) (by decide)).trans m1
      have M9 := M2
      obtain ⟨⟨th, mn, m0⟩, f0, m8⟩ := M9
      have bl : (selR N row d (opL N (N 31))).length ≤ 6 := by
        unfold selR sel
        rw [List.length_map]
        exact Nat.le_trans (List.length_filter_le _ _) l6
      have bW2 : sml (adL (sl N 0 10) (N 30 + d) (selR N row d (opL N (N 31))) W) 1000 := fun f hf => Nat.le_trans (adL_le _ W 100 bW f hf) (by omega)
      have kW2 : kz (adL (sl N 0 10) (N 30 + d) (selR N row d (opL N (N 31))) W) := adL_kz _ _ (fun v hv => by
        obtain ⟨b, b1, _, b3⟩ := sel_mem.mp hv
        rw [← b3]
        exact (OB.2.1 b (opL_mem.mp b1).1).1) kW
      have aw : awP N (adL (sl N 0 10) (N 30 + d) (selR N row d (opL N (N 31))) W) s ↔ gtL (sl N 0 10) (sl N 10 10) (N 30 + d) (selR N row d (opL N (N 31))) W = true := by
        rw [gtL_all]
        constructor
        · intro z v hv
          obtain ⟨b, b1, b2, b3⟩ := sel_mem.mp hv
          rw [← b3]
          have b4 := (opL_mem.mp b1).1
          exact z b b4 ((hsb b b4).mpr ⟨b1, b2⟩)
        · intro z b b4 hbit
          obtain ⟨b1, b2⟩ := (hsb b b4).mp hbit
          exact z _ (sel_mem.mpr ⟨b, b1, b2, rfl⟩)
      refine a_al0 fM_daysOf_92 ?_
      refine a_il4 fM_daysOf_93 ?_
      refine a_V1I fM_daysOf_95 k_M_176 m_M_areWithin ⟨by decide, by decide⟩ m0 rfl ⟨rfl, rfl⟩ (Nat.le_of_ble_eq_true rfl) (c_MareWithin (bits := s) M2 m1g m72 O OB hs bW2) (fun r3 n3 h3 p3 => ?_)
      obtain ⟨hr3, hn3, M3, F3⟩ := p3
      subst n3
      rw [hr3]
      have F5 := F2.trans F3.f
      have m73 : h3 70 = nA 10 (adL (sl N 0 10) (N 30 + d) (selR N row d (opL N (N 31))) W) := (F3 70 (by decide) (by decide)).trans m72
      by_cases cg : gtL (sl N 0 10) (sl N 10 10) (N 30 + d) (selR N row d (opL N (N 31))) W = true
      · refine a_if_ne fM_daysOf_98 (fun _ => ?_) (fun c_ => absurd c_ (fun z => by rw [bI_t (aw.mpr cg)] at z; exact absurd z (by decide)))
        have m13 : h3 64 = nA 189 N := (F3 64 (by decide) (by decide)).trans m1g
        have M93 := M3
        obtain ⟨⟨th3, mn3, m03⟩, f3, m83⟩ := M93
        refine a_al0 fM_daysOf_103 ?_
        refine a_V0N fM_daysOf_104 k_M_173 m_M_rests ⟨by decide, by decide⟩ m03 rfl ⟨rfl, rfl⟩ (Nat.le_of_ble_eq_true rfl) (c_Mrests m03 m13 m73 (fun f hf => (O.1 f hf).1) bW2) ?_
        refine a_inc3 fM_daysOf_107 (by decide) rfl ?_
        refine a_goto fM_daysOf_110 ?_
        rw [nI_1]
        refine ih (d + 1) L2 _ _ _ _ (by omega) ?_ (M3.up (by decide) (by decide)) (fun a a1 a2 a3 => up_n a2 (F5 a a1 a2 a3)) up_s (kz_rsW kW2) (rsW_le (gtL_sml cg O.S bW)) ?_ ?_
        · rcases hL2 with ⟨_, e⟩ | ⟨_, e⟩ <;> omega
        · rcases hL2 with ⟨⟨x, x1, x2⟩, e⟩ | ⟨nx, e⟩
          · exact ⟨fun b b1 b2 => by omega, Or.inr ⟨x, x1, by omega, by omega⟩⟩
          · subst e
            refine ⟨fun b b1 b2 => hL.1 b b1 ?_, hL.2.imp id (fun z => by obtain ⟨b, b1, b2, b3⟩ := z; exact ⟨b, b1, by omega, b3⟩)⟩
            have : ¬ dg row b = d := fun z => nx ⟨b, b1, z⟩
            omega
        · rw [← he]
          simp only [skL]
          rw [if_pos cg]
          rfl
      · refine a_if_ne fM_daysOf_98 (fun c_ => absurd (by rw [bI_f (fun z => cg (aw.mp z))]) c_) (fun _ => ?_)
        refine a_ic fM_daysOf_101 ?_
        exact a_ri fM_daysOf_102 rfl (⟨_, rfl, rfl, ⟨M3, _, kW2, m73⟩, F5, Or.inr ⟨by rw [← he]; simp only [skL]; rw [if_neg cg], rfl⟩⟩)
  refine fE.of (L := [some (.ref 63), some (.int (nI row)), none, none, none, none]) (by decide +kernel) (Nat.le_of_ble_eq_true rfl) rfl ?_
  refine a_al0 fM_daysOf_0 ?_
  refine a_V0N fM_daysOf_1 k_M_164 m_M_wornNow ⟨by decide, by decide⟩ m0 rfl ⟨rfl, rfl⟩ (Nat.le_of_ble_eq_true rfl) (c_MwornNow m0 m1 m7 kw0) ?_
  refine a_ic fM_daysOf_4 ?_
  refine a_is2 fM_daysOf_5 (by decide) rfl ?_
  refine a_ic fM_daysOf_6 ?_
  refine a_is3 fM_daysOf_7 (by decide) rfl ?_
  exact loop 4 0 0 _ (sl N 20 10) none none rfl (Nat.le_refl _) (M.up (by decide) (by decide)) (fun a _ a2 _ => up_n a2 rfl) up_s kz_sl O.W ⟨fun b b1 b2 => by omega, Or.inl rfl⟩ rfl
end M9
/-- a row of days that there may be -/
abbrev isRw (N : Nat → Nat) (r : Nat) : Prop := ∀ e, e < 6 → dg r e = 0 ∨ (e < N 31 ∧ ¬ N 44 / 2 ^ e % 2 = 1)
def vR (N : Nat → Nat) (r : Nat) : Prop := isRw N r ∧ skR N (dg r) (opL N (N 31)) 4 = true
/-- the first of the fewest days among the rows below i -/
def plI (N : Nat → Nat) (i : Nat) (st : Option (Nat × Nat)) : Prop := match st with
  | none => ∀ r, r < i → ¬ vR N r
  | some q => q.1 < i ∧ q.2 ≤ 4 ∧ vR N q.1 ∧ isLa (dg q.1) (opL N (N 31)) 4 q.2 ∧ ∀ r L, r < i → vR N r → isLa (dg r) (opL N (N 31)) 4 L → L ≤ 4 → (q.2 < L ∨ (q.2 = L ∧ q.1 ≤ r))
def plR (st : Option (Nat × Nat)) : Int32 := match st with
  | none => -1
  | some q => nI q.1
def plF (st : Option (Nat × Nat)) : Int32 := match st with
  | none => 9
  | some q => nI q.2
def plB (N : Nat → Nat) (st : Option (Nat × Nat)) (b : Nat) : Int32 := match st with
  | none => -1
  | some q => if N 44 / 2 ^ b % 2 = 1 then -1 else nI (dg q.1 b)
def plN (st : Option (Nat × Nat)) : Int32 := match st with
  | none => -1
  | some q => nI q.2
theorem isLa_u {a : Nat → Nat} {l : List Nat} {d L L2 : Nat} (h : isLa a l d L) (h2 : isLa a l d L2) : L = L2 := by
  have key : ∀ L L2, isLa a l d L → isLa a l d L2 → L ≤ L2 := by
    intro L L2 h h2
    rcases h.2 with e | ⟨b, b1, b2, b3⟩
    · omega
    · have := h2.1 b b1 b2; omega
  have := key L L2 h h2
  have := key L2 L h2 h
  omega
section P9
variable {E : eT} {n : Nat} {h : hT} {N : Nat → Nat} {I : Nat → Option (Nat → Nat)} {tn : Nat} {bt : Nat → Nat} {ab be rb rn rf : Nat}
theorem m_plan_bad {b : Int32} (X : MS h N I tn bt ab be rb rn rf) (K : okN N) (h1n : ¬ b = -1) (hb : ¬ (0 ≤ b ∧ b < nI (N 31))) : fE M_M_plan E [.ref 63, .int b] n h (qI (fun r k g => r = -10 ∧ k = n ∧ fC h g ∧ MS g N I tn bt ab be (rb + 1) rn rf)) := by
  obtain ⟨⟨nx, pl, tk, fa, ⟨⟨th, mn, m0⟩, f0, m8⟩, w0, kw0, m7⟩, R0⟩ := X
  refine fE.of (L := [some (.ref 63), some (.int (b)), none, none, none, none, none]) (by decide +kernel) (Nat.le_of_ble_eq_true rfl) rfl ?_
  refine a_al0 fM_plan_0 ?_
  refine a_ic fM_plan_1 ?_
  refine a_pfi0 fM_plan_2 p_M_43 m0 ?_
  obtain ⟨h1, e1, W1, R1, F1⟩ := mThr m0 m8 kw0 m7 R0
  change fA _ _ _ _ (va_up h 63 (mO (nI tn, nx, pl, tk, fa, (nI ab).toInt64, (nI be).toInt64) 0 mn)) _ _ _ _ _
  rw [e1]
  clear e1 R0 m7 m8 m0
  have W2 := W1
  obtain ⟨M2, w1, kw1, M7⟩ := W2
  have M3 := M2
  obtain ⟨⟨th1, mn1, M0⟩, f1, M8⟩ := M3
  have M1 := R1.1.1
  obtain ⟨Rf, M6, r0, r1, r2⟩ := R1.2.2.2.2
  refine a_il1 fM_plan_5 ?_
  refine a_ic fM_plan_6 ?_
  refine a_ic_eq fM_plan_7 (fun c_ => absurd c_ (h1n)) (fun _ => ?_)
  refine a_al0 fM_plan_10 ?_
  refine a_il1 fM_plan_11 ?_
  refine a_V1V fM_plan_12 k_M_152 m_M_isBill ⟨by decide, by decide⟩ M0 rfl ⟨rfl, rfl⟩ (Nat.le_of_ble_eq_true rfl) (c_MisBill M0 M1 K.2.2.1.1) ?_
  refine a_if_ne fM_plan_15 (fun c_ => absurd (by rw [bI_f hb]) c_) (fun _ => ?_)
  refine a_al0 fM_plan_18 ?_
  refine a_ic fM_plan_19 ?_
  refine a_V1V fM_plan_21 k_M_191 m_M_refusesAs ⟨by decide, by decide⟩ M0 rfl ⟨rfl, rfl⟩ (Nat.le_of_ble_eq_true rfl) (c_MrefusesAs (v := -10) M0 M6) ?_
  exact a_ri fM_plan_24 rfl (⟨_, rfl, rfl, rfl, F1.c.up (by decide), ⟨nx, pl, tk, fa, W1.up (by decide) (by decide) (by decide)⟩, R1.re0 M6 r0 r1 r2⟩)
theorem m_plan_n (X : MS h N I tn bt ab be rb rn rf) (K : okN N) : fE M_M_plan E [.ref 63, .int (-1)] n h (qI (fun r k g => (∃ st, plI N 4096 st ∧ r = plN st) ∧ k = n ∧ fC h g ∧ MS g N I tn bt ab be rb rn rf)) := by
  have O := K.c
  have k31 := K.2.2.1.1
  obtain ⟨⟨nx, pl, tk, fa, ⟨⟨th, mn, m0⟩, f0, m8⟩, w0, kw0, m7⟩, R0⟩ := X
  refine fE.of (L := [some (.ref 63), some (.int (-1)), none, none, none, none, none]) (by decide +kernel) (Nat.le_of_ble_eq_true rfl) rfl ?_
  refine a_al0 fM_plan_0 ?_
  refine a_ic fM_plan_1 ?_
  refine a_pfi0 fM_plan_2 p_M_43 m0 ?_
  obtain ⟨h1, e1, W1, R1, F1⟩ := mThr m0 m8 kw0 m7 R0
  change fA _ _ _ _ (va_up h 63 (mO (nI tn, nx, pl, tk, fa, (nI ab).toInt64, (nI be).toInt64) 0 mn)) _ _ _ _ _
  rw [e1]
  clear e1 R0 m7 m8 m0
  have W2 := W1
  obtain ⟨M2, w1, kw1, M7⟩ := W2
  have M3 := M2
  obtain ⟨⟨th1, mn1, M0⟩, f1, M8⟩ := M3
  have M1 := R1.1.1
  obtain ⟨Rf, M6, r0, r1, r2⟩ := R1.2.2.2.2
  refine a_il1 fM_plan_5 ?_
  refine a_ic fM_plan_6 ?_
  refine a_ic_eq fM_plan_7 (fun _ => ?_) (fun c_ => absurd (rfl) c_)
  have hp : N 44 < 64 := K.b.2.2
  have loop : ∀ (j i : Nat) (g : hT) (s : Option (Nat × Nat)) (x5 x6 : Option Value), i + j = 4096 → mW (nI tn, nx, pl, tk, fa, (nI ab).toInt64, (nI be).toInt64) g → mF h1 g → plI N i s → fA M_M_plan E (fZ M_M_plan E (qI (fun r k g => (∃ st, plI N 4096 st ∧ r = plN st) ∧ k = n ∧ fC h g ∧ MS g N I tn bt ab be rb rn rf))) n g 0 0 33 [some (.ref 63), some (.int (-1)), some (.int (plR s)), some (.int (plF s)), some (.int (nI i)), x5, x6] [] := by
    intro j
    induction j with
    | zero =>
      intro i g s x5 x6 hi W F hs
      obtain rfl : i = 4096 := by omega
      have m1g : g 64 = nA 189 N := (F 64 (by decide) (by decide) (by decide)).trans M1
      have W9 := W
      obtain ⟨⟨⟨th9, mn9, m09⟩, f9, m89⟩, w9, kw9, m79⟩ := W9
      refine a_il4 fM_plan_33 ?_
      refine a_ic fM_plan_35 ?_
      refine a_ic_ge fM_plan_38 (fun _ => ?_) (fun c_ => absurd (Int32.le_refl _) c_)
      refine a_il1 fM_plan_141 ?_
      refine a_ic fM_plan_142 ?_
      refine a_ic_ne fM_plan_143 (fun c_ => absurd (rfl) c_) (fun _ => ?_)
      cases s with
      | none =>
        refine a_il2 fM_plan_146 ?_
        refine a_ic fM_plan_147 ?_
        refine a_ic_ne fM_plan_148 (fun c_ => absurd (rfl) c_) (fun _ => ?_)
        refine a_ic fM_plan_151 ?_
        refine a_goto fM_plan_152 ?_
        exact a_ri fM_plan_156 rfl (⟨_, rfl, ⟨none, hs, rfl⟩, rfl, (F1.trans F).c, ⟨nx, pl, tk, fa, W⟩, R1.of F⟩)
      | some q =>
        have := hs.1
        refine a_il2 fM_plan_146 ?_
        refine a_ic fM_plan_147 ?_
        refine a_ic_ne fM_plan_148 (fun _ => ?_) (fun c_ => absurd c_ (nI_nm1 (by omega)))
        refine a_il3 fM_plan_155 ?_
        exact a_ri fM_plan_156 rfl (⟨_, rfl, ⟨some q, hs, rfl⟩, rfl, (F1.trans F).c, ⟨nx, pl, tk, fa, W⟩, R1.of F⟩)
    | succ j ih =>
      intro i g s x5 x6 hi W F hs
      have m1g : g 64 = nA 189 N := (F 64 (by decide) (by decide) (by decide)).trans M1
      have W9 := W
      obtain ⟨⟨⟨th9, mn9, m09⟩, f9, m89⟩, w9, kw9, m79⟩ := W9
      have i4 : i < 4096 := by omega
      refine a_il4 fM_plan_33 ?_
      refine a_ic fM_plan_35 ?_
      refine a_ic_ge fM_plan_38 (fun c_ => absurd c_ (nI_ge (b := 4096) (by omega) (by decide))) (fun _ => ?_)
      have nx2 : ∀ (g2 : hT) (s2 : Option (Nat × Nat)) (y5 y6 : Option Value), mW (nI tn, nx, pl, tk, fa, (nI ab).toInt64, (nI be).toInt64) g2 → mF h1 g2 → plI N (i + 1) s2 → fA M_M_plan E (fZ M_M_plan E (qI (fun r k g => (∃ st, plI N 4096 st ∧ r = plN st) ∧ k = n ∧ fC h g ∧ MS g N I tn bt ab be rb rn rf))) n g2 0 0 135 [some (.ref 63), some (.int (-1)), some (.int (plR s2)), some (.int (plF s2)), some (.int (nI i)), y5, y6] [] := by
        intro g2 s2 y5 y6 W2 F2 h2
        refine a_inc4 fM_plan_135 (by decide) rfl ?_
        refine a_goto fM_plan_138 ?_
        rw [nI_1]
        exact ih (i + 1) g2 s2 _ _ (by omega) W2 F2 h2
      have keep : ¬ vR N i → plI N (i + 1) s := by
        intro nv
        cases s with
        | none => exact fun r hr => (by
            by_cases q : r = i
            · subst q; exact nv
            · exact hs r (by omega))
        | some q =>
          obtain ⟨q1, q2, q3, q4, q5⟩ := hs
          exact ⟨by omega, q2, q3, q4, fun r L r1 r2 r3 r4 => by
            by_cases q9 : r = i
            · subst q9; exact absurd r2 nv
            · exact q5 r L (by omega) r2 r3 r4⟩
      -- the flag
      have flag : ∀ (j2 e : Nat) (q : Bool), e + j2 = 6 → ((q = true ∧ ∀ x, e ≤ x → x < 6 → (dg i x = 0 ∨ (x < N 31 ∧ ¬ N 44 / 2 ^ x % 2 = 1))) ↔ isRw N i) → (∀ q2 : Bool, (q2 = true ↔ isRw N i) → fA M_M_plan E (fZ M_M_plan E (qI (fun r k g => (∃ st, plI N 4096 st ∧ r = plN st) ∧ k = n ∧ fC h g ∧ MS g N I tn bt ab be rb rn rf))) n g 0 0 100 [some (.ref 63), some (.int (-1)), some (.int (plR s)), some (.int (plF s)), some (.int (nI i)), some (.int (bI (q2 = true))), some (.int (nI 6))] []) → fA M_M_plan E (fZ M_M_plan E (qI (fun r k g => (∃ st, plI N 4096 st ∧ r = plN st) ∧ k = n ∧ fC h g ∧ MS g N I tn bt ab be rb rn rf))) n g 0 0 47 [some (.ref 63), some (.int (-1)), some (.int (plR s)), some (.int (plF s)), some (.int (nI i)), some (.int (bI (q = true))), some (.int (nI e))] [] := by
        intro j2
        induction j2 with
        | zero =>
          intro e q he hq kk
          obtain rfl : e = 6 := by omega
          refine a_il6 fM_plan_47 ?_
          refine a_ic fM_plan_49 ?_
          refine a_ic_ge fM_plan_51 (fun _ => ?_) (fun c_ => absurd (Int32.le_refl _) c_)
          exact kk q ⟨fun z => hq.mp ⟨z, fun x x1 x2 => by omega⟩, fun z => (hq.mpr z).1⟩
        | succ j2 ih2 =>
          intro e q he hq kk
          have dl := @dg_lt i e
          refine a_il6 fM_plan_47 ?_
          refine a_ic fM_plan_49 ?_
          refine a_ic_ge fM_plan_51 (fun c_ => absurd c_ (nI_ge (b := 6) (by omega) (by decide))) (fun _ => ?_)
          have nx3 : ∀ (q2 : Bool), ((q2 = true ∧ ∀ x, e + 1 ≤ x → x < 6 → (dg i x = 0 ∨ (x < N 31 ∧ ¬ N 44 / 2 ^ x % 2 = 1))) ↔ isRw N i) → fA M_M_plan E (fZ M_M_plan E (qI (fun r k g => (∃ st, plI N 4096 st ∧ r = plN st) ∧ k = n ∧ fC h g ∧ MS g N I tn bt ab be rb rn rf))) n g 0 0 92 [some (.ref 63), some (.int (-1)), some (.int (plR s)), some (.int (plF s)), some (.int (nI i)), some (.int (bI (q = true))), some (.int (nI e))] [.int (bI (q2 = true))] := by
            intro q2 h2
            refine a_is5 fM_plan_92 (by decide) rfl ?_
            refine a_inc6 fM_plan_94 (by decide) rfl ?_
            refine a_goto fM_plan_97 ?_
            rw [nI_1]
            exact ih2 (e + 1) q2 (by omega) h2 kk
          have good : q = true → (dg i e = 0 ∨ (e < N 31 ∧ ¬ N 44 / 2 ^ e % 2 = 1)) → ((true = true ∧ ∀ x, e + 1 ≤ x → x < 6 → (dg i x = 0 ∨ (x < N 31 ∧ ¬ N 44 / 2 ^ x % 2 = 1))) ↔ isRw N i) := by
            intro cq ce
            refine Iff.trans ⟨fun z => ⟨cq, fun x x1 x2 => ?_⟩, fun z => ⟨rfl, fun x x1 x2 => z.2 x (by omega) x2⟩⟩ hq
            by_cases q9 : x = e
            · subst q9; exact ce
            · exact z.2 x (by omega) x2
          have poor : (q = true → ¬ (dg i e = 0 ∨ (e < N 31 ∧ ¬ N 44 / 2 ^ e % 2 = 1))) → ((false = true ∧ ∀ x, e + 1 ≤ x → x < 6 → (dg i x = 0 ∨ (x < N 31 ∧ ¬ N 44 / 2 ^ x % 2 = 1))) ↔ isRw N i) := fun ce => Iff.trans ⟨fun z => (by cases z.1), fun z => absurd (z.2 e (Nat.le_refl _) (by omega)) (ce z.1)⟩ hq
          by_cases cq : q = true
          · refine a_il5 fM_plan_54 ?_
            refine a_if_eq fM_plan_56 (fun c_ => absurd c_ (fun z => by rw [bI_t cq] at z; exact absurd z (by decide))) (fun _ => ?_)
            refine a_il4 fM_plan_59 ?_
            refine a_il6 fM_plan_61 ?_
            refine a_S2V fM_plan_63 k_M_188 m_M_dayOf ⟨by decide, by decide⟩ ⟨rfl, rfl⟩ (Nat.le_of_ble_eq_true rfl) (c_MdayOf (b := e) i4 (by omega)) ?_
            by_cases c0 : dg i e = 0
            · refine a_if_eq fM_plan_66 (fun _ => ?_) (fun c_ => absurd (congrArg nI c0) c_)
              refine a_ic fM_plan_87 ?_
              refine a_goto fM_plan_88 ?_
              exact nx3 true (good cq (Or.inl c0))
            · refine a_if_eq fM_plan_66 (fun c_ => absurd c_ (nI_ne0 (by omega) (by omega))) (fun _ => ?_)
              refine a_al0 fM_plan_69 ?_
              refine a_il6 fM_plan_70 ?_
              refine a_V1V fM_plan_72 k_M_152 m_M_isBill ⟨by decide, by decide⟩ m09 rfl ⟨rfl, rfl⟩ (Nat.le_of_ble_eq_true rfl) (c_MisBill m09 m1g k31) ?_
              by_cases c1 : e < N 31
              · refine a_if_eq fM_plan_75 (fun c_ => absurd c_ (fun z => by rw [bI_t ⟨nI_pos' (by omega), nI_lt c1 (by omega)⟩] at z; exact absurd z (by decide))) (fun _ => ?_)
                refine a_al0 fM_plan_78 ?_
                refine a_il6 fM_plan_79 ?_
                refine a_V1V fM_plan_81 k_M_155 m_M_isPaid ⟨by decide, by decide⟩ m09 rfl ⟨rfl, rfl⟩ (Nat.le_of_ble_eq_true rfl) (c_MisPaid (b := e) m09 m1g hp (by omega)) ?_
                by_cases c2 : N 44 / 2 ^ e % 2 = 1
                · refine a_if_ne fM_plan_84 (fun _ => ?_) (fun c_ => absurd c_ (fun z => by rw [bI_t c2] at z; exact absurd z (by decide)))
                  refine a_ic fM_plan_91 ?_
                  exact nx3 false (poor (fun _ z => z.elim c0 (fun z => z.2 c2)))
                · refine a_if_ne fM_plan_84 (fun c_ => absurd (by rw [bI_f c2]) c_) (fun _ => ?_)
                  refine a_ic fM_plan_87 ?_
                  refine a_goto fM_plan_88 ?_
                  exact nx3 true (good cq (Or.inr ⟨c1, c2⟩))
              · refine a_if_eq fM_plan_75 (fun _ => ?_) (fun c_ => absurd (by rw [bI_f (fun z => c1 ((nI_ltI (by omega) (by omega)).mp z.2))]) c_)
                refine a_ic fM_plan_91 ?_
                exact nx3 false (poor (fun _ z => z.elim c0 (fun z => c1 z.1)))
          · refine a_il5 fM_plan_54 ?_
            refine a_if_eq fM_plan_56 (fun _ => ?_) (fun c_ => absurd (by rw [bI_f cq]) c_)
            refine a_ic fM_plan_91 ?_
            exact nx3 false (poor (fun z => absurd z cq))
      refine a_ic fM_plan_41 ?_
      refine a_is5 fM_plan_42 (by decide) rfl ?_
      refine a_ic fM_plan_44 ?_
      refine a_is6 fM_plan_45 (by decide) rfl ?_
      refine flag 6 0 true rfl ⟨fun z e he => z.2 e (Nat.zero_le _) he, fun z => ⟨rfl, fun x _ x2 => z x x2⟩⟩ (fun q2 hq2 => ?_)
      by_cases cr : isRw N i
      · refine a_il5 fM_plan_100 ?_
        refine a_if_eq fM_plan_102 (fun c_ => absurd c_ (fun z => by rw [bI_t (hq2.mpr cr)] at z; exact absurd z (by decide))) (fun _ => ?_)
        refine a_al0 fM_plan_105 ?_
        refine a_il4 fM_plan_106 ?_
        refine a_V1I fM_plan_108 k_M_194 m_M_daysOf ⟨by decide, by decide⟩ m09 rfl ⟨rfl, rfl⟩ (Nat.le_of_ble_eq_true rfl) (c_MdaysOf W m1g O K.b i4) (fun r3 n3 h3 p3 => ?_)
        refine a_goto fM_plan_111 ?_
        obtain ⟨hn3, W3, F3, q3⟩ := p3
        subst n3
        refine a_is6 fM_plan_115 (by decide) rfl ?_
        rcases q3 with ⟨sk, L, la, L4, rfl⟩ | ⟨sk, rfl⟩
        · have vi : vR N i := ⟨cr, sk⟩
          refine a_il6 fM_plan_117 ?_
          refine a_ic fM_plan_119 ?_
          refine a_ic_eq fM_plan_120 (fun c_ => absurd c_ (nI_nm1 (by omega))) (fun _ => ?_)
          cases s with
          | none =>
            refine a_il6 fM_plan_123 ?_
            refine a_il3 fM_plan_125 ?_
            refine a_ic_ge fM_plan_126 (fun c_ => absurd c_ (nI_ge (b := 9) (by omega) (by decide))) (fun _ => ?_)
            refine a_il4 fM_plan_129 ?_
            refine a_is2 fM_plan_131 (by decide) rfl ?_
            refine a_il6 fM_plan_132 ?_
            refine a_is3 fM_plan_134 (by decide) rfl ?_
            exact nx2 h3 (some (i, L)) _ _ W3 (F.trans F3) ⟨by show i < i + 1; omega, L4, vi, la, fun r L2 r1 r2 r3 r4 => by
              by_cases q9 : r = i
              · subst q9; exact Or.inr ⟨isLa_u la r3, Nat.le_refl _⟩
              · exact absurd r2 (hs r (by omega))⟩
          | some q =>
            obtain ⟨q1, q2, q3, q4, q5⟩ := hs
            by_cases cl : L < q.2
            · refine a_il6 fM_plan_123 ?_
              refine a_il3 fM_plan_125 ?_
              refine a_ic_ge fM_plan_126 (fun c_ => absurd c_ (nI_ge cl (by omega))) (fun _ => ?_)
              refine a_il4 fM_plan_129 ?_
              refine a_is2 fM_plan_131 (by decide) rfl ?_
              refine a_il6 fM_plan_132 ?_
              refine a_is3 fM_plan_134 (by decide) rfl ?_
              exact nx2 h3 (some (i, L)) _ _ W3 (F.trans F3) ⟨by show i < i + 1; omega, L4, vi, la, fun r L2 r1 r2 r3 r4 => by
                by_cases q9 : r = i
                · subst q9; exact Or.inr ⟨isLa_u la r3, Nat.le_refl _⟩
                · have := q5 r L2 (by omega) r2 r3 r4
                  exact Or.inl (by show L < L2; omega)⟩
            · refine a_il6 fM_plan_123 ?_
              refine a_il3 fM_plan_125 ?_
              refine a_ic_ge fM_plan_126 (fun _ => ?_) (fun c_ => absurd (nI_le (by omega) (by omega)) c_)
              exact nx2 h3 (some q) _ _ W3 (F.trans F3) ⟨by omega, q2, q3, q4, fun r L2 r1 r2 r3 r4 => by
                by_cases q9 : r = i
                · subst q9
                  have := isLa_u la r3
                  subst this
                  omega
                · exact q5 r L2 (by omega) r2 r3 r4⟩
        · refine a_il6 fM_plan_117 ?_
          refine a_ic fM_plan_119 ?_
          refine a_ic_eq fM_plan_120 (fun _ => ?_) (fun c_ => absurd (rfl) c_)
          exact nx2 h3 s _ _ W3 (F.trans F3) (keep (fun z => by have z2 := z.2; rw [sk] at z2; cases z2))
      · refine a_il5 fM_plan_100 ?_
        refine a_if_eq fM_plan_102 (fun _ => ?_) (fun c_ => absurd (by rw [bI_f (fun z => cr (hq2.mp z))]) c_)
        refine a_ic fM_plan_114 ?_
        refine a_is6 fM_plan_115 (by decide) rfl ?_
        refine a_il6 fM_plan_117 ?_
        refine a_ic fM_plan_119 ?_
        refine a_ic_eq fM_plan_120 (fun _ => ?_) (fun c_ => absurd (rfl) c_)
        exact nx2 g s _ _ W F (keep (fun z => cr z.1))
  refine a_ic fM_plan_25 ?_
  refine a_is2 fM_plan_26 (by decide) rfl ?_
  refine a_ic fM_plan_27 ?_
  refine a_is3 fM_plan_29 (by decide) rfl ?_
  refine a_ic fM_plan_30 ?_
  refine a_is4 fM_plan_31 (by decide) rfl ?_
  exact loop 4096 0 h1 none none none rfl W1 mF.rf (fun r hr => by omega)
theorem m_plan {B9 : Nat} (X : MS h N I tn bt ab be rb rn rf) (K : okN N) (h9 : B9 < N 31) : fE M_M_plan E [.ref 63, .int (nI B9)] n h (qI (fun r k g => (∃ st, plI N 4096 st ∧ r = plB N st B9) ∧ k = n ∧ fC h g ∧ MS g N I tn bt ab be rb rn rf)) := by
  have O := K.c
  have k31 := K.2.2.1.1
  obtain ⟨⟨nx, pl, tk, fa, ⟨⟨th, mn, m0⟩, f0, m8⟩, w0, kw0, m7⟩, R0⟩ := X
  refine fE.of (L := [some (.ref 63), some (.int (nI B9)), none, none, none, none, none]) (by decide +kernel) (Nat.le_of_ble_eq_true rfl) rfl ?_
  refine a_al0 fM_plan_0 ?_
  refine a_ic fM_plan_1 ?_
  refine a_pfi0 fM_plan_2 p_M_43 m0 ?_
  obtain ⟨h1, e1, W1, R1, F1⟩ := mThr m0 m8 kw0 m7 R0
  change fA _ _ _ _ (va_up h 63 (mO (nI tn, nx, pl, tk, fa, (nI ab).toInt64, (nI be).toInt64) 0 mn)) _ _ _ _ _
  rw [e1]
  clear e1 R0 m7 m8 m0
  have W2 := W1
  obtain ⟨M2, w1, kw1, M7⟩ := W2
  have M3 := M2
  obtain ⟨⟨th1, mn1, M0⟩, f1, M8⟩ := M3
  have M1 := R1.1.1
  obtain ⟨Rf, M6, r0, r1, r2⟩ := R1.2.2.2.2
  refine a_il1 fM_plan_5 ?_
  refine a_ic fM_plan_6 ?_
  refine a_ic_eq fM_plan_7 (fun c_ => absurd c_ (nI_nm1 (by omega))) (fun _ => ?_)
  refine a_al0 fM_plan_10 ?_
  refine a_il1 fM_plan_11 ?_
  refine a_V1V fM_plan_12 k_M_152 m_M_isBill ⟨by decide, by decide⟩ M0 rfl ⟨rfl, rfl⟩ (Nat.le_of_ble_eq_true rfl) (c_MisBill M0 M1 K.2.2.1.1) ?_
  refine a_if_ne fM_plan_15 (fun _ => ?_) (fun c_ => absurd c_ (fun z => by rw [bI_t ⟨nI_pos' (by omega), nI_lt h9 (by omega)⟩] at z; exact absurd z (by decide)))
  have hp : N 44 < 64 := K.b.2.2
  have loop : ∀ (j i : Nat) (g : hT) (s : Option (Nat × Nat)) (x5 x6 : Option Value), i + j = 4096 → mW (nI tn, nx, pl, tk, fa, (nI ab).toInt64, (nI be).toInt64) g → mF h1 g → plI N i s → fA M_M_plan E (fZ M_M_plan E (qI (fun r k g => (∃ st, plI N 4096 st ∧ r = plB N st B9) ∧ k = n ∧ fC h g ∧ MS g N I tn bt ab be rb rn rf))) n g 0 0 33 [some (.ref 63), some (.int (nI B9)), some (.int (plR s)), some (.int (plF s)), some (.int (nI i)), x5, x6] [] := by
    intro j
    induction j with
    | zero =>
      intro i g s x5 x6 hi W F hs
      obtain rfl : i = 4096 := by omega
      have m1g : g 64 = nA 189 N := (F 64 (by decide) (by decide) (by decide)).trans M1
      have W9 := W
      obtain ⟨⟨⟨th9, mn9, m09⟩, f9, m89⟩, w9, kw9, m79⟩ := W9
      refine a_il4 fM_plan_33 ?_
      refine a_ic fM_plan_35 ?_
      refine a_ic_ge fM_plan_38 (fun _ => ?_) (fun c_ => absurd (Int32.le_refl _) c_)
      refine a_il1 fM_plan_141 ?_
      refine a_ic fM_plan_142 ?_
      refine a_ic_ne fM_plan_143 (fun _ => ?_) (fun c_ => absurd c_ (nI_nm1 (by omega)))
      cases s with
      | none =>
        refine a_il2 fM_plan_157 ?_
        refine a_ic fM_plan_158 ?_
        refine a_ic_eq fM_plan_159 (fun _ => ?_) (fun c_ => absurd (rfl) c_)
        refine a_ic fM_plan_170 ?_
        refine a_goto fM_plan_171 ?_
        exact a_ri fM_plan_179 rfl (⟨_, rfl, ⟨none, hs, rfl⟩, rfl, (F1.trans F).c, ⟨nx, pl, tk, fa, W⟩, R1.of F⟩)
      | some q =>
        have q4 := hs.1
        refine a_il2 fM_plan_157 ?_
        refine a_ic fM_plan_158 ?_
        refine a_ic_eq fM_plan_159 (fun c_ => absurd c_ (nI_nm1 (by omega))) (fun _ => ?_)
        by_cases cp : N 44 / 2 ^ B9 % 2 = 1
        · refine a_al0 fM_plan_162 ?_
          refine a_il1 fM_plan_163 ?_
          refine a_V1V fM_plan_164 k_M_155 m_M_isPaid ⟨by decide, by decide⟩ m09 rfl ⟨rfl, rfl⟩ (Nat.le_of_ble_eq_true rfl) (c_MisPaid (b := B9) m09 m1g hp (by omega)) ?_
          refine a_if_eq fM_plan_167 (fun c_ => absurd c_ (fun z => by rw [bI_t cp] at z; exact absurd z (by decide))) (fun _ => ?_)
          refine a_ic fM_plan_170 ?_
          refine a_goto fM_plan_171 ?_
          exact a_ri fM_plan_179 rfl (⟨_, rfl, ⟨some q, hs, by show (-1 : Int32) = if _ then _ else _; rw [if_pos cp]⟩, rfl, (F1.trans F).c, ⟨nx, pl, tk, fa, W⟩, R1.of F⟩)
        · refine a_al0 fM_plan_162 ?_
          refine a_il1 fM_plan_163 ?_
          refine a_V1V fM_plan_164 k_M_155 m_M_isPaid ⟨by decide, by decide⟩ m09 rfl ⟨rfl, rfl⟩ (Nat.le_of_ble_eq_true rfl) (c_MisPaid (b := B9) m09 m1g hp (by omega)) ?_
          refine a_if_eq fM_plan_167 (fun _ => ?_) (fun c_ => absurd (by rw [bI_f cp]) c_)
          refine a_il2 fM_plan_174 ?_
          refine a_il1 fM_plan_175 ?_
          refine a_S2V fM_plan_176 k_M_188 m_M_dayOf ⟨by decide, by decide⟩ ⟨rfl, rfl⟩ (Nat.le_of_ble_eq_true rfl) (c_MdayOf (row := q.1) (b := B9) q4 (by omega)) ?_
          exact a_ri fM_plan_179 rfl (⟨_, rfl, ⟨some q, hs, by show nI _ = if _ then _ else _; rw [if_neg cp]⟩, rfl, (F1.trans F).c, ⟨nx, pl, tk, fa, W⟩, R1.of F⟩)
    | succ j ih =>
      intro i g s x5 x6 hi W F hs
      have m1g : g 64 = nA 189 N := (F 64 (by decide) (by decide) (by decide)).trans M1
      have W9 := W
      obtain ⟨⟨⟨th9, mn9, m09⟩, f9, m89⟩, w9, kw9, m79⟩ := W9
      have i4 : i < 4096 := by omega
      refine a_il4 fM_plan_33 ?_
      refine a_ic fM_plan_35 ?_
      refine a_ic_ge fM_plan_38 (fun c_ => absurd c_ (nI_ge (b := 4096) (by omega) (by decide))) (fun _ => ?_)
      have nx2 : ∀ (g2 : hT) (s2 : Option (Nat × Nat)) (y5 y6 : Option Value), mW (nI tn, nx, pl, tk, fa, (nI ab).toInt64, (nI be).toInt64) g2 → mF h1 g2 → plI N (i + 1) s2 → fA M_M_plan E (fZ M_M_plan E (qI (fun r k g => (∃ st, plI N 4096 st ∧ r = plB N st B9) ∧ k = n ∧ fC h g ∧ MS g N I tn bt ab be rb rn rf))) n g2 0 0 135 [some (.ref 63), some (.int (nI B9)), some (.int (plR s2)), some (.int (plF s2)), some (.int (nI i)), y5, y6] [] := by
        intro g2 s2 y5 y6 W2 F2 h2
        refine a_inc4 fM_plan_135 (by decide) rfl ?_
        refine a_goto fM_plan_138 ?_
        rw [nI_1]
        exact ih (i + 1) g2 s2 _ _ (by omega) W2 F2 h2
      have keep : ¬ vR N i → plI N (i + 1) s := by
        intro nv
        cases s with
        | none => exact fun r hr => (by
            by_cases q : r = i
            · subst q; exact nv
            · exact hs r (by omega))
        | some q =>
          obtain ⟨q1, q2, q3, q4, q5⟩ := hs
          exact ⟨by omega, q2, q3, q4, fun r L r1 r2 r3 r4 => by
            by_cases q9 : r = i
            · subst q9; exact absurd r2 nv
            · exact q5 r L (by omega) r2 r3 r4⟩
      -- the flag
      have flag : ∀ (j2 e : Nat) (q : Bool), e + j2 = 6 → ((q = true ∧ ∀ x, e ≤ x → x < 6 → (dg i x = 0 ∨ (x < N 31 ∧ ¬ N 44 / 2 ^ x % 2 = 1))) ↔ isRw N i) → (∀ q2 : Bool, (q2 = true ↔ isRw N i) → fA M_M_plan E (fZ M_M_plan E (qI (fun r k g => (∃ st, plI N 4096 st ∧ r = plB N st B9) ∧ k = n ∧ fC h g ∧ MS g N I tn bt ab be rb rn rf))) n g 0 0 100 [some (.ref 63), some (.int (nI B9)), some (.int (plR s)), some (.int (plF s)), some (.int (nI i)), some (.int (bI (q2 = true))), some (.int (nI 6))] []) → fA M_M_plan E (fZ M_M_plan E (qI (fun r k g => (∃ st, plI N 4096 st ∧ r = plB N st B9) ∧ k = n ∧ fC h g ∧ MS g N I tn bt ab be rb rn rf))) n g 0 0 47 [some (.ref 63), some (.int (nI B9)), some (.int (plR s)), some (.int (plF s)), some (.int (nI i)), some (.int (bI (q = true))), some (.int (nI e))] [] := by
        intro j2
        induction j2 with
        | zero =>
          intro e q he hq kk
          obtain rfl : e = 6 := by omega
          refine a_il6 fM_plan_47 ?_
          refine a_ic fM_plan_49 ?_
          refine a_ic_ge fM_plan_51 (fun _ => ?_) (fun c_ => absurd (Int32.le_refl _) c_)
          exact kk q ⟨fun z => hq.mp ⟨z, fun x x1 x2 => by omega⟩, fun z => (hq.mpr z).1⟩
        | succ j2 ih2 =>
          intro e q he hq kk
          have dl := @dg_lt i e
          refine a_il6 fM_plan_47 ?_
          refine a_ic fM_plan_49 ?_
          refine a_ic_ge fM_plan_51 (fun c_ => absurd c_ (nI_ge (b := 6) (by omega) (by decide))) (fun _ => ?_)
          have nx3 : ∀ (q2 : Bool), ((q2 = true ∧ ∀ x, e + 1 ≤ x → x < 6 → (dg i x = 0 ∨ (x < N 31 ∧ ¬ N 44 / 2 ^ x % 2 = 1))) ↔ isRw N i) → fA M_M_plan E (fZ M_M_plan E (qI (fun r k g => (∃ st, plI N 4096 st ∧ r = plB N st B9) ∧ k = n ∧ fC h g ∧ MS g N I tn bt ab be rb rn rf))) n g 0 0 92 [some (.ref 63), some (.int (nI B9)), some (.int (plR s)), some (.int (plF s)), some (.int (nI i)), some (.int (bI (q = true))), some (.int (nI e))] [.int (bI (q2 = true))] := by
            intro q2 h2
            refine a_is5 fM_plan_92 (by decide) rfl ?_
            refine a_inc6 fM_plan_94 (by decide) rfl ?_
            refine a_goto fM_plan_97 ?_
            rw [nI_1]
            exact ih2 (e + 1) q2 (by omega) h2 kk
          have good : q = true → (dg i e = 0 ∨ (e < N 31 ∧ ¬ N 44 / 2 ^ e % 2 = 1)) → ((true = true ∧ ∀ x, e + 1 ≤ x → x < 6 → (dg i x = 0 ∨ (x < N 31 ∧ ¬ N 44 / 2 ^ x % 2 = 1))) ↔ isRw N i) := by
            intro cq ce
            refine Iff.trans ⟨fun z => ⟨cq, fun x x1 x2 => ?_⟩, fun z => ⟨rfl, fun x x1 x2 => z.2 x (by omega) x2⟩⟩ hq
            by_cases q9 : x = e
            · subst q9; exact ce
            · exact z.2 x (by omega) x2
          have poor : (q = true → ¬ (dg i e = 0 ∨ (e < N 31 ∧ ¬ N 44 / 2 ^ e % 2 = 1))) → ((false = true ∧ ∀ x, e + 1 ≤ x → x < 6 → (dg i x = 0 ∨ (x < N 31 ∧ ¬ N 44 / 2 ^ x % 2 = 1))) ↔ isRw N i) := fun ce => Iff.trans ⟨fun z => (by cases z.1), fun z => absurd (z.2 e (Nat.le_refl _) (by omega)) (ce z.1)⟩ hq
          by_cases cq : q = true
          · refine a_il5 fM_plan_54 ?_
            refine a_if_eq fM_plan_56 (fun c_ => absurd c_ (fun z => by rw [bI_t cq] at z; exact absurd z (by decide))) (fun _ => ?_)
            refine a_il4 fM_plan_59 ?_
            refine a_il6 fM_plan_61 ?_
            refine a_S2V fM_plan_63 k_M_188 m_M_dayOf ⟨by decide, by decide⟩ ⟨rfl, rfl⟩ (Nat.le_of_ble_eq_true rfl) (c_MdayOf (b := e) i4 (by omega)) ?_
            by_cases c0 : dg i e = 0
            · refine a_if_eq fM_plan_66 (fun _ => ?_) (fun c_ => absurd (congrArg nI c0) c_)
              refine a_ic fM_plan_87 ?_
              refine a_goto fM_plan_88 ?_
              exact nx3 true (good cq (Or.inl c0))
            · refine a_if_eq fM_plan_66 (fun c_ => absurd c_ (nI_ne0 (by omega) (by omega))) (fun _ => ?_)
              refine a_al0 fM_plan_69 ?_
              refine a_il6 fM_plan_70 ?_
              refine a_V1V fM_plan_72 k_M_152 m_M_isBill ⟨by decide, by decide⟩ m09 rfl ⟨rfl, rfl⟩ (Nat.le_of_ble_eq_true rfl) (c_MisBill m09 m1g k31) ?_
              by_cases c1 : e < N 31
              · refine a_if_eq fM_plan_75 (fun c_ => absurd c_ (fun z => by rw [bI_t ⟨nI_pos' (by omega), nI_lt c1 (by omega)⟩] at z; exact absurd z (by decide))) (fun _ => ?_)
                refine a_al0 fM_plan_78 ?_
                refine a_il6 fM_plan_79 ?_
                refine a_V1V fM_plan_81 k_M_155 m_M_isPaid ⟨by decide, by decide⟩ m09 rfl ⟨rfl, rfl⟩ (Nat.le_of_ble_eq_true rfl) (c_MisPaid (b := e) m09 m1g hp (by omega)) ?_
                by_cases c2 : N 44 / 2 ^ e % 2 = 1
                · refine a_if_ne fM_plan_84 (fun _ => ?_) (fun c_ => absurd c_ (fun z => by rw [bI_t c2] at z; exact absurd z (by decide)))
                  refine a_ic fM_plan_91 ?_
                  exact nx3 false (poor (fun _ z => z.elim c0 (fun z => z.2 c2)))
                · refine a_if_ne fM_plan_84 (fun c_ => absurd (by rw [bI_f c2]) c_) (fun _ => ?_)
                  refine a_ic fM_plan_87 ?_
                  refine a_goto fM_plan_88 ?_
                  exact nx3 true (good cq (Or.inr ⟨c1, c2⟩))
              · refine a_if_eq fM_plan_75 (fun _ => ?_) (fun c_ => absurd (by rw [bI_f (fun z => c1 ((nI_ltI (by omega) (by omega)).mp z.2))]) c_)
                refine a_ic fM_plan_91 ?_
                exact nx3 false (poor (fun _ z => z.elim c0 (fun z => c1 z.1)))
          · refine a_il5 fM_plan_54 ?_
            refine a_if_eq fM_plan_56 (fun _ => ?_) (fun c_ => absurd (by rw [bI_f cq]) c_)
            refine a_ic fM_plan_91 ?_
            exact nx3 false (poor (fun z => absurd z cq))
      refine a_ic fM_plan_41 ?_
      refine a_is5 fM_plan_42 (by decide) rfl ?_
      refine a_ic fM_plan_44 ?_
      refine a_is6 fM_plan_45 (by decide) rfl ?_
      refine flag 6 0 true rfl ⟨fun z e he => z.2 e (Nat.zero_le _) he, fun z => ⟨rfl, fun x _ x2 => z x x2⟩⟩ (fun q2 hq2 => ?_)
      by_cases cr : isRw N i
      · refine a_il5 fM_plan_100 ?_
        refine a_if_eq fM_plan_102 (fun c_ => absurd c_ (fun z => by rw [bI_t (hq2.mpr cr)] at z; exact absurd z (by decide))) (fun _ => ?_)
        refine a_al0 fM_plan_105 ?_
        refine a_il4 fM_plan_106 ?_
        refine a_V1I fM_plan_108 k_M_194 m_M_daysOf ⟨by decide, by decide⟩ m09 rfl ⟨rfl, rfl⟩ (Nat.le_of_ble_eq_true rfl) (c_MdaysOf W m1g O K.b i4) (fun r3 n3 h3 p3 => ?_)
        refine a_goto fM_plan_111 ?_
        obtain ⟨hn3, W3, F3, q3⟩ := p3
        subst n3
        refine a_is6 fM_plan_115 (by decide) rfl ?_
        rcases q3 with ⟨sk, L, la, L4, rfl⟩ | ⟨sk, rfl⟩
        · have vi : vR N i := ⟨cr, sk⟩
          refine a_il6 fM_plan_117 ?_
          refine a_ic fM_plan_119 ?_
          refine a_ic_eq fM_plan_120 (fun c_ => absurd c_ (nI_nm1 (by omega))) (fun _ => ?_)
          cases s with
          | none =>
            refine a_il6 fM_plan_123 ?_
            refine a_il3 fM_plan_125 ?_
            refine a_ic_ge fM_plan_126 (fun c_ => absurd c_ (nI_ge (b := 9) (by omega) (by decide))) (fun _ => ?_)
            refine a_il4 fM_plan_129 ?_
            refine a_is2 fM_plan_131 (by decide) rfl ?_
            refine a_il6 fM_plan_132 ?_
            refine a_is3 fM_plan_134 (by decide) rfl ?_
            exact nx2 h3 (some (i, L)) _ _ W3 (F.trans F3) ⟨by show i < i + 1; omega, L4, vi, la, fun r L2 r1 r2 r3 r4 => by
              by_cases q9 : r = i
              · subst q9; exact Or.inr ⟨isLa_u la r3, Nat.le_refl _⟩
              · exact absurd r2 (hs r (by omega))⟩
          | some q =>
            obtain ⟨q1, q2, q3, q4, q5⟩ := hs
            by_cases cl : L < q.2
            · refine a_il6 fM_plan_123 ?_
              refine a_il3 fM_plan_125 ?_
              refine a_ic_ge fM_plan_126 (fun c_ => absurd c_ (nI_ge cl (by omega))) (fun _ => ?_)
              refine a_il4 fM_plan_129 ?_
              refine a_is2 fM_plan_131 (by decide) rfl ?_
              refine a_il6 fM_plan_132 ?_
              refine a_is3 fM_plan_134 (by decide) rfl ?_
              exact nx2 h3 (some (i, L)) _ _ W3 (F.trans F3) ⟨by show i < i + 1; omega, L4, vi, la, fun r L2 r1 r2 r3 r4 => by
                by_cases q9 : r = i
                · subst q9; exact Or.inr ⟨isLa_u la r3, Nat.le_refl _⟩
                · have := q5 r L2 (by omega) r2 r3 r4
                  exact Or.inl (by show L < L2; omega)⟩
            · refine a_il6 fM_plan_123 ?_
              refine a_il3 fM_plan_125 ?_
              refine a_ic_ge fM_plan_126 (fun _ => ?_) (fun c_ => absurd (nI_le (by omega) (by omega)) c_)
              exact nx2 h3 (some q) _ _ W3 (F.trans F3) ⟨by omega, q2, q3, q4, fun r L2 r1 r2 r3 r4 => by
                by_cases q9 : r = i
                · subst q9
                  have := isLa_u la r3
                  subst this
                  omega
                · exact q5 r L2 (by omega) r2 r3 r4⟩
        · refine a_il6 fM_plan_117 ?_
          refine a_ic fM_plan_119 ?_
          refine a_ic_eq fM_plan_120 (fun _ => ?_) (fun c_ => absurd (rfl) c_)
          exact nx2 h3 s _ _ W3 (F.trans F3) (keep (fun z => by have z2 := z.2; rw [sk] at z2; cases z2))
      · refine a_il5 fM_plan_100 ?_
        refine a_if_eq fM_plan_102 (fun _ => ?_) (fun c_ => absurd (by rw [bI_f (fun z => cr (hq2.mp z))]) c_)
        refine a_ic fM_plan_114 ?_
        refine a_is6 fM_plan_115 (by decide) rfl ?_
        refine a_il6 fM_plan_117 ?_
        refine a_ic fM_plan_119 ?_
        refine a_ic_eq fM_plan_120 (fun _ => ?_) (fun c_ => absurd (rfl) c_)
        exact nx2 g s _ _ W F (keep (fun z => cr z.1))
  refine a_ic fM_plan_25 ?_
  refine a_is2 fM_plan_26 (by decide) rfl ?_
  refine a_ic fM_plan_27 ?_
  refine a_is3 fM_plan_29 (by decide) rfl ?_
  refine a_ic fM_plan_30 ?_
  refine a_is4 fM_plan_31 (by decide) rfl ?_
  exact loop 4096 0 h1 none none none rfl W1 mF.rf (fun r hr => by omega)
end P9
