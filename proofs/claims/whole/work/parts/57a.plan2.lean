/-! plans: what the search rests on -/
section PP
variable {K S nb : Nat → Nat} {D : Nat}
theorem wad_nx {F : Nat} : ∀ (r : List Nat) (k : Nat) (W : Nat → Nat), ¬ F ∈ r → wad K D k r W F = W F := by
  intro r
  induction r with
  | nil => intro k W _; rfl
  | cons f r ih =>
    intro k W h
    have hn : F ≠ f := fun z => h (by rw [z]; exact List.mem_cons_self)
    simp only [wad]
    rw [ih _ _ (fun z => h (List.mem_cons_of_mem _ z)), vn hn]
theorem adL_no {F : Nat} : ∀ (bs : List Nat) (W : Nat → Nat), (∀ v ∈ bs, ¬ F ∈ sgn v v) → adL K D bs W F = W F := by
  intro bs
  induction bs with
  | nil => intro W _; rfl
  | cons v r ih =>
    intro W h
    simp only [adL]
    rw [ih _ (fun u hu => h u (List.mem_cons_of_mem _ hu)), wad_nx _ _ _ (h v List.mem_cons_self)]
theorem adL_ge : ∀ (bs : List Nat) (W : Nat → Nat) (f : Nat), W f ≤ adL K D bs W f := by
  intro bs
  induction bs with
  | nil => intro W f; exact Nat.le_refl _
  | cons v r ih => intro W f; exact Nat.le_trans (wad_ge _ _ _ _) (ih _ _)
theorem gtL_all : ∀ (bs : List Nat) (W : Nat → Nat), gtL K S D bs W = true ↔ ∀ v ∈ bs, bear S (adL K D bs W) (sgn v v) := by
  intro bs
  induction bs with
  | nil => intro W; exact ⟨fun _ v hv => (by cases hv), fun _ => rfl⟩
  | cons v r ih =>
    intro W
    simp only [gtL, adL]
    by_cases c : can K S W D (sgn v v)
    · rw [if_pos c, ih]
      constructor
      · intro z u hu f hf
        rcases List.mem_cons.mp hu with q | q
        · subst q
          by_cases c2 : ∃ u2, u2 ∈ r ∧ f ∈ sgn u2 u2
          · obtain ⟨u2, x1, x2⟩ := c2
            exact z u2 x1 f x2
          · rw [adL_no r _ (fun u2 x1 x2 => c2 ⟨u2, x1, x2⟩)]
            exact c f hf
        · exact z u q f hf
      · intro z u hu
        exact z u (List.mem_cons_of_mem _ hu)
    · rw [if_neg c]
      refine ⟨fun z => (by cases z), fun z => absurd (fun f hf => ?_) c⟩
      exact Nat.le_trans (adL_ge r _ f) (z v List.mem_cons_self f hf)
theorem adL_mono {bs bs2 : List Nat} (h : bs.Sublist bs2) : ∀ (W W2 : Nat → Nat), (∀ f, W f ≤ W2 f) → ∀ f, adL K D bs W f ≤ adL K D bs2 W2 f := by
  induction h with
  | slnil => intro W W2 h f; exact h f
  | cons v _ ih => intro W W2 h f; exact ih W _ (fun g => Nat.le_trans (h g) (wad_ge _ _ _ _)) f
  | cons_cons v _ ih => intro W W2 h f; exact ih _ _ (fun g => by rw [wad_sum, wad_sum]; have := h g; omega) f
theorem rst_mono {k w w2 : Nat} (h : w ≤ w2) : w - rst k w ≤ w2 - rst k w2 := by
  unfold rst
  split
  · omega
  · omega
  · split <;> split <;> omega
  · omega
theorem rsW_mono {W W2 : Nat → Nat} (h : ∀ f, W f ≤ W2 f) : ∀ f, rsW K W f ≤ rsW K W2 f := by
  intro f
  unfold rsW
  by_cases c : f < 10
  · rw [if_pos c, if_pos c]; exact rst_mono (h f)
  · rw [if_neg c, if_neg c]; exact h f
theorem skL_mono {a a2 : Nat → Nat} {l l2 : List Nat} (h : ∀ d, (sel nb a d l).Sublist (sel nb a2 d l2)) : ∀ (j d D : Nat) (W W2 : Nat → Nat), (∀ f, W f ≤ W2 f) → skL K S nb a2 l2 j d D W2 = true → skL K S nb a l j d D W = true := by
  intro j
  induction j with
  | zero => intro d D W W2 _ _; rfl
  | succ j ih =>
    intro d D W W2 hW z
    simp only [skL] at z ⊢
    by_cases c : gtL K S D (sel nb a2 d l2) W2 = true
    · rw [if_pos c] at z
      have c1 : gtL K S D (sel nb a d l) W = true := by
        rw [gtL_all] at c ⊢
        intro v hv f hf
        exact Nat.le_trans (adL_mono (h d) W W2 hW f) (c v ((h d).subset hv) f hf)
      rw [if_pos c1]
      exact ih _ _ _ _ (rsW_mono (adL_mono (h d) W W2 hW)) z
    · rw [if_neg c] at z; cases z
theorem skL_cg {a a2 : Nat → Nat} {l l2 : List Nat} (h : ∀ d, sel nb a d l = sel nb a2 d l2) : ∀ (j d D : Nat) (W : Nat → Nat), skL K S nb a l j d D W = skL K S nb a2 l2 j d D W := by
  intro j
  induction j with
  | zero => intro d D W; rfl
  | succ j ih => intro d D W; simp only [skL]; rw [h d, ih]
/-- days without bills do not matter -/
theorem skL_more {a : Nat → Nat} {l : List Nat} : ∀ (e j d D : Nat) (W : Nat → Nat), (∀ b ∈ l, a b < d + j) → skL K S nb a l (j + e) d D W = skL K S nb a l j d D W := by
  intro e j
  induction j with
  | zero =>
    intro d D W h
    have em : ∀ x, d ≤ x → sel nb a x l = [] := by
      intro x hx
      unfold sel
      rw [List.filter_eq_nil_iff.mpr (fun b hb => by have := h b hb; simp; omega)]
      rfl
    rw [Nat.zero_add]
    have : ∀ (e d D : Nat) (W : Nat → Nat), (∀ x, d ≤ x → sel nb a x l = []) → skL K S nb a l e d D W = true := by
      intro e
      induction e with
      | zero => intro d D W _; rfl
      | succ e ih =>
        intro d D W hm
        simp only [skL]
        rw [hm d (Nat.le_refl _)]
        exact ih _ _ _ (fun x hx => hm x (by omega))
    exact this e d D W em
  | succ j ih =>
    intro d D W h
    rw [show j + 1 + e = (j + e) + 1 by omega]
    simp only [skL]
    rw [ih _ _ _ (fun b hb => by have := h b hb; omega)]
end PP
/-- the place of a bill in a list -/
def ixo : List Nat → Nat → Nat
  | [], _ => 0
  | x :: r, b => if b = x then 0 else ixo r b + 1
theorem ixo_at : ∀ (l : List Nat), l.Nodup → ∀ i x, l[i]? = some x → ixo l x = i := by
  intro l
  induction l with
  | nil => intro _ i x h; simp at h
  | cons y r ih =>
    intro hn i x h
    have h1 := List.nodup_cons.mp hn
    cases i with
    | zero =>
      have : y = x := by simpa using h
      subst this
      simp [ixo]
    | succ i =>
      have hx : r[i]? = some x := by simpa using h
      have hm : x ∈ r := List.mem_of_getElem? hx
      have hxy : ¬ x = y := fun z => h1.1 (z ▸ hm)
      simp only [ixo]
      rw [if_neg hxy, ih h1.2 i x hx]
abbrev aF (l : List Nat) (c : Nat → Nat) : Nat → Nat := fun b => c (ixo l b)
/-- a whole way within d days -/
def vld (N : Nat → Nat) (l : List Nat) (d : Nat) (c : Nat → Nat) : Prop := (∀ i, i < l.length → c i < d) ∧ skR N (aF l c) l d = true
/-- c2 is below c, of t places -/
def blw (t : Nat) (c2 c : Nat → Nat) : Prop := ∃ i, i < t ∧ (∀ y, y < i → c2 y = c y) ∧ c2 i < c i
theorem vld_pre {N : Nat → Nat} {l : List Nat} {d t : Nat} {c c2 : Nat → Nat} (hn : l.Nodup) (V : vld N l d c2) (e : ∀ y, y < t → c2 y = c y) : skR N (aF l c) (l.take t) d = true := by
  refine skL_mono (a2 := aF l c2) (l2 := l) (fun x => ?_) d 0 (N 30) _ _ (fun _ => Nat.le_refl _) V.2
  have e1 : sel (fun i => N (32 + i)) (aF l c) x (l.take t) = sel (fun i => N (32 + i)) (aF l c2) x (l.take t) := by
    unfold sel
    congr 1
    apply List.filter_congr
    intro b hb
    obtain ⟨i, hi⟩ := List.getElem?_of_mem hb
    rw [List.getElem?_take] at hi
    split at hi
    · rename_i c9
      have q := ixo_at l hn i b hi
      show decide (c (ixo l b) = x) = decide (c2 (ixo l b) = x)
      rw [q, e i c9]
    · cases hi
  rw [e1]
  exact List.Sublist.map _ (List.Sublist.filter _ (List.take_sublist t l))
def pw (i : Nat) : Nat := match i with
  | 0 => 3125
  | 1 => 625
  | 2 => 125
  | 3 => 25
  | 4 => 5
  | _ => 1
theorem pw_s : ∀ i, i < 5 → pw i = 5 * pw (i + 1) := by decide
theorem pw_pos (i : Nat) : 1 ≤ pw i := by unfold pw; split <;> decide
def vS (c : Nat → Nat) : Nat → Nat
  | 0 => 0
  | k + 1 => vS c k + c k * pw k
theorem vS_cg {c c2 : Nat → Nat} : ∀ k, (∀ i, i < k → c i = c2 i) → vS c k = vS c2 k
  | 0, _ => rfl
  | k + 1, h => by simp only [vS]; rw [vS_cg k (fun i hi => h i (by omega)), h k (by omega)]
theorem vS_le {c : Nat → Nat} : ∀ k, (∀ i, i < k → c i ≤ 4) → vS c k ≤ 4 * vS (fun _ => 1) k
  | 0, _ => Nat.le_refl _
  | k + 1, h => by
    have h1 := vS_le k (fun i hi => h i (by omega))
    have h2 : c k * pw k ≤ 4 * pw k := Nat.mul_le_mul_right _ (h k (by omega))
    simp only [vS]
    omega
theorem vS_1 : ∀ k, k ≤ 6 → vS (fun _ => 1) k ≤ 3906 := by decide
theorem vS_b {c : Nat → Nat} {k : Nat} (h : ∀ i, i < k → c i ≤ 4) (hk : k ≤ 6) : vS c k ≤ 15624 := by
  have := vS_le k h
  have := vS_1 k hk
  omega
theorem nodup_take {l : List Nat} {i x : Nat} {t : Nat} (h : (l.take t)[i]? = some x) : l[i]? = some x ∧ i < t := by
  rw [List.getElem?_take] at h
  split at h
  · rename_i c; exact ⟨h, c⟩
  · cases h
section P2
variable {E : eT} {n : Nat} {h : hT} {N : Nat → Nat}
theorem c_planWithin {l : List Nat} {d : Nat} {ob cd : Nat → Nat} {dp : Int32} (V : hv h N) (B : bv h N) (S : kP h (nI l.length) dp ob cd) (O : okC N) (OB : okB N) (hl6 : l.length ≤ 6) (hl0 : 0 < l.length) (hn : l.Nodup) (hx : ∀ i x, l[i]? = some x → ob i = x ∧ x < N 31) (hd : d ≤ 4) (hd1 : 1 ≤ d) : fE M_K_planWithin E [.ref 47, .ref 12, .int (nI d)] n h (qI (fun r k g => k = n ∧ frk h g ∧ ((r = 1 ∧ ∃ c, kP g (nI l.length) dp ob c ∧ vld N l d c ∧ ∀ c2, vld N l d c2 → ¬ blw l.length c2 c) ∨ (r = 0 ∧ (∃ c, kP g (nI l.length) dp ob c) ∧ ∀ c2, ¬ vld N l d c2)))) := by
  have loop : ∀ (j t st : Nat) (g : hT) (c : Nat → Nat), st + j ≤ 900000 → t < l.length → 125000 < j + (8 * vS c (t + 1) + t) → kP g (nI l.length) dp ob c → hv g N → bv g N → frk h g → (∀ i, i < t → c i < d) → c t ≤ d → (∀ c2, vld N l d c2 → ¬ blw (t + 1) c2 c) → fA M_K_planWithin E (fZ M_K_planWithin E (qI (fun r k g => k = n ∧ frk h g ∧ ((r = 1 ∧ ∃ c, kP g (nI l.length) dp ob c ∧ vld N l d c ∧ ∀ c2, vld N l d c2 → ¬ blw l.length c2 c) ∨ (r = 0 ∧ (∃ c, kP g (nI l.length) dp ob c) ∧ ∀ c2, ¬ vld N l d c2))))) n g 0 0 12 [some (.ref 47), some (.ref 12), some (.int (nI d)), some (.int (nI t)), some (.int (nI st))] [] := by
    intro j
    induction j with
    | zero =>
      intro t st g c hs ht hm
      have := pw_pos t
      intro _ _ _ _ h5 h6 _
      have := vS_b (c := c) (k := t + 1) (fun i hi => by
        rcases Nat.lt_or_ge i t with q | q
        · have := h5 i q; omega
        · rw [show i = t by omega]; omega) (by omega)
      omega
    | succ j ih =>
      intro t st g c hs ht hm P V B Fr h5 h6 h7
      have P9 := P
      obtain ⟨m, f, D, W, k7, k8, k9, k0, k1, k2, k3, kw⟩ := P9
      refine a_il4 fK_planWithin_12 ?_
      refine a_ic fK_planWithin_14 ?_
      refine a_ic_ge fK_planWithin_16 (fun c_ => absurd c_ (nI_ge (b := 1000000) (by omega) (by decide))) (fun _ => ?_)
      refine a_il3 fK_planWithin_19 ?_
      refine a_if_lt fK_planWithin_20 (fun c_ => absurd c_ (nI_pos (by omega))) (fun _ => ?_)
      refine a_il3 fK_planWithin_23 ?_
      refine a_al0 fK_planWithin_24 ?_
      refine a_gf fK_planWithin_25 l_K_32 k7 rfl ?_
      refine a_ic_ge fK_planWithin_28 (fun c_ => absurd c_ (nI_ge ht (by omega))) (fun _ => ?_)
      refine a_il3 fK_planWithin_31 ?_
      refine a_ic fK_planWithin_32 ?_
      refine a_ic_ge fK_planWithin_34 (fun c_ => absurd c_ (nI_ge (b := 6) (by omega) (by decide))) (fun _ => ?_)
      by_cases cd9 : c t < d
      · refine a_al0 fK_planWithin_37 ?_
        refine a_gf fK_planWithin_38 l_K_29 k7 rfl ?_
        refine a_il3 fK_planWithin_41 ?_
        refine a_ia fK_planWithin_42 k3 rfl (by omega) (by decide) ?_
        refine a_il2 fK_planWithin_43 ?_
        refine a_ic_lt fK_planWithin_44 (fun _ => ?_) (fun c_ => absurd (nI_lt cd9 (by omega)) c_)
        refine a_al0 fK_planWithin_67 ?_
        refine a_al1 fK_planWithin_68 ?_
        refine a_il3 fK_planWithin_69 ?_
        refine a_ic fK_planWithin_70 ?_
        refine a_iadd fK_planWithin_71 ?_
        rw [nI_1]
        have lt : (l.take (t + 1)).length = t + 1 := by rw [List.length_take]; omega
        have hx9 : ∀ i x, (l.take (t + 1))[i]? = some x → ob i = x ∧ x < N 31 ∧ aF l c x = c i ∧ c i < 100 := by
          intro i x hi
          obtain ⟨q1, q2⟩ := nodup_take hi
          obtain ⟨q3, q4⟩ := hx i x q1
          refine ⟨q3, q4, ?_, ?_⟩
          · show c (ixo l x) = c i
            rw [ixo_at l hn i x q1]
          · rcases Nat.lt_or_ge i t with q | q
            · have := h5 i q
              omega
            · rw [show i = t by omega]
              omega
        rw [← lt]
        refine a_il2 fK_planWithin_72 ?_
        refine a_V3I fK_planWithin_73 k_K_100 m_K_holdsSoFar ⟨by decide, by decide⟩ k7 rfl ⟨rfl, rfl⟩ (Nat.le_of_ble_eq_true rfl) (c_holdsSoFar (l := l.take (t + 1)) (a := aF l c) V B P O OB (by omega) hx9 hd) (fun r1 n1 h1 p1 => ?_)
        obtain ⟨hr1, hn1, P1, F1⟩ := p1
        subst n1
        subst hr1
        have P19 := P1
        obtain ⟨m1, f1, D1, W1, j7, j8, j9, j0, j1, j2, j3, jw⟩ := P19
        have Fr1 := Fr.trans F1
        by_cases ch : skR N (aF l c) (l.take (t + 1)) d = true
        · refine a_if_eq fK_planWithin_76 (fun c_ => absurd c_ (fun z => by rw [bI_t ch] at z; exact absurd z (by decide))) (fun _ => ?_)
          refine a_inc3 fK_planWithin_79 (by decide) rfl ?_
          rw [nI_1]
          by_cases ce : t + 1 < l.length
          · refine a_il3 fK_planWithin_82 ?_
            refine a_al0 fK_planWithin_83 ?_
            refine a_gf fK_planWithin_84 l_K_32 j7 rfl ?_
            refine a_ic_ge fK_planWithin_87 (fun c_ => absurd c_ (nI_ge ce (by omega))) (fun _ => ?_)
            refine a_il3 fK_planWithin_90 ?_
            refine a_ic fK_planWithin_91 ?_
            refine a_ic_ge fK_planWithin_93 (fun c_ => absurd c_ (nI_ge (b := 6) (by omega) (by decide))) (fun _ => ?_)
            refine a_al0 fK_planWithin_96 ?_
            refine a_gf fK_planWithin_97 l_K_29 j7 rfl ?_
            refine a_il3 fK_planWithin_100 ?_
            refine a_ic fK_planWithin_101 ?_
            refine a_it fK_planWithin_102 j3 rfl (by omega) (by decide) ?_
            refine a_goto fK_planWithin_103 ?_
            refine a_inc4 fK_planWithin_116 (by decide) rfl ?_
            refine a_goto fK_planWithin_119 ?_
            rw [nI_1, show upd (nF c) (t + 1) 0 = nF (va_up c (t + 1) 0) from upd_nF (v := 0)]
            have cg : ∀ i, i < t + 1 → va_up c (t + 1) 0 i = c i := fun i hi => vn (by omega)
            have e0 : va_up c (t + 1) 0 (t + 1) = 0 := up_s
            refine ih (t + 1) (st + 1) _ (va_up c (t + 1) 0) (by omega) ce ?_ ⟨m1, f1, D1, W1, up_n (by decide) j7, up_n (by decide) j8, up_n (by decide) j9, up_n (by decide) j0, up_n (by decide) j1, up_n (by decide) j2, up_s, jw⟩ ((V.fr F1).up (by omega)) ((B.fr F1).fr (frk.rf.up (by omega))) (Fr1.up (by omega)) (fun i hi => ?_) (by rw [e0]; omega) (fun c2 V2 b2 => h7 c2 V2 ?_)
            · have : vS (va_up c (t + 1) 0) (t + 1 + 1) = vS c (t + 1) := by
                show vS (va_up c (t + 1) 0) (t + 1) + va_up c (t + 1) 0 (t + 1) * pw (t + 1) = _
                rw [e0, Nat.zero_mul, Nat.add_zero, vS_cg (t + 1) cg]
              omega
            · rw [cg i (by omega)]
              rcases Nat.lt_or_ge i t with q | q
              · exact h5 i q
              · rw [show i = t by omega]; exact cd9
            · obtain ⟨i, x1, x2, x3⟩ := b2
              rcases Nat.lt_or_ge i (t + 1) with q | q
              · exact ⟨i, q, fun y hy => (x2 y hy).trans (cg y (by omega)), by rw [cg i q] at x3; exact x3⟩
              · rw [show i = t + 1 by omega, e0] at x3; omega
          · have eL : t + 1 = l.length := by omega
            refine a_il3 fK_planWithin_82 ?_
            refine a_al0 fK_planWithin_83 ?_
            refine a_gf fK_planWithin_84 l_K_32 j7 rfl ?_
            refine a_ic_ge fK_planWithin_87 (fun _ => ?_) (fun c_ => absurd (nI_le (by omega) (by omega)) c_)
            refine a_inc4 fK_planWithin_116 (by decide) rfl ?_
            refine a_goto fK_planWithin_119 ?_
            rw [nI_1]
            refine a_il4 fK_planWithin_12 ?_
            refine a_ic fK_planWithin_14 ?_
            refine a_ic_ge fK_planWithin_16 (fun c_ => absurd c_ (nI_ge (b := 1000000) (by omega) (by decide))) (fun _ => ?_)
            refine a_il3 fK_planWithin_19 ?_
            refine a_if_lt fK_planWithin_20 (fun c_ => absurd c_ (nI_pos (by omega))) (fun _ => ?_)
            refine a_il3 fK_planWithin_23 ?_
            refine a_al0 fK_planWithin_24 ?_
            refine a_gf fK_planWithin_25 l_K_32 j7 rfl ?_
            refine a_ic_ge fK_planWithin_28 (fun _ => ?_) (fun c_ => absurd (nI_le (by omega) (by omega)) c_)
            refine a_il3 fK_planWithin_122 ?_
            refine a_al0 fK_planWithin_123 ?_
            refine a_gf fK_planWithin_124 l_K_32 j7 rfl ?_
            refine a_ic_ne fK_planWithin_127 (fun c_ => absurd (congrArg nI eL) c_) (fun _ => ?_)
            have vd : vld N l d c := ⟨fun i hi => by rcases Nat.lt_or_ge i t with q | q; exact h5 i q; rw [show i = t by omega]; exact cd9, by rw [eL, List.take_length] at ch; exact ch⟩
            refine a_ic fK_planWithin_130 ?_
            refine a_goto fK_planWithin_131 ?_
            exact a_rz fK_planWithin_135 rfl (by first | rfl | (split <;> rfl)) (⟨_, rfl, rfl, Fr1, Or.inl ⟨rfl, c, P1, vd, fun c2 V2 => by rw [← eL]; exact h7 c2 V2⟩⟩)
        · refine a_if_eq fK_planWithin_76 (fun _ => ?_) (fun c_ => absurd (by rw [bI_f ch]) c_)
          refine a_al0 fK_planWithin_106 ?_
          refine a_gf fK_planWithin_107 l_K_29 j7 rfl ?_
          refine a_il3 fK_planWithin_110 ?_
          refine a_dup2 fK_planWithin_111 rfl rfl ?_
          refine a_ia fK_planWithin_112 j3 rfl (by omega) (by decide) ?_
          refine a_ic fK_planWithin_113 ?_
          refine a_iadd fK_planWithin_114 ?_
          refine a_it fK_planWithin_115 j3 rfl (by omega) (by decide) ?_
          refine a_inc4 fK_planWithin_116 (by decide) rfl ?_
          refine a_goto fK_planWithin_119 ?_
          rw [nI_1, show nF c t + 1 = nI (c t + 1) from nI_1 _, upd_nF]
          have cg : ∀ i, i < t → va_up c t (c t + 1) i = c i := fun i hi => vn (by omega)
          have e0 : va_up c t (c t + 1) t = c t + 1 := up_s
          refine ih t (st + 1) _ (va_up c t (c t + 1)) (by omega) ht ?_ ⟨m1, f1, D1, W1, up_n (by decide) j7, up_n (by decide) j8, up_n (by decide) j9, up_n (by decide) j0, up_n (by decide) j1, up_n (by decide) j2, up_s, jw⟩ ((V.fr F1).up (by omega)) ((B.fr F1).fr (frk.rf.up (by omega))) (Fr1.up (by omega)) (fun i hi => by rw [cg i hi]; exact h5 i hi) (by rw [e0]; omega) (fun c2 V2 b2 => ?_)
          · have e1 : vS (va_up c t (c t + 1)) (t + 1) = vS c t + (c t + 1) * pw t := by
              show vS (va_up c t (c t + 1)) t + va_up c t (c t + 1) t * pw t = _
              rw [e0, vS_cg t cg]
            have e2 : vS c (t + 1) = vS c t + c t * pw t := rfl
            have e3 : (c t + 1) * pw t = c t * pw t + pw t := Nat.succ_mul _ _
            have := pw_pos t
            omega
          · obtain ⟨i, x1, x2, x3⟩ := b2
            rcases Nat.lt_or_ge i t with q | q
            · exact h7 c2 V2 ⟨i, by omega, fun y hy => (x2 y hy).trans (cg y (by omega)), by rw [cg i q] at x3; exact x3⟩
            · obtain rfl : i = t := by omega
              rw [e0] at x3
              have x2' : ∀ y, y < i → c2 y = c y := fun y hy => (x2 y hy).trans (cg y hy)
              rcases Nat.lt_or_ge (c2 i) (c i) with q2 | q2
              · exact h7 c2 V2 ⟨i, by omega, x2', q2⟩
              · exact ch (vld_pre hn V2 (fun y hy => by
                  rcases Nat.lt_or_ge y i with q3 | q3
                  · exact x2' y q3
                  · rw [show y = i by omega]; omega))
      · have cdd : c t = d := by omega
        refine a_al0 fK_planWithin_37 ?_
        refine a_gf fK_planWithin_38 l_K_29 k7 rfl ?_
        refine a_il3 fK_planWithin_41 ?_
        refine a_ia fK_planWithin_42 k3 rfl (by omega) (by decide) ?_
        refine a_il2 fK_planWithin_43 ?_
        refine a_ic_lt fK_planWithin_44 (fun c_ => absurd c_ (fun z => cd9 ((nI_ltI (by omega) (by omega)).mp z))) (fun _ => ?_)
        cases t with
        | zero =>
          refine a_incm3 fK_planWithin_47 (by decide) rfl ?_
          refine a_il3 fK_planWithin_50 ?_
          refine a_if_lt fK_planWithin_51 (fun _ => ?_) (fun c_ => absurd (by decide) c_)
          refine a_inc4 fK_planWithin_116 (by decide) rfl ?_
          refine a_goto fK_planWithin_119 ?_
          rw [nI_1]
          refine a_il4 fK_planWithin_12 ?_
          refine a_ic fK_planWithin_14 ?_
          refine a_ic_ge fK_planWithin_16 (fun c_ => absurd c_ (nI_ge (b := 1000000) (by omega) (by decide))) (fun _ => ?_)
          refine a_il3 fK_planWithin_19 ?_
          refine a_if_lt fK_planWithin_20 (fun _ => ?_) (fun c_ => absurd (by decide) c_)
          refine a_il3 fK_planWithin_122 ?_
          refine a_al0 fK_planWithin_123 ?_
          refine a_gf fK_planWithin_124 l_K_32 k7 rfl ?_
          refine a_ic_ne fK_planWithin_127 (fun _ => ?_) (fun c_ => absurd c_ (fun z => nI_nm1 (show l.length < 2 ^ 31 by omega) (z.symm.trans (by decide))))
          refine a_ic fK_planWithin_134 ?_
          exact a_rz fK_planWithin_135 rfl (by first | rfl | (split <;> rfl)) (⟨_, rfl, rfl, Fr, Or.inr ⟨rfl, ⟨c, P⟩, fun c2 V2 => h7 c2 V2 ⟨0, by omega, fun y hy => by omega, by rw [cdd]; exact V2.1 0 hl0⟩⟩⟩)
        | succ s =>
          refine a_incm3 fK_planWithin_47 (by decide) rfl ?_
          rw [show nI (s + 1) + -1 = nI s from pk_m1 s]
          refine a_il3 fK_planWithin_50 ?_
          refine a_if_lt fK_planWithin_51 (fun c_ => absurd c_ (nI_pos (by omega))) (fun _ => ?_)
          refine a_al0 fK_planWithin_54 ?_
          refine a_gf fK_planWithin_55 l_K_29 k7 rfl ?_
          refine a_il3 fK_planWithin_58 ?_
          refine a_dup2 fK_planWithin_59 rfl rfl ?_
          refine a_ia fK_planWithin_60 k3 rfl (by omega) (by decide) ?_
          refine a_ic fK_planWithin_61 ?_
          refine a_iadd fK_planWithin_62 ?_
          refine a_it fK_planWithin_63 k3 rfl (by omega) (by decide) ?_
          refine a_goto fK_planWithin_64 ?_
          refine a_inc4 fK_planWithin_116 (by decide) rfl ?_
          refine a_goto fK_planWithin_119 ?_
          rw [nI_1, show nF c s + 1 = nI (c s + 1) from nI_1 _, upd_nF]
          have cg : ∀ i, i < s → va_up c s (c s + 1) i = c i := fun i hi => vn (by omega)
          have e0 : va_up c s (c s + 1) s = c s + 1 := up_s
          have cs := h5 s (by omega)
          refine ih s (st + 1) _ (va_up c s (c s + 1)) (by omega) (by omega) ?_ ⟨m, f, D, W, up_n (by decide) k7, up_n (by decide) k8, up_n (by decide) k9, up_n (by decide) k0, up_n (by decide) k1, up_n (by decide) k2, up_s, kw⟩ (V.up (by omega)) (B.fr (frk.rf.up (by omega))) (Fr.up (by omega)) (fun i hi => by rw [cg i hi]; exact h5 i (by omega)) (by rw [e0]; omega) (fun c2 V2 b2 => ?_)
          · have e1 : vS (va_up c s (c s + 1)) (s + 1) = vS c s + (c s + 1) * pw s := by
              show vS (va_up c s (c s + 1)) s + va_up c s (c s + 1) s * pw s = _
              rw [e0, vS_cg s cg]
            have e2 : vS c (s + 1 + 1) = vS c s + c s * pw s + c (s + 1) * pw (s + 1) := rfl
            have e3 : (c s + 1) * pw s = c s * pw s + pw s := Nat.succ_mul _ _
            have e4 : c (s + 1) * pw (s + 1) ≤ 4 * pw (s + 1) := Nat.mul_le_mul_right _ (by omega)
            have e5 := pw_s s (by omega)
            have := pw_pos (s + 1)
            omega
          · obtain ⟨i, x1, x2, x3⟩ := b2
            rcases Nat.lt_or_ge i s with q | q
            · exact h7 c2 V2 ⟨i, by omega, fun y hy => (x2 y hy).trans (cg y (by omega)), by rw [cg i q] at x3; exact x3⟩
            · obtain rfl : i = s := by omega
              rw [e0] at x3
              have x2' : ∀ y, y < i → c2 y = c y := fun y hy => (x2 y hy).trans (cg y hy)
              rcases Nat.lt_or_ge (c2 i) (c i) with q2 | q2
              · exact h7 c2 V2 ⟨i, by omega, x2', q2⟩
              · exact h7 c2 V2 ⟨i + 1, by omega, fun y hy => by
                  rcases Nat.lt_or_ge y i with q3 | q3
                  · exact x2' y q3
                  · rw [show y = i by omega]; omega, by rw [cdd]; exact V2.1 (i + 1) ht⟩
  have S9 := S
  obtain ⟨m, f, D, W, k7, k8, k9, k0, k1, k2, k3, kw⟩ := S9
  refine fE.of (L := [some (.ref 47), some (.ref 12), some (.int (nI d)), none, none]) (by decide +kernel) (Nat.le_of_ble_eq_true rfl) rfl ?_
  refine a_ic fK_planWithin_0 ?_
  refine a_is3 fK_planWithin_1 (by decide) rfl ?_
  refine a_al0 fK_planWithin_2 ?_
  refine a_gf fK_planWithin_3 l_K_29 k7 rfl ?_
  refine a_ic fK_planWithin_6 ?_
  refine a_ic fK_planWithin_7 ?_
  refine a_it fK_planWithin_8 k3 (show (0 : Int32) = nI 0 from rfl) (by decide) (by decide) ?_
  refine a_ic fK_planWithin_9 ?_
  refine a_is4 fK_planWithin_10 (by decide) rfl ?_
  rw [show upd (nF cd) 0 0 = nF (va_up cd 0 0) from upd_nF (v := 0)]
  exact loop 130000 0 0 _ (va_up cd 0 0) (by omega) hl0 (by omega) ⟨m, f, D, W, up_n (by decide) k7, up_n (by decide) k8, up_n (by decide) k9, up_n (by decide) k0, up_n (by decide) k1, up_n (by decide) k2, up_s, kw⟩ (V.up (by omega)) (B.fr (frk.rf.up (by omega))) (frk.rf.up (by omega)) (fun i hi => by omega) (by rw [up_s]; omega) (fun c2 V2 b2 => by obtain ⟨i, x1, x2, x3⟩ := b2; rw [show i = 0 by omega, up_s] at x3; omega)
end P2
