/-! fields, arrays, new cells, calls, ends -/
def fFL (own : String) (idx ci j : Nat) : Prop := ∃ (C : String) (T : u_T) (N : Nat), cls[ci]? = some (C, T, N) ∧ j < N ∧ (T j).1 = C ∧ (Cond.fieldLink own idx C (T j).2.1 (T j).2.2.1 ∈ gw ∨ ∃ host, Cond.fieldLinkNest own idx C (T j).2.1 (T j).2.2.1 host ∈ nw)
/-- a field that is written: not final, of type ty -/
def fPL (own : String) (idx ci j : Nat) (ty : FieldType) : Prop := ∃ (C : String) (T : u_T) (N : Nat), cls[ci]? = some (C, T, N) ∧ j < N ∧ (T j).1 = C ∧ (T j).2.2.2 = false ∧ parseFieldDescriptor (T j).2.2.1 = some ty ∧ (Cond.fieldLink own idx C (T j).2.1 (T j).2.2.1 ∈ gw ∨ ∃ host, Cond.fieldLinkNest own idx C (T j).2.1 (T j).2.2.1 host ∈ nw)
/-- a final field, written in its class's constructor -/
def fPF (own : String) (idx ci j : Nat) (ty : FieldType) : Prop := ∃ (C : String) (T : u_T) (N : Nat), cls[ci]? = some (C, T, N) ∧ j < N ∧ (T j).1 = C ∧ C = own ∧ (T j).2.2.2 = true ∧ parseFieldDescriptor (T j).2.2.1 = some ty ∧ Cond.fieldLink own idx C (T j).2.1 (T j).2.2.1 ∈ gw
def fNW (own : String) (idx ci : Nat) (fs : List Value) (N : Nat) : Prop := ∃ (C : String) (T : u_T) (ty : Nat → FieldType), cls[ci]? = some (C, T, N) ∧ Cond.classLink own idx C ∈ gw ∧ Cond.instantiable C N ∈ gw ∧ Cond.initialized C ∈ gw ∧ (∀ j, j < N → parseFieldDescriptor (T j).2.2.1 = some (ty j)) ∧ (∀ j, j < N → defaultValue (ty j) = vp_V fs j) ∧ ∀ E : eT, fs.map (e_sh E) = fs
abbrev ia (n : Nat) (f : Nat → Int32) : cT := .inl (0, n, .inl f)
abbrev za (n : Nat) (f : Nat → Int32) : cT := .inl (1, n, .inl f)
abbrev ra (n : Nat) (f : Nat → Option Nat) : cT := .inl (2, n, .inr (.inr (.inr (.inr f))))
section HP
variable {y : mI} {E : eT} {Z : zT} {k : Nat} {h : hT} {nc ns pc pc2 tgt : Nat} {L L2 : lT} {st : List Value}
theorem e_in (R : ∀ i, E.1 (i + 11) = E.2.1 + i) (j : Nat) : e_A E (E.1 (j + 11)) := by show E.2.1 ≤ _; rw [R]; omega
theorem a_gf {idx ci j q : Nat} {fs : List Value} {v : Value} (hd : fD y pc (.getfield idx) 3 pc2) (hf : fFL y.1.cls idx ci j) (hq : h q = .inr (ci, fs)) (hv : fs[j]? = some v) (kk : fA y E Z k h nc ns pc2 L (v :: st)) : fA y E Z k h nc ns pc L (.ref q :: st) := by
  intro p l e s m args below meth c H locs ls F R hS hl h1 h2
  obtain ⟨d, rfl⟩ := hd
  obtain ⟨C, T, N, hc, hj, hO, hw⟩ := hf
  obtain ⟨i, rfl, hi, hg⟩ := R.get hq (ne_dead_r hc)
  obtain ⟨w1, -, -⟩ := cl_facts ci C T N hc
  have hv2 : (fs.map (e_sh E))[j]? = some (e_sh E v) := by rw [List.getElem?_map, hv]; rfl
  rcases hw with hw | ⟨host, hw⟩
  · exact va_get (Ts := gw) F.1 F.2.1 F.2.2.2.2.2.1 w1 F.2.2.2.2.1 R.2.2.2.2.1 R.2.2.2.1 i hg hc j hj (F.w hw) (by rw [hO]; exact fun _ z => z) hv2 d (kk p l e s m args below meth c H locs ls F R hS hl h1 h2)
  · exact va_getN (Ts := gw) F.1 F.2.1 F.2.2.2.2.2.1 w1 F.2.2.2.2.1 R.2.2.2.2.1 R.2.2.2.1 i hg hc j hj (R.n hw) (by rw [hO]; exact fun _ z => z) hv2 d (kk p l e s m args below meth c H locs ls F R hS hl h1 h2)
theorem a_pf {idx ci j q : Nat} {fs : List Value} {v : Value} {ty : FieldType} (hd : fD y pc (.putfield idx) 3 pc2) (hf : fPL y.1.cls idx ci j ty) (hq : h q = .inr (ci, fs)) (hn : narrow ty (e_sh E v) = e_sh E v) (hv : fits ty (e_sh E v) = true) (hlen : j < fs.length) (kk : fA y E Z k (va_up h q (.inr (ci, fs.set j v))) nc ns pc2 L st) : fA y E Z k h nc ns pc L (v :: .ref q :: st) := by
  intro p l e s m args below meth c H locs ls F R hS hl h1 h2
  obtain ⟨d, rfl⟩ := hd
  obtain ⟨C, T, N, hc, hj, hO, hfin, hdesc, hw⟩ := hf
  obtain ⟨i, rfl, hi, hg⟩ := R.get hq (ne_dead_r hc)
  obtain ⟨w1, ⟨ty0, hty⟩, hnm⟩ := cl_facts ci C T N hc
  have hin : ∀ w ∈ u_ws C T N, w ∈ gw := w1
  have hD := e_D (k := k) (h := h) R.2.1
  have hap := va_apart (own := y.1.cls) F.2.2.2.2.2.1 hin ty0 hty hnm R.2.2.2.2.1 hc
  obtain ⟨r, g1, cell, q1, q2, q3, q4⟩ := R.2.2.2.1 i _ hg
  have hr : r = (C, T, N) := Option.some.inj (g1.symm.trans hc)
  subst hr
  obtain ⟨hSl, hfc, kC, hkC, hkind⟩ := R.2.2.2.2.1.1 ci _ hc
  obtain ⟨cf, kf, fi, f, hi9, hsl⟩ := hSl j hj
  have hlay := F.2.2.2.2.2.1 _ (hin _ (u_in_lay hj))
  unfold u_lay at hlay
  rw [if_neg (by rw [hfin]; decide)] at hlay
  have hst := (u_facts hfc hkC (u_lays F.2.2.2.2.2.1 hin hj) hi9).1
  have h6 := u_store hfc hkC hkind hlay hi9 hdesc hn hv
  rw [hO] at hi9
  have fin : ∀ H9 : Heap, H9[E.1 (i + 11)]? = some (cell.setSlot ((E.2.2.1).2 ci j) (e_sh E v)) → H9.size = H.size → (∀ q, q ≠ E.1 (i + 11) → H9[q]? = H[q]?) → W p l e y.2.2.2.2 s m args below meth c H9 (locs ++ [⟨E.1 (i + 11), (E.2.2.1).2 ci j⟩]) nc ns (Z below args s) (F0 m (pc + 3) ls (st.map (e_sh E))) := by
    intro H9 e1 e2 e3
    refine kk p l e s m args below meth c H9 _ ls F (R.set hi e2 ?_ (fun q hq9 => e3 q (fun z => ?_))) (hS.put e2 e3 (e_in R.2.1 i)) hl h1 h2
    · refine R.2.2.2.1.set hD hg (e := e_ce E (.inr (ci, fs.set j v))) ?_ e3
      refine ⟨_, hc, ?_⟩
      show t_OB _ _ _ _ _ (vp_V ((fs.set j v).map (e_sh E)))
      rw [List.map_set]
      exact t_OB.to (V := updV (vp_V (fs.map (e_sh E))) j (e_sh E v)) ⟨_, e1, q2, q3, t_set q4 hap hj (e_sh E v)⟩ (fun x _ => vp_updV_set (by simpa using hlen) (e_sh E v) x)
    · rw [z, R.2.1] at hq9
      omega
  rcases hw with hw | ⟨host, hw⟩
  · refine W.putK F.1 F.2.1 (f := f) ⟨F.2.2.2.2.1, F.w hw, ⟨_, _, _, hi9⟩, hst⟩ (by rw [q2]; exact h6) q1 q3 (by rw [hsl]; exact k2_hasslot (q4 j hj)) rfl rfl d fun H9 e1 e2 e3 => ?_
    rw [hsl] at e1 ⊢
    exact fin H9 e1 e2 e3
  · refine va_WputK F.1 F.2.1 (f := f) F.2.2.2.2.1 (R.n hw) hi9 hst (by rw [q2]; exact h6) q1 q3 (by rw [hsl]; exact k2_hasslot (q4 j hj)) rfl rfl d fun H9 e1 e2 e3 => ?_
    rw [hsl] at e1 ⊢
    exact fin H9 e1 e2 e3
theorem R_arr {U : State} {H : Heap} (R : fR E k h U H) {q : Nat} {a : Nat × vp_A} (hq : h q = .inl a) : ∃ i, q = i + 11 ∧ i < k ∧ (e_W E k h)[i]? = some (E.1 q, .inl (E.2.2.2.1 a.1, e_ar E a.2)) := R.get hq ne_dead_l
theorem a_iald {q n : Nat} {f : Nat → Int32} {i : Int32} (hd : fD y pc .iaload 1 pc2) (hq : h q = ia n f) (hi : vp_in i n) (kk : fA y E Z k h nc ns pc2 L (.int (f i.toNatClampNeg) :: st)) : fA y E Z k h nc ns pc L (.int i :: .ref q :: st) := by
  intro p l e s m args below meth c H locs ls F R hS hl h1 h2
  obtain ⟨d, rfl⟩ := hd
  obtain ⟨j, rfl, hj, hg⟩ := R_arr R hq
  exact va_iald (n := n) (f := f) F.1 F.2.1 R.2.2.2.2.1 R.2.2.2.1 j 0 hg rfl hi d (kk p l e s m args below meth c H locs ls F R hS hl h1 h2)
theorem a_zald {q n : Nat} {f : Nat → Int32} {i : Int32} (hd : fD y pc .baload 1 pc2) (hq : h q = za n f) (hi : vp_in i n) (kk : fA y E Z k h nc ns pc2 L (.int (f i.toNatClampNeg) :: st)) : fA y E Z k h nc ns pc L (.int i :: .ref q :: st) := by
  intro p l e s m args below meth c H locs ls F R hS hl h1 h2
  obtain ⟨d, rfl⟩ := hd
  obtain ⟨j, rfl, hj, hg⟩ := R_arr R hq
  exact va_zald (n := n) (f := f) F.1 F.2.1 R.2.2.2.2.1 R.2.2.2.1 j 1 hg rfl hi d (kk p l e s m args below meth c H locs ls F R hS hl h1 h2)
def rv (r : Option Nat) : Value := match r with
  | some a => .ref a
  | none => .null
theorem a_aald {q n : Nat} {f : Nat → Option Nat} {i : Int32} (hd : fD y pc .aaload 1 pc2) (hq : h q = ra n f) (hi : vp_in i n) (kk : fA y E Z k h nc ns pc2 L (rv (f i.toNatClampNeg) :: st)) : fA y E Z k h nc ns pc L (.int i :: .ref q :: st) := by
  intro p l e s m args below meth c H locs ls F R hS hl h1 h2
  obtain ⟨d, rfl⟩ := hd
  obtain ⟨j, rfl, hj, hg⟩ := R_arr R hq
  refine va_aldq (n := n) (f := fun x => (f x).map E.1) F.1 F.2.1 R.2.2.2.2.1 R.2.2.2.1 j 2 hg rfl hi d ?_
  have e9 : va_rf ((f i.toNatClampNeg).map E.1) = e_sh E (rv (f i.toNatClampNeg)) := by cases f i.toNatClampNeg <;> rfl
  show W p l e y.2.2.2.2 s m args below meth c H locs nc ns (Z below args s) (F0 m (pc + 1) ls (va_rf ((f i.toNatClampNeg).map E.1) :: st.map (e_sh E)))
  rw [e9]
  exact (kk p l e s m args below meth c H locs ls F R hS hl h1 h2)
theorem a_sld {i : Int32} (hd : fD y pc .iaload 1 pc2) (hi : vp_in i E.2.2.2.2.1) (kk : fA y E Z k h nc ns pc2 L (.int (E.2.2.2.2.2 i.toNatClampNeg) :: st)) : fA y E Z k h nc ns pc L (.int i :: .ref 0 :: st) := by
  intro p l e s m args below meth c H locs ls F R hS hl h1 h2
  obtain ⟨d, rfl⟩ := hd
  exact va_sld (A := e_A E) (H0 := H) F.1 F.2.1 R.2.2.2.2.2.1.1 (by rw [R.1]; have := R.2.2.2.2.2.1.2; omega) (Nat.not_le.mpr R.2.2.2.2.2.1.2) ⟨Nat.le_refl _, fun _ _ _ => rfl, hS.2.2⟩ hi d (kk p l e s m args below meth c H locs ls F R hS hl h1 h2)
theorem a_slen (hd : fD y pc .arraylength 1 pc2) (kk : fA y E Z k h nc ns pc2 L (.int (nI E.2.2.2.2.1) :: st)) : fA y E Z k h nc ns pc L (.ref 0 :: st) := by
  intro p l e s m args below meth c H locs ls F R hS hl h1 h2
  obtain ⟨d, rfl⟩ := hd
  exact va_slen (A := e_A E) (H0 := H) F.1 F.2.1 R.2.2.2.2.2.1.1 (by rw [R.1]; have := R.2.2.2.2.2.1.2; omega) (Nat.not_le.mpr R.2.2.2.2.2.1.2) ⟨Nat.le_refl _, fun _ _ _ => rfl, hS.2.2⟩ d (kk p l e s m args below meth c H locs ls F R hS hl h1 h2)
theorem a_iast {q n : Nat} {f : Nat → Int32} {i x : Int32} (hd : fD y pc .iastore 1 pc2) (hq : h q = ia n f) (hi : vp_in i n) (kk : fA y E Z k (va_up h q (ia n (upd f i.toNatClampNeg x))) nc ns pc2 L st) : fA y E Z k h nc ns pc L (.int x :: .int i :: .ref q :: st) := by
  intro p l e s m args below meth c H locs ls F R hS hl h1 h2
  obtain ⟨d, rfl⟩ := hd
  obtain ⟨j, rfl, hj, hg⟩ := R_arr R hq
  have hD := e_D (k := k) (h := h) R.2.1
  refine W.iast F.1 F.2.1 (R.2.2.2.1 j _ hg) ((R.2.2.2.2.1.2 0 _ rfl).1 n (fun j => .int (f j))) (fun q => by cases q) (by show ¬ (i < 0 ∨ (arrV _ _ _).slots.size ≤ _); rw [arrV_size]; exact hi) rfl rfl d fun H9 e1 e2 e3 => ?_
  refine kk p l e s m args below meth c H9 _ ls F (R.set hj e2 ?_ (fun q hq9 => e3 q (fun z => ?_))) (hS.put e2 e3 (e_in R.2.1 j)) hl h1 h2
  · refine R.2.2.2.1.set hD hg (e := e_ce E (ia n (upd f i.toNatClampNeg x))) ?_ e3
    show H9[_]? = some (vp_cell _ _)
    rw [e1]
    show some ((vp_cell _ (n, .inl f)).setSlot _ _) = some (vp_cell _ (n, .inl _))
    rw [vp_cell_i, vp_cell_i, arrV_store]
    congr 2
    funext q
    by_cases hq : q = i.toNatClampNeg
    · subst hq
      simp [updV, upd]
      try rfl
    · simp [updV, upd, hq]
  · rw [z, R.2.1] at hq9
    omega
theorem a_zast {q n : Nat} {f : Nat → Int32} {i x : Int32} (hd : fD y pc .bastore 1 pc2) (hq : h q = za n f) (hi : vp_in i n) (kk : fA y E Z k (va_up h q (za n (upd f i.toNatClampNeg (vp_nar .boolean x)))) nc ns pc2 L st) : fA y E Z k h nc ns pc L (.int x :: .int i :: .ref q :: st) := by
  intro p l e s m args below meth c H locs ls F R hS hl h1 h2
  obtain ⟨d, rfl⟩ := hd
  obtain ⟨j, rfl, hj, hg⟩ := R_arr R hq
  have hD := e_D (k := k) (h := h) R.2.1
  refine W.zast F.1 F.2.1 (R.2.2.2.1 j _ hg) ((R.2.2.2.2.1.2 1 _ rfl).1 n (fun j => .int (f j))) (fun q => by cases q) (by show ¬ (i < 0 ∨ (arrV _ _ _).slots.size ≤ _); rw [arrV_size]; exact hi) rfl rfl d fun H9 e1 e2 e3 => ?_
  refine kk p l e s m args below meth c H9 _ ls F (R.set hj e2 ?_ (fun q hq9 => e3 q (fun z => ?_))) (hS.put e2 e3 (e_in R.2.1 j)) hl h1 h2
  · refine R.2.2.2.1.set hD hg (e := e_ce E (za n (upd f i.toNatClampNeg (vp_nar .boolean x)))) ?_ e3
    show H9[_]? = some (vp_cell _ _)
    rw [e1]
    show some ((vp_cell _ (n, .inl f)).setSlot _ _) = some (vp_cell _ (n, .inl _))
    rw [vp_cell_i, vp_cell_i, arrV_store]
    congr 2
    funext q
    by_cases hq : q = i.toNatClampNeg
    · subst hq
      simp [updV, upd, vp_nar]
      try rfl
    · simp [updV, upd, hq]
  · rw [z, R.2.1] at hq9
    omega
end HP
