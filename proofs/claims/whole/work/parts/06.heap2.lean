section HQ
variable {y : mI} {E : eT} {Z : zT} {k : Nat} {h : hT} {nc ns pc pc2 tgt : Nat} {L L2 : lT} {st : List Value}
theorem a_pF {idx ci j q : Nat} {fs : List Value} {v : Value} {ty : FieldType} (hd : fD y pc (.putfield idx) 3 pc2) (hf : fPF y.1.cls idx ci j ty) (hnm9 : y.1.name = "<init>") (hq : h q = .inr (ci, fs)) (hn : narrow ty (e_sh E v) = e_sh E v) (hv : fits ty (e_sh E v) = true) (hlen : j < fs.length) (kk : fA y E Z k (va_up h q (.inr (ci, fs.set j v))) nc ns pc2 L st) : fA y E Z k h nc ns pc L (v :: .ref q :: st) := by
  intro p l e s m args below meth c H locs ls F R hS hl h1 h2
  obtain ⟨d, rfl⟩ := hd
  obtain ⟨C, T, N, hc, hj, hO, hown, hfin, hdesc, hw⟩ := hf
  obtain ⟨i, rfl, hi, hg⟩ := R.get hq (ne_dead_r hc)
  obtain ⟨w1, ⟨ty0, hty⟩, hnm⟩ := cl_facts ci C T N hc
  have hin : ∀ w ∈ u_ws C T N, w ∈ gw := w1
  have hD := e_D (k := k) (h := h) R.2.1
  have hap := va_apart (own := y.1.cls) F.2.2.2.2.2.1 hin ty0 hty hnm R.2.2.2.2.1 hc
  obtain ⟨r, g1, cell, q1, q2, q3, q4⟩ := R.2.2.2.1 i _ hg
  have hr : r = (C, T, N) := Option.some.inj (g1.symm.trans hc)
  subst hr
  obtain ⟨hSl, hfc, kC, hkC, hkind⟩ := R.2.2.2.2.1.1 ci _ hc
  obtain ⟨cf, kf, fi, f, hi9, hsl⟩ := hSl j hj
  have hlay := F.2.2.2.2.2.1 _ (hin _ (u_in_lay hj))
  unfold u_lay at hlay
  rw [if_pos hfin] at hlay
  have hst := (u_facts hfc hkC (u_lays F.2.2.2.2.2.1 hin hj) hi9).1
  have hcf : m.cls = cf := by
    obtain ⟨_, _, c9, _, _, _, -, -, hf9, -, -, -, hown2, -⟩ := Cond.laysFinal_spec hlay
    have e1 : c9 = cf := by have := hi9.symm.trans hf9; simp at this; exact this.1.symm
    rw [hO, hown] at hown2
    rw [← e1]; exact Option.some.inj (F.2.2.2.2.1.symm.trans hown2)
  have h6 := u_fits hfc hkC hkind (Or.inr hlay) hi9 hdesc hn hv
  rw [hO] at hi9
  have fin : ∀ H9 : Heap, H9[E.1 (i + 11)]? = some (cell.setSlot ((E.2.2.1).2 ci j) (e_sh E v)) → H9.size = H.size → (∀ q, q ≠ E.1 (i + 11) → H9[q]? = H[q]?) → W p l e y.2.2.2.2 s m args below meth c H9 (locs ++ [⟨E.1 (i + 11), (E.2.2.1).2 ci j⟩]) nc ns (Z below args s) (F0 m (pc + 3) ls (st.map (e_sh E))) := by
    intro H9 e1 e2 e3
    refine kk p l e s m args below meth c H9 _ ls F (R.set hi e2 ?_ (fun q hq9 => e3 q (fun z => ?_))) (hS.put e2 e3 (e_in R.2.1 i)) hl h1 h2
    · refine R.2.2.2.1.set hD hg (e := e_ce E (.inr (ci, fs.set j v))) ?_ e3
      refine ⟨_, hc, ?_⟩
      show t_OB _ _ _ _ _ (vp_V ((fs.set j v).map (e_sh E)))
      rw [List.map_set]
      exact t_OB.to (V := updV (vp_V (fs.map (e_sh E))) j (e_sh E v)) ⟨_, e1, q2, q3, t_set q4 hap hj (e_sh E v)⟩ (fun x _ => vp_updV_set (by simpa using hlen) (e_sh E v) x)
    · rw [z, R.2.1] at hq9
      omega
  refine W.putFinK F.1 F.2.1 F.2.2.2.2.1 (F.w hw) hi9 hst hcf (F.2.2.2.2.2.2.2.trans hnm9) (by rw [q2]; exact h6) q1 q3 (by rw [hsl]; exact k2_hasslot (q4 j hj)) rfl rfl d fun H9 e1 e2 e3 => ?_
  rw [hsl] at e1 ⊢
  exact fin H9 e1 e2 e3
theorem R_S {U s : State} {H H9 : Heap} {locs : List Loc} (R : fR E k h U H) (hS : va_S (e_A E) s.heap H locs) (z : H9.size = H.size + 1) (o : ∀ q, q < H.size → H9[q]? = H[q]?) : va_S (e_A E) s.heap H9 locs := ⟨Nat.le_trans hS.1 (by omega), fun x a b => (o x (Nat.lt_of_lt_of_le a hS.1)).trans (hS.2.1 x a b), hS.2.2⟩
theorem R_P {U : State} {H H9 : Heap} (R : fR E k h U H) (o : ∀ q, q < H.size → H9[q]? = H[q]?) : va_P E.2.2.1 cls (e_W E k h) H9 := R.2.2.2.1.kept (fun i x hx => o x.1 ((R.2.2.2.1 i x hx).lt))
theorem a_new {idx ci N : Nat} {fs : List Value} (hd : fD y pc (.new idx) 3 pc2) (hf : fNW y.1.cls idx ci fs N) (hc : nc + 1 ≤ y.2.2.2.2.cells) (hs : ns + N ≤ y.2.2.2.2.slots) (kk : fA y E Z (k + 1) (va_up h (k + 11) (.inr (ci, fs))) (nc + 1) (ns + N) pc2 L (.ref (k + 11) :: st)) : fA y E Z k h nc ns pc L st := by
  intro p l e s m args below meth c H locs ls F R hS hl h1 h2
  obtain ⟨d, rfl⟩ := hd
  obtain ⟨C, T, ty, hcl, w1, w2, w3, hty, hfs, hmap⟩ := hf
  obtain ⟨u1, -, -⟩ := cl_facts ci C T N hcl
  have hKn := R.2.2.2.2.1.1 ci _ hcl
  refine W.newcK F.1 F.2.1 F.2.2.2.2.1 (F.w w1) (F.w w2) (F.w w3) rfl d hc hs hKn.2.1 rfl fun H9 kC hkC e1 z1 o1 => ?_
  have ea : E.1 (k + 11) = H.size := by rw [R.2.1, R.1]
  have kk := kk p l e s m args below meth c H9 locs ls F (R.push z1 ((R_P R o1).app (fun i x hx => ?_)) o1) (R_S R hS z1 o1) hl hc hs
  · rw [show (Value.ref (k + 11) :: st).map (e_sh E) = Value.ref H.size :: st.map (e_sh E) by rw [← ea]; rfl] at kk
    exact kk
  · have hz : i < 1 := (List.getElem?_eq_some_iff.mp hx).1
    rw [show i = 0 by omega] at hx
    cases hx
    refine ⟨_, hcl, ?_⟩
    show t_OB (E.1 (k + 11)) _ _ _ _ (vp_V (fs.map (e_sh E)))
    rw [hmap, ea]
    exact (u_born ty F.2.2.2.2.2.1 u1 hKn hkC e1 hty).to hfs
theorem a_newi {n : Int32} {N : Nat} (hd : fD y pc (.newarray .int) 2 pc2) (hw : Cond.arrayClass .int ∈ gw) (hn : ¬ n < 0) (hN : n.toNatClampNeg = N) (hb : N ≤ 1000) (hc : nc + 1 ≤ y.2.2.2.2.cells) (hs : ns + N ≤ y.2.2.2.2.slots) (kk : fA y E Z (k + 1) (va_up h (k + 11) (ia N (fun _ => 0))) (nc + 1) (ns + N) pc2 L (.ref (k + 11) :: st)) : fA y E Z k h nc ns pc L (.int n :: st) := by
  intro p l e s m args below meth c H locs ls F R hS hl h1 h2
  obtain ⟨d, rfl⟩ := hd
  refine va_newaK (atype := .int) F.1 F.2.1 (F.w hw) rfl d rfl hn hN (by show N * 4 ≤ _; omega) hc hs rfl fun H9 cA e1 z1 o1 hAr hNm => ?_
  have ea : E.1 (k + 11) = H.size := by rw [R.2.1, R.1]
  have ec : cA = E.2.2.2.1 0 := Option.some.inj (hNm.symm.trans (R.2.2.2.2.1.2 0 _ rfl).2)
  have kk := kk p l e s m args below meth c H9 locs ls F (R.push z1 ((R_P R o1).app (fun i x hx => ?_)) o1) (R_S R hS z1 o1) hl hc hs
  · rw [show (Value.ref (k + 11) :: st).map (e_sh E) = Value.ref H.size :: st.map (e_sh E) by rw [← ea]; rfl] at kk
    exact kk
  · have hz : i < 1 := (List.getElem?_eq_some_iff.mp hx).1
    rw [show i = 0 by omega] at hx
    cases hx
    show H9[E.1 (k + 11)]? = some (vp_cell (E.2.2.2.1 0) (N, .inl (fun _ => 0)))
    rw [ea, e1, ec, vp_cell_i]
    rfl
theorem a_newz {n : Int32} {N : Nat} (hd : fD y pc (.newarray .boolean) 2 pc2) (hw : Cond.arrayClass .boolean ∈ gw) (hn : ¬ n < 0) (hN : n.toNatClampNeg = N) (hb : N ≤ 1000) (hc : nc + 1 ≤ y.2.2.2.2.cells) (hs : ns + N ≤ y.2.2.2.2.slots) (kk : fA y E Z (k + 1) (va_up h (k + 11) (za N (fun _ => 0))) (nc + 1) (ns + N) pc2 L (.ref (k + 11) :: st)) : fA y E Z k h nc ns pc L (.int n :: st) := by
  intro p l e s m args below meth c H locs ls F R hS hl h1 h2
  obtain ⟨d, rfl⟩ := hd
  refine va_newaK (atype := .boolean) F.1 F.2.1 (F.w hw) rfl d rfl hn hN (by show N * 1 ≤ _; omega) hc hs rfl fun H9 cA e1 z1 o1 hAr hNm => ?_
  have ea : E.1 (k + 11) = H.size := by rw [R.2.1, R.1]
  have ec : cA = E.2.2.2.1 1 := Option.some.inj (hNm.symm.trans (R.2.2.2.2.1.2 1 _ rfl).2)
  have kk := kk p l e s m args below meth c H9 locs ls F (R.push z1 ((R_P R o1).app (fun i x hx => ?_)) o1) (R_S R hS z1 o1) hl hc hs
  · rw [show (Value.ref (k + 11) :: st).map (e_sh E) = Value.ref H.size :: st.map (e_sh E) by rw [← ea]; rfl] at kk
    exact kk
  · have hz : i < 1 := (List.getElem?_eq_some_iff.mp hx).1
    rw [show i = 0 by omega] at hx
    cases hx
    show H9[E.1 (k + 11)]? = some (vp_cell (E.2.2.2.1 1) (N, .inl (fun _ => 0)))
    rw [ea, e1, ec, vp_cell_i]
    rfl
theorem a_newr {idx : Nat} {n : Int32} {N : Nat} (hd : fD y pc (.anewarray idx) 3 pc2) (hw : Cond.classLink y.1.cls idx "FigureLeave$House" ∈ gw) (hn : ¬ n < 0) (hN : n.toNatClampNeg = N) (hb : N ≤ 1000) (hc : nc + 1 ≤ y.2.2.2.2.cells) (hs : ns + N ≤ y.2.2.2.2.slots) (kk : fA y E Z (k + 1) (va_up h (k + 11) (ra N (fun _ => none))) (nc + 1) (ns + N) pc2 L (.ref (k + 11) :: st)) : fA y E Z k h nc ns pc L (.int n :: st) := by
  intro p l e s m args below meth c H locs ls F R hS hl h1 h2
  obtain ⟨d, rfl⟩ := hd
  subst hN
  refine W.anew F.1 F.2.1 F.2.2.2.2.1 (F.w hw) (va_AO.use R.2.2.2.2.2.2.2.2.2.2.2.2.1) rfl d rfl hn (by omega) hc hs fun cA kA comp f1 f2 f3 f4 => ?_
  generalize hH1 : H.push ({ cls := cA, slots := Array.replicate n.toNatClampNeg .null, vm := .none } : Cell) = H9
  have z1 : H9.size = H.size + 1 := by rw [← hH1, Array.size_push]
  have e1 : H9[H.size]? = some (arrV cA n.toNatClampNeg (fun _ => .null)) := by rw [← hH1, Array.getElem?_push_size, ← arrV_new]
  have o1 : ∀ q : Nat, q < H.size → H9[q]? = H[q]? := fun q hq => by rw [← hH1, Array.getElem?_push, if_neg (Nat.ne_of_lt hq)]
  have ea : E.1 (k + 11) = H.size := by rw [R.2.1, R.1]
  obtain ⟨kA2, comp2, g1, g2, g3, g4⟩ := (R.2.2.2.2.1.2 2 _ rfl).2
  have ec : cA = E.2.2.2.1 2 := Option.some.inj (f1.symm.trans g4)
  have kk := kk p l e s m args below meth c H9 locs ls F (R.push z1 ((R_P R o1).app (fun i x hx => ?_)) o1) (R_S R hS z1 o1) hl hc hs
  · rw [show (Value.ref (k + 11) :: st).map (e_sh E) = Value.ref H.size :: st.map (e_sh E) by rw [← ea]; rfl] at kk
    exact kk
  · have hz : i < 1 := (List.getElem?_eq_some_iff.mp hx).1
    rw [show i = 0 by omega] at hx
    cases hx
    show H9[E.1 (k + 11)]? = some (vp_cell (E.2.2.2.1 2) (n.toNatClampNeg, .inr (.inr (.inr (.inr (fun _ => none))))))
    rw [ea, e1, ec, vp_cell_q]
    rfl
theorem a_aast {q n v ci : Nat} {fs : List Value} {f : Nat → Option Nat} {T : u_T} {N : Nat} {i : Int32} (hd : fD y pc .aastore 1 pc2) (hq : h q = ra n f) (hv : h v = .inr (ci, fs)) (hcl : cls[ci]? = some ("FigureLeave$House", T, N)) (hi : vp_in i n) (kk : fA y E Z k (va_up h q (ra n (va_up f i.toNatClampNeg (some v)))) nc ns pc2 L st) : fA y E Z k h nc ns pc L (.ref v :: .int i :: .ref q :: st) := by
  intro p l e s m args below meth c H locs ls F R hS hl h1 h2
  obtain ⟨d, rfl⟩ := hd
  obtain ⟨j, rfl, hj, hg⟩ := R_arr R hq
  obtain ⟨j2, rfl, hj2, hg2⟩ := R.get hv (ne_dead_r hcl)
  have hD := e_D (k := k) (h := h) R.2.1
  have hlt : i.toNatClampNeg < n := Nat.not_le.mp fun q => hi (Or.inr q)
  have h0 : ¬ i < 0 := fun q => hi (Or.inl q)
  obtain ⟨r9, hr9, cellV, g1, g2, g3, -⟩ := R.2.2.2.1 j2 _ hg2
  have hcls := (R.2.2.2.2.1.1 ci _ hcl).2
  obtain ⟨kA, comp, k1, k2, k3, -⟩ := (R.2.2.2.2.1.2 2 _ rfl).2
  have hcomp : comp = E.2.2.1.1 ci := Option.some.inj (k3.symm.trans hcls.1)
  subst hcomp
  obtain ⟨kC, hkC, -⟩ := hcls.2
  refine W.aast F.1 F.2.1 (R.2.2.2.1 j _ hg) (fun q h => by cases h) (fun h => by cases h) k1 k2 rfl hkC ⟨h0, by show _ < (arrV _ _ _).slots.size; rw [arrV_size]; exact hlt⟩ g1 (fun q h => by rw [g3] at h; cases h) (by rw [g2]; exact hkC) (by rw [g2]; exact va_assign hcls) rfl rfl d fun H9 e1 e2 e3 => ?_
  refine kk p l e s m args below meth c H9 _ ls F (R.set hj e2 ?_ (fun q hq9 => e3 q (fun z => ?_))) (hS.put e2 e3 (e_in R.2.1 j)) hl h1 h2
  · refine R.2.2.2.1.set hD hg (e := e_ce E (ra n (va_up f i.toNatClampNeg (some (j2 + 11))))) ?_ e3
    show H9[_]? = some (vp_cell _ _)
    rw [e1]
    show some ((vp_cell _ (n, .inr (.inr (.inr (.inr (fun x => (f x).map E.1)))))).setSlot _ _) = some (vp_cell _ (n, .inr (.inr (.inr (.inr (fun x => (va_up f i.toNatClampNeg (some (j2 + 11)) x).map E.1))))))
    rw [vp_cell_q, vp_cell_q, arrV_store]
    congr 2
    funext q
    by_cases hq : q = i.toNatClampNeg
    · subst hq
      simp [updV, va_up, va_rf]
    · simp [updV, va_up, hq]
  · rw [z, R.2.1] at hq9
    omega
/-- System.arraycopy of ints -/
theorem a_copy {idx q0 q1 n0 n1 : Nat} {f g : Nat → Int32} {sp dp n : Int32} (hd : fD y pc (.invokestatic idx) 3 pc2) (w1 : Cond.methodLink y.1.cls idx arraycopyName ∈ gw) (w2 : Cond.native arraycopyName ∈ gw) (w3 : Cond.static arraycopyName ∈ gw) (w4 : Cond.initialized "java/lang/System" ∈ gw) (hq0 : h q0 = ia n0 f) (hq1 : h q1 = ia n1 g)
    (g1 : ¬ sp < 0) (g2 : ¬ dp < 0) (g3 : ¬ n < 0) (g4 : sp.toNatClampNeg + n.toNatClampNeg ≤ n0) (g5 : dp.toNatClampNeg + n.toNatClampNeg ≤ n1) (hfr : 1 ≤ y.2.2.2.2.frames) (hlo : (st.map fun v => v.category).sum + (nativeFrameWords "java/lang/System" "arraycopy" 5 + 11) ≤ y.2.2.2.2.locals)
    (kk : fA y E Z k (va_up h q1 (ia n1 (va_cpy f g sp.toNatClampNeg dp.toNatClampNeg n.toNatClampNeg))) nc ns pc2 L st) : fA y E Z k h nc ns pc L (.int n :: .int dp :: .ref q1 :: .int sp :: .ref q0 :: st) := by
  intro p l e s m args below meth c H locs ls F R hS hl h1 h2
  obtain ⟨d, rfl⟩ := hd
  obtain ⟨j0, rfl, hj0, hg0⟩ := R_arr R hq0
  obtain ⟨j1, rfl, hj1, hg1⟩ := R_arr R hq1
  have hD := e_D (k := k) (h := h) R.2.1
  have nn : ∀ z : Int32, ¬ z < 0 → z.toInt = (z.toNatClampNeg : Int) := by
    intro z hz
    have hz0 : (0 : Int) ≤ z.toInt := by
      have := Int32.not_lt.mp hz
      simpa using Int32.le_iff_toInt_le.mp this
    show z.toInt = ((z.toInt.toNat : Nat) : Int)
    omega
  have hcat : ((st.map (e_sh E)).map fun v => v.category).sum = (st.map fun v => v.category).sum := by
    rw [List.map_map]; congr 1; apply List.map_congr_left; intro v _; exact e_sh_cat E v
  intro T hT X
  have hc0 : H[E.1 (j0 + 11)]? = some (vp_cell (E.2.2.2.1 0) (n0, .inl f)) := R.2.2.2.1 j0 _ hg0
  have hc1 : H[E.1 (j1 + 11)]? = some (vp_cell (E.2.2.2.1 0) (n1, .inl g)) := R.2.2.2.1 j1 _ hg1
  obtain ⟨-, k0, hk0, cm0, hkk0⟩ := (R.2.2.2.2.1.2 0 _ rfl).1 n0 (fun j => .int (f j))
  obtain ⟨-, k1, hk1, cm1, hkk1⟩ := (R.2.2.2.2.1.2 0 _ rfl).1 n1 (fun j => .int (g j))
  obtain ⟨vm9, X9, step⟩ := X.arraycopy F.1 F.2.2.2.2.1 (F.w w1) (F.w w2) (F.w w3) (F.w w4) (src := E.1 (j0 + 11)) (dst := E.1 (j1 + 11)) (cs := vp_cell (E.2.2.2.1 0) (n0, .inl f)) (cd := vp_cell (E.2.2.2.1 0) (n1, .inl g)) (srcPos := sp) (destPos := dp) (n := n) (by rw [hT]; exact hc0) (by rw [hT]; exact hc1)
    (fun _ h => by cases h) (fun _ h => by cases h) (fun h => by cases h) (fun h => by cases h) hk0 hk1 hkk0 hkk1 (by simp [refKind]) g1 g2 g3
    (by rw [nn sp g1, nn n g3]; show ¬ _ > ((arrV (E.2.2.2.1 0) n0 (fun j => .int (f j))).slots.size : Int); rw [arrV_size]; omega)
    (by rw [nn dp g2, nn n g3]; show ¬ _ > ((arrV (E.2.2.2.1 0) n1 (fun j => .int (g j))).slots.size : Int); rw [arrV_size]; omega)
    (fun vm₁ _ i hi => by
      have e : (vp_cell (E.2.2.2.1 0) (n0, .inl f)).slots.getD (sp.toNatClampNeg + i) .null = .int (f (sp.toNatClampNeg + i)) := by
        show (arrV (E.2.2.2.1 0) n0 (fun j => .int (f j))).slots.getD _ _ = _
        rw [Array.getD_eq_getD_getElem?, arrV_read _ _ (by omega)]
        rfl
      refine ⟨?_, ?_⟩
      · rw [e]
        rfl
      · rw [e]
        exact trivial)
    (g := F0 m pc ls (.int n :: .int dp :: .ref (E.1 (j1 + 11)) :: .int sp :: .ref (E.1 (j0 + 11)) :: st.map (e_sh E))) rfl (by rw [F.2.2.2.1]; exact hl.1) (rest := st.map (e_sh E)) rfl (by rw [F.2.1]; exact d) hfr (by show 2 * 0 + _ + _ ≤ _; rw [hcat]; omega)
  have e1 : copied (vp_cell (E.2.2.2.1 0) (n0, .inl f)) (vp_cell (E.2.2.2.1 0) (n1, .inl g)) sp dp n = vp_cell (E.2.2.2.1 0) (n1, .inl (va_cpy f g sp.toNatClampNeg dp.toNatClampNeg n.toNatClampNeg)) := va_copied (fun z => .int z) _ _ f g g4
  rw [e1] at X9 step
  have hlt : E.1 (j1 + 11) < H.size := (Array.getElem?_eq_some_iff.mp hc1).1
  have hheap : ((T.setVm vm9).setCell (E.1 (j1 + 11)) (vp_cell (E.2.2.2.1 0) (n1, .inl (va_cpy f g sp.toNatClampNeg dp.toNatClampNeg n.toNatClampNeg)))).heap = H.setIfInBounds (E.1 (j1 + 11)) (vp_cell (E.2.2.2.1 0) (n1, .inl (va_cpy f g sp.toNatClampNeg dp.toNatClampNeg n.toNatClampNeg))) := by rw [← hT]; rfl
  have oq : ∀ q : Nat, q ≠ E.1 (j1 + 11) → (H.setIfInBounds (E.1 (j1 + 11)) (vp_cell (E.2.2.2.1 0) (n1, .inl (va_cpy f g sp.toNatClampNeg dp.toNatClampNeg n.toNatClampNeg))))[q]? = H[q]? := fun q hq => by simp [Array.getElem?_setIfInBounds, Ne.symm hq]
  obtain ⟨t, a1, b1⟩ := kk p l e s m args below meth c _ _ ls F (R.set hj1 (c := ia n1 (va_cpy f g sp.toNatClampNeg dp.toNatClampNeg n.toNatClampNeg)) (by simp) (R.2.2.2.1.set hD hg1 (show (H.setIfInBounds (E.1 (j1 + 11)) _)[E.1 (j1 + 11)]? = some _ by simp [Array.getElem?_setIfInBounds, hlt]; rfl) oq) (fun q hq9 => oq q (fun z => by rw [z, R.2.1] at hq9; omega))) ⟨by simp; exact hS.1, fun q x1 x2 => by
      rw [oq q (fun e => x2 (by rw [e]; exact e_in R.2.1 j1))]
      exact hS.2.1 q x1 x2, fun q hq => by
      rcases List.mem_append.mp hq with h | h
      · exact hS.2.2 q h
      · obtain ⟨z, -, hz⟩ := List.mem_map.mp h
        rw [← hz]
        exact e_in R.2.1 j1⟩ hl h1 h2 _ hheap X9
  exact ⟨t, step t a1, b1⟩
theorem a_mmax {idx : Nat} {x z : Int32} (hd : fD y pc (.invokestatic idx) 3 pc2) (w1 : Cond.methodLink y.1.cls idx Lib.Math.max.name ∈ gw) (w2 : Cond.static Lib.Math.max.name ∈ gw) (w3 : Cond.initialized "java/lang/Math" ∈ gw) (w4 : Cond.code Lib.Math.max.name Lib.Math.max.code 2 (some .int) ∈ gw) (hfr : 1 ≤ y.2.2.2.2.frames) (hlo : (st.map fun v => v.category).sum + 13 ≤ y.2.2.2.2.locals) (kk : fA y E Z k h nc ns pc2 L (.int (if x < z then z else x) :: st)) : fA y E Z k h nc ns pc L (.int z :: .int x :: st) := by
  intro p l e s m args below meth c H locs ls F R hS hl h1 h2
  obtain ⟨d, rfl⟩ := hd
  have hcat : ((st.map (e_sh E)).map fun v => v.category).sum = (st.map fun v => v.category).sum := by
    rw [List.map_map]; congr 1; apply List.map_congr_left; intro v _; exact e_sh_cat E v
  exact va_mmax F.1 F.2.1 (F.2.2.2.1.trans hl.1.symm) F.2.2.2.2.1 (F.w w1) (F.w w2) (F.w w3) (F.w w4) hfr (by rw [hcat]; exact hlo) h1 h2 d (kk p l e s m args below meth c H locs ls F R hS hl h1 h2)
theorem a_mmin {idx : Nat} {x z : Int32} (hd : fD y pc (.invokestatic idx) 3 pc2) (w1 : Cond.methodLink y.1.cls idx Lib.Math.min.name ∈ gw) (w2 : Cond.static Lib.Math.min.name ∈ gw) (w3 : Cond.initialized "java/lang/Math" ∈ gw) (w4 : Cond.code Lib.Math.min.name Lib.Math.min.code 2 (some .int) ∈ gw) (hfr : 1 ≤ y.2.2.2.2.frames) (hlo : (st.map fun v => v.category).sum + 13 ≤ y.2.2.2.2.locals) (kk : fA y E Z k h nc ns pc2 L (.int (if z < x then z else x) :: st)) : fA y E Z k h nc ns pc L (.int z :: .int x :: st) := by
  intro p l e s m args below meth c H locs ls F R hS hl h1 h2
  obtain ⟨d, rfl⟩ := hd
  have hcat : ((st.map (e_sh E)).map fun v => v.category).sum = (st.map fun v => v.category).sum := by
    rw [List.map_map]; congr 1; apply List.map_congr_left; intro v _; exact e_sh_cat E v
  exact va_mmin F.1 F.2.1 (F.2.2.2.1.trans hl.1.symm) F.2.2.2.2.1 (F.w w1) (F.w w2) (F.w w3) (F.w w4) hfr (by rw [hcat]; exact hlo) h1 h2 d (kk p l e s m args below meth c H locs ls F R hS hl h1 h2)
theorem a_mabs {idx : Nat} {x : Int32} (hd : fD y pc (.invokestatic idx) 3 pc2) (w1 : Cond.methodLink y.1.cls idx Lib.Math.abs.name ∈ gw) (w2 : Cond.static Lib.Math.abs.name ∈ gw) (w3 : Cond.initialized "java/lang/Math" ∈ gw) (w4 : Cond.code Lib.Math.abs.name Lib.Math.abs.code 1 (some .int) ∈ gw) (hfr : 1 ≤ y.2.2.2.2.frames) (hlo : (st.map fun v => v.category).sum + 13 ≤ y.2.2.2.2.locals) (kk : fA y E Z k h nc ns pc2 L (.int (if 0 ≤ x then x else 0 - x) :: st)) : fA y E Z k h nc ns pc L (.int x :: st) := by
  intro p l e s m args below meth c H locs ls F R hS hl h1 h2
  obtain ⟨d, rfl⟩ := hd
  have hcat : ((st.map (e_sh E)).map fun v => v.category).sum = (st.map fun v => v.category).sum := by
    rw [List.map_map]; congr 1; apply List.map_congr_left; intro v _; exact e_sh_cat E v
  exact va_mabs F.1 F.2.1 (F.2.2.2.1.trans hl.1.symm) F.2.2.2.2.1 (F.w w1) (F.w w2) (F.w w3) (F.w w4) hfr (by rw [hcat]; exact hlo) h1 h2 d (kk p l e s m args below meth c H locs ls F R hS hl h1 h2)
theorem a_oi {idx q : Nat} (hd : fD y pc (.invokespecial idx) 3 pc2) (w1 : Cond.methodLink y.1.cls idx objectInit ∈ gw) (w2 : Cond.instanceMethod objectInit ∈ gw) (w3 : Cond.code objectInit ⟨#[0xb1]⟩ 1 none ∈ gw) (hfr : 1 ≤ y.2.2.2.2.frames) (hlo : (st.map fun v => v.category).sum + 12 ≤ y.2.2.2.2.locals) (kk : fA y E Z k h nc ns pc2 L st) : fA y E Z k h nc ns pc L (.ref q :: st) := by
  intro p l e s m args below meth c H locs ls F R hS hl h1 h2
  obtain ⟨d, rfl⟩ := hd
  have hcat : ((st.map (e_sh E)).map fun v => v.category).sum = (st.map fun v => v.category).sum := by
    rw [List.map_map]; congr 1; apply List.map_congr_left; intro v _; exact e_sh_cat E v
  exact W.objInit F.1 F.2.1 F.2.2.2.2.1 (F.w w1) (F.w w2) (F.w w3) rfl (by rw [F.2.2.2.1]; exact hl.1) rfl d hfr (by show 2 * 0 + _ + _ ≤ _; rw [hcat]; omega) (kk p l e s m args below meth c H locs ls F R hS hl h1 h2)
variable {Q : Option Value → Nat → hT → Prop}
theorem a_ri {v : Int32} (hd : fD y pc .ireturn 1 pc2) (hr : y.2.2.2.1 = some .int) (hq : Q (some (.int v)) k h) : fA y E (fZ y E Q) k h nc ns pc L [.int v] := by
  intro p l e s m args below meth c H locs ls F R hS hl h1 h2
  refine W.widen h1 h2 ?_
  exact W.iret F.1 F.2.1 (F.2.2.1.trans hr) (fun t ht hW => ⟨⟨some (.int v), k, h, rfl, hq, by rw [ht]; exact R.warm hW⟩, hS.F ht⟩) hS.2.2 hd.1 F.2.2.2.2.2.2.1
theorem a_rz {v : Int32} {ty : FieldType} (hd : fD y pc .ireturn 1 pc2) (hr : y.2.2.2.1 = some ty) (hn : narrow ty (.int v) = .int v) (hq : Q (some (.int v)) k h) : fA y E (fZ y E Q) k h nc ns pc L [.int v] := by
  intro p l e s m args below meth c H locs ls F R hS hl h1 h2
  refine W.widen h1 h2 ?_
  exact W.zret F.1 F.2.1 (F.2.2.1.trans hr) hn (fun t ht hW => ⟨⟨some (.int v), k, h, rfl, hq, by rw [ht]; exact R.warm hW⟩, hS.F ht⟩) hS.2.2 hd.1 F.2.2.2.2.2.2.1
theorem a_rl {v : Int64} (hd : fD y pc .lreturn 1 pc2) (hr : y.2.2.2.1 = some .long) (hq : Q (some (.long v)) k h) : fA y E (fZ y E Q) k h nc ns pc L [.long v] := by
  intro p l e s m args below meth c H locs ls F R hS hl h1 h2
  refine W.widen h1 h2 ?_
  exact W.lret F.1 F.2.1 (F.2.2.1.trans hr) (fun t ht hW => ⟨⟨some (.long v), k, h, rfl, hq, by rw [ht]; exact R.warm hW⟩, hS.F ht⟩) hS.2.2 hd.1 F.2.2.2.2.2.2.1
theorem a_rv (hd : fD y pc .return_ 1 pc2) (hr : y.2.2.2.1 = none) (hq : Q none k h) : fA y E (fZ y E Q) k h nc ns pc L [] := by
  intro p l e s m args below meth c H locs ls F R hS hl h1 h2
  refine W.widen h1 h2 ?_
  exact W.vret F.1 F.2.1 (F.2.2.1.trans hr) (fun t ht hW => ⟨⟨none, k, h, rfl, hq, by rw [ht]; exact R.warm hW⟩, hS.F ht⟩) hS.2.2 hd.1 F.2.2.2.2.2.2.1
/-- a method's contract out of its walk -/
theorem fE.of {As : List Value} (hp : plainName y.1.cls = true) (hn : (lg_sl As).length ≤ y.2.2.1) (hL : lv_args 0 As = e_lv (id, E.2) 0 L) (kk : fA y E (fZ y E Q) k h 0 0 0 L []) : fE y E As k h Q := by
  intro l
  refine Met.ofW (cc := y.2.1) (maxL := y.2.2.1) (ret := y.2.2.2.1) hp rfl ?_
  intro p e s m args below meth c s₁ B hml hv
  obtain ⟨rfl, R⟩ := hv
  have hts : ∀ w ∈ gw, w.before (As.map (e_sh E)).toArray s = true := fun w hw => atoms_spec (ws := mI_ws y) B.pre w (List.mem_cons_of_mem _ hw)
  have hown : s.vm.findClass y.1.cls = some m.cls := findClass_of_methodNamed B.named
  have hin : meth.name = y.1.name := (name_of_methodNamed B.named B.method).1
  have hsl : ∀ As : List Value, (lg_sl (As.map (e_sh E))).length = (lg_sl As).length := by
    intro As
    induction As with
    | nil => rfl
    | cons v t ih => simp only [lg_sl, List.map_cons, List.flatMap_cons, List.length_append, e_sh_cat] at ih ⊢; split <;> simp_all
  have hA : ∀ (As : List Value) (i : Nat) , lv_args i (As.map (e_sh E)) = (lv_args i As).map (fun q => (q.1, e_sh E q.2)) := by
    intro As
    induction As with
    | nil => intro i; rfl
    | cons v t ih => intro i; simp only [List.map_cons, lv_args, e_sh_cat, ih]
  have hB : ∀ (L : lT) (i : Nat), (e_lv (id, E.2) i L).map (fun q => (q.1, e_sh E q.2)) = e_lv E i L := by
    intro L
    induction L with
    | nil => intro i; rfl
    | cons x t ih =>
      intro i
      cases x with
      | none => exact ih (i + 1)
      | some v =>
        simp only [e_lv, List.map_cons, ih]
        congr 2
        cases v <;> rfl
  have hl := lv_entry (As.map (e_sh E)) (n := y.2.2.1) (by rw [hsl]; exact hn)
  rw [lg_entry_eq]
  rw [hA As 0, hL, hB] at hl
  exact kk p l e s m _ below meth c s.heap [] _ ⟨B.exec, B.bytes, B.returns, hml, hown, hts, B.notSynchronized, hin⟩ R va_S.rf hl (Nat.zero_le _) (Nat.zero_le _)
theorem fE.mono {As : List Value} {Q2 : Option Value → Nat → hT → Prop} (hE : fE y E As k h Q) (hq : ∀ r k1 h1, Q r k1 h1 → Q2 r k1 h1) : fE y E As k h Q2 := by
  intro l p e ha hc hk s m args below hf happ hP hT
  obtain ⟨n, o, a1, a2, a3, ⟨⟨⟨r, k1, h1, b1, b2, b3⟩, b4⟩, b5⟩⟩ := hE l p e ha hc hk s m args below hf happ hP hT
  exact ⟨n, o, a1, a2, a3, ⟨⟨⟨r, k1, h1, b1, hq r k1 h1 b2, b3⟩, b4⟩, b5⟩⟩
end HQ
