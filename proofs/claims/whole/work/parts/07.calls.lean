/-! calls -/
def fML (own : String) (idx : Nat) (z : mI) : Prop := Cond.methodLink own idx z.1 ∈ gw ∨ ∃ host, Cond.methodLinkNest own idx z.1 host ∈ nw
def fMC (z : mI) (n : Nat) : Prop := Cond.code z.1 z.2.1 z.2.2.1 z.2.2.2.1 ∈ gw ∧ Cond.initialized z.1.cls ∈ gw ∧ z.1.cls ≠ "java/lang/invoke/MethodHandle" ∧ z.1.cls ≠ "java/lang/invoke/VarHandle" ∧ (parseMethodDescriptor z.1.desc).map (fun d => d.parameters.length) = some n
def fMS (z : mI) (n : Nat) : Prop := Cond.static z.1 ∈ gw ∧ fMC z n
def fMV (z : mI) (n : Nat) : Prop := (Cond.instanceMethod z.1 ∈ gw ∧ Cond.selects z.1.cls z.1 z.1 ∈ gw) ∧ fMC z n
def fMN (z : mI) (n : Nat) : Prop := (z.1.name = "<init>" ∧ Cond.instanceMethod z.1 ∈ gw ∧ z.2.2.2.1 = none) ∧ fMC z n
def fRm (y z : mI) : Prop := z.2.2.2.2.frames + 1 ≤ y.2.2.2.2.frames ∧ 8 + (z.2.2.1 + 11) + z.2.2.2.2.locals ≤ y.2.2.2.2.locals
section CL
variable {y : mI} {E : eT} {Z : zT} {k : Nat} {h : hT} {nc ns pc pc2 tgt : Nat} {L L2 : lT} {st : List Value}
variable {Q : Option Value → Nat → hT → Prop} {z : mI} {n idx : Nat} {As : List Value}
theorem g_in (h : fMC z n) : GoodIn gw (mI_ws z) := fun w hw => by
  rcases List.mem_cons.mp hw with e | hw
  · subst e
    exact ⟨h.1, gw_good h.1⟩
  · exact ⟨hw, gw_good hw⟩
theorem g_cat (st : List Value) : ((st.map (e_sh E)).map fun v => v.category).sum = (st.map fun v => v.category).sum := by
  rw [List.map_map]; congr 1; apply List.map_congr_left; intro v _; exact e_sh_cat E v
theorem a_run {p : Program} {l : Launch} {e : Env} {RR : Room} {s : State} {m : MethodId} {args : Array Value} {below : List Frame} {meth : Method} {c : Code} {H : Heap} {locs : List Loc} {cells slots mc ms : Nat} {QQ : State → Prop} {ls : Array Slot} {st0 rest : List Value} {a : Array Value} (R : fR E k h s H) (hr : va_Run p l e RR s m args below meth c H locs cells slots mc ms (F0 m pc ls st0) rest (fQ E Q a) (e_A E)) (hS : va_S (e_A E) s.heap H locs)
    (kk : ∀ (r : Option Value) (k1 : Nat) (h1 : hT) (H1 : Heap) (locs1 : List Loc), Q r k1 h1 → fR E k1 h1 s H1 → va_S (e_A E) s.heap H1 locs1 → W p l e RR s m args below meth c H1 locs1 (cells + mc) (slots + ms) QQ (F0 m (pc + 3) ls ((r.map (e_sh E)).toList ++ rest))) : W p l e RR s m args below meth c H locs cells slots QQ (F0 m pc ls st0) := by
  intro T hT X
  obtain ⟨v, st₀, t, T1, Lc, h0, X1, hL, e1, e2, ⟨⟨r, k1, h1, hv, hq, R1⟩, hz, hk⟩, st⟩ := hr T hT X
  cases hv
  rw [h0] at hz hk
  have hlow : ∀ q, q < E.2.1 → T1.heap[q]? = H[q]? := fun q hq => by rw [e1]; exact hk q (by rw [R.1]; omega) (Nat.not_le.mpr hq)
  obtain ⟨t2, a1, b1⟩ := kk r k1 h1 T1.heap (locs ++ Lc) hq ⟨by rw [e1]; exact R1.1, R.2.1, R1.2.2.1, by rw [e1]; exact R1.2.2.2.1, R.2.2.2.2.1, R.2.2.2.2.2.kept (by rw [R.1]; omega) hlow⟩
    ⟨Nat.le_trans hS.1 (by rw [e1]; exact hz), fun q x1 x2 => by rw [e1, hk q (Nat.lt_of_lt_of_le x1 hS.1) x2]; exact hS.2.1 q x1 x2, fun q hq => by
      rcases List.mem_append.mp hq with h | h
      · exact hS.2.2 q h
      · exact hL q h⟩ T1 rfl X1
  exact ⟨t2, st t2 a1, b1⟩
theorem g_pre {s : State} {H : Heap} (R : fR E k h s H) : PreS s H (va_Pc (As.map (e_sh E)) (fun U => fR E k h U U.heap)) (As.map (e_sh E)) :=
  ⟨fun _ U _ _ q => ⟨q.1, fR.same (u := U) q.2 rfl⟩, fun U hU hW => ⟨rfl, by show fR E k h U U.heap; rw [hU]; exact R.warm hW⟩⟩
theorem a_cS0 (hd : fD y pc (.invokestatic idx) 3 pc2) (hl9 : fML y.1.cls idx z) (hm : fMS z n) (hrm : fRm y z) (hn : As.length = n) (hw : (st.map fun v => v.category).sum ≤ 8) (hc : nc + z.2.2.2.2.cells ≤ y.2.2.2.2.cells) (hs : ns + z.2.2.2.2.slots ≤ y.2.2.2.2.slots) (hE : fE z E As k h Q)
    (kk : ∀ r k1 h1, Q r k1 h1 → fA y E Z k1 h1 (nc + z.2.2.2.2.cells) (ns + z.2.2.2.2.slots) pc2 L (r.toList ++ st)) {sk : List Value} (hsk : sk = As.reverse ++ st) : fA y E Z k h nc ns pc L sk := by
  intro p l e s m args below meth c H locs ls F R hS hl h1 h2
  subst hsk
  obtain ⟨d, rfl⟩ := hd
  obtain ⟨hm1, hm2⟩ := hm
  have hsk2 : (As.reverse ++ st).map (e_sh E) = (As.map (e_sh E)).reverse ++ st.map (e_sh E) := by rw [List.map_append, List.map_reverse]
  rcases hl9 with hl9 | ⟨host, hl9⟩
  · refine a_run R (Q := Q) (rest := st.map (e_sh E)) (va_runS (As := As.map (e_sh E)) (Ts := gw) ⟨F.1, F.2.1, F.2.2.2.1, F.2.2.2.2.1, F.2.2.2.2.2.1⟩ (hE l) ⟨callB_of n F.2.2.2.2.2.1 (g_in hm2) rfl rfl rfl (F.w hm2.2.1) (F.w hl9) hm2.2.2 hrm, F.w hm1⟩ (g_pre R) rfl (by rw [List.length_map]; exact hn) hl.1 hsk2 (lv_room (by rw [g_cat]; exact hw)) d ⟨hc, hs⟩) hS (fun r k1 h9 H1 locs1 q R1 hS1 => ?_)
    have kk := kk r k1 h9 q p l e s m args below meth c H1 locs1 ls F R1 hS1 hl hc hs
    rw [List.map_append] at kk
    rw [show (r.map (e_sh E)).toList = r.toList.map (e_sh E) by cases r <;> rfl]
    exact kk
  · refine a_run R (Q := Q) (rest := st.map (e_sh E)) (va_runSN (As := As.map (e_sh E)) (Ts := gw) ⟨F.1, F.2.1, F.2.2.2.1, F.2.2.2.2.1, F.2.2.2.2.2.1⟩ (hE l) ⟨va_cnB n F.2.2.2.2.2.1 (g_in hm2) rfl rfl rfl (R.2.2.2.2.2.2.2.2.2.2.2.2.2.1 _ hl9) (F.w hm2.2.1) hm2.2.2 hrm, F.w hm1, trivial⟩ (g_pre R) rfl (by rw [List.length_map]; exact hn) hl.1 hsk2 (lv_room (by rw [g_cat]; exact hw)) d ⟨hc, hs⟩) hS (fun r k1 h9 H1 locs1 q R1 hS1 => ?_)
    have kk := kk r k1 h9 q p l e s m args below meth c H1 locs1 ls F R1 hS1 hl hc hs
    rw [List.map_append] at kk
    rw [show (r.map (e_sh E)).toList = r.toList.map (e_sh E) by cases r <;> rfl]
    exact kk
theorem a_cV0 {q ci : Nat} {fs : List Value} {T : u_T} {N : Nat} (hd : fD y pc (.invokevirtual idx) 3 pc2) (hl9 : fML y.1.cls idx z) (hm : fMV z n) (hrm : fRm y z) (hn : As.length = n) (hq : h q = .inr (ci, fs)) (hcl : cls[ci]? = some (z.1.cls, T, N)) (hw : (st.map fun v => v.category).sum ≤ 8) (hc : nc + z.2.2.2.2.cells ≤ y.2.2.2.2.cells) (hs : ns + z.2.2.2.2.slots ≤ y.2.2.2.2.slots) (hE : fE z E (.ref q :: As) k h Q)
    (kk : ∀ r k1 h1, Q r k1 h1 → fA y E Z k1 h1 (nc + z.2.2.2.2.cells) (ns + z.2.2.2.2.slots) pc2 L (r.toList ++ st)) {sk : List Value} (hsk : sk = As.reverse ++ .ref q :: st) : fA y E Z k h nc ns pc L sk := by
  intro p l e s m args below meth c H locs ls F R hS hl h1 h2
  subst hsk
  obtain ⟨d, rfl⟩ := hd
  obtain ⟨⟨hm0, hm1⟩, hm2⟩ := hm
  obtain ⟨j, rfl, hj, hg⟩ := R.get hq (ne_dead_r hcl)
  have hsk2 : (As.reverse ++ .ref (j + 11) :: st).map (e_sh E) = (As.map (e_sh E)).reverse ++ .ref (E.1 (j + 11)) :: st.map (e_sh E) := by rw [List.map_append, List.map_reverse]; rfl
  have hp : PreV s H z.1.cls (E.1 (j + 11)) (va_Pc ((Value.ref (j + 11) :: As).map (e_sh E)) (fun U => fR E k h U U.heap)) (As.map (e_sh E)) := ⟨(g_pre (As := .ref (j + 11) :: As) R).1, va_recv R.2.2.2.2.1 R.2.2.2.1 hcl hg, (g_pre (As := .ref (j + 11) :: As) R).2⟩
  rcases hl9 with hl9 | ⟨host, hl9⟩
  · refine a_run R (Q := Q) (rest := st.map (e_sh E)) (va_runV (As := As.map (e_sh E)) (b := E.1 (j + 11)) (C := z.1.cls) (Ts := gw) ⟨F.1, F.2.1, F.2.2.2.1, F.2.2.2.2.1, F.2.2.2.2.2.1⟩ (hE l) ⟨callB_of n F.2.2.2.2.2.1 (g_in hm2) rfl rfl rfl (F.w hm2.2.1) (F.w hl9) hm2.2.2 hrm, F.w hm0, F.w hm1⟩ hp rfl (by rw [List.length_map]; exact hn) hl.1 hsk2 (lv_room (by rw [g_cat]; exact hw)) d ⟨hc, hs⟩) hS (fun r k1 h9 H1 locs1 q R1 hS1 => ?_)
    have kk := kk r k1 h9 q p l e s m args below meth c H1 locs1 ls F R1 hS1 hl hc hs
    rw [List.map_append] at kk
    rw [show (r.map (e_sh E)).toList = r.toList.map (e_sh E) by cases r <;> rfl]
    exact kk
  · refine a_run R (Q := Q) (rest := st.map (e_sh E)) (va_runVN (As := As.map (e_sh E)) (b := E.1 (j + 11)) (C := z.1.cls) (Ts := gw) ⟨F.1, F.2.1, F.2.2.2.1, F.2.2.2.2.1, F.2.2.2.2.2.1⟩ (hE l) ⟨va_cnB n F.2.2.2.2.2.1 (g_in hm2) rfl rfl rfl (R.2.2.2.2.2.2.2.2.2.2.2.2.2.1 _ hl9) (F.w hm2.2.1) hm2.2.2 hrm, F.w hm0, F.w hm1⟩ hp rfl (by rw [List.length_map]; exact hn) hl.1 hsk2 (lv_room (by rw [g_cat]; exact hw)) d ⟨hc, hs⟩) hS (fun r k1 h9 H1 locs1 q R1 hS1 => ?_)
    have kk := kk r k1 h9 q p l e s m args below meth c H1 locs1 ls F R1 hS1 hl hc hs
    rw [List.map_append] at kk
    rw [show (r.map (e_sh E)).toList = r.toList.map (e_sh E) by cases r <;> rfl]
    exact kk
theorem a_cI0 {q : Nat} (hd : fD y pc (.invokespecial idx) 3 pc2) (hl9 : fML y.1.cls idx z) (hm : fMN z n) (hrm : fRm y z) (hn : As.length = n) (hw : (st.map fun v => v.category).sum ≤ 8) (hc : nc + z.2.2.2.2.cells ≤ y.2.2.2.2.cells) (hs : ns + z.2.2.2.2.slots ≤ y.2.2.2.2.slots) (hE : fE z E (.ref q :: As) k h Q)
    (kk : ∀ r k1 h1, Q r k1 h1 → fA y E Z k1 h1 (nc + z.2.2.2.2.cells) (ns + z.2.2.2.2.slots) pc2 L (r.toList ++ st)) {sk : List Value} (hsk : sk = As.reverse ++ .ref q :: st) : fA y E Z k h nc ns pc L sk := by
  intro p l e s m args below meth c H locs ls F R hS hl h1 h2
  subst hsk
  obtain ⟨d, rfl⟩ := hd
  obtain ⟨⟨hm0, hm1, hmr⟩, hm2⟩ := hm
  have hsk2 : (As.reverse ++ .ref q :: st).map (e_sh E) = (As.map (e_sh E)).reverse ++ .ref (E.1 q) :: st.map (e_sh E) := by rw [List.map_append, List.map_reverse]; rfl
  have hp : PreS s H (va_Pc ((Value.ref q :: As).map (e_sh E)) (fun U => fR E k h U U.heap)) (.ref (E.1 q) :: As.map (e_sh E)) := g_pre (As := .ref q :: As) R
  have hwz : mI_ws z = Cond.code z.1 z.2.1 z.2.2.1 none :: gw := by unfold mI_ws; rw [hmr]
  rcases hl9 with hl9 | ⟨host, hl9⟩
  · refine a_run R (Q := Q) (rest := st.map (e_sh E)) (va_runI (As := As.map (e_sh E)) (b := E.1 q) (Ts := gw) ⟨F.1, F.2.1, F.2.2.2.1, F.2.2.2.2.1, F.2.2.2.2.2.1⟩ (hE l) ⟨callB_of n F.2.2.2.2.2.1 (g_in hm2) hwz rfl rfl (F.w hm2.2.1) (F.w hl9) hm2.2.2 hrm, hm0, F.w hm1⟩ hp rfl (by rw [List.length_map]; exact hn) hl.1 hsk2 (lv_room (by rw [g_cat]; exact hw)) d ⟨hc, hs⟩) hS (fun r k1 h9 H1 locs1 q R1 hS1 => ?_)
    have kk := kk r k1 h9 q p l e s m args below meth c H1 locs1 ls F R1 hS1 hl hc hs
    rw [List.map_append] at kk
    rw [show (r.map (e_sh E)).toList = r.toList.map (e_sh E) by cases r <;> rfl]
    exact kk
  · refine a_run R (Q := Q) (rest := st.map (e_sh E)) (va_runIN (As := As.map (e_sh E)) (b := E.1 q) (Ts := gw) ⟨F.1, F.2.1, F.2.2.2.1, F.2.2.2.2.1, F.2.2.2.2.2.1⟩ (hE l) ⟨va_cnB n F.2.2.2.2.2.1 (g_in hm2) hwz rfl rfl (R.2.2.2.2.2.2.2.2.2.2.2.2.2.1 _ hl9) (F.w hm2.2.1) hm2.2.2 hrm, hm0, F.w hm1⟩ hp rfl (by rw [List.length_map]; exact hn) hl.1 hsk2 (lv_room (by rw [g_cat]; exact hw)) d ⟨hc, hs⟩) hS (fun r k1 h9 H1 locs1 q R1 hS1 => ?_)
    have kk := kk r k1 h9 q p l e s m args below meth c H1 locs1 ls F R1 hS1 hl hc hs
    rw [List.map_append] at kk
    rw [show (r.map (e_sh E)).toList = r.toList.map (e_sh E) by cases r <;> rfl]
    exact kk
end CL
