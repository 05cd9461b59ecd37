/-! strings: the five words, their bytes -/
def wB (i : Nat) : List Nat := match i with
  | 0 => [104, 111, 117, 115, 101]
  | 1 => [102, 105, 103, 117, 114, 101]
  | 2 => [98, 105, 108, 108]
  | 3 => [119, 114, 105, 116, 101]
  | _ => [110, 105, 103, 104, 116]
theorem wB_len : ∀ i, i < 5 → sJ_len.getD i 0 = (wB i).length := by decide
theorem wB_byt : ∀ i, i < 5 → ∀ j, j < (wB i).length → (((sJ_byt.getD i []).getD j 0 &&& 255).toUInt32 % 65536).toInt32 = nI ((wB i).getD j 0) ∧ (wB i).getD j 0 < 128 := by decide
theorem w_cs : Cond.fieldLink "java/lang/String" 38 "java/lang/String" "COMPACT_STRINGS" "Z" ∈ gw := gw_2 183 (by decide +kernel) (by decide +kernel)
theorem w_fm : Cond.fieldLink "java/lang/String" 1053 "jdk/internal/util/Preconditions" "SIOOBE_FORMATTER" "Ljava/util/function/BiFunction;" ∈ gw := gw_2 199 (by decide +kernel) (by decide +kernel)
theorem w_vl : Cond.fieldLink "java/lang/String" 9 "java/lang/String" "value" "[B" ∈ gw := gw_6 113 (by decide +kernel) (by decide +kernel)
theorem w_co : Cond.fieldLink "java/lang/String" 15 "java/lang/String" "coder" "B" ∈ gw := gw_6 114 (by decide +kernel) (by decide +kernel)
theorem w_k128 : Cond.methodLink "FigureLeave$Text" 128 M_J_length.1 ∈ gw := gw_2 175 (by decide +kernel) (by decide +kernel)
theorem w_k134 : Cond.methodLink "FigureLeave$Text" 134 M_J_charAt.1 ∈ gw := gw_2 185 (by decide +kernel) (by decide +kernel)
theorem w_k335 : Cond.methodLink "java/lang/String" 335 M_J_coder.1 ∈ gw := gw_2 179 (by decide +kernel) (by decide +kernel)
theorem w_k492 : Cond.methodLink "java/lang/String" 492 M_J_isLatin1.1 ∈ gw := gw_2 189 (by decide +kernel) (by decide +kernel)
theorem w_k1059 : Cond.methodLink "java/lang/String" 1059 M_R_checkIndex.1 ∈ gw := gw_2 201 (by decide +kernel) (by decide +kernel)
section SR
variable {y z : mI} {E : eT} {Z : zT} {k : Nat} {h : hT} {nc ns pc pc2 idx i : Nat} {L : lT} {st As : List Value} {Q : Option Value → Nat → hT → Prop}
theorem a_gsC (hd : fD y pc (.getstatic 38) 3 pc2) (hy : y.1.cls = "java/lang/String") (kk : fA y E Z k h nc ns pc2 L (.int 1 :: st)) : fA y E Z k h nc ns pc L st := by
  intro p l e s m args below meth c H locs ls F R hS hl h1 h2
  obtain ⟨d, rfl⟩ := hd
  have X := R.2.2.2.2.2
  have hown : s.vm.findClass "java/lang/String" = some m.cls := by rw [← hy]; exact F.2.2.2.2.1
  obtain ⟨cf, kf, fi, f, a, cell, q1, q2, q3, q4, q5, q6, q7, q8⟩ := X.2.2.2.2.2.2.2.2.2.1
  exact W.gets F.1 F.2.1 hown (F.w w_cs) q1 q2 q3 q4 q5 (fun e => by rw [e] at q6; cases q6) q7 rfl d (kk p l e s m args below meth c H locs ls F R hS hl h1 h2)
theorem a_gfV (hi : i < 5) (hd : fD y pc (.getfield 9) 3 pc2) (hy : y.1.cls = "java/lang/String") (kk : fA y E Z k h nc ns pc2 L (.ref (i + 6) :: st)) : fA y E Z k h nc ns pc L (.ref (i + 1) :: st) := by
  intro p l e s m args below meth c H locs ls F R hS hl h1 h2
  obtain ⟨d, rfl⟩ := hd
  have X := R.2.2.2.2.2
  have hown : s.vm.findClass "java/lang/String" = some m.cls := by rw [← hy]; exact F.2.2.2.2.1
  obtain ⟨cf, kf, fi, f, cell, q1, q2, q3, q4, q5, q6⟩ := (X.2.1.1 i hi).2.2.1
  exact W.getf F.1 F.2.1 hown (F.w w_vl) q1 q2 q3 q4 (v := .ref (E.1 (i + 6))) q5 rfl rfl d (kk p l e s m args below meth c H locs ls F R hS hl h1 h2)
theorem a_gfC (hi : i < 5) (hd : fD y pc (.getfield 15) 3 pc2) (hy : y.1.cls = "java/lang/String") (kk : fA y E Z k h nc ns pc2 L (.int 0 :: st)) : fA y E Z k h nc ns pc L (.ref (i + 1) :: st) := by
  intro p l e s m args below meth c H locs ls F R hS hl h1 h2
  obtain ⟨d, rfl⟩ := hd
  have X := R.2.2.2.2.2
  have hown : s.vm.findClass "java/lang/String" = some m.cls := by rw [← hy]; exact F.2.2.2.2.1
  obtain ⟨cf, kf, fi, f, cell, q1, q2, q3, q4, q5, q6⟩ := (X.2.1.1 i hi).2.1
  exact W.getf F.1 F.2.1 hown (F.w w_co) q1 q2 q3 q4 (v := .int 0) q5 rfl rfl d (kk p l e s m args below meth c H locs ls F R hS hl h1 h2)
theorem a_alS (hi : i < 5) (hd : fD y pc .arraylength 1 pc2) (kk : fA y E Z k h nc ns pc2 L (.int (nI (wB i).length) :: st)) : fA y E Z k h nc ns pc L (.ref (i + 6) :: st) := by
  intro p l e s m args below meth c H locs ls F R hS hl h1 h2
  obtain ⟨d, rfl⟩ := hd
  have X := R.2.2.2.2.2
  obtain ⟨cell, t1, t2, t3, t4, t5, t6, t7⟩ := (X.2.1.1 i hi).2.2.2
  rw [wB_len i hi] at t5
  exact W.alen (n := Int32.ofNat (wB i).length) F.1 F.2.1 t1 t2 t5 rfl rfl d (kk p l e s m args below meth c H locs ls F R hS hl h1 h2)
theorem a_baS {j : Nat} (hi : i < 5) (hj : j < (wB i).length) (hd : fD y pc .baload 1 pc2) (kk : fA y E Z k h nc ns pc2 L (.int ((sJ_byt.getD i []).getD j 0) :: st)) : fA y E Z k h nc ns pc L (.int (nI j) :: .ref (i + 6) :: st) := by
  intro p l e s m args below meth c H locs ls F R hS hl h1 h2
  obtain ⟨d, rfl⟩ := hd
  have X := R.2.2.2.2.2
  obtain ⟨cell, t1, t2, t3, t4, t5, t6, t7⟩ := (X.2.1.1 i hi).2.2.2
  rw [wB_len i hi] at t4 t6
  have l6 : (wB i).length ≤ 6 := by unfold wB; split <;> decide
  have hc : (nI j).toNatClampNeg = j := nI_clamp (by omega)
  have hin : ¬ (nI j < 0 ∨ cell.slots.size ≤ (nI j).toNatClampNeg) := by
    rintro (q | q)
    · exact nI_pos (by omega) q
    · rw [hc] at q; omega
  exact W.bald (v := .int ((sJ_byt.getD i []).getD j 0)) F.1 F.2.1 t1 t2 t3 hin (by rw [hc]; exact t6 j hj) rfl rfl d (kk p l e s m args below meth c H locs ls F R hS hl h1 h2)
theorem a_i2c {x v : Int32} (hd : fD y pc .i2c 1 pc2) (hv : (x.toUInt32 % 65536).toInt32 = v) (kk : fA y E Z k h nc ns pc2 L (.int v :: st)) : fA y E Z k h nc ns pc L (.int x :: st) := by
  intro p l e s m args below meth c H locs ls F R hS hl h1 h2
  obtain ⟨d, rfl⟩ := hd
  exact lv_i2c F.1 F.2.1 d hv (kk p l e s m args below meth c H locs ls F R hS hl h1 h2)
/-- a text is loaded -/
theorem a_ldT {tx : String} (hd : fD y pc (.ldc idx) 2 pc2) (hy : y.1.cls = "FigureLeave$Text") (hi : ∀ (U : State) (H : Heap), fX E U H → vk_R "FigureLeave$Text" idx tx (E.1 (i + 1)) U) (kk : fA y E Z k h nc ns pc2 L (.ref (i + 1) :: st)) : fA y E Z k h nc ns pc L st := by
  intro p l e s m args below meth c H locs ls F R hS hl h1 h2
  obtain ⟨d, rfl⟩ := hd
  have hown : s.vm.findClass "FigureLeave$Text" = some m.cls := by rw [← hy]; exact F.2.2.2.2.1
  exact va_ldcS F.1 F.2.1 hown (hi s H R.2.2.2.2.2) d (kk p l e s m args below meth c H locs ls F R hS hl h1 h2)
theorem a_cVS {n : Nat} (hi : i < 5) (hd : fD y pc (.invokevirtual idx) 3 pc2) (hl9 : Cond.methodLink y.1.cls idx z.1 ∈ gw) (hm : fMV z n) (hrm : fRm y z) (hn : As.length = n) (hz : z.1.cls = "java/lang/String") (hw : (st.map fun v => v.category).sum ≤ 8) (hc : nc + z.2.2.2.2.cells ≤ y.2.2.2.2.cells) (hs : ns + z.2.2.2.2.slots ≤ y.2.2.2.2.slots) (hE : fE z E (.ref (i + 1) :: As) k h Q)
    (kk : ∀ r k1 h1, Q r k1 h1 → fA y E Z k1 h1 (nc + z.2.2.2.2.cells) (ns + z.2.2.2.2.slots) pc2 L (r.toList ++ st)) {sk : List Value} (hsk : sk = As.reverse ++ .ref (i + 1) :: st) : fA y E Z k h nc ns pc L sk := by
  intro p l e s m args below meth c H locs ls F R hS hl h1 h2
  subst hsk
  obtain ⟨d, rfl⟩ := hd
  obtain ⟨⟨hm0, hm1⟩, hm2⟩ := hm
  have X := R.2.2.2.2.2
  have hsk2 : (As.reverse ++ .ref (i + 1) :: st).map (e_sh E) = (As.map (e_sh E)).reverse ++ .ref (E.1 (i + 1)) :: st.map (e_sh E) := by rw [List.map_append, List.map_reverse]; rfl
  have hrv : ∃ cell : Cell, H[E.1 (i + 1)]? = some cell ∧ cell.vm.isStatics = false ∧ s.vm.findClass z.1.cls = some cell.cls := by
    obtain ⟨cell, x1, x2, x3, -⟩ := (X.2.1.1 i hi).1
    exact ⟨cell, x1, x2, by rw [hz]; exact x3⟩
  have hp : PreV s H z.1.cls (E.1 (i + 1)) (va_Pc ((Value.ref (i + 1) :: As).map (e_sh E)) (fun U => fR E k h U U.heap)) (As.map (e_sh E)) := ⟨(g_pre (As := .ref (i + 1) :: As) R).1, hrv, (g_pre (As := .ref (i + 1) :: As) R).2⟩
  refine a_run R (Q := Q) (rest := st.map (e_sh E)) (va_runV (As := As.map (e_sh E)) (b := E.1 (i + 1)) (C := z.1.cls) (Ts := gw) ⟨F.1, F.2.1, F.2.2.2.1, F.2.2.2.2.1, F.2.2.2.2.2.1⟩ (hE l) ⟨callB_of n F.2.2.2.2.2.1 (g_in hm2) rfl rfl rfl (F.w hm2.2.1) (F.w hl9) hm2.2.2 hrm, F.w hm0, F.w hm1⟩ hp rfl (by rw [List.length_map]; exact hn) hl.1 hsk2 (lv_room (by rw [g_cat]; exact hw)) d ⟨hc, hs⟩) hS (fun r k1 h9 H1 locs1 q R1 hS1 => ?_)
  have kk := kk r k1 h9 q p l e s m args below meth c H1 locs1 ls F R1 hS1 hl hc hs
  rw [List.map_append] at kk
  rw [show (r.map (e_sh E)).toList = r.toList.map (e_sh E) by cases r <;> rfl]
  exact kk
theorem a_vs0 {v : Value} (hi : i < 5) (hd : fD y pc (.invokevirtual idx) 3 pc2) (hl9 : Cond.methodLink y.1.cls idx z.1 ∈ gw) (hm : fMV z 0) (hrm : fRm y z) (hz : z.1.cls = "java/lang/String") (h0 : z.2.2.2.2.cells = 0 ∧ z.2.2.2.2.slots = 0) (hb : nc ≤ y.2.2.2.2.cells ∧ ns ≤ y.2.2.2.2.slots) (hw : (st.map fun v => v.category).sum ≤ 8) (hE : fE z E [.ref (i + 1)] k h (eV v k h)) (kk : fA y E Z k h nc ns pc2 L (v :: st)) : fA y E Z k h nc ns pc L (.ref (i + 1) :: st) :=
  a_cVS (As := []) hi hd hl9 hm hrm rfl hz hw (by rw [h0.1]; exact hb.1) (by rw [h0.2]; exact hb.2) hE (by rintro _ _ _ ⟨rfl, rfl, rfl⟩; rw [h0.1, h0.2]; exact kk) rfl
theorem a_vs1 {v a0 : Value} (hi : i < 5) (hd : fD y pc (.invokevirtual idx) 3 pc2) (hl9 : Cond.methodLink y.1.cls idx z.1 ∈ gw) (hm : fMV z 1) (hrm : fRm y z) (hz : z.1.cls = "java/lang/String") (h0 : z.2.2.2.2.cells = 0 ∧ z.2.2.2.2.slots = 0) (hb : nc ≤ y.2.2.2.2.cells ∧ ns ≤ y.2.2.2.2.slots) (hw : (st.map fun v => v.category).sum ≤ 8) (hE : fE z E [.ref (i + 1), a0] k h (eV v k h)) (kk : fA y E Z k h nc ns pc2 L (v :: st)) : fA y E Z k h nc ns pc L (a0 :: .ref (i + 1) :: st) :=
  a_cVS (As := [a0]) hi hd hl9 hm hrm rfl hz hw (by rw [h0.1]; exact hb.1) (by rw [h0.2]; exact hb.2) hE (by rintro _ _ _ ⟨rfl, rfl, rfl⟩; rw [h0.1, h0.2]; exact kk) rfl
end SR
section SS
variable {E : eT} {n : Nat} {h : hT} {i : Nat}
theorem c_Jcoder (hi : i < 5) : fE M_J_coder E [.ref (i + 1)] n h (eV (.int 0) n h) := by
  refine fE.of (L := [some (.ref (i + 1))]) (by decide +kernel) (Nat.le_of_ble_eq_true rfl) rfl ?_
  refine a_gsC fJ_coder_0 rfl ?_
  refine a_if_eq fJ_coder_3 (fun c_ => absurd c_ (by decide)) (fun _ => ?_)
  refine a_al0 fJ_coder_6 ?_
  refine a_gfC hi fJ_coder_7 rfl ?_
  refine a_goto fJ_coder_10 ?_
  exact a_rz fJ_coder_14 rfl rfl ⟨rfl, rfl, rfl⟩
theorem c_JisLatin1 (hi : i < 5) : fE M_J_isLatin1 E [.ref (i + 1)] n h (eV (.int 1) n h) := by
  refine fE.of (L := [some (.ref (i + 1))]) (by decide +kernel) (Nat.le_of_ble_eq_true rfl) rfl ?_
  refine a_gsC fJ_isLatin1_0 rfl ?_
  refine a_if_eq fJ_isLatin1_3 (fun c_ => absurd c_ (by decide)) (fun _ => ?_)
  refine a_al0 fJ_isLatin1_6 ?_
  refine a_gfC hi fJ_isLatin1_7 rfl ?_
  refine a_if_ne fJ_isLatin1_10 (fun c_ => absurd (rfl) c_) (fun _ => ?_)
  refine a_ic fJ_isLatin1_13 ?_
  refine a_goto fJ_isLatin1_14 ?_
  exact a_rz fJ_isLatin1_18 rfl rfl ⟨rfl, rfl, rfl⟩
theorem c_Jlength (hi : i < 5) : fE M_J_length E [.ref (i + 1)] n h (eV (.int (nI (wB i).length)) n h) := by
  refine fE.of (L := [some (.ref (i + 1))]) (by decide +kernel) (Nat.le_of_ble_eq_true rfl) rfl ?_
  refine a_al0 fJ_length_0 ?_
  refine a_gfV hi fJ_length_1 rfl ?_
  refine a_alS hi fJ_length_4 ?_
  refine a_al0 fJ_length_5 ?_
  refine a_vs0 hi fJ_length_6 w_k335 m_J_coder ⟨by decide, by decide⟩ rfl ⟨rfl, rfl⟩ ⟨by decide, by decide⟩ (Nat.le_of_ble_eq_true rfl) (c_Jcoder hi) ?_
  refine a_ishr fJ_length_9 ?_
  have e : ∀ i, i < 5 → nI (wB i).length >>> ((0 : Int32) &&& 31) = nI (wB i).length := by decide
  rw [e i hi]
  exact a_ri fJ_length_10 rfl ⟨rfl, rfl, rfl⟩
theorem rawCheck {j m : Nat} (hj : j < m) (hm : m < 2 ^ 31) {v : Value} (hv : v.category = 1) (l : Launch) : Met l M_R_checkIndex.1 (mI_ws M_R_checkIndex) M_R_checkIndex.2.2.2.2 (va_Pc [.int (nI j), .int (nI m), v] (fun U => fR E n h U U.heap)) (fQ E (eV (.int (nI j)) n h)) 0 0 (e_A E) := by
  have walk : fA M_R_checkIndex E (fZ M_R_checkIndex E (eV (.int (nI j)) n h)) n h 0 0 0 [some (.int (nI j)), some (.int (nI m)), none] [] := by
    refine a_il0 fR_checkIndex_0 ?_
    refine a_if_lt fR_checkIndex_1 (fun c_ => absurd c_ (nI_pos (by omega))) (fun _ => ?_)
    refine a_il0 fR_checkIndex_4 ?_
    refine a_il1 fR_checkIndex_5 ?_
    refine a_ic_lt fR_checkIndex_6 (fun _ => ?_) (fun c_ => absurd (nI_lt hj hm) c_)
    refine a_il0 fR_checkIndex_16 ?_
    exact a_ri fR_checkIndex_17 rfl (⟨rfl, rfl, rfl⟩)
  refine Met.ofW (cc := M_R_checkIndex.2.1) (maxL := 3) (ret := some .int) (by decide +kernel) rfl ?_
  intro p e s m9 args below meth c s₁ B hml hv9
  obtain ⟨rfl, R⟩ := hv9
  have hts : ∀ w ∈ gw, w.before ([.int (nI j), .int (nI m), v] : List Value).toArray s = true := fun w hw => atoms_spec (ws := mI_ws M_R_checkIndex) B.pre w (List.mem_cons_of_mem _ hw)
  have hown : s.vm.findClass M_R_checkIndex.1.cls = some m9.cls := findClass_of_methodNamed B.named
  have hin : meth.name = M_R_checkIndex.1.name := (name_of_methodNamed B.named B.method).1
  have hl := lv_entry ([.int (nI j), .int (nI m), v] : List Value) (n := 3) (by cases v <;> simp_all [lg_sl, Value.category])
  rw [lg_entry_eq]
  refine walk p l e s m9 _ below meth c s.heap [] _ ⟨B.exec, B.bytes, B.returns, hml, hown, hts, B.notSynchronized, hin⟩ R va_S.rf ⟨hl.1, hl.2.1, fun q hq => hl.2.2 q ?_⟩ (Nat.zero_le _) (Nat.zero_le _)
  simp only [e_lv, List.mem_cons, List.not_mem_nil, or_false, e_sh] at hq
  simp only [lv_args, Value.category]
  rcases hq with rfl | rfl
  · exact List.mem_cons_self
  · exact List.mem_cons_of_mem _ List.mem_cons_self
theorem a_chk {Z : zT} {nc ns j m : Nat} {L : lT} {st : List Value} (hj : j < m) (hm : m < 2 ^ 31) (hw : (st.map fun v => v.category).sum ≤ 8) (hb : nc ≤ 0 ∧ ns ≤ 0) (kk : fA M_J_checkIndex E Z n h nc ns 8 L (.int (nI j) :: st)) : fA M_J_checkIndex E Z n h nc ns 2 L (.int (nI m) :: .int (nI j) :: st) := by
  intro p l e s m9 args below meth c H locs ls F R hS hl h1 h2
  have X := R.2.2.2.2.2
  have hown : s.vm.findClass "java/lang/String" = some m9.cls := F.2.2.2.2.1
  obtain ⟨hm1, hm2⟩ := m_R_checkIndex
  have go : ∀ v : Value, v.category = 1 → va_Z "jdk/internal/util/Preconditions" "SIOOBE_FORMATTER" "Ljava/util/function/BiFunction;" v (e_A E) s H → W p l e M_J_checkIndex.2.2.2.2 s m9 args below meth c H locs nc ns (Z below args s) (F0 m9 2 ls ((.int (nI m) :: .int (nI j) :: st).map (e_sh E))) := by
    intro v hv hz
    obtain ⟨cf, kf, fi, f, a, cell, q1, q2, q3, q4, q5, q6, q7, q8⟩ := hz
    refine W.gets F.1 F.2.1 hown (F.w w_fm) q1 q2 q3 q4 q5 (fun e => by rw [e] at q6; cases q6) q7 rfl fJ_checkIndex_2.1 ?_
    have hp : PreS s H (va_Pc [.int (nI j), .int (nI m), v] (fun U => fR E n h U U.heap)) [.int (nI j), .int (nI m), v] := ⟨fun _ U _ _ q => ⟨q.1, fR.same (u := U) q.2 rfl⟩, fun U hU hW => ⟨rfl, by show fR E n h U U.heap; rw [hU]; exact R.warm hW⟩⟩
    refine a_run R (Q := eV (.int (nI j)) n h) (rest := st.map (e_sh E)) (va_runS (As := [.int (nI j), .int (nI m), v]) (Ts := gw) ⟨F.1, F.2.1, F.2.2.2.1, F.2.2.2.2.1, F.2.2.2.2.2.1⟩ (rawCheck hj hm hv l) ⟨callB_of 3 F.2.2.2.2.2.1 (g_in hm2) rfl rfl rfl (F.w hm2.2.1) (F.w w_k1059) hm2.2.2 ⟨by decide, by decide⟩, F.w hm1⟩ hp rfl rfl hl.1 rfl (lv_room (by rw [g_cat]; exact hw)) fJ_checkIndex_5.1 ⟨hb.1, hb.2⟩) hS (fun r k1 h9 H1 locs1 q R1 hS1 => ?_)
    obtain ⟨rfl, rfl, rfl⟩ := q
    exact kk p l e s m9 args below meth c H1 locs1 ls F R1 hS1 hl h1 h2
  rcases X.2.2.2.2.2.2.2.2.2.2 with hz | ⟨t, hz⟩
  · exact go .null rfl hz
  · exact go (.ref t) rfl hz
theorem c_JcheckIndex {j m : Nat} (hj : j < m) (hm : m < 2 ^ 31) : fE M_J_checkIndex E [.int (nI j), .int (nI m)] n h (eN n h) := by
  refine fE.of (L := [some (.int (nI j)), some (.int (nI m))]) (by decide +kernel) (Nat.le_of_ble_eq_true rfl) rfl ?_
  refine a_il0 fJ_checkIndex_0 ?_
  refine a_il1 fJ_checkIndex_1 ?_
  refine a_chk hj hm (by decide) ⟨by decide, by decide⟩ ?_
  refine a_pop fJ_checkIndex_8 rfl ?_
  exact a_rv fJ_checkIndex_9 rfl (⟨rfl, rfl, rfl⟩)
theorem c_Qcharat {j : Nat} (hi : i < 5) (hj : j < (wB i).length) : fE M_Q_charAt E [.ref (i + 6), .int (nI j)] n h (eV (.int (nI ((wB i).getD j 0))) n h) := by
  have l6 : (wB i).length ≤ 6 := by unfold wB; split <;> decide
  refine fE.of (L := [some (.ref (i + 6)), some (.int (nI j))]) (by decide +kernel) (Nat.le_of_ble_eq_true rfl) rfl ?_
  refine a_il1 fQ_charAt_0 ?_
  refine a_al0 fQ_charAt_1 ?_
  refine a_alS hi fQ_charAt_2 ?_
  refine a_S2N fQ_charAt_3 k_Q_9 m_J_checkIndex ⟨by decide, by decide⟩ ⟨rfl, rfl⟩ (Nat.le_of_ble_eq_true rfl) (c_JcheckIndex hj (by omega)) ?_
  refine a_al0 fQ_charAt_6 ?_
  refine a_il1 fQ_charAt_7 ?_
  refine a_baS hi hj fQ_charAt_8 ?_
  refine a_ic fQ_charAt_9 ?_
  refine a_iand fQ_charAt_12 ?_
  refine a_i2c fQ_charAt_13 (wB_byt i hi j hj).1 ?_
  have q := (wB_byt i hi j hj).2
  exact a_rz fQ_charAt_14 rfl (pk_charN (by omega)).1 ⟨rfl, rfl, rfl⟩
theorem c_JcharAt {j : Nat} (hi : i < 5) (hj : j < (wB i).length) : fE M_J_charAt E [.ref (i + 1), .int (nI j)] n h (eV (.int (nI ((wB i).getD j 0))) n h) := by
  refine fE.of (L := [some (.ref (i + 1)), some (.int (nI j))]) (by decide +kernel) (Nat.le_of_ble_eq_true rfl) rfl ?_
  refine a_al0 fJ_charAt_0 ?_
  refine a_vs0 hi fJ_charAt_1 w_k492 m_J_isLatin1 ⟨by decide, by decide⟩ rfl ⟨rfl, rfl⟩ ⟨by decide, by decide⟩ (Nat.le_of_ble_eq_true rfl) (c_JisLatin1 hi) ?_
  refine a_if_eq fJ_charAt_4 (fun c_ => absurd c_ (by decide)) (fun _ => ?_)
  refine a_al0 fJ_charAt_7 ?_
  refine a_gfV hi fJ_charAt_8 rfl ?_
  refine a_il1 fJ_charAt_11 ?_
  refine a_S2V fJ_charAt_12 k_J_495 m_Q_charAt ⟨by decide, by decide⟩ ⟨rfl, rfl⟩ (Nat.le_of_ble_eq_true rfl) (c_Qcharat hi hj) ?_
  have q := (wB_byt i hi j hj).2
  exact a_rz fJ_charAt_15 rfl (pk_charN (by omega)).1 ⟨rfl, rfl, rfl⟩
/-- the token from p to e is the i-th word -/
abbrev isWd (bt : Nat → Nat) (p e i : Nat) : Prop := e - p = (wB i).length ∧ ∀ j, j < (wB i).length → bt (p + j) = (wB i).getD j 0
theorem c_isWord {tn p e : Nat} {s v : Int32} {bt : Nat → Nat} (h1 : h 57 = tO tn (nI e) (nI p) s v) (h2 : h 58 = nA 150 bt) (hp : p ≤ e) (he : e ≤ 150) (hb : ∀ x, x < e → bt x ≤ 127) (hi : i < 5) : fE M_T_isWord E [.ref 57, .ref (i + 1)] n h (eV (.int (bI (isWd bt p e i))) n h) := by
  have l6 : (wB i).length ≤ 6 := by unfold wB; split <;> decide
  refine fE.of (L := [some (.ref 57), some (.ref (i + 1)), none]) (by decide +kernel) (Nat.le_of_ble_eq_true rfl) rfl ?_
  refine a_al0 fT_isWord_0 ?_
  refine a_gf fT_isWord_1 l_T_26 h1 rfl ?_
  refine a_al0 fT_isWord_4 ?_
  refine a_gf fT_isWord_5 l_T_29 h1 rfl ?_
  refine a_isub fT_isWord_8 ?_
  rw [show nI e - nI p = nI (e - p) from pk_sub hp]
  refine a_al1 fT_isWord_9 ?_
  refine a_vs0 hi fT_isWord_10 w_k128 m_J_length ⟨by decide, by decide⟩ rfl ⟨rfl, rfl⟩ ⟨by decide, by decide⟩ (Nat.le_of_ble_eq_true rfl) (c_Jlength hi) ?_
  by_cases c1 : e - p = (wB i).length
  · refine a_ic_ne fT_isWord_13 (fun c_ => absurd (congrArg nI c1) c_) (fun _ => ?_)
    refine a_al0 fT_isWord_16 ?_
    refine a_gf fT_isWord_17 l_T_26 h1 rfl ?_
    refine a_ic fT_isWord_20 ?_
    refine a_ic_le fT_isWord_23 (fun _ => ?_) (fun c_ => absurd (nI_le (b := 150) he (by decide)) c_)
    have loop : ∀ (r j : Nat), j + r = (wB i).length → (∀ x, x < j → bt (p + x) = (wB i).getD x 0) → fA M_T_isWord E (fZ M_T_isWord E (eV (.int (bI (isWd bt p e i))) n h)) n h 0 0 30 [some (.ref 57), some (.ref (i + 1)), some (.int (nI j))] [] := by
      intro r
      induction r with
      | zero =>
        intro j hj hx
        refine a_il2 fT_isWord_30 ?_
        refine a_al1 fT_isWord_31 ?_
        refine a_vs0 hi fT_isWord_32 w_k128 m_J_length ⟨by decide, by decide⟩ rfl ⟨rfl, rfl⟩ ⟨by decide, by decide⟩ (Nat.le_of_ble_eq_true rfl) (c_Jlength hi) ?_
        refine a_ic_ge fT_isWord_35 (fun _ => ?_) (fun c_ => absurd (nI_le (by omega) (by omega)) c_)
        refine a_ic fT_isWord_65 ?_
        exact a_rz fT_isWord_66 rfl (by first | rfl | (split <;> rfl)) (⟨sv (by rw [bI_t ⟨c1, fun x hx2 => hx x (by omega)⟩]), rfl, rfl⟩)
      | succ r ih =>
        intro j hj hx
        refine a_il2 fT_isWord_30 ?_
        refine a_al1 fT_isWord_31 ?_
        refine a_vs0 hi fT_isWord_32 w_k128 m_J_length ⟨by decide, by decide⟩ rfl ⟨rfl, rfl⟩ ⟨by decide, by decide⟩ (Nat.le_of_ble_eq_true rfl) (c_Jlength hi) ?_
        refine a_ic_ge fT_isWord_35 (fun c_ => absurd c_ (nI_ge (by omega) (by omega))) (fun _ => ?_)
        refine a_al0 fT_isWord_38 ?_
        refine a_gf fT_isWord_39 l_T_9 h1 rfl ?_
        refine a_al0 fT_isWord_42 ?_
        refine a_gf fT_isWord_43 l_T_29 h1 rfl ?_
        refine a_il2 fT_isWord_46 ?_
        refine a_iadd fT_isWord_47 ?_
        refine a_ia fT_isWord_48 h2 (show nI p + nI j = nI (p + j) from nI_add _ _) (by omega) (by decide) ?_
        refine a_al1 fT_isWord_49 ?_
        refine a_il2 fT_isWord_50 ?_
        refine a_vs1 hi fT_isWord_51 w_k134 m_J_charAt ⟨by decide, by decide⟩ rfl ⟨rfl, rfl⟩ ⟨by decide, by decide⟩ (Nat.le_of_ble_eq_true rfl) (c_JcharAt hi (by omega)) ?_
        have b1 := hb (p + j) (by omega)
        have b2 := (wB_byt i hi j (by omega)).2
        by_cases c2 : bt (p + j) = (wB i).getD j 0
        · refine a_ic_eq fT_isWord_54 (fun _ => ?_) (fun c_ => absurd (congrArg nI c2) c_)
          refine a_inc2 fT_isWord_59 (by decide) rfl ?_
          refine a_goto fT_isWord_62 ?_
          rw [nI_1]
          refine ih (j + 1) (by omega) (fun x hx2 => ?_)
          by_cases c3 : x = j
          · subst c3; exact c2
          · exact hx x (by omega)
        · refine a_ic_eq fT_isWord_54 (fun c_ => absurd c_ (fun z => c2 ((nI_eq (by omega) (by omega)).mp z))) (fun _ => ?_)
          refine a_ic fT_isWord_57 ?_
          exact a_rz fT_isWord_58 rfl (by first | rfl | (split <;> rfl)) (⟨sv (by rw [bI_f (fun z => c2 (z.2 j (by omega)))]), rfl, rfl⟩)
    refine a_ic fT_isWord_28 ?_
    refine a_is2 fT_isWord_29 (by decide) rfl ?_
    exact loop (wB i).length 0 (by omega) (fun x hx => by omega)
  · refine a_ic_ne fT_isWord_13 (fun _ => ?_) (fun c_ => absurd c_ (fun z => c1 ((nI_eq (by omega) (by omega)).mp z)))
    refine a_ic fT_isWord_26 ?_
    exact a_rz fT_isWord_27 rfl (by first | rfl | (split <;> rfl)) (⟨sv (by rw [bI_f (fun z => c1 z.1)]), rfl, rfl⟩)
end SS
