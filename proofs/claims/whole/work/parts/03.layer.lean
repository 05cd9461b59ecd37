/-! words that only hold as the machine goes on: links to private members of a nest mate, the array of houses -/
def nwk : Cond → Bool
  | .fieldLinkNest _ _ _ _ _ _ => true
  | .methodLinkNest _ _ _ _ => true
  | _ => false
def nw : List Cond := lw_tbl.filter nwk
theorem nw_at {w : Cond} (i : Nat) (h : lw_tbl[i]? = some w) (g : nwk w = true) : w ∈ nw := List.mem_filter.mpr ⟨List.mem_of_getElem? h, g⟩
theorem nw_tbl {w : Cond} (h : w ∈ nw) : w ∈ lw_tbl := (List.mem_filter.mp h).1
theorem nw_tab {w : Cond} (hw : w ∈ nw) : w.onTables = true := by
  have h := (List.mem_filter.mp hw).2
  unfold nwk at h
  split at h <;> first | rfl | cases h
theorem nw_warm {w : Cond} (hw : w ∈ nw) {s U : State} (hW : s.WarmedH U.vm) (h : va_Nw w s) : va_Nw w U := by
  have g := (List.mem_filter.mp hw).2
  unfold nwk at g
  split at g
  · exact va_Nw.warmF hW h
  · exact va_Nw.warmM hW h
  · cases g
theorem nw_same {w : Cond} (hw : w ∈ nw) {u U : State} (hv : u.vm = U.vm) (h : va_Nw w u) : va_Nw w U := va_Nw.same (nw_tab hw) hv h
/-! THE LAYER: methods by a plain heap of places. A place is a number; 0 is the script, 1 .. 5 the five texts, 6 .. 10 their bytes, 11 on the cells that the run makes, in their order. -/
abbrev mI : Type := MethodName × ByteArray × Nat × Option FieldType × Room
def mI_ws (y : mI) : List Cond := Cond.code y.1 y.2.1 y.2.2.1 y.2.2.2.1 :: gw
/-- addresses of places, the first own address, class and slot numbers, array classes, the script's length and ints -/
abbrev eT : Type := (Nat → Nat) × Nat × va_G × (Nat → ClassId) × Nat × (Nat → Int32)
abbrev cT : Type := (Nat × vp_A) ⊕ (Nat × List Value)
abbrev hT : Type := Nat → cT
abbrev lT : Type := List (Option Value)
def e_sh (E : eT) (v : Value) : Value := match v with
  | .ref a => .ref (E.1 a)
  | v => v
def e_ar (E : eT) (a : vp_A) : vp_A := (a.1, match a.2 with
  | .inr (.inr (.inr (.inr f))) => .inr (.inr (.inr (.inr (fun j => (f j).map E.1))))
  | x => x)
def e_ce (E : eT) (c : cT) : va_E := match c with
  | .inl a => .inl (E.2.2.2.1 a.1, e_ar E a.2)
  | .inr o => .inr (o.1, o.2.map (e_sh E))
def e_W (E : eT) (k : Nat) (h : hT) : va_W := (List.range k).map (fun i => (E.1 (i + 11), e_ce E (h (i + 11))))
abbrev dead : cT := .inr (99, [])
def e_ty (E : eT) : List (ClassId × FieldType) := [(E.2.2.2.1 0, .int), (E.2.2.2.1 1, .boolean), (E.2.2.2.1 2, .object "FigureLeave$House")]
def e_lv (E : eT) : Nat → lT → List (Nat × Value)
  | _, [] => []
  | i, none :: t => e_lv E (i + 1) t
  | i, some v :: t => (i, e_sh E v) :: e_lv E (i + 1) t
abbrev e_A (E : eT) : Nat → Prop := fun q => E.2.1 ≤ q
def sJ_len : List Nat := [5, 6, 4, 5, 5]
def sJ_byt : List (List Int32) := [[104, 111, 117, 115, 101], [102, 105, 103, 117, 114, 101], [98, 105, 108, 108], [119, 114, 105, 116, 101], [110, 105, 103, 104, 116]]
/-- what isn't ours: the script, the texts -/
def fX (E : eT) (U : State) (H : Heap) : Prop := (va_X (E.1 0) E.2.2.2.2.1 E.2.2.2.2.2 U H ∧ E.1 0 < E.2.1) ∧ vk_S 5 sJ_len sJ_byt (fun i => E.1 (i + 1)) (fun i => E.1 (i + 6)) (e_A E) U H ∧
  vk_R "FigureLeave$Text" 50 "house" (E.1 1) U ∧ vk_R "FigureLeave$Text" 56 "figure" (E.1 2) U ∧ vk_R "FigureLeave$Text" 62 "bill" (E.1 3) U ∧ vk_R "FigureLeave$Text" 67 "write" (E.1 4) U ∧ vk_R "FigureLeave$Text" 72 "night" (E.1 5) U ∧ va_AO "FigureLeave$House" U ∧ (∀ w ∈ nw, va_Nw w U) ∧ va_Z "java/lang/String" "COMPACT_STRINGS" "Z" (.int 1) (e_A E) U H ∧ va_Zq "jdk/internal/util/Preconditions" "SIOOBE_FORMATTER" "Ljava/util/function/BiFunction;" (e_A E) U H
theorem fX.kept {E : eT} {U : State} {H H1 : Heap} (h : fX E U H) (hz : E.2.1 ≤ H.size) (hq : ∀ q : Nat, q < E.2.1 → H1[q]? = H[q]?) : fX E U H1 :=
  ⟨⟨h.1.1.kept (hq _ h.1.2), h.1.2⟩, h.2.1.kept (fun a _ hA => hq a (Nat.not_le.mp hA)), h.2.2.1, h.2.2.2.1, h.2.2.2.2.1, h.2.2.2.2.2.1, h.2.2.2.2.2.2.1, h.2.2.2.2.2.2.2.1, h.2.2.2.2.2.2.2.2.1, h.2.2.2.2.2.2.2.2.2.1.kept (fun a _ hA => hq a (Nat.not_le.mp hA)), h.2.2.2.2.2.2.2.2.2.2.kept (fun a _ hA => hq a (Nat.not_le.mp hA))⟩
theorem fX.moved {E : eT} {u U : State} {H : Heap} (hW : u.WarmedH U.vm) (h : fX E u H) : fX E U H :=
  ⟨⟨h.1.1.moved hW.alike, h.1.2⟩, h.2.1.moved hW.alike, h.2.2.1.warm hW, h.2.2.2.1.warm hW, h.2.2.2.2.1.warm hW, h.2.2.2.2.2.1.warm hW, h.2.2.2.2.2.2.1.warm hW, h.2.2.2.2.2.2.2.1.moved hW.alike, fun w hw => nw_warm hw hW (h.2.2.2.2.2.2.2.2.1 w hw), h.2.2.2.2.2.2.2.2.2.1.moved hW.alike, h.2.2.2.2.2.2.2.2.2.2.moved hW.alike⟩
theorem fX.same {E : eT} {u U : State} {H : Heap} (hv : U.vm = u.vm) (h : fX E u H) : fX E U H :=
  ⟨⟨h.1.1.moved (by rw [hv]; exact Vm.Alike.refl _), h.1.2⟩, h.2.1.moved (by rw [hv]; exact Vm.Alike.refl _), h.2.2.1.same hv, h.2.2.2.1.same hv, h.2.2.2.2.1.same hv, h.2.2.2.2.2.1.same hv, h.2.2.2.2.2.2.1.same hv, h.2.2.2.2.2.2.2.1.moved (by rw [hv]; exact Vm.Alike.refl _), fun w hw => nw_same hw hv.symm (h.2.2.2.2.2.2.2.2.1 w hw), h.2.2.2.2.2.2.2.2.2.1.moved (by rw [hv]; exact Vm.Alike.refl _), h.2.2.2.2.2.2.2.2.2.2.moved (by rw [hv]; exact Vm.Alike.refl _)⟩
/-- the machine's heap H holds the k cells of h -/
def fR (E : eT) (k : Nat) (h : hT) (U : State) (H : Heap) : Prop :=
  H.size = E.2.1 + k ∧ (∀ i, E.1 (i + 11) = E.2.1 + i) ∧ (∀ i, i < 11 ∨ k + 11 ≤ i → h i = dead) ∧ va_P E.2.2.1 cls (e_W E k h) H ∧ va_K E.2.2.1 cls (e_ty E) U ∧ fX E U H
theorem fR.n {E : eT} {k : Nat} {h : hT} {U : State} {H : Heap} (R : fR E k h U H) {w : Cond} (hw : w ∈ nw) {a : Array Value} : w.before a U = true := va_Nw.use (nw_tab hw) (R.2.2.2.2.2.2.2.2.2.2.2.2.2.1 w hw)
def fQ (E : eT) (Q : Option Value → Nat → hT → Prop) : Array Value → State → Outcome → State → Prop := fun _ st o t => (∃ (r : Option Value) (k : Nat) (h : hT), o = .returned (r.map (e_sh E)) ∧ Q r k h ∧ fR E k h t t.heap) ∧ va_F (e_A E) st t
def fF (y : mI) (E : eT) (p : Program) (s : State) (m : MethodId) (args : Array Value) (meth : Method) (c : Code) : Prop := p.tables.exec = Jvm.exec ∧ c.code = y.2.1 ∧ meth.sig.returnType = y.2.2.2.1 ∧ c.maxLocals = y.2.2.1 ∧ s.vm.findClass y.1.cls = some m.cls ∧ (∀ w ∈ gw, w.before args s = true) ∧ meth.locks = false ∧ meth.name = y.1.name
abbrev zT : Type := List Frame → Array Value → State → State → Prop
/-- from place pc on, with locals L and operands st, over the heap h of k cells (nc cells and ns slots made so far): the machine comes to an end that Z allows -/
def fA (y : mI) (E : eT) (Z : zT) (k : Nat) (h : hT) (nc ns pc : Nat) (L : lT) (st : List Value) : Prop :=
  ∀ (p : Program) (l : Launch) (e : Env) (s : State) (m : MethodId) (args : Array Value) (below : List Frame) (meth : Method) (c : Code) (H : Heap) (locs : List Loc) (ls : Array Slot),
    fF y E p s m args meth c → fR E k h s H → va_S (e_A E) s.heap H locs → lv_has ls y.2.2.1 (e_lv E 0 L) → nc ≤ y.2.2.2.2.cells → ns ≤ y.2.2.2.2.slots →
    W p l e y.2.2.2.2 s m args below meth c H locs nc ns (Z below args s) (F0 m pc ls (st.map (e_sh E)))
def fZ (y : mI) (E : eT) (Q : Option Value → Nat → hT → Prop) : zT := fun below args s => MQ below (fQ E Q) args s y.2.2.2.2.cells y.2.2.2.2.slots (e_A E)
/-- method y, called with As over the heap h of k cells, returns r and leaves the heap h' of k' cells, with Q r k' h' -/
def fE (y : mI) (E : eT) (As : List Value) (k : Nat) (h : hT) (Q : Option Value → Nat → hT → Prop) : Prop :=
  ∀ l : Launch, Met l y.1 (mI_ws y) y.2.2.2.2 (va_Pc (As.map (e_sh E)) (fun U => fR E k h U U.heap)) (fQ E Q) y.2.2.2.2.cells y.2.2.2.2.slots (e_A E)
abbrev eV (v : Value) (k : Nat) (h : hT) : Option Value → Nat → hT → Prop := fun r k' h' => r = some v ∧ k' = k ∧ h' = h
abbrev eN (k : Nat) (h : hT) : Option Value → Nat → hT → Prop := fun r k' h' => r = none ∧ k' = k ∧ h' = h
-- ===== the heap as a list of cells =====
theorem e_W_len (E : eT) (k : Nat) (h : hT) : (e_W E k h).length = k := by simp [e_W]
theorem e_W_get {E : eT} {k : Nat} {h : hT} {j : Nat} (hj : j < k) : (e_W E k h)[j]? = some (E.1 (j + 11), e_ce E (h (j + 11))) := by
  simp [e_W, hj]
theorem e_W_inv {E : eT} {k : Nat} {h : hT} {j : Nat} {q : Nat × va_E} (hq : (e_W E k h)[j]? = some q) : j < k ∧ q = (E.1 (j + 11), e_ce E (h (j + 11))) := by
  have hj : j < k := by
    have := (List.getElem?_eq_some_iff.mp hq).1
    rwa [e_W_len] at this
  rw [e_W_get hj] at hq
  exact ⟨hj, (Option.some.inj hq).symm⟩
theorem e_W_set {E : eT} {k : Nat} {h : hT} {j : Nat} (hj : j < k) (c : cT) : (e_W E k h).set j (E.1 (j + 11), e_ce E c) = e_W E k (va_up h (j + 11) c) := by
  apply List.ext_getElem?
  intro i
  by_cases hi : i = j
  · subst hi
    rw [List.getElem?_set_self (by rw [e_W_len]; exact hj), e_W_get hj]
    simp [va_up]
  · rw [List.getElem?_set_ne (Ne.symm hi)]
    by_cases hk : i < k
    · rw [e_W_get hk, e_W_get hk]
      simp [va_up, hi]
    · rw [List.getElem?_eq_none (by rw [e_W_len]; omega), List.getElem?_eq_none (by rw [e_W_len]; omega)]
theorem e_W_push {E : eT} {k : Nat} {h : hT} (c : cT) : e_W E (k + 1) (va_up h (k + 11) c) = e_W E k h ++ [(E.1 (k + 11), e_ce E c)] := by
  apply List.ext_getElem?
  intro i
  by_cases hi : i < k
  · rw [e_W_get (by omega), List.getElem?_append_left (by rw [e_W_len]; exact hi), e_W_get hi]
    have : i ≠ k := by omega
    simp [va_up, this]
  · by_cases hk : i = k
    · subst hk
      rw [e_W_get (by omega), List.getElem?_append_right (by rw [e_W_len]; omega), e_W_len]
      simp [va_up]
    · rw [List.getElem?_eq_none (by rw [e_W_len]; omega), List.getElem?_eq_none (by simp [e_W_len]; omega)]
theorem e_D {E : eT} {k : Nat} {h : hT} (ha : ∀ i, E.1 (i + 11) = E.2.1 + i) : va_D (e_A E) (e_W E k h) := by
  refine ⟨fun i j p q hi hj hpq => ?_, fun i q hi => ?_⟩
  · obtain ⟨-, rfl⟩ := e_W_inv hi
    obtain ⟨-, rfl⟩ := e_W_inv hj
    simp only [ha] at hpq
    omega
  · obtain ⟨-, rfl⟩ := e_W_inv hi
    show E.2.1 ≤ E.1 (i + 11)
    rw [ha]
    omega
/-- a cell that isn't dead is one of the list -/
theorem fR.get {E : eT} {k : Nat} {h : hT} {U : State} {H : Heap} (R : fR E k h U H) {q : Nat} {c : cT} (hq : h q = c) (hc : c ≠ dead) : ∃ j, q = j + 11 ∧ j < k ∧ (e_W E k h)[j]? = some (E.1 q, e_ce E c) := by
  have h1 : ¬ (q < 11 ∨ k + 11 ≤ q) := fun z => hc (hq.symm.trans (R.2.2.1 q z))
  refine ⟨q - 11, by omega, by omega, ?_⟩
  rw [e_W_get (by omega), show q - 11 + 11 = q by omega, hq]
theorem ne_dead_l {a : Nat × vp_A} : (Sum.inl a : cT) ≠ dead := fun h => by cases h
theorem ne_dead_r {ci : Nat} {fs : List Value} {q : vw_C} (h : cls[ci]? = some q) : (Sum.inr (ci, fs) : cT) ≠ dead := fun z => by
  cases z
  simp [cls] at h
/-- a cell is written -/
theorem fR.set {E : eT} {k : Nat} {h : hT} {U : State} {H H1 : Heap} (R : fR E k h U H) {j : Nat} (hj : j < k) {c : cT} (hz : H1.size = H.size) (hP : va_P E.2.2.1 cls ((e_W E k h).set j (E.1 (j + 11), e_ce E c)) H1) (ho : ∀ q, q < E.2.1 → H1[q]? = H[q]?) : fR E k (va_up h (j + 11) c) U H1 := by
  refine ⟨hz.trans R.1, R.2.1, fun i hi => ?_, ?_, R.2.2.2.2.1, R.2.2.2.2.2.kept (by rw [R.1]; omega) ho⟩
  · have : i ≠ j + 11 := by omega
    show va_up h (j + 11) c i = dead
    rw [va_up, if_neg this]
    exact R.2.2.1 i hi
  · rw [← e_W_set hj]
    exact hP
/-- a cell is made -/
theorem fR.push {E : eT} {k : Nat} {h : hT} {U : State} {H H1 : Heap} (R : fR E k h U H) {c : cT} (hz : H1.size = H.size + 1) (hP : va_P E.2.2.1 cls (e_W E k h ++ [(E.1 (k + 11), e_ce E c)]) H1) (ho : ∀ q, q < H.size → H1[q]? = H[q]?) : fR E (k + 1) (va_up h (k + 11) c) U H1 := by
  refine ⟨by rw [hz, R.1]; omega, R.2.1, fun i hi => ?_, ?_, R.2.2.2.2.1, R.2.2.2.2.2.kept (by rw [R.1]; omega) (fun q hq => ho q (by rw [R.1]; omega))⟩
  · have : i ≠ k + 11 := by omega
    show va_up h (k + 11) c i = dead
    rw [va_up, if_neg this]
    exact R.2.2.1 i (by omega)
  · rw [e_W_push]
    exact hP
theorem fR.same {E : eT} {k : Nat} {h : hT} {u U : State} {H : Heap} (R : fR E k h u H) (hv : U.vm = u.vm) : fR E k h U H := ⟨R.1, R.2.1, R.2.2.1, R.2.2.2.1, va_K.moved (by rw [hv]; exact Vm.Alike.refl _) R.2.2.2.2.1, R.2.2.2.2.2.same hv⟩
theorem fR.warm {E : eT} {k : Nat} {h : hT} {u U : State} {H : Heap} (R : fR E k h u H) (hW : u.WarmedH U.vm) : fR E k h U H := ⟨R.1, R.2.1, R.2.2.1, R.2.2.2.1, va_K.moved hW.alike R.2.2.2.2.1, R.2.2.2.2.2.moved hW⟩
-- ===== locals =====
theorem e_lv_mem {E : eT} {q : Nat × Value} : ∀ {L : lT} {i : Nat}, q ∈ e_lv E i L ↔ ∃ (j : Nat) (v : Value), L[j]? = some (some v) ∧ q = (i + j, e_sh E v) := by
  intro L
  induction L with
  | nil => intro i; simp [e_lv]
  | cons x t ih =>
    intro i
    cases x with
    | none =>
      simp only [e_lv, ih]
      constructor
      · rintro ⟨j, v, h1, h2⟩
        exact ⟨j + 1, v, by simpa using h1, by rw [h2]; congr 1; omega⟩
      · rintro ⟨j, v, h1, h2⟩
        cases j with
        | zero => simp at h1
        | succ j => exact ⟨j, v, by simpa using h1, by rw [h2]; congr 1; omega⟩
    | some w =>
      simp only [e_lv, List.mem_cons, ih]
      constructor
      · rintro (h | ⟨j, v, h1, h2⟩)
        · exact ⟨0, w, rfl, h⟩
        · exact ⟨j + 1, v, by simpa using h1, by rw [h2]; congr 1; omega⟩
      · rintro ⟨j, v, h1, h2⟩
        cases j with
        | zero =>
          left
          have : w = v := by simpa using h1
          rw [h2, this]; rfl
        | succ j => right; exact ⟨j, v, by simpa using h1, by rw [h2]; congr 1; omega⟩
theorem e_lv_at {E : eT} {L : lT} {ls : Array Slot} {n : Nat} (hl : lv_has ls n (e_lv E 0 L)) {j : Nat} {v : Value} (h : L[j]? = some (some v)) : ls[j]? = some (.val (e_sh E v)) :=
  hl.2.2 (j, e_sh E v) (e_lv_mem.mpr ⟨j, v, h, by simp⟩)
theorem e_sh_cat (E : eT) (v : Value) : (e_sh E v).category = v.category := by cases v <;> rfl
/-- a store of one slot: the place left of it holds no long -/
def c1 (x : Option Value) : Bool := match x with
  | some v => v.category != 2
  | none => true
theorem e_lv_put {E : eT} {L L' : lT} {ls : Array Slot} {n i : Nat} {v : Value} (hl : lv_has ls n ((i, e_sh E v) :: (e_lv E 0 L).filter (fun q => !(q.1 == i) && !(q.1 + 1 == i && q.2.category == 2)))) (hL : L' = L.set i (some v)) (hc : ∀ j x, j + 1 = i → L[j]? = some x → c1 x = true) : lv_has ls n (e_lv E 0 L') := by
  refine ⟨hl.1, hl.2.1, fun q hq => ?_⟩
  obtain ⟨j, w, h1, h2⟩ := e_lv_mem.mp hq
  rw [hL] at h1
  rw [h2]
  by_cases hj : j = i
  · subst hj
    have hlt : j < (L.set j (some v)).length := (List.getElem?_eq_some_iff.mp h1).1
    rw [List.getElem?_set_self (by simpa using hlt)] at h1
    cases h1
    have := hl.2.2 (j, e_sh E v) List.mem_cons_self
    simpa using this
  · rw [List.getElem?_set_ne (Ne.symm hj)] at h1
    refine hl.2.2 (0 + j, e_sh E w) (List.mem_cons_of_mem _ (List.mem_filter.mpr ⟨e_lv_mem.mpr ⟨j, w, h1, rfl⟩, ?_⟩))
    have e1 : (0 + j == i) = false := by simp; omega
    simp only [e1, Bool.not_false, Bool.true_and]
    by_cases hji : j + 1 = i
    · have := hc j _ hji h1
      simp only [c1, bne_iff_ne, ne_eq] at this
      simp [e_sh_cat, this]
    · simp; exact Or.inl hji
theorem e_lv_put2 {E : eT} {L L' : lT} {ls : Array Slot} {n i : Nat} {v : Value} (hl : lv_has ls n ((i, e_sh E v) :: (e_lv E 0 L).filter (fun q => !(q.1 == i) && (!(q.1 == i + 1) && !(q.1 + 1 == i && q.2.category == 2))))) (hL : L' = (L.set i (some v)).set (i + 1) none) (hc : ∀ j x, j + 1 = i → L[j]? = some x → c1 x = true) : lv_has ls n (e_lv E 0 L') := by
  refine ⟨hl.1, hl.2.1, fun q hq => ?_⟩
  obtain ⟨j, w, h1, h2⟩ := e_lv_mem.mp hq
  rw [hL] at h1
  rw [h2]
  have hj2 : j ≠ i + 1 := by
    intro e
    subst e
    have hlt : i + 1 < ((L.set i (some v)).set (i + 1) none).length := (List.getElem?_eq_some_iff.mp h1).1
    rw [List.getElem?_set_self (by simpa using hlt)] at h1
    cases h1
  rw [List.getElem?_set_ne (Ne.symm hj2)] at h1
  by_cases hj : j = i
  · subst hj
    have hlt : j < (L.set j (some v)).length := (List.getElem?_eq_some_iff.mp h1).1
    rw [List.getElem?_set_self (by simpa using hlt)] at h1
    cases h1
    have := hl.2.2 (j, e_sh E v) List.mem_cons_self
    simpa using this
  · rw [List.getElem?_set_ne (Ne.symm hj)] at h1
    refine hl.2.2 (0 + j, e_sh E w) (List.mem_cons_of_mem _ (List.mem_filter.mpr ⟨e_lv_mem.mpr ⟨j, w, h1, rfl⟩, ?_⟩))
    have e1 : (0 + j == i) = false := by simp; omega
    have e2 : (0 + j == i + 1) = false := by simp; omega
    simp only [e1, e2, Bool.not_false, Bool.true_and]
    by_cases hji : j + 1 = i
    · have := hc j _ hji h1
      simp only [c1, bne_iff_ne, ne_eq] at this
      simp [e_sh_cat, this]
    · simp; exact Or.inl hji
