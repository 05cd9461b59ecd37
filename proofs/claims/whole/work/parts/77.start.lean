/-! the start: what the claim gives, as places -/
def sJ_ix : List Nat := [50, 56, 62, 67, 72]
def tmS (i : Nat) : Term := .string "FigureLeave$Text" (sJ_ix.getD i 0)
abbrev gvn : List Cond := flatC (Jvm.Cond.and given_1 narrow_1)
theorem st_ex : ∀ i, i < 5 → Cond.exactly (tmS i) "java/lang/String" ∈ gvn := by decide +kernel
theorem st_co : ∀ i, i < 5 → Cond.eq (.field (tmS i) "java/lang/String" "coder" "B") (.int 0) ∈ gvn := by decide +kernel
theorem st_ar : ∀ i, i < 5 → Cond.arrayOf (.field (tmS i) "java/lang/String" "value" "[B") .byte ∈ gvn := by decide +kernel
theorem st_le : ∀ i, i < 5 → Cond.eq (.length (.field (tmS i) "java/lang/String" "value" "[B")) (.int (Int32.ofNat (sJ_len.getD i 0))) ∈ gvn := by decide +kernel
theorem st_el : ∀ i, i < 5 → ∀ j, j < sJ_len.getD i 0 → Cond.eq (.elem (.field (tmS i) "java/lang/String" "value" "[B") (.int (Int32.ofNat j))) (.int ((sJ_byt.getD i []).getD j 0)) ∈ gvn := by decide +kernel
theorem st_ne : ∀ i, i < 5 → ∀ j, j < 5 → i ≠ j → Cond.not (Cond.eq (tmS i) (tmS j)) ∈ gvn ∨ Cond.not (Cond.eq (tmS j) (tmS i)) ∈ gvn := by decide +kernel
theorem st_cs : Cond.eq (.static "java/lang/String" "COMPACT_STRINGS" "Z") (.int 1) ∈ gvn := by decide +kernel
theorem st_fm : Cond.isRef (.static "jdk/internal/util/Preconditions" "SIOOBE_FORMATTER" "Ljava/util/function/BiFunction;") ∈ gvn := by decide +kernel
theorem tb_1 {w : Cond} (i : Nat) (h : tables_1_1[i]? = some w) : w ∈ lw_tbl := List.mem_append_right _ (List.mem_append_left _ (List.mem_of_getElem? h))
theorem tb_2 {w : Cond} (i : Nat) (h : tables_1_2[i]? = some w) : w ∈ lw_tbl := List.mem_append_right _ (List.mem_append_right _ (List.mem_append_left _ (List.mem_of_getElem? h)))
theorem tb_3 {w : Cond} (i : Nat) (h : tables_1_3[i]? = some w) : w ∈ lw_tbl := List.mem_append_right _ (List.mem_append_right _ (List.mem_append_right _ (List.mem_append_left _ (List.mem_of_getElem? h))))
theorem tb_s1 : Cond.stringRef "FigureLeave$Text" 50 "house" ∈ lw_tbl := tb_2 170 (by decide +kernel)
theorem tb_s2 : Cond.stringRef "FigureLeave$Text" 56 "figure" ∈ lw_tbl := tb_2 223 (by decide +kernel)
theorem tb_s3 : Cond.stringRef "FigureLeave$Text" 62 "bill" ∈ lw_tbl := tb_2 234 (by decide +kernel)
theorem tb_s4 : Cond.stringRef "FigureLeave$Text" 67 "write" ∈ lw_tbl := tb_3 0 (by decide +kernel)
theorem tb_s5 : Cond.stringRef "FigureLeave$Text" 72 "night" ∈ lw_tbl := tb_3 31 (by decide +kernel)
theorem tb_cs : Cond.laysStatic "java/lang/String" "COMPACT_STRINGS" "Z" ∈ lw_tbl := tb_2 184 (by decide +kernel)
theorem tb_fm : Cond.laysStatic "jdk/internal/util/Preconditions" "SIOOBE_FORMATTER" "Ljava/util/function/BiFunction;" ∈ lw_tbl := tb_2 200 (by decide +kernel)
theorem tb_is : Cond.initialized "java/lang/String" ∈ lw_tbl := tb_1 13 (by decide +kernel)
theorem tb_ip : Cond.initialized "jdk/internal/util/Preconditions" ∈ lw_tbl := tb_1 15 (by decide +kernel)
theorem tb_ao : Cond.arrayOver (.object "FigureLeave$House") ∈ lw_tbl := tb_1 182 (by decide +kernel)
theorem fNW.i {own : String} {idx ci : Nat} {fs : List Value} {N : Nat} (h : fNW own idx ci fs N) {q : vw_C} (hq : cls[ci]? = some q) : ∃ n, Cond.instantiable q.1 n ∈ lw_tbl := by
  obtain ⟨C, T, ty, h1, -, h2, -⟩ := h
  rw [hq] at h1
  cases h1
  exact ⟨N, gw_tbl h2⟩
theorem cl_inst {ci : Nat} {q : vw_C} (hq : cls[ci]? = some q) : ∃ n, Cond.instantiable q.1 n ∈ lw_tbl := by
  match ci, hq with
  | 0, hq => exact n_W_7.i hq
  | 1, hq => exact n_F_7.i hq
  | 2, hq => exact n_H_18.i hq
  | 3, hq => exact n_H_25.i hq
  | 4, hq => exact n_H_32.i hq
  | 5, hq => exact n_H_39.i hq
  | 6, hq => exact n_F_44.i hq
  | 7, hq => exact n_F_23.i hq
  | 8, hq => exact n_F_30.i hq
  | 9, hq => exact n_F_37.i hq
  | 10, hq => exact n_W_10.i hq
  | k + 11, hq => simp [cls] at hq
theorem arT {s : State} {args : Array Value} {ty : FieldType} (h : (Cond.arrayClass ty).before args s = true) : ∃ cA, ArrOfT s cA ty ∧ s.vm.findClass ("[" ++ ty.toString) = some cA := by
  obtain ⟨c, k, comp, h1, h2, h3⟩ := Cond.arrayClass_spec (args := args) (first := s) (o := none) (s := s) (idx := []) h
  exact ⟨c, fun n z => ⟨fun k h => (by cases h), k, h2, comp, h3⟩, h1⟩
theorem whole_start {p : Program} {e : Env} {s : State} {m : MethodId} {below : List Frame} {meth : Method} {c : Code} (l : Launch) {b L : Nat} {xs : Nat → Int32} (hL : L ≤ 320) (C0 : lw_At p s m meth c b L xs) (hnm : meth.name = x.name) : W p l e room_1 s m #[Value.ref b] below meth c s.heap [] 0 0 (lw_Z below #[Value.ref b] s) (entryFrame m ([Value.ref b] : List Value).toArray 4) := by
  obtain ⟨hx, hb, hr, hml, hown, hts, hX, hbl, hlocks, hgv⟩ := C0
  have hs := flat_of_before _ hgv
  have hA : ∀ a : Nat, a < s.heap.size → ¬ (fun q : Nat => s.heap.size ≤ q) a := fun a h => Nat.not_le.mpr h
  obtain ⟨adK, adV, hSt, hTm⟩ := vk_Sof (args := #[Value.ref b]) (s := s) (N := 5) (tm := tmS) (len := sJ_len) (byt := sJ_byt) (A := fun q : Nat => s.heap.size ≤ q) (by decide) (fun i hi => hs _ (st_ex i hi)) (fun i hi => hs _ (st_co i hi)) (fun i hi => hs _ (st_ar i hi)) (fun i hi => hs _ (st_le i hi)) (fun i hi j hj => hs _ (st_el i hi j hj)) (fun i j hi hj hij => (st_ne i hi j hj hij).imp (hs _) (hs _)) hA
  have h0 : ∀ ci : Nat, ∃ f : ClassId × (Nat → Nat), ∀ q, cls[ci]? = some q → u_Kn s q.1 q.2.1 q.2.2 f.1 f.2 := by
    intro ci
    cases hq : cls[ci]? with
    | none => exact ⟨(m.cls, fun _ => 0), fun q z => by cases z⟩
    | some q =>
      obtain ⟨C, T, N⟩ := q
      obtain ⟨n, hi⟩ := cl_inst hq
      obtain ⟨cC, iS, hk⟩ := u_known (C := C) (T := T) (N := N) (n := n) hts (fun w hw => gw_tbl ((cl_facts ci C T N hq).1 w hw)) (hts _ hi)
      exact ⟨(cC, iS), fun q z => by cases z; exact hk⟩
  obtain ⟨fc, hfc⟩ := Classical.axiomOfChoice h0
  obtain ⟨cI, aI, nI9⟩ := arT (hts _ (gw_tbl w_ai))
  obtain ⟨cZ, aZ, nZ9⟩ := arT (hts _ (gw_tbl w_az))
  obtain ⟨comp, cH, kH, o1, -, o2, o3, o4⟩ := Cond.arrayOver_spec (args := #[Value.ref b]) (first := s) (o := none) (s := s) (idx := []) (hts _ tb_ao)
  obtain ⟨ad, had⟩ : ∃ ad : Nat → Nat, ad = fun n => if n = 0 then b else if n < 6 then adK (n - 1) else if n < 11 then adV (n - 6) else s.heap.size + (n - 11) := ⟨_, rfl⟩
  have ad0 : ad 0 = b := by rw [had]; rfl
  have adk : ∀ i, i < 5 → ad (i + 1) = adK i := fun i hi => by
    rw [had]; show (if i + 1 = 0 then b else if i + 1 < 6 then adK (i + 1 - 1) else _) = _
    rw [if_neg (by omega), if_pos (by omega)]; rfl
  have adv : ∀ i, i < 5 → ad (i + 6) = adV i := fun i hi => by
    rw [had]; show (if i + 6 = 0 then b else if i + 6 < 6 then adK (i + 6 - 1) else if i + 6 < 11 then adV (i + 6 - 6) else _) = _
    rw [if_neg (by omega), if_neg (by omega), if_pos (by omega)]; rfl
  have ado : ∀ i, ad (i + 11) = s.heap.size + i := fun i => by
    rw [had]; show (if i + 11 = 0 then b else if i + 11 < 6 then adK (i + 11 - 1) else if i + 11 < 11 then adV (i + 11 - 6) else s.heap.size + (i + 11 - 11)) = _
    rw [if_neg (by omega), if_neg (by omega), if_neg (by omega)]; rfl
  obtain ⟨E, hE⟩ : ∃ E : eT, E = (ad, s.heap.size, (fun k => (fc k).1, fun k => (fc k).2), (fun k => if k = 0 then cI else if k = 1 then cZ else cH), L, xs) := ⟨_, rfl⟩
  have hK : va_K E.2.2.1 cls (e_ty E) s := by
    rw [hE]
    refine ⟨fun k q hq => hfc k q hq, fun k q hq => ?_⟩
    match k, hq with
    | 0, hq => cases hq; exact ⟨aI, nI9⟩
    | 1, hq => cases hq; exact ⟨aZ, nZ9⟩
    | 2, hq => cases hq; exact ⟨fun n z => ⟨fun k h => (by cases h), kH, o2, comp, o3⟩, kH, comp, o2, o3, o1, o4⟩
    | k + 3, hq => simp [e_ty] at hq
  have hF : fX E s s.heap := by
    rw [hE]
    refine ⟨⟨?_, ?_⟩, ⟨fun i hi => ?_, fun i j hi hj z => ?_⟩, ?_, ?_, ?_, ?_, ?_, va_AO.of (hts _ tb_ao), fun w hw => va_Nw.of (nw_tab hw) (hts w (nw_tbl hw)), va_Zof (hts _ tb_cs) (hts _ tb_is) (va_eqt (hs _ st_cs)) hA, va_Zqof (hts _ tb_fm) (hts _ tb_ip) (hs _ st_fm) hA⟩
    · show va_X (ad 0) L xs s s.heap
      rw [ad0]; exact hX
    · show ad 0 < s.heap.size
      rw [ad0]; exact hbl
    · have := hSt.1 i hi
      rw [← adk i hi, ← adv i hi] at this
      exact this
    · have z2 : ad (i + 1) = ad (j + 1) := z
      rw [adk i hi, adk j hj] at z2
      exact hSt.2 i j hi hj z2
    · exact vk_R.of (hts _ tb_s1) ((hTm 0 (by decide)).trans (by show _ = some (Value.ref (ad 1)); rw [adk 0 (by decide)]))
    · exact vk_R.of (hts _ tb_s2) ((hTm 1 (by decide)).trans (by show _ = some (Value.ref (ad 2)); rw [adk 1 (by decide)]))
    · exact vk_R.of (hts _ tb_s3) ((hTm 2 (by decide)).trans (by show _ = some (Value.ref (ad 3)); rw [adk 2 (by decide)]))
    · exact vk_R.of (hts _ tb_s4) ((hTm 3 (by decide)).trans (by show _ = some (Value.ref (ad 4)); rw [adk 3 (by decide)]))
    · exact vk_R.of (hts _ tb_s5) ((hTm 4 (by decide)).trans (by show _ = some (Value.ref (ad 5)); rw [adk 4 (by decide)]))
  have e1 : E.2.1 = s.heap.size := by rw [hE]
  have e2 : E.2.2.2.2.1 = L := by rw [hE]
  have e3 : E.1 = ad := by rw [hE]
  have R : fR E 0 (fun _ => dead) s s.heap := ⟨e1.symm, fun i => by rw [e3, e1]; exact ado i, fun _ _ => rfl, fun k q h => by simp [e_W] at h, hK, hF⟩
  have hl := lv_entry ([Value.ref b]) (n := 4) (Nat.le_of_ble_eq_true rfl)
  rw [lg_entry_eq]
  have hl2 : lv_has (lg_sl ([Value.ref b]) ++ List.replicate (4 - (lg_sl ([Value.ref b])).length) Slot.unset).toArray 4 (e_lv E 0 [some (.ref 0), none, none, none]) := by
    show lv_has _ 4 [(0, Value.ref (E.1 0))]
    rw [e3, ad0]
    exact hl
  intro T hU X
  obtain ⟨t, a1, b1⟩ := lw_run (E := E) (by rw [e2]; exact hL) p l e s m #[Value.ref b] below meth c s.heap [] _ ⟨hx, hb, hr, hml, hown, fun w hw => hts w (gw_tbl hw), hlocks, hnm⟩ R va_S.rf hl2 (Nat.zero_le _) (Nat.zero_le _) T hU X
  exact ⟨t, a1, b1 (by rw [e1]; exact Nat.le_refl _)⟩
