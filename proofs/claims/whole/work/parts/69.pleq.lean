/-! the two plans are alike -/
theorem mkR (x : Nat → Nat) (hx : ∀ b, b < 6 → x b < 4) : ∃ r, r < 4096 ∧ ∀ b, b < 6 → dg r b = x b := by
  have h0 := hx 0 (by decide)
  have h1 := hx 1 (by decide)
  have h2 := hx 2 (by decide)
  have h3 := hx 3 (by decide)
  have h4 := hx 4 (by decide)
  have h5 := hx 5 (by decide)
  refine ⟨1024 * x 0 + 256 * x 1 + 64 * x 2 + 16 * x 3 + 4 * x 4 + x 5, by omega, fun b hb => ?_⟩
  match b, hb with
  | 0, _ => show (1024 * x 0 + 256 * x 1 + 64 * x 2 + 16 * x 3 + 4 * x 4 + x 5) / 1024 % 4 = x 0; omega
  | 1, _ => show (1024 * x 0 + 256 * x 1 + 64 * x 2 + 16 * x 3 + 4 * x 4 + x 5) / 256 % 4 = x 1; omega
  | 2, _ => show (1024 * x 0 + 256 * x 1 + 64 * x 2 + 16 * x 3 + 4 * x 4 + x 5) / 64 % 4 = x 2; omega
  | 3, _ => show (1024 * x 0 + 256 * x 1 + 64 * x 2 + 16 * x 3 + 4 * x 4 + x 5) / 16 % 4 = x 3; omega
  | 4, _ => show (1024 * x 0 + 256 * x 1 + 64 * x 2 + 16 * x 3 + 4 * x 4 + x 5) / 4 % 4 = x 4; omega
  | 5, _ => show (1024 * x 0 + 256 * x 1 + 64 * x 2 + 16 * x 3 + 4 * x 4 + x 5) / 1 % 4 = x 5; omega
theorem ltR {r s p : Nat} (hr : r < 4096) (hs : s < 4096) (hp : p < 6) (e : ∀ b, b < p → dg r b = dg s b) (h : dg r p < dg s p) : r < s := by
  match p, hp with
  | 0, _ =>
    have h : r / 1024 % 4 < s / 1024 % 4 := h
    omega
  | 1, _ =>
    have e0 : r / 1024 % 4 = s / 1024 % 4 := e 0 (by decide)
    have h : r / 256 % 4 < s / 256 % 4 := h
    omega
  | 2, _ =>
    have e0 : r / 1024 % 4 = s / 1024 % 4 := e 0 (by decide)
    have e1 : r / 256 % 4 = s / 256 % 4 := e 1 (by decide)
    have h : r / 64 % 4 < s / 64 % 4 := h
    omega
  | 3, _ =>
    have e0 : r / 1024 % 4 = s / 1024 % 4 := e 0 (by decide)
    have e1 : r / 256 % 4 = s / 256 % 4 := e 1 (by decide)
    have e2 : r / 64 % 4 = s / 64 % 4 := e 2 (by decide)
    have h : r / 16 % 4 < s / 16 % 4 := h
    omega
  | 4, _ =>
    have e0 : r / 1024 % 4 = s / 1024 % 4 := e 0 (by decide)
    have e1 : r / 256 % 4 = s / 256 % 4 := e 1 (by decide)
    have e2 : r / 64 % 4 = s / 64 % 4 := e 2 (by decide)
    have e3 : r / 16 % 4 = s / 16 % 4 := e 3 (by decide)
    have h : r / 4 % 4 < s / 4 % 4 := h
    omega
  | 5, _ =>
    have e0 : r / 1024 % 4 = s / 1024 % 4 := e 0 (by decide)
    have e1 : r / 256 % 4 = s / 256 % 4 := e 1 (by decide)
    have e2 : r / 64 % 4 = s / 64 % 4 := e 2 (by decide)
    have e3 : r / 16 % 4 = s / 16 % 4 := e 3 (by decide)
    have e4 : r / 4 % 4 = s / 4 % 4 := e 4 (by decide)
    have h : r / 1 % 4 < s / 1 % 4 := h
    omega
theorem sel_cg {nb a a2 : Nat → Nat} {d : Nat} {l : List Nat} (h : ∀ b ∈ l, a b = a2 b) : sel nb a d l = sel nb a2 d l := by
  unfold sel
  congr 1
  apply List.filter_congr
  intro b hb
  rw [h b hb]
section PE
variable {N : Nat → Nat}
theorem opL_lt (h6 : N 31 ≤ 6) {b : Nat} (h : b ∈ opL N (N 31)) : b < 6 := by have := (opL_mem.mp h).1; omega
/-- the row of a way -/
theorem row_of {d : Nat} {c : Nat → Nat} (h6 : N 31 ≤ 6) (hd : d ≤ 4) (V : vld N (opL N (N 31)) d c) : ∃ r, r < 4096 ∧ vR N r ∧ (∀ b, b ∈ opL N (N 31) → dg r b = c (ixo (opL N (N 31)) b)) ∧ ∀ b, b < 6 → ¬ b ∈ opL N (N 31) → dg r b = 0 := by
  have cl : ∀ b, b ∈ opL N (N 31) → c (ixo (opL N (N 31)) b) < d := fun b hb => by
    obtain ⟨i, hi⟩ := List.getElem?_of_mem hb
    rw [ixo_at _ opL_nd i b hi]
    exact V.1 i (List.getElem?_eq_some_iff.mp hi).1
  obtain ⟨r, r1, r2⟩ := mkR (fun b => if b ∈ opL N (N 31) then c (ixo (opL N (N 31)) b) else 0) (fun b _ => by
    show (if _ then _ else _) < 4
    split
    · rename_i hb; have := cl b hb; omega
    · decide)
  have d1 : ∀ b, b ∈ opL N (N 31) → dg r b = c (ixo (opL N (N 31)) b) := fun b hb => by rw [r2 b (opL_lt h6 hb), if_pos hb]
  refine ⟨r, r1, ⟨fun e he => ?_, ?_⟩, d1, fun b b6 hb => by rw [r2 b b6, if_neg hb]⟩
  · by_cases q : e ∈ opL N (N 31)
    · exact Or.inr (opL_mem.mp q)
    · exact Or.inl (by rw [r2 e he, if_neg q])
  · have e1 : skR N (dg r) (opL N (N 31)) 4 = skR N (aF (opL N (N 31)) c) (opL N (N 31)) 4 := skL_cg (fun x => sel_cg (fun b hb => d1 b hb)) 4 0 _ _
    have e2 : skR N (aF (opL N (N 31)) c) (opL N (N 31)) 4 = skR N (aF (opL N (N 31)) c) (opL N (N 31)) d := by
      have := skL_more (K := sl N 0 10) (S := sl N 10 10) (nb := fun i => N (32 + i)) (a := aF (opL N (N 31)) c) (l := opL N (N 31)) (4 - d) d 0 (N 30) (sl N 20 10) (fun b hb => by have := cl b hb; show c (ixo _ b) < 0 + d; omega)
      rw [show d + (4 - d) = 4 by omega] at this
      exact this
    rw [e1, e2]
    exact V.2
/-- the way of a row -/
theorem way_of {r d : Nat} (hd : d ≤ 4) (V : vR N r) (h : ∀ b, b ∈ opL N (N 31) → dg r b < d) : vld N (opL N (N 31)) d (fun i => dg r ((opL N (N 31)).getD i 0)) := by
  have at9 : ∀ b, b ∈ opL N (N 31) → dg r ((opL N (N 31)).getD (ixo (opL N (N 31)) b) 0) = dg r b := fun b hb => by
    obtain ⟨i, hi⟩ := List.getElem?_of_mem hb
    rw [ixo_at _ opL_nd i b hi, List.getD_eq_getElem?_getD, hi]
    rfl
  refine ⟨fun i hi => ?_, ?_⟩
  · show dg r ((opL N (N 31)).getD i 0) < d
    have e : (opL N (N 31))[i]? = some ((opL N (N 31))[i]'hi) := List.getElem?_eq_getElem hi
    rw [List.getD_eq_getElem?_getD, e]
    exact h _ (List.mem_of_getElem? e)
  · have e1 : skR N (aF (opL N (N 31)) (fun i => dg r ((opL N (N 31)).getD i 0))) (opL N (N 31)) d = skR N (dg r) (opL N (N 31)) d := skL_cg (fun x => sel_cg (fun b hb => at9 b hb)) d 0 _ _
    have e2 := skL_more (K := sl N 0 10) (S := sl N 10 10) (nb := fun i => N (32 + i)) (a := dg r) (l := opL N (N 31)) (4 - d) d 0 (N 30) (sl N 20 10) (fun b hb => by have := h b hb; omega)
    rw [show d + (4 - d) = 4 by omega] at e2
    rw [e1]
    exact e2.symm.trans V.2
theorem la_of {r : Nat} : ∃ L, isLa (dg r) (opL N (N 31)) 4 L ∧ L ≤ 4 := by
  have key : ∀ l : List Nat, ∃ L, isLa (dg r) l 4 L ∧ L ≤ 4 := by
    intro l
    induction l with
    | nil => exact ⟨0, ⟨fun b hb => (by cases hb), Or.inl rfl⟩, by decide⟩
    | cons x t ih =>
      obtain ⟨L, l1, l2⟩ := ih
      have dl := @dg_lt r x
      by_cases c : dg r x < L
      · refine ⟨L, ⟨fun b hb h4 => ?_, l1.2.imp id (fun z => by obtain ⟨b, b1, b2, b3⟩ := z; exact ⟨b, List.mem_cons_of_mem _ b1, b2, b3⟩)⟩, l2⟩
        rcases List.mem_cons.mp hb with q | q
        · rw [q]; exact c
        · exact l1.1 b q h4
      · refine ⟨dg r x + 1, ⟨fun b hb h4 => ?_, Or.inr ⟨x, List.mem_cons_self, dl, rfl⟩⟩, by omega⟩
        rcases List.mem_cons.mp hb with q | q
        · rw [q]; omega
        · have := l1.1 b q h4; omega
  exact key _
theorem la_le {r d L : Nat} (h : isLa (dg r) (opL N (N 31)) 4 L) (hd : ∀ b, b ∈ opL N (N 31) → dg r b < d) : L ≤ d := by
  rcases h.2 with e | ⟨b, b1, b2, b3⟩
  · omega
  · have := hd b b1; omega
theorem opL_sorted {i j x y : Nat} (hi : (opL N (N 31))[i]? = some x) (hj : (opL N (N 31))[j]? = some y) (h : x < y) : i < j := by
  have pw9 : (opL N (N 31)).Pairwise (· < ·) := List.Pairwise.filter _ List.pairwise_lt_range
  rcases Nat.lt_or_ge i j with q | q
  · exact q
  · obtain ⟨i1, i2⟩ := List.getElem?_eq_some_iff.mp hi
    obtain ⟨j1, j2⟩ := List.getElem?_eq_some_iff.mp hj
    rcases Nat.lt_or_ge j i with q2 | q2
    · have := List.pairwise_iff_getElem.mp pw9 j i j1 i1 q2
      omega
    · have : i = j := by omega
      subst this
      rw [hi] at hj
      have := Option.some.inj hj
      omega
theorem plan_eq {dp : Int32} {c : Nat → Nat} {st : Option (Nat × Nat)} (h6 : N 31 ≤ 6) (P : pdR N (opL N (N 31)) dp c) (Q : plI N 4096 st) : dp = plN st ∧ ∀ b, b < N 31 → pdy (opL N (N 31)) dp c b = plB N st b := by
  rcases P with ⟨l0, rfl⟩ | ⟨l0, P⟩
  · -- no open bill
    have e0 : opL N (N 31) = [] := List.length_eq_zero_iff.mp l0
    have v0 : vR N 0 := by
      refine ⟨fun e _ => Or.inl (by unfold dg; rw [Nat.zero_div]), ?_⟩
      rw [e0]
      exact (skL_more (K := sl N 0 10) (S := sl N 10 10) (nb := fun i => N (32 + i)) (a := dg 0) (l := []) 4 0 0 (N 30) (sl N 20 10) (fun b hb => by cases hb)).trans rfl
    cases st with
    | none => exact absurd v0 (Q 0 (by decide))
    | some q =>
      obtain ⟨q1, q2, q3, q4, q5⟩ := Q
      have L0 : q.2 = 0 := by
        rcases q4.2 with e | ⟨b, b1, _⟩
        · exact e
        · rw [e0] at b1; cases b1
      refine ⟨by show (0 : Int32) = nI q.2; rw [L0]; rfl, fun b hb => ?_⟩
      have nb : ¬ b ∈ opL N (N 31) := by rw [e0]; exact List.not_mem_nil
      have cp : N 44 / 2 ^ b % 2 = 1 := Decidable.of_not_not (fun z => nb (opL_mem.mpr ⟨hb, z⟩))
      show pdy _ _ _ _ = if _ then _ else _
      unfold pdy
      rw [if_neg (by decide), if_neg nb, if_pos cp]
  · rcases P with ⟨d, d1, d2, rfl, V, mn, no⟩ | ⟨rfl, no⟩
    · obtain ⟨r, r1, r2, r3, r4⟩ := row_of h6 d2 V
      obtain ⟨Lr, la, Lr4⟩ := la_of (N := N) (r := r)
      have rd : ∀ b, b ∈ opL N (N 31) → dg r b < d := fun b hb => by
        rw [r3 b hb]
        obtain ⟨i, hi⟩ := List.getElem?_of_mem hb
        rw [ixo_at _ opL_nd i b hi]
        exact V.1 i (List.getElem?_eq_some_iff.mp hi).1
      have Lrd := la_le la rd
      cases st with
      | none => exact absurd r2 (Q r r1)
      | some q =>
        obtain ⟨q1, q2, q3, q4, q5⟩ := Q
        have qd := q5 r Lr r1 r2 la Lr4
        have qb : ∀ b, b ∈ opL N (N 31) → dg q.1 b < q.2 := fun b hb => q4.1 b hb dg_lt
        have V0 := way_of q2 q3 qb
        have Lp : 1 ≤ q.2 := by
          have e : (opL N (N 31))[0]? = some ((opL N (N 31))[0]'l0) := List.getElem?_eq_getElem l0
          have := qb _ (List.mem_of_getElem? e)
          omega
        have Ld : q.2 = d := by
          rcases Nat.lt_or_ge q.2 d with z | z
          · exact absurd V0 (no q.2 Lp z _)
          · omega
        refine ⟨by show nI d = nI q.2; rw [Ld], fun b hb => ?_⟩
        -- the digits are alike
        have V1 : vld N (opL N (N 31)) d (fun i => dg q.1 ((opL N (N 31)).getD i 0)) := by rw [Ld] at V0; exact V0
        have nb := mn _ V1
        have same : ∀ i, i < (opL N (N 31)).length → dg q.1 ((opL N (N 31)).getD i 0) = c i := by
          intro i
          induction i using Nat.strongRecOn with
          | _ i ih =>
            intro hi
            have e : (opL N (N 31))[i]? = some ((opL N (N 31)).getD i 0) := by
              rw [List.getD_eq_getElem?_getD, List.getElem?_eq_getElem hi]
              rfl
            have lo : ∀ y, y < i → dg q.1 ((opL N (N 31)).getD y 0) = c y := fun y hy => ih y hy (by omega)
            rcases Nat.lt_trichotomy (dg q.1 ((opL N (N 31)).getD i 0)) (c i) with z | z | z
            · exact absurd ⟨i, hi, lo, z⟩ nb
            · exact z
            · exfalso
              have pm := List.mem_of_getElem? e
              have cr : dg r ((opL N (N 31)).getD i 0) = c i := by rw [r3 _ pm, ixo_at _ opL_nd i _ e]
              have lt9 : r < q.1 := by
                refine ltR r1 q1 (opL_lt h6 pm) (fun x hx => ?_) (by rw [cr]; exact z)
                by_cases qx : x ∈ opL N (N 31)
                · obtain ⟨y, hy⟩ := List.getElem?_of_mem qx
                  have yi := opL_sorted hy e hx
                  have ey : (opL N (N 31)).getD y 0 = x := by rw [List.getD_eq_getElem?_getD, hy]; rfl
                  have := lo y yi
                  rw [ey] at this
                  rw [this, r3 x qx, ixo_at _ opL_nd y x hy]
                · have p6 := opL_lt h6 pm
                  rw [r4 x (by omega) qx]
                  rcases q3.1 x (by omega) with z2 | z2
                  · exact z2.symm
                  · exact absurd (opL_mem.mpr z2) qx
              omega
        show pdy _ _ _ _ = if _ then _ else _
        unfold pdy
        rw [if_neg (nI_nm1 (by omega))]
        by_cases cp : N 44 / 2 ^ b % 2 = 1
        · rw [if_pos cp, if_neg (fun z => (opL_mem.mp z).2 cp)]
        · have bm : b ∈ opL N (N 31) := opL_mem.mpr ⟨hb, cp⟩
          obtain ⟨i, hi⟩ := List.getElem?_of_mem bm
          have ei : (opL N (N 31)).getD i 0 = b := by rw [List.getD_eq_getElem?_getD, hi]; rfl
          rw [if_neg cp, if_pos bm, ixo_at _ opL_nd i b hi, ← same i (List.getElem?_eq_some_iff.mp hi).1, ei]
    · cases st with
      | none =>
        refine ⟨rfl, fun b hb => ?_⟩
        unfold pdy
        rw [if_pos rfl]
        rfl
      | some q =>
        exfalso
        obtain ⟨q1, q2, q3, q4, q5⟩ := Q
        have qb : ∀ b, b ∈ opL N (N 31) → dg q.1 b < q.2 := fun b hb => q4.1 b hb dg_lt
        have Lp : 1 ≤ q.2 := by
          have e : (opL N (N 31))[0]? = some ((opL N (N 31))[0]'l0) := List.getElem?_eq_getElem l0
          have := qb _ (List.mem_of_getElem? e)
          omega
        exact no q.2 Lp q2 _ (way_of q2 q3 qb)
end PE
theorem isFst_u {P : Nat → Prop} {r r2 : Int32} (h : isFst P r) (h2 : isFst P r2) : r = r2 := by
  rcases h with ⟨v, v1, v2, v3, rfl⟩ | ⟨n1, rfl⟩ <;> rcases h2 with ⟨u, u1, u2, u3, rfl⟩ | ⟨n2, rfl⟩
  · rcases Nat.lt_trichotomy v u with q | q | q
    · exact absurd v2 (u3 v q)
    · rw [q]
    · exact absurd u2 (v3 u q)
  · exact absurd v2 (n2 v v1)
  · exact absurd u2 (n1 u u1)
  · rfl
