/-! what a row keeps to is kept by every step -/
section OK
variable {N : Nat → Nat}
theorem okN_N0 : okN N0 := by
  have e : ∀ i, N0 i = if 10 ≤ i ∧ i < 20 then 20 else 0 := fun i => rfl
  refine ⟨fun f hf => ?_, ?_, ⟨?_, ?_, ?_, ?_⟩, fun i hi => ?_, ?_, fun i hi => ?_, fun i hi => ?_, fun j hj => ?_⟩
  · simp only [e]; grind
  · decide
  · decide
  · decide
  · decide
  · decide
  · exact absurd hi (by rw [show N0 31 = 0 from rfl]; omega)
  · decide
  · exact absurd hi (by rw [show N0 46 = 0 from rfl]; omega)
  · exact absurd hi (by rw [show N0 59 = 0 from rfl]; omega)
  · exact absurd hj (by rw [show N0 84 = 0 from rfl]; omega)
theorem okN_tf {f k s : Nat} (K : okN N) (hf : f < 10) (hk : k ≤ 5) (hs : 1 ≤ s ∧ s ≤ 60) : okN (tfN N f k s) := by
  obtain ⟨a, b, ⟨c1, c2, c3, c4⟩, d, e, g, i, j⟩ := K
  have q : ∀ x, tfN N f k s x = if x = 84 then 0 else if x = 10 + f then s else if x = f then k else N x := fun x => rfl
  have q31 : tfN N f k s 31 = N 31 := by rw [q]; grind
  have q84 : tfN N f k s 84 = 0 := by rw [q]; grind
  have q46 : tfN N f k s 46 = N 46 := by rw [q]; grind
  have q59 : tfN N f k s 59 = N 59 := by rw [q]; grind
  have hi : ∀ x, 20 ≤ x → x ≠ 84 → tfN N f k s x = N x := fun x h1 h2 => by rw [q]; grind
  refine ⟨fun x hx => ?_, ?_, ⟨?_, ?_, ?_, ?_⟩, fun x hx => ?_, ?_, fun x hx => ?_, fun x hx => ?_, fun x hx => ?_⟩
  · have := a x hx
    rw [hi (20 + x) (by omega) (by omega), q, q]; grind
  · rw [hi 30 (by omega) (by omega)]; exact b
  · rw [q31]; exact c1
  · rw [q46]; exact c2
  · rw [q59]; exact c3
  · rw [q84]; omega
  · rw [q31] at hx; rw [hi _ (by omega) (by omega), hi _ (by omega) (by omega)]; exact d x hx
  · rw [q31, hi 44 (by omega) (by omega)]; exact e
  · rw [q46] at hx; rw [hi _ (by omega) (by omega), hi _ (by omega) (by omega)]; exact g x hx
  · rw [q59] at hx; rw [hi _ (by omega) (by omega), hi _ (by omega) (by omega), hi _ (by omega) (by omega), hi _ (by omega) (by omega)]; exact i x hx
  · rw [q84] at hx; omega
theorem okN_tb {v w : Nat} (K : okN N) (h6 : N 31 < 6) (hv : v < 100) (hw : w < 100) : okN (tbN N v w) := by
  obtain ⟨a, b, ⟨c1, c2, c3, c4⟩, d, e, g, i, j⟩ := K
  have q : ∀ x, tbN N v w x = if x = 84 then 0 else if x = 31 then N 31 + 1 else if x = 38 + N 31 then w else if x = 32 + N 31 then v else N x := fun x => rfl
  have q31 : tbN N v w 31 = N 31 + 1 := by rw [q]; grind
  have q84 : tbN N v w 84 = 0 := by rw [q]; grind
  have lo : ∀ x, x < 31 ∨ 44 ≤ x → x ≠ 84 → tbN N v w x = N x := fun x h1 h2 => by rw [q]; grind
  have p2 : 2 ^ (N 31 + 1) = 2 ^ N 31 * 2 := Nat.pow_succ 2 _
  refine ⟨fun x hx => ?_, ?_, ⟨?_, ?_, ?_, ?_⟩, fun x hx => ?_, ?_, fun x hx => ?_, fun x hx => ?_, fun x hx => ?_⟩
  · rw [lo _ (by omega) (by omega), lo _ (by omega) (by omega), lo _ (by omega) (by omega)]; exact a x hx
  · rw [lo _ (by omega) (by omega)]; exact b
  · rw [q31]; omega
  · rw [lo _ (by omega) (by omega)]; exact c2
  · rw [lo _ (by omega) (by omega)]; exact c3
  · rw [q84]; omega
  · rw [q31] at hx
    have := d x
    rw [q, q]; grind
  · rw [q31, lo 44 (by omega) (by omega)]; omega
  · rw [lo 46 (by omega) (by omega)] at hx; rw [lo _ (by omega) (by omega), lo _ (by omega) (by omega)]; exact g x hx
  · rw [lo 59 (by omega) (by omega)] at hx; rw [lo _ (by omega) (by omega), lo _ (by omega) (by omega), lo _ (by omega) (by omega), lo _ (by omega) (by omega)]; exact i x hx
  · rw [q84] at hx; omega
/-- only how worn all are and the day change -/
theorem okN_wn {M : Nat → Nat} (K : okN N) (h1 : ∀ x, x < 20 ∨ 30 < x → M x = N x) (h2 : ∀ f, f < 10 → M (20 + f) ≤ 60) (h3 : M 30 ≤ 9999) : okN M := by
  obtain ⟨a, b, ⟨c1, c2, c3, c4⟩, d, e, g, i, j⟩ := K
  refine ⟨fun x hx => ?_, h3, ⟨?_, ?_, ?_, ?_⟩, fun x hx => ?_, ?_, fun x hx => ?_, fun x hx => ?_, fun x hx => ?_⟩
  · have := a x hx
    have := h2 x hx
    rw [h1 x (by omega), h1 (10 + x) (by omega)]; omega
  · rw [h1 31 (by omega)]; exact c1
  · rw [h1 46 (by omega)]; exact c2
  · rw [h1 59 (by omega)]; exact c3
  · rw [h1 84 (by omega)]; exact c4
  · rw [h1 31 (by omega)] at hx; rw [h1 _ (by omega), h1 _ (by omega)]; exact d x hx
  · rw [h1 44 (by omega), h1 31 (by omega)]; exact e
  · rw [h1 46 (by omega)] at hx; rw [h1 _ (by omega), h1 _ (by omega)]; exact g x hx
  · rw [h1 59 (by omega)] at hx; rw [h1 _ (by omega), h1 _ (by omega), h1 _ (by omega), h1 _ (by omega)]; exact i x hx
  · rw [h1 84 (by omega)] at hx
    obtain ⟨j1, j2, j3⟩ := j x hx
    rw [h1 _ (by omega), h1 _ (by omega), h1 31 (by omega)]
    exact ⟨fun f hf => by rw [h1 _ (by omega)]; exact j1 f hf, j2, j3⟩
theorem okN_wd {sg : List Nat} (K : okN N) (hc : can (sl N 0 10) (sl N 10 10) (sl N 20 10) (N 30) sg) : okN (wdN N sg) := by
  have b := can_le (b := 60) hc (fun f hf => by rw [sl_lt hf]; exact (K.1 f hf).2.2.1) (fun f hf => by rw [sl_lt hf]; exact (K.1 f hf).2.2.2)
  refine okN_wn K (fun x hx => by unfold wdN; rw [if_neg (by omega)]) (fun f hf => ?_) (by unfold wdN; rw [if_neg (by omega)]; exact K.2.1)
  unfold wdN
  rw [if_pos (by omega), show 20 + f - 20 = f by omega]
  exact b f hf
theorem okN_ngt1 (K : okN N) : okN (ngt1 N) := by
  refine okN_wn K (fun x hx => ?_) (fun f hf => ?_) ?_
  · unfold ngt1; rw [if_neg (by omega), if_neg (by omega)]
  · unfold ngt1; rw [if_pos (by omega)]; have := (K.1 f hf).2.2.2; omega
  · unfold ngt1; rw [if_neg (by omega), if_pos rfl]; have := K.2.1; split <;> omega
theorem okN_ngt : ∀ (m : Nat) {N : Nat → Nat}, okN N → okN (ngt m N)
  | 0, _, K => K
  | m + 1, _, K => okN_ngt m (okN_ngt1 K)
theorem okN_sh (K : okN N) (h8 : N 84 = 8) : okN (shN N) := by
  obtain ⟨a, b, ⟨c1, c2, c3, c4⟩, d, e, g, i, j⟩ := K
  have q : ∀ x, shN N x = if 85 ≤ x ∧ x < 176 then N (x + 13) else if x = 84 then 7 else N x := fun x => rfl
  have lo : ∀ x, x < 84 → shN N x = N x := fun x hx => by rw [q, if_neg (by omega), if_neg (by omega)]
  refine ⟨fun x hx => ?_, ?_, ⟨?_, ?_, ?_, ?_⟩, fun x hx => ?_, ?_, fun x hx => ?_, fun x hx => ?_, fun x hx => ?_⟩
  · rw [lo _ (by omega), lo _ (by omega), lo _ (by omega)]; exact a x hx
  · rw [lo _ (by omega)]; exact b
  · rw [lo _ (by omega)]; exact c1
  · rw [lo _ (by omega)]; exact c2
  · rw [lo _ (by omega)]; exact c3
  · rw [q, if_neg (by omega), if_pos rfl]; omega
  · rw [lo _ (by omega)] at hx; rw [lo _ (by omega), lo _ (by omega)]; exact d x hx
  · rw [lo _ (by omega), lo _ (by omega)]; exact e
  · rw [lo _ (by omega)] at hx; rw [lo _ (by omega), lo _ (by omega)]; exact g x hx
  · rw [lo _ (by omega)] at hx; rw [lo _ (by omega), lo _ (by omega), lo _ (by omega), lo _ (by omega)]; exact i x hx
  · rw [q, if_neg (by omega), if_pos rfl] at hx
    obtain ⟨j1, j2, j3⟩ := j (x + 1) (by omega)
    rw [lo 31 (by omega), q, if_pos (by omega), q, if_pos (by omega)]
    exact ⟨fun f hf => by rw [q, if_pos (by omega), show 85 + 13 * x + f + 13 = 85 + 13 * (x + 1) + f by omega]; exact j1 f hf, by rw [show 95 + 13 * x + 13 = 95 + 13 * (x + 1) by omega]; exact j2, by rw [show 96 + 13 * x + 13 = 96 + 13 * (x + 1) by omega]; exact j3⟩
theorem okN_pu (K : okN N) (h7 : N 84 ≤ 7) : okN (puN N) := by
  obtain ⟨a, b, ⟨c1, c2, c3, c4⟩, d, e, g, i, j⟩ := K
  have q : ∀ x, puN N x = if 85 + 13 * N 84 ≤ x ∧ x < 95 + 13 * N 84 then N (20 + (x - (85 + 13 * N 84))) else if x = 95 + 13 * N 84 then N 30 else if x = 96 + 13 * N 84 then N 44 else if x = 97 + 13 * N 84 then N 45 else if x = 84 then N 84 + 1 else N x := fun x => rfl
  have lo : ∀ x, x < 84 → puN N x = N x := fun x hx => by rw [q, if_neg (by omega), if_neg (by omega), if_neg (by omega), if_neg (by omega), if_neg (by omega)]
  have q84 : puN N 84 = N 84 + 1 := by rw [q, if_neg (by omega), if_neg (by omega), if_neg (by omega), if_neg (by omega), if_pos rfl]
  refine ⟨fun x hx => ?_, ?_, ⟨?_, ?_, ?_, ?_⟩, fun x hx => ?_, ?_, fun x hx => ?_, fun x hx => ?_, fun x hx => ?_⟩
  · rw [lo _ (by omega), lo _ (by omega), lo _ (by omega)]; exact a x hx
  · rw [lo _ (by omega)]; exact b
  · rw [lo _ (by omega)]; exact c1
  · rw [lo _ (by omega)]; exact c2
  · rw [lo _ (by omega)]; exact c3
  · rw [q84]; omega
  · rw [lo _ (by omega)] at hx; rw [lo _ (by omega), lo _ (by omega)]; exact d x hx
  · rw [lo _ (by omega), lo _ (by omega)]; exact e
  · rw [lo _ (by omega)] at hx; rw [lo _ (by omega), lo _ (by omega)]; exact g x hx
  · rw [lo _ (by omega)] at hx; rw [lo _ (by omega), lo _ (by omega), lo _ (by omega), lo _ (by omega)]; exact i x hx
  · rw [q84] at hx
    rw [lo 31 (by omega)]
    by_cases c : x = N 84
    · subst c
      refine ⟨fun f hf => ?_, ?_, ?_⟩
      · rw [q, if_pos (by omega), show 20 + (85 + 13 * N 84 + f - (85 + 13 * N 84)) = 20 + f by omega]; exact (a f hf).2.2.2
      · rw [q, if_neg (by omega), if_pos rfl]; exact b
      · rw [q, if_neg (by omega), if_neg (by omega), if_pos rfl]; exact e
    · obtain ⟨j1, j2, j3⟩ := j x (by omega)
      refine ⟨fun f hf => ?_, ?_, ?_⟩
      · rw [q, if_neg (by omega), if_neg (by omega), if_neg (by omega), if_neg (by omega), if_neg (by omega)]; exact j1 f hf
      · rw [q, if_neg (by omega), if_neg (by omega), if_neg (by omega), if_neg (by omega), if_neg (by omega)]; exact j2
      · rw [q, if_neg (by omega), if_neg (by omega), if_neg (by omega), if_neg (by omega), if_neg (by omega)]; exact j3
theorem okN_nt (K : okN N) : okN (ntN N) := by
  unfold ntN
  by_cases c : N 84 = 8
  · rw [if_pos c]; exact okN_pu (okN_sh K c) (by unfold shN; rw [if_neg (by omega), if_pos rfl]; omega)
  · rw [if_neg c]; exact okN_pu K (by have := K.2.2.1.2.2.2; omega)
theorem okN_un (K : okN N) (h0 : 0 < N 84) : okN (unN N) := by
  obtain ⟨a, b, ⟨c1, c2, c3, c4⟩, d, e, g, i, j⟩ := K
  have q : ∀ x, unN N x = if 20 ≤ x ∧ x < 30 then N (85 + 13 * (N 84 - 1) + (x - 20)) else if x = 30 then N (95 + 13 * (N 84 - 1)) else if x = 44 then N (96 + 13 * (N 84 - 1)) else if x = 45 then N (97 + 13 * (N 84 - 1)) else if x = 84 then N 84 - 1 else N x := fun x => rfl
  have lo : ∀ x, x < 20 ∨ 30 < x ∧ x < 44 ∨ 45 < x ∧ x ≠ 84 → unN N x = N x := fun x hx => by rw [q, if_neg (by omega), if_neg (by omega), if_neg (by omega), if_neg (by omega), if_neg (by omega)]
  have q84 : unN N 84 = N 84 - 1 := by rw [q, if_neg (by omega), if_neg (by omega), if_neg (by omega), if_neg (by omega), if_pos rfl]
  obtain ⟨j1, j2, j3⟩ := j (N 84 - 1) (by omega)
  refine ⟨fun x hx => ?_, ?_, ⟨?_, ?_, ?_, ?_⟩, fun x hx => ?_, ?_, fun x hx => ?_, fun x hx => ?_, fun x hx => ?_⟩
  · have := a x hx
    have := j1 x hx
    rw [lo x (by omega), lo (10 + x) (by omega), q (20 + x), if_pos (by omega), show 20 + x - 20 = x by omega]; omega
  · rw [q, if_neg (by omega), if_pos rfl]; exact j2
  · rw [lo _ (by omega)]; exact c1
  · rw [lo _ (by omega)]; exact c2
  · rw [lo _ (by omega)]; exact c3
  · rw [q84]; omega
  · rw [lo _ (by omega)] at hx; rw [lo _ (by omega), lo _ (by omega)]; exact d x hx
  · rw [lo 31 (by omega), q, if_neg (by omega), if_neg (by omega), if_pos rfl]; exact j3
  · rw [lo _ (by omega)] at hx; rw [lo _ (by omega), lo _ (by omega)]; exact g x hx
  · rw [lo _ (by omega)] at hx; rw [lo _ (by omega), lo _ (by omega), lo _ (by omega), lo _ (by omega)]; exact i x hx
  · rw [q84] at hx
    obtain ⟨k1, k2, k3⟩ := j x (by omega)
    rw [lo 31 (by omega), lo _ (by omega), lo _ (by omega)]
    exact ⟨fun f hf => by rw [lo _ (by omega)]; exact k1 f hf, k2, k3⟩
theorem okN_py {b : Nat} (K : okN N) (hb : b < N 31) (hc : canR N (N (32 + b)) (N (32 + b))) : okN (pyN N b) := by
  have hz := K.2.2.1.2.2.2
  have K1 : okN (wdN (ntN N) (sgn (N (32 + b)) (N (32 + b)))) := okN_wd (okN_nt K) (by rw [sl_nt hz (by decide), sl_nt hz (by decide), sl_nt hz (by decide), nt_lo (by decide) hz]; exact hc)
  have e31 : wdN (ntN N) (sgn (N (32 + b)) (N (32 + b))) 31 = N 31 := by unfold wdN; rw [if_neg (by omega)]; exact nt_lo (by decide) hz
  obtain ⟨a, b1, ⟨c1, c2, c3, c4⟩, d, e, g, i, j⟩ := K1
  have lo : ∀ x, x ≠ 44 → x ≠ 45 → pyN N b x = wdN (ntN N) (sgn (N (32 + b)) (N (32 + b))) x := fun x h1 h2 => (vn h2).trans (vn h1)
  have p4 : N 44 ||| 2 ^ b < 2 ^ N 31 := Nat.or_lt_two_pow K.2.2.2.2.1 (Nat.pow_lt_pow_right (by decide) hb)
  refine ⟨fun x hx => ?_, ?_, ⟨?_, ?_, ?_, ?_⟩, fun x hx => ?_, ?_, fun x hx => ?_, fun x hx => ?_, fun x hx => ?_⟩
  · rw [lo _ (by omega) (by omega), lo _ (by omega) (by omega), lo _ (by omega) (by omega)]; exact a x hx
  · rw [lo _ (by omega) (by omega)]; exact b1
  · rw [lo _ (by omega) (by omega)]; exact c1
  · rw [lo _ (by omega) (by omega)]; exact c2
  · rw [lo _ (by omega) (by omega)]; exact c3
  · rw [lo _ (by omega) (by omega)]; exact c4
  · rw [lo _ (by omega) (by omega)] at hx; rw [lo _ (by omega) (by omega), lo _ (by omega) (by omega)]; exact d x hx
  · rw [lo 31 (by omega) (by omega), e31]; show va_up (va_up _ 44 _) 45 _ 44 < _; rw [vn (by omega), up_s]; exact p4
  · rw [lo _ (by omega) (by omega)] at hx; rw [lo _ (by omega) (by omega), lo _ (by omega) (by omega)]; exact g x hx
  · rw [lo _ (by omega) (by omega)] at hx; rw [lo _ (by omega) (by omega), lo _ (by omega) (by omega), lo _ (by omega) (by omega), lo _ (by omega) (by omega)]; exact i x hx
  · rw [lo _ (by omega) (by omega)] at hx
    obtain ⟨k1, k2, k3⟩ := j x hx
    rw [lo 31 (by omega) (by omega), lo _ (by omega) (by omega), lo _ (by omega) (by omega)]
    exact ⟨fun f hf => by rw [lo _ (by omega) (by omega)]; exact k1 f hf, k2, k3⟩
/-- only the clues change -/
theorem okN_cl {M : Nat → Nat} (K : okN N) (h1 : ∀ x, x < 46 ∨ 84 ≤ x → M x = N x) (h2 : M 46 ≤ 6) (h3 : M 59 ≤ 6) (h4 : ∀ i, i < M 46 → M (47 + i) < 10 ∧ M (53 + i) ≤ 40) (h5 : ∀ i, i < M 59 → M (60 + i) < 10 ∧ M (66 + i) ≤ 3 ∧ M (72 + i) ≤ 99 ∧ M (78 + i) ≤ 20) : okN M := by
  obtain ⟨a, b, ⟨c1, c2, c3, c4⟩, d, e, g, i, j⟩ := K
  refine ⟨fun x hx => ?_, ?_, ⟨?_, h2, h3, ?_⟩, fun x hx => ?_, ?_, h4, h5, fun x hx => ?_⟩
  · rw [h1 x (by omega), h1 (10 + x) (by omega), h1 (20 + x) (by omega)]; exact a x hx
  · rw [h1 30 (by omega)]; exact b
  · rw [h1 31 (by omega)]; exact c1
  · rw [h1 84 (by omega)]; exact c4
  · rw [h1 31 (by omega)] at hx; rw [h1 _ (by omega), h1 _ (by omega)]; exact d x hx
  · rw [h1 44 (by omega), h1 31 (by omega)]; exact e
  · rw [h1 84 (by omega)] at hx
    obtain ⟨j1, j2, j3⟩ := j x hx
    rw [h1 _ (by omega), h1 _ (by omega), h1 31 (by omega)]
    exact ⟨fun f hf => by rw [h1 _ (by omega)]; exact j1 f hf, j2, j3⟩
theorem okN_tr {f x : Nat} (K : okN N) (h6 : N 46 < 6) (hf : f < 10) (hx : x ≤ 40) : okN (trN N f x) := by
  have q : ∀ y, trN N f x y = if y = 46 then N 46 + 1 else if y = 53 + N 46 then x else if y = 47 + N 46 then f else N y := fun y => rfl
  have q46 : trN N f x 46 = N 46 + 1 := by rw [q, if_pos rfl]
  have q9 : ∀ y, y < 46 ∨ 59 ≤ y → trN N f x y = N y := fun y hy => by rw [q, if_neg (by omega), if_neg (by omega), if_neg (by omega)]
  refine okN_cl K (fun y hy => q9 y (by omega)) (by rw [q46]; omega) (by rw [q9 59 (by omega)]; exact K.2.2.1.2.2.1) (fun y hy => ?_) (fun y hy => ?_)
  · rw [q46] at hy
    have := K.2.2.2.2.2.1 y
    rw [q, q]; grind
  · rw [q9 59 (by omega)] at hy
    rw [q9 _ (by omega), q9 _ (by omega), q9 _ (by omega), q9 _ (by omega)]
    exact K.2.2.2.2.2.2.1 y hy
theorem okN_no {f k d x : Nat} (K : okN N) (h6 : N 59 < 6) (hf : f < 10) (hk : k ≤ 3) (hd : d ≤ 99) (hx : x ≤ 20) : okN (noN N f k d x) := by
  have q : ∀ y, noN N f k d x y = if y = 59 then N 59 + 1 else if y = 78 + N 59 then x else if y = 72 + N 59 then d else if y = 66 + N 59 then k else if y = 60 + N 59 then f else N y := fun y => rfl
  have q59 : noN N f k d x 59 = N 59 + 1 := by rw [q, if_pos rfl]
  have q9 : ∀ y, y < 59 ∨ 84 ≤ y → noN N f k d x y = N y := fun y hy => by rw [q, if_neg (by omega), if_neg (by omega), if_neg (by omega), if_neg (by omega), if_neg (by omega)]
  refine okN_cl K (fun y hy => q9 y (by omega)) (by rw [q9 46 (by omega)]; exact K.2.2.1.2.1) (by rw [q59]; omega) (fun y hy => ?_) (fun y hy => ?_)
  · rw [q9 46 (by omega)] at hy
    have t6 := K.2.2.1.2.1
    rw [q9 _ (by omega), q9 _ (by omega)]
    exact K.2.2.2.2.2.1 y hy
  · rw [q59] at hy
    have z := K.2.2.2.2.2.2.1 y
    by_cases c : y = N 59
    · rw [q (60 + y), if_neg (by omega), if_neg (by omega), if_neg (by omega), if_neg (by omega), if_pos (by omega), q (66 + y), if_neg (by omega), if_neg (by omega), if_neg (by omega), if_pos (by omega), q (72 + y), if_neg (by omega), if_neg (by omega), if_pos (by omega), q (78 + y), if_neg (by omega), if_pos (by omega)]
      exact ⟨hf, hk, hd, hx⟩
    · rw [q (60 + y), if_neg (by omega), if_neg (by omega), if_neg (by omega), if_neg (by omega), if_neg (by omega), q (66 + y), if_neg (by omega), if_neg (by omega), if_neg (by omega), if_neg (by omega), if_neg (by omega), q (72 + y), if_neg (by omega), if_neg (by omega), if_neg (by omega), if_neg (by omega), if_neg (by omega), q (78 + y), if_neg (by omega), if_neg (by omega), if_neg (by omega), if_neg (by omega), if_neg (by omega)]
      exact z (by omega)
theorem okN_f46 (K : okN N) : okN (va_up N 46 0) := by
  refine okN_cl K (fun y hy => vn (by omega)) (by rw [up_s]; omega) (by rw [vn (by omega)]; exact K.2.2.1.2.2.1) (fun y hy => ?_) (fun y hy => ?_)
  · rw [up_s] at hy; omega
  · rw [vn (by omega)] at hy
    rw [vn (by omega), vn (by omega), vn (by omega), vn (by omega)]
    exact K.2.2.2.2.2.2.1 y hy
theorem okN_f59 (K : okN N) : okN (va_up N 59 0) := by
  have t6 := K.2.2.1.2.1
  refine okN_cl K (fun y hy => vn (by omega)) (by rw [vn (by omega)]; exact t6) (by rw [up_s]; omega) (fun y hy => ?_) (fun y hy => ?_)
  · rw [vn (by omega)] at hy
    rw [vn (by omega), vn (by omega)]
    exact K.2.2.2.2.2.1 y hy
  · rw [up_s] at hy; omega
end OK
