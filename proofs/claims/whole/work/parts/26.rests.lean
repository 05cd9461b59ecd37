/-! nights -/
theorem maxs {a b : Nat} (ha : a < 2 ^ 30) (hb : b < 2 ^ 30) : (if (0 : Int32) < nI a - nI b then nI a - nI b else 0) = nI (a - b) := by
  have e := pk_sub_toInt (a := a) (b := b) ha hb
  by_cases c : b < a
  · rw [if_pos (by rw [Int32.lt_iff_toInt_lt, e]; simp; omega), pk_sub (by omega)]
  · rw [if_neg (by rw [Int32.lt_iff_toInt_lt, e]; simp; omega), show a - b = 0 by omega]; rfl
def rsW (K W : Nat → Nat) : Nat → Nat := fun i => if i < 10 then W i - rst (K i) (W i) else W i
/-- one night over a row -/
def ngt1 (N : Nat → Nat) : Nat → Nat := fun i => if 20 ≤ i ∧ i < 30 then N i - rst (N (i - 20)) (N i) else if i = 30 then (if N 30 < 9999 then N 30 + 1 else 9999) else N i
def ngt : Nat → (Nat → Nat) → (Nat → Nat)
  | 0, N => N
  | m + 1, N => ngt m (ngt1 N)
theorem rst_lt {K w : Nat} : rst K w < 2 ^ 30 := by unfold rst; split <;> (try split) <;> omega
theorem sl_ngt1 (N : Nat → Nat) : sl (ngt1 N) 20 10 = rsW (sl N 0 10) (sl N 20 10) := by
  funext i
  unfold sl rsW ngt1
  by_cases c : i < 10
  · simp only [if_pos c]
    rw [if_pos (by omega), show 20 + i - 20 = 0 + i by omega]
  · simp [c]
theorem sl_ngt1_0 (N : Nat → Nat) : sl (ngt1 N) 0 10 = sl N 0 10 := by
  funext i
  unfold sl ngt1
  by_cases c : i < 10
  · simp only [if_pos c]; rw [if_neg (by omega), if_neg (by omega)]
  · simp [c]
theorem min99 {a : Nat} (h : a ≤ 9999) : (if (9999 : Int32) < nI (a + 1) then (9999 : Int32) else nI (a + 1)) = nI (if a < 9999 then a + 1 else 9999) := by
  show (if nI 9999 < nI (a + 1) then nI 9999 else nI (a + 1)) = _
  by_cases c : a < 9999
  · rw [if_pos c, if_neg (fun z => absurd ((nI_ltI (by decide) (by omega)).mp z) (by omega))]
  · rw [if_neg c, if_pos (nI_lt (by omega) (by omega))]
theorem bx_uu2 {h : hT} {a b : Nat} {x z w v : cT} (n : a ≠ b) : va_up (va_up (va_up (va_up h a x) b z) a w) b v = va_up (va_up h a w) b v := by rw [up_swap n, bx_uu]
theorem min99b {a : Nat} (h : a < 2 ^ 31) : (if nI a < (99 : Int32) then nI a else 99) = nI (if 99 < a then 99 else a) := by
  show (if nI a < nI 99 then nI a else nI 99) = _
  by_cases c : a < 99
  · rw [if_pos (nI_lt c (by decide)), if_neg (by omega)]
  · rw [if_neg (fun z => absurd ((nI_ltI h (by decide)).mp z) c)]
    by_cases c2 : 99 < a
    · rw [if_pos c2]
    · rw [if_neg c2, show a = 99 by omega]
section NI
variable {E : eT} {n : Nat} {h : hT}
theorem c_rests {q s D : Nat} {K W : Nat → Nat} (hq : h q = hO q) (hk : h (q + 1) = nA 10 K) (hs : h s = sO (s + 1) D) (hw : h (s + 1) = nA 10 W) (bK : sml K 5) (bW : sml W 1000) (a1 : s + 1 < q ∨ q + 1 < s) :
    fE M_H_rests E [.ref q, .ref s] n h (eN n (va_up (va_up h (s + 1) (nA 10 (rsW K W))) s (sO (s + 1) (D + 1)))) := by
  have rq : ∀ w, va_up h (s + 1) (nA 10 w) q = hO q := fun w => up_n (by omega) hq
  have rk : ∀ w, va_up h (s + 1) (nA 10 w) (q + 1) = nA 10 K := fun w => up_n (by omega) hk
  have rs : ∀ w, va_up h (s + 1) (nA 10 w) s = sO (s + 1) D := fun w => up_n (by omega) hs
  have loop : ∀ (j i : Nat), i + j = 10 → fA M_H_rests E (fZ M_H_rests E (eN n (va_up (va_up h (s + 1) (nA 10 (rsW K W))) s (sO (s + 1) (D + 1))))) n (va_up h (s + 1) (nA 10 (fun x => if x < i then rsW K W x else W x))) 0 0 2 [some (.ref q), some (.ref s), some (.int (nI i))] [] := by
    intro j
    induction j with
    | zero =>
      intro i hi
      obtain rfl : i = 10 := by omega
      refine a_il2 fH_rests_2 ?_
      refine a_ic fH_rests_3 ?_
      refine a_ic_ge fH_rests_5 (fun _ => ?_) (fun c => absurd (Int32.le_refl _) c)
      refine a_al1 fH_rests_46 ?_
      refine a_dup fH_rests_47 rfl ?_
      refine a_gf fH_rests_48 l_H_104 (rs _) rfl ?_
      refine a_ic fH_rests_51 ?_
      refine a_iadd fH_rests_52 ?_
      refine a_pfi1 fH_rests_53 p_H_104 (rs _) ?_
      rw [nI_1]
      exact a_rv fH_rests_56 rfl (⟨rfl, rfl, by congr 2; congr 1; congr 1; congr 1; congr 1; funext x; by_cases c : x < 10 <;> simp [c, rsW]⟩)
    | succ j ih =>
      intro i hi
      have hi9 : i < 10 := by omega
      have hb := bW i hi9
      have e0 : nF (fun x => if x < i then rsW K W x else W x) i = nI (W i) := by show nI (if i < i then _ else _) = _; rw [if_neg (by omega)]
      refine a_il2 fH_rests_2 ?_
      refine a_ic fH_rests_3 ?_
      refine a_ic_ge fH_rests_5 (fun c => absurd c (nI_ge (b := 10) hi9 (by decide))) (fun _ => ?_)
      refine a_al1 fH_rests_8 ?_
      refine a_gf fH_rests_9 l_H_113 (rs _) rfl ?_
      refine a_il2 fH_rests_12 ?_
      refine a_ic fH_rests_13 ?_
      refine a_al1 fH_rests_14 ?_
      refine a_gf fH_rests_15 l_H_113 (rs _) rfl ?_
      refine a_il2 fH_rests_18 ?_
      refine a_ia fH_rests_19 up_s rfl (by omega) (by decide) ?_
      rw [e0]
      refine a_al0 fH_rests_20 ?_
      refine a_gf fH_rests_21 l_H_9 (rq _) rfl ?_
      refine a_il2 fH_rests_24 ?_
      refine a_ia fH_rests_25 (rk _) rfl (by omega) (by decide) ?_
      refine a_al1 fH_rests_26 ?_
      refine a_gf fH_rests_27 l_H_113 (rs _) rfl ?_
      refine a_il2 fH_rests_30 ?_
      refine a_ia fH_rests_31 up_s rfl (by omega) (by decide) ?_
      rw [e0]
      refine a_S2V fH_rests_32 k_H_116 m_I_rest ⟨by decide, by decide⟩ ⟨rfl, rfl⟩ (Nat.le_of_ble_eq_true rfl) (c_rest (w := W i) (bK _ hi9) (by omega)) ?_
      refine a_isub fH_rests_35 ?_
      refine a_mmax fH_rests_36 k_H_121 w_maxS w_Math w_maxC (by decide) (Nat.le_of_ble_eq_true rfl) ?_
      rw [maxs (a := W i) (b := rst (K i) (W i)) (by omega) rst_lt]
      refine a_it fH_rests_39 up_s rfl (by omega) (by decide) ?_
      refine a_inc2 fH_rests_40 (by decide) rfl ?_
      refine a_goto fH_rests_43 ?_
      rw [bx_uu, upd_nF, nI_1]
      have e1 : va_up (fun x => if x < i then rsW K W x else W x) i (W i - rst (K i) (W i)) = fun x => if x < i + 1 then rsW K W x else W x := by
        funext x
        unfold va_up
        by_cases c1 : x = i
        · subst c1; simp [rsW, hi9]
        · by_cases c2 : x < i
          · simp [c1, c2, show x < i + 1 by omega]
          · simp [c1, c2, show ¬ x < i + 1 by omega]
      rw [e1]
      exact ih (i + 1) (by omega)
  refine fE.of (L := [some (.ref q), some (.ref s), none]) (by decide +kernel) (Nat.le_of_ble_eq_true rfl) rfl ?_
  refine a_ic fH_rests_0 ?_
  refine a_is2 fH_rests_1 (by decide) rfl ?_
  have := loop 10 0 rfl
  rw [show (fun x => if x < 0 then rsW K W x else W x) = W from funext (fun x => by simp), up_id hw] at this
  exact this
theorem c_sleep {q m : Nat} {N : Nat → Nat} (hq : h q = hO q) (hk : h (q + 1) = nA 10 (sl N 0 10)) (hs : h (q + 3) = sO (q + 4) (N 30)) (hw : h (q + 4) = nA 10 (sl N 20 10)) (bK : ∀ f, f < 10 → N f ≤ 5) (bW : ∀ f, f < 10 → N (20 + f) ≤ 1000) (bD : N 30 ≤ 9999) (hm : m ≤ 60) :
    fE M_H_sleep E [.ref q, .int (nI m)] n h (eN n (va_up (va_up h (q + 4) (nA 10 (sl (ngt m N) 20 10))) (q + 3) (sO (q + 4) (ngt m N 30)))) := by
  have loop : ∀ (j i : Nat) (N2 : Nat → Nat), i + j = m → ngt j N2 = ngt m N → sl N2 0 10 = sl N 0 10 → (∀ f, f < 10 → N2 (20 + f) ≤ 1000) → N2 30 ≤ 9999 → fA M_H_sleep E (fZ M_H_sleep E (eN n (va_up (va_up h (q + 4) (nA 10 (sl (ngt m N) 20 10))) (q + 3) (sO (q + 4) (ngt m N 30))))) n (va_up (va_up h (q + 4) (nA 10 (sl N2 20 10))) (q + 3) (sO (q + 4) (N2 30))) 0 0 2 [some (.ref q), some (.int (nI m)), some (.int (nI i))] [] := by
    intro j
    induction j with
    | zero =>
      intro i N2 hi hN hK hW hD
      refine a_il2 fH_sleep_2 ?_
      refine a_il1 fH_sleep_3 ?_
      refine a_ic_ge fH_sleep_4 (fun _ => ?_) (fun c => absurd (nI_le (by omega) (by omega)) c)
      exact a_rv fH_sleep_41 rfl (⟨rfl, rfl, by rw [← hN]; rfl⟩)
    | succ j ih =>
      intro i N2 hi hN hK hW hD
      refine a_il2 fH_sleep_2 ?_
      refine a_il1 fH_sleep_3 ?_
      refine a_ic_ge fH_sleep_4 (fun c => absurd c (nI_ge (by omega) (by omega))) (fun _ => ?_)
      refine a_al0 fH_sleep_7 ?_
      refine a_al0 fH_sleep_8 ?_
      refine a_gf fH_sleep_9 l_H_21 (up_n (by omega) (up_n (by omega) hq)) rfl ?_
      refine a_V1N fH_sleep_12 k_H_101 m_H_rests ⟨by decide, by decide⟩ (up_n (by omega) (up_n (by omega) hq)) rfl ⟨rfl, rfl⟩ (Nat.le_of_ble_eq_true rfl) (c_rests (K := sl N 0 10) (W := sl N2 20 10) (s := q + 3) (up_n (by omega) (up_n (by omega) hq)) (up_n (by omega) (up_n (by omega) hk)) up_s (up_n (by omega) up_s) (fun f hf => by rw [sl_lt hf, Nat.zero_add]; exact bK f hf) (fun f hf => by rw [sl_lt hf]; exact hW f hf) (by omega)) ?_
      rw [bx_uu2 (a := q + 4) (b := q + 3) (by omega)]
      refine a_al0 fH_sleep_15 ?_
      refine a_gf fH_sleep_16 l_H_21 (up_n (by omega) (up_n (by omega) hq)) rfl ?_
      refine a_al0 fH_sleep_19 ?_
      refine a_gf fH_sleep_20 l_H_21 (up_n (by omega) (up_n (by omega) hq)) rfl ?_
      refine a_gf fH_sleep_23 l_H_104 up_s rfl ?_
      refine a_ic fH_sleep_26 ?_
      refine a_mmin fH_sleep_29 k_H_107 w_minS w_Math w_minC (by decide) (Nat.le_of_ble_eq_true rfl) ?_
      rw [min99 hD]
      refine a_pfi1 fH_sleep_32 p_H_104 up_s ?_
      refine a_inc2 fH_sleep_35 (by decide) rfl ?_
      refine a_goto fH_sleep_38 ?_
      rw [bx_uu, nI_1]
      have := ih (i + 1) (ngt1 N2) (by omega) hN (by rw [sl_ngt1_0]; exact hK) (fun f hf => by unfold ngt1; rw [if_pos (by omega)]; have := hW f hf; omega) (by unfold ngt1; rw [if_neg (by omega), if_pos rfl]; split <;> omega)
      rw [sl_ngt1, hK] at this
      exact this
  refine fE.of (L := [some (.ref q), some (.int (nI m)), none]) (by decide +kernel) (Nat.le_of_ble_eq_true rfl) rfl ?_
  refine a_ic fH_sleep_0 ?_
  refine a_is2 fH_sleep_1 (by decide) rfl ?_
  have := loop m 0 N (by omega) rfl rfl bW bD
  rw [up_id hw, up_id hs] at this
  exact this
theorem c_leftOf {q f : Nat} {K S W : Nat → Nat} {D : Nat} (hq : h q = hO q) (hk : h (q + 1) = nA 10 K) (hS : h (q + 2) = nA 10 S) (hs : h (q + 3) = sO (q + 4) D) (hw : h (q + 4) = nA 10 W) (bK : sml K 5) (bS : sml S 1000) (bW : sml W 1000) (hD : D < 2 ^ 31) (hf : f < 10) :
    fE M_H_leftOf E [.ref q, .int (nI f)] n h (eV (.int (nI (if S f < W f then 0 else if wr (K f) 0 D = 0 ∨ 99 < (S f - W f) / wr (K f) 0 D then 99 else (S f - W f) / wr (K f) 0 D))) n h) := by
  have b1 := bS f hf
  have b2 := bW f hf
  have e := pk_sub_toInt (a := S f) (b := W f) (by omega) (by omega)
  have b3 : wr (K f) 0 D ≤ 6 := wr_le (by decide)
  refine fE.of (L := [some (.ref q), some (.int (nI f)), none, none]) (by decide +kernel) (Nat.le_of_ble_eq_true rfl) rfl ?_
  by_cases c9 : S f < W f
  · refine a_al0 fH_leftOf_0 ?_
    refine a_gf fH_leftOf_1 l_H_15 hq rfl ?_
    refine a_il1 fH_leftOf_4 ?_
    refine a_ia fH_leftOf_5 hS rfl (by omega) (by decide) ?_
    refine a_al0 fH_leftOf_6 ?_
    refine a_gf fH_leftOf_7 l_H_21 hq rfl ?_
    refine a_gf fH_leftOf_10 l_H_113 hs rfl ?_
    refine a_il1 fH_leftOf_13 ?_
    refine a_ia fH_leftOf_14 hw rfl (by omega) (by decide) ?_
    refine a_isub fH_leftOf_15 ?_
    refine a_is2 fH_leftOf_16 (by decide) rfl ?_
    refine a_il2 fH_leftOf_17 ?_
    refine a_if_ge fH_leftOf_18 (fun c => absurd c (by rw [Int32.le_iff_toInt_le]; show ¬ _ ≤ (nI (S f) - nI (W f)).toInt; rw [e]; simp; omega)) (fun _ => ?_)
    refine a_ic fH_leftOf_21 ?_
    exact a_ri fH_leftOf_22 rfl (⟨sv (by rw [if_pos c9]; rfl), rfl, rfl⟩)
  · refine a_al0 fH_leftOf_0 ?_
    refine a_gf fH_leftOf_1 l_H_15 hq rfl ?_
    refine a_il1 fH_leftOf_4 ?_
    refine a_ia fH_leftOf_5 hS rfl (by omega) (by decide) ?_
    refine a_al0 fH_leftOf_6 ?_
    refine a_gf fH_leftOf_7 l_H_21 hq rfl ?_
    refine a_gf fH_leftOf_10 l_H_113 hs rfl ?_
    refine a_il1 fH_leftOf_13 ?_
    refine a_ia fH_leftOf_14 hw rfl (by omega) (by decide) ?_
    refine a_isub fH_leftOf_15 ?_
    refine a_is2 fH_leftOf_16 (by decide) rfl ?_
    refine a_il2 fH_leftOf_17 ?_
    refine a_if_ge fH_leftOf_18 (fun _ => ?_) (fun c => absurd (by rw [Int32.le_iff_toInt_le]; show _ ≤ (nI (S f) - nI (W f)).toInt; rw [e]; simp; omega) c)
    have e2 : nF S f - nF W f = nI (S f - W f) := pk_sub (by omega)
    rw [e2]
    by_cases c8 : wr (K f) 0 D = 0
    · refine a_al0 fH_leftOf_23 ?_
      refine a_gf fH_leftOf_24 l_H_9 hq rfl ?_
      refine a_il1 fH_leftOf_27 ?_
      refine a_ia fH_leftOf_28 hk rfl (by omega) (by decide) ?_
      refine a_ic fH_leftOf_29 ?_
      refine a_al0 fH_leftOf_30 ?_
      refine a_gf fH_leftOf_31 l_H_21 hq rfl ?_
      refine a_gf fH_leftOf_34 l_H_104 hs rfl ?_
      refine a_S3V fH_leftOf_37 k_H_130 m_I_wear ⟨by decide, by decide⟩ ⟨rfl, rfl⟩ (Nat.le_of_ble_eq_true rfl) (c_wear (k := 0) (bK _ hf) (by decide) hD) ?_
      refine a_is3 fH_leftOf_40 (by decide) rfl ?_
      refine a_il3 fH_leftOf_41 ?_
      refine a_if_gt fH_leftOf_42 (fun c => absurd c (fun z => absurd ((nI_ltI (a := 0) (by decide) (by omega)).mp z) (by omega))) (fun _ => ?_)
      refine a_ic fH_leftOf_45 ?_
      refine a_goto fH_leftOf_47 ?_
      exact a_ri fH_leftOf_58 rfl (⟨sv (by rw [if_neg c9, if_pos (Or.inl c8)]; rfl), rfl, rfl⟩)
    · refine a_al0 fH_leftOf_23 ?_
      refine a_gf fH_leftOf_24 l_H_9 hq rfl ?_
      refine a_il1 fH_leftOf_27 ?_
      refine a_ia fH_leftOf_28 hk rfl (by omega) (by decide) ?_
      refine a_ic fH_leftOf_29 ?_
      refine a_al0 fH_leftOf_30 ?_
      refine a_gf fH_leftOf_31 l_H_21 hq rfl ?_
      refine a_gf fH_leftOf_34 l_H_104 hs rfl ?_
      refine a_S3V fH_leftOf_37 k_H_130 m_I_wear ⟨by decide, by decide⟩ ⟨rfl, rfl⟩ (Nat.le_of_ble_eq_true rfl) (c_wear (k := 0) (bK _ hf) (by decide) hD) ?_
      refine a_is3 fH_leftOf_40 (by decide) rfl ?_
      refine a_il3 fH_leftOf_41 ?_
      refine a_if_gt fH_leftOf_42 (fun _ => ?_) (fun c => absurd (nI_lt (a := 0) (by omega) (by omega)) c)
      have e3 : nI (S f - W f) / nI (wr (K f) 0 D) = nI ((S f - W f) / wr (K f) 0 D) := pk_div (by omega) (by omega) (by omega)
      have b4 : (S f - W f) / wr (K f) 0 D ≤ 1000 := Nat.le_trans (Nat.div_le_self _ _) (by omega)
      refine a_ic fH_leftOf_50 ?_
      refine a_il2 fH_leftOf_52 ?_
      refine a_il3 fH_leftOf_53 ?_
      refine a_idiv fH_leftOf_54 (fun z => c8 ((nI_eq (b := 0) (by omega) (by decide)).mp z)) ?_
      rw [e3]
      have e9 : (if nI ((S f - W f) / wr (K f) 0 D) < (99 : Int32) then nI ((S f - W f) / wr (K f) 0 D) else 99) = nI (if S f < W f then 0 else if wr (K f) 0 D = 0 ∨ 99 < (S f - W f) / wr (K f) 0 D then 99 else (S f - W f) / wr (K f) 0 D) := by
        rw [min99b (by omega), if_neg c9]
        congr 1
        by_cases c7 : 99 < (S f - W f) / wr (K f) 0 D
        · rw [if_pos c7, if_pos (Or.inr c7)]
        · rw [if_neg c7, if_neg (fun z => z.elim c8 c7)]
      refine a_mmin fH_leftOf_55 k_H_107 w_minS w_Math w_minC (by decide) (Nat.le_of_ble_eq_true rfl) ?_
      exact a_ri fH_leftOf_58 rfl (⟨sv e9, rfl, rfl⟩)
end NI
