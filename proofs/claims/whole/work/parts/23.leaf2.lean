/-! bills, clues, past, lines -/
/-- the figures of a number -/
def dig (v : Nat) : List Nat := if v ≤ 9 then [v] else [v / 10, v % 10]
/-- the signs of v by x -/
def sgn (v x : Nat) : List Nat := dig x ++ (if x = v then [] else dig (if x < v then v - x else x - v))
def ladd : (Nat → Int32) → Nat → List Nat → (Nat → Int32)
  | g, _, [] => g
  | g, m, d :: r => ladd (upd g m (nI d)) (m + 1) r
theorem dig_len {v : Nat} : 1 ≤ (dig v).length ∧ (dig v).length ≤ 2 := by unfold dig; split <;> simp
theorem dig_lt {v : Nat} (h : v < 100) : ∀ f ∈ dig v, f < 10 := by
  unfold dig
  split
  · intro f hf; simp at hf; omega
  · intro f hf; simp at hf; omega
theorem ladd_lo : ∀ (r : List Nat) (g : Nat → Int32) (m j : Nat), j < m → ladd g m r j = g j := by
  intro r
  induction r with
  | nil => intro g m j _; rfl
  | cons d r ih =>
    intro g m j hj
    show ladd (upd g m (nI d)) (m + 1) r j = g j
    rw [ih _ _ _ (by omega), pk_un (by omega)]
theorem ladd_at : ∀ (r : List Nat) (g : Nat → Int32) (m j f : Nat), r[j]? = some f → ladd g m r (m + j) = nI f := by
  intro r
  induction r with
  | nil => intro g m j f h; simp at h
  | cons d r ih =>
    intro g m j f h
    show ladd (upd g m (nI d)) (m + 1) r (m + j) = nI f
    cases j with
    | zero =>
      simp at h
      subst h
      have := ladd_lo r (upd g m (nI d)) (m + 1) m (by omega)
      rw [show m + 0 = m from rfl, this, pk_us]
    | succ j =>
      have := ih (upd g m (nI d)) (m + 1) j f (by simpa using h)
      rw [show m + (j + 1) = m + 1 + j by omega]
      exact this
theorem ladd_sg {g : Nat → Int32} {v x : Nat} (hv : v < 100) (hx : x < 100) : isSg (if x = v then ladd g 0 (dig x) else ladd (ladd g 0 (dig x)) (dig x).length (dig (if x < v then v - x else x - v))) (sgn v x) := by
  have l1 := @dig_len x
  by_cases c : x = v
  · rw [if_pos c]
    unfold sgn
    rw [if_pos c, List.append_nil]
    refine ⟨by omega, fun j f hf => ⟨?_, dig_lt hx f (List.mem_of_getElem? hf)⟩⟩
    have := ladd_at (dig x) g 0 j f hf
    rwa [Nat.zero_add] at this
  · rw [if_neg c]
    unfold sgn
    rw [if_neg c]
    have l2 := @dig_len (if x < v then v - x else x - v)
    have hd : (if x < v then v - x else x - v) < 100 := by split <;> omega
    refine ⟨by rw [List.length_append]; omega, fun j f hf => ⟨?_, ?_⟩⟩
    · by_cases cj : j < (dig x).length
      · rw [List.getElem?_append_left cj] at hf
        rw [ladd_lo _ _ _ _ cj]
        have := ladd_at (dig x) g 0 j f hf
        rwa [Nat.zero_add] at this
      · rw [List.getElem?_append_right (by omega)] at hf
        have := ladd_at _ (ladd g 0 (dig x)) (dig x).length _ f hf
        rwa [show (dig x).length + (j - (dig x).length) = j by omega] at this
    · rcases List.mem_append.mp (List.mem_of_getElem? hf) with h | h
      · exact dig_lt hx f h
      · exact dig_lt hd f h
theorem absd {v x : Nat} (hv : v < 100) (hx : x < 100) : (if (0 : Int32) ≤ nI v - nI x then nI v - nI x else 0 - (nI v - nI x)) = nI (if x < v then v - x else x - v) := by
  have e := pk_sub_toInt (a := v) (b := x) (by omega) (by omega)
  by_cases c : x < v
  · rw [if_pos c, if_pos (by rw [Int32.le_iff_toInt_le, e]; simp; omega), pk_sub (by omega)]
  · rw [if_neg c]
    by_cases c2 : v = x
    · subst c2
      rw [if_pos (by rw [Int32.le_iff_toInt_le, e]; simp), pk_sub (by omega)]
    · rw [if_neg (by rw [Int32.le_iff_toInt_le, e]; simp; omega)]
      rw [show (0 : Int32) - (nI v - nI x) = nI x - nI v by rw [Int32.zero_sub, Int32.neg_sub], pk_sub (by omega)]
theorem nI_or (a b : Nat) : nI a ||| nI b = nI (a ||| b) := by
  apply Int32.toBitVec_inj.mp
  show (BitVec.ofNat 32 a) ||| (BitVec.ofNat 32 b) = BitVec.ofNat 32 (a ||| b)
  apply BitVec.eq_of_toNat_eq
  simp [BitVec.toNat_or, Nat.or_mod_two_pow]
section L2
variable {E : eT} {n : Nat} {h : hT}
theorem c_addNumber {l m v : Nat} {g : Nat → Int32} (hl : h l = lO (l + 1) m) (hg : h (l + 1) = ia 4 g) (hm : m ≤ 2) (hv : v < 100) : fE M_L_addNumber E [.ref l, .int (nI v)] n h (eN n (va_up (va_up h (l + 1) (ia 4 (ladd g m (dig v)))) l (lO (l + 1) (m + (dig v).length)))) := by
  refine fE.of (L := [some (.ref l), some (.int (nI v))]) (by decide +kernel) (Nat.le_of_ble_eq_true rfl) rfl ?_
  refine a_il1 fL_addNumber_0 ?_
  refine a_if_lt fL_addNumber_1 (fun c => absurd c (nI_pos (by omega))) (fun _ => ?_)
  refine a_il1 fL_addNumber_4 ?_
  refine a_ic fL_addNumber_5 ?_
  refine a_ic_ge fL_addNumber_7 (fun c => absurd c (nI_ge (b := 100) hv (by decide))) (fun _ => ?_)
  refine a_al0 fL_addNumber_10 ?_
  refine a_gf fL_addNumber_11 l_L_15 hl rfl ?_
  refine a_ic fL_addNumber_14 ?_
  refine a_ic_le fL_addNumber_15 (fun _ => ?_) (fun c => absurd (nI_le (b := 2) hm (by decide)) c)
  refine a_il1 fL_addNumber_19 ?_
  refine a_ic fL_addNumber_20 ?_
  refine a_ic_le fL_addNumber_22 (fun c => ?_) (fun c => ?_)
  · have c1 : v ≤ 9 := (nI_leI (b := 9) (by omega) (by decide)).mp c
    have e : nI v - nI v / 10 * 10 = nI v := by rw [show nI v - nI v / 10 * 10 = nI (v % 10) from pk_rem (d := 10) (by omega) (by decide) (by decide), Nat.mod_eq_of_lt (by omega)]
    refine a_al0 fL_addNumber_48 ?_
    refine a_gf fL_addNumber_49 l_L_9 hl rfl ?_
    refine a_al0 fL_addNumber_52 ?_
    refine a_gf fL_addNumber_53 l_L_15 hl rfl ?_
    refine a_il1 fL_addNumber_56 ?_
    refine a_ic fL_addNumber_57 ?_
    refine a_irem fL_addNumber_59 (by decide) ?_
    rw [e]
    refine a_it fL_addNumber_60 hg rfl (by omega) (by decide) ?_
    refine a_al0 fL_addNumber_61 ?_
    refine a_dup fL_addNumber_62 rfl ?_
    refine a_gf fL_addNumber_63 l_L_15 (up_n (by omega) hl) rfl ?_
    refine a_ic fL_addNumber_66 ?_
    refine a_iadd fL_addNumber_67 ?_
    refine a_pfi1 fL_addNumber_68 p_L_15 (up_n (by omega) hl) ?_
    rw [show nI m + 1 = nI (m + 1) from nI_1 m]
    exact a_rv fL_addNumber_71 rfl (⟨rfl, rfl, by unfold dig; rw [if_pos c1]; rfl⟩)
  · have c1 : ¬ v ≤ 9 := fun z => c (nI_le (b := 9) z (by decide))
    refine a_al0 fL_addNumber_25 ?_
    refine a_gf fL_addNumber_26 l_L_9 hl rfl ?_
    refine a_al0 fL_addNumber_29 ?_
    refine a_gf fL_addNumber_30 l_L_15 hl rfl ?_
    refine a_il1 fL_addNumber_33 ?_
    refine a_ic fL_addNumber_34 ?_
    refine a_idiv fL_addNumber_36 (by decide) ?_
    rw [show nI v / 10 = nI (v / 10) from pk_div (d := 10) (by omega) (by decide) (by decide)]
    refine a_it fL_addNumber_37 hg rfl (by omega) (by decide) ?_
    refine a_al0 fL_addNumber_38 ?_
    refine a_dup fL_addNumber_39 rfl ?_
    refine a_gf fL_addNumber_40 l_L_15 (up_n (by omega) hl) rfl ?_
    refine a_ic fL_addNumber_43 ?_
    refine a_iadd fL_addNumber_44 ?_
    refine a_pfi1 fL_addNumber_45 p_L_15 (up_n (by omega) hl) ?_
    rw [show nI m + 1 = nI (m + 1) from nI_1 m]
    refine a_al0 fL_addNumber_48 ?_
    refine a_gf fL_addNumber_49 l_L_9 up_s rfl ?_
    refine a_al0 fL_addNumber_52 ?_
    refine a_gf fL_addNumber_53 l_L_15 up_s rfl ?_
    refine a_il1 fL_addNumber_56 ?_
    refine a_ic fL_addNumber_57 ?_
    refine a_irem fL_addNumber_59 (by decide) ?_
    rw [show nI v - nI v / 10 * 10 = nI (v % 10) from pk_rem (d := 10) (by omega) (by decide) (by decide)]
    refine a_it fL_addNumber_60 (up_n (by omega) up_s) rfl (by omega) (by decide) ?_
    rw [up_swap (by omega)]
    refine a_al0 fL_addNumber_61 ?_
    refine a_dup fL_addNumber_62 rfl ?_
    refine a_gf fL_addNumber_63 l_L_15 up_s rfl ?_
    refine a_ic fL_addNumber_66 ?_
    refine a_iadd fL_addNumber_67 ?_
    refine a_pfi1 fL_addNumber_68 p_L_15 up_s ?_
    rw [bx_uu, show nI (m + 1) + 1 = nI (m + 2) from nI_1 (m + 1)]
    exact a_rv fL_addNumber_71 rfl (⟨rfl, rfl, by unfold dig; rw [if_neg c1]; rfl⟩)
theorem c_tell {l m v x : Nat} {g : Nat → Int32} (hl : h l = lO (l + 1) m) (hg : h (l + 1) = ia 4 g) (hv : v < 100) (hx : x < 100) : fE M_L_tell E [.ref l, .int (nI v), .int (nI x)] n h (qN (fun k h2 => k = n ∧ ∃ g2, isSg g2 (sgn v x) ∧ h2 = va_up (va_up h l (lO (l + 1) (sgn v x).length)) (l + 1) (ia 4 g2))) := by
  have l1 := @dig_len x
  have l2 := @dig_len (if x < v then v - x else x - v)
  have hd : (if x < v then v - x else x - v) < 100 := by split <;> omega
  have hs := ladd_sg (g := g) hv hx
  refine fE.of (L := [some (.ref l), some (.int (nI v)), some (.int (nI x))]) (by decide +kernel) (Nat.le_of_ble_eq_true rfl) rfl ?_
  refine a_al0 fL_tell_0 ?_
  refine a_ic fL_tell_1 ?_
  refine a_pfi1 fL_tell_2 p_L_15 hl ?_
  refine a_al0 fL_tell_5 ?_
  refine a_il2 fL_tell_6 ?_
  refine a_V1N fL_tell_7 k_L_19 m_L_addNumber ⟨by decide, by decide⟩ up_s rfl ⟨rfl, rfl⟩ (Nat.le_of_ble_eq_true rfl) (c_addNumber (m := 0) up_s (up_n (by omega) hg) (by decide) hx) ?_
  rw [up_swap (by omega), Nat.zero_add]
  by_cases c9 : x = v
  · refine a_il2 fL_tell_10 ?_
    refine a_il1 fL_tell_11 ?_
    refine a_ic_eq fL_tell_12 (fun _ => ?_) (fun c => absurd (by rw [c9]) c)
    rw [if_pos c9] at hs
    exact a_rv fL_tell_25 rfl (⟨rfl, rfl, _, hs, by unfold sgn; rw [if_pos c9, List.append_nil]⟩)
  · refine a_il2 fL_tell_10 ?_
    refine a_il1 fL_tell_11 ?_
    refine a_ic_eq fL_tell_12 (fun c => absurd c (fun z => c9 ((nI_eq (by omega) (by omega)).mp z))) (fun _ => ?_)
    rw [if_neg c9] at hs
    refine a_al0 fL_tell_15 ?_
    refine a_il1 fL_tell_16 ?_
    refine a_il2 fL_tell_17 ?_
    refine a_isub fL_tell_18 ?_
    refine a_mabs fL_tell_19 k_L_23 w_absS w_Math w_absC (by decide) (Nat.le_of_ble_eq_true rfl) ?_
    rw [absd hv hx]
    refine a_V1N fL_tell_22 k_L_19 m_L_addNumber ⟨by decide, by decide⟩ (up_n (by omega) up_s) rfl ⟨rfl, rfl⟩ (Nat.le_of_ble_eq_true rfl) (c_addNumber (up_n (by omega) up_s) up_s l1.2 hd) ?_
    rw [bx_uu, up_swap (by omega)]
    exact a_rv fL_tell_25 rfl (⟨rfl, rfl, _, hs, by unfold sgn; rw [if_neg c9, List.length_append]⟩)
theorem c_Badd {b s p e v w : Nat} {f g : Nat → Nat} (hb : h b = bO b s p e) (hf : h (b + 1) = nA 6 f) (hg : h (b + 2) = nA 6 g) (hs : s < 6) : fE M_B_add E [.ref b, .int (nI v), .int (nI w)] n h (eN n (va_up (va_up (va_up h (b + 1) (nA 6 (va_up f s v))) (b + 2) (nA 6 (va_up g s w))) b (bO b (s + 1) p e))) := by
  refine fE.of (L := [some (.ref b), some (.int (nI v)), some (.int (nI w))]) (by decide +kernel) (Nat.le_of_ble_eq_true rfl) rfl ?_
  refine a_al0 fB_add_0 ?_
  refine a_gf fB_add_1 l_B_18 hb rfl ?_
  refine a_ic fB_add_4 ?_
  refine a_ic_ge fB_add_6 (fun c => absurd c (nI_ge (b := 6) hs (by decide))) (fun _ => ?_)
  refine a_al0 fB_add_9 ?_
  refine a_gf fB_add_10 l_B_9 hb rfl ?_
  refine a_al0 fB_add_13 ?_
  refine a_gf fB_add_14 l_B_18 hb rfl ?_
  refine a_il1 fB_add_17 ?_
  refine a_it fB_add_18 hf rfl (by omega) (by decide) ?_
  rw [upd_nF]
  refine a_al0 fB_add_19 ?_
  refine a_gf fB_add_20 l_B_15 (up_n (by omega) hb) rfl ?_
  refine a_al0 fB_add_23 ?_
  refine a_gf fB_add_24 l_B_18 (up_n (by omega) hb) rfl ?_
  refine a_il2 fB_add_27 ?_
  refine a_it fB_add_28 (up_n (by omega) hg) rfl (by omega) (by decide) ?_
  rw [upd_nF]
  refine a_al0 fB_add_29 ?_
  refine a_dup fB_add_30 rfl ?_
  refine a_gf fB_add_31 l_B_18 (up_n (by omega) (up_n (by omega) hb)) rfl ?_
  refine a_ic fB_add_34 ?_
  refine a_iadd fB_add_35 ?_
  refine a_pfi2 fB_add_36 p_B_18 (up_n (by omega) (up_n (by omega) hb)) ?_
  rw [nI_1]
  exact a_rv fB_add_39 rfl (⟨rfl, rfl, rfl⟩)
theorem c_settle {b s p e i : Nat} {g : Nat → Nat} (hb : h b = bO b s p e) (hg : h (b + 2) = nA 6 g) (hs : s ≤ 6) (hi : i < s) : fE M_B_settle E [.ref b, .int (nI i)] n h (eN n (va_up h b (bO b s (p ||| 2 ^ i) (e + g i)))) := by
  refine fE.of (L := [some (.ref b), some (.int (nI i))]) (by decide +kernel) (Nat.le_of_ble_eq_true rfl) rfl ?_
  refine a_al0 fB_settle_0 ?_
  refine a_il1 fB_settle_1 ?_
  refine a_V1V fB_settle_2 k_B_34 m_B_holds ⟨by decide, by decide⟩ hb rfl ⟨rfl, rfl⟩ (Nat.le_of_ble_eq_true rfl) (c_holds hb hs) ?_
  refine a_if_eq fB_settle_5 (fun c => absurd c (fun z => by rw [bI_t ⟨nI_pos' (by omega), nI_lt hi (by omega)⟩] at z; exact absurd z (by decide))) (fun _ => ?_)
  have e1 : ∀ i, i < 6 → ((1 : Int32) <<< (nI i &&& 31)) = nI (2 ^ i) := by decide
  refine a_al0 fB_settle_8 ?_
  refine a_dup fB_settle_9 rfl ?_
  refine a_gf fB_settle_10 l_B_22 hb rfl ?_
  refine a_ic fB_settle_13 ?_
  refine a_il1 fB_settle_14 ?_
  refine a_ishl fB_settle_15 ?_
  refine a_ior fB_settle_16 ?_
  refine a_pfi3 fB_settle_17 p_B_22 hb ?_
  rw [e1 i (by omega), show nI p ||| nI (2 ^ i) = nI (p ||| 2 ^ i) from nI_or _ _]
  refine a_al0 fB_settle_20 ?_
  refine a_dup fB_settle_21 rfl ?_
  refine a_gf fB_settle_22 l_B_25 up_s rfl ?_
  refine a_al0 fB_settle_25 ?_
  refine a_gf fB_settle_26 l_B_15 up_s rfl ?_
  refine a_il1 fB_settle_29 ?_
  refine a_ia fB_settle_30 (up_n (by omega) hg) rfl (by omega) (by decide) ?_
  refine a_iadd fB_settle_31 ?_
  refine a_pfi4 fB_settle_32 p_B_25 up_s ?_
  rw [bx_uu, show nI e + nF g i = nI (e + g i) from nI_add _ _]
  exact a_rv fB_settle_35 rfl (⟨rfl, rfl, rfl⟩)
/-- the worth of bills by bits -/
def wsm (g : Nat → Nat) (bits : Nat) : Nat → Nat → Nat
  | 0, _ => 0
  | j + 1, i => (if bits / 2 ^ i % 2 = 1 then g i else 0) + wsm g bits j (i + 1)
theorem c_worthOf {b s p e bits : Nat} {g : Nat → Nat} (hb : h b = bO b s p e) (hg : h (b + 2) = nA 6 g) (hbt : bits < 64) : fE M_B_worthOf E [.ref b, .int (nI bits)] n h (eV (.int (nI (wsm g bits 6 0))) n h) := by
  have loop : ∀ (j i c0 t : Nat), i + j = 6 → c0 + wsm g bits j i = t → fA M_B_worthOf E (fZ M_B_worthOf E (eV (.int (nI t)) n h)) n h 0 0 4 [some (.ref b), some (.int (nI bits)), some (.int (nI c0)), some (.int (nI i))] [] := by
    intro j
    induction j with
    | zero =>
      intro i c0 t hi ht
      obtain rfl : i = 6 := by omega
      refine a_il3 fB_worthOf_4 ?_
      refine a_ic fB_worthOf_5 ?_
      refine a_ic_ge fB_worthOf_7 (fun _ => ?_) (fun c => absurd (Int32.le_refl _) c)
      refine a_il2 fB_worthOf_34 ?_
      exact a_ri fB_worthOf_35 rfl (⟨sv (by rw [← ht]; rfl), rfl, rfl⟩)
    | succ j ih =>
      intro i c0 t hi ht
      refine a_il3 fB_worthOf_4 ?_
      refine a_ic fB_worthOf_5 ?_
      refine a_ic_ge fB_worthOf_7 (fun c => absurd c (nI_ge (b := 6) (by omega) (by decide))) (fun _ => ?_)
      refine a_il1 fB_worthOf_10 ?_
      refine a_il3 fB_worthOf_11 ?_
      refine a_ishr fB_worthOf_12 ?_
      refine a_ic fB_worthOf_13 ?_
      refine a_iand fB_worthOf_14 ?_
      rw [nbit bits i hbt (by omega)]
      refine a_ic fB_worthOf_15 ?_
      refine a_ic_ne fB_worthOf_16 (fun c => ?_) (fun c => ?_)
      · have c1 : ¬ bits / 2 ^ i % 2 = 1 := fun z => c (by rw [z]; rfl)
        refine a_inc3 fB_worthOf_28 (by decide) rfl ?_
        refine a_goto fB_worthOf_31 ?_
        rw [nI_1]
        exact ih (i + 1) _ t (by omega) (by rw [← ht]; simp only [wsm, if_neg c1]; omega)
      · have c1 : bits / 2 ^ i % 2 = 1 := (nI_eq (b := 1) (by omega) (by decide)).mp c
        refine a_il2 fB_worthOf_19 ?_
        refine a_al0 fB_worthOf_20 ?_
        refine a_gf fB_worthOf_21 l_B_15 hb rfl ?_
        refine a_il3 fB_worthOf_24 ?_
        refine a_ia fB_worthOf_25 hg rfl (by omega) (by decide) ?_
        refine a_iadd fB_worthOf_26 ?_
        refine a_is2 fB_worthOf_27 (by decide) rfl ?_
        refine a_inc3 fB_worthOf_28 (by decide) rfl ?_
        refine a_goto fB_worthOf_31 ?_
        rw [nI_1, show nI c0 + nF g i = nI (c0 + g i) from nI_add _ _]
        exact ih (i + 1) _ t (by omega) (by rw [← ht]; simp only [wsm, if_pos c1]; omega)
  refine fE.of (L := [some (.ref b), some (.int (nI bits)), none, none]) (by decide +kernel) (Nat.le_of_ble_eq_true rfl) rfl ?_
  refine a_ic fB_worthOf_0 ?_
  refine a_is2 fB_worthOf_1 (by decide) rfl ?_
  refine a_ic fB_worthOf_2 ?_
  refine a_is3 fB_worthOf_3 (by decide) rfl ?_
  exact loop 6 0 0 _ rfl (by omega)
end L2
