/-! leaf methods of the data classes -/
abbrev bO (b s p e : Nat) : cT := .inr (3, [.ref (b + 1), .ref (b + 2), .int (nI s), .int (nI p), .int (nI e)])
abbrev cO (c t n : Nat) : cT := .inr (4, [.ref (c + 1), .ref (c + 2), .int (nI t), .ref (c + 3), .ref (c + 4), .ref (c + 5), .ref (c + 6), .int (nI n)])
abbrev pO (p z : Nat) : cT := .inr (5, [.ref (p + 1), .int (nI z)])
/-- n places of a row from a on, 0 behind them -/
def sl (N : Nat → Nat) (a n : Nat) : Nat → Nat := fun i => if i < n then N (a + i) else 0
theorem sl_lt {N : Nat → Nat} {a n i : Nat} (h : i < n) : sl N a n i = N (a + i) := if_pos h
theorem sl_up {N : Nat → Nat} {a n j v : Nat} (h : j < n) : va_up (sl N a n) j v = sl (va_up N (a + j) v) a n := by
  funext i
  unfold va_up sl
  by_cases h1 : i = j
  · subst h1; simp [h]
  · have : a + i ≠ a + j := by omega
    simp [h1]
theorem sl_out {N : Nat → Nat} {a n b v : Nat} (h : b < a ∨ a + n ≤ b) : sl (va_up N b v) a n = sl N a n := by
  funext i
  unfold va_up sl
  by_cases h1 : i < n
  · have : a + i ≠ b := by omega
    simp [h1, this]
  · simp [h1]
theorem cpy_nF {f g : Nat → Nat} {a b c : Nat} : va_cpy (nF f) (nF g) a b c = nF (va_cpy f g a b c) := by
  funext j
  simp only [va_cpy, nF]
  split <;> rfl
theorem fill_sl {N N2 : Nat → Nat} {a n v : Nat} (h : ∀ i, i < n → N2 (a + i) = v) : (fun j => if j < n then v else sl N a n j) = sl N2 a n := by
  funext j
  unfold sl
  split
  · rename_i c; rw [h j c]
  · simp_all
theorem nbit (p b : Nat) (hp : p < 64) (hb : b < 32) : (nI p >>> (nI b &&& 31)) &&& 1 = nI (p / 2 ^ b % 2) := by
  have h1 : nI b &&& 31 = nI b := by
    have := pk_andN (n := b) (by omega) (m := 31) 5 (by decide)
    rw [this]; congr 1; exact Nat.mod_eq_of_lt hb
  have h2 : ∀ b, b < 32 → ((nI b).toBitVec.smod 32).toNat = b := by decide
  rw [h1, pk_shrN (by omega) (nI b) b (h2 b hb)]
  have := pk_andN (n := p / 2 ^ b) (Nat.lt_of_le_of_lt (Nat.div_le_self _ _) (by omega)) (m := 1) 1 (by decide)
  exact this
/-- a sum of n places from i on -/
def sm (W : Nat → Nat) : Nat → Nat → Nat
  | 0, _ => 0
  | j + 1, i => W i + sm W j (i + 1)
section LF
variable {E : eT} {n : Nat} {h : hT}
theorem a_alen {y : mI} {Z : zT} {nc ns pc pc2 : Nat} {L : lT} {st : List Value} {q m : Nat} {f : Nat → Int32} (hd : fD y pc .arraylength 1 pc2) (hq : h q = ia m f) (kk : fA y E Z n h nc ns pc2 L (.int (nI m) :: st)) : fA y E Z n h nc ns pc L (.ref q :: st) := by
  intro p l e s m9 args below meth c H locs ls F R hS hl h1 h2
  obtain ⟨d, rfl⟩ := hd
  obtain ⟨j, rfl, hj, hg⟩ := R_arr R hq
  exact va_alen F.1 F.2.1 R.2.2.2.2.1 R.2.2.2.1 j 0 hg rfl rfl d (kk p l e s m9 args below meth c H locs ls F R hS hl h1 h2)
theorem a_cp {y : mI} {Z : zT} {nc ns pc pc2 : Nat} {L : lT} {st : List Value} {idx q0 q1 n0 n1 a b c : Nat} {f g : Nat → Nat} {sp dp m : Int32} (hd : fD y pc (.invokestatic idx) 3 pc2) (w1 : Cond.methodLink y.1.cls idx arraycopyName ∈ gw) (hq0 : h q0 = nA n0 f) (hq1 : h q1 = nA n1 g) (e1 : sp = nI a) (e2 : dp = nI b) (e3 : m = nI c) (g4 : a + c ≤ n0) (g5 : b + c ≤ n1) (b0 : n0 < 2 ^ 30) (b1 : n1 < 2 ^ 30) (hfr : 1 ≤ y.2.2.2.2.frames) (hlo : (st.map fun v => v.category).sum + 18 ≤ y.2.2.2.2.locals)
    (kk : fA y E Z n (va_up h q1 (nA n1 (va_cpy f g a b c))) nc ns pc2 L st) : fA y E Z n h nc ns pc L (.int m :: .int dp :: .ref q1 :: .int sp :: .ref q0 :: st) := by
  subst e1; subst e2; subst e3
  refine a_copy hd w1 w_acN w_acS w_sys hq0 hq1 (nI_pos (by omega)) (nI_pos (by omega)) (nI_pos (by omega)) (by rw [nI_clamp (by omega), nI_clamp (by omega)]; exact g4) (by rw [nI_clamp (by omega), nI_clamp (by omega)]; exact g5) hfr hlo ?_
  rw [nI_clamp (by omega), nI_clamp (by omega), nI_clamp (by omega), cpy_nF]
  exact kk
theorem c_fill {a m V : Nat} {f : Nat → Nat} (hm : m ≤ 1000) (ha : h a = nA m f) : fE M_A_fill E [.ref a, .int (nI V)] n h (eN n (va_up h a (nA m (fun j => if j < m then V else f j)))) := by
  have loop : ∀ (j i : Nat), i + j = m → fA M_A_fill E (fZ M_A_fill E (eN n (va_up h a (nA m (fun j => if j < m then V else f j))))) n (va_up h a (nA m (fun j => if j < i then V else f j))) 0 0 5 [some (.ref a), some (.int (nI V)), some (.int (nI i)), some (.int (nI m))] [] := by
    intro j
    induction j with
    | zero =>
      intro i hi
      refine a_il2 fA_fill_5 ?_
      refine a_il3 fA_fill_6 ?_
      refine a_ic_ge fA_fill_7 (fun _ => ?_) (fun c => absurd (nI_le (by omega) (by omega)) c)
      exact a_rv fA_fill_20 rfl (⟨rfl, rfl, by rw [show i = m by omega]⟩)
    | succ j ih =>
      intro i hi
      refine a_il2 fA_fill_5 ?_
      refine a_il3 fA_fill_6 ?_
      refine a_ic_ge fA_fill_7 (fun c => absurd c (nI_ge (by omega) (by omega))) (fun _ => ?_)
      refine a_al0 fA_fill_10 ?_
      refine a_il2 fA_fill_11 ?_
      refine a_il1 fA_fill_12 ?_
      refine a_it fA_fill_13 up_s rfl (by omega) (by omega) ?_
      refine a_inc2 fA_fill_14 (by decide) rfl ?_
      refine a_goto fA_fill_17 ?_
      rw [bx_uu, upd_nF, nI_1]
      have e : va_up (fun j => if j < i then V else f j) i V = fun j => if j < i + 1 then V else f j := by
        funext x
        unfold va_up
        by_cases c1 : x = i
        · subst c1; simp
        · by_cases c2 : x < i
          · simp [c1, c2, show x < i + 1 by omega]
          · simp [c1, c2, show ¬ x < i + 1 by omega]
      rw [e]
      exact ih (i + 1) (by omega)
  refine fE.of (L := [some (.ref a), some (.int (nI V)), none, none]) (by decide +kernel) (Nat.le_of_ble_eq_true rfl) rfl ?_
  refine a_ic fA_fill_0 ?_
  refine a_is2 fA_fill_1 (by decide) rfl ?_
  refine a_al0 fA_fill_2 ?_
  refine a_alen fA_fill_3 ha ?_
  refine a_is3 fA_fill_4 (by decide) rfl ?_
  have := loop m 0 (by omega)
  rw [show (fun j => if j < 0 then V else f j) = f from funext (fun x => by simp), up_id ha] at this
  exact this
theorem c_Sbegin {s D : Nat} {W : Nat → Nat} (hs : h s = sO (s + 1) D) (hw : h (s + 1) = nA 10 W) : fE M_S_begin E [.ref s] n h (eN n (va_up (va_up h (s + 1) (nA 10 (fun j => if j < 10 then 0 else W j))) s (sO (s + 1) 0))) := by
  refine fE.of (L := [some (.ref s)]) (by decide +kernel) (Nat.le_of_ble_eq_true rfl) rfl ?_
  refine a_al0 fS_begin_0 ?_
  refine a_gf fS_begin_1 l_S_9 hs rfl ?_
  refine a_ic fS_begin_4 ?_
  refine a_S2N fS_begin_5 k_S_19 m_A_fill ⟨by decide, by decide⟩ ⟨rfl, rfl⟩ (Nat.le_of_ble_eq_true rfl) (c_fill (V := 0) (by decide) hw) ?_
  refine a_al0 fS_begin_8 ?_
  refine a_ic fS_begin_9 ?_
  refine a_pfi1 fS_begin_10 p_S_15 (up_n (by omega) hs) ?_
  exact a_rv fS_begin_13 rfl (⟨rfl, rfl, rfl⟩)
theorem c_Sbecome {s o D D2 : Nat} {W W2 : Nat → Nat} (hs : h s = sO (s + 1) D) (hw : h (s + 1) = nA 10 W) (ho : h o = sO (o + 1) D2) (hw2 : h (o + 1) = nA 10 W2) (a : s + 1 < o ∨ o + 1 < s) : fE M_S_become E [.ref s, .ref o] n h (eN n (va_up (va_up h (s + 1) (nA 10 (va_cpy W2 W 0 0 10))) s (sO (s + 1) D2))) := by
  refine fE.of (L := [some (.ref s), some (.ref o)]) (by decide +kernel) (Nat.le_of_ble_eq_true rfl) rfl ?_
  refine a_al1 fS_become_0 ?_
  refine a_gf fS_become_1 l_S_9 ho rfl ?_
  refine a_ic fS_become_4 ?_
  refine a_al0 fS_become_5 ?_
  refine a_gf fS_become_6 l_S_9 hs rfl ?_
  refine a_ic fS_become_9 ?_
  refine a_ic fS_become_10 ?_
  refine a_cp fS_become_12 k_S_25 hw2 hw (show (0 : Int32) = nI 0 from rfl) (show (0 : Int32) = nI 0 from rfl) (show (10 : Int32) = nI 10 from rfl) (by decide) (by decide) (by decide) (by decide) (by decide) (Nat.le_of_ble_eq_true rfl) ?_
  refine a_al0 fS_become_15 ?_
  refine a_al1 fS_become_16 ?_
  refine a_gf fS_become_17 l_S_15 (up_n (by omega) ho) rfl ?_
  refine a_pfi1 fS_become_20 p_S_15 (up_n (by omega) hs) ?_
  exact a_rv fS_become_23 rfl (⟨rfl, rfl, rfl⟩)
theorem c_wornTog {s D : Nat} {W : Nat → Nat} (hs : h s = sO (s + 1) D) (hw : h (s + 1) = nA 10 W) : fE M_S_wornTogether E [.ref s] n h (eV (.int (nI (sm W 10 0))) n h) := by
  have loop : ∀ (j i c0 t : Nat), i + j = 10 → c0 + sm W j i = t → fA M_S_wornTogether E (fZ M_S_wornTogether E (eV (.int (nI t)) n h)) n h 0 0 4 [some (.ref s), some (.int (nI c0)), some (.int (nI i))] [] := by
    intro j
    induction j with
    | zero =>
      intro i c0 t hi ht
      obtain rfl : i = 10 := by omega
      refine a_il2 fS_wornTogether_4 ?_
      refine a_ic fS_wornTogether_5 ?_
      refine a_ic_ge fS_wornTogether_7 (fun _ => ?_) (fun c => absurd (Int32.le_refl _) c)
      refine a_il1 fS_wornTogether_25 ?_
      exact a_ri fS_wornTogether_26 rfl (⟨sv (by rw [← ht]; rfl), rfl, rfl⟩)
    | succ j ih =>
      intro i c0 t hi ht
      refine a_il2 fS_wornTogether_4 ?_
      refine a_ic fS_wornTogether_5 ?_
      refine a_ic_ge fS_wornTogether_7 (fun c => absurd c (nI_ge (b := 10) (by omega) (by decide))) (fun _ => ?_)
      refine a_il1 fS_wornTogether_10 ?_
      refine a_al0 fS_wornTogether_11 ?_
      refine a_gf fS_wornTogether_12 l_S_9 hs rfl ?_
      refine a_il2 fS_wornTogether_15 ?_
      refine a_ia fS_wornTogether_16 hw rfl (by omega) (by decide) ?_
      refine a_iadd fS_wornTogether_17 ?_
      refine a_is1 fS_wornTogether_18 (by decide) rfl ?_
      refine a_inc2 fS_wornTogether_19 (by decide) rfl ?_
      refine a_goto fS_wornTogether_22 ?_
      rw [nI_1, show nI c0 + nF W i = nI (c0 + W i) from nI_add _ _]
      exact ih (i + 1) _ t (by omega) (by rw [← ht]; simp only [sm]; omega)
  refine fE.of (L := [some (.ref s), none, none]) (by decide +kernel) (Nat.le_of_ble_eq_true rfl) rfl ?_
  refine a_ic fS_wornTogether_0 ?_
  refine a_is1 fS_wornTogether_1 (by decide) rfl ?_
  refine a_ic fS_wornTogether_2 ?_
  refine a_is2 fS_wornTogether_3 (by decide) rfl ?_
  exact loop 10 0 0 _ rfl (by omega)
theorem c_Bbegin {b s p e : Nat} (hb : h b = bO b s p e) : fE M_B_begin E [.ref b] n h (eN n (va_up h b (bO b 0 0 0))) := by
  refine fE.of (L := [some (.ref b)]) (by decide +kernel) (Nat.le_of_ble_eq_true rfl) rfl ?_
  refine a_al0 fB_begin_0 ?_
  refine a_ic fB_begin_1 ?_
  refine a_pfi2 fB_begin_2 p_B_18 hb ?_
  refine a_al0 fB_begin_5 ?_
  refine a_ic fB_begin_6 ?_
  refine a_pfi3 fB_begin_7 p_B_22 up_s ?_
  rw [bx_uu]
  refine a_al0 fB_begin_10 ?_
  refine a_ic fB_begin_11 ?_
  refine a_pfi4 fB_begin_12 p_B_25 up_s ?_
  rw [bx_uu]
  exact a_rv fB_begin_15 rfl (⟨rfl, rfl, rfl⟩)
theorem c_Bbecome {b o s p e s2 p2 e2 : Nat} {f g f2 g2 : Nat → Nat} (hb : h b = bO b s p e) (hf : h (b + 1) = nA 6 f) (hg : h (b + 2) = nA 6 g) (ho : h o = bO o s2 p2 e2) (hf2 : h (o + 1) = nA 6 f2) (hg2 : h (o + 2) = nA 6 g2) (a : b + 2 < o ∨ o + 2 < b) :
    fE M_B_become E [.ref b, .ref o] n h (eN n (va_up (va_up (va_up h (b + 1) (nA 6 (va_cpy f2 f 0 0 6))) (b + 2) (nA 6 (va_cpy g2 g 0 0 6))) b (bO b s2 p2 e2))) := by
  refine fE.of (L := [some (.ref b), some (.ref o)]) (by decide +kernel) (Nat.le_of_ble_eq_true rfl) rfl ?_
  refine a_al1 fB_become_0 ?_
  refine a_gf fB_become_1 l_B_9 ho rfl ?_
  refine a_ic fB_become_4 ?_
  refine a_al0 fB_become_5 ?_
  refine a_gf fB_become_6 l_B_9 hb rfl ?_
  refine a_ic fB_become_9 ?_
  refine a_ic fB_become_10 ?_
  refine a_cp fB_become_12 k_B_28 hf2 hf (show (0 : Int32) = nI 0 from rfl) (show (0 : Int32) = nI 0 from rfl) (show (6 : Int32) = nI 6 from rfl) (by decide) (by decide) (by decide) (by decide) (by decide) (Nat.le_of_ble_eq_true rfl) ?_
  refine a_al1 fB_become_15 ?_
  refine a_gf fB_become_16 l_B_15 (up_n (by omega) ho) rfl ?_
  refine a_ic fB_become_19 ?_
  refine a_al0 fB_become_20 ?_
  refine a_gf fB_become_21 l_B_15 (up_n (by omega) hb) rfl ?_
  refine a_ic fB_become_24 ?_
  refine a_ic fB_become_25 ?_
  refine a_cp fB_become_27 k_B_28 (up_n (by omega) hg2) (up_n (by omega) hg) (show (0 : Int32) = nI 0 from rfl) (show (0 : Int32) = nI 0 from rfl) (show (6 : Int32) = nI 6 from rfl) (by decide) (by decide) (by decide) (by decide) (by decide) (Nat.le_of_ble_eq_true rfl) ?_
  refine a_al0 fB_become_30 ?_
  refine a_al1 fB_become_31 ?_
  refine a_gf fB_become_32 l_B_18 (up_n (by omega) (up_n (by omega) ho)) rfl ?_
  refine a_pfi2 fB_become_35 p_B_18 (up_n (by omega) (up_n (by omega) hb)) ?_
  refine a_al0 fB_become_38 ?_
  refine a_al1 fB_become_39 ?_
  refine a_gf fB_become_40 l_B_22 (up_n (by omega) (up_n (by omega) (up_n (by omega) ho))) rfl ?_
  refine a_pfi3 fB_become_43 p_B_22 up_s ?_
  rw [bx_uu]
  refine a_al0 fB_become_46 ?_
  refine a_al1 fB_become_47 ?_
  refine a_gf fB_become_48 l_B_25 (up_n (by omega) (up_n (by omega) (up_n (by omega) ho))) rfl ?_
  refine a_pfi4 fB_become_51 p_B_25 up_s ?_
  rw [bx_uu]
  exact a_rv fB_become_54 rfl (⟨rfl, rfl, rfl⟩)
theorem c_holds {b s p e : Nat} {i : Int32} (hb : h b = bO b s p e) (hs : s ≤ 6) : fE M_B_holds E [.ref b, .int i] n h (eV (.int (bI (0 ≤ i ∧ i < nI s))) n h) := by
  refine fE.of (L := [some (.ref b), some (.int i)]) (by decide +kernel) (Nat.le_of_ble_eq_true rfl) rfl ?_
  refine a_il1 fB_holds_0 ?_
  refine a_if_lt fB_holds_1 (fun c => ?_) (fun c => ?_)
  · refine a_ic fB_holds_22 ?_
    exact a_rz fB_holds_23 rfl (by first | rfl | (split <;> rfl)) (⟨sv (by rw [bI_f (fun z => absurd z.1 (Int32.not_le.mpr c))]), rfl, rfl⟩)
  · have c1 := Int32.not_lt.mp c
    refine a_il1 fB_holds_4 ?_
    refine a_al0 fB_holds_5 ?_
    refine a_gf fB_holds_6 l_B_18 hb rfl ?_
    refine a_ic_ge fB_holds_9 (fun c => ?_) (fun c => ?_)
    · refine a_ic fB_holds_22 ?_
      exact a_rz fB_holds_23 rfl (by first | rfl | (split <;> rfl)) (⟨sv (by rw [bI_f (fun z => absurd z.2 (Int32.not_lt.mpr c))]), rfl, rfl⟩)
    · have c2 := Int32.not_le.mp c
      obtain ⟨j, hj, rfl⟩ := nI_of (Int32.not_lt.mpr c1)
      have c3 := (nI_ltI hj (by omega)).mp c2
      refine a_il1 fB_holds_12 ?_
      refine a_ic fB_holds_13 ?_
      refine a_ic_ge fB_holds_15 (fun c => absurd c (nI_ge (b := 6) (by omega) (by decide))) (fun _ => ?_)
      refine a_ic fB_holds_18 ?_
      refine a_goto fB_holds_19 ?_
      exact a_rz fB_holds_23 rfl (by first | rfl | (split <;> rfl)) (⟨sv (by rw [bI_t ⟨c1, c2⟩]), rfl, rfl⟩)
theorem c_isPaid {b s p e i : Nat} (hb : h b = bO b s p e) (hp : p < 64) (hi : i < 32) : fE M_B_isPaid E [.ref b, .int (nI i)] n h (eV (.int (bI (p / 2 ^ i % 2 = 1))) n h) := by
  refine fE.of (L := [some (.ref b), some (.int (nI i))]) (by decide +kernel) (Nat.le_of_ble_eq_true rfl) rfl ?_
  refine a_al0 fB_isPaid_0 ?_
  refine a_gf fB_isPaid_1 l_B_22 hb rfl ?_
  refine a_il1 fB_isPaid_4 ?_
  refine a_ishr fB_isPaid_5 ?_
  refine a_ic fB_isPaid_6 ?_
  refine a_iand fB_isPaid_7 ?_
  rw [nbit p i hp hi]
  refine a_ic fB_isPaid_8 ?_
  refine a_ic_ne fB_isPaid_9 (fun c => ?_) (fun c => ?_)
  · refine a_ic fB_isPaid_16 ?_
    exact a_rz fB_isPaid_17 rfl (by first | rfl | (split <;> rfl)) (⟨sv (by rw [bI_f (fun z => c (by rw [z]; rfl))]), rfl, rfl⟩)
  · refine a_ic fB_isPaid_12 ?_
    refine a_goto fB_isPaid_13 ?_
    exact a_rz fB_isPaid_17 rfl (by first | rfl | (split <;> rfl)) (⟨sv (by rw [bI_t ((nI_eq (b := 1) (by omega) (by decide)).mp c)]), rfl, rfl⟩)
end LF
