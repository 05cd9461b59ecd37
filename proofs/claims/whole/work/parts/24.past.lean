/-! the past, the clues -/
/-- one more to be undone: worn, day, paid, earned -/
def psR (rw W : Nat → Nat) (z D p e : Nat) : Nat → Nat := va_up (va_up (va_up (va_cpy W rw 0 (z * 13) 10) (z * 13 + 10) D) (z * 13 + 11) p) (z * 13 + 12) e
theorem up_swapb {h : hT} {a b : Nat} {x z w : cT} (n : a ≠ b) : va_up (va_up (va_up h a x) b z) a w = va_up (va_up h a w) b z := up_swap n
theorem up_comm {h : hT} (a b : Nat) {x z : cT} (n : a ≠ b) : va_up (va_up h a x) b z = va_up (va_up h b z) a x := by
  funext j
  unfold va_up
  by_cases h1 : j = a
  · subst h1; simp [n]
  · simp [h1]
section PA
variable {E : eT} {n : Nat} {h : hT}
theorem c_Pbecome {s o z z2 : Nat} {W W2 : Nat → Nat} (hs : h s = pO s z) (hw : h (s + 1) = nA 104 W) (ho : h o = pO o z2) (hw2 : h (o + 1) = nA 104 W2) (a : s + 1 < o ∨ o + 1 < s) : fE M_P_become E [.ref s, .ref o] n h (eN n (va_up (va_up h (s + 1) (nA 104 (va_cpy W2 W 0 0 104))) s (pO s z2))) := by
  refine fE.of (L := [some (.ref s), some (.ref o)]) (by decide +kernel) (Nat.le_of_ble_eq_true rfl) rfl ?_
  refine a_al1 fP_become_0 ?_
  refine a_gf fP_become_1 l_P_11 ho rfl ?_
  refine a_ic fP_become_4 ?_
  refine a_al0 fP_become_5 ?_
  refine a_gf fP_become_6 l_P_11 hs rfl ?_
  refine a_ic fP_become_9 ?_
  refine a_ic fP_become_10 ?_
  refine a_cp fP_become_12 k_P_19 hw2 hw (show (0 : Int32) = nI 0 from rfl) (show (0 : Int32) = nI 0 from rfl) (show (104 : Int32) = nI 104 from rfl) (by decide) (by decide) (by decide) (by decide) (by decide) (Nat.le_of_ble_eq_true rfl) ?_
  refine a_al0 fP_become_15 ?_
  refine a_al1 fP_become_16 ?_
  refine a_gf fP_become_17 l_P_15 (up_n (by omega) ho) rfl ?_
  refine a_pfi1 fP_become_20 p_P_15 (up_n (by omega) hs) ?_
  exact a_rv fP_become_23 rfl (⟨rfl, rfl, rfl⟩)
theorem c_push {r s b z D bs p e : Nat} {rw W : Nat → Nat} (hr : h r = pO r z) (hw : h (r + 1) = nA 104 rw) (hs : h s = sO (s + 1) D) (hW : h (s + 1) = nA 10 W) (hb : h b = bO b bs p e) (hz : z ≤ 8) (a1 : s + 1 < r ∨ r + 1 < s) (a2 : b < r ∨ r + 1 < b) :
    fE M_P_push E [.ref r, .ref s, .ref b] n h (eN n (va_up (va_up h (r + 1) (nA 104 (if z = 8 then psR (va_cpy rw rw 13 0 91) W 7 D p e else psR rw W z D p e))) r (pO r (if z = 8 then 8 else z + 1)))) := by
  have tail : ∀ (rw0 : Nat → Nat) (z0 : Nat) (R : Nat → Nat) (Z0 : Nat), z0 ≤ 7 → psR rw0 W z0 D p e = R → z0 + 1 = Z0 → ∀ x3 : Option Value, fA M_P_push E (fZ M_P_push E (eN n (va_up (va_up h (r + 1) (nA 104 R)) r (pO r Z0)))) n (va_up (va_up h (r + 1) (nA 104 rw0)) r (pO r z0)) 0 0 31 [some (.ref r), some (.ref s), some (.ref b), x3] [] := by
    intro rw0 z0 R Z0 h0 hR hZ x3
    refine a_al0 fP_push_31 ?_
    refine a_gf fP_push_32 l_P_15 up_s rfl ?_
    refine a_ic fP_push_35 ?_
    refine a_imul fP_push_37 ?_
    rw [show nI z0 * 13 = nI (z0 * 13) from pk_mul z0 13]
    refine a_is3 fP_push_38 (by decide) rfl ?_
    refine a_al1 fP_push_39 ?_
    refine a_gf fP_push_40 l_P_25 (up_n (by omega) (up_n (by omega) hs)) rfl ?_
    refine a_ic fP_push_43 ?_
    refine a_al0 fP_push_44 ?_
    refine a_gf fP_push_45 l_P_11 up_s rfl ?_
    refine a_il3 fP_push_48 ?_
    refine a_ic fP_push_49 ?_
    refine a_cp fP_push_51 k_P_19 (up_n (by omega) (up_n (by omega) hW)) (up_n (by omega) up_s) (show (0 : Int32) = nI 0 from rfl) rfl (show (10 : Int32) = nI 10 from rfl) (by decide) (by omega) (by decide) (by decide) (by decide) (Nat.le_of_ble_eq_true rfl) ?_
    rw [up_swapb (by omega)]
    refine a_al0 fP_push_54 ?_
    refine a_gf fP_push_55 l_P_11 up_s rfl ?_
    refine a_il3 fP_push_58 ?_
    refine a_ic fP_push_59 ?_
    refine a_iadd fP_push_61 ?_
    refine a_al1 fP_push_62 ?_
    refine a_gf fP_push_63 l_P_30 (up_n (by omega) (up_n (by omega) hs)) rfl ?_
    refine a_it fP_push_66 (up_n (by omega) up_s) (nI_add _ 10) (by omega) (by decide) ?_
    rw [upd_nF, up_swapb (by omega)]
    refine a_al0 fP_push_67 ?_
    refine a_gf fP_push_68 l_P_11 up_s rfl ?_
    refine a_il3 fP_push_71 ?_
    refine a_ic fP_push_72 ?_
    refine a_iadd fP_push_74 ?_
    refine a_al2 fP_push_75 ?_
    refine a_gf fP_push_76 l_P_33 (up_n (by omega) (up_n (by omega) hb)) rfl ?_
    refine a_it fP_push_79 (up_n (by omega) up_s) (nI_add _ 11) (by omega) (by decide) ?_
    rw [upd_nF, up_swapb (by omega)]
    refine a_al0 fP_push_80 ?_
    refine a_gf fP_push_81 l_P_11 up_s rfl ?_
    refine a_il3 fP_push_84 ?_
    refine a_ic fP_push_85 ?_
    refine a_iadd fP_push_87 ?_
    refine a_al2 fP_push_88 ?_
    refine a_gf fP_push_89 l_P_38 (up_n (by omega) (up_n (by omega) hb)) rfl ?_
    refine a_it fP_push_92 (up_n (by omega) up_s) (nI_add _ 12) (by omega) (by decide) ?_
    rw [upd_nF, up_swapb (by omega)]
    refine a_al0 fP_push_93 ?_
    refine a_dup fP_push_94 rfl ?_
    refine a_gf fP_push_95 l_P_15 up_s rfl ?_
    refine a_ic fP_push_98 ?_
    refine a_iadd fP_push_99 ?_
    refine a_pfi1 fP_push_100 p_P_15 up_s ?_
    rw [bx_uu, nI_1]
    exact a_rv fP_push_103 rfl (⟨rfl, rfl, by rw [← hR, ← hZ]; rfl⟩)
  have e0 : va_up (va_up h (r + 1) (nA 104 rw)) r (pO r z) = h := by rw [up_id hw, up_id hr]
  refine fE.of (L := [some (.ref r), some (.ref s), some (.ref b), none]) (by decide +kernel) (Nat.le_of_ble_eq_true rfl) rfl ?_
  by_cases c9 : z = 8
  · subst c9
    refine a_al0 fP_push_0 ?_
    refine a_gf fP_push_1 l_P_15 hr rfl ?_
    refine a_ic fP_push_4 ?_
    refine a_ic_lt fP_push_6 (fun c => absurd c (fun c => Int32.lt_irrefl c)) (fun _ => ?_)
    refine a_al0 fP_push_9 ?_
    refine a_gf fP_push_10 l_P_11 hr rfl ?_
    refine a_ic fP_push_13 ?_
    refine a_al0 fP_push_15 ?_
    refine a_gf fP_push_16 l_P_11 hr rfl ?_
    refine a_ic fP_push_19 ?_
    refine a_ic fP_push_20 ?_
    refine a_cp fP_push_22 k_P_19 hw hw (show (13 : Int32) = nI 13 from rfl) (show (0 : Int32) = nI 0 from rfl) (show (91 : Int32) = nI 91 from rfl) (by decide) (by decide) (by decide) (by decide) (by decide) (Nat.le_of_ble_eq_true rfl) ?_
    refine a_al0 fP_push_25 ?_
    refine a_ic fP_push_26 ?_
    refine a_pfi1 fP_push_28 p_P_15 (up_n (by omega) hr) ?_
    rw [if_pos rfl, if_pos rfl]
    exact tail _ 7 _ 8 (by decide) rfl rfl _
  · have _ := hr
    refine a_al0 fP_push_0 ?_
    refine a_gf fP_push_1 l_P_15 hr rfl ?_
    refine a_ic fP_push_4 ?_
    refine a_ic_lt fP_push_6 (fun _ => ?_) (fun c => absurd (nI_lt (b := 8) (by omega) (by decide)) c)
    rw [if_neg c9, if_neg c9]
    have := tail rw z _ _ (by omega) rfl rfl none
    rw [e0] at this
    exact this
theorem c_pop {r s b z D bs p e : Nat} {rw W : Nat → Nat} (hr : h r = pO r (z + 1)) (hw : h (r + 1) = nA 104 rw) (hs : h s = sO (s + 1) D) (hW : h (s + 1) = nA 10 W) (hb : h b = bO b bs p e) (hz : z ≤ 7) (a1 : s + 1 < r ∨ r + 1 < s) (a2 : b < r ∨ r + 1 < b) (a3 : b < s ∨ s + 1 < b) :
    fE M_P_pop E [.ref r, .ref s, .ref b] n h (eN n (va_up (va_up (va_up (va_up h r (pO r z)) (s + 1) (nA 10 (va_cpy rw W (z * 13) 0 10))) s (sO (s + 1) (rw (z * 13 + 10)))) b (bO b bs (rw (z * 13 + 11)) (rw (z * 13 + 12))))) := by
  refine fE.of (L := [some (.ref r), some (.ref s), some (.ref b), none]) (by decide +kernel) (Nat.le_of_ble_eq_true rfl) rfl ?_
  refine a_al0 fP_pop_0 ?_
  refine a_gf fP_pop_1 l_P_15 hr rfl ?_
  refine a_if_le fP_pop_4 (fun c => absurd c (nI_nle (by omega) (by omega))) (fun _ => ?_)
  refine a_al0 fP_pop_7 ?_
  refine a_gf fP_pop_8 l_P_15 hr rfl ?_
  refine a_ic fP_pop_11 ?_
  refine a_ic_gt fP_pop_13 (fun c => absurd c (fun c => absurd ((nI_ltI (a := 8) (by decide) (by omega)).mp c) (by omega))) (fun _ => ?_)
  refine a_al0 fP_pop_16 ?_
  refine a_dup fP_pop_17 rfl ?_
  refine a_gf fP_pop_18 l_P_15 hr rfl ?_
  refine a_ic fP_pop_21 ?_
  refine a_isub fP_pop_22 ?_
  refine a_pfi1 fP_pop_23 p_P_15 hr ?_
  rw [show nI (z + 1) - 1 = nI z from nI_pred z]
  refine a_al0 fP_pop_26 ?_
  refine a_gf fP_pop_27 l_P_15 up_s rfl ?_
  refine a_ic fP_pop_30 ?_
  refine a_imul fP_pop_32 ?_
  rw [show nI z * 13 = nI (z * 13) from pk_mul z 13]
  refine a_is3 fP_pop_33 (by decide) rfl ?_
  refine a_al0 fP_pop_34 ?_
  refine a_gf fP_pop_35 l_P_11 up_s rfl ?_
  refine a_il3 fP_pop_38 ?_
  refine a_al1 fP_pop_39 ?_
  refine a_gf fP_pop_40 l_P_25 (up_n (by omega) hs) rfl ?_
  refine a_ic fP_pop_43 ?_
  refine a_ic fP_pop_44 ?_
  refine a_cp fP_pop_46 k_P_19 (up_n (by omega) hw) (up_n (by omega) hW) rfl (show (0 : Int32) = nI 0 from rfl) (show (10 : Int32) = nI 10 from rfl) (by omega) (by decide) (by decide) (by decide) (by decide) (Nat.le_of_ble_eq_true rfl) ?_
  refine a_al1 fP_pop_49 ?_
  refine a_al0 fP_pop_50 ?_
  refine a_gf fP_pop_51 l_P_11 (up_n (by omega) up_s) rfl ?_
  refine a_il3 fP_pop_54 ?_
  refine a_ic fP_pop_55 ?_
  refine a_iadd fP_pop_57 ?_
  refine a_ia fP_pop_58 (up_n (by omega) (up_n (by omega) hw)) (nI_add _ 10) (by omega) (by decide) ?_
  refine a_pfi1 fP_pop_59 p_P_30 (up_n (by omega) (up_n (by omega) hs)) ?_
  refine a_al2 fP_pop_62 ?_
  refine a_al0 fP_pop_63 ?_
  refine a_gf fP_pop_64 l_P_11 (up_n (by omega) (up_n (by omega) up_s)) rfl ?_
  refine a_il3 fP_pop_67 ?_
  refine a_ic fP_pop_68 ?_
  refine a_iadd fP_pop_70 ?_
  refine a_ia fP_pop_71 (up_n (by omega) (up_n (by omega) (up_n (by omega) hw))) (nI_add _ 11) (by omega) (by decide) ?_
  refine a_pfi3 fP_pop_72 p_P_33 (up_n (by omega) (up_n (by omega) (up_n (by omega) hb))) ?_
  refine a_al2 fP_pop_75 ?_
  refine a_al0 fP_pop_76 ?_
  refine a_gf fP_pop_77 l_P_11 (up_n (by omega) (up_n (by omega) (up_n (by omega) up_s))) rfl ?_
  refine a_il3 fP_pop_80 ?_
  refine a_ic fP_pop_81 ?_
  refine a_iadd fP_pop_83 ?_
  refine a_ia fP_pop_84 (up_n (by omega) (up_n (by omega) (up_n (by omega) (up_n (by omega) hw)))) (nI_add _ 12) (by omega) (by decide) ?_
  refine a_pfi4 fP_pop_85 p_P_38 up_s ?_
  rw [bx_uu]
  exact a_rv fP_pop_88 rfl (⟨rfl, rfl, rfl⟩)
theorem c_Cbecome {c o t m t2 m2 : Nat} {f1 f2 f3 f4 f5 f6 g1 g2 g3 g4 g5 g6 : Nat → Nat} (hc : h c = cO c t m) (k1 : h (c + 1) = nA 6 f1) (k2 : h (c + 2) = nA 6 f2) (k3 : h (c + 3) = nA 6 f3) (k4 : h (c + 4) = nA 6 f4) (k5 : h (c + 5) = nA 6 f5) (k6 : h (c + 6) = nA 6 f6)
    (ho : h o = cO o t2 m2) (o1 : h (o + 1) = nA 6 g1) (o2 : h (o + 2) = nA 6 g2) (o3 : h (o + 3) = nA 6 g3) (o4 : h (o + 4) = nA 6 g4) (o5 : h (o + 5) = nA 6 g5) (o6 : h (o + 6) = nA 6 g6) (a : c + 6 < o ∨ o + 6 < c) :
    fE M_C_become E [.ref c, .ref o] n h (eN n (va_up (va_up (va_up (va_up (va_up (va_up (va_up h (c + 1) (nA 6 (va_cpy g1 f1 0 0 6))) (c + 2) (nA 6 (va_cpy g2 f2 0 0 6))) (c + 3) (nA 6 (va_cpy g3 f3 0 0 6))) (c + 4) (nA 6 (va_cpy g4 f4 0 0 6))) (c + 5) (nA 6 (va_cpy g5 f5 0 0 6))) (c + 6) (nA 6 (va_cpy g6 f6 0 0 6))) c (cO c t2 m2))) := by
  refine fE.of (L := [some (.ref c), some (.ref o)]) (by decide +kernel) (Nat.le_of_ble_eq_true rfl) rfl ?_
  refine a_al1 fC_become_0 ?_
  refine a_gf fC_become_1 l_C_9 ho rfl ?_
  refine a_ic fC_become_4 ?_
  refine a_al0 fC_become_5 ?_
  refine a_gf fC_become_6 l_C_9 hc rfl ?_
  refine a_ic fC_become_9 ?_
  refine a_ic fC_become_10 ?_
  refine a_cp fC_become_12 k_C_37 o1 k1 (show (0 : Int32) = nI 0 from rfl) (show (0 : Int32) = nI 0 from rfl) (show (6 : Int32) = nI 6 from rfl) (by decide) (by decide) (by decide) (by decide) (by decide) (Nat.le_of_ble_eq_true rfl) ?_
  refine a_al1 fC_become_15 ?_
  refine a_gf fC_become_16 l_C_15 (up_n (by omega) ho) rfl ?_
  refine a_ic fC_become_19 ?_
  refine a_al0 fC_become_20 ?_
  refine a_gf fC_become_21 l_C_15 (up_n (by omega) hc) rfl ?_
  refine a_ic fC_become_24 ?_
  refine a_ic fC_become_25 ?_
  refine a_cp fC_become_27 k_C_37 (up_n (by omega) o2) (up_n (by omega) k2) (show (0 : Int32) = nI 0 from rfl) (show (0 : Int32) = nI 0 from rfl) (show (6 : Int32) = nI 6 from rfl) (by decide) (by decide) (by decide) (by decide) (by decide) (Nat.le_of_ble_eq_true rfl) ?_
  refine a_al0 fC_become_30 ?_
  refine a_al1 fC_become_31 ?_
  refine a_gf fC_become_32 l_C_18 (up_n (by omega) (up_n (by omega) ho)) rfl ?_
  refine a_pfi2 fC_become_35 p_C_18 (up_n (by omega) (up_n (by omega) hc)) ?_
  refine a_al1 fC_become_38 ?_
  refine a_gf fC_become_39 l_C_22 (up_n (by omega) (up_n (by omega) (up_n (by omega) ho))) rfl ?_
  refine a_ic fC_become_42 ?_
  refine a_al0 fC_become_43 ?_
  refine a_gf fC_become_44 l_C_22 up_s rfl ?_
  refine a_ic fC_become_47 ?_
  refine a_ic fC_become_48 ?_
  refine a_cp fC_become_50 k_C_37 (up_n (by omega) (up_n (by omega) (up_n (by omega) o3))) (up_n (by omega) (up_n (by omega) (up_n (by omega) k3))) (show (0 : Int32) = nI 0 from rfl) (show (0 : Int32) = nI 0 from rfl) (show (6 : Int32) = nI 6 from rfl) (by decide) (by decide) (by decide) (by decide) (by decide) (Nat.le_of_ble_eq_true rfl) ?_
  rw [up_comm c (c + 3) (by omega)]
  refine a_al1 fC_become_53 ?_
  refine a_gf fC_become_54 l_C_25 (up_n (by omega) (up_n (by omega) (up_n (by omega) (up_n (by omega) ho)))) rfl ?_
  refine a_ic fC_become_57 ?_
  refine a_al0 fC_become_58 ?_
  refine a_gf fC_become_59 l_C_25 up_s rfl ?_
  refine a_ic fC_become_62 ?_
  refine a_ic fC_become_63 ?_
  refine a_cp fC_become_65 k_C_37 (up_n (by omega) (up_n (by omega) (up_n (by omega) (up_n (by omega) o4)))) (up_n (by omega) (up_n (by omega) (up_n (by omega) (up_n (by omega) k4)))) (show (0 : Int32) = nI 0 from rfl) (show (0 : Int32) = nI 0 from rfl) (show (6 : Int32) = nI 6 from rfl) (by decide) (by decide) (by decide) (by decide) (by decide) (Nat.le_of_ble_eq_true rfl) ?_
  rw [up_comm c (c + 4) (by omega)]
  refine a_al1 fC_become_68 ?_
  refine a_gf fC_become_69 l_C_28 (up_n (by omega) (up_n (by omega) (up_n (by omega) (up_n (by omega) (up_n (by omega) ho))))) rfl ?_
  refine a_ic fC_become_72 ?_
  refine a_al0 fC_become_73 ?_
  refine a_gf fC_become_74 l_C_28 up_s rfl ?_
  refine a_ic fC_become_77 ?_
  refine a_ic fC_become_78 ?_
  refine a_cp fC_become_80 k_C_37 (up_n (by omega) (up_n (by omega) (up_n (by omega) (up_n (by omega) (up_n (by omega) o5))))) (up_n (by omega) (up_n (by omega) (up_n (by omega) (up_n (by omega) (up_n (by omega) k5))))) (show (0 : Int32) = nI 0 from rfl) (show (0 : Int32) = nI 0 from rfl) (show (6 : Int32) = nI 6 from rfl) (by decide) (by decide) (by decide) (by decide) (by decide) (Nat.le_of_ble_eq_true rfl) ?_
  rw [up_comm c (c + 5) (by omega)]
  refine a_al1 fC_become_83 ?_
  refine a_gf fC_become_84 l_C_31 (up_n (by omega) (up_n (by omega) (up_n (by omega) (up_n (by omega) (up_n (by omega) (up_n (by omega) ho)))))) rfl ?_
  refine a_ic fC_become_87 ?_
  refine a_al0 fC_become_88 ?_
  refine a_gf fC_become_89 l_C_31 up_s rfl ?_
  refine a_ic fC_become_92 ?_
  refine a_ic fC_become_93 ?_
  refine a_cp fC_become_95 k_C_37 (up_n (by omega) (up_n (by omega) (up_n (by omega) (up_n (by omega) (up_n (by omega) (up_n (by omega) o6)))))) (up_n (by omega) (up_n (by omega) (up_n (by omega) (up_n (by omega) (up_n (by omega) (up_n (by omega) k6)))))) (show (0 : Int32) = nI 0 from rfl) (show (0 : Int32) = nI 0 from rfl) (show (6 : Int32) = nI 6 from rfl) (by decide) (by decide) (by decide) (by decide) (by decide) (Nat.le_of_ble_eq_true rfl) ?_
  rw [up_comm c (c + 6) (by omega)]
  refine a_al0 fC_become_98 ?_
  refine a_al1 fC_become_99 ?_
  refine a_gf fC_become_100 l_C_34 (up_n (by omega) (up_n (by omega) (up_n (by omega) (up_n (by omega) (up_n (by omega) (up_n (by omega) (up_n (by omega) ho))))))) rfl ?_
  refine a_pfi7 fC_become_103 p_C_34 up_s ?_
  rw [bx_uu]
  exact a_rv fC_become_106 rfl (⟨rfl, rfl, rfl⟩)
theorem c_addTrace {c t m x v : Nat} {f g : Nat → Nat} (hc : h c = cO c t m) (hf : h (c + 1) = nA 6 f) (hg : h (c + 2) = nA 6 g) (ht : t < 6) : fE M_C_addTrace E [.ref c, .int (nI x), .int (nI v)] n h (eN n (va_up (va_up (va_up h (c + 1) (nA 6 (va_up f t x))) (c + 2) (nA 6 (va_up g t v))) c (cO c (t + 1) m))) := by
  refine fE.of (L := [some (.ref c), some (.int (nI x)), some (.int (nI v))]) (by decide +kernel) (Nat.le_of_ble_eq_true rfl) rfl ?_
  refine a_al0 fC_addTrace_0 ?_
  refine a_gf fC_addTrace_1 l_C_18 hc rfl ?_
  refine a_ic fC_addTrace_4 ?_
  refine a_ic_ge fC_addTrace_6 (fun c => absurd c (nI_ge (b := 6) ht (by decide))) (fun _ => ?_)
  refine a_al0 fC_addTrace_9 ?_
  refine a_gf fC_addTrace_10 l_C_9 hc rfl ?_
  refine a_al0 fC_addTrace_13 ?_
  refine a_gf fC_addTrace_14 l_C_18 hc rfl ?_
  refine a_il1 fC_addTrace_17 ?_
  refine a_it fC_addTrace_18 hf rfl (by omega) (by decide) ?_
  rw [upd_nF]
  refine a_al0 fC_addTrace_19 ?_
  refine a_gf fC_addTrace_20 l_C_15 (up_n (by omega) hc) rfl ?_
  refine a_al0 fC_addTrace_23 ?_
  refine a_gf fC_addTrace_24 l_C_18 (up_n (by omega) hc) rfl ?_
  refine a_il2 fC_addTrace_27 ?_
  refine a_it fC_addTrace_28 (up_n (by omega) hg) rfl (by omega) (by decide) ?_
  rw [upd_nF]
  refine a_al0 fC_addTrace_29 ?_
  refine a_dup fC_addTrace_30 rfl ?_
  refine a_gf fC_addTrace_31 l_C_18 (up_n (by omega) (up_n (by omega) hc)) rfl ?_
  refine a_ic fC_addTrace_34 ?_
  refine a_iadd fC_addTrace_35 ?_
  refine a_pfi2 fC_addTrace_36 p_C_18 (up_n (by omega) (up_n (by omega) hc)) ?_
  rw [nI_1]
  exact a_rv fC_addTrace_39 rfl (⟨rfl, rfl, rfl⟩)
theorem c_addNote {c t m x k d v : Nat} {f1 f2 f3 f4 : Nat → Nat} (hc : h c = cO c t m) (k1 : h (c + 3) = nA 6 f1) (k2 : h (c + 4) = nA 6 f2) (k3 : h (c + 5) = nA 6 f3) (k4 : h (c + 6) = nA 6 f4) (ht : m < 6) : fE M_C_addNote E [.ref c, .int (nI x), .int (nI k), .int (nI d), .int (nI v)] n h (eN n (va_up (va_up (va_up (va_up (va_up h (c + 3) (nA 6 (va_up f1 m x))) (c + 4) (nA 6 (va_up f2 m k))) (c + 5) (nA 6 (va_up f3 m d))) (c + 6) (nA 6 (va_up f4 m v))) c (cO c t (m + 1)))) := by
  refine fE.of (L := [some (.ref c), some (.int (nI x)), some (.int (nI k)), some (.int (nI d)), some (.int (nI v))]) (by decide +kernel) (Nat.le_of_ble_eq_true rfl) rfl ?_
  refine a_al0 fC_addNote_0 ?_
  refine a_gf fC_addNote_1 l_C_34 hc rfl ?_
  refine a_ic fC_addNote_4 ?_
  refine a_ic_ge fC_addNote_6 (fun c => absurd c (nI_ge (b := 6) ht (by decide))) (fun _ => ?_)
  refine a_al0 fC_addNote_9 ?_
  refine a_gf fC_addNote_10 l_C_22 hc rfl ?_
  refine a_al0 fC_addNote_13 ?_
  refine a_gf fC_addNote_14 l_C_34 hc rfl ?_
  refine a_il1 fC_addNote_17 ?_
  refine a_it fC_addNote_18 k1 rfl (by omega) (by decide) ?_
  rw [upd_nF]
  refine a_al0 fC_addNote_19 ?_
  refine a_gf fC_addNote_20 l_C_25 (up_n (by omega) hc) rfl ?_
  refine a_al0 fC_addNote_23 ?_
  refine a_gf fC_addNote_24 l_C_34 (up_n (by omega) hc) rfl ?_
  refine a_il2 fC_addNote_27 ?_
  refine a_it fC_addNote_28 (up_n (by omega) k2) rfl (by omega) (by decide) ?_
  rw [upd_nF]
  refine a_al0 fC_addNote_29 ?_
  refine a_gf fC_addNote_30 l_C_28 (up_n (by omega) (up_n (by omega) hc)) rfl ?_
  refine a_al0 fC_addNote_33 ?_
  refine a_gf fC_addNote_34 l_C_34 (up_n (by omega) (up_n (by omega) hc)) rfl ?_
  refine a_il3 fC_addNote_37 ?_
  refine a_it fC_addNote_38 (up_n (by omega) (up_n (by omega) k3)) rfl (by omega) (by decide) ?_
  rw [upd_nF]
  refine a_al0 fC_addNote_39 ?_
  refine a_gf fC_addNote_40 l_C_31 (up_n (by omega) (up_n (by omega) (up_n (by omega) hc))) rfl ?_
  refine a_al0 fC_addNote_43 ?_
  refine a_gf fC_addNote_44 l_C_34 (up_n (by omega) (up_n (by omega) (up_n (by omega) hc))) rfl ?_
  refine a_il4 fC_addNote_47 ?_
  refine a_it fC_addNote_49 (up_n (by omega) (up_n (by omega) (up_n (by omega) k4))) rfl (by omega) (by decide) ?_
  rw [upd_nF]
  refine a_al0 fC_addNote_50 ?_
  refine a_dup fC_addNote_51 rfl ?_
  refine a_gf fC_addNote_52 l_C_34 (up_n (by omega) (up_n (by omega) (up_n (by omega) (up_n (by omega) hc)))) rfl ?_
  refine a_ic fC_addNote_55 ?_
  refine a_iadd fC_addNote_56 ?_
  refine a_pfi7 fC_addNote_57 p_C_34 (up_n (by omega) (up_n (by omega) (up_n (by omega) (up_n (by omega) hc)))) ?_
  rw [nI_1]
  exact a_rv fC_addNote_60 rfl (⟨rfl, rfl, rfl⟩)
theorem c_dropTraces {c t m : Nat} (hc : h c = cO c t m) : fE M_C_dropTraces E [.ref c] n h (eV (.int (nI t)) n (va_up h c (cO c 0 m))) := by
  refine fE.of (L := [some (.ref c), none]) (by decide +kernel) (Nat.le_of_ble_eq_true rfl) rfl ?_
  refine a_al0 fC_dropTraces_0 ?_
  refine a_gf fC_dropTraces_1 l_C_18 hc rfl ?_
  refine a_is1 fC_dropTraces_4 (by decide) rfl ?_
  refine a_al0 fC_dropTraces_5 ?_
  refine a_ic fC_dropTraces_6 ?_
  refine a_pfi2 fC_dropTraces_7 p_C_18 hc ?_
  refine a_il1 fC_dropTraces_10 ?_
  exact a_ri fC_dropTraces_11 rfl (⟨rfl, rfl, rfl⟩)
theorem c_dropNotes {c t m : Nat} (hc : h c = cO c t m) : fE M_C_dropNotes E [.ref c] n h (eV (.int (nI m)) n (va_up h c (cO c t 0))) := by
  refine fE.of (L := [some (.ref c), none]) (by decide +kernel) (Nat.le_of_ble_eq_true rfl) rfl ?_
  refine a_al0 fC_dropNotes_0 ?_
  refine a_gf fC_dropNotes_1 l_C_34 hc rfl ?_
  refine a_is1 fC_dropNotes_4 (by decide) rfl ?_
  refine a_al0 fC_dropNotes_5 ?_
  refine a_ic fC_dropNotes_6 ?_
  refine a_pfi7 fC_dropNotes_7 p_C_34 hc ?_
  refine a_il1 fC_dropNotes_10 ?_
  exact a_ri fC_dropNotes_11 rfl (⟨rfl, rfl, rfl⟩)
end PA
