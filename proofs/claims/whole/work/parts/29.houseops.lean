/-! what houses do -/
def tfN (N : Nat → Nat) (f k s : Nat) : Nat → Nat := va_up (va_up (va_up N f k) (10 + f) s) 84 0
def tbN (N : Nat → Nat) (v w : Nat) : Nat → Nat := va_up (va_up (va_up (va_up N (32 + N 31) v) (38 + N 31) w) 31 (N 31 + 1)) 84 0
def shN (N : Nat → Nat) : Nat → Nat := fun i => if 85 ≤ i ∧ i < 176 then N (i + 13) else if i = 84 then 7 else N i
def puN (N : Nat → Nat) : Nat → Nat := fun i => if 85 + 13 * N 84 ≤ i ∧ i < 95 + 13 * N 84 then N (20 + (i - (85 + 13 * N 84))) else if i = 95 + 13 * N 84 then N 30 else if i = 96 + 13 * N 84 then N 44 else if i = 97 + 13 * N 84 then N 45 else if i = 84 then N 84 + 1 else N i
/-- one more that may be undone -/
def ntN (N : Nat → Nat) : Nat → Nat := puN (if N 84 = 8 then shN N else N)
/-- the last is undone -/
def unN (N : Nat → Nat) : Nat → Nat := fun i => if 20 ≤ i ∧ i < 30 then N (85 + 13 * (N 84 - 1) + (i - 20)) else if i = 30 then N (95 + 13 * (N 84 - 1)) else if i = 44 then N (96 + 13 * (N 84 - 1)) else if i = 45 then N (97 + 13 * (N 84 - 1)) else if i = 84 then N 84 - 1 else N i
theorem vn {α : Type} {f : Nat → α} {a b : Nat} {c : α} (n : b ≠ a) : va_up f a c b = f b := by rw [va_up, if_neg n]
section HM
variable {E : eT} {n : Nat} {h : hT}
theorem c_Hbegin {q : Nat} {N : Nat → Nat} (H : isH h q N) : fE M_H_begin E [.ref q] n h (qN (fun k g => k = n ∧ isH g q N0 ∧ frq q h g)) := by
  obtain ⟨bn, bw, tf, tm, nf, ng, nd, nm, rw, ⟨⟨a1, a2, a3, a4, a5⟩, ⟨a6, a7, a8⟩, ⟨a9, b1, b2, b3, b4, b5, b6⟩, b7, b8⟩, l1, l2, l3, l4⟩ := H
  refine fE.of (L := [some (.ref q)]) (by decide +kernel) (Nat.le_of_ble_eq_true rfl) rfl ?_
  refine a_al0 fH_begin_0 ?_
  refine a_gf fH_begin_1 l_H_9 a1 rfl ?_
  refine a_ic fH_begin_4 ?_
  refine a_S2N fH_begin_5 k_H_46 m_A_fill ⟨by decide, by decide⟩ ⟨rfl, rfl⟩ (Nat.le_of_ble_eq_true rfl) (c_fill (V := 0) (by decide) a2) ?_
  refine a_al0 fH_begin_8 ?_
  refine a_gf fH_begin_9 l_H_15 (up_n (by omega) a1) rfl ?_
  refine a_ic fH_begin_12 ?_
  refine a_S2N fH_begin_14 k_H_46 m_A_fill ⟨by decide, by decide⟩ ⟨rfl, rfl⟩ (Nat.le_of_ble_eq_true rfl) (c_fill (V := 20) (by decide) (up_n (by omega) a3)) ?_
  refine a_al0 fH_begin_17 ?_
  refine a_gf fH_begin_18 l_H_21 (up_n (by omega) (up_n (by omega) a1)) rfl ?_
  refine a_V0N fH_begin_21 k_H_52 m_S_begin ⟨by decide, by decide⟩ (up_n (by omega) (up_n (by omega) a4)) rfl ⟨rfl, rfl⟩ (Nat.le_of_ble_eq_true rfl) (c_Sbegin (s := q + 3) (up_n (by omega) (up_n (by omega) a4)) (up_n (by omega) (up_n (by omega) a5))) ?_
  refine a_al0 fH_begin_24 ?_
  refine a_gf fH_begin_25 l_H_28 (up_n (by omega) (up_n (by omega) (up_n (by omega) (up_n (by omega) a1)))) rfl ?_
  refine a_V0N fH_begin_28 k_H_55 m_B_begin ⟨by decide, by decide⟩ (up_n (by omega) (up_n (by omega) (up_n (by omega) (up_n (by omega) a6)))) rfl ⟨rfl, rfl⟩ (Nat.le_of_ble_eq_true rfl) (c_Bbegin (up_n (by omega) (up_n (by omega) (up_n (by omega) (up_n (by omega) a6))))) ?_
  refine a_al0 fH_begin_31 ?_
  refine a_gf fH_begin_32 l_H_35 (up_n (by omega) (up_n (by omega) (up_n (by omega) (up_n (by omega) (up_n (by omega) a1))))) rfl ?_
  refine a_V0V fH_begin_35 k_H_56 m_C_dropTraces ⟨by decide, by decide⟩ (up_n (by omega) (up_n (by omega) (up_n (by omega) (up_n (by omega) (up_n (by omega) a9))))) rfl ⟨rfl, rfl⟩ (Nat.le_of_ble_eq_true rfl) (c_dropTraces (up_n (by omega) (up_n (by omega) (up_n (by omega) (up_n (by omega) (up_n (by omega) a9)))))) ?_
  refine a_pop fH_begin_38 rfl ?_
  refine a_al0 fH_begin_39 ?_
  refine a_gf fH_begin_40 l_H_35 (up_n (by omega) (up_n (by omega) (up_n (by omega) (up_n (by omega) (up_n (by omega) (up_n (by omega) a1)))))) rfl ?_
  refine a_V0V fH_begin_43 k_H_60 m_C_dropNotes ⟨by decide, by decide⟩ up_s rfl ⟨rfl, rfl⟩ (Nat.le_of_ble_eq_true rfl) (c_dropNotes up_s) ?_
  refine a_pop fH_begin_46 rfl ?_
  rw [bx_uu]
  refine a_al0 fH_begin_47 ?_
  refine a_gf fH_begin_48 l_H_42 (up_n (by omega) (up_n (by omega) (up_n (by omega) (up_n (by omega) (up_n (by omega) (up_n (by omega) a1)))))) rfl ?_
  refine a_ic fH_begin_51 ?_
  refine a_pfi1 fH_begin_52 p_H_63 (up_n (by omega) (up_n (by omega) (up_n (by omega) (up_n (by omega) (up_n (by omega) (up_n (by omega) b7)))))) ?_
  refine a_rv fH_begin_55 rfl ⟨rfl, rfl, ?_, fun a ha => ?_⟩
  · have e0 : (fun j => if j < 10 then 0 else sl N 0 10 j) = sl N0 0 10 := fill_sl (fun i hi => by unfold N0; rw [if_neg (by omega)])
    have e1 : (fun j => if j < 10 then 20 else sl N 10 10 j) = sl N0 10 10 := fill_sl (fun i hi => by unfold N0; rw [if_pos (by omega)])
    have e2 : (fun j => if j < 10 then 0 else sl N 20 10 j) = sl N0 20 10 := fill_sl (fun i hi => by unfold N0; rw [if_neg (by omega)])
    refine ⟨bn, bw, tf, tm, nf, ng, nd, nm, rw, ⟨⟨?_, ?_, ?_, ?_, ?_⟩, ⟨?_, ?_, ?_⟩, ⟨?_, ?_, ?_, ?_, ?_, ?_, ?_⟩, ?_, ?_⟩, ?_⟩
    · repeat (first | exact up_s | assumption | refine up_n (by omega) ?_)
    · rw [← e0]; repeat (first | exact up_s | assumption | refine up_n (by omega) ?_)
    · rw [← e1]; repeat (first | exact up_s | assumption | refine up_n (by omega) ?_)
    · repeat (first | exact up_s | assumption | refine up_n (by omega) ?_)
    · rw [← e2]; repeat (first | exact up_s | assumption | refine up_n (by omega) ?_)
    · repeat (first | exact up_s | assumption | refine up_n (by omega) ?_)
    · repeat (first | exact up_s | assumption | refine up_n (by omega) ?_)
    · repeat (first | exact up_s | assumption | refine up_n (by omega) ?_)
    · repeat (first | exact up_s | assumption | refine up_n (by omega) ?_)
    · repeat (first | exact up_s | assumption | refine up_n (by omega) ?_)
    · repeat (first | exact up_s | assumption | refine up_n (by omega) ?_)
    · repeat (first | exact up_s | assumption | refine up_n (by omega) ?_)
    · repeat (first | exact up_s | assumption | refine up_n (by omega) ?_)
    · repeat (first | exact up_s | assumption | refine up_n (by omega) ?_)
    · repeat (first | exact up_s | assumption | refine up_n (by omega) ?_)
    · repeat (first | exact up_s | assumption | refine up_n (by omega) ?_)
    · repeat (first | exact up_s | assumption | refine up_n (by omega) ?_)
    · exact ⟨fun i hi => absurd hi (Nat.not_lt_zero _), fun i hi => absurd hi (Nat.not_lt_zero _), fun i hi => absurd hi (Nat.not_lt_zero _), fun i hi => absurd hi (Nat.not_lt_zero _)⟩
  · repeat (first | refine up_n (by omega) ?_)
    rfl
theorem c_Hbecome {q o : Nat} {N M : Nat → Nat} (H : isH h q N) (H2 : isH h o M) (d : q + 16 < o ∨ o + 16 < q) (bM : M 31 ≤ 6 ∧ M 46 ≤ 6 ∧ M 59 ≤ 6 ∧ M 84 ≤ 8) : fE M_H_become E [.ref q, .ref o] n h (qN (fun k g => k = n ∧ isH g q M ∧ frq q h g)) := by
  obtain ⟨bn, bw, tf, tm, nf, ng, nd, nm, rw, ⟨⟨a1, a2, a3, a4, a5⟩, ⟨a6, a7, a8⟩, ⟨a9, b1, b2, b3, b4, b5, b6⟩, b7, b8⟩, l1, l2, l3, l4⟩ := H
  obtain ⟨bn', bw', tf', tm', nf', ng', nd', nm', rw', ⟨⟨x1, x2, x3, x4, x5⟩, ⟨x6, x7, x8⟩, ⟨x9, y1, y2, y3, y4, y5, y6⟩, y7, y8⟩, r1, r2, r3, r4⟩ := H2
  refine fE.of (L := [some (.ref q), some (.ref o)]) (by decide +kernel) (Nat.le_of_ble_eq_true rfl) rfl ?_
  refine a_al1 fH_become_0 ?_
  refine a_gf fH_become_1 l_H_9 x1 rfl ?_
  refine a_ic fH_become_4 ?_
  refine a_al0 fH_become_5 ?_
  refine a_gf fH_become_6 l_H_9 a1 rfl ?_
  refine a_ic fH_become_9 ?_
  refine a_ic fH_become_10 ?_
  refine a_cp fH_become_12 k_H_67 x2 a2 (show (0 : Int32) = nI 0 from rfl) (show (0 : Int32) = nI 0 from rfl) (show (10 : Int32) = nI 10 from rfl) (by decide) (by decide) (by decide) (by decide) (by decide) (Nat.le_of_ble_eq_true rfl) ?_
  refine a_al1 fH_become_15 ?_
  refine a_gf fH_become_16 l_H_15 (up_n (by omega) x1) rfl ?_
  refine a_ic fH_become_19 ?_
  refine a_al0 fH_become_20 ?_
  refine a_gf fH_become_21 l_H_15 (up_n (by omega) a1) rfl ?_
  refine a_ic fH_become_24 ?_
  refine a_ic fH_become_25 ?_
  refine a_cp fH_become_27 k_H_67 (up_n (by omega) x3) (up_n (by omega) a3) (show (0 : Int32) = nI 0 from rfl) (show (0 : Int32) = nI 0 from rfl) (show (10 : Int32) = nI 10 from rfl) (by decide) (by decide) (by decide) (by decide) (by decide) (Nat.le_of_ble_eq_true rfl) ?_
  refine a_al0 fH_become_30 ?_
  refine a_gf fH_become_31 l_H_21 (up_n (by omega) (up_n (by omega) a1)) rfl ?_
  refine a_al1 fH_become_34 ?_
  refine a_gf fH_become_35 l_H_21 (up_n (by omega) (up_n (by omega) x1)) rfl ?_
  refine a_V1N fH_become_38 k_H_73 m_S_become ⟨by decide, by decide⟩ (up_n (by omega) (up_n (by omega) a4)) rfl ⟨rfl, rfl⟩ (Nat.le_of_ble_eq_true rfl) (c_Sbecome (s := q + 3) (o := o + 3) (up_n (by omega) (up_n (by omega) a4)) (up_n (by omega) (up_n (by omega) a5)) (up_n (by omega) (up_n (by omega) x4)) (up_n (by omega) (up_n (by omega) x5)) (by omega)) ?_
  refine a_al0 fH_become_41 ?_
  refine a_gf fH_become_42 l_H_28 (up_n (by omega) (up_n (by omega) (up_n (by omega) (up_n (by omega) a1)))) rfl ?_
  refine a_al1 fH_become_45 ?_
  refine a_gf fH_become_46 l_H_28 (up_n (by omega) (up_n (by omega) (up_n (by omega) (up_n (by omega) x1)))) rfl ?_
  refine a_V1N fH_become_49 k_H_77 m_B_become ⟨by decide, by decide⟩ (up_n (by omega) (up_n (by omega) (up_n (by omega) (up_n (by omega) a6)))) rfl ⟨rfl, rfl⟩ (Nat.le_of_ble_eq_true rfl) (c_Bbecome (b := q + 5) (o := o + 5) (up_n (by omega) (up_n (by omega) (up_n (by omega) (up_n (by omega) a6)))) (up_n (by omega) (up_n (by omega) (up_n (by omega) (up_n (by omega) a7)))) (up_n (by omega) (up_n (by omega) (up_n (by omega) (up_n (by omega) a8)))) (up_n (by omega) (up_n (by omega) (up_n (by omega) (up_n (by omega) x6)))) (up_n (by omega) (up_n (by omega) (up_n (by omega) (up_n (by omega) x7)))) (up_n (by omega) (up_n (by omega) (up_n (by omega) (up_n (by omega) x8)))) (by omega)) ?_
  refine a_al0 fH_become_52 ?_
  refine a_gf fH_become_53 l_H_35 (up_n (by omega) (up_n (by omega) (up_n (by omega) (up_n (by omega) (up_n (by omega) (up_n (by omega) (up_n (by omega) a1))))))) rfl ?_
  refine a_al1 fH_become_56 ?_
  refine a_gf fH_become_57 l_H_35 (up_n (by omega) (up_n (by omega) (up_n (by omega) (up_n (by omega) (up_n (by omega) (up_n (by omega) (up_n (by omega) x1))))))) rfl ?_
  refine a_V1N fH_become_60 k_H_80 m_C_become ⟨by decide, by decide⟩ (up_n (by omega) (up_n (by omega) (up_n (by omega) (up_n (by omega) (up_n (by omega) (up_n (by omega) (up_n (by omega) a9))))))) rfl ⟨rfl, rfl⟩ (Nat.le_of_ble_eq_true rfl) (c_Cbecome (c := q + 8) (o := o + 8) (up_n (by omega) (up_n (by omega) (up_n (by omega) (up_n (by omega) (up_n (by omega) (up_n (by omega) (up_n (by omega) a9))))))) (up_n (by omega) (up_n (by omega) (up_n (by omega) (up_n (by omega) (up_n (by omega) (up_n (by omega) (up_n (by omega) b1))))))) (up_n (by omega) (up_n (by omega) (up_n (by omega) (up_n (by omega) (up_n (by omega) (up_n (by omega) (up_n (by omega) b2))))))) (up_n (by omega) (up_n (by omega) (up_n (by omega) (up_n (by omega) (up_n (by omega) (up_n (by omega) (up_n (by omega) b3))))))) (up_n (by omega) (up_n (by omega) (up_n (by omega) (up_n (by omega) (up_n (by omega) (up_n (by omega) (up_n (by omega) b4))))))) (up_n (by omega) (up_n (by omega) (up_n (by omega) (up_n (by omega) (up_n (by omega) (up_n (by omega) (up_n (by omega) b5))))))) (up_n (by omega) (up_n (by omega) (up_n (by omega) (up_n (by omega) (up_n (by omega) (up_n (by omega) (up_n (by omega) b6))))))) (up_n (by omega) (up_n (by omega) (up_n (by omega) (up_n (by omega) (up_n (by omega) (up_n (by omega) (up_n (by omega) x9))))))) (up_n (by omega) (up_n (by omega) (up_n (by omega) (up_n (by omega) (up_n (by omega) (up_n (by omega) (up_n (by omega) y1))))))) (up_n (by omega) (up_n (by omega) (up_n (by omega) (up_n (by omega) (up_n (by omega) (up_n (by omega) (up_n (by omega) y2))))))) (up_n (by omega) (up_n (by omega) (up_n (by omega) (up_n (by omega) (up_n (by omega) (up_n (by omega) (up_n (by omega) y3))))))) (up_n (by omega) (up_n (by omega) (up_n (by omega) (up_n (by omega) (up_n (by omega) (up_n (by omega) (up_n (by omega) y4))))))) (up_n (by omega) (up_n (by omega) (up_n (by omega) (up_n (by omega) (up_n (by omega) (up_n (by omega) (up_n (by omega) y5))))))) (up_n (by omega) (up_n (by omega) (up_n (by omega) (up_n (by omega) (up_n (by omega) (up_n (by omega) (up_n (by omega) y6))))))) (by omega)) ?_
  refine a_al0 fH_become_63 ?_
  refine a_gf fH_become_64 l_H_42 (up_n (by omega) (up_n (by omega) (up_n (by omega) (up_n (by omega) (up_n (by omega) (up_n (by omega) (up_n (by omega) (up_n (by omega) (up_n (by omega) (up_n (by omega) (up_n (by omega) (up_n (by omega) (up_n (by omega) (up_n (by omega) a1)))))))))))))) rfl ?_
  refine a_al1 fH_become_67 ?_
  refine a_gf fH_become_68 l_H_42 (up_n (by omega) (up_n (by omega) (up_n (by omega) (up_n (by omega) (up_n (by omega) (up_n (by omega) (up_n (by omega) (up_n (by omega) (up_n (by omega) (up_n (by omega) (up_n (by omega) (up_n (by omega) (up_n (by omega) (up_n (by omega) x1)))))))))))))) rfl ?_
  refine a_V1N fH_become_71 k_H_83 m_P_become ⟨by decide, by decide⟩ (up_n (by omega) (up_n (by omega) (up_n (by omega) (up_n (by omega) (up_n (by omega) (up_n (by omega) (up_n (by omega) (up_n (by omega) (up_n (by omega) (up_n (by omega) (up_n (by omega) (up_n (by omega) (up_n (by omega) (up_n (by omega) b7)))))))))))))) rfl ⟨rfl, rfl⟩ (Nat.le_of_ble_eq_true rfl) (c_Pbecome (s := q + 15) (o := o + 15) (up_n (by omega) (up_n (by omega) (up_n (by omega) (up_n (by omega) (up_n (by omega) (up_n (by omega) (up_n (by omega) (up_n (by omega) (up_n (by omega) (up_n (by omega) (up_n (by omega) (up_n (by omega) (up_n (by omega) (up_n (by omega) b7)))))))))))))) (up_n (by omega) (up_n (by omega) (up_n (by omega) (up_n (by omega) (up_n (by omega) (up_n (by omega) (up_n (by omega) (up_n (by omega) (up_n (by omega) (up_n (by omega) (up_n (by omega) (up_n (by omega) (up_n (by omega) (up_n (by omega) b8)))))))))))))) (up_n (by omega) (up_n (by omega) (up_n (by omega) (up_n (by omega) (up_n (by omega) (up_n (by omega) (up_n (by omega) (up_n (by omega) (up_n (by omega) (up_n (by omega) (up_n (by omega) (up_n (by omega) (up_n (by omega) (up_n (by omega) y7)))))))))))))) (up_n (by omega) (up_n (by omega) (up_n (by omega) (up_n (by omega) (up_n (by omega) (up_n (by omega) (up_n (by omega) (up_n (by omega) (up_n (by omega) (up_n (by omega) (up_n (by omega) (up_n (by omega) (up_n (by omega) (up_n (by omega) y8)))))))))))))) (by omega)) ?_
  rw [cpy_sl, cpy_sl, cpy_sl]
  refine a_rv fH_become_74 rfl ⟨rfl, rfl, ?_, fun a ha => ?_⟩
  · refine ⟨va_cpy bn' bn 0 0 6, va_cpy bw' bw 0 0 6, va_cpy tf' tf 0 0 6, va_cpy tm' tm 0 0 6, va_cpy nf' nf 0 0 6, va_cpy ng' ng 0 0 6, va_cpy nd' nd 0 0 6, va_cpy nm' nm 0 0 6, va_cpy rw' rw 0 0 104, ⟨⟨?_, ?_, ?_, ?_, ?_⟩, ⟨?_, ?_, ?_⟩, ⟨?_, ?_, ?_, ?_, ?_, ?_, ?_⟩, ?_, ?_⟩, ?_⟩
    · repeat (first | exact up_s | assumption | refine up_n (by omega) ?_)
    · repeat (first | exact up_s | assumption | refine up_n (by omega) ?_)
    · repeat (first | exact up_s | assumption | refine up_n (by omega) ?_)
    · repeat (first | exact up_s | assumption | refine up_n (by omega) ?_)
    · repeat (first | exact up_s | assumption | refine up_n (by omega) ?_)
    · repeat (first | exact up_s | assumption | refine up_n (by omega) ?_)
    · repeat (first | exact up_s | assumption | refine up_n (by omega) ?_)
    · repeat (first | exact up_s | assumption | refine up_n (by omega) ?_)
    · repeat (first | exact up_s | assumption | refine up_n (by omega) ?_)
    · repeat (first | exact up_s | assumption | refine up_n (by omega) ?_)
    · repeat (first | exact up_s | assumption | refine up_n (by omega) ?_)
    · repeat (first | exact up_s | assumption | refine up_n (by omega) ?_)
    · repeat (first | exact up_s | assumption | refine up_n (by omega) ?_)
    · repeat (first | exact up_s | assumption | refine up_n (by omega) ?_)
    · repeat (first | exact up_s | assumption | refine up_n (by omega) ?_)
    · repeat (first | exact up_s | assumption | refine up_n (by omega) ?_)
    · repeat (first | exact up_s | assumption | refine up_n (by omega) ?_)
    · exact ⟨fun i hi => by rw [cpy_lt (by omega), cpy_lt (by omega)]; exact r1 i hi, fun i hi => by rw [cpy_lt (by omega), cpy_lt (by omega)]; exact r2 i hi, fun i hi => by rw [cpy_lt (by omega), cpy_lt (by omega), cpy_lt (by omega), cpy_lt (by omega)]; exact r3 i hi, fun i hi => by rw [cpy_lt (by omega)]; exact r4 i hi⟩
  · repeat (first | refine up_n (by omega) ?_)
    rfl
theorem c_tellFigure {q f k s : Nat} {N : Nat → Nat} (H : isH h q N) (bN : N 31 ≤ 6 ∧ N 46 ≤ 6 ∧ N 59 ≤ 6 ∧ N 84 ≤ 8) (hf : f < 10) : fE M_H_tellFigure E [.ref q, .int (nI f), .int (nI k), .int (nI s)] n h (qN (fun k9 g => k9 = n ∧ isH g q (tfN N f k s) ∧ frq q h g)) := by
  obtain ⟨bn, bw, tf, tm, nf, ng, nd, nm, rw, ⟨⟨a1, a2, a3, a4, a5⟩, ⟨a6, a7, a8⟩, ⟨a9, b1, b2, b3, b4, b5, b6⟩, b7, b8⟩, l1, l2, l3, l4⟩ := H
  refine fE.of (L := [some (.ref q), some (.int (nI f)), some (.int (nI k)), some (.int (nI s))]) (by decide +kernel) (Nat.le_of_ble_eq_true rfl) rfl ?_
  refine a_il1 fH_tellFigure_0 ?_
  refine a_S1V fH_tellFigure_1 k_H_86 m_F_isFigure ⟨by decide, by decide⟩ ⟨rfl, rfl⟩ (Nat.le_of_ble_eq_true rfl) (c_isFigure) ?_
  refine a_if_eq fH_tellFigure_4 (fun c => absurd c (fun z => by rw [bI_t ⟨nI_pos' (by omega), nI_le (b := 9) (by omega) (by decide)⟩] at z; exact absurd z (by decide))) (fun _ => ?_)
  refine a_al0 fH_tellFigure_7 ?_
  refine a_gf fH_tellFigure_8 l_H_9 a1 rfl ?_
  refine a_il1 fH_tellFigure_11 ?_
  refine a_il2 fH_tellFigure_12 ?_
  refine a_it fH_tellFigure_13 a2 rfl (by omega) (by decide) ?_
  rw [upd_nF]
  refine a_al0 fH_tellFigure_14 ?_
  refine a_gf fH_tellFigure_15 l_H_15 (up_n (by omega) a1) rfl ?_
  refine a_il1 fH_tellFigure_18 ?_
  refine a_il3 fH_tellFigure_19 ?_
  refine a_it fH_tellFigure_20 (up_n (by omega) a3) rfl (by omega) (by decide) ?_
  rw [upd_nF]
  refine a_al0 fH_tellFigure_21 ?_
  refine a_gf fH_tellFigure_22 l_H_42 (up_n (by omega) (up_n (by omega) a1)) rfl ?_
  refine a_ic fH_tellFigure_25 ?_
  refine a_pfi1 fH_tellFigure_26 p_H_63 (up_n (by omega) (up_n (by omega) b7)) ?_
  refine a_rv fH_tellFigure_29 rfl ⟨rfl, rfl, ?_, fun a ha => ?_⟩
  · have e0 : va_up (sl N 0 10) f k = sl (tfN N f k s) 0 10 := by unfold tfN; rw [sl_out (by omega), sl_out (by omega), sl_up hf, Nat.zero_add]
    have e1 : va_up (sl N 10 10) f s = sl (tfN N f k s) 10 10 := by unfold tfN; rw [sl_out (by omega), sl_up hf]; exact sl_eq (fun i hi => by unfold va_up; simp; rw [show (if 10 + i = f then k else N (10 + i)) = N (10 + i) from if_neg (by omega)])
    have e2 : sl (tfN N f k s) 20 10 = sl N 20 10 := by unfold tfN; rw [sl_out (by omega), sl_out (by omega), sl_out (by omega)]
    have eo : ∀ i, 20 ≤ i → i ≠ 84 → tfN N f k s i = N i := fun i h1 h2 => by unfold tfN; rw [vn h2, vn (by omega), vn (by omega)]
    have e84 : tfN N f k s 84 = 0 := up_s
    refine ⟨bn, bw, tf, tm, nf, ng, nd, nm, rw, ⟨⟨?_, ?_, ?_, ?_, ?_⟩, ⟨?_, ?_, ?_⟩, ⟨?_, ?_, ?_, ?_, ?_, ?_, ?_⟩, ?_, ?_⟩, ?_⟩
    · repeat (first | exact up_s | assumption | refine up_n (by omega) ?_)
    · rw [← e0]; repeat (first | exact up_s | assumption | refine up_n (by omega) ?_)
    · rw [← e1]; repeat (first | exact up_s | assumption | refine up_n (by omega) ?_)
    · rw [eo _ (by omega) (by omega)]; repeat (first | exact up_s | assumption | refine up_n (by omega) ?_)
    · rw [e2]; repeat (first | exact up_s | assumption | refine up_n (by omega) ?_)
    · rw [eo _ (by omega) (by omega), eo _ (by omega) (by omega), eo _ (by omega) (by omega)]; repeat (first | exact up_s | assumption | refine up_n (by omega) ?_)
    · repeat (first | exact up_s | assumption | refine up_n (by omega) ?_)
    · repeat (first | exact up_s | assumption | refine up_n (by omega) ?_)
    · rw [eo _ (by omega) (by omega), eo _ (by omega) (by omega)]; repeat (first | exact up_s | assumption | refine up_n (by omega) ?_)
    · repeat (first | exact up_s | assumption | refine up_n (by omega) ?_)
    · repeat (first | exact up_s | assumption | refine up_n (by omega) ?_)
    · repeat (first | exact up_s | assumption | refine up_n (by omega) ?_)
    · repeat (first | exact up_s | assumption | refine up_n (by omega) ?_)
    · repeat (first | exact up_s | assumption | refine up_n (by omega) ?_)
    · repeat (first | exact up_s | assumption | refine up_n (by omega) ?_)
    · rw [e84]; repeat (first | exact up_s | assumption | refine up_n (by omega) ?_)
    · repeat (first | exact up_s | assumption | refine up_n (by omega) ?_)
    · exact ⟨fun i hi => by rw [eo 31 (by omega) (by omega)] at hi; rw [eo _ (by omega) (by omega), eo _ (by omega) (by omega)]; exact l1 i hi, fun i hi => by rw [eo 46 (by omega) (by omega)] at hi; rw [eo _ (by omega) (by omega), eo _ (by omega) (by omega)]; exact l2 i hi, fun i hi => by rw [eo 59 (by omega) (by omega)] at hi; rw [eo _ (by omega) (by omega), eo _ (by omega) (by omega), eo _ (by omega) (by omega), eo _ (by omega) (by omega)]; exact l3 i hi, fun i hi => by rw [e84] at hi; omega⟩
  · repeat (first | refine up_n (by omega) ?_)
    rfl
theorem c_tellBill {q v w : Nat} {N : Nat → Nat} (H : isH h q N) (bN : N 31 ≤ 6 ∧ N 46 ≤ 6 ∧ N 59 ≤ 6 ∧ N 84 ≤ 8) (hb : N 31 < 6) : fE M_H_tellBill E [.ref q, .int (nI v), .int (nI w)] n h (qN (fun k9 g => k9 = n ∧ isH g q (tbN N v w) ∧ frq q h g)) := by
  obtain ⟨bn, bw, tf, tm, nf, ng, nd, nm, rw, ⟨⟨a1, a2, a3, a4, a5⟩, ⟨a6, a7, a8⟩, ⟨a9, b1, b2, b3, b4, b5, b6⟩, b7, b8⟩, l1, l2, l3, l4⟩ := H
  refine fE.of (L := [some (.ref q), some (.int (nI v)), some (.int (nI w))]) (by decide +kernel) (Nat.le_of_ble_eq_true rfl) rfl ?_
  refine a_al0 fH_tellBill_0 ?_
  refine a_gf fH_tellBill_1 l_H_28 a1 rfl ?_
  refine a_il1 fH_tellBill_4 ?_
  refine a_il2 fH_tellBill_5 ?_
  refine a_V2N fH_tellBill_6 k_H_90 m_B_add ⟨by decide, by decide⟩ a6 rfl ⟨rfl, rfl⟩ (Nat.le_of_ble_eq_true rfl) (c_Badd (b := q + 5) a6 a7 a8 hb) ?_
  refine a_al0 fH_tellBill_9 ?_
  refine a_gf fH_tellBill_10 l_H_42 (up_n (by omega) (up_n (by omega) (up_n (by omega) a1))) rfl ?_
  refine a_ic fH_tellBill_13 ?_
  refine a_pfi1 fH_tellBill_14 p_H_63 (up_n (by omega) (up_n (by omega) (up_n (by omega) b7))) ?_
  refine a_rv fH_tellBill_17 rfl ⟨rfl, rfl, ?_, fun a ha => ?_⟩
  · have eo : ∀ i, i ≠ 31 → i ≠ 84 → i < 32 ∨ 44 ≤ i → tbN N v w i = N i := fun i h1 h2 h3 => by unfold tbN; rw [vn h2, vn h1, vn (by omega), vn (by omega)]
    have e31 : tbN N v w 31 = N 31 + 1 := by unfold tbN; rw [vn (by omega)]; exact up_s
    have e84 : tbN N v w 84 = 0 := up_s
    have s0 : sl (tbN N v w) 0 10 = sl N 0 10 := sl_eq (fun i hi => eo _ (by omega) (by omega) (by omega))
    have s1 : sl (tbN N v w) 10 10 = sl N 10 10 := sl_eq (fun i hi => eo _ (by omega) (by omega) (by omega))
    have s2 : sl (tbN N v w) 20 10 = sl N 20 10 := sl_eq (fun i hi => eo _ (by omega) (by omega) (by omega))
    have en : ∀ i, i < N 31 + 1 → va_up bn (N 31) v i = tbN N v w (32 + i) ∧ va_up bw (N 31) w i = tbN N v w (38 + i) := by
      intro i hi
      have t1 : tbN N v w (32 + i) = va_up N (32 + N 31) v (32 + i) := by unfold tbN; rw [vn (by omega : 32 + i ≠ 84), vn (by omega : 32 + i ≠ 31), vn (by omega : 32 + i ≠ 38 + N 31)]
      have t2 : tbN N v w (38 + i) = va_up (va_up N (32 + N 31) v) (38 + N 31) w (38 + i) := by unfold tbN; rw [vn (by omega : 38 + i ≠ 84), vn (by omega : 38 + i ≠ 31)]
      rw [t1, t2]
      by_cases c : i = N 31
      · subst c; exact ⟨by rw [up_s, up_s], by rw [up_s, up_s]⟩
      · rw [vn c, vn c, vn (by omega : 32 + i ≠ 32 + N 31), vn (by omega : 38 + i ≠ 38 + N 31), vn (by omega : 38 + i ≠ 32 + N 31)]
        exact l1 i (by omega)
    refine ⟨va_up bn (N 31) v, va_up bw (N 31) w, tf, tm, nf, ng, nd, nm, rw, ⟨⟨?_, ?_, ?_, ?_, ?_⟩, ⟨?_, ?_, ?_⟩, ⟨?_, ?_, ?_, ?_, ?_, ?_, ?_⟩, ?_, ?_⟩, ?_⟩
    · repeat (first | exact up_s | assumption | refine up_n (by omega) ?_)
    · rw [s0]; repeat (first | exact up_s | assumption | refine up_n (by omega) ?_)
    · rw [s1]; repeat (first | exact up_s | assumption | refine up_n (by omega) ?_)
    · rw [eo _ (by omega) (by omega) (by omega)]; repeat (first | exact up_s | assumption | refine up_n (by omega) ?_)
    · rw [s2]; repeat (first | exact up_s | assumption | refine up_n (by omega) ?_)
    · rw [e31, eo _ (by omega) (by omega) (by omega), eo _ (by omega) (by omega) (by omega)]; repeat (first | exact up_s | assumption | refine up_n (by omega) ?_)
    · repeat (first | exact up_s | assumption | refine up_n (by omega) ?_)
    · repeat (first | exact up_s | assumption | refine up_n (by omega) ?_)
    · rw [eo _ (by omega) (by omega) (by omega), eo _ (by omega) (by omega) (by omega)]; repeat (first | exact up_s | assumption | refine up_n (by omega) ?_)
    · repeat (first | exact up_s | assumption | refine up_n (by omega) ?_)
    · repeat (first | exact up_s | assumption | refine up_n (by omega) ?_)
    · repeat (first | exact up_s | assumption | refine up_n (by omega) ?_)
    · repeat (first | exact up_s | assumption | refine up_n (by omega) ?_)
    · repeat (first | exact up_s | assumption | refine up_n (by omega) ?_)
    · repeat (first | exact up_s | assumption | refine up_n (by omega) ?_)
    · rw [e84]; repeat (first | exact up_s | assumption | refine up_n (by omega) ?_)
    · repeat (first | exact up_s | assumption | refine up_n (by omega) ?_)
    · exact ⟨fun i hi => by rw [e31] at hi; exact en i hi, fun i hi => by rw [eo 46 (by omega) (by omega) (by omega)] at hi; rw [eo _ (by omega) (by omega) (by omega), eo _ (by omega) (by omega) (by omega)]; exact l2 i hi, fun i hi => by rw [eo 59 (by omega) (by omega) (by omega)] at hi; rw [eo _ (by omega) (by omega) (by omega), eo _ (by omega) (by omega) (by omega), eo _ (by omega) (by omega) (by omega), eo _ (by omega) (by omega) (by omega)]; exact l3 i hi, fun i hi => by rw [e84] at hi; omega⟩
  · repeat (first | refine up_n (by omega) ?_)
    rfl
end HM
