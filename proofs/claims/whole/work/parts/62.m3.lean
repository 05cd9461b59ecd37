/-- the reference's rows: now N, images I, the text bt, refused rb, rn, rf -/
def MR (g : hT) (N : Nat → Nat) (I : Nat → Option (Nat → Nat)) (bt : Nat → Nat) (rb rn rf : Nat) : Prop :=
  (g 64 = nA 189 N ∧ z9 N) ∧ (∃ D, g 65 = nA 189 D ∧ z9 D) ∧ (∃ Kp ik, g 66 = nA 378 Kp ∧ g 67 = za 2 ik ∧ ∀ i, i < 2 → (I i = none ∧ ik i = 0) ∨ ∃ R, I i = some R ∧ ik i = 1 ∧ z9 R ∧ ∀ j, j < 189 → Kp (189 * i + j) = R j) ∧ g 68 = nA 150 bt ∧ ∃ R, g 69 = nA 3 R ∧ R 0 = rb ∧ R 1 = rn ∧ R 2 = rf
def mW (c : mT) (g : hT) : Prop := mM c g ∧ ∃ w, kz w ∧ g 70 = nA 10 w
def MS (g : hT) (N : Nat → Nat) (I : Nat → Option (Nat → Nat)) (tn : Nat) (bt : Nat → Nat) (ab be rb rn rf : Nat) : Prop :=
  (∃ nx pl tk fa, mW (nI tn, nx, pl, tk, fa, (nI ab).toInt64, (nI be).toInt64) g) ∧ MR g N I bt rb rn rf
/-- the class's cells are as they were -/
def fC (h g : hT) : Prop := ∀ a, a < 63 ∨ 71 < a → g a = h a
theorem fC.trans {a b c : hT} (x : fC a b) (z : fC b c) : fC a c := fun i hi => (z i hi).trans (x i hi)
theorem mF.c {h g : hT} (F : mF h g) : fC h g := fun a ha => F a (by omega) (by omega) (by omega)
theorem mL.c {h g : hT} (F : mL h g) : fC h g := F.f.c
theorem fC.up {h g : hT} {a : Nat} {x : cT} (F : fC h g) (ha : 63 ≤ a ∧ a ≤ 71) : fC h (va_up g a x) := fun b hb => up_n (by omega) (F b hb)
section MH
variable {h g : hT} {c : mT} {N : Nat → Nat} {I : Nat → Option (Nat → Nat)} {bt : Nat → Nat} {rb rn rf : Nat}
theorem mM.up {a : Nat} {x : cT} (W : mM c g) (h1 : 63 ≠ a) (h3 : 71 ≠ a) : mM c (va_up g a x) := by
  obtain ⟨⟨th, mn, m0⟩, f0, m8⟩ := W
  exact ⟨⟨th, mn, up_n h1 m0⟩, f0, up_n h3 m8⟩
theorem mW.up {a : Nat} {x : cT} (W : mW c g) (h1 : 63 ≠ a) (h2 : 70 ≠ a) (h3 : 71 ≠ a) : mW c (va_up g a x) := by
  obtain ⟨M, w, kw, m7⟩ := W
  exact ⟨M.up h1 h3, w, kw, up_n h2 m7⟩
theorem mW.l (W : mW c h) (M : mM c g) (F : mL h g) : mW c g := by
  obtain ⟨_, w, kw, m7⟩ := W
  exact ⟨M, w, kw, (F 70 (by decide) (by decide)).trans m7⟩
theorem mW.c2 {c2 : mT} {mn : Int32} (W : mW c g) : mW c2 (va_up g 63 (mO c2 0 mn)) := by
  obtain ⟨⟨_, f0, m8⟩, w, kw, m7⟩ := W
  exact ⟨⟨⟨_, _, up_s⟩, f0, up_n (by decide) m8⟩, w, kw, up_n (by decide) m7⟩
theorem MR.of (R : MR h N I bt rb rn rf) (F : mF h g) : MR g N I bt rb rn rf := by
  obtain ⟨⟨a1, a2⟩, ⟨D, b1, b2⟩, ⟨Kp, ik, c1, c2, c3⟩, d1, Rf, e1, e2⟩ := R
  exact ⟨⟨(F _ (by decide) (by decide) (by decide)).trans a1, a2⟩, ⟨D, (F _ (by decide) (by decide) (by decide)).trans b1, b2⟩, ⟨Kp, ik, (F _ (by decide) (by decide) (by decide)).trans c1, (F _ (by decide) (by decide) (by decide)).trans c2, c3⟩, (F _ (by decide) (by decide) (by decide)).trans d1, Rf, (F _ (by decide) (by decide) (by decide)).trans e1, e2⟩
theorem MR.now {N2 : Nat → Nat} (R : MR g N I bt rb rn rf) (z : z9 N2) : MR (va_up g 64 (nA 189 N2)) N2 I bt rb rn rf := by
  obtain ⟨⟨a1, a2⟩, ⟨D, b1, b2⟩, ⟨Kp, ik, c1, c2, c3⟩, d1, Rf, e1, e2⟩ := R
  exact ⟨⟨up_s, z⟩, ⟨D, up_n (by decide) b1, b2⟩, ⟨Kp, ik, up_n (by decide) c1, up_n (by decide) c2, c3⟩, up_n (by decide) d1, Rf, up_n (by decide) e1, e2⟩
/-- now is another row, all else of the rows as it was -/
theorem MR.nw {N2 : Nat → Nat} (R : MR h N I bt rb rn rf) (z : z9 N2) (m1 : g 64 = nA 189 N2) (F : ∀ a, a ≠ 63 → a ≠ 64 → a ≠ 70 → a ≠ 71 → g a = h a) : MR g N2 I bt rb rn rf := by
  obtain ⟨⟨a1, a2⟩, ⟨D, b1, b2⟩, ⟨Kp, ik, c1, c2, c3⟩, d1, Rf, e1, e2⟩ := R
  exact ⟨⟨m1, z⟩, ⟨D, (F _ (by decide) (by decide) (by decide) (by decide)).trans b1, b2⟩, ⟨Kp, ik, (F _ (by decide) (by decide) (by decide) (by decide)).trans c1, (F _ (by decide) (by decide) (by decide) (by decide)).trans c2, c3⟩, (F _ (by decide) (by decide) (by decide) (by decide)).trans d1, Rf, (F _ (by decide) (by decide) (by decide) (by decide)).trans e1, e2⟩
theorem MR.txt {b2 : Nat → Nat} (R : MR g N I bt rb rn rf) : MR (va_up g 68 (nA 150 b2)) N I b2 rb rn rf := by
  obtain ⟨⟨a1, a2⟩, ⟨D, b1, b2⟩, ⟨Kp, ik, c1, c2, c3⟩, d1, Rf, e1, e2⟩ := R
  exact ⟨⟨up_n (by decide) a1, a2⟩, ⟨D, up_n (by decide) b1, b2⟩, ⟨Kp, ik, up_n (by decide) c1, up_n (by decide) c2, c3⟩, up_s, Rf, up_n (by decide) e1, e2⟩
theorem MR.rfd {Rf : Nat → Nat} (R : MR g N I bt rb rn rf) : MR (va_up g 69 (nA 3 Rf)) N I bt (Rf 0) (Rf 1) (Rf 2) := by
  obtain ⟨⟨a1, a2⟩, ⟨D, b1, b2⟩, ⟨Kp, ik, c1, c2, c3⟩, d1, _⟩ := R
  exact ⟨⟨up_n (by decide) a1, a2⟩, ⟨D, up_n (by decide) b1, b2⟩, ⟨Kp, ik, up_n (by decide) c1, up_n (by decide) c2, c3⟩, up_n (by decide) d1, Rf, up_s, rfl, rfl, rfl⟩
theorem MR.re0 {Rf : Nat → Nat} (R : MR g N I bt rb rn rf) (m6 : g 69 = nA 3 Rf) (r0 : Rf 0 = rb) (r1 : Rf 1 = rn) (r2 : Rf 2 = rf) : MR (va_up g 69 (nA 3 (va_up Rf 0 (Rf 0 + 1)))) N I bt (rb + 1) rn rf := by
  subst r0; subst r1; subst r2
  exact R.rfd (Rf := va_up Rf 0 (Rf 0 + 1))
theorem MR.re1 {Rf : Nat → Nat} (R : MR g N I bt rb rn rf) (m6 : g 69 = nA 3 Rf) (r0 : Rf 0 = rb) (r1 : Rf 1 = rn) (r2 : Rf 2 = rf) : MR (va_up g 69 (nA 3 (va_up Rf 1 (Rf 1 + 1)))) N I bt rb (rn + 1) rf := by
  subst r0; subst r1; subst r2
  exact R.rfd (Rf := va_up Rf 1 (Rf 1 + 1))
theorem MR.re2 {Rf : Nat → Nat} (R : MR g N I bt rb rn rf) (m6 : g 69 = nA 3 Rf) (r0 : Rf 0 = rb) (r1 : Rf 1 = rn) (r2 : Rf 2 = rf) : MR (va_up g 69 (nA 3 (va_up Rf 2 (Rf 2 + 1)))) N I bt rb rn (rf + 1) := by
  subst r0; subst r1; subst r2
  exact R.rfd (Rf := va_up Rf 2 (Rf 2 + 1))
theorem mThr {th mn : Int32} {f0 : Nat → Int32} {w0 : Nat → Nat} (m0 : h 63 = mO c th mn) (m8 : h 71 = ia 4 f0) (kw : kz w0) (m7 : h 70 = nA 10 w0) (R : MR h N I bt rb rn rf) : ∃ h1, va_up h 63 (mO c 0 mn) = h1 ∧ mW c h1 ∧ MR h1 N I bt rb rn rf ∧ mF h h1 :=
  ⟨_, rfl, ⟨⟨⟨_, _, up_s⟩, f0, up_n (by decide) m8⟩, w0, kw, up_n (by decide) m7⟩, R.of (fun a h1 _ _ => up_n h1 rfl), fun a h1 _ _ => up_n h1 rfl⟩
end MH
theorem z9_N0 : z9 N0 := fun i hi => by unfold N0; rw [if_neg (by omega)]
theorem z9.up {N : Nat → Nat} {a v : Nat} (z : z9 N) (h : a < 189) : z9 (va_up N a v) := fun i hi => by rw [vn (by omega)]; exact z i hi
theorem bil {b : Int32} {m : Nat} (h : m ≤ 6) : (0 ≤ b ∧ b ≤ nI m - 1) ↔ (0 ≤ b ∧ b < nI m) := by
  refine and_congr_right (fun h0 => ?_)
  obtain ⟨j, hj, rfl⟩ := nI_of (Int32.not_lt.mpr h0)
  cases m with
  | zero =>
    constructor
    · intro z
      have h2 : (0 : Int32) ≤ nI 0 - 1 := Int32.le_trans h0 z
      exact absurd h2 (by decide)
    · intro z
      exact absurd ((nI_ltI (b := 0) hj (by decide)).mp z) (by omega)
  | succ m =>
    rw [nI_pred, nI_leI hj (by omega), nI_ltI hj (by omega)]
    omega
section M3
variable {E : eT} {n : Nat} {h : hT} {c : mT} {th mn : Int32} {N : Nat → Nat}
theorem c_MareLine {v x : Int32} : fE M_M_areLine E [.int v, .int x] n h (eV (.int (bI ((0 ≤ v ∧ v ≤ 99) ∧ (0 ≤ x ∧ x ≤ 99)))) n h) := by
  refine fE.of (L := [some (.int v), some (.int x)]) (by decide +kernel) (Nat.le_of_ble_eq_true rfl) rfl ?_
  by_cases d0 : 0 ≤ v ∧ v ≤ 99
  · refine a_il0 fM_areLine_0 ?_
    refine a_ic fM_areLine_1 ?_
    refine a_ic fM_areLine_2 ?_
    refine a_S3V fM_areLine_4 k_M_70 m_M_in ⟨by decide, by decide⟩ ⟨rfl, rfl⟩ (Nat.le_of_ble_eq_true rfl) (c_Min) ?_
    refine a_if_eq fM_areLine_7 (fun c_ => absurd c_ (fun z => by rw [bI_t d0] at z; exact absurd z (by decide))) (fun _ => ?_)
    by_cases d1 : 0 ≤ x ∧ x ≤ 99
    · refine a_il1 fM_areLine_10 ?_
      refine a_ic fM_areLine_11 ?_
      refine a_ic fM_areLine_12 ?_
      refine a_S3V fM_areLine_14 k_M_70 m_M_in ⟨by decide, by decide⟩ ⟨rfl, rfl⟩ (Nat.le_of_ble_eq_true rfl) (c_Min) ?_
      refine a_if_eq fM_areLine_17 (fun c_ => absurd c_ (fun z => by rw [bI_t d1] at z; exact absurd z (by decide))) (fun _ => ?_)
      refine a_ic fM_areLine_20 ?_
      refine a_goto fM_areLine_21 ?_
      exact a_rz fM_areLine_25 rfl (by first | rfl | (split <;> rfl)) (⟨sv (by rw [bI_t ⟨d0, d1⟩]), rfl, rfl⟩)
    · refine a_il1 fM_areLine_10 ?_
      refine a_ic fM_areLine_11 ?_
      refine a_ic fM_areLine_12 ?_
      refine a_S3V fM_areLine_14 k_M_70 m_M_in ⟨by decide, by decide⟩ ⟨rfl, rfl⟩ (Nat.le_of_ble_eq_true rfl) (c_Min) ?_
      refine a_if_eq fM_areLine_17 (fun _ => ?_) (fun c_ => absurd (by rw [bI_f d1]) c_)
      refine a_ic fM_areLine_24 ?_
      exact a_rz fM_areLine_25 rfl (by first | rfl | (split <;> rfl)) (⟨sv (by rw [bI_f (fun z => d1 z.2)]), rfl, rfl⟩)
  · refine a_il0 fM_areLine_0 ?_
    refine a_ic fM_areLine_1 ?_
    refine a_ic fM_areLine_2 ?_
    refine a_S3V fM_areLine_4 k_M_70 m_M_in ⟨by decide, by decide⟩ ⟨rfl, rfl⟩ (Nat.le_of_ble_eq_true rfl) (c_Min) ?_
    refine a_if_eq fM_areLine_7 (fun _ => ?_) (fun c_ => absurd (by rw [bI_f d0]) c_)
    refine a_ic fM_areLine_24 ?_
    exact a_rz fM_areLine_25 rfl (by first | rfl | (split <;> rfl)) (⟨sv (by rw [bI_f (fun z => d0 z.1)]), rfl, rfl⟩)
theorem c_MisBill {b : Int32} (m0 : h 63 = mO c th mn) (m1 : h 64 = nA 189 N) (h6 : N 31 ≤ 6) : fE M_M_isBill E [.ref 63, .int b] n h (eV (.int (bI (0 ≤ b ∧ b < nI (N 31)))) n h) := by
  refine fE.of (L := [some (.ref 63), some (.int b)]) (by decide +kernel) (Nat.le_of_ble_eq_true rfl) rfl ?_
  refine a_il1 fM_isBill_0 ?_
  refine a_ic fM_isBill_1 ?_
  refine a_al0 fM_isBill_2 ?_
  refine a_gf fM_isBill_3 l_M_7 m0 rfl ?_
  refine a_ic fM_isBill_6 ?_
  refine a_ia fM_isBill_8 m1 (show (31 : Int32) = nI 31 from rfl) (by decide) (by decide) ?_
  refine a_ic fM_isBill_9 ?_
  refine a_isub fM_isBill_10 ?_
  refine a_S3V fM_isBill_11 k_M_70 m_M_in ⟨by decide, by decide⟩ ⟨rfl, rfl⟩ (Nat.le_of_ble_eq_true rfl) (c_Min) ?_
  exact a_rz fM_isBill_14 rfl (bI_n _) ⟨sv (bI_cg (bil h6)), rfl, rfl⟩
theorem c_MisPaid {b : Nat} (m0 : h 63 = mO c th mn) (m1 : h 64 = nA 189 N) (hp : N 44 < 64) (hb : b < 32) : fE M_M_isPaid E [.ref 63, .int (nI b)] n h (eV (.int (bI (N 44 / 2 ^ b % 2 = 1))) n h) := by
  refine fE.of (L := [some (.ref 63), some (.int (nI b))]) (by decide +kernel) (Nat.le_of_ble_eq_true rfl) rfl ?_
  refine a_al0 fM_isPaid_0 ?_
  refine a_gf fM_isPaid_1 l_M_7 m0 rfl ?_
  refine a_ic fM_isPaid_4 ?_
  refine a_ia fM_isPaid_6 m1 (show (44 : Int32) = nI 44 from rfl) (by decide) (by decide) ?_
  refine a_il1 fM_isPaid_7 ?_
  refine a_ishr fM_isPaid_8 ?_
  refine a_ic fM_isPaid_9 ?_
  refine a_iand fM_isPaid_10 ?_
  rw [show (nF N 44 >>> (nI b &&& 31)) &&& 1 = nI (N 44 / 2 ^ b % 2) from nbit (N 44) b hp hb]
  refine a_ic fM_isPaid_11 ?_
  refine a_ic_ne fM_isPaid_12 (fun c => ?_) (fun c => ?_)
  · refine a_ic fM_isPaid_19 ?_
    exact a_rz fM_isPaid_20 rfl (by first | rfl | (split <;> rfl)) (⟨sv (by rw [bI_f (fun z => c (by rw [z]; rfl))]), rfl, rfl⟩)
  · refine a_ic fM_isPaid_15 ?_
    refine a_goto fM_isPaid_16 ?_
    exact a_rz fM_isPaid_20 rfl (by first | rfl | (split <;> rfl)) (⟨sv (by rw [bI_t ((nI_eq (b := 1) (by omega) (by decide)).mp c)]), rfl, rfl⟩)
theorem c_Mbills {a v w : Nat} {A : Nat → Nat} (hA : h a = nA 189 A) (h6 : A 31 < 6) : fE M_M_bills E [.ref a, .int (nI v), .int (nI w)] n h (eN n (va_up h a (nA 189 (va_up (va_up (va_up A (32 + A 31) v) (38 + A 31) w) 31 (A 31 + 1))))) := by
  refine fE.of (L := [some (.ref a), some (.int (nI v)), some (.int (nI w))]) (by decide +kernel) (Nat.le_of_ble_eq_true rfl) rfl ?_
  refine a_al0 fM_bills_0 ?_
  refine a_ic fM_bills_1 ?_
  refine a_al0 fM_bills_3 ?_
  refine a_ic fM_bills_4 ?_
  refine a_ia fM_bills_6 hA (show (31 : Int32) = nI 31 from rfl) (by decide) (by decide) ?_
  refine a_iadd fM_bills_7 ?_
  refine a_il1 fM_bills_8 ?_
  refine a_it fM_bills_9 hA (show (32 : Int32) + nF A 31 = nI (32 + A 31) from nI_add 32 _) (by omega) (by decide) ?_
  rw [upd_nF]
  refine a_al0 fM_bills_10 ?_
  refine a_ic fM_bills_11 ?_
  refine a_al0 fM_bills_13 ?_
  refine a_ic fM_bills_14 ?_
  refine a_ia fM_bills_16 up_s (show (31 : Int32) = nI 31 from rfl) (by decide) (by decide) ?_
  rw [show nF (va_up A (32 + A 31) v) 31 = nI (A 31) from congrArg nI (vn (by omega))]
  refine a_iadd fM_bills_17 ?_
  refine a_il2 fM_bills_18 ?_
  refine a_it fM_bills_19 up_s (show (38 : Int32) + nI (A 31) = nI (38 + A 31) from nI_add 38 _) (by omega) (by decide) ?_
  rw [bx_uu, upd_nF]
  refine a_al0 fM_bills_20 ?_
  refine a_ic fM_bills_21 ?_
  refine a_dup2 fM_bills_23 rfl rfl ?_
  refine a_ia fM_bills_24 up_s (show (31 : Int32) = nI 31 from rfl) (by decide) (by decide) ?_
  rw [show nF (va_up (va_up A (32 + A 31) v) (38 + A 31) w) 31 = nI (A 31) from congrArg nI ((vn (by omega)).trans (vn (by omega)))]
  refine a_ic fM_bills_25 ?_
  refine a_iadd fM_bills_26 ?_
  rw [nI_1]
  refine a_it fM_bills_27 up_s (show (31 : Int32) = nI 31 from rfl) (by decide) (by decide) ?_
  rw [bx_uu, upd_nF]
  exact a_rv fM_bills_28 rfl (⟨rfl, rfl, rfl⟩)
def nsh (N : Nat → Nat) (i : Nat) : Nat → Nat := fun j => if 85 ≤ j ∧ j < 85 + i then N (j + 13) else N j
theorem c_Mnotes (m0 : h 63 = mO c th mn) (m1 : h 64 = nA 189 N) (hz : N 84 ≤ 8) : fE M_M_notes E [.ref 63] n h (eN n (va_up h 64 (nA 189 (ntN N)))) := by
  have fin : ∀ (B : Nat → Nat) (x1 x2 : Option Value), B 84 ≤ 7 → fA M_M_notes E (fZ M_M_notes E (eN n (va_up h 64 (nA 189 (puN B))))) n (va_up h 64 (nA 189 B)) 0 0 56 [some (.ref 63), x1, x2] [] := by
    intro B x1 x2 hB
    have loop : ∀ (j i : Nat), i + j = 10 → fA M_M_notes E (fZ M_M_notes E (eN n (va_up h 64 (nA 189 (puN B))))) n (va_up h 64 (nA 189 (fun y => if 85 + 13 * B 84 ≤ y ∧ y < 85 + 13 * B 84 + i then B (20 + (y - (85 + 13 * B 84))) else B y))) 0 0 72 [some (.ref 63), some (.int (nI (85 + 13 * B 84))), some (.int (nI i))] [] := by
      intro j
      induction j with
      | zero =>
        intro i hi
        obtain rfl : i = 10 := by omega
        refine a_il2 fM_notes_72 ?_
        refine a_ic fM_notes_73 ?_
        refine a_ic_ge fM_notes_75 (fun _ => ?_) (fun c_ => absurd (Int32.le_refl _) c_)
        refine a_al0 fM_notes_101 ?_
        refine a_gf fM_notes_102 l_M_7 (up_n (by decide) m0) rfl ?_
        refine a_il1 fM_notes_105 ?_
        refine a_ic fM_notes_106 ?_
        refine a_iadd fM_notes_108 ?_
        refine a_al0 fM_notes_109 ?_
        refine a_gf fM_notes_110 l_M_7 (up_n (by decide) m0) rfl ?_
        refine a_ic fM_notes_113 ?_
        refine a_ia fM_notes_115 up_s (show (30 : Int32) = nI 30 from rfl) (by decide) (by decide) ?_
        refine a_it fM_notes_116 up_s (show nI (85 + 13 * B 84) + 10 = nI (85 + 13 * B 84 + 10) from nI_add _ 10) (by omega) (by decide) ?_
        rw [bx_uu]
        refine fA.ud (v := B 30) (F2 := fun y => if 85 + 13 * B 84 ≤ y ∧ y < 95 + 13 * B 84 then B (20 + (y - (85 + 13 * B 84))) else if y = 95 + 13 * B 84 then B 30 else B y) (congrArg nI (if_neg (by omega))) (fun j => by grind) ?_
        refine a_al0 fM_notes_117 ?_
        refine a_gf fM_notes_118 l_M_7 (up_n (by decide) m0) rfl ?_
        refine a_il1 fM_notes_121 ?_
        refine a_ic fM_notes_122 ?_
        refine a_iadd fM_notes_124 ?_
        refine a_al0 fM_notes_125 ?_
        refine a_gf fM_notes_126 l_M_7 (up_n (by decide) m0) rfl ?_
        refine a_ic fM_notes_129 ?_
        refine a_ia fM_notes_131 up_s (show (44 : Int32) = nI 44 from rfl) (by decide) (by decide) ?_
        refine a_it fM_notes_132 up_s (show nI (85 + 13 * B 84) + 11 = nI (85 + 13 * B 84 + 11) from nI_add _ 11) (by omega) (by decide) ?_
        rw [bx_uu]
        refine fA.ud (v := B 44) (F2 := fun y => if 85 + 13 * B 84 ≤ y ∧ y < 95 + 13 * B 84 then B (20 + (y - (85 + 13 * B 84))) else if y = 95 + 13 * B 84 then B 30 else if y = 96 + 13 * B 84 then B 44 else B y) (congrArg nI (by grind)) (fun j => by grind) ?_
        refine a_al0 fM_notes_133 ?_
        refine a_gf fM_notes_134 l_M_7 (up_n (by decide) m0) rfl ?_
        refine a_il1 fM_notes_137 ?_
        refine a_ic fM_notes_138 ?_
        refine a_iadd fM_notes_140 ?_
        refine a_al0 fM_notes_141 ?_
        refine a_gf fM_notes_142 l_M_7 (up_n (by decide) m0) rfl ?_
        refine a_ic fM_notes_145 ?_
        refine a_ia fM_notes_147 up_s (show (45 : Int32) = nI 45 from rfl) (by decide) (by decide) ?_
        refine a_it fM_notes_148 up_s (show nI (85 + 13 * B 84) + 12 = nI (85 + 13 * B 84 + 12) from nI_add _ 12) (by omega) (by decide) ?_
        rw [bx_uu]
        refine fA.ud (v := B 45) (F2 := fun y => if 85 + 13 * B 84 ≤ y ∧ y < 95 + 13 * B 84 then B (20 + (y - (85 + 13 * B 84))) else if y = 95 + 13 * B 84 then B 30 else if y = 96 + 13 * B 84 then B 44 else if y = 97 + 13 * B 84 then B 45 else B y) (congrArg nI (by grind)) (fun j => by grind) ?_
        refine a_al0 fM_notes_149 ?_
        refine a_gf fM_notes_150 l_M_7 (up_n (by decide) m0) rfl ?_
        refine a_ic fM_notes_153 ?_
        refine a_dup2 fM_notes_155 rfl rfl ?_
        refine a_ia fM_notes_156 up_s (show (84 : Int32) = nI 84 from rfl) (by decide) (by decide) ?_
        refine a_ic fM_notes_157 ?_
        refine a_iadd fM_notes_158 ?_
        refine a_it fM_notes_159 up_s (show (84 : Int32) = nI 84 from rfl) (by decide) (by decide) ?_
        rw [bx_uu]
        refine fA.ud (v := B 84 + 1) (F2 := puN B) (by rw [← nI_1]; congr 1; exact congrArg nI (by grind)) (fun j => by unfold puN; grind) ?_
        exact a_rv fM_notes_160 rfl (⟨rfl, rfl, rfl⟩)
      | succ j ih =>
        intro i hi
        refine a_il2 fM_notes_72 ?_
        refine a_ic fM_notes_73 ?_
        refine a_ic_ge fM_notes_75 (fun c_ => absurd c_ (nI_ge (b := 10) (by omega) (by decide))) (fun _ => ?_)
        refine a_al0 fM_notes_78 ?_
        refine a_gf fM_notes_79 l_M_7 (up_n (by decide) m0) rfl ?_
        refine a_il1 fM_notes_82 ?_
        refine a_il2 fM_notes_83 ?_
        refine a_iadd fM_notes_84 ?_
        refine a_al0 fM_notes_85 ?_
        refine a_gf fM_notes_86 l_M_7 (up_n (by decide) m0) rfl ?_
        refine a_ic fM_notes_89 ?_
        refine a_il2 fM_notes_91 ?_
        refine a_iadd fM_notes_92 ?_
        refine a_ia fM_notes_93 up_s (nI_add 20 _) (by omega) (by decide) ?_
        refine a_it fM_notes_94 up_s (show nI (85 + 13 * B 84) + nI i = nI (85 + 13 * B 84 + i) from nI_add _ _) (by omega) (by decide) ?_
        refine a_inc2 fM_notes_95 (by decide) rfl ?_
        refine a_goto fM_notes_98 ?_
        rw [bx_uu, nI_1]
        refine fA.ud (v := B (20 + i)) (F2 := fun y => if 85 + 13 * B 84 ≤ y ∧ y < 85 + 13 * B 84 + (i + 1) then B (20 + (y - (85 + 13 * B 84))) else B y) (congrArg nI (if_neg (by omega))) (fun j => by grind) ?_
        exact ih (i + 1) (by omega)
    refine a_ic fM_notes_56 ?_
    refine a_ic fM_notes_58 ?_
    refine a_al0 fM_notes_60 ?_
    refine a_gf fM_notes_61 l_M_7 (up_n (by decide) m0) rfl ?_
    refine a_ic fM_notes_64 ?_
    refine a_ia fM_notes_66 up_s (show (84 : Int32) = nI 84 from rfl) (by decide) (by decide) ?_
    refine a_imul fM_notes_67 ?_
    rw [show (13 : Int32) * nF B 84 = nI (13 * B 84) from pk_mul 13 _]
    refine a_iadd fM_notes_68 ?_
    rw [show (85 : Int32) + nI (13 * B 84) = nI (85 + 13 * B 84) from nI_add 85 _]
    refine a_is1 fM_notes_69 (by decide) rfl ?_
    refine a_ic fM_notes_70 ?_
    refine a_is2 fM_notes_71 (by decide) rfl ?_
    have := loop 10 0 (by omega)
    rw [show (fun y => if 85 + 13 * B 84 ≤ y ∧ y < 85 + 13 * B 84 + 0 then B (20 + (y - (85 + 13 * B 84))) else B y) = B from funext (fun y => by rw [if_neg (by omega)])] at this
    exact this
  have sh : ∀ (j i : Nat) (x2 : Option Value), N 84 = 8 → i + j = 91 → fA M_M_notes E (fZ M_M_notes E (eN n (va_up h 64 (nA 189 (puN (shN N)))))) n (va_up h 64 (nA 189 (nsh N i))) 0 0 14 [some (.ref 63), some (.int (nI i)), x2] [] := by
    intro j
    induction j with
    | zero =>
      intro i x2 h8 hi
      obtain rfl : i = 91 := by omega
      refine a_il1 fM_notes_14 ?_
      refine a_ic fM_notes_15 ?_
      refine a_ic_ge fM_notes_17 (fun _ => ?_) (fun c_ => absurd (Int32.le_refl _) c_)
      refine a_al0 fM_notes_47 ?_
      refine a_gf fM_notes_48 l_M_7 (up_n (by decide) m0) rfl ?_
      refine a_ic fM_notes_51 ?_
      refine a_ic fM_notes_53 ?_
      refine a_it fM_notes_55 up_s (show (84 : Int32) = nI 84 from rfl) (by decide) (by decide) ?_
      rw [bx_uu]
      refine fA.ud (v := 7) (F2 := shN N) rfl (fun j => by unfold shN nsh; grind) ?_
      exact fin (shN N) _ _ (by unfold shN; grind)
    | succ j ih =>
      intro i x2 h8 hi
      refine a_il1 fM_notes_14 ?_
      refine a_ic fM_notes_15 ?_
      refine a_ic_ge fM_notes_17 (fun c_ => absurd c_ (nI_ge (b := 91) (by omega) (by decide))) (fun _ => ?_)
      refine a_al0 fM_notes_20 ?_
      refine a_gf fM_notes_21 l_M_7 (up_n (by decide) m0) rfl ?_
      refine a_ic fM_notes_24 ?_
      refine a_il1 fM_notes_26 ?_
      refine a_iadd fM_notes_27 ?_
      refine a_al0 fM_notes_28 ?_
      refine a_gf fM_notes_29 l_M_7 (up_n (by decide) m0) rfl ?_
      refine a_ic fM_notes_32 ?_
      refine a_il1 fM_notes_34 ?_
      refine a_iadd fM_notes_35 ?_
      refine a_ic fM_notes_36 ?_
      refine a_iadd fM_notes_38 ?_
      refine a_ia fM_notes_39 up_s (show (85 : Int32) + nI i + 13 = nI (85 + i + 13) by rw [show (85 : Int32) + nI i = nI (85 + i) from nI_add 85 i]; exact nI_add _ 13) (by omega) (by decide) ?_
      refine a_it fM_notes_40 up_s (nI_add 85 _) (by omega) (by decide) ?_
      refine a_inc1 fM_notes_41 (by decide) rfl ?_
      refine a_goto fM_notes_44 ?_
      rw [bx_uu, nI_1]
      refine fA.ud (v := N (85 + i + 13)) (F2 := nsh N (i + 1)) (congrArg nI (by unfold nsh; rw [if_neg (by omega)])) (fun j => by unfold nsh; grind) ?_
      exact ih (i + 1) _ h8 (by omega)
  refine fE.of (L := [some (.ref 63), none, none]) (by decide +kernel) (Nat.le_of_ble_eq_true rfl) rfl ?_
  by_cases c8 : N 84 = 8
  · refine a_al0 fM_notes_0 ?_
    refine a_gf fM_notes_1 l_M_7 m0 rfl ?_
    refine a_ic fM_notes_4 ?_
    refine a_ia fM_notes_6 m1 (show (84 : Int32) = nI 84 from rfl) (by decide) (by decide) ?_
    refine a_ic fM_notes_7 ?_
    refine a_ic_ne fM_notes_9 (fun c_ => absurd (congrArg nI c8) c_) (fun _ => ?_)
    refine a_ic fM_notes_12 ?_
    refine a_is1 fM_notes_13 (by decide) rfl ?_
    have := sh 91 0 none c8 (by omega)
    rw [show nsh N 0 = N from funext (fun y => by unfold nsh; rw [if_neg (by omega)]), up_id m1] at this
    rw [show ntN N = puN (shN N) by unfold ntN; rw [if_pos c8]]
    exact this
  · refine a_al0 fM_notes_0 ?_
    refine a_gf fM_notes_1 l_M_7 m0 rfl ?_
    refine a_ic fM_notes_4 ?_
    refine a_ia fM_notes_6 m1 (show (84 : Int32) = nI 84 from rfl) (by decide) (by decide) ?_
    refine a_ic fM_notes_7 ?_
    refine a_ic_ne fM_notes_9 (fun _ => ?_) (fun c_ => absurd c_ (fun z => c8 ((nI_eq (b := 8) (by omega) (by decide)).mp z)))
    have := fin N none none (by omega)
    rw [up_id m1] at this
    rw [show ntN N = puN N by unfold ntN; rw [if_neg c8]]
    exact this
end M3
section P3
variable {E : eT} {n : Nat} {h : hT} {N : Nat → Nat} {I : Nat → Option (Nat → Nat)} {tn : Nat} {bt : Nat → Nat} {ab be rb rn rf : Nat}
theorem m_house (X : MS h N I tn bt ab be rb rn rf) (K : okN N) : fE M_M_house E [.ref 63] n h (qI (fun r k g => r = nI (N 31) ∧ k = n ∧ fC h g ∧ MS g N0 I tn bt ab be rb rn rf)) := by
  have O := K.c
  have k31 := K.2.2.1.1
  obtain ⟨⟨nx, pl, tk, fa, ⟨⟨th, mn, m0⟩, f0, m8⟩, w0, kw0, m7⟩, R0⟩ := X
  refine fE.of (L := [some (.ref 63), none]) (by decide +kernel) (Nat.le_of_ble_eq_true rfl) rfl ?_
  refine a_al0 fM_house_0 ?_
  refine a_ic fM_house_1 ?_
  refine a_pfi0 fM_house_2 p_M_43 m0 ?_
  obtain ⟨h1, e1, W1, R1, F1⟩ := mThr m0 m8 kw0 m7 R0
  change fA _ _ _ _ (va_up h 63 (mO (nI tn, nx, pl, tk, fa, (nI ab).toInt64, (nI be).toInt64) 0 mn)) _ _ _ _ _
  rw [e1]
  clear e1 R0 m7 m8 m0
  have W2 := W1
  obtain ⟨M2, w1, kw1, M7⟩ := W2
  have M3 := M2
  obtain ⟨⟨th1, mn1, M0⟩, f1, M8⟩ := M3
  have M1 := R1.1.1
  obtain ⟨Rf, M6, r0, r1, r2⟩ := R1.2.2.2.2
  refine a_al0 fM_house_5 ?_
  refine a_gf fM_house_6 l_M_7 M0 rfl ?_
  refine a_ic fM_house_9 ?_
  refine a_ia fM_house_11 M1 (show (31 : Int32) = nI 31 from rfl) (by decide) (by decide) ?_
  refine a_is1 fM_house_12 (by decide) rfl ?_
  refine a_al0 fM_house_13 ?_
  refine a_gf fM_house_14 l_M_7 M0 rfl ?_
  refine a_S1N fM_house_17 k_M_39 m_M_begins ⟨by decide, by decide⟩ ⟨rfl, rfl⟩ (Nat.le_of_ble_eq_true rfl) (c_Mbegins M1 R1.1.2) ?_
  refine a_il1 fM_house_20 ?_
  exact a_ri fM_house_21 rfl (⟨_, rfl, rfl, rfl, F1.c.up (by decide), ⟨nx, pl, tk, fa, W1.up (by decide) (by decide) (by decide)⟩, R1.now z9_N0⟩)
theorem m_figure_bad {f k s : Int32} (X : MS h N I tn bt ab be rb rn rf) (hb : ¬ ((0 ≤ f ∧ f ≤ 9) ∧ (0 ≤ k ∧ k ≤ 5) ∧ (1 ≤ s ∧ s ≤ 60))) : fE M_M_figure E [.ref 63, .int f, .int k, .int s] n h (qI (fun r k g => r = -2 ∧ k = n ∧ fC h g ∧ MS g N I tn bt ab be (rb + 1) rn rf)) := by
  obtain ⟨⟨nx, pl, tk, fa, ⟨⟨th, mn, m0⟩, f0, m8⟩, w0, kw0, m7⟩, R0⟩ := X
  refine fE.of (L := [some (.ref 63), some (.int (f)), some (.int (k)), some (.int (s)), none]) (by decide +kernel) (Nat.le_of_ble_eq_true rfl) rfl ?_
  refine a_al0 fM_figure_0 ?_
  refine a_ic fM_figure_1 ?_
  refine a_pfi0 fM_figure_2 p_M_43 m0 ?_
  obtain ⟨h1, e1, W1, R1, F1⟩ := mThr m0 m8 kw0 m7 R0
  change fA _ _ _ _ (va_up h 63 (mO (nI tn, nx, pl, tk, fa, (nI ab).toInt64, (nI be).toInt64) 0 mn)) _ _ _ _ _
  rw [e1]
  clear e1 R0 m7 m8 m0
  have W2 := W1
  obtain ⟨M2, w1, kw1, M7⟩ := W2
  have M3 := M2
  obtain ⟨⟨th1, mn1, M0⟩, f1, M8⟩ := M3
  have M1 := R1.1.1
  obtain ⟨Rf, M6, r0, r1, r2⟩ := R1.2.2.2.2
  by_cases d0 : (0 ≤ f ∧ f ≤ 9)
  · refine a_il1 fM_figure_5 ?_
    refine a_ic fM_figure_6 ?_
    refine a_ic fM_figure_7 ?_
    refine a_S3V fM_figure_9 k_M_70 m_M_in ⟨by decide, by decide⟩ ⟨rfl, rfl⟩ (Nat.le_of_ble_eq_true rfl) (c_Min) ?_
    refine a_if_eq fM_figure_12 (fun c_ => absurd c_ (fun z => by rw [bI_t d0] at z; exact absurd z (by decide))) (fun _ => ?_)
    by_cases d1 : (0 ≤ k ∧ k ≤ 5)
    · refine a_il2 fM_figure_15 ?_
      refine a_ic fM_figure_16 ?_
      refine a_ic fM_figure_17 ?_
      refine a_S3V fM_figure_18 k_M_70 m_M_in ⟨by decide, by decide⟩ ⟨rfl, rfl⟩ (Nat.le_of_ble_eq_true rfl) (c_Min) ?_
      refine a_if_eq fM_figure_21 (fun c_ => absurd c_ (fun z => by rw [bI_t d1] at z; exact absurd z (by decide))) (fun _ => ?_)
      by_cases d2 : (1 ≤ s ∧ s ≤ 60)
      · exact absurd ⟨d0, d1, d2⟩ hb
      · refine a_il3 fM_figure_24 ?_
        refine a_ic fM_figure_25 ?_
        refine a_ic fM_figure_26 ?_
        refine a_S3V fM_figure_28 k_M_70 m_M_in ⟨by decide, by decide⟩ ⟨rfl, rfl⟩ (Nat.le_of_ble_eq_true rfl) (c_Min) ?_
        refine a_if_ne fM_figure_31 (fun c_ => absurd (by rw [bI_f d2]) c_) (fun _ => ?_)
        refine a_al0 fM_figure_34 ?_
        refine a_ic fM_figure_35 ?_
        refine a_V1V fM_figure_36 k_M_74 m_M_refuses ⟨by decide, by decide⟩ M0 rfl ⟨rfl, rfl⟩ (Nat.le_of_ble_eq_true rfl) (c_Mrefuses (w := 0) M0 M6 (by decide)) ?_
        exact a_ri fM_figure_39 rfl (⟨_, rfl, rfl, rfl, F1.c.up (by decide), ⟨nx, pl, tk, fa, W1.up (by decide) (by decide) (by decide)⟩, R1.re0 M6 r0 r1 r2⟩)
    · refine a_il2 fM_figure_15 ?_
      refine a_ic fM_figure_16 ?_
      refine a_ic fM_figure_17 ?_
      refine a_S3V fM_figure_18 k_M_70 m_M_in ⟨by decide, by decide⟩ ⟨rfl, rfl⟩ (Nat.le_of_ble_eq_true rfl) (c_Min) ?_
      refine a_if_eq fM_figure_21 (fun _ => ?_) (fun c_ => absurd (by rw [bI_f d1]) c_)
      refine a_al0 fM_figure_34 ?_
      refine a_ic fM_figure_35 ?_
      refine a_V1V fM_figure_36 k_M_74 m_M_refuses ⟨by decide, by decide⟩ M0 rfl ⟨rfl, rfl⟩ (Nat.le_of_ble_eq_true rfl) (c_Mrefuses (w := 0) M0 M6 (by decide)) ?_
      exact a_ri fM_figure_39 rfl (⟨_, rfl, rfl, rfl, F1.c.up (by decide), ⟨nx, pl, tk, fa, W1.up (by decide) (by decide) (by decide)⟩, R1.re0 M6 r0 r1 r2⟩)
  · refine a_il1 fM_figure_5 ?_
    refine a_ic fM_figure_6 ?_
    refine a_ic fM_figure_7 ?_
    refine a_S3V fM_figure_9 k_M_70 m_M_in ⟨by decide, by decide⟩ ⟨rfl, rfl⟩ (Nat.le_of_ble_eq_true rfl) (c_Min) ?_
    refine a_if_eq fM_figure_12 (fun _ => ?_) (fun c_ => absurd (by rw [bI_f d0]) c_)
    refine a_al0 fM_figure_34 ?_
    refine a_ic fM_figure_35 ?_
    refine a_V1V fM_figure_36 k_M_74 m_M_refuses ⟨by decide, by decide⟩ M0 rfl ⟨rfl, rfl⟩ (Nat.le_of_ble_eq_true rfl) (c_Mrefuses (w := 0) M0 M6 (by decide)) ?_
    exact a_ri fM_figure_39 rfl (⟨_, rfl, rfl, rfl, F1.c.up (by decide), ⟨nx, pl, tk, fa, W1.up (by decide) (by decide) (by decide)⟩, R1.re0 M6 r0 r1 r2⟩)
theorem m_figure {F9 K9 S9 : Nat} (X : MS h N I tn bt ab be rb rn rf) (K : okN N) (h9 : F9 < 10) (h8 : K9 ≤ 5) (h7 : 1 ≤ S9 ∧ S9 ≤ 60) : fE M_M_figure E [.ref 63, .int (nI F9), .int (nI K9), .int (nI S9)] n h (qI (fun r k g => r = nI (100 * N F9 + N (10 + F9)) ∧ k = n ∧ fC h g ∧ MS g (tfN N F9 K9 S9) I tn bt ab be rb rn rf)) := by
  have O := K.c
  have k31 := K.2.2.1.1
  obtain ⟨⟨nx, pl, tk, fa, ⟨⟨th, mn, m0⟩, f0, m8⟩, w0, kw0, m7⟩, R0⟩ := X
  refine fE.of (L := [some (.ref 63), some (.int (nI F9)), some (.int (nI K9)), some (.int (nI S9)), none]) (by decide +kernel) (Nat.le_of_ble_eq_true rfl) rfl ?_
  refine a_al0 fM_figure_0 ?_
  refine a_ic fM_figure_1 ?_
  refine a_pfi0 fM_figure_2 p_M_43 m0 ?_
  obtain ⟨h1, e1, W1, R1, F1⟩ := mThr m0 m8 kw0 m7 R0
  change fA _ _ _ _ (va_up h 63 (mO (nI tn, nx, pl, tk, fa, (nI ab).toInt64, (nI be).toInt64) 0 mn)) _ _ _ _ _
  rw [e1]
  clear e1 R0 m7 m8 m0
  have W2 := W1
  obtain ⟨M2, w1, kw1, M7⟩ := W2
  have M3 := M2
  obtain ⟨⟨th1, mn1, M0⟩, f1, M8⟩ := M3
  have M1 := R1.1.1
  obtain ⟨Rf, M6, r0, r1, r2⟩ := R1.2.2.2.2
  refine a_il1 fM_figure_5 ?_
  refine a_ic fM_figure_6 ?_
  refine a_ic fM_figure_7 ?_
  refine a_S3V fM_figure_9 k_M_70 m_M_in ⟨by decide, by decide⟩ ⟨rfl, rfl⟩ (Nat.le_of_ble_eq_true rfl) (c_Min) ?_
  refine a_if_eq fM_figure_12 (fun c_ => absurd c_ (fun z => by rw [bI_t ⟨nI_pos' (by omega), nI_le (b := 9) (by omega) (by decide)⟩] at z; exact absurd z (by decide))) (fun _ => ?_)
  refine a_il2 fM_figure_15 ?_
  refine a_ic fM_figure_16 ?_
  refine a_ic fM_figure_17 ?_
  refine a_S3V fM_figure_18 k_M_70 m_M_in ⟨by decide, by decide⟩ ⟨rfl, rfl⟩ (Nat.le_of_ble_eq_true rfl) (c_Min) ?_
  refine a_if_eq fM_figure_21 (fun c_ => absurd c_ (fun z => by rw [bI_t ⟨nI_pos' (by omega), nI_le (b := 5) (by omega) (by decide)⟩] at z; exact absurd z (by decide))) (fun _ => ?_)
  refine a_il3 fM_figure_24 ?_
  refine a_ic fM_figure_25 ?_
  refine a_ic fM_figure_26 ?_
  refine a_S3V fM_figure_28 k_M_70 m_M_in ⟨by decide, by decide⟩ ⟨rfl, rfl⟩ (Nat.le_of_ble_eq_true rfl) (c_Min) ?_
  refine a_if_ne fM_figure_31 (fun _ => ?_) (fun c_ => absurd c_ (fun z => by rw [bI_t ⟨nI_le (a := 1) (by omega) (by omega), nI_le (b := 60) (by omega) (by decide)⟩] at z; exact absurd z (by decide)))
  refine a_ic fM_figure_40 ?_
  refine a_al0 fM_figure_42 ?_
  refine a_gf fM_figure_43 l_M_7 M0 rfl ?_
  refine a_ic fM_figure_46 ?_
  refine a_il1 fM_figure_47 ?_
  refine a_iadd fM_figure_48 ?_
  refine a_ia fM_figure_49 M1 (Int32.zero_add _) (by omega) (by decide) ?_
  refine a_imul fM_figure_50 ?_
  refine a_al0 fM_figure_51 ?_
  refine a_gf fM_figure_52 l_M_7 M0 rfl ?_
  refine a_ic fM_figure_55 ?_
  refine a_il1 fM_figure_57 ?_
  refine a_iadd fM_figure_58 ?_
  refine a_ia fM_figure_59 M1 (nI_add 10 _) (by omega) (by decide) ?_
  refine a_iadd fM_figure_60 ?_
  rw [show (100 : Int32) * nF N F9 + nF N (10 + F9) = nI (100 * N F9 + N (10 + F9)) by rw [show (100 : Int32) * nF N F9 = nI (100 * N F9) from pk_mul 100 _]; exact nI_add _ _]
  refine a_is4 fM_figure_61 (by decide) rfl ?_
  refine a_al0 fM_figure_63 ?_
  refine a_gf fM_figure_64 l_M_7 M0 rfl ?_
  refine a_ic fM_figure_67 ?_
  refine a_il1 fM_figure_68 ?_
  refine a_iadd fM_figure_69 ?_
  refine a_il2 fM_figure_70 ?_
  refine a_it fM_figure_71 M1 (Int32.zero_add _) (by omega) (by decide) ?_
  rw [upd_nF]
  refine a_al0 fM_figure_72 ?_
  refine a_gf fM_figure_73 l_M_7 (up_n (by decide) M0) rfl ?_
  refine a_ic fM_figure_76 ?_
  refine a_il1 fM_figure_78 ?_
  refine a_iadd fM_figure_79 ?_
  refine a_il3 fM_figure_80 ?_
  refine a_it fM_figure_81 up_s (nI_add 10 _) (by omega) (by decide) ?_
  rw [bx_uu, upd_nF]
  refine a_al0 fM_figure_82 ?_
  refine a_gf fM_figure_83 l_M_7 (up_n (by decide) M0) rfl ?_
  refine a_ic fM_figure_86 ?_
  refine a_ic fM_figure_88 ?_
  refine a_it fM_figure_89 up_s (show (84 : Int32) = nI 84 from rfl) (by decide) (by decide) ?_
  rw [bx_uu, show upd (nF (va_up (va_up N F9 K9) (10 + F9) S9)) 84 0 = nF (tfN N F9 K9 S9) from upd_nF (v := 0)]
  refine a_il4 fM_figure_90 ?_
  exact a_ri fM_figure_92 rfl (⟨_, rfl, rfl, rfl, F1.c.up (by decide), ⟨nx, pl, tk, fa, W1.up (by decide) (by decide) (by decide)⟩, R1.now (((R1.1.2.up (by omega)).up (by omega)).up (by omega))⟩)
theorem m_bill_bad {v w : Int32} (X : MS h N I tn bt ab be rb rn rf) (hb : ¬ ((0 ≤ v ∧ v ≤ 99) ∧ (0 ≤ w ∧ w ≤ 99))) : fE M_M_bill E [.ref 63, .int v, .int w] n h (qI (fun r k g => r = -2 ∧ k = n ∧ fC h g ∧ MS g N I tn bt ab be (rb + 1) rn rf)) := by
  obtain ⟨⟨nx, pl, tk, fa, ⟨⟨th, mn, m0⟩, f0, m8⟩, w0, kw0, m7⟩, R0⟩ := X
  refine fE.of (L := [some (.ref 63), some (.int (v)), some (.int (w))]) (by decide +kernel) (Nat.le_of_ble_eq_true rfl) rfl ?_
  refine a_al0 fM_bill_0 ?_
  refine a_ic fM_bill_1 ?_
  refine a_pfi0 fM_bill_2 p_M_43 m0 ?_
  obtain ⟨h1, e1, W1, R1, F1⟩ := mThr m0 m8 kw0 m7 R0
  change fA _ _ _ _ (va_up h 63 (mO (nI tn, nx, pl, tk, fa, (nI ab).toInt64, (nI be).toInt64) 0 mn)) _ _ _ _ _
  rw [e1]
  clear e1 R0 m7 m8 m0
  have W2 := W1
  obtain ⟨M2, w1, kw1, M7⟩ := W2
  have M3 := M2
  obtain ⟨⟨th1, mn1, M0⟩, f1, M8⟩ := M3
  have M1 := R1.1.1
  obtain ⟨Rf, M6, r0, r1, r2⟩ := R1.2.2.2.2
  by_cases d0 : (0 ≤ v ∧ v ≤ 99)
  · refine a_il1 fM_bill_5 ?_
    refine a_ic fM_bill_6 ?_
    refine a_ic fM_bill_7 ?_
    refine a_S3V fM_bill_9 k_M_70 m_M_in ⟨by decide, by decide⟩ ⟨rfl, rfl⟩ (Nat.le_of_ble_eq_true rfl) (c_Min) ?_
    refine a_if_eq fM_bill_12 (fun c_ => absurd c_ (fun z => by rw [bI_t d0] at z; exact absurd z (by decide))) (fun _ => ?_)
    by_cases d1 : (0 ≤ w ∧ w ≤ 99)
    · exact absurd ⟨d0, d1⟩ hb
    · refine a_il2 fM_bill_15 ?_
      refine a_ic fM_bill_16 ?_
      refine a_ic fM_bill_17 ?_
      refine a_S3V fM_bill_19 k_M_70 m_M_in ⟨by decide, by decide⟩ ⟨rfl, rfl⟩ (Nat.le_of_ble_eq_true rfl) (c_Min) ?_
      refine a_if_ne fM_bill_22 (fun c_ => absurd (by rw [bI_f d1]) c_) (fun _ => ?_)
      refine a_al0 fM_bill_25 ?_
      refine a_ic fM_bill_26 ?_
      refine a_V1V fM_bill_27 k_M_74 m_M_refuses ⟨by decide, by decide⟩ M0 rfl ⟨rfl, rfl⟩ (Nat.le_of_ble_eq_true rfl) (c_Mrefuses (w := 0) M0 M6 (by decide)) ?_
      exact a_ri fM_bill_30 rfl (⟨_, rfl, rfl, rfl, F1.c.up (by decide), ⟨nx, pl, tk, fa, W1.up (by decide) (by decide) (by decide)⟩, R1.re0 M6 r0 r1 r2⟩)
  · refine a_il1 fM_bill_5 ?_
    refine a_ic fM_bill_6 ?_
    refine a_ic fM_bill_7 ?_
    refine a_S3V fM_bill_9 k_M_70 m_M_in ⟨by decide, by decide⟩ ⟨rfl, rfl⟩ (Nat.le_of_ble_eq_true rfl) (c_Min) ?_
    refine a_if_eq fM_bill_12 (fun _ => ?_) (fun c_ => absurd (by rw [bI_f d0]) c_)
    refine a_al0 fM_bill_25 ?_
    refine a_ic fM_bill_26 ?_
    refine a_V1V fM_bill_27 k_M_74 m_M_refuses ⟨by decide, by decide⟩ M0 rfl ⟨rfl, rfl⟩ (Nat.le_of_ble_eq_true rfl) (c_Mrefuses (w := 0) M0 M6 (by decide)) ?_
    exact a_ri fM_bill_30 rfl (⟨_, rfl, rfl, rfl, F1.c.up (by decide), ⟨nx, pl, tk, fa, W1.up (by decide) (by decide) (by decide)⟩, R1.re0 M6 r0 r1 r2⟩)
theorem m_bill_full {V9 W9 : Nat} (X : MS h N I tn bt ab be rb rn rf) (K : okN N) (h9 : V9 < 100) (h8 : W9 < 100) (h7 : N 31 = 6) : fE M_M_bill E [.ref 63, .int (nI V9), .int (nI W9)] n h (qI (fun r k g => r = -4 ∧ k = n ∧ fC h g ∧ MS g N I tn bt ab be rb rn (rf + 1))) := by
  have O := K.c
  have k31 := K.2.2.1.1
  obtain ⟨⟨nx, pl, tk, fa, ⟨⟨th, mn, m0⟩, f0, m8⟩, w0, kw0, m7⟩, R0⟩ := X
  refine fE.of (L := [some (.ref 63), some (.int (nI V9)), some (.int (nI W9))]) (by decide +kernel) (Nat.le_of_ble_eq_true rfl) rfl ?_
  refine a_al0 fM_bill_0 ?_
  refine a_ic fM_bill_1 ?_
  refine a_pfi0 fM_bill_2 p_M_43 m0 ?_
  obtain ⟨h1, e1, W1, R1, F1⟩ := mThr m0 m8 kw0 m7 R0
  change fA _ _ _ _ (va_up h 63 (mO (nI tn, nx, pl, tk, fa, (nI ab).toInt64, (nI be).toInt64) 0 mn)) _ _ _ _ _
  rw [e1]
  clear e1 R0 m7 m8 m0
  have W2 := W1
  obtain ⟨M2, w1, kw1, M7⟩ := W2
  have M3 := M2
  obtain ⟨⟨th1, mn1, M0⟩, f1, M8⟩ := M3
  have M1 := R1.1.1
  obtain ⟨Rf, M6, r0, r1, r2⟩ := R1.2.2.2.2
  refine a_il1 fM_bill_5 ?_
  refine a_ic fM_bill_6 ?_
  refine a_ic fM_bill_7 ?_
  refine a_S3V fM_bill_9 k_M_70 m_M_in ⟨by decide, by decide⟩ ⟨rfl, rfl⟩ (Nat.le_of_ble_eq_true rfl) (c_Min) ?_
  refine a_if_eq fM_bill_12 (fun c_ => absurd c_ (fun z => by rw [bI_t ⟨nI_pos' (by omega), nI_le (b := 99) (by omega) (by decide)⟩] at z; exact absurd z (by decide))) (fun _ => ?_)
  refine a_il2 fM_bill_15 ?_
  refine a_ic fM_bill_16 ?_
  refine a_ic fM_bill_17 ?_
  refine a_S3V fM_bill_19 k_M_70 m_M_in ⟨by decide, by decide⟩ ⟨rfl, rfl⟩ (Nat.le_of_ble_eq_true rfl) (c_Min) ?_
  refine a_if_ne fM_bill_22 (fun _ => ?_) (fun c_ => absurd c_ (fun z => by rw [bI_t ⟨nI_pos' (by omega), nI_le (b := 99) (by omega) (by decide)⟩] at z; exact absurd z (by decide)))
  refine a_al0 fM_bill_31 ?_
  refine a_gf fM_bill_32 l_M_7 M0 rfl ?_
  refine a_ic fM_bill_35 ?_
  refine a_ia fM_bill_37 M1 (show (31 : Int32) = nI 31 from rfl) (by decide) (by decide) ?_
  refine a_ic fM_bill_38 ?_
  refine a_ic_ne fM_bill_40 (fun c_ => absurd (congrArg nI h7) c_) (fun _ => ?_)
  refine a_al0 fM_bill_43 ?_
  refine a_ic fM_bill_44 ?_
  refine a_V1V fM_bill_45 k_M_74 m_M_refuses ⟨by decide, by decide⟩ M0 rfl ⟨rfl, rfl⟩ (Nat.le_of_ble_eq_true rfl) (c_Mrefuses (w := 2) M0 M6 (by decide)) ?_
  exact a_ri fM_bill_48 rfl (⟨_, rfl, rfl, rfl, F1.c.up (by decide), ⟨nx, pl, tk, fa, W1.up (by decide) (by decide) (by decide)⟩, R1.re2 M6 r0 r1 r2⟩)
theorem m_bill {V9 W9 : Nat} (X : MS h N I tn bt ab be rb rn rf) (K : okN N) (h9 : V9 < 100) (h8 : W9 < 100) (h7 : N 31 < 6) : fE M_M_bill E [.ref 63, .int (nI V9), .int (nI W9)] n h (qI (fun r k g => r = nI (N 31) ∧ k = n ∧ fC h g ∧ MS g (tbN N V9 W9) I tn bt ab be rb rn rf)) := by
  have O := K.c
  have k31 := K.2.2.1.1
  obtain ⟨⟨nx, pl, tk, fa, ⟨⟨th, mn, m0⟩, f0, m8⟩, w0, kw0, m7⟩, R0⟩ := X
  refine fE.of (L := [some (.ref 63), some (.int (nI V9)), some (.int (nI W9))]) (by decide +kernel) (Nat.le_of_ble_eq_true rfl) rfl ?_
  refine a_al0 fM_bill_0 ?_
  refine a_ic fM_bill_1 ?_
  refine a_pfi0 fM_bill_2 p_M_43 m0 ?_
  obtain ⟨h1, e1, W1, R1, F1⟩ := mThr m0 m8 kw0 m7 R0
  change fA _ _ _ _ (va_up h 63 (mO (nI tn, nx, pl, tk, fa, (nI ab).toInt64, (nI be).toInt64) 0 mn)) _ _ _ _ _
  rw [e1]
  clear e1 R0 m7 m8 m0
  have W2 := W1
  obtain ⟨M2, w1, kw1, M7⟩ := W2
  have M3 := M2
  obtain ⟨⟨th1, mn1, M0⟩, f1, M8⟩ := M3
  have M1 := R1.1.1
  obtain ⟨Rf, M6, r0, r1, r2⟩ := R1.2.2.2.2
  refine a_il1 fM_bill_5 ?_
  refine a_ic fM_bill_6 ?_
  refine a_ic fM_bill_7 ?_
  refine a_S3V fM_bill_9 k_M_70 m_M_in ⟨by decide, by decide⟩ ⟨rfl, rfl⟩ (Nat.le_of_ble_eq_true rfl) (c_Min) ?_
  refine a_if_eq fM_bill_12 (fun c_ => absurd c_ (fun z => by rw [bI_t ⟨nI_pos' (by omega), nI_le (b := 99) (by omega) (by decide)⟩] at z; exact absurd z (by decide))) (fun _ => ?_)
  refine a_il2 fM_bill_15 ?_
  refine a_ic fM_bill_16 ?_
  refine a_ic fM_bill_17 ?_
  refine a_S3V fM_bill_19 k_M_70 m_M_in ⟨by decide, by decide⟩ ⟨rfl, rfl⟩ (Nat.le_of_ble_eq_true rfl) (c_Min) ?_
  refine a_if_ne fM_bill_22 (fun _ => ?_) (fun c_ => absurd c_ (fun z => by rw [bI_t ⟨nI_pos' (by omega), nI_le (b := 99) (by omega) (by decide)⟩] at z; exact absurd z (by decide)))
  refine a_al0 fM_bill_31 ?_
  refine a_gf fM_bill_32 l_M_7 M0 rfl ?_
  refine a_ic fM_bill_35 ?_
  refine a_ia fM_bill_37 M1 (show (31 : Int32) = nI 31 from rfl) (by decide) (by decide) ?_
  refine a_ic fM_bill_38 ?_
  refine a_ic_ne fM_bill_40 (fun _ => ?_) (fun c_ => absurd c_ (fun z => absurd ((nI_eq (b := 6) (by omega) (by decide)).mp z) (by omega)))
  refine a_al0 fM_bill_49 ?_
  refine a_gf fM_bill_50 l_M_7 M0 rfl ?_
  refine a_il1 fM_bill_53 ?_
  refine a_il2 fM_bill_54 ?_
  refine a_S3N fM_bill_55 k_M_78 m_M_bills ⟨by decide, by decide⟩ ⟨rfl, rfl⟩ (Nat.le_of_ble_eq_true rfl) (c_Mbills M1 h7) ?_
  refine a_al0 fM_bill_58 ?_
  refine a_gf fM_bill_59 l_M_7 (up_n (by decide) M0) rfl ?_
  refine a_ic fM_bill_62 ?_
  refine a_ic fM_bill_64 ?_
  refine a_it fM_bill_65 up_s (show (84 : Int32) = nI 84 from rfl) (by decide) (by decide) ?_
  rw [bx_uu, show upd (nF (va_up (va_up (va_up N (32 + N 31) V9) (38 + N 31) W9) 31 (N 31 + 1))) 84 0 = nF (tbN N V9 W9) from upd_nF (v := 0)]
  have e31 : tbN N V9 W9 31 = N 31 + 1 := by unfold tbN; rw [vn (by omega)]; exact up_s
  refine a_al0 fM_bill_66 ?_
  refine a_gf fM_bill_67 l_M_7 (up_n (by decide) M0) rfl ?_
  refine a_ic fM_bill_70 ?_
  refine a_ia fM_bill_72 up_s (show (31 : Int32) = nI 31 from rfl) (by decide) (by decide) ?_
  refine a_ic fM_bill_73 ?_
  refine a_isub fM_bill_74 ?_
  exact a_ri fM_bill_75 rfl ⟨_, rfl, by rw [show nF (tbN N V9 W9) 31 = nI (N 31 + 1) from congrArg nI e31]; exact nI_pred _, rfl, F1.c.up (by decide), ⟨nx, pl, tk, fa, W1.up (by decide) (by decide) (by decide)⟩, R1.now ((((R1.1.2.up (by omega)).up (by omega)).up (by omega)).up (by omega))⟩
theorem m_type_bad {c9 : Int32} (X : MS h N I tn bt ab be rb rn rf) (hb : ¬ ((0 ≤ c9 ∧ c9 ≤ 127))) : fE M_M_type E [.ref 63, .int c9] n h (qI (fun r k g => r = -2 ∧ k = n ∧ fC h g ∧ MS g N I tn bt ab be (rb + 1) rn rf)) := by
  obtain ⟨⟨nx, pl, tk, fa, ⟨⟨th, mn, m0⟩, f0, m8⟩, w0, kw0, m7⟩, R0⟩ := X
  refine fE.of (L := [some (.ref 63), some (.int (c9))]) (by decide +kernel) (Nat.le_of_ble_eq_true rfl) rfl ?_
  refine a_al0 fM_type_0 ?_
  refine a_ic fM_type_1 ?_
  refine a_pfi0 fM_type_2 p_M_43 m0 ?_
  obtain ⟨h1, e1, W1, R1, F1⟩ := mThr m0 m8 kw0 m7 R0
  change fA _ _ _ _ (va_up h 63 (mO (nI tn, nx, pl, tk, fa, (nI ab).toInt64, (nI be).toInt64) 0 mn)) _ _ _ _ _
  rw [e1]
  clear e1 R0 m7 m8 m0
  have W2 := W1
  obtain ⟨M2, w1, kw1, M7⟩ := W2
  have M3 := M2
  obtain ⟨⟨th1, mn1, M0⟩, f1, M8⟩ := M3
  have M1 := R1.1.1
  obtain ⟨Rf, M6, r0, r1, r2⟩ := R1.2.2.2.2
  by_cases d0 : (0 ≤ c9 ∧ c9 ≤ 127)
  · exact absurd d0 hb
  · refine a_il1 fM_type_5 ?_
    refine a_ic fM_type_6 ?_
    refine a_ic fM_type_7 ?_
    refine a_S3V fM_type_9 k_M_70 m_M_in ⟨by decide, by decide⟩ ⟨rfl, rfl⟩ (Nat.le_of_ble_eq_true rfl) (c_Min) ?_
    refine a_if_ne fM_type_12 (fun c_ => absurd (by rw [bI_f d0]) c_) (fun _ => ?_)
    refine a_al0 fM_type_15 ?_
    refine a_ic fM_type_16 ?_
    refine a_V1V fM_type_17 k_M_74 m_M_refuses ⟨by decide, by decide⟩ M0 rfl ⟨rfl, rfl⟩ (Nat.le_of_ble_eq_true rfl) (c_Mrefuses (w := 0) M0 M6 (by decide)) ?_
    exact a_ri fM_type_20 rfl (⟨_, rfl, rfl, rfl, F1.c.up (by decide), ⟨nx, pl, tk, fa, W1.up (by decide) (by decide) (by decide)⟩, R1.re0 M6 r0 r1 r2⟩)
theorem m_type_full {C9 : Nat} (X : MS h N I tn bt ab be rb rn rf) (K : okN N) (h9 : C9 ≤ 127) (h8 : tn = 150) : fE M_M_type E [.ref 63, .int (nI C9)] n h (qI (fun r k g => r = -4 ∧ k = n ∧ fC h g ∧ MS g N I tn bt ab be rb rn (rf + 1))) := by
  have O := K.c
  have k31 := K.2.2.1.1
  obtain ⟨⟨nx, pl, tk, fa, ⟨⟨th, mn, m0⟩, f0, m8⟩, w0, kw0, m7⟩, R0⟩ := X
  refine fE.of (L := [some (.ref 63), some (.int (nI C9))]) (by decide +kernel) (Nat.le_of_ble_eq_true rfl) rfl ?_
  refine a_al0 fM_type_0 ?_
  refine a_ic fM_type_1 ?_
  refine a_pfi0 fM_type_2 p_M_43 m0 ?_
  obtain ⟨h1, e1, W1, R1, F1⟩ := mThr m0 m8 kw0 m7 R0
  change fA _ _ _ _ (va_up h 63 (mO (nI tn, nx, pl, tk, fa, (nI ab).toInt64, (nI be).toInt64) 0 mn)) _ _ _ _ _
  rw [e1]
  clear e1 R0 m7 m8 m0
  have W2 := W1
  obtain ⟨M2, w1, kw1, M7⟩ := W2
  have M3 := M2
  obtain ⟨⟨th1, mn1, M0⟩, f1, M8⟩ := M3
  have M1 := R1.1.1
  obtain ⟨Rf, M6, r0, r1, r2⟩ := R1.2.2.2.2
  refine a_il1 fM_type_5 ?_
  refine a_ic fM_type_6 ?_
  refine a_ic fM_type_7 ?_
  refine a_S3V fM_type_9 k_M_70 m_M_in ⟨by decide, by decide⟩ ⟨rfl, rfl⟩ (Nat.le_of_ble_eq_true rfl) (c_Min) ?_
  refine a_if_ne fM_type_12 (fun _ => ?_) (fun c_ => absurd c_ (fun z => by rw [bI_t ⟨nI_pos' (by omega), nI_le (b := 127) (by omega) (by decide)⟩] at z; exact absurd z (by decide)))
  refine a_al0 fM_type_21 ?_
  refine a_gf fM_type_22 l_M_82 M0 rfl ?_
  refine a_ic fM_type_25 ?_
  refine a_ic_ne fM_type_28 (fun c_ => absurd (congrArg nI h8) c_) (fun _ => ?_)
  refine a_al0 fM_type_31 ?_
  refine a_ic fM_type_32 ?_
  refine a_V1V fM_type_33 k_M_74 m_M_refuses ⟨by decide, by decide⟩ M0 rfl ⟨rfl, rfl⟩ (Nat.le_of_ble_eq_true rfl) (c_Mrefuses (w := 2) M0 M6 (by decide)) ?_
  exact a_ri fM_type_36 rfl (⟨_, rfl, rfl, rfl, F1.c.up (by decide), ⟨nx, pl, tk, fa, W1.up (by decide) (by decide) (by decide)⟩, R1.re2 M6 r0 r1 r2⟩)
theorem m_type {C9 : Nat} (X : MS h N I tn bt ab be rb rn rf) (K : okN N) (h9 : C9 ≤ 127) (h8 : tn < 150) : fE M_M_type E [.ref 63, .int (nI C9)] n h (qI (fun r k g => r = nI (tn + 1) ∧ k = n ∧ fC h g ∧ MS g N I (tn + 1) (va_up bt tn C9) ab be rb rn rf)) := by
  have O := K.c
  have k31 := K.2.2.1.1
  obtain ⟨⟨nx, pl, tk, fa, ⟨⟨th, mn, m0⟩, f0, m8⟩, w0, kw0, m7⟩, R0⟩ := X
  refine fE.of (L := [some (.ref 63), some (.int (nI C9))]) (by decide +kernel) (Nat.le_of_ble_eq_true rfl) rfl ?_
  refine a_al0 fM_type_0 ?_
  refine a_ic fM_type_1 ?_
  refine a_pfi0 fM_type_2 p_M_43 m0 ?_
  obtain ⟨h1, e1, W1, R1, F1⟩ := mThr m0 m8 kw0 m7 R0
  change fA _ _ _ _ (va_up h 63 (mO (nI tn, nx, pl, tk, fa, (nI ab).toInt64, (nI be).toInt64) 0 mn)) _ _ _ _ _
  rw [e1]
  clear e1 R0 m7 m8 m0
  have W2 := W1
  obtain ⟨M2, w1, kw1, M7⟩ := W2
  have M3 := M2
  obtain ⟨⟨th1, mn1, M0⟩, f1, M8⟩ := M3
  have M1 := R1.1.1
  obtain ⟨Rf, M6, r0, r1, r2⟩ := R1.2.2.2.2
  refine a_il1 fM_type_5 ?_
  refine a_ic fM_type_6 ?_
  refine a_ic fM_type_7 ?_
  refine a_S3V fM_type_9 k_M_70 m_M_in ⟨by decide, by decide⟩ ⟨rfl, rfl⟩ (Nat.le_of_ble_eq_true rfl) (c_Min) ?_
  refine a_if_ne fM_type_12 (fun _ => ?_) (fun c_ => absurd c_ (fun z => by rw [bI_t ⟨nI_pos' (by omega), nI_le (b := 127) (by omega) (by decide)⟩] at z; exact absurd z (by decide)))
  refine a_al0 fM_type_21 ?_
  refine a_gf fM_type_22 l_M_82 M0 rfl ?_
  refine a_ic fM_type_25 ?_
  refine a_ic_ne fM_type_28 (fun _ => ?_) (fun c_ => absurd c_ (fun z => absurd ((nI_eq (b := 150) (by omega) (by decide)).mp z) (by omega)))
  have M5 := R1.2.2.2.1
  refine a_al0 fM_type_37 ?_
  refine a_gf fM_type_38 l_M_23 M0 rfl ?_
  refine a_al0 fM_type_41 ?_
  refine a_gf fM_type_42 l_M_82 M0 rfl ?_
  refine a_il1 fM_type_45 ?_
  refine a_it fM_type_46 M5 (show nI tn = nI tn from rfl) (by omega) (by decide) ?_
  rw [upd_nF]
  refine a_al0 fM_type_47 ?_
  refine a_dup fM_type_48 rfl ?_
  refine a_gf fM_type_49 l_M_82 (up_n (by decide) M0) rfl ?_
  refine a_ic fM_type_52 ?_
  refine a_iadd fM_type_53 ?_
  refine a_pfi6 fM_type_54 p_M_82 (up_n (by decide) M0) ?_
  refine a_al0 fM_type_57 ?_
  refine a_gf fM_type_58 l_M_82 up_s rfl ?_
  exact a_ri fM_type_61 rfl ⟨_, rfl, nI_1 tn, rfl, (F1.c.up (by decide)).up (by decide), ⟨nx, pl, tk, fa, by rw [← nI_1 tn]; exact ⟨⟨⟨_, _, up_s⟩, f1, up_n (by decide) (up_n (by decide) M8)⟩, w1, kw1, up_n (by decide) (up_n (by decide) M7)⟩⟩, (R1.txt).of (fun a x1 _ _ => up_n x1 rfl)⟩
theorem m_clear (X : MS h N I tn bt ab be rb rn rf) (K : okN N) : fE M_M_clear E [.ref 63] n h (qI (fun r k g => r = nI tn ∧ k = n ∧ fC h g ∧ MS g N I 0 bt ab be rb rn rf)) := by
  have O := K.c
  have k31 := K.2.2.1.1
  obtain ⟨⟨nx, pl, tk, fa, ⟨⟨th, mn, m0⟩, f0, m8⟩, w0, kw0, m7⟩, R0⟩ := X
  refine fE.of (L := [some (.ref 63), none]) (by decide +kernel) (Nat.le_of_ble_eq_true rfl) rfl ?_
  refine a_al0 fM_clear_0 ?_
  refine a_ic fM_clear_1 ?_
  refine a_pfi0 fM_clear_2 p_M_43 m0 ?_
  obtain ⟨h1, e1, W1, R1, F1⟩ := mThr m0 m8 kw0 m7 R0
  change fA _ _ _ _ (va_up h 63 (mO (nI tn, nx, pl, tk, fa, (nI ab).toInt64, (nI be).toInt64) 0 mn)) _ _ _ _ _
  rw [e1]
  clear e1 R0 m7 m8 m0
  have W2 := W1
  obtain ⟨M2, w1, kw1, M7⟩ := W2
  have M3 := M2
  obtain ⟨⟨th1, mn1, M0⟩, f1, M8⟩ := M3
  have M1 := R1.1.1
  obtain ⟨Rf, M6, r0, r1, r2⟩ := R1.2.2.2.2
  refine a_al0 fM_clear_5 ?_
  refine a_gf fM_clear_6 l_M_82 M0 rfl ?_
  refine a_is1 fM_clear_9 (by decide) rfl ?_
  refine a_al0 fM_clear_10 ?_
  refine a_ic fM_clear_11 ?_
  refine a_pfi6 fM_clear_12 p_M_82 M0 ?_
  refine a_il1 fM_clear_15 ?_
  exact a_ri fM_clear_16 rfl (⟨_, rfl, rfl, rfl, F1.c.up (by decide), ⟨nx, pl, tk, fa, ⟨⟨⟨_, _, up_s⟩, f1, up_n (by decide) M8⟩, w1, kw1, up_n (by decide) M7⟩⟩, R1.of (fun a x1 _ _ => up_n x1 rfl)⟩)
end P3
