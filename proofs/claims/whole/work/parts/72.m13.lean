/-! the reference's reader: items -/
def rsT (tn : Nat) (bt : Nat → Nat) (up lo : Int64) (h : hT) (n : Nat) (o : (Nat → Nat) × Nat ⊕ Nat) (k : Nat) (g : hT) : Prop :=
  k = n ∧ (∀ y, y ≠ 63 → y ≠ 65 → y ≠ 71 → g y = h y) ∧ (∃ f, g 71 = ia 4 f) ∧ match o with
  | .inl x => (∃ th mn, g 63 = sW tn bt up lo x.2 th mn) ∧ g 65 = nA 189 x.1
  | .inr f => (∃ nx pl tk th mn, g 63 = mO (nI tn, nx, pl, tk, nI f, up, lo) th mn) ∧ ∃ D2, g 65 = nA 189 D2 ∧ z9 D2
theorem tf84 {D : Nat → Nat} {f k s : Nat} (h : D 84 = 0) (hf : f < 10) : va_up (va_up D f k) (10 + f) s = tfN D f k s := by
  unfold tfN
  exact (up_id ((vn (by omega)).trans ((vn (by omega)).trans h))).symm
theorem tb84 {D : Nat → Nat} {v w : Nat} (h : D 84 = 0) (h6 : D 31 < 6) : va_up (va_up (va_up D (32 + D 31) v) (38 + D 31) w) 31 (D 31 + 1) = tbN D v w := by
  unfold tbN
  exact (up_id ((vn (by omega)).trans ((vn (by omega)).trans ((vn (by omega)).trans h)))).symm
theorem tf_84 {D : Nat → Nat} {f k s : Nat} : tfN D f k s 84 = 0 := by unfold tfN; exact up_s
theorem tb_84 {D : Nat → Nat} {v w : Nat} : tbN D v w 84 = 0 := by unfold tbN; exact up_s
section RZ
variable {tn : Nat} {bt : Nat → Nat}
theorem rdC_z {D : Nat → Nat} {a : Nat} {b : Bool} {x : (Nat → Nat) × Nat} (K : okN D) (z : z9 D) (h84 : D 84 = 0) (e : rdC tn bt D b a = .inl x) : z9 x.1 ∧ x.1 84 = 0 := by
  unfold rdC at e
  split at e
  · split at e
    · cases e; exact ⟨z, h84⟩
    · cases e
  split at e
  · unfold rdF at e
    split at e
    · cases e
    split at e
    · cases e
    split at e
    · cases e
    rename_i c1 c2 c3
    have c1 := Decidable.of_not_not c1
    have := c1.2.2
    cases e
    exact ⟨((z.up (by omega)).up (by omega)).up (by omega), by dsimp only; exact tf_84⟩
  split at e
  · unfold rdB at e
    split at e
    · cases e
    split at e
    · cases e
    split at e
    · cases e
    rename_i c1 c2 c3
    have c1 := Decidable.of_not_not c1
    cases e
    exact ⟨(((z.up (by omega)).up (by omega)).up (by omega)).up (by omega), by dsimp only; exact tb_84⟩
  split at e
  · unfold rdW at e
    split at e
    · cases e
    split at e
    · cases e
    split at e
    · cases e
    · cases e
      exact ⟨z9_wd z, by dsimp only; exact (wd_44 (by omega)).trans h84⟩
  split at e
  · unfold rdN at e
    split at e
    · cases e
    · cases e
      exact ⟨z9_ngt _ z, by dsimp only; exact (ngt_out _ _ _ (by omega)).trans h84⟩
  · cases e
end RZ
section MC
variable {E : eT} {n : Nat} {h : hT} {tn : Nat} {bt : Nat → Nat} {th mn : Int32} {up lo : Int64} {D : Nat → Nat} {A : Nat} {f0 : Nat → Int32}
theorem rsT.b {o : (Nat → Nat) × Nat ⊕ Nat} {P : Nat} {nx pl tk : Int32} (mD : h 65 = nA 189 D) (z : z9 D) (m8 : h 71 = ia 4 f0) (e : o = .inr P) : rsT tn bt up lo h n o n (va_up h 63 (mO (nI tn, nx, pl, tk, nI P, up, lo) th mn)) := by
  subst e
  exact ⟨rfl, fun y y1 _ _ => vn y1, ⟨f0, up_n (by decide) m8⟩, ⟨_, _, _, _, _, up_s⟩, D, up_n (by decide) mD, z⟩
theorem c_Mreads0 (m0 : h 63 = sW tn bt up lo A th mn) (mD : h 65 = nA 189 D) (m8 : h 71 = ia 4 f0) : fE M_M_reads E [.ref 63, .int (nI 0)] n h (qN (rsT tn bt up lo h n (.inl (D, A)))) := by
  refine fE.of (L := [some (.ref 63), some (.int (nI 0)), none, none, none]) (by decide +kernel) (Nat.le_of_ble_eq_true rfl) rfl ?_
  refine a_il1 fM_reads_0 ?_
  refine a_ic fM_reads_1 ?_
  refine a_ic_ne fM_reads_2 (fun _ => ?_) (fun c_ => absurd c_ (by decide))
  refine a_il1 fM_reads_59 ?_
  refine a_ic fM_reads_60 ?_
  refine a_ic_ne fM_reads_61 (fun _ => ?_) (fun c_ => absurd c_ (by decide))
  refine a_il1 fM_reads_99 ?_
  refine a_ic fM_reads_100 ?_
  refine a_ic_ne fM_reads_101 (fun _ => ?_) (fun c_ => absurd c_ (by decide))
  refine a_il1 fM_reads_178 ?_
  refine a_ic fM_reads_179 ?_
  refine a_ic_ne fM_reads_180 (fun _ => ?_) (fun c_ => absurd c_ (by decide))
  exact a_rv fM_reads_218 rfl (⟨rfl, rfl, fun _ _ _ _ => rfl, ⟨f0, m8⟩, ⟨_, _, m0⟩, mD⟩)
theorem c_Mreads1 (m0 : h 63 = sW tn bt up lo A th mn) (m5 : h 68 = nA 150 bt) (K : okX tn bt) (hA : A ≤ tn) (mD : h 65 = nA 189 D) (z : z9 D) (h84 : D 84 = 0) (m8 : h 71 = ia 4 f0) : fE M_M_reads E [.ref 63, .int (nI 1)] n h (qN (rsT tn bt up lo h n (rdF tn bt D A))) := by
  have k0 := K.1
  have a1 := tkE_le (bt := bt) hA
  have a2 := tkE_le (bt := bt) a1
  have p0 := tkP_le (bt := bt) hA
  have p1 := tkP_le (bt := bt) a1
  have p2 := tkP_le (bt := bt) a2
  refine fE.of (L := [some (.ref 63), some (.int (nI 1)), none, none, none]) (by decide +kernel) (Nat.le_of_ble_eq_true rfl) rfl ?_
  refine a_il1 fM_reads_0 ?_
  refine a_ic fM_reads_1 ?_
  refine a_ic_ne fM_reads_2 (fun c_ => absurd (by decide) c_) (fun _ => ?_)
  by_cases c1 : isNo tn bt A 0 9
  · skip
    refine a_al0 fM_reads_5 ?_
    refine a_ic fM_reads_6 ?_
    refine a_ic fM_reads_7 ?_
    refine a_V2V fM_reads_9 k_M_123 m_M_number ⟨by decide, by decide⟩ m0 rfl ⟨rfl, rfl⟩ (Nat.le_of_ble_eq_true rfl) (c_Mnum_t (l9 := 0) (h9 := 9) m0 m5 K hA (by decide) (by decide) c1) ?_
    refine a_is2 fM_reads_12 (by decide) rfl ?_
    by_cases c2 : isNo tn bt (tkE tn bt A) 0 5
    · skip
      refine a_al0 fM_reads_13 ?_
      refine a_ic fM_reads_14 ?_
      refine a_ic fM_reads_15 ?_
      refine a_V2V fM_reads_16 k_M_123 m_M_number ⟨by decide, by decide⟩ up_s rfl ⟨rfl, rfl⟩ (Nat.le_of_ble_eq_true rfl) (c_Mnum_t (l9 := 0) (h9 := 5) up_s (up_n (by decide) m5) K a1 (by decide) (by decide) c2) ?_
      refine a_is3 fM_reads_19 (by decide) rfl ?_
      rw [bx_uu]
      by_cases c3 : isNo tn bt (tkE tn bt (tkE tn bt A)) 1 60
      · skip
        refine a_al0 fM_reads_20 ?_
        refine a_ic fM_reads_21 ?_
        refine a_ic fM_reads_22 ?_
        refine a_V2V fM_reads_24 k_M_123 m_M_number ⟨by decide, by decide⟩ up_s rfl ⟨rfl, rfl⟩ (Nat.le_of_ble_eq_true rfl) (c_Mnum_t (l9 := 1) (h9 := 60) up_s (up_n (by decide) m5) K a2 (by decide) (by decide) c3) ?_
        refine a_is4 fM_reads_27 (by decide) rfl ?_
        rw [bx_uu]
        refine a_al0 fM_reads_29 ?_
        refine a_V0V fM_reads_30 k_M_108 m_M_isWell ⟨by decide, by decide⟩ up_s rfl ⟨rfl, rfl⟩ (Nat.le_of_ble_eq_true rfl) (c_MisWell (tt := nI tn) (nx := nI (tkE tn bt (tkE tn bt (tkE tn bt (tkE tn bt A))))) (pl := nI (tkP tn bt (tkE tn bt (tkE tn bt (tkE tn bt A))))) (tk := tok tn bt (tkE tn bt (tkE tn bt (tkE tn bt A)))) (fa := -1) (up := up) (lo := lo) (th := th) (mn := mn) up_s) ?_
        refine a_if_eq fM_reads_33 (fun c_ => absurd c_ (by decide)) (fun _ => ?_)
        have F9 := c1.2.2
        refine a_al0 fM_reads_36 ?_
        refine a_gf fM_reads_37 l_M_13 up_s rfl ?_
        refine a_ic fM_reads_40 ?_
        refine a_il2 fM_reads_41 ?_
        refine a_iadd fM_reads_42 ?_
        refine a_il3 fM_reads_43 ?_
        refine a_it fM_reads_44 (up_n (by decide) mD) (Int32.zero_add _) (by omega) (by decide) ?_
        rw [upd_nF]
        refine a_al0 fM_reads_45 ?_
        refine a_gf fM_reads_46 l_M_13 (up_n (by decide) up_s) rfl ?_
        refine a_ic fM_reads_49 ?_
        refine a_il2 fM_reads_51 ?_
        refine a_iadd fM_reads_52 ?_
        refine a_il4 fM_reads_53 ?_
        refine a_it fM_reads_55 up_s (nI_add 10 _) (by omega) (by decide) ?_
        rw [bx_uu, upd_nF, tf84 h84 (by omega)]
        refine a_goto fM_reads_56 ?_
        exact a_rv fM_reads_218 rfl (⟨rfl, by rw [show rdF tn bt D A = .inl (tfN D (tkV tn bt A 0) (tkV tn bt (tkE tn bt A) 0) (tkV tn bt (tkE tn bt (tkE tn bt A)) 0), tkE tn bt (tkE tn bt (tkE tn bt A))) by unfold rdF; rw [if_neg (not_not_intro c1), if_neg (not_not_intro c2), if_neg (not_not_intro c3)]]; exact ⟨rfl, fun y y1 y2 _ => up_n y2 (vn y1), ⟨f0, up_n (by decide) (up_n (by decide) m8)⟩, ⟨_, _, up_n (by decide) up_s⟩, up_s⟩⟩)
      · skip
        refine a_al0 fM_reads_20 ?_
        refine a_ic fM_reads_21 ?_
        refine a_ic fM_reads_22 ?_
        refine a_V2V fM_reads_24 k_M_123 m_M_number ⟨by decide, by decide⟩ up_s rfl ⟨rfl, rfl⟩ (Nat.le_of_ble_eq_true rfl) (c_Mnum_f (l9 := 1) (h9 := 60) up_s K a2 (by decide) (by decide) c3) ?_
        refine a_is4 fM_reads_27 (by decide) rfl ?_
        rw [bx_uu]
        refine a_al0 fM_reads_29 ?_
        refine a_V0V fM_reads_30 k_M_108 m_M_isWell ⟨by decide, by decide⟩ up_s rfl ⟨rfl, rfl⟩ (Nat.le_of_ble_eq_true rfl) (c_MisWell (tt := nI tn) (nx := nI (tkE tn bt (tkE tn bt (tkE tn bt A)))) (pl := nI (tkP tn bt (tkE tn bt (tkE tn bt A)))) (tk := tok tn bt (tkE tn bt (tkE tn bt A))) (fa := nI (tkP tn bt (tkE tn bt (tkE tn bt A)))) (up := up) (lo := lo) (th := th) (mn := mn) up_s) ?_
        refine a_if_eq fM_reads_33 (fun _ => ?_) (fun c_ => absurd (by rw [bI_f (nI_pos (by omega))]) c_)
        refine a_goto fM_reads_56 ?_
        exact a_rv fM_reads_218 rfl (⟨rfl, rsT.b mD z m8 (by unfold rdF; rw [if_neg (not_not_intro c1), if_neg (not_not_intro c2), if_pos c3])⟩)
    · skip
      refine a_al0 fM_reads_13 ?_
      refine a_ic fM_reads_14 ?_
      refine a_ic fM_reads_15 ?_
      refine a_V2V fM_reads_16 k_M_123 m_M_number ⟨by decide, by decide⟩ up_s rfl ⟨rfl, rfl⟩ (Nat.le_of_ble_eq_true rfl) (c_Mnum_f (l9 := 0) (h9 := 5) up_s K a1 (by decide) (by decide) c2) ?_
      refine a_is3 fM_reads_19 (by decide) rfl ?_
      rw [bx_uu]
      refine a_al0 fM_reads_20 ?_
      refine a_ic fM_reads_21 ?_
      refine a_ic fM_reads_22 ?_
      refine a_V2V fM_reads_24 k_M_123 m_M_number ⟨by decide, by decide⟩ up_s rfl ⟨rfl, rfl⟩ (Nat.le_of_ble_eq_true rfl) (c_Mnum_b (f := tkP tn bt (tkE tn bt A)) (tt := nI tn) (nx := nI (tkE tn bt (tkE tn bt A))) (pl := nI (tkP tn bt (tkE tn bt A))) (tk := tok tn bt (tkE tn bt A)) (up := up) (lo := lo) (th := th) (mn := mn) up_s (by omega)) ?_
      refine a_is4 fM_reads_27 (by decide) rfl ?_
      refine a_al0 fM_reads_29 ?_
      refine a_V0V fM_reads_30 k_M_108 m_M_isWell ⟨by decide, by decide⟩ up_s rfl ⟨rfl, rfl⟩ (Nat.le_of_ble_eq_true rfl) (c_MisWell (tt := nI tn) (nx := nI (tkE tn bt (tkE tn bt A))) (pl := nI (tkP tn bt (tkE tn bt A))) (tk := tok tn bt (tkE tn bt A)) (fa := nI (tkP tn bt (tkE tn bt A))) (up := up) (lo := lo) (th := th) (mn := mn) up_s) ?_
      refine a_if_eq fM_reads_33 (fun _ => ?_) (fun c_ => absurd (by rw [bI_f (nI_pos (by omega))]) c_)
      refine a_goto fM_reads_56 ?_
      exact a_rv fM_reads_218 rfl (⟨rfl, rsT.b mD z m8 (by unfold rdF; rw [if_neg (not_not_intro c1), if_pos c2])⟩)
  · skip
    refine a_al0 fM_reads_5 ?_
    refine a_ic fM_reads_6 ?_
    refine a_ic fM_reads_7 ?_
    refine a_V2V fM_reads_9 k_M_123 m_M_number ⟨by decide, by decide⟩ m0 rfl ⟨rfl, rfl⟩ (Nat.le_of_ble_eq_true rfl) (c_Mnum_f (l9 := 0) (h9 := 9) m0 K hA (by decide) (by decide) c1) ?_
    refine a_is2 fM_reads_12 (by decide) rfl ?_
    refine a_al0 fM_reads_13 ?_
    refine a_ic fM_reads_14 ?_
    refine a_ic fM_reads_15 ?_
    refine a_V2V fM_reads_16 k_M_123 m_M_number ⟨by decide, by decide⟩ up_s rfl ⟨rfl, rfl⟩ (Nat.le_of_ble_eq_true rfl) (c_Mnum_b (f := tkP tn bt A) (tt := nI tn) (nx := nI (tkE tn bt A)) (pl := nI (tkP tn bt A)) (tk := tok tn bt A) (up := up) (lo := lo) (th := th) (mn := mn) up_s (by omega)) ?_
    refine a_is3 fM_reads_19 (by decide) rfl ?_
    refine a_al0 fM_reads_20 ?_
    refine a_ic fM_reads_21 ?_
    refine a_ic fM_reads_22 ?_
    refine a_V2V fM_reads_24 k_M_123 m_M_number ⟨by decide, by decide⟩ up_s rfl ⟨rfl, rfl⟩ (Nat.le_of_ble_eq_true rfl) (c_Mnum_b (f := tkP tn bt A) (tt := nI tn) (nx := nI (tkE tn bt A)) (pl := nI (tkP tn bt A)) (tk := tok tn bt A) (up := up) (lo := lo) (th := th) (mn := mn) up_s (by omega)) ?_
    refine a_is4 fM_reads_27 (by decide) rfl ?_
    refine a_al0 fM_reads_29 ?_
    refine a_V0V fM_reads_30 k_M_108 m_M_isWell ⟨by decide, by decide⟩ up_s rfl ⟨rfl, rfl⟩ (Nat.le_of_ble_eq_true rfl) (c_MisWell (tt := nI tn) (nx := nI (tkE tn bt A)) (pl := nI (tkP tn bt A)) (tk := tok tn bt A) (fa := nI (tkP tn bt A)) (up := up) (lo := lo) (th := th) (mn := mn) up_s) ?_
    refine a_if_eq fM_reads_33 (fun _ => ?_) (fun c_ => absurd (by rw [bI_f (nI_pos (by omega))]) c_)
    refine a_goto fM_reads_56 ?_
    exact a_rv fM_reads_218 rfl (⟨rfl, rsT.b mD z m8 (by unfold rdF; rw [if_pos c1])⟩)
theorem c_Mreads2 {P : Nat} (m0 : h 63 = sW tn bt up lo A th mn) (m5 : h 68 = nA 150 bt) (K : okX tn bt) (hA : A ≤ tn) (mD : h 65 = nA 189 D) (z : z9 D) (h84 : D 84 = 0) (h6 : D 31 < 6) (m8 : h 71 = ia 4 f0) : fE M_M_reads E [.ref 63, .int (nI 2)] n h (qN (rsT tn bt up lo h n (rdB tn bt D P A))) := by
  have k0 := K.1
  have a1 := tkE_le (bt := bt) hA
  have p0 := tkP_le (bt := bt) hA
  have p1 := tkP_le (bt := bt) a1
  refine fE.of (L := [some (.ref 63), some (.int (nI 2)), none, none, none]) (by decide +kernel) (Nat.le_of_ble_eq_true rfl) rfl ?_
  refine a_il1 fM_reads_0 ?_
  refine a_ic fM_reads_1 ?_
  refine a_ic_ne fM_reads_2 (fun _ => ?_) (fun c_ => absurd c_ (by decide))
  refine a_il1 fM_reads_59 ?_
  refine a_ic fM_reads_60 ?_
  refine a_ic_ne fM_reads_61 (fun c_ => absurd (by decide) c_) (fun _ => ?_)
  by_cases c1 : isNo tn bt A 0 99
  · skip
    refine a_al0 fM_reads_64 ?_
    refine a_ic fM_reads_65 ?_
    refine a_ic fM_reads_66 ?_
    refine a_V2V fM_reads_68 k_M_123 m_M_number ⟨by decide, by decide⟩ m0 rfl ⟨rfl, rfl⟩ (Nat.le_of_ble_eq_true rfl) (c_Mnum_t (l9 := 0) (h9 := 99) m0 m5 K hA (by decide) (by decide) c1) ?_
    refine a_is2 fM_reads_71 (by decide) rfl ?_
    by_cases c2 : isNo tn bt (tkE tn bt A) 0 99
    · skip
      refine a_al0 fM_reads_72 ?_
      refine a_ic fM_reads_73 ?_
      refine a_ic fM_reads_74 ?_
      refine a_V2V fM_reads_76 k_M_123 m_M_number ⟨by decide, by decide⟩ up_s rfl ⟨rfl, rfl⟩ (Nat.le_of_ble_eq_true rfl) (c_Mnum_t (l9 := 0) (h9 := 99) up_s (up_n (by decide) m5) K a1 (by decide) (by decide) c2) ?_
      refine a_is3 fM_reads_79 (by decide) rfl ?_
      rw [bx_uu]
      refine a_al0 fM_reads_80 ?_
      refine a_V0V fM_reads_81 k_M_108 m_M_isWell ⟨by decide, by decide⟩ up_s rfl ⟨rfl, rfl⟩ (Nat.le_of_ble_eq_true rfl) (c_MisWell (tt := nI tn) (nx := nI (tkE tn bt (tkE tn bt (tkE tn bt A)))) (pl := nI (tkP tn bt (tkE tn bt (tkE tn bt A)))) (tk := tok tn bt (tkE tn bt (tkE tn bt A))) (fa := -1) (up := up) (lo := lo) (th := th) (mn := mn) up_s) ?_
      refine a_if_eq fM_reads_84 (fun c_ => absurd c_ (by decide)) (fun _ => ?_)
      refine a_al0 fM_reads_87 ?_
      refine a_gf fM_reads_88 l_M_13 up_s rfl ?_
      refine a_il2 fM_reads_91 ?_
      refine a_il3 fM_reads_92 ?_
      refine a_S3N fM_reads_93 k_M_78 m_M_bills ⟨by decide, by decide⟩ ⟨rfl, rfl⟩ (Nat.le_of_ble_eq_true rfl) (c_Mbills (a := 65) (up_n (by decide) mD) h6) ?_
      rw [tb84 h84 h6]
      refine a_goto fM_reads_96 ?_
      exact a_rv fM_reads_218 rfl (⟨rfl, by rw [show rdB tn bt D P A = .inl (tbN D (tkV tn bt A 0) (tkV tn bt (tkE tn bt A) 0), tkE tn bt (tkE tn bt A)) by unfold rdB; rw [if_neg (not_not_intro h6), if_neg (not_not_intro c1), if_neg (not_not_intro c2)]]; exact ⟨rfl, fun y y1 y2 _ => up_n y2 (vn y1), ⟨f0, up_n (by decide) (up_n (by decide) m8)⟩, ⟨_, _, up_n (by decide) up_s⟩, up_s⟩⟩)
    · skip
      refine a_al0 fM_reads_72 ?_
      refine a_ic fM_reads_73 ?_
      refine a_ic fM_reads_74 ?_
      refine a_V2V fM_reads_76 k_M_123 m_M_number ⟨by decide, by decide⟩ up_s rfl ⟨rfl, rfl⟩ (Nat.le_of_ble_eq_true rfl) (c_Mnum_f (l9 := 0) (h9 := 99) up_s K a1 (by decide) (by decide) c2) ?_
      refine a_is3 fM_reads_79 (by decide) rfl ?_
      rw [bx_uu]
      refine a_al0 fM_reads_80 ?_
      refine a_V0V fM_reads_81 k_M_108 m_M_isWell ⟨by decide, by decide⟩ up_s rfl ⟨rfl, rfl⟩ (Nat.le_of_ble_eq_true rfl) (c_MisWell (tt := nI tn) (nx := nI (tkE tn bt (tkE tn bt A))) (pl := nI (tkP tn bt (tkE tn bt A))) (tk := tok tn bt (tkE tn bt A)) (fa := nI (tkP tn bt (tkE tn bt A))) (up := up) (lo := lo) (th := th) (mn := mn) up_s) ?_
      refine a_if_eq fM_reads_84 (fun _ => ?_) (fun c_ => absurd (by rw [bI_f (nI_pos (by omega))]) c_)
      refine a_goto fM_reads_96 ?_
      exact a_rv fM_reads_218 rfl (⟨rfl, rsT.b mD z m8 (by unfold rdB; rw [if_neg (not_not_intro h6), if_neg (not_not_intro c1), if_pos c2])⟩)
  · skip
    refine a_al0 fM_reads_64 ?_
    refine a_ic fM_reads_65 ?_
    refine a_ic fM_reads_66 ?_
    refine a_V2V fM_reads_68 k_M_123 m_M_number ⟨by decide, by decide⟩ m0 rfl ⟨rfl, rfl⟩ (Nat.le_of_ble_eq_true rfl) (c_Mnum_f (l9 := 0) (h9 := 99) m0 K hA (by decide) (by decide) c1) ?_
    refine a_is2 fM_reads_71 (by decide) rfl ?_
    refine a_al0 fM_reads_72 ?_
    refine a_ic fM_reads_73 ?_
    refine a_ic fM_reads_74 ?_
    refine a_V2V fM_reads_76 k_M_123 m_M_number ⟨by decide, by decide⟩ up_s rfl ⟨rfl, rfl⟩ (Nat.le_of_ble_eq_true rfl) (c_Mnum_b (f := tkP tn bt A) (tt := nI tn) (nx := nI (tkE tn bt A)) (pl := nI (tkP tn bt A)) (tk := tok tn bt A) (up := up) (lo := lo) (th := th) (mn := mn) up_s (by omega)) ?_
    refine a_is3 fM_reads_79 (by decide) rfl ?_
    refine a_al0 fM_reads_80 ?_
    refine a_V0V fM_reads_81 k_M_108 m_M_isWell ⟨by decide, by decide⟩ up_s rfl ⟨rfl, rfl⟩ (Nat.le_of_ble_eq_true rfl) (c_MisWell (tt := nI tn) (nx := nI (tkE tn bt A)) (pl := nI (tkP tn bt A)) (tk := tok tn bt A) (fa := nI (tkP tn bt A)) (up := up) (lo := lo) (th := th) (mn := mn) up_s) ?_
    refine a_if_eq fM_reads_84 (fun _ => ?_) (fun c_ => absurd (by rw [bI_f (nI_pos (by omega))]) c_)
    refine a_goto fM_reads_96 ?_
    exact a_rv fM_reads_218 rfl (⟨rfl, rsT.b mD z m8 (by unfold rdB; rw [if_neg (not_not_intro h6), if_pos c1])⟩)
theorem c_Mreads3 (m0 : h 63 = sW tn bt up lo A th mn) (m5 : h 68 = nA 150 bt) (K : okX tn bt) (hA : A ≤ tn) (mD : h 65 = nA 189 D) (z : z9 D) (KD : okN D) (m8 : h 71 = ia 4 f0) : fE M_M_reads E [.ref 63, .int (nI 3)] n h (qN (rsT tn bt up lo h n (rdW tn bt D A))) := by
  have k0 := K.1
  have a1 := tkE_le (bt := bt) hA
  have p0 := tkP_le (bt := bt) hA
  have p1 := tkP_le (bt := bt) a1
  have O := KD.c
  refine fE.of (L := [some (.ref 63), some (.int (nI 3)), none, none, none]) (by decide +kernel) (Nat.le_of_ble_eq_true rfl) rfl ?_
  refine a_il1 fM_reads_0 ?_
  refine a_ic fM_reads_1 ?_
  refine a_ic_ne fM_reads_2 (fun _ => ?_) (fun c_ => absurd c_ (by decide))
  refine a_il1 fM_reads_59 ?_
  refine a_ic fM_reads_60 ?_
  refine a_ic_ne fM_reads_61 (fun _ => ?_) (fun c_ => absurd c_ (by decide))
  refine a_il1 fM_reads_99 ?_
  refine a_ic fM_reads_100 ?_
  refine a_ic_ne fM_reads_101 (fun c_ => absurd (by decide) c_) (fun _ => ?_)
  by_cases c1 : isNo tn bt A 0 99
  · skip
    refine a_al0 fM_reads_104 ?_
    refine a_ic fM_reads_105 ?_
    refine a_ic fM_reads_106 ?_
    refine a_V2V fM_reads_108 k_M_123 m_M_number ⟨by decide, by decide⟩ m0 rfl ⟨rfl, rfl⟩ (Nat.le_of_ble_eq_true rfl) (c_Mnum_t (l9 := 0) (h9 := 99) m0 m5 K hA (by decide) (by decide) c1) ?_
    refine a_is2 fM_reads_111 (by decide) rfl ?_
    obtain ⟨h1, e1⟩ : ∃ h1, h1 = va_up h 63 (sW tn bt up lo (tkE tn bt A) th mn) := ⟨_, rfl⟩
    have M0 : h1 63 = sW tn bt up lo (tkE tn bt A) th mn := by rw [e1]; exact up_s
    have fr : ∀ y, y ≠ 63 → h1 y = h y := fun y y1 => by rw [e1]; exact vn y1
    rw [← e1]
    clear e1
    have MD : h1 65 = nA 189 D := (fr 65 (by decide)).trans mD
    have M5 : h1 68 = nA 150 bt := (fr 68 (by decide)).trans m5
    have M8 : h1 71 = ia 4 f0 := (fr 71 (by decide)).trans m8
    refine a_al0 fM_reads_112 ?_
    refine a_al0 fM_reads_113 ?_
    refine a_V0V fM_reads_114 k_M_108 m_M_isWell ⟨by decide, by decide⟩ M0 rfl ⟨rfl, rfl⟩ (Nat.le_of_ble_eq_true rfl) (c_MisWell M0) ?_
    refine a_if_eq fM_reads_117 (fun c_ => absurd c_ (by decide)) (fun _ => ?_)
    have v9 : tkV tn bt A 0 < 100 := tkV_lt c1.1
    -- a fault at the second number
    have flt : ∀ (g : hT) (th9 mn9 : Int32), g 63 = sW tn bt up lo (tkE tn bt A) th9 mn9 → (∀ y, y ≠ 63 → y ≠ 71 → g y = h y) → (∃ f, g 71 = ia 4 f) → rdW tn bt D A = .inr (tkP tn bt (tkE tn bt A)) → fA M_M_reads E (fZ M_M_reads E (qN (rsT tn bt up lo h n (rdW tn bt D A)))) n g 0 0 153 [some (.ref 63), some (.int (nI 3)), some (.int (nI (tkV tn bt A 0))), none, none] [.ref 63] := by
      intro g th9 mn9 g0 gf ⟨f9, g8⟩ e
      refine a_ic fM_reads_153 ?_
      refine a_V1V fM_reads_154 k_M_115 m_M_takes ⟨by decide, by decide⟩ g0 rfl ⟨rfl, rfl⟩ (Nat.le_of_ble_eq_true rfl) (c_Mtk_f g0 (by omega)) ?_
      refine a_is3 fM_reads_157 (by decide) rfl ?_
      refine a_al0 fM_reads_158 ?_
      refine a_V0V fM_reads_159 k_M_108 m_M_isWell ⟨by decide, by decide⟩ up_s rfl ⟨rfl, rfl⟩ (Nat.le_of_ble_eq_true rfl) (c_MisWell (tt := nI tn) (nx := nI (tkE tn bt (tkE tn bt A))) (pl := nI (tkP tn bt (tkE tn bt A))) (tk := tok tn bt (tkE tn bt A)) (fa := nI (tkP tn bt (tkE tn bt A))) (up := up) (lo := lo) (th := th9) (mn := mn9) up_s) ?_
      refine a_if_eq fM_reads_162 (fun _ => ?_) (fun c_ => absurd (by rw [bI_f (nI_pos (by omega))]) c_)
      refine a_goto fM_reads_175 ?_
      exact a_rv fM_reads_218 rfl (⟨rfl, by rw [e]; exact ⟨rfl, fun y y1 _ y3 => (vn y1).trans (gf y y1 y3), ⟨f9, up_n (by decide) g8⟩, ⟨_, _, _, _, _, up_s⟩, D, up_n (by decide) ((gf 65 (by decide) (by decide)).trans mD), z⟩⟩)
    by_cases c2 : isNo tn bt (tkE tn bt A) 0 99
    · have t := ((tok_no (tn := tn) (bt := bt) (a := tkE tn bt A) (lo := 0) (hi := 99) (by decide) (by decide)).mpr c2).1
      have x9 : tkV tn bt (tkE tn bt A) 0 < 100 := tkV_lt c2.1
      have et : tok tn bt (tkE tn bt A) = nI (tkV tn bt (tkE tn bt A) 0) := by unfold tok; rw [if_neg (by rw [c2.1]; decide), if_neg (by rw [c2.1]; decide), if_pos c2.1]
      refine a_al0 fM_reads_120 ?_
      refine a_gf fM_reads_121 l_M_98 M0 rfl ?_
      refine a_ic fM_reads_124 ?_
      refine a_ic fM_reads_125 ?_
      refine a_S3V fM_reads_127 k_M_70 m_M_in ⟨by decide, by decide⟩ ⟨rfl, rfl⟩ (Nat.le_of_ble_eq_true rfl) (c_Min) ?_
      refine a_if_eq fM_reads_130 (fun c_ => absurd c_ (fun q => absurd (q.symm.trans (bI_t t)) (by decide))) (fun _ => ?_)
      refine a_al0 fM_reads_133 ?_
      refine a_al0 fM_reads_134 ?_
      refine a_gf fM_reads_135 l_M_13 M0 rfl ?_
      refine a_il2 fM_reads_138 ?_
      refine a_al0 fM_reads_139 ?_
      refine a_gf fM_reads_140 l_M_98 M0 rfl ?_
      rw [show Value.int (tok tn bt (tkE tn bt A)) = Value.int (nI (tkV tn bt (tkE tn bt A) 0)) from congrArg Value.int et]
      refine a_V3I fM_reads_143 k_M_126 m_M_canOf ⟨by decide, by decide⟩ M0 rfl ⟨rfl, rfl⟩ (Nat.le_of_ble_eq_true rfl) (c_McanOf (a := 65) (v := tkV tn bt A 0) (x := tkV tn bt (tkE tn bt A) 0) (c := (nI tn, nI (tkE tn bt (tkE tn bt A)), nI (tkP tn bt (tkE tn bt A)), tok tn bt (tkE tn bt A), -1, up, lo)) ⟨⟨_, _, M0⟩, _, M8⟩ MD (by decide) (by decide) O v9 x9) (fun r3 n3 h3 p3 => ?_)
      obtain ⟨hr3, hn3, ⟨⟨th3, mn3, M03⟩, f3, M83⟩, F3⟩ := p3
      subst n3
      rw [hr3]
      have fr3 : ∀ y, y ≠ 63 → y ≠ 71 → h3 y = h y := fun y y1 y2 => (F3 y y1 y2).trans (fr y y1)
      have MD3 : h3 65 = nA 189 D := (fr3 65 (by decide) (by decide)).trans mD
      by_cases c3 : canR D (tkV tn bt A 0) (tkV tn bt (tkE tn bt A) 0)
      · refine a_if_eq fM_reads_146 (fun c_ => absurd c_ (fun q => by rw [bI_t c3] at q; exact absurd q (by decide))) (fun _ => ?_)
        refine a_ic fM_reads_149 ?_
        refine a_goto fM_reads_150 ?_
        refine a_V1V fM_reads_154 k_M_115 m_M_takes ⟨by decide, by decide⟩ M03 rfl ⟨rfl, rfl⟩ (Nat.le_of_ble_eq_true rfl) (c_Mtk_t M03 ((fr3 68 (by decide) (by decide)).trans m5) K (tkE_le a1)) ?_
        rw [show Value.int (tok tn bt (tkE tn bt A)) = Value.int (nI (tkV tn bt (tkE tn bt A) 0)) from congrArg Value.int et]
        refine a_is3 fM_reads_157 (by decide) rfl ?_
        refine a_al0 fM_reads_158 ?_
        refine a_V0V fM_reads_159 k_M_108 m_M_isWell ⟨by decide, by decide⟩ up_s rfl ⟨rfl, rfl⟩ (Nat.le_of_ble_eq_true rfl) (c_MisWell (tt := nI tn) (nx := nI (tkE tn bt (tkE tn bt (tkE tn bt A)))) (pl := nI (tkP tn bt (tkE tn bt (tkE tn bt A)))) (tk := tok tn bt (tkE tn bt (tkE tn bt A))) (fa := -1) (up := up) (lo := lo) (th := th3) (mn := mn3) up_s) ?_
        refine a_if_eq fM_reads_162 (fun c_ => absurd c_ (by decide)) (fun _ => ?_)
        refine a_al0 fM_reads_165 ?_
        refine a_al0 fM_reads_166 ?_
        refine a_gf fM_reads_167 l_M_13 up_s rfl ?_
        refine a_il2 fM_reads_170 ?_
        refine a_il3 fM_reads_171 ?_
        refine a_V3Q fM_reads_172 k_M_130 m_M_writes ⟨by decide, by decide⟩ up_s rfl ⟨rfl, rfl⟩ (Nat.le_of_ble_eq_true rfl) (c_Mwrites (a := 65) (c := (nI tn, nI (tkE tn bt (tkE tn bt (tkE tn bt A))), nI (tkP tn bt (tkE tn bt (tkE tn bt A))), tok tn bt (tkE tn bt (tkE tn bt A)), -1, up, lo)) ⟨⟨_, _, up_s⟩, _, up_n (by decide) M83⟩ (up_n (by decide) MD3) (by decide) (by decide) O v9 x9) (fun n5 h5 p5 => ?_)
        obtain ⟨hn5, ⟨⟨th5, mn5, M05⟩, f5, M85⟩, M65, F5⟩ := p5
        subst n5
        refine a_goto fM_reads_175 ?_
        exact a_rv fM_reads_218 rfl (⟨rfl, by rw [show rdW tn bt D A = .inl (wdN D (sgn (tkV tn bt A 0) (tkV tn bt (tkE tn bt A) 0)), tkE tn bt (tkE tn bt A)) by unfold rdW; rw [if_neg (not_not_intro c1), if_neg (not_not_intro c2), if_neg (not_not_intro c3)]]; exact ⟨rfl, fun y y1 y2 y3 => (F5 y y1 y3 y2).trans ((vn y1).trans (fr3 y y1 y3)), ⟨f5, M85⟩, ⟨th5, mn5, M05⟩, M65⟩⟩)
      · refine a_if_eq fM_reads_146 (fun _ => ?_) (fun c_ => absurd (by rw [bI_f c3]) c_)
        exact flt h3 th3 mn3 M03 fr3 ⟨f3, M83⟩ (by unfold rdW; rw [if_neg (not_not_intro c1), if_neg (not_not_intro c2), if_pos c3])
    · have t : ¬ ((0 : Int32) ≤ tok tn bt (tkE tn bt A) ∧ tok tn bt (tkE tn bt A) ≤ 99) := fun q => c2 ((tok_no (tn := tn) (bt := bt) (a := tkE tn bt A) (lo := 0) (hi := 99) (by decide) (by decide)).mp ⟨q, Int32.lt_of_le_of_lt q.2 (by decide)⟩)
      refine a_al0 fM_reads_120 ?_
      refine a_gf fM_reads_121 l_M_98 M0 rfl ?_
      refine a_ic fM_reads_124 ?_
      refine a_ic fM_reads_125 ?_
      refine a_S3V fM_reads_127 k_M_70 m_M_in ⟨by decide, by decide⟩ ⟨rfl, rfl⟩ (Nat.le_of_ble_eq_true rfl) (c_Min) ?_
      refine a_if_eq fM_reads_130 (fun _ => ?_) (fun c_ => absurd (by rw [bI_f t]) c_)
      exact flt h1 th mn M0 (fun y y1 _ => fr y y1) ⟨f0, M8⟩ (by unfold rdW; rw [if_neg (not_not_intro c1), if_pos c2])
  · skip
    refine a_al0 fM_reads_104 ?_
    refine a_ic fM_reads_105 ?_
    refine a_ic fM_reads_106 ?_
    refine a_V2V fM_reads_108 k_M_123 m_M_number ⟨by decide, by decide⟩ m0 rfl ⟨rfl, rfl⟩ (Nat.le_of_ble_eq_true rfl) (c_Mnum_f (l9 := 0) (h9 := 99) m0 K hA (by decide) (by decide) c1) ?_
    refine a_is2 fM_reads_111 (by decide) rfl ?_
    refine a_al0 fM_reads_112 ?_
    refine a_al0 fM_reads_113 ?_
    refine a_V0V fM_reads_114 k_M_108 m_M_isWell ⟨by decide, by decide⟩ up_s rfl ⟨rfl, rfl⟩ (Nat.le_of_ble_eq_true rfl) (c_MisWell (tt := nI tn) (nx := nI (tkE tn bt A)) (pl := nI (tkP tn bt A)) (tk := tok tn bt A) (fa := nI (tkP tn bt A)) (up := up) (lo := lo) (th := th) (mn := mn) up_s) ?_
    refine a_if_eq fM_reads_117 (fun _ => ?_) (fun c_ => absurd (by rw [bI_f (nI_pos (by omega))]) c_)
    refine a_ic fM_reads_153 ?_
    refine a_V1V fM_reads_154 k_M_115 m_M_takes ⟨by decide, by decide⟩ up_s rfl ⟨rfl, rfl⟩ (Nat.le_of_ble_eq_true rfl) (c_Mtk_b (f := tkP tn bt A) (tt := nI tn) (nx := nI (tkE tn bt A)) (pl := nI (tkP tn bt A)) (tk := tok tn bt A) (up := up) (lo := lo) (th := th) (mn := mn) up_s (by omega)) ?_
    refine a_is3 fM_reads_157 (by decide) rfl ?_
    refine a_al0 fM_reads_158 ?_
    refine a_V0V fM_reads_159 k_M_108 m_M_isWell ⟨by decide, by decide⟩ up_s rfl ⟨rfl, rfl⟩ (Nat.le_of_ble_eq_true rfl) (c_MisWell (tt := nI tn) (nx := nI (tkE tn bt A)) (pl := nI (tkP tn bt A)) (tk := tok tn bt A) (fa := nI (tkP tn bt A)) (up := up) (lo := lo) (th := th) (mn := mn) up_s) ?_
    refine a_if_eq fM_reads_162 (fun _ => ?_) (fun c_ => absurd (by rw [bI_f (nI_pos (by omega))]) c_)
    refine a_goto fM_reads_175 ?_
    exact a_rv fM_reads_218 rfl (⟨rfl, rsT.b mD z m8 (by unfold rdW; rw [if_pos c1])⟩)
theorem c_Mreads4 (m0 : h 63 = sW tn bt up lo A th mn) (m5 : h 68 = nA 150 bt) (K : okX tn bt) (hA : A ≤ tn) (mD : h 65 = nA 189 D) (z : z9 D) (KD : okN D) (m8 : h 71 = ia 4 f0) : fE M_M_reads E [.ref 63, .int (nI 4)] n h (qN (rsT tn bt up lo h n (rdN tn bt D A))) := by
  have k0 := K.1
  have p0 := tkP_le (bt := bt) hA
  refine fE.of (L := [some (.ref 63), some (.int (nI 4)), none, none, none]) (by decide +kernel) (Nat.le_of_ble_eq_true rfl) rfl ?_
  refine a_il1 fM_reads_0 ?_
  refine a_ic fM_reads_1 ?_
  refine a_ic_ne fM_reads_2 (fun _ => ?_) (fun c_ => absurd c_ (by decide))
  refine a_il1 fM_reads_59 ?_
  refine a_ic fM_reads_60 ?_
  refine a_ic_ne fM_reads_61 (fun _ => ?_) (fun c_ => absurd c_ (by decide))
  refine a_il1 fM_reads_99 ?_
  refine a_ic fM_reads_100 ?_
  refine a_ic_ne fM_reads_101 (fun _ => ?_) (fun c_ => absurd c_ (by decide))
  refine a_il1 fM_reads_178 ?_
  refine a_ic fM_reads_179 ?_
  refine a_ic_ne fM_reads_180 (fun c_ => absurd (by decide) c_) (fun _ => ?_)
  by_cases c1 : isNo tn bt A 1 60
  · skip
    refine a_al0 fM_reads_183 ?_
    refine a_ic fM_reads_184 ?_
    refine a_ic fM_reads_185 ?_
    refine a_V2V fM_reads_187 k_M_123 m_M_number ⟨by decide, by decide⟩ m0 rfl ⟨rfl, rfl⟩ (Nat.le_of_ble_eq_true rfl) (c_Mnum_t (l9 := 1) (h9 := 60) m0 m5 K hA (by decide) (by decide) c1) ?_
    refine a_is2 fM_reads_190 (by decide) rfl ?_
    have v9 := c1.2
    have e : rdN tn bt D A = .inl (ngt (tkV tn bt A 0) D, tkE tn bt A) := by unfold rdN; rw [if_neg (not_not_intro c1)]
    rw [e]
    generalize tkV tn bt A 0 = M9 at v9 ⊢
    have loop : ∀ (j i : Nat) (B : Nat → Nat), i + j = M9 → ngt j B = ngt M9 D → okN B → fA M_M_reads E (fZ M_M_reads E (qN (rsT tn bt up lo h n (.inl (ngt M9 D, tkE tn bt A))))) n (va_up (va_up h 63 (sW tn bt up lo (tkE tn bt A) th mn)) 65 (nA 189 B)) 0 0 193 [some (.ref 63), some (.int (nI 4)), some (.int (nI M9)), some (.int (nI i)), none] [] := by
      intro j
      induction j with
      | zero =>
        intro i B hi hB KB
        have hB2 : B = ngt M9 D := hB
        subst hB2
        refine a_il3 fM_reads_193 ?_
        refine a_il2 fM_reads_194 ?_
        refine a_ic_ge fM_reads_195 (fun _ => ?_) (fun c_ => absurd (nI_le (by omega) (by omega)) c_)
        exact a_rv fM_reads_218 rfl (⟨rfl, rfl, fun y y1 y2 _ => up_n y2 (vn y1), ⟨f0, up_n (by decide) (up_n (by decide) m8)⟩, ⟨_, _, up_n (by decide) up_s⟩, up_s⟩)
      | succ j ih =>
        intro i B hi hB KB
        refine a_il3 fM_reads_193 ?_
        refine a_il2 fM_reads_194 ?_
        refine a_ic_ge fM_reads_195 (fun c_ => absurd c_ (nI_ge (by omega) (by omega))) (fun _ => ?_)
        refine a_al0 fM_reads_198 ?_
        refine a_V0V fM_reads_199 k_M_108 m_M_isWell ⟨by decide, by decide⟩ (up_n (by decide) up_s) rfl ⟨rfl, rfl⟩ (Nat.le_of_ble_eq_true rfl) (c_MisWell (tt := nI tn) (nx := nI (tkE tn bt (tkE tn bt A))) (pl := nI (tkP tn bt (tkE tn bt A))) (tk := tok tn bt (tkE tn bt A)) (fa := -1) (up := up) (lo := lo) (th := th) (mn := mn) (up_n (by decide) up_s)) ?_
        refine a_if_eq fM_reads_202 (fun c_ => absurd c_ (by decide)) (fun _ => ?_)
        refine a_al0 fM_reads_205 ?_
        refine a_gf fM_reads_206 l_M_13 (up_n (by decide) up_s) rfl ?_
        refine a_S1N fM_reads_209 k_M_133 m_M_sleeps ⟨by decide, by decide⟩ ⟨rfl, rfl⟩ (Nat.le_of_ble_eq_true rfl) (c_Msleeps (a := 65) up_s (fun f hf => (KB.1 f hf).1) (fun f hf => Nat.le_trans (KB.1 f hf).2.2.2 (by decide)) KB.2.1) ?_
        refine a_inc3 fM_reads_212 (by decide) rfl ?_
        refine a_goto fM_reads_215 ?_
        rw [bx_uu, nI_1]
        exact ih (i + 1) (ngt1 B) (by omega) hB (okN_ngt1 KB)
    refine a_ic fM_reads_191 ?_
    refine a_is3 fM_reads_192 (by decide) rfl ?_
    have := loop M9 0 D (by omega) rfl KD
    rw [up_id ((up_n (by decide) mD))] at this
    exact this
  · skip
    refine a_al0 fM_reads_183 ?_
    refine a_ic fM_reads_184 ?_
    refine a_ic fM_reads_185 ?_
    refine a_V2V fM_reads_187 k_M_123 m_M_number ⟨by decide, by decide⟩ m0 rfl ⟨rfl, rfl⟩ (Nat.le_of_ble_eq_true rfl) (c_Mnum_f (l9 := 1) (h9 := 60) m0 K hA (by decide) (by decide) c1) ?_
    refine a_is2 fM_reads_190 (by decide) rfl ?_
    refine a_ic fM_reads_191 ?_
    refine a_is3 fM_reads_192 (by decide) rfl ?_
    refine a_il3 fM_reads_193 ?_
    refine a_il2 fM_reads_194 ?_
    refine a_ic_ge fM_reads_195 (fun c => ?_) (fun c => ?_)
    · exact a_rv fM_reads_218 rfl (⟨rfl, rsT.b mD z m8 (by unfold rdN; rw [if_pos c1])⟩)
    · refine a_al0 fM_reads_198 ?_
      refine a_V0V fM_reads_199 k_M_108 m_M_isWell ⟨by decide, by decide⟩ up_s rfl ⟨rfl, rfl⟩ (Nat.le_of_ble_eq_true rfl) (c_MisWell (tt := nI tn) (nx := nI (tkE tn bt A)) (pl := nI (tkP tn bt A)) (tk := tok tn bt A) (fa := nI (tkP tn bt A)) (up := up) (lo := lo) (th := th) (mn := mn) up_s) ?_
      refine a_if_eq fM_reads_202 (fun _ => ?_) (fun c_ => absurd (by rw [bI_f (nI_pos (by omega))]) c_)
      exact a_rv fM_reads_218 rfl (⟨rfl, rsT.b mD z m8 (by unfold rdN; rw [if_pos c1])⟩)
end MC
