/-! THE CLAIM OUT OF ONE WALK OF THE LAW'S BODY. Your part is whole_start (and what it stands on); all else here is the same for every law, but numbers. -/
def R_law : String := "FigureLeaveLaw"
def lw_P (b : Addr) (xs : List Int32) (args : Array Value) (s : State) : Prop := args = #[.ref b] ∧ s.IntsAt b xs ∧ xs.length ≤ 320 ∧ (Jvm.Cond.and given_1 narrow_1).before args s = true
def lw_Q (_ : Array Value) (s : State) (o : Outcome) (t : State) : Prop := o = .returned (some (.int 1)) ∧ Framed s o t [] 600000 7302250
def lw_Z (below : List Frame) (a : Array Value) (s : State) : State → Prop := fun t => ∃ o, t.status = .running ∧ Ended t below o ∧ lw_Q a s o t
/-- the law's own end, with 1 on the stack, nothing written that was there before, its room as the claim has it -/
theorem lw_ret {p : Program} {l : Launch} {e : Env} {s : State} {m : MethodId} {below : List Frame} {meth : Method} {c : Code} {b : Nat} (hx : p.tables.exec = Jvm.exec) (hb : c.code = code) (hr : meth.sig.returnType = ret) (hlocks : meth.locks = false) {pc : Nat} {H : Heap} {ls : Array Slot} (hdg : decode code pc = .ok (.ireturn, 1)) : W p l e room_1 s m #[Value.ref b] below meth c H [] 600000 7302250 (lw_Z below #[Value.ref b] s) (F0 m pc ls [.int 1]) := by
  intro T hT X
  obtain ⟨fs, hret, hrun, hended, hW, hframe⟩ := X.leave (v := some (.int 1)) (hlocks := hlocks) (fun h => by rw [hr] at h; cases h)
  have hmeth' : T.vm.method? m = some meth := X.method'
  refine ⟨T.setFrames fs, ?_, .returned (some (.int 1)), hrun, hended, rfl, ⟨_, rfl⟩, hW, hframe⟩
  jvm_step X.here [X.here.top, hx, hb, hdg, hmeth', hr, ret, narrow_b1]
  (try refine ⟨rfl, ?_⟩); (try refine ⟨rfl, ?_⟩)
  first | (intro acts; rw [hret _ acts rfl rfl rfl]) | rw [hret _ _ rfl rfl rfl]
  exact Steps.refl _
/-- what holds at the law's entry: the machine, the code, the tables' words (any of lw_tbl by 'hts w (by decide +kernel)'), the script of L ints xs at the cell b, what the Statement gives of the start (any of its parts by flat_of_before) -/
def lw_At (p : Program) (s : State) (m : MethodId) (meth : Method) (c : Code) (b L : Nat) (xs : Nat → Int32) : Prop :=
  p.tables.exec = Jvm.exec ∧ c.code = code ∧ meth.sig.returnType = ret ∧ c.maxLocals = 4 ∧ s.vm.findClass R_law = some m.cls ∧ (∀ w ∈ lw_tbl, w.before #[Value.ref b] s = true) ∧ va_X b L xs s s.heap ∧ b < s.heap.size ∧ meth.locks = false ∧ (Jvm.Cond.and given_1 narrow_1).before #[Value.ref b] s = true
/-! THE LAW over the layer of places -/
def lZ (E : eT) : zT := fun below args s t => s.heap.size ≤ E.2.1 → lw_Z below args s t
theorem lw_retA {p : Program} {l : Launch} {e : Env} {s : State} {m : MethodId} {below : List Frame} {meth : Method} {c : Code} {a : Array Value} (hx : p.tables.exec = Jvm.exec) (hb : c.code = code) (hr : meth.sig.returnType = ret) (hlocks : meth.locks = false) {pc : Nat} {H : Heap} {ls : Array Slot} (hdg : decode code pc = .ok (.ireturn, 1)) : W p l e room_1 s m a below meth c H [] 600000 7302250 (lw_Z below a s) (F0 m pc ls [.int 1]) := by
  intro T hU X
  obtain ⟨fs, hret, hrun, hended, hW, hframe⟩ := X.leave (v := some (.int 1)) (hlocks := hlocks) (fun h => by rw [hr] at h; cases h)
  have hmeth' : T.vm.method? m = some meth := X.method'
  refine ⟨T.setFrames fs, ?_, .returned (some (.int 1)), hrun, hended, rfl, ⟨_, rfl⟩, hW, hframe⟩
  jvm_step X.here [X.here.top, hx, hb, hdg, hmeth', hr, ret, narrow_b1]
  (try refine ⟨rfl, ?_⟩); (try refine ⟨rfl, ?_⟩)
  first | (intro acts; rw [hret _ acts rfl rfl rfl]) | rw [hret _ _ rfl rfl rfl]
  exact Steps.refl _
section LW
variable {E : eT} {i n nc ns : Nat} {h : hT}
theorem lw_fin {k pc pc2 : Nat} {L : lT} (hd : fD M_W_law pc .ireturn 1 pc2) : fA M_W_law E (lZ E) k h nc ns pc L [.int 1] := by
  intro p l e s m args below meth c H locs ls F R hS hl h1 h2
  by_cases hz : s.heap.size ≤ E.2.1
  · intro T hU X
    have K : W p l e room_1 s m args below meth c H locs nc ns (lw_Z below args s) (F0 m pc ls [.int 1]) := by
      refine va_forget (fun q hq => Nat.le_trans hz (hS.2.2 q hq)) ?_
      refine W.widen h1 h2 ?_
      exact lw_retA F.1 F.2.1 F.2.2.1 F.2.2.2.2.2.2.1 hd.1
    obtain ⟨t, a, b⟩ := K T hU X
    exact ⟨t, a, fun _ => b⟩
  · intro T hU X
    exact ⟨_, Steps.refl _, fun z => absurd z hz⟩
abbrev lL (i : Nat) : lT := [some (.ref 0), some (.ref 11), some (.ref 63), some (.int (nI i))]
abbrev zsv (E : eT) (i : Nat) (j : Int32) : Int32 := E.2.2.2.2.2 (nI i + j).toNatClampNeg
/-- behind a call of both -/
abbrev bk (E : eT) (i nc ns : Nat) : Prop := ∀ k g nc2 ns2, SS g k → nc2 ≤ nc + 17 → ns2 ≤ ns + 205 → fA M_W_law E (lZ E) k g nc2 ns2 1159 (lL i) []
theorem vin {L j : Nat} (hi : i + 5 ≤ L) (hL : L ≤ 320) (hj : j < 5) : vp_in (nI i + nI j) L := by
  rw [nI_add]
  exact vp_in_nI (by omega) (by omega)
theorem lw_lt {L : Nat} (hi : i ≤ 320) (hL : L ≤ 320) (hc : ¬ nI L - 5 < nI i) : i + 5 ≤ L := by
  rcases Nat.lt_or_ge L 5 with c | c
  · refine absurd (Int32.lt_of_lt_of_le (b := 0) ?_ ((nI_leI (a := 0) (b := i) (by decide) (by omega)).mpr (Nat.zero_le i))) hc
    obtain rfl | rfl | rfl | rfl | rfl : L = 0 ∨ L = 1 ∨ L = 2 ∨ L = 3 ∨ L = 4 := by omega
    all_goals decide
  · obtain ⟨d, rfl⟩ : ∃ d, L = d + 5 := ⟨L - 5, by omega⟩
    have e : nI (d + 5) - 5 = nI d := by
      rw [← nI_add]
      exact Int32.add_sub_cancel _ _
    rw [e] at hc
    have q : ¬ d < i := fun z => hc ((nI_ltI (by omega) (by omega)).mpr z)
    omega

theorem t_house (S : SS h n) (hi : i + 5 ≤ E.2.2.2.2.1) (hL : E.2.2.2.2.1 ≤ 320) (B : bk E i nc ns) : fA M_W_law E (lZ E) n h nc ns 196 (lL i) [] := by
  obtain ⟨⟨fs, hc⟩, P, e1, e2⟩ := s_house (E := E) S
  refine a_al1 fW_law_196 ?_
  refine a_V0I fW_law_197 k_W_13 m_F_house ⟨by decide, by decide⟩ hc rfl ⟨rfl, rfl⟩ (Nat.le_of_ble_eq_true rfl) e1 (fun r k1 h1 p1 => ?_)
  obtain ⟨⟨fs2, hm⟩, Q, e3, e4⟩ := e2 _ _ _ p1
  refine a_al2 fW_law_200 ?_
  refine a_V0I fW_law_201 k_W_17 m_M_house ⟨by decide, by decide⟩ hm rfl ⟨rfl, rfl⟩ (Nat.le_of_ble_eq_true rfl) e3 (fun r2 k2 h2 p2 => ?_)
  obtain ⟨er, S2⟩ := e4 _ _ _ p2
  refine a_ic_eq fW_law_204 (fun _ => ?_) (fun c_ => absurd er c_)
  exact B _ _ _ _ S2 (by omega) (by omega)
theorem t_figure (S : SS h n) (hi : i + 5 ≤ E.2.2.2.2.1) (hL : E.2.2.2.2.1 ≤ 320) (B : bk E i nc ns) : fA M_W_law E (lZ E) n h nc ns 209 (lL i) [] := by
  obtain ⟨⟨fs, hc⟩, P, e1, e2⟩ := s_figure (E := E) (f := zsv E i 1) (k := zsv E i 2) (s := zsv E i 3) S
  refine a_al1 fW_law_209 ?_
  refine a_al0 fW_law_210 ?_
  refine a_il3 fW_law_211 ?_
  refine a_ic fW_law_212 ?_
  refine a_iadd fW_law_213 ?_
  refine a_sld fW_law_214 (vin (j := 1) hi hL (by decide)) ?_
  refine a_al0 fW_law_215 ?_
  refine a_il3 fW_law_216 ?_
  refine a_ic fW_law_217 ?_
  refine a_iadd fW_law_218 ?_
  refine a_sld fW_law_219 (vin (j := 2) hi hL (by decide)) ?_
  refine a_al0 fW_law_220 ?_
  refine a_il3 fW_law_221 ?_
  refine a_ic fW_law_222 ?_
  refine a_iadd fW_law_223 ?_
  refine a_sld fW_law_224 (vin (j := 3) hi hL (by decide)) ?_
  refine a_V3I fW_law_225 k_W_18 m_F_figure ⟨by decide, by decide⟩ hc rfl ⟨rfl, rfl⟩ (Nat.le_of_ble_eq_true rfl) e1 (fun r k1 h1 p1 => ?_)
  obtain ⟨⟨fs2, hm⟩, Q, e3, e4⟩ := e2 _ _ _ p1
  refine a_al2 fW_law_228 ?_
  refine a_al0 fW_law_229 ?_
  refine a_il3 fW_law_230 ?_
  refine a_ic fW_law_231 ?_
  refine a_iadd fW_law_232 ?_
  refine a_sld fW_law_233 (vin (j := 1) hi hL (by decide)) ?_
  refine a_al0 fW_law_234 ?_
  refine a_il3 fW_law_235 ?_
  refine a_ic fW_law_236 ?_
  refine a_iadd fW_law_237 ?_
  refine a_sld fW_law_238 (vin (j := 2) hi hL (by decide)) ?_
  refine a_al0 fW_law_239 ?_
  refine a_il3 fW_law_240 ?_
  refine a_ic fW_law_241 ?_
  refine a_iadd fW_law_242 ?_
  refine a_sld fW_law_243 (vin (j := 3) hi hL (by decide)) ?_
  refine a_V3I fW_law_244 k_W_22 m_M_figure ⟨by decide, by decide⟩ hm rfl ⟨rfl, rfl⟩ (Nat.le_of_ble_eq_true rfl) e3 (fun r2 k2 h2 p2 => ?_)
  obtain ⟨er, S2⟩ := e4 _ _ _ p2
  refine a_ic_eq fW_law_247 (fun _ => ?_) (fun c_ => absurd er c_)
  exact B _ _ _ _ S2 (by omega) (by omega)
theorem t_bill (S : SS h n) (hi : i + 5 ≤ E.2.2.2.2.1) (hL : E.2.2.2.2.1 ≤ 320) (B : bk E i nc ns) : fA M_W_law E (lZ E) n h nc ns 252 (lL i) [] := by
  obtain ⟨⟨fs, hc⟩, P, e1, e2⟩ := s_bill (E := E) (v := zsv E i 1) (w := zsv E i 2) S
  refine a_al1 fW_law_252 ?_
  refine a_al0 fW_law_253 ?_
  refine a_il3 fW_law_254 ?_
  refine a_ic fW_law_255 ?_
  refine a_iadd fW_law_256 ?_
  refine a_sld fW_law_257 (vin (j := 1) hi hL (by decide)) ?_
  refine a_al0 fW_law_258 ?_
  refine a_il3 fW_law_259 ?_
  refine a_ic fW_law_260 ?_
  refine a_iadd fW_law_261 ?_
  refine a_sld fW_law_262 (vin (j := 2) hi hL (by decide)) ?_
  refine a_V2I fW_law_263 k_W_23 m_F_bill ⟨by decide, by decide⟩ hc rfl ⟨rfl, rfl⟩ (Nat.le_of_ble_eq_true rfl) e1 (fun r k1 h1 p1 => ?_)
  obtain ⟨⟨fs2, hm⟩, Q, e3, e4⟩ := e2 _ _ _ p1
  refine a_al2 fW_law_266 ?_
  refine a_al0 fW_law_267 ?_
  refine a_il3 fW_law_268 ?_
  refine a_ic fW_law_269 ?_
  refine a_iadd fW_law_270 ?_
  refine a_sld fW_law_271 (vin (j := 1) hi hL (by decide)) ?_
  refine a_al0 fW_law_272 ?_
  refine a_il3 fW_law_273 ?_
  refine a_ic fW_law_274 ?_
  refine a_iadd fW_law_275 ?_
  refine a_sld fW_law_276 (vin (j := 2) hi hL (by decide)) ?_
  refine a_V2I fW_law_277 k_W_27 m_M_bill ⟨by decide, by decide⟩ hm rfl ⟨rfl, rfl⟩ (Nat.le_of_ble_eq_true rfl) e3 (fun r2 k2 h2 p2 => ?_)
  obtain ⟨er, S2⟩ := e4 _ _ _ p2
  refine a_ic_eq fW_law_280 (fun _ => ?_) (fun c_ => absurd er c_)
  exact B _ _ _ _ S2 (by omega) (by omega)
theorem t_type (S : SS h n) (hi : i + 5 ≤ E.2.2.2.2.1) (hL : E.2.2.2.2.1 ≤ 320) (B : bk E i nc ns) : fA M_W_law E (lZ E) n h nc ns 285 (lL i) [] := by
  obtain ⟨⟨fs, hc⟩, P, e1, e2⟩ := s_type (E := E) (c := zsv E i 1) S
  refine a_al1 fW_law_285 ?_
  refine a_al0 fW_law_286 ?_
  refine a_il3 fW_law_287 ?_
  refine a_ic fW_law_288 ?_
  refine a_iadd fW_law_289 ?_
  refine a_sld fW_law_290 (vin (j := 1) hi hL (by decide)) ?_
  refine a_V1I fW_law_291 k_W_28 m_F_type ⟨by decide, by decide⟩ hc rfl ⟨rfl, rfl⟩ (Nat.le_of_ble_eq_true rfl) e1 (fun r k1 h1 p1 => ?_)
  obtain ⟨⟨fs2, hm⟩, Q, e3, e4⟩ := e2 _ _ _ p1
  refine a_al2 fW_law_294 ?_
  refine a_al0 fW_law_295 ?_
  refine a_il3 fW_law_296 ?_
  refine a_ic fW_law_297 ?_
  refine a_iadd fW_law_298 ?_
  refine a_sld fW_law_299 (vin (j := 1) hi hL (by decide)) ?_
  refine a_V1I fW_law_300 k_W_32 m_M_type ⟨by decide, by decide⟩ hm rfl ⟨rfl, rfl⟩ (Nat.le_of_ble_eq_true rfl) e3 (fun r2 k2 h2 p2 => ?_)
  obtain ⟨er, S2⟩ := e4 _ _ _ p2
  refine a_ic_eq fW_law_303 (fun _ => ?_) (fun c_ => absurd er c_)
  exact B _ _ _ _ S2 (by omega) (by omega)
theorem t_clear (S : SS h n) (hi : i + 5 ≤ E.2.2.2.2.1) (hL : E.2.2.2.2.1 ≤ 320) (B : bk E i nc ns) : fA M_W_law E (lZ E) n h nc ns 308 (lL i) [] := by
  obtain ⟨⟨fs, hc⟩, P, e1, e2⟩ := s_clear (E := E) S
  refine a_al1 fW_law_308 ?_
  refine a_V0I fW_law_309 k_W_33 m_F_clear ⟨by decide, by decide⟩ hc rfl ⟨rfl, rfl⟩ (Nat.le_of_ble_eq_true rfl) e1 (fun r k1 h1 p1 => ?_)
  obtain ⟨⟨fs2, hm⟩, Q, e3, e4⟩ := e2 _ _ _ p1
  refine a_al2 fW_law_312 ?_
  refine a_V0I fW_law_313 k_W_36 m_M_clear ⟨by decide, by decide⟩ hm rfl ⟨rfl, rfl⟩ (Nat.le_of_ble_eq_true rfl) e3 (fun r2 k2 h2 p2 => ?_)
  obtain ⟨er, S2⟩ := e4 _ _ _ p2
  refine a_ic_eq fW_law_316 (fun _ => ?_) (fun c_ => absurd er c_)
  exact B _ _ _ _ S2 (by omega) (by omega)
theorem t_read (S : SS h n) (hi : i + 5 ≤ E.2.2.2.2.1) (hL : E.2.2.2.2.1 ≤ 320) (B : bk E i nc ns) : fA M_W_law E (lZ E) n h nc ns 321 (lL i) [] := by
  obtain ⟨⟨fs, hc⟩, P, e1, e2⟩ := s_read (E := E) S
  refine a_al1 fW_law_321 ?_
  refine a_V0I fW_law_322 k_W_37 m_F_read ⟨by decide, by decide⟩ hc rfl ⟨rfl, rfl⟩ (Nat.le_of_ble_eq_true rfl) e1 (fun r k1 h1 p1 => ?_)
  obtain ⟨⟨fs2, hm⟩, Q, e3, e4⟩ := e2 _ _ _ p1
  refine a_al2 fW_law_325 ?_
  refine a_V0I fW_law_326 k_W_40 m_M_read ⟨by decide, by decide⟩ hm rfl ⟨rfl, rfl⟩ (Nat.le_of_ble_eq_true rfl) e3 (fun r2 k2 h2 p2 => ?_)
  obtain ⟨er, S2⟩ := e4 _ _ _ p2
  refine a_ic_eq fW_law_329 (fun _ => ?_) (fun c_ => absurd er c_)
  exact B _ _ _ _ S2 (by omega) (by omega)
theorem t_write (S : SS h n) (hi : i + 5 ≤ E.2.2.2.2.1) (hL : E.2.2.2.2.1 ≤ 320) (B : bk E i nc ns) : fA M_W_law E (lZ E) n h nc ns 334 (lL i) [] := by
  obtain ⟨⟨fs, hc⟩, P, e1, e2⟩ := s_write (E := E) (v := zsv E i 1) (x := zsv E i 2) S
  refine a_al1 fW_law_334 ?_
  refine a_al0 fW_law_335 ?_
  refine a_il3 fW_law_336 ?_
  refine a_ic fW_law_337 ?_
  refine a_iadd fW_law_338 ?_
  refine a_sld fW_law_339 (vin (j := 1) hi hL (by decide)) ?_
  refine a_al0 fW_law_340 ?_
  refine a_il3 fW_law_341 ?_
  refine a_ic fW_law_342 ?_
  refine a_iadd fW_law_343 ?_
  refine a_sld fW_law_344 (vin (j := 2) hi hL (by decide)) ?_
  refine a_V2I fW_law_345 k_W_41 m_F_write ⟨by decide, by decide⟩ hc rfl ⟨rfl, rfl⟩ (Nat.le_of_ble_eq_true rfl) e1 (fun r k1 h1 p1 => ?_)
  obtain ⟨⟨fs2, hm⟩, Q, e3, e4⟩ := e2 _ _ _ p1
  refine a_al2 fW_law_348 ?_
  refine a_al0 fW_law_349 ?_
  refine a_il3 fW_law_350 ?_
  refine a_ic fW_law_351 ?_
  refine a_iadd fW_law_352 ?_
  refine a_sld fW_law_353 (vin (j := 1) hi hL (by decide)) ?_
  refine a_al0 fW_law_354 ?_
  refine a_il3 fW_law_355 ?_
  refine a_ic fW_law_356 ?_
  refine a_iadd fW_law_357 ?_
  refine a_sld fW_law_358 (vin (j := 2) hi hL (by decide)) ?_
  refine a_V2I fW_law_359 k_W_44 m_M_write ⟨by decide, by decide⟩ hm rfl ⟨rfl, rfl⟩ (Nat.le_of_ble_eq_true rfl) e3 (fun r2 k2 h2 p2 => ?_)
  obtain ⟨er, S2⟩ := e4 _ _ _ p2
  refine a_ic_eq fW_law_362 (fun _ => ?_) (fun c_ => absurd er c_)
  exact B _ _ _ _ S2 (by omega) (by omega)
theorem t_pay (S : SS h n) (hi : i + 5 ≤ E.2.2.2.2.1) (hL : E.2.2.2.2.1 ≤ 320) (B : bk E i nc ns) : fA M_W_law E (lZ E) n h nc ns 367 (lL i) [] := by
  obtain ⟨⟨fs, hc⟩, P, e1, e2⟩ := s_pay (E := E) (b := zsv E i 1) S
  refine a_al1 fW_law_367 ?_
  refine a_al0 fW_law_368 ?_
  refine a_il3 fW_law_369 ?_
  refine a_ic fW_law_370 ?_
  refine a_iadd fW_law_371 ?_
  refine a_sld fW_law_372 (vin (j := 1) hi hL (by decide)) ?_
  refine a_V1I fW_law_373 k_W_45 m_F_pay ⟨by decide, by decide⟩ hc rfl ⟨rfl, rfl⟩ (Nat.le_of_ble_eq_true rfl) e1 (fun r k1 h1 p1 => ?_)
  obtain ⟨⟨fs2, hm⟩, Q, e3, e4⟩ := e2 _ _ _ p1
  refine a_al2 fW_law_376 ?_
  refine a_al0 fW_law_377 ?_
  refine a_il3 fW_law_378 ?_
  refine a_ic fW_law_379 ?_
  refine a_iadd fW_law_380 ?_
  refine a_sld fW_law_381 (vin (j := 1) hi hL (by decide)) ?_
  refine a_V1I fW_law_382 k_W_48 m_M_pay ⟨by decide, by decide⟩ hm rfl ⟨rfl, rfl⟩ (Nat.le_of_ble_eq_true rfl) e3 (fun r2 k2 h2 p2 => ?_)
  obtain ⟨er, S2⟩ := e4 _ _ _ p2
  refine a_ic_eq fW_law_385 (fun _ => ?_) (fun c_ => absurd er c_)
  exact B _ _ _ _ S2 (by omega) (by omega)
theorem t_night (S : SS h n) (hi : i + 5 ≤ E.2.2.2.2.1) (hL : E.2.2.2.2.1 ≤ 320) (B : bk E i nc ns) : fA M_W_law E (lZ E) n h nc ns 390 (lL i) [] := by
  obtain ⟨⟨fs, hc⟩, P, e1, e2⟩ := s_night (E := E) (m := zsv E i 1) S
  refine a_al1 fW_law_390 ?_
  refine a_al0 fW_law_391 ?_
  refine a_il3 fW_law_392 ?_
  refine a_ic fW_law_393 ?_
  refine a_iadd fW_law_394 ?_
  refine a_sld fW_law_395 (vin (j := 1) hi hL (by decide)) ?_
  refine a_V1I fW_law_396 k_W_49 m_F_night ⟨by decide, by decide⟩ hc rfl ⟨rfl, rfl⟩ (Nat.le_of_ble_eq_true rfl) e1 (fun r k1 h1 p1 => ?_)
  obtain ⟨⟨fs2, hm⟩, Q, e3, e4⟩ := e2 _ _ _ p1
  refine a_al2 fW_law_399 ?_
  refine a_al0 fW_law_400 ?_
  refine a_il3 fW_law_401 ?_
  refine a_ic fW_law_402 ?_
  refine a_iadd fW_law_403 ?_
  refine a_sld fW_law_404 (vin (j := 1) hi hL (by decide)) ?_
  refine a_V1I fW_law_405 k_W_52 m_M_night ⟨by decide, by decide⟩ hm rfl ⟨rfl, rfl⟩ (Nat.le_of_ble_eq_true rfl) e3 (fun r2 k2 h2 p2 => ?_)
  obtain ⟨er, S2⟩ := e4 _ _ _ p2
  refine a_ic_eq fW_law_408 (fun _ => ?_) (fun c_ => absurd er c_)
  exact B _ _ _ _ S2 (by omega) (by omega)
theorem t_undo (S : SS h n) (hi : i + 5 ≤ E.2.2.2.2.1) (hL : E.2.2.2.2.1 ≤ 320) (B : bk E i nc ns) : fA M_W_law E (lZ E) n h nc ns 413 (lL i) [] := by
  obtain ⟨⟨fs, hc⟩, P, e1, e2⟩ := s_undo (E := E) S
  refine a_al1 fW_law_413 ?_
  refine a_V0I fW_law_414 k_W_53 m_F_undo ⟨by decide, by decide⟩ hc rfl ⟨rfl, rfl⟩ (Nat.le_of_ble_eq_true rfl) e1 (fun r k1 h1 p1 => ?_)
  obtain ⟨⟨fs2, hm⟩, Q, e3, e4⟩ := e2 _ _ _ p1
  refine a_al2 fW_law_417 ?_
  refine a_V0I fW_law_418 k_W_56 m_M_undo ⟨by decide, by decide⟩ hm rfl ⟨rfl, rfl⟩ (Nat.le_of_ble_eq_true rfl) e3 (fun r2 k2 h2 p2 => ?_)
  obtain ⟨er, S2⟩ := e4 _ _ _ p2
  refine a_ic_eq fW_law_421 (fun _ => ?_) (fun c_ => absurd er c_)
  exact B _ _ _ _ S2 (by omega) (by omega)
theorem t_of (S : SS h n) (hi : i + 5 ≤ E.2.2.2.2.1) (hL : E.2.2.2.2.1 ≤ 320) (B : bk E i nc ns) : fA M_W_law E (lZ E) n h nc ns 426 (lL i) [] := by
  obtain ⟨⟨fs, hc⟩, P, e1, e2⟩ := s_of (E := E) (f := zsv E i 1) (w := zsv E i 2) S
  refine a_al1 fW_law_426 ?_
  refine a_al0 fW_law_427 ?_
  refine a_il3 fW_law_428 ?_
  refine a_ic fW_law_429 ?_
  refine a_iadd fW_law_430 ?_
  refine a_sld fW_law_431 (vin (j := 1) hi hL (by decide)) ?_
  refine a_al0 fW_law_432 ?_
  refine a_il3 fW_law_433 ?_
  refine a_ic fW_law_434 ?_
  refine a_iadd fW_law_435 ?_
  refine a_sld fW_law_436 (vin (j := 2) hi hL (by decide)) ?_
  refine a_V2I fW_law_437 k_W_57 m_F_of ⟨by decide, by decide⟩ hc rfl ⟨rfl, rfl⟩ (Nat.le_of_ble_eq_true rfl) e1 (fun r k1 h1 p1 => ?_)
  obtain ⟨⟨fs2, hm⟩, Q, e3, e4⟩ := e2 _ _ _ p1
  refine a_al2 fW_law_440 ?_
  refine a_al0 fW_law_441 ?_
  refine a_il3 fW_law_442 ?_
  refine a_ic fW_law_443 ?_
  refine a_iadd fW_law_444 ?_
  refine a_sld fW_law_445 (vin (j := 1) hi hL (by decide)) ?_
  refine a_al0 fW_law_446 ?_
  refine a_il3 fW_law_447 ?_
  refine a_ic fW_law_448 ?_
  refine a_iadd fW_law_449 ?_
  refine a_sld fW_law_450 (vin (j := 2) hi hL (by decide)) ?_
  refine a_V2I fW_law_451 k_W_60 m_M_of ⟨by decide, by decide⟩ hm rfl ⟨rfl, rfl⟩ (Nat.le_of_ble_eq_true rfl) e3 (fun r2 k2 h2 p2 => ?_)
  obtain ⟨er, S2⟩ := e4 _ _ _ p2
  refine a_ic_eq fW_law_454 (fun _ => ?_) (fun c_ => absurd er c_)
  exact B _ _ _ _ S2 (by omega) (by omega)
theorem t_about (S : SS h n) (hi : i + 5 ≤ E.2.2.2.2.1) (hL : E.2.2.2.2.1 ≤ 320) (B : bk E i nc ns) : fA M_W_law E (lZ E) n h nc ns 459 (lL i) [] := by
  obtain ⟨⟨fs, hc⟩, P, e1, e2⟩ := s_about (E := E) (b := zsv E i 1) (w := zsv E i 2) S
  refine a_al1 fW_law_459 ?_
  refine a_al0 fW_law_460 ?_
  refine a_il3 fW_law_461 ?_
  refine a_ic fW_law_462 ?_
  refine a_iadd fW_law_463 ?_
  refine a_sld fW_law_464 (vin (j := 1) hi hL (by decide)) ?_
  refine a_al0 fW_law_465 ?_
  refine a_il3 fW_law_466 ?_
  refine a_ic fW_law_467 ?_
  refine a_iadd fW_law_468 ?_
  refine a_sld fW_law_469 (vin (j := 2) hi hL (by decide)) ?_
  refine a_V2I fW_law_470 k_W_61 m_F_about ⟨by decide, by decide⟩ hc rfl ⟨rfl, rfl⟩ (Nat.le_of_ble_eq_true rfl) e1 (fun r k1 h1 p1 => ?_)
  obtain ⟨⟨fs2, hm⟩, Q, e3, e4⟩ := e2 _ _ _ p1
  refine a_al2 fW_law_473 ?_
  refine a_al0 fW_law_474 ?_
  refine a_il3 fW_law_475 ?_
  refine a_ic fW_law_476 ?_
  refine a_iadd fW_law_477 ?_
  refine a_sld fW_law_478 (vin (j := 1) hi hL (by decide)) ?_
  refine a_al0 fW_law_479 ?_
  refine a_il3 fW_law_480 ?_
  refine a_ic fW_law_481 ?_
  refine a_iadd fW_law_482 ?_
  refine a_sld fW_law_483 (vin (j := 2) hi hL (by decide)) ?_
  refine a_V2I fW_law_484 k_W_64 m_M_about ⟨by decide, by decide⟩ hm rfl ⟨rfl, rfl⟩ (Nat.le_of_ble_eq_true rfl) e3 (fun r2 k2 h2 p2 => ?_)
  obtain ⟨er, S2⟩ := e4 _ _ _ p2
  refine a_ic_eq fW_law_487 (fun _ => ?_) (fun c_ => absurd er c_)
  exact B _ _ _ _ S2 (by omega) (by omega)
theorem t_wears (S : SS h n) (hi : i + 5 ≤ E.2.2.2.2.1) (hL : E.2.2.2.2.1 ≤ 320) (B : bk E i nc ns) : fA M_W_law E (lZ E) n h nc ns 492 (lL i) [] := by
  obtain ⟨⟨fs, hc⟩, P, e1, e2⟩ := s_wears (E := E) (f := zsv E i 1) (k := zsv E i 2) S
  refine a_al1 fW_law_492 ?_
  refine a_al0 fW_law_493 ?_
  refine a_il3 fW_law_494 ?_
  refine a_ic fW_law_495 ?_
  refine a_iadd fW_law_496 ?_
  refine a_sld fW_law_497 (vin (j := 1) hi hL (by decide)) ?_
  refine a_al0 fW_law_498 ?_
  refine a_il3 fW_law_499 ?_
  refine a_ic fW_law_500 ?_
  refine a_iadd fW_law_501 ?_
  refine a_sld fW_law_502 (vin (j := 2) hi hL (by decide)) ?_
  refine a_V2I fW_law_503 k_W_65 m_F_wears ⟨by decide, by decide⟩ hc rfl ⟨rfl, rfl⟩ (Nat.le_of_ble_eq_true rfl) e1 (fun r k1 h1 p1 => ?_)
  obtain ⟨⟨fs2, hm⟩, Q, e3, e4⟩ := e2 _ _ _ p1
  refine a_al2 fW_law_506 ?_
  refine a_al0 fW_law_507 ?_
  refine a_il3 fW_law_508 ?_
  refine a_ic fW_law_509 ?_
  refine a_iadd fW_law_510 ?_
  refine a_sld fW_law_511 (vin (j := 1) hi hL (by decide)) ?_
  refine a_al0 fW_law_512 ?_
  refine a_il3 fW_law_513 ?_
  refine a_ic fW_law_514 ?_
  refine a_iadd fW_law_515 ?_
  refine a_sld fW_law_516 (vin (j := 2) hi hL (by decide)) ?_
  refine a_V2I fW_law_517 k_W_68 m_M_wears ⟨by decide, by decide⟩ hm rfl ⟨rfl, rfl⟩ (Nat.le_of_ble_eq_true rfl) e3 (fun r2 k2 h2 p2 => ?_)
  obtain ⟨er, S2⟩ := e4 _ _ _ p2
  refine a_ic_eq fW_law_520 (fun _ => ?_) (fun c_ => absurd er c_)
  exact B _ _ _ _ S2 (by omega) (by omega)
theorem t_cost (S : SS h n) (hi : i + 5 ≤ E.2.2.2.2.1) (hL : E.2.2.2.2.1 ≤ 320) (B : bk E i nc ns) : fA M_W_law E (lZ E) n h nc ns 525 (lL i) [] := by
  obtain ⟨⟨fs, hc⟩, P, e1, e2⟩ := s_cost (E := E) (v := zsv E i 1) (x := zsv E i 2) S
  refine a_al1 fW_law_525 ?_
  refine a_al0 fW_law_526 ?_
  refine a_il3 fW_law_527 ?_
  refine a_ic fW_law_528 ?_
  refine a_iadd fW_law_529 ?_
  refine a_sld fW_law_530 (vin (j := 1) hi hL (by decide)) ?_
  refine a_al0 fW_law_531 ?_
  refine a_il3 fW_law_532 ?_
  refine a_ic fW_law_533 ?_
  refine a_iadd fW_law_534 ?_
  refine a_sld fW_law_535 (vin (j := 2) hi hL (by decide)) ?_
  refine a_V2I fW_law_536 k_W_69 m_F_cost ⟨by decide, by decide⟩ hc rfl ⟨rfl, rfl⟩ (Nat.le_of_ble_eq_true rfl) e1 (fun r k1 h1 p1 => ?_)
  obtain ⟨⟨fs2, hm⟩, Q, e3, e4⟩ := e2 _ _ _ p1
  refine a_al2 fW_law_539 ?_
  refine a_al0 fW_law_540 ?_
  refine a_il3 fW_law_541 ?_
  refine a_ic fW_law_542 ?_
  refine a_iadd fW_law_543 ?_
  refine a_sld fW_law_544 (vin (j := 1) hi hL (by decide)) ?_
  refine a_al0 fW_law_545 ?_
  refine a_il3 fW_law_546 ?_
  refine a_ic fW_law_547 ?_
  refine a_iadd fW_law_548 ?_
  refine a_sld fW_law_549 (vin (j := 2) hi hL (by decide)) ?_
  refine a_V2I fW_law_550 k_W_72 m_M_cost ⟨by decide, by decide⟩ hm rfl ⟨rfl, rfl⟩ (Nat.le_of_ble_eq_true rfl) e3 (fun r2 k2 h2 p2 => ?_)
  obtain ⟨er, S2⟩ := e4 _ _ _ p2
  refine a_ic_eq fW_law_553 (fun _ => ?_) (fun c_ => absurd er c_)
  exact B _ _ _ _ S2 (by omega) (by omega)
theorem t_can (S : SS h n) (hi : i + 5 ≤ E.2.2.2.2.1) (hL : E.2.2.2.2.1 ≤ 320) (B : bk E i nc ns) : fA M_W_law E (lZ E) n h nc ns 558 (lL i) [] := by
  obtain ⟨⟨fs, hc⟩, P, e1, e2⟩ := s_can (E := E) (v := zsv E i 1) (x := zsv E i 2) S
  refine a_al1 fW_law_558 ?_
  refine a_al0 fW_law_559 ?_
  refine a_il3 fW_law_560 ?_
  refine a_ic fW_law_561 ?_
  refine a_iadd fW_law_562 ?_
  refine a_sld fW_law_563 (vin (j := 1) hi hL (by decide)) ?_
  refine a_al0 fW_law_564 ?_
  refine a_il3 fW_law_565 ?_
  refine a_ic fW_law_566 ?_
  refine a_iadd fW_law_567 ?_
  refine a_sld fW_law_568 (vin (j := 2) hi hL (by decide)) ?_
  refine a_V2I fW_law_569 k_W_73 m_F_can ⟨by decide, by decide⟩ hc rfl ⟨rfl, rfl⟩ (Nat.le_of_ble_eq_true rfl) e1 (fun r k1 h1 p1 => ?_)
  obtain ⟨⟨fs2, hm⟩, Q, e3, e4⟩ := e2 _ _ _ p1
  refine a_al2 fW_law_572 ?_
  refine a_al0 fW_law_573 ?_
  refine a_il3 fW_law_574 ?_
  refine a_ic fW_law_575 ?_
  refine a_iadd fW_law_576 ?_
  refine a_sld fW_law_577 (vin (j := 1) hi hL (by decide)) ?_
  refine a_al0 fW_law_578 ?_
  refine a_il3 fW_law_579 ?_
  refine a_ic fW_law_580 ?_
  refine a_iadd fW_law_581 ?_
  refine a_sld fW_law_582 (vin (j := 2) hi hL (by decide)) ?_
  refine a_V2I fW_law_583 k_W_76 m_M_can ⟨by decide, by decide⟩ hm rfl ⟨rfl, rfl⟩ (Nat.le_of_ble_eq_true rfl) e3 (fun r2 k2 h2 p2 => ?_)
  obtain ⟨er, S2⟩ := e4 _ _ _ p2
  refine a_ic_eq fW_law_586 (fun _ => ?_) (fun c_ => absurd er c_)
  exact B _ _ _ _ S2 (by omega) (by omega)
theorem t_best (S : SS h n) (hi : i + 5 ≤ E.2.2.2.2.1) (hL : E.2.2.2.2.1 ≤ 320) (B : bk E i nc ns) : fA M_W_law E (lZ E) n h nc ns 591 (lL i) [] := by
  obtain ⟨⟨fs, hc⟩, P, e1, e2⟩ := s_best (E := E) (v := zsv E i 1) S
  refine a_al1 fW_law_591 ?_
  refine a_al0 fW_law_592 ?_
  refine a_il3 fW_law_593 ?_
  refine a_ic fW_law_594 ?_
  refine a_iadd fW_law_595 ?_
  refine a_sld fW_law_596 (vin (j := 1) hi hL (by decide)) ?_
  refine a_V1I fW_law_597 k_W_77 m_F_best ⟨by decide, by decide⟩ hc rfl ⟨rfl, rfl⟩ (Nat.le_of_ble_eq_true rfl) e1 (fun r k1 h1 p1 => ?_)
  obtain ⟨⟨fs2, hm⟩, Q, e3, e4⟩ := e2 _ _ _ p1
  refine a_al2 fW_law_600 ?_
  refine a_al0 fW_law_601 ?_
  refine a_il3 fW_law_602 ?_
  refine a_ic fW_law_603 ?_
  refine a_iadd fW_law_604 ?_
  refine a_sld fW_law_605 (vin (j := 1) hi hL (by decide)) ?_
  refine a_V1I fW_law_606 k_W_80 m_M_best ⟨by decide, by decide⟩ hm rfl ⟨rfl, rfl⟩ (Nat.le_of_ble_eq_true rfl) e3 (fun r2 k2 h2 p2 => ?_)
  obtain ⟨er, S2⟩ := e4 _ _ _ p2
  refine a_ic_eq fW_law_609 (fun _ => ?_) (fun c_ => absurd er c_)
  exact B _ _ _ _ S2 (by omega) (by omega)
theorem t_first (S : SS h n) (hi : i + 5 ≤ E.2.2.2.2.1) (hL : E.2.2.2.2.1 ≤ 320) (B : bk E i nc ns) : fA M_W_law E (lZ E) n h nc ns 614 (lL i) [] := by
  obtain ⟨⟨fs, hc⟩, P, e1, e2⟩ := s_first (E := E) S
  refine a_al1 fW_law_614 ?_
  refine a_V0I fW_law_615 k_W_81 m_F_first ⟨by decide, by decide⟩ hc rfl ⟨rfl, rfl⟩ (Nat.le_of_ble_eq_true rfl) e1 (fun r k1 h1 p1 => ?_)
  obtain ⟨⟨fs2, hm⟩, Q, e3, e4⟩ := e2 _ _ _ p1
  refine a_al2 fW_law_618 ?_
  refine a_V0I fW_law_619 k_W_84 m_M_first ⟨by decide, by decide⟩ hm rfl ⟨rfl, rfl⟩ (Nat.le_of_ble_eq_true rfl) e3 (fun r2 k2 h2 p2 => ?_)
  obtain ⟨er, S2⟩ := e4 _ _ _ p2
  refine a_ic_eq fW_law_622 (fun _ => ?_) (fun c_ => absurd er c_)
  exact B _ _ _ _ S2 (by omega) (by omega)
theorem t_counts (S : SS h n) (hi : i + 5 ≤ E.2.2.2.2.1) (hL : E.2.2.2.2.1 ≤ 320) (B : bk E i nc ns) : fA M_W_law E (lZ E) n h nc ns 627 (lL i) [] := by
  obtain ⟨⟨fs, hc⟩, P, e1, e2⟩ := s_counts (E := E) S
  refine a_al1 fW_law_627 ?_
  refine a_V0I fW_law_628 k_W_85 m_F_counts ⟨by decide, by decide⟩ hc rfl ⟨rfl, rfl⟩ (Nat.le_of_ble_eq_true rfl) e1 (fun r k1 h1 p1 => ?_)
  obtain ⟨⟨fs2, hm⟩, Q, e3, e4⟩ := e2 _ _ _ p1
  refine a_al2 fW_law_631 ?_
  refine a_V0I fW_law_632 k_W_88 m_M_counts ⟨by decide, by decide⟩ hm rfl ⟨rfl, rfl⟩ (Nat.le_of_ble_eq_true rfl) e3 (fun r2 k2 h2 p2 => ?_)
  obtain ⟨er, S2⟩ := e4 _ _ _ p2
  refine a_ic_eq fW_law_635 (fun _ => ?_) (fun c_ => absurd er c_)
  exact B _ _ _ _ S2 (by omega) (by omega)
theorem t_when (S : SS h n) (hi : i + 5 ≤ E.2.2.2.2.1) (hL : E.2.2.2.2.1 ≤ 320) (B : bk E i nc ns) : fA M_W_law E (lZ E) n h nc ns 640 (lL i) [] := by
  obtain ⟨⟨fs, hc⟩, P, e1, e2⟩ := s_when (E := E) (v := zsv E i 1) (x := zsv E i 2) S
  refine a_al1 fW_law_640 ?_
  refine a_al0 fW_law_641 ?_
  refine a_il3 fW_law_642 ?_
  refine a_ic fW_law_643 ?_
  refine a_iadd fW_law_644 ?_
  refine a_sld fW_law_645 (vin (j := 1) hi hL (by decide)) ?_
  refine a_al0 fW_law_646 ?_
  refine a_il3 fW_law_647 ?_
  refine a_ic fW_law_648 ?_
  refine a_iadd fW_law_649 ?_
  refine a_sld fW_law_650 (vin (j := 2) hi hL (by decide)) ?_
  refine a_V2I fW_law_651 k_W_89 m_F_when ⟨by decide, by decide⟩ hc rfl ⟨rfl, rfl⟩ (Nat.le_of_ble_eq_true rfl) e1 (fun r k1 h1 p1 => ?_)
  obtain ⟨⟨fs2, hm⟩, Q, e3, e4⟩ := e2 _ _ _ p1
  refine a_al2 fW_law_654 ?_
  refine a_al0 fW_law_655 ?_
  refine a_il3 fW_law_656 ?_
  refine a_ic fW_law_657 ?_
  refine a_iadd fW_law_658 ?_
  refine a_sld fW_law_659 (vin (j := 1) hi hL (by decide)) ?_
  refine a_al0 fW_law_660 ?_
  refine a_il3 fW_law_661 ?_
  refine a_ic fW_law_662 ?_
  refine a_iadd fW_law_663 ?_
  refine a_sld fW_law_664 (vin (j := 2) hi hL (by decide)) ?_
  refine a_V2I fW_law_665 k_W_92 m_M_when ⟨by decide, by decide⟩ hm rfl ⟨rfl, rfl⟩ (Nat.le_of_ble_eq_true rfl) e3 (fun r2 k2 h2 p2 => ?_)
  obtain ⟨er, S2⟩ := e4 _ _ _ p2
  refine a_ic_eq fW_law_668 (fun _ => ?_) (fun c_ => absurd er c_)
  exact B _ _ _ _ S2 (by omega) (by omega)
theorem t_most (S : SS h n) (hi : i + 5 ≤ E.2.2.2.2.1) (hL : E.2.2.2.2.1 ≤ 320) (B : bk E i nc ns) : fA M_W_law E (lZ E) n h nc ns 673 (lL i) [] := by
  obtain ⟨⟨fs, hc⟩, P, e1, e2⟩ := s_most (E := E) (w := zsv E i 1) S
  refine a_al1 fW_law_673 ?_
  refine a_al0 fW_law_674 ?_
  refine a_il3 fW_law_675 ?_
  refine a_ic fW_law_676 ?_
  refine a_iadd fW_law_677 ?_
  refine a_sld fW_law_678 (vin (j := 1) hi hL (by decide)) ?_
  refine a_V1I fW_law_679 k_W_93 m_F_most ⟨by decide, by decide⟩ hc rfl ⟨rfl, rfl⟩ (Nat.le_of_ble_eq_true rfl) e1 (fun r k1 h1 p1 => ?_)
  obtain ⟨⟨fs2, hm⟩, Q, e3, e4⟩ := e2 _ _ _ p1
  refine a_al2 fW_law_682 ?_
  refine a_al0 fW_law_683 ?_
  refine a_il3 fW_law_684 ?_
  refine a_ic fW_law_685 ?_
  refine a_iadd fW_law_686 ?_
  refine a_sld fW_law_687 (vin (j := 1) hi hL (by decide)) ?_
  refine a_V1I fW_law_688 k_W_96 m_M_most ⟨by decide, by decide⟩ hm rfl ⟨rfl, rfl⟩ (Nat.le_of_ble_eq_true rfl) e3 (fun r2 k2 h2 p2 => ?_)
  obtain ⟨er, S2⟩ := e4 _ _ _ p2
  refine a_ic_eq fW_law_691 (fun _ => ?_) (fun c_ => absurd er c_)
  exact B _ _ _ _ S2 (by omega) (by omega)
theorem t_plan (S : SS h n) (hi : i + 5 ≤ E.2.2.2.2.1) (hL : E.2.2.2.2.1 ≤ 320) (B : bk E i nc ns) : fA M_W_law E (lZ E) n h nc ns 696 (lL i) [] := by
  obtain ⟨⟨fs, hc⟩, P, e1, e2⟩ := s_plan (E := E) (b := zsv E i 1) S
  refine a_al1 fW_law_696 ?_
  refine a_al0 fW_law_697 ?_
  refine a_il3 fW_law_698 ?_
  refine a_ic fW_law_699 ?_
  refine a_iadd fW_law_700 ?_
  refine a_sld fW_law_701 (vin (j := 1) hi hL (by decide)) ?_
  refine a_V1I fW_law_702 k_W_97 m_F_plan ⟨by decide, by decide⟩ hc rfl ⟨rfl, rfl⟩ (Nat.le_of_ble_eq_true rfl) e1 (fun r k1 h1 p1 => ?_)
  obtain ⟨⟨fs2, hm⟩, Q, e3, e4⟩ := e2 _ _ _ p1
  refine a_al2 fW_law_705 ?_
  refine a_al0 fW_law_706 ?_
  refine a_il3 fW_law_707 ?_
  refine a_ic fW_law_708 ?_
  refine a_iadd fW_law_709 ?_
  refine a_sld fW_law_710 (vin (j := 1) hi hL (by decide)) ?_
  refine a_V1I fW_law_711 k_W_100 m_M_plan ⟨by decide, by decide⟩ hm rfl ⟨rfl, rfl⟩ (Nat.le_of_ble_eq_true rfl) e3 (fun r2 k2 h2 p2 => ?_)
  obtain ⟨er, S2⟩ := e4 _ _ _ p2
  refine a_ic_eq fW_law_714 (fun _ => ?_) (fun c_ => absurd er c_)
  exact B _ _ _ _ S2 (by omega) (by omega)
theorem t_wanted (S : SS h n) (hi : i + 5 ≤ E.2.2.2.2.1) (hL : E.2.2.2.2.1 ≤ 320) (B : bk E i nc ns) : fA M_W_law E (lZ E) n h nc ns 719 (lL i) [] := by
  obtain ⟨⟨fs, hc⟩, P, e1, e2⟩ := s_wanted (E := E) (w := zsv E i 1) S
  refine a_al1 fW_law_719 ?_
  refine a_al0 fW_law_720 ?_
  refine a_il3 fW_law_721 ?_
  refine a_ic fW_law_722 ?_
  refine a_iadd fW_law_723 ?_
  refine a_sld fW_law_724 (vin (j := 1) hi hL (by decide)) ?_
  refine a_V1I fW_law_725 k_W_101 m_F_wanted ⟨by decide, by decide⟩ hc rfl ⟨rfl, rfl⟩ (Nat.le_of_ble_eq_true rfl) e1 (fun r k1 h1 p1 => ?_)
  obtain ⟨⟨fs2, hm⟩, Q, e3, e4⟩ := e2 _ _ _ p1
  refine a_al2 fW_law_728 ?_
  refine a_al0 fW_law_729 ?_
  refine a_il3 fW_law_730 ?_
  refine a_ic fW_law_731 ?_
  refine a_iadd fW_law_732 ?_
  refine a_sld fW_law_733 (vin (j := 1) hi hL (by decide)) ?_
  refine a_V1I fW_law_734 k_W_104 m_M_wanted ⟨by decide, by decide⟩ hm rfl ⟨rfl, rfl⟩ (Nat.le_of_ble_eq_true rfl) e3 (fun r2 k2 h2 p2 => ?_)
  obtain ⟨er, S2⟩ := e4 _ _ _ p2
  refine a_ic_eq fW_law_737 (fun _ => ?_) (fun c_ => absurd er c_)
  exact B _ _ _ _ S2 (by omega) (by omega)
theorem t_trace (S : SS h n) (hi : i + 5 ≤ E.2.2.2.2.1) (hL : E.2.2.2.2.1 ≤ 320) (B : bk E i nc ns) : fA M_W_law E (lZ E) n h nc ns 742 (lL i) [] := by
  obtain ⟨⟨fs, hc⟩, P, e1, e2⟩ := s_trace (E := E) (f := zsv E i 1) (x := zsv E i 2) S
  refine a_al1 fW_law_742 ?_
  refine a_al0 fW_law_743 ?_
  refine a_il3 fW_law_744 ?_
  refine a_ic fW_law_745 ?_
  refine a_iadd fW_law_746 ?_
  refine a_sld fW_law_747 (vin (j := 1) hi hL (by decide)) ?_
  refine a_al0 fW_law_748 ?_
  refine a_il3 fW_law_749 ?_
  refine a_ic fW_law_750 ?_
  refine a_iadd fW_law_751 ?_
  refine a_sld fW_law_752 (vin (j := 2) hi hL (by decide)) ?_
  refine a_V2I fW_law_753 k_W_105 m_F_trace ⟨by decide, by decide⟩ hc rfl ⟨rfl, rfl⟩ (Nat.le_of_ble_eq_true rfl) e1 (fun r k1 h1 p1 => ?_)
  obtain ⟨⟨fs2, hm⟩, Q, e3, e4⟩ := e2 _ _ _ p1
  refine a_al2 fW_law_756 ?_
  refine a_al0 fW_law_757 ?_
  refine a_il3 fW_law_758 ?_
  refine a_ic fW_law_759 ?_
  refine a_iadd fW_law_760 ?_
  refine a_sld fW_law_761 (vin (j := 1) hi hL (by decide)) ?_
  refine a_al0 fW_law_762 ?_
  refine a_il3 fW_law_763 ?_
  refine a_ic fW_law_764 ?_
  refine a_iadd fW_law_765 ?_
  refine a_sld fW_law_766 (vin (j := 2) hi hL (by decide)) ?_
  refine a_V2I fW_law_767 k_W_108 m_M_trace ⟨by decide, by decide⟩ hm rfl ⟨rfl, rfl⟩ (Nat.le_of_ble_eq_true rfl) e3 (fun r2 k2 h2 p2 => ?_)
  obtain ⟨er, S2⟩ := e4 _ _ _ p2
  refine a_ic_eq fW_law_770 (fun _ => ?_) (fun c_ => absurd er c_)
  exact B _ _ _ _ S2 (by omega) (by omega)
theorem t_which (S : SS h n) (hi : i + 5 ≤ E.2.2.2.2.1) (hL : E.2.2.2.2.1 ≤ 320) (B : bk E i nc ns) : fA M_W_law E (lZ E) n h nc ns 775 (lL i) [] := by
  obtain ⟨⟨fs, hc⟩, P, e1, e2⟩ := s_which (E := E) (w := zsv E i 1) S
  refine a_al1 fW_law_775 ?_
  refine a_al0 fW_law_776 ?_
  refine a_il3 fW_law_777 ?_
  refine a_ic fW_law_778 ?_
  refine a_iadd fW_law_779 ?_
  refine a_sld fW_law_780 (vin (j := 1) hi hL (by decide)) ?_
  refine a_V1I fW_law_781 k_W_109 m_F_which ⟨by decide, by decide⟩ hc rfl ⟨rfl, rfl⟩ (Nat.le_of_ble_eq_true rfl) e1 (fun r k1 h1 p1 => ?_)
  obtain ⟨⟨fs2, hm⟩, Q, e3, e4⟩ := e2 _ _ _ p1
  refine a_al2 fW_law_784 ?_
  refine a_al0 fW_law_785 ?_
  refine a_il3 fW_law_786 ?_
  refine a_ic fW_law_787 ?_
  refine a_iadd fW_law_788 ?_
  refine a_sld fW_law_789 (vin (j := 1) hi hL (by decide)) ?_
  refine a_V1I fW_law_790 k_W_112 m_M_which ⟨by decide, by decide⟩ hm rfl ⟨rfl, rfl⟩ (Nat.le_of_ble_eq_true rfl) e3 (fun r2 k2 h2 p2 => ?_)
  obtain ⟨er, S2⟩ := e4 _ _ _ p2
  refine a_ic_eq fW_law_793 (fun _ => ?_) (fun c_ => absurd er c_)
  exact B _ _ _ _ S2 (by omega) (by omega)
theorem t_note (S : SS h n) (hi : i + 5 ≤ E.2.2.2.2.1) (hL : E.2.2.2.2.1 ≤ 320) (B : bk E i nc ns) : fA M_W_law E (lZ E) n h nc ns 798 (lL i) [] := by
  obtain ⟨⟨fs, hc⟩, P, e1, e2⟩ := s_note (E := E) (f := zsv E i 1) (k := zsv E i 2) (d := zsv E i 3) (x := zsv E i 4) S
  refine a_al1 fW_law_798 ?_
  refine a_al0 fW_law_799 ?_
  refine a_il3 fW_law_800 ?_
  refine a_ic fW_law_801 ?_
  refine a_iadd fW_law_802 ?_
  refine a_sld fW_law_803 (vin (j := 1) hi hL (by decide)) ?_
  refine a_al0 fW_law_804 ?_
  refine a_il3 fW_law_805 ?_
  refine a_ic fW_law_806 ?_
  refine a_iadd fW_law_807 ?_
  refine a_sld fW_law_808 (vin (j := 2) hi hL (by decide)) ?_
  refine a_al0 fW_law_809 ?_
  refine a_il3 fW_law_810 ?_
  refine a_ic fW_law_811 ?_
  refine a_iadd fW_law_812 ?_
  refine a_sld fW_law_813 (vin (j := 3) hi hL (by decide)) ?_
  refine a_al0 fW_law_814 ?_
  refine a_il3 fW_law_815 ?_
  refine a_ic fW_law_816 ?_
  refine a_iadd fW_law_817 ?_
  refine a_sld fW_law_818 (vin (j := 4) hi hL (by decide)) ?_
  refine a_V4I fW_law_819 k_W_113 m_F_note ⟨by decide, by decide⟩ hc rfl ⟨rfl, rfl⟩ (Nat.le_of_ble_eq_true rfl) e1 (fun r k1 h1 p1 => ?_)
  obtain ⟨⟨fs2, hm⟩, Q, e3, e4⟩ := e2 _ _ _ p1
  refine a_al2 fW_law_822 ?_
  refine a_al0 fW_law_823 ?_
  refine a_il3 fW_law_824 ?_
  refine a_ic fW_law_825 ?_
  refine a_iadd fW_law_826 ?_
  refine a_sld fW_law_827 (vin (j := 1) hi hL (by decide)) ?_
  refine a_al0 fW_law_828 ?_
  refine a_il3 fW_law_829 ?_
  refine a_ic fW_law_830 ?_
  refine a_iadd fW_law_831 ?_
  refine a_sld fW_law_832 (vin (j := 2) hi hL (by decide)) ?_
  refine a_al0 fW_law_833 ?_
  refine a_il3 fW_law_834 ?_
  refine a_ic fW_law_835 ?_
  refine a_iadd fW_law_836 ?_
  refine a_sld fW_law_837 (vin (j := 3) hi hL (by decide)) ?_
  refine a_al0 fW_law_838 ?_
  refine a_il3 fW_law_839 ?_
  refine a_ic fW_law_840 ?_
  refine a_iadd fW_law_841 ?_
  refine a_sld fW_law_842 (vin (j := 4) hi hL (by decide)) ?_
  refine a_V4I fW_law_843 k_W_117 m_M_note ⟨by decide, by decide⟩ hm rfl ⟨rfl, rfl⟩ (Nat.le_of_ble_eq_true rfl) e3 (fun r2 k2 h2 p2 => ?_)
  obtain ⟨er, S2⟩ := e4 _ _ _ p2
  refine a_ic_eq fW_law_846 (fun _ => ?_) (fun c_ => absurd er c_)
  exact B _ _ _ _ S2 (by omega) (by omega)
theorem t_forget (S : SS h n) (hi : i + 5 ≤ E.2.2.2.2.1) (hL : E.2.2.2.2.1 ≤ 320) (B : bk E i nc ns) : fA M_W_law E (lZ E) n h nc ns 851 (lL i) [] := by
  obtain ⟨⟨fs, hc⟩, P, e1, e2⟩ := s_forget (E := E) (w := zsv E i 1) S
  refine a_al1 fW_law_851 ?_
  refine a_al0 fW_law_852 ?_
  refine a_il3 fW_law_853 ?_
  refine a_ic fW_law_854 ?_
  refine a_iadd fW_law_855 ?_
  refine a_sld fW_law_856 (vin (j := 1) hi hL (by decide)) ?_
  refine a_V1I fW_law_857 k_W_118 m_F_forget ⟨by decide, by decide⟩ hc rfl ⟨rfl, rfl⟩ (Nat.le_of_ble_eq_true rfl) e1 (fun r k1 h1 p1 => ?_)
  obtain ⟨⟨fs2, hm⟩, Q, e3, e4⟩ := e2 _ _ _ p1
  refine a_al2 fW_law_860 ?_
  refine a_al0 fW_law_861 ?_
  refine a_il3 fW_law_862 ?_
  refine a_ic fW_law_863 ?_
  refine a_iadd fW_law_864 ?_
  refine a_sld fW_law_865 (vin (j := 1) hi hL (by decide)) ?_
  refine a_V1I fW_law_866 k_W_121 m_M_forget ⟨by decide, by decide⟩ hm rfl ⟨rfl, rfl⟩ (Nat.le_of_ble_eq_true rfl) e3 (fun r2 k2 h2 p2 => ?_)
  obtain ⟨er, S2⟩ := e4 _ _ _ p2
  refine a_ic_eq fW_law_869 (fun _ => ?_) (fun c_ => absurd er c_)
  exact B _ _ _ _ S2 (by omega) (by omega)
theorem t_is (S : SS h n) (hi : i + 5 ≤ E.2.2.2.2.1) (hL : E.2.2.2.2.1 ≤ 320) (B : bk E i nc ns) : fA M_W_law E (lZ E) n h nc ns 874 (lL i) [] := by
  obtain ⟨⟨fs, hc⟩, P, e1, e2⟩ := s_is (E := E) (f := zsv E i 1) S
  refine a_al1 fW_law_874 ?_
  refine a_al0 fW_law_875 ?_
  refine a_il3 fW_law_876 ?_
  refine a_ic fW_law_877 ?_
  refine a_iadd fW_law_878 ?_
  refine a_sld fW_law_879 (vin (j := 1) hi hL (by decide)) ?_
  refine a_V1I fW_law_880 k_W_122 m_F_is ⟨by decide, by decide⟩ hc rfl ⟨rfl, rfl⟩ (Nat.le_of_ble_eq_true rfl) e1 (fun r k1 h1 p1 => ?_)
  obtain ⟨⟨fs2, hm⟩, Q, e3, e4⟩ := e2 _ _ _ p1
  refine a_al2 fW_law_883 ?_
  refine a_al0 fW_law_884 ?_
  refine a_il3 fW_law_885 ?_
  refine a_ic fW_law_886 ?_
  refine a_iadd fW_law_887 ?_
  refine a_sld fW_law_888 (vin (j := 1) hi hL (by decide)) ?_
  refine a_V1I fW_law_889 k_W_125 m_M_is ⟨by decide, by decide⟩ hm rfl ⟨rfl, rfl⟩ (Nat.le_of_ble_eq_true rfl) e3 (fun r2 k2 h2 p2 => ?_)
  obtain ⟨er, S2⟩ := e4 _ _ _ p2
  refine a_ic_eq fW_law_892 (fun _ => ?_) (fun c_ => absurd er c_)
  exact B _ _ _ _ S2 (by omega) (by omega)
theorem t_look (S : SS h n) (hi : i + 5 ≤ E.2.2.2.2.1) (hL : E.2.2.2.2.1 ≤ 320) (B : bk E i nc ns) : fA M_W_law E (lZ E) n h nc ns 897 (lL i) [] := by
  obtain ⟨⟨fs, hc⟩, P, e1, e2⟩ := s_look (E := E) (f := zsv E i 1) S
  refine a_al1 fW_law_897 ?_
  refine a_al0 fW_law_898 ?_
  refine a_il3 fW_law_899 ?_
  refine a_ic fW_law_900 ?_
  refine a_iadd fW_law_901 ?_
  refine a_sld fW_law_902 (vin (j := 1) hi hL (by decide)) ?_
  refine a_V1I fW_law_903 k_W_126 m_F_look ⟨by decide, by decide⟩ hc rfl ⟨rfl, rfl⟩ (Nat.le_of_ble_eq_true rfl) e1 (fun r k1 h1 p1 => ?_)
  obtain ⟨⟨fs2, hm⟩, Q, e3, e4⟩ := e2 _ _ _ p1
  refine a_al2 fW_law_906 ?_
  refine a_al0 fW_law_907 ?_
  refine a_il3 fW_law_908 ?_
  refine a_ic fW_law_909 ?_
  refine a_iadd fW_law_910 ?_
  refine a_sld fW_law_911 (vin (j := 1) hi hL (by decide)) ?_
  refine a_V1I fW_law_912 k_W_129 m_M_look ⟨by decide, by decide⟩ hm rfl ⟨rfl, rfl⟩ (Nat.le_of_ble_eq_true rfl) e3 (fun r2 k2 h2 p2 => ?_)
  obtain ⟨er, S2⟩ := e4 _ _ _ p2
  refine a_ic_eq fW_law_915 (fun _ => ?_) (fun c_ => absurd er c_)
  exact B _ _ _ _ S2 (by omega) (by omega)
theorem t_two (S : SS h n) (hi : i + 5 ≤ E.2.2.2.2.1) (hL : E.2.2.2.2.1 ≤ 320) (B : bk E i nc ns) : fA M_W_law E (lZ E) n h nc ns 920 (lL i) [] := by
  obtain ⟨⟨fs, hc⟩, P, e1, e2⟩ := s_two (E := E) (a := zsv E i 1) (b := zsv E i 2) S
  refine a_al1 fW_law_920 ?_
  refine a_al0 fW_law_921 ?_
  refine a_il3 fW_law_922 ?_
  refine a_ic fW_law_923 ?_
  refine a_iadd fW_law_924 ?_
  refine a_sld fW_law_925 (vin (j := 1) hi hL (by decide)) ?_
  refine a_al0 fW_law_926 ?_
  refine a_il3 fW_law_927 ?_
  refine a_ic fW_law_928 ?_
  refine a_iadd fW_law_929 ?_
  refine a_sld fW_law_930 (vin (j := 2) hi hL (by decide)) ?_
  refine a_V2I fW_law_931 k_W_130 m_F_two ⟨by decide, by decide⟩ hc rfl ⟨rfl, rfl⟩ (Nat.le_of_ble_eq_true rfl) e1 (fun r k1 h1 p1 => ?_)
  obtain ⟨⟨fs2, hm⟩, Q, e3, e4⟩ := e2 _ _ _ p1
  refine a_al2 fW_law_934 ?_
  refine a_al0 fW_law_935 ?_
  refine a_il3 fW_law_936 ?_
  refine a_ic fW_law_937 ?_
  refine a_iadd fW_law_938 ?_
  refine a_sld fW_law_939 (vin (j := 1) hi hL (by decide)) ?_
  refine a_al0 fW_law_940 ?_
  refine a_il3 fW_law_941 ?_
  refine a_ic fW_law_942 ?_
  refine a_iadd fW_law_943 ?_
  refine a_sld fW_law_944 (vin (j := 2) hi hL (by decide)) ?_
  refine a_V2I fW_law_945 k_W_133 m_M_two ⟨by decide, by decide⟩ hm rfl ⟨rfl, rfl⟩ (Nat.le_of_ble_eq_true rfl) e3 (fun r2 k2 h2 p2 => ?_)
  obtain ⟨er, S2⟩ := e4 _ _ _ p2
  refine a_ic_eq fW_law_948 (fun _ => ?_) (fun c_ => absurd er c_)
  exact B _ _ _ _ S2 (by omega) (by omega)
theorem t_odds (S : SS h n) (hi : i + 5 ≤ E.2.2.2.2.1) (hL : E.2.2.2.2.1 ≤ 320) (B : bk E i nc ns) : fA M_W_law E (lZ E) n h nc ns 953 (lL i) [] := by
  obtain ⟨⟨fs, hc⟩, P, e1, e2⟩ := s_odds (E := E) (v := zsv E i 1) (x := zsv E i 2) (c := zsv E i 3) S
  refine a_al1 fW_law_953 ?_
  refine a_al0 fW_law_954 ?_
  refine a_il3 fW_law_955 ?_
  refine a_ic fW_law_956 ?_
  refine a_iadd fW_law_957 ?_
  refine a_sld fW_law_958 (vin (j := 1) hi hL (by decide)) ?_
  refine a_al0 fW_law_959 ?_
  refine a_il3 fW_law_960 ?_
  refine a_ic fW_law_961 ?_
  refine a_iadd fW_law_962 ?_
  refine a_sld fW_law_963 (vin (j := 2) hi hL (by decide)) ?_
  refine a_al0 fW_law_964 ?_
  refine a_il3 fW_law_965 ?_
  refine a_ic fW_law_966 ?_
  refine a_iadd fW_law_967 ?_
  refine a_sld fW_law_968 (vin (j := 3) hi hL (by decide)) ?_
  refine a_V3I fW_law_969 k_W_134 m_F_odds ⟨by decide, by decide⟩ hc rfl ⟨rfl, rfl⟩ (Nat.le_of_ble_eq_true rfl) e1 (fun r k1 h1 p1 => ?_)
  obtain ⟨⟨fs2, hm⟩, Q, e3, e4⟩ := e2 _ _ _ p1
  refine a_al2 fW_law_972 ?_
  refine a_al0 fW_law_973 ?_
  refine a_il3 fW_law_974 ?_
  refine a_ic fW_law_975 ?_
  refine a_iadd fW_law_976 ?_
  refine a_sld fW_law_977 (vin (j := 1) hi hL (by decide)) ?_
  refine a_al0 fW_law_978 ?_
  refine a_il3 fW_law_979 ?_
  refine a_ic fW_law_980 ?_
  refine a_iadd fW_law_981 ?_
  refine a_sld fW_law_982 (vin (j := 2) hi hL (by decide)) ?_
  refine a_al0 fW_law_983 ?_
  refine a_il3 fW_law_984 ?_
  refine a_ic fW_law_985 ?_
  refine a_iadd fW_law_986 ?_
  refine a_sld fW_law_987 (vin (j := 3) hi hL (by decide)) ?_
  refine a_V3I fW_law_988 k_W_137 m_M_odds ⟨by decide, by decide⟩ hm rfl ⟨rfl, rfl⟩ (Nat.le_of_ble_eq_true rfl) e3 (fun r2 k2 h2 p2 => ?_)
  obtain ⟨er, S2⟩ := e4 _ _ _ p2
  refine a_ic_eq fW_law_991 (fun _ => ?_) (fun c_ => absurd er c_)
  exact B _ _ _ _ S2 (by omega) (by omega)
theorem t_years (S : SS h n) (hi : i + 5 ≤ E.2.2.2.2.1) (hL : E.2.2.2.2.1 ≤ 320) (B : bk E i nc ns) : fA M_W_law E (lZ E) n h nc ns 996 (lL i) [] := by
  obtain ⟨⟨fs, hc⟩, P, e1, e2⟩ := s_years (E := E) (a := zsv E i 1) (b := zsv E i 2) S
  refine a_al1 fW_law_996 ?_
  refine a_al0 fW_law_997 ?_
  refine a_il3 fW_law_998 ?_
  refine a_ic fW_law_999 ?_
  refine a_iadd fW_law_1000 ?_
  refine a_sld fW_law_1001 (vin (j := 1) hi hL (by decide)) ?_
  refine a_al0 fW_law_1002 ?_
  refine a_il3 fW_law_1003 ?_
  refine a_ic fW_law_1004 ?_
  refine a_iadd fW_law_1005 ?_
  refine a_sld fW_law_1006 (vin (j := 2) hi hL (by decide)) ?_
  refine a_V2I fW_law_1007 k_W_138 m_F_years ⟨by decide, by decide⟩ hc rfl ⟨rfl, rfl⟩ (Nat.le_of_ble_eq_true rfl) e1 (fun r k1 h1 p1 => ?_)
  obtain ⟨⟨fs2, hm⟩, Q, e3, e4⟩ := e2 _ _ _ p1
  refine a_al2 fW_law_1010 ?_
  refine a_al0 fW_law_1011 ?_
  refine a_il3 fW_law_1012 ?_
  refine a_ic fW_law_1013 ?_
  refine a_iadd fW_law_1014 ?_
  refine a_sld fW_law_1015 (vin (j := 1) hi hL (by decide)) ?_
  refine a_al0 fW_law_1016 ?_
  refine a_il3 fW_law_1017 ?_
  refine a_ic fW_law_1018 ?_
  refine a_iadd fW_law_1019 ?_
  refine a_sld fW_law_1020 (vin (j := 2) hi hL (by decide)) ?_
  refine a_V2I fW_law_1021 k_W_141 m_M_years ⟨by decide, by decide⟩ hm rfl ⟨rfl, rfl⟩ (Nat.le_of_ble_eq_true rfl) e3 (fun r2 k2 h2 p2 => ?_)
  obtain ⟨er, S2⟩ := e4 _ _ _ p2
  refine a_ic_eq fW_law_1024 (fun _ => ?_) (fun c_ => absurd er c_)
  exact B _ _ _ _ S2 (by omega) (by omega)
theorem t_part (S : SS h n) (hi : i + 5 ≤ E.2.2.2.2.1) (hL : E.2.2.2.2.1 ≤ 320) (hq1 : nc ≤ 500000) (hq2 : ns ≤ 7000000) (B : bk E i nc ns) : fA M_W_law E (lZ E) n h nc ns 1029 (lL i) [] := by
  obtain ⟨⟨fs, hc⟩, P, e1, e2⟩ := s_part (E := E) (w := zsv E i 1) S
  refine a_al1 fW_law_1029 ?_
  refine a_al0 fW_law_1030 ?_
  refine a_il3 fW_law_1031 ?_
  refine a_ic fW_law_1032 ?_
  refine a_iadd fW_law_1033 ?_
  refine a_sld fW_law_1034 (vin (j := 1) hi hL (by decide)) ?_
  refine a_cV0 (As := [.int (zsv E i 1)]) (st := []) fW_law_1035 k_W_142 m_F_part ⟨by decide, by decide⟩ rfl hc rfl (Nat.le_of_ble_eq_true rfl) (by show nc + 0 ≤ 600000; omega) (by show ns + 0 ≤ 7302250; omega) e1 (fun r k1 h1 p1 => ?_) rfl
  obtain ⟨v9, er, ⟨fs2, hm⟩, Q, e3, e4⟩ := e2 _ _ _ p1
  subst er
  show fA M_W_law E (lZ E) k1 h1 nc ns 1038 (lL i) [.long v9]
  refine a_al2 fW_law_1038 ?_
  refine a_al0 fW_law_1039 ?_
  refine a_il3 fW_law_1040 ?_
  refine a_ic fW_law_1041 ?_
  refine a_iadd fW_law_1042 ?_
  refine a_sld fW_law_1043 (vin (j := 1) hi hL (by decide)) ?_
  refine a_cV0 (As := [.int (zsv E i 1)]) (st := [.long v9]) fW_law_1044 k_W_146 m_M_part ⟨by decide, by decide⟩ rfl hm rfl (Nat.le_of_ble_eq_true rfl) (by show nc + 0 ≤ 600000; omega) (by show ns + 0 ≤ 7302250; omega) e3 (fun r2 k2 h2 p2 => ?_) rfl
  obtain ⟨er2, S2⟩ := e4 _ _ _ p2
  subst er2
  show fA M_W_law E (lZ E) k2 h2 nc ns 1047 (lL i) [.long v9, .long v9]
  refine a_lcmp fW_law_1047 ?_
  refine a_if_eq fW_law_1048 (fun _ => ?_) (fun c_ => absurd ((lg_cmp_eq _ _).mpr rfl) c_)
  exact B _ _ _ _ S2 (by omega) (by omega)
theorem t_image (S : SS h n) (hi : i + 5 ≤ E.2.2.2.2.1) (hL : E.2.2.2.2.1 ≤ 320) (hq1 : nc ≤ 500000) (hq2 : ns ≤ 7000000) (B : bk E i nc ns) : fA M_W_law E (lZ E) n h nc ns 1053 (lL i) [] := by
  obtain ⟨⟨fs, hc⟩, P, e1, e2⟩ := s_image (E := E) (i := zsv E i 1) S
  refine a_al1 fW_law_1053 ?_
  refine a_al0 fW_law_1054 ?_
  refine a_il3 fW_law_1055 ?_
  refine a_ic fW_law_1056 ?_
  refine a_iadd fW_law_1057 ?_
  refine a_sld fW_law_1058 (vin (j := 1) hi hL (by decide)) ?_
  refine a_cV0 (As := [.int (zsv E i 1)]) (st := []) fW_law_1059 k_W_147 m_F_image ⟨by decide, by decide⟩ rfl hc rfl (Nat.le_of_ble_eq_true rfl) (by show nc + 17 ≤ 600000; omega) (by show ns + 205 ≤ 7302250; omega) e1 (fun r k1 h1 p1 => ?_) rfl
  obtain ⟨r, er, p1⟩ := p1
  subst er
  obtain ⟨⟨fs2, hm⟩, Q, e3, e4⟩ := e2 _ _ _ p1
  show fA M_W_law E (lZ E) k1 h1 (nc + 17) (ns + 205) 1062 (lL i) [.int r]
  refine a_al2 fW_law_1062 ?_
  refine a_al0 fW_law_1063 ?_
  refine a_il3 fW_law_1064 ?_
  refine a_ic fW_law_1065 ?_
  refine a_iadd fW_law_1066 ?_
  refine a_sld fW_law_1067 (vin (j := 1) hi hL (by decide)) ?_
  refine a_V1I fW_law_1068 k_W_150 m_M_image ⟨by decide, by decide⟩ hm rfl ⟨rfl, rfl⟩ (Nat.le_of_ble_eq_true rfl) e3 (fun r2 k2 h2 p2 => ?_)
  obtain ⟨er, S2⟩ := e4 _ _ _ p2
  refine a_ic_eq fW_law_1071 (fun _ => ?_) (fun c_ => absurd er c_)
  exact B _ _ _ _ S2 (by omega) (by omega)
theorem t_from (S : SS h n) (hi : i + 5 ≤ E.2.2.2.2.1) (hL : E.2.2.2.2.1 ≤ 320) (B : bk E i nc ns) : fA M_W_law E (lZ E) n h nc ns 1076 (lL i) [] := by
  obtain ⟨⟨fs, hc⟩, P, e1, e2⟩ := s_from (E := E) (i := zsv E i 1) S
  refine a_al1 fW_law_1076 ?_
  refine a_al0 fW_law_1077 ?_
  refine a_il3 fW_law_1078 ?_
  refine a_ic fW_law_1079 ?_
  refine a_iadd fW_law_1080 ?_
  refine a_sld fW_law_1081 (vin (j := 1) hi hL (by decide)) ?_
  refine a_V1I fW_law_1082 k_W_151 m_F_from ⟨by decide, by decide⟩ hc rfl ⟨rfl, rfl⟩ (Nat.le_of_ble_eq_true rfl) e1 (fun r k1 h1 p1 => ?_)
  obtain ⟨⟨fs2, hm⟩, Q, e3, e4⟩ := e2 _ _ _ p1
  refine a_al2 fW_law_1085 ?_
  refine a_al0 fW_law_1086 ?_
  refine a_il3 fW_law_1087 ?_
  refine a_ic fW_law_1088 ?_
  refine a_iadd fW_law_1089 ?_
  refine a_sld fW_law_1090 (vin (j := 1) hi hL (by decide)) ?_
  refine a_V1I fW_law_1091 k_W_154 m_M_from ⟨by decide, by decide⟩ hm rfl ⟨rfl, rfl⟩ (Nat.le_of_ble_eq_true rfl) e3 (fun r2 k2 h2 p2 => ?_)
  obtain ⟨er, S2⟩ := e4 _ _ _ p2
  refine a_ic_eq fW_law_1094 (fun _ => ?_) (fun c_ => absurd er c_)
  exact B _ _ _ _ S2 (by omega) (by omega)
theorem t_status (S : SS h n) (hi : i + 5 ≤ E.2.2.2.2.1) (hL : E.2.2.2.2.1 ≤ 320) (B : bk E i nc ns) : fA M_W_law E (lZ E) n h nc ns 1099 (lL i) [] := by
  obtain ⟨⟨fs, hc⟩, P, e1, e2⟩ := s_status (E := E) (w := zsv E i 1) S
  refine a_al1 fW_law_1099 ?_
  refine a_al0 fW_law_1100 ?_
  refine a_il3 fW_law_1101 ?_
  refine a_ic fW_law_1102 ?_
  refine a_iadd fW_law_1103 ?_
  refine a_sld fW_law_1104 (vin (j := 1) hi hL (by decide)) ?_
  refine a_V1I fW_law_1105 k_W_155 m_F_status ⟨by decide, by decide⟩ hc rfl ⟨rfl, rfl⟩ (Nat.le_of_ble_eq_true rfl) e1 (fun r k1 h1 p1 => ?_)
  obtain ⟨⟨fs2, hm⟩, Q, e3, e4⟩ := e2 _ _ _ p1
  refine a_al2 fW_law_1108 ?_
  refine a_al0 fW_law_1109 ?_
  refine a_il3 fW_law_1110 ?_
  refine a_ic fW_law_1111 ?_
  refine a_iadd fW_law_1112 ?_
  refine a_sld fW_law_1113 (vin (j := 1) hi hL (by decide)) ?_
  refine a_V1I fW_law_1114 k_W_158 m_M_status ⟨by decide, by decide⟩ hm rfl ⟨rfl, rfl⟩ (Nat.le_of_ble_eq_true rfl) e3 (fun r2 k2 h2 p2 => ?_)
  obtain ⟨er, S2⟩ := e4 _ _ _ p2
  refine a_ic_eq fW_law_1117 (fun _ => ?_) (fun c_ => absurd er c_)
  exact B _ _ _ _ S2 (by omega) (by omega)
theorem t_count (S : SS h n) (hi : i + 5 ≤ E.2.2.2.2.1) (hL : E.2.2.2.2.1 ≤ 320) (B : bk E i nc ns) : fA M_W_law E (lZ E) n h nc ns 1122 (lL i) [] := by
  obtain ⟨⟨fs, hc⟩, P, e1, e2⟩ := s_count (E := E) (w := zsv E i 1) S
  refine a_al1 fW_law_1122 ?_
  refine a_al0 fW_law_1123 ?_
  refine a_il3 fW_law_1124 ?_
  refine a_ic fW_law_1125 ?_
  refine a_iadd fW_law_1126 ?_
  refine a_sld fW_law_1127 (vin (j := 1) hi hL (by decide)) ?_
  refine a_V1I fW_law_1128 k_W_159 m_F_count ⟨by decide, by decide⟩ hc rfl ⟨rfl, rfl⟩ (Nat.le_of_ble_eq_true rfl) e1 (fun r k1 h1 p1 => ?_)
  obtain ⟨⟨fs2, hm⟩, Q, e3, e4⟩ := e2 _ _ _ p1
  refine a_al2 fW_law_1131 ?_
  refine a_al0 fW_law_1132 ?_
  refine a_il3 fW_law_1133 ?_
  refine a_ic fW_law_1134 ?_
  refine a_iadd fW_law_1135 ?_
  refine a_sld fW_law_1136 (vin (j := 1) hi hL (by decide)) ?_
  refine a_V1I fW_law_1137 k_W_162 m_M_count ⟨by decide, by decide⟩ hm rfl ⟨rfl, rfl⟩ (Nat.le_of_ble_eq_true rfl) e3 (fun r2 k2 h2 p2 => ?_)
  obtain ⟨er, S2⟩ := e4 _ _ _ p2
  refine a_ic_eq fW_law_1140 (fun _ => ?_) (fun c_ => absurd er c_)
  exact B _ _ _ _ S2 (by omega) (by omega)
theorem t_digest (S : SS h n) (hi : i + 5 ≤ E.2.2.2.2.1) (hL : E.2.2.2.2.1 ≤ 320) (hq1 : nc ≤ 500000) (hq2 : ns ≤ 7000000) (B : bk E i nc ns) : fA M_W_law E (lZ E) n h nc ns 1145 (lL i) [] := by
  obtain ⟨⟨fs, hc⟩, P, e1, e2⟩ := s_digest (E := E) S
  refine a_al1 fW_law_1145 ?_
  refine a_cV0 (As := []) (st := []) fW_law_1146 k_W_163 m_F_digest ⟨by decide, by decide⟩ rfl hc rfl (Nat.le_of_ble_eq_true rfl) (by show nc + 0 ≤ 600000; omega) (by show ns + 0 ≤ 7302250; omega) e1 (fun r k1 h1 p1 => ?_) rfl
  obtain ⟨v9, er, ⟨fs2, hm⟩, Q, e3, e4⟩ := e2 _ _ _ p1
  subst er
  show fA M_W_law E (lZ E) k1 h1 nc ns 1149 (lL i) [.long v9]
  refine a_al2 fW_law_1149 ?_
  refine a_cV0 (As := []) (st := [.long v9]) fW_law_1150 k_W_167 m_M_digest ⟨by decide, by decide⟩ rfl hm rfl (Nat.le_of_ble_eq_true rfl) (by show nc + 0 ≤ 600000; omega) (by show ns + 0 ≤ 7302250; omega) e3 (fun r2 k2 h2 p2 => ?_) rfl
  obtain ⟨er2, S2⟩ := e4 _ _ _ p2
  subst er2
  show fA M_W_law E (lZ E) k2 h2 nc ns 1153 (lL i) [.long v9, .long v9]
  refine a_lcmp fW_law_1153 ?_
  refine a_if_eq fW_law_1154 (fun _ => ?_) (fun c_ => absurd ((lg_cmp_eq _ _).mpr rfl) c_)
  exact B _ _ _ _ S2 (by omega) (by omega)
theorem lw_loop (hL : E.2.2.2.2.1 ≤ 320) : ∀ (j i nc ns n : Nat) (h : hT), 325 ≤ i + 5 * j → i ≤ 320 → nc ≤ 100 + 17 * i → ns ≤ 2000 + 205 * i → SS h n → fA M_W_law E (lZ E) n h nc ns 18 (lL i) [] := by
  intro j
  induction j with
  | zero => intro i nc ns n h h1 h2; omega
  | succ j ih =>
    intro i nc ns n h h1 h2 h3 h4 S
    refine a_il3 fW_law_18 ?_
    refine a_al0 fW_law_19 ?_
    refine a_slen fW_law_20 ?_
    refine a_ic fW_law_21 ?_
    refine a_isub fW_law_22 ?_
    refine a_ic_gt fW_law_23 (fun c => ?_) (fun c => ?_)
    · refine a_ic fW_law_1165 ?_
      exact lw_fin fW_law_1166
    · have hi : i + 5 ≤ E.2.2.2.2.1 := lw_lt h2 hL c
      have B : bk E i nc ns := by
        intro k g nc2 ns2 S2 b1 b2
        refine a_iinc (L2 := lL (i + 5)) fW_law_1159 rfl (show nI i + Int32.ofInt 5 = nI (i + 5) from by rw [show Int32.ofInt 5 = nI 5 from by decide]; exact nI_add i 5) (by decide) rfl (fun i x hi hx => by obtain rfl : i = 2 := (by omega); cases hx; rfl) ?_
        refine a_goto fW_law_1162 ?_
        exact ih (i + 5) nc2 ns2 k g (by omega) (by omega) (by omega) (by omega) S2
      refine a_al0 fW_law_26 ?_
      refine a_il3 fW_law_27 ?_
      refine a_sld fW_law_28 (vp_in_nI (by omega) (by omega)) ?_
      refine a_ic fW_law_29 ?_
      refine a_iand fW_law_31 ?_
      have q1 : nc ≤ 500000 := by omega
      have q2 : ns ≤ 7000000 := by omega
      generalize E.2.2.2.2.2 _ &&& 63 = x
      by_cases o : x.toInt < 0 ∨ 36 < x.toInt
      · exact a_tsO fW_law_32 o (by decide) (B _ _ _ _ S (by omega) (by omega))
      · obtain ⟨m, hm, rfl⟩ : ∃ m, m < 37 ∧ x = nI m := vp_in_of (vp_in_iff.mpr (by omega)) (by decide)
        obtain rfl | rfl | rfl | rfl | rfl | rfl | rfl | rfl | rfl | rfl | rfl | rfl | rfl | rfl | rfl | rfl | rfl | rfl | rfl | rfl | rfl | rfl | rfl | rfl | rfl | rfl | rfl | rfl | rfl | rfl | rfl | rfl | rfl | rfl | rfl | rfl | rfl : m = 0 ∨ m = 1 ∨ m = 2 ∨ m = 3 ∨ m = 4 ∨ m = 5 ∨ m = 6 ∨ m = 7 ∨ m = 8 ∨ m = 9 ∨ m = 10 ∨ m = 11 ∨ m = 12 ∨ m = 13 ∨ m = 14 ∨ m = 15 ∨ m = 16 ∨ m = 17 ∨ m = 18 ∨ m = 19 ∨ m = 20 ∨ m = 21 ∨ m = 22 ∨ m = 23 ∨ m = 24 ∨ m = 25 ∨ m = 26 ∨ m = 27 ∨ m = 28 ∨ m = 29 ∨ m = 30 ∨ m = 31 ∨ m = 32 ∨ m = 33 ∨ m = 34 ∨ m = 35 ∨ m = 36 := by omega
        · exact a_tsI fW_law_32 (by decide) (by decide) (show _ = some (164 : Int) from rfl) (by decide) (t_house S hi hL B)
        · exact a_tsI fW_law_32 (by decide) (by decide) (show _ = some (177 : Int) from rfl) (by decide) (t_figure S hi hL B)
        · exact a_tsI fW_law_32 (by decide) (by decide) (show _ = some (220 : Int) from rfl) (by decide) (t_bill S hi hL B)
        · exact a_tsI fW_law_32 (by decide) (by decide) (show _ = some (253 : Int) from rfl) (by decide) (t_type S hi hL B)
        · exact a_tsI fW_law_32 (by decide) (by decide) (show _ = some (276 : Int) from rfl) (by decide) (t_clear S hi hL B)
        · exact a_tsI fW_law_32 (by decide) (by decide) (show _ = some (289 : Int) from rfl) (by decide) (t_read S hi hL B)
        · exact a_tsI fW_law_32 (by decide) (by decide) (show _ = some (302 : Int) from rfl) (by decide) (t_write S hi hL B)
        · exact a_tsI fW_law_32 (by decide) (by decide) (show _ = some (335 : Int) from rfl) (by decide) (t_pay S hi hL B)
        · exact a_tsI fW_law_32 (by decide) (by decide) (show _ = some (358 : Int) from rfl) (by decide) (t_night S hi hL B)
        · exact a_tsI fW_law_32 (by decide) (by decide) (show _ = some (381 : Int) from rfl) (by decide) (t_undo S hi hL B)
        · exact a_tsI fW_law_32 (by decide) (by decide) (show _ = some (394 : Int) from rfl) (by decide) (t_of S hi hL B)
        · exact a_tsI fW_law_32 (by decide) (by decide) (show _ = some (427 : Int) from rfl) (by decide) (t_about S hi hL B)
        · exact a_tsI fW_law_32 (by decide) (by decide) (show _ = some (460 : Int) from rfl) (by decide) (t_wears S hi hL B)
        · exact a_tsI fW_law_32 (by decide) (by decide) (show _ = some (493 : Int) from rfl) (by decide) (t_cost S hi hL B)
        · exact a_tsI fW_law_32 (by decide) (by decide) (show _ = some (526 : Int) from rfl) (by decide) (t_can S hi hL B)
        · exact a_tsI fW_law_32 (by decide) (by decide) (show _ = some (559 : Int) from rfl) (by decide) (t_best S hi hL B)
        · exact a_tsI fW_law_32 (by decide) (by decide) (show _ = some (582 : Int) from rfl) (by decide) (t_first S hi hL B)
        · exact a_tsI fW_law_32 (by decide) (by decide) (show _ = some (595 : Int) from rfl) (by decide) (t_counts S hi hL B)
        · exact a_tsI fW_law_32 (by decide) (by decide) (show _ = some (608 : Int) from rfl) (by decide) (t_when S hi hL B)
        · exact a_tsI fW_law_32 (by decide) (by decide) (show _ = some (641 : Int) from rfl) (by decide) (t_most S hi hL B)
        · exact a_tsI fW_law_32 (by decide) (by decide) (show _ = some (664 : Int) from rfl) (by decide) (t_plan S hi hL B)
        · exact a_tsI fW_law_32 (by decide) (by decide) (show _ = some (687 : Int) from rfl) (by decide) (t_wanted S hi hL B)
        · exact a_tsI fW_law_32 (by decide) (by decide) (show _ = some (710 : Int) from rfl) (by decide) (t_trace S hi hL B)
        · exact a_tsI fW_law_32 (by decide) (by decide) (show _ = some (743 : Int) from rfl) (by decide) (t_which S hi hL B)
        · exact a_tsI fW_law_32 (by decide) (by decide) (show _ = some (766 : Int) from rfl) (by decide) (t_note S hi hL B)
        · exact a_tsI fW_law_32 (by decide) (by decide) (show _ = some (819 : Int) from rfl) (by decide) (t_forget S hi hL B)
        · exact a_tsI fW_law_32 (by decide) (by decide) (show _ = some (842 : Int) from rfl) (by decide) (t_is S hi hL B)
        · exact a_tsI fW_law_32 (by decide) (by decide) (show _ = some (865 : Int) from rfl) (by decide) (t_look S hi hL B)
        · exact a_tsI fW_law_32 (by decide) (by decide) (show _ = some (888 : Int) from rfl) (by decide) (t_two S hi hL B)
        · exact a_tsI fW_law_32 (by decide) (by decide) (show _ = some (921 : Int) from rfl) (by decide) (t_odds S hi hL B)
        · exact a_tsI fW_law_32 (by decide) (by decide) (show _ = some (964 : Int) from rfl) (by decide) (t_years S hi hL B)
        · exact a_tsI fW_law_32 (by decide) (by decide) (show _ = some (997 : Int) from rfl) (by decide) (t_part S hi hL q1 q2 B)
        · exact a_tsI fW_law_32 (by decide) (by decide) (show _ = some (1021 : Int) from rfl) (by decide) (t_image S hi hL q1 q2 B)
        · exact a_tsI fW_law_32 (by decide) (by decide) (show _ = some (1044 : Int) from rfl) (by decide) (t_from S hi hL B)
        · exact a_tsI fW_law_32 (by decide) (by decide) (show _ = some (1067 : Int) from rfl) (by decide) (t_status S hi hL B)
        · exact a_tsI fW_law_32 (by decide) (by decide) (show _ = some (1090 : Int) from rfl) (by decide) (t_count S hi hL B)
        · exact a_tsI fW_law_32 (by decide) (by decide) (show _ = some (1113 : Int) from rfl) (by decide) (t_digest S hi hL q1 q2 B)
theorem lw_run (hL : E.2.2.2.2.1 ≤ 320) : fA M_W_law E (lZ E) 0 (fun _ => dead) 0 0 0 [some (.ref 0), none, none, none] [] := by
  refine a_new fW_law_0 n_W_7 (by decide) (by decide) ?_
  refine a_dup fW_law_3 rfl ?_
  refine a_I0D fW_law_4 k_W_9 m_F_init ⟨by decide, by decide⟩ (cc := 51) (cs := 624) ⟨rfl, rfl⟩ (by decide) (by decide) (Nat.le_of_ble_eq_true rfl) (x_init up_s) (fun k1 h1 p1 => ?_)
  refine a_as1 fW_law_7 (by decide) rfl ?_
  obtain ⟨p0, X, pf⟩ := p1
  subst p0
  refine a_new fW_law_8 n_W_10 (by decide) (by decide) ?_
  refine a_dup fW_law_11 rfl ?_
  refine a_I0D fW_law_12 k_W_12 m_M_init ⟨by decide, by decide⟩ (cc := 8) (cs := 925) ⟨rfl, rfl⟩ (by decide) (by decide) (Nat.le_of_ble_eq_true rfl) (m_init up_s) (fun k2 h2 p2 => ?_)
  refine a_as2 fW_law_15 (by decide) rfl ?_
  refine a_ic fW_law_16 ?_
  refine a_is3 fW_law_17 (by decide) rfl ?_
  obtain ⟨p0, Y, pf2⟩ := p2
  subst p0
  refine lw_loop hL 65 0 _ _ _ _ (by omega) (by omega) (by decide) (by decide) ⟨N0, _, _, _, _, _, _, _, _, (X.ofm (fun a ha => up_n (by omega) rfl)).ofm pf2, Y, okN_N0, (fun i R e => by cases e), Nat.zero_le _, fun i hi => absurd hi (Nat.not_lt_zero i)⟩
end LW
