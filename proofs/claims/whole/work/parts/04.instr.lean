/-! instructions, a row each -/
def fD (y : mI) (pc : Nat) (i : Instr) (n pc2 : Nat) : Prop := decode y.2.1 pc = .ok (i, n) ∧ pc + n = pc2
def fB (y : mI) (pc : Nat) (i : Instr) (off : Int) (pc2 tgt : Nat) : Prop := decode y.2.1 pc = .ok (i, 3) ∧ pc + 3 = pc2 ∧ (pc : Int) + off = (tgt : Int)
def fIL (y : mI) (pc k pc2 : Nat) : Prop := (∃ j : Fin 4, decode y.2.1 pc = .ok (.iload_n j, 1) ∧ (j : Nat) = k ∧ pc + 1 = pc2) ∨ (decode y.2.1 pc = .ok (.iload k, 2) ∧ pc + 2 = pc2)
def fIS (y : mI) (pc k pc2 : Nat) : Prop := (∃ j : Fin 4, decode y.2.1 pc = .ok (.istore_n j, 1) ∧ (j : Nat) = k ∧ pc + 1 = pc2) ∨ (decode y.2.1 pc = .ok (.istore k, 2) ∧ pc + 2 = pc2)
def fAL (y : mI) (pc k pc2 : Nat) : Prop := (∃ j : Fin 4, decode y.2.1 pc = .ok (.aload_n j, 1) ∧ (j : Nat) = k ∧ pc + 1 = pc2) ∨ (decode y.2.1 pc = .ok (.aload k, 2) ∧ pc + 2 = pc2)
def fAS (y : mI) (pc k pc2 : Nat) : Prop := (∃ j : Fin 4, decode y.2.1 pc = .ok (.astore_n j, 1) ∧ (j : Nat) = k ∧ pc + 1 = pc2) ∨ (decode y.2.1 pc = .ok (.astore k, 2) ∧ pc + 2 = pc2)
def fLL (y : mI) (pc k pc2 : Nat) : Prop := (∃ j : Fin 4, decode y.2.1 pc = .ok (.lload_n j, 1) ∧ (j : Nat) = k ∧ pc + 1 = pc2) ∨ (decode y.2.1 pc = .ok (.lload k, 2) ∧ pc + 2 = pc2)
def fLS (y : mI) (pc k pc2 : Nat) : Prop := (∃ j : Fin 4, decode y.2.1 pc = .ok (.lstore_n j, 1) ∧ (j : Nat) = k ∧ pc + 1 = pc2) ∨ (decode y.2.1 pc = .ok (.lstore k, 2) ∧ pc + 2 = pc2)
def fIC (y : mI) (pc : Nat) (v : Int32) (pc2 : Nat) : Prop := (∃ n : Int, decode y.2.1 pc = .ok (.iconst n, 1) ∧ Int32.ofInt n = v ∧ pc + 1 = pc2) ∨ (∃ n : Int, decode y.2.1 pc = .ok (.bipush n, 2) ∧ (Int8.ofInt n).toInt32 = v ∧ pc + 2 = pc2) ∨ (∃ n : Int, decode y.2.1 pc = .ok (.sipush n, 3) ∧ (Int16.ofInt n).toInt32 = v ∧ pc + 3 = pc2) ∨ (∃ i : Nat, decode y.2.1 pc = .ok (.ldc i, 2) ∧ Cond.constant y.1.cls i v ∈ gw ∧ pc + 2 = pc2) ∨ (∃ i : Nat, decode y.2.1 pc = .ok (.ldc_w i, 3) ∧ Cond.constant y.1.cls i v ∈ gw ∧ pc + 3 = pc2)
def fLC (y : mI) (pc : Nat) (v : Int64) (pc2 : Nat) : Prop := (∃ n : Fin 2, decode y.2.1 pc = .ok (.lconst n, 1) ∧ Int64.ofNat (n : Nat) = v ∧ pc + 1 = pc2) ∨ (∃ i : Nat, decode y.2.1 pc = .ok (.ldc2_w i, 3) ∧ Cond.constantLong y.1.cls i v ∈ gw ∧ pc + 3 = pc2)
section IN
variable {y : mI} {E : eT} {Z : zT} {k : Nat} {h : hT} {nc ns pc pc2 tgt : Nat} {L L2 : lT} {st : List Value}
theorem fF.w {p : Program} {s : State} {m : MethodId} {args : Array Value} {meth : Method} {c : Code} (F : fF y E p s m args meth c) {w : Cond} (hw : w ∈ gw) : w.before args s = true := F.2.2.2.2.2.1 w hw
theorem a_ic {v : Int32} (hd : fIC y pc v pc2) (kk : fA y E Z k h nc ns pc2 L (.int v :: st)) : fA y E Z k h nc ns pc L st := by
  intro p l e s m args below meth c H locs ls F R hS hl h1 h2
  have kk := kk p l e s m args below meth c H locs ls F R hS hl h1 h2
  rcases hd with ⟨n, d, e1, rfl⟩ | ⟨n, d, e1, rfl⟩ | ⟨n, d, e1, rfl⟩ | ⟨i, d, e1, rfl⟩ | ⟨i, d, e1, rfl⟩
  · exact lv_iconst F.1 F.2.1 d e1 kk
  · exact lv_bipush F.1 F.2.1 d e1 kk
  · exact lv_sipush F.1 F.2.1 d e1 kk
  · exact lv_ldc F.1 F.2.1 F.2.2.2.2.1 (F.w e1) d kk
  · exact lv_ldcw F.1 F.2.1 F.2.2.2.2.1 (F.w e1) d kk
theorem a_lc {v : Int64} (hd : fLC y pc v pc2) (kk : fA y E Z k h nc ns pc2 L (.long v :: st)) : fA y E Z k h nc ns pc L st := by
  intro p l e s m args below meth c H locs ls F R hS hl h1 h2
  have kk := kk p l e s m args below meth c H locs ls F R hS hl h1 h2
  rcases hd with ⟨n, d, e1, rfl⟩ | ⟨i, d, e1, rfl⟩
  · exact lv_lconst F.1 F.2.1 d e1 kk
  · exact lv_ldc2 F.1 F.2.1 F.2.2.2.2.1 (F.w e1) d kk
theorem a_il {j : Nat} {v : Int32} (hd : fIL y pc j pc2) (hj : L[j]? = some (some (.int v))) (kk : fA y E Z k h nc ns pc2 L (.int v :: st)) : fA y E Z k h nc ns pc L st := by
  intro p l e s m args below meth c H locs ls F R hS hl h1 h2
  have kk := kk p l e s m args below meth c H locs ls F R hS hl h1 h2
  have hv := e_lv_at hl hj
  rcases hd with ⟨n, d, e1, rfl⟩ | ⟨d, rfl⟩
  · exact lv_iload_n F.1 F.2.1 d e1 hv kk
  · exact lv_iload F.1 F.2.1 d hv kk
theorem a_ll {j : Nat} {v : Int64} (hd : fLL y pc j pc2) (hj : L[j]? = some (some (.long v))) (kk : fA y E Z k h nc ns pc2 L (.long v :: st)) : fA y E Z k h nc ns pc L st := by
  intro p l e s m args below meth c H locs ls F R hS hl h1 h2
  have kk := kk p l e s m args below meth c H locs ls F R hS hl h1 h2
  have hv := e_lv_at hl hj
  rcases hd with ⟨n, d, e1, rfl⟩ | ⟨d, rfl⟩
  · exact lv_lload_n F.1 F.2.1 d e1 hv kk
  · exact lv_lload F.1 F.2.1 d hv kk
theorem a_al {j : Nat} {v : Nat} (hd : fAL y pc j pc2) (hj : L[j]? = some (some (.ref v))) (kk : fA y E Z k h nc ns pc2 L (.ref v :: st)) : fA y E Z k h nc ns pc L st := by
  intro p l e s m args below meth c H locs ls F R hS hl h1 h2
  have kk := kk p l e s m args below meth c H locs ls F R hS hl h1 h2
  have hv := e_lv_at hl hj
  rcases hd with ⟨n, d, e1, rfl⟩ | ⟨d, rfl⟩
  · exact lv_aload_n F.1 F.2.1 d e1 hv kk
  · exact lv_aload F.1 F.2.1 d hv kk
theorem a_nl {j : Nat} (hd : fAL y pc j pc2) (hj : L[j]? = some (some .null)) (kk : fA y E Z k h nc ns pc2 L (.null :: st)) : fA y E Z k h nc ns pc L st := by
  intro p l e s m args below meth c H locs ls F R hS hl h1 h2
  have kk := kk p l e s m args below meth c H locs ls F R hS hl h1 h2
  have hv := e_lv_at hl hj
  rcases hd with ⟨n, d, e1, rfl⟩ | ⟨d, rfl⟩
  · exact lv_aload_nN F.1 F.2.1 d e1 hv kk
  · exact lv_aloadN F.1 F.2.1 d hv kk
theorem a_is {j : Nat} {v : Int32} (hd : fIS y pc j pc2) (hj : j < y.2.2.1) (hL : L2 = L.set j (some (.int v))) (hc : ∀ i x, i + 1 = j → L[i]? = some x → c1 x = true) (kk : fA y E Z k h nc ns pc2 L2 st) : fA y E Z k h nc ns pc L (.int v :: st) := by
  intro p l e s m args below meth c H locs ls F R hS hl h1 h2
  have kk := fun ls hl => kk p l e s m args below meth c H locs ls F R hS hl h1 h2
  rcases hd with ⟨n, d, e1, rfl⟩ | ⟨d, rfl⟩
  · exact lv_istore_n F.1 F.2.1 d e1 hl hj rfl (fun ls hl => kk ls (e_lv_put (v := .int v) hl hL hc))
  · exact lv_istore F.1 F.2.1 d hl hj rfl (fun ls hl => kk ls (e_lv_put (v := .int v) hl hL hc))
theorem a_as {j : Nat} {v : Nat} (hd : fAS y pc j pc2) (hj : j < y.2.2.1) (hL : L2 = L.set j (some (.ref v))) (hc : ∀ i x, i + 1 = j → L[i]? = some x → c1 x = true) (kk : fA y E Z k h nc ns pc2 L2 st) : fA y E Z k h nc ns pc L (.ref v :: st) := by
  intro p l e s m args below meth c H locs ls F R hS hl h1 h2
  have kk := fun ls hl => kk p l e s m args below meth c H locs ls F R hS hl h1 h2
  rcases hd with ⟨n, d, e1, rfl⟩ | ⟨d, rfl⟩
  · exact lv_astore_n F.1 F.2.1 d e1 hl hj rfl (fun ls hl => kk ls (e_lv_put (v := .ref v) hl hL hc))
  · exact lv_astore F.1 F.2.1 d hl hj rfl (fun ls hl => kk ls (e_lv_put (v := .ref v) hl hL hc))
theorem a_ns {j : Nat} (hd : fAS y pc j pc2) (hj : j < y.2.2.1) (hL : L2 = L.set j (some .null)) (hc : ∀ i x, i + 1 = j → L[i]? = some x → c1 x = true) (kk : fA y E Z k h nc ns pc2 L2 st) : fA y E Z k h nc ns pc L (.null :: st) := by
  intro p l e s m args below meth c H locs ls F R hS hl h1 h2
  have kk := fun ls hl => kk p l e s m args below meth c H locs ls F R hS hl h1 h2
  rcases hd with ⟨n, d, e1, rfl⟩ | ⟨d, rfl⟩
  · exact lv_astore_nN F.1 F.2.1 d e1 hl hj rfl (fun ls hl => kk ls (e_lv_put (v := .null) hl hL hc))
  · exact lv_astoreN F.1 F.2.1 d hl hj rfl (fun ls hl => kk ls (e_lv_put (v := .null) hl hL hc))
theorem a_ls {j : Nat} {v : Int64} (hd : fLS y pc j pc2) (hj : j + 1 < y.2.2.1) (hL : L2 = (L.set j (some (.long v))).set (j + 1) none) (hc : ∀ i x, i + 1 = j → L[i]? = some x → c1 x = true) (kk : fA y E Z k h nc ns pc2 L2 st) : fA y E Z k h nc ns pc L (.long v :: st) := by
  intro p l e s m args below meth c H locs ls F R hS hl h1 h2
  have kk := fun ls hl => kk p l e s m args below meth c H locs ls F R hS hl h1 h2
  rcases hd with ⟨n, d, e1, rfl⟩ | ⟨d, rfl⟩
  · exact lv_lstore_n F.1 F.2.1 d e1 hl hj rfl (fun ls hl => kk ls (e_lv_put2 (v := .long v) hl hL hc))
  · exact lv_lstore F.1 F.2.1 d hl hj rfl (fun ls hl => kk ls (e_lv_put2 (v := .long v) hl hL hc))
theorem a_iinc {j : Nat} {n : Int} {x v : Int32} (hd : fD y pc (.iinc j n) 3 pc2) (hx : L[j]? = some (some (.int x))) (hv : x + Int32.ofInt n = v) (hj : j < y.2.2.1) (hL : L2 = L.set j (some (.int v))) (hc : ∀ i x, i + 1 = j → L[i]? = some x → c1 x = true) (kk : fA y E Z k h nc ns pc2 L2 st) : fA y E Z k h nc ns pc L st := by
  intro p l e s m args below meth c H locs ls F R hS hl h1 h2
  obtain ⟨d, rfl⟩ := hd
  have kk := fun ls hl => kk p l e s m args below meth c H locs ls F R hS hl h1 h2
  obtain ⟨i, hi⟩ := List.getElem?_of_mem (e_lv_mem.mpr ⟨j, .int x, hx, rfl⟩ : (0 + j, e_sh E (.int x)) ∈ e_lv E 0 L)
  rw [Nat.zero_add] at hi
  exact lv_iinc F.1 F.2.1 d hl hi hv hj rfl (fun ls hl => kk ls (e_lv_put (v := .int v) hl hL hc))
theorem a_iadd {x z : Int32} (hd : fD y pc .iadd 1 pc2) (kk : fA y E Z k h nc ns pc2 L (.int (x + z) :: st)) : fA y E Z k h nc ns pc L (.int z :: .int x :: st) := by
  intro p l e s m args below meth c H locs ls F R hS hl h1 h2
  obtain ⟨d, rfl⟩ := hd
  exact lv_iadd F.1 F.2.1 d (kk p l e s m args below meth c H locs ls F R hS hl h1 h2)
theorem a_isub {x z : Int32} (hd : fD y pc .isub 1 pc2) (kk : fA y E Z k h nc ns pc2 L (.int (x - z) :: st)) : fA y E Z k h nc ns pc L (.int z :: .int x :: st) := by
  intro p l e s m args below meth c H locs ls F R hS hl h1 h2
  obtain ⟨d, rfl⟩ := hd
  exact lv_isub F.1 F.2.1 d (kk p l e s m args below meth c H locs ls F R hS hl h1 h2)
theorem a_imul {x z : Int32} (hd : fD y pc .imul 1 pc2) (kk : fA y E Z k h nc ns pc2 L (.int (x * z) :: st)) : fA y E Z k h nc ns pc L (.int z :: .int x :: st) := by
  intro p l e s m args below meth c H locs ls F R hS hl h1 h2
  obtain ⟨d, rfl⟩ := hd
  exact lv_imul F.1 F.2.1 d (kk p l e s m args below meth c H locs ls F R hS hl h1 h2)
theorem a_iand {x z : Int32} (hd : fD y pc .iand 1 pc2) (kk : fA y E Z k h nc ns pc2 L (.int (x &&& z) :: st)) : fA y E Z k h nc ns pc L (.int z :: .int x :: st) := by
  intro p l e s m args below meth c H locs ls F R hS hl h1 h2
  obtain ⟨d, rfl⟩ := hd
  exact lv_iand F.1 F.2.1 d (kk p l e s m args below meth c H locs ls F R hS hl h1 h2)
theorem a_ior {x z : Int32} (hd : fD y pc .ior 1 pc2) (kk : fA y E Z k h nc ns pc2 L (.int (x ||| z) :: st)) : fA y E Z k h nc ns pc L (.int z :: .int x :: st) := by
  intro p l e s m args below meth c H locs ls F R hS hl h1 h2
  obtain ⟨d, rfl⟩ := hd
  exact lv_ior F.1 F.2.1 d (kk p l e s m args below meth c H locs ls F R hS hl h1 h2)
theorem a_ixor {x z : Int32} (hd : fD y pc .ixor 1 pc2) (kk : fA y E Z k h nc ns pc2 L (.int (x ^^^ z) :: st)) : fA y E Z k h nc ns pc L (.int z :: .int x :: st) := by
  intro p l e s m args below meth c H locs ls F R hS hl h1 h2
  obtain ⟨d, rfl⟩ := hd
  exact lv_ixor F.1 F.2.1 d (kk p l e s m args below meth c H locs ls F R hS hl h1 h2)
theorem a_ishl {x z : Int32} (hd : fD y pc .ishl 1 pc2) (kk : fA y E Z k h nc ns pc2 L (.int (x <<< (z &&& 31)) :: st)) : fA y E Z k h nc ns pc L (.int z :: .int x :: st) := by
  intro p l e s m args below meth c H locs ls F R hS hl h1 h2
  obtain ⟨d, rfl⟩ := hd
  exact lv_ishl F.1 F.2.1 d (kk p l e s m args below meth c H locs ls F R hS hl h1 h2)
theorem a_ishr {x z : Int32} (hd : fD y pc .ishr 1 pc2) (kk : fA y E Z k h nc ns pc2 L (.int (x >>> (z &&& 31)) :: st)) : fA y E Z k h nc ns pc L (.int z :: .int x :: st) := by
  intro p l e s m args below meth c H locs ls F R hS hl h1 h2
  obtain ⟨d, rfl⟩ := hd
  exact lv_ishr F.1 F.2.1 d (kk p l e s m args below meth c H locs ls F R hS hl h1 h2)
theorem a_idiv {x z : Int32} (hd : fD y pc .idiv 1 pc2) (hz : ¬ z = 0) (kk : fA y E Z k h nc ns pc2 L (.int (x / z) :: st)) : fA y E Z k h nc ns pc L (.int z :: .int x :: st) := by
  intro p l e s m args below meth c H locs ls F R hS hl h1 h2
  obtain ⟨d, rfl⟩ := hd
  exact lv_idiv F.1 F.2.1 d hz (kk p l e s m args below meth c H locs ls F R hS hl h1 h2)
theorem a_irem {x z : Int32} (hd : fD y pc .irem 1 pc2) (hz : ¬ z = 0) (kk : fA y E Z k h nc ns pc2 L (.int (x - x / z * z) :: st)) : fA y E Z k h nc ns pc L (.int z :: .int x :: st) := by
  intro p l e s m args below meth c H locs ls F R hS hl h1 h2
  obtain ⟨d, rfl⟩ := hd
  exact lv_irem F.1 F.2.1 d hz (kk p l e s m args below meth c H locs ls F R hS hl h1 h2)
theorem a_ladd {x z : Int64} (hd : fD y pc .ladd 1 pc2) (kk : fA y E Z k h nc ns pc2 L (.long (x + z) :: st)) : fA y E Z k h nc ns pc L (.long z :: .long x :: st) := by
  intro p l e s m args below meth c H locs ls F R hS hl h1 h2
  obtain ⟨d, rfl⟩ := hd
  exact lv_ladd F.1 F.2.1 d (kk p l e s m args below meth c H locs ls F R hS hl h1 h2)
theorem a_lsub {x z : Int64} (hd : fD y pc .lsub 1 pc2) (kk : fA y E Z k h nc ns pc2 L (.long (x - z) :: st)) : fA y E Z k h nc ns pc L (.long z :: .long x :: st) := by
  intro p l e s m args below meth c H locs ls F R hS hl h1 h2
  obtain ⟨d, rfl⟩ := hd
  exact lv_lsub F.1 F.2.1 d (kk p l e s m args below meth c H locs ls F R hS hl h1 h2)
theorem a_lmul {x z : Int64} (hd : fD y pc .lmul 1 pc2) (kk : fA y E Z k h nc ns pc2 L (.long (x * z) :: st)) : fA y E Z k h nc ns pc L (.long z :: .long x :: st) := by
  intro p l e s m args below meth c H locs ls F R hS hl h1 h2
  obtain ⟨d, rfl⟩ := hd
  exact lv_lmul F.1 F.2.1 d (kk p l e s m args below meth c H locs ls F R hS hl h1 h2)
theorem a_ldiv {x z : Int64} (hd : fD y pc .ldiv 1 pc2) (hz : ¬ z = 0) (kk : fA y E Z k h nc ns pc2 L (.long (x / z) :: st)) : fA y E Z k h nc ns pc L (.long z :: .long x :: st) := by
  intro p l e s m args below meth c H locs ls F R hS hl h1 h2
  obtain ⟨d, rfl⟩ := hd
  exact lv_ldiv F.1 F.2.1 d hz (kk p l e s m args below meth c H locs ls F R hS hl h1 h2)
theorem a_lrem {x z : Int64} (hd : fD y pc .lrem 1 pc2) (hz : ¬ z = 0) (kk : fA y E Z k h nc ns pc2 L (.long (x - x / z * z) :: st)) : fA y E Z k h nc ns pc L (.long z :: .long x :: st) := by
  intro p l e s m args below meth c H locs ls F R hS hl h1 h2
  obtain ⟨d, rfl⟩ := hd
  exact lv_lrem F.1 F.2.1 d hz (kk p l e s m args below meth c H locs ls F R hS hl h1 h2)
theorem a_i2l {x : Int32} (hd : fD y pc .i2l 1 pc2) (kk : fA y E Z k h nc ns pc2 L (.long x.toInt64 :: st)) : fA y E Z k h nc ns pc L (.int x :: st) := by
  intro p l e s m args below meth c H locs ls F R hS hl h1 h2
  obtain ⟨d, rfl⟩ := hd
  exact lv_i2l F.1 F.2.1 d rfl (kk p l e s m args below meth c H locs ls F R hS hl h1 h2)
theorem a_l2i {x : Int64} (hd : fD y pc .l2i 1 pc2) (kk : fA y E Z k h nc ns pc2 L (.int x.toInt32 :: st)) : fA y E Z k h nc ns pc L (.long x :: st) := by
  intro p l e s m args below meth c H locs ls F R hS hl h1 h2
  obtain ⟨d, rfl⟩ := hd
  exact lv_l2i F.1 F.2.1 d rfl (kk p l e s m args below meth c H locs ls F R hS hl h1 h2)
theorem a_lcmp {x z : Int64} (hd : fD y pc .lcmp 1 pc2) (kk : fA y E Z k h nc ns pc2 L (.int (lg_cmp x z) :: st)) : fA y E Z k h nc ns pc L (.long z :: .long x :: st) := by
  intro p l e s m args below meth c H locs ls F R hS hl h1 h2
  obtain ⟨d, rfl⟩ := hd
  exact W.lcmp F.1 F.2.1 d (kk p l e s m args below meth c H locs ls F R hS hl h1 h2)
theorem a_dup {v : Value} (hd : fD y pc .dup 1 pc2) (hv : v.category = 1) (kk : fA y E Z k h nc ns pc2 L (v :: v :: st)) : fA y E Z k h nc ns pc L (v :: st) := by
  intro p l e s m args below meth c H locs ls F R hS hl h1 h2
  obtain ⟨d, rfl⟩ := hd
  exact lv_dup F.1 F.2.1 d (by rw [e_sh_cat]; exact hv) (kk p l e s m args below meth c H locs ls F R hS hl h1 h2)
theorem a_pop {v : Value} (hd : fD y pc .pop 1 pc2) (hv : v.category = 1) (kk : fA y E Z k h nc ns pc2 L st) : fA y E Z k h nc ns pc L (v :: st) := by
  intro p l e s m args below meth c H locs ls F R hS hl h1 h2
  obtain ⟨d, rfl⟩ := hd
  exact lv_pop F.1 F.2.1 d (by rw [e_sh_cat]; exact hv) (kk p l e s m args below meth c H locs ls F R hS hl h1 h2)
theorem a_dup2 {v w : Value} (hd : fD y pc .dup2 1 pc2) (hv : v.category = 1) (hw : w.category = 1) (kk : fA y E Z k h nc ns pc2 L (v :: w :: v :: w :: st)) : fA y E Z k h nc ns pc L (v :: w :: st) := by
  intro p l e s m args below meth c H locs ls F R hS hl h1 h2
  obtain ⟨d, rfl⟩ := hd
  exact lv_dup2_11 F.1 F.2.1 d (by rw [e_sh_cat]; exact hv) (by rw [e_sh_cat]; exact hw) (kk p l e s m args below meth c H locs ls F R hS hl h1 h2)
theorem a_if_eq {x : Int32} {off : Int} (hd : fB y pc (.ifCond .eq off) off pc2 tgt) (kt : x = 0 → fA y E Z k h nc ns tgt L st) (kf : ¬ x = 0 → fA y E Z k h nc ns pc2 L st) : fA y E Z k h nc ns pc L (.int x :: st) := by
  intro p l e s m args below meth c H locs ls F R hS hl h1 h2
  obtain ⟨d, rfl, d2⟩ := hd
  exact lv_if_eq F.1 F.2.1 d d2 (fun q => kt q p l e s m args below meth c H locs ls F R hS hl h1 h2) (fun q => kf q p l e s m args below meth c H locs ls F R hS hl h1 h2)
theorem a_if_ne {x : Int32} {off : Int} (hd : fB y pc (.ifCond .ne off) off pc2 tgt) (kt : ¬ x = 0 → fA y E Z k h nc ns tgt L st) (kf : x = 0 → fA y E Z k h nc ns pc2 L st) : fA y E Z k h nc ns pc L (.int x :: st) := by
  intro p l e s m args below meth c H locs ls F R hS hl h1 h2
  obtain ⟨d, rfl, d2⟩ := hd
  exact lv_if_ne F.1 F.2.1 d d2 (fun q => kt q p l e s m args below meth c H locs ls F R hS hl h1 h2) (fun q => kf q p l e s m args below meth c H locs ls F R hS hl h1 h2)
theorem a_if_lt {x : Int32} {off : Int} (hd : fB y pc (.ifCond .lt off) off pc2 tgt) (kt : x < 0 → fA y E Z k h nc ns tgt L st) (kf : ¬ x < 0 → fA y E Z k h nc ns pc2 L st) : fA y E Z k h nc ns pc L (.int x :: st) := by
  intro p l e s m args below meth c H locs ls F R hS hl h1 h2
  obtain ⟨d, rfl, d2⟩ := hd
  exact lv_if_lt F.1 F.2.1 d d2 (fun q => kt q p l e s m args below meth c H locs ls F R hS hl h1 h2) (fun q => kf q p l e s m args below meth c H locs ls F R hS hl h1 h2)
theorem a_if_ge {x : Int32} {off : Int} (hd : fB y pc (.ifCond .ge off) off pc2 tgt) (kt : 0 ≤ x → fA y E Z k h nc ns tgt L st) (kf : ¬ 0 ≤ x → fA y E Z k h nc ns pc2 L st) : fA y E Z k h nc ns pc L (.int x :: st) := by
  intro p l e s m args below meth c H locs ls F R hS hl h1 h2
  obtain ⟨d, rfl, d2⟩ := hd
  exact lv_if_ge F.1 F.2.1 d d2 (fun q => kt q p l e s m args below meth c H locs ls F R hS hl h1 h2) (fun q => kf q p l e s m args below meth c H locs ls F R hS hl h1 h2)
theorem a_if_gt {x : Int32} {off : Int} (hd : fB y pc (.ifCond .gt off) off pc2 tgt) (kt : 0 < x → fA y E Z k h nc ns tgt L st) (kf : ¬ 0 < x → fA y E Z k h nc ns pc2 L st) : fA y E Z k h nc ns pc L (.int x :: st) := by
  intro p l e s m args below meth c H locs ls F R hS hl h1 h2
  obtain ⟨d, rfl, d2⟩ := hd
  exact lv_if_gt F.1 F.2.1 d d2 (fun q => kt q p l e s m args below meth c H locs ls F R hS hl h1 h2) (fun q => kf q p l e s m args below meth c H locs ls F R hS hl h1 h2)
theorem a_if_le {x : Int32} {off : Int} (hd : fB y pc (.ifCond .le off) off pc2 tgt) (kt : x ≤ 0 → fA y E Z k h nc ns tgt L st) (kf : ¬ x ≤ 0 → fA y E Z k h nc ns pc2 L st) : fA y E Z k h nc ns pc L (.int x :: st) := by
  intro p l e s m args below meth c H locs ls F R hS hl h1 h2
  obtain ⟨d, rfl, d2⟩ := hd
  exact lv_if_le F.1 F.2.1 d d2 (fun q => kt q p l e s m args below meth c H locs ls F R hS hl h1 h2) (fun q => kf q p l e s m args below meth c H locs ls F R hS hl h1 h2)
theorem a_ic_eq {x z : Int32} {off : Int} (hd : fB y pc (.if_icmp .eq off) off pc2 tgt) (kt : x = z → fA y E Z k h nc ns tgt L st) (kf : ¬ x = z → fA y E Z k h nc ns pc2 L st) : fA y E Z k h nc ns pc L (.int z :: .int x :: st) := by
  intro p l e s m args below meth c H locs ls F R hS hl h1 h2
  obtain ⟨d, rfl, d2⟩ := hd
  exact lv_icmp_eq F.1 F.2.1 d d2 (fun q => kt q p l e s m args below meth c H locs ls F R hS hl h1 h2) (fun q => kf q p l e s m args below meth c H locs ls F R hS hl h1 h2)
theorem a_ic_ne {x z : Int32} {off : Int} (hd : fB y pc (.if_icmp .ne off) off pc2 tgt) (kt : ¬ x = z → fA y E Z k h nc ns tgt L st) (kf : x = z → fA y E Z k h nc ns pc2 L st) : fA y E Z k h nc ns pc L (.int z :: .int x :: st) := by
  intro p l e s m args below meth c H locs ls F R hS hl h1 h2
  obtain ⟨d, rfl, d2⟩ := hd
  exact lv_icmp_ne F.1 F.2.1 d d2 (fun q => kt q p l e s m args below meth c H locs ls F R hS hl h1 h2) (fun q => kf q p l e s m args below meth c H locs ls F R hS hl h1 h2)
theorem a_ic_lt {x z : Int32} {off : Int} (hd : fB y pc (.if_icmp .lt off) off pc2 tgt) (kt : x < z → fA y E Z k h nc ns tgt L st) (kf : ¬ x < z → fA y E Z k h nc ns pc2 L st) : fA y E Z k h nc ns pc L (.int z :: .int x :: st) := by
  intro p l e s m args below meth c H locs ls F R hS hl h1 h2
  obtain ⟨d, rfl, d2⟩ := hd
  exact lv_icmp_lt F.1 F.2.1 d d2 (fun q => kt q p l e s m args below meth c H locs ls F R hS hl h1 h2) (fun q => kf q p l e s m args below meth c H locs ls F R hS hl h1 h2)
theorem a_ic_ge {x z : Int32} {off : Int} (hd : fB y pc (.if_icmp .ge off) off pc2 tgt) (kt : z ≤ x → fA y E Z k h nc ns tgt L st) (kf : ¬ z ≤ x → fA y E Z k h nc ns pc2 L st) : fA y E Z k h nc ns pc L (.int z :: .int x :: st) := by
  intro p l e s m args below meth c H locs ls F R hS hl h1 h2
  obtain ⟨d, rfl, d2⟩ := hd
  exact lv_icmp_ge F.1 F.2.1 d d2 (fun q => kt q p l e s m args below meth c H locs ls F R hS hl h1 h2) (fun q => kf q p l e s m args below meth c H locs ls F R hS hl h1 h2)
theorem a_ic_gt {x z : Int32} {off : Int} (hd : fB y pc (.if_icmp .gt off) off pc2 tgt) (kt : z < x → fA y E Z k h nc ns tgt L st) (kf : ¬ z < x → fA y E Z k h nc ns pc2 L st) : fA y E Z k h nc ns pc L (.int z :: .int x :: st) := by
  intro p l e s m args below meth c H locs ls F R hS hl h1 h2
  obtain ⟨d, rfl, d2⟩ := hd
  exact lv_icmp_gt F.1 F.2.1 d d2 (fun q => kt q p l e s m args below meth c H locs ls F R hS hl h1 h2) (fun q => kf q p l e s m args below meth c H locs ls F R hS hl h1 h2)
theorem a_ic_le {x z : Int32} {off : Int} (hd : fB y pc (.if_icmp .le off) off pc2 tgt) (kt : x ≤ z → fA y E Z k h nc ns tgt L st) (kf : ¬ x ≤ z → fA y E Z k h nc ns pc2 L st) : fA y E Z k h nc ns pc L (.int z :: .int x :: st) := by
  intro p l e s m args below meth c H locs ls F R hS hl h1 h2
  obtain ⟨d, rfl, d2⟩ := hd
  exact lv_icmp_le F.1 F.2.1 d d2 (fun q => kt q p l e s m args below meth c H locs ls F R hS hl h1 h2) (fun q => kf q p l e s m args below meth c H locs ls F R hS hl h1 h2)
theorem a_goto {off : Int} (hd : fB y pc (.goto off) off pc2 tgt) (kk : fA y E Z k h nc ns tgt L st) : fA y E Z k h nc ns pc L st := by
  intro p l e s m args below meth c H locs ls F R hS hl h1 h2
  obtain ⟨d, rfl, d2⟩ := hd
  exact lv_goto F.1 F.2.1 d d2 (kk p l e s m args below meth c H locs ls F R hS hl h1 h2)
theorem a_nnR {off : Int} {v : Nat} (hd : fB y pc (.ifnonnull off) off pc2 tgt) (kk : fA y E Z k h nc ns tgt L st) : fA y E Z k h nc ns pc L (.ref v :: st) := by
  intro p l e s m args below meth c H locs ls F R hS hl h1 h2
  obtain ⟨d, rfl, d2⟩ := hd
  exact lv_ifnonnull F.1 F.2.1 d d2 (kk p l e s m args below meth c H locs ls F R hS hl h1 h2)
theorem a_nnN {off : Int} (hd : fB y pc (.ifnonnull off) off pc2 tgt) (kk : fA y E Z k h nc ns pc2 L st) : fA y E Z k h nc ns pc L (.null :: st) := by
  intro p l e s m args below meth c H locs ls F R hS hl h1 h2
  obtain ⟨d, rfl, d2⟩ := hd
  exact lv_ifnonnullN F.1 F.2.1 d (kk p l e s m args below meth c H locs ls F R hS hl h1 h2)
theorem a_tsO {x : Int32} {df lo hi : Int} {offs : Array Int} {n : Nat} (hd : fD y pc (.tableswitch df lo hi offs) n pc2) (hx : x.toInt < lo ∨ hi < x.toInt) (ht : (pc : Int) + df = (tgt : Int)) (kk : fA y E Z k h nc ns tgt L st) : fA y E Z k h nc ns pc L (.int x :: st) := by
  intro p l e s m args below meth c H locs ls F R hS hl h1 h2
  obtain ⟨d, rfl⟩ := hd
  exact lv_tableOut F.1 F.2.1 d hx ht (kk p l e s m args below meth c H locs ls F R hS hl h1 h2)
theorem a_tsI {x : Int32} {df lo hi off : Int} {offs : Array Int} {n : Nat} (hd : fD y pc (.tableswitch df lo hi offs) n pc2) (hx : ¬ x.toInt < lo) (hy : ¬ hi < x.toInt) (ho : offs[(x.toInt - lo).toNat]? = some off) (ht : (pc : Int) + off = (tgt : Int)) (kk : fA y E Z k h nc ns tgt L st) : fA y E Z k h nc ns pc L (.int x :: st) := by
  intro p l e s m args below meth c H locs ls F R hS hl h1 h2
  obtain ⟨d, rfl⟩ := hd
  exact lv_tableIn F.1 F.2.1 d hx hy ho ht (kk p l e s m args below meth c H locs ls F R hS hl h1 h2)
theorem a_ls2 {x : Int32} {df off : Int} {ps : Array (Int × Int)} {n : Nat} (hd : fD y pc (.lookupswitch df ps) n pc2) (hp : (ps.toList.zip (ps.toList.drop 1)).all (fun (a, next) => a.1 < next.1) = true) (ho : Op.lookupswitch.offset ps.toList df x.toInt = off) (ht : (pc : Int) + off = (tgt : Int)) (kk : fA y E Z k h nc ns tgt L st) : fA y E Z k h nc ns pc L (.int x :: st) := by
  intro p l e s m args below meth c H locs ls F R hS hl h1 h2
  obtain ⟨d, rfl⟩ := hd
  exact lv_lookup F.1 F.2.1 d hp ho ht (kk p l e s m args below meth c H locs ls F R hS hl h1 h2)
end IN
