/-! MY OWN JUDGEMENT J over the kit's W: a frame over a world, its locals and its stack; the heap, the locations and the locals' array are hidden in it. -/
abbrev JG : Type := va_G × (Nat → ClassId)
abbrev JT (g : JG) : List (ClassId × FieldType) := [(g.2 0, .int), (g.2 1, .char), (g.2 2, .long), (g.2 3, .object "PebbleCourses$Mosaic")]
abbrev JX : Type := Program × Launch × Env × Room × State × MethodId × Array Value × List Frame × Method × Code × (State → Prop) × (Nat → Prop) × (Nat → Prop) × Nat
/-- from every heap that holds the world ws (and, since the start, nothing outside A has changed), every locals that hold lv: the frame at pc with the stack st comes to Q -/
def J (g : JG) (X : JX) (k n : Nat) (ws : va_W) (lv : List (Nat × Value)) (st : List Value) (pc : Nat) : Prop :=
  match X with
  | (p, l, e, R, s, m, args, below, meth, c, Q, A, D, nL) => ∀ (H : Heap) (locs : List Loc) (ls : Array Slot), va_P g.1 vwCl ws H → va_D D ws → va_S A s.heap H locs → lv_has ls nL lv → W p l e R s m args below meth c H locs k n Q (F0 m pc ls st)
/-- the frame's constant facts: the machine, the code, the words, the classes, the room -/
def JOk (g : JG) (X : JX) (cc : ByteArray) (nL : Nat) (own : String) (Ts : List Cond) (rm : Room) : Prop :=
  match X with
  | (p, l, _, R, s, m, args, _, _, c, _, _, _, nL0) => p.tables.exec = Jvm.exec ∧ c.code = cc ∧ c.maxLocals = nL0 ∧ s.vm.findClass own = some m.cls ∧ (∀ w ∈ Ts, w.before args s = true) ∧ va_K g.1 vwCl (JT g) s ∧ R = rm ∧ l.flags = flags0 ∧ nL0 = nL
/-- the frame may write its world, and what is made since the start -/
def JNew (X : JX) : Prop := match X with | (_, _, _, _, s, _, _, _, _, _, _, A, D, _) => D = A ∧ ∀ q : Nat, s.heap.size ≤ q → A q
/-- what a return owes: P of the answer and the world -/
def JRet (g : JG) (X : JX) (ret : Option FieldType) (k n : Nat) (P : Option Value → va_W → Prop) : Prop :=
  match X with
  | (p, l, e, R, s, m, args, below, meth, c, Q, A, D, _) => meth.sig.returnType = ret ∧ meth.locks = false ∧ ∃ (Qc : Array Value → State → Outcome → State → Prop) (free : Addr → Prop), (∀ (H : Heap) (locs : List Loc) (f : JFrame), W p l e R s m args below meth c H locs k n (MQ below Qc args s k n free) f → W p l e R s m args below meth c H locs k n Q f) ∧ (∀ q, A q → free q) ∧
    ∀ (v : Option Value) (ws : va_W) (H : Heap) (locs : List Loc), P v ws → va_P g.1 vwCl ws H → va_D D ws → va_S A s.heap H locs → ∀ t : State, t.heap = H → s.WarmedH t.vm → Qc args s (.returned v) t
section JROWS
variable {g : JG} {X : JX} {cc : ByteArray} {nL : Nat} {own : String} {Ts : List Cond} {rm : Room} {k n pc pc' : Nat} {ws ws' : va_W} {lv lv' : List (Nat × Value)} {st st' : List Value}
theorem J_widen {k' n' : Nat} (h1 : k ≤ k') (h2 : n ≤ n') (kk : J g X k' n' ws lv st pc) : J g X k n ws lv st pc := by
  obtain ⟨p, l, e, R, s, m, args, below, meth, c, Q, A, D, nL0⟩ := X
  exact fun H locs ls hP hD hS hl => W.widen h1 h2 (kk H locs ls hP hD hS hl)
theorem J_sub (is : List Nat) (hs : lv_pick lv is = lv') (kk : J g X k n ws lv' st pc) : J g X k n ws lv st pc := by
  obtain ⟨p, l, e, R, s, m, args, below, meth, c, Q, A, D, nL0⟩ := X
  exact fun H locs ls hP hD hS hl => kk H locs ls hP hD hS (lv_sub hl is hs)
theorem J_ws (h : ws = ws') (kk : J g X k n ws' lv st pc) : J g X k n ws lv st pc := h ▸ kk
theorem J_st (h : st = st') (kk : J g X k n ws lv st' pc) : J g X k n ws lv st pc := h ▸ kk

theorem j_iload_n (hX : JOk g X cc nL own Ts rm) {q : Fin 4} {i : Nat} {x : Int32} (hd : decode cc pc = .ok (.iload_n q, 1)) (hi : (q : Nat) = i) (j : Nat) (hj : lv[j]? = some (i, .int x)) (hp : pc + 1 = pc') (kk : J g X k n ws lv (.int x :: st) pc') : J g X k n ws lv st pc := by
  obtain ⟨p, l, e, R, s, m, args, below, meth, c, Q, A, D, nL0⟩ := X
  subst hp
  exact fun H locs ls hP hD hS hl => lv_iload_n hX.1 hX.2.1 hd hi (lv_at hl j hj) (kk H locs ls hP hD hS hl)
theorem j_iload (hX : JOk g X cc nL own Ts rm) {i : Nat} {x : Int32} (hd : decode cc pc = .ok (.iload i, 2)) (j : Nat) (hj : lv[j]? = some (i, .int x)) (hp : pc + 2 = pc') (kk : J g X k n ws lv (.int x :: st) pc') : J g X k n ws lv st pc := by
  obtain ⟨p, l, e, R, s, m, args, below, meth, c, Q, A, D, nL0⟩ := X
  subst hp
  exact fun H locs ls hP hD hS hl => lv_iload hX.1 hX.2.1 hd (lv_at hl j hj) (kk H locs ls hP hD hS hl)
theorem j_aload_n (hX : JOk g X cc nL own Ts rm) {q : Fin 4} {i : Nat} {x : Nat} (hd : decode cc pc = .ok (.aload_n q, 1)) (hi : (q : Nat) = i) (j : Nat) (hj : lv[j]? = some (i, .ref x)) (hp : pc + 1 = pc') (kk : J g X k n ws lv (.ref x :: st) pc') : J g X k n ws lv st pc := by
  obtain ⟨p, l, e, R, s, m, args, below, meth, c, Q, A, D, nL0⟩ := X
  subst hp
  exact fun H locs ls hP hD hS hl => lv_aload_n hX.1 hX.2.1 hd hi (lv_at hl j hj) (kk H locs ls hP hD hS hl)
theorem j_aload (hX : JOk g X cc nL own Ts rm) {i : Nat} {x : Nat} (hd : decode cc pc = .ok (.aload i, 2)) (j : Nat) (hj : lv[j]? = some (i, .ref x)) (hp : pc + 2 = pc') (kk : J g X k n ws lv (.ref x :: st) pc') : J g X k n ws lv st pc := by
  obtain ⟨p, l, e, R, s, m, args, below, meth, c, Q, A, D, nL0⟩ := X
  subst hp
  exact fun H locs ls hP hD hS hl => lv_aload hX.1 hX.2.1 hd (lv_at hl j hj) (kk H locs ls hP hD hS hl)
theorem j_lload_n (hX : JOk g X cc nL own Ts rm) {q : Fin 4} {i : Nat} {x : Int64} (hd : decode cc pc = .ok (.lload_n q, 1)) (hi : (q : Nat) = i) (j : Nat) (hj : lv[j]? = some (i, .long x)) (hp : pc + 1 = pc') (kk : J g X k n ws lv (.long x :: st) pc') : J g X k n ws lv st pc := by
  obtain ⟨p, l, e, R, s, m, args, below, meth, c, Q, A, D, nL0⟩ := X
  subst hp
  exact fun H locs ls hP hD hS hl => lv_lload_n hX.1 hX.2.1 hd hi (lv_at hl j hj) (kk H locs ls hP hD hS hl)
theorem j_lload (hX : JOk g X cc nL own Ts rm) {i : Nat} {x : Int64} (hd : decode cc pc = .ok (.lload i, 2)) (j : Nat) (hj : lv[j]? = some (i, .long x)) (hp : pc + 2 = pc') (kk : J g X k n ws lv (.long x :: st) pc') : J g X k n ws lv st pc := by
  obtain ⟨p, l, e, R, s, m, args, below, meth, c, Q, A, D, nL0⟩ := X
  subst hp
  exact fun H locs ls hP hD hS hl => lv_lload hX.1 hX.2.1 hd (lv_at hl j hj) (kk H locs ls hP hD hS hl)
theorem j_dload_n (hX : JOk g X cc nL own Ts rm) {q : Fin 4} {i : Nat} {x : UInt64} (hd : decode cc pc = .ok (.dload_n q, 1)) (hi : (q : Nat) = i) (j : Nat) (hj : lv[j]? = some (i, .double x)) (hp : pc + 1 = pc') (kk : J g X k n ws lv (.double x :: st) pc') : J g X k n ws lv st pc := by
  obtain ⟨p, l, e, R, s, m, args, below, meth, c, Q, A, D, nL0⟩ := X
  subst hp
  exact fun H locs ls hP hD hS hl => lv_dload_n hX.1 hX.2.1 hd hi (lv_at hl j hj) (kk H locs ls hP hD hS hl)
theorem j_dload (hX : JOk g X cc nL own Ts rm) {i : Nat} {x : UInt64} (hd : decode cc pc = .ok (.dload i, 2)) (j : Nat) (hj : lv[j]? = some (i, .double x)) (hp : pc + 2 = pc') (kk : J g X k n ws lv (.double x :: st) pc') : J g X k n ws lv st pc := by
  obtain ⟨p, l, e, R, s, m, args, below, meth, c, Q, A, D, nL0⟩ := X
  subst hp
  exact fun H locs ls hP hD hS hl => lv_dload hX.1 hX.2.1 hd (lv_at hl j hj) (kk H locs ls hP hD hS hl)
theorem j_istore_n (hX : JOk g X cc nL own Ts rm) {q : Fin 4} {i : Nat} {x : Int32} (hd : decode cc pc = .ok (.istore_n q, 1)) (hi : (q : Nat) = i) (hn : i < nL) (hl9 : (i, Value.int x) :: lv.filter (fun q => !(q.1 == i) && !(q.1 + 1 == i && q.2.category == 2)) = lv') (hp : pc + 1 = pc') (kk : J g X k n ws lv' st pc') : J g X k n ws lv (.int x :: st) pc := by
  obtain ⟨p, l, e, R, s, m, args, below, meth, c, Q, A, D, nL0⟩ := X
  obtain rfl : nL0 = nL := hX.2.2.2.2.2.2.2.2
  subst hp
  exact fun H locs ls hP hD hS hl => lv_istore_n hX.1 hX.2.1 hd hi hl hn hl9 (fun ls' hl' => kk H locs ls' hP hD hS hl')
theorem j_istore (hX : JOk g X cc nL own Ts rm) {i : Nat} {x : Int32} (hd : decode cc pc = .ok (.istore i, 2)) (hn : i < nL) (hl9 : (i, Value.int x) :: lv.filter (fun q => !(q.1 == i) && !(q.1 + 1 == i && q.2.category == 2)) = lv') (hp : pc + 2 = pc') (kk : J g X k n ws lv' st pc') : J g X k n ws lv (.int x :: st) pc := by
  obtain ⟨p, l, e, R, s, m, args, below, meth, c, Q, A, D, nL0⟩ := X
  obtain rfl : nL0 = nL := hX.2.2.2.2.2.2.2.2
  subst hp
  exact fun H locs ls hP hD hS hl => lv_istore hX.1 hX.2.1 hd hl hn hl9 (fun ls' hl' => kk H locs ls' hP hD hS hl')
theorem j_astore_n (hX : JOk g X cc nL own Ts rm) {q : Fin 4} {i : Nat} {x : Nat} (hd : decode cc pc = .ok (.astore_n q, 1)) (hi : (q : Nat) = i) (hn : i < nL) (hl9 : (i, Value.ref x) :: lv.filter (fun q => !(q.1 == i) && !(q.1 + 1 == i && q.2.category == 2)) = lv') (hp : pc + 1 = pc') (kk : J g X k n ws lv' st pc') : J g X k n ws lv (.ref x :: st) pc := by
  obtain ⟨p, l, e, R, s, m, args, below, meth, c, Q, A, D, nL0⟩ := X
  obtain rfl : nL0 = nL := hX.2.2.2.2.2.2.2.2
  subst hp
  exact fun H locs ls hP hD hS hl => lv_astore_n hX.1 hX.2.1 hd hi hl hn hl9 (fun ls' hl' => kk H locs ls' hP hD hS hl')
theorem j_astore (hX : JOk g X cc nL own Ts rm) {i : Nat} {x : Nat} (hd : decode cc pc = .ok (.astore i, 2)) (hn : i < nL) (hl9 : (i, Value.ref x) :: lv.filter (fun q => !(q.1 == i) && !(q.1 + 1 == i && q.2.category == 2)) = lv') (hp : pc + 2 = pc') (kk : J g X k n ws lv' st pc') : J g X k n ws lv (.ref x :: st) pc := by
  obtain ⟨p, l, e, R, s, m, args, below, meth, c, Q, A, D, nL0⟩ := X
  obtain rfl : nL0 = nL := hX.2.2.2.2.2.2.2.2
  subst hp
  exact fun H locs ls hP hD hS hl => lv_astore hX.1 hX.2.1 hd hl hn hl9 (fun ls' hl' => kk H locs ls' hP hD hS hl')
theorem j_lstore_n (hX : JOk g X cc nL own Ts rm) {q : Fin 4} {i : Nat} {x : Int64} (hd : decode cc pc = .ok (.lstore_n q, 1)) (hi : (q : Nat) = i) (hn : i + 1 < nL) (hl9 : (i, Value.long x) :: lv.filter (fun q => !(q.1 == i) && (!(q.1 == i + 1) && !(q.1 + 1 == i && q.2.category == 2))) = lv') (hp : pc + 1 = pc') (kk : J g X k n ws lv' st pc') : J g X k n ws lv (.long x :: st) pc := by
  obtain ⟨p, l, e, R, s, m, args, below, meth, c, Q, A, D, nL0⟩ := X
  obtain rfl : nL0 = nL := hX.2.2.2.2.2.2.2.2
  subst hp
  exact fun H locs ls hP hD hS hl => lv_lstore_n hX.1 hX.2.1 hd hi hl hn hl9 (fun ls' hl' => kk H locs ls' hP hD hS hl')
theorem j_lstore (hX : JOk g X cc nL own Ts rm) {i : Nat} {x : Int64} (hd : decode cc pc = .ok (.lstore i, 2)) (hn : i + 1 < nL) (hl9 : (i, Value.long x) :: lv.filter (fun q => !(q.1 == i) && (!(q.1 == i + 1) && !(q.1 + 1 == i && q.2.category == 2))) = lv') (hp : pc + 2 = pc') (kk : J g X k n ws lv' st pc') : J g X k n ws lv (.long x :: st) pc := by
  obtain ⟨p, l, e, R, s, m, args, below, meth, c, Q, A, D, nL0⟩ := X
  obtain rfl : nL0 = nL := hX.2.2.2.2.2.2.2.2
  subst hp
  exact fun H locs ls hP hD hS hl => lv_lstore hX.1 hX.2.1 hd hl hn hl9 (fun ls' hl' => kk H locs ls' hP hD hS hl')
theorem j_dstore_n (hX : JOk g X cc nL own Ts rm) {q : Fin 4} {i : Nat} {x : UInt64} (hd : decode cc pc = .ok (.dstore_n q, 1)) (hi : (q : Nat) = i) (hn : i + 1 < nL) (hl9 : (i, Value.double x) :: lv.filter (fun q => !(q.1 == i) && (!(q.1 == i + 1) && !(q.1 + 1 == i && q.2.category == 2))) = lv') (hp : pc + 1 = pc') (kk : J g X k n ws lv' st pc') : J g X k n ws lv (.double x :: st) pc := by
  obtain ⟨p, l, e, R, s, m, args, below, meth, c, Q, A, D, nL0⟩ := X
  obtain rfl : nL0 = nL := hX.2.2.2.2.2.2.2.2
  subst hp
  exact fun H locs ls hP hD hS hl => lv_dstore_n hX.1 hX.2.1 hd hi hl hn hl9 (fun ls' hl' => kk H locs ls' hP hD hS hl')
theorem j_dstore (hX : JOk g X cc nL own Ts rm) {i : Nat} {x : UInt64} (hd : decode cc pc = .ok (.dstore i, 2)) (hn : i + 1 < nL) (hl9 : (i, Value.double x) :: lv.filter (fun q => !(q.1 == i) && (!(q.1 == i + 1) && !(q.1 + 1 == i && q.2.category == 2))) = lv') (hp : pc + 2 = pc') (kk : J g X k n ws lv' st pc') : J g X k n ws lv (.double x :: st) pc := by
  obtain ⟨p, l, e, R, s, m, args, below, meth, c, Q, A, D, nL0⟩ := X
  obtain rfl : nL0 = nL := hX.2.2.2.2.2.2.2.2
  subst hp
  exact fun H locs ls hP hD hS hl => lv_dstore hX.1 hX.2.1 hd hl hn hl9 (fun ls' hl' => kk H locs ls' hP hD hS hl')
theorem j_iinc (hX : JOk g X cc nL own Ts rm) {i : Nat} {z : Int} {x cst v : Int32} (hd : decode cc pc = .ok (.iinc i z, 3)) (hz : Int32.ofInt z = cst) (hv : x + cst = v) (j : Nat) (hj : lv[j]? = some (i, .int x)) (hn : i < nL) (hl9 : (i, Value.int v) :: lv.filter (fun q => !(q.1 == i) && !(q.1 + 1 == i && q.2.category == 2)) = lv') (hp : pc + 3 = pc') (kk : J g X k n ws lv' st pc') : J g X k n ws lv st pc := by
  obtain ⟨p, l, e, R, s, m, args, below, meth, c, Q, A, D, nL0⟩ := X
  obtain rfl : nL0 = nL := hX.2.2.2.2.2.2.2.2
  subst hp
  exact fun H locs ls hP hD hS hl => lv_iinc hX.1 hX.2.1 hd hl hj (by rw [hz]; exact hv) hn hl9 (fun ls' hl' => kk H locs ls' hP hD hS hl')
theorem j_iconst (hX : JOk g X cc nL own Ts rm) {z : Int} {v : Int32} (hd : decode cc pc = .ok (.iconst z, 1)) (hv : Int32.ofInt z = v) (hp : pc + 1 = pc') (kk : J g X k n ws lv (.int v :: st) pc') : J g X k n ws lv st pc := by
  obtain ⟨p, l, e, R, s, m, args, below, meth, c, Q, A, D, nL0⟩ := X
  subst hp
  exact fun H locs ls hP hD hS hl => lv_iconst hX.1 hX.2.1 hd hv (kk H locs ls hP hD hS hl)
theorem j_bipush (hX : JOk g X cc nL own Ts rm) {z : Int} {v : Int32} (hd : decode cc pc = .ok (.bipush z, 2)) (hv : (Int8.ofInt z).toInt32 = v) (hp : pc + 2 = pc') (kk : J g X k n ws lv (.int v :: st) pc') : J g X k n ws lv st pc := by
  obtain ⟨p, l, e, R, s, m, args, below, meth, c, Q, A, D, nL0⟩ := X
  subst hp
  exact fun H locs ls hP hD hS hl => lv_bipush hX.1 hX.2.1 hd hv (kk H locs ls hP hD hS hl)
theorem j_sipush (hX : JOk g X cc nL own Ts rm) {z : Int} {v : Int32} (hd : decode cc pc = .ok (.sipush z, 3)) (hv : (Int16.ofInt z).toInt32 = v) (hp : pc + 3 = pc') (kk : J g X k n ws lv (.int v :: st) pc') : J g X k n ws lv st pc := by
  obtain ⟨p, l, e, R, s, m, args, below, meth, c, Q, A, D, nL0⟩ := X
  subst hp
  exact fun H locs ls hP hD hS hl => lv_sipush hX.1 hX.2.1 hd hv (kk H locs ls hP hD hS hl)
theorem j_lconst (hX : JOk g X cc nL own Ts rm) {z : Fin 2} {v : Int64} (hd : decode cc pc = .ok (.lconst z, 1)) (hv : Int64.ofNat (z : Nat) = v) (hp : pc + 1 = pc') (kk : J g X k n ws lv (.long v :: st) pc') : J g X k n ws lv st pc := by
  obtain ⟨p, l, e, R, s, m, args, below, meth, c, Q, A, D, nL0⟩ := X
  subst hp
  exact fun H locs ls hP hD hS hl => lv_lconst hX.1 hX.2.1 hd hv (kk H locs ls hP hD hS hl)
theorem j_null (hX : JOk g X cc nL own Ts rm) (hd : decode cc pc = .ok (.aconst_null, 1)) (hp : pc + 1 = pc') (kk : J g X k n ws lv (.null :: st) pc') : J g X k n ws lv st pc := by
  obtain ⟨p, l, e, R, s, m, args, below, meth, c, Q, A, D, nL0⟩ := X
  subst hp
  exact fun H locs ls hP hD hS hl => lv_null hX.1 hX.2.1 hd (kk H locs ls hP hD hS hl)
theorem j_ldc2l (hX : JOk g X cc nL own Ts rm) {i : Nat} {v : Int64} (hc : Cond.constantLong own i v ∈ Ts) (hd : decode cc pc = .ok (.ldc2_w i, 3)) (hp : pc + 3 = pc') (kk : J g X k n ws lv (.long v :: st) pc') : J g X k n ws lv st pc := by
  obtain ⟨p, l, e, R, s, m, args, below, meth, c, Q, A, D, nL0⟩ := X
  subst hp
  exact fun H locs ls hP hD hS hl => lv_ldc2 hX.1 hX.2.1 hX.2.2.2.1 (hX.2.2.2.2.1 _ hc) hd (kk H locs ls hP hD hS hl)
theorem j_ldc2d (hX : JOk g X cc nL own Ts rm) {i : Nat} {v : UInt64} (hc : Cond.constantDouble own i v ∈ Ts) (hd : decode cc pc = .ok (.ldc2_w i, 3)) (hp : pc + 3 = pc') (kk : J g X k n ws lv (.double v :: st) pc') : J g X k n ws lv st pc := by
  obtain ⟨p, l, e, R, s, m, args, below, meth, c, Q, A, D, nL0⟩ := X
  subst hp
  exact fun H locs ls hP hD hS hl => lv_ldc2d hX.1 hX.2.1 hX.2.2.2.1 (hX.2.2.2.2.1 _ hc) hd (kk H locs ls hP hD hS hl)
theorem j_dconst0 (hX : JOk g X cc nL own Ts rm) (hd : decode cc pc = .ok (.dconst 0, 1)) (hp : pc + 1 = pc') (kk : J g X k n ws lv (.double FP.dconst0 :: st) pc') : J g X k n ws lv st pc := by
  obtain ⟨p, l, e, R, s, m, args, below, meth, c, Q, A, D, nL0⟩ := X
  subst hp
  exact fun H locs ls hP hD hS hl => lv_dconst0 hX.1 hX.2.1 hd (kk H locs ls hP hD hS hl)
theorem j_dconst1 (hX : JOk g X cc nL own Ts rm) (hd : decode cc pc = .ok (.dconst 1, 1)) (hp : pc + 1 = pc') (kk : J g X k n ws lv (.double FP.dconst1 :: st) pc') : J g X k n ws lv st pc := by
  obtain ⟨p, l, e, R, s, m, args, below, meth, c, Q, A, D, nL0⟩ := X
  subst hp
  exact fun H locs ls hP hD hS hl => lv_dconst1 hX.1 hX.2.1 hd (kk H locs ls hP hD hS hl)
theorem j_iadd (hX : JOk g X cc nL own Ts rm) {x : Int32} {y : Int32} (hd : decode cc pc = .ok (.iadd, 1)) (hp : pc + 1 = pc') (kk : J g X k n ws lv (.int (x + y) :: st) pc') : J g X k n ws lv (.int y :: .int x :: st) pc := by
  obtain ⟨p, l, e, R, s, m, args, below, meth, c, Q, A, D, nL0⟩ := X
  subst hp
  exact fun H locs ls hP hD hS hl => lv_iadd hX.1 hX.2.1 hd (kk H locs ls hP hD hS hl)
theorem j_isub (hX : JOk g X cc nL own Ts rm) {x : Int32} {y : Int32} (hd : decode cc pc = .ok (.isub, 1)) (hp : pc + 1 = pc') (kk : J g X k n ws lv (.int (x - y) :: st) pc') : J g X k n ws lv (.int y :: .int x :: st) pc := by
  obtain ⟨p, l, e, R, s, m, args, below, meth, c, Q, A, D, nL0⟩ := X
  subst hp
  exact fun H locs ls hP hD hS hl => lv_isub hX.1 hX.2.1 hd (kk H locs ls hP hD hS hl)
theorem j_imul (hX : JOk g X cc nL own Ts rm) {x : Int32} {y : Int32} (hd : decode cc pc = .ok (.imul, 1)) (hp : pc + 1 = pc') (kk : J g X k n ws lv (.int (x * y) :: st) pc') : J g X k n ws lv (.int y :: .int x :: st) pc := by
  obtain ⟨p, l, e, R, s, m, args, below, meth, c, Q, A, D, nL0⟩ := X
  subst hp
  exact fun H locs ls hP hD hS hl => lv_imul hX.1 hX.2.1 hd (kk H locs ls hP hD hS hl)
theorem j_iand (hX : JOk g X cc nL own Ts rm) {x : Int32} {y : Int32} (hd : decode cc pc = .ok (.iand, 1)) (hp : pc + 1 = pc') (kk : J g X k n ws lv (.int (x &&& y) :: st) pc') : J g X k n ws lv (.int y :: .int x :: st) pc := by
  obtain ⟨p, l, e, R, s, m, args, below, meth, c, Q, A, D, nL0⟩ := X
  subst hp
  exact fun H locs ls hP hD hS hl => lv_iand hX.1 hX.2.1 hd (kk H locs ls hP hD hS hl)
theorem j_ineg (hX : JOk g X cc nL own Ts rm) {x : Int32} (hd : decode cc pc = .ok (.ineg, 1)) (hp : pc + 1 = pc') (kk : J g X k n ws lv (.int (-x) :: st) pc') : J g X k n ws lv (.int x :: st) pc := by
  obtain ⟨p, l, e, R, s, m, args, below, meth, c, Q, A, D, nL0⟩ := X
  subst hp
  exact fun H locs ls hP hD hS hl => lv_ineg hX.1 hX.2.1 hd (kk H locs ls hP hD hS hl)
theorem j_ladd (hX : JOk g X cc nL own Ts rm) {x : Int64} {y : Int64} (hd : decode cc pc = .ok (.ladd, 1)) (hp : pc + 1 = pc') (kk : J g X k n ws lv (.long (x + y) :: st) pc') : J g X k n ws lv (.long y :: .long x :: st) pc := by
  obtain ⟨p, l, e, R, s, m, args, below, meth, c, Q, A, D, nL0⟩ := X
  subst hp
  exact fun H locs ls hP hD hS hl => lv_ladd hX.1 hX.2.1 hd (kk H locs ls hP hD hS hl)
theorem j_lsub (hX : JOk g X cc nL own Ts rm) {x : Int64} {y : Int64} (hd : decode cc pc = .ok (.lsub, 1)) (hp : pc + 1 = pc') (kk : J g X k n ws lv (.long (x - y) :: st) pc') : J g X k n ws lv (.long y :: .long x :: st) pc := by
  obtain ⟨p, l, e, R, s, m, args, below, meth, c, Q, A, D, nL0⟩ := X
  subst hp
  exact fun H locs ls hP hD hS hl => lv_lsub hX.1 hX.2.1 hd (kk H locs ls hP hD hS hl)
theorem j_lmul (hX : JOk g X cc nL own Ts rm) {x : Int64} {y : Int64} (hd : decode cc pc = .ok (.lmul, 1)) (hp : pc + 1 = pc') (kk : J g X k n ws lv (.long (x * y) :: st) pc') : J g X k n ws lv (.long y :: .long x :: st) pc := by
  obtain ⟨p, l, e, R, s, m, args, below, meth, c, Q, A, D, nL0⟩ := X
  subst hp
  exact fun H locs ls hP hD hS hl => lv_lmul hX.1 hX.2.1 hd (kk H locs ls hP hD hS hl)
theorem j_lcmp (hX : JOk g X cc nL own Ts rm) {x : Int64} {y : Int64} (hd : decode cc pc = .ok (.lcmp, 1)) (hp : pc + 1 = pc') (kk : J g X k n ws lv (.int (lg_cmp x y) :: st) pc') : J g X k n ws lv (.long y :: .long x :: st) pc := by
  obtain ⟨p, l, e, R, s, m, args, below, meth, c, Q, A, D, nL0⟩ := X
  subst hp
  exact fun H locs ls hP hD hS hl => W.lcmp hX.1 hX.2.1 hd (kk H locs ls hP hD hS hl)
theorem j_lshl (hX : JOk g X cc nL own Ts rm) {x : Int64} {y : Int32} (hd : decode cc pc = .ok (.lshl, 1)) (hp : pc + 1 = pc') (kk : J g X k n ws lv (.long (x <<< (y.toInt64 &&& 63)) :: st) pc') : J g X k n ws lv (.int y :: .long x :: st) pc := by
  obtain ⟨p, l, e, R, s, m, args, below, meth, c, Q, A, D, nL0⟩ := X
  subst hp
  exact fun H locs ls hP hD hS hl => lv_lshl hX.1 hX.2.1 hd rfl (kk H locs ls hP hD hS hl)
theorem j_i2l (hX : JOk g X cc nL own Ts rm) {x : Int32} (hd : decode cc pc = .ok (.i2l, 1)) (hp : pc + 1 = pc') (kk : J g X k n ws lv (.long (x.toInt64) :: st) pc') : J g X k n ws lv (.int x :: st) pc := by
  obtain ⟨p, l, e, R, s, m, args, below, meth, c, Q, A, D, nL0⟩ := X
  subst hp
  exact fun H locs ls hP hD hS hl => lv_i2l hX.1 hX.2.1 hd rfl (kk H locs ls hP hD hS hl)
theorem j_i2c (hX : JOk g X cc nL own Ts rm) {x : Int32} (hd : decode cc pc = .ok (.i2c, 1)) (hp : pc + 1 = pc') (kk : J g X k n ws lv (.int ((x.toUInt32 % 65536).toInt32) :: st) pc') : J g X k n ws lv (.int x :: st) pc := by
  obtain ⟨p, l, e, R, s, m, args, below, meth, c, Q, A, D, nL0⟩ := X
  subst hp
  exact fun H locs ls hP hD hS hl => lv_i2c hX.1 hX.2.1 hd rfl (kk H locs ls hP hD hS hl)
theorem j_i2d (hX : JOk g X cc nL own Ts rm) {x : Int32} (hd : decode cc pc = .ok (.i2d, 1)) (hp : pc + 1 = pc') (kk : J g X k n ws lv (.double (FP.i2d x) :: st) pc') : J g X k n ws lv (.int x :: st) pc := by
  obtain ⟨p, l, e, R, s, m, args, below, meth, c, Q, A, D, nL0⟩ := X
  subst hp
  exact fun H locs ls hP hD hS hl => lv_i2d hX.1 hX.2.1 hd (kk H locs ls hP hD hS hl)
theorem j_d2l (hX : JOk g X cc nL own Ts rm) {x : UInt64} (hd : decode cc pc = .ok (.d2l, 1)) (hp : pc + 1 = pc') (kk : J g X k n ws lv (.long (FP.d2l x) :: st) pc') : J g X k n ws lv (.double x :: st) pc := by
  obtain ⟨p, l, e, R, s, m, args, below, meth, c, Q, A, D, nL0⟩ := X
  subst hp
  exact fun H locs ls hP hD hS hl => lv_d2l hX.1 hX.2.1 hd (kk H locs ls hP hD hS hl)
theorem j_dmul (hX : JOk g X cc nL own Ts rm) {x y : UInt64} {P : Prop} (hd : decode cc pc = .ok (.dmul, 1)) (hf : vf_n64 (FP.dmul x y) ∧ P) (hp : pc + 1 = pc') (kk : P → J g X k n ws lv (.double (FP.dmul x y) :: st) pc') : J g X k n ws lv (.double y :: .double x :: st) pc := by
  obtain ⟨p, l, e, R, s, m, args, below, meth, c, Q, A, D, nL0⟩ := X
  subst hp
  exact fun H locs ls hP hD hS hl => lv_dmul hX.1 hX.2.1 hd hf.1 (kk hf.2 H locs ls hP hD hS hl)
theorem j_ddiv (hX : JOk g X cc nL own Ts rm) {x y : UInt64} {P : Prop} (hd : decode cc pc = .ok (.ddiv, 1)) (hf : vf_n64 (FP.ddiv x y) ∧ P) (hp : pc + 1 = pc') (kk : P → J g X k n ws lv (.double (FP.ddiv x y) :: st) pc') : J g X k n ws lv (.double y :: .double x :: st) pc := by
  obtain ⟨p, l, e, R, s, m, args, below, meth, c, Q, A, D, nL0⟩ := X
  subst hp
  exact fun H locs ls hP hD hS hl => lv_ddiv hX.1 hX.2.1 hd hf.1 (kk hf.2 H locs ls hP hD hS hl)
theorem j_dsub (hX : JOk g X cc nL own Ts rm) {x y : UInt64} {P : Prop} (hd : decode cc pc = .ok (.dsub, 1)) (hf : vf_n64 (FP.dsub x y) ∧ P) (hp : pc + 1 = pc') (kk : P → J g X k n ws lv (.double (FP.dsub x y) :: st) pc') : J g X k n ws lv (.double y :: .double x :: st) pc := by
  obtain ⟨p, l, e, R, s, m, args, below, meth, c, Q, A, D, nL0⟩ := X
  subst hp
  exact fun H locs ls hP hD hS hl => lv_dsub hX.1 hX.2.1 hd hf.1 (kk hf.2 H locs ls hP hD hS hl)
theorem j_idiv (hX : JOk g X cc nL own Ts rm) {x y : Int32} {P : Prop} (hd : decode cc pc = .ok (.idiv, 1)) (hf : ¬ y = 0 ∧ P) (hp : pc + 1 = pc') (kk : P → J g X k n ws lv (.int (x / y) :: st) pc') : J g X k n ws lv (.int y :: .int x :: st) pc := by
  obtain ⟨p, l, e, R, s, m, args, below, meth, c, Q, A, D, nL0⟩ := X
  subst hp
  exact fun H locs ls hP hD hS hl => lv_idiv hX.1 hX.2.1 hd hf.1 (kk hf.2 H locs ls hP hD hS hl)
theorem j_irem (hX : JOk g X cc nL own Ts rm) {x y : Int32} {P : Prop} (hd : decode cc pc = .ok (.irem, 1)) (hf : ¬ y = 0 ∧ P) (hp : pc + 1 = pc') (kk : P → J g X k n ws lv (.int (x - x / y * y) :: st) pc') : J g X k n ws lv (.int y :: .int x :: st) pc := by
  obtain ⟨p, l, e, R, s, m, args, below, meth, c, Q, A, D, nL0⟩ := X
  subst hp
  exact fun H locs ls hP hD hS hl => lv_irem hX.1 hX.2.1 hd hf.1 (kk hf.2 H locs ls hP hD hS hl)
theorem j_dcmp (hX : JOk g X cc nL own Ts rm) {x y : UInt64} {op : CmpOp} (hd : decode cc pc = .ok (.dcmp op, 1)) (hp : pc + 1 = pc') (kk : J g X k n ws lv (.int (Op.cmpValue (FP.dcmp x y) op) :: st) pc') : J g X k n ws lv (.double y :: .double x :: st) pc := by
  obtain ⟨p, l, e, R, s, m, args, below, meth, c, Q, A, D, nL0⟩ := X
  subst hp
  exact fun H locs ls hP hD hS hl => lv_dcmp hX.1 hX.2.1 hd (kk H locs ls hP hD hS hl)
theorem j_dup (hX : JOk g X cc nL own Ts rm) {va : Value} (hd : decode cc pc = .ok (.dup, 1)) (hva : va.category = 1) (hp : pc + 1 = pc') (kk : J g X k n ws lv (va :: va :: st) pc') : J g X k n ws lv (va :: st) pc := by
  obtain ⟨p, l, e, R, s, m, args, below, meth, c, Q, A, D, nL0⟩ := X
  subst hp
  exact fun H locs ls hP hD hS hl => lv_dup hX.1 hX.2.1 hd hva (kk H locs ls hP hD hS hl)
theorem j_dup2 (hX : JOk g X cc nL own Ts rm) {va vb : Value} (hd : decode cc pc = .ok (.dup2, 1)) (hva : va.category = 1) (hvb : vb.category = 1) (hp : pc + 1 = pc') (kk : J g X k n ws lv (va :: vb :: va :: vb :: st) pc') : J g X k n ws lv (va :: vb :: st) pc := by
  obtain ⟨p, l, e, R, s, m, args, below, meth, c, Q, A, D, nL0⟩ := X
  subst hp
  exact fun H locs ls hP hD hS hl => lv_dup2_11 hX.1 hX.2.1 hd hva hvb (kk H locs ls hP hD hS hl)
theorem j_pop (hX : JOk g X cc nL own Ts rm) {va : Value} (hd : decode cc pc = .ok (.pop, 1)) (hva : va.category = 1) (hp : pc + 1 = pc') (kk : J g X k n ws lv st pc') : J g X k n ws lv (va :: st) pc := by
  obtain ⟨p, l, e, R, s, m, args, below, meth, c, Q, A, D, nL0⟩ := X
  subst hp
  exact fun H locs ls hP hD hS hl => lv_pop hX.1 hX.2.1 hd hva (kk H locs ls hP hD hS hl)
theorem j_goto (hX : JOk g X cc nL own Ts rm) {off : Int} {tgt : Nat} (hd : decode cc pc = .ok (.goto off, 3)) (ht : (pc : Int) + off = (tgt : Int)) (kk : J g X k n ws lv st tgt) : J g X k n ws lv st pc := by
  obtain ⟨p, l, e, R, s, m, args, below, meth, c, Q, A, D, nL0⟩ := X
  exact fun H locs ls hP hD hS hl => lv_goto hX.1 hX.2.1 hd ht (kk H locs ls hP hD hS hl)
theorem j_ifnonnull (hX : JOk g X cc nL own Ts rm) {x : Nat} {off : Int} {tgt : Nat} (hd : decode cc pc = .ok (.ifnonnull off, 3)) (ht : (pc : Int) + off = (tgt : Int)) (kk : J g X k n ws lv st tgt) : J g X k n ws lv (.ref x :: st) pc := by
  obtain ⟨p, l, e, R, s, m, args, below, meth, c, Q, A, D, nL0⟩ := X
  exact fun H locs ls hP hD hS hl => lv_ifnonnull hX.1 hX.2.1 hd ht (kk H locs ls hP hD hS hl)
theorem j_icmp_eq (hX : JOk g X cc nL own Ts rm) {x y : Int32} {off : Int} {tgt : Nat} {P1 P2 : Prop} (hd : decode cc pc = .ok (.if_icmp .eq off, 3)) (ht : (pc : Int) + off = (tgt : Int)) (hp : pc + 3 = pc') (hf : (x = y → P1) ∧ (¬ x = y → P2)) (kt : P1 → J g X k n ws lv st tgt) (kf : P2 → J g X k n ws lv st pc') : J g X k n ws lv (.int y :: .int x :: st) pc := by
  obtain ⟨p, l, e, R, s, m, args, below, meth, c, Q, A, D, nL0⟩ := X
  subst hp
  exact fun H locs ls hP hD hS hl => lv_icmp_eq hX.1 hX.2.1 hd ht (fun h => kt (hf.1 h) H locs ls hP hD hS hl) (fun h => kf (hf.2 h) H locs ls hP hD hS hl)
theorem j_icmp_lt (hX : JOk g X cc nL own Ts rm) {x y : Int32} {off : Int} {tgt : Nat} {P1 P2 : Prop} (hd : decode cc pc = .ok (.if_icmp .lt off, 3)) (ht : (pc : Int) + off = (tgt : Int)) (hp : pc + 3 = pc') (hf : (x < y → P1) ∧ (¬ x < y → P2)) (kt : P1 → J g X k n ws lv st tgt) (kf : P2 → J g X k n ws lv st pc') : J g X k n ws lv (.int y :: .int x :: st) pc := by
  obtain ⟨p, l, e, R, s, m, args, below, meth, c, Q, A, D, nL0⟩ := X
  subst hp
  exact fun H locs ls hP hD hS hl => lv_icmp_lt hX.1 hX.2.1 hd ht (fun h => kt (hf.1 h) H locs ls hP hD hS hl) (fun h => kf (hf.2 h) H locs ls hP hD hS hl)
theorem j_icmp_ge (hX : JOk g X cc nL own Ts rm) {x y : Int32} {off : Int} {tgt : Nat} {P1 P2 : Prop} (hd : decode cc pc = .ok (.if_icmp .ge off, 3)) (ht : (pc : Int) + off = (tgt : Int)) (hp : pc + 3 = pc') (hf : (y ≤ x → P1) ∧ (¬ y ≤ x → P2)) (kt : P1 → J g X k n ws lv st tgt) (kf : P2 → J g X k n ws lv st pc') : J g X k n ws lv (.int y :: .int x :: st) pc := by
  obtain ⟨p, l, e, R, s, m, args, below, meth, c, Q, A, D, nL0⟩ := X
  subst hp
  exact fun H locs ls hP hD hS hl => lv_icmp_ge hX.1 hX.2.1 hd ht (fun h => kt (hf.1 h) H locs ls hP hD hS hl) (fun h => kf (hf.2 h) H locs ls hP hD hS hl)
theorem j_icmp_gt (hX : JOk g X cc nL own Ts rm) {x y : Int32} {off : Int} {tgt : Nat} {P1 P2 : Prop} (hd : decode cc pc = .ok (.if_icmp .gt off, 3)) (ht : (pc : Int) + off = (tgt : Int)) (hp : pc + 3 = pc') (hf : (y < x → P1) ∧ (¬ y < x → P2)) (kt : P1 → J g X k n ws lv st tgt) (kf : P2 → J g X k n ws lv st pc') : J g X k n ws lv (.int y :: .int x :: st) pc := by
  obtain ⟨p, l, e, R, s, m, args, below, meth, c, Q, A, D, nL0⟩ := X
  subst hp
  exact fun H locs ls hP hD hS hl => lv_icmp_gt hX.1 hX.2.1 hd ht (fun h => kt (hf.1 h) H locs ls hP hD hS hl) (fun h => kf (hf.2 h) H locs ls hP hD hS hl)
theorem j_icmp_le (hX : JOk g X cc nL own Ts rm) {x y : Int32} {off : Int} {tgt : Nat} {P1 P2 : Prop} (hd : decode cc pc = .ok (.if_icmp .le off, 3)) (ht : (pc : Int) + off = (tgt : Int)) (hp : pc + 3 = pc') (hf : (x ≤ y → P1) ∧ (¬ x ≤ y → P2)) (kt : P1 → J g X k n ws lv st tgt) (kf : P2 → J g X k n ws lv st pc') : J g X k n ws lv (.int y :: .int x :: st) pc := by
  obtain ⟨p, l, e, R, s, m, args, below, meth, c, Q, A, D, nL0⟩ := X
  subst hp
  exact fun H locs ls hP hD hS hl => lv_icmp_le hX.1 hX.2.1 hd ht (fun h => kt (hf.1 h) H locs ls hP hD hS hl) (fun h => kf (hf.2 h) H locs ls hP hD hS hl)
theorem j_icmp_ne (hX : JOk g X cc nL own Ts rm) {x y : Int32} {off : Int} {tgt : Nat} {P1 P2 : Prop} (hd : decode cc pc = .ok (.if_icmp .ne off, 3)) (ht : (pc : Int) + off = (tgt : Int)) (hp : pc + 3 = pc') (hf : (x = y → P1) ∧ (¬ x = y → P2)) (kt : P2 → J g X k n ws lv st tgt) (kf : P1 → J g X k n ws lv st pc') : J g X k n ws lv (.int y :: .int x :: st) pc := by
  obtain ⟨p, l, e, R, s, m, args, below, meth, c, Q, A, D, nL0⟩ := X
  subst hp
  exact fun H locs ls hP hD hS hl => lv_icmp_ne hX.1 hX.2.1 hd ht (fun h => kt (hf.2 h) H locs ls hP hD hS hl) (fun h => kf (hf.1 h) H locs ls hP hD hS hl)
theorem j_if_eq (hX : JOk g X cc nL own Ts rm) {x : Int32} {off : Int} {tgt : Nat} {P1 P2 : Prop} (hd : decode cc pc = .ok (.ifCond .eq off, 3)) (ht : (pc : Int) + off = (tgt : Int)) (hp : pc + 3 = pc') (hf : (x = 0 → P1) ∧ (¬ x = 0 → P2)) (kt : P1 → J g X k n ws lv st tgt) (kf : P2 → J g X k n ws lv st pc') : J g X k n ws lv (.int x :: st) pc := by
  obtain ⟨p, l, e, R, s, m, args, below, meth, c, Q, A, D, nL0⟩ := X
  subst hp
  exact fun H locs ls hP hD hS hl => lv_if_eq hX.1 hX.2.1 hd ht (fun h => kt (hf.1 h) H locs ls hP hD hS hl) (fun h => kf (hf.2 h) H locs ls hP hD hS hl)
theorem j_if_lt (hX : JOk g X cc nL own Ts rm) {x : Int32} {off : Int} {tgt : Nat} {P1 P2 : Prop} (hd : decode cc pc = .ok (.ifCond .lt off, 3)) (ht : (pc : Int) + off = (tgt : Int)) (hp : pc + 3 = pc') (hf : (x < 0 → P1) ∧ (¬ x < 0 → P2)) (kt : P1 → J g X k n ws lv st tgt) (kf : P2 → J g X k n ws lv st pc') : J g X k n ws lv (.int x :: st) pc := by
  obtain ⟨p, l, e, R, s, m, args, below, meth, c, Q, A, D, nL0⟩ := X
  subst hp
  exact fun H locs ls hP hD hS hl => lv_if_lt hX.1 hX.2.1 hd ht (fun h => kt (hf.1 h) H locs ls hP hD hS hl) (fun h => kf (hf.2 h) H locs ls hP hD hS hl)
theorem j_if_ge (hX : JOk g X cc nL own Ts rm) {x : Int32} {off : Int} {tgt : Nat} {P1 P2 : Prop} (hd : decode cc pc = .ok (.ifCond .ge off, 3)) (ht : (pc : Int) + off = (tgt : Int)) (hp : pc + 3 = pc') (hf : (0 ≤ x → P1) ∧ (¬ 0 ≤ x → P2)) (kt : P1 → J g X k n ws lv st tgt) (kf : P2 → J g X k n ws lv st pc') : J g X k n ws lv (.int x :: st) pc := by
  obtain ⟨p, l, e, R, s, m, args, below, meth, c, Q, A, D, nL0⟩ := X
  subst hp
  exact fun H locs ls hP hD hS hl => lv_if_ge hX.1 hX.2.1 hd ht (fun h => kt (hf.1 h) H locs ls hP hD hS hl) (fun h => kf (hf.2 h) H locs ls hP hD hS hl)
theorem j_if_gt (hX : JOk g X cc nL own Ts rm) {x : Int32} {off : Int} {tgt : Nat} {P1 P2 : Prop} (hd : decode cc pc = .ok (.ifCond .gt off, 3)) (ht : (pc : Int) + off = (tgt : Int)) (hp : pc + 3 = pc') (hf : (0 < x → P1) ∧ (¬ 0 < x → P2)) (kt : P1 → J g X k n ws lv st tgt) (kf : P2 → J g X k n ws lv st pc') : J g X k n ws lv (.int x :: st) pc := by
  obtain ⟨p, l, e, R, s, m, args, below, meth, c, Q, A, D, nL0⟩ := X
  subst hp
  exact fun H locs ls hP hD hS hl => lv_if_gt hX.1 hX.2.1 hd ht (fun h => kt (hf.1 h) H locs ls hP hD hS hl) (fun h => kf (hf.2 h) H locs ls hP hD hS hl)
theorem j_if_le (hX : JOk g X cc nL own Ts rm) {x : Int32} {off : Int} {tgt : Nat} {P1 P2 : Prop} (hd : decode cc pc = .ok (.ifCond .le off, 3)) (ht : (pc : Int) + off = (tgt : Int)) (hp : pc + 3 = pc') (hf : (x ≤ 0 → P1) ∧ (¬ x ≤ 0 → P2)) (kt : P1 → J g X k n ws lv st tgt) (kf : P2 → J g X k n ws lv st pc') : J g X k n ws lv (.int x :: st) pc := by
  obtain ⟨p, l, e, R, s, m, args, below, meth, c, Q, A, D, nL0⟩ := X
  subst hp
  exact fun H locs ls hP hD hS hl => lv_if_le hX.1 hX.2.1 hd ht (fun h => kt (hf.1 h) H locs ls hP hD hS hl) (fun h => kf (hf.2 h) H locs ls hP hD hS hl)
theorem j_if_ne (hX : JOk g X cc nL own Ts rm) {x : Int32} {off : Int} {tgt : Nat} {P1 P2 : Prop} (hd : decode cc pc = .ok (.ifCond .ne off, 3)) (ht : (pc : Int) + off = (tgt : Int)) (hp : pc + 3 = pc') (hf : (x = 0 → P1) ∧ (¬ x = 0 → P2)) (kt : P2 → J g X k n ws lv st tgt) (kf : P1 → J g X k n ws lv st pc') : J g X k n ws lv (.int x :: st) pc := by
  obtain ⟨p, l, e, R, s, m, args, below, meth, c, Q, A, D, nL0⟩ := X
  subst hp
  exact fun H locs ls hP hD hS hl => lv_if_ne hX.1 hX.2.1 hd ht (fun h => kt (hf.2 h) H locs ls hP hD hS hl) (fun h => kf (hf.1 h) H locs ls hP hD hS hl)
theorem j_tswI (hX : JOk g X cc nL own Ts rm) {dflt lo hi : Int} {offs : Array Int} {len : Nat} {x cst : Int32} {off : Int} {tgt : Nat} (hd : decode cc pc = .ok (.tableswitch dflt lo hi offs, len)) (hc : x = cst) (h1 : ¬ cst.toInt < lo) (h2 : ¬ hi < cst.toInt) (ho : offs[(cst.toInt - lo).toNat]? = some off) (ht : (pc : Int) + off = (tgt : Int)) (kk : J g X k n ws lv st tgt) : J g X k n ws lv (.int x :: st) pc := by
  obtain ⟨p, l, e, R, s, m, args, below, meth, c, Q, A, D, nL0⟩ := X
  subst hc
  exact fun H locs ls hP hD hS hl => lv_tableIn hX.1 hX.2.1 hd h1 h2 ho ht (kk H locs ls hP hD hS hl)
theorem j_tswO (hX : JOk g X cc nL own Ts rm) {dflt lo hi : Int} {offs : Array Int} {len : Nat} {x : Int32} {tgt : Nat} (hd : decode cc pc = .ok (.tableswitch dflt lo hi offs, len)) (h : x.toInt < lo ∨ hi < x.toInt) (ht : (pc : Int) + dflt = (tgt : Int)) (kk : J g X k n ws lv st tgt) : J g X k n ws lv (.int x :: st) pc := by
  obtain ⟨p, l, e, R, s, m, args, below, meth, c, Q, A, D, nL0⟩ := X
  exact fun H locs ls hP hD hS hl => lv_tableOut hX.1 hX.2.1 hd h ht (kk H locs ls hP hD hS hl)
theorem j_lsw (hX : JOk g X cc nL own Ts rm) {dflt : Int} {ps : Array (Int × Int)} {len : Nat} {x : Int32} {off : Int} {tgt : Nat} (hd : decode cc pc = .ok (.lookupswitch dflt ps, len)) (hp : (ps.toList.zip (ps.toList.drop 1)).all (fun (a, next) => a.1 < next.1) = true) (ho : Op.lookupswitch.offset ps.toList dflt x.toInt = off) (ht : (pc : Int) + off = (tgt : Int)) (kk : J g X k n ws lv st tgt) : J g X k n ws lv (.int x :: st) pc := by
  obtain ⟨p, l, e, R, s, m, args, below, meth, c, Q, A, D, nL0⟩ := X
  exact fun H locs ls hP hD hS hl => lv_lookup hX.1 hX.2.1 hd hp ho ht (kk H locs ls hP hD hS hl)
theorem j_get (hX : JOk g X cc nL own Ts rm) {C : String} {T : u_T} {N ci idx a : Nat} {fs : List Value} {v : Value} (hin : ∀ w ∈ u_ws C T N, w ∈ Ts) (hc : vwCl[ci]? = some (C, T, N)) (q0 : Nat) (he : ws[q0]? = some (a, .inr (ci, fs))) (f : Nat) (hf : f < N) (hl9 : Cond.fieldLink own idx (T f).1 (T f).2.1 (T f).2.2.1 ∈ Ts) (hv : fs[f]? = some v) (hd : decode cc pc = .ok (.getfield idx, 3)) (hp : pc + 3 = pc') (kk : J g X k n ws lv (v :: st) pc') : J g X k n ws lv (.ref a :: st) pc := by
  obtain ⟨p, l, e, R, s, m, args, below, meth, c, Q, A, D, nL0⟩ := X
  subst hp
  exact fun H locs ls hP hD hS hl => va_get hX.1 hX.2.1 hX.2.2.2.2.1 hin hX.2.2.2.1 hX.2.2.2.2.2.1 hP q0 he hc f hf (hX.2.2.2.2.1 _ hl9) (fun _ h => h) hv hd (kk H locs ls hP hD hS hl)
theorem j_put (hX : JOk g X cc nL own Ts rm) (hW : JNew X) {C : String} {T : u_T} {N ci idx a : Nat} {fs : List Value} {v : Value} (hin : ∀ w ∈ u_ws C T N, w ∈ Ts) {ty0 : Nat → FieldType} (hty : ∀ k, k < N → parseFieldDescriptor (T k).2.2.1 = some (ty0 k)) (hnm : ∀ a, a < N → ∀ b, b < N → a ≠ b → (T a).2.1 ≠ (T b).2.1) (hc : vwCl[ci]? = some (C, T, N)) (q0 : Nat) (he : ws[q0]? = some (a, .inr (ci, fs))) (f : Nat) (hf : f < N) (hl9 : Cond.fieldLink own idx (T f).1 (T f).2.1 (T f).2.2.1 ∈ Ts) (hfin : (T f).2.2.2 = false) (hn : narrow (ty0 f) v = v) (hfit : fits (ty0 f) v = true) (hlen : f < fs.length) (hd : decode cc pc = .ok (.putfield idx, 3)) (hws : ws.set q0 (a, .inr (ci, fs.set f v)) = ws') (hp : pc + 3 = pc') (kk : J g X k n ws' lv st pc') : J g X k n ws lv (v :: .ref a :: st) pc := by
  obtain ⟨p, l, e, R, s, m, args, below, meth, c, Q, A, D, nL0⟩ := X
  subst hp
  obtain ⟨rfl, hA⟩ := hW
  exact fun H locs ls hP hD hS hl => va_put hX.1 hX.2.1 hX.2.2.2.2.1 hin ty0 hty hnm hX.2.2.2.1 hX.2.2.2.2.2.1 hP hD hS q0 he hc f hf (hX.2.2.2.2.1 _ hl9) (fun _ h => h) hfin (hty f hf) hn hfit hlen hd (fun H1 locs1 hP1 hD1 hS1 => kk H1 locs1 ls (hws ▸ hP1) (hws ▸ hD1) hS1 hl)
theorem j_iald (hX : JOk g X cc nL own Ts rm) {a N : Nat} {f : Nat → Int32} {i : Int32} {P : Prop} (q0 : Nat) (he : ws[q0]? = some (a, .inl (g.2 0, N, .inl f))) (hd : decode cc pc = .ok (.iaload, 1)) (hf : vp_in i N ∧ P) (hp : pc + 1 = pc') (kk : P → J g X k n ws lv (.int (f i.toNatClampNeg) :: st) pc') : J g X k n ws lv (.int i :: .ref a :: st) pc := by
  obtain ⟨p, l, e, R, s, m, args, below, meth, c, Q, A, D, nL0⟩ := X
  subst hp
  exact fun H locs ls hP hD hS hl => va_iald hX.1 hX.2.1 hX.2.2.2.2.2.1 hP q0 0 he rfl hf.1 hd (kk hf.2 H locs ls hP hD hS hl)
theorem j_cald (hX : JOk g X cc nL own Ts rm) {a N : Nat} {f : Nat → Int32} {i : Int32} {P : Prop} (q0 : Nat) (he : ws[q0]? = some (a, .inl (g.2 1, N, .inl f))) (hd : decode cc pc = .ok (.caload, 1)) (hf : vp_in i N ∧ P) (hp : pc + 1 = pc') (kk : P → J g X k n ws lv (.int (f i.toNatClampNeg) :: st) pc') : J g X k n ws lv (.int i :: .ref a :: st) pc := by
  obtain ⟨p, l, e, R, s, m, args, below, meth, c, Q, A, D, nL0⟩ := X
  subst hp
  exact fun H locs ls hP hD hS hl => va_cald hX.1 hX.2.1 hX.2.2.2.2.2.1 hP q0 1 he rfl hf.1 hd (kk hf.2 H locs ls hP hD hS hl)
theorem j_lald (hX : JOk g X cc nL own Ts rm) {a N : Nat} {f : Nat → Int64} {i : Int32} {P : Prop} (q0 : Nat) (he : ws[q0]? = some (a, .inl (g.2 2, N, .inr (.inl f)))) (hd : decode cc pc = .ok (.laload, 1)) (hf : vp_in i N ∧ P) (hp : pc + 1 = pc') (kk : P → J g X k n ws lv (.long (f i.toNatClampNeg) :: st) pc') : J g X k n ws lv (.int i :: .ref a :: st) pc := by
  obtain ⟨p, l, e, R, s, m, args, below, meth, c, Q, A, D, nL0⟩ := X
  subst hp
  exact fun H locs ls hP hD hS hl => va_lald hX.1 hX.2.1 hX.2.2.2.2.2.1 hP q0 2 he rfl hf.1 hd (kk hf.2 H locs ls hP hD hS hl)
theorem j_aald (hX : JOk g X cc nL own Ts rm) {a N : Nat} {f : Nat → Option Nat} {i : Int32} {P : Prop} (q0 : Nat) (he : ws[q0]? = some (a, .inl (g.2 3, N, .inr (.inr (.inr (.inr f)))))) (hd : decode cc pc = .ok (.aaload, 1)) (hf : vp_in i N ∧ P) (hp : pc + 1 = pc') (kk : P → J g X k n ws lv (va_rf (f i.toNatClampNeg) :: st) pc') : J g X k n ws lv (.int i :: .ref a :: st) pc := by
  obtain ⟨p, l, e, R, s, m, args, below, meth, c, Q, A, D, nL0⟩ := X
  subst hp
  exact fun H locs ls hP hD hS hl => va_aldq hX.1 hX.2.1 hX.2.2.2.2.2.1 hP q0 3 he rfl hf.1 hd (kk hf.2 H locs ls hP hD hS hl)
theorem j_iast (hX : JOk g X cc nL own Ts rm) (hW : JNew X) {a N : Nat} {f : Nat → Int32} {i x : Int32} {P : Prop} (q0 : Nat) (he : ws[q0]? = some (a, .inl (g.2 0, N, .inl f))) (hd : decode cc pc = .ok (.iastore, 1)) (hf : vp_in i N ∧ P) (hws : ws.set q0 (a, .inl (g.2 0, N, .inl (upd f i.toNatClampNeg x))) = ws') (hp : pc + 1 = pc') (kk : P → J g X k n ws' lv st pc') : J g X k n ws lv (.int x :: .int i :: .ref a :: st) pc := by
  obtain ⟨p, l, e, R, s, m, args, below, meth, c, Q, A, D, nL0⟩ := X
  subst hp
  obtain ⟨rfl, hA⟩ := hW
  exact fun H locs ls hP hD hS hl => va_iast hX.1 hX.2.1 hX.2.2.2.2.2.1 hP hD hS q0 0 he rfl hf.1 hd (fun H1 locs1 hP1 hD1 hS1 => kk hf.2 H1 locs1 ls (hws ▸ hP1) (hws ▸ hD1) hS1 hl)
theorem j_cast (hX : JOk g X cc nL own Ts rm) (hW : JNew X) {a N : Nat} {f : Nat → Int32} {i x : Int32} {P : Prop} (q0 : Nat) (he : ws[q0]? = some (a, .inl (g.2 1, N, .inl f))) (hd : decode cc pc = .ok (.castore, 1)) (hf : vp_in i N ∧ P) (hws : ws.set q0 (a, .inl (g.2 1, N, .inl (upd f i.toNatClampNeg (vp_nar .char x)))) = ws') (hp : pc + 1 = pc') (kk : P → J g X k n ws' lv st pc') : J g X k n ws lv (.int x :: .int i :: .ref a :: st) pc := by
  obtain ⟨p, l, e, R, s, m, args, below, meth, c, Q, A, D, nL0⟩ := X
  subst hp
  obtain ⟨rfl, hA⟩ := hW
  exact fun H locs ls hP hD hS hl => va_cast hX.1 hX.2.1 hX.2.2.2.2.2.1 hP hD hS q0 1 he rfl hf.1 hd (fun H1 locs1 hP1 hD1 hS1 => kk hf.2 H1 locs1 ls (hws ▸ hP1) (hws ▸ hD1) hS1 hl)
theorem j_last (hX : JOk g X cc nL own Ts rm) (hW : JNew X) {a N : Nat} {f : Nat → Int64} {i : Int32} {x : Int64} {P : Prop} (q0 : Nat) (he : ws[q0]? = some (a, .inl (g.2 2, N, .inr (.inl f)))) (hd : decode cc pc = .ok (.lastore, 1)) (hf : vp_in i N ∧ P) (hws : ws.set q0 (a, .inl (g.2 2, N, .inr (.inl (vp_updL f i.toNatClampNeg x)))) = ws') (hp : pc + 1 = pc') (kk : P → J g X k n ws' lv st pc') : J g X k n ws lv (.long x :: .int i :: .ref a :: st) pc := by
  obtain ⟨p, l, e, R, s, m, args, below, meth, c, Q, A, D, nL0⟩ := X
  subst hp
  obtain ⟨rfl, hA⟩ := hW
  exact fun H locs ls hP hD hS hl => va_last hX.1 hX.2.1 hX.2.2.2.2.2.1 hP hD hS q0 2 he rfl hf.1 hd (fun H1 locs1 hP1 hD1 hS1 => kk hf.2 H1 locs1 ls (hws ▸ hP1) (hws ▸ hD1) hS1 hl)
theorem j_aast (hX : JOk g X cc nL own Ts rm) (hW : JNew X) {a N v ci : Nat} {f : Nat → Option Nat} {i : Int32} {P : Prop} {T : u_T} {NN : Nat} {vs : List Value} (q0 qk : Nat) (he : ws[q0]? = some (a, .inl (g.2 3, N, .inr (.inr (.inr (.inr f)))))) (hv : ws[qk]? = some (v, .inr (ci, vs))) (hc : vwCl[ci]? = some ("PebbleCourses$Mosaic", T, NN)) (hd : decode cc pc = .ok (.aastore, 1)) (hf : vp_in i N ∧ P) (hws : ws.set q0 (a, .inl (g.2 3, N, .inr (.inr (.inr (.inr (va_up f i.toNatClampNeg (some v))))))) = ws') (hp : pc + 1 = pc') (kk : P → J g X k n ws' lv st pc') : J g X k n ws lv (.ref v :: .int i :: .ref a :: st) pc := by
  obtain ⟨p, l, e, R, s, m, args, below, meth, c, Q, A, D, nL0⟩ := X
  subst hp
  obtain ⟨rfl, hA⟩ := hW
  exact fun H locs ls hP hD hS hl => va_astq hX.1 hX.2.1 hX.2.2.2.2.2.1 hP hD hS q0 3 qk ci he rfl hv hc hf.1 hd (fun H1 locs1 hP1 hD1 hS1 => kk hf.2 H1 locs1 ls (hws ▸ hP1) (hws ▸ hD1) hS1 hl)
theorem j_alen (hX : JOk g X cc nL own Ts rm) {a : Nat} {x : vp_A} {v : Int32} (q0 t0 : Nat) {cA : ClassId} {ty : FieldType} (he : ws[q0]? = some (a, .inl (cA, x))) (ht : (JT g)[t0]? = some (cA, ty)) (hv : Int32.ofNat x.1 = v) (hd : decode cc pc = .ok (.arraylength, 1)) (hp : pc + 1 = pc') (kk : J g X k n ws lv (.int v :: st) pc') : J g X k n ws lv (.ref a :: st) pc := by
  obtain ⟨p, l, e, R, s, m, args, below, meth, c, Q, A, D, nL0⟩ := X
  subst hp
  exact fun H locs ls hP hD hS hl => va_alen hX.1 hX.2.1 hX.2.2.2.2.2.1 hP q0 t0 he ht hv hd (kk H locs ls hP hD hS hl)
theorem j_mmin (hX : JOk g X cc nL own Ts rm) {idx : Nat} {x y : Int32} (h1 : Cond.methodLink own idx Lib.Math.min.name ∈ Ts) (h2 : Cond.static Lib.Math.min.name ∈ Ts) (h3 : Cond.initialized "java/lang/Math" ∈ Ts) (h4 : Cond.code Lib.Math.min.name Lib.Math.min.code 2 (some .int) ∈ Ts) (hr : 1 ≤ rm.frames ∧ (st.map fun v => v.category).sum + 13 ≤ rm.locals ∧ k ≤ rm.cells ∧ n ≤ rm.slots) (hd : decode cc pc = .ok (.invokestatic idx, 3)) (hp : pc + 3 = pc') (kk : J g X k n ws lv (.int (if y < x then y else x) :: st) pc') : J g X k n ws lv (.int y :: .int x :: st) pc := by
  obtain ⟨p, l, e, R, s, m, args, below, meth, c, Q, A, D, nL0⟩ := X
  subst hp
  obtain rfl : R = rm := hX.2.2.2.2.2.2.1
  exact fun H locs ls hP hD hS hl => va_mmin hX.1 hX.2.1 (hX.2.2.1.trans hl.1.symm) hX.2.2.2.1 (hX.2.2.2.2.1 _ h1) (hX.2.2.2.2.1 _ h2) (hX.2.2.2.2.1 _ h3) (hX.2.2.2.2.1 _ h4) hr.1 hr.2.1 hr.2.2.1 hr.2.2.2 hd (kk H locs ls hP hD hS hl)
theorem j_mabs (hX : JOk g X cc nL own Ts rm) {idx : Nat} {x : Int32} (h1 : Cond.methodLink own idx Lib.Math.abs.name ∈ Ts) (h2 : Cond.static Lib.Math.abs.name ∈ Ts) (h3 : Cond.initialized "java/lang/Math" ∈ Ts) (h4 : Cond.code Lib.Math.abs.name Lib.Math.abs.code 1 (some .int) ∈ Ts) (hr : 1 ≤ rm.frames ∧ (st.map fun v => v.category).sum + 13 ≤ rm.locals ∧ k ≤ rm.cells ∧ n ≤ rm.slots) (hd : decode cc pc = .ok (.invokestatic idx, 3)) (hp : pc + 3 = pc') (kk : J g X k n ws lv (.int (if 0 ≤ x then x else 0 - x) :: st) pc') : J g X k n ws lv (.int x :: st) pc := by
  obtain ⟨p, l, e, R, s, m, args, below, meth, c, Q, A, D, nL0⟩ := X
  subst hp
  obtain rfl : R = rm := hX.2.2.2.2.2.2.1
  exact fun H locs ls hP hD hS hl => va_mabs hX.1 hX.2.1 (hX.2.2.1.trans hl.1.symm) hX.2.2.2.1 (hX.2.2.2.2.1 _ h1) (hX.2.2.2.2.1 _ h2) (hX.2.2.2.2.1 _ h3) (hX.2.2.2.2.1 _ h4) hr.1 hr.2.1 hr.2.2.1 hr.2.2.2 hd (kk H locs ls hP hD hS hl)
theorem j_copyi (hX : JOk g X cc nL own Ts rm) (hW : JNew X) {idx : Nat} {a0 a n0 n1 : Nat} {f h : Nat → Int32} {sp dp z : Int32} {P : Prop} (hlk : Cond.methodLink own idx arraycopyName ∈ Ts) (hna : Cond.native arraycopyName ∈ Ts) (hst : Cond.static arraycopyName ∈ Ts) (hin : Cond.initialized "java/lang/System" ∈ Ts) (q0 q1 : Nat) (he0 : ws[q0]? = some (a0, .inl (g.2 0, n0, .inl f))) (he1 : ws[q1]? = some (a, .inl (g.2 0, n1, .inl h))) (hr : 1 ≤ rm.frames ∧ (st.map fun v => v.category).sum + (nativeFrameWords "java/lang/System" "arraycopy" 5 + 11) ≤ rm.locals) (hd : decode cc pc = .ok (.invokestatic idx, 3)) (hf : (¬ sp < 0 ∧ ¬ dp < 0 ∧ ¬ z < 0 ∧ sp.toNatClampNeg + z.toNatClampNeg ≤ n0 ∧ dp.toNatClampNeg + z.toNatClampNeg ≤ n1) ∧ P) (hws : ws.set q1 (a, .inl (g.2 0, n1, .inl (va_cpy f h sp.toNatClampNeg dp.toNatClampNeg z.toNatClampNeg))) = ws') (hp : pc + 3 = pc') (kk : P → J g X k n ws' lv st pc') : J g X k n ws lv (.int z :: .int dp :: .ref a :: .int sp :: .ref a0 :: st) pc := by
  obtain ⟨p, l, e, R, s, m, args, below, meth, c, Q, A, D, nL0⟩ := X
  subst hp
  obtain ⟨rfl, hA⟩ := hW
  obtain rfl : R = rm := hX.2.2.2.2.2.2.1
  exact fun H locs ls hP hD hS hl => va_copyi hX.1 hX.2.1 (hX.2.2.1.trans hl.1.symm) hX.2.2.2.1 (hX.2.2.2.2.1 _ hlk) (hX.2.2.2.2.1 _ hna) (hX.2.2.2.2.1 _ hst) (hX.2.2.2.2.1 _ hin) hX.2.2.2.2.2.1 hP hD hS q0 q1 0 0 he0 he1 rfl rfl rfl hf.1.1 hf.1.2.1 hf.1.2.2.1 hf.1.2.2.2.1 hf.1.2.2.2.2 (fun _ _ => rfl) hr.1 hr.2 hd (fun H1 locs1 hP1 hD1 hS1 => kk hf.2 H1 locs1 ls (hws ▸ hP1) (hws ▸ hD1) hS1 hl)
theorem j_iret (hX : JOk g X cc nL own Ts rm) {P : Option Value → va_W → Prop} {r : Int32} (hR : JRet g X (some .int) k n P) (hd : decode cc pc = .ok (.ireturn, 1)) (hp : P (some (.int r)) ws) : J g X k n ws lv [.int r] pc := by
  obtain ⟨p, l, e, R, s, m, args, below, meth, c, Q, A, D, nL0⟩ := X
  obtain ⟨h1, h2, Qc, free, h0, h3, h4⟩ := hR
  exact fun H locs ls hP hD hS hl => h0 _ _ _ <| W.iret hX.1 hX.2.1 h1 (fun t ht hW => h4 _ _ H locs hp hP hD hS t ht hW) (fun q hq => h3 _ (hS.2.2 q hq)) hd h2
theorem j_zret (hX : JOk g X cc nL own Ts rm) {P : Option Value → va_W → Prop} {r : Int32} {ty : FieldType} (hR : JRet g X (some ty) k n P) (hn : narrow ty (.int r) = .int r) (hd : decode cc pc = .ok (.ireturn, 1)) (hp : P (some (.int r)) ws) : J g X k n ws lv [.int r] pc := by
  obtain ⟨p, l, e, R, s, m, args, below, meth, c, Q, A, D, nL0⟩ := X
  obtain ⟨h1, h2, Qc, free, h0, h3, h4⟩ := hR
  exact fun H locs ls hP hD hS hl => h0 _ _ _ <| W.zret hX.1 hX.2.1 h1 hn (fun t ht hW => h4 _ _ H locs hp hP hD hS t ht hW) (fun q hq => h3 _ (hS.2.2 q hq)) hd h2
theorem j_lret (hX : JOk g X cc nL own Ts rm) {P : Option Value → va_W → Prop} {r : Int64} (hR : JRet g X (some .long) k n P) (hd : decode cc pc = .ok (.lreturn, 1)) (hp : P (some (.long r)) ws) : J g X k n ws lv [.long r] pc := by
  obtain ⟨p, l, e, R, s, m, args, below, meth, c, Q, A, D, nL0⟩ := X
  obtain ⟨h1, h2, Qc, free, h0, h3, h4⟩ := hR
  exact fun H locs ls hP hD hS hl => h0 _ _ _ <| W.lret hX.1 hX.2.1 h1 (fun t ht hW => h4 _ _ H locs hp hP hD hS t ht hW) (fun q hq => h3 _ (hS.2.2 q hq)) hd h2
theorem j_dret (hX : JOk g X cc nL own Ts rm) {P : Option Value → va_W → Prop} {r : UInt64} (hR : JRet g X (some .double) k n P) (hd : decode cc pc = .ok (.dreturn, 1)) (hp : P (some (.double r)) ws) : J g X k n ws lv [.double r] pc := by
  obtain ⟨p, l, e, R, s, m, args, below, meth, c, Q, A, D, nL0⟩ := X
  obtain ⟨h1, h2, Qc, free, h0, h3, h4⟩ := hR
  exact fun H locs ls hP hD hS hl => h0 _ _ _ <| W.dret hX.1 hX.2.1 h1 (fun t ht hW => h4 _ _ H locs hp hP hD hS t ht hW) (fun q hq => h3 _ (hS.2.2 q hq)) hd h2
theorem j_vret (hX : JOk g X cc nL own Ts rm) {P : Option Value → va_W → Prop} (hR : JRet g X none k n P) (hd : decode cc pc = .ok (.return_, 1)) (hp : P none ws) : J g X k n ws lv [] pc := by
  obtain ⟨p, l, e, R, s, m, args, below, meth, c, Q, A, D, nL0⟩ := X
  obtain ⟨h1, h2, Qc, free, h0, h3, h4⟩ := hR
  exact fun H locs ls hP hD hS hl => h0 _ _ _ <| W.vret hX.1 hX.2.1 h1 (fun t ht hW => h4 _ _ H locs hp hP hD hS t ht hW) (fun q hq => h3 _ (hS.2.2 q hq)) hd h2
theorem j_aret (hX : JOk g X cc nL own Ts rm) {P : Option Value → va_W → Prop} {r : Option Nat} {C : String} (hR : JRet g X (some (.object C)) k n P) (hd : decode cc pc = .ok (.areturn, 1)) (hp : P (some (va_rf r)) ws) : J g X k n ws lv [va_rf r] pc := by
  obtain ⟨p, l, e, R, s, m, args, below, meth, c, Q, A, D, nL0⟩ := X
  obtain ⟨h1, h2, Qc, free, h0, h3, h4⟩ := hR
  exact fun H locs ls hP hD hS hl => h0 _ _ _ <| W.aret hX.1 hX.2.1 h1 (Or.inl ⟨_, rfl⟩) (by cases r with | none => exact Or.inl rfl | some a => exact Or.inr ⟨a, rfl⟩) (fun t ht hW => h4 _ _ H locs hp hP hD hS t ht hW) (fun q hq => h3 _ (hS.2.2 q hq)) hd h2
end JROWS

