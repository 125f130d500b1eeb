/-! CONSTRUCTORS in the form J: new cells are put behind the world. JC: what the tables say beside the words. -/
def JC (U : State) : Prop := va_AO "PebbleCourses$Mosaic" U ∧ va_Nw (.methodLinkNest RX4 21 yX0_init "PebbleCourses") U ∧ va_Nw (.methodLinkNest RX4 35 yX3_init "PebbleCourses") U
theorem JC.calling {U : State} {f : JFrame} {mk : MethodId} {a : Array Value} (h : JC U) : JC (U.calling f mk a) := ⟨h.1.moved (Vm.Alike.refl U.vm), h.2.1.same rfl rfl, h.2.2.same rfl rfl⟩
theorem JC.at {s U : State} (h : JC s) (hW : s.WarmedH U.vm) : JC U := ⟨h.1.moved hW.alike, h.2.1.warmM hW, h.2.2.warmM hW⟩
abbrev PcC (av : List Value) (g : JG) (w0 : va_W) (sz : Nat) : Array Value → State → Prop := va_Pc av (fun U => U.heap.size = sz ∧ va_P g.1 vwCl w0 U.heap ∧ va_K g.1 vwCl (JT g) U ∧ va_D (fun _ => True) w0 ∧ JC U)
theorem PcC_blind {av : List Value} {g : JG} {w0 : va_W} {sz : Nat} : FrameBlind (PcC av g w0 sz) := fun a U f mk q => by
  obtain ⟨q0, q1, qP, qK, qD, qE⟩ := q
  exact ⟨q0, q1, qP, va_K.moved (u := U) (U := U.calling f mk a) (Vm.Alike.refl U.vm) qK, qD, qE.calling⟩
def MetC (l : Launch) (y : MethodName) (wsd : List Cond) (rm : Room) (av : List Value) (g : JG) (w0 : va_W) {S : Type} (w1 : S → va_W) : Prop :=
  l.flags = flags0 → ∀ sz : Nat, Met l y wsd rm (PcC av g w0 sz) (Qj mkV (fun (_ : Unit) (_ : S) => True) (fun u t => va_P g.1 vwCl (w1 u) t.heap ∧ va_D (va_A w0 sz) (w1 u)) (va_A w0 sz)) rm.cells rm.slots (va_A w0 sz)
def JHasC (X : JX) : Prop := match X with | (_, _, _, _, s, _, _, _, meth, _, _, _, _, _) => JC s ∧ meth.name = "<init>"
def JHasJ (X : JX) : Prop := match X with | (_, _, _, _, s, _, _, _, _, _, _, _, _, _) => JC s
theorem JHasC_J {X : JX} (h : JHasC X) : JHasJ X := by
  obtain ⟨p, l, e, R, s, m, args, below, meth, c, Q, A, D, nL0⟩ := X
  exact h.1
theorem enterC {l : Launch} {y : MethodName} {wsd ws' : List Cond} {rm : Room} {av : List Value} {g : JG} {w0 : va_W} {S : Type} {w1 : S → va_W} {own : String} {cc : ByteArray} {nL : Nat} {lv : List (Nat × Value)} (hy : plainName y.cls = true) (ho : y.cls = own) (hyn : y.name = "<init>") (hw : wsd = Cond.code y cc nL none :: ws') (hn : (lg_sl av).length ≤ nL) (hlv : lv_args 0 av = lv)
    (body : ∀ X : JX, JOk g X cc nL own wsd rm → JNew X → JHasC X → JRet g X none rm.cells rm.slots (fun v ws => v = none ∧ ∃ u : S, ws = w1 u) → J g X 0 0 w0 lv [] 0) : MetC l y wsd rm av g w0 w1 := by
  intro hfl sz
  refine Met.ofW (cc := cc) (maxL := nL) (ret := none) hy hw ?_
  intro p e s m args below meth c s₁ B hml hv
  obtain ⟨rfl, hsz, hP, hK, hD, hC⟩ := hv
  subst hsz
  have hts := atoms_spec (ws := wsd) B.pre
  have hl := lv_entry av (n := nL) hn
  rw [hlv] at hl
  rw [lg_entry_eq]
  refine body (p, l, e, rm, s, m, av.toArray, below, meth, c, _, va_A w0 s.heap.size, va_A w0 s.heap.size, nL) ⟨B.exec, B.bytes, hml, ho ▸ findClass_of_methodNamed B.named, hts, hK, rfl, hfl, rfl⟩ ⟨rfl, fun _ h => Or.inr h⟩ ⟨hC, (name_of_methodNamed B.named B.method).1.trans hyn⟩ ⟨B.returns, B.notSynchronized, _, _, fun _ _ _ h => h, fun _ h => h, ?_⟩ s.heap [] _ hP hD.self va_S.rf hl
  intro v ws H locs hp hP1 hD1 hS1 t ht hW
  obtain ⟨rfl, u, rfl⟩ := hp
  exact ⟨⟨(), u, rfl, trivial, by rw [ht]; exact hP1, hD1⟩, hS1.F ht⟩
theorem va_RA_one {g : JG} {s : State} {cA : ClassId} (h : va_K g.1 vwCl (JT g ++ [(cA, .int)]) s) : cA = g.2 0 := Option.some.inj ((h.2 4 (cA, .int) rfl).2.symm.trans (h.2 0 (g.2 0, .int) rfl).2)
theorem va_RA_chr {g : JG} {s : State} {cA : ClassId} (h : va_K g.1 vwCl (JT g ++ [(cA, .char)]) s) : cA = g.2 1 := Option.some.inj ((h.2 4 (cA, .char) rfl).2.symm.trans (h.2 1 (g.2 1, .char) rfl).2)
theorem va_RA_lng {g : JG} {s : State} {cA : ClassId} (h : va_K g.1 vwCl (JT g ++ [(cA, .long)]) s) : cA = g.2 2 := Option.some.inj ((h.2 4 (cA, .long) rfl).2.symm.trans (h.2 2 (g.2 2, .long) rfl).2)
theorem va_RA_obj {g : JG} {s : State} {cA : ClassId} (h : va_K g.1 vwCl (JT g ++ [(cA, .object "PebbleCourses$Mosaic")]) s) : cA = g.2 3 := by
  obtain ⟨k1, c1, -, -, -, h1⟩ := (h.2 4 (cA, .object "PebbleCourses$Mosaic") rfl).2
  obtain ⟨k2, c2, -, -, -, h2⟩ := (h.2 3 (g.2 3, .object "PebbleCourses$Mosaic") rfl).2
  exact Option.some.inj (h1.symm.trans h2)
section JCROWS
variable {g : JG} {X : JX} {cc : ByteArray} {nL : Nat} {own : String} {Ts : List Cond} {rm : Room} {k n pc pc' k' n' : Nat} {ws : va_W} {lv : List (Nat × Value)} {st : List Value}
  {y : MethodName} {bytes : ByteArray} {maxL : Nat} {wsd wsd' : List Cond} {rm' : Room} {idx na nb : Nat} {w0 : va_W} {As rest : List Value} {bs rs cs : List va_W}
theorem j_objInit (hX : JOk g X cc nL own Ts rm) {a idx : Nat} (h1 : Cond.methodLink own idx objectInit ∈ Ts) (h2 : Cond.instanceMethod objectInit ∈ Ts) (h3 : Cond.code objectInit ⟨#[0xb1]⟩ 1 none ∈ Ts) (hr : 1 ≤ rm.frames ∧ (st.map fun v => v.category).sum + 12 ≤ rm.locals) (hd : decode cc pc = .ok (.invokespecial idx, 3)) (hp : pc + 3 = pc') (kk : J g X k n ws lv st pc') : J g X k n ws lv (.ref a :: st) pc := by
  obtain ⟨p, l, e, R, s, m, args, below, meth, c, Q, A, D, nL0⟩ := X
  subst hp
  obtain rfl : R = rm := hX.2.2.2.2.2.2.1
  exact fun H locs ls hP hD hS hl => W.objInit hX.1 hX.2.1 hX.2.2.2.1 (hX.2.2.2.2.1 _ h1) (hX.2.2.2.2.1 _ h2) (hX.2.2.2.2.1 _ h3) rfl (hl.1.trans hX.2.2.1.symm) rfl hd hr.1 (by show 2 * 0 + _ + 12 ≤ _; omega) (W.eq rfl (kk H locs ls hP hD hS hl))
theorem j_newi (hX : JOk g X cc nL own Ts rm) (hW : JNew X) {z : Int32} {N : Nat} {ws' : Nat → va_W} (ha : Cond.arrayClass .int ∈ Ts) (hz : ¬ z < 0 ∧ z.toNatClampNeg = N ∧ N * componentBytes .int ≤ 536870912) (hr : k + 1 = k' ∧ n + N = n' ∧ k' ≤ rm.cells ∧ n' ≤ rm.slots) (hd : decode cc pc = .ok (.newarray .int, 2)) (hws : ∀ q : Nat, ws ++ [(q, .inl (g.2 0, N, .inl (fun _ => 0)))] = ws' q) (hp : pc + 2 = pc') (kk : ∀ q : Nat, J g X k' n' (ws' q) lv (.ref q :: st) pc') : J g X k n ws lv (.int z :: st) pc := by
  obtain ⟨p, l, e, R, s, m, args, below, meth, c, Q, A, D, nL0⟩ := X
  subst hp
  obtain rfl : R = rm := hX.2.2.2.2.2.2.1
  obtain ⟨rfl, hA⟩ := hW
  obtain ⟨rfl, rfl, h1, h2⟩ := hr
  exact fun H locs ls hP hD hS hl => va_newa (atype := .int) (ty := .int) (a0 := (N, .inl (fun _ => 0))) hX.1 hX.2.1 (hX.2.2.2.2.1 _ ha) rfl hX.2.2.2.2.2.1 hP hD hS hA (fun _ => rfl) hz.1 hz.2.1 hz.2.2 h1 h2 hd (fun q cA H1 hK1 hP1 hD1 hS1 => by
    obtain rfl := va_RA_one hK1
    rw [hws] at hP1 hD1
    exact kk q H1 locs ls hP1 hD1 hS1 hl)
theorem j_newc (hX : JOk g X cc nL own Ts rm) (hW : JNew X) {z : Int32} {N : Nat} {ws' : Nat → va_W} (ha : Cond.arrayClass .char ∈ Ts) (hz : ¬ z < 0 ∧ z.toNatClampNeg = N ∧ N * componentBytes .char ≤ 536870912) (hr : k + 1 = k' ∧ n + N = n' ∧ k' ≤ rm.cells ∧ n' ≤ rm.slots) (hd : decode cc pc = .ok (.newarray .char, 2)) (hws : ∀ q : Nat, ws ++ [(q, .inl (g.2 1, N, .inl (fun _ => 0)))] = ws' q) (hp : pc + 2 = pc') (kk : ∀ q : Nat, J g X k' n' (ws' q) lv (.ref q :: st) pc') : J g X k n ws lv (.int z :: st) pc := by
  obtain ⟨p, l, e, R, s, m, args, below, meth, c, Q, A, D, nL0⟩ := X
  subst hp
  obtain rfl : R = rm := hX.2.2.2.2.2.2.1
  obtain ⟨rfl, hA⟩ := hW
  obtain ⟨rfl, rfl, h1, h2⟩ := hr
  exact fun H locs ls hP hD hS hl => va_newa (atype := .char) (ty := .char) (a0 := (N, .inl (fun _ => 0))) hX.1 hX.2.1 (hX.2.2.2.2.1 _ ha) rfl hX.2.2.2.2.2.1 hP hD hS hA (fun _ => rfl) hz.1 hz.2.1 hz.2.2 h1 h2 hd (fun q cA H1 hK1 hP1 hD1 hS1 => by
    obtain rfl := va_RA_chr hK1
    rw [hws] at hP1 hD1
    exact kk q H1 locs ls hP1 hD1 hS1 hl)
theorem j_newl (hX : JOk g X cc nL own Ts rm) (hW : JNew X) {z : Int32} {N : Nat} {ws' : Nat → va_W} (ha : Cond.arrayClass .long ∈ Ts) (hz : ¬ z < 0 ∧ z.toNatClampNeg = N ∧ N * componentBytes .long ≤ 536870912) (hr : k + 1 = k' ∧ n + N = n' ∧ k' ≤ rm.cells ∧ n' ≤ rm.slots) (hd : decode cc pc = .ok (.newarray .long, 2)) (hws : ∀ q : Nat, ws ++ [(q, .inl (g.2 2, N, .inr (.inl (fun _ => 0))))] = ws' q) (hp : pc + 2 = pc') (kk : ∀ q : Nat, J g X k' n' (ws' q) lv (.ref q :: st) pc') : J g X k n ws lv (.int z :: st) pc := by
  obtain ⟨p, l, e, R, s, m, args, below, meth, c, Q, A, D, nL0⟩ := X
  subst hp
  obtain rfl : R = rm := hX.2.2.2.2.2.2.1
  obtain ⟨rfl, hA⟩ := hW
  obtain ⟨rfl, rfl, h1, h2⟩ := hr
  exact fun H locs ls hP hD hS hl => va_newa (atype := .long) (ty := .long) (a0 := (N, .inr (.inl (fun _ => 0)))) hX.1 hX.2.1 (hX.2.2.2.2.1 _ ha) rfl hX.2.2.2.2.2.1 hP hD hS hA (fun _ => rfl) hz.1 hz.2.1 hz.2.2 h1 h2 hd (fun q cA H1 hK1 hP1 hD1 hS1 => by
    obtain rfl := va_RA_lng hK1
    rw [hws] at hP1 hD1
    exact kk q H1 locs ls hP1 hD1 hS1 hl)
theorem j_newq (hX : JOk g X cc nL own Ts rm) (hW : JNew X) (hC : JHasC X) {z : Int32} {N idx : Nat} {ws' : Nat → va_W} (ha : Cond.classLink own idx "PebbleCourses$Mosaic" ∈ Ts) (hz : ¬ z < 0 ∧ z.toNatClampNeg = N ∧ N * 4 ≤ 536870912) (hr : k + 1 = k' ∧ n + N = n' ∧ k' ≤ rm.cells ∧ n' ≤ rm.slots) (hd : decode cc pc = .ok (.anewarray idx, 3)) (hws : ∀ q : Nat, ws ++ [(q, .inl (g.2 3, N, .inr (.inr (.inr (.inr (fun _ => none))))))] = ws' q) (hp : pc + 3 = pc') (kk : ∀ q : Nat, J g X k' n' (ws' q) lv (.ref q :: st) pc') : J g X k n ws lv (.int z :: st) pc := by
  obtain ⟨p, l, e, R, s, m, args, below, meth, c, Q, A, D, nL0⟩ := X
  subst hp
  obtain rfl : R = rm := hX.2.2.2.2.2.2.1
  obtain ⟨rfl, hA⟩ := hW
  obtain ⟨rfl, rfl, h1, h2⟩ := hr
  obtain ⟨⟨hao, -⟩, -⟩ := hC
  exact fun H locs ls hP hD hS hl => va_newq hX.1 hX.2.1 hX.2.2.2.1 (hX.2.2.2.2.1 _ ha) hao hX.2.2.2.2.2.1 hP hD hS hA hz.1 hz.2.1 hz.2.2 h1 h2 hd (fun q cA H1 hK1 hP1 hD1 hS1 => by
    obtain rfl := va_RA_obj hK1
    rw [hws] at hP1 hD1
    exact kk q H1 locs ls hP1 hD1 hS1 hl)
theorem j_new (hX : JOk g X cc nL own Ts rm) (hW : JNew X) {C : String} {T : u_T} {N ci idx : Nat} {ty : Nat → FieldType} {fs : List Value} {ws' : Nat → va_W} (hin : ∀ w ∈ u_ws C T N, w ∈ Ts) (hty : ∀ k, k < N → parseFieldDescriptor (T k).2.2.1 = some (ty k)) (hc : vwCl[ci]? = some (C, T, N)) (h1 : Cond.classLink own idx C ∈ Ts) (h2 : Cond.instantiable C N ∈ Ts) (h3 : Cond.initialized C ∈ Ts) (hfs : ∀ j, j < N → defaultValue (ty j) = vp_V fs j) (hr : k + 1 = k' ∧ n + N = n' ∧ k' ≤ rm.cells ∧ n' ≤ rm.slots) (hd : decode cc pc = .ok (.new idx, 3)) (hws : ∀ q : Nat, ws ++ [(q, .inr (ci, fs))] = ws' q) (hp : pc + 3 = pc') (kk : ∀ q : Nat, J g X k' n' (ws' q) lv (.ref q :: st) pc') : J g X k n ws lv st pc := by
  obtain ⟨p, l, e, R, s, m, args, below, meth, c, Q, A, D, nL0⟩ := X
  subst hp
  obtain rfl : R = rm := hX.2.2.2.2.2.2.1
  obtain ⟨rfl, hA⟩ := hW
  obtain ⟨rfl, rfl, h4, h5⟩ := hr
  exact fun H locs ls hP hD hS hl => va_new hX.1 hX.2.1 hX.2.2.2.2.1 hin ty hty hX.2.2.2.1 (hX.2.2.2.2.1 _ h1) (hX.2.2.2.2.1 _ h2) (hX.2.2.2.2.1 _ h3) hX.2.2.2.2.2.1 hP hD hS hA hc hfs h4 h5 hd (fun q H1 hP1 hD1 hS1 => by
    rw [hws] at hP1 hD1
    exact kk q H1 locs ls hP1 hD1 hS1 hl)
theorem j_putF (hX : JOk g X cc nL own Ts rm) (hW : JNew X) (hC : JHasC X) {C : String} {T : u_T} {N ci idx a : Nat} {fs : List Value} {v : Value} {ws' : va_W} (hin : ∀ w ∈ u_ws C T N, w ∈ Ts) {ty0 : Nat → FieldType} (hty : ∀ k, k < N → parseFieldDescriptor (T k).2.2.1 = some (ty0 k)) (hnm : ∀ a, a < N → ∀ b, b < N → a ≠ b → (T a).2.1 ≠ (T b).2.1) (hc : vwCl[ci]? = some (C, T, N)) (q0 : Nat) (he : ws[q0]? = some (a, .inr (ci, fs))) (f : Nat) (hf : f < N) (hl9 : Cond.fieldLink own idx (T f).1 (T f).2.1 (T f).2.2.1 ∈ Ts) (hfin : (T f).2.2.2 = true) (hdecl : (T f).1 = own) (hn : narrow (ty0 f) v = v) (hfit : fits (ty0 f) v = true) (hlen : f < fs.length) (hd : decode cc pc = .ok (.putfield idx, 3)) (hws : ws.set q0 (a, .inr (ci, fs.set f v)) = ws') (hp : pc + 3 = pc') (kk : J g X k n ws' lv st pc') : J g X k n ws lv (v :: .ref a :: st) pc := by
  obtain ⟨p, l, e, R, s, m, args, below, meth, c, Q, A, D, nL0⟩ := X
  subst hp
  obtain ⟨rfl, hA⟩ := hW
  exact fun H locs ls hP hD hS hl => va_putF hX.1 hX.2.1 hX.2.2.2.2.1 hin ty0 hty hnm hX.2.2.2.1 hX.2.2.2.2.2.1 hP hD hS q0 he hc f hf (hX.2.2.2.2.1 _ hl9) (fun _ h => h) hfin hC.2 hdecl (hty f hf) hn hfit hlen hd (fun H1 locs1 hP1 hD1 hS1 => kk H1 locs1 ls (hws ▸ hP1) (hws ▸ hD1) hS1 hl)
theorem j_callIC {S : Type} {w1 ws' : S → va_W} {bs' d1 : S → List va_W} {b : Nat} (hX : JOk g X cc nL own Ts rm) (hW : JNew X) (hC : JHasJ X) (hM : ∀ l, MetC l y wsd rm' (.ref b :: As) g w0 w1) (hw : wsd = Cond.code y bytes maxL none :: wsd') (hT : GoodIn Ts wsd) (hin1 : Cond.initialized y.cls ∈ Ts) (hin3 : Cond.instanceMethod y ∈ Ts) (hin4 : y.name = "<init>") (hin2 : Cond.methodLink own idx y ∈ Ts) (hy : yOk y na) (hna : As.length = na) (hR : rm'.frames + 1 ≤ rm.frames ∧ 8 + (maxL + 11) + rm'.locals ≤ rm.locals) (hkn : k + rm'.cells ≤ k' ∧ n + rm'.slots ≤ n' ∧ k' ≤ rm.cells ∧ n' ≤ rm.slots) (is : List Nat) (hbs : ws = bs.flatten) (hcs : w0 = cs.flatten) (hnb : bs.length = nb) (hpm : is.Perm (List.range nb)) (h0 : is.map (fun i => bs[i]?) = (rs ++ cs).map some) (hbs1 : ∀ u, ws' u = (bs' u).flatten) (hd1 : ∀ u, w1 u = (d1 u).flatten) (hnb1 : ∀ u, (bs' u).length = nb) (h1 : ∀ u, is.map (fun i => (bs' u)[i]?) = (rs ++ d1 u).map some) (hroom : (rest.map fun v => v.category).sum ≤ 8) (hst : st = As.reverse ++ .ref b :: rest) (hd : decode cc pc = .ok (.invokespecial idx, 3)) (hp : pc + 3 = pc') (kk : ∀ u, J g X k' n' (ws' u) lv rest pc') : J g X k n ws lv st pc := by
  obtain ⟨p, l, e, R, s, m, args, below, meth, c, Q, A, D, nL0⟩ := X
  subst hp
  subst hst
  obtain rfl : R = rm := hX.2.2.2.2.2.2.1
  obtain ⟨rfl, hA⟩ := hW
  have hC9 : JC s := hC
  intro H locs ls hP hD hS hl
  have hpw : (rs.flatten ++ w0).Perm ws := by rw [hbs, hcs]; exact permF is hnb hpm h0
  have hPp := va_P_perm hP hpw
  have hDp := va_D_perm hD hpw
  have hPc := va_P_right hPp
  have hDs := va_D_right hDp
  have hDc := hDs.weaken (B := fun _ => True) (fun _ _ _ _ => trivial)
  have hFc := va_freeB hDp hS hA
  have back : ∀ u, (ws' u).Perm (rs.flatten ++ w1 u) := fun u => by rw [hbs1 u, hd1 u]; exact (permF is (hnb1 u) hpm (h1 u)).symm
  refine q_call (va_runI (As := As) (rest := rest) ⟨hX.1, hX.2.1, hX.2.2.1, hX.2.2.2.1, hX.2.2.2.2.1⟩ (hM l hX.2.2.2.2.2.2.2.1 H.size) (cwI na hX.2.2.2.2.1 hT hw rfl rfl (hX.2.2.2.2.1 _ hin1) (hX.2.2.2.2.1 _ hin2) (hX.2.2.2.2.1 _ hin3) hin4 hy hR) ⟨PcC_blind, fun U hU hW => ⟨rfl, by rw [hU], by rw [hU]; exact hPc, va_K.moved hW.alike hX.2.2.2.2.2.1, hDc, JC.at hC9 hW⟩⟩ rfl hna hl.1 rfl (lv_room hroom) hd ⟨Nat.le_trans hkn.1 hkn.2.2.1, Nat.le_trans hkn.2.1 hkn.2.2.2⟩) hS (fun q _ h => hFc q h) hFc (fun r u t H1 locs1 ht hvm hw1 hB hz hk hS1 => ?_)
  obtain ⟨hP1, hD1⟩ := hB
  rw [ht] at hP1
  obtain ⟨hP2, hD2⟩ := va_joinB hPp hDp hk hFc hP1 hD1
  exact W.widen hkn.1 hkn.2.1 (kk u H1 locs1 ls (va_P_perm hP2 (back u)) (va_D_perm hD2 (back u)) hS1 hl)
theorem j_callNC {S : Type} {w1 ws' : S → va_W} {bs' d1 : S → List va_W} {b : Nat} (hX : JOk g X cc nL own Ts rm) (hW : JNew X) (hC : JHasJ X) (hM : ∀ l, MetC l y wsd rm' (.ref b :: As) g w0 w1) (hw : wsd = Cond.code y bytes maxL none :: wsd') (hT : GoodIn Ts wsd) (hin1 : Cond.initialized y.cls ∈ Ts) (hin3 : Cond.instanceMethod y ∈ Ts) (hin4 : y.name = "<init>") {host : String} (hin2 : ∀ s, JC s → va_Nw (.methodLinkNest own idx y host) s) (hy : yOk y na) (hna : As.length = na) (hR : rm'.frames + 1 ≤ rm.frames ∧ 8 + (maxL + 11) + rm'.locals ≤ rm.locals) (hkn : k + rm'.cells ≤ k' ∧ n + rm'.slots ≤ n' ∧ k' ≤ rm.cells ∧ n' ≤ rm.slots) (is : List Nat) (hbs : ws = bs.flatten) (hcs : w0 = cs.flatten) (hnb : bs.length = nb) (hpm : is.Perm (List.range nb)) (h0 : is.map (fun i => bs[i]?) = (rs ++ cs).map some) (hbs1 : ∀ u, ws' u = (bs' u).flatten) (hd1 : ∀ u, w1 u = (d1 u).flatten) (hnb1 : ∀ u, (bs' u).length = nb) (h1 : ∀ u, is.map (fun i => (bs' u)[i]?) = (rs ++ d1 u).map some) (hroom : (rest.map fun v => v.category).sum ≤ 8) (hst : st = As.reverse ++ .ref b :: rest) (hd : decode cc pc = .ok (.invokespecial idx, 3)) (hp : pc + 3 = pc') (kk : ∀ u, J g X k' n' (ws' u) lv rest pc') : J g X k n ws lv st pc := by
  obtain ⟨p, l, e, R, s, m, args, below, meth, c, Q, A, D, nL0⟩ := X
  subst hp
  subst hst
  obtain rfl : R = rm := hX.2.2.2.2.2.2.1
  obtain ⟨rfl, hA⟩ := hW
  have hC9 : JC s := hC
  intro H locs ls hP hD hS hl
  have hpw : (rs.flatten ++ w0).Perm ws := by rw [hbs, hcs]; exact permF is hnb hpm h0
  have hPp := va_P_perm hP hpw
  have hDp := va_D_perm hD hpw
  have hPc := va_P_right hPp
  have hDs := va_D_right hDp
  have hDc := hDs.weaken (B := fun _ => True) (fun _ _ _ _ => trivial)
  have hFc := va_freeB hDp hS hA
  have back : ∀ u, (ws' u).Perm (rs.flatten ++ w1 u) := fun u => by rw [hbs1 u, hd1 u]; exact (permF is (hnb1 u) hpm (h1 u)).symm
  refine q_call (va_runIN (As := As) (rest := rest) ⟨hX.1, hX.2.1, hX.2.2.1, hX.2.2.2.1, hX.2.2.2.2.1⟩ (hM l hX.2.2.2.2.2.2.2.1 H.size) (⟨va_cnB na hX.2.2.2.2.1 hT hw rfl rfl (hin2 _ hC9) (hX.2.2.2.2.1 _ hin1) hy hR, hin4, hX.2.2.2.2.1 _ hin3⟩) ⟨PcC_blind, fun U hU hW => ⟨rfl, by rw [hU], by rw [hU]; exact hPc, va_K.moved hW.alike hX.2.2.2.2.2.1, hDc, JC.at hC9 hW⟩⟩ rfl hna hl.1 rfl (lv_room hroom) hd ⟨Nat.le_trans hkn.1 hkn.2.2.1, Nat.le_trans hkn.2.1 hkn.2.2.2⟩) hS (fun q _ h => hFc q h) hFc (fun r u t H1 locs1 ht hvm hw1 hB hz hk hS1 => ?_)
  obtain ⟨hP1, hD1⟩ := hB
  rw [ht] at hP1
  obtain ⟨hP2, hD2⟩ := va_joinB hPp hDp hk hFc hP1 hD1
  exact W.widen hkn.1 hkn.2.1 (kk u H1 locs1 ls (va_P_perm hP2 (back u)) (va_D_perm hD2 (back u)) hS1 hl)
end JCROWS
