/-! CONTRACTS and calls in the form J: MetR reads its world alone, MetM brings its world w0 to w1 u. mk: the answer as the machine has it. -/
def Qj {α S : Type} (mk : α → Option Value) (post : α → S → Prop) (B : S → State → Prop) (A1 : Nat → Prop) : Array Value → State → Outcome → State → Prop := fun _ st oc t => (∃ (r : α) (u : S), oc = .returned (mk r) ∧ post r u ∧ B u t) ∧ va_F A1 st t
abbrev mkI : Int32 → Option Value := fun r => some (.int r)
abbrev mkL : Int64 → Option Value := fun r => some (.long r)
abbrev mkD : UInt64 → Option Value := fun r => some (.double r)
abbrev mkV : Unit → Option Value := fun _ => none
abbrev mkQ : Option Nat → Option Value := fun r => some (va_rf r)
abbrev PcJ (av : List Value) (g : JG) (w0 : va_W) : Array Value → State → Prop := va_Pc av (fun U => va_P g.1 vwCl w0 U.heap ∧ va_K g.1 vwCl (JT g) U ∧ va_D (fun _ => True) w0)
abbrev PcM (av : List Value) (g : JG) (w0 : va_W) (sz : Nat) : Array Value → State → Prop := va_Pc av (fun U => U.heap.size = sz ∧ va_P g.1 vwCl w0 U.heap ∧ va_K g.1 vwCl (JT g) U ∧ va_D (fun _ => True) w0)
def MetR (l : Launch) (y : MethodName) (wsd : List Cond) (rm : Room) (av : List Value) (g : JG) (w0 : va_W) {α : Type} (mk : α → Option Value) (post : α → Prop) : Prop :=
  l.flags = flags0 → Met l y wsd rm (PcJ av g w0) (Qj mk (fun r (_ : Unit) => post r) (fun _ _ => True) (fun _ => False)) 0 0 (fun _ => False)
def MetM (l : Launch) (y : MethodName) (wsd : List Cond) (rm : Room) (av : List Value) (g : JG) (w0 : va_W) {α S : Type} (mk : α → Option Value) (post : α → S → Prop) (w1 : S → va_W) : Prop :=
  l.flags = flags0 → ∀ sz : Nat, Met l y wsd rm (PcM av g w0 sz) (Qj mk post (fun u t => va_P g.1 vwCl (w1 u) t.heap ∧ va_D (va_A w0 sz) (w1 u)) (va_A w0 sz)) rm.cells rm.slots (va_A w0 sz)
theorem PcJ_blind {av : List Value} {g : JG} {w0 : va_W} : FrameBlind (PcJ av g w0) := fun a U f mk q => by
  obtain ⟨q0, qP, qK, qD⟩ := q
  exact ⟨q0, qP, va_K.moved (u := U) (U := U.calling f mk a) (Vm.Alike.refl U.vm) qK, qD⟩
theorem PcM_blind {av : List Value} {g : JG} {w0 : va_W} {sz : Nat} : FrameBlind (PcM av g w0 sz) := fun a U f mk q => by
  obtain ⟨q0, q1, qP, qK, qD⟩ := q
  exact ⟨q0, q1, qP, va_K.moved (u := U) (U := U.calling f mk a) (Vm.Alike.refl U.vm) qK, qD⟩
theorem va_P.subm {D : va_G} {cl : List vw_C} {ws ws' : va_W} {H : Heap} (h : va_P D cl ws H) (is : List Nat) (hs : is.map (fun i => ws[i]?) = ws'.map some) : va_P D cl ws' H := by
  intro k q hk
  have h1 : (is.map (fun i => ws[i]?))[k]? = some (some q) := by rw [hs, List.getElem?_map, hk]; rfl
  rw [List.getElem?_map] at h1
  cases hi : is[k]? with
  | none => rw [hi] at h1; cases h1
  | some i => rw [hi] at h1; exact h i q (Option.some.inj h1)
/-- the plain facts of a method's name, for n arguments -/
abbrev yOk (y : MethodName) (n : Nat) : Prop := y.cls ≠ "java/lang/invoke/MethodHandle" ∧ y.cls ≠ "java/lang/invoke/VarHandle" ∧ (parseMethodDescriptor y.desc).map (fun d => d.parameters.length) = some n
section JENTER
variable {l : Launch} {y : MethodName} {wsd ws' : List Cond} {rm : Room} {av : List Value} {g : JG} {w0 : va_W}
theorem enterR {α : Type} {mk : α → Option Value} {post : α → Prop} {own : String} {cc : ByteArray} {nL : Nat} {ret : Option FieldType} {lv : List (Nat × Value)} (hy : plainName y.cls = true) (ho : y.cls = own) (hw : wsd = Cond.code y cc nL ret :: ws') (hn : (lg_sl av).length ≤ nL) (hlv : lv_args 0 av = lv)
    (body : ∀ X : JX, JOk g X cc nL own wsd rm → JRet g X ret 0 0 (fun v _ => ∃ r : α, v = mk r ∧ post r) → J g X 0 0 w0 lv [] 0) : MetR l y wsd rm av g w0 mk post := by
  intro hfl
  refine Met.ofW (cc := cc) (maxL := nL) (ret := ret) hy hw ?_
  intro p e s m args below meth c s₁ B hml hv
  obtain ⟨rfl, hP, hK, hD⟩ := hv
  have hts := atoms_spec (ws := wsd) B.pre
  have hl := lv_entry av (n := nL) hn
  rw [hlv] at hl
  rw [lg_entry_eq]
  refine body (p, l, e, rm, s, m, av.toArray, below, meth, c, _, (fun _ => False), (fun _ => True), nL) ⟨B.exec, B.bytes, hml, ho ▸ findClass_of_methodNamed B.named, hts, hK, rfl, hfl, rfl⟩ ⟨B.returns, B.notSynchronized, _, _, fun _ _ _ h => h, fun _ h => h, ?_⟩ s.heap [] _ hP hD va_S.rf hl
  intro v ws H locs hp hP1 hD1 hS1 t ht hW
  obtain ⟨r, rfl, hq⟩ := hp
  exact ⟨⟨r, (), rfl, hq, trivial⟩, hS1.F ht⟩
theorem enterM {α S : Type} {mk : α → Option Value} {post : α → S → Prop} {w1 : S → va_W} {own : String} {cc : ByteArray} {nL : Nat} {ret : Option FieldType} {lv : List (Nat × Value)} (hy : plainName y.cls = true) (ho : y.cls = own) (hw : wsd = Cond.code y cc nL ret :: ws') (hn : (lg_sl av).length ≤ nL) (hlv : lv_args 0 av = lv)
    (body : ∀ X : JX, JOk g X cc nL own wsd rm → JNew X → JRet g X ret rm.cells rm.slots (fun v ws => ∃ (r : α) (u : S), v = mk r ∧ post r u ∧ ws = w1 u) → J g X 0 0 w0 lv [] 0) : MetM l y wsd rm av g w0 mk post w1 := by
  intro hfl sz
  refine Met.ofW (cc := cc) (maxL := nL) (ret := ret) hy hw ?_
  intro p e s m args below meth c s₁ B hml hv
  obtain ⟨rfl, hsz, hP, hK, hD⟩ := hv
  subst hsz
  have hts := atoms_spec (ws := wsd) B.pre
  have hl := lv_entry av (n := nL) hn
  rw [hlv] at hl
  rw [lg_entry_eq]
  refine body (p, l, e, rm, s, m, av.toArray, below, meth, c, _, va_A w0 s.heap.size, va_A w0 s.heap.size, nL) ⟨B.exec, B.bytes, hml, ho ▸ findClass_of_methodNamed B.named, hts, hK, rfl, hfl, rfl⟩ ⟨rfl, fun _ h => Or.inr h⟩ ⟨B.returns, B.notSynchronized, _, _, fun _ _ _ h => h, fun _ h => h, ?_⟩ s.heap [] _ hP hD.self va_S.rf hl
  intro v ws H locs hp hP1 hD1 hS1 t ht hW
  obtain ⟨r, u, rfl, hq, rfl⟩ := hp
  exact ⟨⟨r, u, rfl, hq, by rw [ht]; exact hP1, hD1⟩, hS1.F ht⟩
end JENTER
section JCALLS
variable {p : Program} {l : Launch} {e : Env} {R : Room} {s : State} {m : MethodId} {args : Array Value} {below : List Frame} {meth : Method} {c : Code} {H : Heap} {locs : List Loc} {cells slots : Nat} {Q : State → Prop} {pc : Nat} {ls : Array Slot} {rest st0 : List Value} {a : Array Value} {A0 A1 : Nat → Prop} {H0 : Heap} {mc ms : Nat} {free : Addr → Prop}
theorem q_call {α S : Type} {mk : α → Option Value} {post : α → S → Prop} {B : S → State → Prop} (hr : va_Run p l e R s m args below meth c H locs cells slots mc ms (F0 m pc ls st0) rest (Qj mk post B A1 a) free) (hS : va_S A0 H0 H locs) (hA : ∀ q, q < H.size → A1 q → A0 q) (hf : ∀ q, free q → A0 q)
    (kk : ∀ (r : α) (u : S) (t : State) (H1 : Heap) (locs1 : List Loc), t.heap = H1 → s.vm.Alike t.vm → post r u → B u t → H.size ≤ H1.size → (∀ q : Nat, q < H.size → ¬ A1 q → H1[q]? = H[q]?) → va_S A0 H0 H1 locs1 → W p l e R s m args below meth c H1 locs1 (cells + mc) (slots + ms) Q (F0 m (pc + 3) ls ((mk r).toList ++ rest))) : W p l e R s m args below meth c H locs cells slots Q (F0 m pc ls st0) := by
  intro T hT X
  obtain ⟨v, st₀, t, T', L, h0, X', hL, e1, e2, ⟨⟨r, u, hv, hp, hb⟩, hz, hk⟩, st⟩ := hr T hT X
  obtain rfl : v = mk r := Outcome.returned.inj hv
  rw [h0] at hz hk
  obtain ⟨t2, a1, b1⟩ := kk r u t T'.heap (locs ++ L) e1.symm (by rw [← e2]; exact X'.warmed.alike) hp hb (by rw [e1]; exact hz) (fun q h1 h2 => by rw [e1]; exact hk q h1 h2)
    ⟨Nat.le_trans hS.1 (by rw [e1]; exact hz), fun q h1 h2 => by rw [e1, hk q (Nat.lt_of_lt_of_le h1 hS.1) (fun z => h2 (hA q (Nat.lt_of_lt_of_le h1 hS.1) z))]; exact hS.2.1 q h1 h2, fun q hq => by
      rcases List.mem_append.mp hq with h | h
      · exact hS.2.2 q h
      · exact hf _ (hL q h)⟩ T' rfl X'
  exact ⟨t2, st t2 a1, b1⟩
end JCALLS
section JCALLROWS
variable {g : JG} {X : JX} {cc : ByteArray} {nL : Nat} {own : String} {Ts : List Cond} {rm : Room} {k n pc pc' : Nat} {ws : va_W} {lv : List (Nat × Value)} {st : List Value}
  {y : MethodName} {bytes : ByteArray} {maxL : Nat} {ret : Option FieldType} {wsd wsd' : List Cond} {rm' : Room} {idx na : Nat} {w0 wr : va_W} {As rest : List Value}

theorem j_callVR {α : Type} {mk : α → Option Value} {post : α → Prop} {stk : α → List Value} {b : Nat} (hX : JOk g X cc nL own Ts rm) (hM : ∀ l, MetR l y wsd rm' (.ref b :: As) g w0 mk post) (hw : wsd = Cond.code y bytes maxL ret :: wsd') (hT : GoodIn Ts (wsV own idx y.cls y wsd)) (hy : yOk y na) (hna : As.length = na) (hR : rm'.frames + 1 ≤ rm.frames ∧ 8 + (maxL + 11) + rm'.locals ≤ rm.locals) (hkn : (k ≤ rm.cells ∧ n ≤ rm.slots) ∧ rm'.cells = 0 ∧ rm'.slots = 0) {ci N : Nat} {T : u_T} {fs : List Value} (q0 : Nat) (hq : ws[q0]? = some (b, .inr (ci, fs))) (hc : vwCl[ci]? = some (y.cls, T, N)) (is : List Nat) (his : is.map (fun i => ws[i]?) = w0.map some) (hnd : va_nd is = true) (hroom : (rest.map fun v => v.category).sum ≤ 8) (hst : st = As.reverse ++ .ref b :: rest) (hst' : ∀ r, (mk r).toList ++ rest = stk r) (hd : decode cc pc = .ok (.invokevirtual idx, 3)) (hp : pc + 3 = pc') (kk : ∀ r, post r → J g X k n ws lv (stk r) pc') : J g X k n ws lv st pc := by
  obtain ⟨p, l, e, R, s, m, args, below, meth, c, Q, A, D, nL0⟩ := X
  subst hp
  subst hst
  obtain rfl : R = rm := hX.2.2.2.2.2.2.1
  intro H locs ls hP hD hS hl
  have hPc := hP.subm is his
  have hDc := (hD.sub is hnd his).weaken (B := fun _ => True) (fun _ _ _ _ => trivial)
  refine q_call (mc := 0) (ms := 0) (va_runV (As := As) (rest := rest) ⟨hX.1, hX.2.1, hX.2.2.1, hX.2.2.2.1, hX.2.2.2.2.1⟩ (hM l hX.2.2.2.2.2.2.2.1) (cwV na hX.2.2.2.2.1 hT hw hkn.2.1 hkn.2.2 ⟨rfl, hy⟩ hR) ⟨PcJ_blind, va_recv hX.2.2.2.2.2.1 hP hc hq, fun U hU hW => ⟨rfl, by rw [hU]; exact hPc, va_K.moved hW.alike hX.2.2.2.2.2.1, hDc⟩⟩ rfl hna hl.1 rfl (lv_room hroom) hd hkn.1) hS (fun _ _ h => h.elim) (fun _ h => h.elim) (fun r u t H1 locs1 ht hvm hw1 hB hz hk hS1 => ?_)
  have h9 := kk r hw1 H1 locs1 ls (hP.kept (fun k9 q9 hk9 => hk q9.1 (hP k9 q9 hk9).lt (fun h => h.elim))) hD hS1 hl
  rw [← hst' r] at h9
  exact h9
theorem j_callVM {α S : Type} {mk : α → Option Value} {post : α → S → Prop} {w1 : S → va_W} {ws' : S → va_W} {stk : α → List Value} {k' n' : Nat} {b : Nat} (hX : JOk g X cc nL own Ts rm) (hW : JNew X) (hM : ∀ l, MetM l y wsd rm' (.ref b :: As) g w0 mk post w1) (hw : wsd = Cond.code y bytes maxL ret :: wsd') (hT : GoodIn Ts (wsV own idx y.cls y wsd)) (hy : yOk y na) (hna : As.length = na) (hR : rm'.frames + 1 ≤ rm.frames ∧ 8 + (maxL + 11) + rm'.locals ≤ rm.locals) (hkn : k + rm'.cells ≤ k' ∧ n + rm'.slots ≤ n' ∧ k' ≤ rm.cells ∧ n' ≤ rm.slots) {ci N : Nat} {T : u_T} {fs : List Value} (q0 : Nat) (hq : ws[q0]? = some (b, .inr (ci, fs))) (hc : vwCl[ci]? = some (y.cls, T, N)) (is isR is3 : List Nat) (his : is.map (fun i => ws[i]?) = w0.map some) (hnd : va_nd is = true) (hisR : isR.map (fun i => ws[i]?) = wr.map some) (hndR : va_nd isR = true) (hdis : ∀ i ∈ isR, i ∉ is) (h3 : ∀ u, is3.map (fun i => (wr ++ w1 u)[i]?) = (ws' u).map some) (hnd3 : va_nd is3 = true) (hroom : (rest.map fun v => v.category).sum ≤ 8) (hst : st = As.reverse ++ .ref b :: rest) (hst' : ∀ r, (mk r).toList ++ rest = stk r) (hd : decode cc pc = .ok (.invokevirtual idx, 3)) (hp : pc + 3 = pc') (kk : ∀ r u, post r u → J g X k' n' (ws' u) lv (stk r) pc') : J g X k n ws lv st pc := by
  obtain ⟨p, l, e, R, s, m, args, below, meth, c, Q, A, D, nL0⟩ := X
  subst hp
  subst hst
  obtain rfl : R = rm := hX.2.2.2.2.2.2.1
  obtain ⟨rfl, hA⟩ := hW
  intro H locs ls hP hD hS hl
  have hPc := hP.subm is his
  have hDc := (hD.sub is hnd his).weaken (B := fun _ => True) (fun _ _ _ _ => trivial)
  have hFc := va_free hD hS hA is his
  refine q_call (va_runV (As := As) (rest := rest) ⟨hX.1, hX.2.1, hX.2.2.1, hX.2.2.2.1, hX.2.2.2.2.1⟩ (hM l hX.2.2.2.2.2.2.2.1 H.size) (cwV na hX.2.2.2.2.1 hT hw rfl rfl ⟨rfl, hy⟩ hR) ⟨PcM_blind, va_recv hX.2.2.2.2.2.1 hP hc hq, fun U hU hW => ⟨rfl, by rw [hU], by rw [hU]; exact hPc, va_K.moved hW.alike hX.2.2.2.2.2.1, hDc⟩⟩ rfl hna hl.1 rfl (lv_room hroom) hd ⟨Nat.le_trans hkn.1 hkn.2.2.1, Nat.le_trans hkn.2.1 hkn.2.2.2⟩) hS (fun q _ h => hFc q h) hFc (fun r u t H1 locs1 ht hvm hw1 hB hz hk hS1 => ?_)
  obtain ⟨hP1, hD1⟩ := hB
  rw [ht] at hP1
  obtain ⟨hP2, hD2⟩ := va_join hP hD is isR his hisR hndR hdis hk hFc hP1 hD1
  have h9 := kk r u hw1 H1 locs1 ls (hP2.subm is3 (h3 u)) (hD2.sub is3 hnd3 (h3 u)) hS1 hl
  rw [← hst' r] at h9
  exact W.widen hkn.1 hkn.2.1 h9
theorem j_callSR {α : Type} {mk : α → Option Value} {post : α → Prop} {stk : α → List Value} (hX : JOk g X cc nL own Ts rm) (hM : ∀ l, MetR l y wsd rm' As g w0 mk post) (hw : wsd = Cond.code y bytes maxL ret :: wsd') (hT : GoodIn Ts (va_wsS own idx y wsd)) (hy : yOk y na) (hna : As.length = na) (hR : rm'.frames + 1 ≤ rm.frames ∧ 8 + (maxL + 11) + rm'.locals ≤ rm.locals) (hkn : (k ≤ rm.cells ∧ n ≤ rm.slots) ∧ rm'.cells = 0 ∧ rm'.slots = 0) (is : List Nat) (his : is.map (fun i => ws[i]?) = w0.map some) (hnd : va_nd is = true) (hroom : (rest.map fun v => v.category).sum ≤ 8) (hst : st = As.reverse ++ rest) (hst' : ∀ r, (mk r).toList ++ rest = stk r) (hd : decode cc pc = .ok (.invokestatic idx, 3)) (hp : pc + 3 = pc') (kk : ∀ r, post r → J g X k n ws lv (stk r) pc') : J g X k n ws lv st pc := by
  obtain ⟨p, l, e, R, s, m, args, below, meth, c, Q, A, D, nL0⟩ := X
  subst hp
  subst hst
  obtain rfl : R = rm := hX.2.2.2.2.2.2.1
  intro H locs ls hP hD hS hl
  have hPc := hP.subm is his
  have hDc := (hD.sub is hnd his).weaken (B := fun _ => True) (fun _ _ _ _ => trivial)
  refine q_call (mc := 0) (ms := 0) (va_runS (As := As) (rest := rest) ⟨hX.1, hX.2.1, hX.2.2.1, hX.2.2.2.1, hX.2.2.2.2.1⟩ (hM l hX.2.2.2.2.2.2.2.1) (va_cwS na hX.2.2.2.2.1 hT hw hkn.2.1 hkn.2.2 hy hR) ⟨PcJ_blind, fun U hU hW => ⟨rfl, by rw [hU]; exact hPc, va_K.moved hW.alike hX.2.2.2.2.2.1, hDc⟩⟩ rfl hna hl.1 rfl (lv_room hroom) hd hkn.1) hS (fun _ _ h => h.elim) (fun _ h => h.elim) (fun r u t H1 locs1 ht hvm hw1 hB hz hk hS1 => ?_)
  have h9 := kk r hw1 H1 locs1 ls (hP.kept (fun k9 q9 hk9 => hk q9.1 (hP k9 q9 hk9).lt (fun h => h.elim))) hD hS1 hl
  rw [← hst' r] at h9
  exact h9
theorem j_callSM {α S : Type} {mk : α → Option Value} {post : α → S → Prop} {w1 : S → va_W} {ws' : S → va_W} {stk : α → List Value} {k' n' : Nat} (hX : JOk g X cc nL own Ts rm) (hW : JNew X) (hM : ∀ l, MetM l y wsd rm' As g w0 mk post w1) (hw : wsd = Cond.code y bytes maxL ret :: wsd') (hT : GoodIn Ts (va_wsS own idx y wsd)) (hy : yOk y na) (hna : As.length = na) (hR : rm'.frames + 1 ≤ rm.frames ∧ 8 + (maxL + 11) + rm'.locals ≤ rm.locals) (hkn : k + rm'.cells ≤ k' ∧ n + rm'.slots ≤ n' ∧ k' ≤ rm.cells ∧ n' ≤ rm.slots) (is isR is3 : List Nat) (his : is.map (fun i => ws[i]?) = w0.map some) (hnd : va_nd is = true) (hisR : isR.map (fun i => ws[i]?) = wr.map some) (hndR : va_nd isR = true) (hdis : ∀ i ∈ isR, i ∉ is) (h3 : ∀ u, is3.map (fun i => (wr ++ w1 u)[i]?) = (ws' u).map some) (hnd3 : va_nd is3 = true) (hroom : (rest.map fun v => v.category).sum ≤ 8) (hst : st = As.reverse ++ rest) (hst' : ∀ r, (mk r).toList ++ rest = stk r) (hd : decode cc pc = .ok (.invokestatic idx, 3)) (hp : pc + 3 = pc') (kk : ∀ r u, post r u → J g X k' n' (ws' u) lv (stk r) pc') : J g X k n ws lv st pc := by
  obtain ⟨p, l, e, R, s, m, args, below, meth, c, Q, A, D, nL0⟩ := X
  subst hp
  subst hst
  obtain rfl : R = rm := hX.2.2.2.2.2.2.1
  obtain ⟨rfl, hA⟩ := hW
  intro H locs ls hP hD hS hl
  have hPc := hP.subm is his
  have hDc := (hD.sub is hnd his).weaken (B := fun _ => True) (fun _ _ _ _ => trivial)
  have hFc := va_free hD hS hA is his
  refine q_call (va_runS (As := As) (rest := rest) ⟨hX.1, hX.2.1, hX.2.2.1, hX.2.2.2.1, hX.2.2.2.2.1⟩ (hM l hX.2.2.2.2.2.2.2.1 H.size) (va_cwS na hX.2.2.2.2.1 hT hw rfl rfl hy hR) ⟨PcM_blind, fun U hU hW => ⟨rfl, by rw [hU], by rw [hU]; exact hPc, va_K.moved hW.alike hX.2.2.2.2.2.1, hDc⟩⟩ rfl hna hl.1 rfl (lv_room hroom) hd ⟨Nat.le_trans hkn.1 hkn.2.2.1, Nat.le_trans hkn.2.1 hkn.2.2.2⟩) hS (fun q _ h => hFc q h) hFc (fun r u t H1 locs1 ht hvm hw1 hB hz hk hS1 => ?_)
  obtain ⟨hP1, hD1⟩ := hB
  rw [ht] at hP1
  obtain ⟨hP2, hD2⟩ := va_join hP hD is isR his hisR hndR hdis hk hFc hP1 hD1
  have h9 := kk r u hw1 H1 locs1 ls (hP2.subm is3 (h3 u)) (hD2.sub is3 hnd3 (h3 u)) hS1 hl
  rw [← hst' r] at h9
  exact W.widen hkn.1 hkn.2.1 h9
theorem j_callIM {α S : Type} {mk : α → Option Value} {post : α → S → Prop} {w1 : S → va_W} {ws' : S → va_W} {stk : α → List Value} {k' n' : Nat} {b : Nat} (hX : JOk g X cc nL own Ts rm) (hW : JNew X) (hM : ∀ l, MetM l y wsd rm' (.ref b :: As) g w0 mk post w1) (hw : wsd = Cond.code y bytes maxL none :: wsd') (hT : GoodIn Ts wsd) (hin1 : Cond.initialized y.cls ∈ Ts) (hin2 : Cond.methodLink own idx y ∈ Ts) (hin3 : Cond.instanceMethod y ∈ Ts) (hin4 : y.name = "<init>") (hy : yOk y na) (hna : As.length = na) (hR : rm'.frames + 1 ≤ rm.frames ∧ 8 + (maxL + 11) + rm'.locals ≤ rm.locals) (hkn : k + rm'.cells ≤ k' ∧ n + rm'.slots ≤ n' ∧ k' ≤ rm.cells ∧ n' ≤ rm.slots) (is isR is3 : List Nat) (his : is.map (fun i => ws[i]?) = w0.map some) (hnd : va_nd is = true) (hisR : isR.map (fun i => ws[i]?) = wr.map some) (hndR : va_nd isR = true) (hdis : ∀ i ∈ isR, i ∉ is) (h3 : ∀ u, is3.map (fun i => (wr ++ w1 u)[i]?) = (ws' u).map some) (hnd3 : va_nd is3 = true) (hroom : (rest.map fun v => v.category).sum ≤ 8) (hst : st = As.reverse ++ .ref b :: rest) (hst' : ∀ r, (mk r).toList ++ rest = stk r) (hd : decode cc pc = .ok (.invokespecial idx, 3)) (hp : pc + 3 = pc') (kk : ∀ r u, post r u → J g X k' n' (ws' u) lv (stk r) pc') : J g X k n ws lv st pc := by
  obtain ⟨p, l, e, R, s, m, args, below, meth, c, Q, A, D, nL0⟩ := X
  subst hp
  subst hst
  obtain rfl : R = rm := hX.2.2.2.2.2.2.1
  obtain ⟨rfl, hA⟩ := hW
  intro H locs ls hP hD hS hl
  have hPc := hP.subm is his
  have hDc := (hD.sub is hnd his).weaken (B := fun _ => True) (fun _ _ _ _ => trivial)
  have hFc := va_free hD hS hA is his
  refine q_call (va_runI (As := As) (rest := rest) ⟨hX.1, hX.2.1, hX.2.2.1, hX.2.2.2.1, hX.2.2.2.2.1⟩ (hM l hX.2.2.2.2.2.2.2.1 H.size) (cwI na hX.2.2.2.2.1 hT hw rfl rfl (hX.2.2.2.2.1 _ hin1) (hX.2.2.2.2.1 _ hin2) (hX.2.2.2.2.1 _ hin3) hin4 hy hR) ⟨PcM_blind, fun U hU hW => ⟨rfl, by rw [hU], by rw [hU]; exact hPc, va_K.moved hW.alike hX.2.2.2.2.2.1, hDc⟩⟩ rfl hna hl.1 rfl (lv_room hroom) hd ⟨Nat.le_trans hkn.1 hkn.2.2.1, Nat.le_trans hkn.2.1 hkn.2.2.2⟩) hS (fun q _ h => hFc q h) hFc (fun r u t H1 locs1 ht hvm hw1 hB hz hk hS1 => ?_)
  obtain ⟨hP1, hD1⟩ := hB
  rw [ht] at hP1
  obtain ⟨hP2, hD2⟩ := va_join hP hD is isR his hisR hndR hdis hk hFc hP1 hD1
  have h9 := kk r u hw1 H1 locs1 ls (hP2.subm is3 (h3 u)) (hD2.sub is3 hnd3 (h3 u)) hS1 hl
  rw [← hst' r] at h9
  exact W.widen hkn.1 hkn.2.1 h9
end JCALLROWS
