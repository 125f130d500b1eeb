/-! METHODS THAT MAY THROW, in the form J: what the start must hold beside (JEnv), the contract MetX, the frame with an exception over it (JThr). On a throw the world is as it was. -/
abbrev XI : String := "java/lang/IndexOutOfBoundsException"
abbrev XA : String := "java/lang/IllegalArgumentException"
abbrev XS : String := "java/lang/IllegalStateException"
abbrev XN : List String := ["java/lang/RuntimeException", "java/lang/Exception"]
def JEnv (A : Nat → Prop) (U : State) : Prop :=
  vx_Zq Bundle.tN "UNASSIGNED_STACK" Bundle.steD A U U.heap ∧ vx_Zq Bundle.tN "SUPPRESSED_SENTINEL" Bundle.listD A U U.heap ∧
  (∃ a : Nat, vk_R RX4 221 "there is no such course, cell or setting" a U) ∧
  (∃ a : Nat, vk_R RX4 228 "an argument is out of range, or the buffer is not complete" a U) ∧
  (∃ a : Nat, vk_R RX4 233 "it is refused in this state" a U) ∧
  (va_Nw (.castable XI XI) U ∧ va_Nw (.castable XA XA) U ∧ va_Nw (.castable XS XS) U) ∧
  (va_Nc XI XA U ∧ va_Nc XI XS U ∧ va_Nc XA XI U ∧ va_Nc XA XS U ∧ va_Nc XS XI U ∧ va_Nc XS XA U) ∧
  (va_Nw (.declares (Bundle.initS "java/lang/RuntimeException")) U ∧ va_Nw (.declares (Bundle.initS "java/lang/Exception")) U ∧ va_Nw (.declares (Bundle.initS Bundle.tN)) U)
theorem fl_st {l : Launch} (h : l.flags = flags0) : l.stackTraces = false := by
  unfold Launch.stackTraces
  rw [h]
  decide +kernel
theorem JEnv.calling {A : Nat → Prop} {U : State} {f : JFrame} {mk : MethodId} {a : Array Value} (h : JEnv A U) : JEnv A (U.calling f mk a) := by
  obtain ⟨h1, h2, ⟨a3, h3⟩, ⟨a4, h4⟩, ⟨a5, h5⟩, ⟨h6, h7, h8⟩, ⟨h9, h10, h11, h12, h13, h14⟩, h15, h16, h17⟩ := h
  have hv : (U.calling f mk a).vm = U.vm := rfl
  have ha : U.vm.Alike (U.calling f mk a).vm := Vm.Alike.refl U.vm
  exact ⟨h1.moved ha, h2.moved ha, ⟨a3, h3.same hv⟩, ⟨a4, h4.same hv⟩, ⟨a5, h5.same hv⟩, ⟨h6.same rfl hv.symm, h7.same rfl hv.symm, h8.same rfl hv.symm⟩, ⟨h9.moved ha, h10.moved ha, h11.moved ha, h12.moved ha, h13.moved ha, h14.moved ha⟩, h15.same rfl hv.symm, h16.same rfl hv.symm, h17.same rfl hv.symm⟩
theorem JEnv.at {A A' : Nat → Prop} {s U : State} {locs : List Loc} (h : JEnv A s) (hS : va_S A s.heap U.heap locs) (hW : s.WarmedH U.vm) (hA : ∀ q, A' q → A q) : JEnv A' U := by
  obtain ⟨h1, h2, ⟨a3, h3⟩, ⟨a4, h4⟩, ⟨a5, h5⟩, ⟨h6, h7, h8⟩, ⟨h9, h10, h11, h12, h13, h14⟩, h15, h16, h17⟩ := h
  have ha := hW.alike
  exact ⟨((h1.kept hS.2.1).moved ha).narrow hA, ((h2.kept hS.2.1).moved ha).narrow hA, ⟨a3, h3.warm hW⟩, ⟨a4, h4.warm hW⟩, ⟨a5, h5.warm hW⟩, ⟨h6.warmC hW, h7.warmC hW, h8.warmC hW⟩, ⟨h9.moved ha, h10.moved ha, h11.moved ha, h12.moved ha, h13.moved ha, h14.moved ha⟩, h15.warmD hW, h16.warmD hW, h17.warmD hW⟩
abbrev PcX (av : List Value) (g : JG) (w0 : va_W) (sz : Nat) : Array Value → State → Prop := va_Pc av (fun U => U.heap.size = sz ∧ va_P g.1 vwCl w0 U.heap ∧ va_K g.1 vwCl (JT g) U ∧ va_D (fun _ => True) w0 ∧ JEnv (va_A w0 sz) U)
theorem PcX_blind {av : List Value} {g : JG} {w0 : va_W} {sz : Nat} : FrameBlind (PcX av g w0 sz) := fun a U f mk q => by
  obtain ⟨q0, q1, qP, qK, qD, qE⟩ := q
  exact ⟨q0, q1, qP, va_K.moved (u := U) (U := U.calling f mk a) (Vm.Alike.refl U.vm) qK, qD, qE.calling⟩
def XCj (pX : String → Prop) (g : JG) (w0 : va_W) (A : Nat → Prop) : String → State → State → Prop := fun E st t => pX E ∧ va_P g.1 vwCl w0 t.heap ∧ va_F A st t
def MetX (l : Launch) (y : MethodName) (wsd : List Cond) (rm : Room) (av : List Value) (g : JG) (w0 : va_W) {α S : Type} (mk : α → Option Value) (post : α → S → Prop) (w1 : S → va_W) (pX : String → Prop) : Prop :=
  l.flags = flags0 → ∀ sz : Nat, vx_Met l y wsd rm (PcX av g w0 sz) (Qj mk post (fun u t => va_P g.1 vwCl (w1 u) t.heap ∧ va_D (va_A w0 sz) (w1 u)) (va_A w0 sz)) (XCj pX g w0 (va_A w0 sz)) rm.cells rm.slots (va_A w0 sz)
/-- .. and a method that throws nothing out, over the same start (a helper of the law: its own table catches) -/
def MetE (l : Launch) (y : MethodName) (wsd : List Cond) (rm : Room) (av : List Value) (g : JG) (w0 : va_W) {α S : Type} (mk : α → Option Value) (post : α → S → Prop) (w1 : S → va_W) : Prop :=
  l.flags = flags0 → ∀ sz : Nat, Met l y wsd rm (PcX av g w0 sz) (Qj mk post (fun u t => va_P g.1 vwCl (w1 u) t.heap ∧ va_D (va_A w0 sz) (w1 u)) (va_A w0 sz)) rm.cells rm.slots (va_A w0 sz)
def JHas (X : JX) : Prop := match X with | (_, _, _, _, s, _, _, _, _, _, _, A, _, _) => JEnv A s
/-- the frame at pc, with an exception of the class E over it -/
def JThr (g : JG) (X : JX) (k n : Nat) (ws : va_W) (lv : List (Nat × Value)) (st : List Value) (pc : Nat) (E : String) : Prop :=
  match X with
  | (p, l, e, R, s, m, args, below, meth, c, Q, A, D, nL) => ∀ (H : Heap) (locs : List Loc) (ls : Array Slot) (q : Addr) (ce : Cell), va_P g.1 vwCl ws H → va_D D ws → va_S A s.heap H locs → lv_has ls nL lv → H[q]? = some ce → ce.vm = .none → s.vm.findClass E = some ce.cls → vx_W p l e R s m args below meth c H locs k n Q (F0 m pc ls st) q
/-- what the end by an exception owes -/
def JOut (g : JG) (X : JX) (k n : Nat) (w0 : va_W) (pX : String → Prop) : Prop :=
  match X with
  | (_, _, _, _, s, _, args, below, meth, c, Q, A, _, _) => meth.locks = false ∧ (∀ x ∈ c.exceptionTable.toList, False) ∧ ∃ (Qc : Array Value → State → Outcome → State → Prop) (XC : String → State → State → Prop) (free : Addr → Prop), Q = vx_MQ below Qc XC args s k n free ∧ (∀ q, A q → free q) ∧
    ∀ (E : String) (H : Heap) (locs : List Loc), pX E → va_P g.1 vwCl w0 H → va_S A s.heap H locs → ∀ t : State, s.vm.Alike t.vm → H.size ≤ t.heap.size → (∀ q : Nat, q < H.size → t.heap[q]? = H[q]?) → XC E s t
section JENTERX
variable {l : Launch} {y : MethodName} {wsd ws' : List Cond} {rm : Room} {av : List Value} {g : JG} {w0 : va_W}
theorem enterX {α S : Type} {mk : α → Option Value} {post : α → S → Prop} {w1 : S → va_W} {pX : String → Prop} {own : String} {cc : ByteArray} {nL : Nat} {ret : Option FieldType} {lv : List (Nat × Value)} (hy : plainName y.cls = true) (ho : y.cls = own) (hw : wsd = Cond.code y cc nL ret :: ws') (hn : (lg_sl av).length ≤ nL) (hlv : lv_args 0 av = lv)
    (body : ∀ X : JX, JOk g X cc nL own wsd rm → JNew X → JHas X → JRet g X ret rm.cells rm.slots (fun v ws => ∃ (r : α) (u : S), v = mk r ∧ post r u ∧ ws = w1 u) → JOut g X rm.cells rm.slots w0 pX → J g X 0 0 w0 lv [] 0) : MetX l y wsd rm av g w0 mk post w1 pX := by
  intro hfl sz
  refine vx_ofW (cc := cc) (maxL := nL) (ret := ret) hy hw ?_
  intro p e s m args below meth c s₁ B hml htab hv
  obtain ⟨rfl, hsz, hP, hK, hD, hE⟩ := hv
  subst hsz
  have hts := atoms_spec (ws := wsd) B.pre
  have hl := lv_entry av (n := nL) hn
  rw [hlv] at hl
  rw [lg_entry_eq]
  refine body (p, l, e, rm, s, m, av.toArray, below, meth, c, _, va_A w0 s.heap.size, va_A w0 s.heap.size, nL) ⟨B.exec, B.bytes, hml, ho ▸ findClass_of_methodNamed B.named, hts, hK, rfl, hfl, rfl⟩ ⟨rfl, fun _ h => Or.inr h⟩ hE ⟨B.returns, B.notSynchronized, _, _, fun _ _ _ h => vx_ret h, fun _ h => h, ?_⟩ ⟨B.notSynchronized, htab, _, _, _, rfl, fun _ h => h, ?_⟩ s.heap [] _ hP hD.self va_S.rf hl
  · intro v ws H locs hp hP1 hD1 hS1 t ht hW
    obtain ⟨r, u, rfl, hq, rfl⟩ := hp
    exact ⟨⟨r, u, rfl, hq, by rw [ht]; exact hP1, hD1⟩, hS1.F ht⟩
  · intro E H locs hpx hP1 hS1 t ht hz hk
    exact ⟨hpx, hP1.kept (fun k9 q9 hk9 => hk q9.1 (hP1 k9 q9 hk9).lt), Nat.le_trans hS1.1 hz, fun q h1 h2 => by rw [hk q (Nat.lt_of_lt_of_le h1 hS1.1)]; exact hS1.2.1 q h1 h2⟩
end JENTERX
section JCALLX
variable {p : Program} {l : Launch} {e : Env} {R : Room} {s : State} {m : MethodId} {args : Array Value} {below : List Frame} {meth : Method} {c : Code} {H : Heap} {locs : List Loc} {cells slots : Nat} {Q : State → Prop} {pc : Nat} {ls : Array Slot} {rest st0 : List Value} {a : Array Value} {A0 A1 AX : Nat → Prop} {H0 : Heap} {mc ms : Nat} {free : Addr → Prop}
theorem q_callX {α S : Type} {mk : α → Option Value} {post : α → S → Prop} {B : S → State → Prop} {BX : String → State → Prop} (hr : vx_Run p l e R s m args below meth c H locs cells slots mc ms (F0 m pc ls st0) rest (Qj mk post B A1 a) (fun E st t => BX E t ∧ va_F AX st t) free) (hS : va_S A0 H0 H locs) (hA : ∀ q, q < H.size → A1 q → A0 q) (hf : ∀ q, free q → A0 q) (hAX : ∀ q, q < H.size → AX q → A0 q)
    (kx : ∀ (E : String) (ce : Cell) (q9 : Addr) (t : State) (H1 : Heap) (locs1 : List Loc), t.heap = H1 → s.vm.Alike t.vm → BX E t → H.size ≤ H1.size → (∀ q : Nat, q < H.size → ¬ AX q → H1[q]? = H[q]?) → va_S A0 H0 H1 locs1 → H1[q9]? = some ce → ce.vm = .none → s.vm.findClass E = some ce.cls → vx_W p l e R s m args below meth c H1 locs1 (cells + mc) (slots + ms) Q (F0 m pc ls rest) q9)
    (kk : ∀ (r : α) (u : S) (t : State) (H1 : Heap) (locs1 : List Loc), t.heap = H1 → s.vm.Alike t.vm → post r u → B u t → H.size ≤ H1.size → (∀ q : Nat, q < H.size → ¬ A1 q → H1[q]? = H[q]?) → va_S A0 H0 H1 locs1 → W p l e R s m args below meth c H1 locs1 (cells + mc) (slots + ms) Q (F0 m (pc + 3) ls ((mk r).toList ++ rest))) : W p l e R s m args below meth c H locs cells slots Q (F0 m pc ls st0) := by
  intro T hT X
  rcases hr T hT X with ⟨v, st₀, t, T', L, h0, X', hL, e1, e2, ⟨⟨r, u, hv, hp, hb⟩, hF⟩, st⟩ | ⟨q, st₀, t, T', L, E, ce, h0, X', hL, e1, e2, ⟨hb, hF⟩, hce, hcv, hcl, st⟩
  · obtain rfl : v = mk r := Outcome.returned.inj hv
    obtain ⟨k1, k2, k3⟩ := vx_keep h0 e1 hS hA hf hL hF
    obtain ⟨t2, a1, b1⟩ := kk r u t T'.heap (locs ++ L) e1.symm (by rw [← e2]; exact X'.warmed.alike) hp hb k1 k2 k3 T' rfl X'
    exact ⟨t2, st t2 a1, b1⟩
  · obtain ⟨k1, k2, k3⟩ := vx_keep h0 e1 hS hAX hf hL hF
    obtain ⟨t2, a1, b1⟩ := kx E ce q t T'.heap (locs ++ L) e1.symm (by rw [← e2]; exact X'.warmed.alike) hb k1 k2 k3 (by rw [e1]; exact hce) hcv hcl T' rfl X'
    exact ⟨t2, st.trans a1, b1⟩
end JCALLX
section JXROWS
variable {g : JG} {X : JX} {cc : ByteArray} {nL : Nat} {own : String} {Ts : List Cond} {rm : Room} {k n pc pc' : Nat} {ws : va_W} {lv : List (Nat × Value)} {st : List Value}
  {y : MethodName} {bytes : ByteArray} {maxL : Nat} {ret : Option FieldType} {wsd wsd' : List Cond} {rm' : Room} {idx na : Nat} {w0 wr : va_W} {As rest : List Value} {pX : String → Prop}

theorem vx_sameX {l : Launch} {sz : Nat} {Pc : Array Value → State → Prop} {Qc : Array Value → State → Outcome → State → Prop} {mc ms : Nat} {free : Addr → Prop} (h : vx_Met l y wsd rm Pc Qc (XCj pX g w0 (va_A w0 sz)) mc ms free) : vx_Met l y wsd rm Pc Qc (fun E st t => (pX E ∧ va_P g.1 vwCl w0 t.heap) ∧ va_F (va_A w0 sz) st t) mc ms free := by
  have e : (XCj pX g w0 (va_A w0 sz)) = (fun E st t => (pX E ∧ va_P g.1 vwCl w0 t.heap) ∧ va_F (va_A w0 sz) st t) := by
    funext E st t
    exact propext ⟨fun h => ⟨⟨h.1, h.2.1⟩, h.2.2⟩, fun h => ⟨h.1.1, h.1.2, h.2⟩⟩
  rw [← e]
  exact h
theorem j_callVX {α S : Type} {mk : α → Option Value} {post : α → S → Prop} {w1 : S → va_W} {ws' : S → va_W} {stk : α → List Value} {k' n' : Nat} {b : Nat} (hX : JOk g X cc nL own Ts rm) (hW : JNew X) (hE : JHas X) (hM : ∀ l, MetX l y wsd rm' (.ref b :: As) g w0 mk post w1 pX) (hw : wsd = Cond.code y bytes maxL ret :: wsd') (hT : GoodIn Ts (wsV own idx y.cls y wsd)) (hy : yOk y na) (hna : As.length = na) (hR : rm'.frames + 1 ≤ rm.frames ∧ 8 + (maxL + 11) + rm'.locals ≤ rm.locals) (hkn : k + rm'.cells ≤ k' ∧ n + rm'.slots ≤ n' ∧ k' ≤ rm.cells ∧ n' ≤ rm.slots) {ci N : Nat} {T : u_T} {fs : List Value} (q0 : Nat) (hq : ws[q0]? = some (b, .inr (ci, fs))) (hc : vwCl[ci]? = some (y.cls, T, N)) (is isR is3 : List Nat) (his : is.map (fun i => ws[i]?) = w0.map some) (hnd : va_nd is = true) (hisR : isR.map (fun i => ws[i]?) = wr.map some) (hndR : va_nd isR = true) (hdis : ∀ i ∈ isR, i ∉ is) (h3 : ∀ u, is3.map (fun i => (wr ++ w1 u)[i]?) = (ws' u).map some) (h3x : is3.map (fun i => (wr ++ w0)[i]?) = ws.map some) (hnd3 : va_nd is3 = true) (hroom : (rest.map fun v => v.category).sum ≤ 8) (hst : st = As.reverse ++ .ref b :: rest) (hst' : ∀ r, (mk r).toList ++ rest = stk r) (hd : decode cc pc = .ok (.invokevirtual idx, 3)) (hp : pc + 3 = pc') (kx : ∀ E, pX E → JThr g X k' n' ws lv rest pc E) (kk : ∀ r u, post r u → J g X k' n' (ws' u) lv (stk r) pc') : J g X k n ws lv st pc := by
  obtain ⟨p, l, e, R, s, m, args, below, meth, c, Q, A, D, nL0⟩ := X
  subst hp
  subst hst
  obtain rfl : R = rm := hX.2.2.2.2.2.2.1
  obtain ⟨rfl, hA⟩ := hW
  intro H locs ls hP hD hS hl
  have hPc := hP.subm is his
  have hDs := hD.sub is hnd his
  have hDc := hDs.weaken (B := fun _ => True) (fun _ _ _ _ => trivial)
  have hFc := va_free hD hS hA is his
  refine q_callX (BX := fun E t => pX E ∧ va_P g.1 vwCl w0 t.heap) (vx_runV (XC := fun E st t => (pX E ∧ va_P g.1 vwCl w0 t.heap) ∧ va_F (va_A w0 H.size) st t) (As := As) (rest := rest) ⟨hX.1, hX.2.1, hX.2.2.1, hX.2.2.2.1, hX.2.2.2.2.1⟩ (vx_sameX (hM l hX.2.2.2.2.2.2.2.1 H.size)) (cwV na hX.2.2.2.2.1 hT hw rfl rfl ⟨rfl, hy⟩ hR) ⟨PcX_blind, va_recv hX.2.2.2.2.2.1 hP hc hq, fun U hU hW => ⟨rfl, by rw [hU], by rw [hU]; exact hPc, va_K.moved hW.alike hX.2.2.2.2.2.1, hDc, JEnv.at hE (hU ▸ hS) hW hFc⟩⟩ rfl hna hl.1 rfl (lv_room hroom) hd ⟨Nat.le_trans hkn.1 hkn.2.2.1, Nat.le_trans hkn.2.1 hkn.2.2.2⟩) hS (fun q _ h => hFc q h) hFc (fun q _ h => hFc q h) (fun E ce q9 t H1 locs1 ht hvm hB hz hk hS1 hce hcv hcl => ?_) (fun r u t H1 locs1 ht hvm hw1 hB hz hk hS1 => ?_)
  · obtain ⟨hE1, hP1⟩ := hB
    rw [ht] at hP1
    obtain ⟨hP2, hD2⟩ := va_join hP hD is isR his hisR hndR hdis hk hFc hP1 hDs.self
    exact vx_widen hkn.1 hkn.2.1 (kx E hE1 H1 locs1 ls q9 ce (hP2.subm is3 h3x) (hD2.sub is3 hnd3 h3x) hS1 hl hce hcv hcl)
  · obtain ⟨hP1, hD1⟩ := hB
    rw [ht] at hP1
    obtain ⟨hP2, hD2⟩ := va_join hP hD is isR his hisR hndR hdis hk hFc hP1 hD1
    have h9 := kk r u hw1 H1 locs1 ls (hP2.subm is3 (h3 u)) (hD2.sub is3 hnd3 (h3 u)) hS1 hl
    rw [← hst' r] at h9
    exact W.widen hkn.1 hkn.2.1 h9
theorem j_callSX {α S : Type} {mk : α → Option Value} {post : α → S → Prop} {w1 : S → va_W} {ws' : S → va_W} {stk : α → List Value} {k' n' : Nat} (hX : JOk g X cc nL own Ts rm) (hW : JNew X) (hE : JHas X) (hM : ∀ l, MetX l y wsd rm' As g w0 mk post w1 pX) (hw : wsd = Cond.code y bytes maxL ret :: wsd') (hT : GoodIn Ts (va_wsS own idx y wsd)) (hy : yOk y na) (hna : As.length = na) (hR : rm'.frames + 1 ≤ rm.frames ∧ 8 + (maxL + 11) + rm'.locals ≤ rm.locals) (hkn : k + rm'.cells ≤ k' ∧ n + rm'.slots ≤ n' ∧ k' ≤ rm.cells ∧ n' ≤ rm.slots) (is isR is3 : List Nat) (his : is.map (fun i => ws[i]?) = w0.map some) (hnd : va_nd is = true) (hisR : isR.map (fun i => ws[i]?) = wr.map some) (hndR : va_nd isR = true) (hdis : ∀ i ∈ isR, i ∉ is) (h3 : ∀ u, is3.map (fun i => (wr ++ w1 u)[i]?) = (ws' u).map some) (h3x : is3.map (fun i => (wr ++ w0)[i]?) = ws.map some) (hnd3 : va_nd is3 = true) (hroom : (rest.map fun v => v.category).sum ≤ 8) (hst : st = As.reverse ++ rest) (hst' : ∀ r, (mk r).toList ++ rest = stk r) (hd : decode cc pc = .ok (.invokestatic idx, 3)) (hp : pc + 3 = pc') (kx : ∀ E, pX E → JThr g X k' n' ws lv rest pc E) (kk : ∀ r u, post r u → J g X k' n' (ws' u) lv (stk r) pc') : J g X k n ws lv st pc := by
  obtain ⟨p, l, e, R, s, m, args, below, meth, c, Q, A, D, nL0⟩ := X
  subst hp
  subst hst
  obtain rfl : R = rm := hX.2.2.2.2.2.2.1
  obtain ⟨rfl, hA⟩ := hW
  intro H locs ls hP hD hS hl
  have hPc := hP.subm is his
  have hDs := hD.sub is hnd his
  have hDc := hDs.weaken (B := fun _ => True) (fun _ _ _ _ => trivial)
  have hFc := va_free hD hS hA is his
  refine q_callX (BX := fun E t => pX E ∧ va_P g.1 vwCl w0 t.heap) (vx_runS (XC := fun E st t => (pX E ∧ va_P g.1 vwCl w0 t.heap) ∧ va_F (va_A w0 H.size) st t) (As := As) (rest := rest) ⟨hX.1, hX.2.1, hX.2.2.1, hX.2.2.2.1, hX.2.2.2.2.1⟩ (vx_sameX (hM l hX.2.2.2.2.2.2.2.1 H.size)) (va_cwS na hX.2.2.2.2.1 hT hw rfl rfl hy hR) ⟨PcX_blind, fun U hU hW => ⟨rfl, by rw [hU], by rw [hU]; exact hPc, va_K.moved hW.alike hX.2.2.2.2.2.1, hDc, JEnv.at hE (hU ▸ hS) hW hFc⟩⟩ rfl hna hl.1 rfl (lv_room hroom) hd ⟨Nat.le_trans hkn.1 hkn.2.2.1, Nat.le_trans hkn.2.1 hkn.2.2.2⟩) hS (fun q _ h => hFc q h) hFc (fun q _ h => hFc q h) (fun E ce q9 t H1 locs1 ht hvm hB hz hk hS1 hce hcv hcl => ?_) (fun r u t H1 locs1 ht hvm hw1 hB hz hk hS1 => ?_)
  · obtain ⟨hE1, hP1⟩ := hB
    rw [ht] at hP1
    obtain ⟨hP2, hD2⟩ := va_join hP hD is isR his hisR hndR hdis hk hFc hP1 hDs.self
    exact vx_widen hkn.1 hkn.2.1 (kx E hE1 H1 locs1 ls q9 ce (hP2.subm is3 h3x) (hD2.sub is3 hnd3 h3x) hS1 hl hce hcv hcl)
  · obtain ⟨hP1, hD1⟩ := hB
    rw [ht] at hP1
    obtain ⟨hP2, hD2⟩ := va_join hP hD is isR his hisR hndR hdis hk hFc hP1 hD1
    have h9 := kk r u hw1 H1 locs1 ls (hP2.subm is3 (h3 u)) (hD2.sub is3 hnd3 (h3 u)) hS1 hl
    rw [← hst' r] at h9
    exact W.widen hkn.1 hkn.2.1 h9
theorem j_out {k' n' : Nat} {E : String} (hO : JOut g X k' n' w0 pX) (hk : k ≤ k') (hn : n ≤ n') (hws : ws = w0) (hE : pX E) : JThr g X k n ws lv st pc E := by
  obtain ⟨p, l, e, R, s, m, args, below, meth, c, Q, A, D, nL0⟩ := X
  subst hws
  obtain ⟨h1, h2, Qc, XC, free, rfl, h3, h4⟩ := hO
  intro H locs ls q ce hP hD hS hl hce hcv hcl
  exact vx_out (fun x hx => (h2 x hx).elim) h1 hce hcv hcl (fun t ht hvm => h4 E H locs hE hP hS t hvm (by rw [ht]; exact Nat.le_refl _) (fun q _ => by rw [ht])) (fun z hz => h3 _ (hS.2.2 z hz)) hk hn
theorem j_throw {k' n' : Nat} {cls text : String} {ik is ic : Nat} (hX : JOk g X cc nL own Ts rm) (hE : JHas X) (hO : JOut g X k' n' w0 pX) (hcls : Bundle.fit cls = true) (hk : Cond.classLink own ik cls ∈ Ts) (hini : Cond.initialized cls ∈ Ts) (hstr : ∀ A s, JEnv A s → ∃ a : Nat, vk_R own is text a s) (hcst : ∀ A s, JEnv A s → va_Nw (.castable cls cls) s)
    (hat : ∀ w ∈ (vx_atS own ic cls XN).filter goodWord, w ∈ Ts) (hat2 : ∀ w ∈ (vx_atS own ic cls XN).filter (fun w => !goodWord w), w ∈ [Cond.castable cls cls, Cond.declares (Bundle.initS "java/lang/RuntimeException"), Cond.declares (Bundle.initS "java/lang/Exception"), Cond.declares (Bundle.initS Bundle.tN)]) (hgood : ∀ w ∈ Cond.classLink own ik cls :: Cond.initialized cls :: vx_atS own ic cls XN, vx_ot w = true)
    (d0 : decode cc pc = .ok (.new ik, 3)) (d3 : decode cc (pc + 3) = .ok (.dup, 1)) (d4 : decode cc (pc + 4) = .ok (.ldc is, 2)) (d6 : decode cc (pc + 6) = .ok (.invokespecial ic, 3)) (d9 : decode cc (pc + 9) = .ok (.athrow, 1))
    (hr : 5 < rm.frames ∧ (st.map fun v => v.category).sum + 82 ≤ rm.locals ∧ k + 1 ≤ rm.cells ∧ n + 6 ≤ rm.slots ∧ k + 1 ≤ k' ∧ n + 6 ≤ n') (hws : ws = w0) (hpx : pX cls) : J g X k n ws lv st pc := by
  obtain ⟨p, l, e, R, s, m, args, below, meth, c, Q, A, D, nL0⟩ := X
  subst hws
  obtain rfl : R = rm := hX.2.2.2.2.2.2.1
  obtain ⟨h1, h2, Qc, XC, free, rfl, h3, h4⟩ := hO
  have hE : JEnv A s := hE
  obtain ⟨sa, hsa⟩ := hstr _ _ hE
  intro H locs ls hP hD hS hl
  exact vx_throwS (names := XN) hX.1 hX.2.1 (fl_st hX.2.2.2.2.2.2.2.1) hX.2.2.2.1 hcls (by decide) (hX.2.2.2.2.1 _ hk) (hX.2.2.2.2.1 _ hini) hsa (vx_hat (fun w hw => hX.2.2.2.2.1 _ (hat w hw)) hat2 (vx_c ((hcst _ _ hE).use rfl) (vx_c (hE.2.2.2.2.2.2.2.1.use rfl) (vx_c (hE.2.2.2.2.2.2.2.2.1.use rfl) (vx_c (hE.2.2.2.2.2.2.2.2.2.use rfl) vx_n))))) hgood hE.1 hE.2.1 hS (hl.1.trans hX.2.2.1.symm) d0 d3 d4 d6 d9 (fun x hx => (h2 x hx).elim) hr.1 hr.2.1 hr.2.2.1 hr.2.2.2.1 h1 (fun t hvm hz hk => h4 cls H locs hpx hP hS t hvm hz hk) (fun z hz => h3 _ (hS.2.2 z hz)) hr.2.2.2.2.1 hr.2.2.2.2.2
end JXROWS
