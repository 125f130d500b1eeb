/-! THE LAW'S HELPERS: methods with a table that catch all; their contract MetE, and the call of one. -/
theorem Met_ofWH {l : Launch} {y : MethodName} {ws ws' : List Cond} {rm : Room} {Pc : Array Value → State → Prop} {Qc : Array Value → State → Outcome → State → Prop} {mc ms : Nat} {free : Addr → Prop} {cc : ByteArray} {maxL : Nat} {ret : Option FieldType} {hh : List (Nat × Nat × Nat × Nat)}
    (hy : plainName y.cls = true) (hw : ws = Cond.codeWith y cc maxL ret hh :: ws')
    (body : ∀ p e s m args below meth c s₁, BodyLoose p l y (headSpec ws rm) cc maxL ret e s m args below meth c s₁ → c.maxLocals = maxL → Pc args s →
      W p l e (headSpec ws rm).room s m args below meth c s.heap [] 0 0 (MQ below Qc args s mc ms free) (entryFrame m args maxL)) : Met l y ws rm Pc Qc mc ms free := by
  refine MetFree.of_bodyS (code := cc) (maxLocals := maxL) (ret := ret) hy ?_ ?_
  · intro args s m h hn
    obtain ⟨m9, meth, c, hn9, h1, h2, h3, h4, -, h5, h6, -⟩ := Cond.codeWith_spec (atoms_spec (ws := ws) h _ (by rw [hw]; exact List.mem_cons_self))
    cases hn.symm.trans hn9
    exact ⟨meth, c, h1, h2, h3, h4, h5, h6⟩
  · intro p e s m args below meth c s₁ B hml hP _
    have hh0 : s₁.heap = s.heap := by rw [B.state]; rfl
    obtain ⟨t, a1, o, b1, b2, b3⟩ := body p e s m args below meth c s₁ B hml hP s₁ hh0 (Stand.of_body B)
    exact ⟨t, o, a1, b1, b2, ⟨b3.1, b3.2⟩⟩
def JTab (X : JX) (hh : List (Nat × Nat × Nat × Nat)) : Prop := match X with | (_, _, _, _, _, _, _, _, _, c, _, _, _, _) => c.exceptionTable.toList = tableOf hh
theorem enterE {l : Launch} {y : MethodName} {wsd ws' : List Cond} {rm : Room} {av : List Value} {g : JG} {w0 : va_W} {α S : Type} {mk : α → Option Value} {post : α → S → Prop} {w1 : S → va_W} {own : String} {cc : ByteArray} {nL : Nat} {ret : Option FieldType} {hh : List (Nat × Nat × Nat × Nat)} {lv : List (Nat × Value)} (hy : plainName y.cls = true) (ho : y.cls = own) (hw : wsd = Cond.codeWith y cc nL ret hh :: ws') (hn : (lg_sl av).length ≤ nL) (hlv : lv_args 0 av = lv)
    (body : ∀ X : JX, JOk g X cc nL own wsd rm → JNew X → JHas X → JTab X hh → JRet g X ret rm.cells rm.slots (fun v ws => ∃ (r : α) (u : S), v = mk r ∧ post r u ∧ ws = w1 u) → J g X 0 0 w0 lv [] 0) : MetE l y wsd rm av g w0 mk post w1 := by
  intro hfl sz
  refine Met_ofWH (cc := cc) (maxL := nL) (ret := ret) hy hw ?_
  intro p e s m args below meth c s₁ B hml hv
  obtain ⟨rfl, hsz, hP, hK, hD, hE⟩ := hv
  subst hsz
  have hts := atoms_spec (ws := wsd) B.pre
  have htab := vx_table (x := y) B (hts _ (by rw [hw]; exact List.mem_cons_self))
  have hl := lv_entry av (n := nL) hn
  rw [hlv] at hl
  rw [lg_entry_eq]
  refine body (p, l, e, rm, s, m, av.toArray, below, meth, c, _, va_A w0 s.heap.size, va_A w0 s.heap.size, nL) ⟨B.exec, B.bytes, hml, ho ▸ findClass_of_methodNamed B.named, hts, hK, rfl, hfl, rfl⟩ ⟨rfl, fun _ h => Or.inr h⟩ hE htab ⟨B.returns, B.notSynchronized, _, _, fun _ _ _ h => h, fun _ h => h, ?_⟩ s.heap [] _ hP hD.self va_S.rf hl
  intro v ws H locs hp hP1 hD1 hS1 t ht hW
  obtain ⟨r, u, rfl, hq, rfl⟩ := hp
  exact ⟨⟨r, u, rfl, hq, by rw [ht]; exact hP1, hD1⟩, hS1.F ht⟩
section JLROWS
variable {g : JG} {X : JX} {cc : ByteArray} {nL : Nat} {own : String} {Ts : List Cond} {rm : Room} {k n pc pc' : Nat} {ws : va_W} {lv : List (Nat × Value)} {st : List Value}
  {y : MethodName} {bytes : ByteArray} {maxL : Nat} {ret : Option FieldType} {wsd wsd' : List Cond} {rm' : Room} {idx na nb : Nat} {w0 : va_W} {As rest : List Value} {pX : String → Prop} {bs rs cs : List va_W} {hh : List (Nat × Nat × Nat × Nat)}

theorem j_catch {E : String} {h : Nat} (hX : JOk g X cc nL own Ts rm) (hE : JHas X) (hT : JTab X hh) (pre : List ExceptionTableEntry) (x : ExceptionTableEntry) (suf : List ExceptionTableEntry) (hs : tableOf hh = pre ++ x :: suf) (hpass : ∀ A s, JEnv A s → ∀ z ∈ pre, z.catchType ≠ 0 ∧ ∃ nm : String, Cond.classLink own z.catchType nm ∈ Ts ∧ va_Nc E nm s) (hx : covers x pc = true) (h0 : x.catchType ≠ 0) (hlink : Cond.classLink own x.catchType E ∈ Ts) (hcast : ∀ A s, JEnv A s → va_Nw (.castable E E) s) (hp : x.handlerPc = h) (kk : ∀ q : Nat, J g X k n ws lv [.ref q] h) : JThr g X k n ws lv st pc E := by
  obtain ⟨p, l, e, R, s, m, args, below, meth, c, Q, A, D, nL0⟩ := X
  subst hp
  have hE : JEnv A s := hE
  intro H locs ls q ce hP hD hS hl hce hcv hcl
  exact vx_catch hX.2.2.2.1 pre x suf (hT.trans hs) (fun z hz => by
    obtain ⟨h1, nm, h2, h3⟩ := hpass A s hE z hz
    exact Or.inr ⟨h1, nm, hX.2.2.2.2.1 _ h2, h3⟩) hx h0 (hX.2.2.2.2.1 _ hlink) ((hcast _ _ hE).use rfl) hce hcv hcl (kk q H locs ls hP hD hS hl)
theorem j_callSEb {α S : Type} {mk : α → Option Value} {post : α → S → Prop} {w1 ws' : S → va_W} {bs' d1 : S → List va_W} {stk : α → List Value} {k' n' : Nat} (hX : JOk g X cc nL own Ts rm) (hW : JNew X) (hE : JHas X) (hM : ∀ l, MetE l y wsd rm' As g w0 mk post w1) (hw : wsd = Cond.codeWith y bytes maxL ret hh :: wsd') (hT : GoodIn Ts (va_wsS own idx y wsd)) (hy : yOk y na) (hna : As.length = na) (hR : rm'.frames + 1 ≤ rm.frames ∧ 8 + (maxL + 11) + rm'.locals ≤ rm.locals) (hkn : k + rm'.cells ≤ k' ∧ n + rm'.slots ≤ n' ∧ k' ≤ rm.cells ∧ n' ≤ rm.slots) (is : List Nat) (hbs : ws = bs.flatten) (hcs : w0 = cs.flatten) (hnb : bs.length = nb) (hpm : is.Perm (List.range nb)) (h0 : is.map (fun i => bs[i]?) = (rs ++ cs).map some) (hbs1 : ∀ u, ws' u = (bs' u).flatten) (hd1 : ∀ u, w1 u = (d1 u).flatten) (hnb1 : ∀ u, (bs' u).length = nb) (h1 : ∀ u, is.map (fun i => (bs' u)[i]?) = (rs ++ d1 u).map some) (hroom : (rest.map fun v => v.category).sum ≤ 8) (hst : st = As.reverse ++ rest) (hst' : ∀ r, (mk r).toList ++ rest = stk r) (hd : decode cc pc = .ok (.invokestatic idx, 3)) (hp : pc + 3 = pc') (kk : ∀ r u, post r u → J g X k' n' (ws' u) lv (stk r) pc') : J g X k n ws lv st pc := by
  obtain ⟨p, l, e, R, s, m, args, below, meth, c, Q, A, D, nL0⟩ := X
  subst hp
  subst hst
  obtain rfl : R = rm := hX.2.2.2.2.2.2.1
  obtain ⟨rfl, hA⟩ := hW
  intro H locs ls hP hD hS hl
  have hpw : (rs.flatten ++ w0).Perm ws := by rw [hbs, hcs]; exact permF is hnb hpm h0
  have hPp := va_P_perm hP hpw
  have hDp := va_D_perm hD hpw
  have hPc := va_P_right hPp
  have hDs := va_D_right hDp
  have hDc := hDs.weaken (B := fun _ => True) (fun _ _ _ _ => trivial)
  have hFc := va_freeB hDp hS hA
  have back : ∀ u, (ws' u).Perm (rs.flatten ++ w1 u) := fun u => by rw [hbs1 u, hd1 u]; exact (permF is (hnb1 u) hpm (h1 u)).symm
  refine q_call (vx_runSW (As := As) (rest := rest) ⟨hX.1, hX.2.1, hX.2.2.1, hX.2.2.2.1, hX.2.2.2.2.1⟩ (hM l hX.2.2.2.2.2.2.2.1 H.size) (vx_cwSW na hX.2.2.2.2.1 hT hw rfl rfl hy hR) ⟨PcX_blind, fun U hU hW => ⟨rfl, by rw [hU], by rw [hU]; exact hPc, va_K.moved hW.alike hX.2.2.2.2.2.1, hDc, JEnv.at hE (hU ▸ hS) hW hFc⟩⟩ rfl hna hl.1 rfl (lv_room hroom) hd ⟨Nat.le_trans hkn.1 hkn.2.2.1, Nat.le_trans hkn.2.1 hkn.2.2.2⟩) hS (fun q _ h => hFc q h) hFc (fun r u t H1 locs1 ht hvm hw1 hB hz hk hS1 => ?_)
  obtain ⟨hP1, hD1⟩ := hB
  rw [ht] at hP1
  obtain ⟨hP2, hD2⟩ := va_joinB hPp hDp hk hFc hP1 hD1
  have h9 := kk r u hw1 H1 locs1 ls (va_P_perm hP2 (back u)) (va_D_perm hD2 (back u)) hS1 hl
  rw [← hst' r] at h9
  exact W.widen hkn.1 hkn.2.1 h9
end JLROWS
