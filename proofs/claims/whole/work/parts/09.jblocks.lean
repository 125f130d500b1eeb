/-! LARGE WORLDS as lists of blocks: a callee's blocks are found by their places among the blocks; all else by permutation. -/
theorem va_P_mem {D : va_G} {cl : List vw_C} {ws : va_W} {H : Heap} : va_P D cl ws H ↔ ∀ q ∈ ws, va_at D cl q H :=
  ⟨fun h q hq => by obtain ⟨k, hk⟩ := List.getElem?_of_mem hq; exact h k q hk, fun h k q hk => h q (List.mem_of_getElem? hk)⟩
theorem va_D_nd {A : Nat → Prop} {ws : va_W} : va_D A ws ↔ (ws.map (fun q => q.1)).Nodup ∧ ∀ q ∈ ws, A q.1 := by
  constructor
  · intro h
    refine ⟨?_, fun q hq => by obtain ⟨k, hk⟩ := List.getElem?_of_mem hq; exact h.2 k q hk⟩
    rw [List.Nodup, List.pairwise_map, List.pairwise_iff_getElem]
    intro i j hi hj hij he
    have := h.1 i j _ _ (List.getElem?_eq_getElem hi) (List.getElem?_eq_getElem hj) he
    omega
  · intro h
    refine ⟨fun i j p q hi hj he => ?_, fun k q hk => h.2 q (List.mem_of_getElem? hk)⟩
    have h1 := h.1
    rw [List.Nodup, List.pairwise_map, List.pairwise_iff_getElem] at h1
    obtain ⟨li, ei⟩ := List.getElem?_eq_some_iff.mp hi
    obtain ⟨lj, ej⟩ := List.getElem?_eq_some_iff.mp hj
    rcases Nat.lt_trichotomy i j with q0 | q0 | q0
    · exact absurd (by rw [ei, ej]; exact he) (h1 i j li lj q0)
    · exact q0
    · exact absurd (by rw [ei, ej]; exact he.symm) (h1 j i lj li q0)
theorem va_P_perm {D : va_G} {cl : List vw_C} {ws ws' : va_W} {H : Heap} (h : va_P D cl ws H) (hp : ws'.Perm ws) : va_P D cl ws' H := va_P_mem.mpr fun q hq => va_P_mem.mp h q (hp.mem_iff.mp hq)
theorem va_D_perm {A : Nat → Prop} {ws ws' : va_W} (h : va_D A ws) (hp : ws'.Perm ws) : va_D A ws' := by
  obtain ⟨h1, h2⟩ := va_D_nd.mp h
  exact va_D_nd.mpr ⟨((hp.map (fun q => q.1)).nodup_iff).mpr h1, fun q hq => h2 q (hp.mem_iff.mp hq)⟩
theorem va_D_right {A : Nat → Prop} {a b : va_W} (h : va_D A (a ++ b)) : va_D A b := by
  obtain ⟨h1, h2⟩ := va_D_nd.mp h
  rw [List.map_append] at h1
  exact va_D_nd.mpr ⟨(List.nodup_append.mp h1).2.1, fun q hq => h2 q (List.mem_append_right _ hq)⟩
theorem va_P_right {D : va_G} {cl : List vw_C} {a b : va_W} {H : Heap} (h : va_P D cl (a ++ b) H) : va_P D cl b H := va_P_mem.mpr fun q hq => va_P_mem.mp h q (List.mem_append_right _ hq)
theorem va_freeB {A0 : Nat → Prop} {wr wc : va_W} {H0 H : Heap} {locs : List Loc} (hD : va_D A0 (wr ++ wc)) (hS : va_S A0 H0 H locs) (hA : ∀ q, H0.size ≤ q → A0 q) : ∀ q, va_A wc H.size q → A0 q := by
  intro q h
  rcases h with ⟨k, e, h⟩ | h
  · exact (va_D_nd.mp hD).2 (q, e) (List.mem_append_right _ (List.mem_of_getElem? h))
  · exact hA q (Nat.le_trans hS.1 h)
theorem va_joinB {A0 : Nat → Prop} {D : va_G} {cl : List vw_C} {wr wc w1 : va_W} {H H1 : Heap} (hP : va_P D cl (wr ++ wc) H) (hD : va_D A0 (wr ++ wc)) (hk : ∀ q : Nat, q < H.size → ¬ va_A wc H.size q → H1[q]? = H[q]?) (hF : ∀ q, va_A wc H.size q → A0 q) (hP1 : va_P D cl w1 H1) (hD1 : va_D (va_A wc H.size) w1) : va_P D cl (wr ++ w1) H1 ∧ va_D A0 (wr ++ w1) := by
  obtain ⟨h1, h2⟩ := va_D_nd.mp hD
  obtain ⟨g1, g2⟩ := va_D_nd.mp hD1
  have hPm := va_P_mem.mp hP
  rw [List.map_append, List.nodup_append] at h1
  have apart : ∀ q ∈ wr, q.1 < H.size ∧ ¬ va_A wc H.size q.1 := by
    intro q hq
    have hl := (hPm q (List.mem_append_left _ hq)).lt
    refine ⟨hl, fun h => ?_⟩
    rcases h with ⟨k, e, h⟩ | h
    · exact h1.2.2 q.1 (List.mem_map_of_mem hq) q.1 (List.mem_map.mpr ⟨(q.1, e), List.mem_of_getElem? h, rfl⟩) rfl
    · omega
  refine ⟨va_P_mem.mpr fun q hq => ?_, va_D_nd.mpr ⟨?_, fun q hq => ?_⟩⟩
  · rcases List.mem_append.mp hq with h | h
    · exact (hPm q (List.mem_append_left _ h)).kept (hk q.1 (apart q h).1 (apart q h).2)
    · exact va_P_mem.mp hP1 q h
  · rw [List.map_append, List.nodup_append]
    refine ⟨h1.1, g1, fun a ha b hb hab => ?_⟩
    obtain ⟨q, hq, rfl⟩ := List.mem_map.mp ha
    obtain ⟨r, hr, rfl⟩ := List.mem_map.mp hb
    exact (apart q hq).2 (by rw [hab]; exact g2 r hr)
  · rcases List.mem_append.mp hq with h | h
    · exact h2 q (List.mem_append_left _ h)
    · exact hF q.1 (g2 q h)
/-- blocks by their places: a permutation -/
theorem permB {bs cs : List va_W} {n : Nat} (is : List Nat) (hn : bs.length = n) (hp : is.Perm (List.range n)) (h : is.map (fun i => bs[i]?) = cs.map some) : cs.Perm bs := by
  have e : (List.range n).map (fun i => bs[i]?) = bs.map some := by
    subst hn
    refine List.ext_getElem (by simp) (fun i h1 h2 => ?_)
    simp at h1 h2
    simp [h1]
  have h1 : (cs.map some).Perm (bs.map some) := by rw [← h, ← e]; exact hp.map _
  have h2 := h1.filterMap (f := id)
  simpa using h2
theorem permF {bs rs cs : List va_W} {n : Nat} (is : List Nat) (hn : bs.length = n) (hp : is.Perm (List.range n)) (h : is.map (fun i => bs[i]?) = (rs ++ cs).map some) : (rs.flatten ++ cs.flatten).Perm bs.flatten := by
  rw [← List.flatten_append]
  exact (permB is hn hp h).flatten
section JBROWS
variable {g : JG} {X : JX} {cc : ByteArray} {nL : Nat} {own : String} {Ts : List Cond} {rm : Room} {k n pc pc' : Nat} {ws : va_W} {lv : List (Nat × Value)} {st : List Value}
  {y : MethodName} {bytes : ByteArray} {maxL : Nat} {ret : Option FieldType} {wsd wsd' : List Cond} {rm' : Room} {idx na nb : Nat} {w0 : va_W} {As rest : List Value} {pX : String → Prop} {bs rs cs : List va_W}

theorem j_callVRb {α : Type} {mk : α → Option Value} {post : α → Prop} {stk : α → List Value} {b : Nat} (hX : JOk g X cc nL own Ts rm) (hM : ∀ l, MetR l y wsd rm' (.ref b :: As) g w0 mk post) (hw : wsd = Cond.code y bytes maxL ret :: wsd') (hT : GoodIn Ts (wsV own idx y.cls y wsd)) (hy : yOk y na) (hna : As.length = na) (hR : rm'.frames + 1 ≤ rm.frames ∧ 8 + (maxL + 11) + rm'.locals ≤ rm.locals) (hkn : (k ≤ rm.cells ∧ n ≤ rm.slots) ∧ rm'.cells = 0 ∧ rm'.slots = 0) {ci N : Nat} {T : u_T} {fs : List Value} (q0 : Nat) (hq : w0[q0]? = some (b, .inr (ci, fs))) (hc : vwCl[ci]? = some (y.cls, T, N)) (is : List Nat) (hbs : ws = bs.flatten) (hcs : w0 = cs.flatten) (hnb : bs.length = nb) (hpm : is.Perm (List.range nb)) (h0 : is.map (fun i => bs[i]?) = (rs ++ cs).map some) (hroom : (rest.map fun v => v.category).sum ≤ 8) (hst : st = As.reverse ++ .ref b :: rest) (hst' : ∀ r, (mk r).toList ++ rest = stk r) (hd : decode cc pc = .ok (.invokevirtual idx, 3)) (hp : pc + 3 = pc') (kk : ∀ r, post r → J g X k n ws lv (stk r) pc') : J g X k n ws lv st pc := by
  obtain ⟨p, l, e, R, s, m, args, below, meth, c, Q, A, D, nL0⟩ := X
  subst hp
  subst hst
  obtain rfl : R = rm := hX.2.2.2.2.2.2.1
  intro H locs ls hP hD hS hl
  have hpw : (rs.flatten ++ w0).Perm ws := by rw [hbs, hcs]; exact permF is hnb hpm h0
  have hPp := va_P_perm hP hpw
  have hDp := va_D_perm hD hpw
  have hPc := va_P_right hPp
  have hDs := va_D_right hDp
  have hDc := hDs.weaken (B := fun _ => True) (fun _ _ _ _ => trivial)
  refine q_call (mc := 0) (ms := 0) (va_runV (As := As) (rest := rest) ⟨hX.1, hX.2.1, hX.2.2.1, hX.2.2.2.1, hX.2.2.2.2.1⟩ (hM l hX.2.2.2.2.2.2.2.1) (cwV na hX.2.2.2.2.1 hT hw hkn.2.1 hkn.2.2 ⟨rfl, hy⟩ hR) ⟨PcJ_blind, va_recv hX.2.2.2.2.2.1 hPc hc hq, fun U hU hW => ⟨rfl, by rw [hU]; exact hPc, va_K.moved hW.alike hX.2.2.2.2.2.1, hDc⟩⟩ rfl hna hl.1 rfl (lv_room hroom) hd hkn.1) hS (fun _ _ h => h.elim) (fun _ h => h.elim) (fun r u t H1 locs1 ht hvm hw1 hB hz hk hS1 => ?_)
  have h9 := kk r hw1 H1 locs1 ls (hP.kept (fun k9 q9 hk9 => hk q9.1 (hP k9 q9 hk9).lt (fun h => h.elim))) hD hS1 hl
  rw [← hst' r] at h9
  exact h9
theorem j_callVMb {α S : Type} {mk : α → Option Value} {post : α → S → Prop} {w1 ws' : S → va_W} {bs' d1 : S → List va_W} {stk : α → List Value} {k' n' : Nat} {b : Nat} (hX : JOk g X cc nL own Ts rm) (hW : JNew X) (hM : ∀ l, MetM l y wsd rm' (.ref b :: As) g w0 mk post w1) (hw : wsd = Cond.code y bytes maxL ret :: wsd') (hT : GoodIn Ts (wsV own idx y.cls y wsd)) (hy : yOk y na) (hna : As.length = na) (hR : rm'.frames + 1 ≤ rm.frames ∧ 8 + (maxL + 11) + rm'.locals ≤ rm.locals) (hkn : k + rm'.cells ≤ k' ∧ n + rm'.slots ≤ n' ∧ k' ≤ rm.cells ∧ n' ≤ rm.slots) {ci N : Nat} {T : u_T} {fs : List Value} (q0 : Nat) (hq : w0[q0]? = some (b, .inr (ci, fs))) (hc : vwCl[ci]? = some (y.cls, T, N)) (is : List Nat) (hbs : ws = bs.flatten) (hcs : w0 = cs.flatten) (hnb : bs.length = nb) (hpm : is.Perm (List.range nb)) (h0 : is.map (fun i => bs[i]?) = (rs ++ cs).map some) (hbs1 : ∀ u, ws' u = (bs' u).flatten) (hd1 : ∀ u, w1 u = (d1 u).flatten) (hnb1 : ∀ u, (bs' u).length = nb) (h1 : ∀ u, is.map (fun i => (bs' u)[i]?) = (rs ++ d1 u).map some) (hroom : (rest.map fun v => v.category).sum ≤ 8) (hst : st = As.reverse ++ .ref b :: rest) (hst' : ∀ r, (mk r).toList ++ rest = stk r) (hd : decode cc pc = .ok (.invokevirtual idx, 3)) (hp : pc + 3 = pc') (kk : ∀ r u, post r u → J g X k' n' (ws' u) lv (stk r) pc') : J g X k n ws lv st pc := by
  obtain ⟨p, l, e, R, s, m, args, below, meth, c, Q, A, D, nL0⟩ := X
  subst hp
  subst hst
  obtain rfl : R = rm := hX.2.2.2.2.2.2.1
  obtain ⟨rfl, hA⟩ := hW
  intro H locs ls hP hD hS hl
  have hpw : (rs.flatten ++ w0).Perm ws := by rw [hbs, hcs]; exact permF is hnb hpm h0
  have hPp := va_P_perm hP hpw
  have hDp := va_D_perm hD hpw
  have hPc := va_P_right hPp
  have hDs := va_D_right hDp
  have hDc := hDs.weaken (B := fun _ => True) (fun _ _ _ _ => trivial)
  have hFc := va_freeB hDp hS hA
  have back : ∀ u, (ws' u).Perm (rs.flatten ++ w1 u) := fun u => by rw [hbs1 u, hd1 u]; exact (permF is (hnb1 u) hpm (h1 u)).symm
  refine q_call (va_runV (As := As) (rest := rest) ⟨hX.1, hX.2.1, hX.2.2.1, hX.2.2.2.1, hX.2.2.2.2.1⟩ (hM l hX.2.2.2.2.2.2.2.1 H.size) (cwV na hX.2.2.2.2.1 hT hw rfl rfl ⟨rfl, hy⟩ hR) ⟨PcM_blind, va_recv hX.2.2.2.2.2.1 hPc hc hq, fun U hU hW => ⟨rfl, by rw [hU], by rw [hU]; exact hPc, va_K.moved hW.alike hX.2.2.2.2.2.1, hDc⟩⟩ rfl hna hl.1 rfl (lv_room hroom) hd ⟨Nat.le_trans hkn.1 hkn.2.2.1, Nat.le_trans hkn.2.1 hkn.2.2.2⟩) hS (fun q _ h => hFc q h) hFc (fun r u t H1 locs1 ht hvm hw1 hB hz hk hS1 => ?_)
  obtain ⟨hP1, hD1⟩ := hB
  rw [ht] at hP1
  obtain ⟨hP2, hD2⟩ := va_joinB hPp hDp hk hFc hP1 hD1
  have h9 := kk r u hw1 H1 locs1 ls (va_P_perm hP2 (back u)) (va_D_perm hD2 (back u)) hS1 hl
  rw [← hst' r] at h9
  exact W.widen hkn.1 hkn.2.1 h9
theorem j_callVXb {α S : Type} {mk : α → Option Value} {post : α → S → Prop} {w1 ws' : S → va_W} {bs' d1 : S → List va_W} {stk : α → List Value} {k' n' : Nat} {b : Nat} (hX : JOk g X cc nL own Ts rm) (hW : JNew X) (hE : JHas X) (hM : ∀ l, MetX l y wsd rm' (.ref b :: As) g w0 mk post w1 pX) (hw : wsd = Cond.code y bytes maxL ret :: wsd') (hT : GoodIn Ts (wsV own idx y.cls y wsd)) (hy : yOk y na) (hna : As.length = na) (hR : rm'.frames + 1 ≤ rm.frames ∧ 8 + (maxL + 11) + rm'.locals ≤ rm.locals) (hkn : k + rm'.cells ≤ k' ∧ n + rm'.slots ≤ n' ∧ k' ≤ rm.cells ∧ n' ≤ rm.slots) {ci N : Nat} {T : u_T} {fs : List Value} (q0 : Nat) (hq : w0[q0]? = some (b, .inr (ci, fs))) (hc : vwCl[ci]? = some (y.cls, T, N)) (is : List Nat) (hbs : ws = bs.flatten) (hcs : w0 = cs.flatten) (hnb : bs.length = nb) (hpm : is.Perm (List.range nb)) (h0 : is.map (fun i => bs[i]?) = (rs ++ cs).map some) (hbs1 : ∀ u, ws' u = (bs' u).flatten) (hd1 : ∀ u, w1 u = (d1 u).flatten) (hnb1 : ∀ u, (bs' u).length = nb) (h1 : ∀ u, is.map (fun i => (bs' u)[i]?) = (rs ++ d1 u).map some) (hroom : (rest.map fun v => v.category).sum ≤ 8) (hst : st = As.reverse ++ .ref b :: rest) (hst' : ∀ r, (mk r).toList ++ rest = stk r) (hd : decode cc pc = .ok (.invokevirtual idx, 3)) (hp : pc + 3 = pc') (kx : ∀ E, pX E → JThr g X k' n' ws lv rest pc E) (kk : ∀ r u, post r u → J g X k' n' (ws' u) lv (stk r) pc') : J g X k n ws lv st pc := by
  obtain ⟨p, l, e, R, s, m, args, below, meth, c, Q, A, D, nL0⟩ := X
  subst hp
  subst hst
  obtain rfl : R = rm := hX.2.2.2.2.2.2.1
  obtain ⟨rfl, hA⟩ := hW
  intro H locs ls hP hD hS hl
  have hpw : (rs.flatten ++ w0).Perm ws := by rw [hbs, hcs]; exact permF is hnb hpm h0
  have hPp := va_P_perm hP hpw
  have hDp := va_D_perm hD hpw
  have hPc := va_P_right hPp
  have hDs := va_D_right hDp
  have hDc := hDs.weaken (B := fun _ => True) (fun _ _ _ _ => trivial)
  have hFc := va_freeB hDp hS hA
  have back : ∀ u, (ws' u).Perm (rs.flatten ++ w1 u) := fun u => by rw [hbs1 u, hd1 u]; exact (permF is (hnb1 u) hpm (h1 u)).symm
  refine q_callX (BX := fun E t => pX E ∧ va_P g.1 vwCl w0 t.heap) (vx_runV (XC := fun E st t => (pX E ∧ va_P g.1 vwCl w0 t.heap) ∧ va_F (va_A w0 H.size) st t) (As := As) (rest := rest) ⟨hX.1, hX.2.1, hX.2.2.1, hX.2.2.2.1, hX.2.2.2.2.1⟩ (vx_sameX (hM l hX.2.2.2.2.2.2.2.1 H.size)) (cwV na hX.2.2.2.2.1 hT hw rfl rfl ⟨rfl, hy⟩ hR) ⟨PcX_blind, va_recv hX.2.2.2.2.2.1 hPc hc hq, fun U hU hW => ⟨rfl, by rw [hU], by rw [hU]; exact hPc, va_K.moved hW.alike hX.2.2.2.2.2.1, hDc, JEnv.at hE (hU ▸ hS) hW hFc⟩⟩ rfl hna hl.1 rfl (lv_room hroom) hd ⟨Nat.le_trans hkn.1 hkn.2.2.1, Nat.le_trans hkn.2.1 hkn.2.2.2⟩) hS (fun q _ h => hFc q h) hFc (fun q _ h => hFc q h) (fun E ce q9 t H1 locs1 ht hvm hB hz hk hS1 hce hcv hcl => ?_) (fun r u t H1 locs1 ht hvm hw1 hB hz hk hS1 => ?_)
  · obtain ⟨hE1, hP1⟩ := hB
    rw [ht] at hP1
    obtain ⟨hP2, hD2⟩ := va_joinB hPp hDp hk hFc hP1 hDs.self
    exact vx_widen hkn.1 hkn.2.1 (kx E hE1 H1 locs1 ls q9 ce (va_P_perm hP2 hpw.symm) (va_D_perm hD2 hpw.symm) hS1 hl hce hcv hcl)
  · obtain ⟨hP1, hD1⟩ := hB
    rw [ht] at hP1
    obtain ⟨hP2, hD2⟩ := va_joinB hPp hDp hk hFc hP1 hD1
    have h9 := kk r u hw1 H1 locs1 ls (va_P_perm hP2 (back u)) (va_D_perm hD2 (back u)) hS1 hl
    rw [← hst' r] at h9
    exact W.widen hkn.1 hkn.2.1 h9
theorem j_callSXb {α S : Type} {mk : α → Option Value} {post : α → S → Prop} {w1 ws' : S → va_W} {bs' d1 : S → List va_W} {stk : α → List Value} {k' n' : Nat} (hX : JOk g X cc nL own Ts rm) (hW : JNew X) (hE : JHas X) (hM : ∀ l, MetX l y wsd rm' As g w0 mk post w1 pX) (hw : wsd = Cond.code y bytes maxL ret :: wsd') (hT : GoodIn Ts (va_wsS own idx y wsd)) (hy : yOk y na) (hna : As.length = na) (hR : rm'.frames + 1 ≤ rm.frames ∧ 8 + (maxL + 11) + rm'.locals ≤ rm.locals) (hkn : k + rm'.cells ≤ k' ∧ n + rm'.slots ≤ n' ∧ k' ≤ rm.cells ∧ n' ≤ rm.slots) (is : List Nat) (hbs : ws = bs.flatten) (hcs : w0 = cs.flatten) (hnb : bs.length = nb) (hpm : is.Perm (List.range nb)) (h0 : is.map (fun i => bs[i]?) = (rs ++ cs).map some) (hbs1 : ∀ u, ws' u = (bs' u).flatten) (hd1 : ∀ u, w1 u = (d1 u).flatten) (hnb1 : ∀ u, (bs' u).length = nb) (h1 : ∀ u, is.map (fun i => (bs' u)[i]?) = (rs ++ d1 u).map some) (hroom : (rest.map fun v => v.category).sum ≤ 8) (hst : st = As.reverse ++ rest) (hst' : ∀ r, (mk r).toList ++ rest = stk r) (hd : decode cc pc = .ok (.invokestatic idx, 3)) (hp : pc + 3 = pc') (kx : ∀ E, pX E → JThr g X k' n' ws lv rest pc E) (kk : ∀ r u, post r u → J g X k' n' (ws' u) lv (stk r) pc') : J g X k n ws lv st pc := by
  obtain ⟨p, l, e, R, s, m, args, below, meth, c, Q, A, D, nL0⟩ := X
  subst hp
  subst hst
  obtain rfl : R = rm := hX.2.2.2.2.2.2.1
  obtain ⟨rfl, hA⟩ := hW
  intro H locs ls hP hD hS hl
  have hpw : (rs.flatten ++ w0).Perm ws := by rw [hbs, hcs]; exact permF is hnb hpm h0
  have hPp := va_P_perm hP hpw
  have hDp := va_D_perm hD hpw
  have hPc := va_P_right hPp
  have hDs := va_D_right hDp
  have hDc := hDs.weaken (B := fun _ => True) (fun _ _ _ _ => trivial)
  have hFc := va_freeB hDp hS hA
  have back : ∀ u, (ws' u).Perm (rs.flatten ++ w1 u) := fun u => by rw [hbs1 u, hd1 u]; exact (permF is (hnb1 u) hpm (h1 u)).symm
  refine q_callX (BX := fun E t => pX E ∧ va_P g.1 vwCl w0 t.heap) (vx_runS (XC := fun E st t => (pX E ∧ va_P g.1 vwCl w0 t.heap) ∧ va_F (va_A w0 H.size) st t) (As := As) (rest := rest) ⟨hX.1, hX.2.1, hX.2.2.1, hX.2.2.2.1, hX.2.2.2.2.1⟩ (vx_sameX (hM l hX.2.2.2.2.2.2.2.1 H.size)) (va_cwS na hX.2.2.2.2.1 hT hw rfl rfl hy hR) ⟨PcX_blind, fun U hU hW => ⟨rfl, by rw [hU], by rw [hU]; exact hPc, va_K.moved hW.alike hX.2.2.2.2.2.1, hDc, JEnv.at hE (hU ▸ hS) hW hFc⟩⟩ rfl hna hl.1 rfl (lv_room hroom) hd ⟨Nat.le_trans hkn.1 hkn.2.2.1, Nat.le_trans hkn.2.1 hkn.2.2.2⟩) hS (fun q _ h => hFc q h) hFc (fun q _ h => hFc q h) (fun E ce q9 t H1 locs1 ht hvm hB hz hk hS1 hce hcv hcl => ?_) (fun r u t H1 locs1 ht hvm hw1 hB hz hk hS1 => ?_)
  · obtain ⟨hE1, hP1⟩ := hB
    rw [ht] at hP1
    obtain ⟨hP2, hD2⟩ := va_joinB hPp hDp hk hFc hP1 hDs.self
    exact vx_widen hkn.1 hkn.2.1 (kx E hE1 H1 locs1 ls q9 ce (va_P_perm hP2 hpw.symm) (va_D_perm hD2 hpw.symm) hS1 hl hce hcv hcl)
  · obtain ⟨hP1, hD1⟩ := hB
    rw [ht] at hP1
    obtain ⟨hP2, hD2⟩ := va_joinB hPp hDp hk hFc hP1 hD1
    have h9 := kk r u hw1 H1 locs1 ls (va_P_perm hP2 (back u)) (va_D_perm hD2 (back u)) hS1 hl
    rw [← hst' r] at h9
    exact W.widen hkn.1 hkn.2.1 h9
end JBROWS
