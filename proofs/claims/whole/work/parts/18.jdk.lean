/-! Double.doubleToLongBits, of a number that is no NaN -/
theorem j_d2raw {g : JG} {X : JX} {cc : ByteArray} {nL : Nat} {own : String} {Ts : List Cond} {rm : Room} {k n pc pc' : Nat} {ws : va_W} {lv : List (Nat × Value)} {st : List Value} (hX : JOk g X cc nL own Ts rm) {idx : Nat} {b : UInt64} (h1 : Cond.methodLink own idx ⟨"java/lang/Double", "doubleToRawLongBits", "(D)J"⟩ ∈ Ts) (h2 : Cond.native ⟨"java/lang/Double", "doubleToRawLongBits", "(D)J"⟩ ∈ Ts) (h3 : Cond.static ⟨"java/lang/Double", "doubleToRawLongBits", "(D)J"⟩ ∈ Ts) (h4 : Cond.initialized "java/lang/Double" ∈ Ts) (hr : 1 ≤ rm.frames ∧ (st.map fun v => v.category).sum + 15 ≤ rm.locals) (hd : decode cc pc = .ok (.invokestatic idx, 3)) (hp : pc + 3 = pc') (kk : J g X k n ws lv (.long b.toInt64 :: st) pc') : J g X k n ws lv (.double b :: st) pc := by
  obtain ⟨p, l, e, R, s, m, args, below, meth, c, Q, A, D, nL0⟩ := X
  subst hp
  obtain rfl : R = rm := hX.2.2.2.2.2.2.1
  exact fun H locs ls hP hD hS hl => vn_d2l hX.1 hX.2.1 (hX.2.2.1.trans hl.1.symm) hX.2.2.2.1 (hX.2.2.2.2.1 _ h1) (hX.2.2.2.2.1 _ h2) (hX.2.2.2.2.1 _ h3) (hX.2.2.2.2.1 _ h4) hr.1 hr.2 hd (kk H locs ls hP hD hS hl)
theorem yoJxe99ae_isNaN_b9ae7 : yOk yJxe99ae_isNaN_b9ae7 1 := by decide +kernel
theorem yoJxe99ae_doubleToLongBits_ccdee : yOk yJxe99ae_doubleToLongBits_ccdee 1 := by decide +kernel
set_option maxHeartbeats 4000000 in
set_option maxRecDepth 100000 in
theorem met_isNaN (l : Launch) (g : JG) (x : UInt64) (post : Int32 → Prop) (hf : Op.cmpValue (FP.dcmp x x) CmpOp.l = 0 ∧ post 0) : MetR l yJxe99ae_isNaN_b9ae7 wsJxe99ae_isNaN_b9ae7 ({ frames := 0, cells := 0, slots := 0, locals := 0 } : Room) [.double x] g ([] : va_W) mkI post := by
  refine enterR (own := RJxe99ae) (cc := cJxe99ae_isNaN_b9ae7) (nL := 2) (ret := (some .boolean)) (lv := [(0, .double x)]) (by decide) rfl rfl (Nat.le_of_ble_eq_true rfl) rfl (fun X hX hR => ?_)
  refine j_dload_n (pc' := 1) hX dJxe99ae_isNaN_b9ae7_0 rfl 0 rfl rfl ?_
  refine j_dload_n (pc' := 2) hX dJxe99ae_isNaN_b9ae7_1 rfl 0 rfl rfl ?_
  refine j_dcmp (pc' := 3) hX dJxe99ae_isNaN_b9ae7_2 rfl ?_
  refine j_if_eq (tgt := 10) (pc' := 6) (P1 := True) (P2 := False) hX dJxe99ae_isNaN_b9ae7_3 (by decide) rfl ⟨fun _ => trivial, fun h => h hf.1⟩ (fun _ => ?_) (fun h => h.elim)
  refine j_iconst (pc' := 11) (v := 0) hX dJxe99ae_isNaN_b9ae7_10 (by decide) rfl ?_
  exact j_zret hX hR rfl dJxe99ae_isNaN_b9ae7_11 ⟨_, rfl, hf.2⟩
set_option maxHeartbeats 4000000 in
set_option maxRecDepth 100000 in
theorem met_d2lb (l : Launch) (g : JG) (x : UInt64) (post : Int64 → Prop) (hf : Op.cmpValue (FP.dcmp x x) CmpOp.l = 0 ∧ post x.toInt64) : MetR l yJxe99ae_doubleToLongBits_ccdee wsJxe99ae_doubleToLongBits_ccdee ({ frames := 1, cells := 0, slots := 0, locals := 40 } : Room) [.double x] g ([] : va_W) mkL post := by
  refine enterR (own := RJxe99ae) (cc := cJxe99ae_doubleToLongBits_ccdee) (nL := 2) (ret := (some .long)) (lv := [(0, .double x)]) (by decide) rfl rfl (Nat.le_of_ble_eq_true rfl) rfl (fun X hX hR => ?_)
  refine j_dload_n (pc' := 1) hX dJxe99ae_doubleToLongBits_ccdee_0 rfl 0 rfl rfl ?_
  refine j_callSR (pc' := 4) (As := [.double x]) (rest := []) (stk := fun r => [.int r]) hX (fun l => met_isNaN l g x (fun r => r = 0) ⟨hf.1, rfl⟩) rfl gJxe99ae_doubleToLongBits_ccdee_Jxe99ae_isNaN_b9ae7 yoJxe99ae_isNaN_b9ae7 rfl ⟨Nat.le_of_ble_eq_true rfl, Nat.le_of_ble_eq_true rfl⟩ ⟨⟨Nat.le_of_ble_eq_true rfl, Nat.le_of_ble_eq_true rfl⟩, rfl, rfl⟩ [] rfl (by decide) (Nat.le_of_ble_eq_true rfl) rfl (fun _ => rfl) dJxe99ae_doubleToLongBits_ccdee_1 rfl (fun r hr => ?_)
  refine j_if_ne (tgt := 12) (pc' := 7) (P1 := True) (P2 := False) hX dJxe99ae_doubleToLongBits_ccdee_4 (by decide) rfl ⟨fun _ => trivial, fun h => h hr⟩ (fun h => h.elim) (fun _ => ?_)
  refine j_dload_n (pc' := 8) hX dJxe99ae_doubleToLongBits_ccdee_7 rfl 0 rfl rfl ?_
  refine j_d2raw (pc' := 11) hX (by decide +kernel) (by decide +kernel) (by decide +kernel) (by decide +kernel) ⟨Nat.le_of_ble_eq_true rfl, Nat.le_of_ble_eq_true rfl⟩ dJxe99ae_doubleToLongBits_ccdee_8 rfl ?_
  exact j_lret hX hR dJxe99ae_doubleToLongBits_ccdee_11 ⟨_, rfl, hf.2⟩
