def wp_X4_needIndex (p0 : Int32) (post : Prop) (pX : String → Prop) : Prop :=
  ((p0 = 0 → pX XI) ∧ (¬ p0 = 0 → post))
theorem yoX4_needIndex : yOk yX4_needIndex 1 := by decide +kernel
set_option maxHeartbeats 4000000 in
set_option maxRecDepth 100000 in
theorem met_X4_needIndex (l : Launch) (g : JG) (p0 : Int32) (post : Prop) (pX : String → Prop) (hf : wp_X4_needIndex p0 post pX) : MetX l yX4_needIndex wsX4_needIndex ({ frames := 6, cells := 1, slots := 6, locals := 90 } : Room) [.int p0] g ([] : va_W) mkV (fun (_ : Unit) (_ : Unit) => post) (fun u : Unit => ([] : va_W)) pX := by
  have hl_219 : Cond.classLink RX4 219 XI ∈ wsX4_needIndex := by decide +kernel
  have hi_219 : Cond.initialized XI ∈ wsX4_needIndex := by decide +kernel
  refine enterX (own := RX4) (cc := cX4_needIndex) (nL := 1) (ret := none) (lv := [(0, .int p0)]) (by decide) rfl rfl (Nat.le_of_ble_eq_true rfl) rfl (fun X hX hW hE hR hO => ?_)
  unfold wp_X4_needIndex at hf
  refine j_iload_n (pc' := 1) hX dX4_needIndex_0 rfl 0 rfl rfl ?_
  refine j_if_ne (tgt := 14) (pc' := 4) hX dX4_needIndex_1 (by decide) rfl hf (fun hf => ?_) (fun hf => ?_)
  · refine J_widen (k' := 1) (n' := 6) (Nat.le_of_ble_eq_true rfl) (Nat.le_of_ble_eq_true rfl) ?_
    exact j_vret hX hR dX4_needIndex_14 ⟨(), (), rfl, hf, rfl⟩
  · exact j_throw hX hE hO (by decide +kernel) hl_219 hi_219 (fun _ _ h => h.2.2.1) (fun _ _ h => h.2.2.2.2.2.1.1) (by decide +kernel) (by decide +kernel) (by decide +kernel) dX4_needIndex_4 dX4_needIndex_7 dX4_needIndex_8 dX4_needIndex_10 dX4_needIndex_13 ⟨Nat.le_of_ble_eq_true rfl, Nat.le_of_ble_eq_true rfl, Nat.le_of_ble_eq_true rfl, Nat.le_of_ble_eq_true rfl, Nat.le_of_ble_eq_true rfl, Nat.le_of_ble_eq_true rfl⟩ rfl hf
def wp_X4_needArgument (p0 : Int32) (post : Prop) (pX : String → Prop) : Prop :=
  ((p0 = 0 → pX XA) ∧ (¬ p0 = 0 → post))
theorem yoX4_needArgument : yOk yX4_needArgument 1 := by decide +kernel
set_option maxHeartbeats 4000000 in
set_option maxRecDepth 100000 in
theorem met_X4_needArgument (l : Launch) (g : JG) (p0 : Int32) (post : Prop) (pX : String → Prop) (hf : wp_X4_needArgument p0 post pX) : MetX l yX4_needArgument wsX4_needArgument ({ frames := 6, cells := 1, slots := 6, locals := 90 } : Room) [.int p0] g ([] : va_W) mkV (fun (_ : Unit) (_ : Unit) => post) (fun u : Unit => ([] : va_W)) pX := by
  have hl_226 : Cond.classLink RX4 226 XA ∈ wsX4_needArgument := by decide +kernel
  have hi_226 : Cond.initialized XA ∈ wsX4_needArgument := by decide +kernel
  refine enterX (own := RX4) (cc := cX4_needArgument) (nL := 1) (ret := none) (lv := [(0, .int p0)]) (by decide) rfl rfl (Nat.le_of_ble_eq_true rfl) rfl (fun X hX hW hE hR hO => ?_)
  unfold wp_X4_needArgument at hf
  refine j_iload_n (pc' := 1) hX dX4_needArgument_0 rfl 0 rfl rfl ?_
  refine j_if_ne (tgt := 14) (pc' := 4) hX dX4_needArgument_1 (by decide) rfl hf (fun hf => ?_) (fun hf => ?_)
  · refine J_widen (k' := 1) (n' := 6) (Nat.le_of_ble_eq_true rfl) (Nat.le_of_ble_eq_true rfl) ?_
    exact j_vret hX hR dX4_needArgument_14 ⟨(), (), rfl, hf, rfl⟩
  · exact j_throw hX hE hO (by decide +kernel) hl_226 hi_226 (fun _ _ h => h.2.2.2.1) (fun _ _ h => h.2.2.2.2.2.1.2.1) (by decide +kernel) (by decide +kernel) (by decide +kernel) dX4_needArgument_4 dX4_needArgument_7 dX4_needArgument_8 dX4_needArgument_10 dX4_needArgument_13 ⟨Nat.le_of_ble_eq_true rfl, Nat.le_of_ble_eq_true rfl, Nat.le_of_ble_eq_true rfl, Nat.le_of_ble_eq_true rfl, Nat.le_of_ble_eq_true rfl, Nat.le_of_ble_eq_true rfl⟩ rfl hf
def wp_X4_needState (p0 : Int32) (post : Prop) (pX : String → Prop) : Prop :=
  ((p0 = 0 → pX XS) ∧ (¬ p0 = 0 → post))
theorem yoX4_needState : yOk yX4_needState 1 := by decide +kernel
set_option maxHeartbeats 4000000 in
set_option maxRecDepth 100000 in
theorem met_X4_needState (l : Launch) (g : JG) (p0 : Int32) (post : Prop) (pX : String → Prop) (hf : wp_X4_needState p0 post pX) : MetX l yX4_needState wsX4_needState ({ frames := 6, cells := 1, slots := 6, locals := 90 } : Room) [.int p0] g ([] : va_W) mkV (fun (_ : Unit) (_ : Unit) => post) (fun u : Unit => ([] : va_W)) pX := by
  have hl_231 : Cond.classLink RX4 231 XS ∈ wsX4_needState := by decide +kernel
  have hi_231 : Cond.initialized XS ∈ wsX4_needState := by decide +kernel
  refine enterX (own := RX4) (cc := cX4_needState) (nL := 1) (ret := none) (lv := [(0, .int p0)]) (by decide) rfl rfl (Nat.le_of_ble_eq_true rfl) rfl (fun X hX hW hE hR hO => ?_)
  unfold wp_X4_needState at hf
  refine j_iload_n (pc' := 1) hX dX4_needState_0 rfl 0 rfl rfl ?_
  refine j_if_ne (tgt := 14) (pc' := 4) hX dX4_needState_1 (by decide) rfl hf (fun hf => ?_) (fun hf => ?_)
  · refine J_widen (k' := 1) (n' := 6) (Nat.le_of_ble_eq_true rfl) (Nat.le_of_ble_eq_true rfl) ?_
    exact j_vret hX hR dX4_needState_14 ⟨(), (), rfl, hf, rfl⟩
  · exact j_throw hX hE hO (by decide +kernel) hl_231 hi_231 (fun _ _ h => h.2.2.2.2.1) (fun _ _ h => h.2.2.2.2.2.1.2.2) (by decide +kernel) (by decide +kernel) (by decide +kernel) dX4_needState_4 dX4_needState_7 dX4_needState_8 dX4_needState_10 dX4_needState_13 ⟨Nat.le_of_ble_eq_true rfl, Nat.le_of_ble_eq_true rfl, Nat.le_of_ble_eq_true rfl, Nat.le_of_ble_eq_true rfl, Nat.le_of_ble_eq_true rfl, Nat.le_of_ble_eq_true rfl⟩ rfl hf
def wp_X4_needArgument_n (p0 : Int32) (post : Prop) : Prop :=
  ((p0 = 0 → False) ∧ (¬ p0 = 0 → post))
set_option maxHeartbeats 4000000 in
set_option maxRecDepth 100000 in
theorem met_X4_needArgument_n (l : Launch) (g : JG) (p0 : Int32) (post : Prop) (hf : wp_X4_needArgument_n p0 post) : MetR l yX4_needArgument wsX4_needArgument ({ frames := 0, cells := 0, slots := 0, locals := 0 } : Room) [.int p0] g ([] : va_W) mkV (fun (_ : Unit) => post) := by
  refine enterR (own := RX4) (cc := cX4_needArgument) (nL := 1) (ret := none) (lv := [(0, .int p0)]) (by decide) rfl rfl (Nat.le_of_ble_eq_true rfl) rfl (fun X hX hR => ?_)
  unfold wp_X4_needArgument_n at hf
  refine j_iload_n (pc' := 1) hX dX4_needArgument_0 rfl 0 rfl rfl ?_
  refine j_if_ne (tgt := 14) (pc' := 4) hX dX4_needArgument_1 (by decide) rfl hf (fun hf => ?_) (fun hf => ?_)
  · exact j_vret hX hR dX4_needArgument_14 ⟨(), rfl, hf⟩
  · exact False.elim hf
def wp_X4_needCourse (p0 : Int32) (post : Prop) (pX : String → Prop) : Prop :=
  ((p0 < 0 → (wp_X4_needIndex 0 (post) pX)) ∧ (¬ p0 < 0 → ((6 ≤ p0 → (wp_X4_needIndex 0 (post) pX)) ∧ (¬ 6 ≤ p0 → (wp_X4_needIndex 1 (post) pX)))))
theorem yoX4_needCourse : yOk yX4_needCourse 1 := by decide +kernel
set_option maxHeartbeats 4000000 in
set_option maxRecDepth 100000 in
theorem met_X4_needCourse (l : Launch) (g : JG) (p0 : Int32) (post : Prop) (pX : String → Prop) (hf : wp_X4_needCourse p0 post pX) : MetX l yX4_needCourse wsX4_needCourse ({ frames := 7, cells := 1, slots := 6, locals := 110 } : Room) [.int p0] g ([] : va_W) mkV (fun (_ : Unit) (_ : Unit) => post) (fun u : Unit => ([] : va_W)) pX := by
  refine enterX (own := RX4) (cc := cX4_needCourse) (nL := 1) (ret := none) (lv := [(0, .int p0)]) (by decide) rfl rfl (Nat.le_of_ble_eq_true rfl) rfl (fun X hX hW hE hR hO => ?_)
  unfold wp_X4_needCourse at hf
  refine j_iload_n (pc' := 1) hX dX4_needCourse_0 rfl 0 rfl rfl ?_
  refine j_if_lt (tgt := 14) (pc' := 4) hX dX4_needCourse_1 (by decide) rfl hf (fun hf => ?_) (fun hf => ?_)
  · refine j_iconst (pc' := 15) (v := 0) hX dX4_needCourse_14 (by decide) rfl ?_
    refine j_callSX (pc' := 18) (k' := 1) (n' := 6) (As := [.int 0]) (rest := []) (stk := fun _ => []) (ws' := fun _ => ([] : va_W)) (wr := ([] : va_W)) hX hW hE (fun l => met_X4_needIndex l g 0 _ _ hf) rfl gX4_needCourse_X4_needIndex yoX4_needIndex rfl ⟨Nat.le_of_ble_eq_true rfl, Nat.le_of_ble_eq_true rfl⟩ ⟨Nat.le_of_ble_eq_true rfl, Nat.le_of_ble_eq_true rfl, Nat.le_of_ble_eq_true rfl, Nat.le_of_ble_eq_true rfl⟩ [] [] [] rfl (by decide) rfl (by decide) (by decide) (fun _ => rfl) rfl (by decide) (Nat.le_of_ble_eq_true rfl) rfl (fun _ => rfl) dX4_needCourse_15 rfl (fun _ h => j_out hO (Nat.le_of_ble_eq_true rfl) (Nat.le_of_ble_eq_true rfl) rfl h) (fun _ _ hf => ?_)
    refine J_widen (k' := 1) (n' := 6) (Nat.le_of_ble_eq_true rfl) (Nat.le_of_ble_eq_true rfl) ?_
    exact j_vret hX hR dX4_needCourse_18 ⟨(), (), rfl, hf, rfl⟩
  · refine j_iload_n (pc' := 5) hX dX4_needCourse_4 rfl 0 rfl rfl ?_
    refine j_bipush (pc' := 7) (v := 6) hX dX4_needCourse_5 (by decide) rfl ?_
    refine j_icmp_ge (tgt := 14) (pc' := 10) hX dX4_needCourse_7 (by decide) rfl hf (fun hf => ?_) (fun hf => ?_)
    · refine j_iconst (pc' := 15) (v := 0) hX dX4_needCourse_14 (by decide) rfl ?_
      refine j_callSX (pc' := 18) (k' := 1) (n' := 6) (As := [.int 0]) (rest := []) (stk := fun _ => []) (ws' := fun _ => ([] : va_W)) (wr := ([] : va_W)) hX hW hE (fun l => met_X4_needIndex l g 0 _ _ hf) rfl gX4_needCourse_X4_needIndex yoX4_needIndex rfl ⟨Nat.le_of_ble_eq_true rfl, Nat.le_of_ble_eq_true rfl⟩ ⟨Nat.le_of_ble_eq_true rfl, Nat.le_of_ble_eq_true rfl, Nat.le_of_ble_eq_true rfl, Nat.le_of_ble_eq_true rfl⟩ [] [] [] rfl (by decide) rfl (by decide) (by decide) (fun _ => rfl) rfl (by decide) (Nat.le_of_ble_eq_true rfl) rfl (fun _ => rfl) dX4_needCourse_15 rfl (fun _ h => j_out hO (Nat.le_of_ble_eq_true rfl) (Nat.le_of_ble_eq_true rfl) rfl h) (fun _ _ hf => ?_)
      refine J_widen (k' := 1) (n' := 6) (Nat.le_of_ble_eq_true rfl) (Nat.le_of_ble_eq_true rfl) ?_
      exact j_vret hX hR dX4_needCourse_18 ⟨(), (), rfl, hf, rfl⟩
    · refine j_iconst (pc' := 11) (v := 1) hX dX4_needCourse_10 (by decide) rfl ?_
      refine j_goto (tgt := 15) hX dX4_needCourse_11 (by decide) ?_
      refine j_callSX (pc' := 18) (k' := 1) (n' := 6) (As := [.int 1]) (rest := []) (stk := fun _ => []) (ws' := fun _ => ([] : va_W)) (wr := ([] : va_W)) hX hW hE (fun l => met_X4_needIndex l g 1 _ _ hf) rfl gX4_needCourse_X4_needIndex yoX4_needIndex rfl ⟨Nat.le_of_ble_eq_true rfl, Nat.le_of_ble_eq_true rfl⟩ ⟨Nat.le_of_ble_eq_true rfl, Nat.le_of_ble_eq_true rfl, Nat.le_of_ble_eq_true rfl, Nat.le_of_ble_eq_true rfl⟩ [] [] [] rfl (by decide) rfl (by decide) (by decide) (fun _ => rfl) rfl (by decide) (Nat.le_of_ble_eq_true rfl) rfl (fun _ => rfl) dX4_needCourse_15 rfl (fun _ h => j_out hO (Nat.le_of_ble_eq_true rfl) (Nat.le_of_ble_eq_true rfl) rfl h) (fun _ _ hf => ?_)
      refine J_widen (k' := 1) (n' := 6) (Nat.le_of_ble_eq_true rfl) (Nat.le_of_ble_eq_true rfl) ?_
      exact j_vret hX hR dX4_needCourse_18 ⟨(), (), rfl, hf, rfl⟩
def wp_X4_needSetting (p0 : Int32) (post : Prop) (pX : String → Prop) : Prop :=
  ((p0 < 0 → (wp_X4_needIndex 0 (post) pX)) ∧ (¬ p0 < 0 → ((3 ≤ p0 → (wp_X4_needIndex 0 (post) pX)) ∧ (¬ 3 ≤ p0 → (wp_X4_needIndex 1 (post) pX)))))
theorem yoX4_needSetting : yOk yX4_needSetting 1 := by decide +kernel
set_option maxHeartbeats 4000000 in
set_option maxRecDepth 100000 in
theorem met_X4_needSetting (l : Launch) (g : JG) (p0 : Int32) (post : Prop) (pX : String → Prop) (hf : wp_X4_needSetting p0 post pX) : MetX l yX4_needSetting wsX4_needSetting ({ frames := 7, cells := 1, slots := 6, locals := 110 } : Room) [.int p0] g ([] : va_W) mkV (fun (_ : Unit) (_ : Unit) => post) (fun u : Unit => ([] : va_W)) pX := by
  refine enterX (own := RX4) (cc := cX4_needSetting) (nL := 1) (ret := none) (lv := [(0, .int p0)]) (by decide) rfl rfl (Nat.le_of_ble_eq_true rfl) rfl (fun X hX hW hE hR hO => ?_)
  unfold wp_X4_needSetting at hf
  refine j_iload_n (pc' := 1) hX dX4_needSetting_0 rfl 0 rfl rfl ?_
  refine j_if_lt (tgt := 13) (pc' := 4) hX dX4_needSetting_1 (by decide) rfl hf (fun hf => ?_) (fun hf => ?_)
  · refine j_iconst (pc' := 14) (v := 0) hX dX4_needSetting_13 (by decide) rfl ?_
    refine j_callSX (pc' := 17) (k' := 1) (n' := 6) (As := [.int 0]) (rest := []) (stk := fun _ => []) (ws' := fun _ => ([] : va_W)) (wr := ([] : va_W)) hX hW hE (fun l => met_X4_needIndex l g 0 _ _ hf) rfl gX4_needSetting_X4_needIndex yoX4_needIndex rfl ⟨Nat.le_of_ble_eq_true rfl, Nat.le_of_ble_eq_true rfl⟩ ⟨Nat.le_of_ble_eq_true rfl, Nat.le_of_ble_eq_true rfl, Nat.le_of_ble_eq_true rfl, Nat.le_of_ble_eq_true rfl⟩ [] [] [] rfl (by decide) rfl (by decide) (by decide) (fun _ => rfl) rfl (by decide) (Nat.le_of_ble_eq_true rfl) rfl (fun _ => rfl) dX4_needSetting_14 rfl (fun _ h => j_out hO (Nat.le_of_ble_eq_true rfl) (Nat.le_of_ble_eq_true rfl) rfl h) (fun _ _ hf => ?_)
    refine J_widen (k' := 1) (n' := 6) (Nat.le_of_ble_eq_true rfl) (Nat.le_of_ble_eq_true rfl) ?_
    exact j_vret hX hR dX4_needSetting_17 ⟨(), (), rfl, hf, rfl⟩
  · refine j_iload_n (pc' := 5) hX dX4_needSetting_4 rfl 0 rfl rfl ?_
    refine j_iconst (pc' := 6) (v := 3) hX dX4_needSetting_5 (by decide) rfl ?_
    refine j_icmp_ge (tgt := 13) (pc' := 9) hX dX4_needSetting_6 (by decide) rfl hf (fun hf => ?_) (fun hf => ?_)
    · refine j_iconst (pc' := 14) (v := 0) hX dX4_needSetting_13 (by decide) rfl ?_
      refine j_callSX (pc' := 17) (k' := 1) (n' := 6) (As := [.int 0]) (rest := []) (stk := fun _ => []) (ws' := fun _ => ([] : va_W)) (wr := ([] : va_W)) hX hW hE (fun l => met_X4_needIndex l g 0 _ _ hf) rfl gX4_needSetting_X4_needIndex yoX4_needIndex rfl ⟨Nat.le_of_ble_eq_true rfl, Nat.le_of_ble_eq_true rfl⟩ ⟨Nat.le_of_ble_eq_true rfl, Nat.le_of_ble_eq_true rfl, Nat.le_of_ble_eq_true rfl, Nat.le_of_ble_eq_true rfl⟩ [] [] [] rfl (by decide) rfl (by decide) (by decide) (fun _ => rfl) rfl (by decide) (Nat.le_of_ble_eq_true rfl) rfl (fun _ => rfl) dX4_needSetting_14 rfl (fun _ h => j_out hO (Nat.le_of_ble_eq_true rfl) (Nat.le_of_ble_eq_true rfl) rfl h) (fun _ _ hf => ?_)
      refine J_widen (k' := 1) (n' := 6) (Nat.le_of_ble_eq_true rfl) (Nat.le_of_ble_eq_true rfl) ?_
      exact j_vret hX hR dX4_needSetting_17 ⟨(), (), rfl, hf, rfl⟩
    · refine j_iconst (pc' := 10) (v := 1) hX dX4_needSetting_9 (by decide) rfl ?_
      refine j_goto (tgt := 14) hX dX4_needSetting_10 (by decide) ?_
      refine j_callSX (pc' := 17) (k' := 1) (n' := 6) (As := [.int 1]) (rest := []) (stk := fun _ => []) (ws' := fun _ => ([] : va_W)) (wr := ([] : va_W)) hX hW hE (fun l => met_X4_needIndex l g 1 _ _ hf) rfl gX4_needSetting_X4_needIndex yoX4_needIndex rfl ⟨Nat.le_of_ble_eq_true rfl, Nat.le_of_ble_eq_true rfl⟩ ⟨Nat.le_of_ble_eq_true rfl, Nat.le_of_ble_eq_true rfl, Nat.le_of_ble_eq_true rfl, Nat.le_of_ble_eq_true rfl⟩ [] [] [] rfl (by decide) rfl (by decide) (by decide) (fun _ => rfl) rfl (by decide) (Nat.le_of_ble_eq_true rfl) rfl (fun _ => rfl) dX4_needSetting_14 rfl (fun _ h => j_out hO (Nat.le_of_ble_eq_true rfl) (Nat.le_of_ble_eq_true rfl) rfl h) (fun _ _ hf => ?_)
      refine J_widen (k' := 1) (n' := 6) (Nat.le_of_ble_eq_true rfl) (Nat.le_of_ble_eq_true rfl) ?_
      exact j_vret hX hR dX4_needSetting_17 ⟨(), (), rfl, hf, rfl⟩
def wp_X4_needSize (p0 : Int32) (post : Prop) (pX : String → Prop) : Prop :=
  ((p0 < 1 → (wp_X4_needArgument 0 (post) pX)) ∧ (¬ p0 < 1 → ((6 < p0 → (wp_X4_needArgument 0 (post) pX)) ∧ (¬ 6 < p0 → (wp_X4_needArgument 1 (post) pX)))))
theorem yoX4_needSize : yOk yX4_needSize 1 := by decide +kernel
set_option maxHeartbeats 4000000 in
set_option maxRecDepth 100000 in
theorem met_X4_needSize (l : Launch) (g : JG) (p0 : Int32) (post : Prop) (pX : String → Prop) (hf : wp_X4_needSize p0 post pX) : MetX l yX4_needSize wsX4_needSize ({ frames := 7, cells := 1, slots := 6, locals := 110 } : Room) [.int p0] g ([] : va_W) mkV (fun (_ : Unit) (_ : Unit) => post) (fun u : Unit => ([] : va_W)) pX := by
  refine enterX (own := RX4) (cc := cX4_needSize) (nL := 1) (ret := none) (lv := [(0, .int p0)]) (by decide) rfl rfl (Nat.le_of_ble_eq_true rfl) rfl (fun X hX hW hE hR hO => ?_)
  unfold wp_X4_needSize at hf
  refine j_iload_n (pc' := 1) hX dX4_needSize_0 rfl 0 rfl rfl ?_
  refine j_iconst (pc' := 2) (v := 1) hX dX4_needSize_1 (by decide) rfl ?_
  refine j_icmp_lt (tgt := 15) (pc' := 5) hX dX4_needSize_2 (by decide) rfl hf (fun hf => ?_) (fun hf => ?_)
  · refine j_iconst (pc' := 16) (v := 0) hX dX4_needSize_15 (by decide) rfl ?_
    refine j_callSX (pc' := 19) (k' := 1) (n' := 6) (As := [.int 0]) (rest := []) (stk := fun _ => []) (ws' := fun _ => ([] : va_W)) (wr := ([] : va_W)) hX hW hE (fun l => met_X4_needArgument l g 0 _ _ hf) rfl gX4_needSize_X4_needArgument yoX4_needArgument rfl ⟨Nat.le_of_ble_eq_true rfl, Nat.le_of_ble_eq_true rfl⟩ ⟨Nat.le_of_ble_eq_true rfl, Nat.le_of_ble_eq_true rfl, Nat.le_of_ble_eq_true rfl, Nat.le_of_ble_eq_true rfl⟩ [] [] [] rfl (by decide) rfl (by decide) (by decide) (fun _ => rfl) rfl (by decide) (Nat.le_of_ble_eq_true rfl) rfl (fun _ => rfl) dX4_needSize_16 rfl (fun _ h => j_out hO (Nat.le_of_ble_eq_true rfl) (Nat.le_of_ble_eq_true rfl) rfl h) (fun _ _ hf => ?_)
    refine J_widen (k' := 1) (n' := 6) (Nat.le_of_ble_eq_true rfl) (Nat.le_of_ble_eq_true rfl) ?_
    exact j_vret hX hR dX4_needSize_19 ⟨(), (), rfl, hf, rfl⟩
  · refine j_iload_n (pc' := 6) hX dX4_needSize_5 rfl 0 rfl rfl ?_
    refine j_bipush (pc' := 8) (v := 6) hX dX4_needSize_6 (by decide) rfl ?_
    refine j_icmp_gt (tgt := 15) (pc' := 11) hX dX4_needSize_8 (by decide) rfl hf (fun hf => ?_) (fun hf => ?_)
    · refine j_iconst (pc' := 16) (v := 0) hX dX4_needSize_15 (by decide) rfl ?_
      refine j_callSX (pc' := 19) (k' := 1) (n' := 6) (As := [.int 0]) (rest := []) (stk := fun _ => []) (ws' := fun _ => ([] : va_W)) (wr := ([] : va_W)) hX hW hE (fun l => met_X4_needArgument l g 0 _ _ hf) rfl gX4_needSize_X4_needArgument yoX4_needArgument rfl ⟨Nat.le_of_ble_eq_true rfl, Nat.le_of_ble_eq_true rfl⟩ ⟨Nat.le_of_ble_eq_true rfl, Nat.le_of_ble_eq_true rfl, Nat.le_of_ble_eq_true rfl, Nat.le_of_ble_eq_true rfl⟩ [] [] [] rfl (by decide) rfl (by decide) (by decide) (fun _ => rfl) rfl (by decide) (Nat.le_of_ble_eq_true rfl) rfl (fun _ => rfl) dX4_needSize_16 rfl (fun _ h => j_out hO (Nat.le_of_ble_eq_true rfl) (Nat.le_of_ble_eq_true rfl) rfl h) (fun _ _ hf => ?_)
      refine J_widen (k' := 1) (n' := 6) (Nat.le_of_ble_eq_true rfl) (Nat.le_of_ble_eq_true rfl) ?_
      exact j_vret hX hR dX4_needSize_19 ⟨(), (), rfl, hf, rfl⟩
    · refine j_iconst (pc' := 12) (v := 1) hX dX4_needSize_11 (by decide) rfl ?_
      refine j_goto (tgt := 16) hX dX4_needSize_12 (by decide) ?_
      refine j_callSX (pc' := 19) (k' := 1) (n' := 6) (As := [.int 1]) (rest := []) (stk := fun _ => []) (ws' := fun _ => ([] : va_W)) (wr := ([] : va_W)) hX hW hE (fun l => met_X4_needArgument l g 1 _ _ hf) rfl gX4_needSize_X4_needArgument yoX4_needArgument rfl ⟨Nat.le_of_ble_eq_true rfl, Nat.le_of_ble_eq_true rfl⟩ ⟨Nat.le_of_ble_eq_true rfl, Nat.le_of_ble_eq_true rfl, Nat.le_of_ble_eq_true rfl, Nat.le_of_ble_eq_true rfl⟩ [] [] [] rfl (by decide) rfl (by decide) (by decide) (fun _ => rfl) rfl (by decide) (Nat.le_of_ble_eq_true rfl) rfl (fun _ => rfl) dX4_needSize_16 rfl (fun _ h => j_out hO (Nat.le_of_ble_eq_true rfl) (Nat.le_of_ble_eq_true rfl) rfl h) (fun _ _ hf => ?_)
      refine J_widen (k' := 1) (n' := 6) (Nat.le_of_ble_eq_true rfl) (Nat.le_of_ble_eq_true rfl) ?_
      exact j_vret hX hR dX4_needSize_19 ⟨(), (), rfl, hf, rfl⟩
def wp_X4_mixed (p0 : Int64) (p1 : Int64) (post : Int64 → Prop) : Prop :=
  post ((31 * p0) + p1)
theorem yoX4_mixed : yOk yX4_mixed 2 := by decide +kernel
set_option maxHeartbeats 4000000 in
set_option maxRecDepth 100000 in
theorem met_X4_mixed (l : Launch) (g : JG) (p0 : Int64) (p1 : Int64) (post : Int64 → Prop) (hf : wp_X4_mixed p0 p1 post) : MetR l yX4_mixed wsX4_mixed ({ frames := 0, cells := 0, slots := 0, locals := 0 } : Room) [.long p0, .long p1] g ([] : va_W) mkL post := by
  have hl_211 : Cond.constantLong RX4 211 31 ∈ wsX4_mixed := by decide +kernel
  refine enterR (own := RX4) (cc := cX4_mixed) (nL := 4) (ret := (some .long)) (lv := [(0, .long p0), (2, .long p1)]) (by decide) rfl rfl (Nat.le_of_ble_eq_true rfl) rfl (fun X hX hR => ?_)
  unfold wp_X4_mixed at hf
  refine j_ldc2l (pc' := 3) (v := 31) hX hl_211 dX4_mixed_0 rfl ?_
  refine j_lload_n (pc' := 4) hX dX4_mixed_3 rfl 0 rfl rfl ?_
  refine j_lmul (pc' := 5) hX dX4_mixed_4 rfl ?_
  refine j_lload_n (pc' := 6) hX dX4_mixed_5 rfl 1 rfl rfl ?_
  refine j_ladd (pc' := 7) hX dX4_mixed_6 rfl ?_
  exact j_lret hX hR dX4_mixed_7 ⟨_, rfl, hf⟩
def wp_X4_bitsOf_L18  (K18_49 : UInt64 → Int64 → Prop) : Nat → UInt64 → Int64 → Int32 → Prop
  | 0, _, _, _ => False
  | N18 + 1, x2_18, x4_18, x6_18 =>
  ((64 ≤ x6_18 → K18_49 x2_18 x4_18) ∧ (¬ 64 ≤ x6_18 → ((0 ≤ (Op.cmpValue (FP.dcmp x2_18 FP.dconst1) CmpOp.g) → K18_49 x2_18 x4_18) ∧ (¬ 0 ≤ (Op.cmpValue (FP.dcmp x2_18 FP.dconst1) CmpOp.g) → (vf_n64 (FP.dmul x2_18 4611686018427387904) ∧ (wp_X4_bitsOf_L18 K18_49 N18) (FP.dmul x2_18 4611686018427387904) (x4_18 - 1) (x6_18 + 1))))))
def wp_X4_bitsOf (p0 : UInt64) (post : Int64 → Prop) : Prop :=
  ((0 < (Op.cmpValue (FP.dcmp p0 FP.dconst0) CmpOp.l) → (∃ N : Nat, wp_X4_bitsOf_L18 (fun (e1 : UInt64) (e2 : Int64) => (vf_n64 (FP.dsub e1 FP.dconst1) ∧ (vf_n64 (FP.dmul (FP.dsub e1 FP.dconst1) 4841369599423283200) ∧ post ((e2 <<< ((52 : Int32).toInt64 &&& 63)) + (FP.d2l (FP.dmul (FP.dsub e1 FP.dconst1) 4841369599423283200)))))) N p0 1023 0)) ∧ (¬ 0 < (Op.cmpValue (FP.dcmp p0 FP.dconst0) CmpOp.l) → post 0))
theorem yoX4_bitsOf : yOk yX4_bitsOf 1 := by decide +kernel
set_option maxHeartbeats 4000000 in
set_option maxRecDepth 100000 in
theorem met_X4_bitsOf (l : Launch) (g : JG) (p0 : UInt64) (post : Int64 → Prop) (hf : wp_X4_bitsOf p0 post) : MetR l yX4_bitsOf wsX4_bitsOf ({ frames := 0, cells := 0, slots := 0, locals := 0 } : Room) [.double p0] g ([] : va_W) mkL post := by
  have hl_213 : Cond.constantLong RX4 213 1023 ∈ wsX4_bitsOf := by decide +kernel
  have hl_215 : Cond.constantDouble RX4 215 4611686018427387904 ∈ wsX4_bitsOf := by decide +kernel
  have hl_217 : Cond.constantDouble RX4 217 4841369599423283200 ∈ wsX4_bitsOf := by decide +kernel
  refine enterR (own := RX4) (cc := cX4_bitsOf) (nL := 7) (ret := (some .long)) (lv := [(0, .double p0)]) (by decide) rfl rfl (Nat.le_of_ble_eq_true rfl) rfl (fun X hX hR => ?_)
  unfold wp_X4_bitsOf at hf
  refine j_dload_n (pc' := 1) hX dX4_bitsOf_0 rfl 0 rfl rfl ?_
  refine j_dconst0 (pc' := 2) hX dX4_bitsOf_1 rfl ?_
  refine j_dcmp (pc' := 3) hX dX4_bitsOf_2 rfl ?_
  refine j_if_gt (tgt := 8) (pc' := 6) hX dX4_bitsOf_3 (by decide) rfl hf (fun hf => ?_) (fun hf => ?_)
  · refine j_dload_n (pc' := 9) hX dX4_bitsOf_8 rfl 0 rfl rfl ?_
    refine j_dstore_n (pc' := 10) (lv' := [(2, .double p0), (0, .double p0)]) hX dX4_bitsOf_9 rfl (by decide) rfl rfl ?_
    refine j_ldc2l (pc' := 13) (v := 1023) hX hl_213 dX4_bitsOf_10 rfl ?_
    refine j_lstore (pc' := 15) (lv' := [(4, .long 1023), (2, .double p0), (0, .double p0)]) hX dX4_bitsOf_13 (by decide) rfl rfl ?_
    refine j_iconst (pc' := 16) (v := 0) hX dX4_bitsOf_15 (by decide) rfl ?_
    refine j_istore (pc' := 18) (lv' := [(6, .int 0), (4, .long 1023), (2, .double p0), (0, .double p0)]) hX dX4_bitsOf_16 (by decide) rfl rfl ?_
    obtain ⟨N18, hf⟩ := hf
    have L18 : ∀ (K18_49 : UInt64 → Int64 → Prop), (∀ (x2_18 : UInt64) (x4_18 : Int64), K18_49 x2_18 x4_18 → J g X 0 0 ([] : va_W) [(2, .double x2_18), (4, .long x4_18)] [] 49) → ∀ (N18 : Nat) (x2_18 : UInt64) (x4_18 : Int64) (x6_18 : Int32), wp_X4_bitsOf_L18 K18_49 N18 x2_18 x4_18 x6_18 → J g X 0 0 ([] : va_W) [(2, .double x2_18), (4, .long x4_18), (6, .int x6_18)] [] 18 := by
      intro K18_49 hK18_49 N18
      induction N18 with
      | zero => intro x2_18 x4_18 x6_18 hf; exact False.elim hf
      | succ N18 ih18 =>
        intro x2_18 x4_18 x6_18 hf
        refine j_iload (pc' := 20) hX dX4_bitsOf_18 2 rfl rfl ?_
        refine j_bipush (pc' := 22) (v := 64) hX dX4_bitsOf_20 (by decide) rfl ?_
        refine j_icmp_ge (tgt := 49) (pc' := 25) hX dX4_bitsOf_22 (by decide) rfl hf (fun hf => ?_) (fun hf => ?_)
        · refine J_sub (lv' := [(2, .double x2_18), (4, .long x4_18)]) [0, 1] rfl ?_
          exact hK18_49 x2_18 x4_18 hf
        · refine j_dload_n (pc' := 26) hX dX4_bitsOf_25 rfl 0 rfl rfl ?_
          refine j_dconst1 (pc' := 27) hX dX4_bitsOf_26 rfl ?_
          refine j_dcmp (pc' := 28) hX dX4_bitsOf_27 rfl ?_
          refine j_if_ge (tgt := 49) (pc' := 31) hX dX4_bitsOf_28 (by decide) rfl hf (fun hf => ?_) (fun hf => ?_)
          · refine J_sub (lv' := [(2, .double x2_18), (4, .long x4_18)]) [0, 1] rfl ?_
            exact hK18_49 x2_18 x4_18 hf
          · refine j_dload_n (pc' := 32) hX dX4_bitsOf_31 rfl 0 rfl rfl ?_
            refine j_ldc2d (pc' := 35) (v := 4611686018427387904) hX hl_215 dX4_bitsOf_32 rfl ?_
            refine j_dmul (pc' := 36) hX dX4_bitsOf_35 hf rfl (fun hf => ?_)
            refine j_dstore_n (pc' := 37) (lv' := [(2, .double (FP.dmul x2_18 4611686018427387904)), (4, .long x4_18), (6, .int x6_18)]) hX dX4_bitsOf_36 rfl (by decide) rfl rfl ?_
            refine j_lload (pc' := 39) hX dX4_bitsOf_37 1 rfl rfl ?_
            refine j_lconst (pc' := 40) (v := 1) hX dX4_bitsOf_39 (by decide) rfl ?_
            refine j_lsub (pc' := 41) hX dX4_bitsOf_40 rfl ?_
            refine j_lstore (pc' := 43) (lv' := [(4, .long (x4_18 - 1)), (2, .double (FP.dmul x2_18 4611686018427387904)), (6, .int x6_18)]) hX dX4_bitsOf_41 (by decide) rfl rfl ?_
            refine j_iinc (pc' := 46) (cst := 1) (v := (x6_18 + 1)) (lv' := [(6, .int (x6_18 + 1)), (4, .long (x4_18 - 1)), (2, .double (FP.dmul x2_18 4611686018427387904))]) hX dX4_bitsOf_43 (by decide) rfl 2 rfl (by decide) rfl rfl ?_
            refine j_goto (tgt := 18) hX dX4_bitsOf_46 (by decide) ?_
            refine J_sub (lv' := [(2, .double (FP.dmul x2_18 4611686018427387904)), (4, .long (x4_18 - 1)), (6, .int (x6_18 + 1))]) [2, 1, 0] rfl ?_
            exact ih18 (FP.dmul x2_18 4611686018427387904) (x4_18 - 1) (x6_18 + 1) hf
    refine J_sub (lv' := [(2, .double p0), (4, .long 1023), (6, .int 0)]) [2, 1, 0] rfl ?_
    refine L18 _ (fun e1 e2 hf => ?_) N18 p0 1023 0 hf
    refine j_lload (pc' := 51) hX dX4_bitsOf_49 1 rfl rfl ?_
    refine j_bipush (pc' := 53) (v := 52) hX dX4_bitsOf_51 (by decide) rfl ?_
    refine j_lshl (pc' := 54) hX dX4_bitsOf_53 rfl ?_
    refine j_dload_n (pc' := 55) hX dX4_bitsOf_54 rfl 0 rfl rfl ?_
    refine j_dconst1 (pc' := 56) hX dX4_bitsOf_55 rfl ?_
    refine j_dsub (pc' := 57) hX dX4_bitsOf_56 hf rfl (fun hf => ?_)
    refine j_ldc2d (pc' := 60) (v := 4841369599423283200) hX hl_217 dX4_bitsOf_57 rfl ?_
    refine j_dmul (pc' := 61) hX dX4_bitsOf_60 hf rfl (fun hf => ?_)
    refine j_d2l (pc' := 62) hX dX4_bitsOf_61 rfl ?_
    refine j_ladd (pc' := 63) hX dX4_bitsOf_62 rfl ?_
    exact j_lret hX hR dX4_bitsOf_63 ⟨_, rfl, hf⟩
  · refine j_lconst (pc' := 7) (v := 0) hX dX4_bitsOf_6 (by decide) rfl ?_
    exact j_lret hX hR dX4_bitsOf_7 ⟨_, rfl, hf⟩
def wp_X4_numberOf (p0 : Int32) (post : Int32 → Prop) : Prop :=
  ((p0 = 0 → post 0) ∧ (¬ p0 = 0 → post 1))
theorem yoX4_numberOf : yOk yX4_numberOf 1 := by decide +kernel
set_option maxHeartbeats 4000000 in
set_option maxRecDepth 100000 in
theorem met_X4_numberOf (l : Launch) (g : JG) (p0 : Int32) (post : Int32 → Prop) (hf : wp_X4_numberOf p0 post) : MetR l yX4_numberOf wsX4_numberOf ({ frames := 0, cells := 0, slots := 0, locals := 0 } : Room) [.int p0] g ([] : va_W) mkI post := by
  refine enterR (own := RX4) (cc := cX4_numberOf) (nL := 1) (ret := (some .int)) (lv := [(0, .int p0)]) (by decide) rfl rfl (Nat.le_of_ble_eq_true rfl) rfl (fun X hX hR => ?_)
  unfold wp_X4_numberOf at hf
  refine j_iload_n (pc' := 1) hX dX4_numberOf_0 rfl 0 rfl rfl ?_
  refine j_if_eq (tgt := 8) (pc' := 4) hX dX4_numberOf_1 (by decide) rfl hf (fun hf => ?_) (fun hf => ?_)
  · refine j_iconst (pc' := 9) (v := 0) hX dX4_numberOf_8 (by decide) rfl ?_
    exact j_iret hX hR dX4_numberOf_9 ⟨_, rfl, hf⟩
  · refine j_iconst (pc' := 5) (v := 1) hX dX4_numberOf_4 (by decide) rfl ?_
    refine j_goto (tgt := 9) hX dX4_numberOf_5 (by decide) ?_
    exact j_iret hX hR dX4_numberOf_9 ⟨_, rfl, hf⟩
def wp_X4_isSettingValue (p0 : Int32) (p1 : Int32) (post : Int32 → Prop) : Prop :=
  ((p0 = 0 → ((p1 < 24 → post 0) ∧ (¬ p1 < 24 → ((60 < p1 → post 0) ∧ (¬ 60 < p1 → post 1))))) ∧ (¬ p0 = 0 → ((p1 < 0 → post 0) ∧ (¬ p1 < 0 → ((p0 = 1 → ((3 ≤ p1 → post 0) ∧ (¬ 3 ≤ p1 → post 1))) ∧ (¬ p0 = 1 → ((2 ≤ p1 → post 0) ∧ (¬ 2 ≤ p1 → post 1))))))))
theorem yoX4_isSettingValue : yOk yX4_isSettingValue 2 := by decide +kernel
set_option maxHeartbeats 4000000 in
set_option maxRecDepth 100000 in
theorem met_X4_isSettingValue (l : Launch) (g : JG) (p0 : Int32) (p1 : Int32) (post : Int32 → Prop) (hf : wp_X4_isSettingValue p0 p1 post) : MetR l yX4_isSettingValue wsX4_isSettingValue ({ frames := 0, cells := 0, slots := 0, locals := 0 } : Room) [.int p0, .int p1] g ([] : va_W) mkI post := by
  refine enterR (own := RX4) (cc := cX4_isSettingValue) (nL := 2) (ret := (some .boolean)) (lv := [(0, .int p0), (1, .int p1)]) (by decide) rfl rfl (Nat.le_of_ble_eq_true rfl) rfl (fun X hX hR => ?_)
  unfold wp_X4_isSettingValue at hf
  refine j_iload_n (pc' := 1) hX dX4_isSettingValue_0 rfl 0 rfl rfl ?_
  refine j_if_ne (tgt := 22) (pc' := 4) hX dX4_isSettingValue_1 (by decide) rfl hf (fun hf => ?_) (fun hf => ?_)
  · refine j_iload_n (pc' := 23) hX dX4_isSettingValue_22 rfl 1 rfl rfl ?_
    refine j_if_lt (tgt := 44) (pc' := 26) hX dX4_isSettingValue_23 (by decide) rfl hf (fun hf => ?_) (fun hf => ?_)
    · refine j_iconst (pc' := 45) (v := 0) hX dX4_isSettingValue_44 (by decide) rfl ?_
      exact j_zret hX hR rfl dX4_isSettingValue_45 ⟨_, rfl, hf⟩
    · refine j_iload_n (pc' := 27) hX dX4_isSettingValue_26 rfl 1 rfl rfl ?_
      refine j_iload_n (pc' := 28) hX dX4_isSettingValue_27 rfl 0 rfl rfl ?_
      refine j_iconst (pc' := 29) (v := 1) hX dX4_isSettingValue_28 (by decide) rfl ?_
      refine j_icmp_ne (tgt := 36) (pc' := 32) hX dX4_isSettingValue_29 (by decide) rfl hf (fun hf => ?_) (fun hf => ?_)
      · refine j_iconst (pc' := 37) (v := 2) hX dX4_isSettingValue_36 (by decide) rfl ?_
        refine j_icmp_ge (tgt := 44) (pc' := 40) hX dX4_isSettingValue_37 (by decide) rfl hf (fun hf => ?_) (fun hf => ?_)
        · refine j_iconst (pc' := 45) (v := 0) hX dX4_isSettingValue_44 (by decide) rfl ?_
          exact j_zret hX hR rfl dX4_isSettingValue_45 ⟨_, rfl, hf⟩
        · refine j_iconst (pc' := 41) (v := 1) hX dX4_isSettingValue_40 (by decide) rfl ?_
          refine j_goto (tgt := 45) hX dX4_isSettingValue_41 (by decide) ?_
          exact j_zret hX hR rfl dX4_isSettingValue_45 ⟨_, rfl, hf⟩
      · refine j_iconst (pc' := 33) (v := 3) hX dX4_isSettingValue_32 (by decide) rfl ?_
        refine j_goto (tgt := 37) hX dX4_isSettingValue_33 (by decide) ?_
        refine j_icmp_ge (tgt := 44) (pc' := 40) hX dX4_isSettingValue_37 (by decide) rfl hf (fun hf => ?_) (fun hf => ?_)
        · refine j_iconst (pc' := 45) (v := 0) hX dX4_isSettingValue_44 (by decide) rfl ?_
          exact j_zret hX hR rfl dX4_isSettingValue_45 ⟨_, rfl, hf⟩
        · refine j_iconst (pc' := 41) (v := 1) hX dX4_isSettingValue_40 (by decide) rfl ?_
          refine j_goto (tgt := 45) hX dX4_isSettingValue_41 (by decide) ?_
          exact j_zret hX hR rfl dX4_isSettingValue_45 ⟨_, rfl, hf⟩
  · refine j_iload_n (pc' := 5) hX dX4_isSettingValue_4 rfl 1 rfl rfl ?_
    refine j_bipush (pc' := 7) (v := 24) hX dX4_isSettingValue_5 (by decide) rfl ?_
    refine j_icmp_lt (tgt := 20) (pc' := 10) hX dX4_isSettingValue_7 (by decide) rfl hf (fun hf => ?_) (fun hf => ?_)
    · refine j_iconst (pc' := 21) (v := 0) hX dX4_isSettingValue_20 (by decide) rfl ?_
      exact j_zret hX hR rfl dX4_isSettingValue_21 ⟨_, rfl, hf⟩
    · refine j_iload_n (pc' := 11) hX dX4_isSettingValue_10 rfl 1 rfl rfl ?_
      refine j_bipush (pc' := 13) (v := 60) hX dX4_isSettingValue_11 (by decide) rfl ?_
      refine j_icmp_gt (tgt := 20) (pc' := 16) hX dX4_isSettingValue_13 (by decide) rfl hf (fun hf => ?_) (fun hf => ?_)
      · refine j_iconst (pc' := 21) (v := 0) hX dX4_isSettingValue_20 (by decide) rfl ?_
        exact j_zret hX hR rfl dX4_isSettingValue_21 ⟨_, rfl, hf⟩
      · refine j_iconst (pc' := 17) (v := 1) hX dX4_isSettingValue_16 (by decide) rfl ?_
        refine j_goto (tgt := 21) hX dX4_isSettingValue_17 (by decide) ?_
        exact j_zret hX hR rfl dX4_isSettingValue_21 ⟨_, rfl, hf⟩
def wp_X4_stock (vp : Pc) (p0 : Int32) (p1 : Int32) (post : Int32 → Pc → Prop) (pX : String → Prop) : Prop :=
  (wp_X4_needSize p0 (((p1 < 0 → (wp_X4_needArgument 0 ((wp_X1_save vp.2.2.2.1 vp.1 (fun u30_1 => (wp_X2_changeStock ((pc_h vp (u30_1)).1) p0 p1 (fun r39 u39_2 => post r39 (pc_m (pc_h vp (u30_1)) (u39_2))))))) pX)) ∧ (¬ p1 < 0 → ((99 < p1 → (wp_X4_needArgument 0 ((wp_X1_save vp.2.2.2.1 vp.1 (fun u30_3 => (wp_X2_changeStock ((pc_h vp (u30_3)).1) p0 p1 (fun r39 u39_4 => post r39 (pc_m (pc_h vp (u30_3)) (u39_4))))))) pX)) ∧ (¬ 99 < p1 → (wp_X4_needArgument 1 ((wp_X1_save vp.2.2.2.1 vp.1 (fun u30_5 => (wp_X2_changeStock ((pc_h vp (u30_5)).1) p0 p1 (fun r39 u39_6 => post r39 (pc_m (pc_h vp (u30_5)) (u39_6))))))) pX)))))) pX)
theorem yoX4_stock : yOk yX4_stock 2 := by decide +kernel
set_option maxHeartbeats 4000000 in
set_option maxRecDepth 100000 in
theorem met_X4_stock (l : Launch) (g : JG) (pa : Nat → Nat) (vp : Pc) (p0 : Int32) (p1 : Int32) (post : Int32 → Pc → Prop) (pX : String → Prop) (hf : wp_X4_stock vp p0 p1 post pX) : MetX l yX4_stock wsX4_stock ({ frames := 8, cells := 2, slots := 12, locals := 130 } : Room) [.ref (pa 0), .int p0, .int p1] g ((PcB g pa vp).flatten) mkI post (fun u : Pc => ((PcB g pa u).flatten)) pX := by
  have hin4 : ∀ w ∈ u_ws RX4 TX4 5, w ∈ wsX4_stock := by decide +kernel
  have hl_29 : Cond.fieldLink RX4 29 (TX4 3).1 (TX4 3).2.1 (TX4 3).2.2.1 ∈ wsX4_stock := by decide +kernel
  have hl_10 : Cond.fieldLink RX4 10 (TX4 0).1 (TX4 0).2.1 (TX4 0).2.2.1 ∈ wsX4_stock := by decide +kernel
  refine enterX (own := RX4) (cc := cX4_stock) (nL := 3) (ret := (some .int)) (lv := [(0, .ref (pa 0)), (1, .int p0), (2, .int p1)]) (by decide) rfl rfl (Nat.le_of_ble_eq_true rfl) rfl (fun X hX hW hE hR hO => ?_)
  unfold wp_X4_stock at hf
  refine j_iload_n (pc' := 1) hX dX4_stock_0 rfl 1 rfl rfl ?_
  refine j_callSXb (nb := 12) (pc' := 4) (k' := 1) (n' := 6) (As := [.int p0]) (rest := []) (stk := fun _ => []) (bs := (PcB g pa vp)) (cs := ([] : List va_W)) (rs := (List.map (fun i : Nat => List.getD (PcB g pa vp) i []) [0, 1, 2, 3, 4, 5, 6, 7, 8, 9, 10, 11])) (ws' := fun _ => ((PcB g pa vp).flatten)) (bs' := fun _ => (PcB g pa vp)) (d1 := fun _ => ([] : List va_W)) hX hW hE (fun l => met_X4_needSize l g p0 _ _ hf) rfl gX4_stock_X4_needSize yoX4_needSize rfl ⟨Nat.le_of_ble_eq_true rfl, Nat.le_of_ble_eq_true rfl⟩ ⟨Nat.le_of_ble_eq_true rfl, Nat.le_of_ble_eq_true rfl, Nat.le_of_ble_eq_true rfl, Nat.le_of_ble_eq_true rfl⟩ [0, 1, 2, 3, 4, 5, 6, 7, 8, 9, 10, 11] rfl rfl rfl (by decide) rfl (fun _ => rfl) (fun _ => rfl) (fun _ => rfl) (fun _ => rfl) (Nat.le_of_ble_eq_true rfl) rfl (fun _ => rfl) dX4_stock_1 rfl (fun _ h => j_out hO (Nat.le_of_ble_eq_true rfl) (Nat.le_of_ble_eq_true rfl) rfl h) (fun _ _ hf => ?_)
  refine j_iload_n (pc' := 5) hX dX4_stock_4 rfl 2 rfl rfl ?_
  refine j_if_lt (tgt := 18) (pc' := 8) hX dX4_stock_5 (by decide) rfl hf (fun hf => ?_) (fun hf => ?_)
  · refine j_iconst (pc' := 19) (v := 0) hX dX4_stock_18 (by decide) rfl ?_
    refine j_callSXb (nb := 12) (pc' := 22) (k' := 2) (n' := 12) (As := [.int 0]) (rest := []) (stk := fun _ => []) (bs := (PcB g pa vp)) (cs := ([] : List va_W)) (rs := (List.map (fun i : Nat => List.getD (PcB g pa vp) i []) [0, 1, 2, 3, 4, 5, 6, 7, 8, 9, 10, 11])) (ws' := fun _ => ((PcB g pa vp).flatten)) (bs' := fun _ => (PcB g pa vp)) (d1 := fun _ => ([] : List va_W)) hX hW hE (fun l => met_X4_needArgument l g 0 _ _ hf) rfl gX4_stock_X4_needArgument yoX4_needArgument rfl ⟨Nat.le_of_ble_eq_true rfl, Nat.le_of_ble_eq_true rfl⟩ ⟨Nat.le_of_ble_eq_true rfl, Nat.le_of_ble_eq_true rfl, Nat.le_of_ble_eq_true rfl, Nat.le_of_ble_eq_true rfl⟩ [0, 1, 2, 3, 4, 5, 6, 7, 8, 9, 10, 11] rfl rfl rfl (by decide) rfl (fun _ => rfl) (fun _ => rfl) (fun _ => rfl) (fun _ => rfl) (Nat.le_of_ble_eq_true rfl) rfl (fun _ => rfl) dX4_stock_19 rfl (fun _ h => j_out hO (Nat.le_of_ble_eq_true rfl) (Nat.le_of_ble_eq_true rfl) rfl h) (fun _ _ hf => ?_)
    refine j_aload_n (pc' := 23) hX dX4_stock_22 rfl 0 rfl rfl ?_
    refine j_get (ci := 4) (pc' := 26) hX hin4 rfl 0 rfl 3 (by decide) hl_29 rfl dX4_stock_23 rfl ?_
    refine j_aload_n (pc' := 27) hX dX4_stock_26 rfl 0 rfl rfl ?_
    refine j_get (ci := 4) (pc' := 30) hX hin4 rfl 0 rfl 0 (by decide) hl_10 rfl dX4_stock_27 rfl ?_
    refine j_callVMb (ci := 1) (nb := 12) (pc' := 33) (k' := 2) (n' := 12) (As := [.ref (pa 1)]) (rest := []) (stk := fun _ => []) (bs := (PcB g pa vp)) (cs := (HiB g (fun i => pa (13 + i)) vp.2.2.2.1 ++ [(MoW g (pa 1) (pa 2) (pa 3) (pa 4) (pa 5) (vp.1))])) (rs := (List.map (fun i : Nat => List.getD (PcB g pa vp) i []) [0, 2, 3, 11])) (ws' := fun u30_1 => ((PcB g pa (pc_h vp (u30_1))).flatten)) (bs' := fun u30_1 => (PcB g pa (pc_h vp (u30_1)))) (d1 := fun u30_1 => (HiB g (fun i => pa (13 + i)) u30_1 ++ [(MoW g (pa 1) (pa 2) (pa 3) (pa 4) (pa 5) (vp.1))])) hX hW (fun l => met_X1_save l g (fun i => pa (13 + i)) (pa 1) (pa 2) (pa 3) (pa 4) (pa 5) vp.2.2.2.1 vp.1 _ hf) rfl gX4_stock_X1_save yoX1_save rfl ⟨Nat.le_of_ble_eq_true rfl, Nat.le_of_ble_eq_true rfl⟩ ⟨Nat.le_of_ble_eq_true rfl, Nat.le_of_ble_eq_true rfl, Nat.le_of_ble_eq_true rfl, Nat.le_of_ble_eq_true rfl⟩ 0 rfl rfl [0, 2, 3, 11, 4, 5, 6, 7, 8, 9, 10, 1] rfl rfl rfl (by decide) rfl (fun _ => rfl) (fun _ => rfl) (fun _ => rfl) (fun _ => rfl) (Nat.le_of_ble_eq_true rfl) rfl (fun _ => rfl) dX4_stock_30 rfl (fun _ u30_1 hf => ?_)
    refine j_aload_n (pc' := 34) hX dX4_stock_33 rfl 0 rfl rfl ?_
    refine j_get (ci := 4) (pc' := 37) hX hin4 rfl 0 rfl 0 (by decide) hl_10 rfl dX4_stock_34 rfl ?_
    refine j_iload_n (pc' := 38) hX dX4_stock_37 rfl 1 rfl rfl ?_
    refine j_iload_n (pc' := 39) hX dX4_stock_38 rfl 2 rfl rfl ?_
    refine j_callVMb (ci := 2) (nb := 12) (pc' := 42) (k' := 2) (n' := 12) (As := [.int p0, .int p1]) (rest := []) (stk := fun r39 => [.int r39]) (bs := (PcB g pa (pc_h vp (u30_1)))) (cs := ([(MoW g (pa 1) (pa 2) (pa 3) (pa 4) (pa 5) ((pc_h vp (u30_1)).1))])) (rs := (List.map (fun i : Nat => List.getD (PcB g pa (pc_h vp (u30_1))) i []) [0, 2, 3, 4, 5, 6, 7, 8, 9, 10, 11])) (ws' := fun u39_2 => ((PcB g pa (pc_m (pc_h vp (u30_1)) (u39_2))).flatten)) (bs' := fun u39_2 => (PcB g pa (pc_m (pc_h vp (u30_1)) (u39_2)))) (d1 := fun u39_2 => ([(MoW g (pa 1) (pa 2) (pa 3) (pa 4) (pa 5) u39_2)])) hX hW (fun l => met_X2_changeStock l g (pa 1) (pa 2) (pa 3) (pa 4) (pa 5) ((pc_h vp (u30_1)).1) p0 p1 _ hf) rfl gX4_stock_X2_changeStock yoX2_changeStock rfl ⟨Nat.le_of_ble_eq_true rfl, Nat.le_of_ble_eq_true rfl⟩ ⟨Nat.le_of_ble_eq_true rfl, Nat.le_of_ble_eq_true rfl, Nat.le_of_ble_eq_true rfl, Nat.le_of_ble_eq_true rfl⟩ 0 rfl rfl [0, 2, 3, 4, 5, 6, 7, 8, 9, 10, 11, 1] rfl rfl rfl (by decide) rfl (fun _ => rfl) (fun _ => rfl) (fun _ => rfl) (fun _ => rfl) (Nat.le_of_ble_eq_true rfl) rfl (fun _ => rfl) dX4_stock_39 rfl (fun r39 u39_2 hf => ?_)
    refine J_widen (k' := 2) (n' := 12) (Nat.le_of_ble_eq_true rfl) (Nat.le_of_ble_eq_true rfl) ?_
    exact j_iret hX hR dX4_stock_42 ⟨_, _, rfl, hf, rfl⟩
  · refine j_iload_n (pc' := 9) hX dX4_stock_8 rfl 2 rfl rfl ?_
    refine j_bipush (pc' := 11) (v := 99) hX dX4_stock_9 (by decide) rfl ?_
    refine j_icmp_gt (tgt := 18) (pc' := 14) hX dX4_stock_11 (by decide) rfl hf (fun hf => ?_) (fun hf => ?_)
    · refine j_iconst (pc' := 19) (v := 0) hX dX4_stock_18 (by decide) rfl ?_
      refine j_callSXb (nb := 12) (pc' := 22) (k' := 2) (n' := 12) (As := [.int 0]) (rest := []) (stk := fun _ => []) (bs := (PcB g pa vp)) (cs := ([] : List va_W)) (rs := (List.map (fun i : Nat => List.getD (PcB g pa vp) i []) [0, 1, 2, 3, 4, 5, 6, 7, 8, 9, 10, 11])) (ws' := fun _ => ((PcB g pa vp).flatten)) (bs' := fun _ => (PcB g pa vp)) (d1 := fun _ => ([] : List va_W)) hX hW hE (fun l => met_X4_needArgument l g 0 _ _ hf) rfl gX4_stock_X4_needArgument yoX4_needArgument rfl ⟨Nat.le_of_ble_eq_true rfl, Nat.le_of_ble_eq_true rfl⟩ ⟨Nat.le_of_ble_eq_true rfl, Nat.le_of_ble_eq_true rfl, Nat.le_of_ble_eq_true rfl, Nat.le_of_ble_eq_true rfl⟩ [0, 1, 2, 3, 4, 5, 6, 7, 8, 9, 10, 11] rfl rfl rfl (by decide) rfl (fun _ => rfl) (fun _ => rfl) (fun _ => rfl) (fun _ => rfl) (Nat.le_of_ble_eq_true rfl) rfl (fun _ => rfl) dX4_stock_19 rfl (fun _ h => j_out hO (Nat.le_of_ble_eq_true rfl) (Nat.le_of_ble_eq_true rfl) rfl h) (fun _ _ hf => ?_)
      refine j_aload_n (pc' := 23) hX dX4_stock_22 rfl 0 rfl rfl ?_
      refine j_get (ci := 4) (pc' := 26) hX hin4 rfl 0 rfl 3 (by decide) hl_29 rfl dX4_stock_23 rfl ?_
      refine j_aload_n (pc' := 27) hX dX4_stock_26 rfl 0 rfl rfl ?_
      refine j_get (ci := 4) (pc' := 30) hX hin4 rfl 0 rfl 0 (by decide) hl_10 rfl dX4_stock_27 rfl ?_
      refine j_callVMb (ci := 1) (nb := 12) (pc' := 33) (k' := 2) (n' := 12) (As := [.ref (pa 1)]) (rest := []) (stk := fun _ => []) (bs := (PcB g pa vp)) (cs := (HiB g (fun i => pa (13 + i)) vp.2.2.2.1 ++ [(MoW g (pa 1) (pa 2) (pa 3) (pa 4) (pa 5) (vp.1))])) (rs := (List.map (fun i : Nat => List.getD (PcB g pa vp) i []) [0, 2, 3, 11])) (ws' := fun u30_3 => ((PcB g pa (pc_h vp (u30_3))).flatten)) (bs' := fun u30_3 => (PcB g pa (pc_h vp (u30_3)))) (d1 := fun u30_3 => (HiB g (fun i => pa (13 + i)) u30_3 ++ [(MoW g (pa 1) (pa 2) (pa 3) (pa 4) (pa 5) (vp.1))])) hX hW (fun l => met_X1_save l g (fun i => pa (13 + i)) (pa 1) (pa 2) (pa 3) (pa 4) (pa 5) vp.2.2.2.1 vp.1 _ hf) rfl gX4_stock_X1_save yoX1_save rfl ⟨Nat.le_of_ble_eq_true rfl, Nat.le_of_ble_eq_true rfl⟩ ⟨Nat.le_of_ble_eq_true rfl, Nat.le_of_ble_eq_true rfl, Nat.le_of_ble_eq_true rfl, Nat.le_of_ble_eq_true rfl⟩ 0 rfl rfl [0, 2, 3, 11, 4, 5, 6, 7, 8, 9, 10, 1] rfl rfl rfl (by decide) rfl (fun _ => rfl) (fun _ => rfl) (fun _ => rfl) (fun _ => rfl) (Nat.le_of_ble_eq_true rfl) rfl (fun _ => rfl) dX4_stock_30 rfl (fun _ u30_3 hf => ?_)
      refine j_aload_n (pc' := 34) hX dX4_stock_33 rfl 0 rfl rfl ?_
      refine j_get (ci := 4) (pc' := 37) hX hin4 rfl 0 rfl 0 (by decide) hl_10 rfl dX4_stock_34 rfl ?_
      refine j_iload_n (pc' := 38) hX dX4_stock_37 rfl 1 rfl rfl ?_
      refine j_iload_n (pc' := 39) hX dX4_stock_38 rfl 2 rfl rfl ?_
      refine j_callVMb (ci := 2) (nb := 12) (pc' := 42) (k' := 2) (n' := 12) (As := [.int p0, .int p1]) (rest := []) (stk := fun r39 => [.int r39]) (bs := (PcB g pa (pc_h vp (u30_3)))) (cs := ([(MoW g (pa 1) (pa 2) (pa 3) (pa 4) (pa 5) ((pc_h vp (u30_3)).1))])) (rs := (List.map (fun i : Nat => List.getD (PcB g pa (pc_h vp (u30_3))) i []) [0, 2, 3, 4, 5, 6, 7, 8, 9, 10, 11])) (ws' := fun u39_4 => ((PcB g pa (pc_m (pc_h vp (u30_3)) (u39_4))).flatten)) (bs' := fun u39_4 => (PcB g pa (pc_m (pc_h vp (u30_3)) (u39_4)))) (d1 := fun u39_4 => ([(MoW g (pa 1) (pa 2) (pa 3) (pa 4) (pa 5) u39_4)])) hX hW (fun l => met_X2_changeStock l g (pa 1) (pa 2) (pa 3) (pa 4) (pa 5) ((pc_h vp (u30_3)).1) p0 p1 _ hf) rfl gX4_stock_X2_changeStock yoX2_changeStock rfl ⟨Nat.le_of_ble_eq_true rfl, Nat.le_of_ble_eq_true rfl⟩ ⟨Nat.le_of_ble_eq_true rfl, Nat.le_of_ble_eq_true rfl, Nat.le_of_ble_eq_true rfl, Nat.le_of_ble_eq_true rfl⟩ 0 rfl rfl [0, 2, 3, 4, 5, 6, 7, 8, 9, 10, 11, 1] rfl rfl rfl (by decide) rfl (fun _ => rfl) (fun _ => rfl) (fun _ => rfl) (fun _ => rfl) (Nat.le_of_ble_eq_true rfl) rfl (fun _ => rfl) dX4_stock_39 rfl (fun r39 u39_4 hf => ?_)
      refine J_widen (k' := 2) (n' := 12) (Nat.le_of_ble_eq_true rfl) (Nat.le_of_ble_eq_true rfl) ?_
      exact j_iret hX hR dX4_stock_42 ⟨_, _, rfl, hf, rfl⟩
    · refine j_iconst (pc' := 15) (v := 1) hX dX4_stock_14 (by decide) rfl ?_
      refine j_goto (tgt := 19) hX dX4_stock_15 (by decide) ?_
      refine j_callSXb (nb := 12) (pc' := 22) (k' := 2) (n' := 12) (As := [.int 1]) (rest := []) (stk := fun _ => []) (bs := (PcB g pa vp)) (cs := ([] : List va_W)) (rs := (List.map (fun i : Nat => List.getD (PcB g pa vp) i []) [0, 1, 2, 3, 4, 5, 6, 7, 8, 9, 10, 11])) (ws' := fun _ => ((PcB g pa vp).flatten)) (bs' := fun _ => (PcB g pa vp)) (d1 := fun _ => ([] : List va_W)) hX hW hE (fun l => met_X4_needArgument l g 1 _ _ hf) rfl gX4_stock_X4_needArgument yoX4_needArgument rfl ⟨Nat.le_of_ble_eq_true rfl, Nat.le_of_ble_eq_true rfl⟩ ⟨Nat.le_of_ble_eq_true rfl, Nat.le_of_ble_eq_true rfl, Nat.le_of_ble_eq_true rfl, Nat.le_of_ble_eq_true rfl⟩ [0, 1, 2, 3, 4, 5, 6, 7, 8, 9, 10, 11] rfl rfl rfl (by decide) rfl (fun _ => rfl) (fun _ => rfl) (fun _ => rfl) (fun _ => rfl) (Nat.le_of_ble_eq_true rfl) rfl (fun _ => rfl) dX4_stock_19 rfl (fun _ h => j_out hO (Nat.le_of_ble_eq_true rfl) (Nat.le_of_ble_eq_true rfl) rfl h) (fun _ _ hf => ?_)
      refine j_aload_n (pc' := 23) hX dX4_stock_22 rfl 0 rfl rfl ?_
      refine j_get (ci := 4) (pc' := 26) hX hin4 rfl 0 rfl 3 (by decide) hl_29 rfl dX4_stock_23 rfl ?_
      refine j_aload_n (pc' := 27) hX dX4_stock_26 rfl 0 rfl rfl ?_
      refine j_get (ci := 4) (pc' := 30) hX hin4 rfl 0 rfl 0 (by decide) hl_10 rfl dX4_stock_27 rfl ?_
      refine j_callVMb (ci := 1) (nb := 12) (pc' := 33) (k' := 2) (n' := 12) (As := [.ref (pa 1)]) (rest := []) (stk := fun _ => []) (bs := (PcB g pa vp)) (cs := (HiB g (fun i => pa (13 + i)) vp.2.2.2.1 ++ [(MoW g (pa 1) (pa 2) (pa 3) (pa 4) (pa 5) (vp.1))])) (rs := (List.map (fun i : Nat => List.getD (PcB g pa vp) i []) [0, 2, 3, 11])) (ws' := fun u30_5 => ((PcB g pa (pc_h vp (u30_5))).flatten)) (bs' := fun u30_5 => (PcB g pa (pc_h vp (u30_5)))) (d1 := fun u30_5 => (HiB g (fun i => pa (13 + i)) u30_5 ++ [(MoW g (pa 1) (pa 2) (pa 3) (pa 4) (pa 5) (vp.1))])) hX hW (fun l => met_X1_save l g (fun i => pa (13 + i)) (pa 1) (pa 2) (pa 3) (pa 4) (pa 5) vp.2.2.2.1 vp.1 _ hf) rfl gX4_stock_X1_save yoX1_save rfl ⟨Nat.le_of_ble_eq_true rfl, Nat.le_of_ble_eq_true rfl⟩ ⟨Nat.le_of_ble_eq_true rfl, Nat.le_of_ble_eq_true rfl, Nat.le_of_ble_eq_true rfl, Nat.le_of_ble_eq_true rfl⟩ 0 rfl rfl [0, 2, 3, 11, 4, 5, 6, 7, 8, 9, 10, 1] rfl rfl rfl (by decide) rfl (fun _ => rfl) (fun _ => rfl) (fun _ => rfl) (fun _ => rfl) (Nat.le_of_ble_eq_true rfl) rfl (fun _ => rfl) dX4_stock_30 rfl (fun _ u30_5 hf => ?_)
      refine j_aload_n (pc' := 34) hX dX4_stock_33 rfl 0 rfl rfl ?_
      refine j_get (ci := 4) (pc' := 37) hX hin4 rfl 0 rfl 0 (by decide) hl_10 rfl dX4_stock_34 rfl ?_
      refine j_iload_n (pc' := 38) hX dX4_stock_37 rfl 1 rfl rfl ?_
      refine j_iload_n (pc' := 39) hX dX4_stock_38 rfl 2 rfl rfl ?_
      refine j_callVMb (ci := 2) (nb := 12) (pc' := 42) (k' := 2) (n' := 12) (As := [.int p0, .int p1]) (rest := []) (stk := fun r39 => [.int r39]) (bs := (PcB g pa (pc_h vp (u30_5)))) (cs := ([(MoW g (pa 1) (pa 2) (pa 3) (pa 4) (pa 5) ((pc_h vp (u30_5)).1))])) (rs := (List.map (fun i : Nat => List.getD (PcB g pa (pc_h vp (u30_5))) i []) [0, 2, 3, 4, 5, 6, 7, 8, 9, 10, 11])) (ws' := fun u39_6 => ((PcB g pa (pc_m (pc_h vp (u30_5)) (u39_6))).flatten)) (bs' := fun u39_6 => (PcB g pa (pc_m (pc_h vp (u30_5)) (u39_6)))) (d1 := fun u39_6 => ([(MoW g (pa 1) (pa 2) (pa 3) (pa 4) (pa 5) u39_6)])) hX hW (fun l => met_X2_changeStock l g (pa 1) (pa 2) (pa 3) (pa 4) (pa 5) ((pc_h vp (u30_5)).1) p0 p1 _ hf) rfl gX4_stock_X2_changeStock yoX2_changeStock rfl ⟨Nat.le_of_ble_eq_true rfl, Nat.le_of_ble_eq_true rfl⟩ ⟨Nat.le_of_ble_eq_true rfl, Nat.le_of_ble_eq_true rfl, Nat.le_of_ble_eq_true rfl, Nat.le_of_ble_eq_true rfl⟩ 0 rfl rfl [0, 2, 3, 4, 5, 6, 7, 8, 9, 10, 11, 1] rfl rfl rfl (by decide) rfl (fun _ => rfl) (fun _ => rfl) (fun _ => rfl) (fun _ => rfl) (Nat.le_of_ble_eq_true rfl) rfl (fun _ => rfl) dX4_stock_39 rfl (fun r39 u39_6 hf => ?_)
      refine J_widen (k' := 2) (n' := 12) (Nat.le_of_ble_eq_true rfl) (Nat.le_of_ble_eq_true rfl) ?_
      exact j_iret hX hR dX4_stock_42 ⟨_, _, rfl, hf, rfl⟩
def wp_X4_lay_c26 (vp : Pc) (p0 : Int32) (p1 : Int32) (post : Int32 → Pc → Prop) (pX : String → Prop) (z0_26 : Int32) : Prop :=
  (wp_X4_needState z0_26 ((wp_X1_save vp.2.2.2.1 vp.1 (fun u37_1 => (wp_X2_takenOf ((pc_h vp (u37_1)).1) p0 (fun r45 => (wp_X2_put ((pc_h vp (u37_1)).1) p0 p1 0 (fun r56 u56_2 => post r45 (pc_m (pc_h vp (u37_1)) (u56_2))))))))) pX)
def wp_X4_lay (vp : Pc) (p0 : Int32) (p1 : Int32) (post : Int32 → Pc → Prop) (pX : String → Prop) : Prop :=
  (wp_X4_needCourse p0 ((wp_X4_needSize p1 ((wp_X2_reasonAgainst vp.1 p0 p1 0 (fun r15 => ((r15 = 0 → wp_X4_lay_c26 vp p0 p1 post pX 1) ∧ (¬ r15 = 0 → wp_X4_lay_c26 vp p0 p1 post pX 0))))) pX)) pX)
theorem yoX4_lay : yOk yX4_lay 2 := by decide +kernel
set_option maxHeartbeats 4000000 in
set_option maxRecDepth 100000 in
theorem met_X4_lay (l : Launch) (g : JG) (pa : Nat → Nat) (vp : Pc) (p0 : Int32) (p1 : Int32) (post : Int32 → Pc → Prop) (pX : String → Prop) (hf : wp_X4_lay vp p0 p1 post pX) : MetX l yX4_lay wsX4_lay ({ frames := 8, cells := 3, slots := 18, locals := 130 } : Room) [.ref (pa 0), .int p0, .int p1] g ((PcB g pa vp).flatten) mkI post (fun u : Pc => ((PcB g pa u).flatten)) pX := by
  have hin4 : ∀ w ∈ u_ws RX4 TX4 5, w ∈ wsX4_lay := by decide +kernel
  have hl_29 : Cond.fieldLink RX4 29 (TX4 3).1 (TX4 3).2.1 (TX4 3).2.2.1 ∈ wsX4_lay := by decide +kernel
  have hl_10 : Cond.fieldLink RX4 10 (TX4 0).1 (TX4 0).2.1 (TX4 0).2.2.1 ∈ wsX4_lay := by decide +kernel
  refine enterX (own := RX4) (cc := cX4_lay) (nL := 4) (ret := (some .int)) (lv := [(0, .ref (pa 0)), (1, .int p0), (2, .int p1)]) (by decide) rfl rfl (Nat.le_of_ble_eq_true rfl) rfl (fun X hX hW hE hR hO => ?_)
  unfold wp_X4_lay at hf
  have J26 : ∀ (z0_26 : Int32), wp_X4_lay_c26 vp p0 p1 post pX z0_26 → J g X 2 12 ((PcB g pa vp).flatten) [(0, .ref (pa 0)), (1, .int p0), (2, .int p1)] [.int z0_26] 26 := by
    intro z0_26 hf
    refine j_callSXb (nb := 12) (pc' := 29) (k' := 3) (n' := 18) (As := [.int z0_26]) (rest := []) (stk := fun _ => []) (bs := (PcB g pa vp)) (cs := ([] : List va_W)) (rs := (List.map (fun i : Nat => List.getD (PcB g pa vp) i []) [0, 1, 2, 3, 4, 5, 6, 7, 8, 9, 10, 11])) (ws' := fun _ => ((PcB g pa vp).flatten)) (bs' := fun _ => (PcB g pa vp)) (d1 := fun _ => ([] : List va_W)) hX hW hE (fun l => met_X4_needState l g z0_26 _ _ hf) rfl gX4_lay_X4_needState yoX4_needState rfl ⟨Nat.le_of_ble_eq_true rfl, Nat.le_of_ble_eq_true rfl⟩ ⟨Nat.le_of_ble_eq_true rfl, Nat.le_of_ble_eq_true rfl, Nat.le_of_ble_eq_true rfl, Nat.le_of_ble_eq_true rfl⟩ [0, 1, 2, 3, 4, 5, 6, 7, 8, 9, 10, 11] rfl rfl rfl (by decide) rfl (fun _ => rfl) (fun _ => rfl) (fun _ => rfl) (fun _ => rfl) (Nat.le_of_ble_eq_true rfl) rfl (fun _ => rfl) dX4_lay_26 rfl (fun _ h => j_out hO (Nat.le_of_ble_eq_true rfl) (Nat.le_of_ble_eq_true rfl) rfl h) (fun _ _ hf => ?_)
    refine j_aload_n (pc' := 30) hX dX4_lay_29 rfl 0 rfl rfl ?_
    refine j_get (ci := 4) (pc' := 33) hX hin4 rfl 0 rfl 3 (by decide) hl_29 rfl dX4_lay_30 rfl ?_
    refine j_aload_n (pc' := 34) hX dX4_lay_33 rfl 0 rfl rfl ?_
    refine j_get (ci := 4) (pc' := 37) hX hin4 rfl 0 rfl 0 (by decide) hl_10 rfl dX4_lay_34 rfl ?_
    refine j_callVMb (ci := 1) (nb := 12) (pc' := 40) (k' := 3) (n' := 18) (As := [.ref (pa 1)]) (rest := []) (stk := fun _ => []) (bs := (PcB g pa vp)) (cs := (HiB g (fun i => pa (13 + i)) vp.2.2.2.1 ++ [(MoW g (pa 1) (pa 2) (pa 3) (pa 4) (pa 5) (vp.1))])) (rs := (List.map (fun i : Nat => List.getD (PcB g pa vp) i []) [0, 2, 3, 11])) (ws' := fun u37_1 => ((PcB g pa (pc_h vp (u37_1))).flatten)) (bs' := fun u37_1 => (PcB g pa (pc_h vp (u37_1)))) (d1 := fun u37_1 => (HiB g (fun i => pa (13 + i)) u37_1 ++ [(MoW g (pa 1) (pa 2) (pa 3) (pa 4) (pa 5) (vp.1))])) hX hW (fun l => met_X1_save l g (fun i => pa (13 + i)) (pa 1) (pa 2) (pa 3) (pa 4) (pa 5) vp.2.2.2.1 vp.1 _ hf) rfl gX4_lay_X1_save yoX1_save rfl ⟨Nat.le_of_ble_eq_true rfl, Nat.le_of_ble_eq_true rfl⟩ ⟨Nat.le_of_ble_eq_true rfl, Nat.le_of_ble_eq_true rfl, Nat.le_of_ble_eq_true rfl, Nat.le_of_ble_eq_true rfl⟩ 0 rfl rfl [0, 2, 3, 11, 4, 5, 6, 7, 8, 9, 10, 1] rfl rfl rfl (by decide) rfl (fun _ => rfl) (fun _ => rfl) (fun _ => rfl) (fun _ => rfl) (Nat.le_of_ble_eq_true rfl) rfl (fun _ => rfl) dX4_lay_37 rfl (fun _ u37_1 hf => ?_)
    refine j_aload_n (pc' := 41) hX dX4_lay_40 rfl 0 rfl rfl ?_
    refine j_get (ci := 4) (pc' := 44) hX hin4 rfl 0 rfl 0 (by decide) hl_10 rfl dX4_lay_41 rfl ?_
    refine j_iload_n (pc' := 45) hX dX4_lay_44 rfl 1 rfl rfl ?_
    refine j_callVRb (ci := 2) (nb := 12) (pc' := 48) (As := [.int p0]) (rest := []) (stk := fun r45 => [.int r45]) (bs := (PcB g pa (pc_h vp (u37_1)))) (cs := ([(MoW g (pa 1) (pa 2) (pa 3) (pa 4) (pa 5) ((pc_h vp (u37_1)).1))])) (rs := (List.map (fun i : Nat => List.getD (PcB g pa (pc_h vp (u37_1))) i []) [0, 2, 3, 4, 5, 6, 7, 8, 9, 10, 11])) hX (fun l => met_X2_takenOf l g (pa 1) (pa 2) (pa 3) (pa 4) (pa 5) ((pc_h vp (u37_1)).1) p0 _ hf) rfl gX4_lay_X2_takenOf yoX2_takenOf rfl ⟨Nat.le_of_ble_eq_true rfl, Nat.le_of_ble_eq_true rfl⟩ ⟨⟨Nat.le_of_ble_eq_true rfl, Nat.le_of_ble_eq_true rfl⟩, rfl, rfl⟩ 0 rfl rfl [0, 2, 3, 4, 5, 6, 7, 8, 9, 10, 11, 1] rfl rfl rfl (by decide) rfl (Nat.le_of_ble_eq_true rfl) rfl (fun _ => rfl) dX4_lay_45 rfl (fun r45 hf => ?_)
    refine j_istore_n (pc' := 49) (lv' := [(3, .int r45), (0, .ref (pa 0)), (1, .int p0), (2, .int p1)]) hX dX4_lay_48 rfl (by decide) rfl rfl ?_
    refine j_aload_n (pc' := 50) hX dX4_lay_49 rfl 1 rfl rfl ?_
    refine j_get (ci := 4) (pc' := 53) hX hin4 rfl 0 rfl 0 (by decide) hl_10 rfl dX4_lay_50 rfl ?_
    refine j_iload_n (pc' := 54) hX dX4_lay_53 rfl 2 rfl rfl ?_
    refine j_iload_n (pc' := 55) hX dX4_lay_54 rfl 3 rfl rfl ?_
    refine j_iconst (pc' := 56) (v := 0) hX dX4_lay_55 (by decide) rfl ?_
    refine j_callVMb (ci := 2) (nb := 12) (pc' := 59) (k' := 3) (n' := 18) (As := [.int p0, .int p1, .int 0]) (rest := []) (stk := fun r56 => [.int r56]) (bs := (PcB g pa (pc_h vp (u37_1)))) (cs := ([(MoW g (pa 1) (pa 2) (pa 3) (pa 4) (pa 5) ((pc_h vp (u37_1)).1))])) (rs := (List.map (fun i : Nat => List.getD (PcB g pa (pc_h vp (u37_1))) i []) [0, 2, 3, 4, 5, 6, 7, 8, 9, 10, 11])) (ws' := fun u56_2 => ((PcB g pa (pc_m (pc_h vp (u37_1)) (u56_2))).flatten)) (bs' := fun u56_2 => (PcB g pa (pc_m (pc_h vp (u37_1)) (u56_2)))) (d1 := fun u56_2 => ([(MoW g (pa 1) (pa 2) (pa 3) (pa 4) (pa 5) u56_2)])) hX hW (fun l => met_X2_put l g (pa 1) (pa 2) (pa 3) (pa 4) (pa 5) ((pc_h vp (u37_1)).1) p0 p1 0 _ hf) rfl gX4_lay_X2_put yoX2_put rfl ⟨Nat.le_of_ble_eq_true rfl, Nat.le_of_ble_eq_true rfl⟩ ⟨Nat.le_of_ble_eq_true rfl, Nat.le_of_ble_eq_true rfl, Nat.le_of_ble_eq_true rfl, Nat.le_of_ble_eq_true rfl⟩ 0 rfl rfl [0, 2, 3, 4, 5, 6, 7, 8, 9, 10, 11, 1] rfl rfl rfl (by decide) rfl (fun _ => rfl) (fun _ => rfl) (fun _ => rfl) (fun _ => rfl) (Nat.le_of_ble_eq_true rfl) rfl (fun _ => rfl) dX4_lay_56 rfl (fun r56 u56_2 hf => ?_)
    refine j_pop (pc' := 60) hX dX4_lay_59 rfl rfl ?_
    refine j_iload_n (pc' := 61) hX dX4_lay_60 rfl 0 rfl rfl ?_
    refine J_widen (k' := 3) (n' := 18) (Nat.le_of_ble_eq_true rfl) (Nat.le_of_ble_eq_true rfl) ?_
    exact j_iret hX hR dX4_lay_61 ⟨_, _, rfl, hf, rfl⟩
  refine j_iload_n (pc' := 1) hX dX4_lay_0 rfl 1 rfl rfl ?_
  refine j_callSXb (nb := 12) (pc' := 4) (k' := 1) (n' := 6) (As := [.int p0]) (rest := []) (stk := fun _ => []) (bs := (PcB g pa vp)) (cs := ([] : List va_W)) (rs := (List.map (fun i : Nat => List.getD (PcB g pa vp) i []) [0, 1, 2, 3, 4, 5, 6, 7, 8, 9, 10, 11])) (ws' := fun _ => ((PcB g pa vp).flatten)) (bs' := fun _ => (PcB g pa vp)) (d1 := fun _ => ([] : List va_W)) hX hW hE (fun l => met_X4_needCourse l g p0 _ _ hf) rfl gX4_lay_X4_needCourse yoX4_needCourse rfl ⟨Nat.le_of_ble_eq_true rfl, Nat.le_of_ble_eq_true rfl⟩ ⟨Nat.le_of_ble_eq_true rfl, Nat.le_of_ble_eq_true rfl, Nat.le_of_ble_eq_true rfl, Nat.le_of_ble_eq_true rfl⟩ [0, 1, 2, 3, 4, 5, 6, 7, 8, 9, 10, 11] rfl rfl rfl (by decide) rfl (fun _ => rfl) (fun _ => rfl) (fun _ => rfl) (fun _ => rfl) (Nat.le_of_ble_eq_true rfl) rfl (fun _ => rfl) dX4_lay_1 rfl (fun _ h => j_out hO (Nat.le_of_ble_eq_true rfl) (Nat.le_of_ble_eq_true rfl) rfl h) (fun _ _ hf => ?_)
  refine j_iload_n (pc' := 5) hX dX4_lay_4 rfl 2 rfl rfl ?_
  refine j_callSXb (nb := 12) (pc' := 8) (k' := 2) (n' := 12) (As := [.int p1]) (rest := []) (stk := fun _ => []) (bs := (PcB g pa vp)) (cs := ([] : List va_W)) (rs := (List.map (fun i : Nat => List.getD (PcB g pa vp) i []) [0, 1, 2, 3, 4, 5, 6, 7, 8, 9, 10, 11])) (ws' := fun _ => ((PcB g pa vp).flatten)) (bs' := fun _ => (PcB g pa vp)) (d1 := fun _ => ([] : List va_W)) hX hW hE (fun l => met_X4_needSize l g p1 _ _ hf) rfl gX4_lay_X4_needSize yoX4_needSize rfl ⟨Nat.le_of_ble_eq_true rfl, Nat.le_of_ble_eq_true rfl⟩ ⟨Nat.le_of_ble_eq_true rfl, Nat.le_of_ble_eq_true rfl, Nat.le_of_ble_eq_true rfl, Nat.le_of_ble_eq_true rfl⟩ [0, 1, 2, 3, 4, 5, 6, 7, 8, 9, 10, 11] rfl rfl rfl (by decide) rfl (fun _ => rfl) (fun _ => rfl) (fun _ => rfl) (fun _ => rfl) (Nat.le_of_ble_eq_true rfl) rfl (fun _ => rfl) dX4_lay_5 rfl (fun _ h => j_out hO (Nat.le_of_ble_eq_true rfl) (Nat.le_of_ble_eq_true rfl) rfl h) (fun _ _ hf => ?_)
  refine j_aload_n (pc' := 9) hX dX4_lay_8 rfl 0 rfl rfl ?_
  refine j_get (ci := 4) (pc' := 12) hX hin4 rfl 0 rfl 0 (by decide) hl_10 rfl dX4_lay_9 rfl ?_
  refine j_iload_n (pc' := 13) hX dX4_lay_12 rfl 1 rfl rfl ?_
  refine j_iload_n (pc' := 14) hX dX4_lay_13 rfl 2 rfl rfl ?_
  refine j_iconst (pc' := 15) (v := 0) hX dX4_lay_14 (by decide) rfl ?_
  refine j_callVRb (ci := 2) (nb := 12) (pc' := 18) (As := [.int p0, .int p1, .int 0]) (rest := []) (stk := fun r15 => [.int r15]) (bs := (PcB g pa vp)) (cs := ([(MoW g (pa 1) (pa 2) (pa 3) (pa 4) (pa 5) (vp.1))])) (rs := (List.map (fun i : Nat => List.getD (PcB g pa vp) i []) [0, 2, 3, 4, 5, 6, 7, 8, 9, 10, 11])) hX (fun l => met_X2_reasonAgainst l g (pa 1) (pa 2) (pa 3) (pa 4) (pa 5) vp.1 p0 p1 0 _ hf) rfl gX4_lay_X2_reasonAgainst yoX2_reasonAgainst rfl ⟨Nat.le_of_ble_eq_true rfl, Nat.le_of_ble_eq_true rfl⟩ ⟨⟨Nat.le_of_ble_eq_true rfl, Nat.le_of_ble_eq_true rfl⟩, rfl, rfl⟩ 0 rfl rfl [0, 2, 3, 4, 5, 6, 7, 8, 9, 10, 11, 1] rfl rfl rfl (by decide) rfl (Nat.le_of_ble_eq_true rfl) rfl (fun _ => rfl) dX4_lay_15 rfl (fun r15 hf => ?_)
  refine j_if_ne (tgt := 25) (pc' := 21) hX dX4_lay_18 (by decide) rfl hf (fun hf => ?_) (fun hf => ?_)
  · refine j_iconst (pc' := 26) (v := 0) hX dX4_lay_25 (by decide) rfl ?_
    exact J26 0 hf
  · refine j_iconst (pc' := 22) (v := 1) hX dX4_lay_21 (by decide) rfl ?_
    refine j_goto (tgt := 26) hX dX4_lay_22 (by decide) ?_
    exact J26 1 hf
def wp_X4_cut (vp : Pc) (p0 : Int32) (p1 : Int32) (post : Int32 → Pc → Prop) (pX : String → Prop) : Prop :=
  (wp_X4_needCourse p0 ((wp_X4_needSize p1 ((wp_X2_reasonAgainst vp.1 p0 p1 1 (fun r15 => ((r15 = 0 → (wp_X4_needState 1 ((wp_X1_save vp.2.2.2.1 vp.1 (fun u37_1 => (wp_X2_put ((pc_h vp (u37_1)).1) p0 p1 1 (fun r47 u47_2 => post r47 (pc_m (pc_h vp (u37_1)) (u47_2))))))) pX)) ∧ (¬ r15 = 0 → (wp_X4_needState 0 ((wp_X1_save vp.2.2.2.1 vp.1 (fun u37_3 => (wp_X2_put ((pc_h vp (u37_3)).1) p0 p1 1 (fun r47 u47_4 => post r47 (pc_m (pc_h vp (u37_3)) (u47_4))))))) pX)))))) pX)) pX)
theorem yoX4_cut : yOk yX4_cut 2 := by decide +kernel
set_option maxHeartbeats 4000000 in
set_option maxRecDepth 100000 in
theorem met_X4_cut (l : Launch) (g : JG) (pa : Nat → Nat) (vp : Pc) (p0 : Int32) (p1 : Int32) (post : Int32 → Pc → Prop) (pX : String → Prop) (hf : wp_X4_cut vp p0 p1 post pX) : MetX l yX4_cut wsX4_cut ({ frames := 8, cells := 3, slots := 18, locals := 130 } : Room) [.ref (pa 0), .int p0, .int p1] g ((PcB g pa vp).flatten) mkI post (fun u : Pc => ((PcB g pa u).flatten)) pX := by
  have hin4 : ∀ w ∈ u_ws RX4 TX4 5, w ∈ wsX4_cut := by decide +kernel
  have hl_10 : Cond.fieldLink RX4 10 (TX4 0).1 (TX4 0).2.1 (TX4 0).2.2.1 ∈ wsX4_cut := by decide +kernel
  have hl_29 : Cond.fieldLink RX4 29 (TX4 3).1 (TX4 3).2.1 (TX4 3).2.2.1 ∈ wsX4_cut := by decide +kernel
  refine enterX (own := RX4) (cc := cX4_cut) (nL := 3) (ret := (some .int)) (lv := [(0, .ref (pa 0)), (1, .int p0), (2, .int p1)]) (by decide) rfl rfl (Nat.le_of_ble_eq_true rfl) rfl (fun X hX hW hE hR hO => ?_)
  unfold wp_X4_cut at hf
  refine j_iload_n (pc' := 1) hX dX4_cut_0 rfl 1 rfl rfl ?_
  refine j_callSXb (nb := 12) (pc' := 4) (k' := 1) (n' := 6) (As := [.int p0]) (rest := []) (stk := fun _ => []) (bs := (PcB g pa vp)) (cs := ([] : List va_W)) (rs := (List.map (fun i : Nat => List.getD (PcB g pa vp) i []) [0, 1, 2, 3, 4, 5, 6, 7, 8, 9, 10, 11])) (ws' := fun _ => ((PcB g pa vp).flatten)) (bs' := fun _ => (PcB g pa vp)) (d1 := fun _ => ([] : List va_W)) hX hW hE (fun l => met_X4_needCourse l g p0 _ _ hf) rfl gX4_cut_X4_needCourse yoX4_needCourse rfl ⟨Nat.le_of_ble_eq_true rfl, Nat.le_of_ble_eq_true rfl⟩ ⟨Nat.le_of_ble_eq_true rfl, Nat.le_of_ble_eq_true rfl, Nat.le_of_ble_eq_true rfl, Nat.le_of_ble_eq_true rfl⟩ [0, 1, 2, 3, 4, 5, 6, 7, 8, 9, 10, 11] rfl rfl rfl (by decide) rfl (fun _ => rfl) (fun _ => rfl) (fun _ => rfl) (fun _ => rfl) (Nat.le_of_ble_eq_true rfl) rfl (fun _ => rfl) dX4_cut_1 rfl (fun _ h => j_out hO (Nat.le_of_ble_eq_true rfl) (Nat.le_of_ble_eq_true rfl) rfl h) (fun _ _ hf => ?_)
  refine j_iload_n (pc' := 5) hX dX4_cut_4 rfl 2 rfl rfl ?_
  refine j_callSXb (nb := 12) (pc' := 8) (k' := 2) (n' := 12) (As := [.int p1]) (rest := []) (stk := fun _ => []) (bs := (PcB g pa vp)) (cs := ([] : List va_W)) (rs := (List.map (fun i : Nat => List.getD (PcB g pa vp) i []) [0, 1, 2, 3, 4, 5, 6, 7, 8, 9, 10, 11])) (ws' := fun _ => ((PcB g pa vp).flatten)) (bs' := fun _ => (PcB g pa vp)) (d1 := fun _ => ([] : List va_W)) hX hW hE (fun l => met_X4_needSize l g p1 _ _ hf) rfl gX4_cut_X4_needSize yoX4_needSize rfl ⟨Nat.le_of_ble_eq_true rfl, Nat.le_of_ble_eq_true rfl⟩ ⟨Nat.le_of_ble_eq_true rfl, Nat.le_of_ble_eq_true rfl, Nat.le_of_ble_eq_true rfl, Nat.le_of_ble_eq_true rfl⟩ [0, 1, 2, 3, 4, 5, 6, 7, 8, 9, 10, 11] rfl rfl rfl (by decide) rfl (fun _ => rfl) (fun _ => rfl) (fun _ => rfl) (fun _ => rfl) (Nat.le_of_ble_eq_true rfl) rfl (fun _ => rfl) dX4_cut_5 rfl (fun _ h => j_out hO (Nat.le_of_ble_eq_true rfl) (Nat.le_of_ble_eq_true rfl) rfl h) (fun _ _ hf => ?_)
  refine j_aload_n (pc' := 9) hX dX4_cut_8 rfl 0 rfl rfl ?_
  refine j_get (ci := 4) (pc' := 12) hX hin4 rfl 0 rfl 0 (by decide) hl_10 rfl dX4_cut_9 rfl ?_
  refine j_iload_n (pc' := 13) hX dX4_cut_12 rfl 1 rfl rfl ?_
  refine j_iload_n (pc' := 14) hX dX4_cut_13 rfl 2 rfl rfl ?_
  refine j_iconst (pc' := 15) (v := 1) hX dX4_cut_14 (by decide) rfl ?_
  refine j_callVRb (ci := 2) (nb := 12) (pc' := 18) (As := [.int p0, .int p1, .int 1]) (rest := []) (stk := fun r15 => [.int r15]) (bs := (PcB g pa vp)) (cs := ([(MoW g (pa 1) (pa 2) (pa 3) (pa 4) (pa 5) (vp.1))])) (rs := (List.map (fun i : Nat => List.getD (PcB g pa vp) i []) [0, 2, 3, 4, 5, 6, 7, 8, 9, 10, 11])) hX (fun l => met_X2_reasonAgainst l g (pa 1) (pa 2) (pa 3) (pa 4) (pa 5) vp.1 p0 p1 1 _ hf) rfl gX4_cut_X2_reasonAgainst yoX2_reasonAgainst rfl ⟨Nat.le_of_ble_eq_true rfl, Nat.le_of_ble_eq_true rfl⟩ ⟨⟨Nat.le_of_ble_eq_true rfl, Nat.le_of_ble_eq_true rfl⟩, rfl, rfl⟩ 0 rfl rfl [0, 2, 3, 4, 5, 6, 7, 8, 9, 10, 11, 1] rfl rfl rfl (by decide) rfl (Nat.le_of_ble_eq_true rfl) rfl (fun _ => rfl) dX4_cut_15 rfl (fun r15 hf => ?_)
  refine j_if_ne (tgt := 25) (pc' := 21) hX dX4_cut_18 (by decide) rfl hf (fun hf => ?_) (fun hf => ?_)
  · refine j_iconst (pc' := 26) (v := 0) hX dX4_cut_25 (by decide) rfl ?_
    refine j_callSXb (nb := 12) (pc' := 29) (k' := 3) (n' := 18) (As := [.int 0]) (rest := []) (stk := fun _ => []) (bs := (PcB g pa vp)) (cs := ([] : List va_W)) (rs := (List.map (fun i : Nat => List.getD (PcB g pa vp) i []) [0, 1, 2, 3, 4, 5, 6, 7, 8, 9, 10, 11])) (ws' := fun _ => ((PcB g pa vp).flatten)) (bs' := fun _ => (PcB g pa vp)) (d1 := fun _ => ([] : List va_W)) hX hW hE (fun l => met_X4_needState l g 0 _ _ hf) rfl gX4_cut_X4_needState yoX4_needState rfl ⟨Nat.le_of_ble_eq_true rfl, Nat.le_of_ble_eq_true rfl⟩ ⟨Nat.le_of_ble_eq_true rfl, Nat.le_of_ble_eq_true rfl, Nat.le_of_ble_eq_true rfl, Nat.le_of_ble_eq_true rfl⟩ [0, 1, 2, 3, 4, 5, 6, 7, 8, 9, 10, 11] rfl rfl rfl (by decide) rfl (fun _ => rfl) (fun _ => rfl) (fun _ => rfl) (fun _ => rfl) (Nat.le_of_ble_eq_true rfl) rfl (fun _ => rfl) dX4_cut_26 rfl (fun _ h => j_out hO (Nat.le_of_ble_eq_true rfl) (Nat.le_of_ble_eq_true rfl) rfl h) (fun _ _ hf => ?_)
    refine j_aload_n (pc' := 30) hX dX4_cut_29 rfl 0 rfl rfl ?_
    refine j_get (ci := 4) (pc' := 33) hX hin4 rfl 0 rfl 3 (by decide) hl_29 rfl dX4_cut_30 rfl ?_
    refine j_aload_n (pc' := 34) hX dX4_cut_33 rfl 0 rfl rfl ?_
    refine j_get (ci := 4) (pc' := 37) hX hin4 rfl 0 rfl 0 (by decide) hl_10 rfl dX4_cut_34 rfl ?_
    refine j_callVMb (ci := 1) (nb := 12) (pc' := 40) (k' := 3) (n' := 18) (As := [.ref (pa 1)]) (rest := []) (stk := fun _ => []) (bs := (PcB g pa vp)) (cs := (HiB g (fun i => pa (13 + i)) vp.2.2.2.1 ++ [(MoW g (pa 1) (pa 2) (pa 3) (pa 4) (pa 5) (vp.1))])) (rs := (List.map (fun i : Nat => List.getD (PcB g pa vp) i []) [0, 2, 3, 11])) (ws' := fun u37_3 => ((PcB g pa (pc_h vp (u37_3))).flatten)) (bs' := fun u37_3 => (PcB g pa (pc_h vp (u37_3)))) (d1 := fun u37_3 => (HiB g (fun i => pa (13 + i)) u37_3 ++ [(MoW g (pa 1) (pa 2) (pa 3) (pa 4) (pa 5) (vp.1))])) hX hW (fun l => met_X1_save l g (fun i => pa (13 + i)) (pa 1) (pa 2) (pa 3) (pa 4) (pa 5) vp.2.2.2.1 vp.1 _ hf) rfl gX4_cut_X1_save yoX1_save rfl ⟨Nat.le_of_ble_eq_true rfl, Nat.le_of_ble_eq_true rfl⟩ ⟨Nat.le_of_ble_eq_true rfl, Nat.le_of_ble_eq_true rfl, Nat.le_of_ble_eq_true rfl, Nat.le_of_ble_eq_true rfl⟩ 0 rfl rfl [0, 2, 3, 11, 4, 5, 6, 7, 8, 9, 10, 1] rfl rfl rfl (by decide) rfl (fun _ => rfl) (fun _ => rfl) (fun _ => rfl) (fun _ => rfl) (Nat.le_of_ble_eq_true rfl) rfl (fun _ => rfl) dX4_cut_37 rfl (fun _ u37_3 hf => ?_)
    refine j_aload_n (pc' := 41) hX dX4_cut_40 rfl 0 rfl rfl ?_
    refine j_get (ci := 4) (pc' := 44) hX hin4 rfl 0 rfl 0 (by decide) hl_10 rfl dX4_cut_41 rfl ?_
    refine j_iload_n (pc' := 45) hX dX4_cut_44 rfl 1 rfl rfl ?_
    refine j_iload_n (pc' := 46) hX dX4_cut_45 rfl 2 rfl rfl ?_
    refine j_iconst (pc' := 47) (v := 1) hX dX4_cut_46 (by decide) rfl ?_
    refine j_callVMb (ci := 2) (nb := 12) (pc' := 50) (k' := 3) (n' := 18) (As := [.int p0, .int p1, .int 1]) (rest := []) (stk := fun r47 => [.int r47]) (bs := (PcB g pa (pc_h vp (u37_3)))) (cs := ([(MoW g (pa 1) (pa 2) (pa 3) (pa 4) (pa 5) ((pc_h vp (u37_3)).1))])) (rs := (List.map (fun i : Nat => List.getD (PcB g pa (pc_h vp (u37_3))) i []) [0, 2, 3, 4, 5, 6, 7, 8, 9, 10, 11])) (ws' := fun u47_4 => ((PcB g pa (pc_m (pc_h vp (u37_3)) (u47_4))).flatten)) (bs' := fun u47_4 => (PcB g pa (pc_m (pc_h vp (u37_3)) (u47_4)))) (d1 := fun u47_4 => ([(MoW g (pa 1) (pa 2) (pa 3) (pa 4) (pa 5) u47_4)])) hX hW (fun l => met_X2_put l g (pa 1) (pa 2) (pa 3) (pa 4) (pa 5) ((pc_h vp (u37_3)).1) p0 p1 1 _ hf) rfl gX4_cut_X2_put yoX2_put rfl ⟨Nat.le_of_ble_eq_true rfl, Nat.le_of_ble_eq_true rfl⟩ ⟨Nat.le_of_ble_eq_true rfl, Nat.le_of_ble_eq_true rfl, Nat.le_of_ble_eq_true rfl, Nat.le_of_ble_eq_true rfl⟩ 0 rfl rfl [0, 2, 3, 4, 5, 6, 7, 8, 9, 10, 11, 1] rfl rfl rfl (by decide) rfl (fun _ => rfl) (fun _ => rfl) (fun _ => rfl) (fun _ => rfl) (Nat.le_of_ble_eq_true rfl) rfl (fun _ => rfl) dX4_cut_47 rfl (fun r47 u47_4 hf => ?_)
    refine J_widen (k' := 3) (n' := 18) (Nat.le_of_ble_eq_true rfl) (Nat.le_of_ble_eq_true rfl) ?_
    exact j_iret hX hR dX4_cut_50 ⟨_, _, rfl, hf, rfl⟩
  · refine j_iconst (pc' := 22) (v := 1) hX dX4_cut_21 (by decide) rfl ?_
    refine j_goto (tgt := 26) hX dX4_cut_22 (by decide) ?_
    refine j_callSXb (nb := 12) (pc' := 29) (k' := 3) (n' := 18) (As := [.int 1]) (rest := []) (stk := fun _ => []) (bs := (PcB g pa vp)) (cs := ([] : List va_W)) (rs := (List.map (fun i : Nat => List.getD (PcB g pa vp) i []) [0, 1, 2, 3, 4, 5, 6, 7, 8, 9, 10, 11])) (ws' := fun _ => ((PcB g pa vp).flatten)) (bs' := fun _ => (PcB g pa vp)) (d1 := fun _ => ([] : List va_W)) hX hW hE (fun l => met_X4_needState l g 1 _ _ hf) rfl gX4_cut_X4_needState yoX4_needState rfl ⟨Nat.le_of_ble_eq_true rfl, Nat.le_of_ble_eq_true rfl⟩ ⟨Nat.le_of_ble_eq_true rfl, Nat.le_of_ble_eq_true rfl, Nat.le_of_ble_eq_true rfl, Nat.le_of_ble_eq_true rfl⟩ [0, 1, 2, 3, 4, 5, 6, 7, 8, 9, 10, 11] rfl rfl rfl (by decide) rfl (fun _ => rfl) (fun _ => rfl) (fun _ => rfl) (fun _ => rfl) (Nat.le_of_ble_eq_true rfl) rfl (fun _ => rfl) dX4_cut_26 rfl (fun _ h => j_out hO (Nat.le_of_ble_eq_true rfl) (Nat.le_of_ble_eq_true rfl) rfl h) (fun _ _ hf => ?_)
    refine j_aload_n (pc' := 30) hX dX4_cut_29 rfl 0 rfl rfl ?_
    refine j_get (ci := 4) (pc' := 33) hX hin4 rfl 0 rfl 3 (by decide) hl_29 rfl dX4_cut_30 rfl ?_
    refine j_aload_n (pc' := 34) hX dX4_cut_33 rfl 0 rfl rfl ?_
    refine j_get (ci := 4) (pc' := 37) hX hin4 rfl 0 rfl 0 (by decide) hl_10 rfl dX4_cut_34 rfl ?_
    refine j_callVMb (ci := 1) (nb := 12) (pc' := 40) (k' := 3) (n' := 18) (As := [.ref (pa 1)]) (rest := []) (stk := fun _ => []) (bs := (PcB g pa vp)) (cs := (HiB g (fun i => pa (13 + i)) vp.2.2.2.1 ++ [(MoW g (pa 1) (pa 2) (pa 3) (pa 4) (pa 5) (vp.1))])) (rs := (List.map (fun i : Nat => List.getD (PcB g pa vp) i []) [0, 2, 3, 11])) (ws' := fun u37_1 => ((PcB g pa (pc_h vp (u37_1))).flatten)) (bs' := fun u37_1 => (PcB g pa (pc_h vp (u37_1)))) (d1 := fun u37_1 => (HiB g (fun i => pa (13 + i)) u37_1 ++ [(MoW g (pa 1) (pa 2) (pa 3) (pa 4) (pa 5) (vp.1))])) hX hW (fun l => met_X1_save l g (fun i => pa (13 + i)) (pa 1) (pa 2) (pa 3) (pa 4) (pa 5) vp.2.2.2.1 vp.1 _ hf) rfl gX4_cut_X1_save yoX1_save rfl ⟨Nat.le_of_ble_eq_true rfl, Nat.le_of_ble_eq_true rfl⟩ ⟨Nat.le_of_ble_eq_true rfl, Nat.le_of_ble_eq_true rfl, Nat.le_of_ble_eq_true rfl, Nat.le_of_ble_eq_true rfl⟩ 0 rfl rfl [0, 2, 3, 11, 4, 5, 6, 7, 8, 9, 10, 1] rfl rfl rfl (by decide) rfl (fun _ => rfl) (fun _ => rfl) (fun _ => rfl) (fun _ => rfl) (Nat.le_of_ble_eq_true rfl) rfl (fun _ => rfl) dX4_cut_37 rfl (fun _ u37_1 hf => ?_)
    refine j_aload_n (pc' := 41) hX dX4_cut_40 rfl 0 rfl rfl ?_
    refine j_get (ci := 4) (pc' := 44) hX hin4 rfl 0 rfl 0 (by decide) hl_10 rfl dX4_cut_41 rfl ?_
    refine j_iload_n (pc' := 45) hX dX4_cut_44 rfl 1 rfl rfl ?_
    refine j_iload_n (pc' := 46) hX dX4_cut_45 rfl 2 rfl rfl ?_
    refine j_iconst (pc' := 47) (v := 1) hX dX4_cut_46 (by decide) rfl ?_
    refine j_callVMb (ci := 2) (nb := 12) (pc' := 50) (k' := 3) (n' := 18) (As := [.int p0, .int p1, .int 1]) (rest := []) (stk := fun r47 => [.int r47]) (bs := (PcB g pa (pc_h vp (u37_1)))) (cs := ([(MoW g (pa 1) (pa 2) (pa 3) (pa 4) (pa 5) ((pc_h vp (u37_1)).1))])) (rs := (List.map (fun i : Nat => List.getD (PcB g pa (pc_h vp (u37_1))) i []) [0, 2, 3, 4, 5, 6, 7, 8, 9, 10, 11])) (ws' := fun u47_2 => ((PcB g pa (pc_m (pc_h vp (u37_1)) (u47_2))).flatten)) (bs' := fun u47_2 => (PcB g pa (pc_m (pc_h vp (u37_1)) (u47_2)))) (d1 := fun u47_2 => ([(MoW g (pa 1) (pa 2) (pa 3) (pa 4) (pa 5) u47_2)])) hX hW (fun l => met_X2_put l g (pa 1) (pa 2) (pa 3) (pa 4) (pa 5) ((pc_h vp (u37_1)).1) p0 p1 1 _ hf) rfl gX4_cut_X2_put yoX2_put rfl ⟨Nat.le_of_ble_eq_true rfl, Nat.le_of_ble_eq_true rfl⟩ ⟨Nat.le_of_ble_eq_true rfl, Nat.le_of_ble_eq_true rfl, Nat.le_of_ble_eq_true rfl, Nat.le_of_ble_eq_true rfl⟩ 0 rfl rfl [0, 2, 3, 4, 5, 6, 7, 8, 9, 10, 11, 1] rfl rfl rfl (by decide) rfl (fun _ => rfl) (fun _ => rfl) (fun _ => rfl) (fun _ => rfl) (Nat.le_of_ble_eq_true rfl) rfl (fun _ => rfl) dX4_cut_47 rfl (fun r47 u47_2 hf => ?_)
    refine J_widen (k' := 3) (n' := 18) (Nat.le_of_ble_eq_true rfl) (Nat.le_of_ble_eq_true rfl) ?_
    exact j_iret hX hR dX4_cut_50 ⟨_, _, rfl, hf, rfl⟩
def wp_X4_takeUp (vp : Pc) (p0 : Int32) (p1 : Int32) (post : Int32 → Pc → Prop) (pX : String → Prop) : Prop :=
  (wp_X4_needCourse p0 (((p1 < 1 → (wp_X4_needArgument 0 ((wp_X1_save vp.2.2.2.1 vp.1 (fun u31_1 => (wp_X2_takeUpLast ((pc_h vp (u31_1)).1) p0 p1 (fun r40 u40_2 => post r40 (pc_m (pc_h vp (u31_1)) (u40_2))))))) pX)) ∧ (¬ p1 < 1 → ((60 < p1 → (wp_X4_needArgument 0 ((wp_X1_save vp.2.2.2.1 vp.1 (fun u31_3 => (wp_X2_takeUpLast ((pc_h vp (u31_3)).1) p0 p1 (fun r40 u40_4 => post r40 (pc_m (pc_h vp (u31_3)) (u40_4))))))) pX)) ∧ (¬ 60 < p1 → (wp_X4_needArgument 1 ((wp_X1_save vp.2.2.2.1 vp.1 (fun u31_5 => (wp_X2_takeUpLast ((pc_h vp (u31_5)).1) p0 p1 (fun r40 u40_6 => post r40 (pc_m (pc_h vp (u31_5)) (u40_6))))))) pX)))))) pX)
theorem yoX4_takeUp : yOk yX4_takeUp 2 := by decide +kernel
set_option maxHeartbeats 4000000 in
set_option maxRecDepth 100000 in
theorem met_X4_takeUp (l : Launch) (g : JG) (pa : Nat → Nat) (vp : Pc) (p0 : Int32) (p1 : Int32) (post : Int32 → Pc → Prop) (pX : String → Prop) (hf : wp_X4_takeUp vp p0 p1 post pX) : MetX l yX4_takeUp wsX4_takeUp ({ frames := 8, cells := 2, slots := 12, locals := 130 } : Room) [.ref (pa 0), .int p0, .int p1] g ((PcB g pa vp).flatten) mkI post (fun u : Pc => ((PcB g pa u).flatten)) pX := by
  have hin4 : ∀ w ∈ u_ws RX4 TX4 5, w ∈ wsX4_takeUp := by decide +kernel
  have hl_29 : Cond.fieldLink RX4 29 (TX4 3).1 (TX4 3).2.1 (TX4 3).2.2.1 ∈ wsX4_takeUp := by decide +kernel
  have hl_10 : Cond.fieldLink RX4 10 (TX4 0).1 (TX4 0).2.1 (TX4 0).2.2.1 ∈ wsX4_takeUp := by decide +kernel
  refine enterX (own := RX4) (cc := cX4_takeUp) (nL := 3) (ret := (some .int)) (lv := [(0, .ref (pa 0)), (1, .int p0), (2, .int p1)]) (by decide) rfl rfl (Nat.le_of_ble_eq_true rfl) rfl (fun X hX hW hE hR hO => ?_)
  unfold wp_X4_takeUp at hf
  refine j_iload_n (pc' := 1) hX dX4_takeUp_0 rfl 1 rfl rfl ?_
  refine j_callSXb (nb := 12) (pc' := 4) (k' := 1) (n' := 6) (As := [.int p0]) (rest := []) (stk := fun _ => []) (bs := (PcB g pa vp)) (cs := ([] : List va_W)) (rs := (List.map (fun i : Nat => List.getD (PcB g pa vp) i []) [0, 1, 2, 3, 4, 5, 6, 7, 8, 9, 10, 11])) (ws' := fun _ => ((PcB g pa vp).flatten)) (bs' := fun _ => (PcB g pa vp)) (d1 := fun _ => ([] : List va_W)) hX hW hE (fun l => met_X4_needCourse l g p0 _ _ hf) rfl gX4_takeUp_X4_needCourse yoX4_needCourse rfl ⟨Nat.le_of_ble_eq_true rfl, Nat.le_of_ble_eq_true rfl⟩ ⟨Nat.le_of_ble_eq_true rfl, Nat.le_of_ble_eq_true rfl, Nat.le_of_ble_eq_true rfl, Nat.le_of_ble_eq_true rfl⟩ [0, 1, 2, 3, 4, 5, 6, 7, 8, 9, 10, 11] rfl rfl rfl (by decide) rfl (fun _ => rfl) (fun _ => rfl) (fun _ => rfl) (fun _ => rfl) (Nat.le_of_ble_eq_true rfl) rfl (fun _ => rfl) dX4_takeUp_1 rfl (fun _ h => j_out hO (Nat.le_of_ble_eq_true rfl) (Nat.le_of_ble_eq_true rfl) rfl h) (fun _ _ hf => ?_)
  refine j_iload_n (pc' := 5) hX dX4_takeUp_4 rfl 2 rfl rfl ?_
  refine j_iconst (pc' := 6) (v := 1) hX dX4_takeUp_5 (by decide) rfl ?_
  refine j_icmp_lt (tgt := 19) (pc' := 9) hX dX4_takeUp_6 (by decide) rfl hf (fun hf => ?_) (fun hf => ?_)
  · refine j_iconst (pc' := 20) (v := 0) hX dX4_takeUp_19 (by decide) rfl ?_
    refine j_callSXb (nb := 12) (pc' := 23) (k' := 2) (n' := 12) (As := [.int 0]) (rest := []) (stk := fun _ => []) (bs := (PcB g pa vp)) (cs := ([] : List va_W)) (rs := (List.map (fun i : Nat => List.getD (PcB g pa vp) i []) [0, 1, 2, 3, 4, 5, 6, 7, 8, 9, 10, 11])) (ws' := fun _ => ((PcB g pa vp).flatten)) (bs' := fun _ => (PcB g pa vp)) (d1 := fun _ => ([] : List va_W)) hX hW hE (fun l => met_X4_needArgument l g 0 _ _ hf) rfl gX4_takeUp_X4_needArgument yoX4_needArgument rfl ⟨Nat.le_of_ble_eq_true rfl, Nat.le_of_ble_eq_true rfl⟩ ⟨Nat.le_of_ble_eq_true rfl, Nat.le_of_ble_eq_true rfl, Nat.le_of_ble_eq_true rfl, Nat.le_of_ble_eq_true rfl⟩ [0, 1, 2, 3, 4, 5, 6, 7, 8, 9, 10, 11] rfl rfl rfl (by decide) rfl (fun _ => rfl) (fun _ => rfl) (fun _ => rfl) (fun _ => rfl) (Nat.le_of_ble_eq_true rfl) rfl (fun _ => rfl) dX4_takeUp_20 rfl (fun _ h => j_out hO (Nat.le_of_ble_eq_true rfl) (Nat.le_of_ble_eq_true rfl) rfl h) (fun _ _ hf => ?_)
    refine j_aload_n (pc' := 24) hX dX4_takeUp_23 rfl 0 rfl rfl ?_
    refine j_get (ci := 4) (pc' := 27) hX hin4 rfl 0 rfl 3 (by decide) hl_29 rfl dX4_takeUp_24 rfl ?_
    refine j_aload_n (pc' := 28) hX dX4_takeUp_27 rfl 0 rfl rfl ?_
    refine j_get (ci := 4) (pc' := 31) hX hin4 rfl 0 rfl 0 (by decide) hl_10 rfl dX4_takeUp_28 rfl ?_
    refine j_callVMb (ci := 1) (nb := 12) (pc' := 34) (k' := 2) (n' := 12) (As := [.ref (pa 1)]) (rest := []) (stk := fun _ => []) (bs := (PcB g pa vp)) (cs := (HiB g (fun i => pa (13 + i)) vp.2.2.2.1 ++ [(MoW g (pa 1) (pa 2) (pa 3) (pa 4) (pa 5) (vp.1))])) (rs := (List.map (fun i : Nat => List.getD (PcB g pa vp) i []) [0, 2, 3, 11])) (ws' := fun u31_1 => ((PcB g pa (pc_h vp (u31_1))).flatten)) (bs' := fun u31_1 => (PcB g pa (pc_h vp (u31_1)))) (d1 := fun u31_1 => (HiB g (fun i => pa (13 + i)) u31_1 ++ [(MoW g (pa 1) (pa 2) (pa 3) (pa 4) (pa 5) (vp.1))])) hX hW (fun l => met_X1_save l g (fun i => pa (13 + i)) (pa 1) (pa 2) (pa 3) (pa 4) (pa 5) vp.2.2.2.1 vp.1 _ hf) rfl gX4_takeUp_X1_save yoX1_save rfl ⟨Nat.le_of_ble_eq_true rfl, Nat.le_of_ble_eq_true rfl⟩ ⟨Nat.le_of_ble_eq_true rfl, Nat.le_of_ble_eq_true rfl, Nat.le_of_ble_eq_true rfl, Nat.le_of_ble_eq_true rfl⟩ 0 rfl rfl [0, 2, 3, 11, 4, 5, 6, 7, 8, 9, 10, 1] rfl rfl rfl (by decide) rfl (fun _ => rfl) (fun _ => rfl) (fun _ => rfl) (fun _ => rfl) (Nat.le_of_ble_eq_true rfl) rfl (fun _ => rfl) dX4_takeUp_31 rfl (fun _ u31_1 hf => ?_)
    refine j_aload_n (pc' := 35) hX dX4_takeUp_34 rfl 0 rfl rfl ?_
    refine j_get (ci := 4) (pc' := 38) hX hin4 rfl 0 rfl 0 (by decide) hl_10 rfl dX4_takeUp_35 rfl ?_
    refine j_iload_n (pc' := 39) hX dX4_takeUp_38 rfl 1 rfl rfl ?_
    refine j_iload_n (pc' := 40) hX dX4_takeUp_39 rfl 2 rfl rfl ?_
    refine j_callVMb (ci := 2) (nb := 12) (pc' := 43) (k' := 2) (n' := 12) (As := [.int p0, .int p1]) (rest := []) (stk := fun r40 => [.int r40]) (bs := (PcB g pa (pc_h vp (u31_1)))) (cs := ([(MoW g (pa 1) (pa 2) (pa 3) (pa 4) (pa 5) ((pc_h vp (u31_1)).1))])) (rs := (List.map (fun i : Nat => List.getD (PcB g pa (pc_h vp (u31_1))) i []) [0, 2, 3, 4, 5, 6, 7, 8, 9, 10, 11])) (ws' := fun u40_2 => ((PcB g pa (pc_m (pc_h vp (u31_1)) (u40_2))).flatten)) (bs' := fun u40_2 => (PcB g pa (pc_m (pc_h vp (u31_1)) (u40_2)))) (d1 := fun u40_2 => ([(MoW g (pa 1) (pa 2) (pa 3) (pa 4) (pa 5) u40_2)])) hX hW (fun l => met_X2_takeUpLast l g (pa 1) (pa 2) (pa 3) (pa 4) (pa 5) ((pc_h vp (u31_1)).1) p0 p1 _ hf) rfl gX4_takeUp_X2_takeUpLast yoX2_takeUpLast rfl ⟨Nat.le_of_ble_eq_true rfl, Nat.le_of_ble_eq_true rfl⟩ ⟨Nat.le_of_ble_eq_true rfl, Nat.le_of_ble_eq_true rfl, Nat.le_of_ble_eq_true rfl, Nat.le_of_ble_eq_true rfl⟩ 0 rfl rfl [0, 2, 3, 4, 5, 6, 7, 8, 9, 10, 11, 1] rfl rfl rfl (by decide) rfl (fun _ => rfl) (fun _ => rfl) (fun _ => rfl) (fun _ => rfl) (Nat.le_of_ble_eq_true rfl) rfl (fun _ => rfl) dX4_takeUp_40 rfl (fun r40 u40_2 hf => ?_)
    refine J_widen (k' := 2) (n' := 12) (Nat.le_of_ble_eq_true rfl) (Nat.le_of_ble_eq_true rfl) ?_
    exact j_iret hX hR dX4_takeUp_43 ⟨_, _, rfl, hf, rfl⟩
  · refine j_iload_n (pc' := 10) hX dX4_takeUp_9 rfl 2 rfl rfl ?_
    refine j_bipush (pc' := 12) (v := 60) hX dX4_takeUp_10 (by decide) rfl ?_
    refine j_icmp_gt (tgt := 19) (pc' := 15) hX dX4_takeUp_12 (by decide) rfl hf (fun hf => ?_) (fun hf => ?_)
    · refine j_iconst (pc' := 20) (v := 0) hX dX4_takeUp_19 (by decide) rfl ?_
      refine j_callSXb (nb := 12) (pc' := 23) (k' := 2) (n' := 12) (As := [.int 0]) (rest := []) (stk := fun _ => []) (bs := (PcB g pa vp)) (cs := ([] : List va_W)) (rs := (List.map (fun i : Nat => List.getD (PcB g pa vp) i []) [0, 1, 2, 3, 4, 5, 6, 7, 8, 9, 10, 11])) (ws' := fun _ => ((PcB g pa vp).flatten)) (bs' := fun _ => (PcB g pa vp)) (d1 := fun _ => ([] : List va_W)) hX hW hE (fun l => met_X4_needArgument l g 0 _ _ hf) rfl gX4_takeUp_X4_needArgument yoX4_needArgument rfl ⟨Nat.le_of_ble_eq_true rfl, Nat.le_of_ble_eq_true rfl⟩ ⟨Nat.le_of_ble_eq_true rfl, Nat.le_of_ble_eq_true rfl, Nat.le_of_ble_eq_true rfl, Nat.le_of_ble_eq_true rfl⟩ [0, 1, 2, 3, 4, 5, 6, 7, 8, 9, 10, 11] rfl rfl rfl (by decide) rfl (fun _ => rfl) (fun _ => rfl) (fun _ => rfl) (fun _ => rfl) (Nat.le_of_ble_eq_true rfl) rfl (fun _ => rfl) dX4_takeUp_20 rfl (fun _ h => j_out hO (Nat.le_of_ble_eq_true rfl) (Nat.le_of_ble_eq_true rfl) rfl h) (fun _ _ hf => ?_)
      refine j_aload_n (pc' := 24) hX dX4_takeUp_23 rfl 0 rfl rfl ?_
      refine j_get (ci := 4) (pc' := 27) hX hin4 rfl 0 rfl 3 (by decide) hl_29 rfl dX4_takeUp_24 rfl ?_
      refine j_aload_n (pc' := 28) hX dX4_takeUp_27 rfl 0 rfl rfl ?_
      refine j_get (ci := 4) (pc' := 31) hX hin4 rfl 0 rfl 0 (by decide) hl_10 rfl dX4_takeUp_28 rfl ?_
      refine j_callVMb (ci := 1) (nb := 12) (pc' := 34) (k' := 2) (n' := 12) (As := [.ref (pa 1)]) (rest := []) (stk := fun _ => []) (bs := (PcB g pa vp)) (cs := (HiB g (fun i => pa (13 + i)) vp.2.2.2.1 ++ [(MoW g (pa 1) (pa 2) (pa 3) (pa 4) (pa 5) (vp.1))])) (rs := (List.map (fun i : Nat => List.getD (PcB g pa vp) i []) [0, 2, 3, 11])) (ws' := fun u31_3 => ((PcB g pa (pc_h vp (u31_3))).flatten)) (bs' := fun u31_3 => (PcB g pa (pc_h vp (u31_3)))) (d1 := fun u31_3 => (HiB g (fun i => pa (13 + i)) u31_3 ++ [(MoW g (pa 1) (pa 2) (pa 3) (pa 4) (pa 5) (vp.1))])) hX hW (fun l => met_X1_save l g (fun i => pa (13 + i)) (pa 1) (pa 2) (pa 3) (pa 4) (pa 5) vp.2.2.2.1 vp.1 _ hf) rfl gX4_takeUp_X1_save yoX1_save rfl ⟨Nat.le_of_ble_eq_true rfl, Nat.le_of_ble_eq_true rfl⟩ ⟨Nat.le_of_ble_eq_true rfl, Nat.le_of_ble_eq_true rfl, Nat.le_of_ble_eq_true rfl, Nat.le_of_ble_eq_true rfl⟩ 0 rfl rfl [0, 2, 3, 11, 4, 5, 6, 7, 8, 9, 10, 1] rfl rfl rfl (by decide) rfl (fun _ => rfl) (fun _ => rfl) (fun _ => rfl) (fun _ => rfl) (Nat.le_of_ble_eq_true rfl) rfl (fun _ => rfl) dX4_takeUp_31 rfl (fun _ u31_3 hf => ?_)
      refine j_aload_n (pc' := 35) hX dX4_takeUp_34 rfl 0 rfl rfl ?_
      refine j_get (ci := 4) (pc' := 38) hX hin4 rfl 0 rfl 0 (by decide) hl_10 rfl dX4_takeUp_35 rfl ?_
      refine j_iload_n (pc' := 39) hX dX4_takeUp_38 rfl 1 rfl rfl ?_
      refine j_iload_n (pc' := 40) hX dX4_takeUp_39 rfl 2 rfl rfl ?_
      refine j_callVMb (ci := 2) (nb := 12) (pc' := 43) (k' := 2) (n' := 12) (As := [.int p0, .int p1]) (rest := []) (stk := fun r40 => [.int r40]) (bs := (PcB g pa (pc_h vp (u31_3)))) (cs := ([(MoW g (pa 1) (pa 2) (pa 3) (pa 4) (pa 5) ((pc_h vp (u31_3)).1))])) (rs := (List.map (fun i : Nat => List.getD (PcB g pa (pc_h vp (u31_3))) i []) [0, 2, 3, 4, 5, 6, 7, 8, 9, 10, 11])) (ws' := fun u40_4 => ((PcB g pa (pc_m (pc_h vp (u31_3)) (u40_4))).flatten)) (bs' := fun u40_4 => (PcB g pa (pc_m (pc_h vp (u31_3)) (u40_4)))) (d1 := fun u40_4 => ([(MoW g (pa 1) (pa 2) (pa 3) (pa 4) (pa 5) u40_4)])) hX hW (fun l => met_X2_takeUpLast l g (pa 1) (pa 2) (pa 3) (pa 4) (pa 5) ((pc_h vp (u31_3)).1) p0 p1 _ hf) rfl gX4_takeUp_X2_takeUpLast yoX2_takeUpLast rfl ⟨Nat.le_of_ble_eq_true rfl, Nat.le_of_ble_eq_true rfl⟩ ⟨Nat.le_of_ble_eq_true rfl, Nat.le_of_ble_eq_true rfl, Nat.le_of_ble_eq_true rfl, Nat.le_of_ble_eq_true rfl⟩ 0 rfl rfl [0, 2, 3, 4, 5, 6, 7, 8, 9, 10, 11, 1] rfl rfl rfl (by decide) rfl (fun _ => rfl) (fun _ => rfl) (fun _ => rfl) (fun _ => rfl) (Nat.le_of_ble_eq_true rfl) rfl (fun _ => rfl) dX4_takeUp_40 rfl (fun r40 u40_4 hf => ?_)
      refine J_widen (k' := 2) (n' := 12) (Nat.le_of_ble_eq_true rfl) (Nat.le_of_ble_eq_true rfl) ?_
      exact j_iret hX hR dX4_takeUp_43 ⟨_, _, rfl, hf, rfl⟩
    · refine j_iconst (pc' := 16) (v := 1) hX dX4_takeUp_15 (by decide) rfl ?_
      refine j_goto (tgt := 20) hX dX4_takeUp_16 (by decide) ?_
      refine j_callSXb (nb := 12) (pc' := 23) (k' := 2) (n' := 12) (As := [.int 1]) (rest := []) (stk := fun _ => []) (bs := (PcB g pa vp)) (cs := ([] : List va_W)) (rs := (List.map (fun i : Nat => List.getD (PcB g pa vp) i []) [0, 1, 2, 3, 4, 5, 6, 7, 8, 9, 10, 11])) (ws' := fun _ => ((PcB g pa vp).flatten)) (bs' := fun _ => (PcB g pa vp)) (d1 := fun _ => ([] : List va_W)) hX hW hE (fun l => met_X4_needArgument l g 1 _ _ hf) rfl gX4_takeUp_X4_needArgument yoX4_needArgument rfl ⟨Nat.le_of_ble_eq_true rfl, Nat.le_of_ble_eq_true rfl⟩ ⟨Nat.le_of_ble_eq_true rfl, Nat.le_of_ble_eq_true rfl, Nat.le_of_ble_eq_true rfl, Nat.le_of_ble_eq_true rfl⟩ [0, 1, 2, 3, 4, 5, 6, 7, 8, 9, 10, 11] rfl rfl rfl (by decide) rfl (fun _ => rfl) (fun _ => rfl) (fun _ => rfl) (fun _ => rfl) (Nat.le_of_ble_eq_true rfl) rfl (fun _ => rfl) dX4_takeUp_20 rfl (fun _ h => j_out hO (Nat.le_of_ble_eq_true rfl) (Nat.le_of_ble_eq_true rfl) rfl h) (fun _ _ hf => ?_)
      refine j_aload_n (pc' := 24) hX dX4_takeUp_23 rfl 0 rfl rfl ?_
      refine j_get (ci := 4) (pc' := 27) hX hin4 rfl 0 rfl 3 (by decide) hl_29 rfl dX4_takeUp_24 rfl ?_
      refine j_aload_n (pc' := 28) hX dX4_takeUp_27 rfl 0 rfl rfl ?_
      refine j_get (ci := 4) (pc' := 31) hX hin4 rfl 0 rfl 0 (by decide) hl_10 rfl dX4_takeUp_28 rfl ?_
      refine j_callVMb (ci := 1) (nb := 12) (pc' := 34) (k' := 2) (n' := 12) (As := [.ref (pa 1)]) (rest := []) (stk := fun _ => []) (bs := (PcB g pa vp)) (cs := (HiB g (fun i => pa (13 + i)) vp.2.2.2.1 ++ [(MoW g (pa 1) (pa 2) (pa 3) (pa 4) (pa 5) (vp.1))])) (rs := (List.map (fun i : Nat => List.getD (PcB g pa vp) i []) [0, 2, 3, 11])) (ws' := fun u31_5 => ((PcB g pa (pc_h vp (u31_5))).flatten)) (bs' := fun u31_5 => (PcB g pa (pc_h vp (u31_5)))) (d1 := fun u31_5 => (HiB g (fun i => pa (13 + i)) u31_5 ++ [(MoW g (pa 1) (pa 2) (pa 3) (pa 4) (pa 5) (vp.1))])) hX hW (fun l => met_X1_save l g (fun i => pa (13 + i)) (pa 1) (pa 2) (pa 3) (pa 4) (pa 5) vp.2.2.2.1 vp.1 _ hf) rfl gX4_takeUp_X1_save yoX1_save rfl ⟨Nat.le_of_ble_eq_true rfl, Nat.le_of_ble_eq_true rfl⟩ ⟨Nat.le_of_ble_eq_true rfl, Nat.le_of_ble_eq_true rfl, Nat.le_of_ble_eq_true rfl, Nat.le_of_ble_eq_true rfl⟩ 0 rfl rfl [0, 2, 3, 11, 4, 5, 6, 7, 8, 9, 10, 1] rfl rfl rfl (by decide) rfl (fun _ => rfl) (fun _ => rfl) (fun _ => rfl) (fun _ => rfl) (Nat.le_of_ble_eq_true rfl) rfl (fun _ => rfl) dX4_takeUp_31 rfl (fun _ u31_5 hf => ?_)
      refine j_aload_n (pc' := 35) hX dX4_takeUp_34 rfl 0 rfl rfl ?_
      refine j_get (ci := 4) (pc' := 38) hX hin4 rfl 0 rfl 0 (by decide) hl_10 rfl dX4_takeUp_35 rfl ?_
      refine j_iload_n (pc' := 39) hX dX4_takeUp_38 rfl 1 rfl rfl ?_
      refine j_iload_n (pc' := 40) hX dX4_takeUp_39 rfl 2 rfl rfl ?_
      refine j_callVMb (ci := 2) (nb := 12) (pc' := 43) (k' := 2) (n' := 12) (As := [.int p0, .int p1]) (rest := []) (stk := fun r40 => [.int r40]) (bs := (PcB g pa (pc_h vp (u31_5)))) (cs := ([(MoW g (pa 1) (pa 2) (pa 3) (pa 4) (pa 5) ((pc_h vp (u31_5)).1))])) (rs := (List.map (fun i : Nat => List.getD (PcB g pa (pc_h vp (u31_5))) i []) [0, 2, 3, 4, 5, 6, 7, 8, 9, 10, 11])) (ws' := fun u40_6 => ((PcB g pa (pc_m (pc_h vp (u31_5)) (u40_6))).flatten)) (bs' := fun u40_6 => (PcB g pa (pc_m (pc_h vp (u31_5)) (u40_6)))) (d1 := fun u40_6 => ([(MoW g (pa 1) (pa 2) (pa 3) (pa 4) (pa 5) u40_6)])) hX hW (fun l => met_X2_takeUpLast l g (pa 1) (pa 2) (pa 3) (pa 4) (pa 5) ((pc_h vp (u31_5)).1) p0 p1 _ hf) rfl gX4_takeUp_X2_takeUpLast yoX2_takeUpLast rfl ⟨Nat.le_of_ble_eq_true rfl, Nat.le_of_ble_eq_true rfl⟩ ⟨Nat.le_of_ble_eq_true rfl, Nat.le_of_ble_eq_true rfl, Nat.le_of_ble_eq_true rfl, Nat.le_of_ble_eq_true rfl⟩ 0 rfl rfl [0, 2, 3, 4, 5, 6, 7, 8, 9, 10, 11, 1] rfl rfl rfl (by decide) rfl (fun _ => rfl) (fun _ => rfl) (fun _ => rfl) (fun _ => rfl) (Nat.le_of_ble_eq_true rfl) rfl (fun _ => rfl) dX4_takeUp_40 rfl (fun r40 u40_6 hf => ?_)
      refine J_widen (k' := 2) (n' := 12) (Nat.le_of_ble_eq_true rfl) (Nat.le_of_ble_eq_true rfl) ?_
      exact j_iret hX hR dX4_takeUp_43 ⟨_, _, rfl, hf, rfl⟩
def wp_X4_fill (vp : Pc) (p0 : Int32) (post : Int32 → Pc → Prop) (pX : String → Prop) : Prop :=
  (wp_X4_needCourse p0 ((wp_X1_save vp.2.2.2.1 vp.1 (fun u12_1 => (wp_X2_settingOf ((pc_h vp (u12_1)).1) 1 (fun r25 => (wp_X2_fillCourse ((pc_h vp (u12_1)).1) p0 r25 (fun r28 u28_2 => post r28 (pc_m (pc_h vp (u12_1)) (u28_2))))))))) pX)
theorem yoX4_fill : yOk yX4_fill 1 := by decide +kernel
set_option maxHeartbeats 4000000 in
set_option maxRecDepth 100000 in
theorem met_X4_fill (l : Launch) (g : JG) (pa : Nat → Nat) (vp : Pc) (p0 : Int32) (post : Int32 → Pc → Prop) (pX : String → Prop) (hf : wp_X4_fill vp p0 post pX) : MetX l yX4_fill wsX4_fill ({ frames := 8, cells := 1, slots := 6, locals := 130 } : Room) [.ref (pa 0), .int p0] g ((PcB g pa vp).flatten) mkI post (fun u : Pc => ((PcB g pa u).flatten)) pX := by
  have hin4 : ∀ w ∈ u_ws RX4 TX4 5, w ∈ wsX4_fill := by decide +kernel
  have hl_29 : Cond.fieldLink RX4 29 (TX4 3).1 (TX4 3).2.1 (TX4 3).2.2.1 ∈ wsX4_fill := by decide +kernel
  have hl_10 : Cond.fieldLink RX4 10 (TX4 0).1 (TX4 0).2.1 (TX4 0).2.2.1 ∈ wsX4_fill := by decide +kernel
  refine enterX (own := RX4) (cc := cX4_fill) (nL := 2) (ret := (some .int)) (lv := [(0, .ref (pa 0)), (1, .int p0)]) (by decide) rfl rfl (Nat.le_of_ble_eq_true rfl) rfl (fun X hX hW hE hR hO => ?_)
  unfold wp_X4_fill at hf
  refine j_iload_n (pc' := 1) hX dX4_fill_0 rfl 1 rfl rfl ?_
  refine j_callSXb (nb := 12) (pc' := 4) (k' := 1) (n' := 6) (As := [.int p0]) (rest := []) (stk := fun _ => []) (bs := (PcB g pa vp)) (cs := ([] : List va_W)) (rs := (List.map (fun i : Nat => List.getD (PcB g pa vp) i []) [0, 1, 2, 3, 4, 5, 6, 7, 8, 9, 10, 11])) (ws' := fun _ => ((PcB g pa vp).flatten)) (bs' := fun _ => (PcB g pa vp)) (d1 := fun _ => ([] : List va_W)) hX hW hE (fun l => met_X4_needCourse l g p0 _ _ hf) rfl gX4_fill_X4_needCourse yoX4_needCourse rfl ⟨Nat.le_of_ble_eq_true rfl, Nat.le_of_ble_eq_true rfl⟩ ⟨Nat.le_of_ble_eq_true rfl, Nat.le_of_ble_eq_true rfl, Nat.le_of_ble_eq_true rfl, Nat.le_of_ble_eq_true rfl⟩ [0, 1, 2, 3, 4, 5, 6, 7, 8, 9, 10, 11] rfl rfl rfl (by decide) rfl (fun _ => rfl) (fun _ => rfl) (fun _ => rfl) (fun _ => rfl) (Nat.le_of_ble_eq_true rfl) rfl (fun _ => rfl) dX4_fill_1 rfl (fun _ h => j_out hO (Nat.le_of_ble_eq_true rfl) (Nat.le_of_ble_eq_true rfl) rfl h) (fun _ _ hf => ?_)
  refine j_aload_n (pc' := 5) hX dX4_fill_4 rfl 0 rfl rfl ?_
  refine j_get (ci := 4) (pc' := 8) hX hin4 rfl 0 rfl 3 (by decide) hl_29 rfl dX4_fill_5 rfl ?_
  refine j_aload_n (pc' := 9) hX dX4_fill_8 rfl 0 rfl rfl ?_
  refine j_get (ci := 4) (pc' := 12) hX hin4 rfl 0 rfl 0 (by decide) hl_10 rfl dX4_fill_9 rfl ?_
  refine j_callVMb (ci := 1) (nb := 12) (pc' := 15) (k' := 1) (n' := 6) (As := [.ref (pa 1)]) (rest := []) (stk := fun _ => []) (bs := (PcB g pa vp)) (cs := (HiB g (fun i => pa (13 + i)) vp.2.2.2.1 ++ [(MoW g (pa 1) (pa 2) (pa 3) (pa 4) (pa 5) (vp.1))])) (rs := (List.map (fun i : Nat => List.getD (PcB g pa vp) i []) [0, 2, 3, 11])) (ws' := fun u12_1 => ((PcB g pa (pc_h vp (u12_1))).flatten)) (bs' := fun u12_1 => (PcB g pa (pc_h vp (u12_1)))) (d1 := fun u12_1 => (HiB g (fun i => pa (13 + i)) u12_1 ++ [(MoW g (pa 1) (pa 2) (pa 3) (pa 4) (pa 5) (vp.1))])) hX hW (fun l => met_X1_save l g (fun i => pa (13 + i)) (pa 1) (pa 2) (pa 3) (pa 4) (pa 5) vp.2.2.2.1 vp.1 _ hf) rfl gX4_fill_X1_save yoX1_save rfl ⟨Nat.le_of_ble_eq_true rfl, Nat.le_of_ble_eq_true rfl⟩ ⟨Nat.le_of_ble_eq_true rfl, Nat.le_of_ble_eq_true rfl, Nat.le_of_ble_eq_true rfl, Nat.le_of_ble_eq_true rfl⟩ 0 rfl rfl [0, 2, 3, 11, 4, 5, 6, 7, 8, 9, 10, 1] rfl rfl rfl (by decide) rfl (fun _ => rfl) (fun _ => rfl) (fun _ => rfl) (fun _ => rfl) (Nat.le_of_ble_eq_true rfl) rfl (fun _ => rfl) dX4_fill_12 rfl (fun _ u12_1 hf => ?_)
  refine j_aload_n (pc' := 16) hX dX4_fill_15 rfl 0 rfl rfl ?_
  refine j_get (ci := 4) (pc' := 19) hX hin4 rfl 0 rfl 0 (by decide) hl_10 rfl dX4_fill_16 rfl ?_
  refine j_iload_n (pc' := 20) hX dX4_fill_19 rfl 1 rfl rfl ?_
  refine j_aload_n (pc' := 21) hX dX4_fill_20 rfl 0 rfl rfl ?_
  refine j_get (ci := 4) (pc' := 24) hX hin4 rfl 0 rfl 0 (by decide) hl_10 rfl dX4_fill_21 rfl ?_
  refine j_iconst (pc' := 25) (v := 1) hX dX4_fill_24 (by decide) rfl ?_
  refine j_callVRb (ci := 2) (nb := 12) (pc' := 28) (As := [.int 1]) (rest := [.int p0, .ref (pa 1)]) (stk := fun r25 => [.int r25, .int p0, .ref (pa 1)]) (bs := (PcB g pa (pc_h vp (u12_1)))) (cs := ([(MoW g (pa 1) (pa 2) (pa 3) (pa 4) (pa 5) ((pc_h vp (u12_1)).1))])) (rs := (List.map (fun i : Nat => List.getD (PcB g pa (pc_h vp (u12_1))) i []) [0, 2, 3, 4, 5, 6, 7, 8, 9, 10, 11])) hX (fun l => met_X2_settingOf l g (pa 1) (pa 2) (pa 3) (pa 4) (pa 5) ((pc_h vp (u12_1)).1) 1 _ hf) rfl gX4_fill_X2_settingOf yoX2_settingOf rfl ⟨Nat.le_of_ble_eq_true rfl, Nat.le_of_ble_eq_true rfl⟩ ⟨⟨Nat.le_of_ble_eq_true rfl, Nat.le_of_ble_eq_true rfl⟩, rfl, rfl⟩ 0 rfl rfl [0, 2, 3, 4, 5, 6, 7, 8, 9, 10, 11, 1] rfl rfl rfl (by decide) rfl (Nat.le_of_ble_eq_true rfl) rfl (fun _ => rfl) dX4_fill_25 rfl (fun r25 hf => ?_)
  refine j_callVMb (ci := 2) (nb := 12) (pc' := 31) (k' := 1) (n' := 6) (As := [.int p0, .int r25]) (rest := []) (stk := fun r28 => [.int r28]) (bs := (PcB g pa (pc_h vp (u12_1)))) (cs := ([(MoW g (pa 1) (pa 2) (pa 3) (pa 4) (pa 5) ((pc_h vp (u12_1)).1))])) (rs := (List.map (fun i : Nat => List.getD (PcB g pa (pc_h vp (u12_1))) i []) [0, 2, 3, 4, 5, 6, 7, 8, 9, 10, 11])) (ws' := fun u28_2 => ((PcB g pa (pc_m (pc_h vp (u12_1)) (u28_2))).flatten)) (bs' := fun u28_2 => (PcB g pa (pc_m (pc_h vp (u12_1)) (u28_2)))) (d1 := fun u28_2 => ([(MoW g (pa 1) (pa 2) (pa 3) (pa 4) (pa 5) u28_2)])) hX hW (fun l => met_X2_fillCourse l g (pa 1) (pa 2) (pa 3) (pa 4) (pa 5) ((pc_h vp (u12_1)).1) p0 r25 _ hf) rfl gX4_fill_X2_fillCourse yoX2_fillCourse rfl ⟨Nat.le_of_ble_eq_true rfl, Nat.le_of_ble_eq_true rfl⟩ ⟨Nat.le_of_ble_eq_true rfl, Nat.le_of_ble_eq_true rfl, Nat.le_of_ble_eq_true rfl, Nat.le_of_ble_eq_true rfl⟩ 0 rfl rfl [0, 2, 3, 4, 5, 6, 7, 8, 9, 10, 11, 1] rfl rfl rfl (by decide) rfl (fun _ => rfl) (fun _ => rfl) (fun _ => rfl) (fun _ => rfl) (Nat.le_of_ble_eq_true rfl) rfl (fun _ => rfl) dX4_fill_28 rfl (fun r28 u28_2 hf => ?_)
  refine J_widen (k' := 1) (n' := 6) (Nat.le_of_ble_eq_true rfl) (Nat.le_of_ble_eq_true rfl) ?_
  exact j_iret hX hR dX4_fill_31 ⟨_, _, rfl, hf, rfl⟩
def wp_X4_fillAll_L22 (r16 : Int32) (K22_44 : Pc → Prop) : Nat → Int32 → Pc → Prop
  | 0, _, _ => False
  | N22 + 1, x2_22, vp_22 =>
  ((6 ≤ x2_22 → K22_44 vp_22) ∧ (¬ 6 ≤ x2_22 → (wp_X2_fillCourse vp_22.1 x2_22 r16 (fun r34 u34_2 => (wp_X4_fillAll_L22 r16 K22_44 N22) (x2_22 + 1) (pc_m vp_22 (u34_2))))))
def wp_X4_fillAll (vp : Pc) (post : Int32 → Pc → Prop) : Prop :=
  (wp_X1_save vp.2.2.2.1 vp.1 (fun u8_1 => (wp_X2_settingOf ((pc_h vp (u8_1)).1) 1 (fun r16 => (∃ N : Nat, wp_X4_fillAll_L22 r16 (fun (e3 : Pc) => (wp_X2_summed e3.1 3 (fun r49 => post r49 e3))) N 0 (pc_h vp (u8_1)))))))
theorem yoX4_fillAll : yOk yX4_fillAll 0 := by decide +kernel
set_option maxHeartbeats 4000000 in
set_option maxRecDepth 100000 in
theorem met_X4_fillAll (l : Launch) (g : JG) (pa : Nat → Nat) (vp : Pc) (post : Int32 → Pc → Prop) (hf : wp_X4_fillAll vp post) : MetM l yX4_fillAll wsX4_fillAll ({ frames := 5, cells := 0, slots := 0, locals := 124 } : Room) [.ref (pa 0)] g ((PcB g pa vp).flatten) mkI post (fun u : Pc => ((PcB g pa u).flatten)) := by
  have hin4 : ∀ w ∈ u_ws RX4 TX4 5, w ∈ wsX4_fillAll := by decide +kernel
  have hl_29 : Cond.fieldLink RX4 29 (TX4 3).1 (TX4 3).2.1 (TX4 3).2.2.1 ∈ wsX4_fillAll := by decide +kernel
  have hl_10 : Cond.fieldLink RX4 10 (TX4 0).1 (TX4 0).2.1 (TX4 0).2.2.1 ∈ wsX4_fillAll := by decide +kernel
  refine enterM (own := RX4) (cc := cX4_fillAll) (nL := 3) (ret := (some .int)) (lv := [(0, .ref (pa 0))]) (by decide) rfl rfl (Nat.le_of_ble_eq_true rfl) rfl (fun X hX hW hR => ?_)
  unfold wp_X4_fillAll at hf
  refine j_aload_n (pc' := 1) hX dX4_fillAll_0 rfl 0 rfl rfl ?_
  refine j_get (ci := 4) (pc' := 4) hX hin4 rfl 0 rfl 3 (by decide) hl_29 rfl dX4_fillAll_1 rfl ?_
  refine j_aload_n (pc' := 5) hX dX4_fillAll_4 rfl 0 rfl rfl ?_
  refine j_get (ci := 4) (pc' := 8) hX hin4 rfl 0 rfl 0 (by decide) hl_10 rfl dX4_fillAll_5 rfl ?_
  refine j_callVMb (ci := 1) (nb := 12) (pc' := 11) (k' := 0) (n' := 0) (As := [.ref (pa 1)]) (rest := []) (stk := fun _ => []) (bs := (PcB g pa vp)) (cs := (HiB g (fun i => pa (13 + i)) vp.2.2.2.1 ++ [(MoW g (pa 1) (pa 2) (pa 3) (pa 4) (pa 5) (vp.1))])) (rs := (List.map (fun i : Nat => List.getD (PcB g pa vp) i []) [0, 2, 3, 11])) (ws' := fun u8_1 => ((PcB g pa (pc_h vp (u8_1))).flatten)) (bs' := fun u8_1 => (PcB g pa (pc_h vp (u8_1)))) (d1 := fun u8_1 => (HiB g (fun i => pa (13 + i)) u8_1 ++ [(MoW g (pa 1) (pa 2) (pa 3) (pa 4) (pa 5) (vp.1))])) hX hW (fun l => met_X1_save l g (fun i => pa (13 + i)) (pa 1) (pa 2) (pa 3) (pa 4) (pa 5) vp.2.2.2.1 vp.1 _ hf) rfl gX4_fillAll_X1_save yoX1_save rfl ⟨Nat.le_of_ble_eq_true rfl, Nat.le_of_ble_eq_true rfl⟩ ⟨Nat.le_of_ble_eq_true rfl, Nat.le_of_ble_eq_true rfl, Nat.le_of_ble_eq_true rfl, Nat.le_of_ble_eq_true rfl⟩ 0 rfl rfl [0, 2, 3, 11, 4, 5, 6, 7, 8, 9, 10, 1] rfl rfl rfl (by decide) rfl (fun _ => rfl) (fun _ => rfl) (fun _ => rfl) (fun _ => rfl) (Nat.le_of_ble_eq_true rfl) rfl (fun _ => rfl) dX4_fillAll_8 rfl (fun _ u8_1 hf => ?_)
  refine j_aload_n (pc' := 12) hX dX4_fillAll_11 rfl 0 rfl rfl ?_
  refine j_get (ci := 4) (pc' := 15) hX hin4 rfl 0 rfl 0 (by decide) hl_10 rfl dX4_fillAll_12 rfl ?_
  refine j_iconst (pc' := 16) (v := 1) hX dX4_fillAll_15 (by decide) rfl ?_
  refine j_callVRb (ci := 2) (nb := 12) (pc' := 19) (As := [.int 1]) (rest := []) (stk := fun r16 => [.int r16]) (bs := (PcB g pa (pc_h vp (u8_1)))) (cs := ([(MoW g (pa 1) (pa 2) (pa 3) (pa 4) (pa 5) ((pc_h vp (u8_1)).1))])) (rs := (List.map (fun i : Nat => List.getD (PcB g pa (pc_h vp (u8_1))) i []) [0, 2, 3, 4, 5, 6, 7, 8, 9, 10, 11])) hX (fun l => met_X2_settingOf l g (pa 1) (pa 2) (pa 3) (pa 4) (pa 5) ((pc_h vp (u8_1)).1) 1 _ hf) rfl gX4_fillAll_X2_settingOf yoX2_settingOf rfl ⟨Nat.le_of_ble_eq_true rfl, Nat.le_of_ble_eq_true rfl⟩ ⟨⟨Nat.le_of_ble_eq_true rfl, Nat.le_of_ble_eq_true rfl⟩, rfl, rfl⟩ 0 rfl rfl [0, 2, 3, 4, 5, 6, 7, 8, 9, 10, 11, 1] rfl rfl rfl (by decide) rfl (Nat.le_of_ble_eq_true rfl) rfl (fun _ => rfl) dX4_fillAll_16 rfl (fun r16 hf => ?_)
  refine j_istore_n (pc' := 20) (lv' := [(1, .int r16), (0, .ref (pa 0))]) hX dX4_fillAll_19 rfl (by decide) rfl rfl ?_
  refine j_iconst (pc' := 21) (v := 0) hX dX4_fillAll_20 (by decide) rfl ?_
  refine j_istore_n (pc' := 22) (lv' := [(2, .int 0), (1, .int r16), (0, .ref (pa 0))]) hX dX4_fillAll_21 rfl (by decide) rfl rfl ?_
  obtain ⟨N22, hf⟩ := hf
  have L22 : ∀ (K22_44 : Pc → Prop), (∀ (vp_22 : Pc), K22_44 vp_22 → J g X 0 0 ((PcB g pa vp_22).flatten) [(0, .ref (pa 0))] [] 44) → ∀ (N22 : Nat) (x2_22 : Int32) (vp_22 : Pc), wp_X4_fillAll_L22 r16 K22_44 N22 x2_22 vp_22 → J g X 0 0 ((PcB g pa vp_22).flatten) [(0, .ref (pa 0)), (1, .int r16), (2, .int x2_22)] [] 22 := by
    intro K22_44 hK22_44 N22
    induction N22 with
    | zero => intro x2_22 vp_22 hf; exact False.elim hf
    | succ N22 ih22 =>
      intro x2_22 vp_22 hf
      refine j_iload_n (pc' := 23) hX dX4_fillAll_22 rfl 2 rfl rfl ?_
      refine j_bipush (pc' := 25) (v := 6) hX dX4_fillAll_23 (by decide) rfl ?_
      refine j_icmp_ge (tgt := 44) (pc' := 28) hX dX4_fillAll_25 (by decide) rfl hf (fun hf => ?_) (fun hf => ?_)
      · refine J_sub (lv' := [(0, .ref (pa 0))]) [0] rfl ?_
        exact hK22_44 vp_22 hf
      · refine j_aload_n (pc' := 29) hX dX4_fillAll_28 rfl 0 rfl rfl ?_
        refine j_get (ci := 4) (pc' := 32) hX hin4 rfl 0 rfl 0 (by decide) hl_10 rfl dX4_fillAll_29 rfl ?_
        refine j_iload_n (pc' := 33) hX dX4_fillAll_32 rfl 2 rfl rfl ?_
        refine j_iload_n (pc' := 34) hX dX4_fillAll_33 rfl 1 rfl rfl ?_
        refine j_callVMb (ci := 2) (nb := 12) (pc' := 37) (k' := 0) (n' := 0) (As := [.int x2_22, .int r16]) (rest := []) (stk := fun r34 => [.int r34]) (bs := (PcB g pa vp_22)) (cs := ([(MoW g (pa 1) (pa 2) (pa 3) (pa 4) (pa 5) (vp_22.1))])) (rs := (List.map (fun i : Nat => List.getD (PcB g pa vp_22) i []) [0, 2, 3, 4, 5, 6, 7, 8, 9, 10, 11])) (ws' := fun u34_2 => ((PcB g pa (pc_m vp_22 (u34_2))).flatten)) (bs' := fun u34_2 => (PcB g pa (pc_m vp_22 (u34_2)))) (d1 := fun u34_2 => ([(MoW g (pa 1) (pa 2) (pa 3) (pa 4) (pa 5) u34_2)])) hX hW (fun l => met_X2_fillCourse l g (pa 1) (pa 2) (pa 3) (pa 4) (pa 5) vp_22.1 x2_22 r16 _ hf) rfl gX4_fillAll_X2_fillCourse yoX2_fillCourse rfl ⟨Nat.le_of_ble_eq_true rfl, Nat.le_of_ble_eq_true rfl⟩ ⟨Nat.le_of_ble_eq_true rfl, Nat.le_of_ble_eq_true rfl, Nat.le_of_ble_eq_true rfl, Nat.le_of_ble_eq_true rfl⟩ 0 rfl rfl [0, 2, 3, 4, 5, 6, 7, 8, 9, 10, 11, 1] rfl rfl rfl (by decide) rfl (fun _ => rfl) (fun _ => rfl) (fun _ => rfl) (fun _ => rfl) (Nat.le_of_ble_eq_true rfl) rfl (fun _ => rfl) dX4_fillAll_34 rfl (fun r34 u34_2 hf => ?_)
        refine j_pop (pc' := 38) hX dX4_fillAll_37 rfl rfl ?_
        refine j_iinc (pc' := 41) (cst := 1) (v := (x2_22 + 1)) (lv' := [(2, .int (x2_22 + 1)), (0, .ref (pa 0)), (1, .int r16)]) hX dX4_fillAll_38 (by decide) rfl 2 rfl (by decide) rfl rfl ?_
        refine j_goto (tgt := 22) hX dX4_fillAll_41 (by decide) ?_
        refine J_sub (lv' := [(0, .ref (pa 0)), (1, .int r16), (2, .int (x2_22 + 1))]) [1, 2, 0] rfl ?_
        exact ih22 (x2_22 + 1) (pc_m vp_22 (u34_2)) hf
  refine J_sub (lv' := [(0, .ref (pa 0)), (1, .int r16), (2, .int 0)]) [2, 1, 0] rfl ?_
  refine L22 _ (fun e3 hf => ?_) N22 0 (pc_h vp (u8_1)) hf
  refine j_aload_n (pc' := 45) hX dX4_fillAll_44 rfl 0 rfl rfl ?_
  refine j_get (ci := 4) (pc' := 48) hX hin4 rfl 0 rfl 0 (by decide) hl_10 rfl dX4_fillAll_45 rfl ?_
  refine j_iconst (pc' := 49) (v := 3) hX dX4_fillAll_48 (by decide) rfl ?_
  refine j_callVRb (ci := 2) (nb := 12) (pc' := 52) (As := [.int 3]) (rest := []) (stk := fun r49 => [.int r49]) (bs := (PcB g pa e3)) (cs := ([(MoW g (pa 1) (pa 2) (pa 3) (pa 4) (pa 5) (e3.1))])) (rs := (List.map (fun i : Nat => List.getD (PcB g pa e3) i []) [0, 2, 3, 4, 5, 6, 7, 8, 9, 10, 11])) hX (fun l => met_X2_summed l g (pa 1) (pa 2) (pa 3) (pa 4) (pa 5) e3.1 3 _ hf) rfl gX4_fillAll_X2_summed yoX2_summed rfl ⟨Nat.le_of_ble_eq_true rfl, Nat.le_of_ble_eq_true rfl⟩ ⟨⟨Nat.le_of_ble_eq_true rfl, Nat.le_of_ble_eq_true rfl⟩, rfl, rfl⟩ 0 rfl rfl [0, 2, 3, 4, 5, 6, 7, 8, 9, 10, 11, 1] rfl rfl rfl (by decide) rfl (Nat.le_of_ble_eq_true rfl) rfl (fun _ => rfl) dX4_fillAll_49 rfl (fun r49 hf => ?_)
  exact j_iret hX hR dX4_fillAll_52 ⟨_, _, rfl, hf, rfl⟩
def wp_X4_set_c32 (vp : Pc) (p0 : Int32) (p1 : Int32) (post : Int32 → Pc → Prop) (pX : String → Prop) (z0_32 : Int32) : Prop :=
  (wp_X4_needState z0_32 ((wp_X1_save vp.2.2.2.1 vp.1 (fun u43_1 => (wp_X2_settingOf ((pc_h vp (u43_1)).1) p0 (fun r51 => (wp_X2_changeSetting ((pc_h vp (u43_1)).1) p0 p1 (fun u61_2 => post r51 (pc_m (pc_h vp (u43_1)) (u61_2))))))))) pX)
def wp_X4_set (vp : Pc) (p0 : Int32) (p1 : Int32) (post : Int32 → Pc → Prop) (pX : String → Prop) : Prop :=
  (wp_X4_needSetting p0 ((wp_X4_isSettingValue p0 p1 (fun r6 => (wp_X4_needArgument r6 (((p0 = 0 → (wp_X2_summed vp.1 1 (fun r21 => ((r21 = 0 → wp_X4_set_c32 vp p0 p1 post pX 1) ∧ (¬ r21 = 0 → wp_X4_set_c32 vp p0 p1 post pX 0))))) ∧ (¬ p0 = 0 → wp_X4_set_c32 vp p0 p1 post pX 1))) pX)))) pX)
theorem yoX4_set : yOk yX4_set 2 := by decide +kernel
set_option maxHeartbeats 4000000 in
set_option maxRecDepth 100000 in
theorem met_X4_set (l : Launch) (g : JG) (pa : Nat → Nat) (vp : Pc) (p0 : Int32) (p1 : Int32) (post : Int32 → Pc → Prop) (pX : String → Prop) (hf : wp_X4_set vp p0 p1 post pX) : MetX l yX4_set wsX4_set ({ frames := 8, cells := 3, slots := 18, locals := 130 } : Room) [.ref (pa 0), .int p0, .int p1] g ((PcB g pa vp).flatten) mkI post (fun u : Pc => ((PcB g pa u).flatten)) pX := by
  have hin4 : ∀ w ∈ u_ws RX4 TX4 5, w ∈ wsX4_set := by decide +kernel
  have hl_29 : Cond.fieldLink RX4 29 (TX4 3).1 (TX4 3).2.1 (TX4 3).2.2.1 ∈ wsX4_set := by decide +kernel
  have hl_10 : Cond.fieldLink RX4 10 (TX4 0).1 (TX4 0).2.1 (TX4 0).2.2.1 ∈ wsX4_set := by decide +kernel
  refine enterX (own := RX4) (cc := cX4_set) (nL := 4) (ret := (some .int)) (lv := [(0, .ref (pa 0)), (1, .int p0), (2, .int p1)]) (by decide) rfl rfl (Nat.le_of_ble_eq_true rfl) rfl (fun X hX hW hE hR hO => ?_)
  unfold wp_X4_set at hf
  have J32 : ∀ (z0_32 : Int32), wp_X4_set_c32 vp p0 p1 post pX z0_32 → J g X 2 12 ((PcB g pa vp).flatten) [(0, .ref (pa 0)), (1, .int p0), (2, .int p1)] [.int z0_32] 32 := by
    intro z0_32 hf
    refine j_callSXb (nb := 12) (pc' := 35) (k' := 3) (n' := 18) (As := [.int z0_32]) (rest := []) (stk := fun _ => []) (bs := (PcB g pa vp)) (cs := ([] : List va_W)) (rs := (List.map (fun i : Nat => List.getD (PcB g pa vp) i []) [0, 1, 2, 3, 4, 5, 6, 7, 8, 9, 10, 11])) (ws' := fun _ => ((PcB g pa vp).flatten)) (bs' := fun _ => (PcB g pa vp)) (d1 := fun _ => ([] : List va_W)) hX hW hE (fun l => met_X4_needState l g z0_32 _ _ hf) rfl gX4_set_X4_needState yoX4_needState rfl ⟨Nat.le_of_ble_eq_true rfl, Nat.le_of_ble_eq_true rfl⟩ ⟨Nat.le_of_ble_eq_true rfl, Nat.le_of_ble_eq_true rfl, Nat.le_of_ble_eq_true rfl, Nat.le_of_ble_eq_true rfl⟩ [0, 1, 2, 3, 4, 5, 6, 7, 8, 9, 10, 11] rfl rfl rfl (by decide) rfl (fun _ => rfl) (fun _ => rfl) (fun _ => rfl) (fun _ => rfl) (Nat.le_of_ble_eq_true rfl) rfl (fun _ => rfl) dX4_set_32 rfl (fun _ h => j_out hO (Nat.le_of_ble_eq_true rfl) (Nat.le_of_ble_eq_true rfl) rfl h) (fun _ _ hf => ?_)
    refine j_aload_n (pc' := 36) hX dX4_set_35 rfl 0 rfl rfl ?_
    refine j_get (ci := 4) (pc' := 39) hX hin4 rfl 0 rfl 3 (by decide) hl_29 rfl dX4_set_36 rfl ?_
    refine j_aload_n (pc' := 40) hX dX4_set_39 rfl 0 rfl rfl ?_
    refine j_get (ci := 4) (pc' := 43) hX hin4 rfl 0 rfl 0 (by decide) hl_10 rfl dX4_set_40 rfl ?_
    refine j_callVMb (ci := 1) (nb := 12) (pc' := 46) (k' := 3) (n' := 18) (As := [.ref (pa 1)]) (rest := []) (stk := fun _ => []) (bs := (PcB g pa vp)) (cs := (HiB g (fun i => pa (13 + i)) vp.2.2.2.1 ++ [(MoW g (pa 1) (pa 2) (pa 3) (pa 4) (pa 5) (vp.1))])) (rs := (List.map (fun i : Nat => List.getD (PcB g pa vp) i []) [0, 2, 3, 11])) (ws' := fun u43_1 => ((PcB g pa (pc_h vp (u43_1))).flatten)) (bs' := fun u43_1 => (PcB g pa (pc_h vp (u43_1)))) (d1 := fun u43_1 => (HiB g (fun i => pa (13 + i)) u43_1 ++ [(MoW g (pa 1) (pa 2) (pa 3) (pa 4) (pa 5) (vp.1))])) hX hW (fun l => met_X1_save l g (fun i => pa (13 + i)) (pa 1) (pa 2) (pa 3) (pa 4) (pa 5) vp.2.2.2.1 vp.1 _ hf) rfl gX4_set_X1_save yoX1_save rfl ⟨Nat.le_of_ble_eq_true rfl, Nat.le_of_ble_eq_true rfl⟩ ⟨Nat.le_of_ble_eq_true rfl, Nat.le_of_ble_eq_true rfl, Nat.le_of_ble_eq_true rfl, Nat.le_of_ble_eq_true rfl⟩ 0 rfl rfl [0, 2, 3, 11, 4, 5, 6, 7, 8, 9, 10, 1] rfl rfl rfl (by decide) rfl (fun _ => rfl) (fun _ => rfl) (fun _ => rfl) (fun _ => rfl) (Nat.le_of_ble_eq_true rfl) rfl (fun _ => rfl) dX4_set_43 rfl (fun _ u43_1 hf => ?_)
    refine j_aload_n (pc' := 47) hX dX4_set_46 rfl 0 rfl rfl ?_
    refine j_get (ci := 4) (pc' := 50) hX hin4 rfl 0 rfl 0 (by decide) hl_10 rfl dX4_set_47 rfl ?_
    refine j_iload_n (pc' := 51) hX dX4_set_50 rfl 1 rfl rfl ?_
    refine j_callVRb (ci := 2) (nb := 12) (pc' := 54) (As := [.int p0]) (rest := []) (stk := fun r51 => [.int r51]) (bs := (PcB g pa (pc_h vp (u43_1)))) (cs := ([(MoW g (pa 1) (pa 2) (pa 3) (pa 4) (pa 5) ((pc_h vp (u43_1)).1))])) (rs := (List.map (fun i : Nat => List.getD (PcB g pa (pc_h vp (u43_1))) i []) [0, 2, 3, 4, 5, 6, 7, 8, 9, 10, 11])) hX (fun l => met_X2_settingOf l g (pa 1) (pa 2) (pa 3) (pa 4) (pa 5) ((pc_h vp (u43_1)).1) p0 _ hf) rfl gX4_set_X2_settingOf yoX2_settingOf rfl ⟨Nat.le_of_ble_eq_true rfl, Nat.le_of_ble_eq_true rfl⟩ ⟨⟨Nat.le_of_ble_eq_true rfl, Nat.le_of_ble_eq_true rfl⟩, rfl, rfl⟩ 0 rfl rfl [0, 2, 3, 4, 5, 6, 7, 8, 9, 10, 11, 1] rfl rfl rfl (by decide) rfl (Nat.le_of_ble_eq_true rfl) rfl (fun _ => rfl) dX4_set_51 rfl (fun r51 hf => ?_)
    refine j_istore_n (pc' := 55) (lv' := [(3, .int r51), (0, .ref (pa 0)), (1, .int p0), (2, .int p1)]) hX dX4_set_54 rfl (by decide) rfl rfl ?_
    refine j_aload_n (pc' := 56) hX dX4_set_55 rfl 1 rfl rfl ?_
    refine j_get (ci := 4) (pc' := 59) hX hin4 rfl 0 rfl 0 (by decide) hl_10 rfl dX4_set_56 rfl ?_
    refine j_iload_n (pc' := 60) hX dX4_set_59 rfl 2 rfl rfl ?_
    refine j_iload_n (pc' := 61) hX dX4_set_60 rfl 3 rfl rfl ?_
    refine j_callVMb (ci := 2) (nb := 12) (pc' := 64) (k' := 3) (n' := 18) (As := [.int p0, .int p1]) (rest := []) (stk := fun _ => []) (bs := (PcB g pa (pc_h vp (u43_1)))) (cs := ([(MoW g (pa 1) (pa 2) (pa 3) (pa 4) (pa 5) ((pc_h vp (u43_1)).1))])) (rs := (List.map (fun i : Nat => List.getD (PcB g pa (pc_h vp (u43_1))) i []) [0, 2, 3, 4, 5, 6, 7, 8, 9, 10, 11])) (ws' := fun u61_2 => ((PcB g pa (pc_m (pc_h vp (u43_1)) (u61_2))).flatten)) (bs' := fun u61_2 => (PcB g pa (pc_m (pc_h vp (u43_1)) (u61_2)))) (d1 := fun u61_2 => ([(MoW g (pa 1) (pa 2) (pa 3) (pa 4) (pa 5) u61_2)])) hX hW (fun l => met_X2_changeSetting l g (pa 1) (pa 2) (pa 3) (pa 4) (pa 5) ((pc_h vp (u43_1)).1) p0 p1 _ hf) rfl gX4_set_X2_changeSetting yoX2_changeSetting rfl ⟨Nat.le_of_ble_eq_true rfl, Nat.le_of_ble_eq_true rfl⟩ ⟨Nat.le_of_ble_eq_true rfl, Nat.le_of_ble_eq_true rfl, Nat.le_of_ble_eq_true rfl, Nat.le_of_ble_eq_true rfl⟩ 0 rfl rfl [0, 2, 3, 4, 5, 6, 7, 8, 9, 10, 11, 1] rfl rfl rfl (by decide) rfl (fun _ => rfl) (fun _ => rfl) (fun _ => rfl) (fun _ => rfl) (Nat.le_of_ble_eq_true rfl) rfl (fun _ => rfl) dX4_set_61 rfl (fun _ u61_2 hf => ?_)
    refine j_iload_n (pc' := 65) hX dX4_set_64 rfl 0 rfl rfl ?_
    refine J_widen (k' := 3) (n' := 18) (Nat.le_of_ble_eq_true rfl) (Nat.le_of_ble_eq_true rfl) ?_
    exact j_iret hX hR dX4_set_65 ⟨_, _, rfl, hf, rfl⟩
  refine j_iload_n (pc' := 1) hX dX4_set_0 rfl 1 rfl rfl ?_
  refine j_callSXb (nb := 12) (pc' := 4) (k' := 1) (n' := 6) (As := [.int p0]) (rest := []) (stk := fun _ => []) (bs := (PcB g pa vp)) (cs := ([] : List va_W)) (rs := (List.map (fun i : Nat => List.getD (PcB g pa vp) i []) [0, 1, 2, 3, 4, 5, 6, 7, 8, 9, 10, 11])) (ws' := fun _ => ((PcB g pa vp).flatten)) (bs' := fun _ => (PcB g pa vp)) (d1 := fun _ => ([] : List va_W)) hX hW hE (fun l => met_X4_needSetting l g p0 _ _ hf) rfl gX4_set_X4_needSetting yoX4_needSetting rfl ⟨Nat.le_of_ble_eq_true rfl, Nat.le_of_ble_eq_true rfl⟩ ⟨Nat.le_of_ble_eq_true rfl, Nat.le_of_ble_eq_true rfl, Nat.le_of_ble_eq_true rfl, Nat.le_of_ble_eq_true rfl⟩ [0, 1, 2, 3, 4, 5, 6, 7, 8, 9, 10, 11] rfl rfl rfl (by decide) rfl (fun _ => rfl) (fun _ => rfl) (fun _ => rfl) (fun _ => rfl) (Nat.le_of_ble_eq_true rfl) rfl (fun _ => rfl) dX4_set_1 rfl (fun _ h => j_out hO (Nat.le_of_ble_eq_true rfl) (Nat.le_of_ble_eq_true rfl) rfl h) (fun _ _ hf => ?_)
  refine j_iload_n (pc' := 5) hX dX4_set_4 rfl 1 rfl rfl ?_
  refine j_iload_n (pc' := 6) hX dX4_set_5 rfl 2 rfl rfl ?_
  refine j_callSR (pc' := 9) (As := [.int p0, .int p1]) (rest := []) (stk := fun r6 => [.int r6]) hX (fun l => met_X4_isSettingValue l g p0 p1 _ hf) rfl gX4_set_X4_isSettingValue yoX4_isSettingValue rfl ⟨Nat.le_of_ble_eq_true rfl, Nat.le_of_ble_eq_true rfl⟩ ⟨⟨Nat.le_of_ble_eq_true rfl, Nat.le_of_ble_eq_true rfl⟩, rfl, rfl⟩ [] rfl (by decide) (Nat.le_of_ble_eq_true rfl) rfl (fun _ => rfl) dX4_set_6 rfl (fun r6 hf => ?_)
  refine j_callSXb (nb := 12) (pc' := 12) (k' := 2) (n' := 12) (As := [.int r6]) (rest := []) (stk := fun _ => []) (bs := (PcB g pa vp)) (cs := ([] : List va_W)) (rs := (List.map (fun i : Nat => List.getD (PcB g pa vp) i []) [0, 1, 2, 3, 4, 5, 6, 7, 8, 9, 10, 11])) (ws' := fun _ => ((PcB g pa vp).flatten)) (bs' := fun _ => (PcB g pa vp)) (d1 := fun _ => ([] : List va_W)) hX hW hE (fun l => met_X4_needArgument l g r6 _ _ hf) rfl gX4_set_X4_needArgument yoX4_needArgument rfl ⟨Nat.le_of_ble_eq_true rfl, Nat.le_of_ble_eq_true rfl⟩ ⟨Nat.le_of_ble_eq_true rfl, Nat.le_of_ble_eq_true rfl, Nat.le_of_ble_eq_true rfl, Nat.le_of_ble_eq_true rfl⟩ [0, 1, 2, 3, 4, 5, 6, 7, 8, 9, 10, 11] rfl rfl rfl (by decide) rfl (fun _ => rfl) (fun _ => rfl) (fun _ => rfl) (fun _ => rfl) (Nat.le_of_ble_eq_true rfl) rfl (fun _ => rfl) dX4_set_9 rfl (fun _ h => j_out hO (Nat.le_of_ble_eq_true rfl) (Nat.le_of_ble_eq_true rfl) rfl h) (fun _ _ hf => ?_)
  refine j_iload_n (pc' := 13) hX dX4_set_12 rfl 1 rfl rfl ?_
  refine j_if_ne (tgt := 27) (pc' := 16) hX dX4_set_13 (by decide) rfl hf (fun hf => ?_) (fun hf => ?_)
  · refine j_iconst (pc' := 28) (v := 1) hX dX4_set_27 (by decide) rfl ?_
    refine j_goto (tgt := 32) hX dX4_set_28 (by decide) ?_
    exact J32 1 hf
  · refine j_aload_n (pc' := 17) hX dX4_set_16 rfl 0 rfl rfl ?_
    refine j_get (ci := 4) (pc' := 20) hX hin4 rfl 0 rfl 0 (by decide) hl_10 rfl dX4_set_17 rfl ?_
    refine j_iconst (pc' := 21) (v := 1) hX dX4_set_20 (by decide) rfl ?_
    refine j_callVRb (ci := 2) (nb := 12) (pc' := 24) (As := [.int 1]) (rest := []) (stk := fun r21 => [.int r21]) (bs := (PcB g pa vp)) (cs := ([(MoW g (pa 1) (pa 2) (pa 3) (pa 4) (pa 5) (vp.1))])) (rs := (List.map (fun i : Nat => List.getD (PcB g pa vp) i []) [0, 2, 3, 4, 5, 6, 7, 8, 9, 10, 11])) hX (fun l => met_X2_summed l g (pa 1) (pa 2) (pa 3) (pa 4) (pa 5) vp.1 1 _ hf) rfl gX4_set_X2_summed yoX2_summed rfl ⟨Nat.le_of_ble_eq_true rfl, Nat.le_of_ble_eq_true rfl⟩ ⟨⟨Nat.le_of_ble_eq_true rfl, Nat.le_of_ble_eq_true rfl⟩, rfl, rfl⟩ 0 rfl rfl [0, 2, 3, 4, 5, 6, 7, 8, 9, 10, 11, 1] rfl rfl rfl (by decide) rfl (Nat.le_of_ble_eq_true rfl) rfl (fun _ => rfl) dX4_set_21 rfl (fun r21 hf => ?_)
    refine j_if_ne (tgt := 31) (pc' := 27) hX dX4_set_24 (by decide) rfl hf (fun hf => ?_) (fun hf => ?_)
    · refine j_iconst (pc' := 32) (v := 0) hX dX4_set_31 (by decide) rfl ?_
      exact J32 0 hf
    · refine j_iconst (pc' := 28) (v := 1) hX dX4_set_27 (by decide) rfl ?_
      refine j_goto (tgt := 32) hX dX4_set_28 (by decide) ?_
      exact J32 1 hf
def wp_X4_append_c17 (vp : Pc) (p0 : Int32) (post : Int32 → Pc → Prop) (pX : String → Prop) (z0_17 : Int32) : Prop :=
  (wp_X4_needArgument z0_17 ((wp_X3_length vp.2.2.2.2 (fun r24 => ((60 ≤ r24 → (wp_X4_needState 0 ((wp_X3_add vp.2.2.2.2 ((p0.toUInt32 % 65536).toInt32) (fun r46 u46_1 => post r46 (pc_x vp (u46_1))))) pX)) ∧ (¬ 60 ≤ r24 → (wp_X4_needState 1 ((wp_X3_add vp.2.2.2.2 ((p0.toUInt32 % 65536).toInt32) (fun r46 u46_2 => post r46 (pc_x vp (u46_2))))) pX)))))) pX)
def wp_X4_append (vp : Pc) (p0 : Int32) (post : Int32 → Pc → Prop) (pX : String → Prop) : Prop :=
  ((p0 < 33 → wp_X4_append_c17 vp p0 post pX 0) ∧ (¬ p0 < 33 → ((126 < p0 → wp_X4_append_c17 vp p0 post pX 0) ∧ (¬ 126 < p0 → wp_X4_append_c17 vp p0 post pX 1))))
theorem yoX4_append : yOk yX4_append 1 := by decide +kernel
set_option maxHeartbeats 4000000 in
set_option maxRecDepth 100000 in
theorem met_X4_append (l : Launch) (g : JG) (pa : Nat → Nat) (vp : Pc) (p0 : Int32) (post : Int32 → Pc → Prop) (pX : String → Prop) (hf : wp_X4_append vp p0 post pX) : MetX l yX4_append wsX4_append ({ frames := 7, cells := 2, slots := 12, locals := 110 } : Room) [.ref (pa 0), .int p0] g ((PcB g pa vp).flatten) mkI post (fun u : Pc => ((PcB g pa u).flatten)) pX := by
  have hin4 : ∀ w ∈ u_ws RX4 TX4 5, w ∈ wsX4_append := by decide +kernel
  have hl_36 : Cond.fieldLink RX4 36 (TX4 4).1 (TX4 4).2.1 (TX4 4).2.2.1 ∈ wsX4_append := by decide +kernel
  refine enterX (own := RX4) (cc := cX4_append) (nL := 2) (ret := (some .int)) (lv := [(0, .ref (pa 0)), (1, .int p0)]) (by decide) rfl rfl (Nat.le_of_ble_eq_true rfl) rfl (fun X hX hW hE hR hO => ?_)
  unfold wp_X4_append at hf
  have J17 : ∀ (z0_17 : Int32), wp_X4_append_c17 vp p0 post pX z0_17 → J g X 0 0 ((PcB g pa vp).flatten) [(0, .ref (pa 0)), (1, .int p0)] [.int z0_17] 17 := by
    intro z0_17 hf
    refine j_callSXb (nb := 12) (pc' := 20) (k' := 1) (n' := 6) (As := [.int z0_17]) (rest := []) (stk := fun _ => []) (bs := (PcB g pa vp)) (cs := ([] : List va_W)) (rs := (List.map (fun i : Nat => List.getD (PcB g pa vp) i []) [0, 1, 2, 3, 4, 5, 6, 7, 8, 9, 10, 11])) (ws' := fun _ => ((PcB g pa vp).flatten)) (bs' := fun _ => (PcB g pa vp)) (d1 := fun _ => ([] : List va_W)) hX hW hE (fun l => met_X4_needArgument l g z0_17 _ _ hf) rfl gX4_append_X4_needArgument yoX4_needArgument rfl ⟨Nat.le_of_ble_eq_true rfl, Nat.le_of_ble_eq_true rfl⟩ ⟨Nat.le_of_ble_eq_true rfl, Nat.le_of_ble_eq_true rfl, Nat.le_of_ble_eq_true rfl, Nat.le_of_ble_eq_true rfl⟩ [0, 1, 2, 3, 4, 5, 6, 7, 8, 9, 10, 11] rfl rfl rfl (by decide) rfl (fun _ => rfl) (fun _ => rfl) (fun _ => rfl) (fun _ => rfl) (Nat.le_of_ble_eq_true rfl) rfl (fun _ => rfl) dX4_append_17 rfl (fun _ h => j_out hO (Nat.le_of_ble_eq_true rfl) (Nat.le_of_ble_eq_true rfl) rfl h) (fun _ _ hf => ?_)
    refine j_aload_n (pc' := 21) hX dX4_append_20 rfl 0 rfl rfl ?_
    refine j_get (ci := 4) (pc' := 24) hX hin4 rfl 0 rfl 4 (by decide) hl_36 rfl dX4_append_21 rfl ?_
    refine j_callVRb (ci := 3) (nb := 12) (pc' := 27) (As := []) (rest := []) (stk := fun r24 => [.int r24]) (bs := (PcB g pa vp)) (cs := ([(TxW g (pa 45) (pa 46) (vp.2.2.2.2))])) (rs := (List.map (fun i : Nat => List.getD (PcB g pa vp) i []) [0, 1, 2, 3, 4, 5, 6, 7, 8, 9, 10])) hX (fun l => met_X3_length l g (pa 45) (pa 46) vp.2.2.2.2 _ hf) rfl gX4_append_X3_length yoX3_length rfl ⟨Nat.le_of_ble_eq_true rfl, Nat.le_of_ble_eq_true rfl⟩ ⟨⟨Nat.le_of_ble_eq_true rfl, Nat.le_of_ble_eq_true rfl⟩, rfl, rfl⟩ 0 rfl rfl [0, 1, 2, 3, 4, 5, 6, 7, 8, 9, 10, 11] rfl rfl rfl (by decide) rfl (Nat.le_of_ble_eq_true rfl) rfl (fun _ => rfl) dX4_append_24 rfl (fun r24 hf => ?_)
    refine j_bipush (pc' := 29) (v := 60) hX dX4_append_27 (by decide) rfl ?_
    refine j_icmp_ge (tgt := 36) (pc' := 32) hX dX4_append_29 (by decide) rfl hf (fun hf => ?_) (fun hf => ?_)
    · refine j_iconst (pc' := 37) (v := 0) hX dX4_append_36 (by decide) rfl ?_
      refine j_callSXb (nb := 12) (pc' := 40) (k' := 2) (n' := 12) (As := [.int 0]) (rest := []) (stk := fun _ => []) (bs := (PcB g pa vp)) (cs := ([] : List va_W)) (rs := (List.map (fun i : Nat => List.getD (PcB g pa vp) i []) [0, 1, 2, 3, 4, 5, 6, 7, 8, 9, 10, 11])) (ws' := fun _ => ((PcB g pa vp).flatten)) (bs' := fun _ => (PcB g pa vp)) (d1 := fun _ => ([] : List va_W)) hX hW hE (fun l => met_X4_needState l g 0 _ _ hf) rfl gX4_append_X4_needState yoX4_needState rfl ⟨Nat.le_of_ble_eq_true rfl, Nat.le_of_ble_eq_true rfl⟩ ⟨Nat.le_of_ble_eq_true rfl, Nat.le_of_ble_eq_true rfl, Nat.le_of_ble_eq_true rfl, Nat.le_of_ble_eq_true rfl⟩ [0, 1, 2, 3, 4, 5, 6, 7, 8, 9, 10, 11] rfl rfl rfl (by decide) rfl (fun _ => rfl) (fun _ => rfl) (fun _ => rfl) (fun _ => rfl) (Nat.le_of_ble_eq_true rfl) rfl (fun _ => rfl) dX4_append_37 rfl (fun _ h => j_out hO (Nat.le_of_ble_eq_true rfl) (Nat.le_of_ble_eq_true rfl) rfl h) (fun _ _ hf => ?_)
      refine j_aload_n (pc' := 41) hX dX4_append_40 rfl 0 rfl rfl ?_
      refine j_get (ci := 4) (pc' := 44) hX hin4 rfl 0 rfl 4 (by decide) hl_36 rfl dX4_append_41 rfl ?_
      refine j_iload_n (pc' := 45) hX dX4_append_44 rfl 1 rfl rfl ?_
      refine j_i2c (pc' := 46) hX dX4_append_45 rfl ?_
      refine j_callVMb (ci := 3) (nb := 12) (pc' := 49) (k' := 2) (n' := 12) (As := [.int ((p0.toUInt32 % 65536).toInt32)]) (rest := []) (stk := fun r46 => [.int r46]) (bs := (PcB g pa vp)) (cs := ([(TxW g (pa 45) (pa 46) (vp.2.2.2.2))])) (rs := (List.map (fun i : Nat => List.getD (PcB g pa vp) i []) [0, 1, 2, 3, 4, 5, 6, 7, 8, 9, 10])) (ws' := fun u46_1 => ((PcB g pa (pc_x vp (u46_1))).flatten)) (bs' := fun u46_1 => (PcB g pa (pc_x vp (u46_1)))) (d1 := fun u46_1 => ([(TxW g (pa 45) (pa 46) u46_1)])) hX hW (fun l => met_X3_add l g (pa 45) (pa 46) vp.2.2.2.2 ((p0.toUInt32 % 65536).toInt32) _ hf) rfl gX4_append_X3_add yoX3_add rfl ⟨Nat.le_of_ble_eq_true rfl, Nat.le_of_ble_eq_true rfl⟩ ⟨Nat.le_of_ble_eq_true rfl, Nat.le_of_ble_eq_true rfl, Nat.le_of_ble_eq_true rfl, Nat.le_of_ble_eq_true rfl⟩ 0 rfl rfl [0, 1, 2, 3, 4, 5, 6, 7, 8, 9, 10, 11] rfl rfl rfl (by decide) rfl (fun _ => rfl) (fun _ => rfl) (fun _ => rfl) (fun _ => rfl) (Nat.le_of_ble_eq_true rfl) rfl (fun _ => rfl) dX4_append_46 rfl (fun r46 u46_1 hf => ?_)
      refine J_widen (k' := 2) (n' := 12) (Nat.le_of_ble_eq_true rfl) (Nat.le_of_ble_eq_true rfl) ?_
      exact j_iret hX hR dX4_append_49 ⟨_, _, rfl, hf, rfl⟩
    · refine j_iconst (pc' := 33) (v := 1) hX dX4_append_32 (by decide) rfl ?_
      refine j_goto (tgt := 37) hX dX4_append_33 (by decide) ?_
      refine j_callSXb (nb := 12) (pc' := 40) (k' := 2) (n' := 12) (As := [.int 1]) (rest := []) (stk := fun _ => []) (bs := (PcB g pa vp)) (cs := ([] : List va_W)) (rs := (List.map (fun i : Nat => List.getD (PcB g pa vp) i []) [0, 1, 2, 3, 4, 5, 6, 7, 8, 9, 10, 11])) (ws' := fun _ => ((PcB g pa vp).flatten)) (bs' := fun _ => (PcB g pa vp)) (d1 := fun _ => ([] : List va_W)) hX hW hE (fun l => met_X4_needState l g 1 _ _ hf) rfl gX4_append_X4_needState yoX4_needState rfl ⟨Nat.le_of_ble_eq_true rfl, Nat.le_of_ble_eq_true rfl⟩ ⟨Nat.le_of_ble_eq_true rfl, Nat.le_of_ble_eq_true rfl, Nat.le_of_ble_eq_true rfl, Nat.le_of_ble_eq_true rfl⟩ [0, 1, 2, 3, 4, 5, 6, 7, 8, 9, 10, 11] rfl rfl rfl (by decide) rfl (fun _ => rfl) (fun _ => rfl) (fun _ => rfl) (fun _ => rfl) (Nat.le_of_ble_eq_true rfl) rfl (fun _ => rfl) dX4_append_37 rfl (fun _ h => j_out hO (Nat.le_of_ble_eq_true rfl) (Nat.le_of_ble_eq_true rfl) rfl h) (fun _ _ hf => ?_)
      refine j_aload_n (pc' := 41) hX dX4_append_40 rfl 0 rfl rfl ?_
      refine j_get (ci := 4) (pc' := 44) hX hin4 rfl 0 rfl 4 (by decide) hl_36 rfl dX4_append_41 rfl ?_
      refine j_iload_n (pc' := 45) hX dX4_append_44 rfl 1 rfl rfl ?_
      refine j_i2c (pc' := 46) hX dX4_append_45 rfl ?_
      refine j_callVMb (ci := 3) (nb := 12) (pc' := 49) (k' := 2) (n' := 12) (As := [.int ((p0.toUInt32 % 65536).toInt32)]) (rest := []) (stk := fun r46 => [.int r46]) (bs := (PcB g pa vp)) (cs := ([(TxW g (pa 45) (pa 46) (vp.2.2.2.2))])) (rs := (List.map (fun i : Nat => List.getD (PcB g pa vp) i []) [0, 1, 2, 3, 4, 5, 6, 7, 8, 9, 10])) (ws' := fun u46_2 => ((PcB g pa (pc_x vp (u46_2))).flatten)) (bs' := fun u46_2 => (PcB g pa (pc_x vp (u46_2)))) (d1 := fun u46_2 => ([(TxW g (pa 45) (pa 46) u46_2)])) hX hW (fun l => met_X3_add l g (pa 45) (pa 46) vp.2.2.2.2 ((p0.toUInt32 % 65536).toInt32) _ hf) rfl gX4_append_X3_add yoX3_add rfl ⟨Nat.le_of_ble_eq_true rfl, Nat.le_of_ble_eq_true rfl⟩ ⟨Nat.le_of_ble_eq_true rfl, Nat.le_of_ble_eq_true rfl, Nat.le_of_ble_eq_true rfl, Nat.le_of_ble_eq_true rfl⟩ 0 rfl rfl [0, 1, 2, 3, 4, 5, 6, 7, 8, 9, 10, 11] rfl rfl rfl (by decide) rfl (fun _ => rfl) (fun _ => rfl) (fun _ => rfl) (fun _ => rfl) (Nat.le_of_ble_eq_true rfl) rfl (fun _ => rfl) dX4_append_46 rfl (fun r46 u46_2 hf => ?_)
      refine J_widen (k' := 2) (n' := 12) (Nat.le_of_ble_eq_true rfl) (Nat.le_of_ble_eq_true rfl) ?_
      exact j_iret hX hR dX4_append_49 ⟨_, _, rfl, hf, rfl⟩
  refine j_iload_n (pc' := 1) hX dX4_append_0 rfl 1 rfl rfl ?_
  refine j_bipush (pc' := 3) (v := 33) hX dX4_append_1 (by decide) rfl ?_
  refine j_icmp_lt (tgt := 16) (pc' := 6) hX dX4_append_3 (by decide) rfl hf (fun hf => ?_) (fun hf => ?_)
  · refine j_iconst (pc' := 17) (v := 0) hX dX4_append_16 (by decide) rfl ?_
    exact J17 0 hf
  · refine j_iload_n (pc' := 7) hX dX4_append_6 rfl 1 rfl rfl ?_
    refine j_bipush (pc' := 9) (v := 126) hX dX4_append_7 (by decide) rfl ?_
    refine j_icmp_gt (tgt := 16) (pc' := 12) hX dX4_append_9 (by decide) rfl hf (fun hf => ?_) (fun hf => ?_)
    · refine j_iconst (pc' := 17) (v := 0) hX dX4_append_16 (by decide) rfl ?_
      exact J17 0 hf
    · refine j_iconst (pc' := 13) (v := 1) hX dX4_append_12 (by decide) rfl ?_
      refine j_goto (tgt := 17) hX dX4_append_13 (by decide) ?_
      exact J17 1 hf
def wp_X4_clearBuffer (vp : Pc) (post : Int32 → Pc → Prop) : Prop :=
  (wp_X3_drop vp.2.2.2.2 (fun r4 u4_1 => post r4 (pc_x vp (u4_1))))
theorem yoX4_clearBuffer : yOk yX4_clearBuffer 0 := by decide +kernel
set_option maxHeartbeats 4000000 in
set_option maxRecDepth 100000 in
theorem met_X4_clearBuffer (l : Launch) (g : JG) (pa : Nat → Nat) (vp : Pc) (post : Int32 → Pc → Prop) (hf : wp_X4_clearBuffer vp post) : MetM l yX4_clearBuffer wsX4_clearBuffer ({ frames := 1, cells := 0, slots := 0, locals := 21 } : Room) [.ref (pa 0)] g ((PcB g pa vp).flatten) mkI post (fun u : Pc => ((PcB g pa u).flatten)) := by
  have hin4 : ∀ w ∈ u_ws RX4 TX4 5, w ∈ wsX4_clearBuffer := by decide +kernel
  have hl_36 : Cond.fieldLink RX4 36 (TX4 4).1 (TX4 4).2.1 (TX4 4).2.2.1 ∈ wsX4_clearBuffer := by decide +kernel
  refine enterM (own := RX4) (cc := cX4_clearBuffer) (nL := 1) (ret := (some .int)) (lv := [(0, .ref (pa 0))]) (by decide) rfl rfl (Nat.le_of_ble_eq_true rfl) rfl (fun X hX hW hR => ?_)
  unfold wp_X4_clearBuffer at hf
  refine j_aload_n (pc' := 1) hX dX4_clearBuffer_0 rfl 0 rfl rfl ?_
  refine j_get (ci := 4) (pc' := 4) hX hin4 rfl 0 rfl 4 (by decide) hl_36 rfl dX4_clearBuffer_1 rfl ?_
  refine j_callVMb (ci := 3) (nb := 12) (pc' := 7) (k' := 0) (n' := 0) (As := []) (rest := []) (stk := fun r4 => [.int r4]) (bs := (PcB g pa vp)) (cs := ([(TxW g (pa 45) (pa 46) (vp.2.2.2.2))])) (rs := (List.map (fun i : Nat => List.getD (PcB g pa vp) i []) [0, 1, 2, 3, 4, 5, 6, 7, 8, 9, 10])) (ws' := fun u4_1 => ((PcB g pa (pc_x vp (u4_1))).flatten)) (bs' := fun u4_1 => (PcB g pa (pc_x vp (u4_1)))) (d1 := fun u4_1 => ([(TxW g (pa 45) (pa 46) u4_1)])) hX hW (fun l => met_X3_drop l g (pa 45) (pa 46) vp.2.2.2.2 _ hf) rfl gX4_clearBuffer_X3_drop yoX3_drop rfl ⟨Nat.le_of_ble_eq_true rfl, Nat.le_of_ble_eq_true rfl⟩ ⟨Nat.le_of_ble_eq_true rfl, Nat.le_of_ble_eq_true rfl, Nat.le_of_ble_eq_true rfl, Nat.le_of_ble_eq_true rfl⟩ 0 rfl rfl [0, 1, 2, 3, 4, 5, 6, 7, 8, 9, 10, 11] rfl rfl rfl (by decide) rfl (fun _ => rfl) (fun _ => rfl) (fun _ => rfl) (fun _ => rfl) (Nat.le_of_ble_eq_true rfl) rfl (fun _ => rfl) dX4_clearBuffer_4 rfl (fun r4 u4_1 hf => ?_)
  exact j_iret hX hR dX4_clearBuffer_7 ⟨_, _, rfl, hf, rfl⟩
def wp_X4_firstError (vp : Pc) (post : Int32 → Prop) : Prop :=
  (wp_X3_wrongAt vp.2.2.2.2 (fun r4 => post r4))
theorem yoX4_firstError : yOk yX4_firstError 0 := by decide +kernel
set_option maxHeartbeats 4000000 in
set_option maxRecDepth 100000 in
theorem met_X4_firstError (l : Launch) (g : JG) (pa : Nat → Nat) (vp : Pc) (post : Int32 → Prop) (hf : wp_X4_firstError vp post) : MetR l yX4_firstError wsX4_firstError ({ frames := 3, cells := 0, slots := 0, locals := 64 } : Room) [.ref (pa 0)] g ((PcB g pa vp).flatten) mkI post := by
  have hin4 : ∀ w ∈ u_ws RX4 TX4 5, w ∈ wsX4_firstError := by decide +kernel
  have hl_36 : Cond.fieldLink RX4 36 (TX4 4).1 (TX4 4).2.1 (TX4 4).2.2.1 ∈ wsX4_firstError := by decide +kernel
  refine enterR (own := RX4) (cc := cX4_firstError) (nL := 1) (ret := (some .int)) (lv := [(0, .ref (pa 0))]) (by decide) rfl rfl (Nat.le_of_ble_eq_true rfl) rfl (fun X hX hR => ?_)
  unfold wp_X4_firstError at hf
  refine j_aload_n (pc' := 1) hX dX4_firstError_0 rfl 0 rfl rfl ?_
  refine j_get (ci := 4) (pc' := 4) hX hin4 rfl 0 rfl 4 (by decide) hl_36 rfl dX4_firstError_1 rfl ?_
  refine j_callVRb (ci := 3) (nb := 12) (pc' := 7) (As := []) (rest := []) (stk := fun r4 => [.int r4]) (bs := (PcB g pa vp)) (cs := ([(TxW g (pa 45) (pa 46) (vp.2.2.2.2))])) (rs := (List.map (fun i : Nat => List.getD (PcB g pa vp) i []) [0, 1, 2, 3, 4, 5, 6, 7, 8, 9, 10])) hX (fun l => met_X3_wrongAt l g (pa 45) (pa 46) vp.2.2.2.2 _ hf) rfl gX4_firstError_X3_wrongAt yoX3_wrongAt rfl ⟨Nat.le_of_ble_eq_true rfl, Nat.le_of_ble_eq_true rfl⟩ ⟨⟨Nat.le_of_ble_eq_true rfl, Nat.le_of_ble_eq_true rfl⟩, rfl, rfl⟩ 0 rfl rfl [0, 1, 2, 3, 4, 5, 6, 7, 8, 9, 10, 11] rfl rfl rfl (by decide) rfl (Nat.le_of_ble_eq_true rfl) rfl (fun _ => rfl) dX4_firstError_4 rfl (fun r4 hf => ?_)
  exact j_iret hX hR dX4_firstError_7 ⟨_, rfl, hf⟩
def wp_X4_layAll_c106 (x1_36 : Int32) (x2_36 : Int32) (x4_36 : Int32) (vp_36 : Pc) (KB36 : Int32 → Int32 → Int32 → Pc → Prop) (K36_123 : Int32 → Pc → Prop) (y6_106 : Int32) (z0_106 : Int32) : Prop :=
  (wp_X2_reasonAgainst vp_36.1 x2_36 y6_106 z0_106 (fun r117 => ((r117 = 0 → (wp_X2_put vp_36.1 x2_36 y6_106 z0_106 (fun r135 u135_2 => KB36 (x1_36 + 1) x2_36 (x4_36 + 1) (pc_m vp_36 (u135_2))))) ∧ (¬ r117 = 0 → K36_123 x1_36 vp_36))))
def wp_X4_layAll_L36 (r29 : Int32) (K36_123 : Int32 → Pc → Prop) (K36_148 : Int32 → Pc → Prop) : Nat → Int32 → Int32 → Int32 → Pc → Prop
  | 0, _, _, _, _ => False
  | N36 + 1, x1_36, x2_36, x4_36, vp_36 =>
  ((r29 ≤ x4_36 → K36_148 x1_36 vp_36) ∧ (¬ r29 ≤ x4_36 → (wp_X3_signAt vp_36.2.2.2.2 x4_36 (fun r48 => (wp_X3_isCourse r48 (fun r55 => ((r55 = 0 → (wp_X3_isSize r48 (fun r72 => ((r72 = 0 → (wp_X4_layAll_L36 r29 K36_123 K36_148 N36) x1_36 x2_36 (x4_36 + 1) vp_36) ∧ (¬ r72 = 0 → (wp_X3_signAt vp_36.2.2.2.2 (x4_36 + 1) (fun r93 => ((r93 = 33 → wp_X4_layAll_c106 x1_36 x2_36 x4_36 vp_36 (wp_X4_layAll_L36 r29 K36_123 K36_148 N36) K36_123 (r48 - 48) 1) ∧ (¬ r93 = 33 → wp_X4_layAll_c106 x1_36 x2_36 x4_36 vp_36 (wp_X4_layAll_L36 r29 K36_123 K36_148 N36) K36_123 (r48 - 48) 0))))))))) ∧ (¬ r55 = 0 → (wp_X4_layAll_L36 r29 K36_123 K36_148 N36) x1_36 (r48 - 97) (x4_36 + 1) vp_36))))))))
def wp_X4_layAll (vp : Pc) (post : Int32 → Pc → Prop) (pX : String → Prop) : Prop :=
  (wp_X3_isComplete vp.2.2.2.2 (fun r4 => (wp_X4_needArgument r4 ((wp_X1_save vp.2.2.2.1 vp.1 (fun u18_1 => (wp_X3_length ((pc_h vp (u18_1)).2.2.2.2) (fun r29 => (∃ N : Nat, wp_X4_layAll_L36 r29 (fun (e3 : Int32) (e4 : Pc) => (wp_X3_drop e4.2.2.2.2 (fun r152 u152_5 => post e3 (pc_x e4 (u152_5))))) (fun (e6 : Int32) (e7 : Pc) => (wp_X3_drop e7.2.2.2.2 (fun r152 u152_8 => post e6 (pc_x e7 (u152_8))))) N 0 0 0 (pc_h vp (u18_1)))))))) pX)))
theorem yoX4_layAll : yOk yX4_layAll 0 := by decide +kernel
set_option maxHeartbeats 4000000 in
set_option maxRecDepth 100000 in
theorem met_X4_layAll (l : Launch) (g : JG) (pa : Nat → Nat) (vp : Pc) (post : Int32 → Pc → Prop) (pX : String → Prop) (hf : wp_X4_layAll vp post pX) : MetX l yX4_layAll wsX4_layAll ({ frames := 7, cells := 1, slots := 6, locals := 124 } : Room) [.ref (pa 0)] g ((PcB g pa vp).flatten) mkI post (fun u : Pc => ((PcB g pa u).flatten)) pX := by
  have hin4 : ∀ w ∈ u_ws RX4 TX4 5, w ∈ wsX4_layAll := by decide +kernel
  have hl_36 : Cond.fieldLink RX4 36 (TX4 4).1 (TX4 4).2.1 (TX4 4).2.2.1 ∈ wsX4_layAll := by decide +kernel
  have hl_29 : Cond.fieldLink RX4 29 (TX4 3).1 (TX4 3).2.1 (TX4 3).2.2.1 ∈ wsX4_layAll := by decide +kernel
  have hl_10 : Cond.fieldLink RX4 10 (TX4 0).1 (TX4 0).2.1 (TX4 0).2.2.1 ∈ wsX4_layAll := by decide +kernel
  refine enterX (own := RX4) (cc := cX4_layAll) (nL := 8) (ret := (some .int)) (lv := [(0, .ref (pa 0))]) (by decide) rfl rfl (Nat.le_of_ble_eq_true rfl) rfl (fun X hX hW hE hR hO => ?_)
  unfold wp_X4_layAll at hf
  refine j_aload_n (pc' := 1) hX dX4_layAll_0 rfl 0 rfl rfl ?_
  refine j_get (ci := 4) (pc' := 4) hX hin4 rfl 0 rfl 4 (by decide) hl_36 rfl dX4_layAll_1 rfl ?_
  refine j_callVRb (ci := 3) (nb := 12) (pc' := 7) (As := []) (rest := []) (stk := fun r4 => [.int r4]) (bs := (PcB g pa vp)) (cs := ([(TxW g (pa 45) (pa 46) (vp.2.2.2.2))])) (rs := (List.map (fun i : Nat => List.getD (PcB g pa vp) i []) [0, 1, 2, 3, 4, 5, 6, 7, 8, 9, 10])) hX (fun l => met_X3_isComplete l g (pa 45) (pa 46) vp.2.2.2.2 _ hf) rfl gX4_layAll_X3_isComplete yoX3_isComplete rfl ⟨Nat.le_of_ble_eq_true rfl, Nat.le_of_ble_eq_true rfl⟩ ⟨⟨Nat.le_of_ble_eq_true rfl, Nat.le_of_ble_eq_true rfl⟩, rfl, rfl⟩ 0 rfl rfl [0, 1, 2, 3, 4, 5, 6, 7, 8, 9, 10, 11] rfl rfl rfl (by decide) rfl (Nat.le_of_ble_eq_true rfl) rfl (fun _ => rfl) dX4_layAll_4 rfl (fun r4 hf => ?_)
  refine j_callSXb (nb := 12) (pc' := 10) (k' := 1) (n' := 6) (As := [.int r4]) (rest := []) (stk := fun _ => []) (bs := (PcB g pa vp)) (cs := ([] : List va_W)) (rs := (List.map (fun i : Nat => List.getD (PcB g pa vp) i []) [0, 1, 2, 3, 4, 5, 6, 7, 8, 9, 10, 11])) (ws' := fun _ => ((PcB g pa vp).flatten)) (bs' := fun _ => (PcB g pa vp)) (d1 := fun _ => ([] : List va_W)) hX hW hE (fun l => met_X4_needArgument l g r4 _ _ hf) rfl gX4_layAll_X4_needArgument yoX4_needArgument rfl ⟨Nat.le_of_ble_eq_true rfl, Nat.le_of_ble_eq_true rfl⟩ ⟨Nat.le_of_ble_eq_true rfl, Nat.le_of_ble_eq_true rfl, Nat.le_of_ble_eq_true rfl, Nat.le_of_ble_eq_true rfl⟩ [0, 1, 2, 3, 4, 5, 6, 7, 8, 9, 10, 11] rfl rfl rfl (by decide) rfl (fun _ => rfl) (fun _ => rfl) (fun _ => rfl) (fun _ => rfl) (Nat.le_of_ble_eq_true rfl) rfl (fun _ => rfl) dX4_layAll_7 rfl (fun _ h => j_out hO (Nat.le_of_ble_eq_true rfl) (Nat.le_of_ble_eq_true rfl) rfl h) (fun _ _ hf => ?_)
  refine j_aload_n (pc' := 11) hX dX4_layAll_10 rfl 0 rfl rfl ?_
  refine j_get (ci := 4) (pc' := 14) hX hin4 rfl 0 rfl 3 (by decide) hl_29 rfl dX4_layAll_11 rfl ?_
  refine j_aload_n (pc' := 15) hX dX4_layAll_14 rfl 0 rfl rfl ?_
  refine j_get (ci := 4) (pc' := 18) hX hin4 rfl 0 rfl 0 (by decide) hl_10 rfl dX4_layAll_15 rfl ?_
  refine j_callVMb (ci := 1) (nb := 12) (pc' := 21) (k' := 1) (n' := 6) (As := [.ref (pa 1)]) (rest := []) (stk := fun _ => []) (bs := (PcB g pa vp)) (cs := (HiB g (fun i => pa (13 + i)) vp.2.2.2.1 ++ [(MoW g (pa 1) (pa 2) (pa 3) (pa 4) (pa 5) (vp.1))])) (rs := (List.map (fun i : Nat => List.getD (PcB g pa vp) i []) [0, 2, 3, 11])) (ws' := fun u18_1 => ((PcB g pa (pc_h vp (u18_1))).flatten)) (bs' := fun u18_1 => (PcB g pa (pc_h vp (u18_1)))) (d1 := fun u18_1 => (HiB g (fun i => pa (13 + i)) u18_1 ++ [(MoW g (pa 1) (pa 2) (pa 3) (pa 4) (pa 5) (vp.1))])) hX hW (fun l => met_X1_save l g (fun i => pa (13 + i)) (pa 1) (pa 2) (pa 3) (pa 4) (pa 5) vp.2.2.2.1 vp.1 _ hf) rfl gX4_layAll_X1_save yoX1_save rfl ⟨Nat.le_of_ble_eq_true rfl, Nat.le_of_ble_eq_true rfl⟩ ⟨Nat.le_of_ble_eq_true rfl, Nat.le_of_ble_eq_true rfl, Nat.le_of_ble_eq_true rfl, Nat.le_of_ble_eq_true rfl⟩ 0 rfl rfl [0, 2, 3, 11, 4, 5, 6, 7, 8, 9, 10, 1] rfl rfl rfl (by decide) rfl (fun _ => rfl) (fun _ => rfl) (fun _ => rfl) (fun _ => rfl) (Nat.le_of_ble_eq_true rfl) rfl (fun _ => rfl) dX4_layAll_18 rfl (fun _ u18_1 hf => ?_)
  refine j_iconst (pc' := 22) (v := 0) hX dX4_layAll_21 (by decide) rfl ?_
  refine j_istore_n (pc' := 23) (lv' := [(1, .int 0), (0, .ref (pa 0))]) hX dX4_layAll_22 rfl (by decide) rfl rfl ?_
  refine j_iconst (pc' := 24) (v := 0) hX dX4_layAll_23 (by decide) rfl ?_
  refine j_istore_n (pc' := 25) (lv' := [(2, .int 0), (1, .int 0), (0, .ref (pa 0))]) hX dX4_layAll_24 rfl (by decide) rfl rfl ?_
  refine j_aload_n (pc' := 26) hX dX4_layAll_25 rfl 2 rfl rfl ?_
  refine j_get (ci := 4) (pc' := 29) hX hin4 rfl 0 rfl 4 (by decide) hl_36 rfl dX4_layAll_26 rfl ?_
  refine j_callVRb (ci := 3) (nb := 12) (pc' := 32) (As := []) (rest := []) (stk := fun r29 => [.int r29]) (bs := (PcB g pa (pc_h vp (u18_1)))) (cs := ([(TxW g (pa 45) (pa 46) ((pc_h vp (u18_1)).2.2.2.2))])) (rs := (List.map (fun i : Nat => List.getD (PcB g pa (pc_h vp (u18_1))) i []) [0, 1, 2, 3, 4, 5, 6, 7, 8, 9, 10])) hX (fun l => met_X3_length l g (pa 45) (pa 46) ((pc_h vp (u18_1)).2.2.2.2) _ hf) rfl gX4_layAll_X3_length yoX3_length rfl ⟨Nat.le_of_ble_eq_true rfl, Nat.le_of_ble_eq_true rfl⟩ ⟨⟨Nat.le_of_ble_eq_true rfl, Nat.le_of_ble_eq_true rfl⟩, rfl, rfl⟩ 0 rfl rfl [0, 1, 2, 3, 4, 5, 6, 7, 8, 9, 10, 11] rfl rfl rfl (by decide) rfl (Nat.le_of_ble_eq_true rfl) rfl (fun _ => rfl) dX4_layAll_29 rfl (fun r29 hf => ?_)
  refine j_istore_n (pc' := 33) (lv' := [(3, .int r29), (2, .int 0), (1, .int 0), (0, .ref (pa 0))]) hX dX4_layAll_32 rfl (by decide) rfl rfl ?_
  refine j_iconst (pc' := 34) (v := 0) hX dX4_layAll_33 (by decide) rfl ?_
  refine j_istore (pc' := 36) (lv' := [(4, .int 0), (3, .int r29), (2, .int 0), (1, .int 0), (0, .ref (pa 0))]) hX dX4_layAll_34 (by decide) rfl rfl ?_
  obtain ⟨N36, hf⟩ := hf
  have L36 : ∀ (K36_123 : Int32 → Pc → Prop) (K36_148 : Int32 → Pc → Prop), (∀ (x1_36 : Int32) (vp_36 : Pc), K36_123 x1_36 vp_36 → J g X 1 6 ((PcB g pa vp_36).flatten) [(0, .ref (pa 0)), (1, .int x1_36)] [] 123) → (∀ (x1_36 : Int32) (vp_36 : Pc), K36_148 x1_36 vp_36 → J g X 1 6 ((PcB g pa vp_36).flatten) [(0, .ref (pa 0)), (1, .int x1_36)] [] 148) → ∀ (N36 : Nat) (x1_36 : Int32) (x2_36 : Int32) (x4_36 : Int32) (vp_36 : Pc), wp_X4_layAll_L36 r29 K36_123 K36_148 N36 x1_36 x2_36 x4_36 vp_36 → J g X 1 6 ((PcB g pa vp_36).flatten) [(0, .ref (pa 0)), (1, .int x1_36), (2, .int x2_36), (3, .int r29), (4, .int x4_36)] [] 36 := by
    intro K36_123 K36_148 hK36_123 hK36_148 N36
    induction N36 with
    | zero => intro x1_36 x2_36 x4_36 vp_36 hf; exact False.elim hf
    | succ N36 ih36 =>
      intro x1_36 x2_36 x4_36 vp_36 hf
      have J106 : ∀ (y6_106 : Int32) (z0_106 : Int32), wp_X4_layAll_c106 x1_36 x2_36 x4_36 vp_36 (wp_X4_layAll_L36 r29 K36_123 K36_148 N36) K36_123 y6_106 z0_106 → J g X 1 6 ((PcB g pa vp_36).flatten) [(0, .ref (pa 0)), (1, .int x1_36), (2, .int x2_36), (3, .int r29), (4, .int x4_36), (6, .int y6_106)] [.int z0_106] 106 := by
        intro y6_106 z0_106 hf
        refine j_istore (pc' := 108) (lv' := [(7, .int z0_106), (0, .ref (pa 0)), (1, .int x1_36), (2, .int x2_36), (3, .int r29), (4, .int x4_36), (6, .int y6_106)]) hX dX4_layAll_106 (by decide) rfl rfl ?_
        refine j_aload_n (pc' := 109) hX dX4_layAll_108 rfl 1 rfl rfl ?_
        refine j_get (ci := 4) (pc' := 112) hX hin4 rfl 0 rfl 0 (by decide) hl_10 rfl dX4_layAll_109 rfl ?_
        refine j_iload_n (pc' := 113) hX dX4_layAll_112 rfl 3 rfl rfl ?_
        refine j_iload (pc' := 115) hX dX4_layAll_113 6 rfl rfl ?_
        refine j_iload (pc' := 117) hX dX4_layAll_115 0 rfl rfl ?_
        refine j_callVRb (ci := 2) (nb := 12) (pc' := 120) (As := [.int x2_36, .int y6_106, .int z0_106]) (rest := []) (stk := fun r117 => [.int r117]) (bs := (PcB g pa vp_36)) (cs := ([(MoW g (pa 1) (pa 2) (pa 3) (pa 4) (pa 5) (vp_36.1))])) (rs := (List.map (fun i : Nat => List.getD (PcB g pa vp_36) i []) [0, 2, 3, 4, 5, 6, 7, 8, 9, 10, 11])) hX (fun l => met_X2_reasonAgainst l g (pa 1) (pa 2) (pa 3) (pa 4) (pa 5) vp_36.1 x2_36 y6_106 z0_106 _ hf) rfl gX4_layAll_X2_reasonAgainst yoX2_reasonAgainst rfl ⟨Nat.le_of_ble_eq_true rfl, Nat.le_of_ble_eq_true rfl⟩ ⟨⟨Nat.le_of_ble_eq_true rfl, Nat.le_of_ble_eq_true rfl⟩, rfl, rfl⟩ 0 rfl rfl [0, 2, 3, 4, 5, 6, 7, 8, 9, 10, 11, 1] rfl rfl rfl (by decide) rfl (Nat.le_of_ble_eq_true rfl) rfl (fun _ => rfl) dX4_layAll_117 rfl (fun r117 hf => ?_)
        refine j_if_eq (tgt := 126) (pc' := 123) hX dX4_layAll_120 (by decide) rfl hf (fun hf => ?_) (fun hf => ?_)
        · refine j_aload_n (pc' := 127) hX dX4_layAll_126 rfl 1 rfl rfl ?_
          refine j_get (ci := 4) (pc' := 130) hX hin4 rfl 0 rfl 0 (by decide) hl_10 rfl dX4_layAll_127 rfl ?_
          refine j_iload_n (pc' := 131) hX dX4_layAll_130 rfl 3 rfl rfl ?_
          refine j_iload (pc' := 133) hX dX4_layAll_131 6 rfl rfl ?_
          refine j_iload (pc' := 135) hX dX4_layAll_133 0 rfl rfl ?_
          refine j_callVMb (ci := 2) (nb := 12) (pc' := 138) (k' := 1) (n' := 6) (As := [.int x2_36, .int y6_106, .int z0_106]) (rest := []) (stk := fun r135 => [.int r135]) (bs := (PcB g pa vp_36)) (cs := ([(MoW g (pa 1) (pa 2) (pa 3) (pa 4) (pa 5) (vp_36.1))])) (rs := (List.map (fun i : Nat => List.getD (PcB g pa vp_36) i []) [0, 2, 3, 4, 5, 6, 7, 8, 9, 10, 11])) (ws' := fun u135_2 => ((PcB g pa (pc_m vp_36 (u135_2))).flatten)) (bs' := fun u135_2 => (PcB g pa (pc_m vp_36 (u135_2)))) (d1 := fun u135_2 => ([(MoW g (pa 1) (pa 2) (pa 3) (pa 4) (pa 5) u135_2)])) hX hW (fun l => met_X2_put l g (pa 1) (pa 2) (pa 3) (pa 4) (pa 5) vp_36.1 x2_36 y6_106 z0_106 _ hf) rfl gX4_layAll_X2_put yoX2_put rfl ⟨Nat.le_of_ble_eq_true rfl, Nat.le_of_ble_eq_true rfl⟩ ⟨Nat.le_of_ble_eq_true rfl, Nat.le_of_ble_eq_true rfl, Nat.le_of_ble_eq_true rfl, Nat.le_of_ble_eq_true rfl⟩ 0 rfl rfl [0, 2, 3, 4, 5, 6, 7, 8, 9, 10, 11, 1] rfl rfl rfl (by decide) rfl (fun _ => rfl) (fun _ => rfl) (fun _ => rfl) (fun _ => rfl) (Nat.le_of_ble_eq_true rfl) rfl (fun _ => rfl) dX4_layAll_135 rfl (fun r135 u135_2 hf => ?_)
          refine j_pop (pc' := 139) hX dX4_layAll_138 rfl rfl ?_
          refine j_iinc (pc' := 142) (cst := 1) (v := (x1_36 + 1)) (lv' := [(1, .int (x1_36 + 1)), (7, .int z0_106), (0, .ref (pa 0)), (2, .int x2_36), (3, .int r29), (4, .int x4_36), (6, .int y6_106)]) hX dX4_layAll_139 (by decide) rfl 2 rfl (by decide) rfl rfl ?_
          refine j_iinc (pc' := 145) (cst := 1) (v := (x4_36 + 1)) (lv' := [(4, .int (x4_36 + 1)), (1, .int (x1_36 + 1)), (7, .int z0_106), (0, .ref (pa 0)), (2, .int x2_36), (3, .int r29), (6, .int y6_106)]) hX dX4_layAll_142 (by decide) rfl 5 rfl (by decide) rfl rfl ?_
          refine j_goto (tgt := 36) hX dX4_layAll_145 (by decide) ?_
          refine J_sub (lv' := [(0, .ref (pa 0)), (1, .int (x1_36 + 1)), (2, .int x2_36), (3, .int r29), (4, .int (x4_36 + 1))]) [3, 1, 4, 5, 0] rfl ?_
          exact ih36 (x1_36 + 1) x2_36 (x4_36 + 1) (pc_m vp_36 (u135_2)) hf
        · refine J_sub (lv' := [(0, .ref (pa 0)), (1, .int x1_36)]) [1, 2] rfl ?_
          exact hK36_123 x1_36 vp_36 hf
      refine j_iload (pc' := 38) hX dX4_layAll_36 4 rfl rfl ?_
      refine j_iload_n (pc' := 39) hX dX4_layAll_38 rfl 3 rfl rfl ?_
      refine j_icmp_ge (tgt := 148) (pc' := 42) hX dX4_layAll_39 (by decide) rfl hf (fun hf => ?_) (fun hf => ?_)
      · refine J_sub (lv' := [(0, .ref (pa 0)), (1, .int x1_36)]) [0, 1] rfl ?_
        exact hK36_148 x1_36 vp_36 hf
      · refine j_aload_n (pc' := 43) hX dX4_layAll_42 rfl 0 rfl rfl ?_
        refine j_get (ci := 4) (pc' := 46) hX hin4 rfl 0 rfl 4 (by decide) hl_36 rfl dX4_layAll_43 rfl ?_
        refine j_iload (pc' := 48) hX dX4_layAll_46 4 rfl rfl ?_
        refine j_callVRb (ci := 3) (nb := 12) (pc' := 51) (As := [.int x4_36]) (rest := []) (stk := fun r48 => [.int r48]) (bs := (PcB g pa vp_36)) (cs := ([(TxW g (pa 45) (pa 46) (vp_36.2.2.2.2))])) (rs := (List.map (fun i : Nat => List.getD (PcB g pa vp_36) i []) [0, 1, 2, 3, 4, 5, 6, 7, 8, 9, 10])) hX (fun l => met_X3_signAt l g (pa 45) (pa 46) vp_36.2.2.2.2 x4_36 _ hf) rfl gX4_layAll_X3_signAt yoX3_signAt rfl ⟨Nat.le_of_ble_eq_true rfl, Nat.le_of_ble_eq_true rfl⟩ ⟨⟨Nat.le_of_ble_eq_true rfl, Nat.le_of_ble_eq_true rfl⟩, rfl, rfl⟩ 0 rfl rfl [0, 1, 2, 3, 4, 5, 6, 7, 8, 9, 10, 11] rfl rfl rfl (by decide) rfl (Nat.le_of_ble_eq_true rfl) rfl (fun _ => rfl) dX4_layAll_48 rfl (fun r48 hf => ?_)
        refine j_istore (pc' := 53) (lv' := [(5, .int r48), (0, .ref (pa 0)), (1, .int x1_36), (2, .int x2_36), (3, .int r29), (4, .int x4_36)]) hX dX4_layAll_51 (by decide) rfl rfl ?_
        refine j_iload (pc' := 55) hX dX4_layAll_53 0 rfl rfl ?_
        refine j_callSR (pc' := 58) (As := [.int r48]) (rest := []) (stk := fun r55 => [.int r55]) hX (fun l => met_X3_isCourse l g r48 _ hf) rfl gX4_layAll_X3_isCourse yoX3_isCourse rfl ⟨Nat.le_of_ble_eq_true rfl, Nat.le_of_ble_eq_true rfl⟩ ⟨⟨Nat.le_of_ble_eq_true rfl, Nat.le_of_ble_eq_true rfl⟩, rfl, rfl⟩ [] rfl (by decide) (Nat.le_of_ble_eq_true rfl) rfl (fun _ => rfl) dX4_layAll_55 rfl (fun r55 hf => ?_)
        refine j_if_eq (tgt := 70) (pc' := 61) hX dX4_layAll_58 (by decide) rfl hf (fun hf => ?_) (fun hf => ?_)
        · refine j_iload (pc' := 72) hX dX4_layAll_70 0 rfl rfl ?_
          refine j_callSR (pc' := 75) (As := [.int r48]) (rest := []) (stk := fun r72 => [.int r72]) hX (fun l => met_X3_isSize l g r48 _ hf) rfl gX4_layAll_X3_isSize yoX3_isSize rfl ⟨Nat.le_of_ble_eq_true rfl, Nat.le_of_ble_eq_true rfl⟩ ⟨⟨Nat.le_of_ble_eq_true rfl, Nat.le_of_ble_eq_true rfl⟩, rfl, rfl⟩ [] rfl (by decide) (Nat.le_of_ble_eq_true rfl) rfl (fun _ => rfl) dX4_layAll_72 rfl (fun r72 hf => ?_)
          refine j_if_eq (tgt := 142) (pc' := 78) hX dX4_layAll_75 (by decide) rfl hf (fun hf => ?_) (fun hf => ?_)
          · refine j_iinc (pc' := 145) (cst := 1) (v := (x4_36 + 1)) (lv' := [(4, .int (x4_36 + 1)), (5, .int r48), (0, .ref (pa 0)), (1, .int x1_36), (2, .int x2_36), (3, .int r29)]) hX dX4_layAll_142 (by decide) rfl 5 rfl (by decide) rfl rfl ?_
            refine j_goto (tgt := 36) hX dX4_layAll_145 (by decide) ?_
            refine J_sub (lv' := [(0, .ref (pa 0)), (1, .int x1_36), (2, .int x2_36), (3, .int r29), (4, .int (x4_36 + 1))]) [2, 3, 4, 5, 0] rfl ?_
            exact ih36 x1_36 x2_36 (x4_36 + 1) vp_36 hf
          · refine j_iload (pc' := 80) hX dX4_layAll_78 0 rfl rfl ?_
            refine j_bipush (pc' := 82) (v := 48) hX dX4_layAll_80 (by decide) rfl ?_
            refine j_isub (pc' := 83) hX dX4_layAll_82 rfl ?_
            refine j_istore (pc' := 85) (lv' := [(6, .int (r48 - 48)), (5, .int r48), (0, .ref (pa 0)), (1, .int x1_36), (2, .int x2_36), (3, .int r29), (4, .int x4_36)]) hX dX4_layAll_83 (by decide) rfl rfl ?_
            refine j_aload_n (pc' := 86) hX dX4_layAll_85 rfl 2 rfl rfl ?_
            refine j_get (ci := 4) (pc' := 89) hX hin4 rfl 0 rfl 4 (by decide) hl_36 rfl dX4_layAll_86 rfl ?_
            refine j_iload (pc' := 91) hX dX4_layAll_89 6 rfl rfl ?_
            refine j_iconst (pc' := 92) (v := 1) hX dX4_layAll_91 (by decide) rfl ?_
            refine j_iadd (pc' := 93) hX dX4_layAll_92 rfl ?_
            refine j_callVRb (ci := 3) (nb := 12) (pc' := 96) (As := [.int (x4_36 + 1)]) (rest := []) (stk := fun r93 => [.int r93]) (bs := (PcB g pa vp_36)) (cs := ([(TxW g (pa 45) (pa 46) (vp_36.2.2.2.2))])) (rs := (List.map (fun i : Nat => List.getD (PcB g pa vp_36) i []) [0, 1, 2, 3, 4, 5, 6, 7, 8, 9, 10])) hX (fun l => met_X3_signAt l g (pa 45) (pa 46) vp_36.2.2.2.2 (x4_36 + 1) _ hf) rfl gX4_layAll_X3_signAt yoX3_signAt rfl ⟨Nat.le_of_ble_eq_true rfl, Nat.le_of_ble_eq_true rfl⟩ ⟨⟨Nat.le_of_ble_eq_true rfl, Nat.le_of_ble_eq_true rfl⟩, rfl, rfl⟩ 0 rfl rfl [0, 1, 2, 3, 4, 5, 6, 7, 8, 9, 10, 11] rfl rfl rfl (by decide) rfl (Nat.le_of_ble_eq_true rfl) rfl (fun _ => rfl) dX4_layAll_93 rfl (fun r93 hf => ?_)
            refine j_bipush (pc' := 98) (v := 33) hX dX4_layAll_96 (by decide) rfl ?_
            refine j_icmp_ne (tgt := 105) (pc' := 101) hX dX4_layAll_98 (by decide) rfl hf (fun hf => ?_) (fun hf => ?_)
            · refine j_iconst (pc' := 106) (v := 0) hX dX4_layAll_105 (by decide) rfl ?_
              refine J_sub (lv' := [(0, .ref (pa 0)), (1, .int x1_36), (2, .int x2_36), (3, .int r29), (4, .int x4_36), (6, .int (r48 - 48))]) [2, 3, 4, 5, 6, 0] rfl ?_
              exact J106 (r48 - 48) 0 hf
            · refine j_iconst (pc' := 102) (v := 1) hX dX4_layAll_101 (by decide) rfl ?_
              refine j_goto (tgt := 106) hX dX4_layAll_102 (by decide) ?_
              refine J_sub (lv' := [(0, .ref (pa 0)), (1, .int x1_36), (2, .int x2_36), (3, .int r29), (4, .int x4_36), (6, .int (r48 - 48))]) [2, 3, 4, 5, 6, 0] rfl ?_
              exact J106 (r48 - 48) 1 hf
        · refine j_iload (pc' := 63) hX dX4_layAll_61 0 rfl rfl ?_
          refine j_bipush (pc' := 65) (v := 97) hX dX4_layAll_63 (by decide) rfl ?_
          refine j_isub (pc' := 66) hX dX4_layAll_65 rfl ?_
          refine j_istore_n (pc' := 67) (lv' := [(2, .int (r48 - 97)), (5, .int r48), (0, .ref (pa 0)), (1, .int x1_36), (3, .int r29), (4, .int x4_36)]) hX dX4_layAll_66 rfl (by decide) rfl rfl ?_
          refine j_goto (tgt := 142) hX dX4_layAll_67 (by decide) ?_
          refine j_iinc (pc' := 145) (cst := 1) (v := (x4_36 + 1)) (lv' := [(4, .int (x4_36 + 1)), (2, .int (r48 - 97)), (5, .int r48), (0, .ref (pa 0)), (1, .int x1_36), (3, .int r29)]) hX dX4_layAll_142 (by decide) rfl 5 rfl (by decide) rfl rfl ?_
          refine j_goto (tgt := 36) hX dX4_layAll_145 (by decide) ?_
          refine J_sub (lv' := [(0, .ref (pa 0)), (1, .int x1_36), (2, .int (r48 - 97)), (3, .int r29), (4, .int (x4_36 + 1))]) [3, 4, 1, 5, 0] rfl ?_
          exact ih36 x1_36 (r48 - 97) (x4_36 + 1) vp_36 hf
  refine J_sub (lv' := [(0, .ref (pa 0)), (1, .int 0), (2, .int 0), (3, .int r29), (4, .int 0)]) [4, 3, 2, 1, 0] rfl ?_
  refine L36 _ _ (fun e3 e4 hf => ?_) (fun e6 e7 hf => ?_) N36 0 0 0 (pc_h vp (u18_1)) hf
  · refine j_goto (tgt := 148) hX dX4_layAll_123 (by decide) ?_
    refine j_aload_n (pc' := 149) hX dX4_layAll_148 rfl 0 rfl rfl ?_
    refine j_get (ci := 4) (pc' := 152) hX hin4 rfl 0 rfl 4 (by decide) hl_36 rfl dX4_layAll_149 rfl ?_
    refine j_callVMb (ci := 3) (nb := 12) (pc' := 155) (k' := 1) (n' := 6) (As := []) (rest := []) (stk := fun r152 => [.int r152]) (bs := (PcB g pa e4)) (cs := ([(TxW g (pa 45) (pa 46) (e4.2.2.2.2))])) (rs := (List.map (fun i : Nat => List.getD (PcB g pa e4) i []) [0, 1, 2, 3, 4, 5, 6, 7, 8, 9, 10])) (ws' := fun u152_5 => ((PcB g pa (pc_x e4 (u152_5))).flatten)) (bs' := fun u152_5 => (PcB g pa (pc_x e4 (u152_5)))) (d1 := fun u152_5 => ([(TxW g (pa 45) (pa 46) u152_5)])) hX hW (fun l => met_X3_drop l g (pa 45) (pa 46) e4.2.2.2.2 _ hf) rfl gX4_layAll_X3_drop yoX3_drop rfl ⟨Nat.le_of_ble_eq_true rfl, Nat.le_of_ble_eq_true rfl⟩ ⟨Nat.le_of_ble_eq_true rfl, Nat.le_of_ble_eq_true rfl, Nat.le_of_ble_eq_true rfl, Nat.le_of_ble_eq_true rfl⟩ 0 rfl rfl [0, 1, 2, 3, 4, 5, 6, 7, 8, 9, 10, 11] rfl rfl rfl (by decide) rfl (fun _ => rfl) (fun _ => rfl) (fun _ => rfl) (fun _ => rfl) (Nat.le_of_ble_eq_true rfl) rfl (fun _ => rfl) dX4_layAll_152 rfl (fun r152 u152_5 hf => ?_)
    refine j_pop (pc' := 156) hX dX4_layAll_155 rfl rfl ?_
    refine j_iload_n (pc' := 157) hX dX4_layAll_156 rfl 1 rfl rfl ?_
    refine J_widen (k' := 1) (n' := 6) (Nat.le_of_ble_eq_true rfl) (Nat.le_of_ble_eq_true rfl) ?_
    exact j_iret hX hR dX4_layAll_157 ⟨_, _, rfl, hf, rfl⟩
  · refine j_aload_n (pc' := 149) hX dX4_layAll_148 rfl 0 rfl rfl ?_
    refine j_get (ci := 4) (pc' := 152) hX hin4 rfl 0 rfl 4 (by decide) hl_36 rfl dX4_layAll_149 rfl ?_
    refine j_callVMb (ci := 3) (nb := 12) (pc' := 155) (k' := 1) (n' := 6) (As := []) (rest := []) (stk := fun r152 => [.int r152]) (bs := (PcB g pa e7)) (cs := ([(TxW g (pa 45) (pa 46) (e7.2.2.2.2))])) (rs := (List.map (fun i : Nat => List.getD (PcB g pa e7) i []) [0, 1, 2, 3, 4, 5, 6, 7, 8, 9, 10])) (ws' := fun u152_8 => ((PcB g pa (pc_x e7 (u152_8))).flatten)) (bs' := fun u152_8 => (PcB g pa (pc_x e7 (u152_8)))) (d1 := fun u152_8 => ([(TxW g (pa 45) (pa 46) u152_8)])) hX hW (fun l => met_X3_drop l g (pa 45) (pa 46) e7.2.2.2.2 _ hf) rfl gX4_layAll_X3_drop yoX3_drop rfl ⟨Nat.le_of_ble_eq_true rfl, Nat.le_of_ble_eq_true rfl⟩ ⟨Nat.le_of_ble_eq_true rfl, Nat.le_of_ble_eq_true rfl, Nat.le_of_ble_eq_true rfl, Nat.le_of_ble_eq_true rfl⟩ 0 rfl rfl [0, 1, 2, 3, 4, 5, 6, 7, 8, 9, 10, 11] rfl rfl rfl (by decide) rfl (fun _ => rfl) (fun _ => rfl) (fun _ => rfl) (fun _ => rfl) (Nat.le_of_ble_eq_true rfl) rfl (fun _ => rfl) dX4_layAll_152 rfl (fun r152 u152_8 hf => ?_)
    refine j_pop (pc' := 156) hX dX4_layAll_155 rfl rfl ?_
    refine j_iload_n (pc' := 157) hX dX4_layAll_156 rfl 1 rfl rfl ?_
    refine J_widen (k' := 1) (n' := 6) (Nat.le_of_ble_eq_true rfl) (Nat.le_of_ble_eq_true rfl) ?_
    exact j_iret hX hR dX4_layAll_157 ⟨_, _, rfl, hf, rfl⟩
def wp_X4_undo (vp : Pc) (post : Int32 → Pc → Prop) (pX : String → Prop) : Prop :=
  (wp_X1_size vp.2.2.2.1 (fun r4 => ((r4 ≤ 0 → (wp_X4_needState 0 ((wp_X1_restore vp.2.2.2.1 vp.1 (fun u26_1 => (wp_X1_size ((pc_m (pc_h vp (u26_1.1)) (u26_1.2)).2.2.2.1) (fun r33 => post r33 (pc_m (pc_h vp (u26_1.1)) (u26_1.2))))))) pX)) ∧ (¬ r4 ≤ 0 → (wp_X4_needState 1 ((wp_X1_restore vp.2.2.2.1 vp.1 (fun u26_2 => (wp_X1_size ((pc_m (pc_h vp (u26_2.1)) (u26_2.2)).2.2.2.1) (fun r33 => post r33 (pc_m (pc_h vp (u26_2.1)) (u26_2.2))))))) pX)))))
theorem yoX4_undo : yOk yX4_undo 0 := by decide +kernel
set_option maxHeartbeats 4000000 in
set_option maxRecDepth 100000 in
theorem met_X4_undo (l : Launch) (g : JG) (pa : Nat → Nat) (vp : Pc) (post : Int32 → Pc → Prop) (pX : String → Prop) (hf : wp_X4_undo vp post pX) : MetX l yX4_undo wsX4_undo ({ frames := 7, cells := 1, slots := 6, locals := 124 } : Room) [.ref (pa 0)] g ((PcB g pa vp).flatten) mkI post (fun u : Pc => ((PcB g pa u).flatten)) pX := by
  have hin4 : ∀ w ∈ u_ws RX4 TX4 5, w ∈ wsX4_undo := by decide +kernel
  have hl_29 : Cond.fieldLink RX4 29 (TX4 3).1 (TX4 3).2.1 (TX4 3).2.2.1 ∈ wsX4_undo := by decide +kernel
  have hl_10 : Cond.fieldLink RX4 10 (TX4 0).1 (TX4 0).2.1 (TX4 0).2.2.1 ∈ wsX4_undo := by decide +kernel
  refine enterX (own := RX4) (cc := cX4_undo) (nL := 1) (ret := (some .int)) (lv := [(0, .ref (pa 0))]) (by decide) rfl rfl (Nat.le_of_ble_eq_true rfl) rfl (fun X hX hW hE hR hO => ?_)
  unfold wp_X4_undo at hf
  refine j_aload_n (pc' := 1) hX dX4_undo_0 rfl 0 rfl rfl ?_
  refine j_get (ci := 4) (pc' := 4) hX hin4 rfl 0 rfl 3 (by decide) hl_29 rfl dX4_undo_1 rfl ?_
  refine j_callVRb (ci := 1) (nb := 12) (pc' := 7) (As := []) (rest := []) (stk := fun r4 => [.int r4]) (bs := (PcB g pa vp)) (cs := (HiB g (fun i => pa (13 + i)) vp.2.2.2.1)) (rs := (List.map (fun i : Nat => List.getD (PcB g pa vp) i []) [0, 1, 2, 3, 11])) hX (fun l => met_X1_size l g (fun i => pa (13 + i)) vp.2.2.2.1 _ hf) rfl gX4_undo_X1_size yoX1_size rfl ⟨Nat.le_of_ble_eq_true rfl, Nat.le_of_ble_eq_true rfl⟩ ⟨⟨Nat.le_of_ble_eq_true rfl, Nat.le_of_ble_eq_true rfl⟩, rfl, rfl⟩ 0 rfl rfl [0, 1, 2, 3, 11, 4, 5, 6, 7, 8, 9, 10] rfl rfl rfl (by decide) rfl (Nat.le_of_ble_eq_true rfl) rfl (fun _ => rfl) dX4_undo_4 rfl (fun r4 hf => ?_)
  refine j_if_le (tgt := 14) (pc' := 10) hX dX4_undo_7 (by decide) rfl hf (fun hf => ?_) (fun hf => ?_)
  · refine j_iconst (pc' := 15) (v := 0) hX dX4_undo_14 (by decide) rfl ?_
    refine j_callSXb (nb := 12) (pc' := 18) (k' := 1) (n' := 6) (As := [.int 0]) (rest := []) (stk := fun _ => []) (bs := (PcB g pa vp)) (cs := ([] : List va_W)) (rs := (List.map (fun i : Nat => List.getD (PcB g pa vp) i []) [0, 1, 2, 3, 4, 5, 6, 7, 8, 9, 10, 11])) (ws' := fun _ => ((PcB g pa vp).flatten)) (bs' := fun _ => (PcB g pa vp)) (d1 := fun _ => ([] : List va_W)) hX hW hE (fun l => met_X4_needState l g 0 _ _ hf) rfl gX4_undo_X4_needState yoX4_needState rfl ⟨Nat.le_of_ble_eq_true rfl, Nat.le_of_ble_eq_true rfl⟩ ⟨Nat.le_of_ble_eq_true rfl, Nat.le_of_ble_eq_true rfl, Nat.le_of_ble_eq_true rfl, Nat.le_of_ble_eq_true rfl⟩ [0, 1, 2, 3, 4, 5, 6, 7, 8, 9, 10, 11] rfl rfl rfl (by decide) rfl (fun _ => rfl) (fun _ => rfl) (fun _ => rfl) (fun _ => rfl) (Nat.le_of_ble_eq_true rfl) rfl (fun _ => rfl) dX4_undo_15 rfl (fun _ h => j_out hO (Nat.le_of_ble_eq_true rfl) (Nat.le_of_ble_eq_true rfl) rfl h) (fun _ _ hf => ?_)
    refine j_aload_n (pc' := 19) hX dX4_undo_18 rfl 0 rfl rfl ?_
    refine j_get (ci := 4) (pc' := 22) hX hin4 rfl 0 rfl 3 (by decide) hl_29 rfl dX4_undo_19 rfl ?_
    refine j_aload_n (pc' := 23) hX dX4_undo_22 rfl 0 rfl rfl ?_
    refine j_get (ci := 4) (pc' := 26) hX hin4 rfl 0 rfl 0 (by decide) hl_10 rfl dX4_undo_23 rfl ?_
    refine j_callVMb (ci := 1) (nb := 12) (pc' := 29) (k' := 1) (n' := 6) (As := [.ref (pa 1)]) (rest := []) (stk := fun _ => []) (bs := (PcB g pa vp)) (cs := (HiB g (fun i => pa (13 + i)) vp.2.2.2.1 ++ [(MoW g (pa 1) (pa 2) (pa 3) (pa 4) (pa 5) (vp.1))])) (rs := (List.map (fun i : Nat => List.getD (PcB g pa vp) i []) [0, 2, 3, 11])) (ws' := fun u26_1 => ((PcB g pa (pc_m (pc_h vp (u26_1.1)) (u26_1.2))).flatten)) (bs' := fun u26_1 => (PcB g pa (pc_m (pc_h vp (u26_1.1)) (u26_1.2)))) (d1 := fun u26_1 => (HiB g (fun i => pa (13 + i)) u26_1.1 ++ [(MoW g (pa 1) (pa 2) (pa 3) (pa 4) (pa 5) (u26_1.2))])) hX hW (fun l => met_X1_restore l g (fun i => pa (13 + i)) (pa 1) (pa 2) (pa 3) (pa 4) (pa 5) vp.2.2.2.1 vp.1 _ hf) rfl gX4_undo_X1_restore yoX1_restore rfl ⟨Nat.le_of_ble_eq_true rfl, Nat.le_of_ble_eq_true rfl⟩ ⟨Nat.le_of_ble_eq_true rfl, Nat.le_of_ble_eq_true rfl, Nat.le_of_ble_eq_true rfl, Nat.le_of_ble_eq_true rfl⟩ 0 rfl rfl [0, 2, 3, 11, 4, 5, 6, 7, 8, 9, 10, 1] rfl rfl rfl (by decide) rfl (fun _ => rfl) (fun _ => rfl) (fun _ => rfl) (fun _ => rfl) (Nat.le_of_ble_eq_true rfl) rfl (fun _ => rfl) dX4_undo_26 rfl (fun _ u26_1 hf => ?_)
    refine j_aload_n (pc' := 30) hX dX4_undo_29 rfl 0 rfl rfl ?_
    refine j_get (ci := 4) (pc' := 33) hX hin4 rfl 0 rfl 3 (by decide) hl_29 rfl dX4_undo_30 rfl ?_
    refine j_callVRb (ci := 1) (nb := 12) (pc' := 36) (As := []) (rest := []) (stk := fun r33 => [.int r33]) (bs := (PcB g pa (pc_m (pc_h vp (u26_1.1)) (u26_1.2)))) (cs := (HiB g (fun i => pa (13 + i)) ((pc_m (pc_h vp (u26_1.1)) (u26_1.2)).2.2.2.1))) (rs := (List.map (fun i : Nat => List.getD (PcB g pa (pc_m (pc_h vp (u26_1.1)) (u26_1.2))) i []) [0, 1, 2, 3, 11])) hX (fun l => met_X1_size l g (fun i => pa (13 + i)) ((pc_m (pc_h vp (u26_1.1)) (u26_1.2)).2.2.2.1) _ hf) rfl gX4_undo_X1_size yoX1_size rfl ⟨Nat.le_of_ble_eq_true rfl, Nat.le_of_ble_eq_true rfl⟩ ⟨⟨Nat.le_of_ble_eq_true rfl, Nat.le_of_ble_eq_true rfl⟩, rfl, rfl⟩ 0 rfl rfl [0, 1, 2, 3, 11, 4, 5, 6, 7, 8, 9, 10] rfl rfl rfl (by decide) rfl (Nat.le_of_ble_eq_true rfl) rfl (fun _ => rfl) dX4_undo_33 rfl (fun r33 hf => ?_)
    refine J_widen (k' := 1) (n' := 6) (Nat.le_of_ble_eq_true rfl) (Nat.le_of_ble_eq_true rfl) ?_
    exact j_iret hX hR dX4_undo_36 ⟨_, _, rfl, hf, rfl⟩
  · refine j_iconst (pc' := 11) (v := 1) hX dX4_undo_10 (by decide) rfl ?_
    refine j_goto (tgt := 15) hX dX4_undo_11 (by decide) ?_
    refine j_callSXb (nb := 12) (pc' := 18) (k' := 1) (n' := 6) (As := [.int 1]) (rest := []) (stk := fun _ => []) (bs := (PcB g pa vp)) (cs := ([] : List va_W)) (rs := (List.map (fun i : Nat => List.getD (PcB g pa vp) i []) [0, 1, 2, 3, 4, 5, 6, 7, 8, 9, 10, 11])) (ws' := fun _ => ((PcB g pa vp).flatten)) (bs' := fun _ => (PcB g pa vp)) (d1 := fun _ => ([] : List va_W)) hX hW hE (fun l => met_X4_needState l g 1 _ _ hf) rfl gX4_undo_X4_needState yoX4_needState rfl ⟨Nat.le_of_ble_eq_true rfl, Nat.le_of_ble_eq_true rfl⟩ ⟨Nat.le_of_ble_eq_true rfl, Nat.le_of_ble_eq_true rfl, Nat.le_of_ble_eq_true rfl, Nat.le_of_ble_eq_true rfl⟩ [0, 1, 2, 3, 4, 5, 6, 7, 8, 9, 10, 11] rfl rfl rfl (by decide) rfl (fun _ => rfl) (fun _ => rfl) (fun _ => rfl) (fun _ => rfl) (Nat.le_of_ble_eq_true rfl) rfl (fun _ => rfl) dX4_undo_15 rfl (fun _ h => j_out hO (Nat.le_of_ble_eq_true rfl) (Nat.le_of_ble_eq_true rfl) rfl h) (fun _ _ hf => ?_)
    refine j_aload_n (pc' := 19) hX dX4_undo_18 rfl 0 rfl rfl ?_
    refine j_get (ci := 4) (pc' := 22) hX hin4 rfl 0 rfl 3 (by decide) hl_29 rfl dX4_undo_19 rfl ?_
    refine j_aload_n (pc' := 23) hX dX4_undo_22 rfl 0 rfl rfl ?_
    refine j_get (ci := 4) (pc' := 26) hX hin4 rfl 0 rfl 0 (by decide) hl_10 rfl dX4_undo_23 rfl ?_
    refine j_callVMb (ci := 1) (nb := 12) (pc' := 29) (k' := 1) (n' := 6) (As := [.ref (pa 1)]) (rest := []) (stk := fun _ => []) (bs := (PcB g pa vp)) (cs := (HiB g (fun i => pa (13 + i)) vp.2.2.2.1 ++ [(MoW g (pa 1) (pa 2) (pa 3) (pa 4) (pa 5) (vp.1))])) (rs := (List.map (fun i : Nat => List.getD (PcB g pa vp) i []) [0, 2, 3, 11])) (ws' := fun u26_2 => ((PcB g pa (pc_m (pc_h vp (u26_2.1)) (u26_2.2))).flatten)) (bs' := fun u26_2 => (PcB g pa (pc_m (pc_h vp (u26_2.1)) (u26_2.2)))) (d1 := fun u26_2 => (HiB g (fun i => pa (13 + i)) u26_2.1 ++ [(MoW g (pa 1) (pa 2) (pa 3) (pa 4) (pa 5) (u26_2.2))])) hX hW (fun l => met_X1_restore l g (fun i => pa (13 + i)) (pa 1) (pa 2) (pa 3) (pa 4) (pa 5) vp.2.2.2.1 vp.1 _ hf) rfl gX4_undo_X1_restore yoX1_restore rfl ⟨Nat.le_of_ble_eq_true rfl, Nat.le_of_ble_eq_true rfl⟩ ⟨Nat.le_of_ble_eq_true rfl, Nat.le_of_ble_eq_true rfl, Nat.le_of_ble_eq_true rfl, Nat.le_of_ble_eq_true rfl⟩ 0 rfl rfl [0, 2, 3, 11, 4, 5, 6, 7, 8, 9, 10, 1] rfl rfl rfl (by decide) rfl (fun _ => rfl) (fun _ => rfl) (fun _ => rfl) (fun _ => rfl) (Nat.le_of_ble_eq_true rfl) rfl (fun _ => rfl) dX4_undo_26 rfl (fun _ u26_2 hf => ?_)
    refine j_aload_n (pc' := 30) hX dX4_undo_29 rfl 0 rfl rfl ?_
    refine j_get (ci := 4) (pc' := 33) hX hin4 rfl 0 rfl 3 (by decide) hl_29 rfl dX4_undo_30 rfl ?_
    refine j_callVRb (ci := 1) (nb := 12) (pc' := 36) (As := []) (rest := []) (stk := fun r33 => [.int r33]) (bs := (PcB g pa (pc_m (pc_h vp (u26_2.1)) (u26_2.2)))) (cs := (HiB g (fun i => pa (13 + i)) ((pc_m (pc_h vp (u26_2.1)) (u26_2.2)).2.2.2.1))) (rs := (List.map (fun i : Nat => List.getD (PcB g pa (pc_m (pc_h vp (u26_2.1)) (u26_2.2))) i []) [0, 1, 2, 3, 11])) hX (fun l => met_X1_size l g (fun i => pa (13 + i)) ((pc_m (pc_h vp (u26_2.1)) (u26_2.2)).2.2.2.1) _ hf) rfl gX4_undo_X1_size yoX1_size rfl ⟨Nat.le_of_ble_eq_true rfl, Nat.le_of_ble_eq_true rfl⟩ ⟨⟨Nat.le_of_ble_eq_true rfl, Nat.le_of_ble_eq_true rfl⟩, rfl, rfl⟩ 0 rfl rfl [0, 1, 2, 3, 11, 4, 5, 6, 7, 8, 9, 10] rfl rfl rfl (by decide) rfl (Nat.le_of_ble_eq_true rfl) rfl (fun _ => rfl) dX4_undo_33 rfl (fun r33 hf => ?_)
    refine J_widen (k' := 1) (n' := 6) (Nat.le_of_ble_eq_true rfl) (Nat.le_of_ble_eq_true rfl) ?_
    exact j_iret hX hR dX4_undo_36 ⟨_, _, rfl, hf, rfl⟩
