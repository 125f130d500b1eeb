def wp_X5_in (p0 : Int32) (p1 : Int32) (p2 : Int32) (post : Int32 → Prop) : Prop :=
  ((p0 < p1 → post 0) ∧ (¬ p0 < p1 → ((p2 < p0 → post 0) ∧ (¬ p2 < p0 → post 1))))
theorem yoX5_in : yOk yX5_in 3 := by decide +kernel
set_option maxHeartbeats 4000000 in
set_option maxRecDepth 100000 in
theorem met_X5_in (l : Launch) (g : JG) (p0 : Int32) (p1 : Int32) (p2 : Int32) (post : Int32 → Prop) (hf : wp_X5_in p0 p1 p2 post) : MetR l yX5_in wsX5_in ({ frames := 0, cells := 0, slots := 0, locals := 0 } : Room) [.int p0, .int p1, .int p2] g ([] : va_W) mkI post := by
  refine enterR (own := RX5) (cc := cX5_in) (nL := 3) (ret := (some .boolean)) (lv := [(0, .int p0), (1, .int p1), (2, .int p2)]) (by decide) rfl rfl (Nat.le_of_ble_eq_true rfl) rfl (fun X hX hR => ?_)
  unfold wp_X5_in at hf
  refine j_iload_n (pc' := 1) hX dX5_in_0 rfl 0 rfl rfl ?_
  refine j_iload_n (pc' := 2) hX dX5_in_1 rfl 1 rfl rfl ?_
  refine j_icmp_lt (tgt := 14) (pc' := 5) hX dX5_in_2 (by decide) rfl hf (fun hf => ?_) (fun hf => ?_)
  · refine j_iconst (pc' := 15) (v := 0) hX dX5_in_14 (by decide) rfl ?_
    exact j_zret hX hR rfl dX5_in_15 ⟨_, rfl, hf⟩
  · refine j_iload_n (pc' := 6) hX dX5_in_5 rfl 0 rfl rfl ?_
    refine j_iload_n (pc' := 7) hX dX5_in_6 rfl 2 rfl rfl ?_
    refine j_icmp_gt (tgt := 14) (pc' := 10) hX dX5_in_7 (by decide) rfl hf (fun hf => ?_) (fun hf => ?_)
    · refine j_iconst (pc' := 15) (v := 0) hX dX5_in_14 (by decide) rfl ?_
      exact j_zret hX hR rfl dX5_in_15 ⟨_, rfl, hf⟩
    · refine j_iconst (pc' := 11) (v := 1) hX dX5_in_10 (by decide) rfl ?_
      refine j_goto (tgt := 15) hX dX5_in_11 (by decide) ?_
      exact j_zret hX hR rfl dX5_in_15 ⟨_, rfl, hf⟩
def wp_X5_isCourse (p0 : Int32) (post : Int32 → Prop) : Prop :=
  (wp_X5_in p0 0 5 (fun r3 => (narrow .boolean (.int r3) = .int r3 ∧ post r3)))
theorem yoX5_isCourse : yOk yX5_isCourse 1 := by decide +kernel
set_option maxHeartbeats 4000000 in
set_option maxRecDepth 100000 in
theorem met_X5_isCourse (l : Launch) (g : JG) (p0 : Int32) (post : Int32 → Prop) (hf : wp_X5_isCourse p0 post) : MetR l yX5_isCourse wsX5_isCourse ({ frames := 1, cells := 0, slots := 0, locals := 22 } : Room) [.int p0] g ([] : va_W) mkI post := by
  refine enterR (own := RX5) (cc := cX5_isCourse) (nL := 1) (ret := (some .boolean)) (lv := [(0, .int p0)]) (by decide) rfl rfl (Nat.le_of_ble_eq_true rfl) rfl (fun X hX hR => ?_)
  unfold wp_X5_isCourse at hf
  refine j_iload_n (pc' := 1) hX dX5_isCourse_0 rfl 0 rfl rfl ?_
  refine j_iconst (pc' := 2) (v := 0) hX dX5_isCourse_1 (by decide) rfl ?_
  refine j_iconst (pc' := 3) (v := 5) hX dX5_isCourse_2 (by decide) rfl ?_
  refine j_callSR (pc' := 6) (As := [.int p0, .int 0, .int 5]) (rest := []) (stk := fun r3 => [.int r3]) hX (fun l => met_X5_in l g p0 0 5 _ hf) rfl gX5_isCourse_X5_in yoX5_in rfl ⟨Nat.le_of_ble_eq_true rfl, Nat.le_of_ble_eq_true rfl⟩ ⟨⟨Nat.le_of_ble_eq_true rfl, Nat.le_of_ble_eq_true rfl⟩, rfl, rfl⟩ [] rfl (by decide) (Nat.le_of_ble_eq_true rfl) rfl (fun _ => rfl) dX5_isCourse_3 rfl (fun r3 hf => ?_)
  exact j_zret hX hR hf.1 dX5_isCourse_6 ⟨_, rfl, hf.2⟩
def wp_X5_isSize (p0 : Int32) (post : Int32 → Prop) : Prop :=
  (wp_X5_in p0 1 6 (fun r4 => (narrow .boolean (.int r4) = .int r4 ∧ post r4)))
theorem yoX5_isSize : yOk yX5_isSize 1 := by decide +kernel
set_option maxHeartbeats 4000000 in
set_option maxRecDepth 100000 in
theorem met_X5_isSize (l : Launch) (g : JG) (p0 : Int32) (post : Int32 → Prop) (hf : wp_X5_isSize p0 post) : MetR l yX5_isSize wsX5_isSize ({ frames := 1, cells := 0, slots := 0, locals := 22 } : Room) [.int p0] g ([] : va_W) mkI post := by
  refine enterR (own := RX5) (cc := cX5_isSize) (nL := 1) (ret := (some .boolean)) (lv := [(0, .int p0)]) (by decide) rfl rfl (Nat.le_of_ble_eq_true rfl) rfl (fun X hX hR => ?_)
  unfold wp_X5_isSize at hf
  refine j_iload_n (pc' := 1) hX dX5_isSize_0 rfl 0 rfl rfl ?_
  refine j_iconst (pc' := 2) (v := 1) hX dX5_isSize_1 (by decide) rfl ?_
  refine j_bipush (pc' := 4) (v := 6) hX dX5_isSize_2 (by decide) rfl ?_
  refine j_callSR (pc' := 7) (As := [.int p0, .int 1, .int 6]) (rest := []) (stk := fun r4 => [.int r4]) hX (fun l => met_X5_in l g p0 1 6 _ hf) rfl gX5_isSize_X5_in yoX5_in rfl ⟨Nat.le_of_ble_eq_true rfl, Nat.le_of_ble_eq_true rfl⟩ ⟨⟨Nat.le_of_ble_eq_true rfl, Nat.le_of_ble_eq_true rfl⟩, rfl, rfl⟩ [] rfl (by decide) (Nat.le_of_ble_eq_true rfl) rfl (fun _ => rfl) dX5_isSize_4 rfl (fun r4 hf => ?_)
  exact j_zret hX hR hf.1 dX5_isSize_7 ⟨_, rfl, hf.2⟩
def wp_X5_cells (vs : (Nat → Int32)) (p1 : Int32) (post : Int32 → Prop) : Prop :=
  post ((vs (0 : Int32).toNatClampNeg) - (4 * p1))
theorem yoX5_cells : yOk yX5_cells 2 := by decide +kernel
set_option maxHeartbeats 4000000 in
set_option maxRecDepth 100000 in
theorem met_X5_cells (l : Launch) (g : JG) (s0 : Nat) (vs : (Nat → Int32)) (p1 : Int32) (post : Int32 → Prop) (hf : wp_X5_cells vs p1 post) : MetR l yX5_cells wsX5_cells ({ frames := 0, cells := 0, slots := 0, locals := 0 } : Room) [.ref s0, .int p1] g (AIW g s0 376 vs) mkI post := by
  refine enterR (own := RX5) (cc := cX5_cells) (nL := 2) (ret := (some .int)) (lv := [(0, .ref s0), (1, .int p1)]) (by decide) rfl rfl (Nat.le_of_ble_eq_true rfl) rfl (fun X hX hR => ?_)
  unfold wp_X5_cells at hf
  refine j_aload_n (pc' := 1) hX dX5_cells_0 rfl 0 rfl rfl ?_
  refine j_iconst (pc' := 2) (v := 0) hX dX5_cells_1 (by decide) rfl ?_
  refine j_iald (pc' := 3) hX 0 rfl dX5_cells_2 ⟨by unfold vp_in; decide, hf⟩ rfl (fun hf => ?_)
  refine j_iconst (pc' := 4) (v := 4) hX dX5_cells_3 (by decide) rfl ?_
  refine j_iload_n (pc' := 5) hX dX5_cells_4 rfl 1 rfl rfl ?_
  refine j_imul (pc' := 6) hX dX5_cells_5 rfl ?_
  refine j_isub (pc' := 7) hX dX5_cells_6 rfl ?_
  exact j_iret hX hR dX5_cells_7 ⟨_, rfl, hf⟩
def wp_X5_pebbles (vs : (Nat → Int32)) (p1 : Int32) (post : Int32 → Prop) : Prop :=
  (vp_in (10 + (61 * p1)) 376 ∧ post (vs (10 + (61 * p1)).toNatClampNeg))
theorem yoX5_pebbles : yOk yX5_pebbles 2 := by decide +kernel
set_option maxHeartbeats 4000000 in
set_option maxRecDepth 100000 in
theorem met_X5_pebbles (l : Launch) (g : JG) (s0 : Nat) (vs : (Nat → Int32)) (p1 : Int32) (post : Int32 → Prop) (hf : wp_X5_pebbles vs p1 post) : MetR l yX5_pebbles wsX5_pebbles ({ frames := 0, cells := 0, slots := 0, locals := 0 } : Room) [.ref s0, .int p1] g (AIW g s0 376 vs) mkI post := by
  refine enterR (own := RX5) (cc := cX5_pebbles) (nL := 2) (ret := (some .int)) (lv := [(0, .ref s0), (1, .int p1)]) (by decide) rfl rfl (Nat.le_of_ble_eq_true rfl) rfl (fun X hX hR => ?_)
  unfold wp_X5_pebbles at hf
  refine j_aload_n (pc' := 1) hX dX5_pebbles_0 rfl 0 rfl rfl ?_
  refine j_bipush (pc' := 3) (v := 10) hX dX5_pebbles_1 (by decide) rfl ?_
  refine j_bipush (pc' := 5) (v := 61) hX dX5_pebbles_3 (by decide) rfl ?_
  refine j_iload_n (pc' := 6) hX dX5_pebbles_5 rfl 1 rfl rfl ?_
  refine j_imul (pc' := 7) hX dX5_pebbles_6 rfl ?_
  refine j_iadd (pc' := 8) hX dX5_pebbles_7 rfl ?_
  refine j_iald (pc' := 9) hX 0 rfl dX5_pebbles_8 hf rfl (fun hf => ?_)
  exact j_iret hX hR dX5_pebbles_9 ⟨_, rfl, hf⟩
def wp_X5_sizeOf (vs : (Nat → Int32)) (p1 : Int32) (p2 : Int32) (post : Int32 → Prop) : Prop :=
  (vp_in (((10 + (61 * p1)) + 1) + p2) 376 ∧ post ((vs (((10 + (61 * p1)) + 1) + p2).toNatClampNeg) - (vs (((10 + (61 * p1)) + 1) + p2).toNatClampNeg) / 10 * 10))
theorem yoX5_sizeOf : yOk yX5_sizeOf 3 := by decide +kernel
set_option maxHeartbeats 4000000 in
set_option maxRecDepth 100000 in
theorem met_X5_sizeOf (l : Launch) (g : JG) (s0 : Nat) (vs : (Nat → Int32)) (p1 : Int32) (p2 : Int32) (post : Int32 → Prop) (hf : wp_X5_sizeOf vs p1 p2 post) : MetR l yX5_sizeOf wsX5_sizeOf ({ frames := 0, cells := 0, slots := 0, locals := 0 } : Room) [.ref s0, .int p1, .int p2] g (AIW g s0 376 vs) mkI post := by
  refine enterR (own := RX5) (cc := cX5_sizeOf) (nL := 3) (ret := (some .int)) (lv := [(0, .ref s0), (1, .int p1), (2, .int p2)]) (by decide) rfl rfl (Nat.le_of_ble_eq_true rfl) rfl (fun X hX hR => ?_)
  unfold wp_X5_sizeOf at hf
  refine j_aload_n (pc' := 1) hX dX5_sizeOf_0 rfl 0 rfl rfl ?_
  refine j_bipush (pc' := 3) (v := 10) hX dX5_sizeOf_1 (by decide) rfl ?_
  refine j_bipush (pc' := 5) (v := 61) hX dX5_sizeOf_3 (by decide) rfl ?_
  refine j_iload_n (pc' := 6) hX dX5_sizeOf_5 rfl 1 rfl rfl ?_
  refine j_imul (pc' := 7) hX dX5_sizeOf_6 rfl ?_
  refine j_iadd (pc' := 8) hX dX5_sizeOf_7 rfl ?_
  refine j_iconst (pc' := 9) (v := 1) hX dX5_sizeOf_8 (by decide) rfl ?_
  refine j_iadd (pc' := 10) hX dX5_sizeOf_9 rfl ?_
  refine j_iload_n (pc' := 11) hX dX5_sizeOf_10 rfl 2 rfl rfl ?_
  refine j_iadd (pc' := 12) hX dX5_sizeOf_11 rfl ?_
  refine j_iald (pc' := 13) hX 0 rfl dX5_sizeOf_12 hf rfl (fun hf => ?_)
  refine j_bipush (pc' := 15) (v := 10) hX dX5_sizeOf_13 (by decide) rfl ?_
  refine j_irem (pc' := 16) hX dX5_sizeOf_15 ⟨by decide, hf⟩ rfl (fun hf => ?_)
  exact j_iret hX hR dX5_sizeOf_16 ⟨_, rfl, hf⟩
def wp_X5_taken_L4 (vs : (Nat → Int32)) (p1 : Int32) (K4_28 : Int32 → Prop) : Nat → Int32 → Int32 → Prop
  | 0, _, _ => False
  | N4 + 1, x2_4, x3_4 =>
  (wp_X5_pebbles vs p1 (fun r7 => ((r7 ≤ x3_4 → K4_28 x2_4) ∧ (¬ r7 ≤ x3_4 → (wp_X5_sizeOf vs p1 x3_4 (fun r17 => (wp_X5_taken_L4 vs p1 K4_28 N4) (x2_4 + r17) (x3_4 + 1)))))))
def wp_X5_taken (vs : (Nat → Int32)) (p1 : Int32) (post : Int32 → Prop) : Prop :=
  (∃ N : Nat, wp_X5_taken_L4 vs p1 (fun (e1 : Int32) => post e1) N 0 0)
theorem yoX5_taken : yOk yX5_taken 2 := by decide +kernel
set_option maxHeartbeats 4000000 in
set_option maxRecDepth 100000 in
theorem met_X5_taken (l : Launch) (g : JG) (s0 : Nat) (vs : (Nat → Int32)) (p1 : Int32) (post : Int32 → Prop) (hf : wp_X5_taken vs p1 post) : MetR l yX5_taken wsX5_taken ({ frames := 1, cells := 0, slots := 0, locals := 22 } : Room) [.ref s0, .int p1] g (AIW g s0 376 vs) mkI post := by
  refine enterR (own := RX5) (cc := cX5_taken) (nL := 4) (ret := (some .int)) (lv := [(0, .ref s0), (1, .int p1)]) (by decide) rfl rfl (Nat.le_of_ble_eq_true rfl) rfl (fun X hX hR => ?_)
  unfold wp_X5_taken at hf
  refine j_iconst (pc' := 1) (v := 0) hX dX5_taken_0 (by decide) rfl ?_
  refine j_istore_n (pc' := 2) (lv' := [(2, .int 0), (0, .ref s0), (1, .int p1)]) hX dX5_taken_1 rfl (by decide) rfl rfl ?_
  refine j_iconst (pc' := 3) (v := 0) hX dX5_taken_2 (by decide) rfl ?_
  refine j_istore_n (pc' := 4) (lv' := [(3, .int 0), (2, .int 0), (0, .ref s0), (1, .int p1)]) hX dX5_taken_3 rfl (by decide) rfl rfl ?_
  obtain ⟨N4, hf⟩ := hf
  have L4 : ∀ (K4_28 : Int32 → Prop), (∀ (x2_4 : Int32), K4_28 x2_4 → J g X 0 0 (AIW g s0 376 vs) [(2, .int x2_4)] [] 28) → ∀ (N4 : Nat) (x2_4 : Int32) (x3_4 : Int32), wp_X5_taken_L4 vs p1 K4_28 N4 x2_4 x3_4 → J g X 0 0 (AIW g s0 376 vs) [(0, .ref s0), (1, .int p1), (2, .int x2_4), (3, .int x3_4)] [] 4 := by
    intro K4_28 hK4_28 N4
    induction N4 with
    | zero => intro x2_4 x3_4 hf; exact False.elim hf
    | succ N4 ih4 =>
      intro x2_4 x3_4 hf
      refine j_iload_n (pc' := 5) hX dX5_taken_4 rfl 3 rfl rfl ?_
      refine j_aload_n (pc' := 6) hX dX5_taken_5 rfl 0 rfl rfl ?_
      refine j_iload_n (pc' := 7) hX dX5_taken_6 rfl 1 rfl rfl ?_
      refine j_callSR (pc' := 10) (As := [.ref s0, .int p1]) (rest := [.int x3_4]) (stk := fun r7 => [.int r7, .int x3_4]) hX (fun l => met_X5_pebbles l g s0 vs p1 _ hf) rfl gX5_taken_X5_pebbles yoX5_pebbles rfl ⟨Nat.le_of_ble_eq_true rfl, Nat.le_of_ble_eq_true rfl⟩ ⟨⟨Nat.le_of_ble_eq_true rfl, Nat.le_of_ble_eq_true rfl⟩, rfl, rfl⟩ [0] rfl (by decide) (Nat.le_of_ble_eq_true rfl) rfl (fun _ => rfl) dX5_taken_7 rfl (fun r7 hf => ?_)
      refine j_icmp_ge (tgt := 28) (pc' := 13) hX dX5_taken_10 (by decide) rfl hf (fun hf => ?_) (fun hf => ?_)
      · refine J_sub (lv' := [(2, .int x2_4)]) [2] rfl ?_
        exact hK4_28 x2_4 hf
      · refine j_iload_n (pc' := 14) hX dX5_taken_13 rfl 2 rfl rfl ?_
        refine j_aload_n (pc' := 15) hX dX5_taken_14 rfl 0 rfl rfl ?_
        refine j_iload_n (pc' := 16) hX dX5_taken_15 rfl 1 rfl rfl ?_
        refine j_iload_n (pc' := 17) hX dX5_taken_16 rfl 3 rfl rfl ?_
        refine j_callSR (pc' := 20) (As := [.ref s0, .int p1, .int x3_4]) (rest := [.int x2_4]) (stk := fun r17 => [.int r17, .int x2_4]) hX (fun l => met_X5_sizeOf l g s0 vs p1 x3_4 _ hf) rfl gX5_taken_X5_sizeOf yoX5_sizeOf rfl ⟨Nat.le_of_ble_eq_true rfl, Nat.le_of_ble_eq_true rfl⟩ ⟨⟨Nat.le_of_ble_eq_true rfl, Nat.le_of_ble_eq_true rfl⟩, rfl, rfl⟩ [0] rfl (by decide) (Nat.le_of_ble_eq_true rfl) rfl (fun _ => rfl) dX5_taken_17 rfl (fun r17 hf => ?_)
        refine j_iadd (pc' := 21) hX dX5_taken_20 rfl ?_
        refine j_istore_n (pc' := 22) (lv' := [(2, .int (x2_4 + r17)), (0, .ref s0), (1, .int p1), (3, .int x3_4)]) hX dX5_taken_21 rfl (by decide) rfl rfl ?_
        refine j_iinc (pc' := 25) (cst := 1) (v := (x3_4 + 1)) (lv' := [(3, .int (x3_4 + 1)), (2, .int (x2_4 + r17)), (0, .ref s0), (1, .int p1)]) hX dX5_taken_22 (by decide) rfl 3 rfl (by decide) rfl rfl ?_
        refine j_goto (tgt := 4) hX dX5_taken_25 (by decide) ?_
        refine J_sub (lv' := [(0, .ref s0), (1, .int p1), (2, .int (x2_4 + r17)), (3, .int (x3_4 + 1))]) [2, 3, 1, 0] rfl ?_
        exact ih4 (x2_4 + r17) (x3_4 + 1) hf
  refine J_sub (lv' := [(0, .ref s0), (1, .int p1), (2, .int 0), (3, .int 0)]) [2, 3, 1, 0] rfl ?_
  refine L4 _ (fun e1 hf => ?_) N4 0 0 hf
  refine j_iload_n (pc' := 29) hX dX5_taken_28 rfl 0 rfl rfl ?_
  exact j_iret hX hR dX5_taken_29 ⟨_, rfl, hf⟩
def wp_X5_isClosed (vs : (Nat → Int32)) (p1 : Int32) (post : Int32 → Prop) : Prop :=
  (wp_X5_taken vs p1 (fun r2 => (wp_X5_cells vs p1 (fun r7 => ((r2 = r7 → post 1) ∧ (¬ r2 = r7 → post 0))))))
theorem yoX5_isClosed : yOk yX5_isClosed 2 := by decide +kernel
set_option maxHeartbeats 4000000 in
set_option maxRecDepth 100000 in
theorem met_X5_isClosed (l : Launch) (g : JG) (s0 : Nat) (vs : (Nat → Int32)) (p1 : Int32) (post : Int32 → Prop) (hf : wp_X5_isClosed vs p1 post) : MetR l yX5_isClosed wsX5_isClosed ({ frames := 2, cells := 0, slots := 0, locals := 45 } : Room) [.ref s0, .int p1] g (AIW g s0 376 vs) mkI post := by
  refine enterR (own := RX5) (cc := cX5_isClosed) (nL := 2) (ret := (some .boolean)) (lv := [(0, .ref s0), (1, .int p1)]) (by decide) rfl rfl (Nat.le_of_ble_eq_true rfl) rfl (fun X hX hR => ?_)
  unfold wp_X5_isClosed at hf
  refine j_aload_n (pc' := 1) hX dX5_isClosed_0 rfl 0 rfl rfl ?_
  refine j_iload_n (pc' := 2) hX dX5_isClosed_1 rfl 1 rfl rfl ?_
  refine j_callSR (pc' := 5) (As := [.ref s0, .int p1]) (rest := []) (stk := fun r2 => [.int r2]) hX (fun l => met_X5_taken l g s0 vs p1 _ hf) rfl gX5_isClosed_X5_taken yoX5_taken rfl ⟨Nat.le_of_ble_eq_true rfl, Nat.le_of_ble_eq_true rfl⟩ ⟨⟨Nat.le_of_ble_eq_true rfl, Nat.le_of_ble_eq_true rfl⟩, rfl, rfl⟩ [0] rfl (by decide) (Nat.le_of_ble_eq_true rfl) rfl (fun _ => rfl) dX5_isClosed_2 rfl (fun r2 hf => ?_)
  refine j_aload_n (pc' := 6) hX dX5_isClosed_5 rfl 0 rfl rfl ?_
  refine j_iload_n (pc' := 7) hX dX5_isClosed_6 rfl 1 rfl rfl ?_
  refine j_callSR (pc' := 10) (As := [.ref s0, .int p1]) (rest := [.int r2]) (stk := fun r7 => [.int r7, .int r2]) hX (fun l => met_X5_cells l g s0 vs p1 _ hf) rfl gX5_isClosed_X5_cells yoX5_cells rfl ⟨Nat.le_of_ble_eq_true rfl, Nat.le_of_ble_eq_true rfl⟩ ⟨⟨Nat.le_of_ble_eq_true rfl, Nat.le_of_ble_eq_true rfl⟩, rfl, rfl⟩ [0] rfl (by decide) (Nat.le_of_ble_eq_true rfl) rfl (fun _ => rfl) dX5_isClosed_7 rfl (fun r7 hf => ?_)
  refine j_icmp_ne (tgt := 17) (pc' := 13) hX dX5_isClosed_10 (by decide) rfl hf (fun hf => ?_) (fun hf => ?_)
  · refine j_iconst (pc' := 18) (v := 0) hX dX5_isClosed_17 (by decide) rfl ?_
    exact j_zret hX hR rfl dX5_isClosed_18 ⟨_, rfl, hf⟩
  · refine j_iconst (pc' := 14) (v := 1) hX dX5_isClosed_13 (by decide) rfl ?_
    refine j_goto (tgt := 18) hX dX5_isClosed_14 (by decide) ?_
    exact j_zret hX hR rfl dX5_isClosed_18 ⟨_, rfl, hf⟩
def wp_X5_isJoint_L5 (vs : (Nat → Int32)) (p1 : Int32) (p2 : Int32) (K5_20 : Prop) (K5_38 : Int32 → Prop) : Nat → Int32 → Int32 → Prop
  | 0, _, _ => False
  | N5 + 1, x3_5, x4_5 =>
  (wp_X5_pebbles vs p1 (fun r9 => ((r9 ≤ x4_5 → K5_38 x3_5) ∧ (¬ r9 ≤ x4_5 → ((x3_5 = p2 → K5_20) ∧ (¬ x3_5 = p2 → (wp_X5_sizeOf vs p1 x4_5 (fun r27 => (wp_X5_isJoint_L5 vs p1 p2 K5_20 K5_38 N5) (x3_5 + r27) (x4_5 + 1)))))))))
def wp_X5_isJoint (vs : (Nat → Int32)) (p1 : Int32) (p2 : Int32) (post : Int32 → Prop) : Prop :=
  (∃ N : Nat, wp_X5_isJoint_L5 vs p1 p2 (post 1) (fun (e1 : Int32) => ((e1 ≤ 0 → post 0) ∧ (¬ e1 ≤ 0 → ((e1 = p2 → (wp_X5_cells vs p1 (fun r50 => ((r50 ≤ e1 → post 0) ∧ (¬ r50 ≤ e1 → post 1))))) ∧ (¬ e1 = p2 → post 0))))) N 0 0)
theorem yoX5_isJoint : yOk yX5_isJoint 3 := by decide +kernel
set_option maxHeartbeats 4000000 in
set_option maxRecDepth 100000 in
theorem met_X5_isJoint (l : Launch) (g : JG) (s0 : Nat) (vs : (Nat → Int32)) (p1 : Int32) (p2 : Int32) (post : Int32 → Prop) (hf : wp_X5_isJoint vs p1 p2 post) : MetR l yX5_isJoint wsX5_isJoint ({ frames := 1, cells := 0, slots := 0, locals := 22 } : Room) [.ref s0, .int p1, .int p2] g (AIW g s0 376 vs) mkI post := by
  refine enterR (own := RX5) (cc := cX5_isJoint) (nL := 5) (ret := (some .boolean)) (lv := [(0, .ref s0), (1, .int p1), (2, .int p2)]) (by decide) rfl rfl (Nat.le_of_ble_eq_true rfl) rfl (fun X hX hR => ?_)
  unfold wp_X5_isJoint at hf
  refine j_iconst (pc' := 1) (v := 0) hX dX5_isJoint_0 (by decide) rfl ?_
  refine j_istore_n (pc' := 2) (lv' := [(3, .int 0), (0, .ref s0), (1, .int p1), (2, .int p2)]) hX dX5_isJoint_1 rfl (by decide) rfl rfl ?_
  refine j_iconst (pc' := 3) (v := 0) hX dX5_isJoint_2 (by decide) rfl ?_
  refine j_istore (pc' := 5) (lv' := [(4, .int 0), (3, .int 0), (0, .ref s0), (1, .int p1), (2, .int p2)]) hX dX5_isJoint_3 (by decide) rfl rfl ?_
  obtain ⟨N5, hf⟩ := hf
  have L5 : ∀ (K5_20 : Prop) (K5_38 : Int32 → Prop), (K5_20 → J g X 0 0 (AIW g s0 376 vs) [] [] 20) → (∀ (x3_5 : Int32), K5_38 x3_5 → J g X 0 0 (AIW g s0 376 vs) [(0, .ref s0), (1, .int p1), (2, .int p2), (3, .int x3_5)] [] 38) → ∀ (N5 : Nat) (x3_5 : Int32) (x4_5 : Int32), wp_X5_isJoint_L5 vs p1 p2 K5_20 K5_38 N5 x3_5 x4_5 → J g X 0 0 (AIW g s0 376 vs) [(0, .ref s0), (1, .int p1), (2, .int p2), (3, .int x3_5), (4, .int x4_5)] [] 5 := by
    intro K5_20 K5_38 hK5_20 hK5_38 N5
    induction N5 with
    | zero => intro x3_5 x4_5 hf; exact False.elim hf
    | succ N5 ih5 =>
      intro x3_5 x4_5 hf
      refine j_iload (pc' := 7) hX dX5_isJoint_5 4 rfl rfl ?_
      refine j_aload_n (pc' := 8) hX dX5_isJoint_7 rfl 0 rfl rfl ?_
      refine j_iload_n (pc' := 9) hX dX5_isJoint_8 rfl 1 rfl rfl ?_
      refine j_callSR (pc' := 12) (As := [.ref s0, .int p1]) (rest := [.int x4_5]) (stk := fun r9 => [.int r9, .int x4_5]) hX (fun l => met_X5_pebbles l g s0 vs p1 _ hf) rfl gX5_isJoint_X5_pebbles yoX5_pebbles rfl ⟨Nat.le_of_ble_eq_true rfl, Nat.le_of_ble_eq_true rfl⟩ ⟨⟨Nat.le_of_ble_eq_true rfl, Nat.le_of_ble_eq_true rfl⟩, rfl, rfl⟩ [0] rfl (by decide) (Nat.le_of_ble_eq_true rfl) rfl (fun _ => rfl) dX5_isJoint_9 rfl (fun r9 hf => ?_)
      refine j_icmp_ge (tgt := 38) (pc' := 15) hX dX5_isJoint_12 (by decide) rfl hf (fun hf => ?_) (fun hf => ?_)
      · refine J_sub (lv' := [(0, .ref s0), (1, .int p1), (2, .int p2), (3, .int x3_5)]) [0, 1, 2, 3] rfl ?_
        exact hK5_38 x3_5 hf
      · refine j_iload_n (pc' := 16) hX dX5_isJoint_15 rfl 3 rfl rfl ?_
        refine j_iload_n (pc' := 17) hX dX5_isJoint_16 rfl 2 rfl rfl ?_
        refine j_icmp_ne (tgt := 22) (pc' := 20) hX dX5_isJoint_17 (by decide) rfl hf (fun hf => ?_) (fun hf => ?_)
        · refine j_iload_n (pc' := 23) hX dX5_isJoint_22 rfl 3 rfl rfl ?_
          refine j_aload_n (pc' := 24) hX dX5_isJoint_23 rfl 0 rfl rfl ?_
          refine j_iload_n (pc' := 25) hX dX5_isJoint_24 rfl 1 rfl rfl ?_
          refine j_iload (pc' := 27) hX dX5_isJoint_25 4 rfl rfl ?_
          refine j_callSR (pc' := 30) (As := [.ref s0, .int p1, .int x4_5]) (rest := [.int x3_5]) (stk := fun r27 => [.int r27, .int x3_5]) hX (fun l => met_X5_sizeOf l g s0 vs p1 x4_5 _ hf) rfl gX5_isJoint_X5_sizeOf yoX5_sizeOf rfl ⟨Nat.le_of_ble_eq_true rfl, Nat.le_of_ble_eq_true rfl⟩ ⟨⟨Nat.le_of_ble_eq_true rfl, Nat.le_of_ble_eq_true rfl⟩, rfl, rfl⟩ [0] rfl (by decide) (Nat.le_of_ble_eq_true rfl) rfl (fun _ => rfl) dX5_isJoint_27 rfl (fun r27 hf => ?_)
          refine j_iadd (pc' := 31) hX dX5_isJoint_30 rfl ?_
          refine j_istore_n (pc' := 32) (lv' := [(3, .int (x3_5 + r27)), (0, .ref s0), (1, .int p1), (2, .int p2), (4, .int x4_5)]) hX dX5_isJoint_31 rfl (by decide) rfl rfl ?_
          refine j_iinc (pc' := 35) (cst := 1) (v := (x4_5 + 1)) (lv' := [(4, .int (x4_5 + 1)), (3, .int (x3_5 + r27)), (0, .ref s0), (1, .int p1), (2, .int p2)]) hX dX5_isJoint_32 (by decide) rfl 4 rfl (by decide) rfl rfl ?_
          refine j_goto (tgt := 5) hX dX5_isJoint_35 (by decide) ?_
          refine J_sub (lv' := [(0, .ref s0), (1, .int p1), (2, .int p2), (3, .int (x3_5 + r27)), (4, .int (x4_5 + 1))]) [2, 3, 4, 1, 0] rfl ?_
          exact ih5 (x3_5 + r27) (x4_5 + 1) hf
        · refine J_sub (lv' := []) [] rfl ?_
          exact hK5_20 hf
  refine J_sub (lv' := [(0, .ref s0), (1, .int p1), (2, .int p2), (3, .int 0), (4, .int 0)]) [2, 3, 4, 1, 0] rfl ?_
  refine L5 _ _ (fun hf => ?_) (fun e1 hf => ?_) N5 0 0 hf
  · refine j_iconst (pc' := 21) (v := 1) hX dX5_isJoint_20 (by decide) rfl ?_
    exact j_zret hX hR rfl dX5_isJoint_21 ⟨_, rfl, hf⟩
  · refine j_iload_n (pc' := 39) hX dX5_isJoint_38 rfl 3 rfl rfl ?_
    refine j_if_le (tgt := 60) (pc' := 42) hX dX5_isJoint_39 (by decide) rfl hf (fun hf => ?_) (fun hf => ?_)
    · refine j_iconst (pc' := 61) (v := 0) hX dX5_isJoint_60 (by decide) rfl ?_
      exact j_zret hX hR rfl dX5_isJoint_61 ⟨_, rfl, hf⟩
    · refine j_iload_n (pc' := 43) hX dX5_isJoint_42 rfl 3 rfl rfl ?_
      refine j_iload_n (pc' := 44) hX dX5_isJoint_43 rfl 2 rfl rfl ?_
      refine j_icmp_ne (tgt := 60) (pc' := 47) hX dX5_isJoint_44 (by decide) rfl hf (fun hf => ?_) (fun hf => ?_)
      · refine j_iconst (pc' := 61) (v := 0) hX dX5_isJoint_60 (by decide) rfl ?_
        exact j_zret hX hR rfl dX5_isJoint_61 ⟨_, rfl, hf⟩
      · refine j_iload_n (pc' := 48) hX dX5_isJoint_47 rfl 3 rfl rfl ?_
        refine j_aload_n (pc' := 49) hX dX5_isJoint_48 rfl 0 rfl rfl ?_
        refine j_iload_n (pc' := 50) hX dX5_isJoint_49 rfl 1 rfl rfl ?_
        refine j_callSR (pc' := 53) (As := [.ref s0, .int p1]) (rest := [.int e1]) (stk := fun r50 => [.int r50, .int e1]) hX (fun l => met_X5_cells l g s0 vs p1 _ hf) rfl gX5_isJoint_X5_cells yoX5_cells rfl ⟨Nat.le_of_ble_eq_true rfl, Nat.le_of_ble_eq_true rfl⟩ ⟨⟨Nat.le_of_ble_eq_true rfl, Nat.le_of_ble_eq_true rfl⟩, rfl, rfl⟩ [0] rfl (by decide) (Nat.le_of_ble_eq_true rfl) rfl (fun _ => rfl) dX5_isJoint_50 rfl (fun r50 hf => ?_)
        refine j_icmp_ge (tgt := 60) (pc' := 56) hX dX5_isJoint_53 (by decide) rfl hf (fun hf => ?_) (fun hf => ?_)
        · refine j_iconst (pc' := 61) (v := 0) hX dX5_isJoint_60 (by decide) rfl ?_
          exact j_zret hX hR rfl dX5_isJoint_61 ⟨_, rfl, hf⟩
        · refine j_iconst (pc' := 57) (v := 1) hX dX5_isJoint_56 (by decide) rfl ?_
          refine j_goto (tgt := 61) hX dX5_isJoint_57 (by decide) ?_
          exact j_zret hX hR rfl dX5_isJoint_61 ⟨_, rfl, hf⟩
def wp_X5_meets (vs : (Nat → Int32)) (p1 : Int32) (p2 : Int32) (post : Int32 → Prop) : Prop :=
  (wp_X5_cells vs (p1 - 1) (fun r5 => (wp_X5_cells vs p1 (fun r11 => (¬ r11 = 0 ∧ post ((p2 * r5) / r11))))))
theorem yoX5_meets : yOk yX5_meets 3 := by decide +kernel
set_option maxHeartbeats 4000000 in
set_option maxRecDepth 100000 in
theorem met_X5_meets (l : Launch) (g : JG) (s0 : Nat) (vs : (Nat → Int32)) (p1 : Int32) (p2 : Int32) (post : Int32 → Prop) (hf : wp_X5_meets vs p1 p2 post) : MetR l yX5_meets wsX5_meets ({ frames := 1, cells := 0, slots := 0, locals := 21 } : Room) [.ref s0, .int p1, .int p2] g (AIW g s0 376 vs) mkI post := by
  refine enterR (own := RX5) (cc := cX5_meets) (nL := 3) (ret := (some .int)) (lv := [(0, .ref s0), (1, .int p1), (2, .int p2)]) (by decide) rfl rfl (Nat.le_of_ble_eq_true rfl) rfl (fun X hX hR => ?_)
  unfold wp_X5_meets at hf
  refine j_iload_n (pc' := 1) hX dX5_meets_0 rfl 2 rfl rfl ?_
  refine j_aload_n (pc' := 2) hX dX5_meets_1 rfl 0 rfl rfl ?_
  refine j_iload_n (pc' := 3) hX dX5_meets_2 rfl 1 rfl rfl ?_
  refine j_iconst (pc' := 4) (v := 1) hX dX5_meets_3 (by decide) rfl ?_
  refine j_isub (pc' := 5) hX dX5_meets_4 rfl ?_
  refine j_callSR (pc' := 8) (As := [.ref s0, .int (p1 - 1)]) (rest := [.int p2]) (stk := fun r5 => [.int r5, .int p2]) hX (fun l => met_X5_cells l g s0 vs (p1 - 1) _ hf) rfl gX5_meets_X5_cells yoX5_cells rfl ⟨Nat.le_of_ble_eq_true rfl, Nat.le_of_ble_eq_true rfl⟩ ⟨⟨Nat.le_of_ble_eq_true rfl, Nat.le_of_ble_eq_true rfl⟩, rfl, rfl⟩ [0] rfl (by decide) (Nat.le_of_ble_eq_true rfl) rfl (fun _ => rfl) dX5_meets_5 rfl (fun r5 hf => ?_)
  refine j_imul (pc' := 9) hX dX5_meets_8 rfl ?_
  refine j_aload_n (pc' := 10) hX dX5_meets_9 rfl 0 rfl rfl ?_
  refine j_iload_n (pc' := 11) hX dX5_meets_10 rfl 1 rfl rfl ?_
  refine j_callSR (pc' := 14) (As := [.ref s0, .int p1]) (rest := [.int (p2 * r5)]) (stk := fun r11 => [.int r11, .int (p2 * r5)]) hX (fun l => met_X5_cells l g s0 vs p1 _ hf) rfl gX5_meets_X5_cells yoX5_cells rfl ⟨Nat.le_of_ble_eq_true rfl, Nat.le_of_ble_eq_true rfl⟩ ⟨⟨Nat.le_of_ble_eq_true rfl, Nat.le_of_ble_eq_true rfl⟩, rfl, rfl⟩ [0] rfl (by decide) (Nat.le_of_ble_eq_true rfl) rfl (fun _ => rfl) dX5_meets_11 rfl (fun r11 hf => ?_)
  refine j_idiv (pc' := 15) hX dX5_meets_14 hf rfl (fun hf => ?_)
  exact j_iret hX hR dX5_meets_15 ⟨_, rfl, hf⟩
def wp_X5_runs (vs : (Nat → Int32)) (p1 : Int32) (p2 : Int32) (post : Int32 → Prop) : Prop :=
  ((p1 < 2 → post 0) ∧ (¬ p1 < 2 → ((p2 = 0 → post 0) ∧ (¬ p2 = 0 → (wp_X5_meets vs p1 p2 (fun r14 => (wp_X5_isJoint vs (p1 - 1) r14 (fun r23 => ((r23 = 0 → post 0) ∧ (¬ r23 = 0 → (wp_X5_meets vs (p1 - 1) r14 (fun r38 => (wp_X5_isJoint vs (p1 - 2) r38 (fun r41 => ((r41 = 0 → post 0) ∧ (¬ r41 = 0 → post 1))))))))))))))))
theorem yoX5_runs : yOk yX5_runs 3 := by decide +kernel
set_option maxHeartbeats 4000000 in
set_option maxRecDepth 100000 in
theorem met_X5_runs (l : Launch) (g : JG) (s0 : Nat) (vs : (Nat → Int32)) (p1 : Int32) (p2 : Int32) (post : Int32 → Prop) (hf : wp_X5_runs vs p1 p2 post) : MetR l yX5_runs wsX5_runs ({ frames := 2, cells := 0, slots := 0, locals := 46 } : Room) [.ref s0, .int p1, .int p2] g (AIW g s0 376 vs) mkI post := by
  refine enterR (own := RX5) (cc := cX5_runs) (nL := 4) (ret := (some .boolean)) (lv := [(0, .ref s0), (1, .int p1), (2, .int p2)]) (by decide) rfl rfl (Nat.le_of_ble_eq_true rfl) rfl (fun X hX hR => ?_)
  unfold wp_X5_runs at hf
  refine j_iload_n (pc' := 1) hX dX5_runs_0 rfl 1 rfl rfl ?_
  refine j_iconst (pc' := 2) (v := 2) hX dX5_runs_1 (by decide) rfl ?_
  refine j_icmp_lt (tgt := 9) (pc' := 5) hX dX5_runs_2 (by decide) rfl hf (fun hf => ?_) (fun hf => ?_)
  · refine j_iconst (pc' := 10) (v := 0) hX dX5_runs_9 (by decide) rfl ?_
    exact j_zret hX hR rfl dX5_runs_10 ⟨_, rfl, hf⟩
  · refine j_iload_n (pc' := 6) hX dX5_runs_5 rfl 2 rfl rfl ?_
    refine j_if_ne (tgt := 11) (pc' := 9) hX dX5_runs_6 (by decide) rfl hf (fun hf => ?_) (fun hf => ?_)
    · refine j_aload_n (pc' := 12) hX dX5_runs_11 rfl 0 rfl rfl ?_
      refine j_iload_n (pc' := 13) hX dX5_runs_12 rfl 1 rfl rfl ?_
      refine j_iload_n (pc' := 14) hX dX5_runs_13 rfl 2 rfl rfl ?_
      refine j_callSR (pc' := 17) (As := [.ref s0, .int p1, .int p2]) (rest := []) (stk := fun r14 => [.int r14]) hX (fun l => met_X5_meets l g s0 vs p1 p2 _ hf) rfl gX5_runs_X5_meets yoX5_meets rfl ⟨Nat.le_of_ble_eq_true rfl, Nat.le_of_ble_eq_true rfl⟩ ⟨⟨Nat.le_of_ble_eq_true rfl, Nat.le_of_ble_eq_true rfl⟩, rfl, rfl⟩ [0] rfl (by decide) (Nat.le_of_ble_eq_true rfl) rfl (fun _ => rfl) dX5_runs_14 rfl (fun r14 hf => ?_)
      refine j_istore_n (pc' := 18) (lv' := [(3, .int r14), (0, .ref s0), (1, .int p1), (2, .int p2)]) hX dX5_runs_17 rfl (by decide) rfl rfl ?_
      refine j_aload_n (pc' := 19) hX dX5_runs_18 rfl 1 rfl rfl ?_
      refine j_iload_n (pc' := 20) hX dX5_runs_19 rfl 2 rfl rfl ?_
      refine j_iconst (pc' := 21) (v := 1) hX dX5_runs_20 (by decide) rfl ?_
      refine j_isub (pc' := 22) hX dX5_runs_21 rfl ?_
      refine j_iload_n (pc' := 23) hX dX5_runs_22 rfl 0 rfl rfl ?_
      refine j_callSR (pc' := 26) (As := [.ref s0, .int (p1 - 1), .int r14]) (rest := []) (stk := fun r23 => [.int r23]) hX (fun l => met_X5_isJoint l g s0 vs (p1 - 1) r14 _ hf) rfl gX5_runs_X5_isJoint yoX5_isJoint rfl ⟨Nat.le_of_ble_eq_true rfl, Nat.le_of_ble_eq_true rfl⟩ ⟨⟨Nat.le_of_ble_eq_true rfl, Nat.le_of_ble_eq_true rfl⟩, rfl, rfl⟩ [0] rfl (by decide) (Nat.le_of_ble_eq_true rfl) rfl (fun _ => rfl) dX5_runs_23 rfl (fun r23 hf => ?_)
      refine j_if_eq (tgt := 51) (pc' := 29) hX dX5_runs_26 (by decide) rfl hf (fun hf => ?_) (fun hf => ?_)
      · refine j_iconst (pc' := 52) (v := 0) hX dX5_runs_51 (by decide) rfl ?_
        exact j_zret hX hR rfl dX5_runs_52 ⟨_, rfl, hf⟩
      · refine j_aload_n (pc' := 30) hX dX5_runs_29 rfl 1 rfl rfl ?_
        refine j_iload_n (pc' := 31) hX dX5_runs_30 rfl 2 rfl rfl ?_
        refine j_iconst (pc' := 32) (v := 2) hX dX5_runs_31 (by decide) rfl ?_
        refine j_isub (pc' := 33) hX dX5_runs_32 rfl ?_
        refine j_aload_n (pc' := 34) hX dX5_runs_33 rfl 1 rfl rfl ?_
        refine j_iload_n (pc' := 35) hX dX5_runs_34 rfl 2 rfl rfl ?_
        refine j_iconst (pc' := 36) (v := 1) hX dX5_runs_35 (by decide) rfl ?_
        refine j_isub (pc' := 37) hX dX5_runs_36 rfl ?_
        refine j_iload_n (pc' := 38) hX dX5_runs_37 rfl 0 rfl rfl ?_
        refine j_callSR (pc' := 41) (As := [.ref s0, .int (p1 - 1), .int r14]) (rest := [.int (p1 - 2), .ref s0]) (stk := fun r38 => [.int r38, .int (p1 - 2), .ref s0]) hX (fun l => met_X5_meets l g s0 vs (p1 - 1) r14 _ hf) rfl gX5_runs_X5_meets yoX5_meets rfl ⟨Nat.le_of_ble_eq_true rfl, Nat.le_of_ble_eq_true rfl⟩ ⟨⟨Nat.le_of_ble_eq_true rfl, Nat.le_of_ble_eq_true rfl⟩, rfl, rfl⟩ [0] rfl (by decide) (Nat.le_of_ble_eq_true rfl) rfl (fun _ => rfl) dX5_runs_38 rfl (fun r38 hf => ?_)
        refine j_callSR (pc' := 44) (As := [.ref s0, .int (p1 - 2), .int r38]) (rest := []) (stk := fun r41 => [.int r41]) hX (fun l => met_X5_isJoint l g s0 vs (p1 - 2) r38 _ hf) rfl gX5_runs_X5_isJoint yoX5_isJoint rfl ⟨Nat.le_of_ble_eq_true rfl, Nat.le_of_ble_eq_true rfl⟩ ⟨⟨Nat.le_of_ble_eq_true rfl, Nat.le_of_ble_eq_true rfl⟩, rfl, rfl⟩ [0] rfl (by decide) (Nat.le_of_ble_eq_true rfl) rfl (fun _ => rfl) dX5_runs_41 rfl (fun r41 hf => ?_)
        refine j_if_eq (tgt := 51) (pc' := 47) hX dX5_runs_44 (by decide) rfl hf (fun hf => ?_) (fun hf => ?_)
        · refine j_iconst (pc' := 52) (v := 0) hX dX5_runs_51 (by decide) rfl ?_
          exact j_zret hX hR rfl dX5_runs_52 ⟨_, rfl, hf⟩
        · refine j_iconst (pc' := 48) (v := 1) hX dX5_runs_47 (by decide) rfl ?_
          refine j_goto (tgt := 52) hX dX5_runs_48 (by decide) ?_
          exact j_zret hX hR rfl dX5_runs_52 ⟨_, rfl, hf⟩
    · refine j_iconst (pc' := 10) (v := 0) hX dX5_runs_9 (by decide) rfl ?_
      exact j_zret hX hR rfl dX5_runs_10 ⟨_, rfl, hf⟩
def wp_X5_greater_L4 (vs : (Nat → Int32)) (K4_24 : Int32 → Prop) : Nat → Int32 → Prop
  | 0, _ => False
  | N4 + 1, x2_4 =>
  ((6 < x2_4 → K4_24 x2_4) ∧ (¬ 6 < x2_4 → (vp_in (3 + x2_4) 376 ∧ (((vs (3 + x2_4).toNatClampNeg) = 0 → (wp_X5_greater_L4 vs K4_24 N4) (x2_4 + 1)) ∧ (¬ (vs (3 + x2_4).toNatClampNeg) = 0 → K4_24 x2_4)))))
def wp_X5_greater (vs : (Nat → Int32)) (p1 : Int32) (post : Int32 → Prop) : Prop :=
  (∃ N : Nat, wp_X5_greater_L4 vs (fun (e1 : Int32) => ((e1 ≤ 6 → post e1) ∧ (¬ e1 ≤ 6 → post 0))) N (p1 + 1))
theorem yoX5_greater : yOk yX5_greater 2 := by decide +kernel
set_option maxHeartbeats 4000000 in
set_option maxRecDepth 100000 in
theorem met_X5_greater (l : Launch) (g : JG) (s0 : Nat) (vs : (Nat → Int32)) (p1 : Int32) (post : Int32 → Prop) (hf : wp_X5_greater vs p1 post) : MetR l yX5_greater wsX5_greater ({ frames := 0, cells := 0, slots := 0, locals := 0 } : Room) [.ref s0, .int p1] g (AIW g s0 376 vs) mkI post := by
  refine enterR (own := RX5) (cc := cX5_greater) (nL := 3) (ret := (some .int)) (lv := [(0, .ref s0), (1, .int p1)]) (by decide) rfl rfl (Nat.le_of_ble_eq_true rfl) rfl (fun X hX hR => ?_)
  unfold wp_X5_greater at hf
  refine j_iload_n (pc' := 1) hX dX5_greater_0 rfl 1 rfl rfl ?_
  refine j_iconst (pc' := 2) (v := 1) hX dX5_greater_1 (by decide) rfl ?_
  refine j_iadd (pc' := 3) hX dX5_greater_2 rfl ?_
  refine j_istore_n (pc' := 4) (lv' := [(2, .int (p1 + 1)), (0, .ref s0), (1, .int p1)]) hX dX5_greater_3 rfl (by decide) rfl rfl ?_
  obtain ⟨N4, hf⟩ := hf
  have L4 : ∀ (K4_24 : Int32 → Prop), (∀ (x2_4 : Int32), K4_24 x2_4 → J g X 0 0 (AIW g s0 376 vs) [(2, .int x2_4)] [] 24) → ∀ (N4 : Nat) (x2_4 : Int32), wp_X5_greater_L4 vs K4_24 N4 x2_4 → J g X 0 0 (AIW g s0 376 vs) [(0, .ref s0), (2, .int x2_4)] [] 4 := by
    intro K4_24 hK4_24 N4
    induction N4 with
    | zero => intro x2_4 hf; exact False.elim hf
    | succ N4 ih4 =>
      intro x2_4 hf
      refine j_iload_n (pc' := 5) hX dX5_greater_4 rfl 1 rfl rfl ?_
      refine j_bipush (pc' := 7) (v := 6) hX dX5_greater_5 (by decide) rfl ?_
      refine j_icmp_gt (tgt := 24) (pc' := 10) hX dX5_greater_7 (by decide) rfl hf (fun hf => ?_) (fun hf => ?_)
      · refine J_sub (lv' := [(2, .int x2_4)]) [1] rfl ?_
        exact hK4_24 x2_4 hf
      · refine j_aload_n (pc' := 11) hX dX5_greater_10 rfl 0 rfl rfl ?_
        refine j_iconst (pc' := 12) (v := 3) hX dX5_greater_11 (by decide) rfl ?_
        refine j_iload_n (pc' := 13) hX dX5_greater_12 rfl 1 rfl rfl ?_
        refine j_iadd (pc' := 14) hX dX5_greater_13 rfl ?_
        refine j_iald (pc' := 15) hX 0 rfl dX5_greater_14 hf rfl (fun hf => ?_)
        refine j_if_ne (tgt := 24) (pc' := 18) hX dX5_greater_15 (by decide) rfl hf (fun hf => ?_) (fun hf => ?_)
        · refine J_sub (lv' := [(2, .int x2_4)]) [1] rfl ?_
          exact hK4_24 x2_4 hf
        · refine j_iinc (pc' := 21) (cst := 1) (v := (x2_4 + 1)) (lv' := [(2, .int (x2_4 + 1)), (0, .ref s0)]) hX dX5_greater_18 (by decide) rfl 1 rfl (by decide) rfl rfl ?_
          refine j_goto (tgt := 4) hX dX5_greater_21 (by decide) ?_
          refine J_sub (lv' := [(0, .ref s0), (2, .int (x2_4 + 1))]) [1, 0] rfl ?_
          exact ih4 (x2_4 + 1) hf
  refine J_sub (lv' := [(0, .ref s0), (2, .int (p1 + 1))]) [1, 0] rfl ?_
  refine L4 _ (fun e1 hf => ?_) N4 (p1 + 1) hf
  refine j_iload_n (pc' := 25) hX dX5_greater_24 rfl 0 rfl rfl ?_
  refine j_bipush (pc' := 27) (v := 6) hX dX5_greater_25 (by decide) rfl ?_
  refine j_icmp_le (tgt := 34) (pc' := 30) hX dX5_greater_27 (by decide) rfl hf (fun hf => ?_) (fun hf => ?_)
  · refine j_iload_n (pc' := 35) hX dX5_greater_34 rfl 0 rfl rfl ?_
    exact j_iret hX hR dX5_greater_35 ⟨_, rfl, hf⟩
  · refine j_iconst (pc' := 31) (v := 0) hX dX5_greater_30 (by decide) rfl ?_
    refine j_goto (tgt := 35) hX dX5_greater_31 (by decide) ?_
    exact j_iret hX hR dX5_greater_35 ⟨_, rfl, hf⟩
def wp_X5_refused_c56 (vs : (Nat → Int32)) (p1 : Int32) (post : Int32 → Prop) (y4_56 : Int32) : Prop :=
  (wp_X5_cells vs p1 (fun r60 => ((r60 ≤ y4_56 → post 0) ∧ (¬ r60 ≤ y4_56 → (wp_X5_runs vs p1 y4_56 (fun r70 => ((r70 = 0 → post 0) ∧ (¬ r70 = 0 → post 4))))))))
def wp_X5_refused (vs : (Nat → Int32)) (p1 : Int32) (p2 : Int32) (p3 : Int32) (post : Int32 → Prop) : Prop :=
  (wp_X5_taken vs p1 (fun r2 => (wp_X5_isClosed vs p1 (fun r11 => ((r11 = 0 → (wp_X5_cells vs p1 (fun r23 => (((r2 + p2) ≤ r23 → ((p3 = 0 → (vp_in (3 + p2) 376 ∧ (((vs (3 + p2).toNatClampNeg) = 0 → post 3) ∧ (¬ (vs (3 + p2).toNatClampNeg) = 0 → wp_X5_refused_c56 vs p1 post (r2 + p2))))) ∧ (¬ p3 = 0 → (wp_X5_greater vs p2 (fun r37 => ((r37 = 0 → post 3) ∧ (¬ r37 = 0 → wp_X5_refused_c56 vs p1 post (r2 + p2)))))))) ∧ (¬ (r2 + p2) ≤ r23 → post 2))))) ∧ (¬ r11 = 0 → post 1))))))
theorem yoX5_refused : yOk yX5_refused 4 := by decide +kernel
set_option maxHeartbeats 4000000 in
set_option maxRecDepth 100000 in
theorem met_X5_refused (l : Launch) (g : JG) (s0 : Nat) (vs : (Nat → Int32)) (p1 : Int32) (p2 : Int32) (p3 : Int32) (post : Int32 → Prop) (hf : wp_X5_refused vs p1 p2 p3 post) : MetR l yX5_refused wsX5_refused ({ frames := 3, cells := 0, slots := 0, locals := 69 } : Room) [.ref s0, .int p1, .int p2, .int p3] g (AIW g s0 376 vs) mkI post := by
  refine enterR (own := RX5) (cc := cX5_refused) (nL := 5) (ret := (some .int)) (lv := [(0, .ref s0), (1, .int p1), (2, .int p2), (3, .int p3)]) (by decide) rfl rfl (Nat.le_of_ble_eq_true rfl) rfl (fun X hX hR => ?_)
  unfold wp_X5_refused at hf
  have J56 : ∀ (y4_56 : Int32), wp_X5_refused_c56 vs p1 post y4_56 → J g X 0 0 (AIW g s0 376 vs) [(0, .ref s0), (1, .int p1), (4, .int y4_56)] [] 56 := by
    intro y4_56 hf
    refine j_iload (pc' := 58) hX dX5_refused_56 2 rfl rfl ?_
    refine j_aload_n (pc' := 59) hX dX5_refused_58 rfl 0 rfl rfl ?_
    refine j_iload_n (pc' := 60) hX dX5_refused_59 rfl 1 rfl rfl ?_
    refine j_callSR (pc' := 63) (As := [.ref s0, .int p1]) (rest := [.int y4_56]) (stk := fun r60 => [.int r60, .int y4_56]) hX (fun l => met_X5_cells l g s0 vs p1 _ hf) rfl gX5_refused_X5_cells yoX5_cells rfl ⟨Nat.le_of_ble_eq_true rfl, Nat.le_of_ble_eq_true rfl⟩ ⟨⟨Nat.le_of_ble_eq_true rfl, Nat.le_of_ble_eq_true rfl⟩, rfl, rfl⟩ [0] rfl (by decide) (Nat.le_of_ble_eq_true rfl) rfl (fun _ => rfl) dX5_refused_60 rfl (fun r60 hf => ?_)
    refine j_icmp_ge (tgt := 80) (pc' := 66) hX dX5_refused_63 (by decide) rfl hf (fun hf => ?_) (fun hf => ?_)
    · refine j_iconst (pc' := 81) (v := 0) hX dX5_refused_80 (by decide) rfl ?_
      exact j_iret hX hR dX5_refused_81 ⟨_, rfl, hf⟩
    · refine j_aload_n (pc' := 67) hX dX5_refused_66 rfl 0 rfl rfl ?_
      refine j_iload_n (pc' := 68) hX dX5_refused_67 rfl 1 rfl rfl ?_
      refine j_iload (pc' := 70) hX dX5_refused_68 2 rfl rfl ?_
      refine j_callSR (pc' := 73) (As := [.ref s0, .int p1, .int y4_56]) (rest := []) (stk := fun r70 => [.int r70]) hX (fun l => met_X5_runs l g s0 vs p1 y4_56 _ hf) rfl gX5_refused_X5_runs yoX5_runs rfl ⟨Nat.le_of_ble_eq_true rfl, Nat.le_of_ble_eq_true rfl⟩ ⟨⟨Nat.le_of_ble_eq_true rfl, Nat.le_of_ble_eq_true rfl⟩, rfl, rfl⟩ [0] rfl (by decide) (Nat.le_of_ble_eq_true rfl) rfl (fun _ => rfl) dX5_refused_70 rfl (fun r70 hf => ?_)
      refine j_if_eq (tgt := 80) (pc' := 76) hX dX5_refused_73 (by decide) rfl hf (fun hf => ?_) (fun hf => ?_)
      · refine j_iconst (pc' := 81) (v := 0) hX dX5_refused_80 (by decide) rfl ?_
        exact j_iret hX hR dX5_refused_81 ⟨_, rfl, hf⟩
      · refine j_iconst (pc' := 77) (v := 4) hX dX5_refused_76 (by decide) rfl ?_
        refine j_goto (tgt := 81) hX dX5_refused_77 (by decide) ?_
        exact j_iret hX hR dX5_refused_81 ⟨_, rfl, hf⟩
  refine j_aload_n (pc' := 1) hX dX5_refused_0 rfl 0 rfl rfl ?_
  refine j_iload_n (pc' := 2) hX dX5_refused_1 rfl 1 rfl rfl ?_
  refine j_callSR (pc' := 5) (As := [.ref s0, .int p1]) (rest := []) (stk := fun r2 => [.int r2]) hX (fun l => met_X5_taken l g s0 vs p1 _ hf) rfl gX5_refused_X5_taken yoX5_taken rfl ⟨Nat.le_of_ble_eq_true rfl, Nat.le_of_ble_eq_true rfl⟩ ⟨⟨Nat.le_of_ble_eq_true rfl, Nat.le_of_ble_eq_true rfl⟩, rfl, rfl⟩ [0] rfl (by decide) (Nat.le_of_ble_eq_true rfl) rfl (fun _ => rfl) dX5_refused_2 rfl (fun r2 hf => ?_)
  refine j_iload_n (pc' := 6) hX dX5_refused_5 rfl 2 rfl rfl ?_
  refine j_iadd (pc' := 7) hX dX5_refused_6 rfl ?_
  refine j_istore (pc' := 9) (lv' := [(4, .int (r2 + p2)), (0, .ref s0), (1, .int p1), (2, .int p2), (3, .int p3)]) hX dX5_refused_7 (by decide) rfl rfl ?_
  refine j_aload_n (pc' := 10) hX dX5_refused_9 rfl 1 rfl rfl ?_
  refine j_iload_n (pc' := 11) hX dX5_refused_10 rfl 2 rfl rfl ?_
  refine j_callSR (pc' := 14) (As := [.ref s0, .int p1]) (rest := []) (stk := fun r11 => [.int r11]) hX (fun l => met_X5_isClosed l g s0 vs p1 _ hf) rfl gX5_refused_X5_isClosed yoX5_isClosed rfl ⟨Nat.le_of_ble_eq_true rfl, Nat.le_of_ble_eq_true rfl⟩ ⟨⟨Nat.le_of_ble_eq_true rfl, Nat.le_of_ble_eq_true rfl⟩, rfl, rfl⟩ [0] rfl (by decide) (Nat.le_of_ble_eq_true rfl) rfl (fun _ => rfl) dX5_refused_11 rfl (fun r11 hf => ?_)
  refine j_if_eq (tgt := 19) (pc' := 17) hX dX5_refused_14 (by decide) rfl hf (fun hf => ?_) (fun hf => ?_)
  · refine j_iload (pc' := 21) hX dX5_refused_19 0 rfl rfl ?_
    refine j_aload_n (pc' := 22) hX dX5_refused_21 rfl 1 rfl rfl ?_
    refine j_iload_n (pc' := 23) hX dX5_refused_22 rfl 2 rfl rfl ?_
    refine j_callSR (pc' := 26) (As := [.ref s0, .int p1]) (rest := [.int (r2 + p2)]) (stk := fun r23 => [.int r23, .int (r2 + p2)]) hX (fun l => met_X5_cells l g s0 vs p1 _ hf) rfl gX5_refused_X5_cells yoX5_cells rfl ⟨Nat.le_of_ble_eq_true rfl, Nat.le_of_ble_eq_true rfl⟩ ⟨⟨Nat.le_of_ble_eq_true rfl, Nat.le_of_ble_eq_true rfl⟩, rfl, rfl⟩ [0] rfl (by decide) (Nat.le_of_ble_eq_true rfl) rfl (fun _ => rfl) dX5_refused_23 rfl (fun r23 hf => ?_)
    refine j_icmp_le (tgt := 31) (pc' := 29) hX dX5_refused_26 (by decide) rfl hf (fun hf => ?_) (fun hf => ?_)
    · refine j_iload_n (pc' := 32) hX dX5_refused_31 rfl 4 rfl rfl ?_
      refine j_if_eq (tgt := 46) (pc' := 35) hX dX5_refused_32 (by decide) rfl hf (fun hf => ?_) (fun hf => ?_)
      · refine j_aload_n (pc' := 47) hX dX5_refused_46 rfl 1 rfl rfl ?_
        refine j_iconst (pc' := 48) (v := 3) hX dX5_refused_47 (by decide) rfl ?_
        refine j_iload_n (pc' := 49) hX dX5_refused_48 rfl 3 rfl rfl ?_
        refine j_iadd (pc' := 50) hX dX5_refused_49 rfl ?_
        refine j_iald (pc' := 51) hX 0 rfl dX5_refused_50 hf rfl (fun hf => ?_)
        refine j_if_ne (tgt := 56) (pc' := 54) hX dX5_refused_51 (by decide) rfl hf (fun hf => ?_) (fun hf => ?_)
        · refine J_sub (lv' := [(0, .ref s0), (1, .int p1), (4, .int (r2 + p2))]) [1, 2, 0] rfl ?_
          exact J56 (r2 + p2) hf
        · refine j_iconst (pc' := 55) (v := 3) hX dX5_refused_54 (by decide) rfl ?_
          exact j_iret hX hR dX5_refused_55 ⟨_, rfl, hf⟩
      · refine j_aload_n (pc' := 36) hX dX5_refused_35 rfl 1 rfl rfl ?_
        refine j_iload_n (pc' := 37) hX dX5_refused_36 rfl 3 rfl rfl ?_
        refine j_callSR (pc' := 40) (As := [.ref s0, .int p2]) (rest := []) (stk := fun r37 => [.int r37]) hX (fun l => met_X5_greater l g s0 vs p2 _ hf) rfl gX5_refused_X5_greater yoX5_greater rfl ⟨Nat.le_of_ble_eq_true rfl, Nat.le_of_ble_eq_true rfl⟩ ⟨⟨Nat.le_of_ble_eq_true rfl, Nat.le_of_ble_eq_true rfl⟩, rfl, rfl⟩ [0] rfl (by decide) (Nat.le_of_ble_eq_true rfl) rfl (fun _ => rfl) dX5_refused_37 rfl (fun r37 hf => ?_)
        refine j_if_ne (tgt := 56) (pc' := 43) hX dX5_refused_40 (by decide) rfl hf (fun hf => ?_) (fun hf => ?_)
        · refine J_sub (lv' := [(0, .ref s0), (1, .int p1), (4, .int (r2 + p2))]) [1, 2, 0] rfl ?_
          exact J56 (r2 + p2) hf
        · refine j_goto (tgt := 54) hX dX5_refused_43 (by decide) ?_
          refine j_iconst (pc' := 55) (v := 3) hX dX5_refused_54 (by decide) rfl ?_
          exact j_iret hX hR dX5_refused_55 ⟨_, rfl, hf⟩
    · refine j_iconst (pc' := 30) (v := 2) hX dX5_refused_29 (by decide) rfl ?_
      exact j_iret hX hR dX5_refused_30 ⟨_, rfl, hf⟩
  · refine j_iconst (pc' := 18) (v := 1) hX dX5_refused_17 (by decide) rfl ?_
    exact j_iret hX hR dX5_refused_18 ⟨_, rfl, hf⟩
def wp_X5_lays_c13 (vs : (Nat → Int32)) (p1 : Int32) (p2 : Int32) (p3 : Int32) (post : Int32 → ((Nat → Int32)) → Prop) (z0_13 : Int32) : Prop :=
  (vp_in (3 + z0_13) 376 ∧ (vp_in (3 + z0_13) 376 ∧ (∀ vs_1 : (Nat → Int32), vs_1 = upd vs (3 + z0_13).toNatClampNeg ((vs (3 + z0_13).toNatClampNeg) - 1) → (∀ vs_2 : (Nat → Int32), vs_2 = upd vs_1 (3 : Int32).toNatClampNeg ((vs_1 (3 : Int32).toNatClampNeg) + (z0_13 - p2)) → (wp_X5_pebbles vs_2 p1 (fun r47 => ((p3 = 0 → (vp_in (((10 + (61 * p1)) + 1) + r47) 376 ∧ (∀ vs_3 : (Nat → Int32), vs_3 = upd vs_2 (((10 + (61 * p1)) + 1) + r47).toNatClampNeg (p2 + 0) → (vp_in (10 + (61 * p1)) 376 ∧ (vp_in (10 + (61 * p1)) 376 ∧ (∀ vs_4 : (Nat → Int32), vs_4 = upd vs_3 (10 + (61 * p1)).toNatClampNeg ((vs_3 (10 + (61 * p1)).toNatClampNeg) + 1) → post (z0_13 - p2) vs_4)))))) ∧ (¬ p3 = 0 → (vp_in (((10 + (61 * p1)) + 1) + r47) 376 ∧ (∀ vs_5 : (Nat → Int32), vs_5 = upd vs_2 (((10 + (61 * p1)) + 1) + r47).toNatClampNeg (p2 + 10) → (vp_in (10 + (61 * p1)) 376 ∧ (vp_in (10 + (61 * p1)) 376 ∧ (∀ vs_6 : (Nat → Int32), vs_6 = upd vs_5 (10 + (61 * p1)).toNatClampNeg ((vs_5 (10 + (61 * p1)).toNatClampNeg) + 1) → post (z0_13 - p2) vs_6)))))))))))))
def wp_X5_lays (vs : (Nat → Int32)) (p1 : Int32) (p2 : Int32) (p3 : Int32) (post : Int32 → ((Nat → Int32)) → Prop) : Prop :=
  ((p3 = 0 → wp_X5_lays_c13 vs p1 p2 p3 post p2) ∧ (¬ p3 = 0 → (wp_X5_greater vs p2 (fun r6 => wp_X5_lays_c13 vs p1 p2 p3 post r6))))
theorem yoX5_lays : yOk yX5_lays 4 := by decide +kernel
set_option maxHeartbeats 4000000 in
set_option maxRecDepth 100000 in
theorem met_X5_lays (l : Launch) (g : JG) (s0 : Nat) (vs : (Nat → Int32)) (p1 : Int32) (p2 : Int32) (p3 : Int32) (post : Int32 → ((Nat → Int32)) → Prop) (hf : wp_X5_lays vs p1 p2 p3 post) : MetM l yX5_lays wsX5_lays ({ frames := 1, cells := 0, slots := 0, locals := 22 } : Room) [.ref s0, .int p1, .int p2, .int p3] g (AIW g s0 376 vs) mkI post (fun u : (Nat → Int32) => (AIW g s0 376 u)) := by
  refine enterM (own := RX5) (cc := cX5_lays) (nL := 5) (ret := (some .int)) (lv := [(0, .ref s0), (1, .int p1), (2, .int p2), (3, .int p3)]) (by decide) rfl rfl (Nat.le_of_ble_eq_true rfl) rfl (fun X hX hW hR => ?_)
  unfold wp_X5_lays at hf
  have J13 : ∀ (z0_13 : Int32), wp_X5_lays_c13 vs p1 p2 p3 post z0_13 → J g X 0 0 (AIW g s0 376 vs) [(0, .ref s0), (1, .int p1), (2, .int p2), (3, .int p3)] [.int z0_13] 13 := by
    intro z0_13 hf
    refine j_istore (pc' := 15) (lv' := [(4, .int z0_13), (0, .ref s0), (1, .int p1), (2, .int p2), (3, .int p3)]) hX dX5_lays_13 (by decide) rfl rfl ?_
    refine j_aload_n (pc' := 16) hX dX5_lays_15 rfl 1 rfl rfl ?_
    refine j_iconst (pc' := 17) (v := 3) hX dX5_lays_16 (by decide) rfl ?_
    refine j_iload (pc' := 19) hX dX5_lays_17 0 rfl rfl ?_
    refine j_iadd (pc' := 20) hX dX5_lays_19 rfl ?_
    refine j_dup2 (pc' := 21) hX dX5_lays_20 rfl rfl rfl ?_
    refine j_iald (pc' := 22) hX 0 rfl dX5_lays_21 hf rfl (fun hf => ?_)
    refine j_iconst (pc' := 23) (v := 1) hX dX5_lays_22 (by decide) rfl ?_
    refine j_isub (pc' := 24) hX dX5_lays_23 rfl ?_
    obtain ⟨vs_1, evs_1⟩ : ∃ z : (Nat → Int32), z = upd vs (3 + z0_13).toNatClampNeg ((vs (3 + z0_13).toNatClampNeg) - 1) := ⟨_, rfl⟩
    refine j_iast (pc' := 25) (ws' := (AIW g s0 376 vs_1)) hX hW 0 rfl dX5_lays_24 hf (by subst evs_1; rfl) rfl (fun hf => ?_)
    replace hf := hf vs_1 evs_1
    refine j_aload_n (pc' := 26) hX dX5_lays_25 rfl 1 rfl rfl ?_
    refine j_iconst (pc' := 27) (v := 3) hX dX5_lays_26 (by decide) rfl ?_
    refine j_dup2 (pc' := 28) hX dX5_lays_27 rfl rfl rfl ?_
    refine j_iald (pc' := 29) hX 0 rfl dX5_lays_28 ⟨by unfold vp_in; decide, hf⟩ rfl (fun hf => ?_)
    refine j_iload (pc' := 31) hX dX5_lays_29 0 rfl rfl ?_
    refine j_iload_n (pc' := 32) hX dX5_lays_31 rfl 3 rfl rfl ?_
    refine j_isub (pc' := 33) hX dX5_lays_32 rfl ?_
    refine j_iadd (pc' := 34) hX dX5_lays_33 rfl ?_
    obtain ⟨vs_2, evs_2⟩ : ∃ z : (Nat → Int32), z = upd vs_1 (3 : Int32).toNatClampNeg ((vs_1 (3 : Int32).toNatClampNeg) + (z0_13 - p2)) := ⟨_, rfl⟩
    refine j_iast (pc' := 35) (ws' := (AIW g s0 376 vs_2)) hX hW 0 rfl dX5_lays_34 ⟨by unfold vp_in; decide, hf⟩ (by subst evs_2; rfl) rfl (fun hf => ?_)
    replace hf := hf vs_2 evs_2
    refine j_aload_n (pc' := 36) hX dX5_lays_35 rfl 1 rfl rfl ?_
    refine j_bipush (pc' := 38) (v := 10) hX dX5_lays_36 (by decide) rfl ?_
    refine j_bipush (pc' := 40) (v := 61) hX dX5_lays_38 (by decide) rfl ?_
    refine j_iload_n (pc' := 41) hX dX5_lays_40 rfl 2 rfl rfl ?_
    refine j_imul (pc' := 42) hX dX5_lays_41 rfl ?_
    refine j_iadd (pc' := 43) hX dX5_lays_42 rfl ?_
    refine j_iconst (pc' := 44) (v := 1) hX dX5_lays_43 (by decide) rfl ?_
    refine j_iadd (pc' := 45) hX dX5_lays_44 rfl ?_
    refine j_aload_n (pc' := 46) hX dX5_lays_45 rfl 1 rfl rfl ?_
    refine j_iload_n (pc' := 47) hX dX5_lays_46 rfl 2 rfl rfl ?_
    refine j_callSR (pc' := 50) (As := [.ref s0, .int p1]) (rest := [.int ((10 + (61 * p1)) + 1), .ref s0]) (stk := fun r47 => [.int r47, .int ((10 + (61 * p1)) + 1), .ref s0]) hX (fun l => met_X5_pebbles l g s0 vs_2 p1 _ hf) rfl gX5_lays_X5_pebbles yoX5_pebbles rfl ⟨Nat.le_of_ble_eq_true rfl, Nat.le_of_ble_eq_true rfl⟩ ⟨⟨Nat.le_of_ble_eq_true rfl, Nat.le_of_ble_eq_true rfl⟩, rfl, rfl⟩ [0] rfl (by decide) (Nat.le_of_ble_eq_true rfl) rfl (fun _ => rfl) dX5_lays_47 rfl (fun r47 hf => ?_)
    refine j_iadd (pc' := 51) hX dX5_lays_50 rfl ?_
    refine j_iload_n (pc' := 52) hX dX5_lays_51 rfl 3 rfl rfl ?_
    refine j_iload_n (pc' := 53) hX dX5_lays_52 rfl 4 rfl rfl ?_
    refine j_if_eq (tgt := 61) (pc' := 56) hX dX5_lays_53 (by decide) rfl hf (fun hf => ?_) (fun hf => ?_)
    · refine j_iconst (pc' := 62) (v := 0) hX dX5_lays_61 (by decide) rfl ?_
      refine j_iadd (pc' := 63) hX dX5_lays_62 rfl ?_
      obtain ⟨vs_3, evs_3⟩ : ∃ z : (Nat → Int32), z = upd vs_2 (((10 + (61 * p1)) + 1) + r47).toNatClampNeg (p2 + 0) := ⟨_, rfl⟩
      refine j_iast (pc' := 64) (ws' := (AIW g s0 376 vs_3)) hX hW 0 rfl dX5_lays_63 hf (by subst evs_3; rfl) rfl (fun hf => ?_)
      replace hf := hf vs_3 evs_3
      refine j_aload_n (pc' := 65) hX dX5_lays_64 rfl 1 rfl rfl ?_
      refine j_bipush (pc' := 67) (v := 10) hX dX5_lays_65 (by decide) rfl ?_
      refine j_bipush (pc' := 69) (v := 61) hX dX5_lays_67 (by decide) rfl ?_
      refine j_iload_n (pc' := 70) hX dX5_lays_69 rfl 2 rfl rfl ?_
      refine j_imul (pc' := 71) hX dX5_lays_70 rfl ?_
      refine j_iadd (pc' := 72) hX dX5_lays_71 rfl ?_
      refine j_dup2 (pc' := 73) hX dX5_lays_72 rfl rfl rfl ?_
      refine j_iald (pc' := 74) hX 0 rfl dX5_lays_73 hf rfl (fun hf => ?_)
      refine j_iconst (pc' := 75) (v := 1) hX dX5_lays_74 (by decide) rfl ?_
      refine j_iadd (pc' := 76) hX dX5_lays_75 rfl ?_
      obtain ⟨vs_4, evs_4⟩ : ∃ z : (Nat → Int32), z = upd vs_3 (10 + (61 * p1)).toNatClampNeg ((vs_3 (10 + (61 * p1)).toNatClampNeg) + 1) := ⟨_, rfl⟩
      refine j_iast (pc' := 77) (ws' := (AIW g s0 376 vs_4)) hX hW 0 rfl dX5_lays_76 hf (by subst evs_4; rfl) rfl (fun hf => ?_)
      replace hf := hf vs_4 evs_4
      refine j_iload (pc' := 79) hX dX5_lays_77 0 rfl rfl ?_
      refine j_iload_n (pc' := 80) hX dX5_lays_79 rfl 3 rfl rfl ?_
      refine j_isub (pc' := 81) hX dX5_lays_80 rfl ?_
      exact j_iret hX hR dX5_lays_81 ⟨_, _, rfl, hf, rfl⟩
    · refine j_bipush (pc' := 58) (v := 10) hX dX5_lays_56 (by decide) rfl ?_
      refine j_goto (tgt := 62) hX dX5_lays_58 (by decide) ?_
      refine j_iadd (pc' := 63) hX dX5_lays_62 rfl ?_
      obtain ⟨vs_5, evs_5⟩ : ∃ z : (Nat → Int32), z = upd vs_2 (((10 + (61 * p1)) + 1) + r47).toNatClampNeg (p2 + 10) := ⟨_, rfl⟩
      refine j_iast (pc' := 64) (ws' := (AIW g s0 376 vs_5)) hX hW 0 rfl dX5_lays_63 hf (by subst evs_5; rfl) rfl (fun hf => ?_)
      replace hf := hf vs_5 evs_5
      refine j_aload_n (pc' := 65) hX dX5_lays_64 rfl 1 rfl rfl ?_
      refine j_bipush (pc' := 67) (v := 10) hX dX5_lays_65 (by decide) rfl ?_
      refine j_bipush (pc' := 69) (v := 61) hX dX5_lays_67 (by decide) rfl ?_
      refine j_iload_n (pc' := 70) hX dX5_lays_69 rfl 2 rfl rfl ?_
      refine j_imul (pc' := 71) hX dX5_lays_70 rfl ?_
      refine j_iadd (pc' := 72) hX dX5_lays_71 rfl ?_
      refine j_dup2 (pc' := 73) hX dX5_lays_72 rfl rfl rfl ?_
      refine j_iald (pc' := 74) hX 0 rfl dX5_lays_73 hf rfl (fun hf => ?_)
      refine j_iconst (pc' := 75) (v := 1) hX dX5_lays_74 (by decide) rfl ?_
      refine j_iadd (pc' := 76) hX dX5_lays_75 rfl ?_
      obtain ⟨vs_6, evs_6⟩ : ∃ z : (Nat → Int32), z = upd vs_5 (10 + (61 * p1)).toNatClampNeg ((vs_5 (10 + (61 * p1)).toNatClampNeg) + 1) := ⟨_, rfl⟩
      refine j_iast (pc' := 77) (ws' := (AIW g s0 376 vs_6)) hX hW 0 rfl dX5_lays_76 hf (by subst evs_6; rfl) rfl (fun hf => ?_)
      replace hf := hf vs_6 evs_6
      refine j_iload (pc' := 79) hX dX5_lays_77 0 rfl rfl ?_
      refine j_iload_n (pc' := 80) hX dX5_lays_79 rfl 3 rfl rfl ?_
      refine j_isub (pc' := 81) hX dX5_lays_80 rfl ?_
      exact j_iret hX hR dX5_lays_81 ⟨_, _, rfl, hf, rfl⟩
  refine j_iload_n (pc' := 1) hX dX5_lays_0 rfl 3 rfl rfl ?_
  refine j_if_eq (tgt := 12) (pc' := 4) hX dX5_lays_1 (by decide) rfl hf (fun hf => ?_) (fun hf => ?_)
  · refine j_iload_n (pc' := 13) hX dX5_lays_12 rfl 2 rfl rfl ?_
    exact J13 p2 hf
  · refine j_aload_n (pc' := 5) hX dX5_lays_4 rfl 0 rfl rfl ?_
    refine j_iload_n (pc' := 6) hX dX5_lays_5 rfl 2 rfl rfl ?_
    refine j_callSR (pc' := 9) (As := [.ref s0, .int p2]) (rest := []) (stk := fun r6 => [.int r6]) hX (fun l => met_X5_greater l g s0 vs p2 _ hf) rfl gX5_lays_X5_greater yoX5_greater rfl ⟨Nat.le_of_ble_eq_true rfl, Nat.le_of_ble_eq_true rfl⟩ ⟨⟨Nat.le_of_ble_eq_true rfl, Nat.le_of_ble_eq_true rfl⟩, rfl, rfl⟩ [0] rfl (by decide) (Nat.le_of_ble_eq_true rfl) rfl (fun _ => rfl) dX5_lays_6 rfl (fun r6 hf => ?_)
    refine j_goto (tgt := 13) hX dX5_lays_9 (by decide) ?_
    exact J13 r6 hf
def wp_X5_byRule_c45 (vs : (Nat → Int32)) (p1 : Int32) (x2_4 : Int32) (x3_4 : Int32) (KB4 : Int32 → Int32 → Prop) (z0_45 : Int32) : Prop :=
  ((z0_45 = 0 → KB4 x2_4 (x3_4 + 1)) ∧ (¬ z0_45 = 0 → (wp_X5_refused vs p1 x3_4 0 (fun r56 => ((r56 = 0 → KB4 x3_4 (x3_4 + 1)) ∧ (¬ r56 = 0 → KB4 x2_4 (x3_4 + 1)))))))
def wp_X5_byRule_L4 (vs : (Nat → Int32)) (p1 : Int32) (K4_74 : Int32 → Prop) : Nat → Int32 → Int32 → Prop
  | 0, _, _ => False
  | N4 + 1, x2_4, x3_4 =>
  ((6 < x3_4 → K4_74 x2_4) ∧ (¬ 6 < x3_4 → ((x2_4 = 0 → wp_X5_byRule_c45 vs p1 x2_4 x3_4 (wp_X5_byRule_L4 vs p1 K4_74 N4) 1) ∧ (¬ x2_4 = 0 → (((vs (1 : Int32).toNatClampNeg) = 0 → wp_X5_byRule_c45 vs p1 x2_4 x3_4 (wp_X5_byRule_L4 vs p1 K4_74 N4) 1) ∧ (¬ (vs (1 : Int32).toNatClampNeg) = 0 → (((vs (1 : Int32).toNatClampNeg) = 2 → (vp_in (3 + x3_4) 376 ∧ (vp_in (3 + x2_4) 376 ∧ (((vs (3 + x3_4).toNatClampNeg) < (vs (3 + x2_4).toNatClampNeg) → wp_X5_byRule_c45 vs p1 x2_4 x3_4 (wp_X5_byRule_L4 vs p1 K4_74 N4) 0) ∧ (¬ (vs (3 + x3_4).toNatClampNeg) < (vs (3 + x2_4).toNatClampNeg) → wp_X5_byRule_c45 vs p1 x2_4 x3_4 (wp_X5_byRule_L4 vs p1 K4_74 N4) 1))))) ∧ (¬ (vs (1 : Int32).toNatClampNeg) = 2 → wp_X5_byRule_c45 vs p1 x2_4 x3_4 (wp_X5_byRule_L4 vs p1 K4_74 N4) 0))))))))
def wp_X5_byRule (vs : (Nat → Int32)) (p1 : Int32) (post : Int32 → Prop) : Prop :=
  (∃ N : Nat, wp_X5_byRule_L4 vs p1 (fun (e1 : Int32) => post e1) N 0 1)
theorem yoX5_byRule : yOk yX5_byRule 2 := by decide +kernel
set_option maxHeartbeats 4000000 in
set_option maxRecDepth 100000 in
theorem met_X5_byRule (l : Launch) (g : JG) (s0 : Nat) (vs : (Nat → Int32)) (p1 : Int32) (post : Int32 → Prop) (hf : wp_X5_byRule vs p1 post) : MetR l yX5_byRule wsX5_byRule ({ frames := 4, cells := 0, slots := 0, locals := 93 } : Room) [.ref s0, .int p1] g (AIW g s0 376 vs) mkI post := by
  refine enterR (own := RX5) (cc := cX5_byRule) (nL := 5) (ret := (some .int)) (lv := [(0, .ref s0), (1, .int p1)]) (by decide) rfl rfl (Nat.le_of_ble_eq_true rfl) rfl (fun X hX hR => ?_)
  unfold wp_X5_byRule at hf
  refine j_iconst (pc' := 1) (v := 0) hX dX5_byRule_0 (by decide) rfl ?_
  refine j_istore_n (pc' := 2) (lv' := [(2, .int 0), (0, .ref s0), (1, .int p1)]) hX dX5_byRule_1 rfl (by decide) rfl rfl ?_
  refine j_iconst (pc' := 3) (v := 1) hX dX5_byRule_2 (by decide) rfl ?_
  refine j_istore_n (pc' := 4) (lv' := [(3, .int 1), (2, .int 0), (0, .ref s0), (1, .int p1)]) hX dX5_byRule_3 rfl (by decide) rfl rfl ?_
  obtain ⟨N4, hf⟩ := hf
  have L4 : ∀ (K4_74 : Int32 → Prop), (∀ (x2_4 : Int32), K4_74 x2_4 → J g X 0 0 (AIW g s0 376 vs) [(2, .int x2_4)] [] 74) → ∀ (N4 : Nat) (x2_4 : Int32) (x3_4 : Int32), wp_X5_byRule_L4 vs p1 K4_74 N4 x2_4 x3_4 → J g X 0 0 (AIW g s0 376 vs) [(0, .ref s0), (1, .int p1), (2, .int x2_4), (3, .int x3_4)] [] 4 := by
    intro K4_74 hK4_74 N4
    induction N4 with
    | zero => intro x2_4 x3_4 hf; exact False.elim hf
    | succ N4 ih4 =>
      intro x2_4 x3_4 hf
      have J45 : ∀ (z0_45 : Int32), wp_X5_byRule_c45 vs p1 x2_4 x3_4 (wp_X5_byRule_L4 vs p1 K4_74 N4) z0_45 → J g X 0 0 (AIW g s0 376 vs) [(0, .ref s0), (1, .int p1), (2, .int x2_4), (3, .int x3_4)] [.int z0_45] 45 := by
        intro z0_45 hf
        refine j_istore (pc' := 47) (lv' := [(4, .int z0_45), (0, .ref s0), (1, .int p1), (2, .int x2_4), (3, .int x3_4)]) hX dX5_byRule_45 (by decide) rfl rfl ?_
        refine j_iload (pc' := 49) hX dX5_byRule_47 0 rfl rfl ?_
        refine j_if_eq (tgt := 66) (pc' := 52) hX dX5_byRule_49 (by decide) rfl hf (fun hf => ?_) (fun hf => ?_)
        · refine j_iload_n (pc' := 67) hX dX5_byRule_66 rfl 3 rfl rfl ?_
          refine j_istore_n (pc' := 68) (lv' := [(2, .int x2_4), (4, .int z0_45), (0, .ref s0), (1, .int p1), (3, .int x3_4)]) hX dX5_byRule_67 rfl (by decide) rfl rfl ?_
          refine j_iinc (pc' := 71) (cst := 1) (v := (x3_4 + 1)) (lv' := [(3, .int (x3_4 + 1)), (2, .int x2_4), (4, .int z0_45), (0, .ref s0), (1, .int p1)]) hX dX5_byRule_68 (by decide) rfl 4 rfl (by decide) rfl rfl ?_
          refine j_goto (tgt := 4) hX dX5_byRule_71 (by decide) ?_
          refine J_sub (lv' := [(0, .ref s0), (1, .int p1), (2, .int x2_4), (3, .int (x3_4 + 1))]) [3, 4, 1, 0] rfl ?_
          exact ih4 x2_4 (x3_4 + 1) hf
        · refine j_aload_n (pc' := 53) hX dX5_byRule_52 rfl 1 rfl rfl ?_
          refine j_iload_n (pc' := 54) hX dX5_byRule_53 rfl 2 rfl rfl ?_
          refine j_iload_n (pc' := 55) hX dX5_byRule_54 rfl 4 rfl rfl ?_
          refine j_iconst (pc' := 56) (v := 0) hX dX5_byRule_55 (by decide) rfl ?_
          refine j_callSR (pc' := 59) (As := [.ref s0, .int p1, .int x3_4, .int 0]) (rest := []) (stk := fun r56 => [.int r56]) hX (fun l => met_X5_refused l g s0 vs p1 x3_4 0 _ hf) rfl gX5_byRule_X5_refused yoX5_refused rfl ⟨Nat.le_of_ble_eq_true rfl, Nat.le_of_ble_eq_true rfl⟩ ⟨⟨Nat.le_of_ble_eq_true rfl, Nat.le_of_ble_eq_true rfl⟩, rfl, rfl⟩ [0] rfl (by decide) (Nat.le_of_ble_eq_true rfl) rfl (fun _ => rfl) dX5_byRule_56 rfl (fun r56 hf => ?_)
          refine j_if_ne (tgt := 66) (pc' := 62) hX dX5_byRule_59 (by decide) rfl hf (fun hf => ?_) (fun hf => ?_)
          · refine j_iload_n (pc' := 67) hX dX5_byRule_66 rfl 3 rfl rfl ?_
            refine j_istore_n (pc' := 68) (lv' := [(2, .int x2_4), (4, .int z0_45), (0, .ref s0), (1, .int p1), (3, .int x3_4)]) hX dX5_byRule_67 rfl (by decide) rfl rfl ?_
            refine j_iinc (pc' := 71) (cst := 1) (v := (x3_4 + 1)) (lv' := [(3, .int (x3_4 + 1)), (2, .int x2_4), (4, .int z0_45), (0, .ref s0), (1, .int p1)]) hX dX5_byRule_68 (by decide) rfl 4 rfl (by decide) rfl rfl ?_
            refine j_goto (tgt := 4) hX dX5_byRule_71 (by decide) ?_
            refine J_sub (lv' := [(0, .ref s0), (1, .int p1), (2, .int x2_4), (3, .int (x3_4 + 1))]) [3, 4, 1, 0] rfl ?_
            exact ih4 x2_4 (x3_4 + 1) hf
          · refine j_iload_n (pc' := 63) hX dX5_byRule_62 rfl 4 rfl rfl ?_
            refine j_goto (tgt := 67) hX dX5_byRule_63 (by decide) ?_
            refine j_istore_n (pc' := 68) (lv' := [(2, .int x3_4), (4, .int z0_45), (0, .ref s0), (1, .int p1), (3, .int x3_4)]) hX dX5_byRule_67 rfl (by decide) rfl rfl ?_
            refine j_iinc (pc' := 71) (cst := 1) (v := (x3_4 + 1)) (lv' := [(3, .int (x3_4 + 1)), (2, .int x3_4), (4, .int z0_45), (0, .ref s0), (1, .int p1)]) hX dX5_byRule_68 (by decide) rfl 4 rfl (by decide) rfl rfl ?_
            refine j_goto (tgt := 4) hX dX5_byRule_71 (by decide) ?_
            refine J_sub (lv' := [(0, .ref s0), (1, .int p1), (2, .int x3_4), (3, .int (x3_4 + 1))]) [3, 4, 1, 0] rfl ?_
            exact ih4 x3_4 (x3_4 + 1) hf
      refine j_iload_n (pc' := 5) hX dX5_byRule_4 rfl 3 rfl rfl ?_
      refine j_bipush (pc' := 7) (v := 6) hX dX5_byRule_5 (by decide) rfl ?_
      refine j_icmp_gt (tgt := 74) (pc' := 10) hX dX5_byRule_7 (by decide) rfl hf (fun hf => ?_) (fun hf => ?_)
      · refine J_sub (lv' := [(2, .int x2_4)]) [2] rfl ?_
        exact hK4_74 x2_4 hf
      · refine j_iload_n (pc' := 11) hX dX5_byRule_10 rfl 2 rfl rfl ?_
        refine j_if_eq (tgt := 40) (pc' := 14) hX dX5_byRule_11 (by decide) rfl hf (fun hf => ?_) (fun hf => ?_)
        · refine j_iconst (pc' := 41) (v := 1) hX dX5_byRule_40 (by decide) rfl ?_
          refine j_goto (tgt := 45) hX dX5_byRule_41 (by decide) ?_
          exact J45 1 hf
        · refine j_aload_n (pc' := 15) hX dX5_byRule_14 rfl 0 rfl rfl ?_
          refine j_iconst (pc' := 16) (v := 1) hX dX5_byRule_15 (by decide) rfl ?_
          refine j_iald (pc' := 17) hX 0 rfl dX5_byRule_16 ⟨by unfold vp_in; decide, hf⟩ rfl (fun hf => ?_)
          refine j_if_eq (tgt := 40) (pc' := 20) hX dX5_byRule_17 (by decide) rfl hf (fun hf => ?_) (fun hf => ?_)
          · refine j_iconst (pc' := 41) (v := 1) hX dX5_byRule_40 (by decide) rfl ?_
            refine j_goto (tgt := 45) hX dX5_byRule_41 (by decide) ?_
            exact J45 1 hf
          · refine j_aload_n (pc' := 21) hX dX5_byRule_20 rfl 0 rfl rfl ?_
            refine j_iconst (pc' := 22) (v := 1) hX dX5_byRule_21 (by decide) rfl ?_
            refine j_iald (pc' := 23) hX 0 rfl dX5_byRule_22 ⟨by unfold vp_in; decide, hf⟩ rfl (fun hf => ?_)
            refine j_iconst (pc' := 24) (v := 2) hX dX5_byRule_23 (by decide) rfl ?_
            refine j_icmp_ne (tgt := 44) (pc' := 27) hX dX5_byRule_24 (by decide) rfl hf (fun hf => ?_) (fun hf => ?_)
            · refine j_iconst (pc' := 45) (v := 0) hX dX5_byRule_44 (by decide) rfl ?_
              exact J45 0 hf
            · refine j_aload_n (pc' := 28) hX dX5_byRule_27 rfl 0 rfl rfl ?_
              refine j_iconst (pc' := 29) (v := 3) hX dX5_byRule_28 (by decide) rfl ?_
              refine j_iload_n (pc' := 30) hX dX5_byRule_29 rfl 3 rfl rfl ?_
              refine j_iadd (pc' := 31) hX dX5_byRule_30 rfl ?_
              refine j_iald (pc' := 32) hX 0 rfl dX5_byRule_31 hf rfl (fun hf => ?_)
              refine j_aload_n (pc' := 33) hX dX5_byRule_32 rfl 0 rfl rfl ?_
              refine j_iconst (pc' := 34) (v := 3) hX dX5_byRule_33 (by decide) rfl ?_
              refine j_iload_n (pc' := 35) hX dX5_byRule_34 rfl 2 rfl rfl ?_
              refine j_iadd (pc' := 36) hX dX5_byRule_35 rfl ?_
              refine j_iald (pc' := 37) hX 0 rfl dX5_byRule_36 hf rfl (fun hf => ?_)
              refine j_icmp_lt (tgt := 44) (pc' := 40) hX dX5_byRule_37 (by decide) rfl hf (fun hf => ?_) (fun hf => ?_)
              · refine j_iconst (pc' := 45) (v := 0) hX dX5_byRule_44 (by decide) rfl ?_
                exact J45 0 hf
              · refine j_iconst (pc' := 41) (v := 1) hX dX5_byRule_40 (by decide) rfl ?_
                refine j_goto (tgt := 45) hX dX5_byRule_41 (by decide) ?_
                exact J45 1 hf
  refine J_sub (lv' := [(0, .ref s0), (1, .int p1), (2, .int 0), (3, .int 1)]) [2, 3, 1, 0] rfl ?_
  refine L4 _ (fun e1 hf => ?_) N4 0 1 hf
  refine j_iload_n (pc' := 75) hX dX5_byRule_74 rfl 0 rfl rfl ?_
  exact j_iret hX hR dX5_byRule_75 ⟨_, rfl, hf⟩
def wp_X5_filler_L14 (vs : (Nat → Int32)) (p1 : Int32) (K14_34 : Int32 → Prop) : Nat → Int32 → Prop
  | 0, _ => False
  | N14 + 1, x2_14 =>
  ((x2_14 ≤ 0 → K14_34 x2_14) ∧ (¬ x2_14 ≤ 0 → (wp_X5_refused vs p1 x2_14 1 (fun r22 => ((r22 = 0 → K14_34 x2_14) ∧ (¬ r22 = 0 → (wp_X5_filler_L14 vs p1 K14_34 N14) (x2_14 + (-1))))))))
def wp_X5_filler_L14b (vs : (Nat → Int32)) (p1 : Int32) (K14_34 : Int32 → Prop) : Nat → Int32 → Prop
  | 0, _ => False
  | N14 + 1, x2_14 =>
  ((x2_14 ≤ 0 → K14_34 x2_14) ∧ (¬ x2_14 ≤ 0 → (wp_X5_refused vs p1 x2_14 1 (fun r22 => ((r22 = 0 → K14_34 x2_14) ∧ (¬ r22 = 0 → (wp_X5_filler_L14b vs p1 K14_34 N14) (x2_14 + (-1))))))))
def wp_X5_filler (vs : (Nat → Int32)) (p1 : Int32) (post : Int32 → Prop) : Prop :=
  (((vs (2 : Int32).toNatClampNeg) = 1 → (∃ N : Nat, wp_X5_filler_L14 vs p1 (fun (e1 : Int32) => post e1) N 6)) ∧ (¬ (vs (2 : Int32).toNatClampNeg) = 1 → (∃ N : Nat, wp_X5_filler_L14b vs p1 (fun (e2 : Int32) => post e2) N 0)))
theorem yoX5_filler : yOk yX5_filler 2 := by decide +kernel
set_option maxHeartbeats 4000000 in
set_option maxRecDepth 100000 in
theorem met_X5_filler (l : Launch) (g : JG) (s0 : Nat) (vs : (Nat → Int32)) (p1 : Int32) (post : Int32 → Prop) (hf : wp_X5_filler vs p1 post) : MetR l yX5_filler wsX5_filler ({ frames := 4, cells := 0, slots := 0, locals := 93 } : Room) [.ref s0, .int p1] g (AIW g s0 376 vs) mkI post := by
  refine enterR (own := RX5) (cc := cX5_filler) (nL := 3) (ret := (some .int)) (lv := [(0, .ref s0), (1, .int p1)]) (by decide) rfl rfl (Nat.le_of_ble_eq_true rfl) rfl (fun X hX hR => ?_)
  unfold wp_X5_filler at hf
  refine j_aload_n (pc' := 1) hX dX5_filler_0 rfl 0 rfl rfl ?_
  refine j_iconst (pc' := 2) (v := 2) hX dX5_filler_1 (by decide) rfl ?_
  refine j_iald (pc' := 3) hX 0 rfl dX5_filler_2 ⟨by unfold vp_in; decide, hf⟩ rfl (fun hf => ?_)
  refine j_iconst (pc' := 4) (v := 1) hX dX5_filler_3 (by decide) rfl ?_
  refine j_icmp_ne (tgt := 12) (pc' := 7) hX dX5_filler_4 (by decide) rfl hf (fun hf => ?_) (fun hf => ?_)
  · refine j_iconst (pc' := 13) (v := 0) hX dX5_filler_12 (by decide) rfl ?_
    refine j_istore_n (pc' := 14) (lv' := [(2, .int 0), (0, .ref s0), (1, .int p1)]) hX dX5_filler_13 rfl (by decide) rfl rfl ?_
    obtain ⟨N14, hf⟩ := hf
    have L14 : ∀ (K14_34 : Int32 → Prop), (∀ (x2_14 : Int32), K14_34 x2_14 → J g X 0 0 (AIW g s0 376 vs) [(2, .int x2_14)] [] 34) → ∀ (N14 : Nat) (x2_14 : Int32), wp_X5_filler_L14b vs p1 K14_34 N14 x2_14 → J g X 0 0 (AIW g s0 376 vs) [(0, .ref s0), (1, .int p1), (2, .int x2_14)] [] 14 := by
      intro K14_34 hK14_34 N14
      induction N14 with
      | zero => intro x2_14 hf; exact False.elim hf
      | succ N14 ih14 =>
        intro x2_14 hf
        refine j_iload_n (pc' := 15) hX dX5_filler_14 rfl 2 rfl rfl ?_
        refine j_if_le (tgt := 34) (pc' := 18) hX dX5_filler_15 (by decide) rfl hf (fun hf => ?_) (fun hf => ?_)
        · refine J_sub (lv' := [(2, .int x2_14)]) [2] rfl ?_
          exact hK14_34 x2_14 hf
        · refine j_aload_n (pc' := 19) hX dX5_filler_18 rfl 0 rfl rfl ?_
          refine j_iload_n (pc' := 20) hX dX5_filler_19 rfl 1 rfl rfl ?_
          refine j_iload_n (pc' := 21) hX dX5_filler_20 rfl 2 rfl rfl ?_
          refine j_iconst (pc' := 22) (v := 1) hX dX5_filler_21 (by decide) rfl ?_
          refine j_callSR (pc' := 25) (As := [.ref s0, .int p1, .int x2_14, .int 1]) (rest := []) (stk := fun r22 => [.int r22]) hX (fun l => met_X5_refused l g s0 vs p1 x2_14 1 _ hf) rfl gX5_filler_X5_refused yoX5_refused rfl ⟨Nat.le_of_ble_eq_true rfl, Nat.le_of_ble_eq_true rfl⟩ ⟨⟨Nat.le_of_ble_eq_true rfl, Nat.le_of_ble_eq_true rfl⟩, rfl, rfl⟩ [0] rfl (by decide) (Nat.le_of_ble_eq_true rfl) rfl (fun _ => rfl) dX5_filler_22 rfl (fun r22 hf => ?_)
          refine j_if_eq (tgt := 34) (pc' := 28) hX dX5_filler_25 (by decide) rfl hf (fun hf => ?_) (fun hf => ?_)
          · refine J_sub (lv' := [(2, .int x2_14)]) [2] rfl ?_
            exact hK14_34 x2_14 hf
          · refine j_iinc (pc' := 31) (cst := (-1)) (v := (x2_14 + (-1))) (lv' := [(2, .int (x2_14 + (-1))), (0, .ref s0), (1, .int p1)]) hX dX5_filler_28 (by decide) rfl 2 rfl (by decide) rfl rfl ?_
            refine j_goto (tgt := 14) hX dX5_filler_31 (by decide) ?_
            refine J_sub (lv' := [(0, .ref s0), (1, .int p1), (2, .int (x2_14 + (-1)))]) [1, 2, 0] rfl ?_
            exact ih14 (x2_14 + (-1)) hf
    refine J_sub (lv' := [(0, .ref s0), (1, .int p1), (2, .int 0)]) [1, 2, 0] rfl ?_
    refine L14 _ (fun e2 hf => ?_) N14 0 hf
    refine j_iload_n (pc' := 35) hX dX5_filler_34 rfl 0 rfl rfl ?_
    exact j_iret hX hR dX5_filler_35 ⟨_, rfl, hf⟩
  · refine j_bipush (pc' := 9) (v := 6) hX dX5_filler_7 (by decide) rfl ?_
    refine j_goto (tgt := 13) hX dX5_filler_9 (by decide) ?_
    refine j_istore_n (pc' := 14) (lv' := [(2, .int 6), (0, .ref s0), (1, .int p1)]) hX dX5_filler_13 rfl (by decide) rfl rfl ?_
    obtain ⟨N14, hf⟩ := hf
    have L14 : ∀ (K14_34 : Int32 → Prop), (∀ (x2_14 : Int32), K14_34 x2_14 → J g X 0 0 (AIW g s0 376 vs) [(2, .int x2_14)] [] 34) → ∀ (N14 : Nat) (x2_14 : Int32), wp_X5_filler_L14 vs p1 K14_34 N14 x2_14 → J g X 0 0 (AIW g s0 376 vs) [(0, .ref s0), (1, .int p1), (2, .int x2_14)] [] 14 := by
      intro K14_34 hK14_34 N14
      induction N14 with
      | zero => intro x2_14 hf; exact False.elim hf
      | succ N14 ih14 =>
        intro x2_14 hf
        refine j_iload_n (pc' := 15) hX dX5_filler_14 rfl 2 rfl rfl ?_
        refine j_if_le (tgt := 34) (pc' := 18) hX dX5_filler_15 (by decide) rfl hf (fun hf => ?_) (fun hf => ?_)
        · refine J_sub (lv' := [(2, .int x2_14)]) [2] rfl ?_
          exact hK14_34 x2_14 hf
        · refine j_aload_n (pc' := 19) hX dX5_filler_18 rfl 0 rfl rfl ?_
          refine j_iload_n (pc' := 20) hX dX5_filler_19 rfl 1 rfl rfl ?_
          refine j_iload_n (pc' := 21) hX dX5_filler_20 rfl 2 rfl rfl ?_
          refine j_iconst (pc' := 22) (v := 1) hX dX5_filler_21 (by decide) rfl ?_
          refine j_callSR (pc' := 25) (As := [.ref s0, .int p1, .int x2_14, .int 1]) (rest := []) (stk := fun r22 => [.int r22]) hX (fun l => met_X5_refused l g s0 vs p1 x2_14 1 _ hf) rfl gX5_filler_X5_refused yoX5_refused rfl ⟨Nat.le_of_ble_eq_true rfl, Nat.le_of_ble_eq_true rfl⟩ ⟨⟨Nat.le_of_ble_eq_true rfl, Nat.le_of_ble_eq_true rfl⟩, rfl, rfl⟩ [0] rfl (by decide) (Nat.le_of_ble_eq_true rfl) rfl (fun _ => rfl) dX5_filler_22 rfl (fun r22 hf => ?_)
          refine j_if_eq (tgt := 34) (pc' := 28) hX dX5_filler_25 (by decide) rfl hf (fun hf => ?_) (fun hf => ?_)
          · refine J_sub (lv' := [(2, .int x2_14)]) [2] rfl ?_
            exact hK14_34 x2_14 hf
          · refine j_iinc (pc' := 31) (cst := (-1)) (v := (x2_14 + (-1))) (lv' := [(2, .int (x2_14 + (-1))), (0, .ref s0), (1, .int p1)]) hX dX5_filler_28 (by decide) rfl 2 rfl (by decide) rfl rfl ?_
            refine j_goto (tgt := 14) hX dX5_filler_31 (by decide) ?_
            refine J_sub (lv' := [(0, .ref s0), (1, .int p1), (2, .int (x2_14 + (-1)))]) [1, 2, 0] rfl ?_
            exact ih14 (x2_14 + (-1)) hf
    refine J_sub (lv' := [(0, .ref s0), (1, .int p1), (2, .int 6)]) [1, 2, 0] rfl ?_
    refine L14 _ (fun e1 hf => ?_) N14 6 hf
    refine j_iload_n (pc' := 35) hX dX5_filler_34 rfl 0 rfl rfl ?_
    exact j_iret hX hR dX5_filler_35 ⟨_, rfl, hf⟩
def wp_X5_fills_c44 (p1 : Int32) (x2_4 : Int32) (vs_4 : (Nat → Int32)) (KB4 : Int32 → Int32 → ((Nat → Int32)) → Prop) (y4_44 : Int32) (y5_44 : Int32) (z0_44 : Int32) : Prop :=
  ((z0_44 = 0 → KB4 x2_4 z0_44 vs_4) ∧ (¬ z0_44 = 0 → ((y5_44 ≤ 0 → (wp_X5_lays vs_4 p1 (y4_44 + y5_44) 0 (fun r66 u66_1 => KB4 (x2_4 + 1) z0_44 u66_1))) ∧ (¬ y5_44 ≤ 0 → (wp_X5_lays vs_4 p1 (y4_44 + y5_44) 1 (fun r66 u66_2 => KB4 (x2_4 + 1) z0_44 u66_2))))))
def wp_X5_fills_L4 (p1 : Int32) (K4_76 : Int32 → ((Nat → Int32)) → Prop) : Nat → Int32 → Int32 → ((Nat → Int32)) → Prop
  | 0, _, _, _ => False
  | N4 + 1, x2_4, x3_4, vs_4 =>
  ((x3_4 = 0 → K4_76 x2_4 vs_4) ∧ (¬ x3_4 = 0 → (wp_X5_byRule vs_4 p1 (fun r10 => ((r10 = 0 → (wp_X5_filler vs_4 p1 (fun r22 => (((r10 + r22) ≤ 0 → wp_X5_fills_c44 p1 x2_4 vs_4 (wp_X5_fills_L4 p1 K4_76 N4) r10 r22 0) ∧ (¬ (r10 + r22) ≤ 0 → wp_X5_fills_c44 p1 x2_4 vs_4 (wp_X5_fills_L4 p1 K4_76 N4) r10 r22 1))))) ∧ (¬ r10 = 0 → (((r10 + 0) ≤ 0 → wp_X5_fills_c44 p1 x2_4 vs_4 (wp_X5_fills_L4 p1 K4_76 N4) r10 0 0) ∧ (¬ (r10 + 0) ≤ 0 → wp_X5_fills_c44 p1 x2_4 vs_4 (wp_X5_fills_L4 p1 K4_76 N4) r10 0 1))))))))
def wp_X5_fills (vs : (Nat → Int32)) (p1 : Int32) (post : Int32 → ((Nat → Int32)) → Prop) : Prop :=
  (∃ N : Nat, wp_X5_fills_L4 p1 (fun (e3 : Int32) (e4 : (Nat → Int32)) => post e3 e4) N 0 1 vs)
theorem yoX5_fills : yOk yX5_fills 2 := by decide +kernel
set_option maxHeartbeats 4000000 in
set_option maxRecDepth 100000 in
theorem met_X5_fills (l : Launch) (g : JG) (s0 : Nat) (vs : (Nat → Int32)) (p1 : Int32) (post : Int32 → ((Nat → Int32)) → Prop) (hf : wp_X5_fills vs p1 post) : MetM l yX5_fills wsX5_fills ({ frames := 5, cells := 0, slots := 0, locals := 117 } : Room) [.ref s0, .int p1] g (AIW g s0 376 vs) mkI post (fun u : (Nat → Int32) => (AIW g s0 376 u)) := by
  refine enterM (own := RX5) (cc := cX5_fills) (nL := 6) (ret := (some .int)) (lv := [(0, .ref s0), (1, .int p1)]) (by decide) rfl rfl (Nat.le_of_ble_eq_true rfl) rfl (fun X hX hW hR => ?_)
  unfold wp_X5_fills at hf
  refine j_iconst (pc' := 1) (v := 0) hX dX5_fills_0 (by decide) rfl ?_
  refine j_istore_n (pc' := 2) (lv' := [(2, .int 0), (0, .ref s0), (1, .int p1)]) hX dX5_fills_1 rfl (by decide) rfl rfl ?_
  refine j_iconst (pc' := 3) (v := 1) hX dX5_fills_2 (by decide) rfl ?_
  refine j_istore_n (pc' := 4) (lv' := [(3, .int 1), (2, .int 0), (0, .ref s0), (1, .int p1)]) hX dX5_fills_3 rfl (by decide) rfl rfl ?_
  obtain ⟨N4, hf⟩ := hf
  have L4 : ∀ (K4_76 : Int32 → ((Nat → Int32)) → Prop), (∀ (x2_4 : Int32) (vs_4 : (Nat → Int32)), K4_76 x2_4 vs_4 → J g X 0 0 (AIW g s0 376 vs_4) [(2, .int x2_4)] [] 76) → ∀ (N4 : Nat) (x2_4 : Int32) (x3_4 : Int32) (vs_4 : (Nat → Int32)), wp_X5_fills_L4 p1 K4_76 N4 x2_4 x3_4 vs_4 → J g X 0 0 (AIW g s0 376 vs_4) [(0, .ref s0), (1, .int p1), (2, .int x2_4), (3, .int x3_4)] [] 4 := by
    intro K4_76 hK4_76 N4
    induction N4 with
    | zero => intro x2_4 x3_4 vs_4 hf; exact False.elim hf
    | succ N4 ih4 =>
      intro x2_4 x3_4 vs_4 hf
      have J44 : ∀ (y4_44 : Int32) (y5_44 : Int32) (z0_44 : Int32), wp_X5_fills_c44 p1 x2_4 vs_4 (wp_X5_fills_L4 p1 K4_76 N4) y4_44 y5_44 z0_44 → J g X 0 0 (AIW g s0 376 vs_4) [(0, .ref s0), (1, .int p1), (2, .int x2_4), (4, .int y4_44), (5, .int y5_44)] [.int z0_44] 44 := by
        intro y4_44 y5_44 z0_44 hf
        refine j_istore_n (pc' := 45) (lv' := [(3, .int z0_44), (0, .ref s0), (1, .int p1), (2, .int x2_4), (4, .int y4_44), (5, .int y5_44)]) hX dX5_fills_44 rfl (by decide) rfl rfl ?_
        refine j_iload_n (pc' := 46) hX dX5_fills_45 rfl 0 rfl rfl ?_
        refine j_if_eq (tgt := 73) (pc' := 49) hX dX5_fills_46 (by decide) rfl hf (fun hf => ?_) (fun hf => ?_)
        · refine j_goto (tgt := 4) hX dX5_fills_73 (by decide) ?_
          refine J_sub (lv' := [(0, .ref s0), (1, .int p1), (2, .int x2_4), (3, .int z0_44)]) [1, 2, 3, 0] rfl ?_
          exact ih4 x2_4 z0_44 vs_4 hf
        · refine j_aload_n (pc' := 50) hX dX5_fills_49 rfl 1 rfl rfl ?_
          refine j_iload_n (pc' := 51) hX dX5_fills_50 rfl 2 rfl rfl ?_
          refine j_iload (pc' := 53) hX dX5_fills_51 4 rfl rfl ?_
          refine j_iload (pc' := 55) hX dX5_fills_53 5 rfl rfl ?_
          refine j_iadd (pc' := 56) hX dX5_fills_55 rfl ?_
          refine j_iload (pc' := 58) hX dX5_fills_56 5 rfl rfl ?_
          refine j_if_le (tgt := 65) (pc' := 61) hX dX5_fills_58 (by decide) rfl hf (fun hf => ?_) (fun hf => ?_)
          · refine j_iconst (pc' := 66) (v := 0) hX dX5_fills_65 (by decide) rfl ?_
            refine j_callSM (pc' := 69) (k' := 0) (n' := 0) (As := [.ref s0, .int p1, .int (y4_44 + y5_44), .int 0]) (rest := []) (stk := fun r66 => [.int r66]) (ws' := fun u66_1 => (AIW g s0 376 u66_1)) (wr := ([] : va_W)) hX hW (fun l => met_X5_lays l g s0 vs_4 p1 (y4_44 + y5_44) 0 _ hf) rfl gX5_fills_X5_lays yoX5_lays rfl ⟨Nat.le_of_ble_eq_true rfl, Nat.le_of_ble_eq_true rfl⟩ ⟨Nat.le_of_ble_eq_true rfl, Nat.le_of_ble_eq_true rfl, Nat.le_of_ble_eq_true rfl, Nat.le_of_ble_eq_true rfl⟩ [0] [] [0] rfl (by decide) rfl (by decide) (by decide) (fun _ => rfl) (by decide) (Nat.le_of_ble_eq_true rfl) rfl (fun _ => rfl) dX5_fills_66 rfl (fun r66 u66_1 hf => ?_)
            refine j_pop (pc' := 70) hX dX5_fills_69 rfl rfl ?_
            refine j_iinc (pc' := 73) (cst := 1) (v := (x2_4 + 1)) (lv' := [(2, .int (x2_4 + 1)), (3, .int z0_44), (0, .ref s0), (1, .int p1), (4, .int y4_44), (5, .int y5_44)]) hX dX5_fills_70 (by decide) rfl 3 rfl (by decide) rfl rfl ?_
            refine j_goto (tgt := 4) hX dX5_fills_73 (by decide) ?_
            refine J_sub (lv' := [(0, .ref s0), (1, .int p1), (2, .int (x2_4 + 1)), (3, .int z0_44)]) [2, 3, 0, 1] rfl ?_
            exact ih4 (x2_4 + 1) z0_44 u66_1 hf
          · refine j_iconst (pc' := 62) (v := 1) hX dX5_fills_61 (by decide) rfl ?_
            refine j_goto (tgt := 66) hX dX5_fills_62 (by decide) ?_
            refine j_callSM (pc' := 69) (k' := 0) (n' := 0) (As := [.ref s0, .int p1, .int (y4_44 + y5_44), .int 1]) (rest := []) (stk := fun r66 => [.int r66]) (ws' := fun u66_2 => (AIW g s0 376 u66_2)) (wr := ([] : va_W)) hX hW (fun l => met_X5_lays l g s0 vs_4 p1 (y4_44 + y5_44) 1 _ hf) rfl gX5_fills_X5_lays yoX5_lays rfl ⟨Nat.le_of_ble_eq_true rfl, Nat.le_of_ble_eq_true rfl⟩ ⟨Nat.le_of_ble_eq_true rfl, Nat.le_of_ble_eq_true rfl, Nat.le_of_ble_eq_true rfl, Nat.le_of_ble_eq_true rfl⟩ [0] [] [0] rfl (by decide) rfl (by decide) (by decide) (fun _ => rfl) (by decide) (Nat.le_of_ble_eq_true rfl) rfl (fun _ => rfl) dX5_fills_66 rfl (fun r66 u66_2 hf => ?_)
            refine j_pop (pc' := 70) hX dX5_fills_69 rfl rfl ?_
            refine j_iinc (pc' := 73) (cst := 1) (v := (x2_4 + 1)) (lv' := [(2, .int (x2_4 + 1)), (3, .int z0_44), (0, .ref s0), (1, .int p1), (4, .int y4_44), (5, .int y5_44)]) hX dX5_fills_70 (by decide) rfl 3 rfl (by decide) rfl rfl ?_
            refine j_goto (tgt := 4) hX dX5_fills_73 (by decide) ?_
            refine J_sub (lv' := [(0, .ref s0), (1, .int p1), (2, .int (x2_4 + 1)), (3, .int z0_44)]) [2, 3, 0, 1] rfl ?_
            exact ih4 (x2_4 + 1) z0_44 u66_2 hf
      refine j_iload_n (pc' := 5) hX dX5_fills_4 rfl 3 rfl rfl ?_
      refine j_if_eq (tgt := 76) (pc' := 8) hX dX5_fills_5 (by decide) rfl hf (fun hf => ?_) (fun hf => ?_)
      · refine J_sub (lv' := [(2, .int x2_4)]) [2] rfl ?_
        exact hK4_76 x2_4 vs_4 hf
      · refine j_aload_n (pc' := 9) hX dX5_fills_8 rfl 0 rfl rfl ?_
        refine j_iload_n (pc' := 10) hX dX5_fills_9 rfl 1 rfl rfl ?_
        refine j_callSR (pc' := 13) (As := [.ref s0, .int p1]) (rest := []) (stk := fun r10 => [.int r10]) hX (fun l => met_X5_byRule l g s0 vs_4 p1 _ hf) rfl gX5_fills_X5_byRule yoX5_byRule rfl ⟨Nat.le_of_ble_eq_true rfl, Nat.le_of_ble_eq_true rfl⟩ ⟨⟨Nat.le_of_ble_eq_true rfl, Nat.le_of_ble_eq_true rfl⟩, rfl, rfl⟩ [0] rfl (by decide) (Nat.le_of_ble_eq_true rfl) rfl (fun _ => rfl) dX5_fills_10 rfl (fun r10 hf => ?_)
        refine j_istore (pc' := 15) (lv' := [(4, .int r10), (0, .ref s0), (1, .int p1), (2, .int x2_4), (3, .int x3_4)]) hX dX5_fills_13 (by decide) rfl rfl ?_
        refine j_iload (pc' := 17) hX dX5_fills_15 0 rfl rfl ?_
        refine j_if_ne (tgt := 28) (pc' := 20) hX dX5_fills_17 (by decide) rfl hf (fun hf => ?_) (fun hf => ?_)
        · refine j_iconst (pc' := 29) (v := 0) hX dX5_fills_28 (by decide) rfl ?_
          refine j_istore (pc' := 31) (lv' := [(5, .int 0), (4, .int r10), (0, .ref s0), (1, .int p1), (2, .int x2_4), (3, .int x3_4)]) hX dX5_fills_29 (by decide) rfl rfl ?_
          refine j_iload (pc' := 33) hX dX5_fills_31 1 rfl rfl ?_
          refine j_iload (pc' := 35) hX dX5_fills_33 0 rfl rfl ?_
          refine j_iadd (pc' := 36) hX dX5_fills_35 rfl ?_
          refine j_if_le (tgt := 43) (pc' := 39) hX dX5_fills_36 (by decide) rfl hf (fun hf => ?_) (fun hf => ?_)
          · refine j_iconst (pc' := 44) (v := 0) hX dX5_fills_43 (by decide) rfl ?_
            refine J_sub (lv' := [(0, .ref s0), (1, .int p1), (2, .int x2_4), (4, .int r10), (5, .int 0)]) [2, 3, 4, 1, 0] rfl ?_
            exact J44 r10 0 0 hf
          · refine j_iconst (pc' := 40) (v := 1) hX dX5_fills_39 (by decide) rfl ?_
            refine j_goto (tgt := 44) hX dX5_fills_40 (by decide) ?_
            refine J_sub (lv' := [(0, .ref s0), (1, .int p1), (2, .int x2_4), (4, .int r10), (5, .int 0)]) [2, 3, 4, 1, 0] rfl ?_
            exact J44 r10 0 1 hf
        · refine j_aload_n (pc' := 21) hX dX5_fills_20 rfl 1 rfl rfl ?_
          refine j_iload_n (pc' := 22) hX dX5_fills_21 rfl 2 rfl rfl ?_
          refine j_callSR (pc' := 25) (As := [.ref s0, .int p1]) (rest := []) (stk := fun r22 => [.int r22]) hX (fun l => met_X5_filler l g s0 vs_4 p1 _ hf) rfl gX5_fills_X5_filler yoX5_filler rfl ⟨Nat.le_of_ble_eq_true rfl, Nat.le_of_ble_eq_true rfl⟩ ⟨⟨Nat.le_of_ble_eq_true rfl, Nat.le_of_ble_eq_true rfl⟩, rfl, rfl⟩ [0] rfl (by decide) (Nat.le_of_ble_eq_true rfl) rfl (fun _ => rfl) dX5_fills_22 rfl (fun r22 hf => ?_)
          refine j_goto (tgt := 29) hX dX5_fills_25 (by decide) ?_
          refine j_istore (pc' := 31) (lv' := [(5, .int r22), (4, .int r10), (0, .ref s0), (1, .int p1), (2, .int x2_4), (3, .int x3_4)]) hX dX5_fills_29 (by decide) rfl rfl ?_
          refine j_iload (pc' := 33) hX dX5_fills_31 1 rfl rfl ?_
          refine j_iload (pc' := 35) hX dX5_fills_33 0 rfl rfl ?_
          refine j_iadd (pc' := 36) hX dX5_fills_35 rfl ?_
          refine j_if_le (tgt := 43) (pc' := 39) hX dX5_fills_36 (by decide) rfl hf (fun hf => ?_) (fun hf => ?_)
          · refine j_iconst (pc' := 44) (v := 0) hX dX5_fills_43 (by decide) rfl ?_
            refine J_sub (lv' := [(0, .ref s0), (1, .int p1), (2, .int x2_4), (4, .int r10), (5, .int r22)]) [2, 3, 4, 1, 0] rfl ?_
            exact J44 r10 r22 0 hf
          · refine j_iconst (pc' := 40) (v := 1) hX dX5_fills_39 (by decide) rfl ?_
            refine j_goto (tgt := 44) hX dX5_fills_40 (by decide) ?_
            refine J_sub (lv' := [(0, .ref s0), (1, .int p1), (2, .int x2_4), (4, .int r10), (5, .int r22)]) [2, 3, 4, 1, 0] rfl ?_
            exact J44 r10 r22 1 hf
  refine J_sub (lv' := [(0, .ref s0), (1, .int p1), (2, .int 0), (3, .int 1)]) [2, 3, 1, 0] rfl ?_
  refine L4 _ (fun e3 e4 hf => ?_) N4 0 1 vs hf
  refine j_iload_n (pc' := 77) hX dX5_fills_76 rfl 0 rfl rfl ?_
  exact j_iret hX hR dX5_fills_77 ⟨_, _, rfl, hf, rfl⟩
def wp_X5_closed_L4 (vs : (Nat → Int32)) (K4_32 : Int32 → Prop) : Nat → Int32 → Int32 → Prop
  | 0, _, _ => False
  | N4 + 1, x1_4, x2_4 =>
  ((6 ≤ x2_4 → K4_32 x1_4) ∧ (¬ 6 ≤ x2_4 → (wp_X5_isClosed vs x2_4 (fun r13 => ((r13 = 0 → (wp_X5_closed_L4 vs K4_32 N4) (x1_4 + 0) (x2_4 + 1)) ∧ (¬ r13 = 0 → (wp_X5_closed_L4 vs K4_32 N4) (x1_4 + 1) (x2_4 + 1)))))))
def wp_X5_closed (vs : (Nat → Int32)) (post : Int32 → Prop) : Prop :=
  (∃ N : Nat, wp_X5_closed_L4 vs (fun (e1 : Int32) => post e1) N 0 0)
theorem yoX5_closed : yOk yX5_closed 1 := by decide +kernel
set_option maxHeartbeats 4000000 in
set_option maxRecDepth 100000 in
theorem met_X5_closed (l : Launch) (g : JG) (s0 : Nat) (vs : (Nat → Int32)) (post : Int32 → Prop) (hf : wp_X5_closed vs post) : MetR l yX5_closed wsX5_closed ({ frames := 3, cells := 0, slots := 0, locals := 66 } : Room) [.ref s0] g (AIW g s0 376 vs) mkI post := by
  refine enterR (own := RX5) (cc := cX5_closed) (nL := 3) (ret := (some .int)) (lv := [(0, .ref s0)]) (by decide) rfl rfl (Nat.le_of_ble_eq_true rfl) rfl (fun X hX hR => ?_)
  unfold wp_X5_closed at hf
  refine j_iconst (pc' := 1) (v := 0) hX dX5_closed_0 (by decide) rfl ?_
  refine j_istore_n (pc' := 2) (lv' := [(1, .int 0), (0, .ref s0)]) hX dX5_closed_1 rfl (by decide) rfl rfl ?_
  refine j_iconst (pc' := 3) (v := 0) hX dX5_closed_2 (by decide) rfl ?_
  refine j_istore_n (pc' := 4) (lv' := [(2, .int 0), (1, .int 0), (0, .ref s0)]) hX dX5_closed_3 rfl (by decide) rfl rfl ?_
  obtain ⟨N4, hf⟩ := hf
  have L4 : ∀ (K4_32 : Int32 → Prop), (∀ (x1_4 : Int32), K4_32 x1_4 → J g X 0 0 (AIW g s0 376 vs) [(1, .int x1_4)] [] 32) → ∀ (N4 : Nat) (x1_4 : Int32) (x2_4 : Int32), wp_X5_closed_L4 vs K4_32 N4 x1_4 x2_4 → J g X 0 0 (AIW g s0 376 vs) [(0, .ref s0), (1, .int x1_4), (2, .int x2_4)] [] 4 := by
    intro K4_32 hK4_32 N4
    induction N4 with
    | zero => intro x1_4 x2_4 hf; exact False.elim hf
    | succ N4 ih4 =>
      intro x1_4 x2_4 hf
      refine j_iload_n (pc' := 5) hX dX5_closed_4 rfl 2 rfl rfl ?_
      refine j_bipush (pc' := 7) (v := 6) hX dX5_closed_5 (by decide) rfl ?_
      refine j_icmp_ge (tgt := 32) (pc' := 10) hX dX5_closed_7 (by decide) rfl hf (fun hf => ?_) (fun hf => ?_)
      · refine J_sub (lv' := [(1, .int x1_4)]) [1] rfl ?_
        exact hK4_32 x1_4 hf
      · refine j_iload_n (pc' := 11) hX dX5_closed_10 rfl 1 rfl rfl ?_
        refine j_aload_n (pc' := 12) hX dX5_closed_11 rfl 0 rfl rfl ?_
        refine j_iload_n (pc' := 13) hX dX5_closed_12 rfl 2 rfl rfl ?_
        refine j_callSR (pc' := 16) (As := [.ref s0, .int x2_4]) (rest := [.int x1_4]) (stk := fun r13 => [.int r13, .int x1_4]) hX (fun l => met_X5_isClosed l g s0 vs x2_4 _ hf) rfl gX5_closed_X5_isClosed yoX5_isClosed rfl ⟨Nat.le_of_ble_eq_true rfl, Nat.le_of_ble_eq_true rfl⟩ ⟨⟨Nat.le_of_ble_eq_true rfl, Nat.le_of_ble_eq_true rfl⟩, rfl, rfl⟩ [0] rfl (by decide) (Nat.le_of_ble_eq_true rfl) rfl (fun _ => rfl) dX5_closed_13 rfl (fun r13 hf => ?_)
        refine j_if_eq (tgt := 23) (pc' := 19) hX dX5_closed_16 (by decide) rfl hf (fun hf => ?_) (fun hf => ?_)
        · refine j_iconst (pc' := 24) (v := 0) hX dX5_closed_23 (by decide) rfl ?_
          refine j_iadd (pc' := 25) hX dX5_closed_24 rfl ?_
          refine j_istore_n (pc' := 26) (lv' := [(1, .int (x1_4 + 0)), (0, .ref s0), (2, .int x2_4)]) hX dX5_closed_25 rfl (by decide) rfl rfl ?_
          refine j_iinc (pc' := 29) (cst := 1) (v := (x2_4 + 1)) (lv' := [(2, .int (x2_4 + 1)), (1, .int (x1_4 + 0)), (0, .ref s0)]) hX dX5_closed_26 (by decide) rfl 2 rfl (by decide) rfl rfl ?_
          refine j_goto (tgt := 4) hX dX5_closed_29 (by decide) ?_
          refine J_sub (lv' := [(0, .ref s0), (1, .int (x1_4 + 0)), (2, .int (x2_4 + 1))]) [2, 1, 0] rfl ?_
          exact ih4 (x1_4 + 0) (x2_4 + 1) hf
        · refine j_iconst (pc' := 20) (v := 1) hX dX5_closed_19 (by decide) rfl ?_
          refine j_goto (tgt := 24) hX dX5_closed_20 (by decide) ?_
          refine j_iadd (pc' := 25) hX dX5_closed_24 rfl ?_
          refine j_istore_n (pc' := 26) (lv' := [(1, .int (x1_4 + 1)), (0, .ref s0), (2, .int x2_4)]) hX dX5_closed_25 rfl (by decide) rfl rfl ?_
          refine j_iinc (pc' := 29) (cst := 1) (v := (x2_4 + 1)) (lv' := [(2, .int (x2_4 + 1)), (1, .int (x1_4 + 1)), (0, .ref s0)]) hX dX5_closed_26 (by decide) rfl 2 rfl (by decide) rfl rfl ?_
          refine j_goto (tgt := 4) hX dX5_closed_29 (by decide) ?_
          refine J_sub (lv' := [(0, .ref s0), (1, .int (x1_4 + 1)), (2, .int (x2_4 + 1))]) [2, 1, 0] rfl ?_
          exact ih4 (x1_4 + 1) (x2_4 + 1) hf
  refine J_sub (lv' := [(0, .ref s0), (1, .int 0), (2, .int 0)]) [2, 1, 0] rfl ?_
  refine L4 _ (fun e1 hf => ?_) N4 0 0 hf
  refine j_iload_n (pc' := 33) hX dX5_closed_32 rfl 0 rfl rfl ?_
  exact j_iret hX hR dX5_closed_33 ⟨_, rfl, hf⟩
def wp_X5_fillsAll_L2  (K2_20 : ((Nat → Int32)) → Prop) : Nat → Int32 → ((Nat → Int32)) → Prop
  | 0, _, _ => False
  | N2 + 1, x1_2, vs_2 =>
  ((6 ≤ x1_2 → K2_20 vs_2) ∧ (¬ 6 ≤ x1_2 → (wp_X5_fills vs_2 x1_2 (fun r10 u10_1 => (wp_X5_fillsAll_L2 K2_20 N2) (x1_2 + 1) u10_1))))
def wp_X5_fillsAll (vs : (Nat → Int32)) (post : Int32 → ((Nat → Int32)) → Prop) : Prop :=
  (∃ N : Nat, wp_X5_fillsAll_L2 (fun (e2 : (Nat → Int32)) => (wp_X5_closed e2 (fun r21 => post r21 e2))) N 0 vs)
theorem yoX5_fillsAll : yOk yX5_fillsAll 1 := by decide +kernel
set_option maxHeartbeats 4000000 in
set_option maxRecDepth 100000 in
theorem met_X5_fillsAll (l : Launch) (g : JG) (s0 : Nat) (vs : (Nat → Int32)) (post : Int32 → ((Nat → Int32)) → Prop) (hf : wp_X5_fillsAll vs post) : MetM l yX5_fillsAll wsX5_fillsAll ({ frames := 6, cells := 0, slots := 0, locals := 142 } : Room) [.ref s0] g (AIW g s0 376 vs) mkI post (fun u : (Nat → Int32) => (AIW g s0 376 u)) := by
  refine enterM (own := RX5) (cc := cX5_fillsAll) (nL := 2) (ret := (some .int)) (lv := [(0, .ref s0)]) (by decide) rfl rfl (Nat.le_of_ble_eq_true rfl) rfl (fun X hX hW hR => ?_)
  unfold wp_X5_fillsAll at hf
  refine j_iconst (pc' := 1) (v := 0) hX dX5_fillsAll_0 (by decide) rfl ?_
  refine j_istore_n (pc' := 2) (lv' := [(1, .int 0), (0, .ref s0)]) hX dX5_fillsAll_1 rfl (by decide) rfl rfl ?_
  obtain ⟨N2, hf⟩ := hf
  have L2 : ∀ (K2_20 : ((Nat → Int32)) → Prop), (∀ (vs_2 : (Nat → Int32)), K2_20 vs_2 → J g X 0 0 (AIW g s0 376 vs_2) [(0, .ref s0)] [] 20) → ∀ (N2 : Nat) (x1_2 : Int32) (vs_2 : (Nat → Int32)), wp_X5_fillsAll_L2 K2_20 N2 x1_2 vs_2 → J g X 0 0 (AIW g s0 376 vs_2) [(0, .ref s0), (1, .int x1_2)] [] 2 := by
    intro K2_20 hK2_20 N2
    induction N2 with
    | zero => intro x1_2 vs_2 hf; exact False.elim hf
    | succ N2 ih2 =>
      intro x1_2 vs_2 hf
      refine j_iload_n (pc' := 3) hX dX5_fillsAll_2 rfl 1 rfl rfl ?_
      refine j_bipush (pc' := 5) (v := 6) hX dX5_fillsAll_3 (by decide) rfl ?_
      refine j_icmp_ge (tgt := 20) (pc' := 8) hX dX5_fillsAll_5 (by decide) rfl hf (fun hf => ?_) (fun hf => ?_)
      · refine J_sub (lv' := [(0, .ref s0)]) [0] rfl ?_
        exact hK2_20 vs_2 hf
      · refine j_aload_n (pc' := 9) hX dX5_fillsAll_8 rfl 0 rfl rfl ?_
        refine j_iload_n (pc' := 10) hX dX5_fillsAll_9 rfl 1 rfl rfl ?_
        refine j_callSM (pc' := 13) (k' := 0) (n' := 0) (As := [.ref s0, .int x1_2]) (rest := []) (stk := fun r10 => [.int r10]) (ws' := fun u10_1 => (AIW g s0 376 u10_1)) (wr := ([] : va_W)) hX hW (fun l => met_X5_fills l g s0 vs_2 x1_2 _ hf) rfl gX5_fillsAll_X5_fills yoX5_fills rfl ⟨Nat.le_of_ble_eq_true rfl, Nat.le_of_ble_eq_true rfl⟩ ⟨Nat.le_of_ble_eq_true rfl, Nat.le_of_ble_eq_true rfl, Nat.le_of_ble_eq_true rfl, Nat.le_of_ble_eq_true rfl⟩ [0] [] [0] rfl (by decide) rfl (by decide) (by decide) (fun _ => rfl) (by decide) (Nat.le_of_ble_eq_true rfl) rfl (fun _ => rfl) dX5_fillsAll_10 rfl (fun r10 u10_1 hf => ?_)
        refine j_pop (pc' := 14) hX dX5_fillsAll_13 rfl rfl ?_
        refine j_iinc (pc' := 17) (cst := 1) (v := (x1_2 + 1)) (lv' := [(1, .int (x1_2 + 1)), (0, .ref s0)]) hX dX5_fillsAll_14 (by decide) rfl 1 rfl (by decide) rfl rfl ?_
        refine j_goto (tgt := 2) hX dX5_fillsAll_17 (by decide) ?_
        refine J_sub (lv' := [(0, .ref s0), (1, .int (x1_2 + 1))]) [1, 0] rfl ?_
        exact ih2 (x1_2 + 1) u10_1 hf
  refine J_sub (lv' := [(0, .ref s0), (1, .int 0)]) [1, 0] rfl ?_
  refine L2 _ (fun e2 hf => ?_) N2 0 vs hf
  refine j_aload_n (pc' := 21) hX dX5_fillsAll_20 rfl 0 rfl rfl ?_
  refine j_callSR (pc' := 24) (As := [.ref s0]) (rest := []) (stk := fun r21 => [.int r21]) hX (fun l => met_X5_closed l g s0 e2 _ hf) rfl gX5_fillsAll_X5_closed yoX5_closed rfl ⟨Nat.le_of_ble_eq_true rfl, Nat.le_of_ble_eq_true rfl⟩ ⟨⟨Nat.le_of_ble_eq_true rfl, Nat.le_of_ble_eq_true rfl⟩, rfl, rfl⟩ [0] rfl (by decide) (Nat.le_of_ble_eq_true rfl) rfl (fun _ => rfl) dX5_fillsAll_21 rfl (fun r21 hf => ?_)
  exact j_iret hX hR dX5_fillsAll_24 ⟨_, _, rfl, hf, rfl⟩
def wp_X5_all_L4 (vs : (Nat → Int32)) (K4_24 : Int32 → Prop) : Nat → Int32 → Int32 → Prop
  | 0, _, _ => False
  | N4 + 1, x1_4, x2_4 =>
  ((6 ≤ x2_4 → K4_24 x1_4) ∧ (¬ 6 ≤ x2_4 → (wp_X5_pebbles vs x2_4 (fun r13 => (wp_X5_all_L4 vs K4_24 N4) (x1_4 + r13) (x2_4 + 1)))))
def wp_X5_all (vs : (Nat → Int32)) (post : Int32 → Prop) : Prop :=
  (∃ N : Nat, wp_X5_all_L4 vs (fun (e1 : Int32) => post e1) N 0 0)
theorem yoX5_all : yOk yX5_all 1 := by decide +kernel
set_option maxHeartbeats 4000000 in
set_option maxRecDepth 100000 in
theorem met_X5_all (l : Launch) (g : JG) (s0 : Nat) (vs : (Nat → Int32)) (post : Int32 → Prop) (hf : wp_X5_all vs post) : MetR l yX5_all wsX5_all ({ frames := 1, cells := 0, slots := 0, locals := 21 } : Room) [.ref s0] g (AIW g s0 376 vs) mkI post := by
  refine enterR (own := RX5) (cc := cX5_all) (nL := 3) (ret := (some .int)) (lv := [(0, .ref s0)]) (by decide) rfl rfl (Nat.le_of_ble_eq_true rfl) rfl (fun X hX hR => ?_)
  unfold wp_X5_all at hf
  refine j_iconst (pc' := 1) (v := 0) hX dX5_all_0 (by decide) rfl ?_
  refine j_istore_n (pc' := 2) (lv' := [(1, .int 0), (0, .ref s0)]) hX dX5_all_1 rfl (by decide) rfl rfl ?_
  refine j_iconst (pc' := 3) (v := 0) hX dX5_all_2 (by decide) rfl ?_
  refine j_istore_n (pc' := 4) (lv' := [(2, .int 0), (1, .int 0), (0, .ref s0)]) hX dX5_all_3 rfl (by decide) rfl rfl ?_
  obtain ⟨N4, hf⟩ := hf
  have L4 : ∀ (K4_24 : Int32 → Prop), (∀ (x1_4 : Int32), K4_24 x1_4 → J g X 0 0 (AIW g s0 376 vs) [(1, .int x1_4)] [] 24) → ∀ (N4 : Nat) (x1_4 : Int32) (x2_4 : Int32), wp_X5_all_L4 vs K4_24 N4 x1_4 x2_4 → J g X 0 0 (AIW g s0 376 vs) [(0, .ref s0), (1, .int x1_4), (2, .int x2_4)] [] 4 := by
    intro K4_24 hK4_24 N4
    induction N4 with
    | zero => intro x1_4 x2_4 hf; exact False.elim hf
    | succ N4 ih4 =>
      intro x1_4 x2_4 hf
      refine j_iload_n (pc' := 5) hX dX5_all_4 rfl 2 rfl rfl ?_
      refine j_bipush (pc' := 7) (v := 6) hX dX5_all_5 (by decide) rfl ?_
      refine j_icmp_ge (tgt := 24) (pc' := 10) hX dX5_all_7 (by decide) rfl hf (fun hf => ?_) (fun hf => ?_)
      · refine J_sub (lv' := [(1, .int x1_4)]) [1] rfl ?_
        exact hK4_24 x1_4 hf
      · refine j_iload_n (pc' := 11) hX dX5_all_10 rfl 1 rfl rfl ?_
        refine j_aload_n (pc' := 12) hX dX5_all_11 rfl 0 rfl rfl ?_
        refine j_iload_n (pc' := 13) hX dX5_all_12 rfl 2 rfl rfl ?_
        refine j_callSR (pc' := 16) (As := [.ref s0, .int x2_4]) (rest := [.int x1_4]) (stk := fun r13 => [.int r13, .int x1_4]) hX (fun l => met_X5_pebbles l g s0 vs x2_4 _ hf) rfl gX5_all_X5_pebbles yoX5_pebbles rfl ⟨Nat.le_of_ble_eq_true rfl, Nat.le_of_ble_eq_true rfl⟩ ⟨⟨Nat.le_of_ble_eq_true rfl, Nat.le_of_ble_eq_true rfl⟩, rfl, rfl⟩ [0] rfl (by decide) (Nat.le_of_ble_eq_true rfl) rfl (fun _ => rfl) dX5_all_13 rfl (fun r13 hf => ?_)
        refine j_iadd (pc' := 17) hX dX5_all_16 rfl ?_
        refine j_istore_n (pc' := 18) (lv' := [(1, .int (x1_4 + r13)), (0, .ref s0), (2, .int x2_4)]) hX dX5_all_17 rfl (by decide) rfl rfl ?_
        refine j_iinc (pc' := 21) (cst := 1) (v := (x2_4 + 1)) (lv' := [(2, .int (x2_4 + 1)), (1, .int (x1_4 + r13)), (0, .ref s0)]) hX dX5_all_18 (by decide) rfl 2 rfl (by decide) rfl rfl ?_
        refine j_goto (tgt := 4) hX dX5_all_21 (by decide) ?_
        refine J_sub (lv' := [(0, .ref s0), (1, .int (x1_4 + r13)), (2, .int (x2_4 + 1))]) [2, 1, 0] rfl ?_
        exact ih4 (x1_4 + r13) (x2_4 + 1) hf
  refine J_sub (lv' := [(0, .ref s0), (1, .int 0), (2, .int 0)]) [2, 1, 0] rfl ?_
  refine L4 _ (fun e1 hf => ?_) N4 0 0 hf
  refine j_iload_n (pc' := 25) hX dX5_all_24 rfl 0 rfl rfl ?_
  exact j_iret hX hR dX5_all_25 ⟨_, rfl, hf⟩
def wp_X5_joints (vs : (Nat → Int32)) (p1 : Int32) (post : Int32 → Prop) : Prop :=
  (wp_X5_pebbles vs p1 (fun r2 => ((r2 = 0 → post r2) ∧ (¬ r2 = 0 → (wp_X5_isClosed vs p1 (fun r12 => ((r12 = 0 → post (r2 + 1)) ∧ (¬ r12 = 0 → post r2))))))))
theorem yoX5_joints : yOk yX5_joints 2 := by decide +kernel
set_option maxHeartbeats 4000000 in
set_option maxRecDepth 100000 in
theorem met_X5_joints (l : Launch) (g : JG) (s0 : Nat) (vs : (Nat → Int32)) (p1 : Int32) (post : Int32 → Prop) (hf : wp_X5_joints vs p1 post) : MetR l yX5_joints wsX5_joints ({ frames := 3, cells := 0, slots := 0, locals := 66 } : Room) [.ref s0, .int p1] g (AIW g s0 376 vs) mkI post := by
  refine enterR (own := RX5) (cc := cX5_joints) (nL := 3) (ret := (some .int)) (lv := [(0, .ref s0), (1, .int p1)]) (by decide) rfl rfl (Nat.le_of_ble_eq_true rfl) rfl (fun X hX hR => ?_)
  unfold wp_X5_joints at hf
  refine j_aload_n (pc' := 1) hX dX5_joints_0 rfl 0 rfl rfl ?_
  refine j_iload_n (pc' := 2) hX dX5_joints_1 rfl 1 rfl rfl ?_
  refine j_callSR (pc' := 5) (As := [.ref s0, .int p1]) (rest := []) (stk := fun r2 => [.int r2]) hX (fun l => met_X5_pebbles l g s0 vs p1 _ hf) rfl gX5_joints_X5_pebbles yoX5_pebbles rfl ⟨Nat.le_of_ble_eq_true rfl, Nat.le_of_ble_eq_true rfl⟩ ⟨⟨Nat.le_of_ble_eq_true rfl, Nat.le_of_ble_eq_true rfl⟩, rfl, rfl⟩ [0] rfl (by decide) (Nat.le_of_ble_eq_true rfl) rfl (fun _ => rfl) dX5_joints_2 rfl (fun r2 hf => ?_)
  refine j_istore_n (pc' := 6) (lv' := [(2, .int r2), (0, .ref s0), (1, .int p1)]) hX dX5_joints_5 rfl (by decide) rfl rfl ?_
  refine j_iload_n (pc' := 7) hX dX5_joints_6 rfl 0 rfl rfl ?_
  refine j_if_eq (tgt := 18) (pc' := 10) hX dX5_joints_7 (by decide) rfl hf (fun hf => ?_) (fun hf => ?_)
  · refine j_iload_n (pc' := 19) hX dX5_joints_18 rfl 0 rfl rfl ?_
    refine j_goto (tgt := 25) hX dX5_joints_19 (by decide) ?_
    exact j_iret hX hR dX5_joints_25 ⟨_, rfl, hf⟩
  · refine j_aload_n (pc' := 11) hX dX5_joints_10 rfl 1 rfl rfl ?_
    refine j_iload_n (pc' := 12) hX dX5_joints_11 rfl 2 rfl rfl ?_
    refine j_callSR (pc' := 15) (As := [.ref s0, .int p1]) (rest := []) (stk := fun r12 => [.int r12]) hX (fun l => met_X5_isClosed l g s0 vs p1 _ hf) rfl gX5_joints_X5_isClosed yoX5_isClosed rfl ⟨Nat.le_of_ble_eq_true rfl, Nat.le_of_ble_eq_true rfl⟩ ⟨⟨Nat.le_of_ble_eq_true rfl, Nat.le_of_ble_eq_true rfl⟩, rfl, rfl⟩ [0] rfl (by decide) (Nat.le_of_ble_eq_true rfl) rfl (fun _ => rfl) dX5_joints_12 rfl (fun r12 hf => ?_)
    refine j_if_eq (tgt := 22) (pc' := 18) hX dX5_joints_15 (by decide) rfl hf (fun hf => ?_) (fun hf => ?_)
    · refine j_iload_n (pc' := 23) hX dX5_joints_22 rfl 0 rfl rfl ?_
      refine j_iconst (pc' := 24) (v := 1) hX dX5_joints_23 (by decide) rfl ?_
      refine j_iadd (pc' := 25) hX dX5_joints_24 rfl ?_
      exact j_iret hX hR dX5_joints_25 ⟨_, rfl, hf⟩
    · refine j_iload_n (pc' := 19) hX dX5_joints_18 rfl 0 rfl rfl ?_
      refine j_goto (tgt := 25) hX dX5_joints_19 (by decide) ?_
      exact j_iret hX hR dX5_joints_25 ⟨_, rfl, hf⟩
def wp_X5_meeting_L5 (vs : (Nat → Int32)) (p1 : Int32) (p2 : Int32) (K5_77 : Int32 → Prop) : Nat → Int32 → Int32 → Prop
  | 0, _, _ => False
  | N5 + 1, x3_5, x4_5 =>
  (wp_X5_cells vs p1 (fun r9 => ((r9 ≤ x4_5 → K5_77 x3_5) ∧ (¬ r9 ≤ x4_5 → ((p1 ≤ 0 → K5_77 x3_5) ∧ (¬ p1 ≤ 0 → (wp_X5_isJoint vs p1 x4_5 (fun r23 => ((r23 = 0 → (wp_X5_meeting_L5 vs p1 p2 K5_77 N5) x3_5 (x4_5 + 1)) ∧ (¬ r23 = 0 → ((p2 = 0 → (wp_X5_meets vs p1 x4_5 (fun r55 => (wp_X5_isJoint vs (p1 - 1) r55 (fun r58 => ((r58 = 0 → (wp_X5_meeting_L5 vs p1 p2 K5_77 N5) (x3_5 + 0) (x4_5 + 1)) ∧ (¬ r58 = 0 → (wp_X5_meeting_L5 vs p1 p2 K5_77 N5) (x3_5 + 1) (x4_5 + 1)))))))) ∧ (¬ p2 = 0 → (wp_X5_runs vs p1 x4_5 (fun r38 => ((r38 = 0 → (wp_X5_meeting_L5 vs p1 p2 K5_77 N5) (x3_5 + 0) (x4_5 + 1)) ∧ (¬ r38 = 0 → (wp_X5_meeting_L5 vs p1 p2 K5_77 N5) (x3_5 + 1) (x4_5 + 1)))))))))))))))))
def wp_X5_meeting (vs : (Nat → Int32)) (p1 : Int32) (p2 : Int32) (post : Int32 → Prop) : Prop :=
  (∃ N : Nat, wp_X5_meeting_L5 vs p1 p2 (fun (e1 : Int32) => post e1) N 0 1)
theorem yoX5_meeting : yOk yX5_meeting 3 := by decide +kernel
set_option maxHeartbeats 4000000 in
set_option maxRecDepth 100000 in
theorem met_X5_meeting (l : Launch) (g : JG) (s0 : Nat) (vs : (Nat → Int32)) (p1 : Int32) (p2 : Int32) (post : Int32 → Prop) (hf : wp_X5_meeting vs p1 p2 post) : MetR l yX5_meeting wsX5_meeting ({ frames := 3, cells := 0, slots := 0, locals := 69 } : Room) [.ref s0, .int p1, .int p2] g (AIW g s0 376 vs) mkI post := by
  refine enterR (own := RX5) (cc := cX5_meeting) (nL := 5) (ret := (some .int)) (lv := [(0, .ref s0), (1, .int p1), (2, .int p2)]) (by decide) rfl rfl (Nat.le_of_ble_eq_true rfl) rfl (fun X hX hR => ?_)
  unfold wp_X5_meeting at hf
  refine j_iconst (pc' := 1) (v := 0) hX dX5_meeting_0 (by decide) rfl ?_
  refine j_istore_n (pc' := 2) (lv' := [(3, .int 0), (0, .ref s0), (1, .int p1), (2, .int p2)]) hX dX5_meeting_1 rfl (by decide) rfl rfl ?_
  refine j_iconst (pc' := 3) (v := 1) hX dX5_meeting_2 (by decide) rfl ?_
  refine j_istore (pc' := 5) (lv' := [(4, .int 1), (3, .int 0), (0, .ref s0), (1, .int p1), (2, .int p2)]) hX dX5_meeting_3 (by decide) rfl rfl ?_
  obtain ⟨N5, hf⟩ := hf
  have L5 : ∀ (K5_77 : Int32 → Prop), (∀ (x3_5 : Int32), K5_77 x3_5 → J g X 0 0 (AIW g s0 376 vs) [(3, .int x3_5)] [] 77) → ∀ (N5 : Nat) (x3_5 : Int32) (x4_5 : Int32), wp_X5_meeting_L5 vs p1 p2 K5_77 N5 x3_5 x4_5 → J g X 0 0 (AIW g s0 376 vs) [(0, .ref s0), (1, .int p1), (2, .int p2), (3, .int x3_5), (4, .int x4_5)] [] 5 := by
    intro K5_77 hK5_77 N5
    induction N5 with
    | zero => intro x3_5 x4_5 hf; exact False.elim hf
    | succ N5 ih5 =>
      intro x3_5 x4_5 hf
      refine j_iload (pc' := 7) hX dX5_meeting_5 4 rfl rfl ?_
      refine j_aload_n (pc' := 8) hX dX5_meeting_7 rfl 0 rfl rfl ?_
      refine j_iload_n (pc' := 9) hX dX5_meeting_8 rfl 1 rfl rfl ?_
      refine j_callSR (pc' := 12) (As := [.ref s0, .int p1]) (rest := [.int x4_5]) (stk := fun r9 => [.int r9, .int x4_5]) hX (fun l => met_X5_cells l g s0 vs p1 _ hf) rfl gX5_meeting_X5_cells yoX5_cells rfl ⟨Nat.le_of_ble_eq_true rfl, Nat.le_of_ble_eq_true rfl⟩ ⟨⟨Nat.le_of_ble_eq_true rfl, Nat.le_of_ble_eq_true rfl⟩, rfl, rfl⟩ [0] rfl (by decide) (Nat.le_of_ble_eq_true rfl) rfl (fun _ => rfl) dX5_meeting_9 rfl (fun r9 hf => ?_)
      refine j_icmp_ge (tgt := 77) (pc' := 15) hX dX5_meeting_12 (by decide) rfl hf (fun hf => ?_) (fun hf => ?_)
      · refine J_sub (lv' := [(3, .int x3_5)]) [3] rfl ?_
        exact hK5_77 x3_5 hf
      · refine j_iload_n (pc' := 16) hX dX5_meeting_15 rfl 1 rfl rfl ?_
        refine j_if_le (tgt := 77) (pc' := 19) hX dX5_meeting_16 (by decide) rfl hf (fun hf => ?_) (fun hf => ?_)
        · refine J_sub (lv' := [(3, .int x3_5)]) [3] rfl ?_
          exact hK5_77 x3_5 hf
        · refine j_aload_n (pc' := 20) hX dX5_meeting_19 rfl 0 rfl rfl ?_
          refine j_iload_n (pc' := 21) hX dX5_meeting_20 rfl 1 rfl rfl ?_
          refine j_iload (pc' := 23) hX dX5_meeting_21 4 rfl rfl ?_
          refine j_callSR (pc' := 26) (As := [.ref s0, .int p1, .int x4_5]) (rest := []) (stk := fun r23 => [.int r23]) hX (fun l => met_X5_isJoint l g s0 vs p1 x4_5 _ hf) rfl gX5_meeting_X5_isJoint yoX5_isJoint rfl ⟨Nat.le_of_ble_eq_true rfl, Nat.le_of_ble_eq_true rfl⟩ ⟨⟨Nat.le_of_ble_eq_true rfl, Nat.le_of_ble_eq_true rfl⟩, rfl, rfl⟩ [0] rfl (by decide) (Nat.le_of_ble_eq_true rfl) rfl (fun _ => rfl) dX5_meeting_23 rfl (fun r23 hf => ?_)
          refine j_if_eq (tgt := 71) (pc' := 29) hX dX5_meeting_26 (by decide) rfl hf (fun hf => ?_) (fun hf => ?_)
          · refine j_iinc (pc' := 74) (cst := 1) (v := (x4_5 + 1)) (lv' := [(4, .int (x4_5 + 1)), (0, .ref s0), (1, .int p1), (2, .int p2), (3, .int x3_5)]) hX dX5_meeting_71 (by decide) rfl 4 rfl (by decide) rfl rfl ?_
            refine j_goto (tgt := 5) hX dX5_meeting_74 (by decide) ?_
            refine J_sub (lv' := [(0, .ref s0), (1, .int p1), (2, .int p2), (3, .int x3_5), (4, .int (x4_5 + 1))]) [1, 2, 3, 4, 0] rfl ?_
            exact ih5 x3_5 (x4_5 + 1) hf
          · refine j_iload_n (pc' := 30) hX dX5_meeting_29 rfl 3 rfl rfl ?_
            refine j_iload_n (pc' := 31) hX dX5_meeting_30 rfl 2 rfl rfl ?_
            refine j_if_eq (tgt := 47) (pc' := 34) hX dX5_meeting_31 (by decide) rfl hf (fun hf => ?_) (fun hf => ?_)
            · refine j_aload_n (pc' := 48) hX dX5_meeting_47 rfl 0 rfl rfl ?_
              refine j_iload_n (pc' := 49) hX dX5_meeting_48 rfl 1 rfl rfl ?_
              refine j_iconst (pc' := 50) (v := 1) hX dX5_meeting_49 (by decide) rfl ?_
              refine j_isub (pc' := 51) hX dX5_meeting_50 rfl ?_
              refine j_aload_n (pc' := 52) hX dX5_meeting_51 rfl 0 rfl rfl ?_
              refine j_iload_n (pc' := 53) hX dX5_meeting_52 rfl 1 rfl rfl ?_
              refine j_iload (pc' := 55) hX dX5_meeting_53 4 rfl rfl ?_
              refine j_callSR (pc' := 58) (As := [.ref s0, .int p1, .int x4_5]) (rest := [.int (p1 - 1), .ref s0, .int x3_5]) (stk := fun r55 => [.int r55, .int (p1 - 1), .ref s0, .int x3_5]) hX (fun l => met_X5_meets l g s0 vs p1 x4_5 _ hf) rfl gX5_meeting_X5_meets yoX5_meets rfl ⟨Nat.le_of_ble_eq_true rfl, Nat.le_of_ble_eq_true rfl⟩ ⟨⟨Nat.le_of_ble_eq_true rfl, Nat.le_of_ble_eq_true rfl⟩, rfl, rfl⟩ [0] rfl (by decide) (Nat.le_of_ble_eq_true rfl) rfl (fun _ => rfl) dX5_meeting_55 rfl (fun r55 hf => ?_)
              refine j_callSR (pc' := 61) (As := [.ref s0, .int (p1 - 1), .int r55]) (rest := [.int x3_5]) (stk := fun r58 => [.int r58, .int x3_5]) hX (fun l => met_X5_isJoint l g s0 vs (p1 - 1) r55 _ hf) rfl gX5_meeting_X5_isJoint yoX5_isJoint rfl ⟨Nat.le_of_ble_eq_true rfl, Nat.le_of_ble_eq_true rfl⟩ ⟨⟨Nat.le_of_ble_eq_true rfl, Nat.le_of_ble_eq_true rfl⟩, rfl, rfl⟩ [0] rfl (by decide) (Nat.le_of_ble_eq_true rfl) rfl (fun _ => rfl) dX5_meeting_58 rfl (fun r58 hf => ?_)
              refine j_if_eq (tgt := 68) (pc' := 64) hX dX5_meeting_61 (by decide) rfl hf (fun hf => ?_) (fun hf => ?_)
              · refine j_iconst (pc' := 69) (v := 0) hX dX5_meeting_68 (by decide) rfl ?_
                refine j_iadd (pc' := 70) hX dX5_meeting_69 rfl ?_
                refine j_istore_n (pc' := 71) (lv' := [(3, .int (x3_5 + 0)), (0, .ref s0), (1, .int p1), (2, .int p2), (4, .int x4_5)]) hX dX5_meeting_70 rfl (by decide) rfl rfl ?_
                refine j_iinc (pc' := 74) (cst := 1) (v := (x4_5 + 1)) (lv' := [(4, .int (x4_5 + 1)), (3, .int (x3_5 + 0)), (0, .ref s0), (1, .int p1), (2, .int p2)]) hX dX5_meeting_71 (by decide) rfl 4 rfl (by decide) rfl rfl ?_
                refine j_goto (tgt := 5) hX dX5_meeting_74 (by decide) ?_
                refine J_sub (lv' := [(0, .ref s0), (1, .int p1), (2, .int p2), (3, .int (x3_5 + 0)), (4, .int (x4_5 + 1))]) [2, 3, 4, 1, 0] rfl ?_
                exact ih5 (x3_5 + 0) (x4_5 + 1) hf
              · refine j_iconst (pc' := 65) (v := 1) hX dX5_meeting_64 (by decide) rfl ?_
                refine j_goto (tgt := 69) hX dX5_meeting_65 (by decide) ?_
                refine j_iadd (pc' := 70) hX dX5_meeting_69 rfl ?_
                refine j_istore_n (pc' := 71) (lv' := [(3, .int (x3_5 + 1)), (0, .ref s0), (1, .int p1), (2, .int p2), (4, .int x4_5)]) hX dX5_meeting_70 rfl (by decide) rfl rfl ?_
                refine j_iinc (pc' := 74) (cst := 1) (v := (x4_5 + 1)) (lv' := [(4, .int (x4_5 + 1)), (3, .int (x3_5 + 1)), (0, .ref s0), (1, .int p1), (2, .int p2)]) hX dX5_meeting_71 (by decide) rfl 4 rfl (by decide) rfl rfl ?_
                refine j_goto (tgt := 5) hX dX5_meeting_74 (by decide) ?_
                refine J_sub (lv' := [(0, .ref s0), (1, .int p1), (2, .int p2), (3, .int (x3_5 + 1)), (4, .int (x4_5 + 1))]) [2, 3, 4, 1, 0] rfl ?_
                exact ih5 (x3_5 + 1) (x4_5 + 1) hf
            · refine j_aload_n (pc' := 35) hX dX5_meeting_34 rfl 0 rfl rfl ?_
              refine j_iload_n (pc' := 36) hX dX5_meeting_35 rfl 1 rfl rfl ?_
              refine j_iload (pc' := 38) hX dX5_meeting_36 4 rfl rfl ?_
              refine j_callSR (pc' := 41) (As := [.ref s0, .int p1, .int x4_5]) (rest := [.int x3_5]) (stk := fun r38 => [.int r38, .int x3_5]) hX (fun l => met_X5_runs l g s0 vs p1 x4_5 _ hf) rfl gX5_meeting_X5_runs yoX5_runs rfl ⟨Nat.le_of_ble_eq_true rfl, Nat.le_of_ble_eq_true rfl⟩ ⟨⟨Nat.le_of_ble_eq_true rfl, Nat.le_of_ble_eq_true rfl⟩, rfl, rfl⟩ [0] rfl (by decide) (Nat.le_of_ble_eq_true rfl) rfl (fun _ => rfl) dX5_meeting_38 rfl (fun r38 hf => ?_)
              refine j_if_eq (tgt := 68) (pc' := 44) hX dX5_meeting_41 (by decide) rfl hf (fun hf => ?_) (fun hf => ?_)
              · refine j_iconst (pc' := 69) (v := 0) hX dX5_meeting_68 (by decide) rfl ?_
                refine j_iadd (pc' := 70) hX dX5_meeting_69 rfl ?_
                refine j_istore_n (pc' := 71) (lv' := [(3, .int (x3_5 + 0)), (0, .ref s0), (1, .int p1), (2, .int p2), (4, .int x4_5)]) hX dX5_meeting_70 rfl (by decide) rfl rfl ?_
                refine j_iinc (pc' := 74) (cst := 1) (v := (x4_5 + 1)) (lv' := [(4, .int (x4_5 + 1)), (3, .int (x3_5 + 0)), (0, .ref s0), (1, .int p1), (2, .int p2)]) hX dX5_meeting_71 (by decide) rfl 4 rfl (by decide) rfl rfl ?_
                refine j_goto (tgt := 5) hX dX5_meeting_74 (by decide) ?_
                refine J_sub (lv' := [(0, .ref s0), (1, .int p1), (2, .int p2), (3, .int (x3_5 + 0)), (4, .int (x4_5 + 1))]) [2, 3, 4, 1, 0] rfl ?_
                exact ih5 (x3_5 + 0) (x4_5 + 1) hf
              · refine j_goto (tgt := 64) hX dX5_meeting_44 (by decide) ?_
                refine j_iconst (pc' := 65) (v := 1) hX dX5_meeting_64 (by decide) rfl ?_
                refine j_goto (tgt := 69) hX dX5_meeting_65 (by decide) ?_
                refine j_iadd (pc' := 70) hX dX5_meeting_69 rfl ?_
                refine j_istore_n (pc' := 71) (lv' := [(3, .int (x3_5 + 1)), (0, .ref s0), (1, .int p1), (2, .int p2), (4, .int x4_5)]) hX dX5_meeting_70 rfl (by decide) rfl rfl ?_
                refine j_iinc (pc' := 74) (cst := 1) (v := (x4_5 + 1)) (lv' := [(4, .int (x4_5 + 1)), (3, .int (x3_5 + 1)), (0, .ref s0), (1, .int p1), (2, .int p2)]) hX dX5_meeting_71 (by decide) rfl 4 rfl (by decide) rfl rfl ?_
                refine j_goto (tgt := 5) hX dX5_meeting_74 (by decide) ?_
                refine J_sub (lv' := [(0, .ref s0), (1, .int p1), (2, .int p2), (3, .int (x3_5 + 1)), (4, .int (x4_5 + 1))]) [2, 3, 4, 1, 0] rfl ?_
                exact ih5 (x3_5 + 1) (x4_5 + 1) hf
  refine J_sub (lv' := [(0, .ref s0), (1, .int p1), (2, .int p2), (3, .int 0), (4, .int 1)]) [2, 3, 4, 1, 0] rfl ?_
  refine L5 _ (fun e1 hf => ?_) N5 0 1 hf
  refine j_iload_n (pc' := 78) hX dX5_meeting_77 rfl 0 rfl rfl ?_
  exact j_iret hX hR dX5_meeting_78 ⟨_, rfl, hf⟩
