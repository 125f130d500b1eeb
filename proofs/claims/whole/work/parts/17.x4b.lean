def wp_X4_course (vp : Pc) (p0 : Int32) (p1 : Int32) (post : Int32 → Prop) (pX : String → Prop) : Prop :=
  (wp_X4_needCourse p0 (((p1 < 0 → (wp_X4_needArgument 0 ((wp_X2_property vp.1 p0 p1 (fun r28 => post r28))) pX)) ∧ (¬ p1 < 0 → ((7 ≤ p1 → (wp_X4_needArgument 0 ((wp_X2_property vp.1 p0 p1 (fun r28 => post r28))) pX)) ∧ (¬ 7 ≤ p1 → (wp_X4_needArgument 1 ((wp_X2_property vp.1 p0 p1 (fun r28 => post r28))) pX)))))) pX)
theorem yoX4_course : yOk yX4_course 2 := by decide +kernel
set_option maxHeartbeats 4000000 in
set_option maxRecDepth 100000 in
theorem met_X4_course (l : Launch) (g : JG) (pa : Nat → Nat) (vp : Pc) (p0 : Int32) (p1 : Int32) (post : Int32 → Prop) (pX : String → Prop) (hf : wp_X4_course vp p0 p1 post pX) : MetX l yX4_course wsX4_course ({ frames := 8, cells := 2, slots := 12, locals := 130 } : Room) [.ref (pa 0), .int p0, .int p1] g ((PcB g pa vp).flatten) mkI (fun r (_ : Unit) => post r) (fun u : Unit => ((PcB g pa vp).flatten)) pX := by
  have hin4 : ∀ w ∈ u_ws RX4 TX4 5, w ∈ wsX4_course := by decide +kernel
  have hl_10 : Cond.fieldLink RX4 10 (TX4 0).1 (TX4 0).2.1 (TX4 0).2.2.1 ∈ wsX4_course := by decide +kernel
  refine enterX (own := RX4) (cc := cX4_course) (nL := 3) (ret := (some .int)) (lv := [(0, .ref (pa 0)), (1, .int p0), (2, .int p1)]) (by decide) rfl rfl (Nat.le_of_ble_eq_true rfl) rfl (fun X hX hW hE hR hO => ?_)
  unfold wp_X4_course at hf
  refine j_iload_n (pc' := 1) hX dX4_course_0 rfl 1 rfl rfl ?_
  refine j_callSXb (nb := 12) (pc' := 4) (k' := 1) (n' := 6) (As := [.int p0]) (rest := []) (stk := fun _ => []) (bs := (PcB g pa vp)) (cs := ([] : List va_W)) (rs := (List.map (fun i : Nat => List.getD (PcB g pa vp) i []) [0, 1, 2, 3, 4, 5, 6, 7, 8, 9, 10, 11])) (ws' := fun _ => ((PcB g pa vp).flatten)) (bs' := fun _ => (PcB g pa vp)) (d1 := fun _ => ([] : List va_W)) hX hW hE (fun l => met_X4_needCourse l g p0 _ _ hf) rfl gX4_course_X4_needCourse yoX4_needCourse rfl ⟨Nat.le_of_ble_eq_true rfl, Nat.le_of_ble_eq_true rfl⟩ ⟨Nat.le_of_ble_eq_true rfl, Nat.le_of_ble_eq_true rfl, Nat.le_of_ble_eq_true rfl, Nat.le_of_ble_eq_true rfl⟩ [0, 1, 2, 3, 4, 5, 6, 7, 8, 9, 10, 11] rfl rfl rfl (by decide) rfl (fun _ => rfl) (fun _ => rfl) (fun _ => rfl) (fun _ => rfl) (Nat.le_of_ble_eq_true rfl) rfl (fun _ => rfl) dX4_course_1 rfl (fun _ h => j_out hO (Nat.le_of_ble_eq_true rfl) (Nat.le_of_ble_eq_true rfl) rfl h) (fun _ _ hf => ?_)
  refine j_iload_n (pc' := 5) hX dX4_course_4 rfl 2 rfl rfl ?_
  refine j_if_lt (tgt := 18) (pc' := 8) hX dX4_course_5 (by decide) rfl hf (fun hf => ?_) (fun hf => ?_)
  · refine j_iconst (pc' := 19) (v := 0) hX dX4_course_18 (by decide) rfl ?_
    refine j_callSXb (nb := 12) (pc' := 22) (k' := 2) (n' := 12) (As := [.int 0]) (rest := []) (stk := fun _ => []) (bs := (PcB g pa vp)) (cs := ([] : List va_W)) (rs := (List.map (fun i : Nat => List.getD (PcB g pa vp) i []) [0, 1, 2, 3, 4, 5, 6, 7, 8, 9, 10, 11])) (ws' := fun _ => ((PcB g pa vp).flatten)) (bs' := fun _ => (PcB g pa vp)) (d1 := fun _ => ([] : List va_W)) hX hW hE (fun l => met_X4_needArgument l g 0 _ _ hf) rfl gX4_course_X4_needArgument yoX4_needArgument rfl ⟨Nat.le_of_ble_eq_true rfl, Nat.le_of_ble_eq_true rfl⟩ ⟨Nat.le_of_ble_eq_true rfl, Nat.le_of_ble_eq_true rfl, Nat.le_of_ble_eq_true rfl, Nat.le_of_ble_eq_true rfl⟩ [0, 1, 2, 3, 4, 5, 6, 7, 8, 9, 10, 11] rfl rfl rfl (by decide) rfl (fun _ => rfl) (fun _ => rfl) (fun _ => rfl) (fun _ => rfl) (Nat.le_of_ble_eq_true rfl) rfl (fun _ => rfl) dX4_course_19 rfl (fun _ h => j_out hO (Nat.le_of_ble_eq_true rfl) (Nat.le_of_ble_eq_true rfl) rfl h) (fun _ _ hf => ?_)
    refine j_aload_n (pc' := 23) hX dX4_course_22 rfl 0 rfl rfl ?_
    refine j_get (ci := 4) (pc' := 26) hX hin4 rfl 0 rfl 0 (by decide) hl_10 rfl dX4_course_23 rfl ?_
    refine j_iload_n (pc' := 27) hX dX4_course_26 rfl 1 rfl rfl ?_
    refine j_iload_n (pc' := 28) hX dX4_course_27 rfl 2 rfl rfl ?_
    refine j_callVRb (ci := 2) (nb := 12) (pc' := 31) (As := [.int p0, .int p1]) (rest := []) (stk := fun r28 => [.int r28]) (bs := (PcB g pa vp)) (cs := ([(MoW g (pa 1) (pa 2) (pa 3) (pa 4) (pa 5) (vp.1))])) (rs := (List.map (fun i : Nat => List.getD (PcB g pa vp) i []) [0, 2, 3, 4, 5, 6, 7, 8, 9, 10, 11])) hX (fun l => met_X2_property l g (pa 1) (pa 2) (pa 3) (pa 4) (pa 5) vp.1 p0 p1 _ hf) rfl gX4_course_X2_property yoX2_property rfl ⟨Nat.le_of_ble_eq_true rfl, Nat.le_of_ble_eq_true rfl⟩ ⟨⟨Nat.le_of_ble_eq_true rfl, Nat.le_of_ble_eq_true rfl⟩, rfl, rfl⟩ 0 rfl rfl [0, 2, 3, 4, 5, 6, 7, 8, 9, 10, 11, 1] rfl rfl rfl (by decide) rfl (Nat.le_of_ble_eq_true rfl) rfl (fun _ => rfl) dX4_course_28 rfl (fun r28 hf => ?_)
    refine J_widen (k' := 2) (n' := 12) (Nat.le_of_ble_eq_true rfl) (Nat.le_of_ble_eq_true rfl) ?_
    exact j_iret hX hR dX4_course_31 ⟨_, (), rfl, hf, rfl⟩
  · refine j_iload_n (pc' := 9) hX dX4_course_8 rfl 2 rfl rfl ?_
    refine j_bipush (pc' := 11) (v := 7) hX dX4_course_9 (by decide) rfl ?_
    refine j_icmp_ge (tgt := 18) (pc' := 14) hX dX4_course_11 (by decide) rfl hf (fun hf => ?_) (fun hf => ?_)
    · refine j_iconst (pc' := 19) (v := 0) hX dX4_course_18 (by decide) rfl ?_
      refine j_callSXb (nb := 12) (pc' := 22) (k' := 2) (n' := 12) (As := [.int 0]) (rest := []) (stk := fun _ => []) (bs := (PcB g pa vp)) (cs := ([] : List va_W)) (rs := (List.map (fun i : Nat => List.getD (PcB g pa vp) i []) [0, 1, 2, 3, 4, 5, 6, 7, 8, 9, 10, 11])) (ws' := fun _ => ((PcB g pa vp).flatten)) (bs' := fun _ => (PcB g pa vp)) (d1 := fun _ => ([] : List va_W)) hX hW hE (fun l => met_X4_needArgument l g 0 _ _ hf) rfl gX4_course_X4_needArgument yoX4_needArgument rfl ⟨Nat.le_of_ble_eq_true rfl, Nat.le_of_ble_eq_true rfl⟩ ⟨Nat.le_of_ble_eq_true rfl, Nat.le_of_ble_eq_true rfl, Nat.le_of_ble_eq_true rfl, Nat.le_of_ble_eq_true rfl⟩ [0, 1, 2, 3, 4, 5, 6, 7, 8, 9, 10, 11] rfl rfl rfl (by decide) rfl (fun _ => rfl) (fun _ => rfl) (fun _ => rfl) (fun _ => rfl) (Nat.le_of_ble_eq_true rfl) rfl (fun _ => rfl) dX4_course_19 rfl (fun _ h => j_out hO (Nat.le_of_ble_eq_true rfl) (Nat.le_of_ble_eq_true rfl) rfl h) (fun _ _ hf => ?_)
      refine j_aload_n (pc' := 23) hX dX4_course_22 rfl 0 rfl rfl ?_
      refine j_get (ci := 4) (pc' := 26) hX hin4 rfl 0 rfl 0 (by decide) hl_10 rfl dX4_course_23 rfl ?_
      refine j_iload_n (pc' := 27) hX dX4_course_26 rfl 1 rfl rfl ?_
      refine j_iload_n (pc' := 28) hX dX4_course_27 rfl 2 rfl rfl ?_
      refine j_callVRb (ci := 2) (nb := 12) (pc' := 31) (As := [.int p0, .int p1]) (rest := []) (stk := fun r28 => [.int r28]) (bs := (PcB g pa vp)) (cs := ([(MoW g (pa 1) (pa 2) (pa 3) (pa 4) (pa 5) (vp.1))])) (rs := (List.map (fun i : Nat => List.getD (PcB g pa vp) i []) [0, 2, 3, 4, 5, 6, 7, 8, 9, 10, 11])) hX (fun l => met_X2_property l g (pa 1) (pa 2) (pa 3) (pa 4) (pa 5) vp.1 p0 p1 _ hf) rfl gX4_course_X2_property yoX2_property rfl ⟨Nat.le_of_ble_eq_true rfl, Nat.le_of_ble_eq_true rfl⟩ ⟨⟨Nat.le_of_ble_eq_true rfl, Nat.le_of_ble_eq_true rfl⟩, rfl, rfl⟩ 0 rfl rfl [0, 2, 3, 4, 5, 6, 7, 8, 9, 10, 11, 1] rfl rfl rfl (by decide) rfl (Nat.le_of_ble_eq_true rfl) rfl (fun _ => rfl) dX4_course_28 rfl (fun r28 hf => ?_)
      refine J_widen (k' := 2) (n' := 12) (Nat.le_of_ble_eq_true rfl) (Nat.le_of_ble_eq_true rfl) ?_
      exact j_iret hX hR dX4_course_31 ⟨_, (), rfl, hf, rfl⟩
    · refine j_iconst (pc' := 15) (v := 1) hX dX4_course_14 (by decide) rfl ?_
      refine j_goto (tgt := 19) hX dX4_course_15 (by decide) ?_
      refine j_callSXb (nb := 12) (pc' := 22) (k' := 2) (n' := 12) (As := [.int 1]) (rest := []) (stk := fun _ => []) (bs := (PcB g pa vp)) (cs := ([] : List va_W)) (rs := (List.map (fun i : Nat => List.getD (PcB g pa vp) i []) [0, 1, 2, 3, 4, 5, 6, 7, 8, 9, 10, 11])) (ws' := fun _ => ((PcB g pa vp).flatten)) (bs' := fun _ => (PcB g pa vp)) (d1 := fun _ => ([] : List va_W)) hX hW hE (fun l => met_X4_needArgument l g 1 _ _ hf) rfl gX4_course_X4_needArgument yoX4_needArgument rfl ⟨Nat.le_of_ble_eq_true rfl, Nat.le_of_ble_eq_true rfl⟩ ⟨Nat.le_of_ble_eq_true rfl, Nat.le_of_ble_eq_true rfl, Nat.le_of_ble_eq_true rfl, Nat.le_of_ble_eq_true rfl⟩ [0, 1, 2, 3, 4, 5, 6, 7, 8, 9, 10, 11] rfl rfl rfl (by decide) rfl (fun _ => rfl) (fun _ => rfl) (fun _ => rfl) (fun _ => rfl) (Nat.le_of_ble_eq_true rfl) rfl (fun _ => rfl) dX4_course_19 rfl (fun _ h => j_out hO (Nat.le_of_ble_eq_true rfl) (Nat.le_of_ble_eq_true rfl) rfl h) (fun _ _ hf => ?_)
      refine j_aload_n (pc' := 23) hX dX4_course_22 rfl 0 rfl rfl ?_
      refine j_get (ci := 4) (pc' := 26) hX hin4 rfl 0 rfl 0 (by decide) hl_10 rfl dX4_course_23 rfl ?_
      refine j_iload_n (pc' := 27) hX dX4_course_26 rfl 1 rfl rfl ?_
      refine j_iload_n (pc' := 28) hX dX4_course_27 rfl 2 rfl rfl ?_
      refine j_callVRb (ci := 2) (nb := 12) (pc' := 31) (As := [.int p0, .int p1]) (rest := []) (stk := fun r28 => [.int r28]) (bs := (PcB g pa vp)) (cs := ([(MoW g (pa 1) (pa 2) (pa 3) (pa 4) (pa 5) (vp.1))])) (rs := (List.map (fun i : Nat => List.getD (PcB g pa vp) i []) [0, 2, 3, 4, 5, 6, 7, 8, 9, 10, 11])) hX (fun l => met_X2_property l g (pa 1) (pa 2) (pa 3) (pa 4) (pa 5) vp.1 p0 p1 _ hf) rfl gX4_course_X2_property yoX2_property rfl ⟨Nat.le_of_ble_eq_true rfl, Nat.le_of_ble_eq_true rfl⟩ ⟨⟨Nat.le_of_ble_eq_true rfl, Nat.le_of_ble_eq_true rfl⟩, rfl, rfl⟩ 0 rfl rfl [0, 2, 3, 4, 5, 6, 7, 8, 9, 10, 11, 1] rfl rfl rfl (by decide) rfl (Nat.le_of_ble_eq_true rfl) rfl (fun _ => rfl) dX4_course_28 rfl (fun r28 hf => ?_)
      refine J_widen (k' := 2) (n' := 12) (Nat.le_of_ble_eq_true rfl) (Nat.le_of_ble_eq_true rfl) ?_
      exact j_iret hX hR dX4_course_31 ⟨_, (), rfl, hf, rfl⟩
def wp_X4_cell_c42 (vp : Pc) (p0 : Int32) (p1 : Int32) (p2 : Int32) (post : Int32 → Prop) (pX : String → Prop) (z0_42 : Int32) : Prop :=
  (wp_X4_needArgument z0_42 (((p2 = 0 → (wp_X2_sizeAt vp.1 p0 p1 (fun r78 => post r78))) ∧ (¬ p2 = 0 → ((p2 = 1 → (wp_X2_hasJoint vp.1 p0 p1 (fun r88 => (wp_X4_numberOf r88 (fun r91 => post r91))))) ∧ (¬ p2 = 1 → ((p2 = 2 → (wp_X2_meets vp.1 p0 p1 (fun r101 => post r101))) ∧ (¬ p2 = 2 → (wp_X2_runsThrough vp.1 p0 p1 (fun r111 => (wp_X4_numberOf r111 (fun r114 => post r114))))))))))) pX)
def wp_X4_cell (vp : Pc) (p0 : Int32) (p1 : Int32) (p2 : Int32) (post : Int32 → Prop) (pX : String → Prop) : Prop :=
  (wp_X4_needCourse p0 (((p1 < 0 → (wp_X4_needIndex 0 (((p2 < 0 → wp_X4_cell_c42 vp p0 p1 p2 post pX 0) ∧ (¬ p2 < 0 → ((4 ≤ p2 → wp_X4_cell_c42 vp p0 p1 p2 post pX 0) ∧ (¬ 4 ≤ p2 → wp_X4_cell_c42 vp p0 p1 p2 post pX 1))))) pX)) ∧ (¬ p1 < 0 → (wp_X2_cellsOf vp.1 p0 (fun r14 => ((r14 ≤ p1 → (wp_X4_needIndex 0 (((p2 < 0 → wp_X4_cell_c42 vp p0 p1 p2 post pX 0) ∧ (¬ p2 < 0 → ((4 ≤ p2 → wp_X4_cell_c42 vp p0 p1 p2 post pX 0) ∧ (¬ 4 ≤ p2 → wp_X4_cell_c42 vp p0 p1 p2 post pX 1))))) pX)) ∧ (¬ r14 ≤ p1 → (wp_X4_needIndex 1 (((p2 < 0 → wp_X4_cell_c42 vp p0 p1 p2 post pX 0) ∧ (¬ p2 < 0 → ((4 ≤ p2 → wp_X4_cell_c42 vp p0 p1 p2 post pX 0) ∧ (¬ 4 ≤ p2 → wp_X4_cell_c42 vp p0 p1 p2 post pX 1))))) pX)))))))) pX)
theorem yoX4_cell : yOk yX4_cell 3 := by decide +kernel
set_option maxHeartbeats 4000000 in
set_option maxRecDepth 100000 in
theorem met_X4_cell (l : Launch) (g : JG) (pa : Nat → Nat) (vp : Pc) (p0 : Int32) (p1 : Int32) (p2 : Int32) (post : Int32 → Prop) (pX : String → Prop) (hf : wp_X4_cell vp p0 p1 p2 post pX) : MetX l yX4_cell wsX4_cell ({ frames := 8, cells := 3, slots := 18, locals := 130 } : Room) [.ref (pa 0), .int p0, .int p1, .int p2] g ((PcB g pa vp).flatten) mkI (fun r (_ : Unit) => post r) (fun u : Unit => ((PcB g pa vp).flatten)) pX := by
  have hin4 : ∀ w ∈ u_ws RX4 TX4 5, w ∈ wsX4_cell := by decide +kernel
  have hl_10 : Cond.fieldLink RX4 10 (TX4 0).1 (TX4 0).2.1 (TX4 0).2.2.1 ∈ wsX4_cell := by decide +kernel
  refine enterX (own := RX4) (cc := cX4_cell) (nL := 4) (ret := (some .int)) (lv := [(0, .ref (pa 0)), (1, .int p0), (2, .int p1), (3, .int p2)]) (by decide) rfl rfl (Nat.le_of_ble_eq_true rfl) rfl (fun X hX hW hE hR hO => ?_)
  unfold wp_X4_cell at hf
  have J42 : ∀ (z0_42 : Int32), wp_X4_cell_c42 vp p0 p1 p2 post pX z0_42 → J g X 2 12 ((PcB g pa vp).flatten) [(0, .ref (pa 0)), (1, .int p0), (2, .int p1), (3, .int p2)] [.int z0_42] 42 := by
    intro z0_42 hf
    refine j_callSXb (nb := 12) (pc' := 45) (k' := 3) (n' := 18) (As := [.int z0_42]) (rest := []) (stk := fun _ => []) (bs := (PcB g pa vp)) (cs := ([] : List va_W)) (rs := (List.map (fun i : Nat => List.getD (PcB g pa vp) i []) [0, 1, 2, 3, 4, 5, 6, 7, 8, 9, 10, 11])) (ws' := fun _ => ((PcB g pa vp).flatten)) (bs' := fun _ => (PcB g pa vp)) (d1 := fun _ => ([] : List va_W)) hX hW hE (fun l => met_X4_needArgument l g z0_42 _ _ hf) rfl gX4_cell_X4_needArgument yoX4_needArgument rfl ⟨Nat.le_of_ble_eq_true rfl, Nat.le_of_ble_eq_true rfl⟩ ⟨Nat.le_of_ble_eq_true rfl, Nat.le_of_ble_eq_true rfl, Nat.le_of_ble_eq_true rfl, Nat.le_of_ble_eq_true rfl⟩ [0, 1, 2, 3, 4, 5, 6, 7, 8, 9, 10, 11] rfl rfl rfl (by decide) rfl (fun _ => rfl) (fun _ => rfl) (fun _ => rfl) (fun _ => rfl) (Nat.le_of_ble_eq_true rfl) rfl (fun _ => rfl) dX4_cell_42 rfl (fun _ h => j_out hO (Nat.le_of_ble_eq_true rfl) (Nat.le_of_ble_eq_true rfl) rfl h) (fun _ _ hf => ?_)
    refine j_iload_n (pc' := 46) hX dX4_cell_45 rfl 3 rfl rfl ?_
    by_cases hs0 : p2 = 0
    · replace hf := hf.1 hs0
      refine j_tswI (tgt := 72) (cst := 0) hX dX4_cell_46 hs0 (by decide) (by decide) rfl (by decide) ?_
      refine j_aload_n (pc' := 73) hX dX4_cell_72 rfl 0 rfl rfl ?_
      refine j_get (ci := 4) (pc' := 76) hX hin4 rfl 0 rfl 0 (by decide) hl_10 rfl dX4_cell_73 rfl ?_
      refine j_iload_n (pc' := 77) hX dX4_cell_76 rfl 1 rfl rfl ?_
      refine j_iload_n (pc' := 78) hX dX4_cell_77 rfl 2 rfl rfl ?_
      refine j_callVRb (ci := 2) (nb := 12) (pc' := 81) (As := [.int p0, .int p1]) (rest := []) (stk := fun r78 => [.int r78]) (bs := (PcB g pa vp)) (cs := ([(MoW g (pa 1) (pa 2) (pa 3) (pa 4) (pa 5) (vp.1))])) (rs := (List.map (fun i : Nat => List.getD (PcB g pa vp) i []) [0, 2, 3, 4, 5, 6, 7, 8, 9, 10, 11])) hX (fun l => met_X2_sizeAt l g (pa 1) (pa 2) (pa 3) (pa 4) (pa 5) vp.1 p0 p1 _ hf) rfl gX4_cell_X2_sizeAt yoX2_sizeAt rfl ⟨Nat.le_of_ble_eq_true rfl, Nat.le_of_ble_eq_true rfl⟩ ⟨⟨Nat.le_of_ble_eq_true rfl, Nat.le_of_ble_eq_true rfl⟩, rfl, rfl⟩ 0 rfl rfl [0, 2, 3, 4, 5, 6, 7, 8, 9, 10, 11, 1] rfl rfl rfl (by decide) rfl (Nat.le_of_ble_eq_true rfl) rfl (fun _ => rfl) dX4_cell_78 rfl (fun r78 hf => ?_)
      refine J_widen (k' := 3) (n' := 18) (Nat.le_of_ble_eq_true rfl) (Nat.le_of_ble_eq_true rfl) ?_
      exact j_iret hX hR dX4_cell_81 ⟨_, (), rfl, hf, rfl⟩
    · replace hf := hf.2 hs0
      by_cases hs1 : p2 = 1
      · replace hf := hf.1 hs1
        refine j_tswI (tgt := 82) (cst := 1) hX dX4_cell_46 hs1 (by decide) (by decide) rfl (by decide) ?_
        refine j_aload_n (pc' := 83) hX dX4_cell_82 rfl 0 rfl rfl ?_
        refine j_get (ci := 4) (pc' := 86) hX hin4 rfl 0 rfl 0 (by decide) hl_10 rfl dX4_cell_83 rfl ?_
        refine j_iload_n (pc' := 87) hX dX4_cell_86 rfl 1 rfl rfl ?_
        refine j_iload_n (pc' := 88) hX dX4_cell_87 rfl 2 rfl rfl ?_
        refine j_callVRb (ci := 2) (nb := 12) (pc' := 91) (As := [.int p0, .int p1]) (rest := []) (stk := fun r88 => [.int r88]) (bs := (PcB g pa vp)) (cs := ([(MoW g (pa 1) (pa 2) (pa 3) (pa 4) (pa 5) (vp.1))])) (rs := (List.map (fun i : Nat => List.getD (PcB g pa vp) i []) [0, 2, 3, 4, 5, 6, 7, 8, 9, 10, 11])) hX (fun l => met_X2_hasJoint l g (pa 1) (pa 2) (pa 3) (pa 4) (pa 5) vp.1 p0 p1 _ hf) rfl gX4_cell_X2_hasJoint yoX2_hasJoint rfl ⟨Nat.le_of_ble_eq_true rfl, Nat.le_of_ble_eq_true rfl⟩ ⟨⟨Nat.le_of_ble_eq_true rfl, Nat.le_of_ble_eq_true rfl⟩, rfl, rfl⟩ 0 rfl rfl [0, 2, 3, 4, 5, 6, 7, 8, 9, 10, 11, 1] rfl rfl rfl (by decide) rfl (Nat.le_of_ble_eq_true rfl) rfl (fun _ => rfl) dX4_cell_88 rfl (fun r88 hf => ?_)
        refine j_callSR (pc' := 94) (As := [.int r88]) (rest := []) (stk := fun r91 => [.int r91]) hX (fun l => met_X4_numberOf l g r88 _ hf) rfl gX4_cell_X4_numberOf yoX4_numberOf rfl ⟨Nat.le_of_ble_eq_true rfl, Nat.le_of_ble_eq_true rfl⟩ ⟨⟨Nat.le_of_ble_eq_true rfl, Nat.le_of_ble_eq_true rfl⟩, rfl, rfl⟩ [] rfl (by decide) (Nat.le_of_ble_eq_true rfl) rfl (fun _ => rfl) dX4_cell_91 rfl (fun r91 hf => ?_)
        refine J_widen (k' := 3) (n' := 18) (Nat.le_of_ble_eq_true rfl) (Nat.le_of_ble_eq_true rfl) ?_
        exact j_iret hX hR dX4_cell_94 ⟨_, (), rfl, hf, rfl⟩
      · replace hf := hf.2 hs1
        by_cases hs2 : p2 = 2
        · replace hf := hf.1 hs2
          refine j_tswI (tgt := 95) (cst := 2) hX dX4_cell_46 hs2 (by decide) (by decide) rfl (by decide) ?_
          refine j_aload_n (pc' := 96) hX dX4_cell_95 rfl 0 rfl rfl ?_
          refine j_get (ci := 4) (pc' := 99) hX hin4 rfl 0 rfl 0 (by decide) hl_10 rfl dX4_cell_96 rfl ?_
          refine j_iload_n (pc' := 100) hX dX4_cell_99 rfl 1 rfl rfl ?_
          refine j_iload_n (pc' := 101) hX dX4_cell_100 rfl 2 rfl rfl ?_
          refine j_callVRb (ci := 2) (nb := 12) (pc' := 104) (As := [.int p0, .int p1]) (rest := []) (stk := fun r101 => [.int r101]) (bs := (PcB g pa vp)) (cs := ([(MoW g (pa 1) (pa 2) (pa 3) (pa 4) (pa 5) (vp.1))])) (rs := (List.map (fun i : Nat => List.getD (PcB g pa vp) i []) [0, 2, 3, 4, 5, 6, 7, 8, 9, 10, 11])) hX (fun l => met_X2_meets l g (pa 1) (pa 2) (pa 3) (pa 4) (pa 5) vp.1 p0 p1 _ hf) rfl gX4_cell_X2_meets yoX2_meets rfl ⟨Nat.le_of_ble_eq_true rfl, Nat.le_of_ble_eq_true rfl⟩ ⟨⟨Nat.le_of_ble_eq_true rfl, Nat.le_of_ble_eq_true rfl⟩, rfl, rfl⟩ 0 rfl rfl [0, 2, 3, 4, 5, 6, 7, 8, 9, 10, 11, 1] rfl rfl rfl (by decide) rfl (Nat.le_of_ble_eq_true rfl) rfl (fun _ => rfl) dX4_cell_101 rfl (fun r101 hf => ?_)
          refine J_widen (k' := 3) (n' := 18) (Nat.le_of_ble_eq_true rfl) (Nat.le_of_ble_eq_true rfl) ?_
          exact j_iret hX hR dX4_cell_104 ⟨_, (), rfl, hf, rfl⟩
        · replace hf := hf.2 hs2
          have ho : p2.toInt < 0 ∨ 2 < p2.toInt := by
            have hq0 := lv_neT (a := 0) hs0 (by decide)
            have hq1 := lv_neT (a := 1) hs1 (by decide)
            have hq2 := lv_neT (a := 2) hs2 (by decide)
            omega
          refine j_tswO (tgt := 105) hX dX4_cell_46 ho (by decide) ?_
          refine j_aload_n (pc' := 106) hX dX4_cell_105 rfl 0 rfl rfl ?_
          refine j_get (ci := 4) (pc' := 109) hX hin4 rfl 0 rfl 0 (by decide) hl_10 rfl dX4_cell_106 rfl ?_
          refine j_iload_n (pc' := 110) hX dX4_cell_109 rfl 1 rfl rfl ?_
          refine j_iload_n (pc' := 111) hX dX4_cell_110 rfl 2 rfl rfl ?_
          refine j_callVRb (ci := 2) (nb := 12) (pc' := 114) (As := [.int p0, .int p1]) (rest := []) (stk := fun r111 => [.int r111]) (bs := (PcB g pa vp)) (cs := ([(MoW g (pa 1) (pa 2) (pa 3) (pa 4) (pa 5) (vp.1))])) (rs := (List.map (fun i : Nat => List.getD (PcB g pa vp) i []) [0, 2, 3, 4, 5, 6, 7, 8, 9, 10, 11])) hX (fun l => met_X2_runsThrough l g (pa 1) (pa 2) (pa 3) (pa 4) (pa 5) vp.1 p0 p1 _ hf) rfl gX4_cell_X2_runsThrough yoX2_runsThrough rfl ⟨Nat.le_of_ble_eq_true rfl, Nat.le_of_ble_eq_true rfl⟩ ⟨⟨Nat.le_of_ble_eq_true rfl, Nat.le_of_ble_eq_true rfl⟩, rfl, rfl⟩ 0 rfl rfl [0, 2, 3, 4, 5, 6, 7, 8, 9, 10, 11, 1] rfl rfl rfl (by decide) rfl (Nat.le_of_ble_eq_true rfl) rfl (fun _ => rfl) dX4_cell_111 rfl (fun r111 hf => ?_)
          refine j_callSR (pc' := 117) (As := [.int r111]) (rest := []) (stk := fun r114 => [.int r114]) hX (fun l => met_X4_numberOf l g r111 _ hf) rfl gX4_cell_X4_numberOf yoX4_numberOf rfl ⟨Nat.le_of_ble_eq_true rfl, Nat.le_of_ble_eq_true rfl⟩ ⟨⟨Nat.le_of_ble_eq_true rfl, Nat.le_of_ble_eq_true rfl⟩, rfl, rfl⟩ [] rfl (by decide) (Nat.le_of_ble_eq_true rfl) rfl (fun _ => rfl) dX4_cell_114 rfl (fun r114 hf => ?_)
          refine J_widen (k' := 3) (n' := 18) (Nat.le_of_ble_eq_true rfl) (Nat.le_of_ble_eq_true rfl) ?_
          exact j_iret hX hR dX4_cell_117 ⟨_, (), rfl, hf, rfl⟩
  refine j_iload_n (pc' := 1) hX dX4_cell_0 rfl 1 rfl rfl ?_
  refine j_callSXb (nb := 12) (pc' := 4) (k' := 1) (n' := 6) (As := [.int p0]) (rest := []) (stk := fun _ => []) (bs := (PcB g pa vp)) (cs := ([] : List va_W)) (rs := (List.map (fun i : Nat => List.getD (PcB g pa vp) i []) [0, 1, 2, 3, 4, 5, 6, 7, 8, 9, 10, 11])) (ws' := fun _ => ((PcB g pa vp).flatten)) (bs' := fun _ => (PcB g pa vp)) (d1 := fun _ => ([] : List va_W)) hX hW hE (fun l => met_X4_needCourse l g p0 _ _ hf) rfl gX4_cell_X4_needCourse yoX4_needCourse rfl ⟨Nat.le_of_ble_eq_true rfl, Nat.le_of_ble_eq_true rfl⟩ ⟨Nat.le_of_ble_eq_true rfl, Nat.le_of_ble_eq_true rfl, Nat.le_of_ble_eq_true rfl, Nat.le_of_ble_eq_true rfl⟩ [0, 1, 2, 3, 4, 5, 6, 7, 8, 9, 10, 11] rfl rfl rfl (by decide) rfl (fun _ => rfl) (fun _ => rfl) (fun _ => rfl) (fun _ => rfl) (Nat.le_of_ble_eq_true rfl) rfl (fun _ => rfl) dX4_cell_1 rfl (fun _ h => j_out hO (Nat.le_of_ble_eq_true rfl) (Nat.le_of_ble_eq_true rfl) rfl h) (fun _ _ hf => ?_)
  refine j_iload_n (pc' := 5) hX dX4_cell_4 rfl 2 rfl rfl ?_
  refine j_if_lt (tgt := 24) (pc' := 8) hX dX4_cell_5 (by decide) rfl hf (fun hf => ?_) (fun hf => ?_)
  · refine j_iconst (pc' := 25) (v := 0) hX dX4_cell_24 (by decide) rfl ?_
    refine j_callSXb (nb := 12) (pc' := 28) (k' := 2) (n' := 12) (As := [.int 0]) (rest := []) (stk := fun _ => []) (bs := (PcB g pa vp)) (cs := ([] : List va_W)) (rs := (List.map (fun i : Nat => List.getD (PcB g pa vp) i []) [0, 1, 2, 3, 4, 5, 6, 7, 8, 9, 10, 11])) (ws' := fun _ => ((PcB g pa vp).flatten)) (bs' := fun _ => (PcB g pa vp)) (d1 := fun _ => ([] : List va_W)) hX hW hE (fun l => met_X4_needIndex l g 0 _ _ hf) rfl gX4_cell_X4_needIndex yoX4_needIndex rfl ⟨Nat.le_of_ble_eq_true rfl, Nat.le_of_ble_eq_true rfl⟩ ⟨Nat.le_of_ble_eq_true rfl, Nat.le_of_ble_eq_true rfl, Nat.le_of_ble_eq_true rfl, Nat.le_of_ble_eq_true rfl⟩ [0, 1, 2, 3, 4, 5, 6, 7, 8, 9, 10, 11] rfl rfl rfl (by decide) rfl (fun _ => rfl) (fun _ => rfl) (fun _ => rfl) (fun _ => rfl) (Nat.le_of_ble_eq_true rfl) rfl (fun _ => rfl) dX4_cell_25 rfl (fun _ h => j_out hO (Nat.le_of_ble_eq_true rfl) (Nat.le_of_ble_eq_true rfl) rfl h) (fun _ _ hf => ?_)
    refine j_iload_n (pc' := 29) hX dX4_cell_28 rfl 3 rfl rfl ?_
    refine j_if_lt (tgt := 41) (pc' := 32) hX dX4_cell_29 (by decide) rfl hf (fun hf => ?_) (fun hf => ?_)
    · refine j_iconst (pc' := 42) (v := 0) hX dX4_cell_41 (by decide) rfl ?_
      exact J42 0 hf
    · refine j_iload_n (pc' := 33) hX dX4_cell_32 rfl 3 rfl rfl ?_
      refine j_iconst (pc' := 34) (v := 4) hX dX4_cell_33 (by decide) rfl ?_
      refine j_icmp_ge (tgt := 41) (pc' := 37) hX dX4_cell_34 (by decide) rfl hf (fun hf => ?_) (fun hf => ?_)
      · refine j_iconst (pc' := 42) (v := 0) hX dX4_cell_41 (by decide) rfl ?_
        exact J42 0 hf
      · refine j_iconst (pc' := 38) (v := 1) hX dX4_cell_37 (by decide) rfl ?_
        refine j_goto (tgt := 42) hX dX4_cell_38 (by decide) ?_
        exact J42 1 hf
  · refine j_iload_n (pc' := 9) hX dX4_cell_8 rfl 2 rfl rfl ?_
    refine j_aload_n (pc' := 10) hX dX4_cell_9 rfl 0 rfl rfl ?_
    refine j_get (ci := 4) (pc' := 13) hX hin4 rfl 0 rfl 0 (by decide) hl_10 rfl dX4_cell_10 rfl ?_
    refine j_iload_n (pc' := 14) hX dX4_cell_13 rfl 1 rfl rfl ?_
    refine j_callVRb (ci := 2) (nb := 12) (pc' := 17) (As := [.int p0]) (rest := [.int p1]) (stk := fun r14 => [.int r14, .int p1]) (bs := (PcB g pa vp)) (cs := ([(MoW g (pa 1) (pa 2) (pa 3) (pa 4) (pa 5) (vp.1))])) (rs := (List.map (fun i : Nat => List.getD (PcB g pa vp) i []) [0, 2, 3, 4, 5, 6, 7, 8, 9, 10, 11])) hX (fun l => met_X2_cellsOf l g (pa 1) (pa 2) (pa 3) (pa 4) (pa 5) vp.1 p0 _ hf) rfl gX4_cell_X2_cellsOf yoX2_cellsOf rfl ⟨Nat.le_of_ble_eq_true rfl, Nat.le_of_ble_eq_true rfl⟩ ⟨⟨Nat.le_of_ble_eq_true rfl, Nat.le_of_ble_eq_true rfl⟩, rfl, rfl⟩ 0 rfl rfl [0, 2, 3, 4, 5, 6, 7, 8, 9, 10, 11, 1] rfl rfl rfl (by decide) rfl (Nat.le_of_ble_eq_true rfl) rfl (fun _ => rfl) dX4_cell_14 rfl (fun r14 hf => ?_)
    refine j_icmp_ge (tgt := 24) (pc' := 20) hX dX4_cell_17 (by decide) rfl hf (fun hf => ?_) (fun hf => ?_)
    · refine j_iconst (pc' := 25) (v := 0) hX dX4_cell_24 (by decide) rfl ?_
      refine j_callSXb (nb := 12) (pc' := 28) (k' := 2) (n' := 12) (As := [.int 0]) (rest := []) (stk := fun _ => []) (bs := (PcB g pa vp)) (cs := ([] : List va_W)) (rs := (List.map (fun i : Nat => List.getD (PcB g pa vp) i []) [0, 1, 2, 3, 4, 5, 6, 7, 8, 9, 10, 11])) (ws' := fun _ => ((PcB g pa vp).flatten)) (bs' := fun _ => (PcB g pa vp)) (d1 := fun _ => ([] : List va_W)) hX hW hE (fun l => met_X4_needIndex l g 0 _ _ hf) rfl gX4_cell_X4_needIndex yoX4_needIndex rfl ⟨Nat.le_of_ble_eq_true rfl, Nat.le_of_ble_eq_true rfl⟩ ⟨Nat.le_of_ble_eq_true rfl, Nat.le_of_ble_eq_true rfl, Nat.le_of_ble_eq_true rfl, Nat.le_of_ble_eq_true rfl⟩ [0, 1, 2, 3, 4, 5, 6, 7, 8, 9, 10, 11] rfl rfl rfl (by decide) rfl (fun _ => rfl) (fun _ => rfl) (fun _ => rfl) (fun _ => rfl) (Nat.le_of_ble_eq_true rfl) rfl (fun _ => rfl) dX4_cell_25 rfl (fun _ h => j_out hO (Nat.le_of_ble_eq_true rfl) (Nat.le_of_ble_eq_true rfl) rfl h) (fun _ _ hf => ?_)
      refine j_iload_n (pc' := 29) hX dX4_cell_28 rfl 3 rfl rfl ?_
      refine j_if_lt (tgt := 41) (pc' := 32) hX dX4_cell_29 (by decide) rfl hf (fun hf => ?_) (fun hf => ?_)
      · refine j_iconst (pc' := 42) (v := 0) hX dX4_cell_41 (by decide) rfl ?_
        exact J42 0 hf
      · refine j_iload_n (pc' := 33) hX dX4_cell_32 rfl 3 rfl rfl ?_
        refine j_iconst (pc' := 34) (v := 4) hX dX4_cell_33 (by decide) rfl ?_
        refine j_icmp_ge (tgt := 41) (pc' := 37) hX dX4_cell_34 (by decide) rfl hf (fun hf => ?_) (fun hf => ?_)
        · refine j_iconst (pc' := 42) (v := 0) hX dX4_cell_41 (by decide) rfl ?_
          exact J42 0 hf
        · refine j_iconst (pc' := 38) (v := 1) hX dX4_cell_37 (by decide) rfl ?_
          refine j_goto (tgt := 42) hX dX4_cell_38 (by decide) ?_
          exact J42 1 hf
    · refine j_iconst (pc' := 21) (v := 1) hX dX4_cell_20 (by decide) rfl ?_
      refine j_goto (tgt := 25) hX dX4_cell_21 (by decide) ?_
      refine j_callSXb (nb := 12) (pc' := 28) (k' := 2) (n' := 12) (As := [.int 1]) (rest := []) (stk := fun _ => []) (bs := (PcB g pa vp)) (cs := ([] : List va_W)) (rs := (List.map (fun i : Nat => List.getD (PcB g pa vp) i []) [0, 1, 2, 3, 4, 5, 6, 7, 8, 9, 10, 11])) (ws' := fun _ => ((PcB g pa vp).flatten)) (bs' := fun _ => (PcB g pa vp)) (d1 := fun _ => ([] : List va_W)) hX hW hE (fun l => met_X4_needIndex l g 1 _ _ hf) rfl gX4_cell_X4_needIndex yoX4_needIndex rfl ⟨Nat.le_of_ble_eq_true rfl, Nat.le_of_ble_eq_true rfl⟩ ⟨Nat.le_of_ble_eq_true rfl, Nat.le_of_ble_eq_true rfl, Nat.le_of_ble_eq_true rfl, Nat.le_of_ble_eq_true rfl⟩ [0, 1, 2, 3, 4, 5, 6, 7, 8, 9, 10, 11] rfl rfl rfl (by decide) rfl (fun _ => rfl) (fun _ => rfl) (fun _ => rfl) (fun _ => rfl) (Nat.le_of_ble_eq_true rfl) rfl (fun _ => rfl) dX4_cell_25 rfl (fun _ h => j_out hO (Nat.le_of_ble_eq_true rfl) (Nat.le_of_ble_eq_true rfl) rfl h) (fun _ _ hf => ?_)
      refine j_iload_n (pc' := 29) hX dX4_cell_28 rfl 3 rfl rfl ?_
      refine j_if_lt (tgt := 41) (pc' := 32) hX dX4_cell_29 (by decide) rfl hf (fun hf => ?_) (fun hf => ?_)
      · refine j_iconst (pc' := 42) (v := 0) hX dX4_cell_41 (by decide) rfl ?_
        exact J42 0 hf
      · refine j_iload_n (pc' := 33) hX dX4_cell_32 rfl 3 rfl rfl ?_
        refine j_iconst (pc' := 34) (v := 4) hX dX4_cell_33 (by decide) rfl ?_
        refine j_icmp_ge (tgt := 41) (pc' := 37) hX dX4_cell_34 (by decide) rfl hf (fun hf => ?_) (fun hf => ?_)
        · refine j_iconst (pc' := 42) (v := 0) hX dX4_cell_41 (by decide) rfl ?_
          exact J42 0 hf
        · refine j_iconst (pc' := 38) (v := 1) hX dX4_cell_37 (by decide) rfl ?_
          refine j_goto (tgt := 42) hX dX4_cell_38 (by decide) ?_
          exact J42 1 hf
def wp_X4_refusal (vp : Pc) (p0 : Int32) (p1 : Int32) (p2 : Int32) (post : Int32 → Prop) (pX : String → Prop) : Prop :=
  (wp_X4_needCourse p0 ((wp_X4_needSize p1 ((wp_X2_reasonAgainst vp.1 p0 p1 p2 (fun r15 => post r15))) pX)) pX)
theorem yoX4_refusal : yOk yX4_refusal 3 := by decide +kernel
set_option maxHeartbeats 4000000 in
set_option maxRecDepth 100000 in
theorem met_X4_refusal (l : Launch) (g : JG) (pa : Nat → Nat) (vp : Pc) (p0 : Int32) (p1 : Int32) (p2 : Int32) (post : Int32 → Prop) (pX : String → Prop) (hf : wp_X4_refusal vp p0 p1 p2 post pX) : MetX l yX4_refusal wsX4_refusal ({ frames := 8, cells := 2, slots := 12, locals := 130 } : Room) [.ref (pa 0), .int p0, .int p1, .int p2] g ((PcB g pa vp).flatten) mkI (fun r (_ : Unit) => post r) (fun u : Unit => ((PcB g pa vp).flatten)) pX := by
  have hin4 : ∀ w ∈ u_ws RX4 TX4 5, w ∈ wsX4_refusal := by decide +kernel
  have hl_10 : Cond.fieldLink RX4 10 (TX4 0).1 (TX4 0).2.1 (TX4 0).2.2.1 ∈ wsX4_refusal := by decide +kernel
  refine enterX (own := RX4) (cc := cX4_refusal) (nL := 4) (ret := (some .int)) (lv := [(0, .ref (pa 0)), (1, .int p0), (2, .int p1), (3, .int p2)]) (by decide) rfl rfl (Nat.le_of_ble_eq_true rfl) rfl (fun X hX hW hE hR hO => ?_)
  unfold wp_X4_refusal at hf
  refine j_iload_n (pc' := 1) hX dX4_refusal_0 rfl 1 rfl rfl ?_
  refine j_callSXb (nb := 12) (pc' := 4) (k' := 1) (n' := 6) (As := [.int p0]) (rest := []) (stk := fun _ => []) (bs := (PcB g pa vp)) (cs := ([] : List va_W)) (rs := (List.map (fun i : Nat => List.getD (PcB g pa vp) i []) [0, 1, 2, 3, 4, 5, 6, 7, 8, 9, 10, 11])) (ws' := fun _ => ((PcB g pa vp).flatten)) (bs' := fun _ => (PcB g pa vp)) (d1 := fun _ => ([] : List va_W)) hX hW hE (fun l => met_X4_needCourse l g p0 _ _ hf) rfl gX4_refusal_X4_needCourse yoX4_needCourse rfl ⟨Nat.le_of_ble_eq_true rfl, Nat.le_of_ble_eq_true rfl⟩ ⟨Nat.le_of_ble_eq_true rfl, Nat.le_of_ble_eq_true rfl, Nat.le_of_ble_eq_true rfl, Nat.le_of_ble_eq_true rfl⟩ [0, 1, 2, 3, 4, 5, 6, 7, 8, 9, 10, 11] rfl rfl rfl (by decide) rfl (fun _ => rfl) (fun _ => rfl) (fun _ => rfl) (fun _ => rfl) (Nat.le_of_ble_eq_true rfl) rfl (fun _ => rfl) dX4_refusal_1 rfl (fun _ h => j_out hO (Nat.le_of_ble_eq_true rfl) (Nat.le_of_ble_eq_true rfl) rfl h) (fun _ _ hf => ?_)
  refine j_iload_n (pc' := 5) hX dX4_refusal_4 rfl 2 rfl rfl ?_
  refine j_callSXb (nb := 12) (pc' := 8) (k' := 2) (n' := 12) (As := [.int p1]) (rest := []) (stk := fun _ => []) (bs := (PcB g pa vp)) (cs := ([] : List va_W)) (rs := (List.map (fun i : Nat => List.getD (PcB g pa vp) i []) [0, 1, 2, 3, 4, 5, 6, 7, 8, 9, 10, 11])) (ws' := fun _ => ((PcB g pa vp).flatten)) (bs' := fun _ => (PcB g pa vp)) (d1 := fun _ => ([] : List va_W)) hX hW hE (fun l => met_X4_needSize l g p1 _ _ hf) rfl gX4_refusal_X4_needSize yoX4_needSize rfl ⟨Nat.le_of_ble_eq_true rfl, Nat.le_of_ble_eq_true rfl⟩ ⟨Nat.le_of_ble_eq_true rfl, Nat.le_of_ble_eq_true rfl, Nat.le_of_ble_eq_true rfl, Nat.le_of_ble_eq_true rfl⟩ [0, 1, 2, 3, 4, 5, 6, 7, 8, 9, 10, 11] rfl rfl rfl (by decide) rfl (fun _ => rfl) (fun _ => rfl) (fun _ => rfl) (fun _ => rfl) (Nat.le_of_ble_eq_true rfl) rfl (fun _ => rfl) dX4_refusal_5 rfl (fun _ h => j_out hO (Nat.le_of_ble_eq_true rfl) (Nat.le_of_ble_eq_true rfl) rfl h) (fun _ _ hf => ?_)
  refine j_aload_n (pc' := 9) hX dX4_refusal_8 rfl 0 rfl rfl ?_
  refine j_get (ci := 4) (pc' := 12) hX hin4 rfl 0 rfl 0 (by decide) hl_10 rfl dX4_refusal_9 rfl ?_
  refine j_iload_n (pc' := 13) hX dX4_refusal_12 rfl 1 rfl rfl ?_
  refine j_iload_n (pc' := 14) hX dX4_refusal_13 rfl 2 rfl rfl ?_
  refine j_iload_n (pc' := 15) hX dX4_refusal_14 rfl 3 rfl rfl ?_
  refine j_callVRb (ci := 2) (nb := 12) (pc' := 18) (As := [.int p0, .int p1, .int p2]) (rest := []) (stk := fun r15 => [.int r15]) (bs := (PcB g pa vp)) (cs := ([(MoW g (pa 1) (pa 2) (pa 3) (pa 4) (pa 5) (vp.1))])) (rs := (List.map (fun i : Nat => List.getD (PcB g pa vp) i []) [0, 2, 3, 4, 5, 6, 7, 8, 9, 10, 11])) hX (fun l => met_X2_reasonAgainst l g (pa 1) (pa 2) (pa 3) (pa 4) (pa 5) vp.1 p0 p1 p2 _ hf) rfl gX4_refusal_X2_reasonAgainst yoX2_reasonAgainst rfl ⟨Nat.le_of_ble_eq_true rfl, Nat.le_of_ble_eq_true rfl⟩ ⟨⟨Nat.le_of_ble_eq_true rfl, Nat.le_of_ble_eq_true rfl⟩, rfl, rfl⟩ 0 rfl rfl [0, 2, 3, 4, 5, 6, 7, 8, 9, 10, 11, 1] rfl rfl rfl (by decide) rfl (Nat.le_of_ble_eq_true rfl) rfl (fun _ => rfl) dX4_refusal_15 rfl (fun r15 hf => ?_)
  refine J_widen (k' := 2) (n' := 12) (Nat.le_of_ble_eq_true rfl) (Nat.le_of_ble_eq_true rfl) ?_
  exact j_iret hX hR dX4_refusal_18 ⟨_, (), rfl, hf, rfl⟩
def wp_X4_stockOf (vp : Pc) (p0 : Int32) (post : Int32 → Prop) (pX : String → Prop) : Prop :=
  (wp_X4_needSize p0 ((wp_X2_inStock vp.1 p0 (fun r9 => post r9))) pX)
theorem yoX4_stockOf : yOk yX4_stockOf 1 := by decide +kernel
set_option maxHeartbeats 4000000 in
set_option maxRecDepth 100000 in
theorem met_X4_stockOf (l : Launch) (g : JG) (pa : Nat → Nat) (vp : Pc) (p0 : Int32) (post : Int32 → Prop) (pX : String → Prop) (hf : wp_X4_stockOf vp p0 post pX) : MetX l yX4_stockOf wsX4_stockOf ({ frames := 8, cells := 1, slots := 6, locals := 130 } : Room) [.ref (pa 0), .int p0] g ((PcB g pa vp).flatten) mkI (fun r (_ : Unit) => post r) (fun u : Unit => ((PcB g pa vp).flatten)) pX := by
  have hin4 : ∀ w ∈ u_ws RX4 TX4 5, w ∈ wsX4_stockOf := by decide +kernel
  have hl_10 : Cond.fieldLink RX4 10 (TX4 0).1 (TX4 0).2.1 (TX4 0).2.2.1 ∈ wsX4_stockOf := by decide +kernel
  refine enterX (own := RX4) (cc := cX4_stockOf) (nL := 2) (ret := (some .int)) (lv := [(0, .ref (pa 0)), (1, .int p0)]) (by decide) rfl rfl (Nat.le_of_ble_eq_true rfl) rfl (fun X hX hW hE hR hO => ?_)
  unfold wp_X4_stockOf at hf
  refine j_iload_n (pc' := 1) hX dX4_stockOf_0 rfl 1 rfl rfl ?_
  refine j_callSXb (nb := 12) (pc' := 4) (k' := 1) (n' := 6) (As := [.int p0]) (rest := []) (stk := fun _ => []) (bs := (PcB g pa vp)) (cs := ([] : List va_W)) (rs := (List.map (fun i : Nat => List.getD (PcB g pa vp) i []) [0, 1, 2, 3, 4, 5, 6, 7, 8, 9, 10, 11])) (ws' := fun _ => ((PcB g pa vp).flatten)) (bs' := fun _ => (PcB g pa vp)) (d1 := fun _ => ([] : List va_W)) hX hW hE (fun l => met_X4_needSize l g p0 _ _ hf) rfl gX4_stockOf_X4_needSize yoX4_needSize rfl ⟨Nat.le_of_ble_eq_true rfl, Nat.le_of_ble_eq_true rfl⟩ ⟨Nat.le_of_ble_eq_true rfl, Nat.le_of_ble_eq_true rfl, Nat.le_of_ble_eq_true rfl, Nat.le_of_ble_eq_true rfl⟩ [0, 1, 2, 3, 4, 5, 6, 7, 8, 9, 10, 11] rfl rfl rfl (by decide) rfl (fun _ => rfl) (fun _ => rfl) (fun _ => rfl) (fun _ => rfl) (Nat.le_of_ble_eq_true rfl) rfl (fun _ => rfl) dX4_stockOf_1 rfl (fun _ h => j_out hO (Nat.le_of_ble_eq_true rfl) (Nat.le_of_ble_eq_true rfl) rfl h) (fun _ _ hf => ?_)
  refine j_aload_n (pc' := 5) hX dX4_stockOf_4 rfl 0 rfl rfl ?_
  refine j_get (ci := 4) (pc' := 8) hX hin4 rfl 0 rfl 0 (by decide) hl_10 rfl dX4_stockOf_5 rfl ?_
  refine j_iload_n (pc' := 9) hX dX4_stockOf_8 rfl 1 rfl rfl ?_
  refine j_callVRb (ci := 2) (nb := 12) (pc' := 12) (As := [.int p0]) (rest := []) (stk := fun r9 => [.int r9]) (bs := (PcB g pa vp)) (cs := ([(MoW g (pa 1) (pa 2) (pa 3) (pa 4) (pa 5) (vp.1))])) (rs := (List.map (fun i : Nat => List.getD (PcB g pa vp) i []) [0, 2, 3, 4, 5, 6, 7, 8, 9, 10, 11])) hX (fun l => met_X2_inStock l g (pa 1) (pa 2) (pa 3) (pa 4) (pa 5) vp.1 p0 _ hf) rfl gX4_stockOf_X2_inStock yoX2_inStock rfl ⟨Nat.le_of_ble_eq_true rfl, Nat.le_of_ble_eq_true rfl⟩ ⟨⟨Nat.le_of_ble_eq_true rfl, Nat.le_of_ble_eq_true rfl⟩, rfl, rfl⟩ 0 rfl rfl [0, 2, 3, 4, 5, 6, 7, 8, 9, 10, 11, 1] rfl rfl rfl (by decide) rfl (Nat.le_of_ble_eq_true rfl) rfl (fun _ => rfl) dX4_stockOf_9 rfl (fun r9 hf => ?_)
  refine J_widen (k' := 1) (n' := 6) (Nat.le_of_ble_eq_true rfl) (Nat.le_of_ble_eq_true rfl) ?_
  exact j_iret hX hR dX4_stockOf_12 ⟨_, (), rfl, hf, rfl⟩
def wp_X4_count_c15 (vp : Pc) (p0 : Int32) (post : Int32 → Prop) (pX : String → Prop) (z0_15 : Int32) : Prop :=
  (wp_X4_needArgument z0_15 (((p0 = 0 → (wp_X2_summed vp.1 1 (fun r65 => post r65))) ∧ (¬ p0 = 0 → ((p0 = 1 → (wp_X2_summed vp.1 3 (fun r74 => post r74))) ∧ (¬ p0 = 1 → ((p0 = 2 → (wp_X2_summed vp.1 4 (fun r83 => post r83))) ∧ (¬ p0 = 2 → ((p0 = 3 → (wp_X2_throughJoints vp.1 (fun r91 => post r91))) ∧ (¬ p0 = 3 → ((p0 = 4 → (wp_X2_summed vp.1 6 (fun r101 => post r101))) ∧ (¬ p0 = 4 → ((p0 = 5 → (wp_X2_wasted vp.1 (fun r109 => post r109))) ∧ (¬ p0 = 5 → ((p0 = 6 → (wp_X2_stockCells vp.1 (fun r117 => post r117))) ∧ (¬ p0 = 6 → (wp_X1_size vp.2.2.2.1 (fun r125 => post r125))))))))))))))))) pX)
def wp_X4_count (vp : Pc) (p0 : Int32) (post : Int32 → Prop) (pX : String → Prop) : Prop :=
  ((p0 < 0 → wp_X4_count_c15 vp p0 post pX 0) ∧ (¬ p0 < 0 → ((8 ≤ p0 → wp_X4_count_c15 vp p0 post pX 0) ∧ (¬ 8 ≤ p0 → wp_X4_count_c15 vp p0 post pX 1))))
theorem yoX4_count : yOk yX4_count 1 := by decide +kernel
set_option maxHeartbeats 4000000 in
set_option maxRecDepth 100000 in
theorem met_X4_count (l : Launch) (g : JG) (pa : Nat → Nat) (vp : Pc) (p0 : Int32) (post : Int32 → Prop) (pX : String → Prop) (hf : wp_X4_count vp p0 post pX) : MetX l yX4_count wsX4_count ({ frames := 7, cells := 1, slots := 6, locals := 111 } : Room) [.ref (pa 0), .int p0] g ((PcB g pa vp).flatten) mkI (fun r (_ : Unit) => post r) (fun u : Unit => ((PcB g pa vp).flatten)) pX := by
  have hin4 : ∀ w ∈ u_ws RX4 TX4 5, w ∈ wsX4_count := by decide +kernel
  have hl_10 : Cond.fieldLink RX4 10 (TX4 0).1 (TX4 0).2.1 (TX4 0).2.2.1 ∈ wsX4_count := by decide +kernel
  have hl_29 : Cond.fieldLink RX4 29 (TX4 3).1 (TX4 3).2.1 (TX4 3).2.2.1 ∈ wsX4_count := by decide +kernel
  refine enterX (own := RX4) (cc := cX4_count) (nL := 2) (ret := (some .int)) (lv := [(0, .ref (pa 0)), (1, .int p0)]) (by decide) rfl rfl (Nat.le_of_ble_eq_true rfl) rfl (fun X hX hW hE hR hO => ?_)
  unfold wp_X4_count at hf
  have J15 : ∀ (z0_15 : Int32), wp_X4_count_c15 vp p0 post pX z0_15 → J g X 0 0 ((PcB g pa vp).flatten) [(0, .ref (pa 0)), (1, .int p0)] [.int z0_15] 15 := by
    intro z0_15 hf
    refine j_callSXb (nb := 12) (pc' := 18) (k' := 1) (n' := 6) (As := [.int z0_15]) (rest := []) (stk := fun _ => []) (bs := (PcB g pa vp)) (cs := ([] : List va_W)) (rs := (List.map (fun i : Nat => List.getD (PcB g pa vp) i []) [0, 1, 2, 3, 4, 5, 6, 7, 8, 9, 10, 11])) (ws' := fun _ => ((PcB g pa vp).flatten)) (bs' := fun _ => (PcB g pa vp)) (d1 := fun _ => ([] : List va_W)) hX hW hE (fun l => met_X4_needArgument l g z0_15 _ _ hf) rfl gX4_count_X4_needArgument yoX4_needArgument rfl ⟨Nat.le_of_ble_eq_true rfl, Nat.le_of_ble_eq_true rfl⟩ ⟨Nat.le_of_ble_eq_true rfl, Nat.le_of_ble_eq_true rfl, Nat.le_of_ble_eq_true rfl, Nat.le_of_ble_eq_true rfl⟩ [0, 1, 2, 3, 4, 5, 6, 7, 8, 9, 10, 11] rfl rfl rfl (by decide) rfl (fun _ => rfl) (fun _ => rfl) (fun _ => rfl) (fun _ => rfl) (Nat.le_of_ble_eq_true rfl) rfl (fun _ => rfl) dX4_count_15 rfl (fun _ h => j_out hO (Nat.le_of_ble_eq_true rfl) (Nat.le_of_ble_eq_true rfl) rfl h) (fun _ _ hf => ?_)
    refine j_iload_n (pc' := 19) hX dX4_count_18 rfl 1 rfl rfl ?_
    by_cases hs0 : p0 = 0
    · replace hf := hf.1 hs0
      refine j_tswI (tgt := 60) (cst := 0) hX dX4_count_19 hs0 (by decide) (by decide) rfl (by decide) ?_
      refine j_aload_n (pc' := 61) hX dX4_count_60 rfl 0 rfl rfl ?_
      refine j_get (ci := 4) (pc' := 64) hX hin4 rfl 0 rfl 0 (by decide) hl_10 rfl dX4_count_61 rfl ?_
      refine j_iconst (pc' := 65) (v := 1) hX dX4_count_64 (by decide) rfl ?_
      refine j_callVRb (ci := 2) (nb := 12) (pc' := 68) (As := [.int 1]) (rest := []) (stk := fun r65 => [.int r65]) (bs := (PcB g pa vp)) (cs := ([(MoW g (pa 1) (pa 2) (pa 3) (pa 4) (pa 5) (vp.1))])) (rs := (List.map (fun i : Nat => List.getD (PcB g pa vp) i []) [0, 2, 3, 4, 5, 6, 7, 8, 9, 10, 11])) hX (fun l => met_X2_summed l g (pa 1) (pa 2) (pa 3) (pa 4) (pa 5) vp.1 1 _ hf) rfl gX4_count_X2_summed yoX2_summed rfl ⟨Nat.le_of_ble_eq_true rfl, Nat.le_of_ble_eq_true rfl⟩ ⟨⟨Nat.le_of_ble_eq_true rfl, Nat.le_of_ble_eq_true rfl⟩, rfl, rfl⟩ 0 rfl rfl [0, 2, 3, 4, 5, 6, 7, 8, 9, 10, 11, 1] rfl rfl rfl (by decide) rfl (Nat.le_of_ble_eq_true rfl) rfl (fun _ => rfl) dX4_count_65 rfl (fun r65 hf => ?_)
      refine J_widen (k' := 1) (n' := 6) (Nat.le_of_ble_eq_true rfl) (Nat.le_of_ble_eq_true rfl) ?_
      exact j_iret hX hR dX4_count_68 ⟨_, (), rfl, hf, rfl⟩
    · replace hf := hf.2 hs0
      by_cases hs1 : p0 = 1
      · replace hf := hf.1 hs1
        refine j_tswI (tgt := 69) (cst := 1) hX dX4_count_19 hs1 (by decide) (by decide) rfl (by decide) ?_
        refine j_aload_n (pc' := 70) hX dX4_count_69 rfl 0 rfl rfl ?_
        refine j_get (ci := 4) (pc' := 73) hX hin4 rfl 0 rfl 0 (by decide) hl_10 rfl dX4_count_70 rfl ?_
        refine j_iconst (pc' := 74) (v := 3) hX dX4_count_73 (by decide) rfl ?_
        refine j_callVRb (ci := 2) (nb := 12) (pc' := 77) (As := [.int 3]) (rest := []) (stk := fun r74 => [.int r74]) (bs := (PcB g pa vp)) (cs := ([(MoW g (pa 1) (pa 2) (pa 3) (pa 4) (pa 5) (vp.1))])) (rs := (List.map (fun i : Nat => List.getD (PcB g pa vp) i []) [0, 2, 3, 4, 5, 6, 7, 8, 9, 10, 11])) hX (fun l => met_X2_summed l g (pa 1) (pa 2) (pa 3) (pa 4) (pa 5) vp.1 3 _ hf) rfl gX4_count_X2_summed yoX2_summed rfl ⟨Nat.le_of_ble_eq_true rfl, Nat.le_of_ble_eq_true rfl⟩ ⟨⟨Nat.le_of_ble_eq_true rfl, Nat.le_of_ble_eq_true rfl⟩, rfl, rfl⟩ 0 rfl rfl [0, 2, 3, 4, 5, 6, 7, 8, 9, 10, 11, 1] rfl rfl rfl (by decide) rfl (Nat.le_of_ble_eq_true rfl) rfl (fun _ => rfl) dX4_count_74 rfl (fun r74 hf => ?_)
        refine J_widen (k' := 1) (n' := 6) (Nat.le_of_ble_eq_true rfl) (Nat.le_of_ble_eq_true rfl) ?_
        exact j_iret hX hR dX4_count_77 ⟨_, (), rfl, hf, rfl⟩
      · replace hf := hf.2 hs1
        by_cases hs2 : p0 = 2
        · replace hf := hf.1 hs2
          refine j_tswI (tgt := 78) (cst := 2) hX dX4_count_19 hs2 (by decide) (by decide) rfl (by decide) ?_
          refine j_aload_n (pc' := 79) hX dX4_count_78 rfl 0 rfl rfl ?_
          refine j_get (ci := 4) (pc' := 82) hX hin4 rfl 0 rfl 0 (by decide) hl_10 rfl dX4_count_79 rfl ?_
          refine j_iconst (pc' := 83) (v := 4) hX dX4_count_82 (by decide) rfl ?_
          refine j_callVRb (ci := 2) (nb := 12) (pc' := 86) (As := [.int 4]) (rest := []) (stk := fun r83 => [.int r83]) (bs := (PcB g pa vp)) (cs := ([(MoW g (pa 1) (pa 2) (pa 3) (pa 4) (pa 5) (vp.1))])) (rs := (List.map (fun i : Nat => List.getD (PcB g pa vp) i []) [0, 2, 3, 4, 5, 6, 7, 8, 9, 10, 11])) hX (fun l => met_X2_summed l g (pa 1) (pa 2) (pa 3) (pa 4) (pa 5) vp.1 4 _ hf) rfl gX4_count_X2_summed yoX2_summed rfl ⟨Nat.le_of_ble_eq_true rfl, Nat.le_of_ble_eq_true rfl⟩ ⟨⟨Nat.le_of_ble_eq_true rfl, Nat.le_of_ble_eq_true rfl⟩, rfl, rfl⟩ 0 rfl rfl [0, 2, 3, 4, 5, 6, 7, 8, 9, 10, 11, 1] rfl rfl rfl (by decide) rfl (Nat.le_of_ble_eq_true rfl) rfl (fun _ => rfl) dX4_count_83 rfl (fun r83 hf => ?_)
          refine J_widen (k' := 1) (n' := 6) (Nat.le_of_ble_eq_true rfl) (Nat.le_of_ble_eq_true rfl) ?_
          exact j_iret hX hR dX4_count_86 ⟨_, (), rfl, hf, rfl⟩
        · replace hf := hf.2 hs2
          by_cases hs3 : p0 = 3
          · replace hf := hf.1 hs3
            refine j_tswI (tgt := 87) (cst := 3) hX dX4_count_19 hs3 (by decide) (by decide) rfl (by decide) ?_
            refine j_aload_n (pc' := 88) hX dX4_count_87 rfl 0 rfl rfl ?_
            refine j_get (ci := 4) (pc' := 91) hX hin4 rfl 0 rfl 0 (by decide) hl_10 rfl dX4_count_88 rfl ?_
            refine j_callVRb (ci := 2) (nb := 12) (pc' := 94) (As := []) (rest := []) (stk := fun r91 => [.int r91]) (bs := (PcB g pa vp)) (cs := ([(MoW g (pa 1) (pa 2) (pa 3) (pa 4) (pa 5) (vp.1))])) (rs := (List.map (fun i : Nat => List.getD (PcB g pa vp) i []) [0, 2, 3, 4, 5, 6, 7, 8, 9, 10, 11])) hX (fun l => met_X2_throughJoints l g (pa 1) (pa 2) (pa 3) (pa 4) (pa 5) vp.1 _ hf) rfl gX4_count_X2_throughJoints yoX2_throughJoints rfl ⟨Nat.le_of_ble_eq_true rfl, Nat.le_of_ble_eq_true rfl⟩ ⟨⟨Nat.le_of_ble_eq_true rfl, Nat.le_of_ble_eq_true rfl⟩, rfl, rfl⟩ 0 rfl rfl [0, 2, 3, 4, 5, 6, 7, 8, 9, 10, 11, 1] rfl rfl rfl (by decide) rfl (Nat.le_of_ble_eq_true rfl) rfl (fun _ => rfl) dX4_count_91 rfl (fun r91 hf => ?_)
            refine J_widen (k' := 1) (n' := 6) (Nat.le_of_ble_eq_true rfl) (Nat.le_of_ble_eq_true rfl) ?_
            exact j_iret hX hR dX4_count_94 ⟨_, (), rfl, hf, rfl⟩
          · replace hf := hf.2 hs3
            by_cases hs4 : p0 = 4
            · replace hf := hf.1 hs4
              refine j_tswI (tgt := 95) (cst := 4) hX dX4_count_19 hs4 (by decide) (by decide) rfl (by decide) ?_
              refine j_aload_n (pc' := 96) hX dX4_count_95 rfl 0 rfl rfl ?_
              refine j_get (ci := 4) (pc' := 99) hX hin4 rfl 0 rfl 0 (by decide) hl_10 rfl dX4_count_96 rfl ?_
              refine j_bipush (pc' := 101) (v := 6) hX dX4_count_99 (by decide) rfl ?_
              refine j_callVRb (ci := 2) (nb := 12) (pc' := 104) (As := [.int 6]) (rest := []) (stk := fun r101 => [.int r101]) (bs := (PcB g pa vp)) (cs := ([(MoW g (pa 1) (pa 2) (pa 3) (pa 4) (pa 5) (vp.1))])) (rs := (List.map (fun i : Nat => List.getD (PcB g pa vp) i []) [0, 2, 3, 4, 5, 6, 7, 8, 9, 10, 11])) hX (fun l => met_X2_summed l g (pa 1) (pa 2) (pa 3) (pa 4) (pa 5) vp.1 6 _ hf) rfl gX4_count_X2_summed yoX2_summed rfl ⟨Nat.le_of_ble_eq_true rfl, Nat.le_of_ble_eq_true rfl⟩ ⟨⟨Nat.le_of_ble_eq_true rfl, Nat.le_of_ble_eq_true rfl⟩, rfl, rfl⟩ 0 rfl rfl [0, 2, 3, 4, 5, 6, 7, 8, 9, 10, 11, 1] rfl rfl rfl (by decide) rfl (Nat.le_of_ble_eq_true rfl) rfl (fun _ => rfl) dX4_count_101 rfl (fun r101 hf => ?_)
              refine J_widen (k' := 1) (n' := 6) (Nat.le_of_ble_eq_true rfl) (Nat.le_of_ble_eq_true rfl) ?_
              exact j_iret hX hR dX4_count_104 ⟨_, (), rfl, hf, rfl⟩
            · replace hf := hf.2 hs4
              by_cases hs5 : p0 = 5
              · replace hf := hf.1 hs5
                refine j_tswI (tgt := 105) (cst := 5) hX dX4_count_19 hs5 (by decide) (by decide) rfl (by decide) ?_
                refine j_aload_n (pc' := 106) hX dX4_count_105 rfl 0 rfl rfl ?_
                refine j_get (ci := 4) (pc' := 109) hX hin4 rfl 0 rfl 0 (by decide) hl_10 rfl dX4_count_106 rfl ?_
                refine j_callVRb (ci := 2) (nb := 12) (pc' := 112) (As := []) (rest := []) (stk := fun r109 => [.int r109]) (bs := (PcB g pa vp)) (cs := ([(MoW g (pa 1) (pa 2) (pa 3) (pa 4) (pa 5) (vp.1))])) (rs := (List.map (fun i : Nat => List.getD (PcB g pa vp) i []) [0, 2, 3, 4, 5, 6, 7, 8, 9, 10, 11])) hX (fun l => met_X2_wasted l g (pa 1) (pa 2) (pa 3) (pa 4) (pa 5) vp.1 _ hf) rfl gX4_count_X2_wasted yoX2_wasted rfl ⟨Nat.le_of_ble_eq_true rfl, Nat.le_of_ble_eq_true rfl⟩ ⟨⟨Nat.le_of_ble_eq_true rfl, Nat.le_of_ble_eq_true rfl⟩, rfl, rfl⟩ 0 rfl rfl [0, 2, 3, 4, 5, 6, 7, 8, 9, 10, 11, 1] rfl rfl rfl (by decide) rfl (Nat.le_of_ble_eq_true rfl) rfl (fun _ => rfl) dX4_count_109 rfl (fun r109 hf => ?_)
                refine J_widen (k' := 1) (n' := 6) (Nat.le_of_ble_eq_true rfl) (Nat.le_of_ble_eq_true rfl) ?_
                exact j_iret hX hR dX4_count_112 ⟨_, (), rfl, hf, rfl⟩
              · replace hf := hf.2 hs5
                by_cases hs6 : p0 = 6
                · replace hf := hf.1 hs6
                  refine j_tswI (tgt := 113) (cst := 6) hX dX4_count_19 hs6 (by decide) (by decide) rfl (by decide) ?_
                  refine j_aload_n (pc' := 114) hX dX4_count_113 rfl 0 rfl rfl ?_
                  refine j_get (ci := 4) (pc' := 117) hX hin4 rfl 0 rfl 0 (by decide) hl_10 rfl dX4_count_114 rfl ?_
                  refine j_callVRb (ci := 2) (nb := 12) (pc' := 120) (As := []) (rest := []) (stk := fun r117 => [.int r117]) (bs := (PcB g pa vp)) (cs := ([(MoW g (pa 1) (pa 2) (pa 3) (pa 4) (pa 5) (vp.1))])) (rs := (List.map (fun i : Nat => List.getD (PcB g pa vp) i []) [0, 2, 3, 4, 5, 6, 7, 8, 9, 10, 11])) hX (fun l => met_X2_stockCells l g (pa 1) (pa 2) (pa 3) (pa 4) (pa 5) vp.1 _ hf) rfl gX4_count_X2_stockCells yoX2_stockCells rfl ⟨Nat.le_of_ble_eq_true rfl, Nat.le_of_ble_eq_true rfl⟩ ⟨⟨Nat.le_of_ble_eq_true rfl, Nat.le_of_ble_eq_true rfl⟩, rfl, rfl⟩ 0 rfl rfl [0, 2, 3, 4, 5, 6, 7, 8, 9, 10, 11, 1] rfl rfl rfl (by decide) rfl (Nat.le_of_ble_eq_true rfl) rfl (fun _ => rfl) dX4_count_117 rfl (fun r117 hf => ?_)
                  refine J_widen (k' := 1) (n' := 6) (Nat.le_of_ble_eq_true rfl) (Nat.le_of_ble_eq_true rfl) ?_
                  exact j_iret hX hR dX4_count_120 ⟨_, (), rfl, hf, rfl⟩
                · replace hf := hf.2 hs6
                  have ho : p0.toInt < 0 ∨ 6 < p0.toInt := by
                    have hq0 := lv_neT (a := 0) hs0 (by decide)
                    have hq1 := lv_neT (a := 1) hs1 (by decide)
                    have hq2 := lv_neT (a := 2) hs2 (by decide)
                    have hq3 := lv_neT (a := 3) hs3 (by decide)
                    have hq4 := lv_neT (a := 4) hs4 (by decide)
                    have hq5 := lv_neT (a := 5) hs5 (by decide)
                    have hq6 := lv_neT (a := 6) hs6 (by decide)
                    omega
                  refine j_tswO (tgt := 121) hX dX4_count_19 ho (by decide) ?_
                  refine j_aload_n (pc' := 122) hX dX4_count_121 rfl 0 rfl rfl ?_
                  refine j_get (ci := 4) (pc' := 125) hX hin4 rfl 0 rfl 3 (by decide) hl_29 rfl dX4_count_122 rfl ?_
                  refine j_callVRb (ci := 1) (nb := 12) (pc' := 128) (As := []) (rest := []) (stk := fun r125 => [.int r125]) (bs := (PcB g pa vp)) (cs := (HiB g (fun i => pa (13 + i)) vp.2.2.2.1)) (rs := (List.map (fun i : Nat => List.getD (PcB g pa vp) i []) [0, 1, 2, 3, 11])) hX (fun l => met_X1_size l g (fun i => pa (13 + i)) vp.2.2.2.1 _ hf) rfl gX4_count_X1_size yoX1_size rfl ⟨Nat.le_of_ble_eq_true rfl, Nat.le_of_ble_eq_true rfl⟩ ⟨⟨Nat.le_of_ble_eq_true rfl, Nat.le_of_ble_eq_true rfl⟩, rfl, rfl⟩ 0 rfl rfl [0, 1, 2, 3, 11, 4, 5, 6, 7, 8, 9, 10] rfl rfl rfl (by decide) rfl (Nat.le_of_ble_eq_true rfl) rfl (fun _ => rfl) dX4_count_125 rfl (fun r125 hf => ?_)
                  refine J_widen (k' := 1) (n' := 6) (Nat.le_of_ble_eq_true rfl) (Nat.le_of_ble_eq_true rfl) ?_
                  exact j_iret hX hR dX4_count_128 ⟨_, (), rfl, hf, rfl⟩
  refine j_iload_n (pc' := 1) hX dX4_count_0 rfl 1 rfl rfl ?_
  refine j_if_lt (tgt := 14) (pc' := 4) hX dX4_count_1 (by decide) rfl hf (fun hf => ?_) (fun hf => ?_)
  · refine j_iconst (pc' := 15) (v := 0) hX dX4_count_14 (by decide) rfl ?_
    exact J15 0 hf
  · refine j_iload_n (pc' := 5) hX dX4_count_4 rfl 1 rfl rfl ?_
    refine j_bipush (pc' := 7) (v := 8) hX dX4_count_5 (by decide) rfl ?_
    refine j_icmp_ge (tgt := 14) (pc' := 10) hX dX4_count_7 (by decide) rfl hf (fun hf => ?_) (fun hf => ?_)
    · refine j_iconst (pc' := 15) (v := 0) hX dX4_count_14 (by decide) rfl ?_
      exact J15 0 hf
    · refine j_iconst (pc' := 11) (v := 1) hX dX4_count_10 (by decide) rfl ?_
      refine j_goto (tgt := 15) hX dX4_count_11 (by decide) ?_
      exact J15 1 hf
def wp_X4_count_n_c15 (vp : Pc) (p0 : Int32) (post : Int32 → Prop) (z0_15 : Int32) : Prop :=
  (wp_X4_needArgument_n z0_15 (((p0 = 0 → (wp_X2_summed vp.1 1 (fun r65 => post r65))) ∧ (¬ p0 = 0 → ((p0 = 1 → (wp_X2_summed vp.1 3 (fun r74 => post r74))) ∧ (¬ p0 = 1 → ((p0 = 2 → (wp_X2_summed vp.1 4 (fun r83 => post r83))) ∧ (¬ p0 = 2 → ((p0 = 3 → (wp_X2_throughJoints vp.1 (fun r91 => post r91))) ∧ (¬ p0 = 3 → ((p0 = 4 → (wp_X2_summed vp.1 6 (fun r101 => post r101))) ∧ (¬ p0 = 4 → ((p0 = 5 → (wp_X2_wasted vp.1 (fun r109 => post r109))) ∧ (¬ p0 = 5 → ((p0 = 6 → (wp_X2_stockCells vp.1 (fun r117 => post r117))) ∧ (¬ p0 = 6 → (wp_X1_size vp.2.2.2.1 (fun r125 => post r125))))))))))))))))))
def wp_X4_count_n (vp : Pc) (p0 : Int32) (post : Int32 → Prop) : Prop :=
  ((p0 < 0 → wp_X4_count_n_c15 vp p0 post 0) ∧ (¬ p0 < 0 → ((8 ≤ p0 → wp_X4_count_n_c15 vp p0 post 0) ∧ (¬ 8 ≤ p0 → wp_X4_count_n_c15 vp p0 post 1))))
set_option maxHeartbeats 4000000 in
set_option maxRecDepth 100000 in
theorem met_X4_count_n (l : Launch) (g : JG) (pa : Nat → Nat) (vp : Pc) (p0 : Int32) (post : Int32 → Prop) (hf : wp_X4_count_n vp p0 post) : MetR l yX4_count wsX4_count ({ frames := 5, cells := 0, slots := 0, locals := 111 } : Room) [.ref (pa 0), .int p0] g ((PcB g pa vp).flatten) mkI post := by
  have hin4 : ∀ w ∈ u_ws RX4 TX4 5, w ∈ wsX4_count := by decide +kernel
  have hl_10 : Cond.fieldLink RX4 10 (TX4 0).1 (TX4 0).2.1 (TX4 0).2.2.1 ∈ wsX4_count := by decide +kernel
  have hl_29 : Cond.fieldLink RX4 29 (TX4 3).1 (TX4 3).2.1 (TX4 3).2.2.1 ∈ wsX4_count := by decide +kernel
  refine enterR (own := RX4) (cc := cX4_count) (nL := 2) (ret := (some .int)) (lv := [(0, .ref (pa 0)), (1, .int p0)]) (by decide) rfl rfl (Nat.le_of_ble_eq_true rfl) rfl (fun X hX hR => ?_)
  unfold wp_X4_count_n at hf
  have J15 : ∀ (z0_15 : Int32), wp_X4_count_n_c15 vp p0 post z0_15 → J g X 0 0 ((PcB g pa vp).flatten) [(0, .ref (pa 0)), (1, .int p0)] [.int z0_15] 15 := by
    intro z0_15 hf
    refine j_callSR (pc' := 18) (As := [.int z0_15]) (rest := []) (stk := fun _ => []) hX (fun l => met_X4_needArgument_n l g z0_15 _ hf) rfl gX4_count_X4_needArgument yoX4_needArgument rfl ⟨Nat.le_of_ble_eq_true rfl, Nat.le_of_ble_eq_true rfl⟩ ⟨⟨Nat.le_of_ble_eq_true rfl, Nat.le_of_ble_eq_true rfl⟩, rfl, rfl⟩ [] rfl (by decide) (Nat.le_of_ble_eq_true rfl) rfl (fun _ => rfl) dX4_count_15 rfl (fun _ hf => ?_)
    refine j_iload_n (pc' := 19) hX dX4_count_18 rfl 1 rfl rfl ?_
    by_cases hs0 : p0 = 0
    · replace hf := hf.1 hs0
      refine j_tswI (tgt := 60) (cst := 0) hX dX4_count_19 hs0 (by decide) (by decide) rfl (by decide) ?_
      refine j_aload_n (pc' := 61) hX dX4_count_60 rfl 0 rfl rfl ?_
      refine j_get (ci := 4) (pc' := 64) hX hin4 rfl 0 rfl 0 (by decide) hl_10 rfl dX4_count_61 rfl ?_
      refine j_iconst (pc' := 65) (v := 1) hX dX4_count_64 (by decide) rfl ?_
      refine j_callVRb (ci := 2) (nb := 12) (pc' := 68) (As := [.int 1]) (rest := []) (stk := fun r65 => [.int r65]) (bs := (PcB g pa vp)) (cs := ([(MoW g (pa 1) (pa 2) (pa 3) (pa 4) (pa 5) (vp.1))])) (rs := (List.map (fun i : Nat => List.getD (PcB g pa vp) i []) [0, 2, 3, 4, 5, 6, 7, 8, 9, 10, 11])) hX (fun l => met_X2_summed l g (pa 1) (pa 2) (pa 3) (pa 4) (pa 5) vp.1 1 _ hf) rfl gX4_count_X2_summed yoX2_summed rfl ⟨Nat.le_of_ble_eq_true rfl, Nat.le_of_ble_eq_true rfl⟩ ⟨⟨Nat.le_of_ble_eq_true rfl, Nat.le_of_ble_eq_true rfl⟩, rfl, rfl⟩ 0 rfl rfl [0, 2, 3, 4, 5, 6, 7, 8, 9, 10, 11, 1] rfl rfl rfl (by decide) rfl (Nat.le_of_ble_eq_true rfl) rfl (fun _ => rfl) dX4_count_65 rfl (fun r65 hf => ?_)
      exact j_iret hX hR dX4_count_68 ⟨_, rfl, hf⟩
    · replace hf := hf.2 hs0
      by_cases hs1 : p0 = 1
      · replace hf := hf.1 hs1
        refine j_tswI (tgt := 69) (cst := 1) hX dX4_count_19 hs1 (by decide) (by decide) rfl (by decide) ?_
        refine j_aload_n (pc' := 70) hX dX4_count_69 rfl 0 rfl rfl ?_
        refine j_get (ci := 4) (pc' := 73) hX hin4 rfl 0 rfl 0 (by decide) hl_10 rfl dX4_count_70 rfl ?_
        refine j_iconst (pc' := 74) (v := 3) hX dX4_count_73 (by decide) rfl ?_
        refine j_callVRb (ci := 2) (nb := 12) (pc' := 77) (As := [.int 3]) (rest := []) (stk := fun r74 => [.int r74]) (bs := (PcB g pa vp)) (cs := ([(MoW g (pa 1) (pa 2) (pa 3) (pa 4) (pa 5) (vp.1))])) (rs := (List.map (fun i : Nat => List.getD (PcB g pa vp) i []) [0, 2, 3, 4, 5, 6, 7, 8, 9, 10, 11])) hX (fun l => met_X2_summed l g (pa 1) (pa 2) (pa 3) (pa 4) (pa 5) vp.1 3 _ hf) rfl gX4_count_X2_summed yoX2_summed rfl ⟨Nat.le_of_ble_eq_true rfl, Nat.le_of_ble_eq_true rfl⟩ ⟨⟨Nat.le_of_ble_eq_true rfl, Nat.le_of_ble_eq_true rfl⟩, rfl, rfl⟩ 0 rfl rfl [0, 2, 3, 4, 5, 6, 7, 8, 9, 10, 11, 1] rfl rfl rfl (by decide) rfl (Nat.le_of_ble_eq_true rfl) rfl (fun _ => rfl) dX4_count_74 rfl (fun r74 hf => ?_)
        exact j_iret hX hR dX4_count_77 ⟨_, rfl, hf⟩
      · replace hf := hf.2 hs1
        by_cases hs2 : p0 = 2
        · replace hf := hf.1 hs2
          refine j_tswI (tgt := 78) (cst := 2) hX dX4_count_19 hs2 (by decide) (by decide) rfl (by decide) ?_
          refine j_aload_n (pc' := 79) hX dX4_count_78 rfl 0 rfl rfl ?_
          refine j_get (ci := 4) (pc' := 82) hX hin4 rfl 0 rfl 0 (by decide) hl_10 rfl dX4_count_79 rfl ?_
          refine j_iconst (pc' := 83) (v := 4) hX dX4_count_82 (by decide) rfl ?_
          refine j_callVRb (ci := 2) (nb := 12) (pc' := 86) (As := [.int 4]) (rest := []) (stk := fun r83 => [.int r83]) (bs := (PcB g pa vp)) (cs := ([(MoW g (pa 1) (pa 2) (pa 3) (pa 4) (pa 5) (vp.1))])) (rs := (List.map (fun i : Nat => List.getD (PcB g pa vp) i []) [0, 2, 3, 4, 5, 6, 7, 8, 9, 10, 11])) hX (fun l => met_X2_summed l g (pa 1) (pa 2) (pa 3) (pa 4) (pa 5) vp.1 4 _ hf) rfl gX4_count_X2_summed yoX2_summed rfl ⟨Nat.le_of_ble_eq_true rfl, Nat.le_of_ble_eq_true rfl⟩ ⟨⟨Nat.le_of_ble_eq_true rfl, Nat.le_of_ble_eq_true rfl⟩, rfl, rfl⟩ 0 rfl rfl [0, 2, 3, 4, 5, 6, 7, 8, 9, 10, 11, 1] rfl rfl rfl (by decide) rfl (Nat.le_of_ble_eq_true rfl) rfl (fun _ => rfl) dX4_count_83 rfl (fun r83 hf => ?_)
          exact j_iret hX hR dX4_count_86 ⟨_, rfl, hf⟩
        · replace hf := hf.2 hs2
          by_cases hs3 : p0 = 3
          · replace hf := hf.1 hs3
            refine j_tswI (tgt := 87) (cst := 3) hX dX4_count_19 hs3 (by decide) (by decide) rfl (by decide) ?_
            refine j_aload_n (pc' := 88) hX dX4_count_87 rfl 0 rfl rfl ?_
            refine j_get (ci := 4) (pc' := 91) hX hin4 rfl 0 rfl 0 (by decide) hl_10 rfl dX4_count_88 rfl ?_
            refine j_callVRb (ci := 2) (nb := 12) (pc' := 94) (As := []) (rest := []) (stk := fun r91 => [.int r91]) (bs := (PcB g pa vp)) (cs := ([(MoW g (pa 1) (pa 2) (pa 3) (pa 4) (pa 5) (vp.1))])) (rs := (List.map (fun i : Nat => List.getD (PcB g pa vp) i []) [0, 2, 3, 4, 5, 6, 7, 8, 9, 10, 11])) hX (fun l => met_X2_throughJoints l g (pa 1) (pa 2) (pa 3) (pa 4) (pa 5) vp.1 _ hf) rfl gX4_count_X2_throughJoints yoX2_throughJoints rfl ⟨Nat.le_of_ble_eq_true rfl, Nat.le_of_ble_eq_true rfl⟩ ⟨⟨Nat.le_of_ble_eq_true rfl, Nat.le_of_ble_eq_true rfl⟩, rfl, rfl⟩ 0 rfl rfl [0, 2, 3, 4, 5, 6, 7, 8, 9, 10, 11, 1] rfl rfl rfl (by decide) rfl (Nat.le_of_ble_eq_true rfl) rfl (fun _ => rfl) dX4_count_91 rfl (fun r91 hf => ?_)
            exact j_iret hX hR dX4_count_94 ⟨_, rfl, hf⟩
          · replace hf := hf.2 hs3
            by_cases hs4 : p0 = 4
            · replace hf := hf.1 hs4
              refine j_tswI (tgt := 95) (cst := 4) hX dX4_count_19 hs4 (by decide) (by decide) rfl (by decide) ?_
              refine j_aload_n (pc' := 96) hX dX4_count_95 rfl 0 rfl rfl ?_
              refine j_get (ci := 4) (pc' := 99) hX hin4 rfl 0 rfl 0 (by decide) hl_10 rfl dX4_count_96 rfl ?_
              refine j_bipush (pc' := 101) (v := 6) hX dX4_count_99 (by decide) rfl ?_
              refine j_callVRb (ci := 2) (nb := 12) (pc' := 104) (As := [.int 6]) (rest := []) (stk := fun r101 => [.int r101]) (bs := (PcB g pa vp)) (cs := ([(MoW g (pa 1) (pa 2) (pa 3) (pa 4) (pa 5) (vp.1))])) (rs := (List.map (fun i : Nat => List.getD (PcB g pa vp) i []) [0, 2, 3, 4, 5, 6, 7, 8, 9, 10, 11])) hX (fun l => met_X2_summed l g (pa 1) (pa 2) (pa 3) (pa 4) (pa 5) vp.1 6 _ hf) rfl gX4_count_X2_summed yoX2_summed rfl ⟨Nat.le_of_ble_eq_true rfl, Nat.le_of_ble_eq_true rfl⟩ ⟨⟨Nat.le_of_ble_eq_true rfl, Nat.le_of_ble_eq_true rfl⟩, rfl, rfl⟩ 0 rfl rfl [0, 2, 3, 4, 5, 6, 7, 8, 9, 10, 11, 1] rfl rfl rfl (by decide) rfl (Nat.le_of_ble_eq_true rfl) rfl (fun _ => rfl) dX4_count_101 rfl (fun r101 hf => ?_)
              exact j_iret hX hR dX4_count_104 ⟨_, rfl, hf⟩
            · replace hf := hf.2 hs4
              by_cases hs5 : p0 = 5
              · replace hf := hf.1 hs5
                refine j_tswI (tgt := 105) (cst := 5) hX dX4_count_19 hs5 (by decide) (by decide) rfl (by decide) ?_
                refine j_aload_n (pc' := 106) hX dX4_count_105 rfl 0 rfl rfl ?_
                refine j_get (ci := 4) (pc' := 109) hX hin4 rfl 0 rfl 0 (by decide) hl_10 rfl dX4_count_106 rfl ?_
                refine j_callVRb (ci := 2) (nb := 12) (pc' := 112) (As := []) (rest := []) (stk := fun r109 => [.int r109]) (bs := (PcB g pa vp)) (cs := ([(MoW g (pa 1) (pa 2) (pa 3) (pa 4) (pa 5) (vp.1))])) (rs := (List.map (fun i : Nat => List.getD (PcB g pa vp) i []) [0, 2, 3, 4, 5, 6, 7, 8, 9, 10, 11])) hX (fun l => met_X2_wasted l g (pa 1) (pa 2) (pa 3) (pa 4) (pa 5) vp.1 _ hf) rfl gX4_count_X2_wasted yoX2_wasted rfl ⟨Nat.le_of_ble_eq_true rfl, Nat.le_of_ble_eq_true rfl⟩ ⟨⟨Nat.le_of_ble_eq_true rfl, Nat.le_of_ble_eq_true rfl⟩, rfl, rfl⟩ 0 rfl rfl [0, 2, 3, 4, 5, 6, 7, 8, 9, 10, 11, 1] rfl rfl rfl (by decide) rfl (Nat.le_of_ble_eq_true rfl) rfl (fun _ => rfl) dX4_count_109 rfl (fun r109 hf => ?_)
                exact j_iret hX hR dX4_count_112 ⟨_, rfl, hf⟩
              · replace hf := hf.2 hs5
                by_cases hs6 : p0 = 6
                · replace hf := hf.1 hs6
                  refine j_tswI (tgt := 113) (cst := 6) hX dX4_count_19 hs6 (by decide) (by decide) rfl (by decide) ?_
                  refine j_aload_n (pc' := 114) hX dX4_count_113 rfl 0 rfl rfl ?_
                  refine j_get (ci := 4) (pc' := 117) hX hin4 rfl 0 rfl 0 (by decide) hl_10 rfl dX4_count_114 rfl ?_
                  refine j_callVRb (ci := 2) (nb := 12) (pc' := 120) (As := []) (rest := []) (stk := fun r117 => [.int r117]) (bs := (PcB g pa vp)) (cs := ([(MoW g (pa 1) (pa 2) (pa 3) (pa 4) (pa 5) (vp.1))])) (rs := (List.map (fun i : Nat => List.getD (PcB g pa vp) i []) [0, 2, 3, 4, 5, 6, 7, 8, 9, 10, 11])) hX (fun l => met_X2_stockCells l g (pa 1) (pa 2) (pa 3) (pa 4) (pa 5) vp.1 _ hf) rfl gX4_count_X2_stockCells yoX2_stockCells rfl ⟨Nat.le_of_ble_eq_true rfl, Nat.le_of_ble_eq_true rfl⟩ ⟨⟨Nat.le_of_ble_eq_true rfl, Nat.le_of_ble_eq_true rfl⟩, rfl, rfl⟩ 0 rfl rfl [0, 2, 3, 4, 5, 6, 7, 8, 9, 10, 11, 1] rfl rfl rfl (by decide) rfl (Nat.le_of_ble_eq_true rfl) rfl (fun _ => rfl) dX4_count_117 rfl (fun r117 hf => ?_)
                  exact j_iret hX hR dX4_count_120 ⟨_, rfl, hf⟩
                · replace hf := hf.2 hs6
                  have ho : p0.toInt < 0 ∨ 6 < p0.toInt := by
                    have hq0 := lv_neT (a := 0) hs0 (by decide)
                    have hq1 := lv_neT (a := 1) hs1 (by decide)
                    have hq2 := lv_neT (a := 2) hs2 (by decide)
                    have hq3 := lv_neT (a := 3) hs3 (by decide)
                    have hq4 := lv_neT (a := 4) hs4 (by decide)
                    have hq5 := lv_neT (a := 5) hs5 (by decide)
                    have hq6 := lv_neT (a := 6) hs6 (by decide)
                    omega
                  refine j_tswO (tgt := 121) hX dX4_count_19 ho (by decide) ?_
                  refine j_aload_n (pc' := 122) hX dX4_count_121 rfl 0 rfl rfl ?_
                  refine j_get (ci := 4) (pc' := 125) hX hin4 rfl 0 rfl 3 (by decide) hl_29 rfl dX4_count_122 rfl ?_
                  refine j_callVRb (ci := 1) (nb := 12) (pc' := 128) (As := []) (rest := []) (stk := fun r125 => [.int r125]) (bs := (PcB g pa vp)) (cs := (HiB g (fun i => pa (13 + i)) vp.2.2.2.1)) (rs := (List.map (fun i : Nat => List.getD (PcB g pa vp) i []) [0, 1, 2, 3, 11])) hX (fun l => met_X1_size l g (fun i => pa (13 + i)) vp.2.2.2.1 _ hf) rfl gX4_count_X1_size yoX1_size rfl ⟨Nat.le_of_ble_eq_true rfl, Nat.le_of_ble_eq_true rfl⟩ ⟨⟨Nat.le_of_ble_eq_true rfl, Nat.le_of_ble_eq_true rfl⟩, rfl, rfl⟩ 0 rfl rfl [0, 1, 2, 3, 11, 4, 5, 6, 7, 8, 9, 10] rfl rfl rfl (by decide) rfl (Nat.le_of_ble_eq_true rfl) rfl (fun _ => rfl) dX4_count_125 rfl (fun r125 hf => ?_)
                  exact j_iret hX hR dX4_count_128 ⟨_, rfl, hf⟩
  refine j_iload_n (pc' := 1) hX dX4_count_0 rfl 1 rfl rfl ?_
  refine j_if_lt (tgt := 14) (pc' := 4) hX dX4_count_1 (by decide) rfl hf (fun hf => ?_) (fun hf => ?_)
  · refine j_iconst (pc' := 15) (v := 0) hX dX4_count_14 (by decide) rfl ?_
    exact J15 0 hf
  · refine j_iload_n (pc' := 5) hX dX4_count_4 rfl 1 rfl rfl ?_
    refine j_bipush (pc' := 7) (v := 8) hX dX4_count_5 (by decide) rfl ?_
    refine j_icmp_ge (tgt := 14) (pc' := 10) hX dX4_count_7 (by decide) rfl hf (fun hf => ?_) (fun hf => ?_)
    · refine j_iconst (pc' := 15) (v := 0) hX dX4_count_14 (by decide) rfl ?_
      exact J15 0 hf
    · refine j_iconst (pc' := 11) (v := 1) hX dX4_count_10 (by decide) rfl ?_
      refine j_goto (tgt := 15) hX dX4_count_11 (by decide) ?_
      exact J15 1 hf
def wp_X4_setting (vp : Pc) (p0 : Int32) (post : Int32 → Prop) (pX : String → Prop) : Prop :=
  (wp_X4_needSetting p0 ((wp_X2_settingOf vp.1 p0 (fun r9 => post r9))) pX)
theorem yoX4_setting : yOk yX4_setting 1 := by decide +kernel
set_option maxHeartbeats 4000000 in
set_option maxRecDepth 100000 in
theorem met_X4_setting (l : Launch) (g : JG) (pa : Nat → Nat) (vp : Pc) (p0 : Int32) (post : Int32 → Prop) (pX : String → Prop) (hf : wp_X4_setting vp p0 post pX) : MetX l yX4_setting wsX4_setting ({ frames := 8, cells := 1, slots := 6, locals := 130 } : Room) [.ref (pa 0), .int p0] g ((PcB g pa vp).flatten) mkI (fun r (_ : Unit) => post r) (fun u : Unit => ((PcB g pa vp).flatten)) pX := by
  have hin4 : ∀ w ∈ u_ws RX4 TX4 5, w ∈ wsX4_setting := by decide +kernel
  have hl_10 : Cond.fieldLink RX4 10 (TX4 0).1 (TX4 0).2.1 (TX4 0).2.2.1 ∈ wsX4_setting := by decide +kernel
  refine enterX (own := RX4) (cc := cX4_setting) (nL := 2) (ret := (some .int)) (lv := [(0, .ref (pa 0)), (1, .int p0)]) (by decide) rfl rfl (Nat.le_of_ble_eq_true rfl) rfl (fun X hX hW hE hR hO => ?_)
  unfold wp_X4_setting at hf
  refine j_iload_n (pc' := 1) hX dX4_setting_0 rfl 1 rfl rfl ?_
  refine j_callSXb (nb := 12) (pc' := 4) (k' := 1) (n' := 6) (As := [.int p0]) (rest := []) (stk := fun _ => []) (bs := (PcB g pa vp)) (cs := ([] : List va_W)) (rs := (List.map (fun i : Nat => List.getD (PcB g pa vp) i []) [0, 1, 2, 3, 4, 5, 6, 7, 8, 9, 10, 11])) (ws' := fun _ => ((PcB g pa vp).flatten)) (bs' := fun _ => (PcB g pa vp)) (d1 := fun _ => ([] : List va_W)) hX hW hE (fun l => met_X4_needSetting l g p0 _ _ hf) rfl gX4_setting_X4_needSetting yoX4_needSetting rfl ⟨Nat.le_of_ble_eq_true rfl, Nat.le_of_ble_eq_true rfl⟩ ⟨Nat.le_of_ble_eq_true rfl, Nat.le_of_ble_eq_true rfl, Nat.le_of_ble_eq_true rfl, Nat.le_of_ble_eq_true rfl⟩ [0, 1, 2, 3, 4, 5, 6, 7, 8, 9, 10, 11] rfl rfl rfl (by decide) rfl (fun _ => rfl) (fun _ => rfl) (fun _ => rfl) (fun _ => rfl) (Nat.le_of_ble_eq_true rfl) rfl (fun _ => rfl) dX4_setting_1 rfl (fun _ h => j_out hO (Nat.le_of_ble_eq_true rfl) (Nat.le_of_ble_eq_true rfl) rfl h) (fun _ _ hf => ?_)
  refine j_aload_n (pc' := 5) hX dX4_setting_4 rfl 0 rfl rfl ?_
  refine j_get (ci := 4) (pc' := 8) hX hin4 rfl 0 rfl 0 (by decide) hl_10 rfl dX4_setting_5 rfl ?_
  refine j_iload_n (pc' := 9) hX dX4_setting_8 rfl 1 rfl rfl ?_
  refine j_callVRb (ci := 2) (nb := 12) (pc' := 12) (As := [.int p0]) (rest := []) (stk := fun r9 => [.int r9]) (bs := (PcB g pa vp)) (cs := ([(MoW g (pa 1) (pa 2) (pa 3) (pa 4) (pa 5) (vp.1))])) (rs := (List.map (fun i : Nat => List.getD (PcB g pa vp) i []) [0, 2, 3, 4, 5, 6, 7, 8, 9, 10, 11])) hX (fun l => met_X2_settingOf l g (pa 1) (pa 2) (pa 3) (pa 4) (pa 5) vp.1 p0 _ hf) rfl gX4_setting_X2_settingOf yoX2_settingOf rfl ⟨Nat.le_of_ble_eq_true rfl, Nat.le_of_ble_eq_true rfl⟩ ⟨⟨Nat.le_of_ble_eq_true rfl, Nat.le_of_ble_eq_true rfl⟩, rfl, rfl⟩ 0 rfl rfl [0, 2, 3, 4, 5, 6, 7, 8, 9, 10, 11, 1] rfl rfl rfl (by decide) rfl (Nat.le_of_ble_eq_true rfl) rfl (fun _ => rfl) dX4_setting_9 rfl (fun r9 hf => ?_)
  refine J_widen (k' := 1) (n' := 6) (Nat.le_of_ble_eq_true rfl) (Nat.le_of_ble_eq_true rfl) ?_
  exact j_iret hX hR dX4_setting_12 ⟨_, (), rfl, hf, rfl⟩
def wp_X4_fewest (vp : Pc) (p0 : Int32) (post : Int32 → Pc → Prop) (pX : String → Prop) : Prop :=
  (wp_X4_needCourse p0 ((wp_X0_find vp.2.2.1 vp.1 p0 (fun u13_1 => (wp_X0_pebbles ((pc_c vp (u13_1)).2.2.1) (fun r20 => post r20 (pc_c vp (u13_1))))))) pX)
theorem yoX4_fewest : yOk yX4_fewest 1 := by decide +kernel
set_option maxHeartbeats 4000000 in
set_option maxRecDepth 100000 in
theorem met_X4_fewest (l : Launch) (g : JG) (pa : Nat → Nat) (vp : Pc) (p0 : Int32) (post : Int32 → Pc → Prop) (pX : String → Prop) (hf : wp_X4_fewest vp p0 post pX) : MetX l yX4_fewest wsX4_fewest ({ frames := 8, cells := 1, slots := 6, locals := 130 } : Room) [.ref (pa 0), .int p0] g ((PcB g pa vp).flatten) mkI post (fun u : Pc => ((PcB g pa u).flatten)) pX := by
  have hin4 : ∀ w ∈ u_ws RX4 TX4 5, w ∈ wsX4_fewest := by decide +kernel
  have hl_22 : Cond.fieldLink RX4 22 (TX4 2).1 (TX4 2).2.1 (TX4 2).2.2.1 ∈ wsX4_fewest := by decide +kernel
  have hl_10 : Cond.fieldLink RX4 10 (TX4 0).1 (TX4 0).2.1 (TX4 0).2.2.1 ∈ wsX4_fewest := by decide +kernel
  refine enterX (own := RX4) (cc := cX4_fewest) (nL := 2) (ret := (some .int)) (lv := [(0, .ref (pa 0)), (1, .int p0)]) (by decide) rfl rfl (Nat.le_of_ble_eq_true rfl) rfl (fun X hX hW hE hR hO => ?_)
  unfold wp_X4_fewest at hf
  refine j_iload_n (pc' := 1) hX dX4_fewest_0 rfl 1 rfl rfl ?_
  refine j_callSXb (nb := 12) (pc' := 4) (k' := 1) (n' := 6) (As := [.int p0]) (rest := []) (stk := fun _ => []) (bs := (PcB g pa vp)) (cs := ([] : List va_W)) (rs := (List.map (fun i : Nat => List.getD (PcB g pa vp) i []) [0, 1, 2, 3, 4, 5, 6, 7, 8, 9, 10, 11])) (ws' := fun _ => ((PcB g pa vp).flatten)) (bs' := fun _ => (PcB g pa vp)) (d1 := fun _ => ([] : List va_W)) hX hW hE (fun l => met_X4_needCourse l g p0 _ _ hf) rfl gX4_fewest_X4_needCourse yoX4_needCourse rfl ⟨Nat.le_of_ble_eq_true rfl, Nat.le_of_ble_eq_true rfl⟩ ⟨Nat.le_of_ble_eq_true rfl, Nat.le_of_ble_eq_true rfl, Nat.le_of_ble_eq_true rfl, Nat.le_of_ble_eq_true rfl⟩ [0, 1, 2, 3, 4, 5, 6, 7, 8, 9, 10, 11] rfl rfl rfl (by decide) rfl (fun _ => rfl) (fun _ => rfl) (fun _ => rfl) (fun _ => rfl) (Nat.le_of_ble_eq_true rfl) rfl (fun _ => rfl) dX4_fewest_1 rfl (fun _ h => j_out hO (Nat.le_of_ble_eq_true rfl) (Nat.le_of_ble_eq_true rfl) rfl h) (fun _ _ hf => ?_)
  refine j_aload_n (pc' := 5) hX dX4_fewest_4 rfl 0 rfl rfl ?_
  refine j_get (ci := 4) (pc' := 8) hX hin4 rfl 0 rfl 2 (by decide) hl_22 rfl dX4_fewest_5 rfl ?_
  refine j_aload_n (pc' := 9) hX dX4_fewest_8 rfl 0 rfl rfl ?_
  refine j_get (ci := 4) (pc' := 12) hX hin4 rfl 0 rfl 0 (by decide) hl_10 rfl dX4_fewest_9 rfl ?_
  refine j_iload_n (pc' := 13) hX dX4_fewest_12 rfl 1 rfl rfl ?_
  refine j_callVMb (ci := 0) (nb := 12) (pc' := 16) (k' := 1) (n' := 6) (As := [.ref (pa 1), .int p0]) (rest := []) (stk := fun _ => []) (bs := (PcB g pa vp)) (cs := ([(ClW g (pa 11) (pa 12) (vp.2.2.1))] ++ [(MoW g (pa 1) (pa 2) (pa 3) (pa 4) (pa 5) (vp.1))])) (rs := (List.map (fun i : Nat => List.getD (PcB g pa vp) i []) [0, 2, 4, 5, 6, 7, 8, 9, 10, 11])) (ws' := fun u13_1 => ((PcB g pa (pc_c vp (u13_1))).flatten)) (bs' := fun u13_1 => (PcB g pa (pc_c vp (u13_1)))) (d1 := fun u13_1 => ([(ClW g (pa 11) (pa 12) u13_1)] ++ [(MoW g (pa 1) (pa 2) (pa 3) (pa 4) (pa 5) (vp.1))])) hX hW (fun l => met_X0_find l g (pa 11) (pa 12) (pa 1) (pa 2) (pa 3) (pa 4) (pa 5) vp.2.2.1 vp.1 p0 _ hf) rfl gX4_fewest_X0_find yoX0_find rfl ⟨Nat.le_of_ble_eq_true rfl, Nat.le_of_ble_eq_true rfl⟩ ⟨Nat.le_of_ble_eq_true rfl, Nat.le_of_ble_eq_true rfl, Nat.le_of_ble_eq_true rfl, Nat.le_of_ble_eq_true rfl⟩ 0 rfl rfl [0, 2, 4, 5, 6, 7, 8, 9, 10, 11, 3, 1] rfl rfl rfl (by decide) rfl (fun _ => rfl) (fun _ => rfl) (fun _ => rfl) (fun _ => rfl) (Nat.le_of_ble_eq_true rfl) rfl (fun _ => rfl) dX4_fewest_13 rfl (fun _ u13_1 hf => ?_)
  refine j_aload_n (pc' := 17) hX dX4_fewest_16 rfl 0 rfl rfl ?_
  refine j_get (ci := 4) (pc' := 20) hX hin4 rfl 0 rfl 2 (by decide) hl_22 rfl dX4_fewest_17 rfl ?_
  refine j_callVRb (ci := 0) (nb := 12) (pc' := 23) (As := []) (rest := []) (stk := fun r20 => [.int r20]) (bs := (PcB g pa (pc_c vp (u13_1)))) (cs := ([(ClW g (pa 11) (pa 12) ((pc_c vp (u13_1)).2.2.1))])) (rs := (List.map (fun i : Nat => List.getD (PcB g pa (pc_c vp (u13_1))) i []) [0, 1, 2, 4, 5, 6, 7, 8, 9, 10, 11])) hX (fun l => met_X0_pebbles l g (pa 11) (pa 12) ((pc_c vp (u13_1)).2.2.1) _ hf) rfl gX4_fewest_X0_pebbles yoX0_pebbles rfl ⟨Nat.le_of_ble_eq_true rfl, Nat.le_of_ble_eq_true rfl⟩ ⟨⟨Nat.le_of_ble_eq_true rfl, Nat.le_of_ble_eq_true rfl⟩, rfl, rfl⟩ 0 rfl rfl [0, 1, 2, 4, 5, 6, 7, 8, 9, 10, 11, 3] rfl rfl rfl (by decide) rfl (Nat.le_of_ble_eq_true rfl) rfl (fun _ => rfl) dX4_fewest_20 rfl (fun r20 hf => ?_)
  refine J_widen (k' := 1) (n' := 6) (Nat.le_of_ble_eq_true rfl) (Nat.le_of_ble_eq_true rfl) ?_
  exact j_iret hX hR dX4_fewest_23 ⟨_, _, rfl, hf, rfl⟩
def wp_X4_nextSize (vp : Pc) (p0 : Int32) (post : Int32 → Pc → Prop) (pX : String → Prop) : Prop :=
  (wp_X4_needCourse p0 ((wp_X0_find vp.2.2.1 vp.1 p0 (fun u13_1 => (wp_X0_firstSize ((pc_c vp (u13_1)).2.2.1) (fun r20 => post r20 (pc_c vp (u13_1))))))) pX)
theorem yoX4_nextSize : yOk yX4_nextSize 1 := by decide +kernel
set_option maxHeartbeats 4000000 in
set_option maxRecDepth 100000 in
theorem met_X4_nextSize (l : Launch) (g : JG) (pa : Nat → Nat) (vp : Pc) (p0 : Int32) (post : Int32 → Pc → Prop) (pX : String → Prop) (hf : wp_X4_nextSize vp p0 post pX) : MetX l yX4_nextSize wsX4_nextSize ({ frames := 8, cells := 1, slots := 6, locals := 130 } : Room) [.ref (pa 0), .int p0] g ((PcB g pa vp).flatten) mkI post (fun u : Pc => ((PcB g pa u).flatten)) pX := by
  have hin4 : ∀ w ∈ u_ws RX4 TX4 5, w ∈ wsX4_nextSize := by decide +kernel
  have hl_22 : Cond.fieldLink RX4 22 (TX4 2).1 (TX4 2).2.1 (TX4 2).2.2.1 ∈ wsX4_nextSize := by decide +kernel
  have hl_10 : Cond.fieldLink RX4 10 (TX4 0).1 (TX4 0).2.1 (TX4 0).2.2.1 ∈ wsX4_nextSize := by decide +kernel
  refine enterX (own := RX4) (cc := cX4_nextSize) (nL := 2) (ret := (some .int)) (lv := [(0, .ref (pa 0)), (1, .int p0)]) (by decide) rfl rfl (Nat.le_of_ble_eq_true rfl) rfl (fun X hX hW hE hR hO => ?_)
  unfold wp_X4_nextSize at hf
  refine j_iload_n (pc' := 1) hX dX4_nextSize_0 rfl 1 rfl rfl ?_
  refine j_callSXb (nb := 12) (pc' := 4) (k' := 1) (n' := 6) (As := [.int p0]) (rest := []) (stk := fun _ => []) (bs := (PcB g pa vp)) (cs := ([] : List va_W)) (rs := (List.map (fun i : Nat => List.getD (PcB g pa vp) i []) [0, 1, 2, 3, 4, 5, 6, 7, 8, 9, 10, 11])) (ws' := fun _ => ((PcB g pa vp).flatten)) (bs' := fun _ => (PcB g pa vp)) (d1 := fun _ => ([] : List va_W)) hX hW hE (fun l => met_X4_needCourse l g p0 _ _ hf) rfl gX4_nextSize_X4_needCourse yoX4_needCourse rfl ⟨Nat.le_of_ble_eq_true rfl, Nat.le_of_ble_eq_true rfl⟩ ⟨Nat.le_of_ble_eq_true rfl, Nat.le_of_ble_eq_true rfl, Nat.le_of_ble_eq_true rfl, Nat.le_of_ble_eq_true rfl⟩ [0, 1, 2, 3, 4, 5, 6, 7, 8, 9, 10, 11] rfl rfl rfl (by decide) rfl (fun _ => rfl) (fun _ => rfl) (fun _ => rfl) (fun _ => rfl) (Nat.le_of_ble_eq_true rfl) rfl (fun _ => rfl) dX4_nextSize_1 rfl (fun _ h => j_out hO (Nat.le_of_ble_eq_true rfl) (Nat.le_of_ble_eq_true rfl) rfl h) (fun _ _ hf => ?_)
  refine j_aload_n (pc' := 5) hX dX4_nextSize_4 rfl 0 rfl rfl ?_
  refine j_get (ci := 4) (pc' := 8) hX hin4 rfl 0 rfl 2 (by decide) hl_22 rfl dX4_nextSize_5 rfl ?_
  refine j_aload_n (pc' := 9) hX dX4_nextSize_8 rfl 0 rfl rfl ?_
  refine j_get (ci := 4) (pc' := 12) hX hin4 rfl 0 rfl 0 (by decide) hl_10 rfl dX4_nextSize_9 rfl ?_
  refine j_iload_n (pc' := 13) hX dX4_nextSize_12 rfl 1 rfl rfl ?_
  refine j_callVMb (ci := 0) (nb := 12) (pc' := 16) (k' := 1) (n' := 6) (As := [.ref (pa 1), .int p0]) (rest := []) (stk := fun _ => []) (bs := (PcB g pa vp)) (cs := ([(ClW g (pa 11) (pa 12) (vp.2.2.1))] ++ [(MoW g (pa 1) (pa 2) (pa 3) (pa 4) (pa 5) (vp.1))])) (rs := (List.map (fun i : Nat => List.getD (PcB g pa vp) i []) [0, 2, 4, 5, 6, 7, 8, 9, 10, 11])) (ws' := fun u13_1 => ((PcB g pa (pc_c vp (u13_1))).flatten)) (bs' := fun u13_1 => (PcB g pa (pc_c vp (u13_1)))) (d1 := fun u13_1 => ([(ClW g (pa 11) (pa 12) u13_1)] ++ [(MoW g (pa 1) (pa 2) (pa 3) (pa 4) (pa 5) (vp.1))])) hX hW (fun l => met_X0_find l g (pa 11) (pa 12) (pa 1) (pa 2) (pa 3) (pa 4) (pa 5) vp.2.2.1 vp.1 p0 _ hf) rfl gX4_nextSize_X0_find yoX0_find rfl ⟨Nat.le_of_ble_eq_true rfl, Nat.le_of_ble_eq_true rfl⟩ ⟨Nat.le_of_ble_eq_true rfl, Nat.le_of_ble_eq_true rfl, Nat.le_of_ble_eq_true rfl, Nat.le_of_ble_eq_true rfl⟩ 0 rfl rfl [0, 2, 4, 5, 6, 7, 8, 9, 10, 11, 3, 1] rfl rfl rfl (by decide) rfl (fun _ => rfl) (fun _ => rfl) (fun _ => rfl) (fun _ => rfl) (Nat.le_of_ble_eq_true rfl) rfl (fun _ => rfl) dX4_nextSize_13 rfl (fun _ u13_1 hf => ?_)
  refine j_aload_n (pc' := 17) hX dX4_nextSize_16 rfl 0 rfl rfl ?_
  refine j_get (ci := 4) (pc' := 20) hX hin4 rfl 0 rfl 2 (by decide) hl_22 rfl dX4_nextSize_17 rfl ?_
  refine j_callVRb (ci := 0) (nb := 12) (pc' := 23) (As := []) (rest := []) (stk := fun r20 => [.int r20]) (bs := (PcB g pa (pc_c vp (u13_1)))) (cs := ([(ClW g (pa 11) (pa 12) ((pc_c vp (u13_1)).2.2.1))])) (rs := (List.map (fun i : Nat => List.getD (PcB g pa (pc_c vp (u13_1))) i []) [0, 1, 2, 4, 5, 6, 7, 8, 9, 10, 11])) hX (fun l => met_X0_firstSize l g (pa 11) (pa 12) ((pc_c vp (u13_1)).2.2.1) _ hf) rfl gX4_nextSize_X0_firstSize yoX0_firstSize rfl ⟨Nat.le_of_ble_eq_true rfl, Nat.le_of_ble_eq_true rfl⟩ ⟨⟨Nat.le_of_ble_eq_true rfl, Nat.le_of_ble_eq_true rfl⟩, rfl, rfl⟩ 0 rfl rfl [0, 1, 2, 4, 5, 6, 7, 8, 9, 10, 11, 3] rfl rfl rfl (by decide) rfl (Nat.le_of_ble_eq_true rfl) rfl (fun _ => rfl) dX4_nextSize_20 rfl (fun r20 hf => ?_)
  refine J_widen (k' := 1) (n' := 6) (Nat.le_of_ble_eq_true rfl) (Nat.le_of_ble_eq_true rfl) ?_
  exact j_iret hX hR dX4_nextSize_23 ⟨_, _, rfl, hf, rfl⟩
def wp_X4_ifFilled_c35 (vp : Pc) (p0 : Int32) (p1 : Int32) (p2 : Int32) (post : Int32 → Pc → Prop) (pX : String → Prop) (z0_35 : Int32) : Prop :=
  (wp_X4_needArgument z0_35 ((wp_X2_become vp.2.1 vp.1 (fun u46_1 => (wp_X2_fillCourse ((pc_t vp (u46_1)).2.1) p0 p1 (fun r55 u55_2 => ((p2 = 0 → (wp_X2_freeOf ((pc_t (pc_t vp (u46_1)) (u55_2)).2.1) p0 (fun r93 => post r93 (pc_t (pc_t vp (u46_1)) (u55_2))))) ∧ (¬ p2 = 0 → ((p2 = 1 → post r55 (pc_t (pc_t vp (u46_1)) (u55_2))) ∧ (¬ p2 = 1 → (wp_X2_meetingJointsOf ((pc_t (pc_t vp (u46_1)) (u55_2)).2.1) p0 (fun r105 => post r105 (pc_t (pc_t vp (u46_1)) (u55_2))))))))))))) pX)
def wp_X4_ifFilled (vp : Pc) (p0 : Int32) (p1 : Int32) (p2 : Int32) (post : Int32 → Pc → Prop) (pX : String → Prop) : Prop :=
  (wp_X4_needCourse p0 (((p1 < 0 → (wp_X4_needArgument 0 (((p2 < 0 → wp_X4_ifFilled_c35 vp p0 p1 p2 post pX 0) ∧ (¬ p2 < 0 → ((3 ≤ p2 → wp_X4_ifFilled_c35 vp p0 p1 p2 post pX 0) ∧ (¬ 3 ≤ p2 → wp_X4_ifFilled_c35 vp p0 p1 p2 post pX 1))))) pX)) ∧ (¬ p1 < 0 → ((3 ≤ p1 → (wp_X4_needArgument 0 (((p2 < 0 → wp_X4_ifFilled_c35 vp p0 p1 p2 post pX 0) ∧ (¬ p2 < 0 → ((3 ≤ p2 → wp_X4_ifFilled_c35 vp p0 p1 p2 post pX 0) ∧ (¬ 3 ≤ p2 → wp_X4_ifFilled_c35 vp p0 p1 p2 post pX 1))))) pX)) ∧ (¬ 3 ≤ p1 → (wp_X4_needArgument 1 (((p2 < 0 → wp_X4_ifFilled_c35 vp p0 p1 p2 post pX 0) ∧ (¬ p2 < 0 → ((3 ≤ p2 → wp_X4_ifFilled_c35 vp p0 p1 p2 post pX 0) ∧ (¬ 3 ≤ p2 → wp_X4_ifFilled_c35 vp p0 p1 p2 post pX 1))))) pX)))))) pX)
theorem yoX4_ifFilled : yOk yX4_ifFilled 3 := by decide +kernel
set_option maxHeartbeats 4000000 in
set_option maxRecDepth 100000 in
theorem met_X4_ifFilled (l : Launch) (g : JG) (pa : Nat → Nat) (vp : Pc) (p0 : Int32) (p1 : Int32) (p2 : Int32) (post : Int32 → Pc → Prop) (pX : String → Prop) (hf : wp_X4_ifFilled vp p0 p1 p2 post pX) : MetX l yX4_ifFilled wsX4_ifFilled ({ frames := 8, cells := 3, slots := 18, locals := 130 } : Room) [.ref (pa 0), .int p0, .int p1, .int p2] g ((PcB g pa vp).flatten) mkI post (fun u : Pc => ((PcB g pa u).flatten)) pX := by
  have hin4 : ∀ w ∈ u_ws RX4 TX4 5, w ∈ wsX4_ifFilled := by decide +kernel
  have hl_16 : Cond.fieldLink RX4 16 (TX4 1).1 (TX4 1).2.1 (TX4 1).2.2.1 ∈ wsX4_ifFilled := by decide +kernel
  have hl_10 : Cond.fieldLink RX4 10 (TX4 0).1 (TX4 0).2.1 (TX4 0).2.2.1 ∈ wsX4_ifFilled := by decide +kernel
  refine enterX (own := RX4) (cc := cX4_ifFilled) (nL := 5) (ret := (some .int)) (lv := [(0, .ref (pa 0)), (1, .int p0), (2, .int p1), (3, .int p2)]) (by decide) rfl rfl (Nat.le_of_ble_eq_true rfl) rfl (fun X hX hW hE hR hO => ?_)
  unfold wp_X4_ifFilled at hf
  have J35 : ∀ (z0_35 : Int32), wp_X4_ifFilled_c35 vp p0 p1 p2 post pX z0_35 → J g X 2 12 ((PcB g pa vp).flatten) [(0, .ref (pa 0)), (1, .int p0), (2, .int p1), (3, .int p2)] [.int z0_35] 35 := by
    intro z0_35 hf
    refine j_callSXb (nb := 12) (pc' := 38) (k' := 3) (n' := 18) (As := [.int z0_35]) (rest := []) (stk := fun _ => []) (bs := (PcB g pa vp)) (cs := ([] : List va_W)) (rs := (List.map (fun i : Nat => List.getD (PcB g pa vp) i []) [0, 1, 2, 3, 4, 5, 6, 7, 8, 9, 10, 11])) (ws' := fun _ => ((PcB g pa vp).flatten)) (bs' := fun _ => (PcB g pa vp)) (d1 := fun _ => ([] : List va_W)) hX hW hE (fun l => met_X4_needArgument l g z0_35 _ _ hf) rfl gX4_ifFilled_X4_needArgument yoX4_needArgument rfl ⟨Nat.le_of_ble_eq_true rfl, Nat.le_of_ble_eq_true rfl⟩ ⟨Nat.le_of_ble_eq_true rfl, Nat.le_of_ble_eq_true rfl, Nat.le_of_ble_eq_true rfl, Nat.le_of_ble_eq_true rfl⟩ [0, 1, 2, 3, 4, 5, 6, 7, 8, 9, 10, 11] rfl rfl rfl (by decide) rfl (fun _ => rfl) (fun _ => rfl) (fun _ => rfl) (fun _ => rfl) (Nat.le_of_ble_eq_true rfl) rfl (fun _ => rfl) dX4_ifFilled_35 rfl (fun _ h => j_out hO (Nat.le_of_ble_eq_true rfl) (Nat.le_of_ble_eq_true rfl) rfl h) (fun _ _ hf => ?_)
    refine j_aload_n (pc' := 39) hX dX4_ifFilled_38 rfl 0 rfl rfl ?_
    refine j_get (ci := 4) (pc' := 42) hX hin4 rfl 0 rfl 1 (by decide) hl_16 rfl dX4_ifFilled_39 rfl ?_
    refine j_aload_n (pc' := 43) hX dX4_ifFilled_42 rfl 0 rfl rfl ?_
    refine j_get (ci := 4) (pc' := 46) hX hin4 rfl 0 rfl 0 (by decide) hl_10 rfl dX4_ifFilled_43 rfl ?_
    refine j_callVMb (ci := 2) (nb := 12) (pc' := 49) (k' := 3) (n' := 18) (As := [.ref (pa 1)]) (rest := []) (stk := fun _ => []) (bs := (PcB g pa vp)) (cs := ([(MoW g (pa 6) (pa 7) (pa 8) (pa 9) (pa 10) (vp.2.1))] ++ [(MoW g (pa 1) (pa 2) (pa 3) (pa 4) (pa 5) (vp.1))])) (rs := (List.map (fun i : Nat => List.getD (PcB g pa vp) i []) [0, 3, 4, 5, 6, 7, 8, 9, 10, 11])) (ws' := fun u46_1 => ((PcB g pa (pc_t vp (u46_1))).flatten)) (bs' := fun u46_1 => (PcB g pa (pc_t vp (u46_1)))) (d1 := fun u46_1 => ([(MoW g (pa 6) (pa 7) (pa 8) (pa 9) (pa 10) u46_1)] ++ [(MoW g (pa 1) (pa 2) (pa 3) (pa 4) (pa 5) (vp.1))])) hX hW (fun l => met_X2_become l g (pa 6) (pa 7) (pa 8) (pa 9) (pa 10) (pa 1) (pa 2) (pa 3) (pa 4) (pa 5) vp.2.1 vp.1 _ hf) rfl gX4_ifFilled_X2_become yoX2_become rfl ⟨Nat.le_of_ble_eq_true rfl, Nat.le_of_ble_eq_true rfl⟩ ⟨Nat.le_of_ble_eq_true rfl, Nat.le_of_ble_eq_true rfl, Nat.le_of_ble_eq_true rfl, Nat.le_of_ble_eq_true rfl⟩ 0 rfl rfl [0, 3, 4, 5, 6, 7, 8, 9, 10, 11, 2, 1] rfl rfl rfl (by decide) rfl (fun _ => rfl) (fun _ => rfl) (fun _ => rfl) (fun _ => rfl) (Nat.le_of_ble_eq_true rfl) rfl (fun _ => rfl) dX4_ifFilled_46 rfl (fun _ u46_1 hf => ?_)
    refine j_aload_n (pc' := 50) hX dX4_ifFilled_49 rfl 0 rfl rfl ?_
    refine j_get (ci := 4) (pc' := 53) hX hin4 rfl 0 rfl 1 (by decide) hl_16 rfl dX4_ifFilled_50 rfl ?_
    refine j_iload_n (pc' := 54) hX dX4_ifFilled_53 rfl 1 rfl rfl ?_
    refine j_iload_n (pc' := 55) hX dX4_ifFilled_54 rfl 2 rfl rfl ?_
    refine j_callVMb (ci := 2) (nb := 12) (pc' := 58) (k' := 3) (n' := 18) (As := [.int p0, .int p1]) (rest := []) (stk := fun r55 => [.int r55]) (bs := (PcB g pa (pc_t vp (u46_1)))) (cs := ([(MoW g (pa 6) (pa 7) (pa 8) (pa 9) (pa 10) ((pc_t vp (u46_1)).2.1))])) (rs := (List.map (fun i : Nat => List.getD (PcB g pa (pc_t vp (u46_1))) i []) [0, 1, 3, 4, 5, 6, 7, 8, 9, 10, 11])) (ws' := fun u55_2 => ((PcB g pa (pc_t (pc_t vp (u46_1)) (u55_2))).flatten)) (bs' := fun u55_2 => (PcB g pa (pc_t (pc_t vp (u46_1)) (u55_2)))) (d1 := fun u55_2 => ([(MoW g (pa 6) (pa 7) (pa 8) (pa 9) (pa 10) u55_2)])) hX hW (fun l => met_X2_fillCourse l g (pa 6) (pa 7) (pa 8) (pa 9) (pa 10) ((pc_t vp (u46_1)).2.1) p0 p1 _ hf) rfl gX4_ifFilled_X2_fillCourse yoX2_fillCourse rfl ⟨Nat.le_of_ble_eq_true rfl, Nat.le_of_ble_eq_true rfl⟩ ⟨Nat.le_of_ble_eq_true rfl, Nat.le_of_ble_eq_true rfl, Nat.le_of_ble_eq_true rfl, Nat.le_of_ble_eq_true rfl⟩ 0 rfl rfl [0, 1, 3, 4, 5, 6, 7, 8, 9, 10, 11, 2] rfl rfl rfl (by decide) rfl (fun _ => rfl) (fun _ => rfl) (fun _ => rfl) (fun _ => rfl) (Nat.le_of_ble_eq_true rfl) rfl (fun _ => rfl) dX4_ifFilled_55 rfl (fun r55 u55_2 hf => ?_)
    refine j_istore (pc' := 60) (lv' := [(4, .int r55), (0, .ref (pa 0)), (1, .int p0), (2, .int p1), (3, .int p2)]) hX dX4_ifFilled_58 (by decide) rfl rfl ?_
    refine j_iload_n (pc' := 61) hX dX4_ifFilled_60 rfl 4 rfl rfl ?_
    by_cases hs0 : p2 = 0
    · replace hf := hf.1 hs0
      refine j_lsw (tgt := 88) (off := 27) hX dX4_ifFilled_61 (by decide) (by rw [hs0]; decide) (by decide) ?_
      refine j_aload_n (pc' := 89) hX dX4_ifFilled_88 rfl 1 rfl rfl ?_
      refine j_get (ci := 4) (pc' := 92) hX hin4 rfl 0 rfl 1 (by decide) hl_16 rfl dX4_ifFilled_89 rfl ?_
      refine j_iload_n (pc' := 93) hX dX4_ifFilled_92 rfl 2 rfl rfl ?_
      refine j_callVRb (ci := 2) (nb := 12) (pc' := 96) (As := [.int p0]) (rest := []) (stk := fun r93 => [.int r93]) (bs := (PcB g pa (pc_t (pc_t vp (u46_1)) (u55_2)))) (cs := ([(MoW g (pa 6) (pa 7) (pa 8) (pa 9) (pa 10) ((pc_t (pc_t vp (u46_1)) (u55_2)).2.1))])) (rs := (List.map (fun i : Nat => List.getD (PcB g pa (pc_t (pc_t vp (u46_1)) (u55_2))) i []) [0, 1, 3, 4, 5, 6, 7, 8, 9, 10, 11])) hX (fun l => met_X2_freeOf l g (pa 6) (pa 7) (pa 8) (pa 9) (pa 10) ((pc_t (pc_t vp (u46_1)) (u55_2)).2.1) p0 _ hf) rfl gX4_ifFilled_X2_freeOf yoX2_freeOf rfl ⟨Nat.le_of_ble_eq_true rfl, Nat.le_of_ble_eq_true rfl⟩ ⟨⟨Nat.le_of_ble_eq_true rfl, Nat.le_of_ble_eq_true rfl⟩, rfl, rfl⟩ 0 rfl rfl [0, 1, 3, 4, 5, 6, 7, 8, 9, 10, 11, 2] rfl rfl rfl (by decide) rfl (Nat.le_of_ble_eq_true rfl) rfl (fun _ => rfl) dX4_ifFilled_93 rfl (fun r93 hf => ?_)
      refine J_widen (k' := 3) (n' := 18) (Nat.le_of_ble_eq_true rfl) (Nat.le_of_ble_eq_true rfl) ?_
      exact j_iret hX hR dX4_ifFilled_96 ⟨_, _, rfl, hf, rfl⟩
    · replace hf := hf.2 hs0
      by_cases hs1 : p2 = 1
      · replace hf := hf.1 hs1
        refine j_lsw (tgt := 97) (off := 36) hX dX4_ifFilled_61 (by decide) (by rw [hs1]; decide) (by decide) ?_
        refine j_iload (pc' := 99) hX dX4_ifFilled_97 0 rfl rfl ?_
        refine J_widen (k' := 3) (n' := 18) (Nat.le_of_ble_eq_true rfl) (Nat.le_of_ble_eq_true rfl) ?_
        exact j_iret hX hR dX4_ifFilled_99 ⟨_, _, rfl, hf, rfl⟩
      · replace hf := hf.2 hs1
        refine j_lsw (tgt := 100) (off := 39) hX dX4_ifFilled_61 (by decide) (by rw [lv_osw hs0 (by decide), lv_osw hs1 (by decide)] <;> rfl) (by decide) ?_
        refine j_aload_n (pc' := 101) hX dX4_ifFilled_100 rfl 1 rfl rfl ?_
        refine j_get (ci := 4) (pc' := 104) hX hin4 rfl 0 rfl 1 (by decide) hl_16 rfl dX4_ifFilled_101 rfl ?_
        refine j_iload_n (pc' := 105) hX dX4_ifFilled_104 rfl 2 rfl rfl ?_
        refine j_callVRb (ci := 2) (nb := 12) (pc' := 108) (As := [.int p0]) (rest := []) (stk := fun r105 => [.int r105]) (bs := (PcB g pa (pc_t (pc_t vp (u46_1)) (u55_2)))) (cs := ([(MoW g (pa 6) (pa 7) (pa 8) (pa 9) (pa 10) ((pc_t (pc_t vp (u46_1)) (u55_2)).2.1))])) (rs := (List.map (fun i : Nat => List.getD (PcB g pa (pc_t (pc_t vp (u46_1)) (u55_2))) i []) [0, 1, 3, 4, 5, 6, 7, 8, 9, 10, 11])) hX (fun l => met_X2_meetingJointsOf l g (pa 6) (pa 7) (pa 8) (pa 9) (pa 10) ((pc_t (pc_t vp (u46_1)) (u55_2)).2.1) p0 _ hf) rfl gX4_ifFilled_X2_meetingJointsOf yoX2_meetingJointsOf rfl ⟨Nat.le_of_ble_eq_true rfl, Nat.le_of_ble_eq_true rfl⟩ ⟨⟨Nat.le_of_ble_eq_true rfl, Nat.le_of_ble_eq_true rfl⟩, rfl, rfl⟩ 0 rfl rfl [0, 1, 3, 4, 5, 6, 7, 8, 9, 10, 11, 2] rfl rfl rfl (by decide) rfl (Nat.le_of_ble_eq_true rfl) rfl (fun _ => rfl) dX4_ifFilled_105 rfl (fun r105 hf => ?_)
        refine J_widen (k' := 3) (n' := 18) (Nat.le_of_ble_eq_true rfl) (Nat.le_of_ble_eq_true rfl) ?_
        exact j_iret hX hR dX4_ifFilled_108 ⟨_, _, rfl, hf, rfl⟩
  refine j_iload_n (pc' := 1) hX dX4_ifFilled_0 rfl 1 rfl rfl ?_
  refine j_callSXb (nb := 12) (pc' := 4) (k' := 1) (n' := 6) (As := [.int p0]) (rest := []) (stk := fun _ => []) (bs := (PcB g pa vp)) (cs := ([] : List va_W)) (rs := (List.map (fun i : Nat => List.getD (PcB g pa vp) i []) [0, 1, 2, 3, 4, 5, 6, 7, 8, 9, 10, 11])) (ws' := fun _ => ((PcB g pa vp).flatten)) (bs' := fun _ => (PcB g pa vp)) (d1 := fun _ => ([] : List va_W)) hX hW hE (fun l => met_X4_needCourse l g p0 _ _ hf) rfl gX4_ifFilled_X4_needCourse yoX4_needCourse rfl ⟨Nat.le_of_ble_eq_true rfl, Nat.le_of_ble_eq_true rfl⟩ ⟨Nat.le_of_ble_eq_true rfl, Nat.le_of_ble_eq_true rfl, Nat.le_of_ble_eq_true rfl, Nat.le_of_ble_eq_true rfl⟩ [0, 1, 2, 3, 4, 5, 6, 7, 8, 9, 10, 11] rfl rfl rfl (by decide) rfl (fun _ => rfl) (fun _ => rfl) (fun _ => rfl) (fun _ => rfl) (Nat.le_of_ble_eq_true rfl) rfl (fun _ => rfl) dX4_ifFilled_1 rfl (fun _ h => j_out hO (Nat.le_of_ble_eq_true rfl) (Nat.le_of_ble_eq_true rfl) rfl h) (fun _ _ hf => ?_)
  refine j_iload_n (pc' := 5) hX dX4_ifFilled_4 rfl 2 rfl rfl ?_
  refine j_if_lt (tgt := 17) (pc' := 8) hX dX4_ifFilled_5 (by decide) rfl hf (fun hf => ?_) (fun hf => ?_)
  · refine j_iconst (pc' := 18) (v := 0) hX dX4_ifFilled_17 (by decide) rfl ?_
    refine j_callSXb (nb := 12) (pc' := 21) (k' := 2) (n' := 12) (As := [.int 0]) (rest := []) (stk := fun _ => []) (bs := (PcB g pa vp)) (cs := ([] : List va_W)) (rs := (List.map (fun i : Nat => List.getD (PcB g pa vp) i []) [0, 1, 2, 3, 4, 5, 6, 7, 8, 9, 10, 11])) (ws' := fun _ => ((PcB g pa vp).flatten)) (bs' := fun _ => (PcB g pa vp)) (d1 := fun _ => ([] : List va_W)) hX hW hE (fun l => met_X4_needArgument l g 0 _ _ hf) rfl gX4_ifFilled_X4_needArgument yoX4_needArgument rfl ⟨Nat.le_of_ble_eq_true rfl, Nat.le_of_ble_eq_true rfl⟩ ⟨Nat.le_of_ble_eq_true rfl, Nat.le_of_ble_eq_true rfl, Nat.le_of_ble_eq_true rfl, Nat.le_of_ble_eq_true rfl⟩ [0, 1, 2, 3, 4, 5, 6, 7, 8, 9, 10, 11] rfl rfl rfl (by decide) rfl (fun _ => rfl) (fun _ => rfl) (fun _ => rfl) (fun _ => rfl) (Nat.le_of_ble_eq_true rfl) rfl (fun _ => rfl) dX4_ifFilled_18 rfl (fun _ h => j_out hO (Nat.le_of_ble_eq_true rfl) (Nat.le_of_ble_eq_true rfl) rfl h) (fun _ _ hf => ?_)
    refine j_iload_n (pc' := 22) hX dX4_ifFilled_21 rfl 3 rfl rfl ?_
    refine j_if_lt (tgt := 34) (pc' := 25) hX dX4_ifFilled_22 (by decide) rfl hf (fun hf => ?_) (fun hf => ?_)
    · refine j_iconst (pc' := 35) (v := 0) hX dX4_ifFilled_34 (by decide) rfl ?_
      exact J35 0 hf
    · refine j_iload_n (pc' := 26) hX dX4_ifFilled_25 rfl 3 rfl rfl ?_
      refine j_iconst (pc' := 27) (v := 3) hX dX4_ifFilled_26 (by decide) rfl ?_
      refine j_icmp_ge (tgt := 34) (pc' := 30) hX dX4_ifFilled_27 (by decide) rfl hf (fun hf => ?_) (fun hf => ?_)
      · refine j_iconst (pc' := 35) (v := 0) hX dX4_ifFilled_34 (by decide) rfl ?_
        exact J35 0 hf
      · refine j_iconst (pc' := 31) (v := 1) hX dX4_ifFilled_30 (by decide) rfl ?_
        refine j_goto (tgt := 35) hX dX4_ifFilled_31 (by decide) ?_
        exact J35 1 hf
  · refine j_iload_n (pc' := 9) hX dX4_ifFilled_8 rfl 2 rfl rfl ?_
    refine j_iconst (pc' := 10) (v := 3) hX dX4_ifFilled_9 (by decide) rfl ?_
    refine j_icmp_ge (tgt := 17) (pc' := 13) hX dX4_ifFilled_10 (by decide) rfl hf (fun hf => ?_) (fun hf => ?_)
    · refine j_iconst (pc' := 18) (v := 0) hX dX4_ifFilled_17 (by decide) rfl ?_
      refine j_callSXb (nb := 12) (pc' := 21) (k' := 2) (n' := 12) (As := [.int 0]) (rest := []) (stk := fun _ => []) (bs := (PcB g pa vp)) (cs := ([] : List va_W)) (rs := (List.map (fun i : Nat => List.getD (PcB g pa vp) i []) [0, 1, 2, 3, 4, 5, 6, 7, 8, 9, 10, 11])) (ws' := fun _ => ((PcB g pa vp).flatten)) (bs' := fun _ => (PcB g pa vp)) (d1 := fun _ => ([] : List va_W)) hX hW hE (fun l => met_X4_needArgument l g 0 _ _ hf) rfl gX4_ifFilled_X4_needArgument yoX4_needArgument rfl ⟨Nat.le_of_ble_eq_true rfl, Nat.le_of_ble_eq_true rfl⟩ ⟨Nat.le_of_ble_eq_true rfl, Nat.le_of_ble_eq_true rfl, Nat.le_of_ble_eq_true rfl, Nat.le_of_ble_eq_true rfl⟩ [0, 1, 2, 3, 4, 5, 6, 7, 8, 9, 10, 11] rfl rfl rfl (by decide) rfl (fun _ => rfl) (fun _ => rfl) (fun _ => rfl) (fun _ => rfl) (Nat.le_of_ble_eq_true rfl) rfl (fun _ => rfl) dX4_ifFilled_18 rfl (fun _ h => j_out hO (Nat.le_of_ble_eq_true rfl) (Nat.le_of_ble_eq_true rfl) rfl h) (fun _ _ hf => ?_)
      refine j_iload_n (pc' := 22) hX dX4_ifFilled_21 rfl 3 rfl rfl ?_
      refine j_if_lt (tgt := 34) (pc' := 25) hX dX4_ifFilled_22 (by decide) rfl hf (fun hf => ?_) (fun hf => ?_)
      · refine j_iconst (pc' := 35) (v := 0) hX dX4_ifFilled_34 (by decide) rfl ?_
        exact J35 0 hf
      · refine j_iload_n (pc' := 26) hX dX4_ifFilled_25 rfl 3 rfl rfl ?_
        refine j_iconst (pc' := 27) (v := 3) hX dX4_ifFilled_26 (by decide) rfl ?_
        refine j_icmp_ge (tgt := 34) (pc' := 30) hX dX4_ifFilled_27 (by decide) rfl hf (fun hf => ?_) (fun hf => ?_)
        · refine j_iconst (pc' := 35) (v := 0) hX dX4_ifFilled_34 (by decide) rfl ?_
          exact J35 0 hf
        · refine j_iconst (pc' := 31) (v := 1) hX dX4_ifFilled_30 (by decide) rfl ?_
          refine j_goto (tgt := 35) hX dX4_ifFilled_31 (by decide) ?_
          exact J35 1 hf
    · refine j_iconst (pc' := 14) (v := 1) hX dX4_ifFilled_13 (by decide) rfl ?_
      refine j_goto (tgt := 18) hX dX4_ifFilled_14 (by decide) ?_
      refine j_callSXb (nb := 12) (pc' := 21) (k' := 2) (n' := 12) (As := [.int 1]) (rest := []) (stk := fun _ => []) (bs := (PcB g pa vp)) (cs := ([] : List va_W)) (rs := (List.map (fun i : Nat => List.getD (PcB g pa vp) i []) [0, 1, 2, 3, 4, 5, 6, 7, 8, 9, 10, 11])) (ws' := fun _ => ((PcB g pa vp).flatten)) (bs' := fun _ => (PcB g pa vp)) (d1 := fun _ => ([] : List va_W)) hX hW hE (fun l => met_X4_needArgument l g 1 _ _ hf) rfl gX4_ifFilled_X4_needArgument yoX4_needArgument rfl ⟨Nat.le_of_ble_eq_true rfl, Nat.le_of_ble_eq_true rfl⟩ ⟨Nat.le_of_ble_eq_true rfl, Nat.le_of_ble_eq_true rfl, Nat.le_of_ble_eq_true rfl, Nat.le_of_ble_eq_true rfl⟩ [0, 1, 2, 3, 4, 5, 6, 7, 8, 9, 10, 11] rfl rfl rfl (by decide) rfl (fun _ => rfl) (fun _ => rfl) (fun _ => rfl) (fun _ => rfl) (Nat.le_of_ble_eq_true rfl) rfl (fun _ => rfl) dX4_ifFilled_18 rfl (fun _ h => j_out hO (Nat.le_of_ble_eq_true rfl) (Nat.le_of_ble_eq_true rfl) rfl h) (fun _ _ hf => ?_)
      refine j_iload_n (pc' := 22) hX dX4_ifFilled_21 rfl 3 rfl rfl ?_
      refine j_if_lt (tgt := 34) (pc' := 25) hX dX4_ifFilled_22 (by decide) rfl hf (fun hf => ?_) (fun hf => ?_)
      · refine j_iconst (pc' := 35) (v := 0) hX dX4_ifFilled_34 (by decide) rfl ?_
        exact J35 0 hf
      · refine j_iload_n (pc' := 26) hX dX4_ifFilled_25 rfl 3 rfl rfl ?_
        refine j_iconst (pc' := 27) (v := 3) hX dX4_ifFilled_26 (by decide) rfl ?_
        refine j_icmp_ge (tgt := 34) (pc' := 30) hX dX4_ifFilled_27 (by decide) rfl hf (fun hf => ?_) (fun hf => ?_)
        · refine j_iconst (pc' := 35) (v := 0) hX dX4_ifFilled_34 (by decide) rfl ?_
          exact J35 0 hf
        · refine j_iconst (pc' := 31) (v := 1) hX dX4_ifFilled_30 (by decide) rfl ?_
          refine j_goto (tgt := 35) hX dX4_ifFilled_31 (by decide) ?_
          exact J35 1 hf
def wp_X4_bestRule_c138 (x1_12 : Int32) (x2_12 : Int32) (x3_12 : Int32) (x4_12 : Int32) (x5_12 : Int32) (KB12 : Int32 → Int32 → Int32 → Int32 → Int32 → Pc → Prop) (y6_138 : Int32) (y7_138 : Int32) (y8_138 : Int32) (z0_138 : Int32) (vp_138 : Pc) : Prop :=
  ((x1_12 = (-1) → KB12 x5_12 y6_138 y7_138 y8_138 (x5_12 + 1) vp_138) ∧ (¬ x1_12 = (-1) → ((z0_138 = 0 → KB12 x1_12 x2_12 x3_12 x4_12 (x5_12 + 1) vp_138) ∧ (¬ z0_138 = 0 → KB12 x5_12 y6_138 y7_138 y8_138 (x5_12 + 1) vp_138))))
def wp_X4_bestRule_L32 (x5_12 : Int32) (K32_57 : Pc → Prop) : Nat → Int32 → Pc → Prop
  | 0, _, _ => False
  | N32 + 1, x6_32, vp_32 =>
  ((6 ≤ x6_32 → K32_57 vp_32) ∧ (¬ 6 ≤ x6_32 → (wp_X2_fillCourse vp_32.2.1 x6_32 x5_12 (fun r47 u47_2 => (wp_X4_bestRule_L32 x5_12 K32_57 N32) (x6_32 + 1) (pc_t vp_32 (u47_2))))))
def wp_X4_bestRule_L12  (K12_169 : Int32 → Pc → Prop) : Nat → Int32 → Int32 → Int32 → Int32 → Int32 → Pc → Prop
  | 0, _, _, _, _, _, _ => False
  | N12 + 1, x1_12, x2_12, x3_12, x4_12, x5_12, vp_12 =>
  ((3 ≤ x5_12 → K12_169 x1_12 vp_12) ∧ (¬ 3 ≤ x5_12 → (wp_X2_become vp_12.2.1 vp_12.1 (fun u26_1 => (∃ N : Nat, wp_X4_bestRule_L32 x5_12 (fun (e3 : Pc) => (wp_X2_summed e3.2.1 3 (fun r62 => (wp_X2_wasted e3.2.1 (fun r71 => (wp_X2_summed e3.2.1 1 (fun r81 => ((r62 = x2_12 → ((r71 = x3_12 → ((x4_12 ≤ r81 → wp_X4_bestRule_c138 x1_12 x2_12 x3_12 x4_12 x5_12 (wp_X4_bestRule_L12 K12_169 N12) r62 r71 r81 0 e3) ∧ (¬ x4_12 ≤ r81 → wp_X4_bestRule_c138 x1_12 x2_12 x3_12 x4_12 x5_12 (wp_X4_bestRule_L12 K12_169 N12) r62 r71 r81 1 e3))) ∧ (¬ r71 = x3_12 → ((x3_12 ≤ r71 → wp_X4_bestRule_c138 x1_12 x2_12 x3_12 x4_12 x5_12 (wp_X4_bestRule_L12 K12_169 N12) r62 r71 r81 0 e3) ∧ (¬ x3_12 ≤ r71 → wp_X4_bestRule_c138 x1_12 x2_12 x3_12 x4_12 x5_12 (wp_X4_bestRule_L12 K12_169 N12) r62 r71 r81 1 e3))))) ∧ (¬ r62 = x2_12 → ((r62 ≤ x2_12 → wp_X4_bestRule_c138 x1_12 x2_12 x3_12 x4_12 x5_12 (wp_X4_bestRule_L12 K12_169 N12) r62 r71 r81 0 e3) ∧ (¬ r62 ≤ x2_12 → wp_X4_bestRule_c138 x1_12 x2_12 x3_12 x4_12 x5_12 (wp_X4_bestRule_L12 K12_169 N12) r62 r71 r81 1 e3))))))))))) N 0 (pc_t vp_12 (u26_1)))))))
def wp_X4_bestRule (vp : Pc) (post : Int32 → Pc → Prop) : Prop :=
  (∃ N : Nat, wp_X4_bestRule_L12 (fun (e4 : Int32) (e5 : Pc) => post e4 e5) N (-1) 0 0 0 0 vp)
theorem yoX4_bestRule : yOk yX4_bestRule 0 := by decide +kernel
set_option maxHeartbeats 4000000 in
set_option maxRecDepth 100000 in
theorem met_X4_bestRule (l : Launch) (g : JG) (pa : Nat → Nat) (vp : Pc) (post : Int32 → Pc → Prop) (hf : wp_X4_bestRule vp post) : MetM l yX4_bestRule wsX4_bestRule ({ frames := 5, cells := 0, slots := 0, locals := 120 } : Room) [.ref (pa 0)] g ((PcB g pa vp).flatten) mkI post (fun u : Pc => ((PcB g pa u).flatten)) := by
  have hin4 : ∀ w ∈ u_ws RX4 TX4 5, w ∈ wsX4_bestRule := by decide +kernel
  have hl_16 : Cond.fieldLink RX4 16 (TX4 1).1 (TX4 1).2.1 (TX4 1).2.2.1 ∈ wsX4_bestRule := by decide +kernel
  have hl_10 : Cond.fieldLink RX4 10 (TX4 0).1 (TX4 0).2.1 (TX4 0).2.2.1 ∈ wsX4_bestRule := by decide +kernel
  refine enterM (own := RX4) (cc := cX4_bestRule) (nL := 10) (ret := (some .int)) (lv := [(0, .ref (pa 0))]) (by decide) rfl rfl (Nat.le_of_ble_eq_true rfl) rfl (fun X hX hW hR => ?_)
  unfold wp_X4_bestRule at hf
  refine j_iconst (pc' := 1) (v := (-1)) hX dX4_bestRule_0 (by decide) rfl ?_
  refine j_istore_n (pc' := 2) (lv' := [(1, .int (-1)), (0, .ref (pa 0))]) hX dX4_bestRule_1 rfl (by decide) rfl rfl ?_
  refine j_iconst (pc' := 3) (v := 0) hX dX4_bestRule_2 (by decide) rfl ?_
  refine j_istore_n (pc' := 4) (lv' := [(2, .int 0), (1, .int (-1)), (0, .ref (pa 0))]) hX dX4_bestRule_3 rfl (by decide) rfl rfl ?_
  refine j_iconst (pc' := 5) (v := 0) hX dX4_bestRule_4 (by decide) rfl ?_
  refine j_istore_n (pc' := 6) (lv' := [(3, .int 0), (2, .int 0), (1, .int (-1)), (0, .ref (pa 0))]) hX dX4_bestRule_5 rfl (by decide) rfl rfl ?_
  refine j_iconst (pc' := 7) (v := 0) hX dX4_bestRule_6 (by decide) rfl ?_
  refine j_istore (pc' := 9) (lv' := [(4, .int 0), (3, .int 0), (2, .int 0), (1, .int (-1)), (0, .ref (pa 0))]) hX dX4_bestRule_7 (by decide) rfl rfl ?_
  refine j_iconst (pc' := 10) (v := 0) hX dX4_bestRule_9 (by decide) rfl ?_
  refine j_istore (pc' := 12) (lv' := [(5, .int 0), (4, .int 0), (3, .int 0), (2, .int 0), (1, .int (-1)), (0, .ref (pa 0))]) hX dX4_bestRule_10 (by decide) rfl rfl ?_
  obtain ⟨N12, hf⟩ := hf
  have L12 : ∀ (K12_169 : Int32 → Pc → Prop), (∀ (x1_12 : Int32) (vp_12 : Pc), K12_169 x1_12 vp_12 → J g X 0 0 ((PcB g pa vp_12).flatten) [(1, .int x1_12)] [] 169) → ∀ (N12 : Nat) (x1_12 : Int32) (x2_12 : Int32) (x3_12 : Int32) (x4_12 : Int32) (x5_12 : Int32) (vp_12 : Pc), wp_X4_bestRule_L12 K12_169 N12 x1_12 x2_12 x3_12 x4_12 x5_12 vp_12 → J g X 0 0 ((PcB g pa vp_12).flatten) [(0, .ref (pa 0)), (1, .int x1_12), (2, .int x2_12), (3, .int x3_12), (4, .int x4_12), (5, .int x5_12)] [] 12 := by
    intro K12_169 hK12_169 N12
    induction N12 with
    | zero => intro x1_12 x2_12 x3_12 x4_12 x5_12 vp_12 hf; exact False.elim hf
    | succ N12 ih12 =>
      intro x1_12 x2_12 x3_12 x4_12 x5_12 vp_12 hf
      have J138 : ∀ (y6_138 : Int32) (y7_138 : Int32) (y8_138 : Int32) (z0_138 : Int32) (vp_138 : Pc), wp_X4_bestRule_c138 x1_12 x2_12 x3_12 x4_12 x5_12 (wp_X4_bestRule_L12 K12_169 N12) y6_138 y7_138 y8_138 z0_138 vp_138 → J g X 0 0 ((PcB g pa vp_138).flatten) [(0, .ref (pa 0)), (1, .int x1_12), (2, .int x2_12), (3, .int x3_12), (4, .int x4_12), (5, .int x5_12), (6, .int y6_138), (7, .int y7_138), (8, .int y8_138)] [.int z0_138] 138 := by
        intro y6_138 y7_138 y8_138 z0_138 vp_138 hf
        refine j_istore (pc' := 140) (lv' := [(9, .int z0_138), (0, .ref (pa 0)), (1, .int x1_12), (2, .int x2_12), (3, .int x3_12), (4, .int x4_12), (5, .int x5_12), (6, .int y6_138), (7, .int y7_138), (8, .int y8_138)]) hX dX4_bestRule_138 (by decide) rfl rfl ?_
        refine j_iload_n (pc' := 141) hX dX4_bestRule_140 rfl 2 rfl rfl ?_
        refine j_iconst (pc' := 142) (v := (-1)) hX dX4_bestRule_141 (by decide) rfl ?_
        refine j_icmp_eq (tgt := 150) (pc' := 145) hX dX4_bestRule_142 (by decide) rfl hf (fun hf => ?_) (fun hf => ?_)
        · refine j_iload (pc' := 152) hX dX4_bestRule_150 6 rfl rfl ?_
          refine j_istore_n (pc' := 153) (lv' := [(1, .int x5_12), (9, .int z0_138), (0, .ref (pa 0)), (2, .int x2_12), (3, .int x3_12), (4, .int x4_12), (5, .int x5_12), (6, .int y6_138), (7, .int y7_138), (8, .int y8_138)]) hX dX4_bestRule_152 rfl (by decide) rfl rfl ?_
          refine j_iload (pc' := 155) hX dX4_bestRule_153 7 rfl rfl ?_
          refine j_istore_n (pc' := 156) (lv' := [(2, .int y6_138), (1, .int x5_12), (9, .int z0_138), (0, .ref (pa 0)), (3, .int x3_12), (4, .int x4_12), (5, .int x5_12), (6, .int y6_138), (7, .int y7_138), (8, .int y8_138)]) hX dX4_bestRule_155 rfl (by decide) rfl rfl ?_
          refine j_iload (pc' := 158) hX dX4_bestRule_156 8 rfl rfl ?_
          refine j_istore_n (pc' := 159) (lv' := [(3, .int y7_138), (2, .int y6_138), (1, .int x5_12), (9, .int z0_138), (0, .ref (pa 0)), (4, .int x4_12), (5, .int x5_12), (6, .int y6_138), (7, .int y7_138), (8, .int y8_138)]) hX dX4_bestRule_158 rfl (by decide) rfl rfl ?_
          refine j_iload (pc' := 161) hX dX4_bestRule_159 9 rfl rfl ?_
          refine j_istore (pc' := 163) (lv' := [(4, .int y8_138), (3, .int y7_138), (2, .int y6_138), (1, .int x5_12), (9, .int z0_138), (0, .ref (pa 0)), (5, .int x5_12), (6, .int y6_138), (7, .int y7_138), (8, .int y8_138)]) hX dX4_bestRule_161 (by decide) rfl rfl ?_
          refine j_iinc (pc' := 166) (cst := 1) (v := (x5_12 + 1)) (lv' := [(5, .int (x5_12 + 1)), (4, .int y8_138), (3, .int y7_138), (2, .int y6_138), (1, .int x5_12), (9, .int z0_138), (0, .ref (pa 0)), (6, .int y6_138), (7, .int y7_138), (8, .int y8_138)]) hX dX4_bestRule_163 (by decide) rfl 6 rfl (by decide) rfl rfl ?_
          refine j_goto (tgt := 12) hX dX4_bestRule_166 (by decide) ?_
          refine J_sub (lv' := [(0, .ref (pa 0)), (1, .int x5_12), (2, .int y6_138), (3, .int y7_138), (4, .int y8_138), (5, .int (x5_12 + 1))]) [6, 4, 3, 2, 1, 0] rfl ?_
          exact ih12 x5_12 y6_138 y7_138 y8_138 (x5_12 + 1) vp_138 hf
        · refine j_iload (pc' := 147) hX dX4_bestRule_145 0 rfl rfl ?_
          refine j_if_eq (tgt := 163) (pc' := 150) hX dX4_bestRule_147 (by decide) rfl hf (fun hf => ?_) (fun hf => ?_)
          · refine j_iinc (pc' := 166) (cst := 1) (v := (x5_12 + 1)) (lv' := [(5, .int (x5_12 + 1)), (9, .int z0_138), (0, .ref (pa 0)), (1, .int x1_12), (2, .int x2_12), (3, .int x3_12), (4, .int x4_12), (6, .int y6_138), (7, .int y7_138), (8, .int y8_138)]) hX dX4_bestRule_163 (by decide) rfl 6 rfl (by decide) rfl rfl ?_
            refine j_goto (tgt := 12) hX dX4_bestRule_166 (by decide) ?_
            refine J_sub (lv' := [(0, .ref (pa 0)), (1, .int x1_12), (2, .int x2_12), (3, .int x3_12), (4, .int x4_12), (5, .int (x5_12 + 1))]) [2, 3, 4, 5, 6, 0] rfl ?_
            exact ih12 x1_12 x2_12 x3_12 x4_12 (x5_12 + 1) vp_138 hf
          · refine j_iload (pc' := 152) hX dX4_bestRule_150 6 rfl rfl ?_
            refine j_istore_n (pc' := 153) (lv' := [(1, .int x5_12), (9, .int z0_138), (0, .ref (pa 0)), (2, .int x2_12), (3, .int x3_12), (4, .int x4_12), (5, .int x5_12), (6, .int y6_138), (7, .int y7_138), (8, .int y8_138)]) hX dX4_bestRule_152 rfl (by decide) rfl rfl ?_
            refine j_iload (pc' := 155) hX dX4_bestRule_153 7 rfl rfl ?_
            refine j_istore_n (pc' := 156) (lv' := [(2, .int y6_138), (1, .int x5_12), (9, .int z0_138), (0, .ref (pa 0)), (3, .int x3_12), (4, .int x4_12), (5, .int x5_12), (6, .int y6_138), (7, .int y7_138), (8, .int y8_138)]) hX dX4_bestRule_155 rfl (by decide) rfl rfl ?_
            refine j_iload (pc' := 158) hX dX4_bestRule_156 8 rfl rfl ?_
            refine j_istore_n (pc' := 159) (lv' := [(3, .int y7_138), (2, .int y6_138), (1, .int x5_12), (9, .int z0_138), (0, .ref (pa 0)), (4, .int x4_12), (5, .int x5_12), (6, .int y6_138), (7, .int y7_138), (8, .int y8_138)]) hX dX4_bestRule_158 rfl (by decide) rfl rfl ?_
            refine j_iload (pc' := 161) hX dX4_bestRule_159 9 rfl rfl ?_
            refine j_istore (pc' := 163) (lv' := [(4, .int y8_138), (3, .int y7_138), (2, .int y6_138), (1, .int x5_12), (9, .int z0_138), (0, .ref (pa 0)), (5, .int x5_12), (6, .int y6_138), (7, .int y7_138), (8, .int y8_138)]) hX dX4_bestRule_161 (by decide) rfl rfl ?_
            refine j_iinc (pc' := 166) (cst := 1) (v := (x5_12 + 1)) (lv' := [(5, .int (x5_12 + 1)), (4, .int y8_138), (3, .int y7_138), (2, .int y6_138), (1, .int x5_12), (9, .int z0_138), (0, .ref (pa 0)), (6, .int y6_138), (7, .int y7_138), (8, .int y8_138)]) hX dX4_bestRule_163 (by decide) rfl 6 rfl (by decide) rfl rfl ?_
            refine j_goto (tgt := 12) hX dX4_bestRule_166 (by decide) ?_
            refine J_sub (lv' := [(0, .ref (pa 0)), (1, .int x5_12), (2, .int y6_138), (3, .int y7_138), (4, .int y8_138), (5, .int (x5_12 + 1))]) [6, 4, 3, 2, 1, 0] rfl ?_
            exact ih12 x5_12 y6_138 y7_138 y8_138 (x5_12 + 1) vp_138 hf
      refine j_iload (pc' := 14) hX dX4_bestRule_12 5 rfl rfl ?_
      refine j_iconst (pc' := 15) (v := 3) hX dX4_bestRule_14 (by decide) rfl ?_
      refine j_icmp_ge (tgt := 169) (pc' := 18) hX dX4_bestRule_15 (by decide) rfl hf (fun hf => ?_) (fun hf => ?_)
      · refine J_sub (lv' := [(1, .int x1_12)]) [1] rfl ?_
        exact hK12_169 x1_12 vp_12 hf
      · refine j_aload_n (pc' := 19) hX dX4_bestRule_18 rfl 0 rfl rfl ?_
        refine j_get (ci := 4) (pc' := 22) hX hin4 rfl 0 rfl 1 (by decide) hl_16 rfl dX4_bestRule_19 rfl ?_
        refine j_aload_n (pc' := 23) hX dX4_bestRule_22 rfl 0 rfl rfl ?_
        refine j_get (ci := 4) (pc' := 26) hX hin4 rfl 0 rfl 0 (by decide) hl_10 rfl dX4_bestRule_23 rfl ?_
        refine j_callVMb (ci := 2) (nb := 12) (pc' := 29) (k' := 0) (n' := 0) (As := [.ref (pa 1)]) (rest := []) (stk := fun _ => []) (bs := (PcB g pa vp_12)) (cs := ([(MoW g (pa 6) (pa 7) (pa 8) (pa 9) (pa 10) (vp_12.2.1))] ++ [(MoW g (pa 1) (pa 2) (pa 3) (pa 4) (pa 5) (vp_12.1))])) (rs := (List.map (fun i : Nat => List.getD (PcB g pa vp_12) i []) [0, 3, 4, 5, 6, 7, 8, 9, 10, 11])) (ws' := fun u26_1 => ((PcB g pa (pc_t vp_12 (u26_1))).flatten)) (bs' := fun u26_1 => (PcB g pa (pc_t vp_12 (u26_1)))) (d1 := fun u26_1 => ([(MoW g (pa 6) (pa 7) (pa 8) (pa 9) (pa 10) u26_1)] ++ [(MoW g (pa 1) (pa 2) (pa 3) (pa 4) (pa 5) (vp_12.1))])) hX hW (fun l => met_X2_become l g (pa 6) (pa 7) (pa 8) (pa 9) (pa 10) (pa 1) (pa 2) (pa 3) (pa 4) (pa 5) vp_12.2.1 vp_12.1 _ hf) rfl gX4_bestRule_X2_become yoX2_become rfl ⟨Nat.le_of_ble_eq_true rfl, Nat.le_of_ble_eq_true rfl⟩ ⟨Nat.le_of_ble_eq_true rfl, Nat.le_of_ble_eq_true rfl, Nat.le_of_ble_eq_true rfl, Nat.le_of_ble_eq_true rfl⟩ 0 rfl rfl [0, 3, 4, 5, 6, 7, 8, 9, 10, 11, 2, 1] rfl rfl rfl (by decide) rfl (fun _ => rfl) (fun _ => rfl) (fun _ => rfl) (fun _ => rfl) (Nat.le_of_ble_eq_true rfl) rfl (fun _ => rfl) dX4_bestRule_26 rfl (fun _ u26_1 hf => ?_)
        refine j_iconst (pc' := 30) (v := 0) hX dX4_bestRule_29 (by decide) rfl ?_
        refine j_istore (pc' := 32) (lv' := [(6, .int 0), (0, .ref (pa 0)), (1, .int x1_12), (2, .int x2_12), (3, .int x3_12), (4, .int x4_12), (5, .int x5_12)]) hX dX4_bestRule_30 (by decide) rfl rfl ?_
        obtain ⟨N32, hf⟩ := hf
        have L32 : ∀ (K32_57 : Pc → Prop), (∀ (vp_32 : Pc), K32_57 vp_32 → J g X 0 0 ((PcB g pa vp_32).flatten) [(0, .ref (pa 0)), (1, .int x1_12), (2, .int x2_12), (3, .int x3_12), (4, .int x4_12), (5, .int x5_12)] [] 57) → ∀ (N32 : Nat) (x6_32 : Int32) (vp_32 : Pc), wp_X4_bestRule_L32 x5_12 K32_57 N32 x6_32 vp_32 → J g X 0 0 ((PcB g pa vp_32).flatten) [(0, .ref (pa 0)), (1, .int x1_12), (2, .int x2_12), (3, .int x3_12), (4, .int x4_12), (5, .int x5_12), (6, .int x6_32)] [] 32 := by
          intro K32_57 hK32_57 N32
          induction N32 with
          | zero => intro x6_32 vp_32 hf; exact False.elim hf
          | succ N32 ih32 =>
            intro x6_32 vp_32 hf
            refine j_iload (pc' := 34) hX dX4_bestRule_32 6 rfl rfl ?_
            refine j_bipush (pc' := 36) (v := 6) hX dX4_bestRule_34 (by decide) rfl ?_
            refine j_icmp_ge (tgt := 57) (pc' := 39) hX dX4_bestRule_36 (by decide) rfl hf (fun hf => ?_) (fun hf => ?_)
            · refine J_sub (lv' := [(0, .ref (pa 0)), (1, .int x1_12), (2, .int x2_12), (3, .int x3_12), (4, .int x4_12), (5, .int x5_12)]) [0, 1, 2, 3, 4, 5] rfl ?_
              exact hK32_57 vp_32 hf
            · refine j_aload_n (pc' := 40) hX dX4_bestRule_39 rfl 0 rfl rfl ?_
              refine j_get (ci := 4) (pc' := 43) hX hin4 rfl 0 rfl 1 (by decide) hl_16 rfl dX4_bestRule_40 rfl ?_
              refine j_iload (pc' := 45) hX dX4_bestRule_43 6 rfl rfl ?_
              refine j_iload (pc' := 47) hX dX4_bestRule_45 5 rfl rfl ?_
              refine j_callVMb (ci := 2) (nb := 12) (pc' := 50) (k' := 0) (n' := 0) (As := [.int x6_32, .int x5_12]) (rest := []) (stk := fun r47 => [.int r47]) (bs := (PcB g pa vp_32)) (cs := ([(MoW g (pa 6) (pa 7) (pa 8) (pa 9) (pa 10) (vp_32.2.1))])) (rs := (List.map (fun i : Nat => List.getD (PcB g pa vp_32) i []) [0, 1, 3, 4, 5, 6, 7, 8, 9, 10, 11])) (ws' := fun u47_2 => ((PcB g pa (pc_t vp_32 (u47_2))).flatten)) (bs' := fun u47_2 => (PcB g pa (pc_t vp_32 (u47_2)))) (d1 := fun u47_2 => ([(MoW g (pa 6) (pa 7) (pa 8) (pa 9) (pa 10) u47_2)])) hX hW (fun l => met_X2_fillCourse l g (pa 6) (pa 7) (pa 8) (pa 9) (pa 10) vp_32.2.1 x6_32 x5_12 _ hf) rfl gX4_bestRule_X2_fillCourse yoX2_fillCourse rfl ⟨Nat.le_of_ble_eq_true rfl, Nat.le_of_ble_eq_true rfl⟩ ⟨Nat.le_of_ble_eq_true rfl, Nat.le_of_ble_eq_true rfl, Nat.le_of_ble_eq_true rfl, Nat.le_of_ble_eq_true rfl⟩ 0 rfl rfl [0, 1, 3, 4, 5, 6, 7, 8, 9, 10, 11, 2] rfl rfl rfl (by decide) rfl (fun _ => rfl) (fun _ => rfl) (fun _ => rfl) (fun _ => rfl) (Nat.le_of_ble_eq_true rfl) rfl (fun _ => rfl) dX4_bestRule_47 rfl (fun r47 u47_2 hf => ?_)
              refine j_pop (pc' := 51) hX dX4_bestRule_50 rfl rfl ?_
              refine j_iinc (pc' := 54) (cst := 1) (v := (x6_32 + 1)) (lv' := [(6, .int (x6_32 + 1)), (0, .ref (pa 0)), (1, .int x1_12), (2, .int x2_12), (3, .int x3_12), (4, .int x4_12), (5, .int x5_12)]) hX dX4_bestRule_51 (by decide) rfl 6 rfl (by decide) rfl rfl ?_
              refine j_goto (tgt := 32) hX dX4_bestRule_54 (by decide) ?_
              refine J_sub (lv' := [(0, .ref (pa 0)), (1, .int x1_12), (2, .int x2_12), (3, .int x3_12), (4, .int x4_12), (5, .int x5_12), (6, .int (x6_32 + 1))]) [1, 2, 3, 4, 5, 6, 0] rfl ?_
              exact ih32 (x6_32 + 1) (pc_t vp_32 (u47_2)) hf
        refine J_sub (lv' := [(0, .ref (pa 0)), (1, .int x1_12), (2, .int x2_12), (3, .int x3_12), (4, .int x4_12), (5, .int x5_12), (6, .int 0)]) [1, 2, 3, 4, 5, 6, 0] rfl ?_
        refine L32 _ (fun e3 hf => ?_) N32 0 (pc_t vp_12 (u26_1)) hf
        refine j_aload_n (pc' := 58) hX dX4_bestRule_57 rfl 0 rfl rfl ?_
        refine j_get (ci := 4) (pc' := 61) hX hin4 rfl 0 rfl 1 (by decide) hl_16 rfl dX4_bestRule_58 rfl ?_
        refine j_iconst (pc' := 62) (v := 3) hX dX4_bestRule_61 (by decide) rfl ?_
        refine j_callVRb (ci := 2) (nb := 12) (pc' := 65) (As := [.int 3]) (rest := []) (stk := fun r62 => [.int r62]) (bs := (PcB g pa e3)) (cs := ([(MoW g (pa 6) (pa 7) (pa 8) (pa 9) (pa 10) (e3.2.1))])) (rs := (List.map (fun i : Nat => List.getD (PcB g pa e3) i []) [0, 1, 3, 4, 5, 6, 7, 8, 9, 10, 11])) hX (fun l => met_X2_summed l g (pa 6) (pa 7) (pa 8) (pa 9) (pa 10) e3.2.1 3 _ hf) rfl gX4_bestRule_X2_summed yoX2_summed rfl ⟨Nat.le_of_ble_eq_true rfl, Nat.le_of_ble_eq_true rfl⟩ ⟨⟨Nat.le_of_ble_eq_true rfl, Nat.le_of_ble_eq_true rfl⟩, rfl, rfl⟩ 0 rfl rfl [0, 1, 3, 4, 5, 6, 7, 8, 9, 10, 11, 2] rfl rfl rfl (by decide) rfl (Nat.le_of_ble_eq_true rfl) rfl (fun _ => rfl) dX4_bestRule_62 rfl (fun r62 hf => ?_)
        refine j_istore (pc' := 67) (lv' := [(6, .int r62), (0, .ref (pa 0)), (1, .int x1_12), (2, .int x2_12), (3, .int x3_12), (4, .int x4_12), (5, .int x5_12)]) hX dX4_bestRule_65 (by decide) rfl rfl ?_
        refine j_aload_n (pc' := 68) hX dX4_bestRule_67 rfl 1 rfl rfl ?_
        refine j_get (ci := 4) (pc' := 71) hX hin4 rfl 0 rfl 1 (by decide) hl_16 rfl dX4_bestRule_68 rfl ?_
        refine j_callVRb (ci := 2) (nb := 12) (pc' := 74) (As := []) (rest := []) (stk := fun r71 => [.int r71]) (bs := (PcB g pa e3)) (cs := ([(MoW g (pa 6) (pa 7) (pa 8) (pa 9) (pa 10) (e3.2.1))])) (rs := (List.map (fun i : Nat => List.getD (PcB g pa e3) i []) [0, 1, 3, 4, 5, 6, 7, 8, 9, 10, 11])) hX (fun l => met_X2_wasted l g (pa 6) (pa 7) (pa 8) (pa 9) (pa 10) e3.2.1 _ hf) rfl gX4_bestRule_X2_wasted yoX2_wasted rfl ⟨Nat.le_of_ble_eq_true rfl, Nat.le_of_ble_eq_true rfl⟩ ⟨⟨Nat.le_of_ble_eq_true rfl, Nat.le_of_ble_eq_true rfl⟩, rfl, rfl⟩ 0 rfl rfl [0, 1, 3, 4, 5, 6, 7, 8, 9, 10, 11, 2] rfl rfl rfl (by decide) rfl (Nat.le_of_ble_eq_true rfl) rfl (fun _ => rfl) dX4_bestRule_71 rfl (fun r71 hf => ?_)
        refine j_istore (pc' := 76) (lv' := [(7, .int r71), (6, .int r62), (0, .ref (pa 0)), (1, .int x1_12), (2, .int x2_12), (3, .int x3_12), (4, .int x4_12), (5, .int x5_12)]) hX dX4_bestRule_74 (by decide) rfl rfl ?_
        refine j_aload_n (pc' := 77) hX dX4_bestRule_76 rfl 2 rfl rfl ?_
        refine j_get (ci := 4) (pc' := 80) hX hin4 rfl 0 rfl 1 (by decide) hl_16 rfl dX4_bestRule_77 rfl ?_
        refine j_iconst (pc' := 81) (v := 1) hX dX4_bestRule_80 (by decide) rfl ?_
        refine j_callVRb (ci := 2) (nb := 12) (pc' := 84) (As := [.int 1]) (rest := []) (stk := fun r81 => [.int r81]) (bs := (PcB g pa e3)) (cs := ([(MoW g (pa 6) (pa 7) (pa 8) (pa 9) (pa 10) (e3.2.1))])) (rs := (List.map (fun i : Nat => List.getD (PcB g pa e3) i []) [0, 1, 3, 4, 5, 6, 7, 8, 9, 10, 11])) hX (fun l => met_X2_summed l g (pa 6) (pa 7) (pa 8) (pa 9) (pa 10) e3.2.1 1 _ hf) rfl gX4_bestRule_X2_summed yoX2_summed rfl ⟨Nat.le_of_ble_eq_true rfl, Nat.le_of_ble_eq_true rfl⟩ ⟨⟨Nat.le_of_ble_eq_true rfl, Nat.le_of_ble_eq_true rfl⟩, rfl, rfl⟩ 0 rfl rfl [0, 1, 3, 4, 5, 6, 7, 8, 9, 10, 11, 2] rfl rfl rfl (by decide) rfl (Nat.le_of_ble_eq_true rfl) rfl (fun _ => rfl) dX4_bestRule_81 rfl (fun r81 hf => ?_)
        refine j_istore (pc' := 86) (lv' := [(8, .int r81), (7, .int r71), (6, .int r62), (0, .ref (pa 0)), (1, .int x1_12), (2, .int x2_12), (3, .int x3_12), (4, .int x4_12), (5, .int x5_12)]) hX dX4_bestRule_84 (by decide) rfl rfl ?_
        refine j_iload (pc' := 88) hX dX4_bestRule_86 2 rfl rfl ?_
        refine j_iload_n (pc' := 89) hX dX4_bestRule_88 rfl 5 rfl rfl ?_
        refine j_icmp_eq (tgt := 106) (pc' := 92) hX dX4_bestRule_89 (by decide) rfl hf (fun hf => ?_) (fun hf => ?_)
        · refine j_iload (pc' := 108) hX dX4_bestRule_106 1 rfl rfl ?_
          refine j_iload_n (pc' := 109) hX dX4_bestRule_108 rfl 6 rfl rfl ?_
          refine j_icmp_eq (tgt := 126) (pc' := 112) hX dX4_bestRule_109 (by decide) rfl hf (fun hf => ?_) (fun hf => ?_)
          · refine j_iload (pc' := 128) hX dX4_bestRule_126 0 rfl rfl ?_
            refine j_iload (pc' := 130) hX dX4_bestRule_128 7 rfl rfl ?_
            refine j_icmp_ge (tgt := 137) (pc' := 133) hX dX4_bestRule_130 (by decide) rfl hf (fun hf => ?_) (fun hf => ?_)
            · refine j_iconst (pc' := 138) (v := 0) hX dX4_bestRule_137 (by decide) rfl ?_
              refine J_sub (lv' := [(0, .ref (pa 0)), (1, .int x1_12), (2, .int x2_12), (3, .int x3_12), (4, .int x4_12), (5, .int x5_12), (6, .int r62), (7, .int r71), (8, .int r81)]) [3, 4, 5, 6, 7, 8, 2, 1, 0] rfl ?_
              exact J138 r62 r71 r81 0 e3 hf
            · refine j_iconst (pc' := 134) (v := 1) hX dX4_bestRule_133 (by decide) rfl ?_
              refine j_goto (tgt := 138) hX dX4_bestRule_134 (by decide) ?_
              refine J_sub (lv' := [(0, .ref (pa 0)), (1, .int x1_12), (2, .int x2_12), (3, .int x3_12), (4, .int x4_12), (5, .int x5_12), (6, .int r62), (7, .int r71), (8, .int r81)]) [3, 4, 5, 6, 7, 8, 2, 1, 0] rfl ?_
              exact J138 r62 r71 r81 1 e3 hf
          · refine j_iload (pc' := 114) hX dX4_bestRule_112 1 rfl rfl ?_
            refine j_iload_n (pc' := 115) hX dX4_bestRule_114 rfl 6 rfl rfl ?_
            refine j_icmp_ge (tgt := 122) (pc' := 118) hX dX4_bestRule_115 (by decide) rfl hf (fun hf => ?_) (fun hf => ?_)
            · refine j_iconst (pc' := 123) (v := 0) hX dX4_bestRule_122 (by decide) rfl ?_
              refine j_goto (tgt := 138) hX dX4_bestRule_123 (by decide) ?_
              refine J_sub (lv' := [(0, .ref (pa 0)), (1, .int x1_12), (2, .int x2_12), (3, .int x3_12), (4, .int x4_12), (5, .int x5_12), (6, .int r62), (7, .int r71), (8, .int r81)]) [3, 4, 5, 6, 7, 8, 2, 1, 0] rfl ?_
              exact J138 r62 r71 r81 0 e3 hf
            · refine j_iconst (pc' := 119) (v := 1) hX dX4_bestRule_118 (by decide) rfl ?_
              refine j_goto (tgt := 138) hX dX4_bestRule_119 (by decide) ?_
              refine J_sub (lv' := [(0, .ref (pa 0)), (1, .int x1_12), (2, .int x2_12), (3, .int x3_12), (4, .int x4_12), (5, .int x5_12), (6, .int r62), (7, .int r71), (8, .int r81)]) [3, 4, 5, 6, 7, 8, 2, 1, 0] rfl ?_
              exact J138 r62 r71 r81 1 e3 hf
        · refine j_iload (pc' := 94) hX dX4_bestRule_92 2 rfl rfl ?_
          refine j_iload_n (pc' := 95) hX dX4_bestRule_94 rfl 5 rfl rfl ?_
          refine j_icmp_le (tgt := 102) (pc' := 98) hX dX4_bestRule_95 (by decide) rfl hf (fun hf => ?_) (fun hf => ?_)
          · refine j_iconst (pc' := 103) (v := 0) hX dX4_bestRule_102 (by decide) rfl ?_
            refine j_goto (tgt := 138) hX dX4_bestRule_103 (by decide) ?_
            refine J_sub (lv' := [(0, .ref (pa 0)), (1, .int x1_12), (2, .int x2_12), (3, .int x3_12), (4, .int x4_12), (5, .int x5_12), (6, .int r62), (7, .int r71), (8, .int r81)]) [3, 4, 5, 6, 7, 8, 2, 1, 0] rfl ?_
            exact J138 r62 r71 r81 0 e3 hf
          · refine j_iconst (pc' := 99) (v := 1) hX dX4_bestRule_98 (by decide) rfl ?_
            refine j_goto (tgt := 138) hX dX4_bestRule_99 (by decide) ?_
            refine J_sub (lv' := [(0, .ref (pa 0)), (1, .int x1_12), (2, .int x2_12), (3, .int x3_12), (4, .int x4_12), (5, .int x5_12), (6, .int r62), (7, .int r71), (8, .int r81)]) [3, 4, 5, 6, 7, 8, 2, 1, 0] rfl ?_
            exact J138 r62 r71 r81 1 e3 hf
  refine J_sub (lv' := [(0, .ref (pa 0)), (1, .int (-1)), (2, .int 0), (3, .int 0), (4, .int 0), (5, .int 0)]) [5, 4, 3, 2, 1, 0] rfl ?_
  refine L12 _ (fun e4 e5 hf => ?_) N12 (-1) 0 0 0 0 vp hf
  refine j_iload_n (pc' := 170) hX dX4_bestRule_169 rfl 0 rfl rfl ?_
  exact j_iret hX hR dX4_bestRule_170 ⟨_, _, rfl, hf, rfl⟩
def wp_X4_share (vp : Pc) (post : UInt64 → Prop) : Prop :=
  (wp_X2_summed vp.1 0 (fun r5 => (wp_X2_summed vp.1 2 (fun r15 => ((r5 ≤ 0 → post FP.dconst0) ∧ (¬ r5 ≤ 0 → (vf_n64 (FP.ddiv (FP.i2d (r5 - r15)) (FP.i2d r5)) ∧ post (FP.ddiv (FP.i2d (r5 - r15)) (FP.i2d r5)))))))))
theorem yoX4_share : yOk yX4_share 0 := by decide +kernel
set_option maxHeartbeats 4000000 in
set_option maxRecDepth 100000 in
theorem met_X4_share (l : Launch) (g : JG) (pa : Nat → Nat) (vp : Pc) (post : UInt64 → Prop) (hf : wp_X4_share vp post) : MetR l yX4_share wsX4_share ({ frames := 5, cells := 0, slots := 0, locals := 111 } : Room) [.ref (pa 0)] g ((PcB g pa vp).flatten) mkD post := by
  have hin4 : ∀ w ∈ u_ws RX4 TX4 5, w ∈ wsX4_share := by decide +kernel
  have hl_10 : Cond.fieldLink RX4 10 (TX4 0).1 (TX4 0).2.1 (TX4 0).2.2.1 ∈ wsX4_share := by decide +kernel
  refine enterR (own := RX4) (cc := cX4_share) (nL := 3) (ret := (some .double)) (lv := [(0, .ref (pa 0))]) (by decide) rfl rfl (Nat.le_of_ble_eq_true rfl) rfl (fun X hX hR => ?_)
  unfold wp_X4_share at hf
  refine j_aload_n (pc' := 1) hX dX4_share_0 rfl 0 rfl rfl ?_
  refine j_get (ci := 4) (pc' := 4) hX hin4 rfl 0 rfl 0 (by decide) hl_10 rfl dX4_share_1 rfl ?_
  refine j_iconst (pc' := 5) (v := 0) hX dX4_share_4 (by decide) rfl ?_
  refine j_callVRb (ci := 2) (nb := 12) (pc' := 8) (As := [.int 0]) (rest := []) (stk := fun r5 => [.int r5]) (bs := (PcB g pa vp)) (cs := ([(MoW g (pa 1) (pa 2) (pa 3) (pa 4) (pa 5) (vp.1))])) (rs := (List.map (fun i : Nat => List.getD (PcB g pa vp) i []) [0, 2, 3, 4, 5, 6, 7, 8, 9, 10, 11])) hX (fun l => met_X2_summed l g (pa 1) (pa 2) (pa 3) (pa 4) (pa 5) vp.1 0 _ hf) rfl gX4_share_X2_summed yoX2_summed rfl ⟨Nat.le_of_ble_eq_true rfl, Nat.le_of_ble_eq_true rfl⟩ ⟨⟨Nat.le_of_ble_eq_true rfl, Nat.le_of_ble_eq_true rfl⟩, rfl, rfl⟩ 0 rfl rfl [0, 2, 3, 4, 5, 6, 7, 8, 9, 10, 11, 1] rfl rfl rfl (by decide) rfl (Nat.le_of_ble_eq_true rfl) rfl (fun _ => rfl) dX4_share_5 rfl (fun r5 hf => ?_)
  refine j_istore_n (pc' := 9) (lv' := [(1, .int r5), (0, .ref (pa 0))]) hX dX4_share_8 rfl (by decide) rfl rfl ?_
  refine j_iload_n (pc' := 10) hX dX4_share_9 rfl 0 rfl rfl ?_
  refine j_aload_n (pc' := 11) hX dX4_share_10 rfl 1 rfl rfl ?_
  refine j_get (ci := 4) (pc' := 14) hX hin4 rfl 0 rfl 0 (by decide) hl_10 rfl dX4_share_11 rfl ?_
  refine j_iconst (pc' := 15) (v := 2) hX dX4_share_14 (by decide) rfl ?_
  refine j_callVRb (ci := 2) (nb := 12) (pc' := 18) (As := [.int 2]) (rest := [.int r5]) (stk := fun r15 => [.int r15, .int r5]) (bs := (PcB g pa vp)) (cs := ([(MoW g (pa 1) (pa 2) (pa 3) (pa 4) (pa 5) (vp.1))])) (rs := (List.map (fun i : Nat => List.getD (PcB g pa vp) i []) [0, 2, 3, 4, 5, 6, 7, 8, 9, 10, 11])) hX (fun l => met_X2_summed l g (pa 1) (pa 2) (pa 3) (pa 4) (pa 5) vp.1 2 _ hf) rfl gX4_share_X2_summed yoX2_summed rfl ⟨Nat.le_of_ble_eq_true rfl, Nat.le_of_ble_eq_true rfl⟩ ⟨⟨Nat.le_of_ble_eq_true rfl, Nat.le_of_ble_eq_true rfl⟩, rfl, rfl⟩ 0 rfl rfl [0, 2, 3, 4, 5, 6, 7, 8, 9, 10, 11, 1] rfl rfl rfl (by decide) rfl (Nat.le_of_ble_eq_true rfl) rfl (fun _ => rfl) dX4_share_15 rfl (fun r15 hf => ?_)
  refine j_isub (pc' := 19) hX dX4_share_18 rfl ?_
  refine j_istore_n (pc' := 20) (lv' := [(2, .int (r5 - r15)), (1, .int r5), (0, .ref (pa 0))]) hX dX4_share_19 rfl (by decide) rfl rfl ?_
  refine j_iload_n (pc' := 21) hX dX4_share_20 rfl 1 rfl rfl ?_
  refine j_if_le (tgt := 32) (pc' := 24) hX dX4_share_21 (by decide) rfl hf (fun hf => ?_) (fun hf => ?_)
  · refine j_dconst0 (pc' := 33) hX dX4_share_32 rfl ?_
    exact j_dret hX hR dX4_share_33 ⟨_, rfl, hf⟩
  · refine j_iload_n (pc' := 25) hX dX4_share_24 rfl 0 rfl rfl ?_
    refine j_i2d (pc' := 26) hX dX4_share_25 rfl ?_
    refine j_iload_n (pc' := 27) hX dX4_share_26 rfl 1 rfl rfl ?_
    refine j_i2d (pc' := 28) hX dX4_share_27 rfl ?_
    refine j_ddiv (pc' := 29) hX dX4_share_28 hf rfl (fun hf => ?_)
    refine j_goto (tgt := 33) hX dX4_share_29 (by decide) ?_
    exact j_dret hX hR dX4_share_33 ⟨_, rfl, hf⟩
def wp_X4_mixedWithCourse_L6 (vp : Pc) (p1 : Int32) (K6_37 : Int64 → Prop) : Nat → Int64 → Int32 → Prop
  | 0, _, _ => False
  | N6 + 1, x4_6, x6_6 =>
  ((7 ≤ x6_6 → K6_37 x4_6) ∧ (¬ 7 ≤ x6_6 → (wp_X2_property vp.1 p1 x6_6 (fun r22 => (wp_X4_mixed x4_6 r22.toInt64 (fun r26 => (wp_X4_mixedWithCourse_L6 vp p1 K6_37 N6) r26 (x6_6 + 1)))))))
def wp_X4_mixedWithCourse_L50 (vp : Pc) (p1 : Int32) (r42 : Int32) (K50_102 : Int64 → Prop) : Nat → Int64 → Int32 → Prop
  | 0, _, _ => False
  | N50 + 1, x4_50, x7_50 =>
  ((r42 ≤ x7_50 → K50_102 x4_50) ∧ (¬ r42 ≤ x7_50 → (wp_X2_sizeAt vp.1 p1 x7_50 (fun r66 => (wp_X4_mixed x4_50 r66.toInt64 (fun r70 => (wp_X2_runsThrough vp.1 p1 x7_50 (fun r84 => (wp_X4_numberOf r84 (fun r87 => (wp_X4_mixed r70 r87.toInt64 (fun r91 => (wp_X4_mixedWithCourse_L50 vp p1 r42 K50_102 N50) r91 (x7_50 + 1)))))))))))))
def wp_X4_mixedWithCourse_L147 (p1 : Int32) (K147_224 : Int64 → Pc → Prop) : Nat → Int64 → Int32 → Pc → Prop
  | 0, _, _, _ => False
  | N147 + 1, x4_147, x7_147, vp_147 =>
  ((2 ≤ x7_147 → K147_224 x4_147 vp_147) ∧ (¬ 2 ≤ x7_147 → (wp_X2_become vp_147.2.1 vp_147.1 (fun u161_4 => (wp_X2_fillCourse ((pc_t vp_147 (u161_4)).2.1) p1 x7_147 (fun r171 u171_5 => (wp_X2_freeOf ((pc_t (pc_t vp_147 (u161_4)) (u171_5)).2.1) p1 (fun r183 => (wp_X4_mixed x4_147 r183.toInt64 (fun r187 => (wp_X4_mixed r187 r171.toInt64 (fun r197 => (wp_X2_meetingJointsOf ((pc_t (pc_t vp_147 (u161_4)) (u171_5)).2.1) p1 (fun r209 => (wp_X4_mixed r197 r209.toInt64 (fun r213 => (wp_X4_mixedWithCourse_L147 p1 K147_224 N147) r213 (x7_147 + 1) (pc_t (pc_t vp_147 (u161_4)) (u171_5))))))))))))))))))
def wp_X4_mixedWithCourse (vp : Pc) (p0 : Int64) (p1 : Int32) (post : Int64 → Pc → Prop) : Prop :=
  (∃ N : Nat, wp_X4_mixedWithCourse_L6 vp p1 (fun (e1 : Int64) => (wp_X2_cellsOf vp.1 p1 (fun r42 => (∃ N : Nat, wp_X4_mixedWithCourse_L50 vp p1 r42 (fun (e2 : Int64) => (wp_X0_find vp.2.2.1 vp.1 p1 (fun u111_3 => (wp_X0_pebbles ((pc_c vp (u111_3)).2.2.1) (fun r120 => (wp_X4_mixed e2 r120.toInt64 (fun r124 => (wp_X0_firstSize ((pc_c vp (u111_3)).2.2.1) (fun r135 => (wp_X4_mixed r124 r135.toInt64 (fun r139 => (∃ N : Nat, wp_X4_mixedWithCourse_L147 p1 (fun (e6 : Int64) (e7 : Pc) => post e6 e7) N r139 0 (pc_c vp (u111_3)))))))))))))) N e1 0)))) N p0 0)
theorem yoX4_mixedWithCourse : yOk yX4_mixedWithCourse 2 := by decide +kernel
set_option maxHeartbeats 4000000 in
set_option maxRecDepth 100000 in
theorem met_X4_mixedWithCourse (l : Launch) (g : JG) (pa : Nat → Nat) (vp : Pc) (p0 : Int64) (p1 : Int32) (post : Int64 → Pc → Prop) (hf : wp_X4_mixedWithCourse vp p0 p1 post) : MetM l yX4_mixedWithCourse wsX4_mixedWithCourse ({ frames := 5, cells := 0, slots := 0, locals := 120 } : Room) [.ref (pa 0), .long p0, .int p1] g ((PcB g pa vp).flatten) mkL post (fun u : Pc => ((PcB g pa u).flatten)) := by
  have hin4 : ∀ w ∈ u_ws RX4 TX4 5, w ∈ wsX4_mixedWithCourse := by decide +kernel
  have hl_10 : Cond.fieldLink RX4 10 (TX4 0).1 (TX4 0).2.1 (TX4 0).2.2.1 ∈ wsX4_mixedWithCourse := by decide +kernel
  have hl_22 : Cond.fieldLink RX4 22 (TX4 2).1 (TX4 2).2.1 (TX4 2).2.2.1 ∈ wsX4_mixedWithCourse := by decide +kernel
  have hl_16 : Cond.fieldLink RX4 16 (TX4 1).1 (TX4 1).2.1 (TX4 1).2.2.1 ∈ wsX4_mixedWithCourse := by decide +kernel
  refine enterM (own := RX4) (cc := cX4_mixedWithCourse) (nL := 9) (ret := (some .long)) (lv := [(0, .ref (pa 0)), (1, .long p0), (3, .int p1)]) (by decide) rfl rfl (Nat.le_of_ble_eq_true rfl) rfl (fun X hX hW hR => ?_)
  unfold wp_X4_mixedWithCourse at hf
  refine j_lload_n (pc' := 1) hX dX4_mixedWithCourse_0 rfl 1 rfl rfl ?_
  refine j_lstore (pc' := 3) (lv' := [(4, .long p0), (0, .ref (pa 0)), (1, .long p0), (3, .int p1)]) hX dX4_mixedWithCourse_1 (by decide) rfl rfl ?_
  refine j_iconst (pc' := 4) (v := 0) hX dX4_mixedWithCourse_3 (by decide) rfl ?_
  refine j_istore (pc' := 6) (lv' := [(6, .int 0), (4, .long p0), (0, .ref (pa 0)), (1, .long p0), (3, .int p1)]) hX dX4_mixedWithCourse_4 (by decide) rfl rfl ?_
  obtain ⟨N6, hf⟩ := hf
  have L6 : ∀ (K6_37 : Int64 → Prop), (∀ (x4_6 : Int64), K6_37 x4_6 → J g X 0 0 ((PcB g pa vp).flatten) [(0, .ref (pa 0)), (3, .int p1), (4, .long x4_6)] [] 37) → ∀ (N6 : Nat) (x4_6 : Int64) (x6_6 : Int32), wp_X4_mixedWithCourse_L6 vp p1 K6_37 N6 x4_6 x6_6 → J g X 0 0 ((PcB g pa vp).flatten) [(0, .ref (pa 0)), (3, .int p1), (4, .long x4_6), (6, .int x6_6)] [] 6 := by
    intro K6_37 hK6_37 N6
    induction N6 with
    | zero => intro x4_6 x6_6 hf; exact False.elim hf
    | succ N6 ih6 =>
      intro x4_6 x6_6 hf
      refine j_iload (pc' := 8) hX dX4_mixedWithCourse_6 3 rfl rfl ?_
      refine j_bipush (pc' := 10) (v := 7) hX dX4_mixedWithCourse_8 (by decide) rfl ?_
      refine j_icmp_ge (tgt := 37) (pc' := 13) hX dX4_mixedWithCourse_10 (by decide) rfl hf (fun hf => ?_) (fun hf => ?_)
      · refine J_sub (lv' := [(0, .ref (pa 0)), (3, .int p1), (4, .long x4_6)]) [0, 1, 2] rfl ?_
        exact hK6_37 x4_6 hf
      · refine j_lload (pc' := 15) hX dX4_mixedWithCourse_13 2 rfl rfl ?_
        refine j_aload_n (pc' := 16) hX dX4_mixedWithCourse_15 rfl 0 rfl rfl ?_
        refine j_get (ci := 4) (pc' := 19) hX hin4 rfl 0 rfl 0 (by decide) hl_10 rfl dX4_mixedWithCourse_16 rfl ?_
        refine j_iload_n (pc' := 20) hX dX4_mixedWithCourse_19 rfl 1 rfl rfl ?_
        refine j_iload (pc' := 22) hX dX4_mixedWithCourse_20 3 rfl rfl ?_
        refine j_callVRb (ci := 2) (nb := 12) (pc' := 25) (As := [.int p1, .int x6_6]) (rest := [.long x4_6]) (stk := fun r22 => [.int r22, .long x4_6]) (bs := (PcB g pa vp)) (cs := ([(MoW g (pa 1) (pa 2) (pa 3) (pa 4) (pa 5) (vp.1))])) (rs := (List.map (fun i : Nat => List.getD (PcB g pa vp) i []) [0, 2, 3, 4, 5, 6, 7, 8, 9, 10, 11])) hX (fun l => met_X2_property l g (pa 1) (pa 2) (pa 3) (pa 4) (pa 5) vp.1 p1 x6_6 _ hf) rfl gX4_mixedWithCourse_X2_property yoX2_property rfl ⟨Nat.le_of_ble_eq_true rfl, Nat.le_of_ble_eq_true rfl⟩ ⟨⟨Nat.le_of_ble_eq_true rfl, Nat.le_of_ble_eq_true rfl⟩, rfl, rfl⟩ 0 rfl rfl [0, 2, 3, 4, 5, 6, 7, 8, 9, 10, 11, 1] rfl rfl rfl (by decide) rfl (Nat.le_of_ble_eq_true rfl) rfl (fun _ => rfl) dX4_mixedWithCourse_22 rfl (fun r22 hf => ?_)
        refine j_i2l (pc' := 26) hX dX4_mixedWithCourse_25 rfl ?_
        refine j_callSR (pc' := 29) (As := [.long x4_6, .long r22.toInt64]) (rest := []) (stk := fun r26 => [.long r26]) hX (fun l => met_X4_mixed l g x4_6 r22.toInt64 _ hf) rfl gX4_mixedWithCourse_X4_mixed yoX4_mixed rfl ⟨Nat.le_of_ble_eq_true rfl, Nat.le_of_ble_eq_true rfl⟩ ⟨⟨Nat.le_of_ble_eq_true rfl, Nat.le_of_ble_eq_true rfl⟩, rfl, rfl⟩ [] rfl (by decide) (Nat.le_of_ble_eq_true rfl) rfl (fun _ => rfl) dX4_mixedWithCourse_26 rfl (fun r26 hf => ?_)
        refine j_lstore (pc' := 31) (lv' := [(4, .long r26), (0, .ref (pa 0)), (3, .int p1), (6, .int x6_6)]) hX dX4_mixedWithCourse_29 (by decide) rfl rfl ?_
        refine j_iinc (pc' := 34) (cst := 1) (v := (x6_6 + 1)) (lv' := [(6, .int (x6_6 + 1)), (4, .long r26), (0, .ref (pa 0)), (3, .int p1)]) hX dX4_mixedWithCourse_31 (by decide) rfl 3 rfl (by decide) rfl rfl ?_
        refine j_goto (tgt := 6) hX dX4_mixedWithCourse_34 (by decide) ?_
        refine J_sub (lv' := [(0, .ref (pa 0)), (3, .int p1), (4, .long r26), (6, .int (x6_6 + 1))]) [2, 3, 1, 0] rfl ?_
        exact ih6 r26 (x6_6 + 1) hf
  refine J_sub (lv' := [(0, .ref (pa 0)), (3, .int p1), (4, .long p0), (6, .int 0)]) [2, 4, 1, 0] rfl ?_
  refine L6 _ (fun e1 hf => ?_) N6 p0 0 hf
  refine j_aload_n (pc' := 38) hX dX4_mixedWithCourse_37 rfl 0 rfl rfl ?_
  refine j_get (ci := 4) (pc' := 41) hX hin4 rfl 0 rfl 0 (by decide) hl_10 rfl dX4_mixedWithCourse_38 rfl ?_
  refine j_iload_n (pc' := 42) hX dX4_mixedWithCourse_41 rfl 1 rfl rfl ?_
  refine j_callVRb (ci := 2) (nb := 12) (pc' := 45) (As := [.int p1]) (rest := []) (stk := fun r42 => [.int r42]) (bs := (PcB g pa vp)) (cs := ([(MoW g (pa 1) (pa 2) (pa 3) (pa 4) (pa 5) (vp.1))])) (rs := (List.map (fun i : Nat => List.getD (PcB g pa vp) i []) [0, 2, 3, 4, 5, 6, 7, 8, 9, 10, 11])) hX (fun l => met_X2_cellsOf l g (pa 1) (pa 2) (pa 3) (pa 4) (pa 5) vp.1 p1 _ hf) rfl gX4_mixedWithCourse_X2_cellsOf yoX2_cellsOf rfl ⟨Nat.le_of_ble_eq_true rfl, Nat.le_of_ble_eq_true rfl⟩ ⟨⟨Nat.le_of_ble_eq_true rfl, Nat.le_of_ble_eq_true rfl⟩, rfl, rfl⟩ 0 rfl rfl [0, 2, 3, 4, 5, 6, 7, 8, 9, 10, 11, 1] rfl rfl rfl (by decide) rfl (Nat.le_of_ble_eq_true rfl) rfl (fun _ => rfl) dX4_mixedWithCourse_42 rfl (fun r42 hf => ?_)
  refine j_istore (pc' := 47) (lv' := [(6, .int r42), (0, .ref (pa 0)), (3, .int p1), (4, .long e1)]) hX dX4_mixedWithCourse_45 (by decide) rfl rfl ?_
  refine j_iconst (pc' := 48) (v := 0) hX dX4_mixedWithCourse_47 (by decide) rfl ?_
  refine j_istore (pc' := 50) (lv' := [(7, .int 0), (6, .int r42), (0, .ref (pa 0)), (3, .int p1), (4, .long e1)]) hX dX4_mixedWithCourse_48 (by decide) rfl rfl ?_
  obtain ⟨N50, hf⟩ := hf
  have L50 : ∀ (K50_102 : Int64 → Prop), (∀ (x4_50 : Int64), K50_102 x4_50 → J g X 0 0 ((PcB g pa vp).flatten) [(0, .ref (pa 0)), (3, .int p1), (4, .long x4_50)] [] 102) → ∀ (N50 : Nat) (x4_50 : Int64) (x7_50 : Int32), wp_X4_mixedWithCourse_L50 vp p1 r42 K50_102 N50 x4_50 x7_50 → J g X 0 0 ((PcB g pa vp).flatten) [(0, .ref (pa 0)), (3, .int p1), (4, .long x4_50), (6, .int r42), (7, .int x7_50)] [] 50 := by
    intro K50_102 hK50_102 N50
    induction N50 with
    | zero => intro x4_50 x7_50 hf; exact False.elim hf
    | succ N50 ih50 =>
      intro x4_50 x7_50 hf
      refine j_iload (pc' := 52) hX dX4_mixedWithCourse_50 4 rfl rfl ?_
      refine j_iload (pc' := 54) hX dX4_mixedWithCourse_52 3 rfl rfl ?_
      refine j_icmp_ge (tgt := 102) (pc' := 57) hX dX4_mixedWithCourse_54 (by decide) rfl hf (fun hf => ?_) (fun hf => ?_)
      · refine J_sub (lv' := [(0, .ref (pa 0)), (3, .int p1), (4, .long x4_50)]) [0, 1, 2] rfl ?_
        exact hK50_102 x4_50 hf
      · refine j_lload (pc' := 59) hX dX4_mixedWithCourse_57 2 rfl rfl ?_
        refine j_aload_n (pc' := 60) hX dX4_mixedWithCourse_59 rfl 0 rfl rfl ?_
        refine j_get (ci := 4) (pc' := 63) hX hin4 rfl 0 rfl 0 (by decide) hl_10 rfl dX4_mixedWithCourse_60 rfl ?_
        refine j_iload_n (pc' := 64) hX dX4_mixedWithCourse_63 rfl 1 rfl rfl ?_
        refine j_iload (pc' := 66) hX dX4_mixedWithCourse_64 4 rfl rfl ?_
        refine j_callVRb (ci := 2) (nb := 12) (pc' := 69) (As := [.int p1, .int x7_50]) (rest := [.long x4_50]) (stk := fun r66 => [.int r66, .long x4_50]) (bs := (PcB g pa vp)) (cs := ([(MoW g (pa 1) (pa 2) (pa 3) (pa 4) (pa 5) (vp.1))])) (rs := (List.map (fun i : Nat => List.getD (PcB g pa vp) i []) [0, 2, 3, 4, 5, 6, 7, 8, 9, 10, 11])) hX (fun l => met_X2_sizeAt l g (pa 1) (pa 2) (pa 3) (pa 4) (pa 5) vp.1 p1 x7_50 _ hf) rfl gX4_mixedWithCourse_X2_sizeAt yoX2_sizeAt rfl ⟨Nat.le_of_ble_eq_true rfl, Nat.le_of_ble_eq_true rfl⟩ ⟨⟨Nat.le_of_ble_eq_true rfl, Nat.le_of_ble_eq_true rfl⟩, rfl, rfl⟩ 0 rfl rfl [0, 2, 3, 4, 5, 6, 7, 8, 9, 10, 11, 1] rfl rfl rfl (by decide) rfl (Nat.le_of_ble_eq_true rfl) rfl (fun _ => rfl) dX4_mixedWithCourse_66 rfl (fun r66 hf => ?_)
        refine j_i2l (pc' := 70) hX dX4_mixedWithCourse_69 rfl ?_
        refine j_callSR (pc' := 73) (As := [.long x4_50, .long r66.toInt64]) (rest := []) (stk := fun r70 => [.long r70]) hX (fun l => met_X4_mixed l g x4_50 r66.toInt64 _ hf) rfl gX4_mixedWithCourse_X4_mixed yoX4_mixed rfl ⟨Nat.le_of_ble_eq_true rfl, Nat.le_of_ble_eq_true rfl⟩ ⟨⟨Nat.le_of_ble_eq_true rfl, Nat.le_of_ble_eq_true rfl⟩, rfl, rfl⟩ [] rfl (by decide) (Nat.le_of_ble_eq_true rfl) rfl (fun _ => rfl) dX4_mixedWithCourse_70 rfl (fun r70 hf => ?_)
        refine j_lstore (pc' := 75) (lv' := [(4, .long r70), (0, .ref (pa 0)), (3, .int p1), (6, .int r42), (7, .int x7_50)]) hX dX4_mixedWithCourse_73 (by decide) rfl rfl ?_
        refine j_lload (pc' := 77) hX dX4_mixedWithCourse_75 0 rfl rfl ?_
        refine j_aload_n (pc' := 78) hX dX4_mixedWithCourse_77 rfl 1 rfl rfl ?_
        refine j_get (ci := 4) (pc' := 81) hX hin4 rfl 0 rfl 0 (by decide) hl_10 rfl dX4_mixedWithCourse_78 rfl ?_
        refine j_iload_n (pc' := 82) hX dX4_mixedWithCourse_81 rfl 2 rfl rfl ?_
        refine j_iload (pc' := 84) hX dX4_mixedWithCourse_82 4 rfl rfl ?_
        refine j_callVRb (ci := 2) (nb := 12) (pc' := 87) (As := [.int p1, .int x7_50]) (rest := [.long r70]) (stk := fun r84 => [.int r84, .long r70]) (bs := (PcB g pa vp)) (cs := ([(MoW g (pa 1) (pa 2) (pa 3) (pa 4) (pa 5) (vp.1))])) (rs := (List.map (fun i : Nat => List.getD (PcB g pa vp) i []) [0, 2, 3, 4, 5, 6, 7, 8, 9, 10, 11])) hX (fun l => met_X2_runsThrough l g (pa 1) (pa 2) (pa 3) (pa 4) (pa 5) vp.1 p1 x7_50 _ hf) rfl gX4_mixedWithCourse_X2_runsThrough yoX2_runsThrough rfl ⟨Nat.le_of_ble_eq_true rfl, Nat.le_of_ble_eq_true rfl⟩ ⟨⟨Nat.le_of_ble_eq_true rfl, Nat.le_of_ble_eq_true rfl⟩, rfl, rfl⟩ 0 rfl rfl [0, 2, 3, 4, 5, 6, 7, 8, 9, 10, 11, 1] rfl rfl rfl (by decide) rfl (Nat.le_of_ble_eq_true rfl) rfl (fun _ => rfl) dX4_mixedWithCourse_84 rfl (fun r84 hf => ?_)
        refine j_callSR (pc' := 90) (As := [.int r84]) (rest := [.long r70]) (stk := fun r87 => [.int r87, .long r70]) hX (fun l => met_X4_numberOf l g r84 _ hf) rfl gX4_mixedWithCourse_X4_numberOf yoX4_numberOf rfl ⟨Nat.le_of_ble_eq_true rfl, Nat.le_of_ble_eq_true rfl⟩ ⟨⟨Nat.le_of_ble_eq_true rfl, Nat.le_of_ble_eq_true rfl⟩, rfl, rfl⟩ [] rfl (by decide) (Nat.le_of_ble_eq_true rfl) rfl (fun _ => rfl) dX4_mixedWithCourse_87 rfl (fun r87 hf => ?_)
        refine j_i2l (pc' := 91) hX dX4_mixedWithCourse_90 rfl ?_
        refine j_callSR (pc' := 94) (As := [.long r70, .long r87.toInt64]) (rest := []) (stk := fun r91 => [.long r91]) hX (fun l => met_X4_mixed l g r70 r87.toInt64 _ hf) rfl gX4_mixedWithCourse_X4_mixed yoX4_mixed rfl ⟨Nat.le_of_ble_eq_true rfl, Nat.le_of_ble_eq_true rfl⟩ ⟨⟨Nat.le_of_ble_eq_true rfl, Nat.le_of_ble_eq_true rfl⟩, rfl, rfl⟩ [] rfl (by decide) (Nat.le_of_ble_eq_true rfl) rfl (fun _ => rfl) dX4_mixedWithCourse_91 rfl (fun r91 hf => ?_)
        refine j_lstore (pc' := 96) (lv' := [(4, .long r91), (0, .ref (pa 0)), (3, .int p1), (6, .int r42), (7, .int x7_50)]) hX dX4_mixedWithCourse_94 (by decide) rfl rfl ?_
        refine j_iinc (pc' := 99) (cst := 1) (v := (x7_50 + 1)) (lv' := [(7, .int (x7_50 + 1)), (4, .long r91), (0, .ref (pa 0)), (3, .int p1), (6, .int r42)]) hX dX4_mixedWithCourse_96 (by decide) rfl 4 rfl (by decide) rfl rfl ?_
        refine j_goto (tgt := 50) hX dX4_mixedWithCourse_99 (by decide) ?_
        refine J_sub (lv' := [(0, .ref (pa 0)), (3, .int p1), (4, .long r91), (6, .int r42), (7, .int (x7_50 + 1))]) [2, 3, 1, 4, 0] rfl ?_
        exact ih50 r91 (x7_50 + 1) hf
  refine J_sub (lv' := [(0, .ref (pa 0)), (3, .int p1), (4, .long e1), (6, .int r42), (7, .int 0)]) [2, 3, 4, 1, 0] rfl ?_
  refine L50 _ (fun e2 hf => ?_) N50 e1 0 hf
  refine j_aload_n (pc' := 103) hX dX4_mixedWithCourse_102 rfl 0 rfl rfl ?_
  refine j_get (ci := 4) (pc' := 106) hX hin4 rfl 0 rfl 2 (by decide) hl_22 rfl dX4_mixedWithCourse_103 rfl ?_
  refine j_aload_n (pc' := 107) hX dX4_mixedWithCourse_106 rfl 0 rfl rfl ?_
  refine j_get (ci := 4) (pc' := 110) hX hin4 rfl 0 rfl 0 (by decide) hl_10 rfl dX4_mixedWithCourse_107 rfl ?_
  refine j_iload_n (pc' := 111) hX dX4_mixedWithCourse_110 rfl 1 rfl rfl ?_
  refine j_callVMb (ci := 0) (nb := 12) (pc' := 114) (k' := 0) (n' := 0) (As := [.ref (pa 1), .int p1]) (rest := []) (stk := fun _ => []) (bs := (PcB g pa vp)) (cs := ([(ClW g (pa 11) (pa 12) (vp.2.2.1))] ++ [(MoW g (pa 1) (pa 2) (pa 3) (pa 4) (pa 5) (vp.1))])) (rs := (List.map (fun i : Nat => List.getD (PcB g pa vp) i []) [0, 2, 4, 5, 6, 7, 8, 9, 10, 11])) (ws' := fun u111_3 => ((PcB g pa (pc_c vp (u111_3))).flatten)) (bs' := fun u111_3 => (PcB g pa (pc_c vp (u111_3)))) (d1 := fun u111_3 => ([(ClW g (pa 11) (pa 12) u111_3)] ++ [(MoW g (pa 1) (pa 2) (pa 3) (pa 4) (pa 5) (vp.1))])) hX hW (fun l => met_X0_find l g (pa 11) (pa 12) (pa 1) (pa 2) (pa 3) (pa 4) (pa 5) vp.2.2.1 vp.1 p1 _ hf) rfl gX4_mixedWithCourse_X0_find yoX0_find rfl ⟨Nat.le_of_ble_eq_true rfl, Nat.le_of_ble_eq_true rfl⟩ ⟨Nat.le_of_ble_eq_true rfl, Nat.le_of_ble_eq_true rfl, Nat.le_of_ble_eq_true rfl, Nat.le_of_ble_eq_true rfl⟩ 0 rfl rfl [0, 2, 4, 5, 6, 7, 8, 9, 10, 11, 3, 1] rfl rfl rfl (by decide) rfl (fun _ => rfl) (fun _ => rfl) (fun _ => rfl) (fun _ => rfl) (Nat.le_of_ble_eq_true rfl) rfl (fun _ => rfl) dX4_mixedWithCourse_111 rfl (fun _ u111_3 hf => ?_)
  refine j_lload (pc' := 116) hX dX4_mixedWithCourse_114 2 rfl rfl ?_
  refine j_aload_n (pc' := 117) hX dX4_mixedWithCourse_116 rfl 0 rfl rfl ?_
  refine j_get (ci := 4) (pc' := 120) hX hin4 rfl 0 rfl 2 (by decide) hl_22 rfl dX4_mixedWithCourse_117 rfl ?_
  refine j_callVRb (ci := 0) (nb := 12) (pc' := 123) (As := []) (rest := [.long e2]) (stk := fun r120 => [.int r120, .long e2]) (bs := (PcB g pa (pc_c vp (u111_3)))) (cs := ([(ClW g (pa 11) (pa 12) ((pc_c vp (u111_3)).2.2.1))])) (rs := (List.map (fun i : Nat => List.getD (PcB g pa (pc_c vp (u111_3))) i []) [0, 1, 2, 4, 5, 6, 7, 8, 9, 10, 11])) hX (fun l => met_X0_pebbles l g (pa 11) (pa 12) ((pc_c vp (u111_3)).2.2.1) _ hf) rfl gX4_mixedWithCourse_X0_pebbles yoX0_pebbles rfl ⟨Nat.le_of_ble_eq_true rfl, Nat.le_of_ble_eq_true rfl⟩ ⟨⟨Nat.le_of_ble_eq_true rfl, Nat.le_of_ble_eq_true rfl⟩, rfl, rfl⟩ 0 rfl rfl [0, 1, 2, 4, 5, 6, 7, 8, 9, 10, 11, 3] rfl rfl rfl (by decide) rfl (Nat.le_of_ble_eq_true rfl) rfl (fun _ => rfl) dX4_mixedWithCourse_120 rfl (fun r120 hf => ?_)
  refine j_i2l (pc' := 124) hX dX4_mixedWithCourse_123 rfl ?_
  refine j_callSR (pc' := 127) (As := [.long e2, .long r120.toInt64]) (rest := []) (stk := fun r124 => [.long r124]) hX (fun l => met_X4_mixed l g e2 r120.toInt64 _ hf) rfl gX4_mixedWithCourse_X4_mixed yoX4_mixed rfl ⟨Nat.le_of_ble_eq_true rfl, Nat.le_of_ble_eq_true rfl⟩ ⟨⟨Nat.le_of_ble_eq_true rfl, Nat.le_of_ble_eq_true rfl⟩, rfl, rfl⟩ [] rfl (by decide) (Nat.le_of_ble_eq_true rfl) rfl (fun _ => rfl) dX4_mixedWithCourse_124 rfl (fun r124 hf => ?_)
  refine j_lstore (pc' := 129) (lv' := [(4, .long r124), (0, .ref (pa 0)), (3, .int p1)]) hX dX4_mixedWithCourse_127 (by decide) rfl rfl ?_
  refine j_lload (pc' := 131) hX dX4_mixedWithCourse_129 0 rfl rfl ?_
  refine j_aload_n (pc' := 132) hX dX4_mixedWithCourse_131 rfl 1 rfl rfl ?_
  refine j_get (ci := 4) (pc' := 135) hX hin4 rfl 0 rfl 2 (by decide) hl_22 rfl dX4_mixedWithCourse_132 rfl ?_
  refine j_callVRb (ci := 0) (nb := 12) (pc' := 138) (As := []) (rest := [.long r124]) (stk := fun r135 => [.int r135, .long r124]) (bs := (PcB g pa (pc_c vp (u111_3)))) (cs := ([(ClW g (pa 11) (pa 12) ((pc_c vp (u111_3)).2.2.1))])) (rs := (List.map (fun i : Nat => List.getD (PcB g pa (pc_c vp (u111_3))) i []) [0, 1, 2, 4, 5, 6, 7, 8, 9, 10, 11])) hX (fun l => met_X0_firstSize l g (pa 11) (pa 12) ((pc_c vp (u111_3)).2.2.1) _ hf) rfl gX4_mixedWithCourse_X0_firstSize yoX0_firstSize rfl ⟨Nat.le_of_ble_eq_true rfl, Nat.le_of_ble_eq_true rfl⟩ ⟨⟨Nat.le_of_ble_eq_true rfl, Nat.le_of_ble_eq_true rfl⟩, rfl, rfl⟩ 0 rfl rfl [0, 1, 2, 4, 5, 6, 7, 8, 9, 10, 11, 3] rfl rfl rfl (by decide) rfl (Nat.le_of_ble_eq_true rfl) rfl (fun _ => rfl) dX4_mixedWithCourse_135 rfl (fun r135 hf => ?_)
  refine j_i2l (pc' := 139) hX dX4_mixedWithCourse_138 rfl ?_
  refine j_callSR (pc' := 142) (As := [.long r124, .long r135.toInt64]) (rest := []) (stk := fun r139 => [.long r139]) hX (fun l => met_X4_mixed l g r124 r135.toInt64 _ hf) rfl gX4_mixedWithCourse_X4_mixed yoX4_mixed rfl ⟨Nat.le_of_ble_eq_true rfl, Nat.le_of_ble_eq_true rfl⟩ ⟨⟨Nat.le_of_ble_eq_true rfl, Nat.le_of_ble_eq_true rfl⟩, rfl, rfl⟩ [] rfl (by decide) (Nat.le_of_ble_eq_true rfl) rfl (fun _ => rfl) dX4_mixedWithCourse_139 rfl (fun r139 hf => ?_)
  refine j_lstore (pc' := 144) (lv' := [(4, .long r139), (0, .ref (pa 0)), (3, .int p1)]) hX dX4_mixedWithCourse_142 (by decide) rfl rfl ?_
  refine j_iconst (pc' := 145) (v := 0) hX dX4_mixedWithCourse_144 (by decide) rfl ?_
  refine j_istore (pc' := 147) (lv' := [(7, .int 0), (4, .long r139), (0, .ref (pa 0)), (3, .int p1)]) hX dX4_mixedWithCourse_145 (by decide) rfl rfl ?_
  obtain ⟨N147, hf⟩ := hf
  have L147 : ∀ (K147_224 : Int64 → Pc → Prop), (∀ (x4_147 : Int64) (vp_147 : Pc), K147_224 x4_147 vp_147 → J g X 0 0 ((PcB g pa vp_147).flatten) [(4, .long x4_147)] [] 224) → ∀ (N147 : Nat) (x4_147 : Int64) (x7_147 : Int32) (vp_147 : Pc), wp_X4_mixedWithCourse_L147 p1 K147_224 N147 x4_147 x7_147 vp_147 → J g X 0 0 ((PcB g pa vp_147).flatten) [(0, .ref (pa 0)), (3, .int p1), (4, .long x4_147), (7, .int x7_147)] [] 147 := by
    intro K147_224 hK147_224 N147
    induction N147 with
    | zero => intro x4_147 x7_147 vp_147 hf; exact False.elim hf
    | succ N147 ih147 =>
      intro x4_147 x7_147 vp_147 hf
      refine j_iload (pc' := 149) hX dX4_mixedWithCourse_147 3 rfl rfl ?_
      refine j_iconst (pc' := 150) (v := 2) hX dX4_mixedWithCourse_149 (by decide) rfl ?_
      refine j_icmp_ge (tgt := 224) (pc' := 153) hX dX4_mixedWithCourse_150 (by decide) rfl hf (fun hf => ?_) (fun hf => ?_)
      · refine J_sub (lv' := [(4, .long x4_147)]) [2] rfl ?_
        exact hK147_224 x4_147 vp_147 hf
      · refine j_aload_n (pc' := 154) hX dX4_mixedWithCourse_153 rfl 0 rfl rfl ?_
        refine j_get (ci := 4) (pc' := 157) hX hin4 rfl 0 rfl 1 (by decide) hl_16 rfl dX4_mixedWithCourse_154 rfl ?_
        refine j_aload_n (pc' := 158) hX dX4_mixedWithCourse_157 rfl 0 rfl rfl ?_
        refine j_get (ci := 4) (pc' := 161) hX hin4 rfl 0 rfl 0 (by decide) hl_10 rfl dX4_mixedWithCourse_158 rfl ?_
        refine j_callVMb (ci := 2) (nb := 12) (pc' := 164) (k' := 0) (n' := 0) (As := [.ref (pa 1)]) (rest := []) (stk := fun _ => []) (bs := (PcB g pa vp_147)) (cs := ([(MoW g (pa 6) (pa 7) (pa 8) (pa 9) (pa 10) (vp_147.2.1))] ++ [(MoW g (pa 1) (pa 2) (pa 3) (pa 4) (pa 5) (vp_147.1))])) (rs := (List.map (fun i : Nat => List.getD (PcB g pa vp_147) i []) [0, 3, 4, 5, 6, 7, 8, 9, 10, 11])) (ws' := fun u161_4 => ((PcB g pa (pc_t vp_147 (u161_4))).flatten)) (bs' := fun u161_4 => (PcB g pa (pc_t vp_147 (u161_4)))) (d1 := fun u161_4 => ([(MoW g (pa 6) (pa 7) (pa 8) (pa 9) (pa 10) u161_4)] ++ [(MoW g (pa 1) (pa 2) (pa 3) (pa 4) (pa 5) (vp_147.1))])) hX hW (fun l => met_X2_become l g (pa 6) (pa 7) (pa 8) (pa 9) (pa 10) (pa 1) (pa 2) (pa 3) (pa 4) (pa 5) vp_147.2.1 vp_147.1 _ hf) rfl gX4_mixedWithCourse_X2_become yoX2_become rfl ⟨Nat.le_of_ble_eq_true rfl, Nat.le_of_ble_eq_true rfl⟩ ⟨Nat.le_of_ble_eq_true rfl, Nat.le_of_ble_eq_true rfl, Nat.le_of_ble_eq_true rfl, Nat.le_of_ble_eq_true rfl⟩ 0 rfl rfl [0, 3, 4, 5, 6, 7, 8, 9, 10, 11, 2, 1] rfl rfl rfl (by decide) rfl (fun _ => rfl) (fun _ => rfl) (fun _ => rfl) (fun _ => rfl) (Nat.le_of_ble_eq_true rfl) rfl (fun _ => rfl) dX4_mixedWithCourse_161 rfl (fun _ u161_4 hf => ?_)
        refine j_aload_n (pc' := 165) hX dX4_mixedWithCourse_164 rfl 0 rfl rfl ?_
        refine j_get (ci := 4) (pc' := 168) hX hin4 rfl 0 rfl 1 (by decide) hl_16 rfl dX4_mixedWithCourse_165 rfl ?_
        refine j_iload_n (pc' := 169) hX dX4_mixedWithCourse_168 rfl 1 rfl rfl ?_
        refine j_iload (pc' := 171) hX dX4_mixedWithCourse_169 3 rfl rfl ?_
        refine j_callVMb (ci := 2) (nb := 12) (pc' := 174) (k' := 0) (n' := 0) (As := [.int p1, .int x7_147]) (rest := []) (stk := fun r171 => [.int r171]) (bs := (PcB g pa (pc_t vp_147 (u161_4)))) (cs := ([(MoW g (pa 6) (pa 7) (pa 8) (pa 9) (pa 10) ((pc_t vp_147 (u161_4)).2.1))])) (rs := (List.map (fun i : Nat => List.getD (PcB g pa (pc_t vp_147 (u161_4))) i []) [0, 1, 3, 4, 5, 6, 7, 8, 9, 10, 11])) (ws' := fun u171_5 => ((PcB g pa (pc_t (pc_t vp_147 (u161_4)) (u171_5))).flatten)) (bs' := fun u171_5 => (PcB g pa (pc_t (pc_t vp_147 (u161_4)) (u171_5)))) (d1 := fun u171_5 => ([(MoW g (pa 6) (pa 7) (pa 8) (pa 9) (pa 10) u171_5)])) hX hW (fun l => met_X2_fillCourse l g (pa 6) (pa 7) (pa 8) (pa 9) (pa 10) ((pc_t vp_147 (u161_4)).2.1) p1 x7_147 _ hf) rfl gX4_mixedWithCourse_X2_fillCourse yoX2_fillCourse rfl ⟨Nat.le_of_ble_eq_true rfl, Nat.le_of_ble_eq_true rfl⟩ ⟨Nat.le_of_ble_eq_true rfl, Nat.le_of_ble_eq_true rfl, Nat.le_of_ble_eq_true rfl, Nat.le_of_ble_eq_true rfl⟩ 0 rfl rfl [0, 1, 3, 4, 5, 6, 7, 8, 9, 10, 11, 2] rfl rfl rfl (by decide) rfl (fun _ => rfl) (fun _ => rfl) (fun _ => rfl) (fun _ => rfl) (Nat.le_of_ble_eq_true rfl) rfl (fun _ => rfl) dX4_mixedWithCourse_171 rfl (fun r171 u171_5 hf => ?_)
        refine j_istore (pc' := 176) (lv' := [(8, .int r171), (0, .ref (pa 0)), (3, .int p1), (4, .long x4_147), (7, .int x7_147)]) hX dX4_mixedWithCourse_174 (by decide) rfl rfl ?_
        refine j_lload (pc' := 178) hX dX4_mixedWithCourse_176 3 rfl rfl ?_
        refine j_aload_n (pc' := 179) hX dX4_mixedWithCourse_178 rfl 1 rfl rfl ?_
        refine j_get (ci := 4) (pc' := 182) hX hin4 rfl 0 rfl 1 (by decide) hl_16 rfl dX4_mixedWithCourse_179 rfl ?_
        refine j_iload_n (pc' := 183) hX dX4_mixedWithCourse_182 rfl 2 rfl rfl ?_
        refine j_callVRb (ci := 2) (nb := 12) (pc' := 186) (As := [.int p1]) (rest := [.long x4_147]) (stk := fun r183 => [.int r183, .long x4_147]) (bs := (PcB g pa (pc_t (pc_t vp_147 (u161_4)) (u171_5)))) (cs := ([(MoW g (pa 6) (pa 7) (pa 8) (pa 9) (pa 10) ((pc_t (pc_t vp_147 (u161_4)) (u171_5)).2.1))])) (rs := (List.map (fun i : Nat => List.getD (PcB g pa (pc_t (pc_t vp_147 (u161_4)) (u171_5))) i []) [0, 1, 3, 4, 5, 6, 7, 8, 9, 10, 11])) hX (fun l => met_X2_freeOf l g (pa 6) (pa 7) (pa 8) (pa 9) (pa 10) ((pc_t (pc_t vp_147 (u161_4)) (u171_5)).2.1) p1 _ hf) rfl gX4_mixedWithCourse_X2_freeOf yoX2_freeOf rfl ⟨Nat.le_of_ble_eq_true rfl, Nat.le_of_ble_eq_true rfl⟩ ⟨⟨Nat.le_of_ble_eq_true rfl, Nat.le_of_ble_eq_true rfl⟩, rfl, rfl⟩ 0 rfl rfl [0, 1, 3, 4, 5, 6, 7, 8, 9, 10, 11, 2] rfl rfl rfl (by decide) rfl (Nat.le_of_ble_eq_true rfl) rfl (fun _ => rfl) dX4_mixedWithCourse_183 rfl (fun r183 hf => ?_)
        refine j_i2l (pc' := 187) hX dX4_mixedWithCourse_186 rfl ?_
        refine j_callSR (pc' := 190) (As := [.long x4_147, .long r183.toInt64]) (rest := []) (stk := fun r187 => [.long r187]) hX (fun l => met_X4_mixed l g x4_147 r183.toInt64 _ hf) rfl gX4_mixedWithCourse_X4_mixed yoX4_mixed rfl ⟨Nat.le_of_ble_eq_true rfl, Nat.le_of_ble_eq_true rfl⟩ ⟨⟨Nat.le_of_ble_eq_true rfl, Nat.le_of_ble_eq_true rfl⟩, rfl, rfl⟩ [] rfl (by decide) (Nat.le_of_ble_eq_true rfl) rfl (fun _ => rfl) dX4_mixedWithCourse_187 rfl (fun r187 hf => ?_)
        refine j_lstore (pc' := 192) (lv' := [(4, .long r187), (8, .int r171), (0, .ref (pa 0)), (3, .int p1), (7, .int x7_147)]) hX dX4_mixedWithCourse_190 (by decide) rfl rfl ?_
        refine j_lload (pc' := 194) hX dX4_mixedWithCourse_192 0 rfl rfl ?_
        refine j_iload (pc' := 196) hX dX4_mixedWithCourse_194 1 rfl rfl ?_
        refine j_i2l (pc' := 197) hX dX4_mixedWithCourse_196 rfl ?_
        refine j_callSR (pc' := 200) (As := [.long r187, .long r171.toInt64]) (rest := []) (stk := fun r197 => [.long r197]) hX (fun l => met_X4_mixed l g r187 r171.toInt64 _ hf) rfl gX4_mixedWithCourse_X4_mixed yoX4_mixed rfl ⟨Nat.le_of_ble_eq_true rfl, Nat.le_of_ble_eq_true rfl⟩ ⟨⟨Nat.le_of_ble_eq_true rfl, Nat.le_of_ble_eq_true rfl⟩, rfl, rfl⟩ [] rfl (by decide) (Nat.le_of_ble_eq_true rfl) rfl (fun _ => rfl) dX4_mixedWithCourse_197 rfl (fun r197 hf => ?_)
        refine j_lstore (pc' := 202) (lv' := [(4, .long r197), (8, .int r171), (0, .ref (pa 0)), (3, .int p1), (7, .int x7_147)]) hX dX4_mixedWithCourse_200 (by decide) rfl rfl ?_
        refine j_lload (pc' := 204) hX dX4_mixedWithCourse_202 0 rfl rfl ?_
        refine j_aload_n (pc' := 205) hX dX4_mixedWithCourse_204 rfl 2 rfl rfl ?_
        refine j_get (ci := 4) (pc' := 208) hX hin4 rfl 0 rfl 1 (by decide) hl_16 rfl dX4_mixedWithCourse_205 rfl ?_
        refine j_iload_n (pc' := 209) hX dX4_mixedWithCourse_208 rfl 3 rfl rfl ?_
        refine j_callVRb (ci := 2) (nb := 12) (pc' := 212) (As := [.int p1]) (rest := [.long r197]) (stk := fun r209 => [.int r209, .long r197]) (bs := (PcB g pa (pc_t (pc_t vp_147 (u161_4)) (u171_5)))) (cs := ([(MoW g (pa 6) (pa 7) (pa 8) (pa 9) (pa 10) ((pc_t (pc_t vp_147 (u161_4)) (u171_5)).2.1))])) (rs := (List.map (fun i : Nat => List.getD (PcB g pa (pc_t (pc_t vp_147 (u161_4)) (u171_5))) i []) [0, 1, 3, 4, 5, 6, 7, 8, 9, 10, 11])) hX (fun l => met_X2_meetingJointsOf l g (pa 6) (pa 7) (pa 8) (pa 9) (pa 10) ((pc_t (pc_t vp_147 (u161_4)) (u171_5)).2.1) p1 _ hf) rfl gX4_mixedWithCourse_X2_meetingJointsOf yoX2_meetingJointsOf rfl ⟨Nat.le_of_ble_eq_true rfl, Nat.le_of_ble_eq_true rfl⟩ ⟨⟨Nat.le_of_ble_eq_true rfl, Nat.le_of_ble_eq_true rfl⟩, rfl, rfl⟩ 0 rfl rfl [0, 1, 3, 4, 5, 6, 7, 8, 9, 10, 11, 2] rfl rfl rfl (by decide) rfl (Nat.le_of_ble_eq_true rfl) rfl (fun _ => rfl) dX4_mixedWithCourse_209 rfl (fun r209 hf => ?_)
        refine j_i2l (pc' := 213) hX dX4_mixedWithCourse_212 rfl ?_
        refine j_callSR (pc' := 216) (As := [.long r197, .long r209.toInt64]) (rest := []) (stk := fun r213 => [.long r213]) hX (fun l => met_X4_mixed l g r197 r209.toInt64 _ hf) rfl gX4_mixedWithCourse_X4_mixed yoX4_mixed rfl ⟨Nat.le_of_ble_eq_true rfl, Nat.le_of_ble_eq_true rfl⟩ ⟨⟨Nat.le_of_ble_eq_true rfl, Nat.le_of_ble_eq_true rfl⟩, rfl, rfl⟩ [] rfl (by decide) (Nat.le_of_ble_eq_true rfl) rfl (fun _ => rfl) dX4_mixedWithCourse_213 rfl (fun r213 hf => ?_)
        refine j_lstore (pc' := 218) (lv' := [(4, .long r213), (8, .int r171), (0, .ref (pa 0)), (3, .int p1), (7, .int x7_147)]) hX dX4_mixedWithCourse_216 (by decide) rfl rfl ?_
        refine j_iinc (pc' := 221) (cst := 1) (v := (x7_147 + 1)) (lv' := [(7, .int (x7_147 + 1)), (4, .long r213), (8, .int r171), (0, .ref (pa 0)), (3, .int p1)]) hX dX4_mixedWithCourse_218 (by decide) rfl 4 rfl (by decide) rfl rfl ?_
        refine j_goto (tgt := 147) hX dX4_mixedWithCourse_221 (by decide) ?_
        refine J_sub (lv' := [(0, .ref (pa 0)), (3, .int p1), (4, .long r213), (7, .int (x7_147 + 1))]) [3, 4, 1, 0] rfl ?_
        exact ih147 r213 (x7_147 + 1) (pc_t (pc_t vp_147 (u161_4)) (u171_5)) hf
  refine J_sub (lv' := [(0, .ref (pa 0)), (3, .int p1), (4, .long r139), (7, .int 0)]) [2, 3, 1, 0] rfl ?_
  refine L147 _ (fun e6 e7 hf => ?_) N147 r139 0 (pc_c vp (u111_3)) hf
  refine j_lload (pc' := 226) hX dX4_mixedWithCourse_224 0 rfl rfl ?_
  exact j_lret hX hR dX4_mixedWithCourse_226 ⟨_, _, rfl, hf, rfl⟩
def wp_X4_digest_L6 (vp : Pc) (K6_29 : Int64 → Prop) : Nat → Int64 → Int32 → Prop
  | 0, _, _ => False
  | N6 + 1, x1_6, x3_6 =>
  ((8 ≤ x3_6 → K6_29 x1_6) ∧ (¬ 8 ≤ x3_6 → (wp_X4_count_n vp x3_6 (fun r15 => (wp_X4_mixed x1_6 r15.toInt64 (fun r19 => (wp_X4_digest_L6 vp K6_29 N6) r19 (x3_6 + 1)))))))
def wp_X4_digest_L31 (vp : Pc) (K31_56 : Int64 → Prop) : Nat → Int64 → Int32 → Prop
  | 0, _, _ => False
  | N31 + 1, x1_31, x3_31 =>
  ((3 ≤ x3_31 → K31_56 x1_31) ∧ (¬ 3 ≤ x3_31 → (wp_X2_settingOf vp.1 x3_31 (fun r42 => (wp_X4_mixed x1_31 r42.toInt64 (fun r46 => (wp_X4_digest_L31 vp K31_56 N31) r46 (x3_31 + 1)))))))
def wp_X4_digest_L58 (vp : Pc) (K58_84 : Int64 → Prop) : Nat → Int64 → Int32 → Prop
  | 0, _, _ => False
  | N58 + 1, x1_58, x3_58 =>
  ((6 < x3_58 → K58_84 x1_58) ∧ (¬ 6 < x3_58 → (wp_X2_inStock vp.1 x3_58 (fun r70 => (wp_X4_mixed x1_58 r70.toInt64 (fun r74 => (wp_X4_digest_L58 vp K58_84 N58) r74 (x3_58 + 1)))))))
def wp_X4_digest_L86  (K86_105 : Int64 → Pc → Prop) : Nat → Int64 → Int32 → Pc → Prop
  | 0, _, _, _ => False
  | N86 + 1, x1_86, x3_86, vp_86 =>
  ((6 ≤ x3_86 → K86_105 x1_86 vp_86) ∧ (¬ 6 ≤ x3_86 → (wp_X4_mixedWithCourse vp_86 x1_86 x3_86 (fun r95 u95_4 => (wp_X4_digest_L86 K86_105 N86) r95 (x3_86 + 1) u95_4))))
def wp_X4_digest_L145 (u107_7 : Pc) (r131 : Int32) (K145_172 : Int64 → Prop) : Nat → Int64 → Int32 → Prop
  | 0, _, _ => False
  | N145 + 1, x1_145, x4_145 =>
  ((r131 ≤ x4_145 → K145_172 x1_145) ∧ (¬ r131 ≤ x4_145 → (wp_X3_signAt u107_7.2.2.2.2 x4_145 (fun r158 => (wp_X4_mixed x1_145 r158.toInt64 (fun r162 => (wp_X4_digest_L145 u107_7 r131 K145_172 N145) r162 (x4_145 + 1)))))))
def wp_X4_digest (vp : Pc) (post : Int64 → Pc → Prop) : Prop :=
  (∃ N : Nat, wp_X4_digest_L6 vp (fun (e1 : Int64) => (∃ N : Nat, wp_X4_digest_L31 vp (fun (e2 : Int64) => (∃ N : Nat, wp_X4_digest_L58 vp (fun (e3 : Int64) => (∃ N : Nat, wp_X4_digest_L86 (fun (e5 : Int64) (e6 : Pc) => (wp_X4_bestRule e6 (fun r107 u107_7 => (wp_X4_mixed e5 r107.toInt64 (fun r111 => (wp_X4_share u107_7 (fun r117 => (wp_X4_bitsOf r117 (fun r120 => (wp_X4_mixed r111 r120 (fun r123 => (wp_X3_length u107_7.2.2.2.2 (fun r131 => (wp_X4_mixed r123 r131.toInt64 (fun r138 => (∃ N : Nat, wp_X4_digest_L145 u107_7 r131 (fun (e8 : Int64) => post e8 u107_7) N r138 0)))))))))))))))) N e3 0 vp)) N e2 1)) N e1 0)) N 2903 0)
theorem yoX4_digest : yOk yX4_digest 0 := by decide +kernel
set_option maxHeartbeats 4000000 in
set_option maxRecDepth 100000 in
theorem met_X4_digest (l : Launch) (g : JG) (pa : Nat → Nat) (vp : Pc) (post : Int64 → Pc → Prop) (hf : wp_X4_digest vp post) : MetM l yX4_digest wsX4_digest ({ frames := 6, cells := 0, slots := 0, locals := 149 } : Room) [.ref (pa 0)] g ((PcB g pa vp).flatten) mkL post (fun u : Pc => ((PcB g pa u).flatten)) := by
  have hl_187 : Cond.constantLong RX4 187 2903 ∈ wsX4_digest := by decide +kernel
  have hin4 : ∀ w ∈ u_ws RX4 TX4 5, w ∈ wsX4_digest := by decide +kernel
  have hl_10 : Cond.fieldLink RX4 10 (TX4 0).1 (TX4 0).2.1 (TX4 0).2.2.1 ∈ wsX4_digest := by decide +kernel
  have hl_36 : Cond.fieldLink RX4 36 (TX4 4).1 (TX4 4).2.1 (TX4 4).2.2.1 ∈ wsX4_digest := by decide +kernel
  refine enterM (own := RX4) (cc := cX4_digest) (nL := 5) (ret := (some .long)) (lv := [(0, .ref (pa 0))]) (by decide) rfl rfl (Nat.le_of_ble_eq_true rfl) rfl (fun X hX hW hR => ?_)
  unfold wp_X4_digest at hf
  refine j_ldc2l (pc' := 3) (v := 2903) hX hl_187 dX4_digest_0 rfl ?_
  refine j_lstore_n (pc' := 4) (lv' := [(1, .long 2903), (0, .ref (pa 0))]) hX dX4_digest_3 rfl (by decide) rfl rfl ?_
  refine j_iconst (pc' := 5) (v := 0) hX dX4_digest_4 (by decide) rfl ?_
  refine j_istore_n (pc' := 6) (lv' := [(3, .int 0), (1, .long 2903), (0, .ref (pa 0))]) hX dX4_digest_5 rfl (by decide) rfl rfl ?_
  obtain ⟨N6, hf⟩ := hf
  have L6 : ∀ (K6_29 : Int64 → Prop), (∀ (x1_6 : Int64), K6_29 x1_6 → J g X 0 0 ((PcB g pa vp).flatten) [(0, .ref (pa 0)), (1, .long x1_6)] [] 29) → ∀ (N6 : Nat) (x1_6 : Int64) (x3_6 : Int32), wp_X4_digest_L6 vp K6_29 N6 x1_6 x3_6 → J g X 0 0 ((PcB g pa vp).flatten) [(0, .ref (pa 0)), (1, .long x1_6), (3, .int x3_6)] [] 6 := by
    intro K6_29 hK6_29 N6
    induction N6 with
    | zero => intro x1_6 x3_6 hf; exact False.elim hf
    | succ N6 ih6 =>
      intro x1_6 x3_6 hf
      refine j_iload_n (pc' := 7) hX dX4_digest_6 rfl 2 rfl rfl ?_
      refine j_bipush (pc' := 9) (v := 8) hX dX4_digest_7 (by decide) rfl ?_
      refine j_icmp_ge (tgt := 29) (pc' := 12) hX dX4_digest_9 (by decide) rfl hf (fun hf => ?_) (fun hf => ?_)
      · refine J_sub (lv' := [(0, .ref (pa 0)), (1, .long x1_6)]) [0, 1] rfl ?_
        exact hK6_29 x1_6 hf
      · refine j_lload_n (pc' := 13) hX dX4_digest_12 rfl 1 rfl rfl ?_
        refine j_aload_n (pc' := 14) hX dX4_digest_13 rfl 0 rfl rfl ?_
        refine j_iload_n (pc' := 15) hX dX4_digest_14 rfl 2 rfl rfl ?_
        refine j_callVRb (ci := 4) (nb := 12) (pc' := 18) (As := [.int x3_6]) (rest := [.long x1_6]) (stk := fun r15 => [.int r15, .long x1_6]) (bs := (PcB g pa vp)) (cs := (PcB g pa vp)) (rs := ([] : List va_W)) hX (fun l => met_X4_count_n l g pa vp x3_6 _ hf) rfl gX4_digest_X4_count yoX4_count rfl ⟨Nat.le_of_ble_eq_true rfl, Nat.le_of_ble_eq_true rfl⟩ ⟨⟨Nat.le_of_ble_eq_true rfl, Nat.le_of_ble_eq_true rfl⟩, rfl, rfl⟩ 0 rfl rfl [0, 1, 2, 3, 4, 5, 6, 7, 8, 9, 10, 11] rfl rfl rfl (by decide) rfl (Nat.le_of_ble_eq_true rfl) rfl (fun _ => rfl) dX4_digest_15 rfl (fun r15 hf => ?_)
        refine j_i2l (pc' := 19) hX dX4_digest_18 rfl ?_
        refine j_callSR (pc' := 22) (As := [.long x1_6, .long r15.toInt64]) (rest := []) (stk := fun r19 => [.long r19]) hX (fun l => met_X4_mixed l g x1_6 r15.toInt64 _ hf) rfl gX4_digest_X4_mixed yoX4_mixed rfl ⟨Nat.le_of_ble_eq_true rfl, Nat.le_of_ble_eq_true rfl⟩ ⟨⟨Nat.le_of_ble_eq_true rfl, Nat.le_of_ble_eq_true rfl⟩, rfl, rfl⟩ [] rfl (by decide) (Nat.le_of_ble_eq_true rfl) rfl (fun _ => rfl) dX4_digest_19 rfl (fun r19 hf => ?_)
        refine j_lstore_n (pc' := 23) (lv' := [(1, .long r19), (0, .ref (pa 0)), (3, .int x3_6)]) hX dX4_digest_22 rfl (by decide) rfl rfl ?_
        refine j_iinc (pc' := 26) (cst := 1) (v := (x3_6 + 1)) (lv' := [(3, .int (x3_6 + 1)), (1, .long r19), (0, .ref (pa 0))]) hX dX4_digest_23 (by decide) rfl 2 rfl (by decide) rfl rfl ?_
        refine j_goto (tgt := 6) hX dX4_digest_26 (by decide) ?_
        refine J_sub (lv' := [(0, .ref (pa 0)), (1, .long r19), (3, .int (x3_6 + 1))]) [2, 1, 0] rfl ?_
        exact ih6 r19 (x3_6 + 1) hf
  refine J_sub (lv' := [(0, .ref (pa 0)), (1, .long 2903), (3, .int 0)]) [2, 1, 0] rfl ?_
  refine L6 _ (fun e1 hf => ?_) N6 2903 0 hf
  refine j_iconst (pc' := 30) (v := 0) hX dX4_digest_29 (by decide) rfl ?_
  refine j_istore_n (pc' := 31) (lv' := [(3, .int 0), (0, .ref (pa 0)), (1, .long e1)]) hX dX4_digest_30 rfl (by decide) rfl rfl ?_
  obtain ⟨N31, hf⟩ := hf
  have L31 : ∀ (K31_56 : Int64 → Prop), (∀ (x1_31 : Int64), K31_56 x1_31 → J g X 0 0 ((PcB g pa vp).flatten) [(0, .ref (pa 0)), (1, .long x1_31)] [] 56) → ∀ (N31 : Nat) (x1_31 : Int64) (x3_31 : Int32), wp_X4_digest_L31 vp K31_56 N31 x1_31 x3_31 → J g X 0 0 ((PcB g pa vp).flatten) [(0, .ref (pa 0)), (1, .long x1_31), (3, .int x3_31)] [] 31 := by
    intro K31_56 hK31_56 N31
    induction N31 with
    | zero => intro x1_31 x3_31 hf; exact False.elim hf
    | succ N31 ih31 =>
      intro x1_31 x3_31 hf
      refine j_iload_n (pc' := 32) hX dX4_digest_31 rfl 2 rfl rfl ?_
      refine j_iconst (pc' := 33) (v := 3) hX dX4_digest_32 (by decide) rfl ?_
      refine j_icmp_ge (tgt := 56) (pc' := 36) hX dX4_digest_33 (by decide) rfl hf (fun hf => ?_) (fun hf => ?_)
      · refine J_sub (lv' := [(0, .ref (pa 0)), (1, .long x1_31)]) [0, 1] rfl ?_
        exact hK31_56 x1_31 hf
      · refine j_lload_n (pc' := 37) hX dX4_digest_36 rfl 1 rfl rfl ?_
        refine j_aload_n (pc' := 38) hX dX4_digest_37 rfl 0 rfl rfl ?_
        refine j_get (ci := 4) (pc' := 41) hX hin4 rfl 0 rfl 0 (by decide) hl_10 rfl dX4_digest_38 rfl ?_
        refine j_iload_n (pc' := 42) hX dX4_digest_41 rfl 2 rfl rfl ?_
        refine j_callVRb (ci := 2) (nb := 12) (pc' := 45) (As := [.int x3_31]) (rest := [.long x1_31]) (stk := fun r42 => [.int r42, .long x1_31]) (bs := (PcB g pa vp)) (cs := ([(MoW g (pa 1) (pa 2) (pa 3) (pa 4) (pa 5) (vp.1))])) (rs := (List.map (fun i : Nat => List.getD (PcB g pa vp) i []) [0, 2, 3, 4, 5, 6, 7, 8, 9, 10, 11])) hX (fun l => met_X2_settingOf l g (pa 1) (pa 2) (pa 3) (pa 4) (pa 5) vp.1 x3_31 _ hf) rfl gX4_digest_X2_settingOf yoX2_settingOf rfl ⟨Nat.le_of_ble_eq_true rfl, Nat.le_of_ble_eq_true rfl⟩ ⟨⟨Nat.le_of_ble_eq_true rfl, Nat.le_of_ble_eq_true rfl⟩, rfl, rfl⟩ 0 rfl rfl [0, 2, 3, 4, 5, 6, 7, 8, 9, 10, 11, 1] rfl rfl rfl (by decide) rfl (Nat.le_of_ble_eq_true rfl) rfl (fun _ => rfl) dX4_digest_42 rfl (fun r42 hf => ?_)
        refine j_i2l (pc' := 46) hX dX4_digest_45 rfl ?_
        refine j_callSR (pc' := 49) (As := [.long x1_31, .long r42.toInt64]) (rest := []) (stk := fun r46 => [.long r46]) hX (fun l => met_X4_mixed l g x1_31 r42.toInt64 _ hf) rfl gX4_digest_X4_mixed yoX4_mixed rfl ⟨Nat.le_of_ble_eq_true rfl, Nat.le_of_ble_eq_true rfl⟩ ⟨⟨Nat.le_of_ble_eq_true rfl, Nat.le_of_ble_eq_true rfl⟩, rfl, rfl⟩ [] rfl (by decide) (Nat.le_of_ble_eq_true rfl) rfl (fun _ => rfl) dX4_digest_46 rfl (fun r46 hf => ?_)
        refine j_lstore_n (pc' := 50) (lv' := [(1, .long r46), (0, .ref (pa 0)), (3, .int x3_31)]) hX dX4_digest_49 rfl (by decide) rfl rfl ?_
        refine j_iinc (pc' := 53) (cst := 1) (v := (x3_31 + 1)) (lv' := [(3, .int (x3_31 + 1)), (1, .long r46), (0, .ref (pa 0))]) hX dX4_digest_50 (by decide) rfl 2 rfl (by decide) rfl rfl ?_
        refine j_goto (tgt := 31) hX dX4_digest_53 (by decide) ?_
        refine J_sub (lv' := [(0, .ref (pa 0)), (1, .long r46), (3, .int (x3_31 + 1))]) [2, 1, 0] rfl ?_
        exact ih31 r46 (x3_31 + 1) hf
  refine J_sub (lv' := [(0, .ref (pa 0)), (1, .long e1), (3, .int 0)]) [1, 2, 0] rfl ?_
  refine L31 _ (fun e2 hf => ?_) N31 e1 0 hf
  refine j_iconst (pc' := 57) (v := 1) hX dX4_digest_56 (by decide) rfl ?_
  refine j_istore_n (pc' := 58) (lv' := [(3, .int 1), (0, .ref (pa 0)), (1, .long e2)]) hX dX4_digest_57 rfl (by decide) rfl rfl ?_
  obtain ⟨N58, hf⟩ := hf
  have L58 : ∀ (K58_84 : Int64 → Prop), (∀ (x1_58 : Int64), K58_84 x1_58 → J g X 0 0 ((PcB g pa vp).flatten) [(0, .ref (pa 0)), (1, .long x1_58)] [] 84) → ∀ (N58 : Nat) (x1_58 : Int64) (x3_58 : Int32), wp_X4_digest_L58 vp K58_84 N58 x1_58 x3_58 → J g X 0 0 ((PcB g pa vp).flatten) [(0, .ref (pa 0)), (1, .long x1_58), (3, .int x3_58)] [] 58 := by
    intro K58_84 hK58_84 N58
    induction N58 with
    | zero => intro x1_58 x3_58 hf; exact False.elim hf
    | succ N58 ih58 =>
      intro x1_58 x3_58 hf
      refine j_iload_n (pc' := 59) hX dX4_digest_58 rfl 2 rfl rfl ?_
      refine j_bipush (pc' := 61) (v := 6) hX dX4_digest_59 (by decide) rfl ?_
      refine j_icmp_gt (tgt := 84) (pc' := 64) hX dX4_digest_61 (by decide) rfl hf (fun hf => ?_) (fun hf => ?_)
      · refine J_sub (lv' := [(0, .ref (pa 0)), (1, .long x1_58)]) [0, 1] rfl ?_
        exact hK58_84 x1_58 hf
      · refine j_lload_n (pc' := 65) hX dX4_digest_64 rfl 1 rfl rfl ?_
        refine j_aload_n (pc' := 66) hX dX4_digest_65 rfl 0 rfl rfl ?_
        refine j_get (ci := 4) (pc' := 69) hX hin4 rfl 0 rfl 0 (by decide) hl_10 rfl dX4_digest_66 rfl ?_
        refine j_iload_n (pc' := 70) hX dX4_digest_69 rfl 2 rfl rfl ?_
        refine j_callVRb (ci := 2) (nb := 12) (pc' := 73) (As := [.int x3_58]) (rest := [.long x1_58]) (stk := fun r70 => [.int r70, .long x1_58]) (bs := (PcB g pa vp)) (cs := ([(MoW g (pa 1) (pa 2) (pa 3) (pa 4) (pa 5) (vp.1))])) (rs := (List.map (fun i : Nat => List.getD (PcB g pa vp) i []) [0, 2, 3, 4, 5, 6, 7, 8, 9, 10, 11])) hX (fun l => met_X2_inStock l g (pa 1) (pa 2) (pa 3) (pa 4) (pa 5) vp.1 x3_58 _ hf) rfl gX4_digest_X2_inStock yoX2_inStock rfl ⟨Nat.le_of_ble_eq_true rfl, Nat.le_of_ble_eq_true rfl⟩ ⟨⟨Nat.le_of_ble_eq_true rfl, Nat.le_of_ble_eq_true rfl⟩, rfl, rfl⟩ 0 rfl rfl [0, 2, 3, 4, 5, 6, 7, 8, 9, 10, 11, 1] rfl rfl rfl (by decide) rfl (Nat.le_of_ble_eq_true rfl) rfl (fun _ => rfl) dX4_digest_70 rfl (fun r70 hf => ?_)
        refine j_i2l (pc' := 74) hX dX4_digest_73 rfl ?_
        refine j_callSR (pc' := 77) (As := [.long x1_58, .long r70.toInt64]) (rest := []) (stk := fun r74 => [.long r74]) hX (fun l => met_X4_mixed l g x1_58 r70.toInt64 _ hf) rfl gX4_digest_X4_mixed yoX4_mixed rfl ⟨Nat.le_of_ble_eq_true rfl, Nat.le_of_ble_eq_true rfl⟩ ⟨⟨Nat.le_of_ble_eq_true rfl, Nat.le_of_ble_eq_true rfl⟩, rfl, rfl⟩ [] rfl (by decide) (Nat.le_of_ble_eq_true rfl) rfl (fun _ => rfl) dX4_digest_74 rfl (fun r74 hf => ?_)
        refine j_lstore_n (pc' := 78) (lv' := [(1, .long r74), (0, .ref (pa 0)), (3, .int x3_58)]) hX dX4_digest_77 rfl (by decide) rfl rfl ?_
        refine j_iinc (pc' := 81) (cst := 1) (v := (x3_58 + 1)) (lv' := [(3, .int (x3_58 + 1)), (1, .long r74), (0, .ref (pa 0))]) hX dX4_digest_78 (by decide) rfl 2 rfl (by decide) rfl rfl ?_
        refine j_goto (tgt := 58) hX dX4_digest_81 (by decide) ?_
        refine J_sub (lv' := [(0, .ref (pa 0)), (1, .long r74), (3, .int (x3_58 + 1))]) [2, 1, 0] rfl ?_
        exact ih58 r74 (x3_58 + 1) hf
  refine J_sub (lv' := [(0, .ref (pa 0)), (1, .long e2), (3, .int 1)]) [1, 2, 0] rfl ?_
  refine L58 _ (fun e3 hf => ?_) N58 e2 1 hf
  refine j_iconst (pc' := 85) (v := 0) hX dX4_digest_84 (by decide) rfl ?_
  refine j_istore_n (pc' := 86) (lv' := [(3, .int 0), (0, .ref (pa 0)), (1, .long e3)]) hX dX4_digest_85 rfl (by decide) rfl rfl ?_
  obtain ⟨N86, hf⟩ := hf
  have L86 : ∀ (K86_105 : Int64 → Pc → Prop), (∀ (x1_86 : Int64) (vp_86 : Pc), K86_105 x1_86 vp_86 → J g X 0 0 ((PcB g pa vp_86).flatten) [(0, .ref (pa 0)), (1, .long x1_86)] [] 105) → ∀ (N86 : Nat) (x1_86 : Int64) (x3_86 : Int32) (vp_86 : Pc), wp_X4_digest_L86 K86_105 N86 x1_86 x3_86 vp_86 → J g X 0 0 ((PcB g pa vp_86).flatten) [(0, .ref (pa 0)), (1, .long x1_86), (3, .int x3_86)] [] 86 := by
    intro K86_105 hK86_105 N86
    induction N86 with
    | zero => intro x1_86 x3_86 vp_86 hf; exact False.elim hf
    | succ N86 ih86 =>
      intro x1_86 x3_86 vp_86 hf
      refine j_iload_n (pc' := 87) hX dX4_digest_86 rfl 2 rfl rfl ?_
      refine j_bipush (pc' := 89) (v := 6) hX dX4_digest_87 (by decide) rfl ?_
      refine j_icmp_ge (tgt := 105) (pc' := 92) hX dX4_digest_89 (by decide) rfl hf (fun hf => ?_) (fun hf => ?_)
      · refine J_sub (lv' := [(0, .ref (pa 0)), (1, .long x1_86)]) [0, 1] rfl ?_
        exact hK86_105 x1_86 vp_86 hf
      · refine j_aload_n (pc' := 93) hX dX4_digest_92 rfl 0 rfl rfl ?_
        refine j_lload_n (pc' := 94) hX dX4_digest_93 rfl 1 rfl rfl ?_
        refine j_iload_n (pc' := 95) hX dX4_digest_94 rfl 2 rfl rfl ?_
        refine j_callVMb (ci := 4) (nb := 12) (pc' := 98) (k' := 0) (n' := 0) (As := [.long x1_86, .int x3_86]) (rest := []) (stk := fun r95 => [.long r95]) (bs := (PcB g pa vp_86)) (cs := (PcB g pa vp_86)) (rs := ([] : List va_W)) (ws' := fun u95_4 => ((PcB g pa u95_4).flatten)) (bs' := fun u95_4 => (PcB g pa u95_4)) (d1 := fun u95_4 => (PcB g pa u95_4)) hX hW (fun l => met_X4_mixedWithCourse l g pa vp_86 x1_86 x3_86 _ hf) rfl gX4_digest_X4_mixedWithCourse yoX4_mixedWithCourse rfl ⟨Nat.le_of_ble_eq_true rfl, Nat.le_of_ble_eq_true rfl⟩ ⟨Nat.le_of_ble_eq_true rfl, Nat.le_of_ble_eq_true rfl, Nat.le_of_ble_eq_true rfl, Nat.le_of_ble_eq_true rfl⟩ 0 rfl rfl [0, 1, 2, 3, 4, 5, 6, 7, 8, 9, 10, 11] rfl rfl rfl (by decide) rfl (fun _ => rfl) (fun _ => rfl) (fun _ => rfl) (fun _ => rfl) (Nat.le_of_ble_eq_true rfl) rfl (fun _ => rfl) dX4_digest_95 rfl (fun r95 u95_4 hf => ?_)
        refine j_lstore_n (pc' := 99) (lv' := [(1, .long r95), (0, .ref (pa 0)), (3, .int x3_86)]) hX dX4_digest_98 rfl (by decide) rfl rfl ?_
        refine j_iinc (pc' := 102) (cst := 1) (v := (x3_86 + 1)) (lv' := [(3, .int (x3_86 + 1)), (1, .long r95), (0, .ref (pa 0))]) hX dX4_digest_99 (by decide) rfl 2 rfl (by decide) rfl rfl ?_
        refine j_goto (tgt := 86) hX dX4_digest_102 (by decide) ?_
        refine J_sub (lv' := [(0, .ref (pa 0)), (1, .long r95), (3, .int (x3_86 + 1))]) [2, 1, 0] rfl ?_
        exact ih86 r95 (x3_86 + 1) u95_4 hf
  refine J_sub (lv' := [(0, .ref (pa 0)), (1, .long e3), (3, .int 0)]) [1, 2, 0] rfl ?_
  refine L86 _ (fun e5 e6 hf => ?_) N86 e3 0 vp hf
  refine j_lload_n (pc' := 106) hX dX4_digest_105 rfl 1 rfl rfl ?_
  refine j_aload_n (pc' := 107) hX dX4_digest_106 rfl 0 rfl rfl ?_
  refine j_callVMb (ci := 4) (nb := 12) (pc' := 110) (k' := 0) (n' := 0) (As := []) (rest := [.long e5]) (stk := fun r107 => [.int r107, .long e5]) (bs := (PcB g pa e6)) (cs := (PcB g pa e6)) (rs := ([] : List va_W)) (ws' := fun u107_7 => ((PcB g pa u107_7).flatten)) (bs' := fun u107_7 => (PcB g pa u107_7)) (d1 := fun u107_7 => (PcB g pa u107_7)) hX hW (fun l => met_X4_bestRule l g pa e6 _ hf) rfl gX4_digest_X4_bestRule yoX4_bestRule rfl ⟨Nat.le_of_ble_eq_true rfl, Nat.le_of_ble_eq_true rfl⟩ ⟨Nat.le_of_ble_eq_true rfl, Nat.le_of_ble_eq_true rfl, Nat.le_of_ble_eq_true rfl, Nat.le_of_ble_eq_true rfl⟩ 0 rfl rfl [0, 1, 2, 3, 4, 5, 6, 7, 8, 9, 10, 11] rfl rfl rfl (by decide) rfl (fun _ => rfl) (fun _ => rfl) (fun _ => rfl) (fun _ => rfl) (Nat.le_of_ble_eq_true rfl) rfl (fun _ => rfl) dX4_digest_107 rfl (fun r107 u107_7 hf => ?_)
  refine j_i2l (pc' := 111) hX dX4_digest_110 rfl ?_
  refine j_callSR (pc' := 114) (As := [.long e5, .long r107.toInt64]) (rest := []) (stk := fun r111 => [.long r111]) hX (fun l => met_X4_mixed l g e5 r107.toInt64 _ hf) rfl gX4_digest_X4_mixed yoX4_mixed rfl ⟨Nat.le_of_ble_eq_true rfl, Nat.le_of_ble_eq_true rfl⟩ ⟨⟨Nat.le_of_ble_eq_true rfl, Nat.le_of_ble_eq_true rfl⟩, rfl, rfl⟩ [] rfl (by decide) (Nat.le_of_ble_eq_true rfl) rfl (fun _ => rfl) dX4_digest_111 rfl (fun r111 hf => ?_)
  refine j_lstore_n (pc' := 115) (lv' := [(1, .long r111), (0, .ref (pa 0))]) hX dX4_digest_114 rfl (by decide) rfl rfl ?_
  refine j_lload_n (pc' := 116) hX dX4_digest_115 rfl 0 rfl rfl ?_
  refine j_aload_n (pc' := 117) hX dX4_digest_116 rfl 1 rfl rfl ?_
  refine j_callVRb (ci := 4) (nb := 12) (pc' := 120) (As := []) (rest := [.long r111]) (stk := fun r117 => [.double r117, .long r111]) (bs := (PcB g pa u107_7)) (cs := (PcB g pa u107_7)) (rs := ([] : List va_W)) hX (fun l => met_X4_share l g pa u107_7 _ hf) rfl gX4_digest_X4_share yoX4_share rfl ⟨Nat.le_of_ble_eq_true rfl, Nat.le_of_ble_eq_true rfl⟩ ⟨⟨Nat.le_of_ble_eq_true rfl, Nat.le_of_ble_eq_true rfl⟩, rfl, rfl⟩ 0 rfl rfl [0, 1, 2, 3, 4, 5, 6, 7, 8, 9, 10, 11] rfl rfl rfl (by decide) rfl (Nat.le_of_ble_eq_true rfl) rfl (fun _ => rfl) dX4_digest_117 rfl (fun r117 hf => ?_)
  refine j_callSR (pc' := 123) (As := [.double r117]) (rest := [.long r111]) (stk := fun r120 => [.long r120, .long r111]) hX (fun l => met_X4_bitsOf l g r117 _ hf) rfl gX4_digest_X4_bitsOf yoX4_bitsOf rfl ⟨Nat.le_of_ble_eq_true rfl, Nat.le_of_ble_eq_true rfl⟩ ⟨⟨Nat.le_of_ble_eq_true rfl, Nat.le_of_ble_eq_true rfl⟩, rfl, rfl⟩ [] rfl (by decide) (Nat.le_of_ble_eq_true rfl) rfl (fun _ => rfl) dX4_digest_120 rfl (fun r120 hf => ?_)
  refine j_callSR (pc' := 126) (As := [.long r111, .long r120]) (rest := []) (stk := fun r123 => [.long r123]) hX (fun l => met_X4_mixed l g r111 r120 _ hf) rfl gX4_digest_X4_mixed yoX4_mixed rfl ⟨Nat.le_of_ble_eq_true rfl, Nat.le_of_ble_eq_true rfl⟩ ⟨⟨Nat.le_of_ble_eq_true rfl, Nat.le_of_ble_eq_true rfl⟩, rfl, rfl⟩ [] rfl (by decide) (Nat.le_of_ble_eq_true rfl) rfl (fun _ => rfl) dX4_digest_123 rfl (fun r123 hf => ?_)
  refine j_lstore_n (pc' := 127) (lv' := [(1, .long r123), (0, .ref (pa 0))]) hX dX4_digest_126 rfl (by decide) rfl rfl ?_
  refine j_aload_n (pc' := 128) hX dX4_digest_127 rfl 1 rfl rfl ?_
  refine j_get (ci := 4) (pc' := 131) hX hin4 rfl 0 rfl 4 (by decide) hl_36 rfl dX4_digest_128 rfl ?_
  refine j_callVRb (ci := 3) (nb := 12) (pc' := 134) (As := []) (rest := []) (stk := fun r131 => [.int r131]) (bs := (PcB g pa u107_7)) (cs := ([(TxW g (pa 45) (pa 46) (u107_7.2.2.2.2))])) (rs := (List.map (fun i : Nat => List.getD (PcB g pa u107_7) i []) [0, 1, 2, 3, 4, 5, 6, 7, 8, 9, 10])) hX (fun l => met_X3_length l g (pa 45) (pa 46) u107_7.2.2.2.2 _ hf) rfl gX4_digest_X3_length yoX3_length rfl ⟨Nat.le_of_ble_eq_true rfl, Nat.le_of_ble_eq_true rfl⟩ ⟨⟨Nat.le_of_ble_eq_true rfl, Nat.le_of_ble_eq_true rfl⟩, rfl, rfl⟩ 0 rfl rfl [0, 1, 2, 3, 4, 5, 6, 7, 8, 9, 10, 11] rfl rfl rfl (by decide) rfl (Nat.le_of_ble_eq_true rfl) rfl (fun _ => rfl) dX4_digest_131 rfl (fun r131 hf => ?_)
  refine j_istore_n (pc' := 135) (lv' := [(3, .int r131), (1, .long r123), (0, .ref (pa 0))]) hX dX4_digest_134 rfl (by decide) rfl rfl ?_
  refine j_lload_n (pc' := 136) hX dX4_digest_135 rfl 1 rfl rfl ?_
  refine j_iload_n (pc' := 137) hX dX4_digest_136 rfl 0 rfl rfl ?_
  refine j_i2l (pc' := 138) hX dX4_digest_137 rfl ?_
  refine j_callSR (pc' := 141) (As := [.long r123, .long r131.toInt64]) (rest := []) (stk := fun r138 => [.long r138]) hX (fun l => met_X4_mixed l g r123 r131.toInt64 _ hf) rfl gX4_digest_X4_mixed yoX4_mixed rfl ⟨Nat.le_of_ble_eq_true rfl, Nat.le_of_ble_eq_true rfl⟩ ⟨⟨Nat.le_of_ble_eq_true rfl, Nat.le_of_ble_eq_true rfl⟩, rfl, rfl⟩ [] rfl (by decide) (Nat.le_of_ble_eq_true rfl) rfl (fun _ => rfl) dX4_digest_138 rfl (fun r138 hf => ?_)
  refine j_lstore_n (pc' := 142) (lv' := [(1, .long r138), (3, .int r131), (0, .ref (pa 0))]) hX dX4_digest_141 rfl (by decide) rfl rfl ?_
  refine j_iconst (pc' := 143) (v := 0) hX dX4_digest_142 (by decide) rfl ?_
  refine j_istore (pc' := 145) (lv' := [(4, .int 0), (1, .long r138), (3, .int r131), (0, .ref (pa 0))]) hX dX4_digest_143 (by decide) rfl rfl ?_
  obtain ⟨N145, hf⟩ := hf
  have L145 : ∀ (K145_172 : Int64 → Prop), (∀ (x1_145 : Int64), K145_172 x1_145 → J g X 0 0 ((PcB g pa u107_7).flatten) [(1, .long x1_145)] [] 172) → ∀ (N145 : Nat) (x1_145 : Int64) (x4_145 : Int32), wp_X4_digest_L145 u107_7 r131 K145_172 N145 x1_145 x4_145 → J g X 0 0 ((PcB g pa u107_7).flatten) [(0, .ref (pa 0)), (1, .long x1_145), (3, .int r131), (4, .int x4_145)] [] 145 := by
    intro K145_172 hK145_172 N145
    induction N145 with
    | zero => intro x1_145 x4_145 hf; exact False.elim hf
    | succ N145 ih145 =>
      intro x1_145 x4_145 hf
      refine j_iload (pc' := 147) hX dX4_digest_145 3 rfl rfl ?_
      refine j_iload_n (pc' := 148) hX dX4_digest_147 rfl 2 rfl rfl ?_
      refine j_icmp_ge (tgt := 172) (pc' := 151) hX dX4_digest_148 (by decide) rfl hf (fun hf => ?_) (fun hf => ?_)
      · refine J_sub (lv' := [(1, .long x1_145)]) [1] rfl ?_
        exact hK145_172 x1_145 hf
      · refine j_lload_n (pc' := 152) hX dX4_digest_151 rfl 1 rfl rfl ?_
        refine j_aload_n (pc' := 153) hX dX4_digest_152 rfl 0 rfl rfl ?_
        refine j_get (ci := 4) (pc' := 156) hX hin4 rfl 0 rfl 4 (by decide) hl_36 rfl dX4_digest_153 rfl ?_
        refine j_iload (pc' := 158) hX dX4_digest_156 3 rfl rfl ?_
        refine j_callVRb (ci := 3) (nb := 12) (pc' := 161) (As := [.int x4_145]) (rest := [.long x1_145]) (stk := fun r158 => [.int r158, .long x1_145]) (bs := (PcB g pa u107_7)) (cs := ([(TxW g (pa 45) (pa 46) (u107_7.2.2.2.2))])) (rs := (List.map (fun i : Nat => List.getD (PcB g pa u107_7) i []) [0, 1, 2, 3, 4, 5, 6, 7, 8, 9, 10])) hX (fun l => met_X3_signAt l g (pa 45) (pa 46) u107_7.2.2.2.2 x4_145 _ hf) rfl gX4_digest_X3_signAt yoX3_signAt rfl ⟨Nat.le_of_ble_eq_true rfl, Nat.le_of_ble_eq_true rfl⟩ ⟨⟨Nat.le_of_ble_eq_true rfl, Nat.le_of_ble_eq_true rfl⟩, rfl, rfl⟩ 0 rfl rfl [0, 1, 2, 3, 4, 5, 6, 7, 8, 9, 10, 11] rfl rfl rfl (by decide) rfl (Nat.le_of_ble_eq_true rfl) rfl (fun _ => rfl) dX4_digest_158 rfl (fun r158 hf => ?_)
        refine j_i2l (pc' := 162) hX dX4_digest_161 rfl ?_
        refine j_callSR (pc' := 165) (As := [.long x1_145, .long r158.toInt64]) (rest := []) (stk := fun r162 => [.long r162]) hX (fun l => met_X4_mixed l g x1_145 r158.toInt64 _ hf) rfl gX4_digest_X4_mixed yoX4_mixed rfl ⟨Nat.le_of_ble_eq_true rfl, Nat.le_of_ble_eq_true rfl⟩ ⟨⟨Nat.le_of_ble_eq_true rfl, Nat.le_of_ble_eq_true rfl⟩, rfl, rfl⟩ [] rfl (by decide) (Nat.le_of_ble_eq_true rfl) rfl (fun _ => rfl) dX4_digest_162 rfl (fun r162 hf => ?_)
        refine j_lstore_n (pc' := 166) (lv' := [(1, .long r162), (0, .ref (pa 0)), (3, .int r131), (4, .int x4_145)]) hX dX4_digest_165 rfl (by decide) rfl rfl ?_
        refine j_iinc (pc' := 169) (cst := 1) (v := (x4_145 + 1)) (lv' := [(4, .int (x4_145 + 1)), (1, .long r162), (0, .ref (pa 0)), (3, .int r131)]) hX dX4_digest_166 (by decide) rfl 3 rfl (by decide) rfl rfl ?_
        refine j_goto (tgt := 145) hX dX4_digest_169 (by decide) ?_
        refine J_sub (lv' := [(0, .ref (pa 0)), (1, .long r162), (3, .int r131), (4, .int (x4_145 + 1))]) [2, 1, 3, 0] rfl ?_
        exact ih145 r162 (x4_145 + 1) hf
  refine J_sub (lv' := [(0, .ref (pa 0)), (1, .long r138), (3, .int r131), (4, .int 0)]) [3, 1, 2, 0] rfl ?_
  refine L145 _ (fun e8 hf => ?_) N145 r138 0 hf
  refine j_lload_n (pc' := 173) hX dX4_digest_172 rfl 0 rfl rfl ?_
  exact j_lret hX hR dX4_digest_173 ⟨_, _, rfl, hf, rfl⟩
