def wp_X0_pebblesFrom (vc : Cl) (p0 : Int32) (post : Int32 → Prop) : Prop :=
  ((p0 < 0 → post (-1)) ∧ (¬ p0 < 0 → ((61 ≤ p0 → post (-1)) ∧ (¬ 61 ≤ p0 → (vp_in p0 61 ∧ post (vc.1 p0.toNatClampNeg))))))
theorem yoX0_pebblesFrom : yOk yX0_pebblesFrom 1 := by decide +kernel
set_option maxHeartbeats 4000000 in
set_option maxRecDepth 100000 in
theorem met_X0_pebblesFrom (l : Launch) (g : JG) (c0 : Nat) (c1 : Nat) (vc : Cl) (p0 : Int32) (post : Int32 → Prop) (hf : wp_X0_pebblesFrom vc p0 post) : MetR l yX0_pebblesFrom wsX0_pebblesFrom ({ frames := 0, cells := 0, slots := 0, locals := 0 } : Room) [.ref c0, .int p0] g (ClW g c0 c1 vc) mkI post := by
  have hin0 : ∀ w ∈ u_ws RX0 TX0 3, w ∈ wsX0_pebblesFrom := by decide +kernel
  have hl_9 : Cond.fieldLink RX0 9 (TX0 0).1 (TX0 0).2.1 (TX0 0).2.2.1 ∈ wsX0_pebblesFrom := by decide +kernel
  refine enterR (own := RX0) (cc := cX0_pebblesFrom) (nL := 2) (ret := (some .int)) (lv := [(0, .ref c0), (1, .int p0)]) (by decide) rfl rfl (Nat.le_of_ble_eq_true rfl) rfl (fun X hX hR => ?_)
  unfold wp_X0_pebblesFrom at hf
  refine j_iload_n (pc' := 1) hX dX0_pebblesFrom_0 rfl 1 rfl rfl ?_
  refine j_if_lt (tgt := 22) (pc' := 4) hX dX0_pebblesFrom_1 (by decide) rfl hf (fun hf => ?_) (fun hf => ?_)
  · refine j_iconst (pc' := 23) (v := (-1)) hX dX0_pebblesFrom_22 (by decide) rfl ?_
    exact j_iret hX hR dX0_pebblesFrom_23 ⟨_, rfl, hf⟩
  · refine j_iload_n (pc' := 5) hX dX0_pebblesFrom_4 rfl 1 rfl rfl ?_
    refine j_aload_n (pc' := 6) hX dX0_pebblesFrom_5 rfl 0 rfl rfl ?_
    refine j_get (ci := 0) (pc' := 9) hX hin0 rfl 0 rfl 0 (by decide) hl_9 rfl dX0_pebblesFrom_6 rfl ?_
    refine j_alen (v := 61) (pc' := 10) hX 1 0 rfl rfl (show Int32.ofNat 61 = 61 from by decide) dX0_pebblesFrom_9 rfl ?_
    refine j_icmp_ge (tgt := 22) (pc' := 13) hX dX0_pebblesFrom_10 (by decide) rfl hf (fun hf => ?_) (fun hf => ?_)
    · refine j_iconst (pc' := 23) (v := (-1)) hX dX0_pebblesFrom_22 (by decide) rfl ?_
      exact j_iret hX hR dX0_pebblesFrom_23 ⟨_, rfl, hf⟩
    · refine j_aload_n (pc' := 14) hX dX0_pebblesFrom_13 rfl 0 rfl rfl ?_
      refine j_get (ci := 0) (pc' := 17) hX hin0 rfl 0 rfl 0 (by decide) hl_9 rfl dX0_pebblesFrom_14 rfl ?_
      refine j_iload_n (pc' := 18) hX dX0_pebblesFrom_17 rfl 1 rfl rfl ?_
      refine j_iald (pc' := 19) hX 1 rfl dX0_pebblesFrom_18 hf rfl (fun hf => ?_)
      refine j_goto (tgt := 23) hX dX0_pebblesFrom_19 (by decide) ?_
      exact j_iret hX hR dX0_pebblesFrom_23 ⟨_, rfl, hf⟩
def wp_X0_bestSize_L5 (vc : Cl) (p0 : Int32) (p1 : Int32) (K5_62 : Int32 → Prop) : Nat → Int32 → Int32 → Prop
  | 0, _, _ => False
  | N5 + 1, x3_5, x4_5 =>
  ((6 < x4_5 → K5_62 x3_5) ∧ (¬ 6 < x4_5 → (((p1 - p0) < x4_5 → K5_62 x3_5) ∧ (¬ (p1 - p0) < x4_5 → (wp_X0_pebblesFrom vc (p0 + x4_5) (fun r25 => ((r25 = (-1) → (wp_X0_bestSize_L5 vc p0 p1 K5_62 N5) x3_5 (x4_5 + 1)) ∧ (¬ r25 = (-1) → ((x3_5 = (-1) → (wp_X0_bestSize_L5 vc p0 p1 K5_62 N5) x4_5 (x4_5 + 1)) ∧ (¬ x3_5 = (-1) → (wp_X0_pebblesFrom vc (p0 + x3_5) (fun r47 => ((r47 < r25 → (wp_X0_bestSize_L5 vc p0 p1 K5_62 N5) x3_5 (x4_5 + 1)) ∧ (¬ r47 < r25 → (wp_X0_bestSize_L5 vc p0 p1 K5_62 N5) x4_5 (x4_5 + 1)))))))))))))))
def wp_X0_bestSize (vc : Cl) (p0 : Int32) (p1 : Int32) (post : Int32 → Prop) : Prop :=
  (∃ N : Nat, wp_X0_bestSize_L5 vc p0 p1 (fun (e1 : Int32) => post e1) N (-1) 1)
theorem yoX0_bestSize : yOk yX0_bestSize 2 := by decide +kernel
set_option maxHeartbeats 4000000 in
set_option maxRecDepth 100000 in
theorem met_X0_bestSize (l : Launch) (g : JG) (c0 : Nat) (c1 : Nat) (vc : Cl) (p0 : Int32) (p1 : Int32) (post : Int32 → Prop) (hf : wp_X0_bestSize vc p0 p1 post) : MetR l yX0_bestSize wsX0_bestSize ({ frames := 1, cells := 0, slots := 0, locals := 21 } : Room) [.ref c0, .int p0, .int p1] g (ClW g c0 c1 vc) mkI post := by
  refine enterR (own := RX0) (cc := cX0_bestSize) (nL := 6) (ret := (some .int)) (lv := [(0, .ref c0), (1, .int p0), (2, .int p1)]) (by decide) rfl rfl (Nat.le_of_ble_eq_true rfl) rfl (fun X hX hR => ?_)
  unfold wp_X0_bestSize at hf
  refine j_iconst (pc' := 1) (v := (-1)) hX dX0_bestSize_0 (by decide) rfl ?_
  refine j_istore_n (pc' := 2) (lv' := [(3, .int (-1)), (0, .ref c0), (1, .int p0), (2, .int p1)]) hX dX0_bestSize_1 rfl (by decide) rfl rfl ?_
  refine j_iconst (pc' := 3) (v := 1) hX dX0_bestSize_2 (by decide) rfl ?_
  refine j_istore (pc' := 5) (lv' := [(4, .int 1), (3, .int (-1)), (0, .ref c0), (1, .int p0), (2, .int p1)]) hX dX0_bestSize_3 (by decide) rfl rfl ?_
  obtain ⟨N5, hf⟩ := hf
  have L5 : ∀ (K5_62 : Int32 → Prop), (∀ (x3_5 : Int32), K5_62 x3_5 → J g X 0 0 (ClW g c0 c1 vc) [(3, .int x3_5)] [] 62) → ∀ (N5 : Nat) (x3_5 : Int32) (x4_5 : Int32), wp_X0_bestSize_L5 vc p0 p1 K5_62 N5 x3_5 x4_5 → J g X 0 0 (ClW g c0 c1 vc) [(0, .ref c0), (1, .int p0), (2, .int p1), (3, .int x3_5), (4, .int x4_5)] [] 5 := by
    intro K5_62 hK5_62 N5
    induction N5 with
    | zero => intro x3_5 x4_5 hf; exact False.elim hf
    | succ N5 ih5 =>
      intro x3_5 x4_5 hf
      refine j_iload (pc' := 7) hX dX0_bestSize_5 4 rfl rfl ?_
      refine j_bipush (pc' := 9) (v := 6) hX dX0_bestSize_7 (by decide) rfl ?_
      refine j_icmp_gt (tgt := 62) (pc' := 12) hX dX0_bestSize_9 (by decide) rfl hf (fun hf => ?_) (fun hf => ?_)
      · refine J_sub (lv' := [(3, .int x3_5)]) [3] rfl ?_
        exact hK5_62 x3_5 hf
      · refine j_iload (pc' := 14) hX dX0_bestSize_12 4 rfl rfl ?_
        refine j_iload_n (pc' := 15) hX dX0_bestSize_14 rfl 2 rfl rfl ?_
        refine j_iload_n (pc' := 16) hX dX0_bestSize_15 rfl 1 rfl rfl ?_
        refine j_isub (pc' := 17) hX dX0_bestSize_16 rfl ?_
        refine j_icmp_gt (tgt := 62) (pc' := 20) hX dX0_bestSize_17 (by decide) rfl hf (fun hf => ?_) (fun hf => ?_)
        · refine J_sub (lv' := [(3, .int x3_5)]) [3] rfl ?_
          exact hK5_62 x3_5 hf
        · refine j_aload_n (pc' := 21) hX dX0_bestSize_20 rfl 0 rfl rfl ?_
          refine j_iload_n (pc' := 22) hX dX0_bestSize_21 rfl 1 rfl rfl ?_
          refine j_iload (pc' := 24) hX dX0_bestSize_22 4 rfl rfl ?_
          refine j_iadd (pc' := 25) hX dX0_bestSize_24 rfl ?_
          refine j_callVR (ci := 0) (pc' := 28) (As := [.int (p0 + x4_5)]) (rest := []) (stk := fun r25 => [.int r25]) hX (fun l => met_X0_pebblesFrom l g c0 c1 vc (p0 + x4_5) _ hf) rfl gX0_bestSize_X0_pebblesFrom yoX0_pebblesFrom rfl ⟨Nat.le_of_ble_eq_true rfl, Nat.le_of_ble_eq_true rfl⟩ ⟨⟨Nat.le_of_ble_eq_true rfl, Nat.le_of_ble_eq_true rfl⟩, rfl, rfl⟩ 0 rfl rfl [0, 1] rfl (by decide) (Nat.le_of_ble_eq_true rfl) rfl (fun _ => rfl) dX0_bestSize_25 rfl (fun r25 hf => ?_)
          refine j_istore (pc' := 30) (lv' := [(5, .int r25), (0, .ref c0), (1, .int p0), (2, .int p1), (3, .int x3_5), (4, .int x4_5)]) hX dX0_bestSize_28 (by decide) rfl rfl ?_
          refine j_iload (pc' := 32) hX dX0_bestSize_30 0 rfl rfl ?_
          refine j_iconst (pc' := 33) (v := (-1)) hX dX0_bestSize_32 (by decide) rfl ?_
          refine j_icmp_eq (tgt := 56) (pc' := 36) hX dX0_bestSize_33 (by decide) rfl hf (fun hf => ?_) (fun hf => ?_)
          · refine j_iinc (pc' := 59) (cst := 1) (v := (x4_5 + 1)) (lv' := [(4, .int (x4_5 + 1)), (5, .int r25), (0, .ref c0), (1, .int p0), (2, .int p1), (3, .int x3_5)]) hX dX0_bestSize_56 (by decide) rfl 5 rfl (by decide) rfl rfl ?_
            refine j_goto (tgt := 5) hX dX0_bestSize_59 (by decide) ?_
            refine J_sub (lv' := [(0, .ref c0), (1, .int p0), (2, .int p1), (3, .int x3_5), (4, .int (x4_5 + 1))]) [2, 3, 4, 5, 0] rfl ?_
            exact ih5 x3_5 (x4_5 + 1) hf
          · refine j_iload_n (pc' := 37) hX dX0_bestSize_36 rfl 4 rfl rfl ?_
            refine j_iconst (pc' := 38) (v := (-1)) hX dX0_bestSize_37 (by decide) rfl ?_
            refine j_icmp_eq (tgt := 53) (pc' := 41) hX dX0_bestSize_38 (by decide) rfl hf (fun hf => ?_) (fun hf => ?_)
            · refine j_iload (pc' := 55) hX dX0_bestSize_53 5 rfl rfl ?_
              refine j_istore_n (pc' := 56) (lv' := [(3, .int x4_5), (5, .int r25), (0, .ref c0), (1, .int p0), (2, .int p1), (4, .int x4_5)]) hX dX0_bestSize_55 rfl (by decide) rfl rfl ?_
              refine j_iinc (pc' := 59) (cst := 1) (v := (x4_5 + 1)) (lv' := [(4, .int (x4_5 + 1)), (3, .int x4_5), (5, .int r25), (0, .ref c0), (1, .int p0), (2, .int p1)]) hX dX0_bestSize_56 (by decide) rfl 5 rfl (by decide) rfl rfl ?_
              refine j_goto (tgt := 5) hX dX0_bestSize_59 (by decide) ?_
              refine J_sub (lv' := [(0, .ref c0), (1, .int p0), (2, .int p1), (3, .int x4_5), (4, .int (x4_5 + 1))]) [3, 4, 5, 1, 0] rfl ?_
              exact ih5 x4_5 (x4_5 + 1) hf
            · refine j_iload (pc' := 43) hX dX0_bestSize_41 0 rfl rfl ?_
              refine j_aload_n (pc' := 44) hX dX0_bestSize_43 rfl 1 rfl rfl ?_
              refine j_iload_n (pc' := 45) hX dX0_bestSize_44 rfl 2 rfl rfl ?_
              refine j_iload_n (pc' := 46) hX dX0_bestSize_45 rfl 4 rfl rfl ?_
              refine j_iadd (pc' := 47) hX dX0_bestSize_46 rfl ?_
              refine j_callVR (ci := 0) (pc' := 50) (As := [.int (p0 + x3_5)]) (rest := [.int r25]) (stk := fun r47 => [.int r47, .int r25]) hX (fun l => met_X0_pebblesFrom l g c0 c1 vc (p0 + x3_5) _ hf) rfl gX0_bestSize_X0_pebblesFrom yoX0_pebblesFrom rfl ⟨Nat.le_of_ble_eq_true rfl, Nat.le_of_ble_eq_true rfl⟩ ⟨⟨Nat.le_of_ble_eq_true rfl, Nat.le_of_ble_eq_true rfl⟩, rfl, rfl⟩ 0 rfl rfl [0, 1] rfl (by decide) (Nat.le_of_ble_eq_true rfl) rfl (fun _ => rfl) dX0_bestSize_47 rfl (fun r47 hf => ?_)
              refine j_icmp_gt (tgt := 56) (pc' := 53) hX dX0_bestSize_50 (by decide) rfl hf (fun hf => ?_) (fun hf => ?_)
              · refine j_iinc (pc' := 59) (cst := 1) (v := (x4_5 + 1)) (lv' := [(4, .int (x4_5 + 1)), (5, .int r25), (0, .ref c0), (1, .int p0), (2, .int p1), (3, .int x3_5)]) hX dX0_bestSize_56 (by decide) rfl 5 rfl (by decide) rfl rfl ?_
                refine j_goto (tgt := 5) hX dX0_bestSize_59 (by decide) ?_
                refine J_sub (lv' := [(0, .ref c0), (1, .int p0), (2, .int p1), (3, .int x3_5), (4, .int (x4_5 + 1))]) [2, 3, 4, 5, 0] rfl ?_
                exact ih5 x3_5 (x4_5 + 1) hf
              · refine j_iload (pc' := 55) hX dX0_bestSize_53 5 rfl rfl ?_
                refine j_istore_n (pc' := 56) (lv' := [(3, .int x4_5), (5, .int r25), (0, .ref c0), (1, .int p0), (2, .int p1), (4, .int x4_5)]) hX dX0_bestSize_55 rfl (by decide) rfl rfl ?_
                refine j_iinc (pc' := 59) (cst := 1) (v := (x4_5 + 1)) (lv' := [(4, .int (x4_5 + 1)), (3, .int x4_5), (5, .int r25), (0, .ref c0), (1, .int p0), (2, .int p1)]) hX dX0_bestSize_56 (by decide) rfl 5 rfl (by decide) rfl rfl ?_
                refine j_goto (tgt := 5) hX dX0_bestSize_59 (by decide) ?_
                refine J_sub (lv' := [(0, .ref c0), (1, .int p0), (2, .int p1), (3, .int x4_5), (4, .int (x4_5 + 1))]) [3, 4, 5, 1, 0] rfl ?_
                exact ih5 x4_5 (x4_5 + 1) hf
  refine J_sub (lv' := [(0, .ref c0), (1, .int p0), (2, .int p1), (3, .int (-1)), (4, .int 1)]) [2, 3, 4, 1, 0] rfl ?_
  refine L5 _ (fun e1 hf => ?_) N5 (-1) 1 hf
  refine j_iload_n (pc' := 63) hX dX0_bestSize_62 rfl 0 rfl rfl ?_
  exact j_iret hX hR dX0_bestSize_63 ⟨_, rfl, hf⟩
def wp_X0_find_L60 (vm : Mo) (p1 : Int32) (r17 : Int32) (r23 : Int32) (K60_156 : Cl → Prop) : Nat → Int32 → Cl → Prop
  | 0, _, _ => False
  | N60 + 1, x5_60, vc_60 =>
  ((x5_60 < r17 → K60_156 vc_60) ∧ (¬ x5_60 < r17 → ((x5_60 ≤ r17 → (wp_X0_bestSize vc_60 x5_60 r23 (fun r104 => (∀ vc_4 : Cl, vc_4 = cl_g vc_60 (r104) → ((vc_4.2.2 = (-1) → (∀ vc_5 : Cl, vc_5 = cl_f vc_4 ((-1)) → (vp_in x5_60 61 ∧ (∀ vc_6 : Cl, vc_6 = cl_a vc_5 (upd vc_5.1 x5_60.toNatClampNeg vc_5.2.1) → (wp_X0_find_L60 vm p1 r17 r23 K60_156 N60) (x5_60 + (-1)) vc_6)))) ∧ (¬ vc_4.2.2 = (-1) → (wp_X0_pebblesFrom vc_4 (x5_60 + vc_4.2.2) (fun r131 => (∀ vc_7 : Cl, vc_7 = cl_f vc_4 ((r131 + 1)) → (vp_in x5_60 61 ∧ (∀ vc_8 : Cl, vc_8 = cl_a vc_7 (upd vc_7.1 x5_60.toNatClampNeg vc_7.2.1) → (wp_X0_find_L60 vm p1 r17 r23 K60_156 N60) (x5_60 + (-1)) vc_8))))))))))) ∧ (¬ x5_60 ≤ r17 → (wp_X2_runsThrough vm p1 x5_60 (fun r76 => ((r76 = 0 → (wp_X0_bestSize vc_60 x5_60 r23 (fun r104 => (∀ vc_9 : Cl, vc_9 = cl_g vc_60 (r104) → ((vc_9.2.2 = (-1) → (∀ vc_10 : Cl, vc_10 = cl_f vc_9 ((-1)) → (vp_in x5_60 61 ∧ (∀ vc_11 : Cl, vc_11 = cl_a vc_10 (upd vc_10.1 x5_60.toNatClampNeg vc_10.2.1) → (wp_X0_find_L60 vm p1 r17 r23 K60_156 N60) (x5_60 + (-1)) vc_11)))) ∧ (¬ vc_9.2.2 = (-1) → (wp_X0_pebblesFrom vc_9 (x5_60 + vc_9.2.2) (fun r131 => (∀ vc_12 : Cl, vc_12 = cl_f vc_9 ((r131 + 1)) → (vp_in x5_60 61 ∧ (∀ vc_13 : Cl, vc_13 = cl_a vc_12 (upd vc_12.1 x5_60.toNatClampNeg vc_12.2.1) → (wp_X0_find_L60 vm p1 r17 r23 K60_156 N60) (x5_60 + (-1)) vc_13))))))))))) ∧ (¬ r76 = 0 → (∀ vc_14 : Cl, vc_14 = cl_g vc_60 ((-1)) → ((vc_14.2.2 = (-1) → (∀ vc_15 : Cl, vc_15 = cl_f vc_14 ((-1)) → (vp_in x5_60 61 ∧ (∀ vc_16 : Cl, vc_16 = cl_a vc_15 (upd vc_15.1 x5_60.toNatClampNeg vc_15.2.1) → (wp_X0_find_L60 vm p1 r17 r23 K60_156 N60) (x5_60 + (-1)) vc_16)))) ∧ (¬ vc_14.2.2 = (-1) → (wp_X0_pebblesFrom vc_14 (x5_60 + vc_14.2.2) (fun r131 => (∀ vc_17 : Cl, vc_17 = cl_f vc_14 ((r131 + 1)) → (vp_in x5_60 61 ∧ (∀ vc_18 : Cl, vc_18 = cl_a vc_17 (upd vc_17.1 x5_60.toNatClampNeg vc_17.2.1) → (wp_X0_find_L60 vm p1 r17 r23 K60_156 N60) (x5_60 + (-1)) vc_18))))))))))))))))
def wp_X0_find (vc : Cl) (vm : Mo) (p1 : Int32) (post : Cl → Prop) : Prop :=
  (∀ vc_1 : Cl, vc_1 = cl_f vc (0) → (∀ vc_2 : Cl, vc_2 = cl_g vc_1 ((-1)) → (wp_X2_takenOf vm p1 (fun r17 => (wp_X2_cellsOf vm p1 (fun r23 => ((r17 < 0 → post vc_2) ∧ (¬ r17 < 0 → ((60 < r23 → post vc_2) ∧ (¬ 60 < r23 → ((r17 < r23 → (vp_in r23 61 ∧ (∀ vc_3 : Cl, vc_3 = cl_a vc_2 (upd vc_2.1 r23.toNatClampNeg 0) → (∃ N : Nat, wp_X0_find_L60 vm p1 r17 r23 (fun (e19 : Cl) => post e19) N (r23 - 1) vc_3)))) ∧ (¬ r17 < r23 → post vc_2))))))))))))
theorem yoX0_find : yOk yX0_find 2 := by decide +kernel
set_option maxHeartbeats 4000000 in
set_option maxRecDepth 100000 in
theorem met_X0_find (l : Launch) (g : JG) (c0 : Nat) (c1 : Nat) (m0 : Nat) (m1 : Nat) (m2 : Nat) (m3 : Nat) (m4 : Nat) (vc : Cl) (vm : Mo) (p1 : Int32) (post : Cl → Prop) (hf : wp_X0_find vc vm p1 post) : MetM l yX0_find wsX0_find ({ frames := 2, cells := 0, slots := 0, locals := 46 } : Room) [.ref c0, .ref m0, .int p1] g ((ClW g c0 c1 vc) ++ (MoW g m0 m1 m2 m3 m4 vm)) mkV (fun (_ : Unit) (u : Cl) => post u) (fun u : Cl => ((ClW g c0 c1 u) ++ (MoW g m0 m1 m2 m3 m4 vm))) := by
  have hin0 : ∀ w ∈ u_ws RX0 TX0 3, w ∈ wsX0_find := by decide +kernel
  have hl_15 : Cond.fieldLink RX0 15 (TX0 1).1 (TX0 1).2.1 (TX0 1).2.2.1 ∈ wsX0_find := by decide +kernel
  have hl_19 : Cond.fieldLink RX0 19 (TX0 2).1 (TX0 2).2.1 (TX0 2).2.2.1 ∈ wsX0_find := by decide +kernel
  have hl_9 : Cond.fieldLink RX0 9 (TX0 0).1 (TX0 0).2.1 (TX0 0).2.2.1 ∈ wsX0_find := by decide +kernel
  refine enterM (own := RX0) (cc := cX0_find) (nL := 7) (ret := none) (lv := [(0, .ref c0), (1, .ref m0), (2, .int p1)]) (by decide) rfl rfl (Nat.le_of_ble_eq_true rfl) rfl (fun X hX hW hR => ?_)
  unfold wp_X0_find at hf
  refine j_aload_n (pc' := 1) hX dX0_find_0 rfl 0 rfl rfl ?_
  refine j_iconst (pc' := 2) (v := 0) hX dX0_find_1 (by decide) rfl ?_
  obtain ⟨vc_1, evc_1⟩ : ∃ z : Cl, z = cl_f vc (0) := ⟨_, rfl⟩
  refine j_put (ci := 0) (pc' := 5) (ws' := ((ClW g c0 c1 vc_1) ++ (MoW g m0 m1 m2 m3 m4 vm))) hX hW hin0 tyX0_ok nmX0 rfl 0 rfl 1 (by decide) hl_15 rfl rfl rfl (Nat.le_of_ble_eq_true rfl) dX0_find_2 (by subst evc_1; rfl) rfl ?_
  replace hf := hf vc_1 evc_1
  refine j_aload_n (pc' := 6) hX dX0_find_5 rfl 0 rfl rfl ?_
  refine j_iconst (pc' := 7) (v := (-1)) hX dX0_find_6 (by decide) rfl ?_
  obtain ⟨vc_2, evc_2⟩ : ∃ z : Cl, z = cl_g vc_1 ((-1)) := ⟨_, rfl⟩
  refine j_put (ci := 0) (pc' := 10) (ws' := ((ClW g c0 c1 vc_2) ++ (MoW g m0 m1 m2 m3 m4 vm))) hX hW hin0 tyX0_ok nmX0 rfl 0 rfl 2 (by decide) hl_19 rfl rfl rfl (Nat.le_of_ble_eq_true rfl) dX0_find_7 (by subst evc_2; rfl) rfl ?_
  replace hf := hf vc_2 evc_2
  refine j_aload_n (pc' := 11) hX dX0_find_10 rfl 1 rfl rfl ?_
  refine j_ifnonnull (tgt := 15) hX dX0_find_11 (by decide) ?_
  refine j_aload_n (pc' := 16) hX dX0_find_15 rfl 1 rfl rfl ?_
  refine j_iload_n (pc' := 17) hX dX0_find_16 rfl 2 rfl rfl ?_
  refine j_callVR (ci := 2) (pc' := 20) (As := [.int p1]) (rest := []) (stk := fun r17 => [.int r17]) hX (fun l => met_X2_takenOf l g m0 m1 m2 m3 m4 vm p1 _ hf) rfl gX0_find_X2_takenOf yoX2_takenOf rfl ⟨Nat.le_of_ble_eq_true rfl, Nat.le_of_ble_eq_true rfl⟩ ⟨⟨Nat.le_of_ble_eq_true rfl, Nat.le_of_ble_eq_true rfl⟩, rfl, rfl⟩ 2 rfl rfl [2, 3, 4, 5, 6] rfl (by decide) (Nat.le_of_ble_eq_true rfl) rfl (fun _ => rfl) dX0_find_17 rfl (fun r17 hf => ?_)
  refine j_istore_n (pc' := 21) (lv' := [(3, .int r17), (0, .ref c0), (1, .ref m0), (2, .int p1)]) hX dX0_find_20 rfl (by decide) rfl rfl ?_
  refine j_aload_n (pc' := 22) hX dX0_find_21 rfl 2 rfl rfl ?_
  refine j_iload_n (pc' := 23) hX dX0_find_22 rfl 3 rfl rfl ?_
  refine j_callVR (ci := 2) (pc' := 26) (As := [.int p1]) (rest := []) (stk := fun r23 => [.int r23]) hX (fun l => met_X2_cellsOf l g m0 m1 m2 m3 m4 vm p1 _ hf) rfl gX0_find_X2_cellsOf yoX2_cellsOf rfl ⟨Nat.le_of_ble_eq_true rfl, Nat.le_of_ble_eq_true rfl⟩ ⟨⟨Nat.le_of_ble_eq_true rfl, Nat.le_of_ble_eq_true rfl⟩, rfl, rfl⟩ 2 rfl rfl [2, 3, 4, 5, 6] rfl (by decide) (Nat.le_of_ble_eq_true rfl) rfl (fun _ => rfl) dX0_find_23 rfl (fun r23 hf => ?_)
  refine j_istore (pc' := 28) (lv' := [(4, .int r23), (3, .int r17), (0, .ref c0), (1, .ref m0), (2, .int p1)]) hX dX0_find_26 (by decide) rfl rfl ?_
  refine j_iload_n (pc' := 29) hX dX0_find_28 rfl 1 rfl rfl ?_
  refine j_if_lt (tgt := 45) (pc' := 32) hX dX0_find_29 (by decide) rfl hf (fun hf => ?_) (fun hf => ?_)
  · exact j_vret hX hR dX0_find_45 ⟨(), _, rfl, hf, rfl⟩
  · refine j_iload (pc' := 34) hX dX0_find_32 0 rfl rfl ?_
    refine j_bipush (pc' := 36) (v := 60) hX dX0_find_34 (by decide) rfl ?_
    refine j_icmp_gt (tgt := 45) (pc' := 39) hX dX0_find_36 (by decide) rfl hf (fun hf => ?_) (fun hf => ?_)
    · exact j_vret hX hR dX0_find_45 ⟨(), _, rfl, hf, rfl⟩
    · refine j_iload_n (pc' := 40) hX dX0_find_39 rfl 1 rfl rfl ?_
      refine j_iload (pc' := 42) hX dX0_find_40 0 rfl rfl ?_
      refine j_icmp_lt (tgt := 46) (pc' := 45) hX dX0_find_42 (by decide) rfl hf (fun hf => ?_) (fun hf => ?_)
      · refine j_aload_n (pc' := 47) hX dX0_find_46 rfl 2 rfl rfl ?_
        refine j_get (ci := 0) (pc' := 50) hX hin0 rfl 0 rfl 0 (by decide) hl_9 rfl dX0_find_47 rfl ?_
        refine j_iload (pc' := 52) hX dX0_find_50 0 rfl rfl ?_
        refine j_iconst (pc' := 53) (v := 0) hX dX0_find_52 (by decide) rfl ?_
        obtain ⟨vc_3, evc_3⟩ : ∃ z : Cl, z = cl_a vc_2 (upd vc_2.1 r23.toNatClampNeg 0) := ⟨_, rfl⟩
        refine j_iast (pc' := 54) (ws' := ((ClW g c0 c1 vc_3) ++ (MoW g m0 m1 m2 m3 m4 vm))) hX hW 1 rfl dX0_find_53 hf (by subst evc_3; rfl) rfl (fun hf => ?_)
        replace hf := hf vc_3 evc_3
        refine j_iload (pc' := 56) hX dX0_find_54 0 rfl rfl ?_
        refine j_iconst (pc' := 57) (v := 1) hX dX0_find_56 (by decide) rfl ?_
        refine j_isub (pc' := 58) hX dX0_find_57 rfl ?_
        refine j_istore (pc' := 60) (lv' := [(5, .int (r23 - 1)), (4, .int r23), (3, .int r17), (0, .ref c0), (1, .ref m0), (2, .int p1)]) hX dX0_find_58 (by decide) rfl rfl ?_
        obtain ⟨N60, hf⟩ := hf
        have L60 : ∀ (K60_156 : Cl → Prop), (∀ (vc_60 : Cl), K60_156 vc_60 → J g X 0 0 ((ClW g c0 c1 vc_60) ++ (MoW g m0 m1 m2 m3 m4 vm)) [] [] 156) → ∀ (N60 : Nat) (x5_60 : Int32) (vc_60 : Cl), wp_X0_find_L60 vm p1 r17 r23 K60_156 N60 x5_60 vc_60 → J g X 0 0 ((ClW g c0 c1 vc_60) ++ (MoW g m0 m1 m2 m3 m4 vm)) [(0, .ref c0), (1, .ref m0), (2, .int p1), (3, .int r17), (4, .int r23), (5, .int x5_60)] [] 60 := by
          intro K60_156 hK60_156 N60
          induction N60 with
          | zero => intro x5_60 vc_60 hf; exact False.elim hf
          | succ N60 ih60 =>
            intro x5_60 vc_60 hf
            refine j_iload (pc' := 62) hX dX0_find_60 5 rfl rfl ?_
            refine j_iload_n (pc' := 63) hX dX0_find_62 rfl 3 rfl rfl ?_
            refine j_icmp_lt (tgt := 156) (pc' := 66) hX dX0_find_63 (by decide) rfl hf (fun hf => ?_) (fun hf => ?_)
            · refine J_sub (lv' := []) [] rfl ?_
              exact hK60_156 vc_60 hf
            · refine j_iload (pc' := 68) hX dX0_find_66 5 rfl rfl ?_
              refine j_iload_n (pc' := 69) hX dX0_find_68 rfl 3 rfl rfl ?_
              refine j_icmp_le (tgt := 86) (pc' := 72) hX dX0_find_69 (by decide) rfl hf (fun hf => ?_) (fun hf => ?_)
              · refine j_iconst (pc' := 87) (v := 0) hX dX0_find_86 (by decide) rfl ?_
                refine j_istore (pc' := 89) (lv' := [(6, .int 0), (0, .ref c0), (1, .ref m0), (2, .int p1), (3, .int r17), (4, .int r23), (5, .int x5_60)]) hX dX0_find_87 (by decide) rfl rfl ?_
                refine j_aload_n (pc' := 90) hX dX0_find_89 rfl 1 rfl rfl ?_
                refine j_iload (pc' := 92) hX dX0_find_90 0 rfl rfl ?_
                refine j_if_eq (tgt := 99) (pc' := 95) (P2 := False) hX dX0_find_92 (by decide) rfl ⟨fun _ => hf, fun h => absurd (by decide) h⟩ (fun hf => ?_) (fun h => h.elim)
                refine j_aload_n (pc' := 100) hX dX0_find_99 rfl 1 rfl rfl ?_
                refine j_iload (pc' := 102) hX dX0_find_100 6 rfl rfl ?_
                refine j_iload (pc' := 104) hX dX0_find_102 5 rfl rfl ?_
                refine j_callVR (ci := 0) (pc' := 107) (As := [.int x5_60, .int r23]) (rest := [.ref c0]) (stk := fun r104 => [.int r104, .ref c0]) hX (fun l => met_X0_bestSize l g c0 c1 vc_60 x5_60 r23 _ hf) rfl gX0_find_X0_bestSize yoX0_bestSize rfl ⟨Nat.le_of_ble_eq_true rfl, Nat.le_of_ble_eq_true rfl⟩ ⟨⟨Nat.le_of_ble_eq_true rfl, Nat.le_of_ble_eq_true rfl⟩, rfl, rfl⟩ 0 rfl rfl [0, 1] rfl (by decide) (Nat.le_of_ble_eq_true rfl) rfl (fun _ => rfl) dX0_find_104 rfl (fun r104 hf => ?_)
                obtain ⟨vc_4, evc_4⟩ : ∃ z : Cl, z = cl_g vc_60 (r104) := ⟨_, rfl⟩
                refine j_put (ci := 0) (pc' := 110) (ws' := ((ClW g c0 c1 vc_4) ++ (MoW g m0 m1 m2 m3 m4 vm))) hX hW hin0 tyX0_ok nmX0 rfl 0 rfl 2 (by decide) hl_19 rfl rfl rfl (Nat.le_of_ble_eq_true rfl) dX0_find_107 (by subst evc_4; rfl) rfl ?_
                replace hf := hf vc_4 evc_4
                refine j_aload_n (pc' := 111) hX dX0_find_110 rfl 1 rfl rfl ?_
                refine j_aload_n (pc' := 112) hX dX0_find_111 rfl 1 rfl rfl ?_
                refine j_get (ci := 0) (pc' := 115) hX hin0 rfl 0 rfl 2 (by decide) hl_19 rfl dX0_find_112 rfl ?_
                refine j_iconst (pc' := 116) (v := (-1)) hX dX0_find_115 (by decide) rfl ?_
                refine j_icmp_ne (tgt := 123) (pc' := 119) hX dX0_find_116 (by decide) rfl hf (fun hf => ?_) (fun hf => ?_)
                · refine j_aload_n (pc' := 124) hX dX0_find_123 rfl 1 rfl rfl ?_
                  refine j_iload (pc' := 126) hX dX0_find_124 6 rfl rfl ?_
                  refine j_aload_n (pc' := 127) hX dX0_find_126 rfl 1 rfl rfl ?_
                  refine j_get (ci := 0) (pc' := 130) hX hin0 rfl 0 rfl 2 (by decide) hl_19 rfl dX0_find_127 rfl ?_
                  refine j_iadd (pc' := 131) hX dX0_find_130 rfl ?_
                  refine j_callVR (ci := 0) (pc' := 134) (As := [.int (x5_60 + vc_4.2.2)]) (rest := [.ref c0]) (stk := fun r131 => [.int r131, .ref c0]) hX (fun l => met_X0_pebblesFrom l g c0 c1 vc_4 (x5_60 + vc_4.2.2) _ hf) rfl gX0_find_X0_pebblesFrom yoX0_pebblesFrom rfl ⟨Nat.le_of_ble_eq_true rfl, Nat.le_of_ble_eq_true rfl⟩ ⟨⟨Nat.le_of_ble_eq_true rfl, Nat.le_of_ble_eq_true rfl⟩, rfl, rfl⟩ 0 rfl rfl [0, 1] rfl (by decide) (Nat.le_of_ble_eq_true rfl) rfl (fun _ => rfl) dX0_find_131 rfl (fun r131 hf => ?_)
                  refine j_iconst (pc' := 135) (v := 1) hX dX0_find_134 (by decide) rfl ?_
                  refine j_iadd (pc' := 136) hX dX0_find_135 rfl ?_
                  obtain ⟨vc_7, evc_7⟩ : ∃ z : Cl, z = cl_f vc_4 ((r131 + 1)) := ⟨_, rfl⟩
                  refine j_put (ci := 0) (pc' := 139) (ws' := ((ClW g c0 c1 vc_7) ++ (MoW g m0 m1 m2 m3 m4 vm))) hX hW hin0 tyX0_ok nmX0 rfl 0 rfl 1 (by decide) hl_15 rfl rfl rfl (Nat.le_of_ble_eq_true rfl) dX0_find_136 (by subst evc_7; rfl) rfl ?_
                  replace hf := hf vc_7 evc_7
                  refine j_aload_n (pc' := 140) hX dX0_find_139 rfl 1 rfl rfl ?_
                  refine j_get (ci := 0) (pc' := 143) hX hin0 rfl 0 rfl 0 (by decide) hl_9 rfl dX0_find_140 rfl ?_
                  refine j_iload (pc' := 145) hX dX0_find_143 6 rfl rfl ?_
                  refine j_aload_n (pc' := 146) hX dX0_find_145 rfl 1 rfl rfl ?_
                  refine j_get (ci := 0) (pc' := 149) hX hin0 rfl 0 rfl 1 (by decide) hl_15 rfl dX0_find_146 rfl ?_
                  obtain ⟨vc_8, evc_8⟩ : ∃ z : Cl, z = cl_a vc_7 (upd vc_7.1 x5_60.toNatClampNeg vc_7.2.1) := ⟨_, rfl⟩
                  refine j_iast (pc' := 150) (ws' := ((ClW g c0 c1 vc_8) ++ (MoW g m0 m1 m2 m3 m4 vm))) hX hW 1 rfl dX0_find_149 hf (by subst evc_8; rfl) rfl (fun hf => ?_)
                  replace hf := hf vc_8 evc_8
                  refine j_iinc (pc' := 153) (cst := (-1)) (v := (x5_60 + (-1))) (lv' := [(5, .int (x5_60 + (-1))), (6, .int 0), (0, .ref c0), (1, .ref m0), (2, .int p1), (3, .int r17), (4, .int r23)]) hX dX0_find_150 (by decide) rfl 6 rfl (by decide) rfl rfl ?_
                  refine j_goto (tgt := 60) hX dX0_find_153 (by decide) ?_
                  refine J_sub (lv' := [(0, .ref c0), (1, .ref m0), (2, .int p1), (3, .int r17), (4, .int r23), (5, .int (x5_60 + (-1)))]) [2, 3, 4, 5, 6, 0] rfl ?_
                  exact ih60 (x5_60 + (-1)) vc_8 hf
                · refine j_iconst (pc' := 120) (v := (-1)) hX dX0_find_119 (by decide) rfl ?_
                  refine j_goto (tgt := 136) hX dX0_find_120 (by decide) ?_
                  obtain ⟨vc_5, evc_5⟩ : ∃ z : Cl, z = cl_f vc_4 ((-1)) := ⟨_, rfl⟩
                  refine j_put (ci := 0) (pc' := 139) (ws' := ((ClW g c0 c1 vc_5) ++ (MoW g m0 m1 m2 m3 m4 vm))) hX hW hin0 tyX0_ok nmX0 rfl 0 rfl 1 (by decide) hl_15 rfl rfl rfl (Nat.le_of_ble_eq_true rfl) dX0_find_136 (by subst evc_5; rfl) rfl ?_
                  replace hf := hf vc_5 evc_5
                  refine j_aload_n (pc' := 140) hX dX0_find_139 rfl 1 rfl rfl ?_
                  refine j_get (ci := 0) (pc' := 143) hX hin0 rfl 0 rfl 0 (by decide) hl_9 rfl dX0_find_140 rfl ?_
                  refine j_iload (pc' := 145) hX dX0_find_143 6 rfl rfl ?_
                  refine j_aload_n (pc' := 146) hX dX0_find_145 rfl 1 rfl rfl ?_
                  refine j_get (ci := 0) (pc' := 149) hX hin0 rfl 0 rfl 1 (by decide) hl_15 rfl dX0_find_146 rfl ?_
                  obtain ⟨vc_6, evc_6⟩ : ∃ z : Cl, z = cl_a vc_5 (upd vc_5.1 x5_60.toNatClampNeg vc_5.2.1) := ⟨_, rfl⟩
                  refine j_iast (pc' := 150) (ws' := ((ClW g c0 c1 vc_6) ++ (MoW g m0 m1 m2 m3 m4 vm))) hX hW 1 rfl dX0_find_149 hf (by subst evc_6; rfl) rfl (fun hf => ?_)
                  replace hf := hf vc_6 evc_6
                  refine j_iinc (pc' := 153) (cst := (-1)) (v := (x5_60 + (-1))) (lv' := [(5, .int (x5_60 + (-1))), (6, .int 0), (0, .ref c0), (1, .ref m0), (2, .int p1), (3, .int r17), (4, .int r23)]) hX dX0_find_150 (by decide) rfl 6 rfl (by decide) rfl rfl ?_
                  refine j_goto (tgt := 60) hX dX0_find_153 (by decide) ?_
                  refine J_sub (lv' := [(0, .ref c0), (1, .ref m0), (2, .int p1), (3, .int r17), (4, .int r23), (5, .int (x5_60 + (-1)))]) [2, 3, 4, 5, 6, 0] rfl ?_
                  exact ih60 (x5_60 + (-1)) vc_6 hf
              · refine j_aload_n (pc' := 73) hX dX0_find_72 rfl 1 rfl rfl ?_
                refine j_iload_n (pc' := 74) hX dX0_find_73 rfl 2 rfl rfl ?_
                refine j_iload (pc' := 76) hX dX0_find_74 5 rfl rfl ?_
                refine j_callVR (ci := 2) (pc' := 79) (As := [.int p1, .int x5_60]) (rest := []) (stk := fun r76 => [.int r76]) hX (fun l => met_X2_runsThrough l g m0 m1 m2 m3 m4 vm p1 x5_60 _ hf) rfl gX0_find_X2_runsThrough yoX2_runsThrough rfl ⟨Nat.le_of_ble_eq_true rfl, Nat.le_of_ble_eq_true rfl⟩ ⟨⟨Nat.le_of_ble_eq_true rfl, Nat.le_of_ble_eq_true rfl⟩, rfl, rfl⟩ 2 rfl rfl [2, 3, 4, 5, 6] rfl (by decide) (Nat.le_of_ble_eq_true rfl) rfl (fun _ => rfl) dX0_find_76 rfl (fun r76 hf => ?_)
                refine j_if_eq (tgt := 86) (pc' := 82) hX dX0_find_79 (by decide) rfl hf (fun hf => ?_) (fun hf => ?_)
                · refine j_iconst (pc' := 87) (v := 0) hX dX0_find_86 (by decide) rfl ?_
                  refine j_istore (pc' := 89) (lv' := [(6, .int 0), (0, .ref c0), (1, .ref m0), (2, .int p1), (3, .int r17), (4, .int r23), (5, .int x5_60)]) hX dX0_find_87 (by decide) rfl rfl ?_
                  refine j_aload_n (pc' := 90) hX dX0_find_89 rfl 1 rfl rfl ?_
                  refine j_iload (pc' := 92) hX dX0_find_90 0 rfl rfl ?_
                  refine j_if_eq (tgt := 99) (pc' := 95) (P2 := False) hX dX0_find_92 (by decide) rfl ⟨fun _ => hf, fun h => absurd (by decide) h⟩ (fun hf => ?_) (fun h => h.elim)
                  refine j_aload_n (pc' := 100) hX dX0_find_99 rfl 1 rfl rfl ?_
                  refine j_iload (pc' := 102) hX dX0_find_100 6 rfl rfl ?_
                  refine j_iload (pc' := 104) hX dX0_find_102 5 rfl rfl ?_
                  refine j_callVR (ci := 0) (pc' := 107) (As := [.int x5_60, .int r23]) (rest := [.ref c0]) (stk := fun r104 => [.int r104, .ref c0]) hX (fun l => met_X0_bestSize l g c0 c1 vc_60 x5_60 r23 _ hf) rfl gX0_find_X0_bestSize yoX0_bestSize rfl ⟨Nat.le_of_ble_eq_true rfl, Nat.le_of_ble_eq_true rfl⟩ ⟨⟨Nat.le_of_ble_eq_true rfl, Nat.le_of_ble_eq_true rfl⟩, rfl, rfl⟩ 0 rfl rfl [0, 1] rfl (by decide) (Nat.le_of_ble_eq_true rfl) rfl (fun _ => rfl) dX0_find_104 rfl (fun r104 hf => ?_)
                  obtain ⟨vc_9, evc_9⟩ : ∃ z : Cl, z = cl_g vc_60 (r104) := ⟨_, rfl⟩
                  refine j_put (ci := 0) (pc' := 110) (ws' := ((ClW g c0 c1 vc_9) ++ (MoW g m0 m1 m2 m3 m4 vm))) hX hW hin0 tyX0_ok nmX0 rfl 0 rfl 2 (by decide) hl_19 rfl rfl rfl (Nat.le_of_ble_eq_true rfl) dX0_find_107 (by subst evc_9; rfl) rfl ?_
                  replace hf := hf vc_9 evc_9
                  refine j_aload_n (pc' := 111) hX dX0_find_110 rfl 1 rfl rfl ?_
                  refine j_aload_n (pc' := 112) hX dX0_find_111 rfl 1 rfl rfl ?_
                  refine j_get (ci := 0) (pc' := 115) hX hin0 rfl 0 rfl 2 (by decide) hl_19 rfl dX0_find_112 rfl ?_
                  refine j_iconst (pc' := 116) (v := (-1)) hX dX0_find_115 (by decide) rfl ?_
                  refine j_icmp_ne (tgt := 123) (pc' := 119) hX dX0_find_116 (by decide) rfl hf (fun hf => ?_) (fun hf => ?_)
                  · refine j_aload_n (pc' := 124) hX dX0_find_123 rfl 1 rfl rfl ?_
                    refine j_iload (pc' := 126) hX dX0_find_124 6 rfl rfl ?_
                    refine j_aload_n (pc' := 127) hX dX0_find_126 rfl 1 rfl rfl ?_
                    refine j_get (ci := 0) (pc' := 130) hX hin0 rfl 0 rfl 2 (by decide) hl_19 rfl dX0_find_127 rfl ?_
                    refine j_iadd (pc' := 131) hX dX0_find_130 rfl ?_
                    refine j_callVR (ci := 0) (pc' := 134) (As := [.int (x5_60 + vc_9.2.2)]) (rest := [.ref c0]) (stk := fun r131 => [.int r131, .ref c0]) hX (fun l => met_X0_pebblesFrom l g c0 c1 vc_9 (x5_60 + vc_9.2.2) _ hf) rfl gX0_find_X0_pebblesFrom yoX0_pebblesFrom rfl ⟨Nat.le_of_ble_eq_true rfl, Nat.le_of_ble_eq_true rfl⟩ ⟨⟨Nat.le_of_ble_eq_true rfl, Nat.le_of_ble_eq_true rfl⟩, rfl, rfl⟩ 0 rfl rfl [0, 1] rfl (by decide) (Nat.le_of_ble_eq_true rfl) rfl (fun _ => rfl) dX0_find_131 rfl (fun r131 hf => ?_)
                    refine j_iconst (pc' := 135) (v := 1) hX dX0_find_134 (by decide) rfl ?_
                    refine j_iadd (pc' := 136) hX dX0_find_135 rfl ?_
                    obtain ⟨vc_12, evc_12⟩ : ∃ z : Cl, z = cl_f vc_9 ((r131 + 1)) := ⟨_, rfl⟩
                    refine j_put (ci := 0) (pc' := 139) (ws' := ((ClW g c0 c1 vc_12) ++ (MoW g m0 m1 m2 m3 m4 vm))) hX hW hin0 tyX0_ok nmX0 rfl 0 rfl 1 (by decide) hl_15 rfl rfl rfl (Nat.le_of_ble_eq_true rfl) dX0_find_136 (by subst evc_12; rfl) rfl ?_
                    replace hf := hf vc_12 evc_12
                    refine j_aload_n (pc' := 140) hX dX0_find_139 rfl 1 rfl rfl ?_
                    refine j_get (ci := 0) (pc' := 143) hX hin0 rfl 0 rfl 0 (by decide) hl_9 rfl dX0_find_140 rfl ?_
                    refine j_iload (pc' := 145) hX dX0_find_143 6 rfl rfl ?_
                    refine j_aload_n (pc' := 146) hX dX0_find_145 rfl 1 rfl rfl ?_
                    refine j_get (ci := 0) (pc' := 149) hX hin0 rfl 0 rfl 1 (by decide) hl_15 rfl dX0_find_146 rfl ?_
                    obtain ⟨vc_13, evc_13⟩ : ∃ z : Cl, z = cl_a vc_12 (upd vc_12.1 x5_60.toNatClampNeg vc_12.2.1) := ⟨_, rfl⟩
                    refine j_iast (pc' := 150) (ws' := ((ClW g c0 c1 vc_13) ++ (MoW g m0 m1 m2 m3 m4 vm))) hX hW 1 rfl dX0_find_149 hf (by subst evc_13; rfl) rfl (fun hf => ?_)
                    replace hf := hf vc_13 evc_13
                    refine j_iinc (pc' := 153) (cst := (-1)) (v := (x5_60 + (-1))) (lv' := [(5, .int (x5_60 + (-1))), (6, .int 0), (0, .ref c0), (1, .ref m0), (2, .int p1), (3, .int r17), (4, .int r23)]) hX dX0_find_150 (by decide) rfl 6 rfl (by decide) rfl rfl ?_
                    refine j_goto (tgt := 60) hX dX0_find_153 (by decide) ?_
                    refine J_sub (lv' := [(0, .ref c0), (1, .ref m0), (2, .int p1), (3, .int r17), (4, .int r23), (5, .int (x5_60 + (-1)))]) [2, 3, 4, 5, 6, 0] rfl ?_
                    exact ih60 (x5_60 + (-1)) vc_13 hf
                  · refine j_iconst (pc' := 120) (v := (-1)) hX dX0_find_119 (by decide) rfl ?_
                    refine j_goto (tgt := 136) hX dX0_find_120 (by decide) ?_
                    obtain ⟨vc_10, evc_10⟩ : ∃ z : Cl, z = cl_f vc_9 ((-1)) := ⟨_, rfl⟩
                    refine j_put (ci := 0) (pc' := 139) (ws' := ((ClW g c0 c1 vc_10) ++ (MoW g m0 m1 m2 m3 m4 vm))) hX hW hin0 tyX0_ok nmX0 rfl 0 rfl 1 (by decide) hl_15 rfl rfl rfl (Nat.le_of_ble_eq_true rfl) dX0_find_136 (by subst evc_10; rfl) rfl ?_
                    replace hf := hf vc_10 evc_10
                    refine j_aload_n (pc' := 140) hX dX0_find_139 rfl 1 rfl rfl ?_
                    refine j_get (ci := 0) (pc' := 143) hX hin0 rfl 0 rfl 0 (by decide) hl_9 rfl dX0_find_140 rfl ?_
                    refine j_iload (pc' := 145) hX dX0_find_143 6 rfl rfl ?_
                    refine j_aload_n (pc' := 146) hX dX0_find_145 rfl 1 rfl rfl ?_
                    refine j_get (ci := 0) (pc' := 149) hX hin0 rfl 0 rfl 1 (by decide) hl_15 rfl dX0_find_146 rfl ?_
                    obtain ⟨vc_11, evc_11⟩ : ∃ z : Cl, z = cl_a vc_10 (upd vc_10.1 x5_60.toNatClampNeg vc_10.2.1) := ⟨_, rfl⟩
                    refine j_iast (pc' := 150) (ws' := ((ClW g c0 c1 vc_11) ++ (MoW g m0 m1 m2 m3 m4 vm))) hX hW 1 rfl dX0_find_149 hf (by subst evc_11; rfl) rfl (fun hf => ?_)
                    replace hf := hf vc_11 evc_11
                    refine j_iinc (pc' := 153) (cst := (-1)) (v := (x5_60 + (-1))) (lv' := [(5, .int (x5_60 + (-1))), (6, .int 0), (0, .ref c0), (1, .ref m0), (2, .int p1), (3, .int r17), (4, .int r23)]) hX dX0_find_150 (by decide) rfl 6 rfl (by decide) rfl rfl ?_
                    refine j_goto (tgt := 60) hX dX0_find_153 (by decide) ?_
                    refine J_sub (lv' := [(0, .ref c0), (1, .ref m0), (2, .int p1), (3, .int r17), (4, .int r23), (5, .int (x5_60 + (-1)))]) [2, 3, 4, 5, 6, 0] rfl ?_
                    exact ih60 (x5_60 + (-1)) vc_11 hf
                · refine j_iconst (pc' := 83) (v := 1) hX dX0_find_82 (by decide) rfl ?_
                  refine j_goto (tgt := 87) hX dX0_find_83 (by decide) ?_
                  refine j_istore (pc' := 89) (lv' := [(6, .int 1), (0, .ref c0), (1, .ref m0), (2, .int p1), (3, .int r17), (4, .int r23), (5, .int x5_60)]) hX dX0_find_87 (by decide) rfl rfl ?_
                  refine j_aload_n (pc' := 90) hX dX0_find_89 rfl 1 rfl rfl ?_
                  refine j_iload (pc' := 92) hX dX0_find_90 0 rfl rfl ?_
                  refine j_if_eq (tgt := 99) (pc' := 95) (P1 := False) hX dX0_find_92 (by decide) rfl ⟨fun h => absurd h (by decide), fun _ => hf⟩ (fun h => h.elim) (fun hf => ?_)
                  refine j_iconst (pc' := 96) (v := (-1)) hX dX0_find_95 (by decide) rfl ?_
                  refine j_goto (tgt := 107) hX dX0_find_96 (by decide) ?_
                  obtain ⟨vc_14, evc_14⟩ : ∃ z : Cl, z = cl_g vc_60 ((-1)) := ⟨_, rfl⟩
                  refine j_put (ci := 0) (pc' := 110) (ws' := ((ClW g c0 c1 vc_14) ++ (MoW g m0 m1 m2 m3 m4 vm))) hX hW hin0 tyX0_ok nmX0 rfl 0 rfl 2 (by decide) hl_19 rfl rfl rfl (Nat.le_of_ble_eq_true rfl) dX0_find_107 (by subst evc_14; rfl) rfl ?_
                  replace hf := hf vc_14 evc_14
                  refine j_aload_n (pc' := 111) hX dX0_find_110 rfl 1 rfl rfl ?_
                  refine j_aload_n (pc' := 112) hX dX0_find_111 rfl 1 rfl rfl ?_
                  refine j_get (ci := 0) (pc' := 115) hX hin0 rfl 0 rfl 2 (by decide) hl_19 rfl dX0_find_112 rfl ?_
                  refine j_iconst (pc' := 116) (v := (-1)) hX dX0_find_115 (by decide) rfl ?_
                  refine j_icmp_ne (tgt := 123) (pc' := 119) hX dX0_find_116 (by decide) rfl hf (fun hf => ?_) (fun hf => ?_)
                  · refine j_aload_n (pc' := 124) hX dX0_find_123 rfl 1 rfl rfl ?_
                    refine j_iload (pc' := 126) hX dX0_find_124 6 rfl rfl ?_
                    refine j_aload_n (pc' := 127) hX dX0_find_126 rfl 1 rfl rfl ?_
                    refine j_get (ci := 0) (pc' := 130) hX hin0 rfl 0 rfl 2 (by decide) hl_19 rfl dX0_find_127 rfl ?_
                    refine j_iadd (pc' := 131) hX dX0_find_130 rfl ?_
                    refine j_callVR (ci := 0) (pc' := 134) (As := [.int (x5_60 + vc_14.2.2)]) (rest := [.ref c0]) (stk := fun r131 => [.int r131, .ref c0]) hX (fun l => met_X0_pebblesFrom l g c0 c1 vc_14 (x5_60 + vc_14.2.2) _ hf) rfl gX0_find_X0_pebblesFrom yoX0_pebblesFrom rfl ⟨Nat.le_of_ble_eq_true rfl, Nat.le_of_ble_eq_true rfl⟩ ⟨⟨Nat.le_of_ble_eq_true rfl, Nat.le_of_ble_eq_true rfl⟩, rfl, rfl⟩ 0 rfl rfl [0, 1] rfl (by decide) (Nat.le_of_ble_eq_true rfl) rfl (fun _ => rfl) dX0_find_131 rfl (fun r131 hf => ?_)
                    refine j_iconst (pc' := 135) (v := 1) hX dX0_find_134 (by decide) rfl ?_
                    refine j_iadd (pc' := 136) hX dX0_find_135 rfl ?_
                    obtain ⟨vc_17, evc_17⟩ : ∃ z : Cl, z = cl_f vc_14 ((r131 + 1)) := ⟨_, rfl⟩
                    refine j_put (ci := 0) (pc' := 139) (ws' := ((ClW g c0 c1 vc_17) ++ (MoW g m0 m1 m2 m3 m4 vm))) hX hW hin0 tyX0_ok nmX0 rfl 0 rfl 1 (by decide) hl_15 rfl rfl rfl (Nat.le_of_ble_eq_true rfl) dX0_find_136 (by subst evc_17; rfl) rfl ?_
                    replace hf := hf vc_17 evc_17
                    refine j_aload_n (pc' := 140) hX dX0_find_139 rfl 1 rfl rfl ?_
                    refine j_get (ci := 0) (pc' := 143) hX hin0 rfl 0 rfl 0 (by decide) hl_9 rfl dX0_find_140 rfl ?_
                    refine j_iload (pc' := 145) hX dX0_find_143 6 rfl rfl ?_
                    refine j_aload_n (pc' := 146) hX dX0_find_145 rfl 1 rfl rfl ?_
                    refine j_get (ci := 0) (pc' := 149) hX hin0 rfl 0 rfl 1 (by decide) hl_15 rfl dX0_find_146 rfl ?_
                    obtain ⟨vc_18, evc_18⟩ : ∃ z : Cl, z = cl_a vc_17 (upd vc_17.1 x5_60.toNatClampNeg vc_17.2.1) := ⟨_, rfl⟩
                    refine j_iast (pc' := 150) (ws' := ((ClW g c0 c1 vc_18) ++ (MoW g m0 m1 m2 m3 m4 vm))) hX hW 1 rfl dX0_find_149 hf (by subst evc_18; rfl) rfl (fun hf => ?_)
                    replace hf := hf vc_18 evc_18
                    refine j_iinc (pc' := 153) (cst := (-1)) (v := (x5_60 + (-1))) (lv' := [(5, .int (x5_60 + (-1))), (6, .int 1), (0, .ref c0), (1, .ref m0), (2, .int p1), (3, .int r17), (4, .int r23)]) hX dX0_find_150 (by decide) rfl 6 rfl (by decide) rfl rfl ?_
                    refine j_goto (tgt := 60) hX dX0_find_153 (by decide) ?_
                    refine J_sub (lv' := [(0, .ref c0), (1, .ref m0), (2, .int p1), (3, .int r17), (4, .int r23), (5, .int (x5_60 + (-1)))]) [2, 3, 4, 5, 6, 0] rfl ?_
                    exact ih60 (x5_60 + (-1)) vc_18 hf
                  · refine j_iconst (pc' := 120) (v := (-1)) hX dX0_find_119 (by decide) rfl ?_
                    refine j_goto (tgt := 136) hX dX0_find_120 (by decide) ?_
                    obtain ⟨vc_15, evc_15⟩ : ∃ z : Cl, z = cl_f vc_14 ((-1)) := ⟨_, rfl⟩
                    refine j_put (ci := 0) (pc' := 139) (ws' := ((ClW g c0 c1 vc_15) ++ (MoW g m0 m1 m2 m3 m4 vm))) hX hW hin0 tyX0_ok nmX0 rfl 0 rfl 1 (by decide) hl_15 rfl rfl rfl (Nat.le_of_ble_eq_true rfl) dX0_find_136 (by subst evc_15; rfl) rfl ?_
                    replace hf := hf vc_15 evc_15
                    refine j_aload_n (pc' := 140) hX dX0_find_139 rfl 1 rfl rfl ?_
                    refine j_get (ci := 0) (pc' := 143) hX hin0 rfl 0 rfl 0 (by decide) hl_9 rfl dX0_find_140 rfl ?_
                    refine j_iload (pc' := 145) hX dX0_find_143 6 rfl rfl ?_
                    refine j_aload_n (pc' := 146) hX dX0_find_145 rfl 1 rfl rfl ?_
                    refine j_get (ci := 0) (pc' := 149) hX hin0 rfl 0 rfl 1 (by decide) hl_15 rfl dX0_find_146 rfl ?_
                    obtain ⟨vc_16, evc_16⟩ : ∃ z : Cl, z = cl_a vc_15 (upd vc_15.1 x5_60.toNatClampNeg vc_15.2.1) := ⟨_, rfl⟩
                    refine j_iast (pc' := 150) (ws' := ((ClW g c0 c1 vc_16) ++ (MoW g m0 m1 m2 m3 m4 vm))) hX hW 1 rfl dX0_find_149 hf (by subst evc_16; rfl) rfl (fun hf => ?_)
                    replace hf := hf vc_16 evc_16
                    refine j_iinc (pc' := 153) (cst := (-1)) (v := (x5_60 + (-1))) (lv' := [(5, .int (x5_60 + (-1))), (6, .int 1), (0, .ref c0), (1, .ref m0), (2, .int p1), (3, .int r17), (4, .int r23)]) hX dX0_find_150 (by decide) rfl 6 rfl (by decide) rfl rfl ?_
                    refine j_goto (tgt := 60) hX dX0_find_153 (by decide) ?_
                    refine J_sub (lv' := [(0, .ref c0), (1, .ref m0), (2, .int p1), (3, .int r17), (4, .int r23), (5, .int (x5_60 + (-1)))]) [2, 3, 4, 5, 6, 0] rfl ?_
                    exact ih60 (x5_60 + (-1)) vc_16 hf
        refine J_sub (lv' := [(0, .ref c0), (1, .ref m0), (2, .int p1), (3, .int r17), (4, .int r23), (5, .int (r23 - 1))]) [3, 4, 5, 2, 1, 0] rfl ?_
        refine L60 _ (fun e19 hf => ?_) N60 (r23 - 1) vc_3 hf
        exact j_vret hX hR dX0_find_156 ⟨(), _, rfl, hf, rfl⟩
      · exact j_vret hX hR dX0_find_45 ⟨(), _, rfl, hf, rfl⟩
def wp_X0_pebbles (vc : Cl) (post : Int32 → Prop) : Prop :=
  post vc.2.1
theorem yoX0_pebbles : yOk yX0_pebbles 0 := by decide +kernel
set_option maxHeartbeats 4000000 in
set_option maxRecDepth 100000 in
theorem met_X0_pebbles (l : Launch) (g : JG) (c0 : Nat) (c1 : Nat) (vc : Cl) (post : Int32 → Prop) (hf : wp_X0_pebbles vc post) : MetR l yX0_pebbles wsX0_pebbles ({ frames := 0, cells := 0, slots := 0, locals := 0 } : Room) [.ref c0] g (ClW g c0 c1 vc) mkI post := by
  have hin0 : ∀ w ∈ u_ws RX0 TX0 3, w ∈ wsX0_pebbles := by decide +kernel
  have hl_15 : Cond.fieldLink RX0 15 (TX0 1).1 (TX0 1).2.1 (TX0 1).2.2.1 ∈ wsX0_pebbles := by decide +kernel
  refine enterR (own := RX0) (cc := cX0_pebbles) (nL := 1) (ret := (some .int)) (lv := [(0, .ref c0)]) (by decide) rfl rfl (Nat.le_of_ble_eq_true rfl) rfl (fun X hX hR => ?_)
  unfold wp_X0_pebbles at hf
  refine j_aload_n (pc' := 1) hX dX0_pebbles_0 rfl 0 rfl rfl ?_
  refine j_get (ci := 0) (pc' := 4) hX hin0 rfl 0 rfl 1 (by decide) hl_15 rfl dX0_pebbles_1 rfl ?_
  exact j_iret hX hR dX0_pebbles_4 ⟨_, rfl, hf⟩
def wp_X0_firstSize (vc : Cl) (post : Int32 → Prop) : Prop :=
  post vc.2.2
theorem yoX0_firstSize : yOk yX0_firstSize 0 := by decide +kernel
set_option maxHeartbeats 4000000 in
set_option maxRecDepth 100000 in
theorem met_X0_firstSize (l : Launch) (g : JG) (c0 : Nat) (c1 : Nat) (vc : Cl) (post : Int32 → Prop) (hf : wp_X0_firstSize vc post) : MetR l yX0_firstSize wsX0_firstSize ({ frames := 0, cells := 0, slots := 0, locals := 0 } : Room) [.ref c0] g (ClW g c0 c1 vc) mkI post := by
  have hin0 : ∀ w ∈ u_ws RX0 TX0 3, w ∈ wsX0_firstSize := by decide +kernel
  have hl_19 : Cond.fieldLink RX0 19 (TX0 2).1 (TX0 2).2.1 (TX0 2).2.2.1 ∈ wsX0_firstSize := by decide +kernel
  refine enterR (own := RX0) (cc := cX0_firstSize) (nL := 1) (ret := (some .int)) (lv := [(0, .ref c0)]) (by decide) rfl rfl (Nat.le_of_ble_eq_true rfl) rfl (fun X hX hR => ?_)
  unfold wp_X0_firstSize at hf
  refine j_aload_n (pc' := 1) hX dX0_firstSize_0 rfl 0 rfl rfl ?_
  refine j_get (ci := 0) (pc' := 4) hX hin0 rfl 0 rfl 2 (by decide) hl_19 rfl dX0_firstSize_1 rfl ?_
  exact j_iret hX hR dX0_firstSize_4 ⟨_, rfl, hf⟩
def wp_X3_length (vt : Tx) (post : Int32 → Prop) : Prop :=
  post vt.2
theorem yoX3_length : yOk yX3_length 0 := by decide +kernel
set_option maxHeartbeats 4000000 in
set_option maxRecDepth 100000 in
theorem met_X3_length (l : Launch) (g : JG) (t0 : Nat) (t1 : Nat) (vt : Tx) (post : Int32 → Prop) (hf : wp_X3_length vt post) : MetR l yX3_length wsX3_length ({ frames := 0, cells := 0, slots := 0, locals := 0 } : Room) [.ref t0] g (TxW g t0 t1 vt) mkI post := by
  have hin3 : ∀ w ∈ u_ws RX3 TX3 2, w ∈ wsX3_length := by decide +kernel
  have hl_15 : Cond.fieldLink RX3 15 (TX3 1).1 (TX3 1).2.1 (TX3 1).2.2.1 ∈ wsX3_length := by decide +kernel
  refine enterR (own := RX3) (cc := cX3_length) (nL := 1) (ret := (some .int)) (lv := [(0, .ref t0)]) (by decide) rfl rfl (Nat.le_of_ble_eq_true rfl) rfl (fun X hX hR => ?_)
  unfold wp_X3_length at hf
  refine j_aload_n (pc' := 1) hX dX3_length_0 rfl 0 rfl rfl ?_
  refine j_get (ci := 3) (pc' := 4) hX hin3 rfl 0 rfl 1 (by decide) hl_15 rfl dX3_length_1 rfl ?_
  exact j_iret hX hR dX3_length_4 ⟨_, rfl, hf⟩
def wp_X3_add (vt : Tx) (p0 : Int32) (post : Int32 → Tx → Prop) : Prop :=
  ((vt.2 < 0 → post vt.2 vt) ∧ (¬ vt.2 < 0 → ((60 ≤ vt.2 → post vt.2 vt) ∧ (¬ 60 ≤ vt.2 → (vp_in vt.2 60 ∧ (∀ vt_1 : Tx, vt_1 = tx_s vt (upd vt.1 vt.2.toNatClampNeg (vp_nar .char p0)) → (∀ vt_2 : Tx, vt_2 = tx_l vt_1 ((vt_1.2 + 1)) → post vt_2.2 vt_2)))))))
theorem yoX3_add : yOk yX3_add 1 := by decide +kernel
set_option maxHeartbeats 4000000 in
set_option maxRecDepth 100000 in
theorem met_X3_add (l : Launch) (g : JG) (t0 : Nat) (t1 : Nat) (vt : Tx) (p0 : Int32) (post : Int32 → Tx → Prop) (hf : wp_X3_add vt p0 post) : MetM l yX3_add wsX3_add ({ frames := 0, cells := 0, slots := 0, locals := 0 } : Room) [.ref t0, .int p0] g (TxW g t0 t1 vt) mkI post (fun u : Tx => (TxW g t0 t1 u)) := by
  have hin3 : ∀ w ∈ u_ws RX3 TX3 2, w ∈ wsX3_add := by decide +kernel
  have hl_15 : Cond.fieldLink RX3 15 (TX3 1).1 (TX3 1).2.1 (TX3 1).2.2.1 ∈ wsX3_add := by decide +kernel
  have hl_9 : Cond.fieldLink RX3 9 (TX3 0).1 (TX3 0).2.1 (TX3 0).2.2.1 ∈ wsX3_add := by decide +kernel
  refine enterM (own := RX3) (cc := cX3_add) (nL := 2) (ret := (some .int)) (lv := [(0, .ref t0), (1, .int p0)]) (by decide) rfl rfl (Nat.le_of_ble_eq_true rfl) rfl (fun X hX hW hR => ?_)
  unfold wp_X3_add at hf
  refine j_aload_n (pc' := 1) hX dX3_add_0 rfl 0 rfl rfl ?_
  refine j_get (ci := 3) (pc' := 4) hX hin3 rfl 0 rfl 1 (by decide) hl_15 rfl dX3_add_1 rfl ?_
  refine j_if_lt (tgt := 39) (pc' := 7) hX dX3_add_4 (by decide) rfl hf (fun hf => ?_) (fun hf => ?_)
  · refine j_aload_n (pc' := 40) hX dX3_add_39 rfl 0 rfl rfl ?_
    refine j_get (ci := 3) (pc' := 43) hX hin3 rfl 0 rfl 1 (by decide) hl_15 rfl dX3_add_40 rfl ?_
    exact j_iret hX hR dX3_add_43 ⟨_, _, rfl, hf, rfl⟩
  · refine j_aload_n (pc' := 8) hX dX3_add_7 rfl 0 rfl rfl ?_
    refine j_get (ci := 3) (pc' := 11) hX hin3 rfl 0 rfl 1 (by decide) hl_15 rfl dX3_add_8 rfl ?_
    refine j_aload_n (pc' := 12) hX dX3_add_11 rfl 0 rfl rfl ?_
    refine j_get (ci := 3) (pc' := 15) hX hin3 rfl 0 rfl 0 (by decide) hl_9 rfl dX3_add_12 rfl ?_
    refine j_alen (v := 60) (pc' := 16) hX 1 1 rfl rfl (show Int32.ofNat 60 = 60 from by decide) dX3_add_15 rfl ?_
    refine j_icmp_ge (tgt := 39) (pc' := 19) hX dX3_add_16 (by decide) rfl hf (fun hf => ?_) (fun hf => ?_)
    · refine j_aload_n (pc' := 40) hX dX3_add_39 rfl 0 rfl rfl ?_
      refine j_get (ci := 3) (pc' := 43) hX hin3 rfl 0 rfl 1 (by decide) hl_15 rfl dX3_add_40 rfl ?_
      exact j_iret hX hR dX3_add_43 ⟨_, _, rfl, hf, rfl⟩
    · refine j_aload_n (pc' := 20) hX dX3_add_19 rfl 0 rfl rfl ?_
      refine j_get (ci := 3) (pc' := 23) hX hin3 rfl 0 rfl 0 (by decide) hl_9 rfl dX3_add_20 rfl ?_
      refine j_aload_n (pc' := 24) hX dX3_add_23 rfl 0 rfl rfl ?_
      refine j_get (ci := 3) (pc' := 27) hX hin3 rfl 0 rfl 1 (by decide) hl_15 rfl dX3_add_24 rfl ?_
      refine j_iload_n (pc' := 28) hX dX3_add_27 rfl 1 rfl rfl ?_
      obtain ⟨vt_1, evt_1⟩ : ∃ z : Tx, z = tx_s vt (upd vt.1 vt.2.toNatClampNeg (vp_nar .char p0)) := ⟨_, rfl⟩
      refine j_cast (pc' := 29) (ws' := (TxW g t0 t1 vt_1)) hX hW 1 rfl dX3_add_28 hf (by subst evt_1; rfl) rfl (fun hf => ?_)
      replace hf := hf vt_1 evt_1
      refine j_aload_n (pc' := 30) hX dX3_add_29 rfl 0 rfl rfl ?_
      refine j_dup (pc' := 31) hX dX3_add_30 rfl rfl ?_
      refine j_get (ci := 3) (pc' := 34) hX hin3 rfl 0 rfl 1 (by decide) hl_15 rfl dX3_add_31 rfl ?_
      refine j_iconst (pc' := 35) (v := 1) hX dX3_add_34 (by decide) rfl ?_
      refine j_iadd (pc' := 36) hX dX3_add_35 rfl ?_
      obtain ⟨vt_2, evt_2⟩ : ∃ z : Tx, z = tx_l vt_1 ((vt_1.2 + 1)) := ⟨_, rfl⟩
      refine j_put (ci := 3) (pc' := 39) (ws' := (TxW g t0 t1 vt_2)) hX hW hin3 tyX3_ok nmX3 rfl 0 rfl 1 (by decide) hl_15 rfl rfl rfl (Nat.le_of_ble_eq_true rfl) dX3_add_36 (by subst evt_2; rfl) rfl ?_
      replace hf := hf vt_2 evt_2
      refine j_aload_n (pc' := 40) hX dX3_add_39 rfl 0 rfl rfl ?_
      refine j_get (ci := 3) (pc' := 43) hX hin3 rfl 0 rfl 1 (by decide) hl_15 rfl dX3_add_40 rfl ?_
      exact j_iret hX hR dX3_add_43 ⟨_, _, rfl, hf, rfl⟩
def wp_X3_drop (vt : Tx) (post : Int32 → Tx → Prop) : Prop :=
  (∀ vt_1 : Tx, vt_1 = tx_l vt (0) → post vt.2 vt_1)
theorem yoX3_drop : yOk yX3_drop 0 := by decide +kernel
set_option maxHeartbeats 4000000 in
set_option maxRecDepth 100000 in
theorem met_X3_drop (l : Launch) (g : JG) (t0 : Nat) (t1 : Nat) (vt : Tx) (post : Int32 → Tx → Prop) (hf : wp_X3_drop vt post) : MetM l yX3_drop wsX3_drop ({ frames := 0, cells := 0, slots := 0, locals := 0 } : Room) [.ref t0] g (TxW g t0 t1 vt) mkI post (fun u : Tx => (TxW g t0 t1 u)) := by
  have hin3 : ∀ w ∈ u_ws RX3 TX3 2, w ∈ wsX3_drop := by decide +kernel
  have hl_15 : Cond.fieldLink RX3 15 (TX3 1).1 (TX3 1).2.1 (TX3 1).2.2.1 ∈ wsX3_drop := by decide +kernel
  refine enterM (own := RX3) (cc := cX3_drop) (nL := 2) (ret := (some .int)) (lv := [(0, .ref t0)]) (by decide) rfl rfl (Nat.le_of_ble_eq_true rfl) rfl (fun X hX hW hR => ?_)
  unfold wp_X3_drop at hf
  refine j_aload_n (pc' := 1) hX dX3_drop_0 rfl 0 rfl rfl ?_
  refine j_get (ci := 3) (pc' := 4) hX hin3 rfl 0 rfl 1 (by decide) hl_15 rfl dX3_drop_1 rfl ?_
  refine j_istore_n (pc' := 5) (lv' := [(1, .int vt.2), (0, .ref t0)]) hX dX3_drop_4 rfl (by decide) rfl rfl ?_
  refine j_aload_n (pc' := 6) hX dX3_drop_5 rfl 1 rfl rfl ?_
  refine j_iconst (pc' := 7) (v := 0) hX dX3_drop_6 (by decide) rfl ?_
  obtain ⟨vt_1, evt_1⟩ : ∃ z : Tx, z = tx_l vt (0) := ⟨_, rfl⟩
  refine j_put (ci := 3) (pc' := 10) (ws' := (TxW g t0 t1 vt_1)) hX hW hin3 tyX3_ok nmX3 rfl 0 rfl 1 (by decide) hl_15 rfl rfl rfl (Nat.le_of_ble_eq_true rfl) dX3_drop_7 (by subst evt_1; rfl) rfl ?_
  replace hf := hf vt_1 evt_1
  refine j_iload_n (pc' := 11) hX dX3_drop_10 rfl 0 rfl rfl ?_
  exact j_iret hX hR dX3_drop_11 ⟨_, _, rfl, hf, rfl⟩
def wp_X3_signAt (vt : Tx) (p0 : Int32) (post : Int32 → Prop) : Prop :=
  ((p0 < 0 → post 0) ∧ (¬ p0 < 0 → ((vt.2 ≤ p0 → post 0) ∧ (¬ vt.2 ≤ p0 → ((60 ≤ p0 → post 0) ∧ (¬ 60 ≤ p0 → (vp_in p0 60 ∧ (narrow .char (.int (vt.1 p0.toNatClampNeg)) = .int (vt.1 p0.toNatClampNeg) ∧ post (vt.1 p0.toNatClampNeg)))))))))
theorem yoX3_signAt : yOk yX3_signAt 1 := by decide +kernel
set_option maxHeartbeats 4000000 in
set_option maxRecDepth 100000 in
theorem met_X3_signAt (l : Launch) (g : JG) (t0 : Nat) (t1 : Nat) (vt : Tx) (p0 : Int32) (post : Int32 → Prop) (hf : wp_X3_signAt vt p0 post) : MetR l yX3_signAt wsX3_signAt ({ frames := 0, cells := 0, slots := 0, locals := 0 } : Room) [.ref t0, .int p0] g (TxW g t0 t1 vt) mkI post := by
  have hin3 : ∀ w ∈ u_ws RX3 TX3 2, w ∈ wsX3_signAt := by decide +kernel
  have hl_15 : Cond.fieldLink RX3 15 (TX3 1).1 (TX3 1).2.1 (TX3 1).2.2.1 ∈ wsX3_signAt := by decide +kernel
  have hl_9 : Cond.fieldLink RX3 9 (TX3 0).1 (TX3 0).2.1 (TX3 0).2.2.1 ∈ wsX3_signAt := by decide +kernel
  refine enterR (own := RX3) (cc := cX3_signAt) (nL := 2) (ret := (some .char)) (lv := [(0, .ref t0), (1, .int p0)]) (by decide) rfl rfl (Nat.le_of_ble_eq_true rfl) rfl (fun X hX hR => ?_)
  unfold wp_X3_signAt at hf
  refine j_iload_n (pc' := 1) hX dX3_signAt_0 rfl 1 rfl rfl ?_
  refine j_if_lt (tgt := 30) (pc' := 4) hX dX3_signAt_1 (by decide) rfl hf (fun hf => ?_) (fun hf => ?_)
  · refine j_iconst (pc' := 31) (v := 0) hX dX3_signAt_30 (by decide) rfl ?_
    exact j_zret hX hR rfl dX3_signAt_31 ⟨_, rfl, hf⟩
  · refine j_iload_n (pc' := 5) hX dX3_signAt_4 rfl 1 rfl rfl ?_
    refine j_aload_n (pc' := 6) hX dX3_signAt_5 rfl 0 rfl rfl ?_
    refine j_get (ci := 3) (pc' := 9) hX hin3 rfl 0 rfl 1 (by decide) hl_15 rfl dX3_signAt_6 rfl ?_
    refine j_icmp_ge (tgt := 30) (pc' := 12) hX dX3_signAt_9 (by decide) rfl hf (fun hf => ?_) (fun hf => ?_)
    · refine j_iconst (pc' := 31) (v := 0) hX dX3_signAt_30 (by decide) rfl ?_
      exact j_zret hX hR rfl dX3_signAt_31 ⟨_, rfl, hf⟩
    · refine j_iload_n (pc' := 13) hX dX3_signAt_12 rfl 1 rfl rfl ?_
      refine j_aload_n (pc' := 14) hX dX3_signAt_13 rfl 0 rfl rfl ?_
      refine j_get (ci := 3) (pc' := 17) hX hin3 rfl 0 rfl 0 (by decide) hl_9 rfl dX3_signAt_14 rfl ?_
      refine j_alen (v := 60) (pc' := 18) hX 1 1 rfl rfl (show Int32.ofNat 60 = 60 from by decide) dX3_signAt_17 rfl ?_
      refine j_icmp_ge (tgt := 30) (pc' := 21) hX dX3_signAt_18 (by decide) rfl hf (fun hf => ?_) (fun hf => ?_)
      · refine j_iconst (pc' := 31) (v := 0) hX dX3_signAt_30 (by decide) rfl ?_
        exact j_zret hX hR rfl dX3_signAt_31 ⟨_, rfl, hf⟩
      · refine j_aload_n (pc' := 22) hX dX3_signAt_21 rfl 0 rfl rfl ?_
        refine j_get (ci := 3) (pc' := 25) hX hin3 rfl 0 rfl 0 (by decide) hl_9 rfl dX3_signAt_22 rfl ?_
        refine j_iload_n (pc' := 26) hX dX3_signAt_25 rfl 1 rfl rfl ?_
        refine j_cald (pc' := 27) hX 1 rfl dX3_signAt_26 hf rfl (fun hf => ?_)
        refine j_goto (tgt := 31) hX dX3_signAt_27 (by decide) ?_
        exact j_zret hX hR hf.1 dX3_signAt_31 ⟨_, rfl, hf.2⟩
def wp_X3_isCourse (p0 : Int32) (post : Int32 → Prop) : Prop :=
  ((p0 < 97 → post 0) ∧ (¬ p0 < 97 → ((102 < p0 → post 0) ∧ (¬ 102 < p0 → post 1))))
theorem yoX3_isCourse : yOk yX3_isCourse 1 := by decide +kernel
set_option maxHeartbeats 4000000 in
set_option maxRecDepth 100000 in
theorem met_X3_isCourse (l : Launch) (g : JG) (p0 : Int32) (post : Int32 → Prop) (hf : wp_X3_isCourse p0 post) : MetR l yX3_isCourse wsX3_isCourse ({ frames := 0, cells := 0, slots := 0, locals := 0 } : Room) [.int p0] g ([] : va_W) mkI post := by
  refine enterR (own := RX3) (cc := cX3_isCourse) (nL := 1) (ret := (some .boolean)) (lv := [(0, .int p0)]) (by decide) rfl rfl (Nat.le_of_ble_eq_true rfl) rfl (fun X hX hR => ?_)
  unfold wp_X3_isCourse at hf
  refine j_iload_n (pc' := 1) hX dX3_isCourse_0 rfl 0 rfl rfl ?_
  refine j_bipush (pc' := 3) (v := 97) hX dX3_isCourse_1 (by decide) rfl ?_
  refine j_icmp_lt (tgt := 16) (pc' := 6) hX dX3_isCourse_3 (by decide) rfl hf (fun hf => ?_) (fun hf => ?_)
  · refine j_iconst (pc' := 17) (v := 0) hX dX3_isCourse_16 (by decide) rfl ?_
    exact j_zret hX hR rfl dX3_isCourse_17 ⟨_, rfl, hf⟩
  · refine j_iload_n (pc' := 7) hX dX3_isCourse_6 rfl 0 rfl rfl ?_
    refine j_bipush (pc' := 9) (v := 102) hX dX3_isCourse_7 (by decide) rfl ?_
    refine j_icmp_gt (tgt := 16) (pc' := 12) hX dX3_isCourse_9 (by decide) rfl hf (fun hf => ?_) (fun hf => ?_)
    · refine j_iconst (pc' := 17) (v := 0) hX dX3_isCourse_16 (by decide) rfl ?_
      exact j_zret hX hR rfl dX3_isCourse_17 ⟨_, rfl, hf⟩
    · refine j_iconst (pc' := 13) (v := 1) hX dX3_isCourse_12 (by decide) rfl ?_
      refine j_goto (tgt := 17) hX dX3_isCourse_13 (by decide) ?_
      exact j_zret hX hR rfl dX3_isCourse_17 ⟨_, rfl, hf⟩
def wp_X3_isSize (p0 : Int32) (post : Int32 → Prop) : Prop :=
  ((p0 < 49 → post 0) ∧ (¬ p0 < 49 → ((54 < p0 → post 0) ∧ (¬ 54 < p0 → post 1))))
theorem yoX3_isSize : yOk yX3_isSize 1 := by decide +kernel
set_option maxHeartbeats 4000000 in
set_option maxRecDepth 100000 in
theorem met_X3_isSize (l : Launch) (g : JG) (p0 : Int32) (post : Int32 → Prop) (hf : wp_X3_isSize p0 post) : MetR l yX3_isSize wsX3_isSize ({ frames := 0, cells := 0, slots := 0, locals := 0 } : Room) [.int p0] g ([] : va_W) mkI post := by
  refine enterR (own := RX3) (cc := cX3_isSize) (nL := 1) (ret := (some .boolean)) (lv := [(0, .int p0)]) (by decide) rfl rfl (Nat.le_of_ble_eq_true rfl) rfl (fun X hX hR => ?_)
  unfold wp_X3_isSize at hf
  refine j_iload_n (pc' := 1) hX dX3_isSize_0 rfl 0 rfl rfl ?_
  refine j_bipush (pc' := 3) (v := 49) hX dX3_isSize_1 (by decide) rfl ?_
  refine j_icmp_lt (tgt := 16) (pc' := 6) hX dX3_isSize_3 (by decide) rfl hf (fun hf => ?_) (fun hf => ?_)
  · refine j_iconst (pc' := 17) (v := 0) hX dX3_isSize_16 (by decide) rfl ?_
    exact j_zret hX hR rfl dX3_isSize_17 ⟨_, rfl, hf⟩
  · refine j_iload_n (pc' := 7) hX dX3_isSize_6 rfl 0 rfl rfl ?_
    refine j_bipush (pc' := 9) (v := 54) hX dX3_isSize_7 (by decide) rfl ?_
    refine j_icmp_gt (tgt := 16) (pc' := 12) hX dX3_isSize_9 (by decide) rfl hf (fun hf => ?_) (fun hf => ?_)
    · refine j_iconst (pc' := 17) (v := 0) hX dX3_isSize_16 (by decide) rfl ?_
      exact j_zret hX hR rfl dX3_isSize_17 ⟨_, rfl, hf⟩
    · refine j_iconst (pc' := 13) (v := 1) hX dX3_isSize_12 (by decide) rfl ?_
      refine j_goto (tgt := 17) hX dX3_isSize_13 (by decide) ?_
      exact j_zret hX hR rfl dX3_isSize_17 ⟨_, rfl, hf⟩
def wp_X3_mayFollow (p0 : Int32) (p1 : Int32) (post : Int32 → Prop) : Prop :=
  ((p0 = 59 → (wp_X3_isCourse p1 (fun r7 => (narrow .boolean (.int r7) = .int r7 ∧ post r7)))) ∧ (¬ p0 = 59 → (wp_X3_isCourse p0 (fun r12 => ((r12 = 0 → (wp_X3_isSize p1 (fun r24 => ((r24 = 0 → ((p1 = 59 → post 1) ∧ (¬ p1 = 59 → ((p1 = 33 → (wp_X3_isSize p0 (fun r43 => ((r43 = 0 → post 0) ∧ (¬ r43 = 0 → post 1))))) ∧ (¬ p1 = 33 → post 0))))) ∧ (¬ r24 = 0 → post 1))))) ∧ (¬ r12 = 0 → (wp_X3_isSize p1 (fun r19 => (narrow .boolean (.int r19) = .int r19 ∧ post r19)))))))))
theorem yoX3_mayFollow : yOk yX3_mayFollow 2 := by decide +kernel
set_option maxHeartbeats 4000000 in
set_option maxRecDepth 100000 in
theorem met_X3_mayFollow (l : Launch) (g : JG) (p0 : Int32) (p1 : Int32) (post : Int32 → Prop) (hf : wp_X3_mayFollow p0 p1 post) : MetR l yX3_mayFollow wsX3_mayFollow ({ frames := 1, cells := 0, slots := 0, locals := 20 } : Room) [.int p0, .int p1] g ([] : va_W) mkI post := by
  refine enterR (own := RX3) (cc := cX3_mayFollow) (nL := 2) (ret := (some .boolean)) (lv := [(0, .int p0), (1, .int p1)]) (by decide) rfl rfl (Nat.le_of_ble_eq_true rfl) rfl (fun X hX hR => ?_)
  unfold wp_X3_mayFollow at hf
  refine j_iload_n (pc' := 1) hX dX3_mayFollow_0 rfl 0 rfl rfl ?_
  refine j_bipush (pc' := 3) (v := 59) hX dX3_mayFollow_1 (by decide) rfl ?_
  refine j_icmp_ne (tgt := 11) (pc' := 6) hX dX3_mayFollow_3 (by decide) rfl hf (fun hf => ?_) (fun hf => ?_)
  · refine j_iload_n (pc' := 12) hX dX3_mayFollow_11 rfl 0 rfl rfl ?_
    refine j_callSR (pc' := 15) (As := [.int p0]) (rest := []) (stk := fun r12 => [.int r12]) hX (fun l => met_X3_isCourse l g p0 _ hf) rfl gX3_mayFollow_X3_isCourse yoX3_isCourse rfl ⟨Nat.le_of_ble_eq_true rfl, Nat.le_of_ble_eq_true rfl⟩ ⟨⟨Nat.le_of_ble_eq_true rfl, Nat.le_of_ble_eq_true rfl⟩, rfl, rfl⟩ [] rfl (by decide) (Nat.le_of_ble_eq_true rfl) rfl (fun _ => rfl) dX3_mayFollow_12 rfl (fun r12 hf => ?_)
    refine j_if_eq (tgt := 23) (pc' := 18) hX dX3_mayFollow_15 (by decide) rfl hf (fun hf => ?_) (fun hf => ?_)
    · refine j_iload_n (pc' := 24) hX dX3_mayFollow_23 rfl 1 rfl rfl ?_
      refine j_callSR (pc' := 27) (As := [.int p1]) (rest := []) (stk := fun r24 => [.int r24]) hX (fun l => met_X3_isSize l g p1 _ hf) rfl gX3_mayFollow_X3_isSize yoX3_isSize rfl ⟨Nat.le_of_ble_eq_true rfl, Nat.le_of_ble_eq_true rfl⟩ ⟨⟨Nat.le_of_ble_eq_true rfl, Nat.le_of_ble_eq_true rfl⟩, rfl, rfl⟩ [] rfl (by decide) (Nat.le_of_ble_eq_true rfl) rfl (fun _ => rfl) dX3_mayFollow_24 rfl (fun r24 hf => ?_)
      refine j_if_ne (tgt := 49) (pc' := 30) hX dX3_mayFollow_27 (by decide) rfl hf (fun hf => ?_) (fun hf => ?_)
      · refine j_iconst (pc' := 50) (v := 1) hX dX3_mayFollow_49 (by decide) rfl ?_
        refine j_goto (tgt := 54) hX dX3_mayFollow_50 (by decide) ?_
        exact j_zret hX hR rfl dX3_mayFollow_54 ⟨_, rfl, hf⟩
      · refine j_iload_n (pc' := 31) hX dX3_mayFollow_30 rfl 1 rfl rfl ?_
        refine j_bipush (pc' := 33) (v := 59) hX dX3_mayFollow_31 (by decide) rfl ?_
        refine j_icmp_eq (tgt := 49) (pc' := 36) hX dX3_mayFollow_33 (by decide) rfl hf (fun hf => ?_) (fun hf => ?_)
        · refine j_iconst (pc' := 50) (v := 1) hX dX3_mayFollow_49 (by decide) rfl ?_
          refine j_goto (tgt := 54) hX dX3_mayFollow_50 (by decide) ?_
          exact j_zret hX hR rfl dX3_mayFollow_54 ⟨_, rfl, hf⟩
        · refine j_iload_n (pc' := 37) hX dX3_mayFollow_36 rfl 1 rfl rfl ?_
          refine j_bipush (pc' := 39) (v := 33) hX dX3_mayFollow_37 (by decide) rfl ?_
          refine j_icmp_ne (tgt := 53) (pc' := 42) hX dX3_mayFollow_39 (by decide) rfl hf (fun hf => ?_) (fun hf => ?_)
          · refine j_iconst (pc' := 54) (v := 0) hX dX3_mayFollow_53 (by decide) rfl ?_
            exact j_zret hX hR rfl dX3_mayFollow_54 ⟨_, rfl, hf⟩
          · refine j_iload_n (pc' := 43) hX dX3_mayFollow_42 rfl 0 rfl rfl ?_
            refine j_callSR (pc' := 46) (As := [.int p0]) (rest := []) (stk := fun r43 => [.int r43]) hX (fun l => met_X3_isSize l g p0 _ hf) rfl gX3_mayFollow_X3_isSize yoX3_isSize rfl ⟨Nat.le_of_ble_eq_true rfl, Nat.le_of_ble_eq_true rfl⟩ ⟨⟨Nat.le_of_ble_eq_true rfl, Nat.le_of_ble_eq_true rfl⟩, rfl, rfl⟩ [] rfl (by decide) (Nat.le_of_ble_eq_true rfl) rfl (fun _ => rfl) dX3_mayFollow_43 rfl (fun r43 hf => ?_)
            refine j_if_eq (tgt := 53) (pc' := 49) hX dX3_mayFollow_46 (by decide) rfl hf (fun hf => ?_) (fun hf => ?_)
            · refine j_iconst (pc' := 54) (v := 0) hX dX3_mayFollow_53 (by decide) rfl ?_
              exact j_zret hX hR rfl dX3_mayFollow_54 ⟨_, rfl, hf⟩
            · refine j_iconst (pc' := 50) (v := 1) hX dX3_mayFollow_49 (by decide) rfl ?_
              refine j_goto (tgt := 54) hX dX3_mayFollow_50 (by decide) ?_
              exact j_zret hX hR rfl dX3_mayFollow_54 ⟨_, rfl, hf⟩
    · refine j_iload_n (pc' := 19) hX dX3_mayFollow_18 rfl 1 rfl rfl ?_
      refine j_callSR (pc' := 22) (As := [.int p1]) (rest := []) (stk := fun r19 => [.int r19]) hX (fun l => met_X3_isSize l g p1 _ hf) rfl gX3_mayFollow_X3_isSize yoX3_isSize rfl ⟨Nat.le_of_ble_eq_true rfl, Nat.le_of_ble_eq_true rfl⟩ ⟨⟨Nat.le_of_ble_eq_true rfl, Nat.le_of_ble_eq_true rfl⟩, rfl, rfl⟩ [] rfl (by decide) (Nat.le_of_ble_eq_true rfl) rfl (fun _ => rfl) dX3_mayFollow_19 rfl (fun r19 hf => ?_)
      exact j_zret hX hR hf.1 dX3_mayFollow_22 ⟨_, rfl, hf.2⟩
  · refine j_iload_n (pc' := 7) hX dX3_mayFollow_6 rfl 1 rfl rfl ?_
    refine j_callSR (pc' := 10) (As := [.int p1]) (rest := []) (stk := fun r7 => [.int r7]) hX (fun l => met_X3_isCourse l g p1 _ hf) rfl gX3_mayFollow_X3_isCourse yoX3_isCourse rfl ⟨Nat.le_of_ble_eq_true rfl, Nat.le_of_ble_eq_true rfl⟩ ⟨⟨Nat.le_of_ble_eq_true rfl, Nat.le_of_ble_eq_true rfl⟩, rfl, rfl⟩ [] rfl (by decide) (Nat.le_of_ble_eq_true rfl) rfl (fun _ => rfl) dX3_mayFollow_7 rfl (fun r7 hf => ?_)
    exact j_zret hX hR hf.1 dX3_mayFollow_10 ⟨_, rfl, hf.2⟩
def wp_X3_wrongAt_L5 (vt : Tx) (K5_27 : Int32 → Prop) (K5_37 : Prop) : Nat → Int32 → Int32 → Prop
  | 0, _, _ => False
  | N5 + 1, x1_5, x2_5 =>
  ((vt.2 ≤ x2_5 → K5_37) ∧ (¬ vt.2 ≤ x2_5 → (wp_X3_signAt vt x2_5 (fun r15 => (wp_X3_mayFollow x1_5 r15 (fun r21 => ((r21 = 0 → K5_27 x2_5) ∧ (¬ r21 = 0 → (wp_X3_wrongAt_L5 vt K5_27 K5_37 N5) r15 (x2_5 + 1)))))))))
def wp_X3_wrongAt (vt : Tx) (post : Int32 → Prop) : Prop :=
  (∃ N : Nat, wp_X3_wrongAt_L5 vt (fun (e1 : Int32) => post e1) (post vt.2) N 59 0)
theorem yoX3_wrongAt : yOk yX3_wrongAt 0 := by decide +kernel
set_option maxHeartbeats 4000000 in
set_option maxRecDepth 100000 in
theorem met_X3_wrongAt (l : Launch) (g : JG) (t0 : Nat) (t1 : Nat) (vt : Tx) (post : Int32 → Prop) (hf : wp_X3_wrongAt vt post) : MetR l yX3_wrongAt wsX3_wrongAt ({ frames := 2, cells := 0, slots := 0, locals := 41 } : Room) [.ref t0] g (TxW g t0 t1 vt) mkI post := by
  have hin3 : ∀ w ∈ u_ws RX3 TX3 2, w ∈ wsX3_wrongAt := by decide +kernel
  have hl_15 : Cond.fieldLink RX3 15 (TX3 1).1 (TX3 1).2.1 (TX3 1).2.2.1 ∈ wsX3_wrongAt := by decide +kernel
  refine enterR (own := RX3) (cc := cX3_wrongAt) (nL := 4) (ret := (some .int)) (lv := [(0, .ref t0)]) (by decide) rfl rfl (Nat.le_of_ble_eq_true rfl) rfl (fun X hX hR => ?_)
  unfold wp_X3_wrongAt at hf
  refine j_bipush (pc' := 2) (v := 59) hX dX3_wrongAt_0 (by decide) rfl ?_
  refine j_istore_n (pc' := 3) (lv' := [(1, .int 59), (0, .ref t0)]) hX dX3_wrongAt_2 rfl (by decide) rfl rfl ?_
  refine j_iconst (pc' := 4) (v := 0) hX dX3_wrongAt_3 (by decide) rfl ?_
  refine j_istore_n (pc' := 5) (lv' := [(2, .int 0), (1, .int 59), (0, .ref t0)]) hX dX3_wrongAt_4 rfl (by decide) rfl rfl ?_
  obtain ⟨N5, hf⟩ := hf
  have L5 : ∀ (K5_27 : Int32 → Prop) (K5_37 : Prop), (∀ (x2_5 : Int32), K5_27 x2_5 → J g X 0 0 (TxW g t0 t1 vt) [(2, .int x2_5)] [] 27) → (K5_37 → J g X 0 0 (TxW g t0 t1 vt) [(0, .ref t0)] [] 37) → ∀ (N5 : Nat) (x1_5 : Int32) (x2_5 : Int32), wp_X3_wrongAt_L5 vt K5_27 K5_37 N5 x1_5 x2_5 → J g X 0 0 (TxW g t0 t1 vt) [(0, .ref t0), (1, .int x1_5), (2, .int x2_5)] [] 5 := by
    intro K5_27 K5_37 hK5_27 hK5_37 N5
    induction N5 with
    | zero => intro x1_5 x2_5 hf; exact False.elim hf
    | succ N5 ih5 =>
      intro x1_5 x2_5 hf
      refine j_iload_n (pc' := 6) hX dX3_wrongAt_5 rfl 2 rfl rfl ?_
      refine j_aload_n (pc' := 7) hX dX3_wrongAt_6 rfl 0 rfl rfl ?_
      refine j_get (ci := 3) (pc' := 10) hX hin3 rfl 0 rfl 1 (by decide) hl_15 rfl dX3_wrongAt_7 rfl ?_
      refine j_icmp_ge (tgt := 37) (pc' := 13) hX dX3_wrongAt_10 (by decide) rfl hf (fun hf => ?_) (fun hf => ?_)
      · refine J_sub (lv' := [(0, .ref t0)]) [0] rfl ?_
        exact hK5_37 hf
      · refine j_aload_n (pc' := 14) hX dX3_wrongAt_13 rfl 0 rfl rfl ?_
        refine j_iload_n (pc' := 15) hX dX3_wrongAt_14 rfl 2 rfl rfl ?_
        refine j_callVR (ci := 3) (pc' := 18) (As := [.int x2_5]) (rest := []) (stk := fun r15 => [.int r15]) hX (fun l => met_X3_signAt l g t0 t1 vt x2_5 _ hf) rfl gX3_wrongAt_X3_signAt yoX3_signAt rfl ⟨Nat.le_of_ble_eq_true rfl, Nat.le_of_ble_eq_true rfl⟩ ⟨⟨Nat.le_of_ble_eq_true rfl, Nat.le_of_ble_eq_true rfl⟩, rfl, rfl⟩ 0 rfl rfl [0, 1] rfl (by decide) (Nat.le_of_ble_eq_true rfl) rfl (fun _ => rfl) dX3_wrongAt_15 rfl (fun r15 hf => ?_)
        refine j_istore_n (pc' := 19) (lv' := [(3, .int r15), (0, .ref t0), (1, .int x1_5), (2, .int x2_5)]) hX dX3_wrongAt_18 rfl (by decide) rfl rfl ?_
        refine j_iload_n (pc' := 20) hX dX3_wrongAt_19 rfl 2 rfl rfl ?_
        refine j_iload_n (pc' := 21) hX dX3_wrongAt_20 rfl 0 rfl rfl ?_
        refine j_callSR (pc' := 24) (As := [.int x1_5, .int r15]) (rest := []) (stk := fun r21 => [.int r21]) hX (fun l => met_X3_mayFollow l g x1_5 r15 _ hf) rfl gX3_wrongAt_X3_mayFollow yoX3_mayFollow rfl ⟨Nat.le_of_ble_eq_true rfl, Nat.le_of_ble_eq_true rfl⟩ ⟨⟨Nat.le_of_ble_eq_true rfl, Nat.le_of_ble_eq_true rfl⟩, rfl, rfl⟩ [] rfl (by decide) (Nat.le_of_ble_eq_true rfl) rfl (fun _ => rfl) dX3_wrongAt_21 rfl (fun r21 hf => ?_)
        refine j_if_ne (tgt := 29) (pc' := 27) hX dX3_wrongAt_24 (by decide) rfl hf (fun hf => ?_) (fun hf => ?_)
        · refine j_iload_n (pc' := 30) hX dX3_wrongAt_29 rfl 0 rfl rfl ?_
          refine j_istore_n (pc' := 31) (lv' := [(1, .int r15), (3, .int r15), (0, .ref t0), (2, .int x2_5)]) hX dX3_wrongAt_30 rfl (by decide) rfl rfl ?_
          refine j_iinc (pc' := 34) (cst := 1) (v := (x2_5 + 1)) (lv' := [(2, .int (x2_5 + 1)), (1, .int r15), (3, .int r15), (0, .ref t0)]) hX dX3_wrongAt_31 (by decide) rfl 3 rfl (by decide) rfl rfl ?_
          refine j_goto (tgt := 5) hX dX3_wrongAt_34 (by decide) ?_
          refine J_sub (lv' := [(0, .ref t0), (1, .int r15), (2, .int (x2_5 + 1))]) [3, 1, 0] rfl ?_
          exact ih5 r15 (x2_5 + 1) hf
        · refine J_sub (lv' := [(2, .int x2_5)]) [3] rfl ?_
          exact hK5_27 x2_5 hf
  refine J_sub (lv' := [(0, .ref t0), (1, .int 59), (2, .int 0)]) [2, 1, 0] rfl ?_
  refine L5 _ _ (fun e1 hf => ?_) (fun hf => ?_) N5 59 0 hf
  · refine j_iload_n (pc' := 28) hX dX3_wrongAt_27 rfl 0 rfl rfl ?_
    exact j_iret hX hR dX3_wrongAt_28 ⟨_, rfl, hf⟩
  · refine j_aload_n (pc' := 38) hX dX3_wrongAt_37 rfl 0 rfl rfl ?_
    refine j_get (ci := 3) (pc' := 41) hX hin3 rfl 0 rfl 1 (by decide) hl_15 rfl dX3_wrongAt_38 rfl ?_
    exact j_iret hX hR dX3_wrongAt_41 ⟨_, rfl, hf⟩
def wp_X3_isComplete (vt : Tx) (post : Int32 → Prop) : Prop :=
  (wp_X3_signAt vt (vt.2 - 1) (fun r7 => (wp_X3_isSize r7 (fun r12 => ((r12 = 0 → ((r7 = 33 → (wp_X3_wrongAt vt (fun r25 => ((r25 = vt.2 → post 1) ∧ (¬ r25 = vt.2 → post 0))))) ∧ (¬ r7 = 33 → post 0))) ∧ (¬ r12 = 0 → (wp_X3_wrongAt vt (fun r25 => ((r25 = vt.2 → post 1) ∧ (¬ r25 = vt.2 → post 0))))))))))
theorem yoX3_isComplete : yOk yX3_isComplete 0 := by decide +kernel
set_option maxHeartbeats 4000000 in
set_option maxRecDepth 100000 in
theorem met_X3_isComplete (l : Launch) (g : JG) (t0 : Nat) (t1 : Nat) (vt : Tx) (post : Int32 → Prop) (hf : wp_X3_isComplete vt post) : MetR l yX3_isComplete wsX3_isComplete ({ frames := 3, cells := 0, slots := 0, locals := 64 } : Room) [.ref t0] g (TxW g t0 t1 vt) mkI post := by
  have hin3 : ∀ w ∈ u_ws RX3 TX3 2, w ∈ wsX3_isComplete := by decide +kernel
  have hl_15 : Cond.fieldLink RX3 15 (TX3 1).1 (TX3 1).2.1 (TX3 1).2.2.1 ∈ wsX3_isComplete := by decide +kernel
  refine enterR (own := RX3) (cc := cX3_isComplete) (nL := 2) (ret := (some .boolean)) (lv := [(0, .ref t0)]) (by decide) rfl rfl (Nat.le_of_ble_eq_true rfl) rfl (fun X hX hR => ?_)
  unfold wp_X3_isComplete at hf
  refine j_aload_n (pc' := 1) hX dX3_isComplete_0 rfl 0 rfl rfl ?_
  refine j_aload_n (pc' := 2) hX dX3_isComplete_1 rfl 0 rfl rfl ?_
  refine j_get (ci := 3) (pc' := 5) hX hin3 rfl 0 rfl 1 (by decide) hl_15 rfl dX3_isComplete_2 rfl ?_
  refine j_iconst (pc' := 6) (v := 1) hX dX3_isComplete_5 (by decide) rfl ?_
  refine j_isub (pc' := 7) hX dX3_isComplete_6 rfl ?_
  refine j_callVR (ci := 3) (pc' := 10) (As := [.int (vt.2 - 1)]) (rest := []) (stk := fun r7 => [.int r7]) hX (fun l => met_X3_signAt l g t0 t1 vt (vt.2 - 1) _ hf) rfl gX3_isComplete_X3_signAt yoX3_signAt rfl ⟨Nat.le_of_ble_eq_true rfl, Nat.le_of_ble_eq_true rfl⟩ ⟨⟨Nat.le_of_ble_eq_true rfl, Nat.le_of_ble_eq_true rfl⟩, rfl, rfl⟩ 0 rfl rfl [0, 1] rfl (by decide) (Nat.le_of_ble_eq_true rfl) rfl (fun _ => rfl) dX3_isComplete_7 rfl (fun r7 hf => ?_)
  refine j_istore_n (pc' := 11) (lv' := [(1, .int r7), (0, .ref t0)]) hX dX3_isComplete_10 rfl (by decide) rfl rfl ?_
  refine j_iload_n (pc' := 12) hX dX3_isComplete_11 rfl 0 rfl rfl ?_
  refine j_callSR (pc' := 15) (As := [.int r7]) (rest := []) (stk := fun r12 => [.int r12]) hX (fun l => met_X3_isSize l g r7 _ hf) rfl gX3_isComplete_X3_isSize yoX3_isSize rfl ⟨Nat.le_of_ble_eq_true rfl, Nat.le_of_ble_eq_true rfl⟩ ⟨⟨Nat.le_of_ble_eq_true rfl, Nat.le_of_ble_eq_true rfl⟩, rfl, rfl⟩ [] rfl (by decide) (Nat.le_of_ble_eq_true rfl) rfl (fun _ => rfl) dX3_isComplete_12 rfl (fun r12 hf => ?_)
  refine j_if_ne (tgt := 24) (pc' := 18) hX dX3_isComplete_15 (by decide) rfl hf (fun hf => ?_) (fun hf => ?_)
  · refine j_aload_n (pc' := 25) hX dX3_isComplete_24 rfl 1 rfl rfl ?_
    refine j_callVR (ci := 3) (pc' := 28) (As := []) (rest := []) (stk := fun r25 => [.int r25]) hX (fun l => met_X3_wrongAt l g t0 t1 vt _ hf) rfl gX3_isComplete_X3_wrongAt yoX3_wrongAt rfl ⟨Nat.le_of_ble_eq_true rfl, Nat.le_of_ble_eq_true rfl⟩ ⟨⟨Nat.le_of_ble_eq_true rfl, Nat.le_of_ble_eq_true rfl⟩, rfl, rfl⟩ 0 rfl rfl [0, 1] rfl (by decide) (Nat.le_of_ble_eq_true rfl) rfl (fun _ => rfl) dX3_isComplete_25 rfl (fun r25 hf => ?_)
    refine j_aload_n (pc' := 29) hX dX3_isComplete_28 rfl 1 rfl rfl ?_
    refine j_get (ci := 3) (pc' := 32) hX hin3 rfl 0 rfl 1 (by decide) hl_15 rfl dX3_isComplete_29 rfl ?_
    refine j_icmp_ne (tgt := 39) (pc' := 35) hX dX3_isComplete_32 (by decide) rfl hf (fun hf => ?_) (fun hf => ?_)
    · refine j_iconst (pc' := 40) (v := 0) hX dX3_isComplete_39 (by decide) rfl ?_
      exact j_zret hX hR rfl dX3_isComplete_40 ⟨_, rfl, hf⟩
    · refine j_iconst (pc' := 36) (v := 1) hX dX3_isComplete_35 (by decide) rfl ?_
      refine j_goto (tgt := 40) hX dX3_isComplete_36 (by decide) ?_
      exact j_zret hX hR rfl dX3_isComplete_40 ⟨_, rfl, hf⟩
  · refine j_iload_n (pc' := 19) hX dX3_isComplete_18 rfl 0 rfl rfl ?_
    refine j_bipush (pc' := 21) (v := 33) hX dX3_isComplete_19 (by decide) rfl ?_
    refine j_icmp_ne (tgt := 39) (pc' := 24) hX dX3_isComplete_21 (by decide) rfl hf (fun hf => ?_) (fun hf => ?_)
    · refine j_iconst (pc' := 40) (v := 0) hX dX3_isComplete_39 (by decide) rfl ?_
      exact j_zret hX hR rfl dX3_isComplete_40 ⟨_, rfl, hf⟩
    · refine j_aload_n (pc' := 25) hX dX3_isComplete_24 rfl 1 rfl rfl ?_
      refine j_callVR (ci := 3) (pc' := 28) (As := []) (rest := []) (stk := fun r25 => [.int r25]) hX (fun l => met_X3_wrongAt l g t0 t1 vt _ hf) rfl gX3_isComplete_X3_wrongAt yoX3_wrongAt rfl ⟨Nat.le_of_ble_eq_true rfl, Nat.le_of_ble_eq_true rfl⟩ ⟨⟨Nat.le_of_ble_eq_true rfl, Nat.le_of_ble_eq_true rfl⟩, rfl, rfl⟩ 0 rfl rfl [0, 1] rfl (by decide) (Nat.le_of_ble_eq_true rfl) rfl (fun _ => rfl) dX3_isComplete_25 rfl (fun r25 hf => ?_)
      refine j_aload_n (pc' := 29) hX dX3_isComplete_28 rfl 1 rfl rfl ?_
      refine j_get (ci := 3) (pc' := 32) hX hin3 rfl 0 rfl 1 (by decide) hl_15 rfl dX3_isComplete_29 rfl ?_
      refine j_icmp_ne (tgt := 39) (pc' := 35) hX dX3_isComplete_32 (by decide) rfl hf (fun hf => ?_) (fun hf => ?_)
      · refine j_iconst (pc' := 40) (v := 0) hX dX3_isComplete_39 (by decide) rfl ?_
        exact j_zret hX hR rfl dX3_isComplete_40 ⟨_, rfl, hf⟩
      · refine j_iconst (pc' := 36) (v := 1) hX dX3_isComplete_35 (by decide) rfl ?_
        refine j_goto (tgt := 40) hX dX3_isComplete_36 (by decide) ?_
        exact j_zret hX hR rfl dX3_isComplete_40 ⟨_, rfl, hf⟩
