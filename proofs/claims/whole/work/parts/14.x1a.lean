theorem in6 {x : Int32} (h : vp_in x 6) : x = 0 ∨ x = 1 ∨ x = 2 ∨ x = 3 ∨ x = 4 ∨ x = 5 := by
  obtain ⟨j, hj, rfl⟩ := vp_in_of h (by decide)
  rcases (show j = 0 ∨ j = 1 ∨ j = 2 ∨ j = 3 ∨ j = 4 ∨ j = 5 by omega) with rfl | rfl | rfl | rfl | rfl | rfl <;> decide
def wp_X1_size (vh : Hi) (post : Int32 → Prop) : Prop :=
  post vh.2.1
theorem yoX1_size : yOk yX1_size 0 := by decide +kernel
set_option maxHeartbeats 4000000 in
set_option maxRecDepth 100000 in
theorem met_X1_size (l : Launch) (g : JG) (ha : Nat → Nat) (vh : Hi) (post : Int32 → Prop) (hf : wp_X1_size vh post) : MetR l yX1_size wsX1_size ({ frames := 0, cells := 0, slots := 0, locals := 0 } : Room) [.ref (ha 0)] g ((HiB g ha vh).flatten) mkI post := by
  have hin1 : ∀ w ∈ u_ws RX1 TX1 3, w ∈ wsX1_size := by decide +kernel
  have hl_18 : Cond.fieldLink RX1 18 (TX1 2).1 (TX1 2).2.1 (TX1 2).2.2.1 ∈ wsX1_size := by decide +kernel
  refine enterR (own := RX1) (cc := cX1_size) (nL := 1) (ret := (some .int)) (lv := [(0, .ref (ha 0))]) (by decide) rfl rfl (Nat.le_of_ble_eq_true rfl) rfl (fun X hX hR => ?_)
  unfold wp_X1_size at hf
  refine j_aload_n (pc' := 1) hX dX1_size_0 rfl 0 rfl rfl ?_
  refine j_get (ci := 1) (pc' := 4) hX hin1 rfl 0 rfl 2 (by decide) hl_18 rfl dX1_size_1 rfl ?_
  exact j_iret hX hR dX1_size_4 ⟨_, rfl, hf⟩
def wp_X1_placeAt (ha : Nat → Nat) (vh : Hi) (p0 : Int32) (post : (Option Nat) → Prop) : Prop :=
  ((p0 < 0 → post none) ∧ (¬ p0 < 0 → ((6 ≤ p0 → post none) ∧ (¬ 6 ≤ p0 → (vp_in p0 6 ∧ post (hiF ha p0.toNatClampNeg))))))
theorem yoX1_placeAt : yOk yX1_placeAt 1 := by decide +kernel
set_option maxHeartbeats 4000000 in
set_option maxRecDepth 100000 in
theorem met_X1_placeAt (l : Launch) (g : JG) (ha : Nat → Nat) (vh : Hi) (p0 : Int32) (post : (Option Nat) → Prop) (hf : wp_X1_placeAt ha vh p0 post) : MetR l yX1_placeAt wsX1_placeAt ({ frames := 0, cells := 0, slots := 0, locals := 0 } : Room) [.ref (ha 0), .int p0] g ((HiB g ha vh).flatten) mkQ post := by
  have hin1 : ∀ w ∈ u_ws RX1 TX1 3, w ∈ wsX1_placeAt := by decide +kernel
  have hl_11 : Cond.fieldLink RX1 11 (TX1 0).1 (TX1 0).2.1 (TX1 0).2.2.1 ∈ wsX1_placeAt := by decide +kernel
  refine enterR (own := RX1) (cc := cX1_placeAt) (nL := 2) (ret := (some (.object "PebbleCourses$Mosaic"))) (lv := [(0, .ref (ha 0)), (1, .int p0)]) (by decide) rfl rfl (Nat.le_of_ble_eq_true rfl) rfl (fun X hX hR => ?_)
  unfold wp_X1_placeAt at hf
  refine j_iload_n (pc' := 1) hX dX1_placeAt_0 rfl 1 rfl rfl ?_
  refine j_if_lt (tgt := 22) (pc' := 4) hX dX1_placeAt_1 (by decide) rfl hf (fun hf => ?_) (fun hf => ?_)
  · refine j_null (pc' := 23) hX dX1_placeAt_22 rfl ?_
    exact j_aret (r := none) hX hR dX1_placeAt_23 ⟨_, rfl, hf⟩
  · refine j_iload_n (pc' := 5) hX dX1_placeAt_4 rfl 1 rfl rfl ?_
    refine j_aload_n (pc' := 6) hX dX1_placeAt_5 rfl 0 rfl rfl ?_
    refine j_get (ci := 1) (pc' := 9) hX hin1 rfl 0 rfl 0 (by decide) hl_11 rfl dX1_placeAt_6 rfl ?_
    refine j_alen (v := 6) (pc' := 10) hX 1 3 rfl rfl (show Int32.ofNat 6 = 6 from by decide) dX1_placeAt_9 rfl ?_
    refine j_icmp_ge (tgt := 22) (pc' := 13) hX dX1_placeAt_10 (by decide) rfl hf (fun hf => ?_) (fun hf => ?_)
    · refine j_null (pc' := 23) hX dX1_placeAt_22 rfl ?_
      exact j_aret (r := none) hX hR dX1_placeAt_23 ⟨_, rfl, hf⟩
    · refine j_aload_n (pc' := 14) hX dX1_placeAt_13 rfl 0 rfl rfl ?_
      refine j_get (ci := 1) (pc' := 17) hX hin1 rfl 0 rfl 0 (by decide) hl_11 rfl dX1_placeAt_14 rfl ?_
      refine j_iload_n (pc' := 18) hX dX1_placeAt_17 rfl 1 rfl rfl ?_
      refine j_aald (pc' := 19) hX 1 rfl dX1_placeAt_18 hf rfl (fun hf => ?_)
      refine j_goto (tgt := 23) hX dX1_placeAt_19 (by decide) ?_
      exact j_aret (r := (hiF ha p0.toNatClampNeg)) hX hR dX1_placeAt_23 ⟨_, rfl, hf⟩
theorem pl_0 (ha : Nat → Nat) (v : Hi) : wp_X1_placeAt ha v 0 (fun r => r = some (ha 2)) :=
  ⟨fun h => absurd h (by decide), fun _ => ⟨fun h => absurd h (by decide), fun _ => ⟨by unfold vp_in; decide, rfl⟩⟩⟩
theorem pl_1 (ha : Nat → Nat) (v : Hi) : wp_X1_placeAt ha v 1 (fun r => r = some (ha 7)) :=
  ⟨fun h => absurd h (by decide), fun _ => ⟨fun h => absurd h (by decide), fun _ => ⟨by unfold vp_in; decide, rfl⟩⟩⟩
theorem pl_2 (ha : Nat → Nat) (v : Hi) : wp_X1_placeAt ha v 2 (fun r => r = some (ha 12)) :=
  ⟨fun h => absurd h (by decide), fun _ => ⟨fun h => absurd h (by decide), fun _ => ⟨by unfold vp_in; decide, rfl⟩⟩⟩
theorem pl_3 (ha : Nat → Nat) (v : Hi) : wp_X1_placeAt ha v 3 (fun r => r = some (ha 17)) :=
  ⟨fun h => absurd h (by decide), fun _ => ⟨fun h => absurd h (by decide), fun _ => ⟨by unfold vp_in; decide, rfl⟩⟩⟩
theorem pl_4 (ha : Nat → Nat) (v : Hi) : wp_X1_placeAt ha v 4 (fun r => r = some (ha 22)) :=
  ⟨fun h => absurd h (by decide), fun _ => ⟨fun h => absurd h (by decide), fun _ => ⟨by unfold vp_in; decide, rfl⟩⟩⟩
theorem pl_5 (ha : Nat → Nat) (v : Hi) : wp_X1_placeAt ha v 5 (fun r => r = some (ha 27)) :=
  ⟨fun h => absurd h (by decide), fun _ => ⟨fun h => absurd h (by decide), fun _ => ⟨by unfold vp_in; decide, rfl⟩⟩⟩
