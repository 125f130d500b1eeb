def wp_X1_save (vh : Hi) (vm : Mo) (post : Hi → Prop) : Prop :=
  (vp_in vh.1 6 ∧ (vh.1 = 0 → (wp_X2_become (vh.2.2 0) vm (fun u16_1 => (∀ vh_2 : Hi, vh_2 = hi_n (hi_s vh 0 (u16_1)) ((((hi_s vh 0 (u16_1)).1 + 1) - ((hi_s vh 0 (u16_1)).1 + 1) / 6 * 6)) → (∀ vh_3 : Hi, vh_3 = hi_m vh_2 ((if 6 < (vh_2.2.1 + 1) then (6 : Int32) else (vh_2.2.1 + 1))) → post vh_3))))) ∧ (vh.1 = 1 → (wp_X2_become (vh.2.2 1) vm (fun u16_4 => (∀ vh_5 : Hi, vh_5 = hi_n (hi_s vh 1 (u16_4)) ((((hi_s vh 1 (u16_4)).1 + 1) - ((hi_s vh 1 (u16_4)).1 + 1) / 6 * 6)) → (∀ vh_6 : Hi, vh_6 = hi_m vh_5 ((if 6 < (vh_5.2.1 + 1) then (6 : Int32) else (vh_5.2.1 + 1))) → post vh_6))))) ∧ (vh.1 = 2 → (wp_X2_become (vh.2.2 2) vm (fun u16_7 => (∀ vh_8 : Hi, vh_8 = hi_n (hi_s vh 2 (u16_7)) ((((hi_s vh 2 (u16_7)).1 + 1) - ((hi_s vh 2 (u16_7)).1 + 1) / 6 * 6)) → (∀ vh_9 : Hi, vh_9 = hi_m vh_8 ((if 6 < (vh_8.2.1 + 1) then (6 : Int32) else (vh_8.2.1 + 1))) → post vh_9))))) ∧ (vh.1 = 3 → (wp_X2_become (vh.2.2 3) vm (fun u16_10 => (∀ vh_11 : Hi, vh_11 = hi_n (hi_s vh 3 (u16_10)) ((((hi_s vh 3 (u16_10)).1 + 1) - ((hi_s vh 3 (u16_10)).1 + 1) / 6 * 6)) → (∀ vh_12 : Hi, vh_12 = hi_m vh_11 ((if 6 < (vh_11.2.1 + 1) then (6 : Int32) else (vh_11.2.1 + 1))) → post vh_12))))) ∧ (vh.1 = 4 → (wp_X2_become (vh.2.2 4) vm (fun u16_13 => (∀ vh_14 : Hi, vh_14 = hi_n (hi_s vh 4 (u16_13)) ((((hi_s vh 4 (u16_13)).1 + 1) - ((hi_s vh 4 (u16_13)).1 + 1) / 6 * 6)) → (∀ vh_15 : Hi, vh_15 = hi_m vh_14 ((if 6 < (vh_14.2.1 + 1) then (6 : Int32) else (vh_14.2.1 + 1))) → post vh_15))))) ∧ (vh.1 = 5 → (wp_X2_become (vh.2.2 5) vm (fun u16_16 => (∀ vh_17 : Hi, vh_17 = hi_n (hi_s vh 5 (u16_16)) ((((hi_s vh 5 (u16_16)).1 + 1) - ((hi_s vh 5 (u16_16)).1 + 1) / 6 * 6)) → (∀ vh_18 : Hi, vh_18 = hi_m vh_17 ((if 6 < (vh_17.2.1 + 1) then (6 : Int32) else (vh_17.2.1 + 1))) → post vh_18))))))
theorem yoX1_save : yOk yX1_save 1 := by decide +kernel
set_option maxHeartbeats 4000000 in
set_option maxRecDepth 100000 in
theorem met_X1_save (l : Launch) (g : JG) (ha : Nat → Nat) (m0 : Nat) (m1 : Nat) (m2 : Nat) (m3 : Nat) (m4 : Nat) (vh : Hi) (vm : Mo) (post : Hi → Prop) (hf : wp_X1_save vh vm post) : MetM l yX1_save wsX1_save ({ frames := 3, cells := 0, slots := 0, locals := 102 } : Room) [.ref (ha 0), .ref m0] g ((HiB g ha vh ++ [(MoW g m0 m1 m2 m3 m4 vm)]).flatten) mkV (fun (_ : Unit) (u : Hi) => post u) (fun u : Hi => ((HiB g ha u ++ [(MoW g m0 m1 m2 m3 m4 vm)]).flatten)) := by
  have hin1 : ∀ w ∈ u_ws RX1 TX1 3, w ∈ wsX1_save := by decide +kernel
  have hl_22 : Cond.fieldLink RX1 22 (TX1 1).1 (TX1 1).2.1 (TX1 1).2.2.1 ∈ wsX1_save := by decide +kernel
  have hl_18 : Cond.fieldLink RX1 18 (TX1 2).1 (TX1 2).2.1 (TX1 2).2.2.1 ∈ wsX1_save := by decide +kernel
  have hl_33 : Cond.methodLink RX1 33 Lib.Math.min.name ∈ wsX1_save := by decide +kernel
  have hs_min : Cond.static Lib.Math.min.name ∈ wsX1_save := by decide +kernel
  have hi_math : Cond.initialized "java/lang/Math" ∈ wsX1_save := by decide +kernel
  have hc_min : Cond.code Lib.Math.min.name Lib.Math.min.code 2 (some .int) ∈ wsX1_save := by decide +kernel
  refine enterM (own := RX1) (cc := cX1_save) (nL := 3) (ret := none) (lv := [(0, .ref (ha 0)), (1, .ref m0)]) (by decide) rfl rfl (Nat.le_of_ble_eq_true rfl) rfl (fun X hX hW hR => ?_)
  unfold wp_X1_save at hf
  refine j_aload_n (pc' := 1) hX dX1_save_0 rfl 0 rfl rfl ?_
  refine j_aload_n (pc' := 2) hX dX1_save_1 rfl 0 rfl rfl ?_
  refine j_get (ci := 1) (pc' := 5) hX hin1 rfl 0 rfl 1 (by decide) hl_22 rfl dX1_save_2 rfl ?_
  obtain ⟨hv9, hf⟩ := hf
  rcases in6 hv9 with hn | hn | hn | hn | hn | hn
  · have hpl : wp_X1_placeAt ha vh vh.1 (fun r => r = some (ha 2)) := by
      rw [hn]; exact pl_0 ha vh
    replace hf := hf.1 hn
    refine j_callVRb (ci := 1) (nb := 8) (pc' := 8) (As := [.int vh.1]) (rest := []) (stk := fun r => va_rf r :: []) (bs := (HiB g ha vh ++ [(MoW g m0 m1 m2 m3 m4 vm)])) (cs := (HiB g ha vh)) (rs := [(MoW g m0 m1 m2 m3 m4 vm)]) hX (fun l => met_X1_placeAt l g ha vh vh.1 _ hpl) rfl gX1_save_X1_placeAt yoX1_placeAt rfl ⟨Nat.le_of_ble_eq_true rfl, Nat.le_of_ble_eq_true rfl⟩ ⟨⟨Nat.le_of_ble_eq_true rfl, Nat.le_of_ble_eq_true rfl⟩, rfl, rfl⟩ 0 rfl rfl [7, 0, 1, 2, 3, 4, 5, 6] rfl rfl rfl (by decide) rfl (Nat.le_of_ble_eq_true rfl) rfl (fun _ => rfl) dX1_save_5 rfl (fun r hr => ?_)
    subst hr
    refine J_st (st' := [.ref (ha 2)]) rfl ?_
    refine j_astore_n (pc' := 9) (lv' := [(2, .ref (ha 2)), (0, .ref (ha 0)), (1, .ref m0)]) hX dX1_save_8 rfl (by decide) rfl rfl ?_
    refine j_aload_n (pc' := 10) hX dX1_save_9 rfl 0 rfl rfl ?_
    refine j_ifnonnull (tgt := 14) hX dX1_save_10 (by decide) ?_
    refine j_aload_n (pc' := 15) hX dX1_save_14 rfl 0 rfl rfl ?_
    refine j_aload_n (pc' := 16) hX dX1_save_15 rfl 2 rfl rfl ?_
    refine j_callVMb (ci := 2) (nb := 8) (pc' := 19) (k' := 0) (n' := 0) (As := [.ref m0]) (rest := []) (stk := fun _ => []) (bs := (HiB g ha vh ++ [(MoW g m0 m1 m2 m3 m4 vm)])) (cs := ([(MoW g (ha 2) (ha 3) (ha 4) (ha 5) (ha 6) ((vh.2.2 0)))] ++ [(MoW g m0 m1 m2 m3 m4 vm)])) (rs := (List.map (fun i : Nat => List.getD (HiB g ha vh ++ [(MoW g m0 m1 m2 m3 m4 vm)]) i []) [0, 2, 3, 4, 5, 6])) (ws' := fun u16_1 => ((HiB g ha (hi_s vh 0 (u16_1)) ++ [(MoW g m0 m1 m2 m3 m4 vm)]).flatten)) (bs' := fun u16_1 => (HiB g ha (hi_s vh 0 (u16_1)) ++ [(MoW g m0 m1 m2 m3 m4 vm)])) (d1 := fun u16_1 => ([(MoW g (ha 2) (ha 3) (ha 4) (ha 5) (ha 6) u16_1)] ++ [(MoW g m0 m1 m2 m3 m4 vm)])) hX hW (fun l => met_X2_become l g (ha 2) (ha 3) (ha 4) (ha 5) (ha 6) m0 m1 m2 m3 m4 (vh.2.2 0) vm _ hf) rfl gX1_save_X2_become yoX2_become rfl ⟨Nat.le_of_ble_eq_true rfl, Nat.le_of_ble_eq_true rfl⟩ ⟨Nat.le_of_ble_eq_true rfl, Nat.le_of_ble_eq_true rfl, Nat.le_of_ble_eq_true rfl, Nat.le_of_ble_eq_true rfl⟩ 0 rfl rfl [0, 2, 3, 4, 5, 6, 1, 7] rfl rfl rfl (by decide) rfl (fun _ => rfl) (fun _ => rfl) (fun _ => rfl) (fun _ => rfl) (Nat.le_of_ble_eq_true rfl) rfl (fun _ => rfl) dX1_save_16 rfl (fun _ u16_1 hf => ?_)
    refine j_aload_n (pc' := 20) hX dX1_save_19 rfl 1 rfl rfl ?_
    refine j_aload_n (pc' := 21) hX dX1_save_20 rfl 1 rfl rfl ?_
    refine j_get (ci := 1) (pc' := 24) hX hin1 rfl 0 rfl 1 (by decide) hl_22 rfl dX1_save_21 rfl ?_
    refine j_iconst (pc' := 25) (v := 1) hX dX1_save_24 (by decide) rfl ?_
    refine j_iadd (pc' := 26) hX dX1_save_25 rfl ?_
    refine j_bipush (pc' := 28) (v := 6) hX dX1_save_26 (by decide) rfl ?_
    refine j_irem (pc' := 29) hX dX1_save_28 ⟨by decide, hf⟩ rfl (fun hf => ?_)
    obtain ⟨vh_2, evh_2⟩ : ∃ z : Hi, z = hi_n (hi_s vh 0 (u16_1)) ((((hi_s vh 0 (u16_1)).1 + 1) - ((hi_s vh 0 (u16_1)).1 + 1) / 6 * 6)) := ⟨_, rfl⟩
    refine j_put (ci := 1) (pc' := 32) (ws' := ((HiB g ha vh_2 ++ [(MoW g m0 m1 m2 m3 m4 vm)]).flatten)) hX hW hin1 tyX1_ok nmX1 rfl 0 rfl 1 (by decide) hl_22 rfl rfl rfl (Nat.le_of_ble_eq_true rfl) dX1_save_29 (by subst evh_2; rfl) rfl ?_
    replace hf := hf vh_2 evh_2
    refine j_aload_n (pc' := 33) hX dX1_save_32 rfl 1 rfl rfl ?_
    refine j_aload_n (pc' := 34) hX dX1_save_33 rfl 1 rfl rfl ?_
    refine j_get (ci := 1) (pc' := 37) hX hin1 rfl 0 rfl 2 (by decide) hl_18 rfl dX1_save_34 rfl ?_
    refine j_iconst (pc' := 38) (v := 1) hX dX1_save_37 (by decide) rfl ?_
    refine j_iadd (pc' := 39) hX dX1_save_38 rfl ?_
    refine j_bipush (pc' := 41) (v := 6) hX dX1_save_39 (by decide) rfl ?_
    refine j_mmin (pc' := 44) hX hl_33 hs_min hi_math hc_min ⟨Nat.le_of_ble_eq_true rfl, Nat.le_of_ble_eq_true rfl, Nat.le_of_ble_eq_true rfl, Nat.le_of_ble_eq_true rfl⟩ dX1_save_41 rfl ?_
    obtain ⟨vh_3, evh_3⟩ : ∃ z : Hi, z = hi_m vh_2 ((if 6 < (vh_2.2.1 + 1) then (6 : Int32) else (vh_2.2.1 + 1))) := ⟨_, rfl⟩
    refine j_put (ci := 1) (pc' := 47) (ws' := ((HiB g ha vh_3 ++ [(MoW g m0 m1 m2 m3 m4 vm)]).flatten)) hX hW hin1 tyX1_ok nmX1 rfl 0 rfl 2 (by decide) hl_18 rfl rfl rfl (Nat.le_of_ble_eq_true rfl) dX1_save_44 (by subst evh_3; rfl) rfl ?_
    replace hf := hf vh_3 evh_3
    exact j_vret hX hR dX1_save_47 ⟨(), _, rfl, hf, rfl⟩
  · have hpl : wp_X1_placeAt ha vh vh.1 (fun r => r = some (ha 7)) := by
      rw [hn]; exact pl_1 ha vh
    replace hf := hf.2.1 hn
    refine j_callVRb (ci := 1) (nb := 8) (pc' := 8) (As := [.int vh.1]) (rest := []) (stk := fun r => va_rf r :: []) (bs := (HiB g ha vh ++ [(MoW g m0 m1 m2 m3 m4 vm)])) (cs := (HiB g ha vh)) (rs := [(MoW g m0 m1 m2 m3 m4 vm)]) hX (fun l => met_X1_placeAt l g ha vh vh.1 _ hpl) rfl gX1_save_X1_placeAt yoX1_placeAt rfl ⟨Nat.le_of_ble_eq_true rfl, Nat.le_of_ble_eq_true rfl⟩ ⟨⟨Nat.le_of_ble_eq_true rfl, Nat.le_of_ble_eq_true rfl⟩, rfl, rfl⟩ 0 rfl rfl [7, 0, 1, 2, 3, 4, 5, 6] rfl rfl rfl (by decide) rfl (Nat.le_of_ble_eq_true rfl) rfl (fun _ => rfl) dX1_save_5 rfl (fun r hr => ?_)
    subst hr
    refine J_st (st' := [.ref (ha 7)]) rfl ?_
    refine j_astore_n (pc' := 9) (lv' := [(2, .ref (ha 7)), (0, .ref (ha 0)), (1, .ref m0)]) hX dX1_save_8 rfl (by decide) rfl rfl ?_
    refine j_aload_n (pc' := 10) hX dX1_save_9 rfl 0 rfl rfl ?_
    refine j_ifnonnull (tgt := 14) hX dX1_save_10 (by decide) ?_
    refine j_aload_n (pc' := 15) hX dX1_save_14 rfl 0 rfl rfl ?_
    refine j_aload_n (pc' := 16) hX dX1_save_15 rfl 2 rfl rfl ?_
    refine j_callVMb (ci := 2) (nb := 8) (pc' := 19) (k' := 0) (n' := 0) (As := [.ref m0]) (rest := []) (stk := fun _ => []) (bs := (HiB g ha vh ++ [(MoW g m0 m1 m2 m3 m4 vm)])) (cs := ([(MoW g (ha 7) (ha 8) (ha 9) (ha 10) (ha 11) ((vh.2.2 1)))] ++ [(MoW g m0 m1 m2 m3 m4 vm)])) (rs := (List.map (fun i : Nat => List.getD (HiB g ha vh ++ [(MoW g m0 m1 m2 m3 m4 vm)]) i []) [0, 1, 3, 4, 5, 6])) (ws' := fun u16_4 => ((HiB g ha (hi_s vh 1 (u16_4)) ++ [(MoW g m0 m1 m2 m3 m4 vm)]).flatten)) (bs' := fun u16_4 => (HiB g ha (hi_s vh 1 (u16_4)) ++ [(MoW g m0 m1 m2 m3 m4 vm)])) (d1 := fun u16_4 => ([(MoW g (ha 7) (ha 8) (ha 9) (ha 10) (ha 11) u16_4)] ++ [(MoW g m0 m1 m2 m3 m4 vm)])) hX hW (fun l => met_X2_become l g (ha 7) (ha 8) (ha 9) (ha 10) (ha 11) m0 m1 m2 m3 m4 (vh.2.2 1) vm _ hf) rfl gX1_save_X2_become yoX2_become rfl ⟨Nat.le_of_ble_eq_true rfl, Nat.le_of_ble_eq_true rfl⟩ ⟨Nat.le_of_ble_eq_true rfl, Nat.le_of_ble_eq_true rfl, Nat.le_of_ble_eq_true rfl, Nat.le_of_ble_eq_true rfl⟩ 0 rfl rfl [0, 1, 3, 4, 5, 6, 2, 7] rfl rfl rfl (by decide) rfl (fun _ => rfl) (fun _ => rfl) (fun _ => rfl) (fun _ => rfl) (Nat.le_of_ble_eq_true rfl) rfl (fun _ => rfl) dX1_save_16 rfl (fun _ u16_4 hf => ?_)
    refine j_aload_n (pc' := 20) hX dX1_save_19 rfl 1 rfl rfl ?_
    refine j_aload_n (pc' := 21) hX dX1_save_20 rfl 1 rfl rfl ?_
    refine j_get (ci := 1) (pc' := 24) hX hin1 rfl 0 rfl 1 (by decide) hl_22 rfl dX1_save_21 rfl ?_
    refine j_iconst (pc' := 25) (v := 1) hX dX1_save_24 (by decide) rfl ?_
    refine j_iadd (pc' := 26) hX dX1_save_25 rfl ?_
    refine j_bipush (pc' := 28) (v := 6) hX dX1_save_26 (by decide) rfl ?_
    refine j_irem (pc' := 29) hX dX1_save_28 ⟨by decide, hf⟩ rfl (fun hf => ?_)
    obtain ⟨vh_5, evh_5⟩ : ∃ z : Hi, z = hi_n (hi_s vh 1 (u16_4)) ((((hi_s vh 1 (u16_4)).1 + 1) - ((hi_s vh 1 (u16_4)).1 + 1) / 6 * 6)) := ⟨_, rfl⟩
    refine j_put (ci := 1) (pc' := 32) (ws' := ((HiB g ha vh_5 ++ [(MoW g m0 m1 m2 m3 m4 vm)]).flatten)) hX hW hin1 tyX1_ok nmX1 rfl 0 rfl 1 (by decide) hl_22 rfl rfl rfl (Nat.le_of_ble_eq_true rfl) dX1_save_29 (by subst evh_5; rfl) rfl ?_
    replace hf := hf vh_5 evh_5
    refine j_aload_n (pc' := 33) hX dX1_save_32 rfl 1 rfl rfl ?_
    refine j_aload_n (pc' := 34) hX dX1_save_33 rfl 1 rfl rfl ?_
    refine j_get (ci := 1) (pc' := 37) hX hin1 rfl 0 rfl 2 (by decide) hl_18 rfl dX1_save_34 rfl ?_
    refine j_iconst (pc' := 38) (v := 1) hX dX1_save_37 (by decide) rfl ?_
    refine j_iadd (pc' := 39) hX dX1_save_38 rfl ?_
    refine j_bipush (pc' := 41) (v := 6) hX dX1_save_39 (by decide) rfl ?_
    refine j_mmin (pc' := 44) hX hl_33 hs_min hi_math hc_min ⟨Nat.le_of_ble_eq_true rfl, Nat.le_of_ble_eq_true rfl, Nat.le_of_ble_eq_true rfl, Nat.le_of_ble_eq_true rfl⟩ dX1_save_41 rfl ?_
    obtain ⟨vh_6, evh_6⟩ : ∃ z : Hi, z = hi_m vh_5 ((if 6 < (vh_5.2.1 + 1) then (6 : Int32) else (vh_5.2.1 + 1))) := ⟨_, rfl⟩
    refine j_put (ci := 1) (pc' := 47) (ws' := ((HiB g ha vh_6 ++ [(MoW g m0 m1 m2 m3 m4 vm)]).flatten)) hX hW hin1 tyX1_ok nmX1 rfl 0 rfl 2 (by decide) hl_18 rfl rfl rfl (Nat.le_of_ble_eq_true rfl) dX1_save_44 (by subst evh_6; rfl) rfl ?_
    replace hf := hf vh_6 evh_6
    exact j_vret hX hR dX1_save_47 ⟨(), _, rfl, hf, rfl⟩
  · have hpl : wp_X1_placeAt ha vh vh.1 (fun r => r = some (ha 12)) := by
      rw [hn]; exact pl_2 ha vh
    replace hf := hf.2.2.1 hn
    refine j_callVRb (ci := 1) (nb := 8) (pc' := 8) (As := [.int vh.1]) (rest := []) (stk := fun r => va_rf r :: []) (bs := (HiB g ha vh ++ [(MoW g m0 m1 m2 m3 m4 vm)])) (cs := (HiB g ha vh)) (rs := [(MoW g m0 m1 m2 m3 m4 vm)]) hX (fun l => met_X1_placeAt l g ha vh vh.1 _ hpl) rfl gX1_save_X1_placeAt yoX1_placeAt rfl ⟨Nat.le_of_ble_eq_true rfl, Nat.le_of_ble_eq_true rfl⟩ ⟨⟨Nat.le_of_ble_eq_true rfl, Nat.le_of_ble_eq_true rfl⟩, rfl, rfl⟩ 0 rfl rfl [7, 0, 1, 2, 3, 4, 5, 6] rfl rfl rfl (by decide) rfl (Nat.le_of_ble_eq_true rfl) rfl (fun _ => rfl) dX1_save_5 rfl (fun r hr => ?_)
    subst hr
    refine J_st (st' := [.ref (ha 12)]) rfl ?_
    refine j_astore_n (pc' := 9) (lv' := [(2, .ref (ha 12)), (0, .ref (ha 0)), (1, .ref m0)]) hX dX1_save_8 rfl (by decide) rfl rfl ?_
    refine j_aload_n (pc' := 10) hX dX1_save_9 rfl 0 rfl rfl ?_
    refine j_ifnonnull (tgt := 14) hX dX1_save_10 (by decide) ?_
    refine j_aload_n (pc' := 15) hX dX1_save_14 rfl 0 rfl rfl ?_
    refine j_aload_n (pc' := 16) hX dX1_save_15 rfl 2 rfl rfl ?_
    refine j_callVMb (ci := 2) (nb := 8) (pc' := 19) (k' := 0) (n' := 0) (As := [.ref m0]) (rest := []) (stk := fun _ => []) (bs := (HiB g ha vh ++ [(MoW g m0 m1 m2 m3 m4 vm)])) (cs := ([(MoW g (ha 12) (ha 13) (ha 14) (ha 15) (ha 16) ((vh.2.2 2)))] ++ [(MoW g m0 m1 m2 m3 m4 vm)])) (rs := (List.map (fun i : Nat => List.getD (HiB g ha vh ++ [(MoW g m0 m1 m2 m3 m4 vm)]) i []) [0, 1, 2, 4, 5, 6])) (ws' := fun u16_7 => ((HiB g ha (hi_s vh 2 (u16_7)) ++ [(MoW g m0 m1 m2 m3 m4 vm)]).flatten)) (bs' := fun u16_7 => (HiB g ha (hi_s vh 2 (u16_7)) ++ [(MoW g m0 m1 m2 m3 m4 vm)])) (d1 := fun u16_7 => ([(MoW g (ha 12) (ha 13) (ha 14) (ha 15) (ha 16) u16_7)] ++ [(MoW g m0 m1 m2 m3 m4 vm)])) hX hW (fun l => met_X2_become l g (ha 12) (ha 13) (ha 14) (ha 15) (ha 16) m0 m1 m2 m3 m4 (vh.2.2 2) vm _ hf) rfl gX1_save_X2_become yoX2_become rfl ⟨Nat.le_of_ble_eq_true rfl, Nat.le_of_ble_eq_true rfl⟩ ⟨Nat.le_of_ble_eq_true rfl, Nat.le_of_ble_eq_true rfl, Nat.le_of_ble_eq_true rfl, Nat.le_of_ble_eq_true rfl⟩ 0 rfl rfl [0, 1, 2, 4, 5, 6, 3, 7] rfl rfl rfl (by decide) rfl (fun _ => rfl) (fun _ => rfl) (fun _ => rfl) (fun _ => rfl) (Nat.le_of_ble_eq_true rfl) rfl (fun _ => rfl) dX1_save_16 rfl (fun _ u16_7 hf => ?_)
    refine j_aload_n (pc' := 20) hX dX1_save_19 rfl 1 rfl rfl ?_
    refine j_aload_n (pc' := 21) hX dX1_save_20 rfl 1 rfl rfl ?_
    refine j_get (ci := 1) (pc' := 24) hX hin1 rfl 0 rfl 1 (by decide) hl_22 rfl dX1_save_21 rfl ?_
    refine j_iconst (pc' := 25) (v := 1) hX dX1_save_24 (by decide) rfl ?_
    refine j_iadd (pc' := 26) hX dX1_save_25 rfl ?_
    refine j_bipush (pc' := 28) (v := 6) hX dX1_save_26 (by decide) rfl ?_
    refine j_irem (pc' := 29) hX dX1_save_28 ⟨by decide, hf⟩ rfl (fun hf => ?_)
    obtain ⟨vh_8, evh_8⟩ : ∃ z : Hi, z = hi_n (hi_s vh 2 (u16_7)) ((((hi_s vh 2 (u16_7)).1 + 1) - ((hi_s vh 2 (u16_7)).1 + 1) / 6 * 6)) := ⟨_, rfl⟩
    refine j_put (ci := 1) (pc' := 32) (ws' := ((HiB g ha vh_8 ++ [(MoW g m0 m1 m2 m3 m4 vm)]).flatten)) hX hW hin1 tyX1_ok nmX1 rfl 0 rfl 1 (by decide) hl_22 rfl rfl rfl (Nat.le_of_ble_eq_true rfl) dX1_save_29 (by subst evh_8; rfl) rfl ?_
    replace hf := hf vh_8 evh_8
    refine j_aload_n (pc' := 33) hX dX1_save_32 rfl 1 rfl rfl ?_
    refine j_aload_n (pc' := 34) hX dX1_save_33 rfl 1 rfl rfl ?_
    refine j_get (ci := 1) (pc' := 37) hX hin1 rfl 0 rfl 2 (by decide) hl_18 rfl dX1_save_34 rfl ?_
    refine j_iconst (pc' := 38) (v := 1) hX dX1_save_37 (by decide) rfl ?_
    refine j_iadd (pc' := 39) hX dX1_save_38 rfl ?_
    refine j_bipush (pc' := 41) (v := 6) hX dX1_save_39 (by decide) rfl ?_
    refine j_mmin (pc' := 44) hX hl_33 hs_min hi_math hc_min ⟨Nat.le_of_ble_eq_true rfl, Nat.le_of_ble_eq_true rfl, Nat.le_of_ble_eq_true rfl, Nat.le_of_ble_eq_true rfl⟩ dX1_save_41 rfl ?_
    obtain ⟨vh_9, evh_9⟩ : ∃ z : Hi, z = hi_m vh_8 ((if 6 < (vh_8.2.1 + 1) then (6 : Int32) else (vh_8.2.1 + 1))) := ⟨_, rfl⟩
    refine j_put (ci := 1) (pc' := 47) (ws' := ((HiB g ha vh_9 ++ [(MoW g m0 m1 m2 m3 m4 vm)]).flatten)) hX hW hin1 tyX1_ok nmX1 rfl 0 rfl 2 (by decide) hl_18 rfl rfl rfl (Nat.le_of_ble_eq_true rfl) dX1_save_44 (by subst evh_9; rfl) rfl ?_
    replace hf := hf vh_9 evh_9
    exact j_vret hX hR dX1_save_47 ⟨(), _, rfl, hf, rfl⟩
  · have hpl : wp_X1_placeAt ha vh vh.1 (fun r => r = some (ha 17)) := by
      rw [hn]; exact pl_3 ha vh
    replace hf := hf.2.2.2.1 hn
    refine j_callVRb (ci := 1) (nb := 8) (pc' := 8) (As := [.int vh.1]) (rest := []) (stk := fun r => va_rf r :: []) (bs := (HiB g ha vh ++ [(MoW g m0 m1 m2 m3 m4 vm)])) (cs := (HiB g ha vh)) (rs := [(MoW g m0 m1 m2 m3 m4 vm)]) hX (fun l => met_X1_placeAt l g ha vh vh.1 _ hpl) rfl gX1_save_X1_placeAt yoX1_placeAt rfl ⟨Nat.le_of_ble_eq_true rfl, Nat.le_of_ble_eq_true rfl⟩ ⟨⟨Nat.le_of_ble_eq_true rfl, Nat.le_of_ble_eq_true rfl⟩, rfl, rfl⟩ 0 rfl rfl [7, 0, 1, 2, 3, 4, 5, 6] rfl rfl rfl (by decide) rfl (Nat.le_of_ble_eq_true rfl) rfl (fun _ => rfl) dX1_save_5 rfl (fun r hr => ?_)
    subst hr
    refine J_st (st' := [.ref (ha 17)]) rfl ?_
    refine j_astore_n (pc' := 9) (lv' := [(2, .ref (ha 17)), (0, .ref (ha 0)), (1, .ref m0)]) hX dX1_save_8 rfl (by decide) rfl rfl ?_
    refine j_aload_n (pc' := 10) hX dX1_save_9 rfl 0 rfl rfl ?_
    refine j_ifnonnull (tgt := 14) hX dX1_save_10 (by decide) ?_
    refine j_aload_n (pc' := 15) hX dX1_save_14 rfl 0 rfl rfl ?_
    refine j_aload_n (pc' := 16) hX dX1_save_15 rfl 2 rfl rfl ?_
    refine j_callVMb (ci := 2) (nb := 8) (pc' := 19) (k' := 0) (n' := 0) (As := [.ref m0]) (rest := []) (stk := fun _ => []) (bs := (HiB g ha vh ++ [(MoW g m0 m1 m2 m3 m4 vm)])) (cs := ([(MoW g (ha 17) (ha 18) (ha 19) (ha 20) (ha 21) ((vh.2.2 3)))] ++ [(MoW g m0 m1 m2 m3 m4 vm)])) (rs := (List.map (fun i : Nat => List.getD (HiB g ha vh ++ [(MoW g m0 m1 m2 m3 m4 vm)]) i []) [0, 1, 2, 3, 5, 6])) (ws' := fun u16_10 => ((HiB g ha (hi_s vh 3 (u16_10)) ++ [(MoW g m0 m1 m2 m3 m4 vm)]).flatten)) (bs' := fun u16_10 => (HiB g ha (hi_s vh 3 (u16_10)) ++ [(MoW g m0 m1 m2 m3 m4 vm)])) (d1 := fun u16_10 => ([(MoW g (ha 17) (ha 18) (ha 19) (ha 20) (ha 21) u16_10)] ++ [(MoW g m0 m1 m2 m3 m4 vm)])) hX hW (fun l => met_X2_become l g (ha 17) (ha 18) (ha 19) (ha 20) (ha 21) m0 m1 m2 m3 m4 (vh.2.2 3) vm _ hf) rfl gX1_save_X2_become yoX2_become rfl ⟨Nat.le_of_ble_eq_true rfl, Nat.le_of_ble_eq_true rfl⟩ ⟨Nat.le_of_ble_eq_true rfl, Nat.le_of_ble_eq_true rfl, Nat.le_of_ble_eq_true rfl, Nat.le_of_ble_eq_true rfl⟩ 0 rfl rfl [0, 1, 2, 3, 5, 6, 4, 7] rfl rfl rfl (by decide) rfl (fun _ => rfl) (fun _ => rfl) (fun _ => rfl) (fun _ => rfl) (Nat.le_of_ble_eq_true rfl) rfl (fun _ => rfl) dX1_save_16 rfl (fun _ u16_10 hf => ?_)
    refine j_aload_n (pc' := 20) hX dX1_save_19 rfl 1 rfl rfl ?_
    refine j_aload_n (pc' := 21) hX dX1_save_20 rfl 1 rfl rfl ?_
    refine j_get (ci := 1) (pc' := 24) hX hin1 rfl 0 rfl 1 (by decide) hl_22 rfl dX1_save_21 rfl ?_
    refine j_iconst (pc' := 25) (v := 1) hX dX1_save_24 (by decide) rfl ?_
    refine j_iadd (pc' := 26) hX dX1_save_25 rfl ?_
    refine j_bipush (pc' := 28) (v := 6) hX dX1_save_26 (by decide) rfl ?_
    refine j_irem (pc' := 29) hX dX1_save_28 ⟨by decide, hf⟩ rfl (fun hf => ?_)
    obtain ⟨vh_11, evh_11⟩ : ∃ z : Hi, z = hi_n (hi_s vh 3 (u16_10)) ((((hi_s vh 3 (u16_10)).1 + 1) - ((hi_s vh 3 (u16_10)).1 + 1) / 6 * 6)) := ⟨_, rfl⟩
    refine j_put (ci := 1) (pc' := 32) (ws' := ((HiB g ha vh_11 ++ [(MoW g m0 m1 m2 m3 m4 vm)]).flatten)) hX hW hin1 tyX1_ok nmX1 rfl 0 rfl 1 (by decide) hl_22 rfl rfl rfl (Nat.le_of_ble_eq_true rfl) dX1_save_29 (by subst evh_11; rfl) rfl ?_
    replace hf := hf vh_11 evh_11
    refine j_aload_n (pc' := 33) hX dX1_save_32 rfl 1 rfl rfl ?_
    refine j_aload_n (pc' := 34) hX dX1_save_33 rfl 1 rfl rfl ?_
    refine j_get (ci := 1) (pc' := 37) hX hin1 rfl 0 rfl 2 (by decide) hl_18 rfl dX1_save_34 rfl ?_
    refine j_iconst (pc' := 38) (v := 1) hX dX1_save_37 (by decide) rfl ?_
    refine j_iadd (pc' := 39) hX dX1_save_38 rfl ?_
    refine j_bipush (pc' := 41) (v := 6) hX dX1_save_39 (by decide) rfl ?_
    refine j_mmin (pc' := 44) hX hl_33 hs_min hi_math hc_min ⟨Nat.le_of_ble_eq_true rfl, Nat.le_of_ble_eq_true rfl, Nat.le_of_ble_eq_true rfl, Nat.le_of_ble_eq_true rfl⟩ dX1_save_41 rfl ?_
    obtain ⟨vh_12, evh_12⟩ : ∃ z : Hi, z = hi_m vh_11 ((if 6 < (vh_11.2.1 + 1) then (6 : Int32) else (vh_11.2.1 + 1))) := ⟨_, rfl⟩
    refine j_put (ci := 1) (pc' := 47) (ws' := ((HiB g ha vh_12 ++ [(MoW g m0 m1 m2 m3 m4 vm)]).flatten)) hX hW hin1 tyX1_ok nmX1 rfl 0 rfl 2 (by decide) hl_18 rfl rfl rfl (Nat.le_of_ble_eq_true rfl) dX1_save_44 (by subst evh_12; rfl) rfl ?_
    replace hf := hf vh_12 evh_12
    exact j_vret hX hR dX1_save_47 ⟨(), _, rfl, hf, rfl⟩
  · have hpl : wp_X1_placeAt ha vh vh.1 (fun r => r = some (ha 22)) := by
      rw [hn]; exact pl_4 ha vh
    replace hf := hf.2.2.2.2.1 hn
    refine j_callVRb (ci := 1) (nb := 8) (pc' := 8) (As := [.int vh.1]) (rest := []) (stk := fun r => va_rf r :: []) (bs := (HiB g ha vh ++ [(MoW g m0 m1 m2 m3 m4 vm)])) (cs := (HiB g ha vh)) (rs := [(MoW g m0 m1 m2 m3 m4 vm)]) hX (fun l => met_X1_placeAt l g ha vh vh.1 _ hpl) rfl gX1_save_X1_placeAt yoX1_placeAt rfl ⟨Nat.le_of_ble_eq_true rfl, Nat.le_of_ble_eq_true rfl⟩ ⟨⟨Nat.le_of_ble_eq_true rfl, Nat.le_of_ble_eq_true rfl⟩, rfl, rfl⟩ 0 rfl rfl [7, 0, 1, 2, 3, 4, 5, 6] rfl rfl rfl (by decide) rfl (Nat.le_of_ble_eq_true rfl) rfl (fun _ => rfl) dX1_save_5 rfl (fun r hr => ?_)
    subst hr
    refine J_st (st' := [.ref (ha 22)]) rfl ?_
    refine j_astore_n (pc' := 9) (lv' := [(2, .ref (ha 22)), (0, .ref (ha 0)), (1, .ref m0)]) hX dX1_save_8 rfl (by decide) rfl rfl ?_
    refine j_aload_n (pc' := 10) hX dX1_save_9 rfl 0 rfl rfl ?_
    refine j_ifnonnull (tgt := 14) hX dX1_save_10 (by decide) ?_
    refine j_aload_n (pc' := 15) hX dX1_save_14 rfl 0 rfl rfl ?_
    refine j_aload_n (pc' := 16) hX dX1_save_15 rfl 2 rfl rfl ?_
    refine j_callVMb (ci := 2) (nb := 8) (pc' := 19) (k' := 0) (n' := 0) (As := [.ref m0]) (rest := []) (stk := fun _ => []) (bs := (HiB g ha vh ++ [(MoW g m0 m1 m2 m3 m4 vm)])) (cs := ([(MoW g (ha 22) (ha 23) (ha 24) (ha 25) (ha 26) ((vh.2.2 4)))] ++ [(MoW g m0 m1 m2 m3 m4 vm)])) (rs := (List.map (fun i : Nat => List.getD (HiB g ha vh ++ [(MoW g m0 m1 m2 m3 m4 vm)]) i []) [0, 1, 2, 3, 4, 6])) (ws' := fun u16_13 => ((HiB g ha (hi_s vh 4 (u16_13)) ++ [(MoW g m0 m1 m2 m3 m4 vm)]).flatten)) (bs' := fun u16_13 => (HiB g ha (hi_s vh 4 (u16_13)) ++ [(MoW g m0 m1 m2 m3 m4 vm)])) (d1 := fun u16_13 => ([(MoW g (ha 22) (ha 23) (ha 24) (ha 25) (ha 26) u16_13)] ++ [(MoW g m0 m1 m2 m3 m4 vm)])) hX hW (fun l => met_X2_become l g (ha 22) (ha 23) (ha 24) (ha 25) (ha 26) m0 m1 m2 m3 m4 (vh.2.2 4) vm _ hf) rfl gX1_save_X2_become yoX2_become rfl ⟨Nat.le_of_ble_eq_true rfl, Nat.le_of_ble_eq_true rfl⟩ ⟨Nat.le_of_ble_eq_true rfl, Nat.le_of_ble_eq_true rfl, Nat.le_of_ble_eq_true rfl, Nat.le_of_ble_eq_true rfl⟩ 0 rfl rfl [0, 1, 2, 3, 4, 6, 5, 7] rfl rfl rfl (by decide) rfl (fun _ => rfl) (fun _ => rfl) (fun _ => rfl) (fun _ => rfl) (Nat.le_of_ble_eq_true rfl) rfl (fun _ => rfl) dX1_save_16 rfl (fun _ u16_13 hf => ?_)
    refine j_aload_n (pc' := 20) hX dX1_save_19 rfl 1 rfl rfl ?_
    refine j_aload_n (pc' := 21) hX dX1_save_20 rfl 1 rfl rfl ?_
    refine j_get (ci := 1) (pc' := 24) hX hin1 rfl 0 rfl 1 (by decide) hl_22 rfl dX1_save_21 rfl ?_
    refine j_iconst (pc' := 25) (v := 1) hX dX1_save_24 (by decide) rfl ?_
    refine j_iadd (pc' := 26) hX dX1_save_25 rfl ?_
    refine j_bipush (pc' := 28) (v := 6) hX dX1_save_26 (by decide) rfl ?_
    refine j_irem (pc' := 29) hX dX1_save_28 ⟨by decide, hf⟩ rfl (fun hf => ?_)
    obtain ⟨vh_14, evh_14⟩ : ∃ z : Hi, z = hi_n (hi_s vh 4 (u16_13)) ((((hi_s vh 4 (u16_13)).1 + 1) - ((hi_s vh 4 (u16_13)).1 + 1) / 6 * 6)) := ⟨_, rfl⟩
    refine j_put (ci := 1) (pc' := 32) (ws' := ((HiB g ha vh_14 ++ [(MoW g m0 m1 m2 m3 m4 vm)]).flatten)) hX hW hin1 tyX1_ok nmX1 rfl 0 rfl 1 (by decide) hl_22 rfl rfl rfl (Nat.le_of_ble_eq_true rfl) dX1_save_29 (by subst evh_14; rfl) rfl ?_
    replace hf := hf vh_14 evh_14
    refine j_aload_n (pc' := 33) hX dX1_save_32 rfl 1 rfl rfl ?_
    refine j_aload_n (pc' := 34) hX dX1_save_33 rfl 1 rfl rfl ?_
    refine j_get (ci := 1) (pc' := 37) hX hin1 rfl 0 rfl 2 (by decide) hl_18 rfl dX1_save_34 rfl ?_
    refine j_iconst (pc' := 38) (v := 1) hX dX1_save_37 (by decide) rfl ?_
    refine j_iadd (pc' := 39) hX dX1_save_38 rfl ?_
    refine j_bipush (pc' := 41) (v := 6) hX dX1_save_39 (by decide) rfl ?_
    refine j_mmin (pc' := 44) hX hl_33 hs_min hi_math hc_min ⟨Nat.le_of_ble_eq_true rfl, Nat.le_of_ble_eq_true rfl, Nat.le_of_ble_eq_true rfl, Nat.le_of_ble_eq_true rfl⟩ dX1_save_41 rfl ?_
    obtain ⟨vh_15, evh_15⟩ : ∃ z : Hi, z = hi_m vh_14 ((if 6 < (vh_14.2.1 + 1) then (6 : Int32) else (vh_14.2.1 + 1))) := ⟨_, rfl⟩
    refine j_put (ci := 1) (pc' := 47) (ws' := ((HiB g ha vh_15 ++ [(MoW g m0 m1 m2 m3 m4 vm)]).flatten)) hX hW hin1 tyX1_ok nmX1 rfl 0 rfl 2 (by decide) hl_18 rfl rfl rfl (Nat.le_of_ble_eq_true rfl) dX1_save_44 (by subst evh_15; rfl) rfl ?_
    replace hf := hf vh_15 evh_15
    exact j_vret hX hR dX1_save_47 ⟨(), _, rfl, hf, rfl⟩
  · have hpl : wp_X1_placeAt ha vh vh.1 (fun r => r = some (ha 27)) := by
      rw [hn]; exact pl_5 ha vh
    replace hf := hf.2.2.2.2.2 hn
    refine j_callVRb (ci := 1) (nb := 8) (pc' := 8) (As := [.int vh.1]) (rest := []) (stk := fun r => va_rf r :: []) (bs := (HiB g ha vh ++ [(MoW g m0 m1 m2 m3 m4 vm)])) (cs := (HiB g ha vh)) (rs := [(MoW g m0 m1 m2 m3 m4 vm)]) hX (fun l => met_X1_placeAt l g ha vh vh.1 _ hpl) rfl gX1_save_X1_placeAt yoX1_placeAt rfl ⟨Nat.le_of_ble_eq_true rfl, Nat.le_of_ble_eq_true rfl⟩ ⟨⟨Nat.le_of_ble_eq_true rfl, Nat.le_of_ble_eq_true rfl⟩, rfl, rfl⟩ 0 rfl rfl [7, 0, 1, 2, 3, 4, 5, 6] rfl rfl rfl (by decide) rfl (Nat.le_of_ble_eq_true rfl) rfl (fun _ => rfl) dX1_save_5 rfl (fun r hr => ?_)
    subst hr
    refine J_st (st' := [.ref (ha 27)]) rfl ?_
    refine j_astore_n (pc' := 9) (lv' := [(2, .ref (ha 27)), (0, .ref (ha 0)), (1, .ref m0)]) hX dX1_save_8 rfl (by decide) rfl rfl ?_
    refine j_aload_n (pc' := 10) hX dX1_save_9 rfl 0 rfl rfl ?_
    refine j_ifnonnull (tgt := 14) hX dX1_save_10 (by decide) ?_
    refine j_aload_n (pc' := 15) hX dX1_save_14 rfl 0 rfl rfl ?_
    refine j_aload_n (pc' := 16) hX dX1_save_15 rfl 2 rfl rfl ?_
    refine j_callVMb (ci := 2) (nb := 8) (pc' := 19) (k' := 0) (n' := 0) (As := [.ref m0]) (rest := []) (stk := fun _ => []) (bs := (HiB g ha vh ++ [(MoW g m0 m1 m2 m3 m4 vm)])) (cs := ([(MoW g (ha 27) (ha 28) (ha 29) (ha 30) (ha 31) ((vh.2.2 5)))] ++ [(MoW g m0 m1 m2 m3 m4 vm)])) (rs := (List.map (fun i : Nat => List.getD (HiB g ha vh ++ [(MoW g m0 m1 m2 m3 m4 vm)]) i []) [0, 1, 2, 3, 4, 5])) (ws' := fun u16_16 => ((HiB g ha (hi_s vh 5 (u16_16)) ++ [(MoW g m0 m1 m2 m3 m4 vm)]).flatten)) (bs' := fun u16_16 => (HiB g ha (hi_s vh 5 (u16_16)) ++ [(MoW g m0 m1 m2 m3 m4 vm)])) (d1 := fun u16_16 => ([(MoW g (ha 27) (ha 28) (ha 29) (ha 30) (ha 31) u16_16)] ++ [(MoW g m0 m1 m2 m3 m4 vm)])) hX hW (fun l => met_X2_become l g (ha 27) (ha 28) (ha 29) (ha 30) (ha 31) m0 m1 m2 m3 m4 (vh.2.2 5) vm _ hf) rfl gX1_save_X2_become yoX2_become rfl ⟨Nat.le_of_ble_eq_true rfl, Nat.le_of_ble_eq_true rfl⟩ ⟨Nat.le_of_ble_eq_true rfl, Nat.le_of_ble_eq_true rfl, Nat.le_of_ble_eq_true rfl, Nat.le_of_ble_eq_true rfl⟩ 0 rfl rfl [0, 1, 2, 3, 4, 5, 6, 7] rfl rfl rfl (by decide) rfl (fun _ => rfl) (fun _ => rfl) (fun _ => rfl) (fun _ => rfl) (Nat.le_of_ble_eq_true rfl) rfl (fun _ => rfl) dX1_save_16 rfl (fun _ u16_16 hf => ?_)
    refine j_aload_n (pc' := 20) hX dX1_save_19 rfl 1 rfl rfl ?_
    refine j_aload_n (pc' := 21) hX dX1_save_20 rfl 1 rfl rfl ?_
    refine j_get (ci := 1) (pc' := 24) hX hin1 rfl 0 rfl 1 (by decide) hl_22 rfl dX1_save_21 rfl ?_
    refine j_iconst (pc' := 25) (v := 1) hX dX1_save_24 (by decide) rfl ?_
    refine j_iadd (pc' := 26) hX dX1_save_25 rfl ?_
    refine j_bipush (pc' := 28) (v := 6) hX dX1_save_26 (by decide) rfl ?_
    refine j_irem (pc' := 29) hX dX1_save_28 ⟨by decide, hf⟩ rfl (fun hf => ?_)
    obtain ⟨vh_17, evh_17⟩ : ∃ z : Hi, z = hi_n (hi_s vh 5 (u16_16)) ((((hi_s vh 5 (u16_16)).1 + 1) - ((hi_s vh 5 (u16_16)).1 + 1) / 6 * 6)) := ⟨_, rfl⟩
    refine j_put (ci := 1) (pc' := 32) (ws' := ((HiB g ha vh_17 ++ [(MoW g m0 m1 m2 m3 m4 vm)]).flatten)) hX hW hin1 tyX1_ok nmX1 rfl 0 rfl 1 (by decide) hl_22 rfl rfl rfl (Nat.le_of_ble_eq_true rfl) dX1_save_29 (by subst evh_17; rfl) rfl ?_
    replace hf := hf vh_17 evh_17
    refine j_aload_n (pc' := 33) hX dX1_save_32 rfl 1 rfl rfl ?_
    refine j_aload_n (pc' := 34) hX dX1_save_33 rfl 1 rfl rfl ?_
    refine j_get (ci := 1) (pc' := 37) hX hin1 rfl 0 rfl 2 (by decide) hl_18 rfl dX1_save_34 rfl ?_
    refine j_iconst (pc' := 38) (v := 1) hX dX1_save_37 (by decide) rfl ?_
    refine j_iadd (pc' := 39) hX dX1_save_38 rfl ?_
    refine j_bipush (pc' := 41) (v := 6) hX dX1_save_39 (by decide) rfl ?_
    refine j_mmin (pc' := 44) hX hl_33 hs_min hi_math hc_min ⟨Nat.le_of_ble_eq_true rfl, Nat.le_of_ble_eq_true rfl, Nat.le_of_ble_eq_true rfl, Nat.le_of_ble_eq_true rfl⟩ dX1_save_41 rfl ?_
    obtain ⟨vh_18, evh_18⟩ : ∃ z : Hi, z = hi_m vh_17 ((if 6 < (vh_17.2.1 + 1) then (6 : Int32) else (vh_17.2.1 + 1))) := ⟨_, rfl⟩
    refine j_put (ci := 1) (pc' := 47) (ws' := ((HiB g ha vh_18 ++ [(MoW g m0 m1 m2 m3 m4 vm)]).flatten)) hX hW hin1 tyX1_ok nmX1 rfl 0 rfl 2 (by decide) hl_18 rfl rfl rfl (Nat.le_of_ble_eq_true rfl) dX1_save_44 (by subst evh_18; rfl) rfl ?_
    replace hf := hf vh_18 evh_18
    exact j_vret hX hR dX1_save_47 ⟨(), _, rfl, hf, rfl⟩
def wp_X1_restore (vh : Hi) (vm : Mo) (post : (Hi × Mo) → Prop) : Prop :=
  ((vh.2.1 = 0 → post (vh, vm)) ∧ (¬ vh.2.1 = 0 → (vp_in (((vh.1 + 6) - 1) - ((vh.1 + 6) - 1) / 6 * 6) 6 ∧ ((((vh.1 + 6) - 1) - ((vh.1 + 6) - 1) / 6 * 6) = 0 → (wp_X2_become vm (vh.2.2 0) (fun u31_1 => (∀ vh_2 : Hi, vh_2 = hi_n vh ((((vh.1 + 6) - 1) - ((vh.1 + 6) - 1) / 6 * 6)) → (∀ vh_3 : Hi, vh_3 = hi_m vh_2 ((vh_2.2.1 - 1)) → post (vh_3, u31_1)))))) ∧ ((((vh.1 + 6) - 1) - ((vh.1 + 6) - 1) / 6 * 6) = 1 → (wp_X2_become vm (vh.2.2 1) (fun u31_4 => (∀ vh_5 : Hi, vh_5 = hi_n vh ((((vh.1 + 6) - 1) - ((vh.1 + 6) - 1) / 6 * 6)) → (∀ vh_6 : Hi, vh_6 = hi_m vh_5 ((vh_5.2.1 - 1)) → post (vh_6, u31_4)))))) ∧ ((((vh.1 + 6) - 1) - ((vh.1 + 6) - 1) / 6 * 6) = 2 → (wp_X2_become vm (vh.2.2 2) (fun u31_7 => (∀ vh_8 : Hi, vh_8 = hi_n vh ((((vh.1 + 6) - 1) - ((vh.1 + 6) - 1) / 6 * 6)) → (∀ vh_9 : Hi, vh_9 = hi_m vh_8 ((vh_8.2.1 - 1)) → post (vh_9, u31_7)))))) ∧ ((((vh.1 + 6) - 1) - ((vh.1 + 6) - 1) / 6 * 6) = 3 → (wp_X2_become vm (vh.2.2 3) (fun u31_10 => (∀ vh_11 : Hi, vh_11 = hi_n vh ((((vh.1 + 6) - 1) - ((vh.1 + 6) - 1) / 6 * 6)) → (∀ vh_12 : Hi, vh_12 = hi_m vh_11 ((vh_11.2.1 - 1)) → post (vh_12, u31_10)))))) ∧ ((((vh.1 + 6) - 1) - ((vh.1 + 6) - 1) / 6 * 6) = 4 → (wp_X2_become vm (vh.2.2 4) (fun u31_13 => (∀ vh_14 : Hi, vh_14 = hi_n vh ((((vh.1 + 6) - 1) - ((vh.1 + 6) - 1) / 6 * 6)) → (∀ vh_15 : Hi, vh_15 = hi_m vh_14 ((vh_14.2.1 - 1)) → post (vh_15, u31_13)))))) ∧ ((((vh.1 + 6) - 1) - ((vh.1 + 6) - 1) / 6 * 6) = 5 → (wp_X2_become vm (vh.2.2 5) (fun u31_16 => (∀ vh_17 : Hi, vh_17 = hi_n vh ((((vh.1 + 6) - 1) - ((vh.1 + 6) - 1) / 6 * 6)) → (∀ vh_18 : Hi, vh_18 = hi_m vh_17 ((vh_17.2.1 - 1)) → post (vh_18, u31_16)))))))))
theorem yoX1_restore : yOk yX1_restore 1 := by decide +kernel
set_option maxHeartbeats 4000000 in
set_option maxRecDepth 100000 in
theorem met_X1_restore (l : Launch) (g : JG) (ha : Nat → Nat) (m0 : Nat) (m1 : Nat) (m2 : Nat) (m3 : Nat) (m4 : Nat) (vh : Hi) (vm : Mo) (post : (Hi × Mo) → Prop) (hf : wp_X1_restore vh vm post) : MetM l yX1_restore wsX1_restore ({ frames := 3, cells := 0, slots := 0, locals := 102 } : Room) [.ref (ha 0), .ref m0] g ((HiB g ha vh ++ [(MoW g m0 m1 m2 m3 m4 vm)]).flatten) mkV (fun (_ : Unit) (u : Hi × Mo) => post u) (fun u : Hi × Mo => ((HiB g ha u.1 ++ [(MoW g m0 m1 m2 m3 m4 (u.2))]).flatten)) := by
  have hin1 : ∀ w ∈ u_ws RX1 TX1 3, w ∈ wsX1_restore := by decide +kernel
  have hl_22 : Cond.fieldLink RX1 22 (TX1 1).1 (TX1 1).2.1 (TX1 1).2.2.1 ∈ wsX1_restore := by decide +kernel
  have hl_18 : Cond.fieldLink RX1 18 (TX1 2).1 (TX1 2).2.1 (TX1 2).2.2.1 ∈ wsX1_restore := by decide +kernel
  refine enterM (own := RX1) (cc := cX1_restore) (nL := 3) (ret := none) (lv := [(0, .ref (ha 0)), (1, .ref m0)]) (by decide) rfl rfl (Nat.le_of_ble_eq_true rfl) rfl (fun X hX hW hR => ?_)
  unfold wp_X1_restore at hf
  refine j_aload_n (pc' := 1) hX dX1_restore_0 rfl 0 rfl rfl ?_
  refine j_get (ci := 1) (pc' := 4) hX hin1 rfl 0 rfl 1 (by decide) hl_22 rfl dX1_restore_1 rfl ?_
  refine j_bipush (pc' := 6) (v := 6) hX dX1_restore_4 (by decide) rfl ?_
  refine j_iadd (pc' := 7) hX dX1_restore_6 rfl ?_
  refine j_iconst (pc' := 8) (v := 1) hX dX1_restore_7 (by decide) rfl ?_
  refine j_isub (pc' := 9) hX dX1_restore_8 rfl ?_
  refine j_bipush (pc' := 11) (v := 6) hX dX1_restore_9 (by decide) rfl ?_
  refine j_irem (pc' := 12) hX dX1_restore_11 ⟨by decide, hf⟩ rfl (fun hf => ?_)
  refine j_istore_n (pc' := 13) (lv' := [(2, .int (((vh.1 + 6) - 1) - ((vh.1 + 6) - 1) / 6 * 6)), (0, .ref (ha 0)), (1, .ref m0)]) hX dX1_restore_12 rfl (by decide) rfl rfl ?_
  refine j_aload_n (pc' := 14) hX dX1_restore_13 rfl 1 rfl rfl ?_
  refine j_get (ci := 1) (pc' := 17) hX hin1 rfl 0 rfl 2 (by decide) hl_18 rfl dX1_restore_14 rfl ?_
  refine j_if_eq (tgt := 24) (pc' := 20) hX dX1_restore_17 (by decide) rfl hf (fun hf => ?_) (fun hf => ?_)
  · exact j_vret hX hR dX1_restore_24 ⟨(), _, rfl, hf, rfl⟩
  · refine j_aload_n (pc' := 21) hX dX1_restore_20 rfl 2 rfl rfl ?_
    refine j_ifnonnull (tgt := 25) hX dX1_restore_21 (by decide) ?_
    refine j_aload_n (pc' := 26) hX dX1_restore_25 rfl 2 rfl rfl ?_
    refine j_aload_n (pc' := 27) hX dX1_restore_26 rfl 1 rfl rfl ?_
    refine j_iload_n (pc' := 28) hX dX1_restore_27 rfl 0 rfl rfl ?_
    obtain ⟨hv9, hf⟩ := hf
    rcases in6 hv9 with hn | hn | hn | hn | hn | hn
    · have hpl : wp_X1_placeAt ha vh (((vh.1 + 6) - 1) - ((vh.1 + 6) - 1) / 6 * 6) (fun r => r = some (ha 2)) := by
        rw [hn]; exact pl_0 ha vh
      replace hf := hf.1 hn
      refine j_callVRb (ci := 1) (nb := 8) (pc' := 31) (As := [.int (((vh.1 + 6) - 1) - ((vh.1 + 6) - 1) / 6 * 6)]) (rest := [.ref m0]) (stk := fun r => va_rf r :: [.ref m0]) (bs := (HiB g ha vh ++ [(MoW g m0 m1 m2 m3 m4 vm)])) (cs := (HiB g ha vh)) (rs := [(MoW g m0 m1 m2 m3 m4 vm)]) hX (fun l => met_X1_placeAt l g ha vh (((vh.1 + 6) - 1) - ((vh.1 + 6) - 1) / 6 * 6) _ hpl) rfl gX1_restore_X1_placeAt yoX1_placeAt rfl ⟨Nat.le_of_ble_eq_true rfl, Nat.le_of_ble_eq_true rfl⟩ ⟨⟨Nat.le_of_ble_eq_true rfl, Nat.le_of_ble_eq_true rfl⟩, rfl, rfl⟩ 0 rfl rfl [7, 0, 1, 2, 3, 4, 5, 6] rfl rfl rfl (by decide) rfl (Nat.le_of_ble_eq_true rfl) rfl (fun _ => rfl) dX1_restore_28 rfl (fun r hr => ?_)
      subst hr
      refine J_st (st' := [.ref (ha 2), .ref m0]) rfl ?_
      refine j_callVMb (ci := 2) (nb := 8) (pc' := 34) (k' := 0) (n' := 0) (As := [.ref (ha 2)]) (rest := []) (stk := fun _ => []) (bs := (HiB g ha vh ++ [(MoW g m0 m1 m2 m3 m4 vm)])) (cs := ([(MoW g m0 m1 m2 m3 m4 vm)] ++ [(MoW g (ha 2) (ha 3) (ha 4) (ha 5) (ha 6) ((vh.2.2 0)))])) (rs := (List.map (fun i : Nat => List.getD (HiB g ha vh ++ [(MoW g m0 m1 m2 m3 m4 vm)]) i []) [0, 2, 3, 4, 5, 6])) (ws' := fun u31_1 => ((HiB g ha vh ++ [(MoW g m0 m1 m2 m3 m4 u31_1)]).flatten)) (bs' := fun u31_1 => (HiB g ha vh ++ [(MoW g m0 m1 m2 m3 m4 u31_1)])) (d1 := fun u31_1 => ([(MoW g m0 m1 m2 m3 m4 u31_1)] ++ [(MoW g (ha 2) (ha 3) (ha 4) (ha 5) (ha 6) ((vh.2.2 0)))])) hX hW (fun l => met_X2_become l g m0 m1 m2 m3 m4 (ha 2) (ha 3) (ha 4) (ha 5) (ha 6) vm (vh.2.2 0) _ hf) rfl gX1_restore_X2_become yoX2_become rfl ⟨Nat.le_of_ble_eq_true rfl, Nat.le_of_ble_eq_true rfl⟩ ⟨Nat.le_of_ble_eq_true rfl, Nat.le_of_ble_eq_true rfl, Nat.le_of_ble_eq_true rfl, Nat.le_of_ble_eq_true rfl⟩ 0 rfl rfl [0, 2, 3, 4, 5, 6, 7, 1] rfl rfl rfl (by decide) rfl (fun _ => rfl) (fun _ => rfl) (fun _ => rfl) (fun _ => rfl) (Nat.le_of_ble_eq_true rfl) rfl (fun _ => rfl) dX1_restore_31 rfl (fun _ u31_1 hf => ?_)
      refine j_aload_n (pc' := 35) hX dX1_restore_34 rfl 1 rfl rfl ?_
      refine j_iload_n (pc' := 36) hX dX1_restore_35 rfl 0 rfl rfl ?_
      obtain ⟨vh_2, evh_2⟩ : ∃ z : Hi, z = hi_n vh ((((vh.1 + 6) - 1) - ((vh.1 + 6) - 1) / 6 * 6)) := ⟨_, rfl⟩
      refine j_put (ci := 1) (pc' := 39) (ws' := ((HiB g ha vh_2 ++ [(MoW g m0 m1 m2 m3 m4 u31_1)]).flatten)) hX hW hin1 tyX1_ok nmX1 rfl 0 rfl 1 (by decide) hl_22 rfl rfl rfl (Nat.le_of_ble_eq_true rfl) dX1_restore_36 (by subst evh_2; rfl) rfl ?_
      replace hf := hf vh_2 evh_2
      refine j_aload_n (pc' := 40) hX dX1_restore_39 rfl 1 rfl rfl ?_
      refine j_dup (pc' := 41) hX dX1_restore_40 rfl rfl ?_
      refine j_get (ci := 1) (pc' := 44) hX hin1 rfl 0 rfl 2 (by decide) hl_18 rfl dX1_restore_41 rfl ?_
      refine j_iconst (pc' := 45) (v := 1) hX dX1_restore_44 (by decide) rfl ?_
      refine j_isub (pc' := 46) hX dX1_restore_45 rfl ?_
      obtain ⟨vh_3, evh_3⟩ : ∃ z : Hi, z = hi_m vh_2 ((vh_2.2.1 - 1)) := ⟨_, rfl⟩
      refine j_put (ci := 1) (pc' := 49) (ws' := ((HiB g ha vh_3 ++ [(MoW g m0 m1 m2 m3 m4 u31_1)]).flatten)) hX hW hin1 tyX1_ok nmX1 rfl 0 rfl 2 (by decide) hl_18 rfl rfl rfl (Nat.le_of_ble_eq_true rfl) dX1_restore_46 (by subst evh_3; rfl) rfl ?_
      replace hf := hf vh_3 evh_3
      exact j_vret hX hR dX1_restore_49 ⟨(), _, rfl, hf, rfl⟩
    · have hpl : wp_X1_placeAt ha vh (((vh.1 + 6) - 1) - ((vh.1 + 6) - 1) / 6 * 6) (fun r => r = some (ha 7)) := by
        rw [hn]; exact pl_1 ha vh
      replace hf := hf.2.1 hn
      refine j_callVRb (ci := 1) (nb := 8) (pc' := 31) (As := [.int (((vh.1 + 6) - 1) - ((vh.1 + 6) - 1) / 6 * 6)]) (rest := [.ref m0]) (stk := fun r => va_rf r :: [.ref m0]) (bs := (HiB g ha vh ++ [(MoW g m0 m1 m2 m3 m4 vm)])) (cs := (HiB g ha vh)) (rs := [(MoW g m0 m1 m2 m3 m4 vm)]) hX (fun l => met_X1_placeAt l g ha vh (((vh.1 + 6) - 1) - ((vh.1 + 6) - 1) / 6 * 6) _ hpl) rfl gX1_restore_X1_placeAt yoX1_placeAt rfl ⟨Nat.le_of_ble_eq_true rfl, Nat.le_of_ble_eq_true rfl⟩ ⟨⟨Nat.le_of_ble_eq_true rfl, Nat.le_of_ble_eq_true rfl⟩, rfl, rfl⟩ 0 rfl rfl [7, 0, 1, 2, 3, 4, 5, 6] rfl rfl rfl (by decide) rfl (Nat.le_of_ble_eq_true rfl) rfl (fun _ => rfl) dX1_restore_28 rfl (fun r hr => ?_)
      subst hr
      refine J_st (st' := [.ref (ha 7), .ref m0]) rfl ?_
      refine j_callVMb (ci := 2) (nb := 8) (pc' := 34) (k' := 0) (n' := 0) (As := [.ref (ha 7)]) (rest := []) (stk := fun _ => []) (bs := (HiB g ha vh ++ [(MoW g m0 m1 m2 m3 m4 vm)])) (cs := ([(MoW g m0 m1 m2 m3 m4 vm)] ++ [(MoW g (ha 7) (ha 8) (ha 9) (ha 10) (ha 11) ((vh.2.2 1)))])) (rs := (List.map (fun i : Nat => List.getD (HiB g ha vh ++ [(MoW g m0 m1 m2 m3 m4 vm)]) i []) [0, 1, 3, 4, 5, 6])) (ws' := fun u31_4 => ((HiB g ha vh ++ [(MoW g m0 m1 m2 m3 m4 u31_4)]).flatten)) (bs' := fun u31_4 => (HiB g ha vh ++ [(MoW g m0 m1 m2 m3 m4 u31_4)])) (d1 := fun u31_4 => ([(MoW g m0 m1 m2 m3 m4 u31_4)] ++ [(MoW g (ha 7) (ha 8) (ha 9) (ha 10) (ha 11) ((vh.2.2 1)))])) hX hW (fun l => met_X2_become l g m0 m1 m2 m3 m4 (ha 7) (ha 8) (ha 9) (ha 10) (ha 11) vm (vh.2.2 1) _ hf) rfl gX1_restore_X2_become yoX2_become rfl ⟨Nat.le_of_ble_eq_true rfl, Nat.le_of_ble_eq_true rfl⟩ ⟨Nat.le_of_ble_eq_true rfl, Nat.le_of_ble_eq_true rfl, Nat.le_of_ble_eq_true rfl, Nat.le_of_ble_eq_true rfl⟩ 0 rfl rfl [0, 1, 3, 4, 5, 6, 7, 2] rfl rfl rfl (by decide) rfl (fun _ => rfl) (fun _ => rfl) (fun _ => rfl) (fun _ => rfl) (Nat.le_of_ble_eq_true rfl) rfl (fun _ => rfl) dX1_restore_31 rfl (fun _ u31_4 hf => ?_)
      refine j_aload_n (pc' := 35) hX dX1_restore_34 rfl 1 rfl rfl ?_
      refine j_iload_n (pc' := 36) hX dX1_restore_35 rfl 0 rfl rfl ?_
      obtain ⟨vh_5, evh_5⟩ : ∃ z : Hi, z = hi_n vh ((((vh.1 + 6) - 1) - ((vh.1 + 6) - 1) / 6 * 6)) := ⟨_, rfl⟩
      refine j_put (ci := 1) (pc' := 39) (ws' := ((HiB g ha vh_5 ++ [(MoW g m0 m1 m2 m3 m4 u31_4)]).flatten)) hX hW hin1 tyX1_ok nmX1 rfl 0 rfl 1 (by decide) hl_22 rfl rfl rfl (Nat.le_of_ble_eq_true rfl) dX1_restore_36 (by subst evh_5; rfl) rfl ?_
      replace hf := hf vh_5 evh_5
      refine j_aload_n (pc' := 40) hX dX1_restore_39 rfl 1 rfl rfl ?_
      refine j_dup (pc' := 41) hX dX1_restore_40 rfl rfl ?_
      refine j_get (ci := 1) (pc' := 44) hX hin1 rfl 0 rfl 2 (by decide) hl_18 rfl dX1_restore_41 rfl ?_
      refine j_iconst (pc' := 45) (v := 1) hX dX1_restore_44 (by decide) rfl ?_
      refine j_isub (pc' := 46) hX dX1_restore_45 rfl ?_
      obtain ⟨vh_6, evh_6⟩ : ∃ z : Hi, z = hi_m vh_5 ((vh_5.2.1 - 1)) := ⟨_, rfl⟩
      refine j_put (ci := 1) (pc' := 49) (ws' := ((HiB g ha vh_6 ++ [(MoW g m0 m1 m2 m3 m4 u31_4)]).flatten)) hX hW hin1 tyX1_ok nmX1 rfl 0 rfl 2 (by decide) hl_18 rfl rfl rfl (Nat.le_of_ble_eq_true rfl) dX1_restore_46 (by subst evh_6; rfl) rfl ?_
      replace hf := hf vh_6 evh_6
      exact j_vret hX hR dX1_restore_49 ⟨(), _, rfl, hf, rfl⟩
    · have hpl : wp_X1_placeAt ha vh (((vh.1 + 6) - 1) - ((vh.1 + 6) - 1) / 6 * 6) (fun r => r = some (ha 12)) := by
        rw [hn]; exact pl_2 ha vh
      replace hf := hf.2.2.1 hn
      refine j_callVRb (ci := 1) (nb := 8) (pc' := 31) (As := [.int (((vh.1 + 6) - 1) - ((vh.1 + 6) - 1) / 6 * 6)]) (rest := [.ref m0]) (stk := fun r => va_rf r :: [.ref m0]) (bs := (HiB g ha vh ++ [(MoW g m0 m1 m2 m3 m4 vm)])) (cs := (HiB g ha vh)) (rs := [(MoW g m0 m1 m2 m3 m4 vm)]) hX (fun l => met_X1_placeAt l g ha vh (((vh.1 + 6) - 1) - ((vh.1 + 6) - 1) / 6 * 6) _ hpl) rfl gX1_restore_X1_placeAt yoX1_placeAt rfl ⟨Nat.le_of_ble_eq_true rfl, Nat.le_of_ble_eq_true rfl⟩ ⟨⟨Nat.le_of_ble_eq_true rfl, Nat.le_of_ble_eq_true rfl⟩, rfl, rfl⟩ 0 rfl rfl [7, 0, 1, 2, 3, 4, 5, 6] rfl rfl rfl (by decide) rfl (Nat.le_of_ble_eq_true rfl) rfl (fun _ => rfl) dX1_restore_28 rfl (fun r hr => ?_)
      subst hr
      refine J_st (st' := [.ref (ha 12), .ref m0]) rfl ?_
      refine j_callVMb (ci := 2) (nb := 8) (pc' := 34) (k' := 0) (n' := 0) (As := [.ref (ha 12)]) (rest := []) (stk := fun _ => []) (bs := (HiB g ha vh ++ [(MoW g m0 m1 m2 m3 m4 vm)])) (cs := ([(MoW g m0 m1 m2 m3 m4 vm)] ++ [(MoW g (ha 12) (ha 13) (ha 14) (ha 15) (ha 16) ((vh.2.2 2)))])) (rs := (List.map (fun i : Nat => List.getD (HiB g ha vh ++ [(MoW g m0 m1 m2 m3 m4 vm)]) i []) [0, 1, 2, 4, 5, 6])) (ws' := fun u31_7 => ((HiB g ha vh ++ [(MoW g m0 m1 m2 m3 m4 u31_7)]).flatten)) (bs' := fun u31_7 => (HiB g ha vh ++ [(MoW g m0 m1 m2 m3 m4 u31_7)])) (d1 := fun u31_7 => ([(MoW g m0 m1 m2 m3 m4 u31_7)] ++ [(MoW g (ha 12) (ha 13) (ha 14) (ha 15) (ha 16) ((vh.2.2 2)))])) hX hW (fun l => met_X2_become l g m0 m1 m2 m3 m4 (ha 12) (ha 13) (ha 14) (ha 15) (ha 16) vm (vh.2.2 2) _ hf) rfl gX1_restore_X2_become yoX2_become rfl ⟨Nat.le_of_ble_eq_true rfl, Nat.le_of_ble_eq_true rfl⟩ ⟨Nat.le_of_ble_eq_true rfl, Nat.le_of_ble_eq_true rfl, Nat.le_of_ble_eq_true rfl, Nat.le_of_ble_eq_true rfl⟩ 0 rfl rfl [0, 1, 2, 4, 5, 6, 7, 3] rfl rfl rfl (by decide) rfl (fun _ => rfl) (fun _ => rfl) (fun _ => rfl) (fun _ => rfl) (Nat.le_of_ble_eq_true rfl) rfl (fun _ => rfl) dX1_restore_31 rfl (fun _ u31_7 hf => ?_)
      refine j_aload_n (pc' := 35) hX dX1_restore_34 rfl 1 rfl rfl ?_
      refine j_iload_n (pc' := 36) hX dX1_restore_35 rfl 0 rfl rfl ?_
      obtain ⟨vh_8, evh_8⟩ : ∃ z : Hi, z = hi_n vh ((((vh.1 + 6) - 1) - ((vh.1 + 6) - 1) / 6 * 6)) := ⟨_, rfl⟩
      refine j_put (ci := 1) (pc' := 39) (ws' := ((HiB g ha vh_8 ++ [(MoW g m0 m1 m2 m3 m4 u31_7)]).flatten)) hX hW hin1 tyX1_ok nmX1 rfl 0 rfl 1 (by decide) hl_22 rfl rfl rfl (Nat.le_of_ble_eq_true rfl) dX1_restore_36 (by subst evh_8; rfl) rfl ?_
      replace hf := hf vh_8 evh_8
      refine j_aload_n (pc' := 40) hX dX1_restore_39 rfl 1 rfl rfl ?_
      refine j_dup (pc' := 41) hX dX1_restore_40 rfl rfl ?_
      refine j_get (ci := 1) (pc' := 44) hX hin1 rfl 0 rfl 2 (by decide) hl_18 rfl dX1_restore_41 rfl ?_
      refine j_iconst (pc' := 45) (v := 1) hX dX1_restore_44 (by decide) rfl ?_
      refine j_isub (pc' := 46) hX dX1_restore_45 rfl ?_
      obtain ⟨vh_9, evh_9⟩ : ∃ z : Hi, z = hi_m vh_8 ((vh_8.2.1 - 1)) := ⟨_, rfl⟩
      refine j_put (ci := 1) (pc' := 49) (ws' := ((HiB g ha vh_9 ++ [(MoW g m0 m1 m2 m3 m4 u31_7)]).flatten)) hX hW hin1 tyX1_ok nmX1 rfl 0 rfl 2 (by decide) hl_18 rfl rfl rfl (Nat.le_of_ble_eq_true rfl) dX1_restore_46 (by subst evh_9; rfl) rfl ?_
      replace hf := hf vh_9 evh_9
      exact j_vret hX hR dX1_restore_49 ⟨(), _, rfl, hf, rfl⟩
    · have hpl : wp_X1_placeAt ha vh (((vh.1 + 6) - 1) - ((vh.1 + 6) - 1) / 6 * 6) (fun r => r = some (ha 17)) := by
        rw [hn]; exact pl_3 ha vh
      replace hf := hf.2.2.2.1 hn
      refine j_callVRb (ci := 1) (nb := 8) (pc' := 31) (As := [.int (((vh.1 + 6) - 1) - ((vh.1 + 6) - 1) / 6 * 6)]) (rest := [.ref m0]) (stk := fun r => va_rf r :: [.ref m0]) (bs := (HiB g ha vh ++ [(MoW g m0 m1 m2 m3 m4 vm)])) (cs := (HiB g ha vh)) (rs := [(MoW g m0 m1 m2 m3 m4 vm)]) hX (fun l => met_X1_placeAt l g ha vh (((vh.1 + 6) - 1) - ((vh.1 + 6) - 1) / 6 * 6) _ hpl) rfl gX1_restore_X1_placeAt yoX1_placeAt rfl ⟨Nat.le_of_ble_eq_true rfl, Nat.le_of_ble_eq_true rfl⟩ ⟨⟨Nat.le_of_ble_eq_true rfl, Nat.le_of_ble_eq_true rfl⟩, rfl, rfl⟩ 0 rfl rfl [7, 0, 1, 2, 3, 4, 5, 6] rfl rfl rfl (by decide) rfl (Nat.le_of_ble_eq_true rfl) rfl (fun _ => rfl) dX1_restore_28 rfl (fun r hr => ?_)
      subst hr
      refine J_st (st' := [.ref (ha 17), .ref m0]) rfl ?_
      refine j_callVMb (ci := 2) (nb := 8) (pc' := 34) (k' := 0) (n' := 0) (As := [.ref (ha 17)]) (rest := []) (stk := fun _ => []) (bs := (HiB g ha vh ++ [(MoW g m0 m1 m2 m3 m4 vm)])) (cs := ([(MoW g m0 m1 m2 m3 m4 vm)] ++ [(MoW g (ha 17) (ha 18) (ha 19) (ha 20) (ha 21) ((vh.2.2 3)))])) (rs := (List.map (fun i : Nat => List.getD (HiB g ha vh ++ [(MoW g m0 m1 m2 m3 m4 vm)]) i []) [0, 1, 2, 3, 5, 6])) (ws' := fun u31_10 => ((HiB g ha vh ++ [(MoW g m0 m1 m2 m3 m4 u31_10)]).flatten)) (bs' := fun u31_10 => (HiB g ha vh ++ [(MoW g m0 m1 m2 m3 m4 u31_10)])) (d1 := fun u31_10 => ([(MoW g m0 m1 m2 m3 m4 u31_10)] ++ [(MoW g (ha 17) (ha 18) (ha 19) (ha 20) (ha 21) ((vh.2.2 3)))])) hX hW (fun l => met_X2_become l g m0 m1 m2 m3 m4 (ha 17) (ha 18) (ha 19) (ha 20) (ha 21) vm (vh.2.2 3) _ hf) rfl gX1_restore_X2_become yoX2_become rfl ⟨Nat.le_of_ble_eq_true rfl, Nat.le_of_ble_eq_true rfl⟩ ⟨Nat.le_of_ble_eq_true rfl, Nat.le_of_ble_eq_true rfl, Nat.le_of_ble_eq_true rfl, Nat.le_of_ble_eq_true rfl⟩ 0 rfl rfl [0, 1, 2, 3, 5, 6, 7, 4] rfl rfl rfl (by decide) rfl (fun _ => rfl) (fun _ => rfl) (fun _ => rfl) (fun _ => rfl) (Nat.le_of_ble_eq_true rfl) rfl (fun _ => rfl) dX1_restore_31 rfl (fun _ u31_10 hf => ?_)
      refine j_aload_n (pc' := 35) hX dX1_restore_34 rfl 1 rfl rfl ?_
      refine j_iload_n (pc' := 36) hX dX1_restore_35 rfl 0 rfl rfl ?_
      obtain ⟨vh_11, evh_11⟩ : ∃ z : Hi, z = hi_n vh ((((vh.1 + 6) - 1) - ((vh.1 + 6) - 1) / 6 * 6)) := ⟨_, rfl⟩
      refine j_put (ci := 1) (pc' := 39) (ws' := ((HiB g ha vh_11 ++ [(MoW g m0 m1 m2 m3 m4 u31_10)]).flatten)) hX hW hin1 tyX1_ok nmX1 rfl 0 rfl 1 (by decide) hl_22 rfl rfl rfl (Nat.le_of_ble_eq_true rfl) dX1_restore_36 (by subst evh_11; rfl) rfl ?_
      replace hf := hf vh_11 evh_11
      refine j_aload_n (pc' := 40) hX dX1_restore_39 rfl 1 rfl rfl ?_
      refine j_dup (pc' := 41) hX dX1_restore_40 rfl rfl ?_
      refine j_get (ci := 1) (pc' := 44) hX hin1 rfl 0 rfl 2 (by decide) hl_18 rfl dX1_restore_41 rfl ?_
      refine j_iconst (pc' := 45) (v := 1) hX dX1_restore_44 (by decide) rfl ?_
      refine j_isub (pc' := 46) hX dX1_restore_45 rfl ?_
      obtain ⟨vh_12, evh_12⟩ : ∃ z : Hi, z = hi_m vh_11 ((vh_11.2.1 - 1)) := ⟨_, rfl⟩
      refine j_put (ci := 1) (pc' := 49) (ws' := ((HiB g ha vh_12 ++ [(MoW g m0 m1 m2 m3 m4 u31_10)]).flatten)) hX hW hin1 tyX1_ok nmX1 rfl 0 rfl 2 (by decide) hl_18 rfl rfl rfl (Nat.le_of_ble_eq_true rfl) dX1_restore_46 (by subst evh_12; rfl) rfl ?_
      replace hf := hf vh_12 evh_12
      exact j_vret hX hR dX1_restore_49 ⟨(), _, rfl, hf, rfl⟩
    · have hpl : wp_X1_placeAt ha vh (((vh.1 + 6) - 1) - ((vh.1 + 6) - 1) / 6 * 6) (fun r => r = some (ha 22)) := by
        rw [hn]; exact pl_4 ha vh
      replace hf := hf.2.2.2.2.1 hn
      refine j_callVRb (ci := 1) (nb := 8) (pc' := 31) (As := [.int (((vh.1 + 6) - 1) - ((vh.1 + 6) - 1) / 6 * 6)]) (rest := [.ref m0]) (stk := fun r => va_rf r :: [.ref m0]) (bs := (HiB g ha vh ++ [(MoW g m0 m1 m2 m3 m4 vm)])) (cs := (HiB g ha vh)) (rs := [(MoW g m0 m1 m2 m3 m4 vm)]) hX (fun l => met_X1_placeAt l g ha vh (((vh.1 + 6) - 1) - ((vh.1 + 6) - 1) / 6 * 6) _ hpl) rfl gX1_restore_X1_placeAt yoX1_placeAt rfl ⟨Nat.le_of_ble_eq_true rfl, Nat.le_of_ble_eq_true rfl⟩ ⟨⟨Nat.le_of_ble_eq_true rfl, Nat.le_of_ble_eq_true rfl⟩, rfl, rfl⟩ 0 rfl rfl [7, 0, 1, 2, 3, 4, 5, 6] rfl rfl rfl (by decide) rfl (Nat.le_of_ble_eq_true rfl) rfl (fun _ => rfl) dX1_restore_28 rfl (fun r hr => ?_)
      subst hr
      refine J_st (st' := [.ref (ha 22), .ref m0]) rfl ?_
      refine j_callVMb (ci := 2) (nb := 8) (pc' := 34) (k' := 0) (n' := 0) (As := [.ref (ha 22)]) (rest := []) (stk := fun _ => []) (bs := (HiB g ha vh ++ [(MoW g m0 m1 m2 m3 m4 vm)])) (cs := ([(MoW g m0 m1 m2 m3 m4 vm)] ++ [(MoW g (ha 22) (ha 23) (ha 24) (ha 25) (ha 26) ((vh.2.2 4)))])) (rs := (List.map (fun i : Nat => List.getD (HiB g ha vh ++ [(MoW g m0 m1 m2 m3 m4 vm)]) i []) [0, 1, 2, 3, 4, 6])) (ws' := fun u31_13 => ((HiB g ha vh ++ [(MoW g m0 m1 m2 m3 m4 u31_13)]).flatten)) (bs' := fun u31_13 => (HiB g ha vh ++ [(MoW g m0 m1 m2 m3 m4 u31_13)])) (d1 := fun u31_13 => ([(MoW g m0 m1 m2 m3 m4 u31_13)] ++ [(MoW g (ha 22) (ha 23) (ha 24) (ha 25) (ha 26) ((vh.2.2 4)))])) hX hW (fun l => met_X2_become l g m0 m1 m2 m3 m4 (ha 22) (ha 23) (ha 24) (ha 25) (ha 26) vm (vh.2.2 4) _ hf) rfl gX1_restore_X2_become yoX2_become rfl ⟨Nat.le_of_ble_eq_true rfl, Nat.le_of_ble_eq_true rfl⟩ ⟨Nat.le_of_ble_eq_true rfl, Nat.le_of_ble_eq_true rfl, Nat.le_of_ble_eq_true rfl, Nat.le_of_ble_eq_true rfl⟩ 0 rfl rfl [0, 1, 2, 3, 4, 6, 7, 5] rfl rfl rfl (by decide) rfl (fun _ => rfl) (fun _ => rfl) (fun _ => rfl) (fun _ => rfl) (Nat.le_of_ble_eq_true rfl) rfl (fun _ => rfl) dX1_restore_31 rfl (fun _ u31_13 hf => ?_)
      refine j_aload_n (pc' := 35) hX dX1_restore_34 rfl 1 rfl rfl ?_
      refine j_iload_n (pc' := 36) hX dX1_restore_35 rfl 0 rfl rfl ?_
      obtain ⟨vh_14, evh_14⟩ : ∃ z : Hi, z = hi_n vh ((((vh.1 + 6) - 1) - ((vh.1 + 6) - 1) / 6 * 6)) := ⟨_, rfl⟩
      refine j_put (ci := 1) (pc' := 39) (ws' := ((HiB g ha vh_14 ++ [(MoW g m0 m1 m2 m3 m4 u31_13)]).flatten)) hX hW hin1 tyX1_ok nmX1 rfl 0 rfl 1 (by decide) hl_22 rfl rfl rfl (Nat.le_of_ble_eq_true rfl) dX1_restore_36 (by subst evh_14; rfl) rfl ?_
      replace hf := hf vh_14 evh_14
      refine j_aload_n (pc' := 40) hX dX1_restore_39 rfl 1 rfl rfl ?_
      refine j_dup (pc' := 41) hX dX1_restore_40 rfl rfl ?_
      refine j_get (ci := 1) (pc' := 44) hX hin1 rfl 0 rfl 2 (by decide) hl_18 rfl dX1_restore_41 rfl ?_
      refine j_iconst (pc' := 45) (v := 1) hX dX1_restore_44 (by decide) rfl ?_
      refine j_isub (pc' := 46) hX dX1_restore_45 rfl ?_
      obtain ⟨vh_15, evh_15⟩ : ∃ z : Hi, z = hi_m vh_14 ((vh_14.2.1 - 1)) := ⟨_, rfl⟩
      refine j_put (ci := 1) (pc' := 49) (ws' := ((HiB g ha vh_15 ++ [(MoW g m0 m1 m2 m3 m4 u31_13)]).flatten)) hX hW hin1 tyX1_ok nmX1 rfl 0 rfl 2 (by decide) hl_18 rfl rfl rfl (Nat.le_of_ble_eq_true rfl) dX1_restore_46 (by subst evh_15; rfl) rfl ?_
      replace hf := hf vh_15 evh_15
      exact j_vret hX hR dX1_restore_49 ⟨(), _, rfl, hf, rfl⟩
    · have hpl : wp_X1_placeAt ha vh (((vh.1 + 6) - 1) - ((vh.1 + 6) - 1) / 6 * 6) (fun r => r = some (ha 27)) := by
        rw [hn]; exact pl_5 ha vh
      replace hf := hf.2.2.2.2.2 hn
      refine j_callVRb (ci := 1) (nb := 8) (pc' := 31) (As := [.int (((vh.1 + 6) - 1) - ((vh.1 + 6) - 1) / 6 * 6)]) (rest := [.ref m0]) (stk := fun r => va_rf r :: [.ref m0]) (bs := (HiB g ha vh ++ [(MoW g m0 m1 m2 m3 m4 vm)])) (cs := (HiB g ha vh)) (rs := [(MoW g m0 m1 m2 m3 m4 vm)]) hX (fun l => met_X1_placeAt l g ha vh (((vh.1 + 6) - 1) - ((vh.1 + 6) - 1) / 6 * 6) _ hpl) rfl gX1_restore_X1_placeAt yoX1_placeAt rfl ⟨Nat.le_of_ble_eq_true rfl, Nat.le_of_ble_eq_true rfl⟩ ⟨⟨Nat.le_of_ble_eq_true rfl, Nat.le_of_ble_eq_true rfl⟩, rfl, rfl⟩ 0 rfl rfl [7, 0, 1, 2, 3, 4, 5, 6] rfl rfl rfl (by decide) rfl (Nat.le_of_ble_eq_true rfl) rfl (fun _ => rfl) dX1_restore_28 rfl (fun r hr => ?_)
      subst hr
      refine J_st (st' := [.ref (ha 27), .ref m0]) rfl ?_
      refine j_callVMb (ci := 2) (nb := 8) (pc' := 34) (k' := 0) (n' := 0) (As := [.ref (ha 27)]) (rest := []) (stk := fun _ => []) (bs := (HiB g ha vh ++ [(MoW g m0 m1 m2 m3 m4 vm)])) (cs := ([(MoW g m0 m1 m2 m3 m4 vm)] ++ [(MoW g (ha 27) (ha 28) (ha 29) (ha 30) (ha 31) ((vh.2.2 5)))])) (rs := (List.map (fun i : Nat => List.getD (HiB g ha vh ++ [(MoW g m0 m1 m2 m3 m4 vm)]) i []) [0, 1, 2, 3, 4, 5])) (ws' := fun u31_16 => ((HiB g ha vh ++ [(MoW g m0 m1 m2 m3 m4 u31_16)]).flatten)) (bs' := fun u31_16 => (HiB g ha vh ++ [(MoW g m0 m1 m2 m3 m4 u31_16)])) (d1 := fun u31_16 => ([(MoW g m0 m1 m2 m3 m4 u31_16)] ++ [(MoW g (ha 27) (ha 28) (ha 29) (ha 30) (ha 31) ((vh.2.2 5)))])) hX hW (fun l => met_X2_become l g m0 m1 m2 m3 m4 (ha 27) (ha 28) (ha 29) (ha 30) (ha 31) vm (vh.2.2 5) _ hf) rfl gX1_restore_X2_become yoX2_become rfl ⟨Nat.le_of_ble_eq_true rfl, Nat.le_of_ble_eq_true rfl⟩ ⟨Nat.le_of_ble_eq_true rfl, Nat.le_of_ble_eq_true rfl, Nat.le_of_ble_eq_true rfl, Nat.le_of_ble_eq_true rfl⟩ 0 rfl rfl [0, 1, 2, 3, 4, 5, 7, 6] rfl rfl rfl (by decide) rfl (fun _ => rfl) (fun _ => rfl) (fun _ => rfl) (fun _ => rfl) (Nat.le_of_ble_eq_true rfl) rfl (fun _ => rfl) dX1_restore_31 rfl (fun _ u31_16 hf => ?_)
      refine j_aload_n (pc' := 35) hX dX1_restore_34 rfl 1 rfl rfl ?_
      refine j_iload_n (pc' := 36) hX dX1_restore_35 rfl 0 rfl rfl ?_
      obtain ⟨vh_17, evh_17⟩ : ∃ z : Hi, z = hi_n vh ((((vh.1 + 6) - 1) - ((vh.1 + 6) - 1) / 6 * 6)) := ⟨_, rfl⟩
      refine j_put (ci := 1) (pc' := 39) (ws' := ((HiB g ha vh_17 ++ [(MoW g m0 m1 m2 m3 m4 u31_16)]).flatten)) hX hW hin1 tyX1_ok nmX1 rfl 0 rfl 1 (by decide) hl_22 rfl rfl rfl (Nat.le_of_ble_eq_true rfl) dX1_restore_36 (by subst evh_17; rfl) rfl ?_
      replace hf := hf vh_17 evh_17
      refine j_aload_n (pc' := 40) hX dX1_restore_39 rfl 1 rfl rfl ?_
      refine j_dup (pc' := 41) hX dX1_restore_40 rfl rfl ?_
      refine j_get (ci := 1) (pc' := 44) hX hin1 rfl 0 rfl 2 (by decide) hl_18 rfl dX1_restore_41 rfl ?_
      refine j_iconst (pc' := 45) (v := 1) hX dX1_restore_44 (by decide) rfl ?_
      refine j_isub (pc' := 46) hX dX1_restore_45 rfl ?_
      obtain ⟨vh_18, evh_18⟩ : ∃ z : Hi, z = hi_m vh_17 ((vh_17.2.1 - 1)) := ⟨_, rfl⟩
      refine j_put (ci := 1) (pc' := 49) (ws' := ((HiB g ha vh_18 ++ [(MoW g m0 m1 m2 m3 m4 u31_16)]).flatten)) hX hW hin1 tyX1_ok nmX1 rfl 0 rfl 2 (by decide) hl_18 rfl rfl rfl (Nat.le_of_ble_eq_true rfl) dX1_restore_46 (by subst evh_18; rfl) rfl ?_
      replace hf := hf vh_18 evh_18
      exact j_vret hX hR dX1_restore_49 ⟨(), _, rfl, hf, rfl⟩
