def wp_X2_copy (nf : Nat) (nt : Nat) (vf : (Nat → Int32)) (vt : (Nat → Int32)) (post : ((Nat → Int32)) → Prop) : Prop :=
  ((¬ (0 : Int32) < 0 ∧ ¬ (0 : Int32) < 0 ∧ ¬ (if (Int32.ofNat nt) < (Int32.ofNat nf) then (Int32.ofNat nt) else (Int32.ofNat nf)) < 0 ∧ (0 : Int32).toNatClampNeg + (if (Int32.ofNat nt) < (Int32.ofNat nf) then (Int32.ofNat nt) else (Int32.ofNat nf)).toNatClampNeg ≤ nf ∧ (0 : Int32).toNatClampNeg + (if (Int32.ofNat nt) < (Int32.ofNat nf) then (Int32.ofNat nt) else (Int32.ofNat nf)).toNatClampNeg ≤ nt) ∧ ∀ vt_1 : (Nat → Int32), vt_1 = va_cpy vf vt (0 : Int32).toNatClampNeg (0 : Int32).toNatClampNeg (if (Int32.ofNat nt) < (Int32.ofNat nf) then (Int32.ofNat nt) else (Int32.ofNat nf)).toNatClampNeg → post vt_1)
theorem yoX2_copy : yOk yX2_copy 2 := by decide +kernel
set_option maxHeartbeats 4000000 in
set_option maxRecDepth 100000 in
theorem met_X2_copy (l : Launch) (g : JG) (f0 : Nat) (t0 : Nat) (nf : Nat) (nt : Nat) (vf : (Nat → Int32)) (vt : (Nat → Int32)) (post : ((Nat → Int32)) → Prop) (hf : wp_X2_copy nf nt vf vt post) : MetM l yX2_copy wsX2_copy ({ frames := 1, cells := 0, slots := 0, locals := 60 } : Room) [.ref f0, .ref t0] g ((AIW g f0 nf vf) ++ (AIW g t0 nt vt)) mkV (fun (_ : Unit) (u : (Nat → Int32)) => post u) (fun u : (Nat → Int32) => ((AIW g f0 nf vf) ++ (AIW g t0 nt u))) := by
  have hl_38 : Cond.methodLink RX2 38 Lib.Math.min.name ∈ wsX2_copy := by decide +kernel
  have hs_min : Cond.static Lib.Math.min.name ∈ wsX2_copy := by decide +kernel
  have hi_math : Cond.initialized "java/lang/Math" ∈ wsX2_copy := by decide +kernel
  have hc_min : Cond.code Lib.Math.min.name Lib.Math.min.code 2 (some .int) ∈ wsX2_copy := by decide +kernel
  have hl_44 : Cond.methodLink RX2 44 arraycopyName ∈ wsX2_copy := by decide +kernel
  have hn_ac : Cond.native arraycopyName ∈ wsX2_copy := by decide +kernel
  have hs_ac : Cond.static arraycopyName ∈ wsX2_copy := by decide +kernel
  have hi_ac : Cond.initialized "java/lang/System" ∈ wsX2_copy := by decide +kernel
  refine enterM (own := RX2) (cc := cX2_copy) (nL := 2) (ret := none) (lv := [(0, .ref f0), (1, .ref t0)]) (by decide) rfl rfl (Nat.le_of_ble_eq_true rfl) rfl (fun X hX hW hR => ?_)
  unfold wp_X2_copy at hf
  refine j_aload_n (pc' := 1) hX dX2_copy_0 rfl 0 rfl rfl ?_
  refine j_iconst (pc' := 2) (v := 0) hX dX2_copy_1 (by decide) rfl ?_
  refine j_aload_n (pc' := 3) hX dX2_copy_2 rfl 1 rfl rfl ?_
  refine j_iconst (pc' := 4) (v := 0) hX dX2_copy_3 (by decide) rfl ?_
  refine j_aload_n (pc' := 5) hX dX2_copy_4 rfl 0 rfl rfl ?_
  refine j_alen (v := (Int32.ofNat nf)) (pc' := 6) hX 0 0 rfl rfl rfl dX2_copy_5 rfl ?_
  refine j_aload_n (pc' := 7) hX dX2_copy_6 rfl 1 rfl rfl ?_
  refine j_alen (v := (Int32.ofNat nt)) (pc' := 8) hX 1 0 rfl rfl rfl dX2_copy_7 rfl ?_
  refine j_mmin (pc' := 11) hX hl_38 hs_min hi_math hc_min ⟨Nat.le_of_ble_eq_true rfl, Nat.le_of_ble_eq_true rfl, Nat.le_of_ble_eq_true rfl, Nat.le_of_ble_eq_true rfl⟩ dX2_copy_8 rfl ?_
  obtain ⟨vt_1, evt_1⟩ : ∃ z : (Nat → Int32), z = va_cpy vf vt (0 : Int32).toNatClampNeg (0 : Int32).toNatClampNeg (if (Int32.ofNat nt) < (Int32.ofNat nf) then (Int32.ofNat nt) else (Int32.ofNat nf)).toNatClampNeg := ⟨_, rfl⟩
  refine j_copyi (pc' := 14) (ws' := ((AIW g f0 nf vf) ++ (AIW g t0 nt vt_1))) hX hW hl_44 hn_ac hs_ac hi_ac 0 1 rfl rfl ⟨Nat.le_of_ble_eq_true rfl, Nat.le_of_ble_eq_true rfl⟩ dX2_copy_11 hf (by subst evt_1; rfl) rfl (fun hf => ?_)
  replace hf := hf vt_1 evt_1
  exact j_vret hX hR dX2_copy_14 ⟨(), _, rfl, hf, rfl⟩
def wp_X2_become (vm : Mo) (vo : Mo) (post : Mo → Prop) : Prop :=
  (wp_X2_copy 6 6 vo.1 vm.1 (fun u13_1 => (wp_X2_copy 6 6 vo.2.1 ((mo_c vm (u13_1)).2.1) (fun u24_2 => (wp_X2_copy 360 360 vo.2.2.1 ((mo_t (mo_c vm (u13_1)) (u24_2)).2.2.1) (fun u35_3 => (wp_X2_copy 7 7 vo.2.2.2.1 ((mo_b (mo_t (mo_c vm (u13_1)) (u24_2)) (u35_3)).2.2.2.1) (fun u46_4 => (∀ vm_5 : Mo, vm_5 = mo_r (mo_s (mo_b (mo_t (mo_c vm (u13_1)) (u24_2)) (u35_3)) (u46_4)) (vo.2.2.2.2.1) → (∀ vm_6 : Mo, vm_6 = mo_k vm_5 (vo.2.2.2.2.2.1) → (∀ vm_7 : Mo, vm_7 = mo_w vm_6 (vo.2.2.2.2.2.2) → post vm_7)))))))))))
theorem yoX2_become : yOk yX2_become 1 := by decide +kernel
set_option maxHeartbeats 4000000 in
set_option maxRecDepth 100000 in
theorem met_X2_become (l : Launch) (g : JG) (m0 : Nat) (m1 : Nat) (m2 : Nat) (m3 : Nat) (m4 : Nat) (o0 : Nat) (o1 : Nat) (o2 : Nat) (o3 : Nat) (o4 : Nat) (vm : Mo) (vo : Mo) (post : Mo → Prop) (hf : wp_X2_become vm vo post) : MetM l yX2_become wsX2_become ({ frames := 2, cells := 0, slots := 0, locals := 81 } : Room) [.ref m0, .ref o0] g ((MoW g m0 m1 m2 m3 m4 vm) ++ (MoW g o0 o1 o2 o3 o4 vo)) mkV (fun (_ : Unit) (u : Mo) => post u) (fun u : Mo => ((MoW g m0 m1 m2 m3 m4 u) ++ (MoW g o0 o1 o2 o3 o4 vo))) := by
  have hin2 : ∀ w ∈ u_ws RX2 TX2 7, w ∈ wsX2_become := by decide +kernel
  have hl_9 : Cond.fieldLink RX2 9 (TX2 0).1 (TX2 0).2.1 (TX2 0).2.2.1 ∈ wsX2_become := by decide +kernel
  have hl_15 : Cond.fieldLink RX2 15 (TX2 1).1 (TX2 1).2.1 (TX2 1).2.2.1 ∈ wsX2_become := by decide +kernel
  have hl_18 : Cond.fieldLink RX2 18 (TX2 2).1 (TX2 2).2.1 (TX2 2).2.2.1 ∈ wsX2_become := by decide +kernel
  have hl_21 : Cond.fieldLink RX2 21 (TX2 3).1 (TX2 3).2.1 (TX2 3).2.2.1 ∈ wsX2_become := by decide +kernel
  have hl_28 : Cond.fieldLink RX2 28 (TX2 4).1 (TX2 4).2.1 (TX2 4).2.2.1 ∈ wsX2_become := by decide +kernel
  have hl_32 : Cond.fieldLink RX2 32 (TX2 5).1 (TX2 5).2.1 (TX2 5).2.2.1 ∈ wsX2_become := by decide +kernel
  have hl_35 : Cond.fieldLink RX2 35 (TX2 6).1 (TX2 6).2.1 (TX2 6).2.2.1 ∈ wsX2_become := by decide +kernel
  refine enterM (own := RX2) (cc := cX2_become) (nL := 2) (ret := none) (lv := [(0, .ref m0), (1, .ref o0)]) (by decide) rfl rfl (Nat.le_of_ble_eq_true rfl) rfl (fun X hX hW hR => ?_)
  unfold wp_X2_become at hf
  refine j_aload_n (pc' := 1) hX dX2_become_0 rfl 1 rfl rfl ?_
  refine j_ifnonnull (tgt := 5) hX dX2_become_1 (by decide) ?_
  refine j_aload_n (pc' := 6) hX dX2_become_5 rfl 1 rfl rfl ?_
  refine j_get (ci := 2) (pc' := 9) hX hin2 rfl 5 rfl 0 (by decide) hl_9 rfl dX2_become_6 rfl ?_
  refine j_aload_n (pc' := 10) hX dX2_become_9 rfl 0 rfl rfl ?_
  refine j_get (ci := 2) (pc' := 13) hX hin2 rfl 0 rfl 0 (by decide) hl_9 rfl dX2_become_10 rfl ?_
  refine j_callSM (pc' := 16) (k' := 0) (n' := 0) (As := [.ref o1, .ref m1]) (rest := []) (stk := fun _ => []) (ws' := fun u13_1 => ((MoW g m0 m1 m2 m3 m4 (mo_c vm (u13_1))) ++ (MoW g o0 o1 o2 o3 o4 vo))) (wr := (List.filterMap (fun i : Nat => ((MoW g m0 m1 m2 m3 m4 vm) ++ (MoW g o0 o1 o2 o3 o4 vo))[i]?) [0, 2, 3, 4, 5, 7, 8, 9])) hX hW (fun l => met_X2_copy l g o1 m1 6 6 vo.1 vm.1 _ hf) rfl gX2_become_X2_copy yoX2_copy rfl ⟨Nat.le_of_ble_eq_true rfl, Nat.le_of_ble_eq_true rfl⟩ ⟨Nat.le_of_ble_eq_true rfl, Nat.le_of_ble_eq_true rfl, Nat.le_of_ble_eq_true rfl, Nat.le_of_ble_eq_true rfl⟩ [6, 1] [0, 2, 3, 4, 5, 7, 8, 9] [0, 9, 1, 2, 3, 4, 8, 5, 6, 7] rfl (by decide) rfl (by decide) (by decide) (fun _ => rfl) (by decide) (Nat.le_of_ble_eq_true rfl) rfl (fun _ => rfl) dX2_become_13 rfl (fun _ u13_1 hf => ?_)
  refine j_aload_n (pc' := 17) hX dX2_become_16 rfl 1 rfl rfl ?_
  refine j_get (ci := 2) (pc' := 20) hX hin2 rfl 5 rfl 1 (by decide) hl_15 rfl dX2_become_17 rfl ?_
  refine j_aload_n (pc' := 21) hX dX2_become_20 rfl 0 rfl rfl ?_
  refine j_get (ci := 2) (pc' := 24) hX hin2 rfl 0 rfl 1 (by decide) hl_15 rfl dX2_become_21 rfl ?_
  refine j_callSM (pc' := 27) (k' := 0) (n' := 0) (As := [.ref o2, .ref m2]) (rest := []) (stk := fun _ => []) (ws' := fun u24_2 => ((MoW g m0 m1 m2 m3 m4 (mo_t (mo_c vm (u13_1)) (u24_2))) ++ (MoW g o0 o1 o2 o3 o4 vo))) (wr := (List.filterMap (fun i : Nat => ((MoW g m0 m1 m2 m3 m4 (mo_c vm (u13_1))) ++ (MoW g o0 o1 o2 o3 o4 vo))[i]?) [0, 1, 3, 4, 5, 6, 8, 9])) hX hW (fun l => met_X2_copy l g o2 m2 6 6 vo.2.1 ((mo_c vm (u13_1)).2.1) _ hf) rfl gX2_become_X2_copy yoX2_copy rfl ⟨Nat.le_of_ble_eq_true rfl, Nat.le_of_ble_eq_true rfl⟩ ⟨Nat.le_of_ble_eq_true rfl, Nat.le_of_ble_eq_true rfl, Nat.le_of_ble_eq_true rfl, Nat.le_of_ble_eq_true rfl⟩ [7, 2] [0, 1, 3, 4, 5, 6, 8, 9] [0, 1, 9, 2, 3, 4, 5, 8, 6, 7] rfl (by decide) rfl (by decide) (by decide) (fun _ => rfl) (by decide) (Nat.le_of_ble_eq_true rfl) rfl (fun _ => rfl) dX2_become_24 rfl (fun _ u24_2 hf => ?_)
  refine j_aload_n (pc' := 28) hX dX2_become_27 rfl 1 rfl rfl ?_
  refine j_get (ci := 2) (pc' := 31) hX hin2 rfl 5 rfl 2 (by decide) hl_18 rfl dX2_become_28 rfl ?_
  refine j_aload_n (pc' := 32) hX dX2_become_31 rfl 0 rfl rfl ?_
  refine j_get (ci := 2) (pc' := 35) hX hin2 rfl 0 rfl 2 (by decide) hl_18 rfl dX2_become_32 rfl ?_
  refine j_callSM (pc' := 38) (k' := 0) (n' := 0) (As := [.ref o3, .ref m3]) (rest := []) (stk := fun _ => []) (ws' := fun u35_3 => ((MoW g m0 m1 m2 m3 m4 (mo_b (mo_t (mo_c vm (u13_1)) (u24_2)) (u35_3))) ++ (MoW g o0 o1 o2 o3 o4 vo))) (wr := (List.filterMap (fun i : Nat => ((MoW g m0 m1 m2 m3 m4 (mo_t (mo_c vm (u13_1)) (u24_2))) ++ (MoW g o0 o1 o2 o3 o4 vo))[i]?) [0, 1, 2, 4, 5, 6, 7, 9])) hX hW (fun l => met_X2_copy l g o3 m3 360 360 vo.2.2.1 ((mo_t (mo_c vm (u13_1)) (u24_2)).2.2.1) _ hf) rfl gX2_become_X2_copy yoX2_copy rfl ⟨Nat.le_of_ble_eq_true rfl, Nat.le_of_ble_eq_true rfl⟩ ⟨Nat.le_of_ble_eq_true rfl, Nat.le_of_ble_eq_true rfl, Nat.le_of_ble_eq_true rfl, Nat.le_of_ble_eq_true rfl⟩ [8, 3] [0, 1, 2, 4, 5, 6, 7, 9] [0, 1, 2, 9, 3, 4, 5, 6, 8, 7] rfl (by decide) rfl (by decide) (by decide) (fun _ => rfl) (by decide) (Nat.le_of_ble_eq_true rfl) rfl (fun _ => rfl) dX2_become_35 rfl (fun _ u35_3 hf => ?_)
  refine j_aload_n (pc' := 39) hX dX2_become_38 rfl 1 rfl rfl ?_
  refine j_get (ci := 2) (pc' := 42) hX hin2 rfl 5 rfl 3 (by decide) hl_21 rfl dX2_become_39 rfl ?_
  refine j_aload_n (pc' := 43) hX dX2_become_42 rfl 0 rfl rfl ?_
  refine j_get (ci := 2) (pc' := 46) hX hin2 rfl 0 rfl 3 (by decide) hl_21 rfl dX2_become_43 rfl ?_
  refine j_callSM (pc' := 49) (k' := 0) (n' := 0) (As := [.ref o4, .ref m4]) (rest := []) (stk := fun _ => []) (ws' := fun u46_4 => ((MoW g m0 m1 m2 m3 m4 (mo_s (mo_b (mo_t (mo_c vm (u13_1)) (u24_2)) (u35_3)) (u46_4))) ++ (MoW g o0 o1 o2 o3 o4 vo))) (wr := (List.filterMap (fun i : Nat => ((MoW g m0 m1 m2 m3 m4 (mo_b (mo_t (mo_c vm (u13_1)) (u24_2)) (u35_3))) ++ (MoW g o0 o1 o2 o3 o4 vo))[i]?) [0, 1, 2, 3, 5, 6, 7, 8])) hX hW (fun l => met_X2_copy l g o4 m4 7 7 vo.2.2.2.1 ((mo_b (mo_t (mo_c vm (u13_1)) (u24_2)) (u35_3)).2.2.2.1) _ hf) rfl gX2_become_X2_copy yoX2_copy rfl ⟨Nat.le_of_ble_eq_true rfl, Nat.le_of_ble_eq_true rfl⟩ ⟨Nat.le_of_ble_eq_true rfl, Nat.le_of_ble_eq_true rfl, Nat.le_of_ble_eq_true rfl, Nat.le_of_ble_eq_true rfl⟩ [9, 4] [0, 1, 2, 3, 5, 6, 7, 8] [0, 1, 2, 3, 9, 4, 5, 6, 7, 8] rfl (by decide) rfl (by decide) (by decide) (fun _ => rfl) (by decide) (Nat.le_of_ble_eq_true rfl) rfl (fun _ => rfl) dX2_become_46 rfl (fun _ u46_4 hf => ?_)
  refine j_aload_n (pc' := 50) hX dX2_become_49 rfl 0 rfl rfl ?_
  refine j_aload_n (pc' := 51) hX dX2_become_50 rfl 1 rfl rfl ?_
  refine j_get (ci := 2) (pc' := 54) hX hin2 rfl 5 rfl 4 (by decide) hl_28 rfl dX2_become_51 rfl ?_
  obtain ⟨vm_5, evm_5⟩ : ∃ z : Mo, z = mo_r (mo_s (mo_b (mo_t (mo_c vm (u13_1)) (u24_2)) (u35_3)) (u46_4)) (vo.2.2.2.2.1) := ⟨_, rfl⟩
  refine j_put (ci := 2) (pc' := 57) (ws' := ((MoW g m0 m1 m2 m3 m4 vm_5) ++ (MoW g o0 o1 o2 o3 o4 vo))) hX hW hin2 tyX2_ok nmX2 rfl 0 rfl 4 (by decide) hl_28 rfl rfl rfl (Nat.le_of_ble_eq_true rfl) dX2_become_54 (by subst evm_5; rfl) rfl ?_
  replace hf := hf vm_5 evm_5
  refine j_aload_n (pc' := 58) hX dX2_become_57 rfl 0 rfl rfl ?_
  refine j_aload_n (pc' := 59) hX dX2_become_58 rfl 1 rfl rfl ?_
  refine j_get (ci := 2) (pc' := 62) hX hin2 rfl 5 rfl 5 (by decide) hl_32 rfl dX2_become_59 rfl ?_
  obtain ⟨vm_6, evm_6⟩ : ∃ z : Mo, z = mo_k vm_5 (vo.2.2.2.2.2.1) := ⟨_, rfl⟩
  refine j_put (ci := 2) (pc' := 65) (ws' := ((MoW g m0 m1 m2 m3 m4 vm_6) ++ (MoW g o0 o1 o2 o3 o4 vo))) hX hW hin2 tyX2_ok nmX2 rfl 0 rfl 5 (by decide) hl_32 rfl rfl rfl (Nat.le_of_ble_eq_true rfl) dX2_become_62 (by subst evm_6; rfl) rfl ?_
  replace hf := hf vm_6 evm_6
  refine j_aload_n (pc' := 66) hX dX2_become_65 rfl 0 rfl rfl ?_
  refine j_aload_n (pc' := 67) hX dX2_become_66 rfl 1 rfl rfl ?_
  refine j_get (ci := 2) (pc' := 70) hX hin2 rfl 5 rfl 6 (by decide) hl_35 rfl dX2_become_67 rfl ?_
  obtain ⟨vm_7, evm_7⟩ : ∃ z : Mo, z = mo_w vm_6 (vo.2.2.2.2.2.2) := ⟨_, rfl⟩
  refine j_put (ci := 2) (pc' := 73) (ws' := ((MoW g m0 m1 m2 m3 m4 vm_7) ++ (MoW g o0 o1 o2 o3 o4 vo))) hX hW hin2 tyX2_ok nmX2 rfl 0 rfl 6 (by decide) hl_35 rfl rfl rfl (Nat.le_of_ble_eq_true rfl) dX2_become_70 (by subst evm_7; rfl) rfl ?_
  replace hf := hf vm_7 evm_7
  exact j_vret hX hR dX2_become_73 ⟨(), _, rfl, hf, rfl⟩
def wp_X2_isCourse (p0 : Int32) (post : Int32 → Prop) : Prop :=
  ((p0 < 0 → post 0) ∧ (¬ p0 < 0 → ((6 ≤ p0 → post 0) ∧ (¬ 6 ≤ p0 → post 1))))
theorem yoX2_isCourse : yOk yX2_isCourse 1 := by decide +kernel
set_option maxHeartbeats 4000000 in
set_option maxRecDepth 100000 in
theorem met_X2_isCourse (l : Launch) (g : JG) (p0 : Int32) (post : Int32 → Prop) (hf : wp_X2_isCourse p0 post) : MetR l yX2_isCourse wsX2_isCourse ({ frames := 0, cells := 0, slots := 0, locals := 0 } : Room) [.int p0] g ([] : va_W) mkI post := by
  refine enterR (own := RX2) (cc := cX2_isCourse) (nL := 1) (ret := (some .boolean)) (lv := [(0, .int p0)]) (by decide) rfl rfl (Nat.le_of_ble_eq_true rfl) rfl (fun X hX hR => ?_)
  unfold wp_X2_isCourse at hf
  refine j_iload_n (pc' := 1) hX dX2_isCourse_0 rfl 0 rfl rfl ?_
  refine j_if_lt (tgt := 14) (pc' := 4) hX dX2_isCourse_1 (by decide) rfl hf (fun hf => ?_) (fun hf => ?_)
  · refine j_iconst (pc' := 15) (v := 0) hX dX2_isCourse_14 (by decide) rfl ?_
    exact j_zret hX hR rfl dX2_isCourse_15 ⟨_, rfl, hf⟩
  · refine j_iload_n (pc' := 5) hX dX2_isCourse_4 rfl 0 rfl rfl ?_
    refine j_bipush (pc' := 7) (v := 6) hX dX2_isCourse_5 (by decide) rfl ?_
    refine j_icmp_ge (tgt := 14) (pc' := 10) hX dX2_isCourse_7 (by decide) rfl hf (fun hf => ?_) (fun hf => ?_)
    · refine j_iconst (pc' := 15) (v := 0) hX dX2_isCourse_14 (by decide) rfl ?_
      exact j_zret hX hR rfl dX2_isCourse_15 ⟨_, rfl, hf⟩
    · refine j_iconst (pc' := 11) (v := 1) hX dX2_isCourse_10 (by decide) rfl ?_
      refine j_goto (tgt := 15) hX dX2_isCourse_11 (by decide) ?_
      exact j_zret hX hR rfl dX2_isCourse_15 ⟨_, rfl, hf⟩
def wp_X2_isSize (p0 : Int32) (post : Int32 → Prop) : Prop :=
  ((p0 < 1 → post 0) ∧ (¬ p0 < 1 → ((6 < p0 → post 0) ∧ (¬ 6 < p0 → post 1))))
theorem yoX2_isSize : yOk yX2_isSize 1 := by decide +kernel
set_option maxHeartbeats 4000000 in
set_option maxRecDepth 100000 in
theorem met_X2_isSize (l : Launch) (g : JG) (p0 : Int32) (post : Int32 → Prop) (hf : wp_X2_isSize p0 post) : MetR l yX2_isSize wsX2_isSize ({ frames := 0, cells := 0, slots := 0, locals := 0 } : Room) [.int p0] g ([] : va_W) mkI post := by
  refine enterR (own := RX2) (cc := cX2_isSize) (nL := 1) (ret := (some .boolean)) (lv := [(0, .int p0)]) (by decide) rfl rfl (Nat.le_of_ble_eq_true rfl) rfl (fun X hX hR => ?_)
  unfold wp_X2_isSize at hf
  refine j_iload_n (pc' := 1) hX dX2_isSize_0 rfl 0 rfl rfl ?_
  refine j_iconst (pc' := 2) (v := 1) hX dX2_isSize_1 (by decide) rfl ?_
  refine j_icmp_lt (tgt := 15) (pc' := 5) hX dX2_isSize_2 (by decide) rfl hf (fun hf => ?_) (fun hf => ?_)
  · refine j_iconst (pc' := 16) (v := 0) hX dX2_isSize_15 (by decide) rfl ?_
    exact j_zret hX hR rfl dX2_isSize_16 ⟨_, rfl, hf⟩
  · refine j_iload_n (pc' := 6) hX dX2_isSize_5 rfl 0 rfl rfl ?_
    refine j_bipush (pc' := 8) (v := 6) hX dX2_isSize_6 (by decide) rfl ?_
    refine j_icmp_gt (tgt := 15) (pc' := 11) hX dX2_isSize_8 (by decide) rfl hf (fun hf => ?_) (fun hf => ?_)
    · refine j_iconst (pc' := 16) (v := 0) hX dX2_isSize_15 (by decide) rfl ?_
      exact j_zret hX hR rfl dX2_isSize_16 ⟨_, rfl, hf⟩
    · refine j_iconst (pc' := 12) (v := 1) hX dX2_isSize_11 (by decide) rfl ?_
      refine j_goto (tgt := 16) hX dX2_isSize_12 (by decide) ?_
      exact j_zret hX hR rfl dX2_isSize_16 ⟨_, rfl, hf⟩
def wp_X2_settingOf (vm : Mo) (p0 : Int32) (post : Int32 → Prop) : Prop :=
  ((p0 = 0 → post (vm.1 (0 : Int32).toNatClampNeg)) ∧ (¬ p0 = 0 → ((p0 = 1 → post vm.2.2.2.2.1) ∧ (¬ p0 = 1 → post vm.2.2.2.2.2.1))))
theorem yoX2_settingOf : yOk yX2_settingOf 1 := by decide +kernel
set_option maxHeartbeats 4000000 in
set_option maxRecDepth 100000 in
theorem met_X2_settingOf (l : Launch) (g : JG) (m0 : Nat) (m1 : Nat) (m2 : Nat) (m3 : Nat) (m4 : Nat) (vm : Mo) (p0 : Int32) (post : Int32 → Prop) (hf : wp_X2_settingOf vm p0 post) : MetR l yX2_settingOf wsX2_settingOf ({ frames := 0, cells := 0, slots := 0, locals := 0 } : Room) [.ref m0, .int p0] g (MoW g m0 m1 m2 m3 m4 vm) mkI post := by
  have hin2 : ∀ w ∈ u_ws RX2 TX2 7, w ∈ wsX2_settingOf := by decide +kernel
  have hl_9 : Cond.fieldLink RX2 9 (TX2 0).1 (TX2 0).2.1 (TX2 0).2.2.1 ∈ wsX2_settingOf := by decide +kernel
  have hl_28 : Cond.fieldLink RX2 28 (TX2 4).1 (TX2 4).2.1 (TX2 4).2.2.1 ∈ wsX2_settingOf := by decide +kernel
  have hl_32 : Cond.fieldLink RX2 32 (TX2 5).1 (TX2 5).2.1 (TX2 5).2.2.1 ∈ wsX2_settingOf := by decide +kernel
  refine enterR (own := RX2) (cc := cX2_settingOf) (nL := 2) (ret := (some .int)) (lv := [(0, .ref m0), (1, .int p0)]) (by decide) rfl rfl (Nat.le_of_ble_eq_true rfl) rfl (fun X hX hR => ?_)
  unfold wp_X2_settingOf at hf
  refine j_iload_n (pc' := 1) hX dX2_settingOf_0 rfl 1 rfl rfl ?_
  refine j_if_ne (tgt := 13) (pc' := 4) hX dX2_settingOf_1 (by decide) rfl hf (fun hf => ?_) (fun hf => ?_)
  · refine j_iload_n (pc' := 14) hX dX2_settingOf_13 rfl 1 rfl rfl ?_
    refine j_iconst (pc' := 15) (v := 1) hX dX2_settingOf_14 (by decide) rfl ?_
    refine j_icmp_ne (tgt := 25) (pc' := 18) hX dX2_settingOf_15 (by decide) rfl hf (fun hf => ?_) (fun hf => ?_)
    · refine j_aload_n (pc' := 26) hX dX2_settingOf_25 rfl 0 rfl rfl ?_
      refine j_get (ci := 2) (pc' := 29) hX hin2 rfl 0 rfl 5 (by decide) hl_32 rfl dX2_settingOf_26 rfl ?_
      exact j_iret hX hR dX2_settingOf_29 ⟨_, rfl, hf⟩
    · refine j_aload_n (pc' := 19) hX dX2_settingOf_18 rfl 0 rfl rfl ?_
      refine j_get (ci := 2) (pc' := 22) hX hin2 rfl 0 rfl 4 (by decide) hl_28 rfl dX2_settingOf_19 rfl ?_
      refine j_goto (tgt := 29) hX dX2_settingOf_22 (by decide) ?_
      exact j_iret hX hR dX2_settingOf_29 ⟨_, rfl, hf⟩
  · refine j_aload_n (pc' := 5) hX dX2_settingOf_4 rfl 0 rfl rfl ?_
    refine j_get (ci := 2) (pc' := 8) hX hin2 rfl 0 rfl 0 (by decide) hl_9 rfl dX2_settingOf_5 rfl ?_
    refine j_iconst (pc' := 9) (v := 0) hX dX2_settingOf_8 (by decide) rfl ?_
    refine j_iald (pc' := 10) hX 1 rfl dX2_settingOf_9 ⟨by unfold vp_in; decide, hf⟩ rfl (fun hf => ?_)
    refine j_goto (tgt := 29) hX dX2_settingOf_10 (by decide) ?_
    exact j_iret hX hR dX2_settingOf_29 ⟨_, rfl, hf⟩
def wp_X2_changeSetting_L6 (p1 : Int32) (K6_32 : Mo → Prop) : Nat → Int32 → Mo → Prop
  | 0, _, _ => False
  | N6 + 1, x3_6, vm_6 =>
  ((6 ≤ x3_6 → K6_32 vm_6) ∧ (¬ 6 ≤ x3_6 → (vp_in x3_6 6 ∧ (∀ vm_1 : Mo, vm_1 = mo_c vm_6 (upd vm_6.1 x3_6.toNatClampNeg (p1 - (4 * x3_6))) → (wp_X2_changeSetting_L6 p1 K6_32 N6) (x3_6 + 1) vm_1))))
def wp_X2_changeSetting (vm : Mo) (p0 : Int32) (p1 : Int32) (post : Mo → Prop) : Prop :=
  ((p0 = 0 → (∃ N : Nat, wp_X2_changeSetting_L6 p1 (fun (e2 : Mo) => post e2) N 0 vm)) ∧ (¬ p0 = 0 → ((p0 = 1 → (∀ vm_3 : Mo, vm_3 = mo_r vm (p1) → post vm_3)) ∧ (¬ p0 = 1 → (∀ vm_4 : Mo, vm_4 = mo_k vm (p1) → post vm_4)))))
theorem yoX2_changeSetting : yOk yX2_changeSetting 2 := by decide +kernel
set_option maxHeartbeats 4000000 in
set_option maxRecDepth 100000 in
theorem met_X2_changeSetting (l : Launch) (g : JG) (m0 : Nat) (m1 : Nat) (m2 : Nat) (m3 : Nat) (m4 : Nat) (vm : Mo) (p0 : Int32) (p1 : Int32) (post : Mo → Prop) (hf : wp_X2_changeSetting vm p0 p1 post) : MetM l yX2_changeSetting wsX2_changeSetting ({ frames := 0, cells := 0, slots := 0, locals := 0 } : Room) [.ref m0, .int p0, .int p1] g (MoW g m0 m1 m2 m3 m4 vm) mkV (fun (_ : Unit) (u : Mo) => post u) (fun u : Mo => (MoW g m0 m1 m2 m3 m4 u)) := by
  have hin2 : ∀ w ∈ u_ws RX2 TX2 7, w ∈ wsX2_changeSetting := by decide +kernel
  have hl_9 : Cond.fieldLink RX2 9 (TX2 0).1 (TX2 0).2.1 (TX2 0).2.2.1 ∈ wsX2_changeSetting := by decide +kernel
  have hl_28 : Cond.fieldLink RX2 28 (TX2 4).1 (TX2 4).2.1 (TX2 4).2.2.1 ∈ wsX2_changeSetting := by decide +kernel
  have hl_32 : Cond.fieldLink RX2 32 (TX2 5).1 (TX2 5).2.1 (TX2 5).2.2.1 ∈ wsX2_changeSetting := by decide +kernel
  refine enterM (own := RX2) (cc := cX2_changeSetting) (nL := 4) (ret := none) (lv := [(0, .ref m0), (1, .int p0), (2, .int p1)]) (by decide) rfl rfl (Nat.le_of_ble_eq_true rfl) rfl (fun X hX hW hR => ?_)
  unfold wp_X2_changeSetting at hf
  refine j_iload_n (pc' := 1) hX dX2_changeSetting_0 rfl 1 rfl rfl ?_
  refine j_if_ne (tgt := 35) (pc' := 4) hX dX2_changeSetting_1 (by decide) rfl hf (fun hf => ?_) (fun hf => ?_)
  · refine j_iload_n (pc' := 36) hX dX2_changeSetting_35 rfl 1 rfl rfl ?_
    refine j_iconst (pc' := 37) (v := 1) hX dX2_changeSetting_36 (by decide) rfl ?_
    refine j_icmp_ne (tgt := 48) (pc' := 40) hX dX2_changeSetting_37 (by decide) rfl hf (fun hf => ?_) (fun hf => ?_)
    · refine j_aload_n (pc' := 49) hX dX2_changeSetting_48 rfl 0 rfl rfl ?_
      refine j_iload_n (pc' := 50) hX dX2_changeSetting_49 rfl 2 rfl rfl ?_
      obtain ⟨vm_4, evm_4⟩ : ∃ z : Mo, z = mo_k vm (p1) := ⟨_, rfl⟩
      refine j_put (ci := 2) (pc' := 53) (ws' := (MoW g m0 m1 m2 m3 m4 vm_4)) hX hW hin2 tyX2_ok nmX2 rfl 0 rfl 5 (by decide) hl_32 rfl rfl rfl (Nat.le_of_ble_eq_true rfl) dX2_changeSetting_50 (by subst evm_4; rfl) rfl ?_
      replace hf := hf vm_4 evm_4
      exact j_vret hX hR dX2_changeSetting_53 ⟨(), _, rfl, hf, rfl⟩
    · refine j_aload_n (pc' := 41) hX dX2_changeSetting_40 rfl 0 rfl rfl ?_
      refine j_iload_n (pc' := 42) hX dX2_changeSetting_41 rfl 2 rfl rfl ?_
      obtain ⟨vm_3, evm_3⟩ : ∃ z : Mo, z = mo_r vm (p1) := ⟨_, rfl⟩
      refine j_put (ci := 2) (pc' := 45) (ws' := (MoW g m0 m1 m2 m3 m4 vm_3)) hX hW hin2 tyX2_ok nmX2 rfl 0 rfl 4 (by decide) hl_28 rfl rfl rfl (Nat.le_of_ble_eq_true rfl) dX2_changeSetting_42 (by subst evm_3; rfl) rfl ?_
      replace hf := hf vm_3 evm_3
      refine j_goto (tgt := 53) hX dX2_changeSetting_45 (by decide) ?_
      exact j_vret hX hR dX2_changeSetting_53 ⟨(), _, rfl, hf, rfl⟩
  · refine j_iconst (pc' := 5) (v := 0) hX dX2_changeSetting_4 (by decide) rfl ?_
    refine j_istore_n (pc' := 6) (lv' := [(3, .int 0), (0, .ref m0), (1, .int p0), (2, .int p1)]) hX dX2_changeSetting_5 rfl (by decide) rfl rfl ?_
    obtain ⟨N6, hf⟩ := hf
    have L6 : ∀ (K6_32 : Mo → Prop), (∀ (vm_6 : Mo), K6_32 vm_6 → J g X 0 0 (MoW g m0 m1 m2 m3 m4 vm_6) [] [] 32) → ∀ (N6 : Nat) (x3_6 : Int32) (vm_6 : Mo), wp_X2_changeSetting_L6 p1 K6_32 N6 x3_6 vm_6 → J g X 0 0 (MoW g m0 m1 m2 m3 m4 vm_6) [(0, .ref m0), (2, .int p1), (3, .int x3_6)] [] 6 := by
      intro K6_32 hK6_32 N6
      induction N6 with
      | zero => intro x3_6 vm_6 hf; exact False.elim hf
      | succ N6 ih6 =>
        intro x3_6 vm_6 hf
        refine j_iload_n (pc' := 7) hX dX2_changeSetting_6 rfl 2 rfl rfl ?_
        refine j_aload_n (pc' := 8) hX dX2_changeSetting_7 rfl 0 rfl rfl ?_
        refine j_get (ci := 2) (pc' := 11) hX hin2 rfl 0 rfl 0 (by decide) hl_9 rfl dX2_changeSetting_8 rfl ?_
        refine j_alen (v := 6) (pc' := 12) hX 1 0 rfl rfl (show Int32.ofNat 6 = 6 from by decide) dX2_changeSetting_11 rfl ?_
        refine j_icmp_ge (tgt := 32) (pc' := 15) hX dX2_changeSetting_12 (by decide) rfl hf (fun hf => ?_) (fun hf => ?_)
        · refine J_sub (lv' := []) [] rfl ?_
          exact hK6_32 vm_6 hf
        · refine j_aload_n (pc' := 16) hX dX2_changeSetting_15 rfl 0 rfl rfl ?_
          refine j_get (ci := 2) (pc' := 19) hX hin2 rfl 0 rfl 0 (by decide) hl_9 rfl dX2_changeSetting_16 rfl ?_
          refine j_iload_n (pc' := 20) hX dX2_changeSetting_19 rfl 2 rfl rfl ?_
          refine j_iload_n (pc' := 21) hX dX2_changeSetting_20 rfl 1 rfl rfl ?_
          refine j_iconst (pc' := 22) (v := 4) hX dX2_changeSetting_21 (by decide) rfl ?_
          refine j_iload_n (pc' := 23) hX dX2_changeSetting_22 rfl 2 rfl rfl ?_
          refine j_imul (pc' := 24) hX dX2_changeSetting_23 rfl ?_
          refine j_isub (pc' := 25) hX dX2_changeSetting_24 rfl ?_
          obtain ⟨vm_1, evm_1⟩ : ∃ z : Mo, z = mo_c vm_6 (upd vm_6.1 x3_6.toNatClampNeg (p1 - (4 * x3_6))) := ⟨_, rfl⟩
          refine j_iast (pc' := 26) (ws' := (MoW g m0 m1 m2 m3 m4 vm_1)) hX hW 1 rfl dX2_changeSetting_25 hf (by subst evm_1; rfl) rfl (fun hf => ?_)
          replace hf := hf vm_1 evm_1
          refine j_iinc (pc' := 29) (cst := 1) (v := (x3_6 + 1)) (lv' := [(3, .int (x3_6 + 1)), (0, .ref m0), (2, .int p1)]) hX dX2_changeSetting_26 (by decide) rfl 2 rfl (by decide) rfl rfl ?_
          refine j_goto (tgt := 6) hX dX2_changeSetting_29 (by decide) ?_
          refine J_sub (lv' := [(0, .ref m0), (2, .int p1), (3, .int (x3_6 + 1))]) [1, 2, 0] rfl ?_
          exact ih6 (x3_6 + 1) vm_1 hf
    refine J_sub (lv' := [(0, .ref m0), (2, .int p1), (3, .int 0)]) [1, 3, 0] rfl ?_
    refine L6 _ (fun e2 hf => ?_) N6 0 vm hf
    refine j_goto (tgt := 53) hX dX2_changeSetting_32 (by decide) ?_
    exact j_vret hX hR dX2_changeSetting_53 ⟨(), _, rfl, hf, rfl⟩
def wp_X2_inStock (vm : Mo) (p0 : Int32) (post : Int32 → Prop) : Prop :=
  ((p0 < 1 → post 0) ∧ (¬ p0 < 1 → ((6 < p0 → post 0) ∧ (¬ 6 < p0 → (vp_in p0 7 ∧ post (vm.2.2.2.1 p0.toNatClampNeg))))))
theorem yoX2_inStock : yOk yX2_inStock 1 := by decide +kernel
set_option maxHeartbeats 4000000 in
set_option maxRecDepth 100000 in
theorem met_X2_inStock (l : Launch) (g : JG) (m0 : Nat) (m1 : Nat) (m2 : Nat) (m3 : Nat) (m4 : Nat) (vm : Mo) (p0 : Int32) (post : Int32 → Prop) (hf : wp_X2_inStock vm p0 post) : MetR l yX2_inStock wsX2_inStock ({ frames := 0, cells := 0, slots := 0, locals := 0 } : Room) [.ref m0, .int p0] g (MoW g m0 m1 m2 m3 m4 vm) mkI post := by
  have hin2 : ∀ w ∈ u_ws RX2 TX2 7, w ∈ wsX2_inStock := by decide +kernel
  have hl_21 : Cond.fieldLink RX2 21 (TX2 3).1 (TX2 3).2.1 (TX2 3).2.2.1 ∈ wsX2_inStock := by decide +kernel
  refine enterR (own := RX2) (cc := cX2_inStock) (nL := 2) (ret := (some .int)) (lv := [(0, .ref m0), (1, .int p0)]) (by decide) rfl rfl (Nat.le_of_ble_eq_true rfl) rfl (fun X hX hR => ?_)
  unfold wp_X2_inStock at hf
  refine j_iload_n (pc' := 1) hX dX2_inStock_0 rfl 1 rfl rfl ?_
  refine j_iconst (pc' := 2) (v := 1) hX dX2_inStock_1 (by decide) rfl ?_
  refine j_icmp_lt (tgt := 20) (pc' := 5) hX dX2_inStock_2 (by decide) rfl hf (fun hf => ?_) (fun hf => ?_)
  · refine j_iconst (pc' := 21) (v := 0) hX dX2_inStock_20 (by decide) rfl ?_
    exact j_iret hX hR dX2_inStock_21 ⟨_, rfl, hf⟩
  · refine j_iload_n (pc' := 6) hX dX2_inStock_5 rfl 1 rfl rfl ?_
    refine j_bipush (pc' := 8) (v := 6) hX dX2_inStock_6 (by decide) rfl ?_
    refine j_icmp_gt (tgt := 20) (pc' := 11) hX dX2_inStock_8 (by decide) rfl hf (fun hf => ?_) (fun hf => ?_)
    · refine j_iconst (pc' := 21) (v := 0) hX dX2_inStock_20 (by decide) rfl ?_
      exact j_iret hX hR dX2_inStock_21 ⟨_, rfl, hf⟩
    · refine j_aload_n (pc' := 12) hX dX2_inStock_11 rfl 0 rfl rfl ?_
      refine j_get (ci := 2) (pc' := 15) hX hin2 rfl 0 rfl 3 (by decide) hl_21 rfl dX2_inStock_12 rfl ?_
      refine j_iload_n (pc' := 16) hX dX2_inStock_15 rfl 1 rfl rfl ?_
      refine j_iald (pc' := 17) hX 4 rfl dX2_inStock_16 hf rfl (fun hf => ?_)
      refine j_goto (tgt := 21) hX dX2_inStock_17 (by decide) ?_
      exact j_iret hX hR dX2_inStock_21 ⟨_, rfl, hf⟩
def wp_X2_changeStock (vm : Mo) (p0 : Int32) (p1 : Int32) (post : Int32 → Mo → Prop) : Prop :=
  (wp_X2_isSize p0 (fun r1 => ((r1 = 0 → post 0 vm) ∧ (¬ r1 = 0 → (vp_in p0 7 ∧ (vp_in p0 7 ∧ (∀ vm_1 : Mo, vm_1 = mo_s vm (upd vm.2.2.2.1 p0.toNatClampNeg p1) → post (vm.2.2.2.1 p0.toNatClampNeg) vm_1)))))))
theorem yoX2_changeStock : yOk yX2_changeStock 2 := by decide +kernel
set_option maxHeartbeats 4000000 in
set_option maxRecDepth 100000 in
theorem met_X2_changeStock (l : Launch) (g : JG) (m0 : Nat) (m1 : Nat) (m2 : Nat) (m3 : Nat) (m4 : Nat) (vm : Mo) (p0 : Int32) (p1 : Int32) (post : Int32 → Mo → Prop) (hf : wp_X2_changeStock vm p0 p1 post) : MetM l yX2_changeStock wsX2_changeStock ({ frames := 1, cells := 0, slots := 0, locals := 20 } : Room) [.ref m0, .int p0, .int p1] g (MoW g m0 m1 m2 m3 m4 vm) mkI post (fun u : Mo => (MoW g m0 m1 m2 m3 m4 u)) := by
  have hin2 : ∀ w ∈ u_ws RX2 TX2 7, w ∈ wsX2_changeStock := by decide +kernel
  have hl_21 : Cond.fieldLink RX2 21 (TX2 3).1 (TX2 3).2.1 (TX2 3).2.2.1 ∈ wsX2_changeStock := by decide +kernel
  refine enterM (own := RX2) (cc := cX2_changeStock) (nL := 4) (ret := (some .int)) (lv := [(0, .ref m0), (1, .int p0), (2, .int p1)]) (by decide) rfl rfl (Nat.le_of_ble_eq_true rfl) rfl (fun X hX hW hR => ?_)
  unfold wp_X2_changeStock at hf
  refine j_iload_n (pc' := 1) hX dX2_changeStock_0 rfl 1 rfl rfl ?_
  refine j_callSR (pc' := 4) (As := [.int p0]) (rest := []) (stk := fun r1 => [.int r1]) hX (fun l => met_X2_isSize l g p0 _ hf) rfl gX2_changeStock_X2_isSize yoX2_isSize rfl ⟨Nat.le_of_ble_eq_true rfl, Nat.le_of_ble_eq_true rfl⟩ ⟨⟨Nat.le_of_ble_eq_true rfl, Nat.le_of_ble_eq_true rfl⟩, rfl, rfl⟩ [] rfl (by decide) (Nat.le_of_ble_eq_true rfl) rfl (fun _ => rfl) dX2_changeStock_1 rfl (fun r1 hf => ?_)
  refine j_if_ne (tgt := 9) (pc' := 7) hX dX2_changeStock_4 (by decide) rfl hf (fun hf => ?_) (fun hf => ?_)
  · refine j_aload_n (pc' := 10) hX dX2_changeStock_9 rfl 0 rfl rfl ?_
    refine j_get (ci := 2) (pc' := 13) hX hin2 rfl 0 rfl 3 (by decide) hl_21 rfl dX2_changeStock_10 rfl ?_
    refine j_iload_n (pc' := 14) hX dX2_changeStock_13 rfl 1 rfl rfl ?_
    refine j_iald (pc' := 15) hX 4 rfl dX2_changeStock_14 hf rfl (fun hf => ?_)
    refine j_istore_n (pc' := 16) (lv' := [(3, .int (vm.2.2.2.1 p0.toNatClampNeg)), (0, .ref m0), (1, .int p0), (2, .int p1)]) hX dX2_changeStock_15 rfl (by decide) rfl rfl ?_
    refine j_aload_n (pc' := 17) hX dX2_changeStock_16 rfl 1 rfl rfl ?_
    refine j_get (ci := 2) (pc' := 20) hX hin2 rfl 0 rfl 3 (by decide) hl_21 rfl dX2_changeStock_17 rfl ?_
    refine j_iload_n (pc' := 21) hX dX2_changeStock_20 rfl 2 rfl rfl ?_
    refine j_iload_n (pc' := 22) hX dX2_changeStock_21 rfl 3 rfl rfl ?_
    obtain ⟨vm_1, evm_1⟩ : ∃ z : Mo, z = mo_s vm (upd vm.2.2.2.1 p0.toNatClampNeg p1) := ⟨_, rfl⟩
    refine j_iast (pc' := 23) (ws' := (MoW g m0 m1 m2 m3 m4 vm_1)) hX hW 4 rfl dX2_changeStock_22 hf (by subst evm_1; rfl) rfl (fun hf => ?_)
    replace hf := hf vm_1 evm_1
    refine j_iload_n (pc' := 24) hX dX2_changeStock_23 rfl 0 rfl rfl ?_
    exact j_iret hX hR dX2_changeStock_24 ⟨_, _, rfl, hf, rfl⟩
  · refine j_iconst (pc' := 8) (v := 0) hX dX2_changeStock_7 (by decide) rfl ?_
    exact j_iret hX hR dX2_changeStock_8 ⟨_, _, rfl, hf, rfl⟩
def wp_X2_wasted (vm : Mo) (post : Int32 → Prop) : Prop :=
  post vm.2.2.2.2.2.2
theorem yoX2_wasted : yOk yX2_wasted 0 := by decide +kernel
set_option maxHeartbeats 4000000 in
set_option maxRecDepth 100000 in
theorem met_X2_wasted (l : Launch) (g : JG) (m0 : Nat) (m1 : Nat) (m2 : Nat) (m3 : Nat) (m4 : Nat) (vm : Mo) (post : Int32 → Prop) (hf : wp_X2_wasted vm post) : MetR l yX2_wasted wsX2_wasted ({ frames := 0, cells := 0, slots := 0, locals := 0 } : Room) [.ref m0] g (MoW g m0 m1 m2 m3 m4 vm) mkI post := by
  have hin2 : ∀ w ∈ u_ws RX2 TX2 7, w ∈ wsX2_wasted := by decide +kernel
  have hl_35 : Cond.fieldLink RX2 35 (TX2 6).1 (TX2 6).2.1 (TX2 6).2.2.1 ∈ wsX2_wasted := by decide +kernel
  refine enterR (own := RX2) (cc := cX2_wasted) (nL := 1) (ret := (some .int)) (lv := [(0, .ref m0)]) (by decide) rfl rfl (Nat.le_of_ble_eq_true rfl) rfl (fun X hX hR => ?_)
  unfold wp_X2_wasted at hf
  refine j_aload_n (pc' := 1) hX dX2_wasted_0 rfl 0 rfl rfl ?_
  refine j_get (ci := 2) (pc' := 4) hX hin2 rfl 0 rfl 6 (by decide) hl_35 rfl dX2_wasted_1 rfl ?_
  exact j_iret hX hR dX2_wasted_4 ⟨_, rfl, hf⟩
def wp_X2_cellsOf (vm : Mo) (p0 : Int32) (post : Int32 → Prop) : Prop :=
  (wp_X2_isCourse p0 (fun r1 => ((r1 = 0 → post 0) ∧ (¬ r1 = 0 → (vp_in p0 6 ∧ post (vm.1 p0.toNatClampNeg))))))
theorem yoX2_cellsOf : yOk yX2_cellsOf 1 := by decide +kernel
set_option maxHeartbeats 4000000 in
set_option maxRecDepth 100000 in
theorem met_X2_cellsOf (l : Launch) (g : JG) (m0 : Nat) (m1 : Nat) (m2 : Nat) (m3 : Nat) (m4 : Nat) (vm : Mo) (p0 : Int32) (post : Int32 → Prop) (hf : wp_X2_cellsOf vm p0 post) : MetR l yX2_cellsOf wsX2_cellsOf ({ frames := 1, cells := 0, slots := 0, locals := 20 } : Room) [.ref m0, .int p0] g (MoW g m0 m1 m2 m3 m4 vm) mkI post := by
  have hin2 : ∀ w ∈ u_ws RX2 TX2 7, w ∈ wsX2_cellsOf := by decide +kernel
  have hl_9 : Cond.fieldLink RX2 9 (TX2 0).1 (TX2 0).2.1 (TX2 0).2.2.1 ∈ wsX2_cellsOf := by decide +kernel
  refine enterR (own := RX2) (cc := cX2_cellsOf) (nL := 2) (ret := (some .int)) (lv := [(0, .ref m0), (1, .int p0)]) (by decide) rfl rfl (Nat.le_of_ble_eq_true rfl) rfl (fun X hX hR => ?_)
  unfold wp_X2_cellsOf at hf
  refine j_iload_n (pc' := 1) hX dX2_cellsOf_0 rfl 1 rfl rfl ?_
  refine j_callSR (pc' := 4) (As := [.int p0]) (rest := []) (stk := fun r1 => [.int r1]) hX (fun l => met_X2_isCourse l g p0 _ hf) rfl gX2_cellsOf_X2_isCourse yoX2_isCourse rfl ⟨Nat.le_of_ble_eq_true rfl, Nat.le_of_ble_eq_true rfl⟩ ⟨⟨Nat.le_of_ble_eq_true rfl, Nat.le_of_ble_eq_true rfl⟩, rfl, rfl⟩ [] rfl (by decide) (Nat.le_of_ble_eq_true rfl) rfl (fun _ => rfl) dX2_cellsOf_1 rfl (fun r1 hf => ?_)
  refine j_if_eq (tgt := 16) (pc' := 7) hX dX2_cellsOf_4 (by decide) rfl hf (fun hf => ?_) (fun hf => ?_)
  · refine j_iconst (pc' := 17) (v := 0) hX dX2_cellsOf_16 (by decide) rfl ?_
    exact j_iret hX hR dX2_cellsOf_17 ⟨_, rfl, hf⟩
  · refine j_aload_n (pc' := 8) hX dX2_cellsOf_7 rfl 0 rfl rfl ?_
    refine j_get (ci := 2) (pc' := 11) hX hin2 rfl 0 rfl 0 (by decide) hl_9 rfl dX2_cellsOf_8 rfl ?_
    refine j_iload_n (pc' := 12) hX dX2_cellsOf_11 rfl 1 rfl rfl ?_
    refine j_iald (pc' := 13) hX 1 rfl dX2_cellsOf_12 hf rfl (fun hf => ?_)
    refine j_goto (tgt := 17) hX dX2_cellsOf_13 (by decide) ?_
    exact j_iret hX hR dX2_cellsOf_17 ⟨_, rfl, hf⟩
def wp_X2_takenOf (vm : Mo) (p0 : Int32) (post : Int32 → Prop) : Prop :=
  (wp_X2_isCourse p0 (fun r1 => ((r1 = 0 → post 0) ∧ (¬ r1 = 0 → (vp_in p0 6 ∧ post (vm.2.1 p0.toNatClampNeg))))))
theorem yoX2_takenOf : yOk yX2_takenOf 1 := by decide +kernel
set_option maxHeartbeats 4000000 in
set_option maxRecDepth 100000 in
theorem met_X2_takenOf (l : Launch) (g : JG) (m0 : Nat) (m1 : Nat) (m2 : Nat) (m3 : Nat) (m4 : Nat) (vm : Mo) (p0 : Int32) (post : Int32 → Prop) (hf : wp_X2_takenOf vm p0 post) : MetR l yX2_takenOf wsX2_takenOf ({ frames := 1, cells := 0, slots := 0, locals := 20 } : Room) [.ref m0, .int p0] g (MoW g m0 m1 m2 m3 m4 vm) mkI post := by
  have hin2 : ∀ w ∈ u_ws RX2 TX2 7, w ∈ wsX2_takenOf := by decide +kernel
  have hl_15 : Cond.fieldLink RX2 15 (TX2 1).1 (TX2 1).2.1 (TX2 1).2.2.1 ∈ wsX2_takenOf := by decide +kernel
  refine enterR (own := RX2) (cc := cX2_takenOf) (nL := 2) (ret := (some .int)) (lv := [(0, .ref m0), (1, .int p0)]) (by decide) rfl rfl (Nat.le_of_ble_eq_true rfl) rfl (fun X hX hR => ?_)
  unfold wp_X2_takenOf at hf
  refine j_iload_n (pc' := 1) hX dX2_takenOf_0 rfl 1 rfl rfl ?_
  refine j_callSR (pc' := 4) (As := [.int p0]) (rest := []) (stk := fun r1 => [.int r1]) hX (fun l => met_X2_isCourse l g p0 _ hf) rfl gX2_takenOf_X2_isCourse yoX2_isCourse rfl ⟨Nat.le_of_ble_eq_true rfl, Nat.le_of_ble_eq_true rfl⟩ ⟨⟨Nat.le_of_ble_eq_true rfl, Nat.le_of_ble_eq_true rfl⟩, rfl, rfl⟩ [] rfl (by decide) (Nat.le_of_ble_eq_true rfl) rfl (fun _ => rfl) dX2_takenOf_1 rfl (fun r1 hf => ?_)
  refine j_if_eq (tgt := 16) (pc' := 7) hX dX2_takenOf_4 (by decide) rfl hf (fun hf => ?_) (fun hf => ?_)
  · refine j_iconst (pc' := 17) (v := 0) hX dX2_takenOf_16 (by decide) rfl ?_
    exact j_iret hX hR dX2_takenOf_17 ⟨_, rfl, hf⟩
  · refine j_aload_n (pc' := 8) hX dX2_takenOf_7 rfl 0 rfl rfl ?_
    refine j_get (ci := 2) (pc' := 11) hX hin2 rfl 0 rfl 1 (by decide) hl_15 rfl dX2_takenOf_8 rfl ?_
    refine j_iload_n (pc' := 12) hX dX2_takenOf_11 rfl 1 rfl rfl ?_
    refine j_iald (pc' := 13) hX 2 rfl dX2_takenOf_12 hf rfl (fun hf => ?_)
    refine j_goto (tgt := 17) hX dX2_takenOf_13 (by decide) ?_
    exact j_iret hX hR dX2_takenOf_17 ⟨_, rfl, hf⟩
def wp_X2_freeOf (vm : Mo) (p0 : Int32) (post : Int32 → Prop) : Prop :=
  (wp_X2_isCourse p0 (fun r1 => ((r1 = 0 → post 0) ∧ (¬ r1 = 0 → (vp_in p0 6 ∧ (vp_in p0 6 ∧ post ((vm.1 p0.toNatClampNeg) - (vm.2.1 p0.toNatClampNeg))))))))
theorem yoX2_freeOf : yOk yX2_freeOf 1 := by decide +kernel
set_option maxHeartbeats 4000000 in
set_option maxRecDepth 100000 in
theorem met_X2_freeOf (l : Launch) (g : JG) (m0 : Nat) (m1 : Nat) (m2 : Nat) (m3 : Nat) (m4 : Nat) (vm : Mo) (p0 : Int32) (post : Int32 → Prop) (hf : wp_X2_freeOf vm p0 post) : MetR l yX2_freeOf wsX2_freeOf ({ frames := 1, cells := 0, slots := 0, locals := 20 } : Room) [.ref m0, .int p0] g (MoW g m0 m1 m2 m3 m4 vm) mkI post := by
  have hin2 : ∀ w ∈ u_ws RX2 TX2 7, w ∈ wsX2_freeOf := by decide +kernel
  have hl_9 : Cond.fieldLink RX2 9 (TX2 0).1 (TX2 0).2.1 (TX2 0).2.2.1 ∈ wsX2_freeOf := by decide +kernel
  have hl_15 : Cond.fieldLink RX2 15 (TX2 1).1 (TX2 1).2.1 (TX2 1).2.2.1 ∈ wsX2_freeOf := by decide +kernel
  refine enterR (own := RX2) (cc := cX2_freeOf) (nL := 2) (ret := (some .int)) (lv := [(0, .ref m0), (1, .int p0)]) (by decide) rfl rfl (Nat.le_of_ble_eq_true rfl) rfl (fun X hX hR => ?_)
  unfold wp_X2_freeOf at hf
  refine j_iload_n (pc' := 1) hX dX2_freeOf_0 rfl 1 rfl rfl ?_
  refine j_callSR (pc' := 4) (As := [.int p0]) (rest := []) (stk := fun r1 => [.int r1]) hX (fun l => met_X2_isCourse l g p0 _ hf) rfl gX2_freeOf_X2_isCourse yoX2_isCourse rfl ⟨Nat.le_of_ble_eq_true rfl, Nat.le_of_ble_eq_true rfl⟩ ⟨⟨Nat.le_of_ble_eq_true rfl, Nat.le_of_ble_eq_true rfl⟩, rfl, rfl⟩ [] rfl (by decide) (Nat.le_of_ble_eq_true rfl) rfl (fun _ => rfl) dX2_freeOf_1 rfl (fun r1 hf => ?_)
  refine j_if_eq (tgt := 23) (pc' := 7) hX dX2_freeOf_4 (by decide) rfl hf (fun hf => ?_) (fun hf => ?_)
  · refine j_iconst (pc' := 24) (v := 0) hX dX2_freeOf_23 (by decide) rfl ?_
    exact j_iret hX hR dX2_freeOf_24 ⟨_, rfl, hf⟩
  · refine j_aload_n (pc' := 8) hX dX2_freeOf_7 rfl 0 rfl rfl ?_
    refine j_get (ci := 2) (pc' := 11) hX hin2 rfl 0 rfl 0 (by decide) hl_9 rfl dX2_freeOf_8 rfl ?_
    refine j_iload_n (pc' := 12) hX dX2_freeOf_11 rfl 1 rfl rfl ?_
    refine j_iald (pc' := 13) hX 1 rfl dX2_freeOf_12 hf rfl (fun hf => ?_)
    refine j_aload_n (pc' := 14) hX dX2_freeOf_13 rfl 0 rfl rfl ?_
    refine j_get (ci := 2) (pc' := 17) hX hin2 rfl 0 rfl 1 (by decide) hl_15 rfl dX2_freeOf_14 rfl ?_
    refine j_iload_n (pc' := 18) hX dX2_freeOf_17 rfl 1 rfl rfl ?_
    refine j_iald (pc' := 19) hX 2 rfl dX2_freeOf_18 hf rfl (fun hf => ?_)
    refine j_isub (pc' := 20) hX dX2_freeOf_19 rfl ?_
    refine j_goto (tgt := 24) hX dX2_freeOf_20 (by decide) ?_
    exact j_iret hX hR dX2_freeOf_24 ⟨_, rfl, hf⟩
def wp_X2_meets (vm : Mo) (p0 : Int32) (p1 : Int32) (post : Int32 → Prop) : Prop :=
  ((p0 < 1 → post (-1)) ∧ (¬ p0 < 1 → ((6 ≤ p0 → post (-1)) ∧ (¬ 6 ≤ p0 → (vp_in p0 6 ∧ ((1 ≤ (vm.1 p0.toNatClampNeg) → (vp_in (p0 - 1) 6 ∧ (vp_in p0 6 ∧ (¬ (vm.1 p0.toNatClampNeg) = 0 ∧ post ((p1 * (vm.1 (p0 - 1).toNatClampNeg)) / (vm.1 p0.toNatClampNeg)))))) ∧ (¬ 1 ≤ (vm.1 p0.toNatClampNeg) → post (-1))))))))
theorem yoX2_meets : yOk yX2_meets 2 := by decide +kernel
set_option maxHeartbeats 4000000 in
set_option maxRecDepth 100000 in
theorem met_X2_meets (l : Launch) (g : JG) (m0 : Nat) (m1 : Nat) (m2 : Nat) (m3 : Nat) (m4 : Nat) (vm : Mo) (p0 : Int32) (p1 : Int32) (post : Int32 → Prop) (hf : wp_X2_meets vm p0 p1 post) : MetR l yX2_meets wsX2_meets ({ frames := 0, cells := 0, slots := 0, locals := 0 } : Room) [.ref m0, .int p0, .int p1] g (MoW g m0 m1 m2 m3 m4 vm) mkI post := by
  have hin2 : ∀ w ∈ u_ws RX2 TX2 7, w ∈ wsX2_meets := by decide +kernel
  have hl_9 : Cond.fieldLink RX2 9 (TX2 0).1 (TX2 0).2.1 (TX2 0).2.2.1 ∈ wsX2_meets := by decide +kernel
  refine enterR (own := RX2) (cc := cX2_meets) (nL := 3) (ret := (some .int)) (lv := [(0, .ref m0), (1, .int p0), (2, .int p1)]) (by decide) rfl rfl (Nat.le_of_ble_eq_true rfl) rfl (fun X hX hR => ?_)
  unfold wp_X2_meets at hf
  refine j_iload_n (pc' := 1) hX dX2_meets_0 rfl 1 rfl rfl ?_
  refine j_iconst (pc' := 2) (v := 1) hX dX2_meets_1 (by decide) rfl ?_
  refine j_icmp_lt (tgt := 21) (pc' := 5) hX dX2_meets_2 (by decide) rfl hf (fun hf => ?_) (fun hf => ?_)
  · refine j_iconst (pc' := 22) (v := (-1)) hX dX2_meets_21 (by decide) rfl ?_
    exact j_iret hX hR dX2_meets_22 ⟨_, rfl, hf⟩
  · refine j_iload_n (pc' := 6) hX dX2_meets_5 rfl 1 rfl rfl ?_
    refine j_bipush (pc' := 8) (v := 6) hX dX2_meets_6 (by decide) rfl ?_
    refine j_icmp_ge (tgt := 21) (pc' := 11) hX dX2_meets_8 (by decide) rfl hf (fun hf => ?_) (fun hf => ?_)
    · refine j_iconst (pc' := 22) (v := (-1)) hX dX2_meets_21 (by decide) rfl ?_
      exact j_iret hX hR dX2_meets_22 ⟨_, rfl, hf⟩
    · refine j_aload_n (pc' := 12) hX dX2_meets_11 rfl 0 rfl rfl ?_
      refine j_get (ci := 2) (pc' := 15) hX hin2 rfl 0 rfl 0 (by decide) hl_9 rfl dX2_meets_12 rfl ?_
      refine j_iload_n (pc' := 16) hX dX2_meets_15 rfl 1 rfl rfl ?_
      refine j_iald (pc' := 17) hX 1 rfl dX2_meets_16 hf rfl (fun hf => ?_)
      refine j_iconst (pc' := 18) (v := 1) hX dX2_meets_17 (by decide) rfl ?_
      refine j_icmp_ge (tgt := 23) (pc' := 21) hX dX2_meets_18 (by decide) rfl hf (fun hf => ?_) (fun hf => ?_)
      · refine j_iload_n (pc' := 24) hX dX2_meets_23 rfl 2 rfl rfl ?_
        refine j_aload_n (pc' := 25) hX dX2_meets_24 rfl 0 rfl rfl ?_
        refine j_get (ci := 2) (pc' := 28) hX hin2 rfl 0 rfl 0 (by decide) hl_9 rfl dX2_meets_25 rfl ?_
        refine j_iload_n (pc' := 29) hX dX2_meets_28 rfl 1 rfl rfl ?_
        refine j_iconst (pc' := 30) (v := 1) hX dX2_meets_29 (by decide) rfl ?_
        refine j_isub (pc' := 31) hX dX2_meets_30 rfl ?_
        refine j_iald (pc' := 32) hX 1 rfl dX2_meets_31 hf rfl (fun hf => ?_)
        refine j_imul (pc' := 33) hX dX2_meets_32 rfl ?_
        refine j_aload_n (pc' := 34) hX dX2_meets_33 rfl 0 rfl rfl ?_
        refine j_get (ci := 2) (pc' := 37) hX hin2 rfl 0 rfl 0 (by decide) hl_9 rfl dX2_meets_34 rfl ?_
        refine j_iload_n (pc' := 38) hX dX2_meets_37 rfl 1 rfl rfl ?_
        refine j_iald (pc' := 39) hX 1 rfl dX2_meets_38 hf rfl (fun hf => ?_)
        refine j_idiv (pc' := 40) hX dX2_meets_39 hf rfl (fun hf => ?_)
        exact j_iret hX hR dX2_meets_40 ⟨_, rfl, hf⟩
      · refine j_iconst (pc' := 22) (v := (-1)) hX dX2_meets_21 (by decide) rfl ?_
        exact j_iret hX hR dX2_meets_22 ⟨_, rfl, hf⟩
def wp_X2_hasJoint_c51 (vm : Mo) (p0 : Int32) (p1 : Int32) (post : Int32 → Prop) (z0_51 : Int32) : Prop :=
  ((z0_51 = 0 → (vp_in ((p0 * 60) + p1) 360 ∧ (((vm.2.2.1 ((p0 * 60) + p1).toNatClampNeg) = 0 → post 0) ∧ (¬ (vm.2.2.1 ((p0 * 60) + p1).toNatClampNeg) = 0 → post 1)))) ∧ (¬ z0_51 = 0 → post 1))
def wp_X2_hasJoint (vm : Mo) (p0 : Int32) (p1 : Int32) (post : Int32 → Prop) : Prop :=
  ((p0 < 0 → post 0) ∧ (¬ p0 < 0 → ((6 ≤ p0 → post 0) ∧ (¬ 6 ≤ p0 → ((p1 < 0 → post 0) ∧ (¬ p1 < 0 → ((60 ≤ p1 → post 0) ∧ (¬ 60 ≤ p1 → (vp_in p0 6 ∧ ((p1 < (vm.1 p0.toNatClampNeg) → ((p1 ≤ 0 → wp_X2_hasJoint_c51 vm p0 p1 post 0) ∧ (¬ p1 ≤ 0 → (vp_in p0 6 ∧ ((p1 = (vm.2.1 p0.toNatClampNeg) → wp_X2_hasJoint_c51 vm p0 p1 post 1) ∧ (¬ p1 = (vm.2.1 p0.toNatClampNeg) → wp_X2_hasJoint_c51 vm p0 p1 post 0)))))) ∧ (¬ p1 < (vm.1 p0.toNatClampNeg) → post 0)))))))))))
theorem yoX2_hasJoint : yOk yX2_hasJoint 2 := by decide +kernel
set_option maxHeartbeats 4000000 in
set_option maxRecDepth 100000 in
theorem met_X2_hasJoint (l : Launch) (g : JG) (m0 : Nat) (m1 : Nat) (m2 : Nat) (m3 : Nat) (m4 : Nat) (vm : Mo) (p0 : Int32) (p1 : Int32) (post : Int32 → Prop) (hf : wp_X2_hasJoint vm p0 p1 post) : MetR l yX2_hasJoint wsX2_hasJoint ({ frames := 0, cells := 0, slots := 0, locals := 0 } : Room) [.ref m0, .int p0, .int p1] g (MoW g m0 m1 m2 m3 m4 vm) mkI post := by
  have hin2 : ∀ w ∈ u_ws RX2 TX2 7, w ∈ wsX2_hasJoint := by decide +kernel
  have hl_18 : Cond.fieldLink RX2 18 (TX2 2).1 (TX2 2).2.1 (TX2 2).2.2.1 ∈ wsX2_hasJoint := by decide +kernel
  have hl_9 : Cond.fieldLink RX2 9 (TX2 0).1 (TX2 0).2.1 (TX2 0).2.2.1 ∈ wsX2_hasJoint := by decide +kernel
  have hl_15 : Cond.fieldLink RX2 15 (TX2 1).1 (TX2 1).2.1 (TX2 1).2.2.1 ∈ wsX2_hasJoint := by decide +kernel
  refine enterR (own := RX2) (cc := cX2_hasJoint) (nL := 4) (ret := (some .boolean)) (lv := [(0, .ref m0), (1, .int p0), (2, .int p1)]) (by decide) rfl rfl (Nat.le_of_ble_eq_true rfl) rfl (fun X hX hR => ?_)
  unfold wp_X2_hasJoint at hf
  have J51 : ∀ (z0_51 : Int32), wp_X2_hasJoint_c51 vm p0 p1 post z0_51 → J g X 0 0 (MoW g m0 m1 m2 m3 m4 vm) [(0, .ref m0), (1, .int p0), (2, .int p1)] [.int z0_51] 51 := by
    intro z0_51 hf
    refine j_istore_n (pc' := 52) (lv' := [(3, .int z0_51), (0, .ref m0), (1, .int p0), (2, .int p1)]) hX dX2_hasJoint_51 rfl (by decide) rfl rfl ?_
    refine j_iload_n (pc' := 53) hX dX2_hasJoint_52 rfl 0 rfl rfl ?_
    refine j_if_ne (tgt := 70) (pc' := 56) hX dX2_hasJoint_53 (by decide) rfl hf (fun hf => ?_) (fun hf => ?_)
    · refine j_iconst (pc' := 71) (v := 1) hX dX2_hasJoint_70 (by decide) rfl ?_
      refine j_goto (tgt := 75) hX dX2_hasJoint_71 (by decide) ?_
      exact j_zret hX hR rfl dX2_hasJoint_75 ⟨_, rfl, hf⟩
    · refine j_aload_n (pc' := 57) hX dX2_hasJoint_56 rfl 1 rfl rfl ?_
      refine j_get (ci := 2) (pc' := 60) hX hin2 rfl 0 rfl 2 (by decide) hl_18 rfl dX2_hasJoint_57 rfl ?_
      refine j_iload_n (pc' := 61) hX dX2_hasJoint_60 rfl 2 rfl rfl ?_
      refine j_bipush (pc' := 63) (v := 60) hX dX2_hasJoint_61 (by decide) rfl ?_
      refine j_imul (pc' := 64) hX dX2_hasJoint_63 rfl ?_
      refine j_iload_n (pc' := 65) hX dX2_hasJoint_64 rfl 3 rfl rfl ?_
      refine j_iadd (pc' := 66) hX dX2_hasJoint_65 rfl ?_
      refine j_iald (pc' := 67) hX 3 rfl dX2_hasJoint_66 hf rfl (fun hf => ?_)
      refine j_if_eq (tgt := 74) (pc' := 70) hX dX2_hasJoint_67 (by decide) rfl hf (fun hf => ?_) (fun hf => ?_)
      · refine j_iconst (pc' := 75) (v := 0) hX dX2_hasJoint_74 (by decide) rfl ?_
        exact j_zret hX hR rfl dX2_hasJoint_75 ⟨_, rfl, hf⟩
      · refine j_iconst (pc' := 71) (v := 1) hX dX2_hasJoint_70 (by decide) rfl ?_
        refine j_goto (tgt := 75) hX dX2_hasJoint_71 (by decide) ?_
        exact j_zret hX hR rfl dX2_hasJoint_75 ⟨_, rfl, hf⟩
  refine j_iload_n (pc' := 1) hX dX2_hasJoint_0 rfl 1 rfl rfl ?_
  refine j_if_lt (tgt := 30) (pc' := 4) hX dX2_hasJoint_1 (by decide) rfl hf (fun hf => ?_) (fun hf => ?_)
  · refine j_iconst (pc' := 31) (v := 0) hX dX2_hasJoint_30 (by decide) rfl ?_
    exact j_zret hX hR rfl dX2_hasJoint_31 ⟨_, rfl, hf⟩
  · refine j_iload_n (pc' := 5) hX dX2_hasJoint_4 rfl 1 rfl rfl ?_
    refine j_bipush (pc' := 7) (v := 6) hX dX2_hasJoint_5 (by decide) rfl ?_
    refine j_icmp_ge (tgt := 30) (pc' := 10) hX dX2_hasJoint_7 (by decide) rfl hf (fun hf => ?_) (fun hf => ?_)
    · refine j_iconst (pc' := 31) (v := 0) hX dX2_hasJoint_30 (by decide) rfl ?_
      exact j_zret hX hR rfl dX2_hasJoint_31 ⟨_, rfl, hf⟩
    · refine j_iload_n (pc' := 11) hX dX2_hasJoint_10 rfl 2 rfl rfl ?_
      refine j_if_lt (tgt := 30) (pc' := 14) hX dX2_hasJoint_11 (by decide) rfl hf (fun hf => ?_) (fun hf => ?_)
      · refine j_iconst (pc' := 31) (v := 0) hX dX2_hasJoint_30 (by decide) rfl ?_
        exact j_zret hX hR rfl dX2_hasJoint_31 ⟨_, rfl, hf⟩
      · refine j_iload_n (pc' := 15) hX dX2_hasJoint_14 rfl 2 rfl rfl ?_
        refine j_bipush (pc' := 17) (v := 60) hX dX2_hasJoint_15 (by decide) rfl ?_
        refine j_icmp_ge (tgt := 30) (pc' := 20) hX dX2_hasJoint_17 (by decide) rfl hf (fun hf => ?_) (fun hf => ?_)
        · refine j_iconst (pc' := 31) (v := 0) hX dX2_hasJoint_30 (by decide) rfl ?_
          exact j_zret hX hR rfl dX2_hasJoint_31 ⟨_, rfl, hf⟩
        · refine j_iload_n (pc' := 21) hX dX2_hasJoint_20 rfl 2 rfl rfl ?_
          refine j_aload_n (pc' := 22) hX dX2_hasJoint_21 rfl 0 rfl rfl ?_
          refine j_get (ci := 2) (pc' := 25) hX hin2 rfl 0 rfl 0 (by decide) hl_9 rfl dX2_hasJoint_22 rfl ?_
          refine j_iload_n (pc' := 26) hX dX2_hasJoint_25 rfl 1 rfl rfl ?_
          refine j_iald (pc' := 27) hX 1 rfl dX2_hasJoint_26 hf rfl (fun hf => ?_)
          refine j_icmp_lt (tgt := 32) (pc' := 30) hX dX2_hasJoint_27 (by decide) rfl hf (fun hf => ?_) (fun hf => ?_)
          · refine j_iload_n (pc' := 33) hX dX2_hasJoint_32 rfl 2 rfl rfl ?_
            refine j_if_le (tgt := 50) (pc' := 36) hX dX2_hasJoint_33 (by decide) rfl hf (fun hf => ?_) (fun hf => ?_)
            · refine j_iconst (pc' := 51) (v := 0) hX dX2_hasJoint_50 (by decide) rfl ?_
              exact J51 0 hf
            · refine j_iload_n (pc' := 37) hX dX2_hasJoint_36 rfl 2 rfl rfl ?_
              refine j_aload_n (pc' := 38) hX dX2_hasJoint_37 rfl 0 rfl rfl ?_
              refine j_get (ci := 2) (pc' := 41) hX hin2 rfl 0 rfl 1 (by decide) hl_15 rfl dX2_hasJoint_38 rfl ?_
              refine j_iload_n (pc' := 42) hX dX2_hasJoint_41 rfl 1 rfl rfl ?_
              refine j_iald (pc' := 43) hX 2 rfl dX2_hasJoint_42 hf rfl (fun hf => ?_)
              refine j_icmp_ne (tgt := 50) (pc' := 46) hX dX2_hasJoint_43 (by decide) rfl hf (fun hf => ?_) (fun hf => ?_)
              · refine j_iconst (pc' := 51) (v := 0) hX dX2_hasJoint_50 (by decide) rfl ?_
                exact J51 0 hf
              · refine j_iconst (pc' := 47) (v := 1) hX dX2_hasJoint_46 (by decide) rfl ?_
                refine j_goto (tgt := 51) hX dX2_hasJoint_47 (by decide) ?_
                exact J51 1 hf
          · refine j_iconst (pc' := 31) (v := 0) hX dX2_hasJoint_30 (by decide) rfl ?_
            exact j_zret hX hR rfl dX2_hasJoint_31 ⟨_, rfl, hf⟩
def wp_X2_runsThrough (vm : Mo) (p0 : Int32) (p1 : Int32) (post : Int32 → Prop) : Prop :=
  ((p0 < 2 → post 0) ∧ (¬ p0 < 2 → ((1 ≤ p1 → (wp_X2_meets vm p0 p1 (fun r15 => (wp_X2_hasJoint vm (p0 - 1) r15 (fun r24 => ((r24 = 0 → post 0) ∧ (¬ r24 = 0 → (wp_X2_meets vm (p0 - 1) r15 (fun r39 => (wp_X2_hasJoint vm (p0 - 2) r39 (fun r42 => ((r42 = 0 → post 0) ∧ (¬ r42 = 0 → post 1))))))))))))) ∧ (¬ 1 ≤ p1 → post 0))))
theorem yoX2_runsThrough : yOk yX2_runsThrough 2 := by decide +kernel
set_option maxHeartbeats 4000000 in
set_option maxRecDepth 100000 in
theorem met_X2_runsThrough (l : Launch) (g : JG) (m0 : Nat) (m1 : Nat) (m2 : Nat) (m3 : Nat) (m4 : Nat) (vm : Mo) (p0 : Int32) (p1 : Int32) (post : Int32 → Prop) (hf : wp_X2_runsThrough vm p0 p1 post) : MetR l yX2_runsThrough wsX2_runsThrough ({ frames := 1, cells := 0, slots := 0, locals := 23 } : Room) [.ref m0, .int p0, .int p1] g (MoW g m0 m1 m2 m3 m4 vm) mkI post := by
  refine enterR (own := RX2) (cc := cX2_runsThrough) (nL := 4) (ret := (some .boolean)) (lv := [(0, .ref m0), (1, .int p0), (2, .int p1)]) (by decide) rfl rfl (Nat.le_of_ble_eq_true rfl) rfl (fun X hX hR => ?_)
  unfold wp_X2_runsThrough at hf
  refine j_iload_n (pc' := 1) hX dX2_runsThrough_0 rfl 1 rfl rfl ?_
  refine j_iconst (pc' := 2) (v := 2) hX dX2_runsThrough_1 (by decide) rfl ?_
  refine j_icmp_lt (tgt := 10) (pc' := 5) hX dX2_runsThrough_2 (by decide) rfl hf (fun hf => ?_) (fun hf => ?_)
  · refine j_iconst (pc' := 11) (v := 0) hX dX2_runsThrough_10 (by decide) rfl ?_
    exact j_zret hX hR rfl dX2_runsThrough_11 ⟨_, rfl, hf⟩
  · refine j_iload_n (pc' := 6) hX dX2_runsThrough_5 rfl 2 rfl rfl ?_
    refine j_iconst (pc' := 7) (v := 1) hX dX2_runsThrough_6 (by decide) rfl ?_
    refine j_icmp_ge (tgt := 12) (pc' := 10) hX dX2_runsThrough_7 (by decide) rfl hf (fun hf => ?_) (fun hf => ?_)
    · refine j_aload_n (pc' := 13) hX dX2_runsThrough_12 rfl 0 rfl rfl ?_
      refine j_iload_n (pc' := 14) hX dX2_runsThrough_13 rfl 1 rfl rfl ?_
      refine j_iload_n (pc' := 15) hX dX2_runsThrough_14 rfl 2 rfl rfl ?_
      refine j_callVR (ci := 2) (pc' := 18) (As := [.int p0, .int p1]) (rest := []) (stk := fun r15 => [.int r15]) hX (fun l => met_X2_meets l g m0 m1 m2 m3 m4 vm p0 p1 _ hf) rfl gX2_runsThrough_X2_meets yoX2_meets rfl ⟨Nat.le_of_ble_eq_true rfl, Nat.le_of_ble_eq_true rfl⟩ ⟨⟨Nat.le_of_ble_eq_true rfl, Nat.le_of_ble_eq_true rfl⟩, rfl, rfl⟩ 0 rfl rfl [0, 1, 2, 3, 4] rfl (by decide) (Nat.le_of_ble_eq_true rfl) rfl (fun _ => rfl) dX2_runsThrough_15 rfl (fun r15 hf => ?_)
      refine j_istore_n (pc' := 19) (lv' := [(3, .int r15), (0, .ref m0), (1, .int p0), (2, .int p1)]) hX dX2_runsThrough_18 rfl (by decide) rfl rfl ?_
      refine j_aload_n (pc' := 20) hX dX2_runsThrough_19 rfl 1 rfl rfl ?_
      refine j_iload_n (pc' := 21) hX dX2_runsThrough_20 rfl 2 rfl rfl ?_
      refine j_iconst (pc' := 22) (v := 1) hX dX2_runsThrough_21 (by decide) rfl ?_
      refine j_isub (pc' := 23) hX dX2_runsThrough_22 rfl ?_
      refine j_iload_n (pc' := 24) hX dX2_runsThrough_23 rfl 0 rfl rfl ?_
      refine j_callVR (ci := 2) (pc' := 27) (As := [.int (p0 - 1), .int r15]) (rest := []) (stk := fun r24 => [.int r24]) hX (fun l => met_X2_hasJoint l g m0 m1 m2 m3 m4 vm (p0 - 1) r15 _ hf) rfl gX2_runsThrough_X2_hasJoint yoX2_hasJoint rfl ⟨Nat.le_of_ble_eq_true rfl, Nat.le_of_ble_eq_true rfl⟩ ⟨⟨Nat.le_of_ble_eq_true rfl, Nat.le_of_ble_eq_true rfl⟩, rfl, rfl⟩ 0 rfl rfl [0, 1, 2, 3, 4] rfl (by decide) (Nat.le_of_ble_eq_true rfl) rfl (fun _ => rfl) dX2_runsThrough_24 rfl (fun r24 hf => ?_)
      refine j_if_eq (tgt := 52) (pc' := 30) hX dX2_runsThrough_27 (by decide) rfl hf (fun hf => ?_) (fun hf => ?_)
      · refine j_iconst (pc' := 53) (v := 0) hX dX2_runsThrough_52 (by decide) rfl ?_
        exact j_zret hX hR rfl dX2_runsThrough_53 ⟨_, rfl, hf⟩
      · refine j_aload_n (pc' := 31) hX dX2_runsThrough_30 rfl 1 rfl rfl ?_
        refine j_iload_n (pc' := 32) hX dX2_runsThrough_31 rfl 2 rfl rfl ?_
        refine j_iconst (pc' := 33) (v := 2) hX dX2_runsThrough_32 (by decide) rfl ?_
        refine j_isub (pc' := 34) hX dX2_runsThrough_33 rfl ?_
        refine j_aload_n (pc' := 35) hX dX2_runsThrough_34 rfl 1 rfl rfl ?_
        refine j_iload_n (pc' := 36) hX dX2_runsThrough_35 rfl 2 rfl rfl ?_
        refine j_iconst (pc' := 37) (v := 1) hX dX2_runsThrough_36 (by decide) rfl ?_
        refine j_isub (pc' := 38) hX dX2_runsThrough_37 rfl ?_
        refine j_iload_n (pc' := 39) hX dX2_runsThrough_38 rfl 0 rfl rfl ?_
        refine j_callVR (ci := 2) (pc' := 42) (As := [.int (p0 - 1), .int r15]) (rest := [.int (p0 - 2), .ref m0]) (stk := fun r39 => [.int r39, .int (p0 - 2), .ref m0]) hX (fun l => met_X2_meets l g m0 m1 m2 m3 m4 vm (p0 - 1) r15 _ hf) rfl gX2_runsThrough_X2_meets yoX2_meets rfl ⟨Nat.le_of_ble_eq_true rfl, Nat.le_of_ble_eq_true rfl⟩ ⟨⟨Nat.le_of_ble_eq_true rfl, Nat.le_of_ble_eq_true rfl⟩, rfl, rfl⟩ 0 rfl rfl [0, 1, 2, 3, 4] rfl (by decide) (Nat.le_of_ble_eq_true rfl) rfl (fun _ => rfl) dX2_runsThrough_39 rfl (fun r39 hf => ?_)
        refine j_callVR (ci := 2) (pc' := 45) (As := [.int (p0 - 2), .int r39]) (rest := []) (stk := fun r42 => [.int r42]) hX (fun l => met_X2_hasJoint l g m0 m1 m2 m3 m4 vm (p0 - 2) r39 _ hf) rfl gX2_runsThrough_X2_hasJoint yoX2_hasJoint rfl ⟨Nat.le_of_ble_eq_true rfl, Nat.le_of_ble_eq_true rfl⟩ ⟨⟨Nat.le_of_ble_eq_true rfl, Nat.le_of_ble_eq_true rfl⟩, rfl, rfl⟩ 0 rfl rfl [0, 1, 2, 3, 4] rfl (by decide) (Nat.le_of_ble_eq_true rfl) rfl (fun _ => rfl) dX2_runsThrough_42 rfl (fun r42 hf => ?_)
        refine j_if_eq (tgt := 52) (pc' := 48) hX dX2_runsThrough_45 (by decide) rfl hf (fun hf => ?_) (fun hf => ?_)
        · refine j_iconst (pc' := 53) (v := 0) hX dX2_runsThrough_52 (by decide) rfl ?_
          exact j_zret hX hR rfl dX2_runsThrough_53 ⟨_, rfl, hf⟩
        · refine j_iconst (pc' := 49) (v := 1) hX dX2_runsThrough_48 (by decide) rfl ?_
          refine j_goto (tgt := 53) hX dX2_runsThrough_49 (by decide) ?_
          exact j_zret hX hR rfl dX2_runsThrough_53 ⟨_, rfl, hf⟩
    · refine j_iconst (pc' := 11) (v := 0) hX dX2_runsThrough_10 (by decide) rfl ?_
      exact j_zret hX hR rfl dX2_runsThrough_11 ⟨_, rfl, hf⟩
def wp_X2_sourceOf_L22 (vm : Mo) (K22_36 : Int32 → Prop) (K22_44 : Prop) : Nat → Int32 → Prop
  | 0, _ => False
  | N22 + 1, x3_22 =>
  ((6 < x3_22 → K22_44) ∧ (¬ 6 < x3_22 → (wp_X2_inStock vm x3_22 (fun r30 => ((r30 ≤ 0 → (wp_X2_sourceOf_L22 vm K22_36 K22_44 N22) (x3_22 + 1)) ∧ (¬ r30 ≤ 0 → K22_36 x3_22))))))
def wp_X2_sourceOf (vm : Mo) (p0 : Int32) (p1 : Int32) (post : Int32 → Prop) : Prop :=
  ((p1 = 0 → (wp_X2_inStock vm p0 (fun r6 => ((r6 ≤ 0 → post 0) ∧ (¬ r6 ≤ 0 → post p0))))) ∧ (¬ p1 = 0 → (∃ N : Nat, wp_X2_sourceOf_L22 vm (fun (e1 : Int32) => post e1) (post 0) N (p0 + 1))))
theorem yoX2_sourceOf : yOk yX2_sourceOf 2 := by decide +kernel
set_option maxHeartbeats 4000000 in
set_option maxRecDepth 100000 in
theorem met_X2_sourceOf (l : Launch) (g : JG) (m0 : Nat) (m1 : Nat) (m2 : Nat) (m3 : Nat) (m4 : Nat) (vm : Mo) (p0 : Int32) (p1 : Int32) (post : Int32 → Prop) (hf : wp_X2_sourceOf vm p0 p1 post) : MetR l yX2_sourceOf wsX2_sourceOf ({ frames := 1, cells := 0, slots := 0, locals := 21 } : Room) [.ref m0, .int p0, .int p1] g (MoW g m0 m1 m2 m3 m4 vm) mkI post := by
  refine enterR (own := RX2) (cc := cX2_sourceOf) (nL := 4) (ret := (some .int)) (lv := [(0, .ref m0), (1, .int p0), (2, .int p1)]) (by decide) rfl rfl (Nat.le_of_ble_eq_true rfl) rfl (fun X hX hR => ?_)
  unfold wp_X2_sourceOf at hf
  refine j_iload_n (pc' := 1) hX dX2_sourceOf_0 rfl 2 rfl rfl ?_
  refine j_if_ne (tgt := 18) (pc' := 4) hX dX2_sourceOf_1 (by decide) rfl hf (fun hf => ?_) (fun hf => ?_)
  · refine j_iload_n (pc' := 19) hX dX2_sourceOf_18 rfl 1 rfl rfl ?_
    refine j_iconst (pc' := 20) (v := 1) hX dX2_sourceOf_19 (by decide) rfl ?_
    refine j_iadd (pc' := 21) hX dX2_sourceOf_20 rfl ?_
    refine j_istore_n (pc' := 22) (lv' := [(3, .int (p0 + 1)), (0, .ref m0), (1, .int p0), (2, .int p1)]) hX dX2_sourceOf_21 rfl (by decide) rfl rfl ?_
    obtain ⟨N22, hf⟩ := hf
    have L22 : ∀ (K22_36 : Int32 → Prop) (K22_44 : Prop), (∀ (x3_22 : Int32), K22_36 x3_22 → J g X 0 0 (MoW g m0 m1 m2 m3 m4 vm) [(3, .int x3_22)] [] 36) → (K22_44 → J g X 0 0 (MoW g m0 m1 m2 m3 m4 vm) [] [] 44) → ∀ (N22 : Nat) (x3_22 : Int32), wp_X2_sourceOf_L22 vm K22_36 K22_44 N22 x3_22 → J g X 0 0 (MoW g m0 m1 m2 m3 m4 vm) [(0, .ref m0), (3, .int x3_22)] [] 22 := by
      intro K22_36 K22_44 hK22_36 hK22_44 N22
      induction N22 with
      | zero => intro x3_22 hf; exact False.elim hf
      | succ N22 ih22 =>
        intro x3_22 hf
        refine j_iload_n (pc' := 23) hX dX2_sourceOf_22 rfl 1 rfl rfl ?_
        refine j_bipush (pc' := 25) (v := 6) hX dX2_sourceOf_23 (by decide) rfl ?_
        refine j_icmp_gt (tgt := 44) (pc' := 28) hX dX2_sourceOf_25 (by decide) rfl hf (fun hf => ?_) (fun hf => ?_)
        · refine J_sub (lv' := []) [] rfl ?_
          exact hK22_44 hf
        · refine j_aload_n (pc' := 29) hX dX2_sourceOf_28 rfl 0 rfl rfl ?_
          refine j_iload_n (pc' := 30) hX dX2_sourceOf_29 rfl 1 rfl rfl ?_
          refine j_callVR (ci := 2) (pc' := 33) (As := [.int x3_22]) (rest := []) (stk := fun r30 => [.int r30]) hX (fun l => met_X2_inStock l g m0 m1 m2 m3 m4 vm x3_22 _ hf) rfl gX2_sourceOf_X2_inStock yoX2_inStock rfl ⟨Nat.le_of_ble_eq_true rfl, Nat.le_of_ble_eq_true rfl⟩ ⟨⟨Nat.le_of_ble_eq_true rfl, Nat.le_of_ble_eq_true rfl⟩, rfl, rfl⟩ 0 rfl rfl [0, 1, 2, 3, 4] rfl (by decide) (Nat.le_of_ble_eq_true rfl) rfl (fun _ => rfl) dX2_sourceOf_30 rfl (fun r30 hf => ?_)
          refine j_if_le (tgt := 38) (pc' := 36) hX dX2_sourceOf_33 (by decide) rfl hf (fun hf => ?_) (fun hf => ?_)
          · refine j_iinc (pc' := 41) (cst := 1) (v := (x3_22 + 1)) (lv' := [(3, .int (x3_22 + 1)), (0, .ref m0)]) hX dX2_sourceOf_38 (by decide) rfl 1 rfl (by decide) rfl rfl ?_
            refine j_goto (tgt := 22) hX dX2_sourceOf_41 (by decide) ?_
            refine J_sub (lv' := [(0, .ref m0), (3, .int (x3_22 + 1))]) [1, 0] rfl ?_
            exact ih22 (x3_22 + 1) hf
          · refine J_sub (lv' := [(3, .int x3_22)]) [1] rfl ?_
            exact hK22_36 x3_22 hf
    refine J_sub (lv' := [(0, .ref m0), (3, .int (p0 + 1))]) [1, 0] rfl ?_
    refine L22 _ _ (fun e1 hf => ?_) (fun hf => ?_) N22 (p0 + 1) hf
    · refine j_iload_n (pc' := 37) hX dX2_sourceOf_36 rfl 0 rfl rfl ?_
      exact j_iret hX hR dX2_sourceOf_37 ⟨_, rfl, hf⟩
    · refine j_iconst (pc' := 45) (v := 0) hX dX2_sourceOf_44 (by decide) rfl ?_
      exact j_iret hX hR dX2_sourceOf_45 ⟨_, rfl, hf⟩
  · refine j_aload_n (pc' := 5) hX dX2_sourceOf_4 rfl 0 rfl rfl ?_
    refine j_iload_n (pc' := 6) hX dX2_sourceOf_5 rfl 1 rfl rfl ?_
    refine j_callVR (ci := 2) (pc' := 9) (As := [.int p0]) (rest := []) (stk := fun r6 => [.int r6]) hX (fun l => met_X2_inStock l g m0 m1 m2 m3 m4 vm p0 _ hf) rfl gX2_sourceOf_X2_inStock yoX2_inStock rfl ⟨Nat.le_of_ble_eq_true rfl, Nat.le_of_ble_eq_true rfl⟩ ⟨⟨Nat.le_of_ble_eq_true rfl, Nat.le_of_ble_eq_true rfl⟩, rfl, rfl⟩ 0 rfl rfl [0, 1, 2, 3, 4] rfl (by decide) (Nat.le_of_ble_eq_true rfl) rfl (fun _ => rfl) dX2_sourceOf_6 rfl (fun r6 hf => ?_)
    refine j_if_le (tgt := 16) (pc' := 12) hX dX2_sourceOf_9 (by decide) rfl hf (fun hf => ?_) (fun hf => ?_)
    · refine j_iconst (pc' := 17) (v := 0) hX dX2_sourceOf_16 (by decide) rfl ?_
      exact j_iret hX hR dX2_sourceOf_17 ⟨_, rfl, hf⟩
    · refine j_iload_n (pc' := 13) hX dX2_sourceOf_12 rfl 1 rfl rfl ?_
      refine j_goto (tgt := 17) hX dX2_sourceOf_13 (by decide) ?_
      exact j_iret hX hR dX2_sourceOf_17 ⟨_, rfl, hf⟩
def wp_X2_reasonAgainst (vm : Mo) (p0 : Int32) (p1 : Int32) (p2 : Int32) (post : Int32 → Prop) : Prop :=
  (wp_X2_freeOf vm p0 (fun r2 => ((r2 = 0 → post 1) ∧ (¬ r2 = 0 → ((p1 ≤ r2 → (wp_X2_sourceOf vm p1 p2 (fun r25 => ((r25 = 0 → post 3) ∧ (¬ r25 = 0 → ((r2 ≤ p1 → post 0) ∧ (¬ r2 ≤ p1 → (wp_X2_takenOf vm p0 (fun r43 => (wp_X2_runsThrough vm p0 (r43 + p1) (fun r48 => ((r48 = 0 → post 0) ∧ (¬ r48 = 0 → post 4))))))))))))) ∧ (¬ p1 ≤ r2 → post 2))))))
theorem yoX2_reasonAgainst : yOk yX2_reasonAgainst 3 := by decide +kernel
set_option maxHeartbeats 4000000 in
set_option maxRecDepth 100000 in
theorem met_X2_reasonAgainst (l : Launch) (g : JG) (m0 : Nat) (m1 : Nat) (m2 : Nat) (m3 : Nat) (m4 : Nat) (vm : Mo) (p0 : Int32) (p1 : Int32) (p2 : Int32) (post : Int32 → Prop) (hf : wp_X2_reasonAgainst vm p0 p1 p2 post) : MetR l yX2_reasonAgainst wsX2_reasonAgainst ({ frames := 2, cells := 0, slots := 0, locals := 46 } : Room) [.ref m0, .int p0, .int p1, .int p2] g (MoW g m0 m1 m2 m3 m4 vm) mkI post := by
  refine enterR (own := RX2) (cc := cX2_reasonAgainst) (nL := 5) (ret := (some .int)) (lv := [(0, .ref m0), (1, .int p0), (2, .int p1), (3, .int p2)]) (by decide) rfl rfl (Nat.le_of_ble_eq_true rfl) rfl (fun X hX hR => ?_)
  unfold wp_X2_reasonAgainst at hf
  refine j_aload_n (pc' := 1) hX dX2_reasonAgainst_0 rfl 0 rfl rfl ?_
  refine j_iload_n (pc' := 2) hX dX2_reasonAgainst_1 rfl 1 rfl rfl ?_
  refine j_callVR (ci := 2) (pc' := 5) (As := [.int p0]) (rest := []) (stk := fun r2 => [.int r2]) hX (fun l => met_X2_freeOf l g m0 m1 m2 m3 m4 vm p0 _ hf) rfl gX2_reasonAgainst_X2_freeOf yoX2_freeOf rfl ⟨Nat.le_of_ble_eq_true rfl, Nat.le_of_ble_eq_true rfl⟩ ⟨⟨Nat.le_of_ble_eq_true rfl, Nat.le_of_ble_eq_true rfl⟩, rfl, rfl⟩ 0 rfl rfl [0, 1, 2, 3, 4] rfl (by decide) (Nat.le_of_ble_eq_true rfl) rfl (fun _ => rfl) dX2_reasonAgainst_2 rfl (fun r2 hf => ?_)
  refine j_istore (pc' := 7) (lv' := [(4, .int r2), (0, .ref m0), (1, .int p0), (2, .int p1), (3, .int p2)]) hX dX2_reasonAgainst_5 (by decide) rfl rfl ?_
  refine j_iload (pc' := 9) hX dX2_reasonAgainst_7 0 rfl rfl ?_
  refine j_if_ne (tgt := 14) (pc' := 12) hX dX2_reasonAgainst_9 (by decide) rfl hf (fun hf => ?_) (fun hf => ?_)
  · refine j_iload_n (pc' := 15) hX dX2_reasonAgainst_14 rfl 3 rfl rfl ?_
    refine j_iload (pc' := 17) hX dX2_reasonAgainst_15 0 rfl rfl ?_
    refine j_icmp_le (tgt := 22) (pc' := 20) hX dX2_reasonAgainst_17 (by decide) rfl hf (fun hf => ?_) (fun hf => ?_)
    · refine j_aload_n (pc' := 23) hX dX2_reasonAgainst_22 rfl 1 rfl rfl ?_
      refine j_iload_n (pc' := 24) hX dX2_reasonAgainst_23 rfl 3 rfl rfl ?_
      refine j_iload_n (pc' := 25) hX dX2_reasonAgainst_24 rfl 4 rfl rfl ?_
      refine j_callVR (ci := 2) (pc' := 28) (As := [.int p1, .int p2]) (rest := []) (stk := fun r25 => [.int r25]) hX (fun l => met_X2_sourceOf l g m0 m1 m2 m3 m4 vm p1 p2 _ hf) rfl gX2_reasonAgainst_X2_sourceOf yoX2_sourceOf rfl ⟨Nat.le_of_ble_eq_true rfl, Nat.le_of_ble_eq_true rfl⟩ ⟨⟨Nat.le_of_ble_eq_true rfl, Nat.le_of_ble_eq_true rfl⟩, rfl, rfl⟩ 0 rfl rfl [0, 1, 2, 3, 4] rfl (by decide) (Nat.le_of_ble_eq_true rfl) rfl (fun _ => rfl) dX2_reasonAgainst_25 rfl (fun r25 hf => ?_)
      refine j_if_ne (tgt := 33) (pc' := 31) hX dX2_reasonAgainst_28 (by decide) rfl hf (fun hf => ?_) (fun hf => ?_)
      · refine j_iload_n (pc' := 34) hX dX2_reasonAgainst_33 rfl 3 rfl rfl ?_
        refine j_iload (pc' := 36) hX dX2_reasonAgainst_34 0 rfl rfl ?_
        refine j_icmp_ge (tgt := 58) (pc' := 39) hX dX2_reasonAgainst_36 (by decide) rfl hf (fun hf => ?_) (fun hf => ?_)
        · refine j_iconst (pc' := 59) (v := 0) hX dX2_reasonAgainst_58 (by decide) rfl ?_
          exact j_iret hX hR dX2_reasonAgainst_59 ⟨_, rfl, hf⟩
        · refine j_aload_n (pc' := 40) hX dX2_reasonAgainst_39 rfl 1 rfl rfl ?_
          refine j_iload_n (pc' := 41) hX dX2_reasonAgainst_40 rfl 2 rfl rfl ?_
          refine j_aload_n (pc' := 42) hX dX2_reasonAgainst_41 rfl 1 rfl rfl ?_
          refine j_iload_n (pc' := 43) hX dX2_reasonAgainst_42 rfl 2 rfl rfl ?_
          refine j_callVR (ci := 2) (pc' := 46) (As := [.int p0]) (rest := [.int p0, .ref m0]) (stk := fun r43 => [.int r43, .int p0, .ref m0]) hX (fun l => met_X2_takenOf l g m0 m1 m2 m3 m4 vm p0 _ hf) rfl gX2_reasonAgainst_X2_takenOf yoX2_takenOf rfl ⟨Nat.le_of_ble_eq_true rfl, Nat.le_of_ble_eq_true rfl⟩ ⟨⟨Nat.le_of_ble_eq_true rfl, Nat.le_of_ble_eq_true rfl⟩, rfl, rfl⟩ 0 rfl rfl [0, 1, 2, 3, 4] rfl (by decide) (Nat.le_of_ble_eq_true rfl) rfl (fun _ => rfl) dX2_reasonAgainst_43 rfl (fun r43 hf => ?_)
          refine j_iload_n (pc' := 47) hX dX2_reasonAgainst_46 rfl 3 rfl rfl ?_
          refine j_iadd (pc' := 48) hX dX2_reasonAgainst_47 rfl ?_
          refine j_callVR (ci := 2) (pc' := 51) (As := [.int p0, .int (r43 + p1)]) (rest := []) (stk := fun r48 => [.int r48]) hX (fun l => met_X2_runsThrough l g m0 m1 m2 m3 m4 vm p0 (r43 + p1) _ hf) rfl gX2_reasonAgainst_X2_runsThrough yoX2_runsThrough rfl ⟨Nat.le_of_ble_eq_true rfl, Nat.le_of_ble_eq_true rfl⟩ ⟨⟨Nat.le_of_ble_eq_true rfl, Nat.le_of_ble_eq_true rfl⟩, rfl, rfl⟩ 0 rfl rfl [0, 1, 2, 3, 4] rfl (by decide) (Nat.le_of_ble_eq_true rfl) rfl (fun _ => rfl) dX2_reasonAgainst_48 rfl (fun r48 hf => ?_)
          refine j_if_eq (tgt := 58) (pc' := 54) hX dX2_reasonAgainst_51 (by decide) rfl hf (fun hf => ?_) (fun hf => ?_)
          · refine j_iconst (pc' := 59) (v := 0) hX dX2_reasonAgainst_58 (by decide) rfl ?_
            exact j_iret hX hR dX2_reasonAgainst_59 ⟨_, rfl, hf⟩
          · refine j_iconst (pc' := 55) (v := 4) hX dX2_reasonAgainst_54 (by decide) rfl ?_
            refine j_goto (tgt := 59) hX dX2_reasonAgainst_55 (by decide) ?_
            exact j_iret hX hR dX2_reasonAgainst_59 ⟨_, rfl, hf⟩
      · refine j_iconst (pc' := 32) (v := 3) hX dX2_reasonAgainst_31 (by decide) rfl ?_
        exact j_iret hX hR dX2_reasonAgainst_32 ⟨_, rfl, hf⟩
    · refine j_iconst (pc' := 21) (v := 2) hX dX2_reasonAgainst_20 (by decide) rfl ?_
      exact j_iret hX hR dX2_reasonAgainst_21 ⟨_, rfl, hf⟩
  · refine j_iconst (pc' := 13) (v := 1) hX dX2_reasonAgainst_12 (by decide) rfl ?_
    exact j_iret hX hR dX2_reasonAgainst_13 ⟨_, rfl, hf⟩
def wp_X2_put (vm : Mo) (p0 : Int32) (p1 : Int32) (p2 : Int32) (post : Int32 → Mo → Prop) : Prop :=
  (wp_X2_sourceOf vm p1 p2 (fun r3 => (wp_X2_isCourse p0 (fun r9 => ((r9 = 0 → post 0 vm) ∧ (¬ r9 = 0 → (wp_X2_isSize r3 (fun r17 => ((r17 = 0 → post 0 vm) ∧ (¬ r17 = 0 → (vp_in p0 6 ∧ (vp_in p0 6 ∧ ((60 ≤ (vm.2.1 p0.toNatClampNeg) → post 0 vm) ∧ (¬ 60 ≤ (vm.2.1 p0.toNatClampNeg) → ((((p0 * 60) + (vm.2.1 p0.toNatClampNeg)) < 0 → post 0 vm) ∧ (¬ ((p0 * 60) + (vm.2.1 p0.toNatClampNeg)) < 0 → ((((p0 * 60) + (vm.2.1 p0.toNatClampNeg)) < 360 → ((p2 = 0 → (vp_in ((p0 * 60) + (vm.2.1 p0.toNatClampNeg)) 360 ∧ (∀ vm_1 : Mo, vm_1 = mo_b vm (upd vm.2.2.1 ((p0 * 60) + (vm.2.1 p0.toNatClampNeg)).toNatClampNeg p1) → (vp_in p0 6 ∧ (vp_in p0 6 ∧ (∀ vm_2 : Mo, vm_2 = mo_t vm_1 (upd vm_1.2.1 p0.toNatClampNeg ((vm_1.2.1 p0.toNatClampNeg) + p1)) → (vp_in r3 7 ∧ (vp_in r3 7 ∧ (∀ vm_3 : Mo, vm_3 = mo_s vm_2 (upd vm_2.2.2.2.1 r3.toNatClampNeg ((vm_2.2.2.2.1 r3.toNatClampNeg) - 1)) → (∀ vm_4 : Mo, vm_4 = mo_w vm_3 ((vm_3.2.2.2.2.2.2 + (r3 - p1))) → post (r3 - p1) vm_4)))))))))) ∧ (¬ p2 = 0 → (vp_in ((p0 * 60) + (vm.2.1 p0.toNatClampNeg)) 360 ∧ (∀ vm_5 : Mo, vm_5 = mo_b vm (upd vm.2.2.1 ((p0 * 60) + (vm.2.1 p0.toNatClampNeg)).toNatClampNeg (-p1)) → (vp_in p0 6 ∧ (vp_in p0 6 ∧ (∀ vm_6 : Mo, vm_6 = mo_t vm_5 (upd vm_5.2.1 p0.toNatClampNeg ((vm_5.2.1 p0.toNatClampNeg) + p1)) → (vp_in r3 7 ∧ (vp_in r3 7 ∧ (∀ vm_7 : Mo, vm_7 = mo_s vm_6 (upd vm_6.2.2.2.1 r3.toNatClampNeg ((vm_6.2.2.2.1 r3.toNatClampNeg) - 1)) → (∀ vm_8 : Mo, vm_8 = mo_w vm_7 ((vm_7.2.2.2.2.2.2 + (r3 - p1))) → post (r3 - p1) vm_8)))))))))))) ∧ (¬ ((p0 * 60) + (vm.2.1 p0.toNatClampNeg)) < 360 → post 0 vm))))))))))))))))))
theorem yoX2_put : yOk yX2_put 3 := by decide +kernel
set_option maxHeartbeats 4000000 in
set_option maxRecDepth 100000 in
theorem met_X2_put (l : Launch) (g : JG) (m0 : Nat) (m1 : Nat) (m2 : Nat) (m3 : Nat) (m4 : Nat) (vm : Mo) (p0 : Int32) (p1 : Int32) (p2 : Int32) (post : Int32 → Mo → Prop) (hf : wp_X2_put vm p0 p1 p2 post) : MetM l yX2_put wsX2_put ({ frames := 2, cells := 0, slots := 0, locals := 44 } : Room) [.ref m0, .int p0, .int p1, .int p2] g (MoW g m0 m1 m2 m3 m4 vm) mkI post (fun u : Mo => (MoW g m0 m1 m2 m3 m4 u)) := by
  have hin2 : ∀ w ∈ u_ws RX2 TX2 7, w ∈ wsX2_put := by decide +kernel
  have hl_15 : Cond.fieldLink RX2 15 (TX2 1).1 (TX2 1).2.1 (TX2 1).2.2.1 ∈ wsX2_put := by decide +kernel
  have hl_18 : Cond.fieldLink RX2 18 (TX2 2).1 (TX2 2).2.1 (TX2 2).2.2.1 ∈ wsX2_put := by decide +kernel
  have hl_21 : Cond.fieldLink RX2 21 (TX2 3).1 (TX2 3).2.1 (TX2 3).2.2.1 ∈ wsX2_put := by decide +kernel
  have hl_35 : Cond.fieldLink RX2 35 (TX2 6).1 (TX2 6).2.1 (TX2 6).2.2.1 ∈ wsX2_put := by decide +kernel
  refine enterM (own := RX2) (cc := cX2_put) (nL := 6) (ret := (some .int)) (lv := [(0, .ref m0), (1, .int p0), (2, .int p1), (3, .int p2)]) (by decide) rfl rfl (Nat.le_of_ble_eq_true rfl) rfl (fun X hX hW hR => ?_)
  unfold wp_X2_put at hf
  refine j_aload_n (pc' := 1) hX dX2_put_0 rfl 0 rfl rfl ?_
  refine j_iload_n (pc' := 2) hX dX2_put_1 rfl 2 rfl rfl ?_
  refine j_iload_n (pc' := 3) hX dX2_put_2 rfl 3 rfl rfl ?_
  refine j_callVR (ci := 2) (pc' := 6) (As := [.int p1, .int p2]) (rest := []) (stk := fun r3 => [.int r3]) hX (fun l => met_X2_sourceOf l g m0 m1 m2 m3 m4 vm p1 p2 _ hf) rfl gX2_put_X2_sourceOf yoX2_sourceOf rfl ⟨Nat.le_of_ble_eq_true rfl, Nat.le_of_ble_eq_true rfl⟩ ⟨⟨Nat.le_of_ble_eq_true rfl, Nat.le_of_ble_eq_true rfl⟩, rfl, rfl⟩ 0 rfl rfl [0, 1, 2, 3, 4] rfl (by decide) (Nat.le_of_ble_eq_true rfl) rfl (fun _ => rfl) dX2_put_3 rfl (fun r3 hf => ?_)
  refine j_istore (pc' := 8) (lv' := [(4, .int r3), (0, .ref m0), (1, .int p0), (2, .int p1), (3, .int p2)]) hX dX2_put_6 (by decide) rfl rfl ?_
  refine j_iload_n (pc' := 9) hX dX2_put_8 rfl 2 rfl rfl ?_
  refine j_callSR (pc' := 12) (As := [.int p0]) (rest := []) (stk := fun r9 => [.int r9]) hX (fun l => met_X2_isCourse l g p0 _ hf) rfl gX2_put_X2_isCourse yoX2_isCourse rfl ⟨Nat.le_of_ble_eq_true rfl, Nat.le_of_ble_eq_true rfl⟩ ⟨⟨Nat.le_of_ble_eq_true rfl, Nat.le_of_ble_eq_true rfl⟩, rfl, rfl⟩ [] rfl (by decide) (Nat.le_of_ble_eq_true rfl) rfl (fun _ => rfl) dX2_put_9 rfl (fun r9 hf => ?_)
  refine j_if_eq (tgt := 23) (pc' := 15) hX dX2_put_12 (by decide) rfl hf (fun hf => ?_) (fun hf => ?_)
  · refine j_iconst (pc' := 24) (v := 0) hX dX2_put_23 (by decide) rfl ?_
    exact j_iret hX hR dX2_put_24 ⟨_, _, rfl, hf, rfl⟩
  · refine j_iload (pc' := 17) hX dX2_put_15 0 rfl rfl ?_
    refine j_callSR (pc' := 20) (As := [.int r3]) (rest := []) (stk := fun r17 => [.int r17]) hX (fun l => met_X2_isSize l g r3 _ hf) rfl gX2_put_X2_isSize yoX2_isSize rfl ⟨Nat.le_of_ble_eq_true rfl, Nat.le_of_ble_eq_true rfl⟩ ⟨⟨Nat.le_of_ble_eq_true rfl, Nat.le_of_ble_eq_true rfl⟩, rfl, rfl⟩ [] rfl (by decide) (Nat.le_of_ble_eq_true rfl) rfl (fun _ => rfl) dX2_put_17 rfl (fun r17 hf => ?_)
    refine j_if_ne (tgt := 25) (pc' := 23) hX dX2_put_20 (by decide) rfl hf (fun hf => ?_) (fun hf => ?_)
    · refine j_iload_n (pc' := 26) hX dX2_put_25 rfl 2 rfl rfl ?_
      refine j_bipush (pc' := 28) (v := 60) hX dX2_put_26 (by decide) rfl ?_
      refine j_imul (pc' := 29) hX dX2_put_28 rfl ?_
      refine j_aload_n (pc' := 30) hX dX2_put_29 rfl 1 rfl rfl ?_
      refine j_get (ci := 2) (pc' := 33) hX hin2 rfl 0 rfl 1 (by decide) hl_15 rfl dX2_put_30 rfl ?_
      refine j_iload_n (pc' := 34) hX dX2_put_33 rfl 2 rfl rfl ?_
      refine j_iald (pc' := 35) hX 2 rfl dX2_put_34 hf rfl (fun hf => ?_)
      refine j_iadd (pc' := 36) hX dX2_put_35 rfl ?_
      refine j_istore (pc' := 38) (lv' := [(5, .int ((p0 * 60) + (vm.2.1 p0.toNatClampNeg))), (4, .int r3), (0, .ref m0), (1, .int p0), (2, .int p1), (3, .int p2)]) hX dX2_put_36 (by decide) rfl rfl ?_
      refine j_aload_n (pc' := 39) hX dX2_put_38 rfl 2 rfl rfl ?_
      refine j_get (ci := 2) (pc' := 42) hX hin2 rfl 0 rfl 1 (by decide) hl_15 rfl dX2_put_39 rfl ?_
      refine j_iload_n (pc' := 43) hX dX2_put_42 rfl 3 rfl rfl ?_
      refine j_iald (pc' := 44) hX 2 rfl dX2_put_43 hf rfl (fun hf => ?_)
      refine j_bipush (pc' := 46) (v := 60) hX dX2_put_44 (by decide) rfl ?_
      refine j_icmp_ge (tgt := 64) (pc' := 49) hX dX2_put_46 (by decide) rfl hf (fun hf => ?_) (fun hf => ?_)
      · refine j_iconst (pc' := 65) (v := 0) hX dX2_put_64 (by decide) rfl ?_
        exact j_iret hX hR dX2_put_65 ⟨_, _, rfl, hf, rfl⟩
      · refine j_iload (pc' := 51) hX dX2_put_49 0 rfl rfl ?_
        refine j_if_lt (tgt := 64) (pc' := 54) hX dX2_put_51 (by decide) rfl hf (fun hf => ?_) (fun hf => ?_)
        · refine j_iconst (pc' := 65) (v := 0) hX dX2_put_64 (by decide) rfl ?_
          exact j_iret hX hR dX2_put_65 ⟨_, _, rfl, hf, rfl⟩
        · refine j_iload (pc' := 56) hX dX2_put_54 0 rfl rfl ?_
          refine j_aload_n (pc' := 57) hX dX2_put_56 rfl 2 rfl rfl ?_
          refine j_get (ci := 2) (pc' := 60) hX hin2 rfl 0 rfl 2 (by decide) hl_18 rfl dX2_put_57 rfl ?_
          refine j_alen (v := 360) (pc' := 61) hX 3 0 rfl rfl (show Int32.ofNat 360 = 360 from by decide) dX2_put_60 rfl ?_
          refine j_icmp_lt (tgt := 66) (pc' := 64) hX dX2_put_61 (by decide) rfl hf (fun hf => ?_) (fun hf => ?_)
          · refine j_aload_n (pc' := 67) hX dX2_put_66 rfl 2 rfl rfl ?_
            refine j_get (ci := 2) (pc' := 70) hX hin2 rfl 0 rfl 2 (by decide) hl_18 rfl dX2_put_67 rfl ?_
            refine j_iload (pc' := 72) hX dX2_put_70 0 rfl rfl ?_
            refine j_iload_n (pc' := 73) hX dX2_put_72 rfl 5 rfl rfl ?_
            refine j_if_eq (tgt := 81) (pc' := 76) hX dX2_put_73 (by decide) rfl hf (fun hf => ?_) (fun hf => ?_)
            · refine j_iload_n (pc' := 82) hX dX2_put_81 rfl 4 rfl rfl ?_
              obtain ⟨vm_1, evm_1⟩ : ∃ z : Mo, z = mo_b vm (upd vm.2.2.1 ((p0 * 60) + (vm.2.1 p0.toNatClampNeg)).toNatClampNeg p1) := ⟨_, rfl⟩
              refine j_iast (pc' := 83) (ws' := (MoW g m0 m1 m2 m3 m4 vm_1)) hX hW 3 rfl dX2_put_82 hf (by subst evm_1; rfl) rfl (fun hf => ?_)
              replace hf := hf vm_1 evm_1
              refine j_aload_n (pc' := 84) hX dX2_put_83 rfl 2 rfl rfl ?_
              refine j_get (ci := 2) (pc' := 87) hX hin2 rfl 0 rfl 1 (by decide) hl_15 rfl dX2_put_84 rfl ?_
              refine j_iload_n (pc' := 88) hX dX2_put_87 rfl 3 rfl rfl ?_
              refine j_dup2 (pc' := 89) hX dX2_put_88 rfl rfl rfl ?_
              refine j_iald (pc' := 90) hX 2 rfl dX2_put_89 hf rfl (fun hf => ?_)
              refine j_iload_n (pc' := 91) hX dX2_put_90 rfl 4 rfl rfl ?_
              refine j_iadd (pc' := 92) hX dX2_put_91 rfl ?_
              obtain ⟨vm_2, evm_2⟩ : ∃ z : Mo, z = mo_t vm_1 (upd vm_1.2.1 p0.toNatClampNeg ((vm_1.2.1 p0.toNatClampNeg) + p1)) := ⟨_, rfl⟩
              refine j_iast (pc' := 93) (ws' := (MoW g m0 m1 m2 m3 m4 vm_2)) hX hW 2 rfl dX2_put_92 hf (by subst evm_2; rfl) rfl (fun hf => ?_)
              replace hf := hf vm_2 evm_2
              refine j_aload_n (pc' := 94) hX dX2_put_93 rfl 2 rfl rfl ?_
              refine j_get (ci := 2) (pc' := 97) hX hin2 rfl 0 rfl 3 (by decide) hl_21 rfl dX2_put_94 rfl ?_
              refine j_iload (pc' := 99) hX dX2_put_97 1 rfl rfl ?_
              refine j_dup2 (pc' := 100) hX dX2_put_99 rfl rfl rfl ?_
              refine j_iald (pc' := 101) hX 4 rfl dX2_put_100 hf rfl (fun hf => ?_)
              refine j_iconst (pc' := 102) (v := 1) hX dX2_put_101 (by decide) rfl ?_
              refine j_isub (pc' := 103) hX dX2_put_102 rfl ?_
              obtain ⟨vm_3, evm_3⟩ : ∃ z : Mo, z = mo_s vm_2 (upd vm_2.2.2.2.1 r3.toNatClampNeg ((vm_2.2.2.2.1 r3.toNatClampNeg) - 1)) := ⟨_, rfl⟩
              refine j_iast (pc' := 104) (ws' := (MoW g m0 m1 m2 m3 m4 vm_3)) hX hW 4 rfl dX2_put_103 hf (by subst evm_3; rfl) rfl (fun hf => ?_)
              replace hf := hf vm_3 evm_3
              refine j_aload_n (pc' := 105) hX dX2_put_104 rfl 2 rfl rfl ?_
              refine j_dup (pc' := 106) hX dX2_put_105 rfl rfl ?_
              refine j_get (ci := 2) (pc' := 109) hX hin2 rfl 0 rfl 6 (by decide) hl_35 rfl dX2_put_106 rfl ?_
              refine j_iload (pc' := 111) hX dX2_put_109 1 rfl rfl ?_
              refine j_iload_n (pc' := 112) hX dX2_put_111 rfl 4 rfl rfl ?_
              refine j_isub (pc' := 113) hX dX2_put_112 rfl ?_
              refine j_iadd (pc' := 114) hX dX2_put_113 rfl ?_
              obtain ⟨vm_4, evm_4⟩ : ∃ z : Mo, z = mo_w vm_3 ((vm_3.2.2.2.2.2.2 + (r3 - p1))) := ⟨_, rfl⟩
              refine j_put (ci := 2) (pc' := 117) (ws' := (MoW g m0 m1 m2 m3 m4 vm_4)) hX hW hin2 tyX2_ok nmX2 rfl 0 rfl 6 (by decide) hl_35 rfl rfl rfl (Nat.le_of_ble_eq_true rfl) dX2_put_114 (by subst evm_4; rfl) rfl ?_
              replace hf := hf vm_4 evm_4
              refine j_iload (pc' := 119) hX dX2_put_117 1 rfl rfl ?_
              refine j_iload_n (pc' := 120) hX dX2_put_119 rfl 4 rfl rfl ?_
              refine j_isub (pc' := 121) hX dX2_put_120 rfl ?_
              exact j_iret hX hR dX2_put_121 ⟨_, _, rfl, hf, rfl⟩
            · refine j_iload_n (pc' := 77) hX dX2_put_76 rfl 4 rfl rfl ?_
              refine j_ineg (pc' := 78) hX dX2_put_77 rfl ?_
              refine j_goto (tgt := 82) hX dX2_put_78 (by decide) ?_
              obtain ⟨vm_5, evm_5⟩ : ∃ z : Mo, z = mo_b vm (upd vm.2.2.1 ((p0 * 60) + (vm.2.1 p0.toNatClampNeg)).toNatClampNeg (-p1)) := ⟨_, rfl⟩
              refine j_iast (pc' := 83) (ws' := (MoW g m0 m1 m2 m3 m4 vm_5)) hX hW 3 rfl dX2_put_82 hf (by subst evm_5; rfl) rfl (fun hf => ?_)
              replace hf := hf vm_5 evm_5
              refine j_aload_n (pc' := 84) hX dX2_put_83 rfl 2 rfl rfl ?_
              refine j_get (ci := 2) (pc' := 87) hX hin2 rfl 0 rfl 1 (by decide) hl_15 rfl dX2_put_84 rfl ?_
              refine j_iload_n (pc' := 88) hX dX2_put_87 rfl 3 rfl rfl ?_
              refine j_dup2 (pc' := 89) hX dX2_put_88 rfl rfl rfl ?_
              refine j_iald (pc' := 90) hX 2 rfl dX2_put_89 hf rfl (fun hf => ?_)
              refine j_iload_n (pc' := 91) hX dX2_put_90 rfl 4 rfl rfl ?_
              refine j_iadd (pc' := 92) hX dX2_put_91 rfl ?_
              obtain ⟨vm_6, evm_6⟩ : ∃ z : Mo, z = mo_t vm_5 (upd vm_5.2.1 p0.toNatClampNeg ((vm_5.2.1 p0.toNatClampNeg) + p1)) := ⟨_, rfl⟩
              refine j_iast (pc' := 93) (ws' := (MoW g m0 m1 m2 m3 m4 vm_6)) hX hW 2 rfl dX2_put_92 hf (by subst evm_6; rfl) rfl (fun hf => ?_)
              replace hf := hf vm_6 evm_6
              refine j_aload_n (pc' := 94) hX dX2_put_93 rfl 2 rfl rfl ?_
              refine j_get (ci := 2) (pc' := 97) hX hin2 rfl 0 rfl 3 (by decide) hl_21 rfl dX2_put_94 rfl ?_
              refine j_iload (pc' := 99) hX dX2_put_97 1 rfl rfl ?_
              refine j_dup2 (pc' := 100) hX dX2_put_99 rfl rfl rfl ?_
              refine j_iald (pc' := 101) hX 4 rfl dX2_put_100 hf rfl (fun hf => ?_)
              refine j_iconst (pc' := 102) (v := 1) hX dX2_put_101 (by decide) rfl ?_
              refine j_isub (pc' := 103) hX dX2_put_102 rfl ?_
              obtain ⟨vm_7, evm_7⟩ : ∃ z : Mo, z = mo_s vm_6 (upd vm_6.2.2.2.1 r3.toNatClampNeg ((vm_6.2.2.2.1 r3.toNatClampNeg) - 1)) := ⟨_, rfl⟩
              refine j_iast (pc' := 104) (ws' := (MoW g m0 m1 m2 m3 m4 vm_7)) hX hW 4 rfl dX2_put_103 hf (by subst evm_7; rfl) rfl (fun hf => ?_)
              replace hf := hf vm_7 evm_7
              refine j_aload_n (pc' := 105) hX dX2_put_104 rfl 2 rfl rfl ?_
              refine j_dup (pc' := 106) hX dX2_put_105 rfl rfl ?_
              refine j_get (ci := 2) (pc' := 109) hX hin2 rfl 0 rfl 6 (by decide) hl_35 rfl dX2_put_106 rfl ?_
              refine j_iload (pc' := 111) hX dX2_put_109 1 rfl rfl ?_
              refine j_iload_n (pc' := 112) hX dX2_put_111 rfl 4 rfl rfl ?_
              refine j_isub (pc' := 113) hX dX2_put_112 rfl ?_
              refine j_iadd (pc' := 114) hX dX2_put_113 rfl ?_
              obtain ⟨vm_8, evm_8⟩ : ∃ z : Mo, z = mo_w vm_7 ((vm_7.2.2.2.2.2.2 + (r3 - p1))) := ⟨_, rfl⟩
              refine j_put (ci := 2) (pc' := 117) (ws' := (MoW g m0 m1 m2 m3 m4 vm_8)) hX hW hin2 tyX2_ok nmX2 rfl 0 rfl 6 (by decide) hl_35 rfl rfl rfl (Nat.le_of_ble_eq_true rfl) dX2_put_114 (by subst evm_8; rfl) rfl ?_
              replace hf := hf vm_8 evm_8
              refine j_iload (pc' := 119) hX dX2_put_117 1 rfl rfl ?_
              refine j_iload_n (pc' := 120) hX dX2_put_119 rfl 4 rfl rfl ?_
              refine j_isub (pc' := 121) hX dX2_put_120 rfl ?_
              exact j_iret hX hR dX2_put_121 ⟨_, _, rfl, hf, rfl⟩
          · refine j_iconst (pc' := 65) (v := 0) hX dX2_put_64 (by decide) rfl ?_
            exact j_iret hX hR dX2_put_65 ⟨_, _, rfl, hf, rfl⟩
    · refine j_iconst (pc' := 24) (v := 0) hX dX2_put_23 (by decide) rfl ?_
      exact j_iret hX hR dX2_put_24 ⟨_, _, rfl, hf, rfl⟩
def wp_X2_bringBack (vm : Mo) (p0 : Int32) (post : Mo → Prop) : Prop :=
  (wp_X2_isSize p0 (fun r1 => ((r1 = 0 → post vm) ∧ (¬ r1 = 0 → (vp_in p0 7 ∧ ((99 ≤ (vm.2.2.2.1 p0.toNatClampNeg) → (∀ vm_1 : Mo, vm_1 = mo_w vm ((vm.2.2.2.2.2.2 + p0)) → post vm_1)) ∧ (¬ 99 ≤ (vm.2.2.2.1 p0.toNatClampNeg) → (vp_in p0 7 ∧ (vp_in p0 7 ∧ (∀ vm_2 : Mo, vm_2 = mo_s vm (upd vm.2.2.2.1 p0.toNatClampNeg ((vm.2.2.2.1 p0.toNatClampNeg) + 1)) → post vm_2))))))))))
theorem yoX2_bringBack : yOk yX2_bringBack 1 := by decide +kernel
set_option maxHeartbeats 4000000 in
set_option maxRecDepth 100000 in
theorem met_X2_bringBack (l : Launch) (g : JG) (m0 : Nat) (m1 : Nat) (m2 : Nat) (m3 : Nat) (m4 : Nat) (vm : Mo) (p0 : Int32) (post : Mo → Prop) (hf : wp_X2_bringBack vm p0 post) : MetM l yX2_bringBack wsX2_bringBack ({ frames := 1, cells := 0, slots := 0, locals := 20 } : Room) [.ref m0, .int p0] g (MoW g m0 m1 m2 m3 m4 vm) mkV (fun (_ : Unit) (u : Mo) => post u) (fun u : Mo => (MoW g m0 m1 m2 m3 m4 u)) := by
  have hin2 : ∀ w ∈ u_ws RX2 TX2 7, w ∈ wsX2_bringBack := by decide +kernel
  have hl_21 : Cond.fieldLink RX2 21 (TX2 3).1 (TX2 3).2.1 (TX2 3).2.2.1 ∈ wsX2_bringBack := by decide +kernel
  have hl_35 : Cond.fieldLink RX2 35 (TX2 6).1 (TX2 6).2.1 (TX2 6).2.2.1 ∈ wsX2_bringBack := by decide +kernel
  refine enterM (own := RX2) (cc := cX2_bringBack) (nL := 2) (ret := none) (lv := [(0, .ref m0), (1, .int p0)]) (by decide) rfl rfl (Nat.le_of_ble_eq_true rfl) rfl (fun X hX hW hR => ?_)
  unfold wp_X2_bringBack at hf
  refine j_iload_n (pc' := 1) hX dX2_bringBack_0 rfl 1 rfl rfl ?_
  refine j_callSR (pc' := 4) (As := [.int p0]) (rest := []) (stk := fun r1 => [.int r1]) hX (fun l => met_X2_isSize l g p0 _ hf) rfl gX2_bringBack_X2_isSize yoX2_isSize rfl ⟨Nat.le_of_ble_eq_true rfl, Nat.le_of_ble_eq_true rfl⟩ ⟨⟨Nat.le_of_ble_eq_true rfl, Nat.le_of_ble_eq_true rfl⟩, rfl, rfl⟩ [] rfl (by decide) (Nat.le_of_ble_eq_true rfl) rfl (fun _ => rfl) dX2_bringBack_1 rfl (fun r1 hf => ?_)
  refine j_if_ne (tgt := 8) (pc' := 7) hX dX2_bringBack_4 (by decide) rfl hf (fun hf => ?_) (fun hf => ?_)
  · refine j_aload_n (pc' := 9) hX dX2_bringBack_8 rfl 0 rfl rfl ?_
    refine j_get (ci := 2) (pc' := 12) hX hin2 rfl 0 rfl 3 (by decide) hl_21 rfl dX2_bringBack_9 rfl ?_
    refine j_iload_n (pc' := 13) hX dX2_bringBack_12 rfl 1 rfl rfl ?_
    refine j_iald (pc' := 14) hX 4 rfl dX2_bringBack_13 hf rfl (fun hf => ?_)
    refine j_bipush (pc' := 16) (v := 99) hX dX2_bringBack_14 (by decide) rfl ?_
    refine j_icmp_ge (tgt := 32) (pc' := 19) hX dX2_bringBack_16 (by decide) rfl hf (fun hf => ?_) (fun hf => ?_)
    · refine j_aload_n (pc' := 33) hX dX2_bringBack_32 rfl 0 rfl rfl ?_
      refine j_dup (pc' := 34) hX dX2_bringBack_33 rfl rfl ?_
      refine j_get (ci := 2) (pc' := 37) hX hin2 rfl 0 rfl 6 (by decide) hl_35 rfl dX2_bringBack_34 rfl ?_
      refine j_iload_n (pc' := 38) hX dX2_bringBack_37 rfl 1 rfl rfl ?_
      refine j_iadd (pc' := 39) hX dX2_bringBack_38 rfl ?_
      obtain ⟨vm_1, evm_1⟩ : ∃ z : Mo, z = mo_w vm ((vm.2.2.2.2.2.2 + p0)) := ⟨_, rfl⟩
      refine j_put (ci := 2) (pc' := 42) (ws' := (MoW g m0 m1 m2 m3 m4 vm_1)) hX hW hin2 tyX2_ok nmX2 rfl 0 rfl 6 (by decide) hl_35 rfl rfl rfl (Nat.le_of_ble_eq_true rfl) dX2_bringBack_39 (by subst evm_1; rfl) rfl ?_
      replace hf := hf vm_1 evm_1
      exact j_vret hX hR dX2_bringBack_42 ⟨(), _, rfl, hf, rfl⟩
    · refine j_aload_n (pc' := 20) hX dX2_bringBack_19 rfl 0 rfl rfl ?_
      refine j_get (ci := 2) (pc' := 23) hX hin2 rfl 0 rfl 3 (by decide) hl_21 rfl dX2_bringBack_20 rfl ?_
      refine j_iload_n (pc' := 24) hX dX2_bringBack_23 rfl 1 rfl rfl ?_
      refine j_dup2 (pc' := 25) hX dX2_bringBack_24 rfl rfl rfl ?_
      refine j_iald (pc' := 26) hX 4 rfl dX2_bringBack_25 hf rfl (fun hf => ?_)
      refine j_iconst (pc' := 27) (v := 1) hX dX2_bringBack_26 (by decide) rfl ?_
      refine j_iadd (pc' := 28) hX dX2_bringBack_27 rfl ?_
      obtain ⟨vm_2, evm_2⟩ : ∃ z : Mo, z = mo_s vm (upd vm.2.2.2.1 p0.toNatClampNeg ((vm.2.2.2.1 p0.toNatClampNeg) + 1)) := ⟨_, rfl⟩
      refine j_iast (pc' := 29) (ws' := (MoW g m0 m1 m2 m3 m4 vm_2)) hX hW 4 rfl dX2_bringBack_28 hf (by subst evm_2; rfl) rfl (fun hf => ?_)
      replace hf := hf vm_2 evm_2
      refine j_goto (tgt := 42) hX dX2_bringBack_29 (by decide) ?_
      exact j_vret hX hR dX2_bringBack_42 ⟨(), _, rfl, hf, rfl⟩
  · exact j_vret hX hR dX2_bringBack_7 ⟨(), _, rfl, hf, rfl⟩
def wp_X2_takeUpLast_L26 (p0 : Int32) (p1 : Int32) (K26_94 : Int32 → Mo → Prop) : Nat → Int32 → Int32 → Mo → Prop
  | 0, _, _, _ => False
  | N26 + 1, x3_26, x4_26, vm_26 =>
  ((x4_26 < 0 → K26_94 x3_26 vm_26) ∧ (¬ x4_26 < 0 → ((p1 ≤ x3_26 → K26_94 x3_26 vm_26) ∧ (¬ p1 ≤ x3_26 → (vp_in ((p0 * 60) + x4_26) 360 ∧ (((vm_26.2.2.1 ((p0 * 60) + x4_26).toNatClampNeg) = 0 → (wp_X2_takeUpLast_L26 p0 p1 K26_94 N26) x3_26 (x4_26 + (-1)) vm_26) ∧ (¬ (vm_26.2.2.1 ((p0 * 60) + x4_26).toNatClampNeg) = 0 → (vp_in ((p0 * 60) + x4_26) 360 ∧ (∀ vm_1 : Mo, vm_1 = mo_b vm_26 (upd vm_26.2.2.1 ((p0 * 60) + x4_26).toNatClampNeg 0) → (vp_in p0 6 ∧ (wp_X2_bringBack vm_1 ((vm_1.2.1 p0.toNatClampNeg) - x4_26) (fun u74_2 => (vp_in p0 6 ∧ (∀ vm_3 : Mo, vm_3 = mo_t u74_2 (upd u74_2.2.1 p0.toNatClampNeg x4_26) → (wp_X2_takeUpLast_L26 p0 p1 K26_94 N26) (x3_26 + 1) (x4_26 + (-1)) vm_3))))))))))))))
def wp_X2_takeUpLast (vm : Mo) (p0 : Int32) (p1 : Int32) (post : Int32 → Mo → Prop) : Prop :=
  (wp_X2_isCourse p0 (fun r1 => ((r1 = 0 → post 0 vm) ∧ (¬ r1 = 0 → (vp_in p0 6 ∧ (∃ N : Nat, wp_X2_takeUpLast_L26 p0 p1 (fun (e4 : Int32) (e5 : Mo) => post e4 e5) N 0 ((if 60 < (vm.2.1 p0.toNatClampNeg) then (60 : Int32) else (vm.2.1 p0.toNatClampNeg)) - 1) vm))))))
theorem yoX2_takeUpLast : yOk yX2_takeUpLast 2 := by decide +kernel
set_option maxHeartbeats 4000000 in
set_option maxRecDepth 100000 in
theorem met_X2_takeUpLast (l : Launch) (g : JG) (m0 : Nat) (m1 : Nat) (m2 : Nat) (m3 : Nat) (m4 : Nat) (vm : Mo) (p0 : Int32) (p1 : Int32) (post : Int32 → Mo → Prop) (hf : wp_X2_takeUpLast vm p0 p1 post) : MetM l yX2_takeUpLast wsX2_takeUpLast ({ frames := 2, cells := 0, slots := 0, locals := 41 } : Room) [.ref m0, .int p0, .int p1] g (MoW g m0 m1 m2 m3 m4 vm) mkI post (fun u : Mo => (MoW g m0 m1 m2 m3 m4 u)) := by
  have hin2 : ∀ w ∈ u_ws RX2 TX2 7, w ∈ wsX2_takeUpLast := by decide +kernel
  have hl_15 : Cond.fieldLink RX2 15 (TX2 1).1 (TX2 1).2.1 (TX2 1).2.2.1 ∈ wsX2_takeUpLast := by decide +kernel
  have hl_38 : Cond.methodLink RX2 38 Lib.Math.min.name ∈ wsX2_takeUpLast := by decide +kernel
  have hs_min : Cond.static Lib.Math.min.name ∈ wsX2_takeUpLast := by decide +kernel
  have hi_math : Cond.initialized "java/lang/Math" ∈ wsX2_takeUpLast := by decide +kernel
  have hc_min : Cond.code Lib.Math.min.name Lib.Math.min.code 2 (some .int) ∈ wsX2_takeUpLast := by decide +kernel
  have hl_18 : Cond.fieldLink RX2 18 (TX2 2).1 (TX2 2).2.1 (TX2 2).2.2.1 ∈ wsX2_takeUpLast := by decide +kernel
  refine enterM (own := RX2) (cc := cX2_takeUpLast) (nL := 5) (ret := (some .int)) (lv := [(0, .ref m0), (1, .int p0), (2, .int p1)]) (by decide) rfl rfl (Nat.le_of_ble_eq_true rfl) rfl (fun X hX hW hR => ?_)
  unfold wp_X2_takeUpLast at hf
  refine j_iload_n (pc' := 1) hX dX2_takeUpLast_0 rfl 1 rfl rfl ?_
  refine j_callSR (pc' := 4) (As := [.int p0]) (rest := []) (stk := fun r1 => [.int r1]) hX (fun l => met_X2_isCourse l g p0 _ hf) rfl gX2_takeUpLast_X2_isCourse yoX2_isCourse rfl ⟨Nat.le_of_ble_eq_true rfl, Nat.le_of_ble_eq_true rfl⟩ ⟨⟨Nat.le_of_ble_eq_true rfl, Nat.le_of_ble_eq_true rfl⟩, rfl, rfl⟩ [] rfl (by decide) (Nat.le_of_ble_eq_true rfl) rfl (fun _ => rfl) dX2_takeUpLast_1 rfl (fun r1 hf => ?_)
  refine j_if_ne (tgt := 9) (pc' := 7) hX dX2_takeUpLast_4 (by decide) rfl hf (fun hf => ?_) (fun hf => ?_)
  · refine j_iconst (pc' := 10) (v := 0) hX dX2_takeUpLast_9 (by decide) rfl ?_
    refine j_istore_n (pc' := 11) (lv' := [(3, .int 0), (0, .ref m0), (1, .int p0), (2, .int p1)]) hX dX2_takeUpLast_10 rfl (by decide) rfl rfl ?_
    refine j_aload_n (pc' := 12) hX dX2_takeUpLast_11 rfl 1 rfl rfl ?_
    refine j_get (ci := 2) (pc' := 15) hX hin2 rfl 0 rfl 1 (by decide) hl_15 rfl dX2_takeUpLast_12 rfl ?_
    refine j_iload_n (pc' := 16) hX dX2_takeUpLast_15 rfl 2 rfl rfl ?_
    refine j_iald (pc' := 17) hX 2 rfl dX2_takeUpLast_16 hf rfl (fun hf => ?_)
    refine j_bipush (pc' := 19) (v := 60) hX dX2_takeUpLast_17 (by decide) rfl ?_
    refine j_mmin (pc' := 22) hX hl_38 hs_min hi_math hc_min ⟨Nat.le_of_ble_eq_true rfl, Nat.le_of_ble_eq_true rfl, Nat.le_of_ble_eq_true rfl, Nat.le_of_ble_eq_true rfl⟩ dX2_takeUpLast_19 rfl ?_
    refine j_iconst (pc' := 23) (v := 1) hX dX2_takeUpLast_22 (by decide) rfl ?_
    refine j_isub (pc' := 24) hX dX2_takeUpLast_23 rfl ?_
    refine j_istore (pc' := 26) (lv' := [(4, .int ((if 60 < (vm.2.1 p0.toNatClampNeg) then (60 : Int32) else (vm.2.1 p0.toNatClampNeg)) - 1)), (3, .int 0), (0, .ref m0), (1, .int p0), (2, .int p1)]) hX dX2_takeUpLast_24 (by decide) rfl rfl ?_
    obtain ⟨N26, hf⟩ := hf
    have L26 : ∀ (K26_94 : Int32 → Mo → Prop), (∀ (x3_26 : Int32) (vm_26 : Mo), K26_94 x3_26 vm_26 → J g X 0 0 (MoW g m0 m1 m2 m3 m4 vm_26) [(3, .int x3_26)] [] 94) → ∀ (N26 : Nat) (x3_26 : Int32) (x4_26 : Int32) (vm_26 : Mo), wp_X2_takeUpLast_L26 p0 p1 K26_94 N26 x3_26 x4_26 vm_26 → J g X 0 0 (MoW g m0 m1 m2 m3 m4 vm_26) [(0, .ref m0), (1, .int p0), (2, .int p1), (3, .int x3_26), (4, .int x4_26)] [] 26 := by
      intro K26_94 hK26_94 N26
      induction N26 with
      | zero => intro x3_26 x4_26 vm_26 hf; exact False.elim hf
      | succ N26 ih26 =>
        intro x3_26 x4_26 vm_26 hf
        refine j_iload (pc' := 28) hX dX2_takeUpLast_26 4 rfl rfl ?_
        refine j_if_lt (tgt := 94) (pc' := 31) hX dX2_takeUpLast_28 (by decide) rfl hf (fun hf => ?_) (fun hf => ?_)
        · refine J_sub (lv' := [(3, .int x3_26)]) [3] rfl ?_
          exact hK26_94 x3_26 vm_26 hf
        · refine j_iload_n (pc' := 32) hX dX2_takeUpLast_31 rfl 3 rfl rfl ?_
          refine j_iload_n (pc' := 33) hX dX2_takeUpLast_32 rfl 2 rfl rfl ?_
          refine j_icmp_ge (tgt := 94) (pc' := 36) hX dX2_takeUpLast_33 (by decide) rfl hf (fun hf => ?_) (fun hf => ?_)
          · refine J_sub (lv' := [(3, .int x3_26)]) [3] rfl ?_
            exact hK26_94 x3_26 vm_26 hf
          · refine j_aload_n (pc' := 37) hX dX2_takeUpLast_36 rfl 0 rfl rfl ?_
            refine j_get (ci := 2) (pc' := 40) hX hin2 rfl 0 rfl 2 (by decide) hl_18 rfl dX2_takeUpLast_37 rfl ?_
            refine j_iload_n (pc' := 41) hX dX2_takeUpLast_40 rfl 1 rfl rfl ?_
            refine j_bipush (pc' := 43) (v := 60) hX dX2_takeUpLast_41 (by decide) rfl ?_
            refine j_imul (pc' := 44) hX dX2_takeUpLast_43 rfl ?_
            refine j_iload (pc' := 46) hX dX2_takeUpLast_44 4 rfl rfl ?_
            refine j_iadd (pc' := 47) hX dX2_takeUpLast_46 rfl ?_
            refine j_iald (pc' := 48) hX 3 rfl dX2_takeUpLast_47 hf rfl (fun hf => ?_)
            refine j_if_eq (tgt := 88) (pc' := 51) hX dX2_takeUpLast_48 (by decide) rfl hf (fun hf => ?_) (fun hf => ?_)
            · refine j_iinc (pc' := 91) (cst := (-1)) (v := (x4_26 + (-1))) (lv' := [(4, .int (x4_26 + (-1))), (0, .ref m0), (1, .int p0), (2, .int p1), (3, .int x3_26)]) hX dX2_takeUpLast_88 (by decide) rfl 4 rfl (by decide) rfl rfl ?_
              refine j_goto (tgt := 26) hX dX2_takeUpLast_91 (by decide) ?_
              refine J_sub (lv' := [(0, .ref m0), (1, .int p0), (2, .int p1), (3, .int x3_26), (4, .int (x4_26 + (-1)))]) [1, 2, 3, 4, 0] rfl ?_
              exact ih26 x3_26 (x4_26 + (-1)) vm_26 hf
            · refine j_aload_n (pc' := 52) hX dX2_takeUpLast_51 rfl 0 rfl rfl ?_
              refine j_get (ci := 2) (pc' := 55) hX hin2 rfl 0 rfl 2 (by decide) hl_18 rfl dX2_takeUpLast_52 rfl ?_
              refine j_iload_n (pc' := 56) hX dX2_takeUpLast_55 rfl 1 rfl rfl ?_
              refine j_bipush (pc' := 58) (v := 60) hX dX2_takeUpLast_56 (by decide) rfl ?_
              refine j_imul (pc' := 59) hX dX2_takeUpLast_58 rfl ?_
              refine j_iload (pc' := 61) hX dX2_takeUpLast_59 4 rfl rfl ?_
              refine j_iadd (pc' := 62) hX dX2_takeUpLast_61 rfl ?_
              refine j_iconst (pc' := 63) (v := 0) hX dX2_takeUpLast_62 (by decide) rfl ?_
              obtain ⟨vm_1, evm_1⟩ : ∃ z : Mo, z = mo_b vm_26 (upd vm_26.2.2.1 ((p0 * 60) + x4_26).toNatClampNeg 0) := ⟨_, rfl⟩
              refine j_iast (pc' := 64) (ws' := (MoW g m0 m1 m2 m3 m4 vm_1)) hX hW 3 rfl dX2_takeUpLast_63 hf (by subst evm_1; rfl) rfl (fun hf => ?_)
              replace hf := hf vm_1 evm_1
              refine j_aload_n (pc' := 65) hX dX2_takeUpLast_64 rfl 0 rfl rfl ?_
              refine j_aload_n (pc' := 66) hX dX2_takeUpLast_65 rfl 0 rfl rfl ?_
              refine j_get (ci := 2) (pc' := 69) hX hin2 rfl 0 rfl 1 (by decide) hl_15 rfl dX2_takeUpLast_66 rfl ?_
              refine j_iload_n (pc' := 70) hX dX2_takeUpLast_69 rfl 1 rfl rfl ?_
              refine j_iald (pc' := 71) hX 2 rfl dX2_takeUpLast_70 hf rfl (fun hf => ?_)
              refine j_iload (pc' := 73) hX dX2_takeUpLast_71 4 rfl rfl ?_
              refine j_isub (pc' := 74) hX dX2_takeUpLast_73 rfl ?_
              refine j_callVM (ci := 2) (pc' := 77) (k' := 0) (n' := 0) (As := [.int ((vm_1.2.1 p0.toNatClampNeg) - x4_26)]) (rest := []) (stk := fun _ => []) (ws' := fun u74_2 => (MoW g m0 m1 m2 m3 m4 u74_2)) (wr := ([] : va_W)) hX hW (fun l => met_X2_bringBack l g m0 m1 m2 m3 m4 vm_1 ((vm_1.2.1 p0.toNatClampNeg) - x4_26) _ hf) rfl gX2_takeUpLast_X2_bringBack yoX2_bringBack rfl ⟨Nat.le_of_ble_eq_true rfl, Nat.le_of_ble_eq_true rfl⟩ ⟨Nat.le_of_ble_eq_true rfl, Nat.le_of_ble_eq_true rfl, Nat.le_of_ble_eq_true rfl, Nat.le_of_ble_eq_true rfl⟩ 0 rfl rfl [0, 1, 2, 3, 4] [] [0, 1, 2, 3, 4] rfl (by decide) rfl (by decide) (by decide) (fun _ => rfl) (by decide) (Nat.le_of_ble_eq_true rfl) rfl (fun _ => rfl) dX2_takeUpLast_74 rfl (fun _ u74_2 hf => ?_)
              refine j_aload_n (pc' := 78) hX dX2_takeUpLast_77 rfl 0 rfl rfl ?_
              refine j_get (ci := 2) (pc' := 81) hX hin2 rfl 0 rfl 1 (by decide) hl_15 rfl dX2_takeUpLast_78 rfl ?_
              refine j_iload_n (pc' := 82) hX dX2_takeUpLast_81 rfl 1 rfl rfl ?_
              refine j_iload (pc' := 84) hX dX2_takeUpLast_82 4 rfl rfl ?_
              obtain ⟨vm_3, evm_3⟩ : ∃ z : Mo, z = mo_t u74_2 (upd u74_2.2.1 p0.toNatClampNeg x4_26) := ⟨_, rfl⟩
              refine j_iast (pc' := 85) (ws' := (MoW g m0 m1 m2 m3 m4 vm_3)) hX hW 2 rfl dX2_takeUpLast_84 hf (by subst evm_3; rfl) rfl (fun hf => ?_)
              replace hf := hf vm_3 evm_3
              refine j_iinc (pc' := 88) (cst := 1) (v := (x3_26 + 1)) (lv' := [(3, .int (x3_26 + 1)), (0, .ref m0), (1, .int p0), (2, .int p1), (4, .int x4_26)]) hX dX2_takeUpLast_85 (by decide) rfl 3 rfl (by decide) rfl rfl ?_
              refine j_iinc (pc' := 91) (cst := (-1)) (v := (x4_26 + (-1))) (lv' := [(4, .int (x4_26 + (-1))), (3, .int (x3_26 + 1)), (0, .ref m0), (1, .int p0), (2, .int p1)]) hX dX2_takeUpLast_88 (by decide) rfl 4 rfl (by decide) rfl rfl ?_
              refine j_goto (tgt := 26) hX dX2_takeUpLast_91 (by decide) ?_
              refine J_sub (lv' := [(0, .ref m0), (1, .int p0), (2, .int p1), (3, .int (x3_26 + 1)), (4, .int (x4_26 + (-1)))]) [2, 3, 4, 1, 0] rfl ?_
              exact ih26 (x3_26 + 1) (x4_26 + (-1)) vm_3 hf
    refine J_sub (lv' := [(0, .ref m0), (1, .int p0), (2, .int p1), (3, .int 0), (4, .int ((if 60 < (vm.2.1 p0.toNatClampNeg) then (60 : Int32) else (vm.2.1 p0.toNatClampNeg)) - 1))]) [2, 3, 4, 1, 0] rfl ?_
    refine L26 _ (fun e4 e5 hf => ?_) N26 0 ((if 60 < (vm.2.1 p0.toNatClampNeg) then (60 : Int32) else (vm.2.1 p0.toNatClampNeg)) - 1) vm hf
    refine j_iload_n (pc' := 95) hX dX2_takeUpLast_94 rfl 0 rfl rfl ?_
    exact j_iret hX hR dX2_takeUpLast_95 ⟨_, _, rfl, hf, rfl⟩
  · refine j_iconst (pc' := 8) (v := 0) hX dX2_takeUpLast_7 (by decide) rfl ?_
    exact j_iret hX hR dX2_takeUpLast_8 ⟨_, _, rfl, hf, rfl⟩
def wp_X2_beginAt (vm : Mo) (p0 : Int32) (p1 : Int32) (post : Int32 → Prop) : Prop :=
  (wp_X2_isCourse p0 (fun r1 => ((r1 = 0 → post 0) ∧ (¬ r1 = 0 → ((p1 < 0 → post 0) ∧ (¬ p1 < 0 → ((60 ≤ p1 → post 0) ∧ (¬ 60 ≤ p1 → (vp_in ((p0 * 60) + p1) 360 ∧ post (vm.2.2.1 ((p0 * 60) + p1).toNatClampNeg))))))))))
theorem yoX2_beginAt : yOk yX2_beginAt 2 := by decide +kernel
set_option maxHeartbeats 4000000 in
set_option maxRecDepth 100000 in
theorem met_X2_beginAt (l : Launch) (g : JG) (m0 : Nat) (m1 : Nat) (m2 : Nat) (m3 : Nat) (m4 : Nat) (vm : Mo) (p0 : Int32) (p1 : Int32) (post : Int32 → Prop) (hf : wp_X2_beginAt vm p0 p1 post) : MetR l yX2_beginAt wsX2_beginAt ({ frames := 1, cells := 0, slots := 0, locals := 20 } : Room) [.ref m0, .int p0, .int p1] g (MoW g m0 m1 m2 m3 m4 vm) mkI post := by
  have hin2 : ∀ w ∈ u_ws RX2 TX2 7, w ∈ wsX2_beginAt := by decide +kernel
  have hl_18 : Cond.fieldLink RX2 18 (TX2 2).1 (TX2 2).2.1 (TX2 2).2.2.1 ∈ wsX2_beginAt := by decide +kernel
  refine enterR (own := RX2) (cc := cX2_beginAt) (nL := 3) (ret := (some .int)) (lv := [(0, .ref m0), (1, .int p0), (2, .int p1)]) (by decide) rfl rfl (Nat.le_of_ble_eq_true rfl) rfl (fun X hX hR => ?_)
  unfold wp_X2_beginAt at hf
  refine j_iload_n (pc' := 1) hX dX2_beginAt_0 rfl 1 rfl rfl ?_
  refine j_callSR (pc' := 4) (As := [.int p0]) (rest := []) (stk := fun r1 => [.int r1]) hX (fun l => met_X2_isCourse l g p0 _ hf) rfl gX2_beginAt_X2_isCourse yoX2_isCourse rfl ⟨Nat.le_of_ble_eq_true rfl, Nat.le_of_ble_eq_true rfl⟩ ⟨⟨Nat.le_of_ble_eq_true rfl, Nat.le_of_ble_eq_true rfl⟩, rfl, rfl⟩ [] rfl (by decide) (Nat.le_of_ble_eq_true rfl) rfl (fun _ => rfl) dX2_beginAt_1 rfl (fun r1 hf => ?_)
  refine j_if_eq (tgt := 31) (pc' := 7) hX dX2_beginAt_4 (by decide) rfl hf (fun hf => ?_) (fun hf => ?_)
  · refine j_iconst (pc' := 32) (v := 0) hX dX2_beginAt_31 (by decide) rfl ?_
    exact j_iret hX hR dX2_beginAt_32 ⟨_, rfl, hf⟩
  · refine j_iload_n (pc' := 8) hX dX2_beginAt_7 rfl 2 rfl rfl ?_
    refine j_if_lt (tgt := 31) (pc' := 11) hX dX2_beginAt_8 (by decide) rfl hf (fun hf => ?_) (fun hf => ?_)
    · refine j_iconst (pc' := 32) (v := 0) hX dX2_beginAt_31 (by decide) rfl ?_
      exact j_iret hX hR dX2_beginAt_32 ⟨_, rfl, hf⟩
    · refine j_iload_n (pc' := 12) hX dX2_beginAt_11 rfl 2 rfl rfl ?_
      refine j_bipush (pc' := 14) (v := 60) hX dX2_beginAt_12 (by decide) rfl ?_
      refine j_icmp_ge (tgt := 31) (pc' := 17) hX dX2_beginAt_14 (by decide) rfl hf (fun hf => ?_) (fun hf => ?_)
      · refine j_iconst (pc' := 32) (v := 0) hX dX2_beginAt_31 (by decide) rfl ?_
        exact j_iret hX hR dX2_beginAt_32 ⟨_, rfl, hf⟩
      · refine j_aload_n (pc' := 18) hX dX2_beginAt_17 rfl 0 rfl rfl ?_
        refine j_get (ci := 2) (pc' := 21) hX hin2 rfl 0 rfl 2 (by decide) hl_18 rfl dX2_beginAt_18 rfl ?_
        refine j_iload_n (pc' := 22) hX dX2_beginAt_21 rfl 1 rfl rfl ?_
        refine j_bipush (pc' := 24) (v := 60) hX dX2_beginAt_22 (by decide) rfl ?_
        refine j_imul (pc' := 25) hX dX2_beginAt_24 rfl ?_
        refine j_iload_n (pc' := 26) hX dX2_beginAt_25 rfl 2 rfl rfl ?_
        refine j_iadd (pc' := 27) hX dX2_beginAt_26 rfl ?_
        refine j_iald (pc' := 28) hX 3 rfl dX2_beginAt_27 hf rfl (fun hf => ?_)
        refine j_goto (tgt := 32) hX dX2_beginAt_28 (by decide) ?_
        exact j_iret hX hR dX2_beginAt_32 ⟨_, rfl, hf⟩
def wp_X2_sizeAt_L13 (vm : Mo) (p0 : Int32) (K13_30 : Int32 → Prop) (K13_42 : Prop) : Nat → Int32 → Prop
  | 0, _ => False
  | N13 + 1, x3_13 =>
  ((x3_13 < 0 → K13_42) ∧ (¬ x3_13 < 0 → (wp_X2_beginAt vm p0 x3_13 (fun r20 => ((r20 = 0 → (wp_X2_sizeAt_L13 vm p0 K13_30 K13_42 N13) (x3_13 + (-1))) ∧ (¬ r20 = 0 → K13_30 r20))))))
def wp_X2_sizeAt (vm : Mo) (p0 : Int32) (p1 : Int32) (post : Int32 → Prop) : Prop :=
  (wp_X2_takenOf vm p0 (fun r3 => ((p1 < r3 → (∃ N : Nat, wp_X2_sizeAt_L13 vm p0 (fun (e1 : Int32) => post (if 0 ≤ e1 then e1 else 0 - e1)) (post (-1)) N p1)) ∧ (¬ p1 < r3 → post (-1)))))
theorem yoX2_sizeAt : yOk yX2_sizeAt 2 := by decide +kernel
set_option maxHeartbeats 4000000 in
set_option maxRecDepth 100000 in
theorem met_X2_sizeAt (l : Launch) (g : JG) (m0 : Nat) (m1 : Nat) (m2 : Nat) (m3 : Nat) (m4 : Nat) (vm : Mo) (p0 : Int32) (p1 : Int32) (post : Int32 → Prop) (hf : wp_X2_sizeAt vm p0 p1 post) : MetR l yX2_sizeAt wsX2_sizeAt ({ frames := 2, cells := 0, slots := 0, locals := 42 } : Room) [.ref m0, .int p0, .int p1] g (MoW g m0 m1 m2 m3 m4 vm) mkI post := by
  have hl_88 : Cond.methodLink RX2 88 Lib.Math.abs.name ∈ wsX2_sizeAt := by decide +kernel
  have hs_abs : Cond.static Lib.Math.abs.name ∈ wsX2_sizeAt := by decide +kernel
  have hi_math : Cond.initialized "java/lang/Math" ∈ wsX2_sizeAt := by decide +kernel
  have hc_abs : Cond.code Lib.Math.abs.name Lib.Math.abs.code 1 (some .int) ∈ wsX2_sizeAt := by decide +kernel
  refine enterR (own := RX2) (cc := cX2_sizeAt) (nL := 5) (ret := (some .int)) (lv := [(0, .ref m0), (1, .int p0), (2, .int p1)]) (by decide) rfl rfl (Nat.le_of_ble_eq_true rfl) rfl (fun X hX hR => ?_)
  unfold wp_X2_sizeAt at hf
  refine j_iload_n (pc' := 1) hX dX2_sizeAt_0 rfl 2 rfl rfl ?_
  refine j_aload_n (pc' := 2) hX dX2_sizeAt_1 rfl 0 rfl rfl ?_
  refine j_iload_n (pc' := 3) hX dX2_sizeAt_2 rfl 1 rfl rfl ?_
  refine j_callVR (ci := 2) (pc' := 6) (As := [.int p0]) (rest := [.int p1]) (stk := fun r3 => [.int r3, .int p1]) hX (fun l => met_X2_takenOf l g m0 m1 m2 m3 m4 vm p0 _ hf) rfl gX2_sizeAt_X2_takenOf yoX2_takenOf rfl ⟨Nat.le_of_ble_eq_true rfl, Nat.le_of_ble_eq_true rfl⟩ ⟨⟨Nat.le_of_ble_eq_true rfl, Nat.le_of_ble_eq_true rfl⟩, rfl, rfl⟩ 0 rfl rfl [0, 1, 2, 3, 4] rfl (by decide) (Nat.le_of_ble_eq_true rfl) rfl (fun _ => rfl) dX2_sizeAt_3 rfl (fun r3 hf => ?_)
  refine j_icmp_lt (tgt := 11) (pc' := 9) hX dX2_sizeAt_6 (by decide) rfl hf (fun hf => ?_) (fun hf => ?_)
  · refine j_iload_n (pc' := 12) hX dX2_sizeAt_11 rfl 2 rfl rfl ?_
    refine j_istore_n (pc' := 13) (lv' := [(3, .int p1), (0, .ref m0), (1, .int p0), (2, .int p1)]) hX dX2_sizeAt_12 rfl (by decide) rfl rfl ?_
    obtain ⟨N13, hf⟩ := hf
    have L13 : ∀ (K13_30 : Int32 → Prop) (K13_42 : Prop), (∀ (x4_13 : Int32), K13_30 x4_13 → J g X 0 0 (MoW g m0 m1 m2 m3 m4 vm) [(4, .int x4_13)] [] 30) → (K13_42 → J g X 0 0 (MoW g m0 m1 m2 m3 m4 vm) [] [] 42) → ∀ (N13 : Nat) (x3_13 : Int32), wp_X2_sizeAt_L13 vm p0 K13_30 K13_42 N13 x3_13 → J g X 0 0 (MoW g m0 m1 m2 m3 m4 vm) [(0, .ref m0), (1, .int p0), (3, .int x3_13)] [] 13 := by
      intro K13_30 K13_42 hK13_30 hK13_42 N13
      induction N13 with
      | zero => intro x3_13 hf; exact False.elim hf
      | succ N13 ih13 =>
        intro x3_13 hf
        refine j_iload_n (pc' := 14) hX dX2_sizeAt_13 rfl 2 rfl rfl ?_
        refine j_if_lt (tgt := 42) (pc' := 17) hX dX2_sizeAt_14 (by decide) rfl hf (fun hf => ?_) (fun hf => ?_)
        · refine J_sub (lv' := []) [] rfl ?_
          exact hK13_42 hf
        · refine j_aload_n (pc' := 18) hX dX2_sizeAt_17 rfl 0 rfl rfl ?_
          refine j_iload_n (pc' := 19) hX dX2_sizeAt_18 rfl 1 rfl rfl ?_
          refine j_iload_n (pc' := 20) hX dX2_sizeAt_19 rfl 2 rfl rfl ?_
          refine j_callVR (ci := 2) (pc' := 23) (As := [.int p0, .int x3_13]) (rest := []) (stk := fun r20 => [.int r20]) hX (fun l => met_X2_beginAt l g m0 m1 m2 m3 m4 vm p0 x3_13 _ hf) rfl gX2_sizeAt_X2_beginAt yoX2_beginAt rfl ⟨Nat.le_of_ble_eq_true rfl, Nat.le_of_ble_eq_true rfl⟩ ⟨⟨Nat.le_of_ble_eq_true rfl, Nat.le_of_ble_eq_true rfl⟩, rfl, rfl⟩ 0 rfl rfl [0, 1, 2, 3, 4] rfl (by decide) (Nat.le_of_ble_eq_true rfl) rfl (fun _ => rfl) dX2_sizeAt_20 rfl (fun r20 hf => ?_)
          refine j_istore (pc' := 25) (lv' := [(4, .int r20), (0, .ref m0), (1, .int p0), (3, .int x3_13)]) hX dX2_sizeAt_23 (by decide) rfl rfl ?_
          refine j_iload (pc' := 27) hX dX2_sizeAt_25 0 rfl rfl ?_
          refine j_if_eq (tgt := 36) (pc' := 30) hX dX2_sizeAt_27 (by decide) rfl hf (fun hf => ?_) (fun hf => ?_)
          · refine j_iinc (pc' := 39) (cst := (-1)) (v := (x3_13 + (-1))) (lv' := [(3, .int (x3_13 + (-1))), (4, .int r20), (0, .ref m0), (1, .int p0)]) hX dX2_sizeAt_36 (by decide) rfl 3 rfl (by decide) rfl rfl ?_
            refine j_goto (tgt := 13) hX dX2_sizeAt_39 (by decide) ?_
            refine J_sub (lv' := [(0, .ref m0), (1, .int p0), (3, .int (x3_13 + (-1)))]) [2, 3, 0] rfl ?_
            exact ih13 (x3_13 + (-1)) hf
          · refine J_sub (lv' := [(4, .int r20)]) [0] rfl ?_
            exact hK13_30 r20 hf
    refine J_sub (lv' := [(0, .ref m0), (1, .int p0), (3, .int p1)]) [1, 2, 0] rfl ?_
    refine L13 _ _ (fun e1 hf => ?_) (fun hf => ?_) N13 p1 hf
    · refine j_iload (pc' := 32) hX dX2_sizeAt_30 0 rfl rfl ?_
      refine j_mabs (pc' := 35) hX hl_88 hs_abs hi_math hc_abs ⟨Nat.le_of_ble_eq_true rfl, Nat.le_of_ble_eq_true rfl, Nat.le_of_ble_eq_true rfl, Nat.le_of_ble_eq_true rfl⟩ dX2_sizeAt_32 rfl ?_
      exact j_iret hX hR dX2_sizeAt_35 ⟨_, rfl, hf⟩
    · refine j_iconst (pc' := 43) (v := (-1)) hX dX2_sizeAt_42 (by decide) rfl ?_
      exact j_iret hX hR dX2_sizeAt_43 ⟨_, rfl, hf⟩
  · refine j_iconst (pc' := 10) (v := (-1)) hX dX2_sizeAt_9 (by decide) rfl ?_
    exact j_iret hX hR dX2_sizeAt_10 ⟨_, rfl, hf⟩
def wp_X2_sizeByRule_c44 (vm : Mo) (p0 : Int32) (x3_5 : Int32) (x4_5 : Int32) (KB5 : Int32 → Int32 → Prop) (z0_44 : Int32) : Prop :=
  ((z0_44 = 0 → KB5 x3_5 (x4_5 + 1)) ∧ (¬ z0_44 = 0 → (wp_X2_reasonAgainst vm p0 x4_5 0 (fun r56 => ((r56 = 0 → KB5 x4_5 (x4_5 + 1)) ∧ (¬ r56 = 0 → KB5 x3_5 (x4_5 + 1)))))))
def wp_X2_sizeByRule_L5 (vm : Mo) (p0 : Int32) (p1 : Int32) (K5_71 : Int32 → Prop) : Nat → Int32 → Int32 → Prop
  | 0, _, _ => False
  | N5 + 1, x3_5, x4_5 =>
  ((6 < x4_5 → K5_71 x3_5) ∧ (¬ 6 < x4_5 → ((x3_5 = 0 → wp_X2_sizeByRule_c44 vm p0 x3_5 x4_5 (wp_X2_sizeByRule_L5 vm p0 p1 K5_71 N5) 1) ∧ (¬ x3_5 = 0 → ((p1 = 0 → wp_X2_sizeByRule_c44 vm p0 x3_5 x4_5 (wp_X2_sizeByRule_L5 vm p0 p1 K5_71 N5) 1) ∧ (¬ p1 = 0 → ((p1 = 2 → (wp_X2_inStock vm x4_5 (fun r28 => (wp_X2_inStock vm x3_5 (fun r33 => ((r28 < r33 → wp_X2_sizeByRule_c44 vm p0 x3_5 x4_5 (wp_X2_sizeByRule_L5 vm p0 p1 K5_71 N5) 0) ∧ (¬ r28 < r33 → wp_X2_sizeByRule_c44 vm p0 x3_5 x4_5 (wp_X2_sizeByRule_L5 vm p0 p1 K5_71 N5) 1))))))) ∧ (¬ p1 = 2 → wp_X2_sizeByRule_c44 vm p0 x3_5 x4_5 (wp_X2_sizeByRule_L5 vm p0 p1 K5_71 N5) 0))))))))
def wp_X2_sizeByRule (vm : Mo) (p0 : Int32) (p1 : Int32) (post : Int32 → Prop) : Prop :=
  (∃ N : Nat, wp_X2_sizeByRule_L5 vm p0 p1 (fun (e1 : Int32) => post e1) N 0 1)
theorem yoX2_sizeByRule : yOk yX2_sizeByRule 2 := by decide +kernel
set_option maxHeartbeats 4000000 in
set_option maxRecDepth 100000 in
theorem met_X2_sizeByRule (l : Launch) (g : JG) (m0 : Nat) (m1 : Nat) (m2 : Nat) (m3 : Nat) (m4 : Nat) (vm : Mo) (p0 : Int32) (p1 : Int32) (post : Int32 → Prop) (hf : wp_X2_sizeByRule vm p0 p1 post) : MetR l yX2_sizeByRule wsX2_sizeByRule ({ frames := 3, cells := 0, slots := 0, locals := 70 } : Room) [.ref m0, .int p0, .int p1] g (MoW g m0 m1 m2 m3 m4 vm) mkI post := by
  refine enterR (own := RX2) (cc := cX2_sizeByRule) (nL := 6) (ret := (some .int)) (lv := [(0, .ref m0), (1, .int p0), (2, .int p1)]) (by decide) rfl rfl (Nat.le_of_ble_eq_true rfl) rfl (fun X hX hR => ?_)
  unfold wp_X2_sizeByRule at hf
  refine j_iconst (pc' := 1) (v := 0) hX dX2_sizeByRule_0 (by decide) rfl ?_
  refine j_istore_n (pc' := 2) (lv' := [(3, .int 0), (0, .ref m0), (1, .int p0), (2, .int p1)]) hX dX2_sizeByRule_1 rfl (by decide) rfl rfl ?_
  refine j_iconst (pc' := 3) (v := 1) hX dX2_sizeByRule_2 (by decide) rfl ?_
  refine j_istore (pc' := 5) (lv' := [(4, .int 1), (3, .int 0), (0, .ref m0), (1, .int p0), (2, .int p1)]) hX dX2_sizeByRule_3 (by decide) rfl rfl ?_
  obtain ⟨N5, hf⟩ := hf
  have L5 : ∀ (K5_71 : Int32 → Prop), (∀ (x3_5 : Int32), K5_71 x3_5 → J g X 0 0 (MoW g m0 m1 m2 m3 m4 vm) [(3, .int x3_5)] [] 71) → ∀ (N5 : Nat) (x3_5 : Int32) (x4_5 : Int32), wp_X2_sizeByRule_L5 vm p0 p1 K5_71 N5 x3_5 x4_5 → J g X 0 0 (MoW g m0 m1 m2 m3 m4 vm) [(0, .ref m0), (1, .int p0), (2, .int p1), (3, .int x3_5), (4, .int x4_5)] [] 5 := by
    intro K5_71 hK5_71 N5
    induction N5 with
    | zero => intro x3_5 x4_5 hf; exact False.elim hf
    | succ N5 ih5 =>
      intro x3_5 x4_5 hf
      have J44 : ∀ (z0_44 : Int32), wp_X2_sizeByRule_c44 vm p0 x3_5 x4_5 (wp_X2_sizeByRule_L5 vm p0 p1 K5_71 N5) z0_44 → J g X 0 0 (MoW g m0 m1 m2 m3 m4 vm) [(0, .ref m0), (1, .int p0), (2, .int p1), (3, .int x3_5), (4, .int x4_5)] [.int z0_44] 44 := by
        intro z0_44 hf
        refine j_istore (pc' := 46) (lv' := [(5, .int z0_44), (0, .ref m0), (1, .int p0), (2, .int p1), (3, .int x3_5), (4, .int x4_5)]) hX dX2_sizeByRule_44 (by decide) rfl rfl ?_
        refine j_iload (pc' := 48) hX dX2_sizeByRule_46 0 rfl rfl ?_
        refine j_if_eq (tgt := 65) (pc' := 51) hX dX2_sizeByRule_48 (by decide) rfl hf (fun hf => ?_) (fun hf => ?_)
        · refine j_iinc (pc' := 68) (cst := 1) (v := (x4_5 + 1)) (lv' := [(4, .int (x4_5 + 1)), (5, .int z0_44), (0, .ref m0), (1, .int p0), (2, .int p1), (3, .int x3_5)]) hX dX2_sizeByRule_65 (by decide) rfl 5 rfl (by decide) rfl rfl ?_
          refine j_goto (tgt := 5) hX dX2_sizeByRule_68 (by decide) ?_
          refine J_sub (lv' := [(0, .ref m0), (1, .int p0), (2, .int p1), (3, .int x3_5), (4, .int (x4_5 + 1))]) [2, 3, 4, 5, 0] rfl ?_
          exact ih5 x3_5 (x4_5 + 1) hf
        · refine j_aload_n (pc' := 52) hX dX2_sizeByRule_51 rfl 1 rfl rfl ?_
          refine j_iload_n (pc' := 53) hX dX2_sizeByRule_52 rfl 2 rfl rfl ?_
          refine j_iload (pc' := 55) hX dX2_sizeByRule_53 5 rfl rfl ?_
          refine j_iconst (pc' := 56) (v := 0) hX dX2_sizeByRule_55 (by decide) rfl ?_
          refine j_callVR (ci := 2) (pc' := 59) (As := [.int p0, .int x4_5, .int 0]) (rest := []) (stk := fun r56 => [.int r56]) hX (fun l => met_X2_reasonAgainst l g m0 m1 m2 m3 m4 vm p0 x4_5 0 _ hf) rfl gX2_sizeByRule_X2_reasonAgainst yoX2_reasonAgainst rfl ⟨Nat.le_of_ble_eq_true rfl, Nat.le_of_ble_eq_true rfl⟩ ⟨⟨Nat.le_of_ble_eq_true rfl, Nat.le_of_ble_eq_true rfl⟩, rfl, rfl⟩ 0 rfl rfl [0, 1, 2, 3, 4] rfl (by decide) (Nat.le_of_ble_eq_true rfl) rfl (fun _ => rfl) dX2_sizeByRule_56 rfl (fun r56 hf => ?_)
          refine j_if_ne (tgt := 65) (pc' := 62) hX dX2_sizeByRule_59 (by decide) rfl hf (fun hf => ?_) (fun hf => ?_)
          · refine j_iinc (pc' := 68) (cst := 1) (v := (x4_5 + 1)) (lv' := [(4, .int (x4_5 + 1)), (5, .int z0_44), (0, .ref m0), (1, .int p0), (2, .int p1), (3, .int x3_5)]) hX dX2_sizeByRule_65 (by decide) rfl 5 rfl (by decide) rfl rfl ?_
            refine j_goto (tgt := 5) hX dX2_sizeByRule_68 (by decide) ?_
            refine J_sub (lv' := [(0, .ref m0), (1, .int p0), (2, .int p1), (3, .int x3_5), (4, .int (x4_5 + 1))]) [2, 3, 4, 5, 0] rfl ?_
            exact ih5 x3_5 (x4_5 + 1) hf
          · refine j_iload (pc' := 64) hX dX2_sizeByRule_62 5 rfl rfl ?_
            refine j_istore_n (pc' := 65) (lv' := [(3, .int x4_5), (5, .int z0_44), (0, .ref m0), (1, .int p0), (2, .int p1), (4, .int x4_5)]) hX dX2_sizeByRule_64 rfl (by decide) rfl rfl ?_
            refine j_iinc (pc' := 68) (cst := 1) (v := (x4_5 + 1)) (lv' := [(4, .int (x4_5 + 1)), (3, .int x4_5), (5, .int z0_44), (0, .ref m0), (1, .int p0), (2, .int p1)]) hX dX2_sizeByRule_65 (by decide) rfl 5 rfl (by decide) rfl rfl ?_
            refine j_goto (tgt := 5) hX dX2_sizeByRule_68 (by decide) ?_
            refine J_sub (lv' := [(0, .ref m0), (1, .int p0), (2, .int p1), (3, .int x4_5), (4, .int (x4_5 + 1))]) [3, 4, 5, 1, 0] rfl ?_
            exact ih5 x4_5 (x4_5 + 1) hf
      refine j_iload (pc' := 7) hX dX2_sizeByRule_5 4 rfl rfl ?_
      refine j_bipush (pc' := 9) (v := 6) hX dX2_sizeByRule_7 (by decide) rfl ?_
      refine j_icmp_gt (tgt := 71) (pc' := 12) hX dX2_sizeByRule_9 (by decide) rfl hf (fun hf => ?_) (fun hf => ?_)
      · refine J_sub (lv' := [(3, .int x3_5)]) [3] rfl ?_
        exact hK5_71 x3_5 hf
      · refine j_iload_n (pc' := 13) hX dX2_sizeByRule_12 rfl 3 rfl rfl ?_
        refine j_if_eq (tgt := 39) (pc' := 16) hX dX2_sizeByRule_13 (by decide) rfl hf (fun hf => ?_) (fun hf => ?_)
        · refine j_iconst (pc' := 40) (v := 1) hX dX2_sizeByRule_39 (by decide) rfl ?_
          refine j_goto (tgt := 44) hX dX2_sizeByRule_40 (by decide) ?_
          exact J44 1 hf
        · refine j_iload_n (pc' := 17) hX dX2_sizeByRule_16 rfl 2 rfl rfl ?_
          refine j_if_eq (tgt := 39) (pc' := 20) hX dX2_sizeByRule_17 (by decide) rfl hf (fun hf => ?_) (fun hf => ?_)
          · refine j_iconst (pc' := 40) (v := 1) hX dX2_sizeByRule_39 (by decide) rfl ?_
            refine j_goto (tgt := 44) hX dX2_sizeByRule_40 (by decide) ?_
            exact J44 1 hf
          · refine j_iload_n (pc' := 21) hX dX2_sizeByRule_20 rfl 2 rfl rfl ?_
            refine j_iconst (pc' := 22) (v := 2) hX dX2_sizeByRule_21 (by decide) rfl ?_
            refine j_icmp_ne (tgt := 43) (pc' := 25) hX dX2_sizeByRule_22 (by decide) rfl hf (fun hf => ?_) (fun hf => ?_)
            · refine j_iconst (pc' := 44) (v := 0) hX dX2_sizeByRule_43 (by decide) rfl ?_
              exact J44 0 hf
            · refine j_aload_n (pc' := 26) hX dX2_sizeByRule_25 rfl 0 rfl rfl ?_
              refine j_iload (pc' := 28) hX dX2_sizeByRule_26 4 rfl rfl ?_
              refine j_callVR (ci := 2) (pc' := 31) (As := [.int x4_5]) (rest := []) (stk := fun r28 => [.int r28]) hX (fun l => met_X2_inStock l g m0 m1 m2 m3 m4 vm x4_5 _ hf) rfl gX2_sizeByRule_X2_inStock yoX2_inStock rfl ⟨Nat.le_of_ble_eq_true rfl, Nat.le_of_ble_eq_true rfl⟩ ⟨⟨Nat.le_of_ble_eq_true rfl, Nat.le_of_ble_eq_true rfl⟩, rfl, rfl⟩ 0 rfl rfl [0, 1, 2, 3, 4] rfl (by decide) (Nat.le_of_ble_eq_true rfl) rfl (fun _ => rfl) dX2_sizeByRule_28 rfl (fun r28 hf => ?_)
              refine j_aload_n (pc' := 32) hX dX2_sizeByRule_31 rfl 0 rfl rfl ?_
              refine j_iload_n (pc' := 33) hX dX2_sizeByRule_32 rfl 3 rfl rfl ?_
              refine j_callVR (ci := 2) (pc' := 36) (As := [.int x3_5]) (rest := [.int r28]) (stk := fun r33 => [.int r33, .int r28]) hX (fun l => met_X2_inStock l g m0 m1 m2 m3 m4 vm x3_5 _ hf) rfl gX2_sizeByRule_X2_inStock yoX2_inStock rfl ⟨Nat.le_of_ble_eq_true rfl, Nat.le_of_ble_eq_true rfl⟩ ⟨⟨Nat.le_of_ble_eq_true rfl, Nat.le_of_ble_eq_true rfl⟩, rfl, rfl⟩ 0 rfl rfl [0, 1, 2, 3, 4] rfl (by decide) (Nat.le_of_ble_eq_true rfl) rfl (fun _ => rfl) dX2_sizeByRule_33 rfl (fun r33 hf => ?_)
              refine j_icmp_lt (tgt := 43) (pc' := 39) hX dX2_sizeByRule_36 (by decide) rfl hf (fun hf => ?_) (fun hf => ?_)
              · refine j_iconst (pc' := 44) (v := 0) hX dX2_sizeByRule_43 (by decide) rfl ?_
                exact J44 0 hf
              · refine j_iconst (pc' := 40) (v := 1) hX dX2_sizeByRule_39 (by decide) rfl ?_
                refine j_goto (tgt := 44) hX dX2_sizeByRule_40 (by decide) ?_
                exact J44 1 hf
  refine J_sub (lv' := [(0, .ref m0), (1, .int p0), (2, .int p1), (3, .int 0), (4, .int 1)]) [2, 3, 4, 1, 0] rfl ?_
  refine L5 _ (fun e1 hf => ?_) N5 0 1 hf
  refine j_iload_n (pc' := 72) hX dX2_sizeByRule_71 rfl 0 rfl rfl ?_
  exact j_iret hX hR dX2_sizeByRule_72 ⟨_, rfl, hf⟩
def wp_X2_greatestFiller_L3 (vm : Mo) (p0 : Int32) (K3_17 : Int32 → Prop) (K3_25 : Prop) : Nat → Int32 → Prop
  | 0, _ => False
  | N3 + 1, x2_3 =>
  ((x2_3 ≤ 0 → K3_25) ∧ (¬ x2_3 ≤ 0 → (wp_X2_reasonAgainst vm p0 x2_3 1 (fun r11 => ((r11 = 0 → K3_17 x2_3) ∧ (¬ r11 = 0 → (wp_X2_greatestFiller_L3 vm p0 K3_17 K3_25 N3) (x2_3 + (-1))))))))
def wp_X2_greatestFiller (vm : Mo) (p0 : Int32) (post : Int32 → Prop) : Prop :=
  (∃ N : Nat, wp_X2_greatestFiller_L3 vm p0 (fun (e1 : Int32) => post e1) (post 0) N 6)
theorem yoX2_greatestFiller : yOk yX2_greatestFiller 1 := by decide +kernel
set_option maxHeartbeats 4000000 in
set_option maxRecDepth 100000 in
theorem met_X2_greatestFiller (l : Launch) (g : JG) (m0 : Nat) (m1 : Nat) (m2 : Nat) (m3 : Nat) (m4 : Nat) (vm : Mo) (p0 : Int32) (post : Int32 → Prop) (hf : wp_X2_greatestFiller vm p0 post) : MetR l yX2_greatestFiller wsX2_greatestFiller ({ frames := 3, cells := 0, slots := 0, locals := 70 } : Room) [.ref m0, .int p0] g (MoW g m0 m1 m2 m3 m4 vm) mkI post := by
  refine enterR (own := RX2) (cc := cX2_greatestFiller) (nL := 3) (ret := (some .int)) (lv := [(0, .ref m0), (1, .int p0)]) (by decide) rfl rfl (Nat.le_of_ble_eq_true rfl) rfl (fun X hX hR => ?_)
  unfold wp_X2_greatestFiller at hf
  refine j_bipush (pc' := 2) (v := 6) hX dX2_greatestFiller_0 (by decide) rfl ?_
  refine j_istore_n (pc' := 3) (lv' := [(2, .int 6), (0, .ref m0), (1, .int p0)]) hX dX2_greatestFiller_2 rfl (by decide) rfl rfl ?_
  obtain ⟨N3, hf⟩ := hf
  have L3 : ∀ (K3_17 : Int32 → Prop) (K3_25 : Prop), (∀ (x2_3 : Int32), K3_17 x2_3 → J g X 0 0 (MoW g m0 m1 m2 m3 m4 vm) [(2, .int x2_3)] [] 17) → (K3_25 → J g X 0 0 (MoW g m0 m1 m2 m3 m4 vm) [] [] 25) → ∀ (N3 : Nat) (x2_3 : Int32), wp_X2_greatestFiller_L3 vm p0 K3_17 K3_25 N3 x2_3 → J g X 0 0 (MoW g m0 m1 m2 m3 m4 vm) [(0, .ref m0), (1, .int p0), (2, .int x2_3)] [] 3 := by
    intro K3_17 K3_25 hK3_17 hK3_25 N3
    induction N3 with
    | zero => intro x2_3 hf; exact False.elim hf
    | succ N3 ih3 =>
      intro x2_3 hf
      refine j_iload_n (pc' := 4) hX dX2_greatestFiller_3 rfl 2 rfl rfl ?_
      refine j_if_le (tgt := 25) (pc' := 7) hX dX2_greatestFiller_4 (by decide) rfl hf (fun hf => ?_) (fun hf => ?_)
      · refine J_sub (lv' := []) [] rfl ?_
        exact hK3_25 hf
      · refine j_aload_n (pc' := 8) hX dX2_greatestFiller_7 rfl 0 rfl rfl ?_
        refine j_iload_n (pc' := 9) hX dX2_greatestFiller_8 rfl 1 rfl rfl ?_
        refine j_iload_n (pc' := 10) hX dX2_greatestFiller_9 rfl 2 rfl rfl ?_
        refine j_iconst (pc' := 11) (v := 1) hX dX2_greatestFiller_10 (by decide) rfl ?_
        refine j_callVR (ci := 2) (pc' := 14) (As := [.int p0, .int x2_3, .int 1]) (rest := []) (stk := fun r11 => [.int r11]) hX (fun l => met_X2_reasonAgainst l g m0 m1 m2 m3 m4 vm p0 x2_3 1 _ hf) rfl gX2_greatestFiller_X2_reasonAgainst yoX2_reasonAgainst rfl ⟨Nat.le_of_ble_eq_true rfl, Nat.le_of_ble_eq_true rfl⟩ ⟨⟨Nat.le_of_ble_eq_true rfl, Nat.le_of_ble_eq_true rfl⟩, rfl, rfl⟩ 0 rfl rfl [0, 1, 2, 3, 4] rfl (by decide) (Nat.le_of_ble_eq_true rfl) rfl (fun _ => rfl) dX2_greatestFiller_11 rfl (fun r11 hf => ?_)
        refine j_if_ne (tgt := 19) (pc' := 17) hX dX2_greatestFiller_14 (by decide) rfl hf (fun hf => ?_) (fun hf => ?_)
        · refine j_iinc (pc' := 22) (cst := (-1)) (v := (x2_3 + (-1))) (lv' := [(2, .int (x2_3 + (-1))), (0, .ref m0), (1, .int p0)]) hX dX2_greatestFiller_19 (by decide) rfl 2 rfl (by decide) rfl rfl ?_
          refine j_goto (tgt := 3) hX dX2_greatestFiller_22 (by decide) ?_
          refine J_sub (lv' := [(0, .ref m0), (1, .int p0), (2, .int (x2_3 + (-1)))]) [1, 2, 0] rfl ?_
          exact ih3 (x2_3 + (-1)) hf
        · refine J_sub (lv' := [(2, .int x2_3)]) [2] rfl ?_
          exact hK3_17 x2_3 hf
  refine J_sub (lv' := [(0, .ref m0), (1, .int p0), (2, .int 6)]) [1, 2, 0] rfl ?_
  refine L3 _ _ (fun e1 hf => ?_) (fun hf => ?_) N3 6 hf
  · refine j_iload_n (pc' := 18) hX dX2_greatestFiller_17 rfl 0 rfl rfl ?_
    exact j_iret hX hR dX2_greatestFiller_18 ⟨_, rfl, hf⟩
  · refine j_iconst (pc' := 26) (v := 0) hX dX2_greatestFiller_25 (by decide) rfl ?_
    exact j_iret hX hR dX2_greatestFiller_26 ⟨_, rfl, hf⟩
def wp_X2_fillCourse_c34 (p0 : Int32) (x3_2 : Int32) (vm_2 : Mo) (K2_53 : Int32 → Mo → Prop) (KB2 : Int32 → Mo → Prop) (y4_34 : Int32) (z0_34 : Int32) : Prop :=
  ((z0_34 = 0 → ((y4_34 = 0 → K2_53 x3_2 vm_2) ∧ (¬ y4_34 = 0 → (wp_X2_put vm_2 p0 y4_34 z0_34 (fun r62 u62_1 => KB2 (x3_2 + 1) u62_1))))) ∧ (¬ z0_34 = 0 → (wp_X2_greatestFiller vm_2 p0 (fun r43 => ((r43 = 0 → K2_53 x3_2 vm_2) ∧ (¬ r43 = 0 → (wp_X2_put vm_2 p0 r43 z0_34 (fun r62 u62_2 => KB2 (x3_2 + 1) u62_2))))))))
def wp_X2_fillCourse_L2 (p0 : Int32) (p1 : Int32) (K2_53 : Int32 → Mo → Prop) (K2_72 : Int32 → Mo → Prop) : Nat → Int32 → Mo → Prop
  | 0, _, _ => False
  | N2 + 1, x3_2, vm_2 =>
  ((60 ≤ x3_2 → K2_72 x3_2 vm_2) ∧ (¬ 60 ≤ x3_2 → (wp_X2_sizeByRule vm_2 p0 p1 (fun r11 => ((r11 = 0 → ((vm_2.2.2.2.2.2.1 = 1 → wp_X2_fillCourse_c34 p0 x3_2 vm_2 K2_53 (wp_X2_fillCourse_L2 p0 p1 K2_53 K2_72 N2) r11 1) ∧ (¬ vm_2.2.2.2.2.2.1 = 1 → wp_X2_fillCourse_c34 p0 x3_2 vm_2 K2_53 (wp_X2_fillCourse_L2 p0 p1 K2_53 K2_72 N2) r11 0))) ∧ (¬ r11 = 0 → wp_X2_fillCourse_c34 p0 x3_2 vm_2 K2_53 (wp_X2_fillCourse_L2 p0 p1 K2_53 K2_72 N2) r11 0))))))
def wp_X2_fillCourse (vm : Mo) (p0 : Int32) (p1 : Int32) (post : Int32 → Mo → Prop) : Prop :=
  (∃ N : Nat, wp_X2_fillCourse_L2 p0 p1 (fun (e3 : Int32) (e4 : Mo) => post e3 e4) (fun (e5 : Int32) (e6 : Mo) => post e5 e6) N 0 vm)
theorem yoX2_fillCourse : yOk yX2_fillCourse 2 := by decide +kernel
set_option maxHeartbeats 4000000 in
set_option maxRecDepth 100000 in
theorem met_X2_fillCourse (l : Launch) (g : JG) (m0 : Nat) (m1 : Nat) (m2 : Nat) (m3 : Nat) (m4 : Nat) (vm : Mo) (p0 : Int32) (p1 : Int32) (post : Int32 → Mo → Prop) (hf : wp_X2_fillCourse vm p0 p1 post) : MetM l yX2_fillCourse wsX2_fillCourse ({ frames := 4, cells := 0, slots := 0, locals := 95 } : Room) [.ref m0, .int p0, .int p1] g (MoW g m0 m1 m2 m3 m4 vm) mkI post (fun u : Mo => (MoW g m0 m1 m2 m3 m4 u)) := by
  have hin2 : ∀ w ∈ u_ws RX2 TX2 7, w ∈ wsX2_fillCourse := by decide +kernel
  have hl_32 : Cond.fieldLink RX2 32 (TX2 5).1 (TX2 5).2.1 (TX2 5).2.2.1 ∈ wsX2_fillCourse := by decide +kernel
  refine enterM (own := RX2) (cc := cX2_fillCourse) (nL := 6) (ret := (some .int)) (lv := [(0, .ref m0), (1, .int p0), (2, .int p1)]) (by decide) rfl rfl (Nat.le_of_ble_eq_true rfl) rfl (fun X hX hW hR => ?_)
  unfold wp_X2_fillCourse at hf
  refine j_iconst (pc' := 1) (v := 0) hX dX2_fillCourse_0 (by decide) rfl ?_
  refine j_istore_n (pc' := 2) (lv' := [(3, .int 0), (0, .ref m0), (1, .int p0), (2, .int p1)]) hX dX2_fillCourse_1 rfl (by decide) rfl rfl ?_
  obtain ⟨N2, hf⟩ := hf
  have L2 : ∀ (K2_53 : Int32 → Mo → Prop) (K2_72 : Int32 → Mo → Prop), (∀ (x3_2 : Int32) (vm_2 : Mo), K2_53 x3_2 vm_2 → J g X 0 0 (MoW g m0 m1 m2 m3 m4 vm_2) [(3, .int x3_2)] [] 53) → (∀ (x3_2 : Int32) (vm_2 : Mo), K2_72 x3_2 vm_2 → J g X 0 0 (MoW g m0 m1 m2 m3 m4 vm_2) [(3, .int x3_2)] [] 72) → ∀ (N2 : Nat) (x3_2 : Int32) (vm_2 : Mo), wp_X2_fillCourse_L2 p0 p1 K2_53 K2_72 N2 x3_2 vm_2 → J g X 0 0 (MoW g m0 m1 m2 m3 m4 vm_2) [(0, .ref m0), (1, .int p0), (2, .int p1), (3, .int x3_2)] [] 2 := by
    intro K2_53 K2_72 hK2_53 hK2_72 N2
    induction N2 with
    | zero => intro x3_2 vm_2 hf; exact False.elim hf
    | succ N2 ih2 =>
      intro x3_2 vm_2 hf
      have J34 : ∀ (y4_34 : Int32) (z0_34 : Int32), wp_X2_fillCourse_c34 p0 x3_2 vm_2 K2_53 (wp_X2_fillCourse_L2 p0 p1 K2_53 K2_72 N2) y4_34 z0_34 → J g X 0 0 (MoW g m0 m1 m2 m3 m4 vm_2) [(0, .ref m0), (1, .int p0), (2, .int p1), (3, .int x3_2), (4, .int y4_34)] [.int z0_34] 34 := by
        intro y4_34 z0_34 hf
        refine j_istore (pc' := 36) (lv' := [(5, .int z0_34), (0, .ref m0), (1, .int p0), (2, .int p1), (3, .int x3_2), (4, .int y4_34)]) hX dX2_fillCourse_34 (by decide) rfl rfl ?_
        refine j_iload (pc' := 38) hX dX2_fillCourse_36 0 rfl rfl ?_
        refine j_if_eq (tgt := 48) (pc' := 41) hX dX2_fillCourse_38 (by decide) rfl hf (fun hf => ?_) (fun hf => ?_)
        · refine j_iload (pc' := 50) hX dX2_fillCourse_48 5 rfl rfl ?_
          refine j_if_ne (tgt := 56) (pc' := 53) hX dX2_fillCourse_50 (by decide) rfl hf (fun hf => ?_) (fun hf => ?_)
          · refine j_aload_n (pc' := 57) hX dX2_fillCourse_56 rfl 1 rfl rfl ?_
            refine j_iload_n (pc' := 58) hX dX2_fillCourse_57 rfl 2 rfl rfl ?_
            refine j_iload (pc' := 60) hX dX2_fillCourse_58 5 rfl rfl ?_
            refine j_iload (pc' := 62) hX dX2_fillCourse_60 0 rfl rfl ?_
            refine j_callVM (ci := 2) (pc' := 65) (k' := 0) (n' := 0) (As := [.int p0, .int y4_34, .int z0_34]) (rest := []) (stk := fun r62 => [.int r62]) (ws' := fun u62_1 => (MoW g m0 m1 m2 m3 m4 u62_1)) (wr := ([] : va_W)) hX hW (fun l => met_X2_put l g m0 m1 m2 m3 m4 vm_2 p0 y4_34 z0_34 _ hf) rfl gX2_fillCourse_X2_put yoX2_put rfl ⟨Nat.le_of_ble_eq_true rfl, Nat.le_of_ble_eq_true rfl⟩ ⟨Nat.le_of_ble_eq_true rfl, Nat.le_of_ble_eq_true rfl, Nat.le_of_ble_eq_true rfl, Nat.le_of_ble_eq_true rfl⟩ 0 rfl rfl [0, 1, 2, 3, 4] [] [0, 1, 2, 3, 4] rfl (by decide) rfl (by decide) (by decide) (fun _ => rfl) (by decide) (Nat.le_of_ble_eq_true rfl) rfl (fun _ => rfl) dX2_fillCourse_62 rfl (fun r62 u62_1 hf => ?_)
            refine j_pop (pc' := 66) hX dX2_fillCourse_65 rfl rfl ?_
            refine j_iinc (pc' := 69) (cst := 1) (v := (x3_2 + 1)) (lv' := [(3, .int (x3_2 + 1)), (5, .int z0_34), (0, .ref m0), (1, .int p0), (2, .int p1), (4, .int y4_34)]) hX dX2_fillCourse_66 (by decide) rfl 4 rfl (by decide) rfl rfl ?_
            refine j_goto (tgt := 2) hX dX2_fillCourse_69 (by decide) ?_
            refine J_sub (lv' := [(0, .ref m0), (1, .int p0), (2, .int p1), (3, .int (x3_2 + 1))]) [2, 3, 4, 0] rfl ?_
            exact ih2 (x3_2 + 1) u62_1 hf
          · refine J_sub (lv' := [(3, .int x3_2)]) [4] rfl ?_
            exact hK2_53 x3_2 vm_2 hf
        · refine j_aload_n (pc' := 42) hX dX2_fillCourse_41 rfl 1 rfl rfl ?_
          refine j_iload_n (pc' := 43) hX dX2_fillCourse_42 rfl 2 rfl rfl ?_
          refine j_callVR (ci := 2) (pc' := 46) (As := [.int p0]) (rest := []) (stk := fun r43 => [.int r43]) hX (fun l => met_X2_greatestFiller l g m0 m1 m2 m3 m4 vm_2 p0 _ hf) rfl gX2_fillCourse_X2_greatestFiller yoX2_greatestFiller rfl ⟨Nat.le_of_ble_eq_true rfl, Nat.le_of_ble_eq_true rfl⟩ ⟨⟨Nat.le_of_ble_eq_true rfl, Nat.le_of_ble_eq_true rfl⟩, rfl, rfl⟩ 0 rfl rfl [0, 1, 2, 3, 4] rfl (by decide) (Nat.le_of_ble_eq_true rfl) rfl (fun _ => rfl) dX2_fillCourse_43 rfl (fun r43 hf => ?_)
          refine j_istore (pc' := 48) (lv' := [(4, .int r43), (5, .int z0_34), (0, .ref m0), (1, .int p0), (2, .int p1), (3, .int x3_2)]) hX dX2_fillCourse_46 (by decide) rfl rfl ?_
          refine j_iload (pc' := 50) hX dX2_fillCourse_48 0 rfl rfl ?_
          refine j_if_ne (tgt := 56) (pc' := 53) hX dX2_fillCourse_50 (by decide) rfl hf (fun hf => ?_) (fun hf => ?_)
          · refine j_aload_n (pc' := 57) hX dX2_fillCourse_56 rfl 2 rfl rfl ?_
            refine j_iload_n (pc' := 58) hX dX2_fillCourse_57 rfl 3 rfl rfl ?_
            refine j_iload (pc' := 60) hX dX2_fillCourse_58 0 rfl rfl ?_
            refine j_iload (pc' := 62) hX dX2_fillCourse_60 1 rfl rfl ?_
            refine j_callVM (ci := 2) (pc' := 65) (k' := 0) (n' := 0) (As := [.int p0, .int r43, .int z0_34]) (rest := []) (stk := fun r62 => [.int r62]) (ws' := fun u62_2 => (MoW g m0 m1 m2 m3 m4 u62_2)) (wr := ([] : va_W)) hX hW (fun l => met_X2_put l g m0 m1 m2 m3 m4 vm_2 p0 r43 z0_34 _ hf) rfl gX2_fillCourse_X2_put yoX2_put rfl ⟨Nat.le_of_ble_eq_true rfl, Nat.le_of_ble_eq_true rfl⟩ ⟨Nat.le_of_ble_eq_true rfl, Nat.le_of_ble_eq_true rfl, Nat.le_of_ble_eq_true rfl, Nat.le_of_ble_eq_true rfl⟩ 0 rfl rfl [0, 1, 2, 3, 4] [] [0, 1, 2, 3, 4] rfl (by decide) rfl (by decide) (by decide) (fun _ => rfl) (by decide) (Nat.le_of_ble_eq_true rfl) rfl (fun _ => rfl) dX2_fillCourse_62 rfl (fun r62 u62_2 hf => ?_)
            refine j_pop (pc' := 66) hX dX2_fillCourse_65 rfl rfl ?_
            refine j_iinc (pc' := 69) (cst := 1) (v := (x3_2 + 1)) (lv' := [(3, .int (x3_2 + 1)), (4, .int r43), (5, .int z0_34), (0, .ref m0), (1, .int p0), (2, .int p1)]) hX dX2_fillCourse_66 (by decide) rfl 5 rfl (by decide) rfl rfl ?_
            refine j_goto (tgt := 2) hX dX2_fillCourse_69 (by decide) ?_
            refine J_sub (lv' := [(0, .ref m0), (1, .int p0), (2, .int p1), (3, .int (x3_2 + 1))]) [3, 4, 5, 0] rfl ?_
            exact ih2 (x3_2 + 1) u62_2 hf
          · refine J_sub (lv' := [(3, .int x3_2)]) [5] rfl ?_
            exact hK2_53 x3_2 vm_2 hf
      refine j_iload_n (pc' := 3) hX dX2_fillCourse_2 rfl 3 rfl rfl ?_
      refine j_bipush (pc' := 5) (v := 60) hX dX2_fillCourse_3 (by decide) rfl ?_
      refine j_icmp_ge (tgt := 72) (pc' := 8) hX dX2_fillCourse_5 (by decide) rfl hf (fun hf => ?_) (fun hf => ?_)
      · refine J_sub (lv' := [(3, .int x3_2)]) [3] rfl ?_
        exact hK2_72 x3_2 vm_2 hf
      · refine j_aload_n (pc' := 9) hX dX2_fillCourse_8 rfl 0 rfl rfl ?_
        refine j_iload_n (pc' := 10) hX dX2_fillCourse_9 rfl 1 rfl rfl ?_
        refine j_iload_n (pc' := 11) hX dX2_fillCourse_10 rfl 2 rfl rfl ?_
        refine j_callVR (ci := 2) (pc' := 14) (As := [.int p0, .int p1]) (rest := []) (stk := fun r11 => [.int r11]) hX (fun l => met_X2_sizeByRule l g m0 m1 m2 m3 m4 vm_2 p0 p1 _ hf) rfl gX2_fillCourse_X2_sizeByRule yoX2_sizeByRule rfl ⟨Nat.le_of_ble_eq_true rfl, Nat.le_of_ble_eq_true rfl⟩ ⟨⟨Nat.le_of_ble_eq_true rfl, Nat.le_of_ble_eq_true rfl⟩, rfl, rfl⟩ 0 rfl rfl [0, 1, 2, 3, 4] rfl (by decide) (Nat.le_of_ble_eq_true rfl) rfl (fun _ => rfl) dX2_fillCourse_11 rfl (fun r11 hf => ?_)
        refine j_istore (pc' := 16) (lv' := [(4, .int r11), (0, .ref m0), (1, .int p0), (2, .int p1), (3, .int x3_2)]) hX dX2_fillCourse_14 (by decide) rfl rfl ?_
        refine j_iload (pc' := 18) hX dX2_fillCourse_16 0 rfl rfl ?_
        refine j_if_ne (tgt := 33) (pc' := 21) hX dX2_fillCourse_18 (by decide) rfl hf (fun hf => ?_) (fun hf => ?_)
        · refine j_iconst (pc' := 34) (v := 0) hX dX2_fillCourse_33 (by decide) rfl ?_
          refine J_sub (lv' := [(0, .ref m0), (1, .int p0), (2, .int p1), (3, .int x3_2), (4, .int r11)]) [1, 2, 3, 4, 0] rfl ?_
          exact J34 r11 0 hf
        · refine j_aload_n (pc' := 22) hX dX2_fillCourse_21 rfl 1 rfl rfl ?_
          refine j_get (ci := 2) (pc' := 25) hX hin2 rfl 0 rfl 5 (by decide) hl_32 rfl dX2_fillCourse_22 rfl ?_
          refine j_iconst (pc' := 26) (v := 1) hX dX2_fillCourse_25 (by decide) rfl ?_
          refine j_icmp_ne (tgt := 33) (pc' := 29) hX dX2_fillCourse_26 (by decide) rfl hf (fun hf => ?_) (fun hf => ?_)
          · refine j_iconst (pc' := 34) (v := 0) hX dX2_fillCourse_33 (by decide) rfl ?_
            refine J_sub (lv' := [(0, .ref m0), (1, .int p0), (2, .int p1), (3, .int x3_2), (4, .int r11)]) [1, 2, 3, 4, 0] rfl ?_
            exact J34 r11 0 hf
          · refine j_iconst (pc' := 30) (v := 1) hX dX2_fillCourse_29 (by decide) rfl ?_
            refine j_goto (tgt := 34) hX dX2_fillCourse_30 (by decide) ?_
            refine J_sub (lv' := [(0, .ref m0), (1, .int p0), (2, .int p1), (3, .int x3_2), (4, .int r11)]) [1, 2, 3, 4, 0] rfl ?_
            exact J34 r11 1 hf
  refine J_sub (lv' := [(0, .ref m0), (1, .int p0), (2, .int p1), (3, .int 0)]) [1, 2, 3, 0] rfl ?_
  refine L2 _ _ (fun e3 e4 hf => ?_) (fun e5 e6 hf => ?_) N2 0 vm hf
  · refine j_goto (tgt := 72) hX dX2_fillCourse_53 (by decide) ?_
    refine j_iload_n (pc' := 73) hX dX2_fillCourse_72 rfl 0 rfl rfl ?_
    exact j_iret hX hR dX2_fillCourse_73 ⟨_, _, rfl, hf, rfl⟩
  · refine j_iload_n (pc' := 73) hX dX2_fillCourse_72 rfl 0 rfl rfl ?_
    exact j_iret hX hR dX2_fillCourse_73 ⟨_, _, rfl, hf, rfl⟩
def wp_X2_pebblesOf_L11 (vm : Mo) (p0 : Int32) (r4 : Int32) (K11_41 : Int32 → Prop) : Nat → Int32 → Int32 → Prop
  | 0, _, _ => False
  | N11 + 1, x2_11, x4_11 =>
  ((r4 ≤ x4_11 → K11_41 x2_11) ∧ (¬ r4 ≤ x4_11 → (wp_X2_beginAt vm p0 x4_11 (fun r22 => ((r22 = 0 → (wp_X2_pebblesOf_L11 vm p0 r4 K11_41 N11) (x2_11 + 0) (x4_11 + 1)) ∧ (¬ r22 = 0 → (wp_X2_pebblesOf_L11 vm p0 r4 K11_41 N11) (x2_11 + 1) (x4_11 + 1)))))))
def wp_X2_pebblesOf (vm : Mo) (p0 : Int32) (post : Int32 → Prop) : Prop :=
  (wp_X2_takenOf vm p0 (fun r4 => (∃ N : Nat, wp_X2_pebblesOf_L11 vm p0 r4 (fun (e1 : Int32) => post e1) N 0 0)))
theorem yoX2_pebblesOf : yOk yX2_pebblesOf 1 := by decide +kernel
set_option maxHeartbeats 4000000 in
set_option maxRecDepth 100000 in
theorem met_X2_pebblesOf (l : Launch) (g : JG) (m0 : Nat) (m1 : Nat) (m2 : Nat) (m3 : Nat) (m4 : Nat) (vm : Mo) (p0 : Int32) (post : Int32 → Prop) (hf : wp_X2_pebblesOf vm p0 post) : MetR l yX2_pebblesOf wsX2_pebblesOf ({ frames := 2, cells := 0, slots := 0, locals := 42 } : Room) [.ref m0, .int p0] g (MoW g m0 m1 m2 m3 m4 vm) mkI post := by
  refine enterR (own := RX2) (cc := cX2_pebblesOf) (nL := 5) (ret := (some .int)) (lv := [(0, .ref m0), (1, .int p0)]) (by decide) rfl rfl (Nat.le_of_ble_eq_true rfl) rfl (fun X hX hR => ?_)
  unfold wp_X2_pebblesOf at hf
  refine j_iconst (pc' := 1) (v := 0) hX dX2_pebblesOf_0 (by decide) rfl ?_
  refine j_istore_n (pc' := 2) (lv' := [(2, .int 0), (0, .ref m0), (1, .int p0)]) hX dX2_pebblesOf_1 rfl (by decide) rfl rfl ?_
  refine j_aload_n (pc' := 3) hX dX2_pebblesOf_2 rfl 1 rfl rfl ?_
  refine j_iload_n (pc' := 4) hX dX2_pebblesOf_3 rfl 2 rfl rfl ?_
  refine j_callVR (ci := 2) (pc' := 7) (As := [.int p0]) (rest := []) (stk := fun r4 => [.int r4]) hX (fun l => met_X2_takenOf l g m0 m1 m2 m3 m4 vm p0 _ hf) rfl gX2_pebblesOf_X2_takenOf yoX2_takenOf rfl ⟨Nat.le_of_ble_eq_true rfl, Nat.le_of_ble_eq_true rfl⟩ ⟨⟨Nat.le_of_ble_eq_true rfl, Nat.le_of_ble_eq_true rfl⟩, rfl, rfl⟩ 0 rfl rfl [0, 1, 2, 3, 4] rfl (by decide) (Nat.le_of_ble_eq_true rfl) rfl (fun _ => rfl) dX2_pebblesOf_4 rfl (fun r4 hf => ?_)
  refine j_istore_n (pc' := 8) (lv' := [(3, .int r4), (2, .int 0), (0, .ref m0), (1, .int p0)]) hX dX2_pebblesOf_7 rfl (by decide) rfl rfl ?_
  refine j_iconst (pc' := 9) (v := 0) hX dX2_pebblesOf_8 (by decide) rfl ?_
  refine j_istore (pc' := 11) (lv' := [(4, .int 0), (3, .int r4), (2, .int 0), (0, .ref m0), (1, .int p0)]) hX dX2_pebblesOf_9 (by decide) rfl rfl ?_
  obtain ⟨N11, hf⟩ := hf
  have L11 : ∀ (K11_41 : Int32 → Prop), (∀ (x2_11 : Int32), K11_41 x2_11 → J g X 0 0 (MoW g m0 m1 m2 m3 m4 vm) [(2, .int x2_11)] [] 41) → ∀ (N11 : Nat) (x2_11 : Int32) (x4_11 : Int32), wp_X2_pebblesOf_L11 vm p0 r4 K11_41 N11 x2_11 x4_11 → J g X 0 0 (MoW g m0 m1 m2 m3 m4 vm) [(0, .ref m0), (1, .int p0), (2, .int x2_11), (3, .int r4), (4, .int x4_11)] [] 11 := by
    intro K11_41 hK11_41 N11
    induction N11 with
    | zero => intro x2_11 x4_11 hf; exact False.elim hf
    | succ N11 ih11 =>
      intro x2_11 x4_11 hf
      refine j_iload (pc' := 13) hX dX2_pebblesOf_11 4 rfl rfl ?_
      refine j_iload_n (pc' := 14) hX dX2_pebblesOf_13 rfl 3 rfl rfl ?_
      refine j_icmp_ge (tgt := 41) (pc' := 17) hX dX2_pebblesOf_14 (by decide) rfl hf (fun hf => ?_) (fun hf => ?_)
      · refine J_sub (lv' := [(2, .int x2_11)]) [2] rfl ?_
        exact hK11_41 x2_11 hf
      · refine j_iload_n (pc' := 18) hX dX2_pebblesOf_17 rfl 2 rfl rfl ?_
        refine j_aload_n (pc' := 19) hX dX2_pebblesOf_18 rfl 0 rfl rfl ?_
        refine j_iload_n (pc' := 20) hX dX2_pebblesOf_19 rfl 1 rfl rfl ?_
        refine j_iload (pc' := 22) hX dX2_pebblesOf_20 4 rfl rfl ?_
        refine j_callVR (ci := 2) (pc' := 25) (As := [.int p0, .int x4_11]) (rest := [.int x2_11]) (stk := fun r22 => [.int r22, .int x2_11]) hX (fun l => met_X2_beginAt l g m0 m1 m2 m3 m4 vm p0 x4_11 _ hf) rfl gX2_pebblesOf_X2_beginAt yoX2_beginAt rfl ⟨Nat.le_of_ble_eq_true rfl, Nat.le_of_ble_eq_true rfl⟩ ⟨⟨Nat.le_of_ble_eq_true rfl, Nat.le_of_ble_eq_true rfl⟩, rfl, rfl⟩ 0 rfl rfl [0, 1, 2, 3, 4] rfl (by decide) (Nat.le_of_ble_eq_true rfl) rfl (fun _ => rfl) dX2_pebblesOf_22 rfl (fun r22 hf => ?_)
        refine j_if_eq (tgt := 32) (pc' := 28) hX dX2_pebblesOf_25 (by decide) rfl hf (fun hf => ?_) (fun hf => ?_)
        · refine j_iconst (pc' := 33) (v := 0) hX dX2_pebblesOf_32 (by decide) rfl ?_
          refine j_iadd (pc' := 34) hX dX2_pebblesOf_33 rfl ?_
          refine j_istore_n (pc' := 35) (lv' := [(2, .int (x2_11 + 0)), (0, .ref m0), (1, .int p0), (3, .int r4), (4, .int x4_11)]) hX dX2_pebblesOf_34 rfl (by decide) rfl rfl ?_
          refine j_iinc (pc' := 38) (cst := 1) (v := (x4_11 + 1)) (lv' := [(4, .int (x4_11 + 1)), (2, .int (x2_11 + 0)), (0, .ref m0), (1, .int p0), (3, .int r4)]) hX dX2_pebblesOf_35 (by decide) rfl 4 rfl (by decide) rfl rfl ?_
          refine j_goto (tgt := 11) hX dX2_pebblesOf_38 (by decide) ?_
          refine J_sub (lv' := [(0, .ref m0), (1, .int p0), (2, .int (x2_11 + 0)), (3, .int r4), (4, .int (x4_11 + 1))]) [2, 3, 1, 4, 0] rfl ?_
          exact ih11 (x2_11 + 0) (x4_11 + 1) hf
        · refine j_iconst (pc' := 29) (v := 1) hX dX2_pebblesOf_28 (by decide) rfl ?_
          refine j_goto (tgt := 33) hX dX2_pebblesOf_29 (by decide) ?_
          refine j_iadd (pc' := 34) hX dX2_pebblesOf_33 rfl ?_
          refine j_istore_n (pc' := 35) (lv' := [(2, .int (x2_11 + 1)), (0, .ref m0), (1, .int p0), (3, .int r4), (4, .int x4_11)]) hX dX2_pebblesOf_34 rfl (by decide) rfl rfl ?_
          refine j_iinc (pc' := 38) (cst := 1) (v := (x4_11 + 1)) (lv' := [(4, .int (x4_11 + 1)), (2, .int (x2_11 + 1)), (0, .ref m0), (1, .int p0), (3, .int r4)]) hX dX2_pebblesOf_35 (by decide) rfl 4 rfl (by decide) rfl rfl ?_
          refine j_goto (tgt := 11) hX dX2_pebblesOf_38 (by decide) ?_
          refine J_sub (lv' := [(0, .ref m0), (1, .int p0), (2, .int (x2_11 + 1)), (3, .int r4), (4, .int (x4_11 + 1))]) [2, 3, 1, 4, 0] rfl ?_
          exact ih11 (x2_11 + 1) (x4_11 + 1) hf
  refine J_sub (lv' := [(0, .ref m0), (1, .int p0), (2, .int 0), (3, .int r4), (4, .int 0)]) [3, 4, 2, 1, 0] rfl ?_
  refine L11 _ (fun e1 hf => ?_) N11 0 0 hf
  refine j_iload_n (pc' := 42) hX dX2_pebblesOf_41 rfl 0 rfl rfl ?_
  exact j_iret hX hR dX2_pebblesOf_42 ⟨_, rfl, hf⟩
def wp_X2_fillersOf_L11 (vm : Mo) (p0 : Int32) (r4 : Int32) (K11_41 : Int32 → Prop) : Nat → Int32 → Int32 → Prop
  | 0, _, _ => False
  | N11 + 1, x2_11, x4_11 =>
  ((r4 ≤ x4_11 → K11_41 x2_11) ∧ (¬ r4 ≤ x4_11 → (wp_X2_beginAt vm p0 x4_11 (fun r22 => ((0 ≤ r22 → (wp_X2_fillersOf_L11 vm p0 r4 K11_41 N11) (x2_11 + 0) (x4_11 + 1)) ∧ (¬ 0 ≤ r22 → (wp_X2_fillersOf_L11 vm p0 r4 K11_41 N11) (x2_11 + 1) (x4_11 + 1)))))))
def wp_X2_fillersOf (vm : Mo) (p0 : Int32) (post : Int32 → Prop) : Prop :=
  (wp_X2_takenOf vm p0 (fun r4 => (∃ N : Nat, wp_X2_fillersOf_L11 vm p0 r4 (fun (e1 : Int32) => post e1) N 0 0)))
theorem yoX2_fillersOf : yOk yX2_fillersOf 1 := by decide +kernel
set_option maxHeartbeats 4000000 in
set_option maxRecDepth 100000 in
theorem met_X2_fillersOf (l : Launch) (g : JG) (m0 : Nat) (m1 : Nat) (m2 : Nat) (m3 : Nat) (m4 : Nat) (vm : Mo) (p0 : Int32) (post : Int32 → Prop) (hf : wp_X2_fillersOf vm p0 post) : MetR l yX2_fillersOf wsX2_fillersOf ({ frames := 2, cells := 0, slots := 0, locals := 42 } : Room) [.ref m0, .int p0] g (MoW g m0 m1 m2 m3 m4 vm) mkI post := by
  refine enterR (own := RX2) (cc := cX2_fillersOf) (nL := 5) (ret := (some .int)) (lv := [(0, .ref m0), (1, .int p0)]) (by decide) rfl rfl (Nat.le_of_ble_eq_true rfl) rfl (fun X hX hR => ?_)
  unfold wp_X2_fillersOf at hf
  refine j_iconst (pc' := 1) (v := 0) hX dX2_fillersOf_0 (by decide) rfl ?_
  refine j_istore_n (pc' := 2) (lv' := [(2, .int 0), (0, .ref m0), (1, .int p0)]) hX dX2_fillersOf_1 rfl (by decide) rfl rfl ?_
  refine j_aload_n (pc' := 3) hX dX2_fillersOf_2 rfl 1 rfl rfl ?_
  refine j_iload_n (pc' := 4) hX dX2_fillersOf_3 rfl 2 rfl rfl ?_
  refine j_callVR (ci := 2) (pc' := 7) (As := [.int p0]) (rest := []) (stk := fun r4 => [.int r4]) hX (fun l => met_X2_takenOf l g m0 m1 m2 m3 m4 vm p0 _ hf) rfl gX2_fillersOf_X2_takenOf yoX2_takenOf rfl ⟨Nat.le_of_ble_eq_true rfl, Nat.le_of_ble_eq_true rfl⟩ ⟨⟨Nat.le_of_ble_eq_true rfl, Nat.le_of_ble_eq_true rfl⟩, rfl, rfl⟩ 0 rfl rfl [0, 1, 2, 3, 4] rfl (by decide) (Nat.le_of_ble_eq_true rfl) rfl (fun _ => rfl) dX2_fillersOf_4 rfl (fun r4 hf => ?_)
  refine j_istore_n (pc' := 8) (lv' := [(3, .int r4), (2, .int 0), (0, .ref m0), (1, .int p0)]) hX dX2_fillersOf_7 rfl (by decide) rfl rfl ?_
  refine j_iconst (pc' := 9) (v := 0) hX dX2_fillersOf_8 (by decide) rfl ?_
  refine j_istore (pc' := 11) (lv' := [(4, .int 0), (3, .int r4), (2, .int 0), (0, .ref m0), (1, .int p0)]) hX dX2_fillersOf_9 (by decide) rfl rfl ?_
  obtain ⟨N11, hf⟩ := hf
  have L11 : ∀ (K11_41 : Int32 → Prop), (∀ (x2_11 : Int32), K11_41 x2_11 → J g X 0 0 (MoW g m0 m1 m2 m3 m4 vm) [(2, .int x2_11)] [] 41) → ∀ (N11 : Nat) (x2_11 : Int32) (x4_11 : Int32), wp_X2_fillersOf_L11 vm p0 r4 K11_41 N11 x2_11 x4_11 → J g X 0 0 (MoW g m0 m1 m2 m3 m4 vm) [(0, .ref m0), (1, .int p0), (2, .int x2_11), (3, .int r4), (4, .int x4_11)] [] 11 := by
    intro K11_41 hK11_41 N11
    induction N11 with
    | zero => intro x2_11 x4_11 hf; exact False.elim hf
    | succ N11 ih11 =>
      intro x2_11 x4_11 hf
      refine j_iload (pc' := 13) hX dX2_fillersOf_11 4 rfl rfl ?_
      refine j_iload_n (pc' := 14) hX dX2_fillersOf_13 rfl 3 rfl rfl ?_
      refine j_icmp_ge (tgt := 41) (pc' := 17) hX dX2_fillersOf_14 (by decide) rfl hf (fun hf => ?_) (fun hf => ?_)
      · refine J_sub (lv' := [(2, .int x2_11)]) [2] rfl ?_
        exact hK11_41 x2_11 hf
      · refine j_iload_n (pc' := 18) hX dX2_fillersOf_17 rfl 2 rfl rfl ?_
        refine j_aload_n (pc' := 19) hX dX2_fillersOf_18 rfl 0 rfl rfl ?_
        refine j_iload_n (pc' := 20) hX dX2_fillersOf_19 rfl 1 rfl rfl ?_
        refine j_iload (pc' := 22) hX dX2_fillersOf_20 4 rfl rfl ?_
        refine j_callVR (ci := 2) (pc' := 25) (As := [.int p0, .int x4_11]) (rest := [.int x2_11]) (stk := fun r22 => [.int r22, .int x2_11]) hX (fun l => met_X2_beginAt l g m0 m1 m2 m3 m4 vm p0 x4_11 _ hf) rfl gX2_fillersOf_X2_beginAt yoX2_beginAt rfl ⟨Nat.le_of_ble_eq_true rfl, Nat.le_of_ble_eq_true rfl⟩ ⟨⟨Nat.le_of_ble_eq_true rfl, Nat.le_of_ble_eq_true rfl⟩, rfl, rfl⟩ 0 rfl rfl [0, 1, 2, 3, 4] rfl (by decide) (Nat.le_of_ble_eq_true rfl) rfl (fun _ => rfl) dX2_fillersOf_22 rfl (fun r22 hf => ?_)
        refine j_if_ge (tgt := 32) (pc' := 28) hX dX2_fillersOf_25 (by decide) rfl hf (fun hf => ?_) (fun hf => ?_)
        · refine j_iconst (pc' := 33) (v := 0) hX dX2_fillersOf_32 (by decide) rfl ?_
          refine j_iadd (pc' := 34) hX dX2_fillersOf_33 rfl ?_
          refine j_istore_n (pc' := 35) (lv' := [(2, .int (x2_11 + 0)), (0, .ref m0), (1, .int p0), (3, .int r4), (4, .int x4_11)]) hX dX2_fillersOf_34 rfl (by decide) rfl rfl ?_
          refine j_iinc (pc' := 38) (cst := 1) (v := (x4_11 + 1)) (lv' := [(4, .int (x4_11 + 1)), (2, .int (x2_11 + 0)), (0, .ref m0), (1, .int p0), (3, .int r4)]) hX dX2_fillersOf_35 (by decide) rfl 4 rfl (by decide) rfl rfl ?_
          refine j_goto (tgt := 11) hX dX2_fillersOf_38 (by decide) ?_
          refine J_sub (lv' := [(0, .ref m0), (1, .int p0), (2, .int (x2_11 + 0)), (3, .int r4), (4, .int (x4_11 + 1))]) [2, 3, 1, 4, 0] rfl ?_
          exact ih11 (x2_11 + 0) (x4_11 + 1) hf
        · refine j_iconst (pc' := 29) (v := 1) hX dX2_fillersOf_28 (by decide) rfl ?_
          refine j_goto (tgt := 33) hX dX2_fillersOf_29 (by decide) ?_
          refine j_iadd (pc' := 34) hX dX2_fillersOf_33 rfl ?_
          refine j_istore_n (pc' := 35) (lv' := [(2, .int (x2_11 + 1)), (0, .ref m0), (1, .int p0), (3, .int r4), (4, .int x4_11)]) hX dX2_fillersOf_34 rfl (by decide) rfl rfl ?_
          refine j_iinc (pc' := 38) (cst := 1) (v := (x4_11 + 1)) (lv' := [(4, .int (x4_11 + 1)), (2, .int (x2_11 + 1)), (0, .ref m0), (1, .int p0), (3, .int r4)]) hX dX2_fillersOf_35 (by decide) rfl 4 rfl (by decide) rfl rfl ?_
          refine j_goto (tgt := 11) hX dX2_fillersOf_38 (by decide) ?_
          refine J_sub (lv' := [(0, .ref m0), (1, .int p0), (2, .int (x2_11 + 1)), (3, .int r4), (4, .int (x4_11 + 1))]) [2, 3, 1, 4, 0] rfl ?_
          exact ih11 (x2_11 + 1) (x4_11 + 1) hf
  refine J_sub (lv' := [(0, .ref m0), (1, .int p0), (2, .int 0), (3, .int r4), (4, .int 0)]) [3, 4, 2, 1, 0] rfl ?_
  refine L11 _ (fun e1 hf => ?_) N11 0 0 hf
  refine j_iload_n (pc' := 42) hX dX2_fillersOf_41 rfl 0 rfl rfl ?_
  exact j_iret hX hR dX2_fillersOf_42 ⟨_, rfl, hf⟩
def wp_X2_jointsOf_L11 (vm : Mo) (p0 : Int32) (r4 : Int32) (K11_41 : Int32 → Prop) : Nat → Int32 → Int32 → Prop
  | 0, _, _ => False
  | N11 + 1, x2_11, x4_11 =>
  ((r4 ≤ x4_11 → K11_41 x2_11) ∧ (¬ r4 ≤ x4_11 → (wp_X2_hasJoint vm p0 x4_11 (fun r22 => ((r22 = 0 → (wp_X2_jointsOf_L11 vm p0 r4 K11_41 N11) (x2_11 + 0) (x4_11 + 1)) ∧ (¬ r22 = 0 → (wp_X2_jointsOf_L11 vm p0 r4 K11_41 N11) (x2_11 + 1) (x4_11 + 1)))))))
def wp_X2_jointsOf (vm : Mo) (p0 : Int32) (post : Int32 → Prop) : Prop :=
  (wp_X2_cellsOf vm p0 (fun r4 => (∃ N : Nat, wp_X2_jointsOf_L11 vm p0 r4 (fun (e1 : Int32) => post e1) N 0 0)))
theorem yoX2_jointsOf : yOk yX2_jointsOf 1 := by decide +kernel
set_option maxHeartbeats 4000000 in
set_option maxRecDepth 100000 in
theorem met_X2_jointsOf (l : Launch) (g : JG) (m0 : Nat) (m1 : Nat) (m2 : Nat) (m3 : Nat) (m4 : Nat) (vm : Mo) (p0 : Int32) (post : Int32 → Prop) (hf : wp_X2_jointsOf vm p0 post) : MetR l yX2_jointsOf wsX2_jointsOf ({ frames := 2, cells := 0, slots := 0, locals := 41 } : Room) [.ref m0, .int p0] g (MoW g m0 m1 m2 m3 m4 vm) mkI post := by
  refine enterR (own := RX2) (cc := cX2_jointsOf) (nL := 5) (ret := (some .int)) (lv := [(0, .ref m0), (1, .int p0)]) (by decide) rfl rfl (Nat.le_of_ble_eq_true rfl) rfl (fun X hX hR => ?_)
  unfold wp_X2_jointsOf at hf
  refine j_iconst (pc' := 1) (v := 0) hX dX2_jointsOf_0 (by decide) rfl ?_
  refine j_istore_n (pc' := 2) (lv' := [(2, .int 0), (0, .ref m0), (1, .int p0)]) hX dX2_jointsOf_1 rfl (by decide) rfl rfl ?_
  refine j_aload_n (pc' := 3) hX dX2_jointsOf_2 rfl 1 rfl rfl ?_
  refine j_iload_n (pc' := 4) hX dX2_jointsOf_3 rfl 2 rfl rfl ?_
  refine j_callVR (ci := 2) (pc' := 7) (As := [.int p0]) (rest := []) (stk := fun r4 => [.int r4]) hX (fun l => met_X2_cellsOf l g m0 m1 m2 m3 m4 vm p0 _ hf) rfl gX2_jointsOf_X2_cellsOf yoX2_cellsOf rfl ⟨Nat.le_of_ble_eq_true rfl, Nat.le_of_ble_eq_true rfl⟩ ⟨⟨Nat.le_of_ble_eq_true rfl, Nat.le_of_ble_eq_true rfl⟩, rfl, rfl⟩ 0 rfl rfl [0, 1, 2, 3, 4] rfl (by decide) (Nat.le_of_ble_eq_true rfl) rfl (fun _ => rfl) dX2_jointsOf_4 rfl (fun r4 hf => ?_)
  refine j_istore_n (pc' := 8) (lv' := [(3, .int r4), (2, .int 0), (0, .ref m0), (1, .int p0)]) hX dX2_jointsOf_7 rfl (by decide) rfl rfl ?_
  refine j_iconst (pc' := 9) (v := 0) hX dX2_jointsOf_8 (by decide) rfl ?_
  refine j_istore (pc' := 11) (lv' := [(4, .int 0), (3, .int r4), (2, .int 0), (0, .ref m0), (1, .int p0)]) hX dX2_jointsOf_9 (by decide) rfl rfl ?_
  obtain ⟨N11, hf⟩ := hf
  have L11 : ∀ (K11_41 : Int32 → Prop), (∀ (x2_11 : Int32), K11_41 x2_11 → J g X 0 0 (MoW g m0 m1 m2 m3 m4 vm) [(2, .int x2_11)] [] 41) → ∀ (N11 : Nat) (x2_11 : Int32) (x4_11 : Int32), wp_X2_jointsOf_L11 vm p0 r4 K11_41 N11 x2_11 x4_11 → J g X 0 0 (MoW g m0 m1 m2 m3 m4 vm) [(0, .ref m0), (1, .int p0), (2, .int x2_11), (3, .int r4), (4, .int x4_11)] [] 11 := by
    intro K11_41 hK11_41 N11
    induction N11 with
    | zero => intro x2_11 x4_11 hf; exact False.elim hf
    | succ N11 ih11 =>
      intro x2_11 x4_11 hf
      refine j_iload (pc' := 13) hX dX2_jointsOf_11 4 rfl rfl ?_
      refine j_iload_n (pc' := 14) hX dX2_jointsOf_13 rfl 3 rfl rfl ?_
      refine j_icmp_ge (tgt := 41) (pc' := 17) hX dX2_jointsOf_14 (by decide) rfl hf (fun hf => ?_) (fun hf => ?_)
      · refine J_sub (lv' := [(2, .int x2_11)]) [2] rfl ?_
        exact hK11_41 x2_11 hf
      · refine j_iload_n (pc' := 18) hX dX2_jointsOf_17 rfl 2 rfl rfl ?_
        refine j_aload_n (pc' := 19) hX dX2_jointsOf_18 rfl 0 rfl rfl ?_
        refine j_iload_n (pc' := 20) hX dX2_jointsOf_19 rfl 1 rfl rfl ?_
        refine j_iload (pc' := 22) hX dX2_jointsOf_20 4 rfl rfl ?_
        refine j_callVR (ci := 2) (pc' := 25) (As := [.int p0, .int x4_11]) (rest := [.int x2_11]) (stk := fun r22 => [.int r22, .int x2_11]) hX (fun l => met_X2_hasJoint l g m0 m1 m2 m3 m4 vm p0 x4_11 _ hf) rfl gX2_jointsOf_X2_hasJoint yoX2_hasJoint rfl ⟨Nat.le_of_ble_eq_true rfl, Nat.le_of_ble_eq_true rfl⟩ ⟨⟨Nat.le_of_ble_eq_true rfl, Nat.le_of_ble_eq_true rfl⟩, rfl, rfl⟩ 0 rfl rfl [0, 1, 2, 3, 4] rfl (by decide) (Nat.le_of_ble_eq_true rfl) rfl (fun _ => rfl) dX2_jointsOf_22 rfl (fun r22 hf => ?_)
        refine j_if_eq (tgt := 32) (pc' := 28) hX dX2_jointsOf_25 (by decide) rfl hf (fun hf => ?_) (fun hf => ?_)
        · refine j_iconst (pc' := 33) (v := 0) hX dX2_jointsOf_32 (by decide) rfl ?_
          refine j_iadd (pc' := 34) hX dX2_jointsOf_33 rfl ?_
          refine j_istore_n (pc' := 35) (lv' := [(2, .int (x2_11 + 0)), (0, .ref m0), (1, .int p0), (3, .int r4), (4, .int x4_11)]) hX dX2_jointsOf_34 rfl (by decide) rfl rfl ?_
          refine j_iinc (pc' := 38) (cst := 1) (v := (x4_11 + 1)) (lv' := [(4, .int (x4_11 + 1)), (2, .int (x2_11 + 0)), (0, .ref m0), (1, .int p0), (3, .int r4)]) hX dX2_jointsOf_35 (by decide) rfl 4 rfl (by decide) rfl rfl ?_
          refine j_goto (tgt := 11) hX dX2_jointsOf_38 (by decide) ?_
          refine J_sub (lv' := [(0, .ref m0), (1, .int p0), (2, .int (x2_11 + 0)), (3, .int r4), (4, .int (x4_11 + 1))]) [2, 3, 1, 4, 0] rfl ?_
          exact ih11 (x2_11 + 0) (x4_11 + 1) hf
        · refine j_iconst (pc' := 29) (v := 1) hX dX2_jointsOf_28 (by decide) rfl ?_
          refine j_goto (tgt := 33) hX dX2_jointsOf_29 (by decide) ?_
          refine j_iadd (pc' := 34) hX dX2_jointsOf_33 rfl ?_
          refine j_istore_n (pc' := 35) (lv' := [(2, .int (x2_11 + 1)), (0, .ref m0), (1, .int p0), (3, .int r4), (4, .int x4_11)]) hX dX2_jointsOf_34 rfl (by decide) rfl rfl ?_
          refine j_iinc (pc' := 38) (cst := 1) (v := (x4_11 + 1)) (lv' := [(4, .int (x4_11 + 1)), (2, .int (x2_11 + 1)), (0, .ref m0), (1, .int p0), (3, .int r4)]) hX dX2_jointsOf_35 (by decide) rfl 4 rfl (by decide) rfl rfl ?_
          refine j_goto (tgt := 11) hX dX2_jointsOf_38 (by decide) ?_
          refine J_sub (lv' := [(0, .ref m0), (1, .int p0), (2, .int (x2_11 + 1)), (3, .int r4), (4, .int (x4_11 + 1))]) [2, 3, 1, 4, 0] rfl ?_
          exact ih11 (x2_11 + 1) (x4_11 + 1) hf
  refine J_sub (lv' := [(0, .ref m0), (1, .int p0), (2, .int 0), (3, .int r4), (4, .int 0)]) [3, 4, 2, 1, 0] rfl ?_
  refine L11 _ (fun e1 hf => ?_) N11 0 0 hf
  refine j_iload_n (pc' := 42) hX dX2_jointsOf_41 rfl 0 rfl rfl ?_
  exact j_iret hX hR dX2_jointsOf_42 ⟨_, rfl, hf⟩
def wp_X2_meetingJointsOf_L11 (vm : Mo) (p0 : Int32) (r4 : Int32) (K11_58 : Int32 → Prop) : Nat → Int32 → Int32 → Prop
  | 0, _, _ => False
  | N11 + 1, x2_11, x4_11 =>
  ((r4 ≤ x4_11 → K11_58 x2_11) ∧ (¬ r4 ≤ x4_11 → (wp_X2_hasJoint vm p0 x4_11 (fun r22 => ((r22 = 0 → (wp_X2_meetingJointsOf_L11 vm p0 r4 K11_58 N11) (x2_11 + 0) (x4_11 + 1)) ∧ (¬ r22 = 0 → (wp_X2_meets vm p0 x4_11 (fun r36 => (wp_X2_hasJoint vm (p0 - 1) r36 (fun r39 => ((r39 = 0 → (wp_X2_meetingJointsOf_L11 vm p0 r4 K11_58 N11) (x2_11 + 0) (x4_11 + 1)) ∧ (¬ r39 = 0 → (wp_X2_meetingJointsOf_L11 vm p0 r4 K11_58 N11) (x2_11 + 1) (x4_11 + 1)))))))))))))
def wp_X2_meetingJointsOf (vm : Mo) (p0 : Int32) (post : Int32 → Prop) : Prop :=
  (wp_X2_cellsOf vm p0 (fun r4 => (∃ N : Nat, wp_X2_meetingJointsOf_L11 vm p0 r4 (fun (e1 : Int32) => post e1) N 0 1)))
theorem yoX2_meetingJointsOf : yOk yX2_meetingJointsOf 1 := by decide +kernel
set_option maxHeartbeats 4000000 in
set_option maxRecDepth 100000 in
theorem met_X2_meetingJointsOf (l : Launch) (g : JG) (m0 : Nat) (m1 : Nat) (m2 : Nat) (m3 : Nat) (m4 : Nat) (vm : Mo) (p0 : Int32) (post : Int32 → Prop) (hf : wp_X2_meetingJointsOf vm p0 post) : MetR l yX2_meetingJointsOf wsX2_meetingJointsOf ({ frames := 2, cells := 0, slots := 0, locals := 41 } : Room) [.ref m0, .int p0] g (MoW g m0 m1 m2 m3 m4 vm) mkI post := by
  refine enterR (own := RX2) (cc := cX2_meetingJointsOf) (nL := 5) (ret := (some .int)) (lv := [(0, .ref m0), (1, .int p0)]) (by decide) rfl rfl (Nat.le_of_ble_eq_true rfl) rfl (fun X hX hR => ?_)
  unfold wp_X2_meetingJointsOf at hf
  refine j_iconst (pc' := 1) (v := 0) hX dX2_meetingJointsOf_0 (by decide) rfl ?_
  refine j_istore_n (pc' := 2) (lv' := [(2, .int 0), (0, .ref m0), (1, .int p0)]) hX dX2_meetingJointsOf_1 rfl (by decide) rfl rfl ?_
  refine j_aload_n (pc' := 3) hX dX2_meetingJointsOf_2 rfl 1 rfl rfl ?_
  refine j_iload_n (pc' := 4) hX dX2_meetingJointsOf_3 rfl 2 rfl rfl ?_
  refine j_callVR (ci := 2) (pc' := 7) (As := [.int p0]) (rest := []) (stk := fun r4 => [.int r4]) hX (fun l => met_X2_cellsOf l g m0 m1 m2 m3 m4 vm p0 _ hf) rfl gX2_meetingJointsOf_X2_cellsOf yoX2_cellsOf rfl ⟨Nat.le_of_ble_eq_true rfl, Nat.le_of_ble_eq_true rfl⟩ ⟨⟨Nat.le_of_ble_eq_true rfl, Nat.le_of_ble_eq_true rfl⟩, rfl, rfl⟩ 0 rfl rfl [0, 1, 2, 3, 4] rfl (by decide) (Nat.le_of_ble_eq_true rfl) rfl (fun _ => rfl) dX2_meetingJointsOf_4 rfl (fun r4 hf => ?_)
  refine j_istore_n (pc' := 8) (lv' := [(3, .int r4), (2, .int 0), (0, .ref m0), (1, .int p0)]) hX dX2_meetingJointsOf_7 rfl (by decide) rfl rfl ?_
  refine j_iconst (pc' := 9) (v := 1) hX dX2_meetingJointsOf_8 (by decide) rfl ?_
  refine j_istore (pc' := 11) (lv' := [(4, .int 1), (3, .int r4), (2, .int 0), (0, .ref m0), (1, .int p0)]) hX dX2_meetingJointsOf_9 (by decide) rfl rfl ?_
  obtain ⟨N11, hf⟩ := hf
  have L11 : ∀ (K11_58 : Int32 → Prop), (∀ (x2_11 : Int32), K11_58 x2_11 → J g X 0 0 (MoW g m0 m1 m2 m3 m4 vm) [(2, .int x2_11)] [] 58) → ∀ (N11 : Nat) (x2_11 : Int32) (x4_11 : Int32), wp_X2_meetingJointsOf_L11 vm p0 r4 K11_58 N11 x2_11 x4_11 → J g X 0 0 (MoW g m0 m1 m2 m3 m4 vm) [(0, .ref m0), (1, .int p0), (2, .int x2_11), (3, .int r4), (4, .int x4_11)] [] 11 := by
    intro K11_58 hK11_58 N11
    induction N11 with
    | zero => intro x2_11 x4_11 hf; exact False.elim hf
    | succ N11 ih11 =>
      intro x2_11 x4_11 hf
      refine j_iload (pc' := 13) hX dX2_meetingJointsOf_11 4 rfl rfl ?_
      refine j_iload_n (pc' := 14) hX dX2_meetingJointsOf_13 rfl 3 rfl rfl ?_
      refine j_icmp_ge (tgt := 58) (pc' := 17) hX dX2_meetingJointsOf_14 (by decide) rfl hf (fun hf => ?_) (fun hf => ?_)
      · refine J_sub (lv' := [(2, .int x2_11)]) [2] rfl ?_
        exact hK11_58 x2_11 hf
      · refine j_iload_n (pc' := 18) hX dX2_meetingJointsOf_17 rfl 2 rfl rfl ?_
        refine j_aload_n (pc' := 19) hX dX2_meetingJointsOf_18 rfl 0 rfl rfl ?_
        refine j_iload_n (pc' := 20) hX dX2_meetingJointsOf_19 rfl 1 rfl rfl ?_
        refine j_iload (pc' := 22) hX dX2_meetingJointsOf_20 4 rfl rfl ?_
        refine j_callVR (ci := 2) (pc' := 25) (As := [.int p0, .int x4_11]) (rest := [.int x2_11]) (stk := fun r22 => [.int r22, .int x2_11]) hX (fun l => met_X2_hasJoint l g m0 m1 m2 m3 m4 vm p0 x4_11 _ hf) rfl gX2_meetingJointsOf_X2_hasJoint yoX2_hasJoint rfl ⟨Nat.le_of_ble_eq_true rfl, Nat.le_of_ble_eq_true rfl⟩ ⟨⟨Nat.le_of_ble_eq_true rfl, Nat.le_of_ble_eq_true rfl⟩, rfl, rfl⟩ 0 rfl rfl [0, 1, 2, 3, 4] rfl (by decide) (Nat.le_of_ble_eq_true rfl) rfl (fun _ => rfl) dX2_meetingJointsOf_22 rfl (fun r22 hf => ?_)
        refine j_if_eq (tgt := 49) (pc' := 28) hX dX2_meetingJointsOf_25 (by decide) rfl hf (fun hf => ?_) (fun hf => ?_)
        · refine j_iconst (pc' := 50) (v := 0) hX dX2_meetingJointsOf_49 (by decide) rfl ?_
          refine j_iadd (pc' := 51) hX dX2_meetingJointsOf_50 rfl ?_
          refine j_istore_n (pc' := 52) (lv' := [(2, .int (x2_11 + 0)), (0, .ref m0), (1, .int p0), (3, .int r4), (4, .int x4_11)]) hX dX2_meetingJointsOf_51 rfl (by decide) rfl rfl ?_
          refine j_iinc (pc' := 55) (cst := 1) (v := (x4_11 + 1)) (lv' := [(4, .int (x4_11 + 1)), (2, .int (x2_11 + 0)), (0, .ref m0), (1, .int p0), (3, .int r4)]) hX dX2_meetingJointsOf_52 (by decide) rfl 4 rfl (by decide) rfl rfl ?_
          refine j_goto (tgt := 11) hX dX2_meetingJointsOf_55 (by decide) ?_
          refine J_sub (lv' := [(0, .ref m0), (1, .int p0), (2, .int (x2_11 + 0)), (3, .int r4), (4, .int (x4_11 + 1))]) [2, 3, 1, 4, 0] rfl ?_
          exact ih11 (x2_11 + 0) (x4_11 + 1) hf
        · refine j_aload_n (pc' := 29) hX dX2_meetingJointsOf_28 rfl 0 rfl rfl ?_
          refine j_iload_n (pc' := 30) hX dX2_meetingJointsOf_29 rfl 1 rfl rfl ?_
          refine j_iconst (pc' := 31) (v := 1) hX dX2_meetingJointsOf_30 (by decide) rfl ?_
          refine j_isub (pc' := 32) hX dX2_meetingJointsOf_31 rfl ?_
          refine j_aload_n (pc' := 33) hX dX2_meetingJointsOf_32 rfl 0 rfl rfl ?_
          refine j_iload_n (pc' := 34) hX dX2_meetingJointsOf_33 rfl 1 rfl rfl ?_
          refine j_iload (pc' := 36) hX dX2_meetingJointsOf_34 4 rfl rfl ?_
          refine j_callVR (ci := 2) (pc' := 39) (As := [.int p0, .int x4_11]) (rest := [.int (p0 - 1), .ref m0, .int x2_11]) (stk := fun r36 => [.int r36, .int (p0 - 1), .ref m0, .int x2_11]) hX (fun l => met_X2_meets l g m0 m1 m2 m3 m4 vm p0 x4_11 _ hf) rfl gX2_meetingJointsOf_X2_meets yoX2_meets rfl ⟨Nat.le_of_ble_eq_true rfl, Nat.le_of_ble_eq_true rfl⟩ ⟨⟨Nat.le_of_ble_eq_true rfl, Nat.le_of_ble_eq_true rfl⟩, rfl, rfl⟩ 0 rfl rfl [0, 1, 2, 3, 4] rfl (by decide) (Nat.le_of_ble_eq_true rfl) rfl (fun _ => rfl) dX2_meetingJointsOf_36 rfl (fun r36 hf => ?_)
          refine j_callVR (ci := 2) (pc' := 42) (As := [.int (p0 - 1), .int r36]) (rest := [.int x2_11]) (stk := fun r39 => [.int r39, .int x2_11]) hX (fun l => met_X2_hasJoint l g m0 m1 m2 m3 m4 vm (p0 - 1) r36 _ hf) rfl gX2_meetingJointsOf_X2_hasJoint yoX2_hasJoint rfl ⟨Nat.le_of_ble_eq_true rfl, Nat.le_of_ble_eq_true rfl⟩ ⟨⟨Nat.le_of_ble_eq_true rfl, Nat.le_of_ble_eq_true rfl⟩, rfl, rfl⟩ 0 rfl rfl [0, 1, 2, 3, 4] rfl (by decide) (Nat.le_of_ble_eq_true rfl) rfl (fun _ => rfl) dX2_meetingJointsOf_39 rfl (fun r39 hf => ?_)
          refine j_if_eq (tgt := 49) (pc' := 45) hX dX2_meetingJointsOf_42 (by decide) rfl hf (fun hf => ?_) (fun hf => ?_)
          · refine j_iconst (pc' := 50) (v := 0) hX dX2_meetingJointsOf_49 (by decide) rfl ?_
            refine j_iadd (pc' := 51) hX dX2_meetingJointsOf_50 rfl ?_
            refine j_istore_n (pc' := 52) (lv' := [(2, .int (x2_11 + 0)), (0, .ref m0), (1, .int p0), (3, .int r4), (4, .int x4_11)]) hX dX2_meetingJointsOf_51 rfl (by decide) rfl rfl ?_
            refine j_iinc (pc' := 55) (cst := 1) (v := (x4_11 + 1)) (lv' := [(4, .int (x4_11 + 1)), (2, .int (x2_11 + 0)), (0, .ref m0), (1, .int p0), (3, .int r4)]) hX dX2_meetingJointsOf_52 (by decide) rfl 4 rfl (by decide) rfl rfl ?_
            refine j_goto (tgt := 11) hX dX2_meetingJointsOf_55 (by decide) ?_
            refine J_sub (lv' := [(0, .ref m0), (1, .int p0), (2, .int (x2_11 + 0)), (3, .int r4), (4, .int (x4_11 + 1))]) [2, 3, 1, 4, 0] rfl ?_
            exact ih11 (x2_11 + 0) (x4_11 + 1) hf
          · refine j_iconst (pc' := 46) (v := 1) hX dX2_meetingJointsOf_45 (by decide) rfl ?_
            refine j_goto (tgt := 50) hX dX2_meetingJointsOf_46 (by decide) ?_
            refine j_iadd (pc' := 51) hX dX2_meetingJointsOf_50 rfl ?_
            refine j_istore_n (pc' := 52) (lv' := [(2, .int (x2_11 + 1)), (0, .ref m0), (1, .int p0), (3, .int r4), (4, .int x4_11)]) hX dX2_meetingJointsOf_51 rfl (by decide) rfl rfl ?_
            refine j_iinc (pc' := 55) (cst := 1) (v := (x4_11 + 1)) (lv' := [(4, .int (x4_11 + 1)), (2, .int (x2_11 + 1)), (0, .ref m0), (1, .int p0), (3, .int r4)]) hX dX2_meetingJointsOf_52 (by decide) rfl 4 rfl (by decide) rfl rfl ?_
            refine j_goto (tgt := 11) hX dX2_meetingJointsOf_55 (by decide) ?_
            refine J_sub (lv' := [(0, .ref m0), (1, .int p0), (2, .int (x2_11 + 1)), (3, .int r4), (4, .int (x4_11 + 1))]) [2, 3, 1, 4, 0] rfl ?_
            exact ih11 (x2_11 + 1) (x4_11 + 1) hf
  refine J_sub (lv' := [(0, .ref m0), (1, .int p0), (2, .int 0), (3, .int r4), (4, .int 1)]) [3, 4, 2, 1, 0] rfl ?_
  refine L11 _ (fun e1 hf => ?_) N11 0 1 hf
  refine j_iload_n (pc' := 59) hX dX2_meetingJointsOf_58 rfl 0 rfl rfl ?_
  exact j_iret hX hR dX2_meetingJointsOf_59 ⟨_, rfl, hf⟩
def wp_X2_property (vm : Mo) (p0 : Int32) (p1 : Int32) (post : Int32 → Prop) : Prop :=
  ((p1 = 0 → (wp_X2_cellsOf vm p0 (fun r42 => post r42))) ∧ (¬ p1 = 0 → ((p1 = 1 → (wp_X2_pebblesOf vm p0 (fun r48 => post r48))) ∧ (¬ p1 = 1 → ((p1 = 2 → (wp_X2_freeOf vm p0 (fun r54 => post r54))) ∧ (¬ p1 = 2 → ((p1 = 3 → (wp_X2_freeOf vm p0 (fun r60 => ((r60 = 0 → post 1) ∧ (¬ r60 = 0 → post 0))))) ∧ (¬ p1 = 3 → ((p1 = 4 → (wp_X2_jointsOf vm p0 (fun r74 => post r74))) ∧ (¬ p1 = 4 → ((p1 = 5 → (wp_X2_meetingJointsOf vm p0 (fun r80 => post r80))) ∧ (¬ p1 = 5 → (wp_X2_fillersOf vm p0 (fun r86 => post r86))))))))))))))
theorem yoX2_property : yOk yX2_property 2 := by decide +kernel
set_option maxHeartbeats 4000000 in
set_option maxRecDepth 100000 in
theorem met_X2_property (l : Launch) (g : JG) (m0 : Nat) (m1 : Nat) (m2 : Nat) (m3 : Nat) (m4 : Nat) (vm : Mo) (p0 : Int32) (p1 : Int32) (post : Int32 → Prop) (hf : wp_X2_property vm p0 p1 post) : MetR l yX2_property wsX2_property ({ frames := 3, cells := 0, slots := 0, locals := 66 } : Room) [.ref m0, .int p0, .int p1] g (MoW g m0 m1 m2 m3 m4 vm) mkI post := by
  refine enterR (own := RX2) (cc := cX2_property) (nL := 3) (ret := (some .int)) (lv := [(0, .ref m0), (1, .int p0), (2, .int p1)]) (by decide) rfl rfl (Nat.le_of_ble_eq_true rfl) rfl (fun X hX hR => ?_)
  unfold wp_X2_property at hf
  refine j_iload_n (pc' := 1) hX dX2_property_0 rfl 2 rfl rfl ?_
  by_cases hs0 : p1 = 0
  · replace hf := hf.1 hs0
    refine j_tswI (tgt := 40) (cst := 0) hX dX2_property_1 hs0 (by decide) (by decide) rfl (by decide) ?_
    refine j_aload_n (pc' := 41) hX dX2_property_40 rfl 0 rfl rfl ?_
    refine j_iload_n (pc' := 42) hX dX2_property_41 rfl 1 rfl rfl ?_
    refine j_callVR (ci := 2) (pc' := 45) (As := [.int p0]) (rest := []) (stk := fun r42 => [.int r42]) hX (fun l => met_X2_cellsOf l g m0 m1 m2 m3 m4 vm p0 _ hf) rfl gX2_property_X2_cellsOf yoX2_cellsOf rfl ⟨Nat.le_of_ble_eq_true rfl, Nat.le_of_ble_eq_true rfl⟩ ⟨⟨Nat.le_of_ble_eq_true rfl, Nat.le_of_ble_eq_true rfl⟩, rfl, rfl⟩ 0 rfl rfl [0, 1, 2, 3, 4] rfl (by decide) (Nat.le_of_ble_eq_true rfl) rfl (fun _ => rfl) dX2_property_42 rfl (fun r42 hf => ?_)
    exact j_iret hX hR dX2_property_45 ⟨_, rfl, hf⟩
  · replace hf := hf.2 hs0
    by_cases hs1 : p1 = 1
    · replace hf := hf.1 hs1
      refine j_tswI (tgt := 46) (cst := 1) hX dX2_property_1 hs1 (by decide) (by decide) rfl (by decide) ?_
      refine j_aload_n (pc' := 47) hX dX2_property_46 rfl 0 rfl rfl ?_
      refine j_iload_n (pc' := 48) hX dX2_property_47 rfl 1 rfl rfl ?_
      refine j_callVR (ci := 2) (pc' := 51) (As := [.int p0]) (rest := []) (stk := fun r48 => [.int r48]) hX (fun l => met_X2_pebblesOf l g m0 m1 m2 m3 m4 vm p0 _ hf) rfl gX2_property_X2_pebblesOf yoX2_pebblesOf rfl ⟨Nat.le_of_ble_eq_true rfl, Nat.le_of_ble_eq_true rfl⟩ ⟨⟨Nat.le_of_ble_eq_true rfl, Nat.le_of_ble_eq_true rfl⟩, rfl, rfl⟩ 0 rfl rfl [0, 1, 2, 3, 4] rfl (by decide) (Nat.le_of_ble_eq_true rfl) rfl (fun _ => rfl) dX2_property_48 rfl (fun r48 hf => ?_)
      exact j_iret hX hR dX2_property_51 ⟨_, rfl, hf⟩
    · replace hf := hf.2 hs1
      by_cases hs2 : p1 = 2
      · replace hf := hf.1 hs2
        refine j_tswI (tgt := 52) (cst := 2) hX dX2_property_1 hs2 (by decide) (by decide) rfl (by decide) ?_
        refine j_aload_n (pc' := 53) hX dX2_property_52 rfl 0 rfl rfl ?_
        refine j_iload_n (pc' := 54) hX dX2_property_53 rfl 1 rfl rfl ?_
        refine j_callVR (ci := 2) (pc' := 57) (As := [.int p0]) (rest := []) (stk := fun r54 => [.int r54]) hX (fun l => met_X2_freeOf l g m0 m1 m2 m3 m4 vm p0 _ hf) rfl gX2_property_X2_freeOf yoX2_freeOf rfl ⟨Nat.le_of_ble_eq_true rfl, Nat.le_of_ble_eq_true rfl⟩ ⟨⟨Nat.le_of_ble_eq_true rfl, Nat.le_of_ble_eq_true rfl⟩, rfl, rfl⟩ 0 rfl rfl [0, 1, 2, 3, 4] rfl (by decide) (Nat.le_of_ble_eq_true rfl) rfl (fun _ => rfl) dX2_property_54 rfl (fun r54 hf => ?_)
        exact j_iret hX hR dX2_property_57 ⟨_, rfl, hf⟩
      · replace hf := hf.2 hs2
        by_cases hs3 : p1 = 3
        · replace hf := hf.1 hs3
          refine j_tswI (tgt := 58) (cst := 3) hX dX2_property_1 hs3 (by decide) (by decide) rfl (by decide) ?_
          refine j_aload_n (pc' := 59) hX dX2_property_58 rfl 0 rfl rfl ?_
          refine j_iload_n (pc' := 60) hX dX2_property_59 rfl 1 rfl rfl ?_
          refine j_callVR (ci := 2) (pc' := 63) (As := [.int p0]) (rest := []) (stk := fun r60 => [.int r60]) hX (fun l => met_X2_freeOf l g m0 m1 m2 m3 m4 vm p0 _ hf) rfl gX2_property_X2_freeOf yoX2_freeOf rfl ⟨Nat.le_of_ble_eq_true rfl, Nat.le_of_ble_eq_true rfl⟩ ⟨⟨Nat.le_of_ble_eq_true rfl, Nat.le_of_ble_eq_true rfl⟩, rfl, rfl⟩ 0 rfl rfl [0, 1, 2, 3, 4] rfl (by decide) (Nat.le_of_ble_eq_true rfl) rfl (fun _ => rfl) dX2_property_60 rfl (fun r60 hf => ?_)
          refine j_if_ne (tgt := 70) (pc' := 66) hX dX2_property_63 (by decide) rfl hf (fun hf => ?_) (fun hf => ?_)
          · refine j_iconst (pc' := 71) (v := 0) hX dX2_property_70 (by decide) rfl ?_
            exact j_iret hX hR dX2_property_71 ⟨_, rfl, hf⟩
          · refine j_iconst (pc' := 67) (v := 1) hX dX2_property_66 (by decide) rfl ?_
            refine j_goto (tgt := 71) hX dX2_property_67 (by decide) ?_
            exact j_iret hX hR dX2_property_71 ⟨_, rfl, hf⟩
        · replace hf := hf.2 hs3
          by_cases hs4 : p1 = 4
          · replace hf := hf.1 hs4
            refine j_tswI (tgt := 72) (cst := 4) hX dX2_property_1 hs4 (by decide) (by decide) rfl (by decide) ?_
            refine j_aload_n (pc' := 73) hX dX2_property_72 rfl 0 rfl rfl ?_
            refine j_iload_n (pc' := 74) hX dX2_property_73 rfl 1 rfl rfl ?_
            refine j_callVR (ci := 2) (pc' := 77) (As := [.int p0]) (rest := []) (stk := fun r74 => [.int r74]) hX (fun l => met_X2_jointsOf l g m0 m1 m2 m3 m4 vm p0 _ hf) rfl gX2_property_X2_jointsOf yoX2_jointsOf rfl ⟨Nat.le_of_ble_eq_true rfl, Nat.le_of_ble_eq_true rfl⟩ ⟨⟨Nat.le_of_ble_eq_true rfl, Nat.le_of_ble_eq_true rfl⟩, rfl, rfl⟩ 0 rfl rfl [0, 1, 2, 3, 4] rfl (by decide) (Nat.le_of_ble_eq_true rfl) rfl (fun _ => rfl) dX2_property_74 rfl (fun r74 hf => ?_)
            exact j_iret hX hR dX2_property_77 ⟨_, rfl, hf⟩
          · replace hf := hf.2 hs4
            by_cases hs5 : p1 = 5
            · replace hf := hf.1 hs5
              refine j_tswI (tgt := 78) (cst := 5) hX dX2_property_1 hs5 (by decide) (by decide) rfl (by decide) ?_
              refine j_aload_n (pc' := 79) hX dX2_property_78 rfl 0 rfl rfl ?_
              refine j_iload_n (pc' := 80) hX dX2_property_79 rfl 1 rfl rfl ?_
              refine j_callVR (ci := 2) (pc' := 83) (As := [.int p0]) (rest := []) (stk := fun r80 => [.int r80]) hX (fun l => met_X2_meetingJointsOf l g m0 m1 m2 m3 m4 vm p0 _ hf) rfl gX2_property_X2_meetingJointsOf yoX2_meetingJointsOf rfl ⟨Nat.le_of_ble_eq_true rfl, Nat.le_of_ble_eq_true rfl⟩ ⟨⟨Nat.le_of_ble_eq_true rfl, Nat.le_of_ble_eq_true rfl⟩, rfl, rfl⟩ 0 rfl rfl [0, 1, 2, 3, 4] rfl (by decide) (Nat.le_of_ble_eq_true rfl) rfl (fun _ => rfl) dX2_property_80 rfl (fun r80 hf => ?_)
              exact j_iret hX hR dX2_property_83 ⟨_, rfl, hf⟩
            · replace hf := hf.2 hs5
              have ho : p1.toInt < 0 ∨ 5 < p1.toInt := by
                have hq0 := lv_neT (a := 0) hs0 (by decide)
                have hq1 := lv_neT (a := 1) hs1 (by decide)
                have hq2 := lv_neT (a := 2) hs2 (by decide)
                have hq3 := lv_neT (a := 3) hs3 (by decide)
                have hq4 := lv_neT (a := 4) hs4 (by decide)
                have hq5 := lv_neT (a := 5) hs5 (by decide)
                omega
              refine j_tswO (tgt := 84) hX dX2_property_1 ho (by decide) ?_
              refine j_aload_n (pc' := 85) hX dX2_property_84 rfl 0 rfl rfl ?_
              refine j_iload_n (pc' := 86) hX dX2_property_85 rfl 1 rfl rfl ?_
              refine j_callVR (ci := 2) (pc' := 89) (As := [.int p0]) (rest := []) (stk := fun r86 => [.int r86]) hX (fun l => met_X2_fillersOf l g m0 m1 m2 m3 m4 vm p0 _ hf) rfl gX2_property_X2_fillersOf yoX2_fillersOf rfl ⟨Nat.le_of_ble_eq_true rfl, Nat.le_of_ble_eq_true rfl⟩ ⟨⟨Nat.le_of_ble_eq_true rfl, Nat.le_of_ble_eq_true rfl⟩, rfl, rfl⟩ 0 rfl rfl [0, 1, 2, 3, 4] rfl (by decide) (Nat.le_of_ble_eq_true rfl) rfl (fun _ => rfl) dX2_property_86 rfl (fun r86 hf => ?_)
              exact j_iret hX hR dX2_property_89 ⟨_, rfl, hf⟩
def wp_X2_summed_L4 (vm : Mo) (p0 : Int32) (K4_25 : Int32 → Prop) : Nat → Int32 → Int32 → Prop
  | 0, _, _ => False
  | N4 + 1, x2_4, x3_4 =>
  ((6 ≤ x3_4 → K4_25 x2_4) ∧ (¬ 6 ≤ x3_4 → (wp_X2_property vm x3_4 p0 (fun r14 => (wp_X2_summed_L4 vm p0 K4_25 N4) (x2_4 + r14) (x3_4 + 1)))))
def wp_X2_summed (vm : Mo) (p0 : Int32) (post : Int32 → Prop) : Prop :=
  (∃ N : Nat, wp_X2_summed_L4 vm p0 (fun (e1 : Int32) => post e1) N 0 0)
theorem yoX2_summed : yOk yX2_summed 1 := by decide +kernel
set_option maxHeartbeats 4000000 in
set_option maxRecDepth 100000 in
theorem met_X2_summed (l : Launch) (g : JG) (m0 : Nat) (m1 : Nat) (m2 : Nat) (m3 : Nat) (m4 : Nat) (vm : Mo) (p0 : Int32) (post : Int32 → Prop) (hf : wp_X2_summed vm p0 post) : MetR l yX2_summed wsX2_summed ({ frames := 4, cells := 0, slots := 0, locals := 88 } : Room) [.ref m0, .int p0] g (MoW g m0 m1 m2 m3 m4 vm) mkI post := by
  refine enterR (own := RX2) (cc := cX2_summed) (nL := 4) (ret := (some .int)) (lv := [(0, .ref m0), (1, .int p0)]) (by decide) rfl rfl (Nat.le_of_ble_eq_true rfl) rfl (fun X hX hR => ?_)
  unfold wp_X2_summed at hf
  refine j_iconst (pc' := 1) (v := 0) hX dX2_summed_0 (by decide) rfl ?_
  refine j_istore_n (pc' := 2) (lv' := [(2, .int 0), (0, .ref m0), (1, .int p0)]) hX dX2_summed_1 rfl (by decide) rfl rfl ?_
  refine j_iconst (pc' := 3) (v := 0) hX dX2_summed_2 (by decide) rfl ?_
  refine j_istore_n (pc' := 4) (lv' := [(3, .int 0), (2, .int 0), (0, .ref m0), (1, .int p0)]) hX dX2_summed_3 rfl (by decide) rfl rfl ?_
  obtain ⟨N4, hf⟩ := hf
  have L4 : ∀ (K4_25 : Int32 → Prop), (∀ (x2_4 : Int32), K4_25 x2_4 → J g X 0 0 (MoW g m0 m1 m2 m3 m4 vm) [(2, .int x2_4)] [] 25) → ∀ (N4 : Nat) (x2_4 : Int32) (x3_4 : Int32), wp_X2_summed_L4 vm p0 K4_25 N4 x2_4 x3_4 → J g X 0 0 (MoW g m0 m1 m2 m3 m4 vm) [(0, .ref m0), (1, .int p0), (2, .int x2_4), (3, .int x3_4)] [] 4 := by
    intro K4_25 hK4_25 N4
    induction N4 with
    | zero => intro x2_4 x3_4 hf; exact False.elim hf
    | succ N4 ih4 =>
      intro x2_4 x3_4 hf
      refine j_iload_n (pc' := 5) hX dX2_summed_4 rfl 3 rfl rfl ?_
      refine j_bipush (pc' := 7) (v := 6) hX dX2_summed_5 (by decide) rfl ?_
      refine j_icmp_ge (tgt := 25) (pc' := 10) hX dX2_summed_7 (by decide) rfl hf (fun hf => ?_) (fun hf => ?_)
      · refine J_sub (lv' := [(2, .int x2_4)]) [2] rfl ?_
        exact hK4_25 x2_4 hf
      · refine j_iload_n (pc' := 11) hX dX2_summed_10 rfl 2 rfl rfl ?_
        refine j_aload_n (pc' := 12) hX dX2_summed_11 rfl 0 rfl rfl ?_
        refine j_iload_n (pc' := 13) hX dX2_summed_12 rfl 3 rfl rfl ?_
        refine j_iload_n (pc' := 14) hX dX2_summed_13 rfl 1 rfl rfl ?_
        refine j_callVR (ci := 2) (pc' := 17) (As := [.int x3_4, .int p0]) (rest := [.int x2_4]) (stk := fun r14 => [.int r14, .int x2_4]) hX (fun l => met_X2_property l g m0 m1 m2 m3 m4 vm x3_4 p0 _ hf) rfl gX2_summed_X2_property yoX2_property rfl ⟨Nat.le_of_ble_eq_true rfl, Nat.le_of_ble_eq_true rfl⟩ ⟨⟨Nat.le_of_ble_eq_true rfl, Nat.le_of_ble_eq_true rfl⟩, rfl, rfl⟩ 0 rfl rfl [0, 1, 2, 3, 4] rfl (by decide) (Nat.le_of_ble_eq_true rfl) rfl (fun _ => rfl) dX2_summed_14 rfl (fun r14 hf => ?_)
        refine j_iadd (pc' := 18) hX dX2_summed_17 rfl ?_
        refine j_istore_n (pc' := 19) (lv' := [(2, .int (x2_4 + r14)), (0, .ref m0), (1, .int p0), (3, .int x3_4)]) hX dX2_summed_18 rfl (by decide) rfl rfl ?_
        refine j_iinc (pc' := 22) (cst := 1) (v := (x3_4 + 1)) (lv' := [(3, .int (x3_4 + 1)), (2, .int (x2_4 + r14)), (0, .ref m0), (1, .int p0)]) hX dX2_summed_19 (by decide) rfl 3 rfl (by decide) rfl rfl ?_
        refine j_goto (tgt := 4) hX dX2_summed_22 (by decide) ?_
        refine J_sub (lv' := [(0, .ref m0), (1, .int p0), (2, .int (x2_4 + r14)), (3, .int (x3_4 + 1))]) [2, 3, 1, 0] rfl ?_
        exact ih4 (x2_4 + r14) (x3_4 + 1) hf
  refine J_sub (lv' := [(0, .ref m0), (1, .int p0), (2, .int 0), (3, .int 0)]) [2, 3, 1, 0] rfl ?_
  refine L4 _ (fun e1 hf => ?_) N4 0 0 hf
  refine j_iload_n (pc' := 26) hX dX2_summed_25 rfl 0 rfl rfl ?_
  exact j_iret hX hR dX2_summed_26 ⟨_, rfl, hf⟩
def wp_X2_throughJoints_L19 (vm : Mo) (x2_4 : Int32) (r12 : Int32) (K19_59 : Int32 → Prop) : Nat → Int32 → Int32 → Prop
  | 0, _, _ => False
  | N19 + 1, x1_19, x4_19 =>
  ((r12 ≤ x4_19 → K19_59 x1_19) ∧ (¬ r12 ≤ x4_19 → (wp_X2_hasJoint vm x2_4 x4_19 (fun r30 => ((r30 = 0 → (wp_X2_throughJoints_L19 vm x2_4 r12 K19_59 N19) (x1_19 + 0) (x4_19 + 1)) ∧ (¬ r30 = 0 → (wp_X2_runsThrough vm x2_4 x4_19 (fun r40 => ((r40 = 0 → (wp_X2_throughJoints_L19 vm x2_4 r12 K19_59 N19) (x1_19 + 0) (x4_19 + 1)) ∧ (¬ r40 = 0 → (wp_X2_throughJoints_L19 vm x2_4 r12 K19_59 N19) (x1_19 + 1) (x4_19 + 1)))))))))))
def wp_X2_throughJoints_L4 (vm : Mo) (K4_65 : Int32 → Prop) : Nat → Int32 → Int32 → Prop
  | 0, _, _ => False
  | N4 + 1, x1_4, x2_4 =>
  ((6 ≤ x2_4 → K4_65 x1_4) ∧ (¬ 6 ≤ x2_4 → (wp_X2_cellsOf vm x2_4 (fun r12 => (∃ N : Nat, wp_X2_throughJoints_L19 vm x2_4 r12 (fun (e1 : Int32) => (wp_X2_throughJoints_L4 vm K4_65 N4) e1 (x2_4 + 1)) N x1_4 1)))))
def wp_X2_throughJoints (vm : Mo) (post : Int32 → Prop) : Prop :=
  (∃ N : Nat, wp_X2_throughJoints_L4 vm (fun (e2 : Int32) => post e2) N 0 2)
theorem yoX2_throughJoints : yOk yX2_throughJoints 0 := by decide +kernel
set_option maxHeartbeats 4000000 in
set_option maxRecDepth 100000 in
theorem met_X2_throughJoints (l : Launch) (g : JG) (m0 : Nat) (m1 : Nat) (m2 : Nat) (m3 : Nat) (m4 : Nat) (vm : Mo) (post : Int32 → Prop) (hf : wp_X2_throughJoints vm post) : MetR l yX2_throughJoints wsX2_throughJoints ({ frames := 2, cells := 0, slots := 0, locals := 46 } : Room) [.ref m0] g (MoW g m0 m1 m2 m3 m4 vm) mkI post := by
  refine enterR (own := RX2) (cc := cX2_throughJoints) (nL := 5) (ret := (some .int)) (lv := [(0, .ref m0)]) (by decide) rfl rfl (Nat.le_of_ble_eq_true rfl) rfl (fun X hX hR => ?_)
  unfold wp_X2_throughJoints at hf
  refine j_iconst (pc' := 1) (v := 0) hX dX2_throughJoints_0 (by decide) rfl ?_
  refine j_istore_n (pc' := 2) (lv' := [(1, .int 0), (0, .ref m0)]) hX dX2_throughJoints_1 rfl (by decide) rfl rfl ?_
  refine j_iconst (pc' := 3) (v := 2) hX dX2_throughJoints_2 (by decide) rfl ?_
  refine j_istore_n (pc' := 4) (lv' := [(2, .int 2), (1, .int 0), (0, .ref m0)]) hX dX2_throughJoints_3 rfl (by decide) rfl rfl ?_
  obtain ⟨N4, hf⟩ := hf
  have L4 : ∀ (K4_65 : Int32 → Prop), (∀ (x1_4 : Int32), K4_65 x1_4 → J g X 0 0 (MoW g m0 m1 m2 m3 m4 vm) [(1, .int x1_4)] [] 65) → ∀ (N4 : Nat) (x1_4 : Int32) (x2_4 : Int32), wp_X2_throughJoints_L4 vm K4_65 N4 x1_4 x2_4 → J g X 0 0 (MoW g m0 m1 m2 m3 m4 vm) [(0, .ref m0), (1, .int x1_4), (2, .int x2_4)] [] 4 := by
    intro K4_65 hK4_65 N4
    induction N4 with
    | zero => intro x1_4 x2_4 hf; exact False.elim hf
    | succ N4 ih4 =>
      intro x1_4 x2_4 hf
      refine j_iload_n (pc' := 5) hX dX2_throughJoints_4 rfl 2 rfl rfl ?_
      refine j_bipush (pc' := 7) (v := 6) hX dX2_throughJoints_5 (by decide) rfl ?_
      refine j_icmp_ge (tgt := 65) (pc' := 10) hX dX2_throughJoints_7 (by decide) rfl hf (fun hf => ?_) (fun hf => ?_)
      · refine J_sub (lv' := [(1, .int x1_4)]) [1] rfl ?_
        exact hK4_65 x1_4 hf
      · refine j_aload_n (pc' := 11) hX dX2_throughJoints_10 rfl 0 rfl rfl ?_
        refine j_iload_n (pc' := 12) hX dX2_throughJoints_11 rfl 2 rfl rfl ?_
        refine j_callVR (ci := 2) (pc' := 15) (As := [.int x2_4]) (rest := []) (stk := fun r12 => [.int r12]) hX (fun l => met_X2_cellsOf l g m0 m1 m2 m3 m4 vm x2_4 _ hf) rfl gX2_throughJoints_X2_cellsOf yoX2_cellsOf rfl ⟨Nat.le_of_ble_eq_true rfl, Nat.le_of_ble_eq_true rfl⟩ ⟨⟨Nat.le_of_ble_eq_true rfl, Nat.le_of_ble_eq_true rfl⟩, rfl, rfl⟩ 0 rfl rfl [0, 1, 2, 3, 4] rfl (by decide) (Nat.le_of_ble_eq_true rfl) rfl (fun _ => rfl) dX2_throughJoints_12 rfl (fun r12 hf => ?_)
        refine j_istore_n (pc' := 16) (lv' := [(3, .int r12), (0, .ref m0), (1, .int x1_4), (2, .int x2_4)]) hX dX2_throughJoints_15 rfl (by decide) rfl rfl ?_
        refine j_iconst (pc' := 17) (v := 1) hX dX2_throughJoints_16 (by decide) rfl ?_
        refine j_istore (pc' := 19) (lv' := [(4, .int 1), (3, .int r12), (0, .ref m0), (1, .int x1_4), (2, .int x2_4)]) hX dX2_throughJoints_17 (by decide) rfl rfl ?_
        obtain ⟨N19, hf⟩ := hf
        have L19 : ∀ (K19_59 : Int32 → Prop), (∀ (x1_19 : Int32), K19_59 x1_19 → J g X 0 0 (MoW g m0 m1 m2 m3 m4 vm) [(0, .ref m0), (1, .int x1_19), (2, .int x2_4)] [] 59) → ∀ (N19 : Nat) (x1_19 : Int32) (x4_19 : Int32), wp_X2_throughJoints_L19 vm x2_4 r12 K19_59 N19 x1_19 x4_19 → J g X 0 0 (MoW g m0 m1 m2 m3 m4 vm) [(0, .ref m0), (1, .int x1_19), (2, .int x2_4), (3, .int r12), (4, .int x4_19)] [] 19 := by
          intro K19_59 hK19_59 N19
          induction N19 with
          | zero => intro x1_19 x4_19 hf; exact False.elim hf
          | succ N19 ih19 =>
            intro x1_19 x4_19 hf
            refine j_iload (pc' := 21) hX dX2_throughJoints_19 4 rfl rfl ?_
            refine j_iload_n (pc' := 22) hX dX2_throughJoints_21 rfl 3 rfl rfl ?_
            refine j_icmp_ge (tgt := 59) (pc' := 25) hX dX2_throughJoints_22 (by decide) rfl hf (fun hf => ?_) (fun hf => ?_)
            · refine J_sub (lv' := [(0, .ref m0), (1, .int x1_19), (2, .int x2_4)]) [0, 1, 2] rfl ?_
              exact hK19_59 x1_19 hf
            · refine j_iload_n (pc' := 26) hX dX2_throughJoints_25 rfl 1 rfl rfl ?_
              refine j_aload_n (pc' := 27) hX dX2_throughJoints_26 rfl 0 rfl rfl ?_
              refine j_iload_n (pc' := 28) hX dX2_throughJoints_27 rfl 2 rfl rfl ?_
              refine j_iload (pc' := 30) hX dX2_throughJoints_28 4 rfl rfl ?_
              refine j_callVR (ci := 2) (pc' := 33) (As := [.int x2_4, .int x4_19]) (rest := [.int x1_19]) (stk := fun r30 => [.int r30, .int x1_19]) hX (fun l => met_X2_hasJoint l g m0 m1 m2 m3 m4 vm x2_4 x4_19 _ hf) rfl gX2_throughJoints_X2_hasJoint yoX2_hasJoint rfl ⟨Nat.le_of_ble_eq_true rfl, Nat.le_of_ble_eq_true rfl⟩ ⟨⟨Nat.le_of_ble_eq_true rfl, Nat.le_of_ble_eq_true rfl⟩, rfl, rfl⟩ 0 rfl rfl [0, 1, 2, 3, 4] rfl (by decide) (Nat.le_of_ble_eq_true rfl) rfl (fun _ => rfl) dX2_throughJoints_30 rfl (fun r30 hf => ?_)
              refine j_if_eq (tgt := 50) (pc' := 36) hX dX2_throughJoints_33 (by decide) rfl hf (fun hf => ?_) (fun hf => ?_)
              · refine j_iconst (pc' := 51) (v := 0) hX dX2_throughJoints_50 (by decide) rfl ?_
                refine j_iadd (pc' := 52) hX dX2_throughJoints_51 rfl ?_
                refine j_istore_n (pc' := 53) (lv' := [(1, .int (x1_19 + 0)), (0, .ref m0), (2, .int x2_4), (3, .int r12), (4, .int x4_19)]) hX dX2_throughJoints_52 rfl (by decide) rfl rfl ?_
                refine j_iinc (pc' := 56) (cst := 1) (v := (x4_19 + 1)) (lv' := [(4, .int (x4_19 + 1)), (1, .int (x1_19 + 0)), (0, .ref m0), (2, .int x2_4), (3, .int r12)]) hX dX2_throughJoints_53 (by decide) rfl 4 rfl (by decide) rfl rfl ?_
                refine j_goto (tgt := 19) hX dX2_throughJoints_56 (by decide) ?_
                refine J_sub (lv' := [(0, .ref m0), (1, .int (x1_19 + 0)), (2, .int x2_4), (3, .int r12), (4, .int (x4_19 + 1))]) [2, 1, 3, 4, 0] rfl ?_
                exact ih19 (x1_19 + 0) (x4_19 + 1) hf
              · refine j_aload_n (pc' := 37) hX dX2_throughJoints_36 rfl 0 rfl rfl ?_
                refine j_iload_n (pc' := 38) hX dX2_throughJoints_37 rfl 2 rfl rfl ?_
                refine j_iload (pc' := 40) hX dX2_throughJoints_38 4 rfl rfl ?_
                refine j_callVR (ci := 2) (pc' := 43) (As := [.int x2_4, .int x4_19]) (rest := [.int x1_19]) (stk := fun r40 => [.int r40, .int x1_19]) hX (fun l => met_X2_runsThrough l g m0 m1 m2 m3 m4 vm x2_4 x4_19 _ hf) rfl gX2_throughJoints_X2_runsThrough yoX2_runsThrough rfl ⟨Nat.le_of_ble_eq_true rfl, Nat.le_of_ble_eq_true rfl⟩ ⟨⟨Nat.le_of_ble_eq_true rfl, Nat.le_of_ble_eq_true rfl⟩, rfl, rfl⟩ 0 rfl rfl [0, 1, 2, 3, 4] rfl (by decide) (Nat.le_of_ble_eq_true rfl) rfl (fun _ => rfl) dX2_throughJoints_40 rfl (fun r40 hf => ?_)
                refine j_if_eq (tgt := 50) (pc' := 46) hX dX2_throughJoints_43 (by decide) rfl hf (fun hf => ?_) (fun hf => ?_)
                · refine j_iconst (pc' := 51) (v := 0) hX dX2_throughJoints_50 (by decide) rfl ?_
                  refine j_iadd (pc' := 52) hX dX2_throughJoints_51 rfl ?_
                  refine j_istore_n (pc' := 53) (lv' := [(1, .int (x1_19 + 0)), (0, .ref m0), (2, .int x2_4), (3, .int r12), (4, .int x4_19)]) hX dX2_throughJoints_52 rfl (by decide) rfl rfl ?_
                  refine j_iinc (pc' := 56) (cst := 1) (v := (x4_19 + 1)) (lv' := [(4, .int (x4_19 + 1)), (1, .int (x1_19 + 0)), (0, .ref m0), (2, .int x2_4), (3, .int r12)]) hX dX2_throughJoints_53 (by decide) rfl 4 rfl (by decide) rfl rfl ?_
                  refine j_goto (tgt := 19) hX dX2_throughJoints_56 (by decide) ?_
                  refine J_sub (lv' := [(0, .ref m0), (1, .int (x1_19 + 0)), (2, .int x2_4), (3, .int r12), (4, .int (x4_19 + 1))]) [2, 1, 3, 4, 0] rfl ?_
                  exact ih19 (x1_19 + 0) (x4_19 + 1) hf
                · refine j_iconst (pc' := 47) (v := 1) hX dX2_throughJoints_46 (by decide) rfl ?_
                  refine j_goto (tgt := 51) hX dX2_throughJoints_47 (by decide) ?_
                  refine j_iadd (pc' := 52) hX dX2_throughJoints_51 rfl ?_
                  refine j_istore_n (pc' := 53) (lv' := [(1, .int (x1_19 + 1)), (0, .ref m0), (2, .int x2_4), (3, .int r12), (4, .int x4_19)]) hX dX2_throughJoints_52 rfl (by decide) rfl rfl ?_
                  refine j_iinc (pc' := 56) (cst := 1) (v := (x4_19 + 1)) (lv' := [(4, .int (x4_19 + 1)), (1, .int (x1_19 + 1)), (0, .ref m0), (2, .int x2_4), (3, .int r12)]) hX dX2_throughJoints_53 (by decide) rfl 4 rfl (by decide) rfl rfl ?_
                  refine j_goto (tgt := 19) hX dX2_throughJoints_56 (by decide) ?_
                  refine J_sub (lv' := [(0, .ref m0), (1, .int (x1_19 + 1)), (2, .int x2_4), (3, .int r12), (4, .int (x4_19 + 1))]) [2, 1, 3, 4, 0] rfl ?_
                  exact ih19 (x1_19 + 1) (x4_19 + 1) hf
        refine J_sub (lv' := [(0, .ref m0), (1, .int x1_4), (2, .int x2_4), (3, .int r12), (4, .int 1)]) [2, 3, 4, 1, 0] rfl ?_
        refine L19 _ (fun e1 hf => ?_) N19 x1_4 1 hf
        refine j_iinc (pc' := 62) (cst := 1) (v := (x2_4 + 1)) (lv' := [(2, .int (x2_4 + 1)), (0, .ref m0), (1, .int e1)]) hX dX2_throughJoints_59 (by decide) rfl 2 rfl (by decide) rfl rfl ?_
        refine j_goto (tgt := 4) hX dX2_throughJoints_62 (by decide) ?_
        refine J_sub (lv' := [(0, .ref m0), (1, .int e1), (2, .int (x2_4 + 1))]) [1, 2, 0] rfl ?_
        exact ih4 e1 (x2_4 + 1) hf
  refine J_sub (lv' := [(0, .ref m0), (1, .int 0), (2, .int 2)]) [2, 1, 0] rfl ?_
  refine L4 _ (fun e2 hf => ?_) N4 0 2 hf
  refine j_iload_n (pc' := 66) hX dX2_throughJoints_65 rfl 0 rfl rfl ?_
  exact j_iret hX hR dX2_throughJoints_66 ⟨_, rfl, hf⟩
def wp_X2_stockCells_L4 (vm : Mo) (K4_26 : Int32 → Prop) : Nat → Int32 → Int32 → Prop
  | 0, _, _ => False
  | N4 + 1, x1_4, x2_4 =>
  ((6 < x2_4 → K4_26 x1_4) ∧ (¬ 6 < x2_4 → (wp_X2_inStock vm x2_4 (fun r14 => (wp_X2_stockCells_L4 vm K4_26 N4) (x1_4 + (x2_4 * r14)) (x2_4 + 1)))))
def wp_X2_stockCells (vm : Mo) (post : Int32 → Prop) : Prop :=
  (∃ N : Nat, wp_X2_stockCells_L4 vm (fun (e1 : Int32) => post e1) N 0 1)
theorem yoX2_stockCells : yOk yX2_stockCells 0 := by decide +kernel
set_option maxHeartbeats 4000000 in
set_option maxRecDepth 100000 in
theorem met_X2_stockCells (l : Launch) (g : JG) (m0 : Nat) (m1 : Nat) (m2 : Nat) (m3 : Nat) (m4 : Nat) (vm : Mo) (post : Int32 → Prop) (hf : wp_X2_stockCells vm post) : MetR l yX2_stockCells wsX2_stockCells ({ frames := 1, cells := 0, slots := 0, locals := 21 } : Room) [.ref m0] g (MoW g m0 m1 m2 m3 m4 vm) mkI post := by
  refine enterR (own := RX2) (cc := cX2_stockCells) (nL := 3) (ret := (some .int)) (lv := [(0, .ref m0)]) (by decide) rfl rfl (Nat.le_of_ble_eq_true rfl) rfl (fun X hX hR => ?_)
  unfold wp_X2_stockCells at hf
  refine j_iconst (pc' := 1) (v := 0) hX dX2_stockCells_0 (by decide) rfl ?_
  refine j_istore_n (pc' := 2) (lv' := [(1, .int 0), (0, .ref m0)]) hX dX2_stockCells_1 rfl (by decide) rfl rfl ?_
  refine j_iconst (pc' := 3) (v := 1) hX dX2_stockCells_2 (by decide) rfl ?_
  refine j_istore_n (pc' := 4) (lv' := [(2, .int 1), (1, .int 0), (0, .ref m0)]) hX dX2_stockCells_3 rfl (by decide) rfl rfl ?_
  obtain ⟨N4, hf⟩ := hf
  have L4 : ∀ (K4_26 : Int32 → Prop), (∀ (x1_4 : Int32), K4_26 x1_4 → J g X 0 0 (MoW g m0 m1 m2 m3 m4 vm) [(1, .int x1_4)] [] 26) → ∀ (N4 : Nat) (x1_4 : Int32) (x2_4 : Int32), wp_X2_stockCells_L4 vm K4_26 N4 x1_4 x2_4 → J g X 0 0 (MoW g m0 m1 m2 m3 m4 vm) [(0, .ref m0), (1, .int x1_4), (2, .int x2_4)] [] 4 := by
    intro K4_26 hK4_26 N4
    induction N4 with
    | zero => intro x1_4 x2_4 hf; exact False.elim hf
    | succ N4 ih4 =>
      intro x1_4 x2_4 hf
      refine j_iload_n (pc' := 5) hX dX2_stockCells_4 rfl 2 rfl rfl ?_
      refine j_bipush (pc' := 7) (v := 6) hX dX2_stockCells_5 (by decide) rfl ?_
      refine j_icmp_gt (tgt := 26) (pc' := 10) hX dX2_stockCells_7 (by decide) rfl hf (fun hf => ?_) (fun hf => ?_)
      · refine J_sub (lv' := [(1, .int x1_4)]) [1] rfl ?_
        exact hK4_26 x1_4 hf
      · refine j_iload_n (pc' := 11) hX dX2_stockCells_10 rfl 1 rfl rfl ?_
        refine j_iload_n (pc' := 12) hX dX2_stockCells_11 rfl 2 rfl rfl ?_
        refine j_aload_n (pc' := 13) hX dX2_stockCells_12 rfl 0 rfl rfl ?_
        refine j_iload_n (pc' := 14) hX dX2_stockCells_13 rfl 2 rfl rfl ?_
        refine j_callVR (ci := 2) (pc' := 17) (As := [.int x2_4]) (rest := [.int x2_4, .int x1_4]) (stk := fun r14 => [.int r14, .int x2_4, .int x1_4]) hX (fun l => met_X2_inStock l g m0 m1 m2 m3 m4 vm x2_4 _ hf) rfl gX2_stockCells_X2_inStock yoX2_inStock rfl ⟨Nat.le_of_ble_eq_true rfl, Nat.le_of_ble_eq_true rfl⟩ ⟨⟨Nat.le_of_ble_eq_true rfl, Nat.le_of_ble_eq_true rfl⟩, rfl, rfl⟩ 0 rfl rfl [0, 1, 2, 3, 4] rfl (by decide) (Nat.le_of_ble_eq_true rfl) rfl (fun _ => rfl) dX2_stockCells_14 rfl (fun r14 hf => ?_)
        refine j_imul (pc' := 18) hX dX2_stockCells_17 rfl ?_
        refine j_iadd (pc' := 19) hX dX2_stockCells_18 rfl ?_
        refine j_istore_n (pc' := 20) (lv' := [(1, .int (x1_4 + (x2_4 * r14))), (0, .ref m0), (2, .int x2_4)]) hX dX2_stockCells_19 rfl (by decide) rfl rfl ?_
        refine j_iinc (pc' := 23) (cst := 1) (v := (x2_4 + 1)) (lv' := [(2, .int (x2_4 + 1)), (1, .int (x1_4 + (x2_4 * r14))), (0, .ref m0)]) hX dX2_stockCells_20 (by decide) rfl 2 rfl (by decide) rfl rfl ?_
        refine j_goto (tgt := 4) hX dX2_stockCells_23 (by decide) ?_
        refine J_sub (lv' := [(0, .ref m0), (1, .int (x1_4 + (x2_4 * r14))), (2, .int (x2_4 + 1))]) [2, 1, 0] rfl ?_
        exact ih4 (x1_4 + (x2_4 * r14)) (x2_4 + 1) hf
  refine J_sub (lv' := [(0, .ref m0), (1, .int 0), (2, .int 1)]) [2, 1, 0] rfl ?_
  refine L4 _ (fun e1 hf => ?_) N4 0 1 hf
  refine j_iload_n (pc' := 27) hX dX2_stockCells_26 rfl 0 rfl rfl ?_
  exact j_iret hX hR dX2_stockCells_27 ⟨_, rfl, hf⟩
