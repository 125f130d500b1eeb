theorem df_0 : ∀ j, j < 3 → defaultValue (tyX0 j) = vp_V [.null, .int 0, .int 0] j := fun j hj => by
  rcases (show j = 0 ∨ j = 1 ∨ j = 2 by omega) with rfl | rfl | rfl <;> rfl
theorem df_1 : ∀ j, j < 3 → defaultValue (tyX1 j) = vp_V [.null, .int 0, .int 0] j := fun j hj => by
  rcases (show j = 0 ∨ j = 1 ∨ j = 2 by omega) with rfl | rfl | rfl <;> rfl
theorem df_2 : ∀ j, j < 7 → defaultValue (tyX2 j) = vp_V [.null, .null, .null, .null, .int 0, .int 0, .int 0] j := fun j hj => by
  rcases (show j = 0 ∨ j = 1 ∨ j = 2 ∨ j = 3 ∨ j = 4 ∨ j = 5 ∨ j = 6 by omega) with rfl | rfl | rfl | rfl | rfl | rfl | rfl <;> rfl
theorem df_3 : ∀ j, j < 2 → defaultValue (tyX3 j) = vp_V [.null, .int 0] j := fun j hj => by
  rcases (show j = 0 ∨ j = 1 by omega) with rfl | rfl <;> rfl
def zCl : Cl := (fun _ => 0, 0, 0)
theorem yoX0_init : yOk yX0_init 0 := by decide +kernel
set_option maxHeartbeats 4000000 in
set_option maxRecDepth 100000 in
theorem met_X0_init (l : Launch) (g : JG) (a0 : Nat) : MetC l yX0_init wsX0_init ({ frames := 1, cells := 1, slots := 61, locals := 40 } : Room) [.ref a0] g [(a0, .inr (0, [.null, .int 0, .int 0]))] (fun u : Nat => ClW g a0 u zCl) := by
  have hl_3 : Cond.methodLink RX0 3 objectInit ∈ wsX0_init := by decide +kernel
  have h_oi : Cond.instanceMethod objectInit ∈ wsX0_init := by decide +kernel
  have h_oc : Cond.code objectInit ⟨#[0xb1]⟩ 1 none ∈ wsX0_init := by decide +kernel
  have ha_int : Cond.arrayClass .int ∈ wsX0_init := by decide +kernel
  have hin0 : ∀ w ∈ u_ws RX0 TX0 3, w ∈ wsX0_init := by decide +kernel
  have hl_9 : Cond.fieldLink RX0 9 (TX0 0).1 (TX0 0).2.1 (TX0 0).2.2.1 ∈ wsX0_init := by decide +kernel
  refine enterC (own := RX0) (cc := cX0_init) (nL := 1) (lv := [(0, .ref a0)]) (by decide) rfl rfl rfl (Nat.le_of_ble_eq_true rfl) rfl (fun X hX hW hC hR => ?_)
  refine J_ws (ws' := (([[(a0, .inr (0, [.null, .int 0, .int 0]))]] : List va_W).flatten)) rfl ?_
  refine j_aload_n (pc' := 1) hX dX0_init_0 rfl 0 rfl rfl ?_
  refine j_objInit (pc' := 4) hX hl_3 h_oi h_oc ⟨Nat.le_of_ble_eq_true rfl, Nat.le_of_ble_eq_true rfl⟩ dX0_init_1 rfl ?_
  refine j_aload_n (pc' := 5) hX dX0_init_4 rfl 0 rfl rfl ?_
  refine j_bipush (pc' := 7) (v := 61) hX dX0_init_5 (by decide) rfl ?_
  refine j_newi (k' := 1) (n' := 61) (pc' := 9) (ws' := fun q0 => (([[(a0, .inr (0, [.null, .int 0, .int 0]))], [(q0, .inl (g.2 0, 61, .inl (fun _ => 0)))]] : List va_W).flatten)) hX hW ha_int ⟨by decide, by decide, by decide⟩ ⟨rfl, rfl, Nat.le_of_ble_eq_true rfl, Nat.le_of_ble_eq_true rfl⟩ dX0_init_7 (fun _ => rfl) rfl (fun q0 => ?_)
  refine j_putF (ci := 0) (pc' := 12) (ws' := (([[(a0, .inr (0, [.ref q0, .int 0, .int 0]))], [(q0, .inl (g.2 0, 61, .inl (fun _ => 0)))]] : List va_W).flatten)) hX hW hC hin0 tyX0_ok nmX0 rfl 0 rfl 0 (by decide) hl_9 rfl rfl rfl rfl (Nat.le_of_ble_eq_true rfl) dX0_init_9 rfl rfl ?_
  exact j_vret hX hR dX0_init_12 ⟨rfl, q0, rfl⟩
def zTx : Tx := (fun _ => 0, 0)
theorem yoX3_init : yOk yX3_init 0 := by decide +kernel
set_option maxHeartbeats 4000000 in
set_option maxRecDepth 100000 in
theorem met_X3_init (l : Launch) (g : JG) (a0 : Nat) : MetC l yX3_init wsX3_init ({ frames := 1, cells := 1, slots := 60, locals := 40 } : Room) [.ref a0] g [(a0, .inr (3, [.null, .int 0]))] (fun u : Nat => TxW g a0 u zTx) := by
  have hl_3 : Cond.methodLink RX3 3 objectInit ∈ wsX3_init := by decide +kernel
  have h_oi : Cond.instanceMethod objectInit ∈ wsX3_init := by decide +kernel
  have h_oc : Cond.code objectInit ⟨#[0xb1]⟩ 1 none ∈ wsX3_init := by decide +kernel
  have ha_char : Cond.arrayClass .char ∈ wsX3_init := by decide +kernel
  have hin3 : ∀ w ∈ u_ws RX3 TX3 2, w ∈ wsX3_init := by decide +kernel
  have hl_9 : Cond.fieldLink RX3 9 (TX3 0).1 (TX3 0).2.1 (TX3 0).2.2.1 ∈ wsX3_init := by decide +kernel
  refine enterC (own := RX3) (cc := cX3_init) (nL := 1) (lv := [(0, .ref a0)]) (by decide) rfl rfl rfl (Nat.le_of_ble_eq_true rfl) rfl (fun X hX hW hC hR => ?_)
  refine J_ws (ws' := (([[(a0, .inr (3, [.null, .int 0]))]] : List va_W).flatten)) rfl ?_
  refine j_aload_n (pc' := 1) hX dX3_init_0 rfl 0 rfl rfl ?_
  refine j_objInit (pc' := 4) hX hl_3 h_oi h_oc ⟨Nat.le_of_ble_eq_true rfl, Nat.le_of_ble_eq_true rfl⟩ dX3_init_1 rfl ?_
  refine j_aload_n (pc' := 5) hX dX3_init_4 rfl 0 rfl rfl ?_
  refine j_bipush (pc' := 7) (v := 60) hX dX3_init_5 (by decide) rfl ?_
  refine j_newc (k' := 1) (n' := 60) (pc' := 9) (ws' := fun q0 => (([[(a0, .inr (3, [.null, .int 0]))], [(q0, .inl (g.2 1, 60, .inl (fun _ => 0)))]] : List va_W).flatten)) hX hW ha_char ⟨by decide, by decide, by decide⟩ ⟨rfl, rfl, Nat.le_of_ble_eq_true rfl, Nat.le_of_ble_eq_true rfl⟩ dX3_init_7 (fun _ => rfl) rfl (fun q0 => ?_)
  refine j_putF (ci := 3) (pc' := 12) (ws' := (([[(a0, .inr (3, [.ref q0, .int 0]))], [(q0, .inl (g.2 1, 60, .inl (fun _ => 0)))]] : List va_W).flatten)) hX hW hC hin3 tyX3_ok nmX3 rfl 0 rfl 0 (by decide) hl_9 rfl rfl rfl rfl (Nat.le_of_ble_eq_true rfl) dX3_init_9 rfl rfl ?_
  exact j_vret hX hR dX3_init_12 ⟨rfl, q0, rfl⟩
def zMo : Mo := ((upd (upd (upd (upd (upd (upd (fun _ => 0) (0 : Int32).toNatClampNeg ((32 : Int32) - ((4 : Int32) * 0))) (1 : Int32).toNatClampNeg ((32 : Int32) - ((4 : Int32) * 1))) (2 : Int32).toNatClampNeg ((32 : Int32) - ((4 : Int32) * 2))) (3 : Int32).toNatClampNeg ((32 : Int32) - ((4 : Int32) * 3))) (4 : Int32).toNatClampNeg ((32 : Int32) - ((4 : Int32) * 4))) (5 : Int32).toNatClampNeg ((32 : Int32) - ((4 : Int32) * 5))), (fun _ => 0), (fun _ => 0), (upd (upd (upd (upd (upd (upd (fun _ => 0) (1 : Int32).toNatClampNeg 9) (2 : Int32).toNatClampNeg 9) (3 : Int32).toNatClampNeg 9) (4 : Int32).toNatClampNeg 9) (5 : Int32).toNatClampNeg 9) (6 : Int32).toNatClampNeg 9), 0, 0, 0)
theorem yoX2_init : yOk yX2_init 0 := by decide +kernel
set_option maxHeartbeats 4000000 in
set_option maxRecDepth 100000 in
theorem met_X2_init (l : Launch) (g : JG) (a0 : Nat) : MetC l yX2_init wsX2_init ({ frames := 1, cells := 4, slots := 379, locals := 40 } : Room) [.ref a0] g [(a0, .inr (2, [.null, .null, .null, .null, .int 0, .int 0, .int 0]))] (fun u : Nat × Nat × Nat × Nat => MoW g a0 u.1 u.2.1 u.2.2.1 u.2.2.2 zMo) := by
  have hl_3 : Cond.methodLink RX2 3 objectInit ∈ wsX2_init := by decide +kernel
  have h_oi : Cond.instanceMethod objectInit ∈ wsX2_init := by decide +kernel
  have h_oc : Cond.code objectInit ⟨#[0xb1]⟩ 1 none ∈ wsX2_init := by decide +kernel
  have ha_int : Cond.arrayClass .int ∈ wsX2_init := by decide +kernel
  have hin2 : ∀ w ∈ u_ws RX2 TX2 7, w ∈ wsX2_init := by decide +kernel
  have hl_9 : Cond.fieldLink RX2 9 (TX2 0).1 (TX2 0).2.1 (TX2 0).2.2.1 ∈ wsX2_init := by decide +kernel
  have hl_15 : Cond.fieldLink RX2 15 (TX2 1).1 (TX2 1).2.1 (TX2 1).2.2.1 ∈ wsX2_init := by decide +kernel
  have hl_18 : Cond.fieldLink RX2 18 (TX2 2).1 (TX2 2).2.1 (TX2 2).2.2.1 ∈ wsX2_init := by decide +kernel
  have hl_21 : Cond.fieldLink RX2 21 (TX2 3).1 (TX2 3).2.1 (TX2 3).2.2.1 ∈ wsX2_init := by decide +kernel
  refine enterC (own := RX2) (cc := cX2_init) (nL := 2) (lv := [(0, .ref a0)]) (by decide) rfl rfl rfl (Nat.le_of_ble_eq_true rfl) rfl (fun X hX hW hC hR => ?_)
  refine J_ws (ws' := (([[(a0, .inr (2, [.null, .null, .null, .null, .int 0, .int 0, .int 0]))]] : List va_W).flatten)) rfl ?_
  refine j_aload_n (pc' := 1) hX dX2_init_0 rfl 0 rfl rfl ?_
  refine j_objInit (pc' := 4) hX hl_3 h_oi h_oc ⟨Nat.le_of_ble_eq_true rfl, Nat.le_of_ble_eq_true rfl⟩ dX2_init_1 rfl ?_
  refine j_aload_n (pc' := 5) hX dX2_init_4 rfl 0 rfl rfl ?_
  refine j_bipush (pc' := 7) (v := 6) hX dX2_init_5 (by decide) rfl ?_
  refine j_newi (k' := 1) (n' := 6) (pc' := 9) (ws' := fun q0 => (([[(a0, .inr (2, [.null, .null, .null, .null, .int 0, .int 0, .int 0]))], [(q0, .inl (g.2 0, 6, .inl (fun _ => 0)))]] : List va_W).flatten)) hX hW ha_int ⟨by decide, by decide, by decide⟩ ⟨rfl, rfl, Nat.le_of_ble_eq_true rfl, Nat.le_of_ble_eq_true rfl⟩ dX2_init_7 (fun _ => rfl) rfl (fun q0 => ?_)
  refine j_putF (ci := 2) (pc' := 12) (ws' := (([[(a0, .inr (2, [.ref q0, .null, .null, .null, .int 0, .int 0, .int 0]))], [(q0, .inl (g.2 0, 6, .inl (fun _ => 0)))]] : List va_W).flatten)) hX hW hC hin2 tyX2_ok nmX2 rfl 0 rfl 0 (by decide) hl_9 rfl rfl rfl rfl (Nat.le_of_ble_eq_true rfl) dX2_init_9 rfl rfl ?_
  refine j_aload_n (pc' := 13) hX dX2_init_12 rfl 0 rfl rfl ?_
  refine j_bipush (pc' := 15) (v := 6) hX dX2_init_13 (by decide) rfl ?_
  refine j_newi (k' := 2) (n' := 12) (pc' := 17) (ws' := fun q1 => (([[(a0, .inr (2, [.ref q0, .null, .null, .null, .int 0, .int 0, .int 0]))], [(q0, .inl (g.2 0, 6, .inl (fun _ => 0)))], [(q1, .inl (g.2 0, 6, .inl (fun _ => 0)))]] : List va_W).flatten)) hX hW ha_int ⟨by decide, by decide, by decide⟩ ⟨rfl, rfl, Nat.le_of_ble_eq_true rfl, Nat.le_of_ble_eq_true rfl⟩ dX2_init_15 (fun _ => rfl) rfl (fun q1 => ?_)
  refine j_putF (ci := 2) (pc' := 20) (ws' := (([[(a0, .inr (2, [.ref q0, .ref q1, .null, .null, .int 0, .int 0, .int 0]))], [(q0, .inl (g.2 0, 6, .inl (fun _ => 0)))], [(q1, .inl (g.2 0, 6, .inl (fun _ => 0)))]] : List va_W).flatten)) hX hW hC hin2 tyX2_ok nmX2 rfl 0 rfl 1 (by decide) hl_15 rfl rfl rfl rfl (Nat.le_of_ble_eq_true rfl) dX2_init_17 rfl rfl ?_
  refine j_aload_n (pc' := 21) hX dX2_init_20 rfl 0 rfl rfl ?_
  refine j_sipush (pc' := 24) (v := 360) hX dX2_init_21 (by decide) rfl ?_
  refine j_newi (k' := 3) (n' := 372) (pc' := 26) (ws' := fun q2 => (([[(a0, .inr (2, [.ref q0, .ref q1, .null, .null, .int 0, .int 0, .int 0]))], [(q0, .inl (g.2 0, 6, .inl (fun _ => 0)))], [(q1, .inl (g.2 0, 6, .inl (fun _ => 0)))], [(q2, .inl (g.2 0, 360, .inl (fun _ => 0)))]] : List va_W).flatten)) hX hW ha_int ⟨by decide, by decide, by decide⟩ ⟨rfl, rfl, Nat.le_of_ble_eq_true rfl, Nat.le_of_ble_eq_true rfl⟩ dX2_init_24 (fun _ => rfl) rfl (fun q2 => ?_)
  refine j_putF (ci := 2) (pc' := 29) (ws' := (([[(a0, .inr (2, [.ref q0, .ref q1, .ref q2, .null, .int 0, .int 0, .int 0]))], [(q0, .inl (g.2 0, 6, .inl (fun _ => 0)))], [(q1, .inl (g.2 0, 6, .inl (fun _ => 0)))], [(q2, .inl (g.2 0, 360, .inl (fun _ => 0)))]] : List va_W).flatten)) hX hW hC hin2 tyX2_ok nmX2 rfl 0 rfl 2 (by decide) hl_18 rfl rfl rfl rfl (Nat.le_of_ble_eq_true rfl) dX2_init_26 rfl rfl ?_
  refine j_aload_n (pc' := 30) hX dX2_init_29 rfl 0 rfl rfl ?_
  refine j_bipush (pc' := 32) (v := 7) hX dX2_init_30 (by decide) rfl ?_
  refine j_newi (k' := 4) (n' := 379) (pc' := 34) (ws' := fun q3 => (([[(a0, .inr (2, [.ref q0, .ref q1, .ref q2, .null, .int 0, .int 0, .int 0]))], [(q0, .inl (g.2 0, 6, .inl (fun _ => 0)))], [(q1, .inl (g.2 0, 6, .inl (fun _ => 0)))], [(q2, .inl (g.2 0, 360, .inl (fun _ => 0)))], [(q3, .inl (g.2 0, 7, .inl (fun _ => 0)))]] : List va_W).flatten)) hX hW ha_int ⟨by decide, by decide, by decide⟩ ⟨rfl, rfl, Nat.le_of_ble_eq_true rfl, Nat.le_of_ble_eq_true rfl⟩ dX2_init_32 (fun _ => rfl) rfl (fun q3 => ?_)
  refine j_putF (ci := 2) (pc' := 37) (ws' := (([[(a0, .inr (2, [.ref q0, .ref q1, .ref q2, .ref q3, .int 0, .int 0, .int 0]))], [(q0, .inl (g.2 0, 6, .inl (fun _ => 0)))], [(q1, .inl (g.2 0, 6, .inl (fun _ => 0)))], [(q2, .inl (g.2 0, 360, .inl (fun _ => 0)))], [(q3, .inl (g.2 0, 7, .inl (fun _ => 0)))]] : List va_W).flatten)) hX hW hC hin2 tyX2_ok nmX2 rfl 0 rfl 3 (by decide) hl_21 rfl rfl rfl rfl (Nat.le_of_ble_eq_true rfl) dX2_init_34 rfl rfl ?_
  refine j_iconst (pc' := 38) (v := 0) hX dX2_init_37 (by decide) rfl ?_
  refine j_istore_n (pc' := 39) (lv' := [(1, .int 0), (0, .ref a0)]) hX dX2_init_38 rfl (by decide) rfl rfl ?_
  refine j_iload_n (pc' := 40) hX dX2_init_39 rfl 0 rfl rfl ?_
  refine j_aload_n (pc' := 41) hX dX2_init_40 rfl 1 rfl rfl ?_
  refine j_get (ci := 2) (pc' := 44) hX hin2 rfl 0 rfl 0 (by decide) hl_9 rfl dX2_init_41 rfl ?_
  refine j_alen (v := 6) (pc' := 45) hX 1 0 rfl rfl (show Int32.ofNat 6 = 6 from by decide) dX2_init_44 rfl ?_
  refine j_icmp_ge (tgt := 66) (pc' := 48) (P1 := False) (P2 := True) hX dX2_init_45 (by decide) rfl ⟨fun h => absurd h (by decide), fun _ => trivial⟩ (fun h => h.elim) (fun _ => ?_)
  refine j_aload_n (pc' := 49) hX dX2_init_48 rfl 1 rfl rfl ?_
  refine j_get (ci := 2) (pc' := 52) hX hin2 rfl 0 rfl 0 (by decide) hl_9 rfl dX2_init_49 rfl ?_
  refine j_iload_n (pc' := 53) hX dX2_init_52 rfl 0 rfl rfl ?_
  refine j_bipush (pc' := 55) (v := 32) hX dX2_init_53 (by decide) rfl ?_
  refine j_iconst (pc' := 56) (v := 4) hX dX2_init_55 (by decide) rfl ?_
  refine j_iload_n (pc' := 57) hX dX2_init_56 rfl 0 rfl rfl ?_
  refine j_imul (pc' := 58) hX dX2_init_57 rfl ?_
  refine j_isub (pc' := 59) hX dX2_init_58 rfl ?_
  refine j_iast (P := True) (pc' := 60) (ws' := (([[(a0, .inr (2, [.ref q0, .ref q1, .ref q2, .ref q3, .int 0, .int 0, .int 0]))], [(q0, .inl (g.2 0, 6, .inl (upd (fun _ => 0) (0 : Int32).toNatClampNeg ((32 : Int32) - ((4 : Int32) * 0)))))], [(q1, .inl (g.2 0, 6, .inl (fun _ => 0)))], [(q2, .inl (g.2 0, 360, .inl (fun _ => 0)))], [(q3, .inl (g.2 0, 7, .inl (fun _ => 0)))]] : List va_W).flatten)) hX hW 1 rfl dX2_init_59 ⟨by unfold vp_in; decide, trivial⟩ rfl rfl (fun _ => ?_)
  refine j_iinc (pc' := 63) (cst := 1) (v := 1) (lv' := [(1, .int 1), (0, .ref a0)]) hX dX2_init_60 (by decide) (by decide) 0 rfl (by decide) rfl rfl ?_
  refine j_goto (tgt := 39) hX dX2_init_63 (by decide) ?_
  refine j_iload_n (pc' := 40) hX dX2_init_39 rfl 0 rfl rfl ?_
  refine j_aload_n (pc' := 41) hX dX2_init_40 rfl 1 rfl rfl ?_
  refine j_get (ci := 2) (pc' := 44) hX hin2 rfl 0 rfl 0 (by decide) hl_9 rfl dX2_init_41 rfl ?_
  refine j_alen (v := 6) (pc' := 45) hX 1 0 rfl rfl (show Int32.ofNat 6 = 6 from by decide) dX2_init_44 rfl ?_
  refine j_icmp_ge (tgt := 66) (pc' := 48) (P1 := False) (P2 := True) hX dX2_init_45 (by decide) rfl ⟨fun h => absurd h (by decide), fun _ => trivial⟩ (fun h => h.elim) (fun _ => ?_)
  refine j_aload_n (pc' := 49) hX dX2_init_48 rfl 1 rfl rfl ?_
  refine j_get (ci := 2) (pc' := 52) hX hin2 rfl 0 rfl 0 (by decide) hl_9 rfl dX2_init_49 rfl ?_
  refine j_iload_n (pc' := 53) hX dX2_init_52 rfl 0 rfl rfl ?_
  refine j_bipush (pc' := 55) (v := 32) hX dX2_init_53 (by decide) rfl ?_
  refine j_iconst (pc' := 56) (v := 4) hX dX2_init_55 (by decide) rfl ?_
  refine j_iload_n (pc' := 57) hX dX2_init_56 rfl 0 rfl rfl ?_
  refine j_imul (pc' := 58) hX dX2_init_57 rfl ?_
  refine j_isub (pc' := 59) hX dX2_init_58 rfl ?_
  refine j_iast (P := True) (pc' := 60) (ws' := (([[(a0, .inr (2, [.ref q0, .ref q1, .ref q2, .ref q3, .int 0, .int 0, .int 0]))], [(q0, .inl (g.2 0, 6, .inl (upd (upd (fun _ => 0) (0 : Int32).toNatClampNeg ((32 : Int32) - ((4 : Int32) * 0))) (1 : Int32).toNatClampNeg ((32 : Int32) - ((4 : Int32) * 1)))))], [(q1, .inl (g.2 0, 6, .inl (fun _ => 0)))], [(q2, .inl (g.2 0, 360, .inl (fun _ => 0)))], [(q3, .inl (g.2 0, 7, .inl (fun _ => 0)))]] : List va_W).flatten)) hX hW 1 rfl dX2_init_59 ⟨by unfold vp_in; decide, trivial⟩ rfl rfl (fun _ => ?_)
  refine j_iinc (pc' := 63) (cst := 1) (v := 2) (lv' := [(1, .int 2), (0, .ref a0)]) hX dX2_init_60 (by decide) (by decide) 0 rfl (by decide) rfl rfl ?_
  refine j_goto (tgt := 39) hX dX2_init_63 (by decide) ?_
  refine j_iload_n (pc' := 40) hX dX2_init_39 rfl 0 rfl rfl ?_
  refine j_aload_n (pc' := 41) hX dX2_init_40 rfl 1 rfl rfl ?_
  refine j_get (ci := 2) (pc' := 44) hX hin2 rfl 0 rfl 0 (by decide) hl_9 rfl dX2_init_41 rfl ?_
  refine j_alen (v := 6) (pc' := 45) hX 1 0 rfl rfl (show Int32.ofNat 6 = 6 from by decide) dX2_init_44 rfl ?_
  refine j_icmp_ge (tgt := 66) (pc' := 48) (P1 := False) (P2 := True) hX dX2_init_45 (by decide) rfl ⟨fun h => absurd h (by decide), fun _ => trivial⟩ (fun h => h.elim) (fun _ => ?_)
  refine j_aload_n (pc' := 49) hX dX2_init_48 rfl 1 rfl rfl ?_
  refine j_get (ci := 2) (pc' := 52) hX hin2 rfl 0 rfl 0 (by decide) hl_9 rfl dX2_init_49 rfl ?_
  refine j_iload_n (pc' := 53) hX dX2_init_52 rfl 0 rfl rfl ?_
  refine j_bipush (pc' := 55) (v := 32) hX dX2_init_53 (by decide) rfl ?_
  refine j_iconst (pc' := 56) (v := 4) hX dX2_init_55 (by decide) rfl ?_
  refine j_iload_n (pc' := 57) hX dX2_init_56 rfl 0 rfl rfl ?_
  refine j_imul (pc' := 58) hX dX2_init_57 rfl ?_
  refine j_isub (pc' := 59) hX dX2_init_58 rfl ?_
  refine j_iast (P := True) (pc' := 60) (ws' := (([[(a0, .inr (2, [.ref q0, .ref q1, .ref q2, .ref q3, .int 0, .int 0, .int 0]))], [(q0, .inl (g.2 0, 6, .inl (upd (upd (upd (fun _ => 0) (0 : Int32).toNatClampNeg ((32 : Int32) - ((4 : Int32) * 0))) (1 : Int32).toNatClampNeg ((32 : Int32) - ((4 : Int32) * 1))) (2 : Int32).toNatClampNeg ((32 : Int32) - ((4 : Int32) * 2)))))], [(q1, .inl (g.2 0, 6, .inl (fun _ => 0)))], [(q2, .inl (g.2 0, 360, .inl (fun _ => 0)))], [(q3, .inl (g.2 0, 7, .inl (fun _ => 0)))]] : List va_W).flatten)) hX hW 1 rfl dX2_init_59 ⟨by unfold vp_in; decide, trivial⟩ rfl rfl (fun _ => ?_)
  refine j_iinc (pc' := 63) (cst := 1) (v := 3) (lv' := [(1, .int 3), (0, .ref a0)]) hX dX2_init_60 (by decide) (by decide) 0 rfl (by decide) rfl rfl ?_
  refine j_goto (tgt := 39) hX dX2_init_63 (by decide) ?_
  refine j_iload_n (pc' := 40) hX dX2_init_39 rfl 0 rfl rfl ?_
  refine j_aload_n (pc' := 41) hX dX2_init_40 rfl 1 rfl rfl ?_
  refine j_get (ci := 2) (pc' := 44) hX hin2 rfl 0 rfl 0 (by decide) hl_9 rfl dX2_init_41 rfl ?_
  refine j_alen (v := 6) (pc' := 45) hX 1 0 rfl rfl (show Int32.ofNat 6 = 6 from by decide) dX2_init_44 rfl ?_
  refine j_icmp_ge (tgt := 66) (pc' := 48) (P1 := False) (P2 := True) hX dX2_init_45 (by decide) rfl ⟨fun h => absurd h (by decide), fun _ => trivial⟩ (fun h => h.elim) (fun _ => ?_)
  refine j_aload_n (pc' := 49) hX dX2_init_48 rfl 1 rfl rfl ?_
  refine j_get (ci := 2) (pc' := 52) hX hin2 rfl 0 rfl 0 (by decide) hl_9 rfl dX2_init_49 rfl ?_
  refine j_iload_n (pc' := 53) hX dX2_init_52 rfl 0 rfl rfl ?_
  refine j_bipush (pc' := 55) (v := 32) hX dX2_init_53 (by decide) rfl ?_
  refine j_iconst (pc' := 56) (v := 4) hX dX2_init_55 (by decide) rfl ?_
  refine j_iload_n (pc' := 57) hX dX2_init_56 rfl 0 rfl rfl ?_
  refine j_imul (pc' := 58) hX dX2_init_57 rfl ?_
  refine j_isub (pc' := 59) hX dX2_init_58 rfl ?_
  refine j_iast (P := True) (pc' := 60) (ws' := (([[(a0, .inr (2, [.ref q0, .ref q1, .ref q2, .ref q3, .int 0, .int 0, .int 0]))], [(q0, .inl (g.2 0, 6, .inl (upd (upd (upd (upd (fun _ => 0) (0 : Int32).toNatClampNeg ((32 : Int32) - ((4 : Int32) * 0))) (1 : Int32).toNatClampNeg ((32 : Int32) - ((4 : Int32) * 1))) (2 : Int32).toNatClampNeg ((32 : Int32) - ((4 : Int32) * 2))) (3 : Int32).toNatClampNeg ((32 : Int32) - ((4 : Int32) * 3)))))], [(q1, .inl (g.2 0, 6, .inl (fun _ => 0)))], [(q2, .inl (g.2 0, 360, .inl (fun _ => 0)))], [(q3, .inl (g.2 0, 7, .inl (fun _ => 0)))]] : List va_W).flatten)) hX hW 1 rfl dX2_init_59 ⟨by unfold vp_in; decide, trivial⟩ rfl rfl (fun _ => ?_)
  refine j_iinc (pc' := 63) (cst := 1) (v := 4) (lv' := [(1, .int 4), (0, .ref a0)]) hX dX2_init_60 (by decide) (by decide) 0 rfl (by decide) rfl rfl ?_
  refine j_goto (tgt := 39) hX dX2_init_63 (by decide) ?_
  refine j_iload_n (pc' := 40) hX dX2_init_39 rfl 0 rfl rfl ?_
  refine j_aload_n (pc' := 41) hX dX2_init_40 rfl 1 rfl rfl ?_
  refine j_get (ci := 2) (pc' := 44) hX hin2 rfl 0 rfl 0 (by decide) hl_9 rfl dX2_init_41 rfl ?_
  refine j_alen (v := 6) (pc' := 45) hX 1 0 rfl rfl (show Int32.ofNat 6 = 6 from by decide) dX2_init_44 rfl ?_
  refine j_icmp_ge (tgt := 66) (pc' := 48) (P1 := False) (P2 := True) hX dX2_init_45 (by decide) rfl ⟨fun h => absurd h (by decide), fun _ => trivial⟩ (fun h => h.elim) (fun _ => ?_)
  refine j_aload_n (pc' := 49) hX dX2_init_48 rfl 1 rfl rfl ?_
  refine j_get (ci := 2) (pc' := 52) hX hin2 rfl 0 rfl 0 (by decide) hl_9 rfl dX2_init_49 rfl ?_
  refine j_iload_n (pc' := 53) hX dX2_init_52 rfl 0 rfl rfl ?_
  refine j_bipush (pc' := 55) (v := 32) hX dX2_init_53 (by decide) rfl ?_
  refine j_iconst (pc' := 56) (v := 4) hX dX2_init_55 (by decide) rfl ?_
  refine j_iload_n (pc' := 57) hX dX2_init_56 rfl 0 rfl rfl ?_
  refine j_imul (pc' := 58) hX dX2_init_57 rfl ?_
  refine j_isub (pc' := 59) hX dX2_init_58 rfl ?_
  refine j_iast (P := True) (pc' := 60) (ws' := (([[(a0, .inr (2, [.ref q0, .ref q1, .ref q2, .ref q3, .int 0, .int 0, .int 0]))], [(q0, .inl (g.2 0, 6, .inl (upd (upd (upd (upd (upd (fun _ => 0) (0 : Int32).toNatClampNeg ((32 : Int32) - ((4 : Int32) * 0))) (1 : Int32).toNatClampNeg ((32 : Int32) - ((4 : Int32) * 1))) (2 : Int32).toNatClampNeg ((32 : Int32) - ((4 : Int32) * 2))) (3 : Int32).toNatClampNeg ((32 : Int32) - ((4 : Int32) * 3))) (4 : Int32).toNatClampNeg ((32 : Int32) - ((4 : Int32) * 4)))))], [(q1, .inl (g.2 0, 6, .inl (fun _ => 0)))], [(q2, .inl (g.2 0, 360, .inl (fun _ => 0)))], [(q3, .inl (g.2 0, 7, .inl (fun _ => 0)))]] : List va_W).flatten)) hX hW 1 rfl dX2_init_59 ⟨by unfold vp_in; decide, trivial⟩ rfl rfl (fun _ => ?_)
  refine j_iinc (pc' := 63) (cst := 1) (v := 5) (lv' := [(1, .int 5), (0, .ref a0)]) hX dX2_init_60 (by decide) (by decide) 0 rfl (by decide) rfl rfl ?_
  refine j_goto (tgt := 39) hX dX2_init_63 (by decide) ?_
  refine j_iload_n (pc' := 40) hX dX2_init_39 rfl 0 rfl rfl ?_
  refine j_aload_n (pc' := 41) hX dX2_init_40 rfl 1 rfl rfl ?_
  refine j_get (ci := 2) (pc' := 44) hX hin2 rfl 0 rfl 0 (by decide) hl_9 rfl dX2_init_41 rfl ?_
  refine j_alen (v := 6) (pc' := 45) hX 1 0 rfl rfl (show Int32.ofNat 6 = 6 from by decide) dX2_init_44 rfl ?_
  refine j_icmp_ge (tgt := 66) (pc' := 48) (P1 := False) (P2 := True) hX dX2_init_45 (by decide) rfl ⟨fun h => absurd h (by decide), fun _ => trivial⟩ (fun h => h.elim) (fun _ => ?_)
  refine j_aload_n (pc' := 49) hX dX2_init_48 rfl 1 rfl rfl ?_
  refine j_get (ci := 2) (pc' := 52) hX hin2 rfl 0 rfl 0 (by decide) hl_9 rfl dX2_init_49 rfl ?_
  refine j_iload_n (pc' := 53) hX dX2_init_52 rfl 0 rfl rfl ?_
  refine j_bipush (pc' := 55) (v := 32) hX dX2_init_53 (by decide) rfl ?_
  refine j_iconst (pc' := 56) (v := 4) hX dX2_init_55 (by decide) rfl ?_
  refine j_iload_n (pc' := 57) hX dX2_init_56 rfl 0 rfl rfl ?_
  refine j_imul (pc' := 58) hX dX2_init_57 rfl ?_
  refine j_isub (pc' := 59) hX dX2_init_58 rfl ?_
  refine j_iast (P := True) (pc' := 60) (ws' := (([[(a0, .inr (2, [.ref q0, .ref q1, .ref q2, .ref q3, .int 0, .int 0, .int 0]))], [(q0, .inl (g.2 0, 6, .inl (upd (upd (upd (upd (upd (upd (fun _ => 0) (0 : Int32).toNatClampNeg ((32 : Int32) - ((4 : Int32) * 0))) (1 : Int32).toNatClampNeg ((32 : Int32) - ((4 : Int32) * 1))) (2 : Int32).toNatClampNeg ((32 : Int32) - ((4 : Int32) * 2))) (3 : Int32).toNatClampNeg ((32 : Int32) - ((4 : Int32) * 3))) (4 : Int32).toNatClampNeg ((32 : Int32) - ((4 : Int32) * 4))) (5 : Int32).toNatClampNeg ((32 : Int32) - ((4 : Int32) * 5)))))], [(q1, .inl (g.2 0, 6, .inl (fun _ => 0)))], [(q2, .inl (g.2 0, 360, .inl (fun _ => 0)))], [(q3, .inl (g.2 0, 7, .inl (fun _ => 0)))]] : List va_W).flatten)) hX hW 1 rfl dX2_init_59 ⟨by unfold vp_in; decide, trivial⟩ rfl rfl (fun _ => ?_)
  refine j_iinc (pc' := 63) (cst := 1) (v := 6) (lv' := [(1, .int 6), (0, .ref a0)]) hX dX2_init_60 (by decide) (by decide) 0 rfl (by decide) rfl rfl ?_
  refine j_goto (tgt := 39) hX dX2_init_63 (by decide) ?_
  refine j_iload_n (pc' := 40) hX dX2_init_39 rfl 0 rfl rfl ?_
  refine j_aload_n (pc' := 41) hX dX2_init_40 rfl 1 rfl rfl ?_
  refine j_get (ci := 2) (pc' := 44) hX hin2 rfl 0 rfl 0 (by decide) hl_9 rfl dX2_init_41 rfl ?_
  refine j_alen (v := 6) (pc' := 45) hX 1 0 rfl rfl (show Int32.ofNat 6 = 6 from by decide) dX2_init_44 rfl ?_
  refine j_icmp_ge (tgt := 66) (pc' := 48) (P1 := True) (P2 := False) hX dX2_init_45 (by decide) rfl ⟨fun _ => trivial, fun h => absurd (by decide) h⟩ (fun _ => ?_) (fun h => h.elim)
  refine j_iconst (pc' := 67) (v := 1) hX dX2_init_66 (by decide) rfl ?_
  refine j_istore_n (pc' := 68) (lv' := [(1, .int 1), (0, .ref a0)]) hX dX2_init_67 rfl (by decide) rfl rfl ?_
  refine j_iload_n (pc' := 69) hX dX2_init_68 rfl 0 rfl rfl ?_
  refine j_aload_n (pc' := 70) hX dX2_init_69 rfl 1 rfl rfl ?_
  refine j_get (ci := 2) (pc' := 73) hX hin2 rfl 0 rfl 3 (by decide) hl_21 rfl dX2_init_70 rfl ?_
  refine j_alen (v := 7) (pc' := 74) hX 4 0 rfl rfl (show Int32.ofNat 7 = 7 from by decide) dX2_init_73 rfl ?_
  refine j_icmp_ge (tgt := 91) (pc' := 77) (P1 := False) (P2 := True) hX dX2_init_74 (by decide) rfl ⟨fun h => absurd h (by decide), fun _ => trivial⟩ (fun h => h.elim) (fun _ => ?_)
  refine j_aload_n (pc' := 78) hX dX2_init_77 rfl 1 rfl rfl ?_
  refine j_get (ci := 2) (pc' := 81) hX hin2 rfl 0 rfl 3 (by decide) hl_21 rfl dX2_init_78 rfl ?_
  refine j_iload_n (pc' := 82) hX dX2_init_81 rfl 0 rfl rfl ?_
  refine j_bipush (pc' := 84) (v := 9) hX dX2_init_82 (by decide) rfl ?_
  refine j_iast (P := True) (pc' := 85) (ws' := (([[(a0, .inr (2, [.ref q0, .ref q1, .ref q2, .ref q3, .int 0, .int 0, .int 0]))], [(q0, .inl (g.2 0, 6, .inl (upd (upd (upd (upd (upd (upd (fun _ => 0) (0 : Int32).toNatClampNeg ((32 : Int32) - ((4 : Int32) * 0))) (1 : Int32).toNatClampNeg ((32 : Int32) - ((4 : Int32) * 1))) (2 : Int32).toNatClampNeg ((32 : Int32) - ((4 : Int32) * 2))) (3 : Int32).toNatClampNeg ((32 : Int32) - ((4 : Int32) * 3))) (4 : Int32).toNatClampNeg ((32 : Int32) - ((4 : Int32) * 4))) (5 : Int32).toNatClampNeg ((32 : Int32) - ((4 : Int32) * 5)))))], [(q1, .inl (g.2 0, 6, .inl (fun _ => 0)))], [(q2, .inl (g.2 0, 360, .inl (fun _ => 0)))], [(q3, .inl (g.2 0, 7, .inl (upd (fun _ => 0) (1 : Int32).toNatClampNeg 9)))]] : List va_W).flatten)) hX hW 4 rfl dX2_init_84 ⟨by unfold vp_in; decide, trivial⟩ rfl rfl (fun _ => ?_)
  refine j_iinc (pc' := 88) (cst := 1) (v := 2) (lv' := [(1, .int 2), (0, .ref a0)]) hX dX2_init_85 (by decide) (by decide) 0 rfl (by decide) rfl rfl ?_
  refine j_goto (tgt := 68) hX dX2_init_88 (by decide) ?_
  refine j_iload_n (pc' := 69) hX dX2_init_68 rfl 0 rfl rfl ?_
  refine j_aload_n (pc' := 70) hX dX2_init_69 rfl 1 rfl rfl ?_
  refine j_get (ci := 2) (pc' := 73) hX hin2 rfl 0 rfl 3 (by decide) hl_21 rfl dX2_init_70 rfl ?_
  refine j_alen (v := 7) (pc' := 74) hX 4 0 rfl rfl (show Int32.ofNat 7 = 7 from by decide) dX2_init_73 rfl ?_
  refine j_icmp_ge (tgt := 91) (pc' := 77) (P1 := False) (P2 := True) hX dX2_init_74 (by decide) rfl ⟨fun h => absurd h (by decide), fun _ => trivial⟩ (fun h => h.elim) (fun _ => ?_)
  refine j_aload_n (pc' := 78) hX dX2_init_77 rfl 1 rfl rfl ?_
  refine j_get (ci := 2) (pc' := 81) hX hin2 rfl 0 rfl 3 (by decide) hl_21 rfl dX2_init_78 rfl ?_
  refine j_iload_n (pc' := 82) hX dX2_init_81 rfl 0 rfl rfl ?_
  refine j_bipush (pc' := 84) (v := 9) hX dX2_init_82 (by decide) rfl ?_
  refine j_iast (P := True) (pc' := 85) (ws' := (([[(a0, .inr (2, [.ref q0, .ref q1, .ref q2, .ref q3, .int 0, .int 0, .int 0]))], [(q0, .inl (g.2 0, 6, .inl (upd (upd (upd (upd (upd (upd (fun _ => 0) (0 : Int32).toNatClampNeg ((32 : Int32) - ((4 : Int32) * 0))) (1 : Int32).toNatClampNeg ((32 : Int32) - ((4 : Int32) * 1))) (2 : Int32).toNatClampNeg ((32 : Int32) - ((4 : Int32) * 2))) (3 : Int32).toNatClampNeg ((32 : Int32) - ((4 : Int32) * 3))) (4 : Int32).toNatClampNeg ((32 : Int32) - ((4 : Int32) * 4))) (5 : Int32).toNatClampNeg ((32 : Int32) - ((4 : Int32) * 5)))))], [(q1, .inl (g.2 0, 6, .inl (fun _ => 0)))], [(q2, .inl (g.2 0, 360, .inl (fun _ => 0)))], [(q3, .inl (g.2 0, 7, .inl (upd (upd (fun _ => 0) (1 : Int32).toNatClampNeg 9) (2 : Int32).toNatClampNeg 9)))]] : List va_W).flatten)) hX hW 4 rfl dX2_init_84 ⟨by unfold vp_in; decide, trivial⟩ rfl rfl (fun _ => ?_)
  refine j_iinc (pc' := 88) (cst := 1) (v := 3) (lv' := [(1, .int 3), (0, .ref a0)]) hX dX2_init_85 (by decide) (by decide) 0 rfl (by decide) rfl rfl ?_
  refine j_goto (tgt := 68) hX dX2_init_88 (by decide) ?_
  refine j_iload_n (pc' := 69) hX dX2_init_68 rfl 0 rfl rfl ?_
  refine j_aload_n (pc' := 70) hX dX2_init_69 rfl 1 rfl rfl ?_
  refine j_get (ci := 2) (pc' := 73) hX hin2 rfl 0 rfl 3 (by decide) hl_21 rfl dX2_init_70 rfl ?_
  refine j_alen (v := 7) (pc' := 74) hX 4 0 rfl rfl (show Int32.ofNat 7 = 7 from by decide) dX2_init_73 rfl ?_
  refine j_icmp_ge (tgt := 91) (pc' := 77) (P1 := False) (P2 := True) hX dX2_init_74 (by decide) rfl ⟨fun h => absurd h (by decide), fun _ => trivial⟩ (fun h => h.elim) (fun _ => ?_)
  refine j_aload_n (pc' := 78) hX dX2_init_77 rfl 1 rfl rfl ?_
  refine j_get (ci := 2) (pc' := 81) hX hin2 rfl 0 rfl 3 (by decide) hl_21 rfl dX2_init_78 rfl ?_
  refine j_iload_n (pc' := 82) hX dX2_init_81 rfl 0 rfl rfl ?_
  refine j_bipush (pc' := 84) (v := 9) hX dX2_init_82 (by decide) rfl ?_
  refine j_iast (P := True) (pc' := 85) (ws' := (([[(a0, .inr (2, [.ref q0, .ref q1, .ref q2, .ref q3, .int 0, .int 0, .int 0]))], [(q0, .inl (g.2 0, 6, .inl (upd (upd (upd (upd (upd (upd (fun _ => 0) (0 : Int32).toNatClampNeg ((32 : Int32) - ((4 : Int32) * 0))) (1 : Int32).toNatClampNeg ((32 : Int32) - ((4 : Int32) * 1))) (2 : Int32).toNatClampNeg ((32 : Int32) - ((4 : Int32) * 2))) (3 : Int32).toNatClampNeg ((32 : Int32) - ((4 : Int32) * 3))) (4 : Int32).toNatClampNeg ((32 : Int32) - ((4 : Int32) * 4))) (5 : Int32).toNatClampNeg ((32 : Int32) - ((4 : Int32) * 5)))))], [(q1, .inl (g.2 0, 6, .inl (fun _ => 0)))], [(q2, .inl (g.2 0, 360, .inl (fun _ => 0)))], [(q3, .inl (g.2 0, 7, .inl (upd (upd (upd (fun _ => 0) (1 : Int32).toNatClampNeg 9) (2 : Int32).toNatClampNeg 9) (3 : Int32).toNatClampNeg 9)))]] : List va_W).flatten)) hX hW 4 rfl dX2_init_84 ⟨by unfold vp_in; decide, trivial⟩ rfl rfl (fun _ => ?_)
  refine j_iinc (pc' := 88) (cst := 1) (v := 4) (lv' := [(1, .int 4), (0, .ref a0)]) hX dX2_init_85 (by decide) (by decide) 0 rfl (by decide) rfl rfl ?_
  refine j_goto (tgt := 68) hX dX2_init_88 (by decide) ?_
  refine j_iload_n (pc' := 69) hX dX2_init_68 rfl 0 rfl rfl ?_
  refine j_aload_n (pc' := 70) hX dX2_init_69 rfl 1 rfl rfl ?_
  refine j_get (ci := 2) (pc' := 73) hX hin2 rfl 0 rfl 3 (by decide) hl_21 rfl dX2_init_70 rfl ?_
  refine j_alen (v := 7) (pc' := 74) hX 4 0 rfl rfl (show Int32.ofNat 7 = 7 from by decide) dX2_init_73 rfl ?_
  refine j_icmp_ge (tgt := 91) (pc' := 77) (P1 := False) (P2 := True) hX dX2_init_74 (by decide) rfl ⟨fun h => absurd h (by decide), fun _ => trivial⟩ (fun h => h.elim) (fun _ => ?_)
  refine j_aload_n (pc' := 78) hX dX2_init_77 rfl 1 rfl rfl ?_
  refine j_get (ci := 2) (pc' := 81) hX hin2 rfl 0 rfl 3 (by decide) hl_21 rfl dX2_init_78 rfl ?_
  refine j_iload_n (pc' := 82) hX dX2_init_81 rfl 0 rfl rfl ?_
  refine j_bipush (pc' := 84) (v := 9) hX dX2_init_82 (by decide) rfl ?_
  refine j_iast (P := True) (pc' := 85) (ws' := (([[(a0, .inr (2, [.ref q0, .ref q1, .ref q2, .ref q3, .int 0, .int 0, .int 0]))], [(q0, .inl (g.2 0, 6, .inl (upd (upd (upd (upd (upd (upd (fun _ => 0) (0 : Int32).toNatClampNeg ((32 : Int32) - ((4 : Int32) * 0))) (1 : Int32).toNatClampNeg ((32 : Int32) - ((4 : Int32) * 1))) (2 : Int32).toNatClampNeg ((32 : Int32) - ((4 : Int32) * 2))) (3 : Int32).toNatClampNeg ((32 : Int32) - ((4 : Int32) * 3))) (4 : Int32).toNatClampNeg ((32 : Int32) - ((4 : Int32) * 4))) (5 : Int32).toNatClampNeg ((32 : Int32) - ((4 : Int32) * 5)))))], [(q1, .inl (g.2 0, 6, .inl (fun _ => 0)))], [(q2, .inl (g.2 0, 360, .inl (fun _ => 0)))], [(q3, .inl (g.2 0, 7, .inl (upd (upd (upd (upd (fun _ => 0) (1 : Int32).toNatClampNeg 9) (2 : Int32).toNatClampNeg 9) (3 : Int32).toNatClampNeg 9) (4 : Int32).toNatClampNeg 9)))]] : List va_W).flatten)) hX hW 4 rfl dX2_init_84 ⟨by unfold vp_in; decide, trivial⟩ rfl rfl (fun _ => ?_)
  refine j_iinc (pc' := 88) (cst := 1) (v := 5) (lv' := [(1, .int 5), (0, .ref a0)]) hX dX2_init_85 (by decide) (by decide) 0 rfl (by decide) rfl rfl ?_
  refine j_goto (tgt := 68) hX dX2_init_88 (by decide) ?_
  refine j_iload_n (pc' := 69) hX dX2_init_68 rfl 0 rfl rfl ?_
  refine j_aload_n (pc' := 70) hX dX2_init_69 rfl 1 rfl rfl ?_
  refine j_get (ci := 2) (pc' := 73) hX hin2 rfl 0 rfl 3 (by decide) hl_21 rfl dX2_init_70 rfl ?_
  refine j_alen (v := 7) (pc' := 74) hX 4 0 rfl rfl (show Int32.ofNat 7 = 7 from by decide) dX2_init_73 rfl ?_
  refine j_icmp_ge (tgt := 91) (pc' := 77) (P1 := False) (P2 := True) hX dX2_init_74 (by decide) rfl ⟨fun h => absurd h (by decide), fun _ => trivial⟩ (fun h => h.elim) (fun _ => ?_)
  refine j_aload_n (pc' := 78) hX dX2_init_77 rfl 1 rfl rfl ?_
  refine j_get (ci := 2) (pc' := 81) hX hin2 rfl 0 rfl 3 (by decide) hl_21 rfl dX2_init_78 rfl ?_
  refine j_iload_n (pc' := 82) hX dX2_init_81 rfl 0 rfl rfl ?_
  refine j_bipush (pc' := 84) (v := 9) hX dX2_init_82 (by decide) rfl ?_
  refine j_iast (P := True) (pc' := 85) (ws' := (([[(a0, .inr (2, [.ref q0, .ref q1, .ref q2, .ref q3, .int 0, .int 0, .int 0]))], [(q0, .inl (g.2 0, 6, .inl (upd (upd (upd (upd (upd (upd (fun _ => 0) (0 : Int32).toNatClampNeg ((32 : Int32) - ((4 : Int32) * 0))) (1 : Int32).toNatClampNeg ((32 : Int32) - ((4 : Int32) * 1))) (2 : Int32).toNatClampNeg ((32 : Int32) - ((4 : Int32) * 2))) (3 : Int32).toNatClampNeg ((32 : Int32) - ((4 : Int32) * 3))) (4 : Int32).toNatClampNeg ((32 : Int32) - ((4 : Int32) * 4))) (5 : Int32).toNatClampNeg ((32 : Int32) - ((4 : Int32) * 5)))))], [(q1, .inl (g.2 0, 6, .inl (fun _ => 0)))], [(q2, .inl (g.2 0, 360, .inl (fun _ => 0)))], [(q3, .inl (g.2 0, 7, .inl (upd (upd (upd (upd (upd (fun _ => 0) (1 : Int32).toNatClampNeg 9) (2 : Int32).toNatClampNeg 9) (3 : Int32).toNatClampNeg 9) (4 : Int32).toNatClampNeg 9) (5 : Int32).toNatClampNeg 9)))]] : List va_W).flatten)) hX hW 4 rfl dX2_init_84 ⟨by unfold vp_in; decide, trivial⟩ rfl rfl (fun _ => ?_)
  refine j_iinc (pc' := 88) (cst := 1) (v := 6) (lv' := [(1, .int 6), (0, .ref a0)]) hX dX2_init_85 (by decide) (by decide) 0 rfl (by decide) rfl rfl ?_
  refine j_goto (tgt := 68) hX dX2_init_88 (by decide) ?_
  refine j_iload_n (pc' := 69) hX dX2_init_68 rfl 0 rfl rfl ?_
  refine j_aload_n (pc' := 70) hX dX2_init_69 rfl 1 rfl rfl ?_
  refine j_get (ci := 2) (pc' := 73) hX hin2 rfl 0 rfl 3 (by decide) hl_21 rfl dX2_init_70 rfl ?_
  refine j_alen (v := 7) (pc' := 74) hX 4 0 rfl rfl (show Int32.ofNat 7 = 7 from by decide) dX2_init_73 rfl ?_
  refine j_icmp_ge (tgt := 91) (pc' := 77) (P1 := False) (P2 := True) hX dX2_init_74 (by decide) rfl ⟨fun h => absurd h (by decide), fun _ => trivial⟩ (fun h => h.elim) (fun _ => ?_)
  refine j_aload_n (pc' := 78) hX dX2_init_77 rfl 1 rfl rfl ?_
  refine j_get (ci := 2) (pc' := 81) hX hin2 rfl 0 rfl 3 (by decide) hl_21 rfl dX2_init_78 rfl ?_
  refine j_iload_n (pc' := 82) hX dX2_init_81 rfl 0 rfl rfl ?_
  refine j_bipush (pc' := 84) (v := 9) hX dX2_init_82 (by decide) rfl ?_
  refine j_iast (P := True) (pc' := 85) (ws' := (([[(a0, .inr (2, [.ref q0, .ref q1, .ref q2, .ref q3, .int 0, .int 0, .int 0]))], [(q0, .inl (g.2 0, 6, .inl (upd (upd (upd (upd (upd (upd (fun _ => 0) (0 : Int32).toNatClampNeg ((32 : Int32) - ((4 : Int32) * 0))) (1 : Int32).toNatClampNeg ((32 : Int32) - ((4 : Int32) * 1))) (2 : Int32).toNatClampNeg ((32 : Int32) - ((4 : Int32) * 2))) (3 : Int32).toNatClampNeg ((32 : Int32) - ((4 : Int32) * 3))) (4 : Int32).toNatClampNeg ((32 : Int32) - ((4 : Int32) * 4))) (5 : Int32).toNatClampNeg ((32 : Int32) - ((4 : Int32) * 5)))))], [(q1, .inl (g.2 0, 6, .inl (fun _ => 0)))], [(q2, .inl (g.2 0, 360, .inl (fun _ => 0)))], [(q3, .inl (g.2 0, 7, .inl (upd (upd (upd (upd (upd (upd (fun _ => 0) (1 : Int32).toNatClampNeg 9) (2 : Int32).toNatClampNeg 9) (3 : Int32).toNatClampNeg 9) (4 : Int32).toNatClampNeg 9) (5 : Int32).toNatClampNeg 9) (6 : Int32).toNatClampNeg 9)))]] : List va_W).flatten)) hX hW 4 rfl dX2_init_84 ⟨by unfold vp_in; decide, trivial⟩ rfl rfl (fun _ => ?_)
  refine j_iinc (pc' := 88) (cst := 1) (v := 7) (lv' := [(1, .int 7), (0, .ref a0)]) hX dX2_init_85 (by decide) (by decide) 0 rfl (by decide) rfl rfl ?_
  refine j_goto (tgt := 68) hX dX2_init_88 (by decide) ?_
  refine j_iload_n (pc' := 69) hX dX2_init_68 rfl 0 rfl rfl ?_
  refine j_aload_n (pc' := 70) hX dX2_init_69 rfl 1 rfl rfl ?_
  refine j_get (ci := 2) (pc' := 73) hX hin2 rfl 0 rfl 3 (by decide) hl_21 rfl dX2_init_70 rfl ?_
  refine j_alen (v := 7) (pc' := 74) hX 4 0 rfl rfl (show Int32.ofNat 7 = 7 from by decide) dX2_init_73 rfl ?_
  refine j_icmp_ge (tgt := 91) (pc' := 77) (P1 := True) (P2 := False) hX dX2_init_74 (by decide) rfl ⟨fun _ => trivial, fun h => absurd (by decide) h⟩ (fun _ => ?_) (fun h => h.elim)
  exact j_vret hX hR dX2_init_91 ⟨rfl, (q0, q1, q2, q3), rfl⟩
def zMd : Md := ((upd (upd (upd (upd (upd (upd (upd (fun _ => 0) (0 : Int32).toNatClampNeg 32) (((3 : Int32) + 1) : Int32).toNatClampNeg 9) (((3 : Int32) + 2) : Int32).toNatClampNeg 9) (((3 : Int32) + 3) : Int32).toNatClampNeg 9) (((3 : Int32) + 4) : Int32).toNatClampNeg 9) (((3 : Int32) + 5) : Int32).toNatClampNeg 9) (((3 : Int32) + 6) : Int32).toNatClampNeg 9), (fun _ => 0), (fun _ => 0), (fun _ => 0), (fun _ => 0), (fun _ => 0), 0, 0, 0, 0, 0, 0)
theorem yoX5_init : yOk yX5_init 0 := by decide +kernel
set_option maxHeartbeats 4000000 in
set_option maxRecDepth 100000 in
theorem met_X5_init (l : Launch) (g : JG) (a0 : Nat) : MetC l yX5_init wsX5_init ({ frames := 1, cells := 6, slots := 3309, locals := 40 } : Room) [.ref a0] g [(a0, .inr (5, [.null, .null, .null, .int 0, .null, .int 0, .int 0, .int 0, .int 0, .null, .int 0, .null]))] (fun u : Nat × Nat × Nat × Nat × Nat × Nat => MdW g a0 u.1 u.2.1 u.2.2.1 u.2.2.2.1 u.2.2.2.2.1 u.2.2.2.2.2 zMd) := by
  have hl_1 : Cond.methodLink RX5 1 objectInit ∈ wsX5_init := by decide +kernel
  have h_oi : Cond.instanceMethod objectInit ∈ wsX5_init := by decide +kernel
  have h_oc : Cond.code objectInit ⟨#[0xb1]⟩ 1 none ∈ wsX5_init := by decide +kernel
  have ha_int : Cond.arrayClass .int ∈ wsX5_init := by decide +kernel
  have hin5 : ∀ w ∈ u_ws RX5 TX5 12, w ∈ wsX5_init := by decide +kernel
  have hl_7 : Cond.fieldLink RX5 7 (TX5 0).1 (TX5 0).2.1 (TX5 0).2.2.1 ∈ wsX5_init := by decide +kernel
  have hl_13 : Cond.fieldLink RX5 13 (TX5 1).1 (TX5 1).2.1 (TX5 1).2.2.1 ∈ wsX5_init := by decide +kernel
  have hl_16 : Cond.fieldLink RX5 16 (TX5 2).1 (TX5 2).2.1 (TX5 2).2.2.1 ∈ wsX5_init := by decide +kernel
  have hl_19 : Cond.fieldLink RX5 19 (TX5 4).1 (TX5 4).2.1 (TX5 4).2.2.1 ∈ wsX5_init := by decide +kernel
  have hl_22 : Cond.fieldLink RX5 22 (TX5 9).1 (TX5 9).2.1 (TX5 9).2.2.1 ∈ wsX5_init := by decide +kernel
  have hl_25 : Cond.fieldLink RX5 25 (TX5 11).1 (TX5 11).2.1 (TX5 11).2.2.1 ∈ wsX5_init := by decide +kernel
  refine enterC (own := RX5) (cc := cX5_init) (nL := 2) (lv := [(0, .ref a0)]) (by decide) rfl rfl rfl (Nat.le_of_ble_eq_true rfl) rfl (fun X hX hW hC hR => ?_)
  refine J_ws (ws' := (([[(a0, .inr (5, [.null, .null, .null, .int 0, .null, .int 0, .int 0, .int 0, .int 0, .null, .int 0, .null]))]] : List va_W).flatten)) rfl ?_
  refine j_aload_n (pc' := 1) hX dX5_init_0 rfl 0 rfl rfl ?_
  refine j_objInit (pc' := 4) hX hl_1 h_oi h_oc ⟨Nat.le_of_ble_eq_true rfl, Nat.le_of_ble_eq_true rfl⟩ dX5_init_1 rfl ?_
  refine j_aload_n (pc' := 5) hX dX5_init_4 rfl 0 rfl rfl ?_
  refine j_sipush (pc' := 8) (v := 376) hX dX5_init_5 (by decide) rfl ?_
  refine j_newi (k' := 1) (n' := 376) (pc' := 10) (ws' := fun q0 => (([[(a0, .inr (5, [.null, .null, .null, .int 0, .null, .int 0, .int 0, .int 0, .int 0, .null, .int 0, .null]))], [(q0, .inl (g.2 0, 376, .inl (fun _ => 0)))]] : List va_W).flatten)) hX hW ha_int ⟨by decide, by decide, by decide⟩ ⟨rfl, rfl, Nat.le_of_ble_eq_true rfl, Nat.le_of_ble_eq_true rfl⟩ dX5_init_8 (fun _ => rfl) rfl (fun q0 => ?_)
  refine j_putF (ci := 5) (pc' := 13) (ws' := (([[(a0, .inr (5, [.ref q0, .null, .null, .int 0, .null, .int 0, .int 0, .int 0, .int 0, .null, .int 0, .null]))], [(q0, .inl (g.2 0, 376, .inl (fun _ => 0)))]] : List va_W).flatten)) hX hW hC hin5 tyX5_ok nmX5 rfl 0 rfl 0 (by decide) hl_7 rfl rfl rfl rfl (Nat.le_of_ble_eq_true rfl) dX5_init_10 rfl rfl ?_
  refine j_aload_n (pc' := 14) hX dX5_init_13 rfl 0 rfl rfl ?_
  refine j_sipush (pc' := 17) (v := 376) hX dX5_init_14 (by decide) rfl ?_
  refine j_newi (k' := 2) (n' := 752) (pc' := 19) (ws' := fun q1 => (([[(a0, .inr (5, [.ref q0, .null, .null, .int 0, .null, .int 0, .int 0, .int 0, .int 0, .null, .int 0, .null]))], [(q0, .inl (g.2 0, 376, .inl (fun _ => 0)))], [(q1, .inl (g.2 0, 376, .inl (fun _ => 0)))]] : List va_W).flatten)) hX hW ha_int ⟨by decide, by decide, by decide⟩ ⟨rfl, rfl, Nat.le_of_ble_eq_true rfl, Nat.le_of_ble_eq_true rfl⟩ dX5_init_17 (fun _ => rfl) rfl (fun q1 => ?_)
  refine j_putF (ci := 5) (pc' := 22) (ws' := (([[(a0, .inr (5, [.ref q0, .ref q1, .null, .int 0, .null, .int 0, .int 0, .int 0, .int 0, .null, .int 0, .null]))], [(q0, .inl (g.2 0, 376, .inl (fun _ => 0)))], [(q1, .inl (g.2 0, 376, .inl (fun _ => 0)))]] : List va_W).flatten)) hX hW hC hin5 tyX5_ok nmX5 rfl 0 rfl 1 (by decide) hl_13 rfl rfl rfl rfl (Nat.le_of_ble_eq_true rfl) dX5_init_19 rfl rfl ?_
  refine j_aload_n (pc' := 23) hX dX5_init_22 rfl 0 rfl rfl ?_
  refine j_sipush (pc' := 26) (v := 2256) hX dX5_init_23 (by decide) rfl ?_
  refine j_newi (k' := 3) (n' := 3008) (pc' := 28) (ws' := fun q2 => (([[(a0, .inr (5, [.ref q0, .ref q1, .null, .int 0, .null, .int 0, .int 0, .int 0, .int 0, .null, .int 0, .null]))], [(q0, .inl (g.2 0, 376, .inl (fun _ => 0)))], [(q1, .inl (g.2 0, 376, .inl (fun _ => 0)))], [(q2, .inl (g.2 0, 2256, .inl (fun _ => 0)))]] : List va_W).flatten)) hX hW ha_int ⟨by decide, by decide, by decide⟩ ⟨rfl, rfl, Nat.le_of_ble_eq_true rfl, Nat.le_of_ble_eq_true rfl⟩ dX5_init_26 (fun _ => rfl) rfl (fun q2 => ?_)
  refine j_putF (ci := 5) (pc' := 31) (ws' := (([[(a0, .inr (5, [.ref q0, .ref q1, .ref q2, .int 0, .null, .int 0, .int 0, .int 0, .int 0, .null, .int 0, .null]))], [(q0, .inl (g.2 0, 376, .inl (fun _ => 0)))], [(q1, .inl (g.2 0, 376, .inl (fun _ => 0)))], [(q2, .inl (g.2 0, 2256, .inl (fun _ => 0)))]] : List va_W).flatten)) hX hW hC hin5 tyX5_ok nmX5 rfl 0 rfl 2 (by decide) hl_16 rfl rfl rfl rfl (Nat.le_of_ble_eq_true rfl) dX5_init_28 rfl rfl ?_
  refine j_aload_n (pc' := 32) hX dX5_init_31 rfl 0 rfl rfl ?_
  refine j_bipush (pc' := 34) (v := 60) hX dX5_init_32 (by decide) rfl ?_
  refine j_newi (k' := 4) (n' := 3068) (pc' := 36) (ws' := fun q3 => (([[(a0, .inr (5, [.ref q0, .ref q1, .ref q2, .int 0, .null, .int 0, .int 0, .int 0, .int 0, .null, .int 0, .null]))], [(q0, .inl (g.2 0, 376, .inl (fun _ => 0)))], [(q1, .inl (g.2 0, 376, .inl (fun _ => 0)))], [(q2, .inl (g.2 0, 2256, .inl (fun _ => 0)))], [(q3, .inl (g.2 0, 60, .inl (fun _ => 0)))]] : List va_W).flatten)) hX hW ha_int ⟨by decide, by decide, by decide⟩ ⟨rfl, rfl, Nat.le_of_ble_eq_true rfl, Nat.le_of_ble_eq_true rfl⟩ dX5_init_34 (fun _ => rfl) rfl (fun q3 => ?_)
  refine j_putF (ci := 5) (pc' := 39) (ws' := (([[(a0, .inr (5, [.ref q0, .ref q1, .ref q2, .int 0, .ref q3, .int 0, .int 0, .int 0, .int 0, .null, .int 0, .null]))], [(q0, .inl (g.2 0, 376, .inl (fun _ => 0)))], [(q1, .inl (g.2 0, 376, .inl (fun _ => 0)))], [(q2, .inl (g.2 0, 2256, .inl (fun _ => 0)))], [(q3, .inl (g.2 0, 60, .inl (fun _ => 0)))]] : List va_W).flatten)) hX hW hC hin5 tyX5_ok nmX5 rfl 0 rfl 4 (by decide) hl_19 rfl rfl rfl rfl (Nat.le_of_ble_eq_true rfl) dX5_init_36 rfl rfl ?_
  refine j_aload_n (pc' := 40) hX dX5_init_39 rfl 0 rfl rfl ?_
  refine j_sipush (pc' := 43) (v := 180) hX dX5_init_40 (by decide) rfl ?_
  refine j_newi (k' := 5) (n' := 3248) (pc' := 45) (ws' := fun q4 => (([[(a0, .inr (5, [.ref q0, .ref q1, .ref q2, .int 0, .ref q3, .int 0, .int 0, .int 0, .int 0, .null, .int 0, .null]))], [(q0, .inl (g.2 0, 376, .inl (fun _ => 0)))], [(q1, .inl (g.2 0, 376, .inl (fun _ => 0)))], [(q2, .inl (g.2 0, 2256, .inl (fun _ => 0)))], [(q3, .inl (g.2 0, 60, .inl (fun _ => 0)))], [(q4, .inl (g.2 0, 180, .inl (fun _ => 0)))]] : List va_W).flatten)) hX hW ha_int ⟨by decide, by decide, by decide⟩ ⟨rfl, rfl, Nat.le_of_ble_eq_true rfl, Nat.le_of_ble_eq_true rfl⟩ dX5_init_43 (fun _ => rfl) rfl (fun q4 => ?_)
  refine j_putF (ci := 5) (pc' := 48) (ws' := (([[(a0, .inr (5, [.ref q0, .ref q1, .ref q2, .int 0, .ref q3, .int 0, .int 0, .int 0, .int 0, .ref q4, .int 0, .null]))], [(q0, .inl (g.2 0, 376, .inl (fun _ => 0)))], [(q1, .inl (g.2 0, 376, .inl (fun _ => 0)))], [(q2, .inl (g.2 0, 2256, .inl (fun _ => 0)))], [(q3, .inl (g.2 0, 60, .inl (fun _ => 0)))], [(q4, .inl (g.2 0, 180, .inl (fun _ => 0)))]] : List va_W).flatten)) hX hW hC hin5 tyX5_ok nmX5 rfl 0 rfl 9 (by decide) hl_22 rfl rfl rfl rfl (Nat.le_of_ble_eq_true rfl) dX5_init_45 rfl rfl ?_
  refine j_aload_n (pc' := 49) hX dX5_init_48 rfl 0 rfl rfl ?_
  refine j_bipush (pc' := 51) (v := 61) hX dX5_init_49 (by decide) rfl ?_
  refine j_newi (k' := 6) (n' := 3309) (pc' := 53) (ws' := fun q5 => (([[(a0, .inr (5, [.ref q0, .ref q1, .ref q2, .int 0, .ref q3, .int 0, .int 0, .int 0, .int 0, .ref q4, .int 0, .null]))], [(q0, .inl (g.2 0, 376, .inl (fun _ => 0)))], [(q1, .inl (g.2 0, 376, .inl (fun _ => 0)))], [(q2, .inl (g.2 0, 2256, .inl (fun _ => 0)))], [(q3, .inl (g.2 0, 60, .inl (fun _ => 0)))], [(q4, .inl (g.2 0, 180, .inl (fun _ => 0)))], [(q5, .inl (g.2 0, 61, .inl (fun _ => 0)))]] : List va_W).flatten)) hX hW ha_int ⟨by decide, by decide, by decide⟩ ⟨rfl, rfl, Nat.le_of_ble_eq_true rfl, Nat.le_of_ble_eq_true rfl⟩ dX5_init_51 (fun _ => rfl) rfl (fun q5 => ?_)
  refine j_putF (ci := 5) (pc' := 56) (ws' := (([[(a0, .inr (5, [.ref q0, .ref q1, .ref q2, .int 0, .ref q3, .int 0, .int 0, .int 0, .int 0, .ref q4, .int 0, .ref q5]))], [(q0, .inl (g.2 0, 376, .inl (fun _ => 0)))], [(q1, .inl (g.2 0, 376, .inl (fun _ => 0)))], [(q2, .inl (g.2 0, 2256, .inl (fun _ => 0)))], [(q3, .inl (g.2 0, 60, .inl (fun _ => 0)))], [(q4, .inl (g.2 0, 180, .inl (fun _ => 0)))], [(q5, .inl (g.2 0, 61, .inl (fun _ => 0)))]] : List va_W).flatten)) hX hW hC hin5 tyX5_ok nmX5 rfl 0 rfl 11 (by decide) hl_25 rfl rfl rfl rfl (Nat.le_of_ble_eq_true rfl) dX5_init_53 rfl rfl ?_
  refine j_aload_n (pc' := 57) hX dX5_init_56 rfl 0 rfl rfl ?_
  refine j_get (ci := 5) (pc' := 60) hX hin5 rfl 0 rfl 0 (by decide) hl_7 rfl dX5_init_57 rfl ?_
  refine j_iconst (pc' := 61) (v := 0) hX dX5_init_60 (by decide) rfl ?_
  refine j_bipush (pc' := 63) (v := 32) hX dX5_init_61 (by decide) rfl ?_
  refine j_iast (P := True) (pc' := 64) (ws' := (([[(a0, .inr (5, [.ref q0, .ref q1, .ref q2, .int 0, .ref q3, .int 0, .int 0, .int 0, .int 0, .ref q4, .int 0, .ref q5]))], [(q0, .inl (g.2 0, 376, .inl (upd (fun _ => 0) (0 : Int32).toNatClampNeg 32)))], [(q1, .inl (g.2 0, 376, .inl (fun _ => 0)))], [(q2, .inl (g.2 0, 2256, .inl (fun _ => 0)))], [(q3, .inl (g.2 0, 60, .inl (fun _ => 0)))], [(q4, .inl (g.2 0, 180, .inl (fun _ => 0)))], [(q5, .inl (g.2 0, 61, .inl (fun _ => 0)))]] : List va_W).flatten)) hX hW 1 rfl dX5_init_63 ⟨by unfold vp_in; decide, trivial⟩ rfl rfl (fun _ => ?_)
  refine j_iconst (pc' := 65) (v := 1) hX dX5_init_64 (by decide) rfl ?_
  refine j_istore_n (pc' := 66) (lv' := [(1, .int 1), (0, .ref a0)]) hX dX5_init_65 rfl (by decide) rfl rfl ?_
  refine j_iload_n (pc' := 67) hX dX5_init_66 rfl 0 rfl rfl ?_
  refine j_bipush (pc' := 69) (v := 6) hX dX5_init_67 (by decide) rfl ?_
  refine j_icmp_gt (tgt := 88) (pc' := 72) (P1 := False) (P2 := True) hX dX5_init_69 (by decide) rfl ⟨fun h => absurd h (by decide), fun _ => trivial⟩ (fun h => h.elim) (fun _ => ?_)
  refine j_aload_n (pc' := 73) hX dX5_init_72 rfl 1 rfl rfl ?_
  refine j_get (ci := 5) (pc' := 76) hX hin5 rfl 0 rfl 0 (by decide) hl_7 rfl dX5_init_73 rfl ?_
  refine j_iconst (pc' := 77) (v := 3) hX dX5_init_76 (by decide) rfl ?_
  refine j_iload_n (pc' := 78) hX dX5_init_77 rfl 0 rfl rfl ?_
  refine j_iadd (pc' := 79) hX dX5_init_78 rfl ?_
  refine j_bipush (pc' := 81) (v := 9) hX dX5_init_79 (by decide) rfl ?_
  refine j_iast (P := True) (pc' := 82) (ws' := (([[(a0, .inr (5, [.ref q0, .ref q1, .ref q2, .int 0, .ref q3, .int 0, .int 0, .int 0, .int 0, .ref q4, .int 0, .ref q5]))], [(q0, .inl (g.2 0, 376, .inl (upd (upd (fun _ => 0) (0 : Int32).toNatClampNeg 32) (((3 : Int32) + 1) : Int32).toNatClampNeg 9)))], [(q1, .inl (g.2 0, 376, .inl (fun _ => 0)))], [(q2, .inl (g.2 0, 2256, .inl (fun _ => 0)))], [(q3, .inl (g.2 0, 60, .inl (fun _ => 0)))], [(q4, .inl (g.2 0, 180, .inl (fun _ => 0)))], [(q5, .inl (g.2 0, 61, .inl (fun _ => 0)))]] : List va_W).flatten)) hX hW 1 rfl dX5_init_81 ⟨by unfold vp_in; decide, trivial⟩ rfl rfl (fun _ => ?_)
  refine j_iinc (pc' := 85) (cst := 1) (v := 2) (lv' := [(1, .int 2), (0, .ref a0)]) hX dX5_init_82 (by decide) (by decide) 0 rfl (by decide) rfl rfl ?_
  refine j_goto (tgt := 66) hX dX5_init_85 (by decide) ?_
  refine j_iload_n (pc' := 67) hX dX5_init_66 rfl 0 rfl rfl ?_
  refine j_bipush (pc' := 69) (v := 6) hX dX5_init_67 (by decide) rfl ?_
  refine j_icmp_gt (tgt := 88) (pc' := 72) (P1 := False) (P2 := True) hX dX5_init_69 (by decide) rfl ⟨fun h => absurd h (by decide), fun _ => trivial⟩ (fun h => h.elim) (fun _ => ?_)
  refine j_aload_n (pc' := 73) hX dX5_init_72 rfl 1 rfl rfl ?_
  refine j_get (ci := 5) (pc' := 76) hX hin5 rfl 0 rfl 0 (by decide) hl_7 rfl dX5_init_73 rfl ?_
  refine j_iconst (pc' := 77) (v := 3) hX dX5_init_76 (by decide) rfl ?_
  refine j_iload_n (pc' := 78) hX dX5_init_77 rfl 0 rfl rfl ?_
  refine j_iadd (pc' := 79) hX dX5_init_78 rfl ?_
  refine j_bipush (pc' := 81) (v := 9) hX dX5_init_79 (by decide) rfl ?_
  refine j_iast (P := True) (pc' := 82) (ws' := (([[(a0, .inr (5, [.ref q0, .ref q1, .ref q2, .int 0, .ref q3, .int 0, .int 0, .int 0, .int 0, .ref q4, .int 0, .ref q5]))], [(q0, .inl (g.2 0, 376, .inl (upd (upd (upd (fun _ => 0) (0 : Int32).toNatClampNeg 32) (((3 : Int32) + 1) : Int32).toNatClampNeg 9) (((3 : Int32) + 2) : Int32).toNatClampNeg 9)))], [(q1, .inl (g.2 0, 376, .inl (fun _ => 0)))], [(q2, .inl (g.2 0, 2256, .inl (fun _ => 0)))], [(q3, .inl (g.2 0, 60, .inl (fun _ => 0)))], [(q4, .inl (g.2 0, 180, .inl (fun _ => 0)))], [(q5, .inl (g.2 0, 61, .inl (fun _ => 0)))]] : List va_W).flatten)) hX hW 1 rfl dX5_init_81 ⟨by unfold vp_in; decide, trivial⟩ rfl rfl (fun _ => ?_)
  refine j_iinc (pc' := 85) (cst := 1) (v := 3) (lv' := [(1, .int 3), (0, .ref a0)]) hX dX5_init_82 (by decide) (by decide) 0 rfl (by decide) rfl rfl ?_
  refine j_goto (tgt := 66) hX dX5_init_85 (by decide) ?_
  refine j_iload_n (pc' := 67) hX dX5_init_66 rfl 0 rfl rfl ?_
  refine j_bipush (pc' := 69) (v := 6) hX dX5_init_67 (by decide) rfl ?_
  refine j_icmp_gt (tgt := 88) (pc' := 72) (P1 := False) (P2 := True) hX dX5_init_69 (by decide) rfl ⟨fun h => absurd h (by decide), fun _ => trivial⟩ (fun h => h.elim) (fun _ => ?_)
  refine j_aload_n (pc' := 73) hX dX5_init_72 rfl 1 rfl rfl ?_
  refine j_get (ci := 5) (pc' := 76) hX hin5 rfl 0 rfl 0 (by decide) hl_7 rfl dX5_init_73 rfl ?_
  refine j_iconst (pc' := 77) (v := 3) hX dX5_init_76 (by decide) rfl ?_
  refine j_iload_n (pc' := 78) hX dX5_init_77 rfl 0 rfl rfl ?_
  refine j_iadd (pc' := 79) hX dX5_init_78 rfl ?_
  refine j_bipush (pc' := 81) (v := 9) hX dX5_init_79 (by decide) rfl ?_
  refine j_iast (P := True) (pc' := 82) (ws' := (([[(a0, .inr (5, [.ref q0, .ref q1, .ref q2, .int 0, .ref q3, .int 0, .int 0, .int 0, .int 0, .ref q4, .int 0, .ref q5]))], [(q0, .inl (g.2 0, 376, .inl (upd (upd (upd (upd (fun _ => 0) (0 : Int32).toNatClampNeg 32) (((3 : Int32) + 1) : Int32).toNatClampNeg 9) (((3 : Int32) + 2) : Int32).toNatClampNeg 9) (((3 : Int32) + 3) : Int32).toNatClampNeg 9)))], [(q1, .inl (g.2 0, 376, .inl (fun _ => 0)))], [(q2, .inl (g.2 0, 2256, .inl (fun _ => 0)))], [(q3, .inl (g.2 0, 60, .inl (fun _ => 0)))], [(q4, .inl (g.2 0, 180, .inl (fun _ => 0)))], [(q5, .inl (g.2 0, 61, .inl (fun _ => 0)))]] : List va_W).flatten)) hX hW 1 rfl dX5_init_81 ⟨by unfold vp_in; decide, trivial⟩ rfl rfl (fun _ => ?_)
  refine j_iinc (pc' := 85) (cst := 1) (v := 4) (lv' := [(1, .int 4), (0, .ref a0)]) hX dX5_init_82 (by decide) (by decide) 0 rfl (by decide) rfl rfl ?_
  refine j_goto (tgt := 66) hX dX5_init_85 (by decide) ?_
  refine j_iload_n (pc' := 67) hX dX5_init_66 rfl 0 rfl rfl ?_
  refine j_bipush (pc' := 69) (v := 6) hX dX5_init_67 (by decide) rfl ?_
  refine j_icmp_gt (tgt := 88) (pc' := 72) (P1 := False) (P2 := True) hX dX5_init_69 (by decide) rfl ⟨fun h => absurd h (by decide), fun _ => trivial⟩ (fun h => h.elim) (fun _ => ?_)
  refine j_aload_n (pc' := 73) hX dX5_init_72 rfl 1 rfl rfl ?_
  refine j_get (ci := 5) (pc' := 76) hX hin5 rfl 0 rfl 0 (by decide) hl_7 rfl dX5_init_73 rfl ?_
  refine j_iconst (pc' := 77) (v := 3) hX dX5_init_76 (by decide) rfl ?_
  refine j_iload_n (pc' := 78) hX dX5_init_77 rfl 0 rfl rfl ?_
  refine j_iadd (pc' := 79) hX dX5_init_78 rfl ?_
  refine j_bipush (pc' := 81) (v := 9) hX dX5_init_79 (by decide) rfl ?_
  refine j_iast (P := True) (pc' := 82) (ws' := (([[(a0, .inr (5, [.ref q0, .ref q1, .ref q2, .int 0, .ref q3, .int 0, .int 0, .int 0, .int 0, .ref q4, .int 0, .ref q5]))], [(q0, .inl (g.2 0, 376, .inl (upd (upd (upd (upd (upd (fun _ => 0) (0 : Int32).toNatClampNeg 32) (((3 : Int32) + 1) : Int32).toNatClampNeg 9) (((3 : Int32) + 2) : Int32).toNatClampNeg 9) (((3 : Int32) + 3) : Int32).toNatClampNeg 9) (((3 : Int32) + 4) : Int32).toNatClampNeg 9)))], [(q1, .inl (g.2 0, 376, .inl (fun _ => 0)))], [(q2, .inl (g.2 0, 2256, .inl (fun _ => 0)))], [(q3, .inl (g.2 0, 60, .inl (fun _ => 0)))], [(q4, .inl (g.2 0, 180, .inl (fun _ => 0)))], [(q5, .inl (g.2 0, 61, .inl (fun _ => 0)))]] : List va_W).flatten)) hX hW 1 rfl dX5_init_81 ⟨by unfold vp_in; decide, trivial⟩ rfl rfl (fun _ => ?_)
  refine j_iinc (pc' := 85) (cst := 1) (v := 5) (lv' := [(1, .int 5), (0, .ref a0)]) hX dX5_init_82 (by decide) (by decide) 0 rfl (by decide) rfl rfl ?_
  refine j_goto (tgt := 66) hX dX5_init_85 (by decide) ?_
  refine j_iload_n (pc' := 67) hX dX5_init_66 rfl 0 rfl rfl ?_
  refine j_bipush (pc' := 69) (v := 6) hX dX5_init_67 (by decide) rfl ?_
  refine j_icmp_gt (tgt := 88) (pc' := 72) (P1 := False) (P2 := True) hX dX5_init_69 (by decide) rfl ⟨fun h => absurd h (by decide), fun _ => trivial⟩ (fun h => h.elim) (fun _ => ?_)
  refine j_aload_n (pc' := 73) hX dX5_init_72 rfl 1 rfl rfl ?_
  refine j_get (ci := 5) (pc' := 76) hX hin5 rfl 0 rfl 0 (by decide) hl_7 rfl dX5_init_73 rfl ?_
  refine j_iconst (pc' := 77) (v := 3) hX dX5_init_76 (by decide) rfl ?_
  refine j_iload_n (pc' := 78) hX dX5_init_77 rfl 0 rfl rfl ?_
  refine j_iadd (pc' := 79) hX dX5_init_78 rfl ?_
  refine j_bipush (pc' := 81) (v := 9) hX dX5_init_79 (by decide) rfl ?_
  refine j_iast (P := True) (pc' := 82) (ws' := (([[(a0, .inr (5, [.ref q0, .ref q1, .ref q2, .int 0, .ref q3, .int 0, .int 0, .int 0, .int 0, .ref q4, .int 0, .ref q5]))], [(q0, .inl (g.2 0, 376, .inl (upd (upd (upd (upd (upd (upd (fun _ => 0) (0 : Int32).toNatClampNeg 32) (((3 : Int32) + 1) : Int32).toNatClampNeg 9) (((3 : Int32) + 2) : Int32).toNatClampNeg 9) (((3 : Int32) + 3) : Int32).toNatClampNeg 9) (((3 : Int32) + 4) : Int32).toNatClampNeg 9) (((3 : Int32) + 5) : Int32).toNatClampNeg 9)))], [(q1, .inl (g.2 0, 376, .inl (fun _ => 0)))], [(q2, .inl (g.2 0, 2256, .inl (fun _ => 0)))], [(q3, .inl (g.2 0, 60, .inl (fun _ => 0)))], [(q4, .inl (g.2 0, 180, .inl (fun _ => 0)))], [(q5, .inl (g.2 0, 61, .inl (fun _ => 0)))]] : List va_W).flatten)) hX hW 1 rfl dX5_init_81 ⟨by unfold vp_in; decide, trivial⟩ rfl rfl (fun _ => ?_)
  refine j_iinc (pc' := 85) (cst := 1) (v := 6) (lv' := [(1, .int 6), (0, .ref a0)]) hX dX5_init_82 (by decide) (by decide) 0 rfl (by decide) rfl rfl ?_
  refine j_goto (tgt := 66) hX dX5_init_85 (by decide) ?_
  refine j_iload_n (pc' := 67) hX dX5_init_66 rfl 0 rfl rfl ?_
  refine j_bipush (pc' := 69) (v := 6) hX dX5_init_67 (by decide) rfl ?_
  refine j_icmp_gt (tgt := 88) (pc' := 72) (P1 := False) (P2 := True) hX dX5_init_69 (by decide) rfl ⟨fun h => absurd h (by decide), fun _ => trivial⟩ (fun h => h.elim) (fun _ => ?_)
  refine j_aload_n (pc' := 73) hX dX5_init_72 rfl 1 rfl rfl ?_
  refine j_get (ci := 5) (pc' := 76) hX hin5 rfl 0 rfl 0 (by decide) hl_7 rfl dX5_init_73 rfl ?_
  refine j_iconst (pc' := 77) (v := 3) hX dX5_init_76 (by decide) rfl ?_
  refine j_iload_n (pc' := 78) hX dX5_init_77 rfl 0 rfl rfl ?_
  refine j_iadd (pc' := 79) hX dX5_init_78 rfl ?_
  refine j_bipush (pc' := 81) (v := 9) hX dX5_init_79 (by decide) rfl ?_
  refine j_iast (P := True) (pc' := 82) (ws' := (([[(a0, .inr (5, [.ref q0, .ref q1, .ref q2, .int 0, .ref q3, .int 0, .int 0, .int 0, .int 0, .ref q4, .int 0, .ref q5]))], [(q0, .inl (g.2 0, 376, .inl (upd (upd (upd (upd (upd (upd (upd (fun _ => 0) (0 : Int32).toNatClampNeg 32) (((3 : Int32) + 1) : Int32).toNatClampNeg 9) (((3 : Int32) + 2) : Int32).toNatClampNeg 9) (((3 : Int32) + 3) : Int32).toNatClampNeg 9) (((3 : Int32) + 4) : Int32).toNatClampNeg 9) (((3 : Int32) + 5) : Int32).toNatClampNeg 9) (((3 : Int32) + 6) : Int32).toNatClampNeg 9)))], [(q1, .inl (g.2 0, 376, .inl (fun _ => 0)))], [(q2, .inl (g.2 0, 2256, .inl (fun _ => 0)))], [(q3, .inl (g.2 0, 60, .inl (fun _ => 0)))], [(q4, .inl (g.2 0, 180, .inl (fun _ => 0)))], [(q5, .inl (g.2 0, 61, .inl (fun _ => 0)))]] : List va_W).flatten)) hX hW 1 rfl dX5_init_81 ⟨by unfold vp_in; decide, trivial⟩ rfl rfl (fun _ => ?_)
  refine j_iinc (pc' := 85) (cst := 1) (v := 7) (lv' := [(1, .int 7), (0, .ref a0)]) hX dX5_init_82 (by decide) (by decide) 0 rfl (by decide) rfl rfl ?_
  refine j_goto (tgt := 66) hX dX5_init_85 (by decide) ?_
  refine j_iload_n (pc' := 67) hX dX5_init_66 rfl 0 rfl rfl ?_
  refine j_bipush (pc' := 69) (v := 6) hX dX5_init_67 (by decide) rfl ?_
  refine j_icmp_gt (tgt := 88) (pc' := 72) (P1 := True) (P2 := False) hX dX5_init_69 (by decide) rfl ⟨fun _ => trivial, fun h => absurd (by decide) h⟩ (fun _ => ?_) (fun h => h.elim)
  exact j_vret hX hR dX5_init_88 ⟨rfl, (q0, q1, q2, q3, q4, q5), rfl⟩
