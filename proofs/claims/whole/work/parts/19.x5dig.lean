def wp_X5_digest_L11 (vd_1 : Md) (K11_36 : Int64 → Prop) : Nat → Int64 → Int32 → Prop
  | 0, _, _ => False
  | N11 + 1, x1_11, x3_11 =>
  ((8 ≤ x3_11 → K11_36 x1_11) ∧ (¬ 8 ≤ x3_11 → (wp_X5_counted vd_1 x3_11 (fun r24 => (wp_X5_digest_L11 vd_1 K11_36 N11) ((31 * x1_11) + r24.toInt64) (x3_11 + 1)))))
def wp_X5_digest_L38 (vd_1 : Md) (K38_63 : Int64 → Prop) : Nat → Int64 → Int32 → Prop
  | 0, _, _ => False
  | N38 + 1, x1_38, x3_38 =>
  ((3 ≤ x3_38 → K38_63 x1_38) ∧ (¬ 3 ≤ x3_38 → (vp_in x3_38 376 ∧ (wp_X5_digest_L38 vd_1 K38_63 N38) ((31 * x1_38) + (vd_1.1 x3_38.toNatClampNeg).toInt64) (x3_38 + 1))))
def wp_X5_digest_L65 (vd_1 : Md) (K65_93 : Int64 → Prop) : Nat → Int64 → Int32 → Prop
  | 0, _, _ => False
  | N65 + 1, x1_65, x3_65 =>
  ((6 < x3_65 → K65_93 x1_65) ∧ (¬ 6 < x3_65 → (vp_in (3 + x3_65) 376 ∧ (wp_X5_digest_L65 vd_1 K65_93 N65) ((31 * x1_65) + (vd_1.1 (3 + x3_65).toNatClampNeg).toInt64) (x3_65 + 1))))
def wp_X5_digest_L104 (x3_95 : Int32) (vd_95 : Md) (K104_132 : Int64 → Prop) : Nat → Int64 → Int32 → Prop
  | 0, _, _ => False
  | N104 + 1, x1_104, x4_104 =>
  ((7 ≤ x4_104 → K104_132 x1_104) ∧ (¬ 7 ≤ x4_104 → (wp_X5_ofCourse vd_95 x3_95 x4_104 (fun r120 => (wp_X5_digest_L104 x3_95 vd_95 K104_132 N104) ((31 * x1_104) + r120.toInt64) (x4_104 + 1)))))
def wp_X5_digest_L135 (x3_95 : Int32) (vd_95 : Md) (K135_184 : Int64 → Prop) : Nat → Int64 → Int32 → Prop
  | 0, _, _ => False
  | N135 + 1, x1_135, x4_135 =>
  (wp_X5_cells vd_95.1 x3_95 (fun r142 => ((r142 ≤ x4_135 → K135_184 x1_135) ∧ (¬ r142 ≤ x4_135 → (wp_X5_ofCell vd_95 x3_95 x4_135 0 (fun r161 => (wp_X5_ofCell vd_95 x3_95 x4_135 3 (fun r172 => (wp_X5_digest_L135 x3_95 vd_95 K135_184 N135) ((31 * ((31 * x1_135) + r161.toInt64)) + r172.toInt64) (x4_135 + 1)))))))))
def wp_X5_digest_L213 (x3_95 : Int32) (K213_247 : Int64 → Md → Prop) : Nat → Int64 → Int32 → Md → Prop
  | 0, _, _, _ => False
  | N213 + 1, x1_213, x4_213, vd_213 =>
  ((6 ≤ x4_213 → K213_247 x1_213 vd_213) ∧ (¬ 6 ≤ x4_213 → (wp_X5_byFilling vd_213 x3_95 (x4_213 / 3) (x4_213 - x4_213 / 3 * 3) (fun r235 u235_9 => (wp_X5_digest_L213 x3_95 K213_247 N213) ((31 * x1_213) + r235.toInt64) (x4_213 + 1) u235_9))))
def wp_X5_digest_L95  (K95_253 : Int64 → Md → Prop) : Nat → Int64 → Int32 → Md → Prop
  | 0, _, _, _ => False
  | N95 + 1, x1_95, x3_95, vd_95 =>
  ((6 ≤ x3_95 → K95_253 x1_95 vd_95) ∧ (¬ 6 ≤ x3_95 → (∃ N : Nat, wp_X5_digest_L104 x3_95 vd_95 (fun (e5 : Int64) => (∃ N : Nat, wp_X5_digest_L135 x3_95 vd_95 (fun (e6 : Int64) => (wp_X5_closes vd_95 x3_95 0 (fun r195 u195_7 => (wp_X5_closes u195_7 x3_95 1 (fun r204 u204_8 => (∃ N : Nat, wp_X5_digest_L213 x3_95 (fun (e10 : Int64) (e11 : Md) => (wp_X5_digest_L95 K95_253 N95) e10 (x3_95 + 1) e11) N ((31 * ((31 * e6) + r195.toInt64)) + r204.toInt64) 0 u204_8)))))) N e5 0)) N x1_95 0)))
def wp_X5_digest_L291 (u259_14 : Md) (K291_319 : Int64 → Prop) : Nat → Int64 → Int32 → Prop
  | 0, _, _ => False
  | N291 + 1, x1_291, x3_291 =>
  ((u259_14.2.2.2.2.2.2.2.1 ≤ x3_291 → K291_319 x1_291) ∧ (¬ u259_14.2.2.2.2.2.2.2.1 ≤ x3_291 → (vp_in x3_291 60 ∧ (wp_X5_digest_L291 u259_14 K291_319 N291) ((31 * x1_291) + (u259_14.2.2.2.1 x3_291.toNatClampNeg).toInt64) (x3_291 + 1))))
def wp_X5_digest (vd : Md) (post : Int64 → Md → Prop) : Prop :=
  (∀ vd_1 : Md, vd_1 = md_thrown vd (0) → (∃ N : Nat, wp_X5_digest_L11 vd_1 (fun (e2 : Int64) => (∃ N : Nat, wp_X5_digest_L38 vd_1 (fun (e3 : Int64) => (∃ N : Nat, wp_X5_digest_L65 vd_1 (fun (e4 : Int64) => (∃ N : Nat, wp_X5_digest_L95 (fun (e12 : Int64) (e13 : Md) => (wp_X5_best e13 (fun r259 u259_14 => (wp_X5_laid u259_14 (fun r274 => (Op.cmpValue (FP.dcmp r274 r274) CmpOp.l = 0 ∧ (∃ N : Nat, wp_X5_digest_L291 u259_14 (fun (e15 : Int64) => post e15 u259_14) N ((31 * ((31 * ((31 * e12) + r259.toInt64)) + r274.toInt64)) + u259_14.2.2.2.2.2.2.2.1.toInt64) 0))))))) N e4 0 vd_1)) N e3 1)) N e2 0)) N 2903 0))
theorem yoX5_digest : yOk yX5_digest 0 := by decide +kernel
set_option maxHeartbeats 4000000 in
set_option maxRecDepth 100000 in
theorem met_X5_digest (l : Launch) (g : JG) (d0 : Nat) (d1 : Nat) (d2 : Nat) (d3 : Nat) (d4 : Nat) (d5 : Nat) (d6 : Nat) (vd : Md) (post : Int64 → Md → Prop) (hf : wp_X5_digest vd post) : MetM l yX5_digest wsX5_digest ({ frames := 8, cells := 0, slots := 0, locals := 190 } : Room) [.ref d0] g (MdW g d0 d1 d2 d3 d4 d5 d6 vd) mkL post (fun u : Md => (MdW g d0 d1 d2 d3 d4 d5 d6 u)) := by
  have hin5 : ∀ w ∈ u_ws RX5 TX5 12, w ∈ wsX5_digest := by decide +kernel
  have hl_28 : Cond.fieldLink RX5 28 (TX5 6).1 (TX5 6).2.1 (TX5 6).2.2.1 ∈ wsX5_digest := by decide +kernel
  have hl_183 : Cond.constantLong RX5 183 2903 ∈ wsX5_digest := by decide +kernel
  have hl_185 : Cond.constantLong RX5 185 31 ∈ wsX5_digest := by decide +kernel
  have hl_7 : Cond.fieldLink RX5 7 (TX5 0).1 (TX5 0).2.1 (TX5 0).2.2.1 ∈ wsX5_digest := by decide +kernel
  have hl_114 : Cond.fieldLink RX5 114 (TX5 5).1 (TX5 5).2.1 (TX5 5).2.2.1 ∈ wsX5_digest := by decide +kernel
  have hl_19 : Cond.fieldLink RX5 19 (TX5 4).1 (TX5 4).2.1 (TX5 4).2.2.1 ∈ wsX5_digest := by decide +kernel
  refine enterM (own := RX5) (cc := cX5_digest) (nL := 5) (ret := (some .long)) (lv := [(0, .ref d0)]) (by decide) rfl rfl (Nat.le_of_ble_eq_true rfl) rfl (fun X hX hW hR => ?_)
  unfold wp_X5_digest at hf
  refine j_aload_n (pc' := 1) hX dX5_digest_0 rfl 0 rfl rfl ?_
  refine j_iconst (pc' := 2) (v := 0) hX dX5_digest_1 (by decide) rfl ?_
  obtain ⟨vd_1, evd_1⟩ : ∃ z : Md, z = md_thrown vd (0) := ⟨_, rfl⟩
  refine j_put (ci := 5) (pc' := 5) (ws' := (MdW g d0 d1 d2 d3 d4 d5 d6 vd_1)) hX hW hin5 tyX5_ok nmX5 rfl 0 rfl 6 (by decide) hl_28 rfl rfl rfl (Nat.le_of_ble_eq_true rfl) dX5_digest_2 (by subst evd_1; rfl) rfl ?_
  replace hf := hf vd_1 evd_1
  refine j_ldc2l (pc' := 8) (v := 2903) hX hl_183 dX5_digest_5 rfl ?_
  refine j_lstore_n (pc' := 9) (lv' := [(1, .long 2903), (0, .ref d0)]) hX dX5_digest_8 rfl (by decide) rfl rfl ?_
  refine j_iconst (pc' := 10) (v := 0) hX dX5_digest_9 (by decide) rfl ?_
  refine j_istore_n (pc' := 11) (lv' := [(3, .int 0), (1, .long 2903), (0, .ref d0)]) hX dX5_digest_10 rfl (by decide) rfl rfl ?_
  obtain ⟨N11, hf⟩ := hf
  have L11 : ∀ (K11_36 : Int64 → Prop), (∀ (x1_11 : Int64), K11_36 x1_11 → J g X 0 0 (MdW g d0 d1 d2 d3 d4 d5 d6 vd_1) [(0, .ref d0), (1, .long x1_11)] [] 36) → ∀ (N11 : Nat) (x1_11 : Int64) (x3_11 : Int32), wp_X5_digest_L11 vd_1 K11_36 N11 x1_11 x3_11 → J g X 0 0 (MdW g d0 d1 d2 d3 d4 d5 d6 vd_1) [(0, .ref d0), (1, .long x1_11), (3, .int x3_11)] [] 11 := by
    intro K11_36 hK11_36 N11
    induction N11 with
    | zero => intro x1_11 x3_11 hf; exact False.elim hf
    | succ N11 ih11 =>
      intro x1_11 x3_11 hf
      refine j_iload_n (pc' := 12) hX dX5_digest_11 rfl 2 rfl rfl ?_
      refine j_bipush (pc' := 14) (v := 8) hX dX5_digest_12 (by decide) rfl ?_
      refine j_icmp_ge (tgt := 36) (pc' := 17) hX dX5_digest_14 (by decide) rfl hf (fun hf => ?_) (fun hf => ?_)
      · refine J_sub (lv' := [(0, .ref d0), (1, .long x1_11)]) [0, 1] rfl ?_
        exact hK11_36 x1_11 hf
      · refine j_ldc2l (pc' := 20) (v := 31) hX hl_185 dX5_digest_17 rfl ?_
        refine j_lload_n (pc' := 21) hX dX5_digest_20 rfl 1 rfl rfl ?_
        refine j_lmul (pc' := 22) hX dX5_digest_21 rfl ?_
        refine j_aload_n (pc' := 23) hX dX5_digest_22 rfl 0 rfl rfl ?_
        refine j_iload_n (pc' := 24) hX dX5_digest_23 rfl 2 rfl rfl ?_
        refine j_callVR (ci := 5) (pc' := 27) (As := [.int x3_11]) (rest := [.long (31 * x1_11)]) (stk := fun r24 => [.int r24, .long (31 * x1_11)]) hX (fun l => met_X5_counted l g d0 d1 d2 d3 d4 d5 d6 vd_1 x3_11 _ hf) rfl gX5_digest_X5_counted yoX5_counted rfl ⟨Nat.le_of_ble_eq_true rfl, Nat.le_of_ble_eq_true rfl⟩ ⟨⟨Nat.le_of_ble_eq_true rfl, Nat.le_of_ble_eq_true rfl⟩, rfl, rfl⟩ 0 rfl rfl [0, 1, 2, 3, 4, 5, 6] rfl (by decide) (Nat.le_of_ble_eq_true rfl) rfl (fun _ => rfl) dX5_digest_24 rfl (fun r24 hf => ?_)
        refine j_i2l (pc' := 28) hX dX5_digest_27 rfl ?_
        refine j_ladd (pc' := 29) hX dX5_digest_28 rfl ?_
        refine j_lstore_n (pc' := 30) (lv' := [(1, .long ((31 * x1_11) + r24.toInt64)), (0, .ref d0), (3, .int x3_11)]) hX dX5_digest_29 rfl (by decide) rfl rfl ?_
        refine j_iinc (pc' := 33) (cst := 1) (v := (x3_11 + 1)) (lv' := [(3, .int (x3_11 + 1)), (1, .long ((31 * x1_11) + r24.toInt64)), (0, .ref d0)]) hX dX5_digest_30 (by decide) rfl 2 rfl (by decide) rfl rfl ?_
        refine j_goto (tgt := 11) hX dX5_digest_33 (by decide) ?_
        refine J_sub (lv' := [(0, .ref d0), (1, .long ((31 * x1_11) + r24.toInt64)), (3, .int (x3_11 + 1))]) [2, 1, 0] rfl ?_
        exact ih11 ((31 * x1_11) + r24.toInt64) (x3_11 + 1) hf
  refine J_sub (lv' := [(0, .ref d0), (1, .long 2903), (3, .int 0)]) [2, 1, 0] rfl ?_
  refine L11 _ (fun e2 hf => ?_) N11 2903 0 hf
  refine j_iconst (pc' := 37) (v := 0) hX dX5_digest_36 (by decide) rfl ?_
  refine j_istore_n (pc' := 38) (lv' := [(3, .int 0), (0, .ref d0), (1, .long e2)]) hX dX5_digest_37 rfl (by decide) rfl rfl ?_
  obtain ⟨N38, hf⟩ := hf
  have L38 : ∀ (K38_63 : Int64 → Prop), (∀ (x1_38 : Int64), K38_63 x1_38 → J g X 0 0 (MdW g d0 d1 d2 d3 d4 d5 d6 vd_1) [(0, .ref d0), (1, .long x1_38)] [] 63) → ∀ (N38 : Nat) (x1_38 : Int64) (x3_38 : Int32), wp_X5_digest_L38 vd_1 K38_63 N38 x1_38 x3_38 → J g X 0 0 (MdW g d0 d1 d2 d3 d4 d5 d6 vd_1) [(0, .ref d0), (1, .long x1_38), (3, .int x3_38)] [] 38 := by
    intro K38_63 hK38_63 N38
    induction N38 with
    | zero => intro x1_38 x3_38 hf; exact False.elim hf
    | succ N38 ih38 =>
      intro x1_38 x3_38 hf
      refine j_iload_n (pc' := 39) hX dX5_digest_38 rfl 2 rfl rfl ?_
      refine j_iconst (pc' := 40) (v := 3) hX dX5_digest_39 (by decide) rfl ?_
      refine j_icmp_ge (tgt := 63) (pc' := 43) hX dX5_digest_40 (by decide) rfl hf (fun hf => ?_) (fun hf => ?_)
      · refine J_sub (lv' := [(0, .ref d0), (1, .long x1_38)]) [0, 1] rfl ?_
        exact hK38_63 x1_38 hf
      · refine j_ldc2l (pc' := 46) (v := 31) hX hl_185 dX5_digest_43 rfl ?_
        refine j_lload_n (pc' := 47) hX dX5_digest_46 rfl 1 rfl rfl ?_
        refine j_lmul (pc' := 48) hX dX5_digest_47 rfl ?_
        refine j_aload_n (pc' := 49) hX dX5_digest_48 rfl 0 rfl rfl ?_
        refine j_get (ci := 5) (pc' := 52) hX hin5 rfl 0 rfl 0 (by decide) hl_7 rfl dX5_digest_49 rfl ?_
        refine j_iload_n (pc' := 53) hX dX5_digest_52 rfl 2 rfl rfl ?_
        refine j_iald (pc' := 54) hX 1 rfl dX5_digest_53 hf rfl (fun hf => ?_)
        refine j_i2l (pc' := 55) hX dX5_digest_54 rfl ?_
        refine j_ladd (pc' := 56) hX dX5_digest_55 rfl ?_
        refine j_lstore_n (pc' := 57) (lv' := [(1, .long ((31 * x1_38) + (vd_1.1 x3_38.toNatClampNeg).toInt64)), (0, .ref d0), (3, .int x3_38)]) hX dX5_digest_56 rfl (by decide) rfl rfl ?_
        refine j_iinc (pc' := 60) (cst := 1) (v := (x3_38 + 1)) (lv' := [(3, .int (x3_38 + 1)), (1, .long ((31 * x1_38) + (vd_1.1 x3_38.toNatClampNeg).toInt64)), (0, .ref d0)]) hX dX5_digest_57 (by decide) rfl 2 rfl (by decide) rfl rfl ?_
        refine j_goto (tgt := 38) hX dX5_digest_60 (by decide) ?_
        refine J_sub (lv' := [(0, .ref d0), (1, .long ((31 * x1_38) + (vd_1.1 x3_38.toNatClampNeg).toInt64)), (3, .int (x3_38 + 1))]) [2, 1, 0] rfl ?_
        exact ih38 ((31 * x1_38) + (vd_1.1 x3_38.toNatClampNeg).toInt64) (x3_38 + 1) hf
  refine J_sub (lv' := [(0, .ref d0), (1, .long e2), (3, .int 0)]) [1, 2, 0] rfl ?_
  refine L38 _ (fun e3 hf => ?_) N38 e2 0 hf
  refine j_iconst (pc' := 64) (v := 1) hX dX5_digest_63 (by decide) rfl ?_
  refine j_istore_n (pc' := 65) (lv' := [(3, .int 1), (0, .ref d0), (1, .long e3)]) hX dX5_digest_64 rfl (by decide) rfl rfl ?_
  obtain ⟨N65, hf⟩ := hf
  have L65 : ∀ (K65_93 : Int64 → Prop), (∀ (x1_65 : Int64), K65_93 x1_65 → J g X 0 0 (MdW g d0 d1 d2 d3 d4 d5 d6 vd_1) [(0, .ref d0), (1, .long x1_65)] [] 93) → ∀ (N65 : Nat) (x1_65 : Int64) (x3_65 : Int32), wp_X5_digest_L65 vd_1 K65_93 N65 x1_65 x3_65 → J g X 0 0 (MdW g d0 d1 d2 d3 d4 d5 d6 vd_1) [(0, .ref d0), (1, .long x1_65), (3, .int x3_65)] [] 65 := by
    intro K65_93 hK65_93 N65
    induction N65 with
    | zero => intro x1_65 x3_65 hf; exact False.elim hf
    | succ N65 ih65 =>
      intro x1_65 x3_65 hf
      refine j_iload_n (pc' := 66) hX dX5_digest_65 rfl 2 rfl rfl ?_
      refine j_bipush (pc' := 68) (v := 6) hX dX5_digest_66 (by decide) rfl ?_
      refine j_icmp_gt (tgt := 93) (pc' := 71) hX dX5_digest_68 (by decide) rfl hf (fun hf => ?_) (fun hf => ?_)
      · refine J_sub (lv' := [(0, .ref d0), (1, .long x1_65)]) [0, 1] rfl ?_
        exact hK65_93 x1_65 hf
      · refine j_ldc2l (pc' := 74) (v := 31) hX hl_185 dX5_digest_71 rfl ?_
        refine j_lload_n (pc' := 75) hX dX5_digest_74 rfl 1 rfl rfl ?_
        refine j_lmul (pc' := 76) hX dX5_digest_75 rfl ?_
        refine j_aload_n (pc' := 77) hX dX5_digest_76 rfl 0 rfl rfl ?_
        refine j_get (ci := 5) (pc' := 80) hX hin5 rfl 0 rfl 0 (by decide) hl_7 rfl dX5_digest_77 rfl ?_
        refine j_iconst (pc' := 81) (v := 3) hX dX5_digest_80 (by decide) rfl ?_
        refine j_iload_n (pc' := 82) hX dX5_digest_81 rfl 2 rfl rfl ?_
        refine j_iadd (pc' := 83) hX dX5_digest_82 rfl ?_
        refine j_iald (pc' := 84) hX 1 rfl dX5_digest_83 hf rfl (fun hf => ?_)
        refine j_i2l (pc' := 85) hX dX5_digest_84 rfl ?_
        refine j_ladd (pc' := 86) hX dX5_digest_85 rfl ?_
        refine j_lstore_n (pc' := 87) (lv' := [(1, .long ((31 * x1_65) + (vd_1.1 (3 + x3_65).toNatClampNeg).toInt64)), (0, .ref d0), (3, .int x3_65)]) hX dX5_digest_86 rfl (by decide) rfl rfl ?_
        refine j_iinc (pc' := 90) (cst := 1) (v := (x3_65 + 1)) (lv' := [(3, .int (x3_65 + 1)), (1, .long ((31 * x1_65) + (vd_1.1 (3 + x3_65).toNatClampNeg).toInt64)), (0, .ref d0)]) hX dX5_digest_87 (by decide) rfl 2 rfl (by decide) rfl rfl ?_
        refine j_goto (tgt := 65) hX dX5_digest_90 (by decide) ?_
        refine J_sub (lv' := [(0, .ref d0), (1, .long ((31 * x1_65) + (vd_1.1 (3 + x3_65).toNatClampNeg).toInt64)), (3, .int (x3_65 + 1))]) [2, 1, 0] rfl ?_
        exact ih65 ((31 * x1_65) + (vd_1.1 (3 + x3_65).toNatClampNeg).toInt64) (x3_65 + 1) hf
  refine J_sub (lv' := [(0, .ref d0), (1, .long e3), (3, .int 1)]) [1, 2, 0] rfl ?_
  refine L65 _ (fun e4 hf => ?_) N65 e3 1 hf
  refine j_iconst (pc' := 94) (v := 0) hX dX5_digest_93 (by decide) rfl ?_
  refine j_istore_n (pc' := 95) (lv' := [(3, .int 0), (0, .ref d0), (1, .long e4)]) hX dX5_digest_94 rfl (by decide) rfl rfl ?_
  obtain ⟨N95, hf⟩ := hf
  have L95 : ∀ (K95_253 : Int64 → Md → Prop), (∀ (x1_95 : Int64) (vd_95 : Md), K95_253 x1_95 vd_95 → J g X 0 0 (MdW g d0 d1 d2 d3 d4 d5 d6 vd_95) [(0, .ref d0), (1, .long x1_95)] [] 253) → ∀ (N95 : Nat) (x1_95 : Int64) (x3_95 : Int32) (vd_95 : Md), wp_X5_digest_L95 K95_253 N95 x1_95 x3_95 vd_95 → J g X 0 0 (MdW g d0 d1 d2 d3 d4 d5 d6 vd_95) [(0, .ref d0), (1, .long x1_95), (3, .int x3_95)] [] 95 := by
    intro K95_253 hK95_253 N95
    induction N95 with
    | zero => intro x1_95 x3_95 vd_95 hf; exact False.elim hf
    | succ N95 ih95 =>
      intro x1_95 x3_95 vd_95 hf
      refine j_iload_n (pc' := 96) hX dX5_digest_95 rfl 2 rfl rfl ?_
      refine j_bipush (pc' := 98) (v := 6) hX dX5_digest_96 (by decide) rfl ?_
      refine j_icmp_ge (tgt := 253) (pc' := 101) hX dX5_digest_98 (by decide) rfl hf (fun hf => ?_) (fun hf => ?_)
      · refine J_sub (lv' := [(0, .ref d0), (1, .long x1_95)]) [0, 1] rfl ?_
        exact hK95_253 x1_95 vd_95 hf
      · refine j_iconst (pc' := 102) (v := 0) hX dX5_digest_101 (by decide) rfl ?_
        refine j_istore (pc' := 104) (lv' := [(4, .int 0), (0, .ref d0), (1, .long x1_95), (3, .int x3_95)]) hX dX5_digest_102 (by decide) rfl rfl ?_
        obtain ⟨N104, hf⟩ := hf
        have L104 : ∀ (K104_132 : Int64 → Prop), (∀ (x1_104 : Int64), K104_132 x1_104 → J g X 0 0 (MdW g d0 d1 d2 d3 d4 d5 d6 vd_95) [(0, .ref d0), (1, .long x1_104), (3, .int x3_95)] [] 132) → ∀ (N104 : Nat) (x1_104 : Int64) (x4_104 : Int32), wp_X5_digest_L104 x3_95 vd_95 K104_132 N104 x1_104 x4_104 → J g X 0 0 (MdW g d0 d1 d2 d3 d4 d5 d6 vd_95) [(0, .ref d0), (1, .long x1_104), (3, .int x3_95), (4, .int x4_104)] [] 104 := by
          intro K104_132 hK104_132 N104
          induction N104 with
          | zero => intro x1_104 x4_104 hf; exact False.elim hf
          | succ N104 ih104 =>
            intro x1_104 x4_104 hf
            refine j_iload (pc' := 106) hX dX5_digest_104 3 rfl rfl ?_
            refine j_bipush (pc' := 108) (v := 7) hX dX5_digest_106 (by decide) rfl ?_
            refine j_icmp_ge (tgt := 132) (pc' := 111) hX dX5_digest_108 (by decide) rfl hf (fun hf => ?_) (fun hf => ?_)
            · refine J_sub (lv' := [(0, .ref d0), (1, .long x1_104), (3, .int x3_95)]) [0, 1, 2] rfl ?_
              exact hK104_132 x1_104 hf
            · refine j_ldc2l (pc' := 114) (v := 31) hX hl_185 dX5_digest_111 rfl ?_
              refine j_lload_n (pc' := 115) hX dX5_digest_114 rfl 1 rfl rfl ?_
              refine j_lmul (pc' := 116) hX dX5_digest_115 rfl ?_
              refine j_aload_n (pc' := 117) hX dX5_digest_116 rfl 0 rfl rfl ?_
              refine j_iload_n (pc' := 118) hX dX5_digest_117 rfl 2 rfl rfl ?_
              refine j_iload (pc' := 120) hX dX5_digest_118 3 rfl rfl ?_
              refine j_callVR (ci := 5) (pc' := 123) (As := [.int x3_95, .int x4_104]) (rest := [.long (31 * x1_104)]) (stk := fun r120 => [.int r120, .long (31 * x1_104)]) hX (fun l => met_X5_ofCourse l g d0 d1 d2 d3 d4 d5 d6 vd_95 x3_95 x4_104 _ hf) rfl gX5_digest_X5_ofCourse yoX5_ofCourse rfl ⟨Nat.le_of_ble_eq_true rfl, Nat.le_of_ble_eq_true rfl⟩ ⟨⟨Nat.le_of_ble_eq_true rfl, Nat.le_of_ble_eq_true rfl⟩, rfl, rfl⟩ 0 rfl rfl [0, 1, 2, 3, 4, 5, 6] rfl (by decide) (Nat.le_of_ble_eq_true rfl) rfl (fun _ => rfl) dX5_digest_120 rfl (fun r120 hf => ?_)
              refine j_i2l (pc' := 124) hX dX5_digest_123 rfl ?_
              refine j_ladd (pc' := 125) hX dX5_digest_124 rfl ?_
              refine j_lstore_n (pc' := 126) (lv' := [(1, .long ((31 * x1_104) + r120.toInt64)), (0, .ref d0), (3, .int x3_95), (4, .int x4_104)]) hX dX5_digest_125 rfl (by decide) rfl rfl ?_
              refine j_iinc (pc' := 129) (cst := 1) (v := (x4_104 + 1)) (lv' := [(4, .int (x4_104 + 1)), (1, .long ((31 * x1_104) + r120.toInt64)), (0, .ref d0), (3, .int x3_95)]) hX dX5_digest_126 (by decide) rfl 3 rfl (by decide) rfl rfl ?_
              refine j_goto (tgt := 104) hX dX5_digest_129 (by decide) ?_
              refine J_sub (lv' := [(0, .ref d0), (1, .long ((31 * x1_104) + r120.toInt64)), (3, .int x3_95), (4, .int (x4_104 + 1))]) [2, 1, 3, 0] rfl ?_
              exact ih104 ((31 * x1_104) + r120.toInt64) (x4_104 + 1) hf
        refine J_sub (lv' := [(0, .ref d0), (1, .long x1_95), (3, .int x3_95), (4, .int 0)]) [1, 2, 3, 0] rfl ?_
        refine L104 _ (fun e5 hf => ?_) N104 x1_95 0 hf
        refine j_iconst (pc' := 133) (v := 0) hX dX5_digest_132 (by decide) rfl ?_
        refine j_istore (pc' := 135) (lv' := [(4, .int 0), (0, .ref d0), (1, .long e5), (3, .int x3_95)]) hX dX5_digest_133 (by decide) rfl rfl ?_
        obtain ⟨N135, hf⟩ := hf
        have L135 : ∀ (K135_184 : Int64 → Prop), (∀ (x1_135 : Int64), K135_184 x1_135 → J g X 0 0 (MdW g d0 d1 d2 d3 d4 d5 d6 vd_95) [(0, .ref d0), (1, .long x1_135), (3, .int x3_95)] [] 184) → ∀ (N135 : Nat) (x1_135 : Int64) (x4_135 : Int32), wp_X5_digest_L135 x3_95 vd_95 K135_184 N135 x1_135 x4_135 → J g X 0 0 (MdW g d0 d1 d2 d3 d4 d5 d6 vd_95) [(0, .ref d0), (1, .long x1_135), (3, .int x3_95), (4, .int x4_135)] [] 135 := by
          intro K135_184 hK135_184 N135
          induction N135 with
          | zero => intro x1_135 x4_135 hf; exact False.elim hf
          | succ N135 ih135 =>
            intro x1_135 x4_135 hf
            refine j_iload (pc' := 137) hX dX5_digest_135 3 rfl rfl ?_
            refine j_aload_n (pc' := 138) hX dX5_digest_137 rfl 0 rfl rfl ?_
            refine j_get (ci := 5) (pc' := 141) hX hin5 rfl 0 rfl 0 (by decide) hl_7 rfl dX5_digest_138 rfl ?_
            refine j_iload_n (pc' := 142) hX dX5_digest_141 rfl 2 rfl rfl ?_
            refine j_callSR (pc' := 145) (As := [.ref d1, .int x3_95]) (rest := [.int x4_135]) (stk := fun r142 => [.int r142, .int x4_135]) hX (fun l => met_X5_cells l g d1 vd_95.1 x3_95 _ hf) rfl gX5_digest_X5_cells yoX5_cells rfl ⟨Nat.le_of_ble_eq_true rfl, Nat.le_of_ble_eq_true rfl⟩ ⟨⟨Nat.le_of_ble_eq_true rfl, Nat.le_of_ble_eq_true rfl⟩, rfl, rfl⟩ [1] rfl (by decide) (Nat.le_of_ble_eq_true rfl) rfl (fun _ => rfl) dX5_digest_142 rfl (fun r142 hf => ?_)
            refine j_icmp_ge (tgt := 184) (pc' := 148) hX dX5_digest_145 (by decide) rfl hf (fun hf => ?_) (fun hf => ?_)
            · refine J_sub (lv' := [(0, .ref d0), (1, .long x1_135), (3, .int x3_95)]) [0, 1, 2] rfl ?_
              exact hK135_184 x1_135 hf
            · refine j_ldc2l (pc' := 151) (v := 31) hX hl_185 dX5_digest_148 rfl ?_
              refine j_ldc2l (pc' := 154) (v := 31) hX hl_185 dX5_digest_151 rfl ?_
              refine j_lload_n (pc' := 155) hX dX5_digest_154 rfl 1 rfl rfl ?_
              refine j_lmul (pc' := 156) hX dX5_digest_155 rfl ?_
              refine j_aload_n (pc' := 157) hX dX5_digest_156 rfl 0 rfl rfl ?_
              refine j_iload_n (pc' := 158) hX dX5_digest_157 rfl 2 rfl rfl ?_
              refine j_iload (pc' := 160) hX dX5_digest_158 3 rfl rfl ?_
              refine j_iconst (pc' := 161) (v := 0) hX dX5_digest_160 (by decide) rfl ?_
              refine j_callVR (ci := 5) (pc' := 164) (As := [.int x3_95, .int x4_135, .int 0]) (rest := [.long (31 * x1_135), .long 31]) (stk := fun r161 => [.int r161, .long (31 * x1_135), .long 31]) hX (fun l => met_X5_ofCell l g d0 d1 d2 d3 d4 d5 d6 vd_95 x3_95 x4_135 0 _ hf) rfl gX5_digest_X5_ofCell yoX5_ofCell rfl ⟨Nat.le_of_ble_eq_true rfl, Nat.le_of_ble_eq_true rfl⟩ ⟨⟨Nat.le_of_ble_eq_true rfl, Nat.le_of_ble_eq_true rfl⟩, rfl, rfl⟩ 0 rfl rfl [0, 1, 2, 3, 4, 5, 6] rfl (by decide) (Nat.le_of_ble_eq_true rfl) rfl (fun _ => rfl) dX5_digest_161 rfl (fun r161 hf => ?_)
              refine j_i2l (pc' := 165) hX dX5_digest_164 rfl ?_
              refine j_ladd (pc' := 166) hX dX5_digest_165 rfl ?_
              refine j_lmul (pc' := 167) hX dX5_digest_166 rfl ?_
              refine j_aload_n (pc' := 168) hX dX5_digest_167 rfl 0 rfl rfl ?_
              refine j_iload_n (pc' := 169) hX dX5_digest_168 rfl 2 rfl rfl ?_
              refine j_iload (pc' := 171) hX dX5_digest_169 3 rfl rfl ?_
              refine j_iconst (pc' := 172) (v := 3) hX dX5_digest_171 (by decide) rfl ?_
              refine j_callVR (ci := 5) (pc' := 175) (As := [.int x3_95, .int x4_135, .int 3]) (rest := [.long (31 * ((31 * x1_135) + r161.toInt64))]) (stk := fun r172 => [.int r172, .long (31 * ((31 * x1_135) + r161.toInt64))]) hX (fun l => met_X5_ofCell l g d0 d1 d2 d3 d4 d5 d6 vd_95 x3_95 x4_135 3 _ hf) rfl gX5_digest_X5_ofCell yoX5_ofCell rfl ⟨Nat.le_of_ble_eq_true rfl, Nat.le_of_ble_eq_true rfl⟩ ⟨⟨Nat.le_of_ble_eq_true rfl, Nat.le_of_ble_eq_true rfl⟩, rfl, rfl⟩ 0 rfl rfl [0, 1, 2, 3, 4, 5, 6] rfl (by decide) (Nat.le_of_ble_eq_true rfl) rfl (fun _ => rfl) dX5_digest_172 rfl (fun r172 hf => ?_)
              refine j_i2l (pc' := 176) hX dX5_digest_175 rfl ?_
              refine j_ladd (pc' := 177) hX dX5_digest_176 rfl ?_
              refine j_lstore_n (pc' := 178) (lv' := [(1, .long ((31 * ((31 * x1_135) + r161.toInt64)) + r172.toInt64)), (0, .ref d0), (3, .int x3_95), (4, .int x4_135)]) hX dX5_digest_177 rfl (by decide) rfl rfl ?_
              refine j_iinc (pc' := 181) (cst := 1) (v := (x4_135 + 1)) (lv' := [(4, .int (x4_135 + 1)), (1, .long ((31 * ((31 * x1_135) + r161.toInt64)) + r172.toInt64)), (0, .ref d0), (3, .int x3_95)]) hX dX5_digest_178 (by decide) rfl 3 rfl (by decide) rfl rfl ?_
              refine j_goto (tgt := 135) hX dX5_digest_181 (by decide) ?_
              refine J_sub (lv' := [(0, .ref d0), (1, .long ((31 * ((31 * x1_135) + r161.toInt64)) + r172.toInt64)), (3, .int x3_95), (4, .int (x4_135 + 1))]) [2, 1, 3, 0] rfl ?_
              exact ih135 ((31 * ((31 * x1_135) + r161.toInt64)) + r172.toInt64) (x4_135 + 1) hf
        refine J_sub (lv' := [(0, .ref d0), (1, .long e5), (3, .int x3_95), (4, .int 0)]) [1, 2, 3, 0] rfl ?_
        refine L135 _ (fun e6 hf => ?_) N135 e5 0 hf
        refine j_ldc2l (pc' := 187) (v := 31) hX hl_185 dX5_digest_184 rfl ?_
        refine j_ldc2l (pc' := 190) (v := 31) hX hl_185 dX5_digest_187 rfl ?_
        refine j_lload_n (pc' := 191) hX dX5_digest_190 rfl 1 rfl rfl ?_
        refine j_lmul (pc' := 192) hX dX5_digest_191 rfl ?_
        refine j_aload_n (pc' := 193) hX dX5_digest_192 rfl 0 rfl rfl ?_
        refine j_iload_n (pc' := 194) hX dX5_digest_193 rfl 2 rfl rfl ?_
        refine j_iconst (pc' := 195) (v := 0) hX dX5_digest_194 (by decide) rfl ?_
        refine j_callVM (ci := 5) (pc' := 198) (k' := 0) (n' := 0) (As := [.int x3_95, .int 0]) (rest := [.long (31 * e6), .long 31]) (stk := fun r195 => [.int r195, .long (31 * e6), .long 31]) (ws' := fun u195_7 => (MdW g d0 d1 d2 d3 d4 d5 d6 u195_7)) (wr := ([] : va_W)) hX hW (fun l => met_X5_closes l g d0 d1 d2 d3 d4 d5 d6 vd_95 x3_95 0 _ hf) rfl gX5_digest_X5_closes yoX5_closes rfl ⟨Nat.le_of_ble_eq_true rfl, Nat.le_of_ble_eq_true rfl⟩ ⟨Nat.le_of_ble_eq_true rfl, Nat.le_of_ble_eq_true rfl, Nat.le_of_ble_eq_true rfl, Nat.le_of_ble_eq_true rfl⟩ 0 rfl rfl [0, 1, 2, 3, 4, 5, 6] [] [0, 1, 2, 3, 4, 5, 6] rfl (by decide) rfl (by decide) (by decide) (fun _ => rfl) (by decide) (Nat.le_of_ble_eq_true rfl) rfl (fun _ => rfl) dX5_digest_195 rfl (fun r195 u195_7 hf => ?_)
        refine j_i2l (pc' := 199) hX dX5_digest_198 rfl ?_
        refine j_ladd (pc' := 200) hX dX5_digest_199 rfl ?_
        refine j_lmul (pc' := 201) hX dX5_digest_200 rfl ?_
        refine j_aload_n (pc' := 202) hX dX5_digest_201 rfl 0 rfl rfl ?_
        refine j_iload_n (pc' := 203) hX dX5_digest_202 rfl 2 rfl rfl ?_
        refine j_iconst (pc' := 204) (v := 1) hX dX5_digest_203 (by decide) rfl ?_
        refine j_callVM (ci := 5) (pc' := 207) (k' := 0) (n' := 0) (As := [.int x3_95, .int 1]) (rest := [.long (31 * ((31 * e6) + r195.toInt64))]) (stk := fun r204 => [.int r204, .long (31 * ((31 * e6) + r195.toInt64))]) (ws' := fun u204_8 => (MdW g d0 d1 d2 d3 d4 d5 d6 u204_8)) (wr := ([] : va_W)) hX hW (fun l => met_X5_closes l g d0 d1 d2 d3 d4 d5 d6 u195_7 x3_95 1 _ hf) rfl gX5_digest_X5_closes yoX5_closes rfl ⟨Nat.le_of_ble_eq_true rfl, Nat.le_of_ble_eq_true rfl⟩ ⟨Nat.le_of_ble_eq_true rfl, Nat.le_of_ble_eq_true rfl, Nat.le_of_ble_eq_true rfl, Nat.le_of_ble_eq_true rfl⟩ 0 rfl rfl [0, 1, 2, 3, 4, 5, 6] [] [0, 1, 2, 3, 4, 5, 6] rfl (by decide) rfl (by decide) (by decide) (fun _ => rfl) (by decide) (Nat.le_of_ble_eq_true rfl) rfl (fun _ => rfl) dX5_digest_204 rfl (fun r204 u204_8 hf => ?_)
        refine j_i2l (pc' := 208) hX dX5_digest_207 rfl ?_
        refine j_ladd (pc' := 209) hX dX5_digest_208 rfl ?_
        refine j_lstore_n (pc' := 210) (lv' := [(1, .long ((31 * ((31 * e6) + r195.toInt64)) + r204.toInt64)), (0, .ref d0), (3, .int x3_95)]) hX dX5_digest_209 rfl (by decide) rfl rfl ?_
        refine j_iconst (pc' := 211) (v := 0) hX dX5_digest_210 (by decide) rfl ?_
        refine j_istore (pc' := 213) (lv' := [(4, .int 0), (1, .long ((31 * ((31 * e6) + r195.toInt64)) + r204.toInt64)), (0, .ref d0), (3, .int x3_95)]) hX dX5_digest_211 (by decide) rfl rfl ?_
        obtain ⟨N213, hf⟩ := hf
        have L213 : ∀ (K213_247 : Int64 → Md → Prop), (∀ (x1_213 : Int64) (vd_213 : Md), K213_247 x1_213 vd_213 → J g X 0 0 (MdW g d0 d1 d2 d3 d4 d5 d6 vd_213) [(0, .ref d0), (1, .long x1_213), (3, .int x3_95)] [] 247) → ∀ (N213 : Nat) (x1_213 : Int64) (x4_213 : Int32) (vd_213 : Md), wp_X5_digest_L213 x3_95 K213_247 N213 x1_213 x4_213 vd_213 → J g X 0 0 (MdW g d0 d1 d2 d3 d4 d5 d6 vd_213) [(0, .ref d0), (1, .long x1_213), (3, .int x3_95), (4, .int x4_213)] [] 213 := by
          intro K213_247 hK213_247 N213
          induction N213 with
          | zero => intro x1_213 x4_213 vd_213 hf; exact False.elim hf
          | succ N213 ih213 =>
            intro x1_213 x4_213 vd_213 hf
            refine j_iload (pc' := 215) hX dX5_digest_213 3 rfl rfl ?_
            refine j_bipush (pc' := 217) (v := 6) hX dX5_digest_215 (by decide) rfl ?_
            refine j_icmp_ge (tgt := 247) (pc' := 220) hX dX5_digest_217 (by decide) rfl hf (fun hf => ?_) (fun hf => ?_)
            · refine J_sub (lv' := [(0, .ref d0), (1, .long x1_213), (3, .int x3_95)]) [0, 1, 2] rfl ?_
              exact hK213_247 x1_213 vd_213 hf
            · refine j_ldc2l (pc' := 223) (v := 31) hX hl_185 dX5_digest_220 rfl ?_
              refine j_lload_n (pc' := 224) hX dX5_digest_223 rfl 1 rfl rfl ?_
              refine j_lmul (pc' := 225) hX dX5_digest_224 rfl ?_
              refine j_aload_n (pc' := 226) hX dX5_digest_225 rfl 0 rfl rfl ?_
              refine j_iload_n (pc' := 227) hX dX5_digest_226 rfl 2 rfl rfl ?_
              refine j_iload (pc' := 229) hX dX5_digest_227 3 rfl rfl ?_
              refine j_iconst (pc' := 230) (v := 3) hX dX5_digest_229 (by decide) rfl ?_
              refine j_idiv (pc' := 231) hX dX5_digest_230 ⟨by decide, hf⟩ rfl (fun hf => ?_)
              refine j_iload (pc' := 233) hX dX5_digest_231 3 rfl rfl ?_
              refine j_iconst (pc' := 234) (v := 3) hX dX5_digest_233 (by decide) rfl ?_
              refine j_irem (pc' := 235) hX dX5_digest_234 ⟨by decide, hf⟩ rfl (fun hf => ?_)
              refine j_callVM (ci := 5) (pc' := 238) (k' := 0) (n' := 0) (As := [.int x3_95, .int (x4_213 / 3), .int (x4_213 - x4_213 / 3 * 3)]) (rest := [.long (31 * x1_213)]) (stk := fun r235 => [.int r235, .long (31 * x1_213)]) (ws' := fun u235_9 => (MdW g d0 d1 d2 d3 d4 d5 d6 u235_9)) (wr := ([] : va_W)) hX hW (fun l => met_X5_byFilling l g d0 d1 d2 d3 d4 d5 d6 vd_213 x3_95 (x4_213 / 3) (x4_213 - x4_213 / 3 * 3) _ hf) rfl gX5_digest_X5_byFilling yoX5_byFilling rfl ⟨Nat.le_of_ble_eq_true rfl, Nat.le_of_ble_eq_true rfl⟩ ⟨Nat.le_of_ble_eq_true rfl, Nat.le_of_ble_eq_true rfl, Nat.le_of_ble_eq_true rfl, Nat.le_of_ble_eq_true rfl⟩ 0 rfl rfl [0, 1, 2, 3, 4, 5, 6] [] [0, 1, 2, 3, 4, 5, 6] rfl (by decide) rfl (by decide) (by decide) (fun _ => rfl) (by decide) (Nat.le_of_ble_eq_true rfl) rfl (fun _ => rfl) dX5_digest_235 rfl (fun r235 u235_9 hf => ?_)
              refine j_i2l (pc' := 239) hX dX5_digest_238 rfl ?_
              refine j_ladd (pc' := 240) hX dX5_digest_239 rfl ?_
              refine j_lstore_n (pc' := 241) (lv' := [(1, .long ((31 * x1_213) + r235.toInt64)), (0, .ref d0), (3, .int x3_95), (4, .int x4_213)]) hX dX5_digest_240 rfl (by decide) rfl rfl ?_
              refine j_iinc (pc' := 244) (cst := 1) (v := (x4_213 + 1)) (lv' := [(4, .int (x4_213 + 1)), (1, .long ((31 * x1_213) + r235.toInt64)), (0, .ref d0), (3, .int x3_95)]) hX dX5_digest_241 (by decide) rfl 3 rfl (by decide) rfl rfl ?_
              refine j_goto (tgt := 213) hX dX5_digest_244 (by decide) ?_
              refine J_sub (lv' := [(0, .ref d0), (1, .long ((31 * x1_213) + r235.toInt64)), (3, .int x3_95), (4, .int (x4_213 + 1))]) [2, 1, 3, 0] rfl ?_
              exact ih213 ((31 * x1_213) + r235.toInt64) (x4_213 + 1) u235_9 hf
        refine J_sub (lv' := [(0, .ref d0), (1, .long ((31 * ((31 * e6) + r195.toInt64)) + r204.toInt64)), (3, .int x3_95), (4, .int 0)]) [2, 1, 3, 0] rfl ?_
        refine L213 _ (fun e10 e11 hf => ?_) N213 ((31 * ((31 * e6) + r195.toInt64)) + r204.toInt64) 0 u204_8 hf
        refine j_iinc (pc' := 250) (cst := 1) (v := (x3_95 + 1)) (lv' := [(3, .int (x3_95 + 1)), (0, .ref d0), (1, .long e10)]) hX dX5_digest_247 (by decide) rfl 2 rfl (by decide) rfl rfl ?_
        refine j_goto (tgt := 95) hX dX5_digest_250 (by decide) ?_
        refine J_sub (lv' := [(0, .ref d0), (1, .long e10), (3, .int (x3_95 + 1))]) [1, 2, 0] rfl ?_
        exact ih95 e10 (x3_95 + 1) e11 hf
  refine J_sub (lv' := [(0, .ref d0), (1, .long e4), (3, .int 0)]) [1, 2, 0] rfl ?_
  refine L95 _ (fun e12 e13 hf => ?_) N95 e4 0 vd_1 hf
  refine j_ldc2l (pc' := 256) (v := 31) hX hl_185 dX5_digest_253 rfl ?_
  refine j_lload_n (pc' := 257) hX dX5_digest_256 rfl 1 rfl rfl ?_
  refine j_lmul (pc' := 258) hX dX5_digest_257 rfl ?_
  refine j_aload_n (pc' := 259) hX dX5_digest_258 rfl 0 rfl rfl ?_
  refine j_callVM (ci := 5) (pc' := 262) (k' := 0) (n' := 0) (As := []) (rest := [.long (31 * e12)]) (stk := fun r259 => [.int r259, .long (31 * e12)]) (ws' := fun u259_14 => (MdW g d0 d1 d2 d3 d4 d5 d6 u259_14)) (wr := ([] : va_W)) hX hW (fun l => met_X5_best l g d0 d1 d2 d3 d4 d5 d6 e13 _ hf) rfl gX5_digest_X5_best yoX5_best rfl ⟨Nat.le_of_ble_eq_true rfl, Nat.le_of_ble_eq_true rfl⟩ ⟨Nat.le_of_ble_eq_true rfl, Nat.le_of_ble_eq_true rfl, Nat.le_of_ble_eq_true rfl, Nat.le_of_ble_eq_true rfl⟩ 0 rfl rfl [0, 1, 2, 3, 4, 5, 6] [] [0, 1, 2, 3, 4, 5, 6] rfl (by decide) rfl (by decide) (by decide) (fun _ => rfl) (by decide) (Nat.le_of_ble_eq_true rfl) rfl (fun _ => rfl) dX5_digest_259 rfl (fun r259 u259_14 hf => ?_)
  refine j_i2l (pc' := 263) hX dX5_digest_262 rfl ?_
  refine j_ladd (pc' := 264) hX dX5_digest_263 rfl ?_
  refine j_lstore_n (pc' := 265) (lv' := [(1, .long ((31 * e12) + r259.toInt64)), (0, .ref d0)]) hX dX5_digest_264 rfl (by decide) rfl rfl ?_
  refine j_ldc2l (pc' := 268) (v := 31) hX hl_185 dX5_digest_265 rfl ?_
  refine j_ldc2l (pc' := 271) (v := 31) hX hl_185 dX5_digest_268 rfl ?_
  refine j_lload_n (pc' := 272) hX dX5_digest_271 rfl 0 rfl rfl ?_
  refine j_lmul (pc' := 273) hX dX5_digest_272 rfl ?_
  refine j_aload_n (pc' := 274) hX dX5_digest_273 rfl 1 rfl rfl ?_
  refine j_callVR (ci := 5) (pc' := 277) (As := []) (rest := [.long (31 * ((31 * e12) + r259.toInt64)), .long 31]) (stk := fun r274 => [.double r274, .long (31 * ((31 * e12) + r259.toInt64)), .long 31]) hX (fun l => met_X5_laid l g d0 d1 d2 d3 d4 d5 d6 u259_14 _ hf) rfl gX5_digest_X5_laid yoX5_laid rfl ⟨Nat.le_of_ble_eq_true rfl, Nat.le_of_ble_eq_true rfl⟩ ⟨⟨Nat.le_of_ble_eq_true rfl, Nat.le_of_ble_eq_true rfl⟩, rfl, rfl⟩ 0 rfl rfl [0, 1, 2, 3, 4, 5, 6] rfl (by decide) (Nat.le_of_ble_eq_true rfl) rfl (fun _ => rfl) dX5_digest_274 rfl (fun r274 hf => ?_)
  refine j_callSR (pc' := 280) (As := [.double r274]) (rest := [.long (31 * ((31 * e12) + r259.toInt64)), .long 31]) (stk := fun r16 => [.long r16, .long (31 * ((31 * e12) + r259.toInt64)), .long 31]) hX (fun l => met_d2lb l g r274 (fun r16 => r16 = r274.toInt64) ⟨hf.1, rfl⟩) rfl gX5_digest_Jxe99ae_doubleToLongBits_ccdee yoJxe99ae_doubleToLongBits_ccdee rfl ⟨Nat.le_of_ble_eq_true rfl, Nat.le_of_ble_eq_true rfl⟩ ⟨⟨Nat.le_of_ble_eq_true rfl, Nat.le_of_ble_eq_true rfl⟩, rfl, rfl⟩ [] rfl (by decide) (Nat.le_of_ble_eq_true rfl) rfl (fun _ => rfl) dX5_digest_277 rfl (fun r16 hr => ?_)
  subst hr
  replace hf := hf.2
  refine j_ladd (pc' := 281) hX dX5_digest_280 rfl ?_
  refine j_lmul (pc' := 282) hX dX5_digest_281 rfl ?_
  refine j_aload_n (pc' := 283) hX dX5_digest_282 rfl 1 rfl rfl ?_
  refine j_get (ci := 5) (pc' := 286) hX hin5 rfl 0 rfl 5 (by decide) hl_114 rfl dX5_digest_283 rfl ?_
  refine j_i2l (pc' := 287) hX dX5_digest_286 rfl ?_
  refine j_ladd (pc' := 288) hX dX5_digest_287 rfl ?_
  refine j_lstore_n (pc' := 289) (lv' := [(1, .long ((31 * ((31 * ((31 * e12) + r259.toInt64)) + r274.toInt64)) + u259_14.2.2.2.2.2.2.2.1.toInt64)), (0, .ref d0)]) hX dX5_digest_288 rfl (by decide) rfl rfl ?_
  refine j_iconst (pc' := 290) (v := 0) hX dX5_digest_289 (by decide) rfl ?_
  refine j_istore_n (pc' := 291) (lv' := [(3, .int 0), (1, .long ((31 * ((31 * ((31 * e12) + r259.toInt64)) + r274.toInt64)) + u259_14.2.2.2.2.2.2.2.1.toInt64)), (0, .ref d0)]) hX dX5_digest_290 rfl (by decide) rfl rfl ?_
  obtain ⟨N291, hf⟩ := hf
  have L291 : ∀ (K291_319 : Int64 → Prop), (∀ (x1_291 : Int64), K291_319 x1_291 → J g X 0 0 (MdW g d0 d1 d2 d3 d4 d5 d6 u259_14) [(1, .long x1_291)] [] 319) → ∀ (N291 : Nat) (x1_291 : Int64) (x3_291 : Int32), wp_X5_digest_L291 u259_14 K291_319 N291 x1_291 x3_291 → J g X 0 0 (MdW g d0 d1 d2 d3 d4 d5 d6 u259_14) [(0, .ref d0), (1, .long x1_291), (3, .int x3_291)] [] 291 := by
    intro K291_319 hK291_319 N291
    induction N291 with
    | zero => intro x1_291 x3_291 hf; exact False.elim hf
    | succ N291 ih291 =>
      intro x1_291 x3_291 hf
      refine j_iload_n (pc' := 292) hX dX5_digest_291 rfl 2 rfl rfl ?_
      refine j_aload_n (pc' := 293) hX dX5_digest_292 rfl 0 rfl rfl ?_
      refine j_get (ci := 5) (pc' := 296) hX hin5 rfl 0 rfl 5 (by decide) hl_114 rfl dX5_digest_293 rfl ?_
      refine j_icmp_ge (tgt := 319) (pc' := 299) hX dX5_digest_296 (by decide) rfl hf (fun hf => ?_) (fun hf => ?_)
      · refine J_sub (lv' := [(1, .long x1_291)]) [1] rfl ?_
        exact hK291_319 x1_291 hf
      · refine j_ldc2l (pc' := 302) (v := 31) hX hl_185 dX5_digest_299 rfl ?_
        refine j_lload_n (pc' := 303) hX dX5_digest_302 rfl 1 rfl rfl ?_
        refine j_lmul (pc' := 304) hX dX5_digest_303 rfl ?_
        refine j_aload_n (pc' := 305) hX dX5_digest_304 rfl 0 rfl rfl ?_
        refine j_get (ci := 5) (pc' := 308) hX hin5 rfl 0 rfl 4 (by decide) hl_19 rfl dX5_digest_305 rfl ?_
        refine j_iload_n (pc' := 309) hX dX5_digest_308 rfl 2 rfl rfl ?_
        refine j_iald (pc' := 310) hX 4 rfl dX5_digest_309 hf rfl (fun hf => ?_)
        refine j_i2l (pc' := 311) hX dX5_digest_310 rfl ?_
        refine j_ladd (pc' := 312) hX dX5_digest_311 rfl ?_
        refine j_lstore_n (pc' := 313) (lv' := [(1, .long ((31 * x1_291) + (u259_14.2.2.2.1 x3_291.toNatClampNeg).toInt64)), (0, .ref d0), (3, .int x3_291)]) hX dX5_digest_312 rfl (by decide) rfl rfl ?_
        refine j_iinc (pc' := 316) (cst := 1) (v := (x3_291 + 1)) (lv' := [(3, .int (x3_291 + 1)), (1, .long ((31 * x1_291) + (u259_14.2.2.2.1 x3_291.toNatClampNeg).toInt64)), (0, .ref d0)]) hX dX5_digest_313 (by decide) rfl 2 rfl (by decide) rfl rfl ?_
        refine j_goto (tgt := 291) hX dX5_digest_316 (by decide) ?_
        refine J_sub (lv' := [(0, .ref d0), (1, .long ((31 * x1_291) + (u259_14.2.2.2.1 x3_291.toNatClampNeg).toInt64)), (3, .int (x3_291 + 1))]) [2, 1, 0] rfl ?_
        exact ih291 ((31 * x1_291) + (u259_14.2.2.2.1 x3_291.toNatClampNeg).toInt64) (x3_291 + 1) hf
  refine J_sub (lv' := [(0, .ref d0), (1, .long ((31 * ((31 * ((31 * e12) + r259.toInt64)) + r274.toInt64)) + u259_14.2.2.2.2.2.2.2.1.toInt64)), (3, .int 0)]) [2, 1, 0] rfl ?_
  refine L291 _ (fun e15 hf => ?_) N291 ((31 * ((31 * ((31 * e12) + r259.toInt64)) + r274.toInt64)) + u259_14.2.2.2.2.2.2.2.1.toInt64) 0 hf
  refine j_lload_n (pc' := 320) hX dX5_digest_319 rfl 0 rfl rfl ?_
  exact j_lret hX hR dX5_digest_320 ⟨_, _, rfl, hf, rfl⟩
