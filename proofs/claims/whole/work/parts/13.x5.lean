def wp_X5_thrown (vd : Md) (post : Int32 → Prop) : Prop :=
  post vd.2.2.2.2.2.2.2.2.1
theorem yoX5_thrown : yOk yX5_thrown 0 := by decide +kernel
set_option maxHeartbeats 4000000 in
set_option maxRecDepth 100000 in
theorem met_X5_thrown (l : Launch) (g : JG) (d0 : Nat) (d1 : Nat) (d2 : Nat) (d3 : Nat) (d4 : Nat) (d5 : Nat) (d6 : Nat) (vd : Md) (post : Int32 → Prop) (hf : wp_X5_thrown vd post) : MetR l yX5_thrown wsX5_thrown ({ frames := 0, cells := 0, slots := 0, locals := 0 } : Room) [.ref d0] g (MdW g d0 d1 d2 d3 d4 d5 d6 vd) mkI post := by
  have hin5 : ∀ w ∈ u_ws RX5 TX5 12, w ∈ wsX5_thrown := by decide +kernel
  have hl_28 : Cond.fieldLink RX5 28 (TX5 6).1 (TX5 6).2.1 (TX5 6).2.2.1 ∈ wsX5_thrown := by decide +kernel
  refine enterR (own := RX5) (cc := cX5_thrown) (nL := 1) (ret := (some .int)) (lv := [(0, .ref d0)]) (by decide) rfl rfl (Nat.le_of_ble_eq_true rfl) rfl (fun X hX hR => ?_)
  unfold wp_X5_thrown at hf
  refine j_aload_n (pc' := 1) hX dX5_thrown_0 rfl 0 rfl rfl ?_
  refine j_get (ci := 5) (pc' := 4) hX hin5 rfl 0 rfl 6 (by decide) hl_28 rfl dX5_thrown_1 rfl ?_
  exact j_iret hX hR dX5_thrown_4 ⟨_, rfl, hf⟩
def wp_X5_fails (vd : Md) (p0 : Int32) (post : Int32 → Md → Prop) : Prop :=
  (∀ vd_1 : Md, vd_1 = md_thrown vd (p0) → post 0 vd_1)
theorem yoX5_fails : yOk yX5_fails 1 := by decide +kernel
set_option maxHeartbeats 4000000 in
set_option maxRecDepth 100000 in
theorem met_X5_fails (l : Launch) (g : JG) (d0 : Nat) (d1 : Nat) (d2 : Nat) (d3 : Nat) (d4 : Nat) (d5 : Nat) (d6 : Nat) (vd : Md) (p0 : Int32) (post : Int32 → Md → Prop) (hf : wp_X5_fails vd p0 post) : MetM l yX5_fails wsX5_fails ({ frames := 0, cells := 0, slots := 0, locals := 0 } : Room) [.ref d0, .int p0] g (MdW g d0 d1 d2 d3 d4 d5 d6 vd) mkI post (fun u : Md => (MdW g d0 d1 d2 d3 d4 d5 d6 u)) := by
  have hin5 : ∀ w ∈ u_ws RX5 TX5 12, w ∈ wsX5_fails := by decide +kernel
  have hl_28 : Cond.fieldLink RX5 28 (TX5 6).1 (TX5 6).2.1 (TX5 6).2.2.1 ∈ wsX5_fails := by decide +kernel
  refine enterM (own := RX5) (cc := cX5_fails) (nL := 2) (ret := (some .int)) (lv := [(0, .ref d0), (1, .int p0)]) (by decide) rfl rfl (Nat.le_of_ble_eq_true rfl) rfl (fun X hX hW hR => ?_)
  unfold wp_X5_fails at hf
  refine j_aload_n (pc' := 1) hX dX5_fails_0 rfl 0 rfl rfl ?_
  refine j_iload_n (pc' := 2) hX dX5_fails_1 rfl 1 rfl rfl ?_
  obtain ⟨vd_1, evd_1⟩ : ∃ z : Md, z = md_thrown vd (p0) := ⟨_, rfl⟩
  refine j_put (ci := 5) (pc' := 5) (ws' := (MdW g d0 d1 d2 d3 d4 d5 d6 vd_1)) hX hW hin5 tyX5_ok nmX5 rfl 0 rfl 6 (by decide) hl_28 rfl rfl rfl (Nat.le_of_ble_eq_true rfl) dX5_fails_2 (by subst evd_1; rfl) rfl ?_
  replace hf := hf vd_1 evd_1
  refine j_iconst (pc' := 6) (v := 0) hX dX5_fails_5 (by decide) rfl ?_
  exact j_iret hX hR dX5_fails_6 ⟨_, _, rfl, hf, rfl⟩
def wp_X5_saves_L11  (K11_40 : Md → Prop) : Nat → Int32 → Md → Prop
  | 0, _, _ => False
  | N11 + 1, x1_11, vd_11 =>
  ((1880 ≤ x1_11 → K11_40 vd_11) ∧ (¬ 1880 ≤ x1_11 → (vp_in (x1_11 + 376) 2256 ∧ (vp_in x1_11 2256 ∧ (∀ vd_1 : Md, vd_1 = md_past vd_11 (upd vd_11.2.2.1 x1_11.toNatClampNeg (vd_11.2.2.1 (x1_11 + 376).toNatClampNeg)) → (wp_X5_saves_L11 K11_40 N11) (x1_11 + 1) vd_1)))))
def wp_X5_saves_L52  (K52_86 : Md → Prop) : Nat → Int32 → Md → Prop
  | 0, _, _ => False
  | N52 + 1, x1_52, vd_52 =>
  ((376 ≤ x1_52 → K52_86 vd_52) ∧ (¬ 376 ≤ x1_52 → (vp_in x1_52 376 ∧ (vp_in ((376 * vd_52.2.2.2.2.2.2.1) + x1_52) 2256 ∧ (∀ vd_4 : Md, vd_4 = md_past vd_52 (upd vd_52.2.2.1 ((376 * vd_52.2.2.2.2.2.2.1) + x1_52).toNatClampNeg (vd_52.1 x1_52.toNatClampNeg)) → (wp_X5_saves_L52 K52_86 N52) (x1_52 + 1) vd_4)))))
def wp_X5_saves_L52b  (K52_86 : Md → Prop) : Nat → Int32 → Md → Prop
  | 0, _, _ => False
  | N52 + 1, x1_52, vd_52 =>
  ((376 ≤ x1_52 → K52_86 vd_52) ∧ (¬ 376 ≤ x1_52 → (vp_in x1_52 376 ∧ (vp_in ((376 * vd_52.2.2.2.2.2.2.1) + x1_52) 2256 ∧ (∀ vd_7 : Md, vd_7 = md_past vd_52 (upd vd_52.2.2.1 ((376 * vd_52.2.2.2.2.2.2.1) + x1_52).toNatClampNeg (vd_52.1 x1_52.toNatClampNeg)) → (wp_X5_saves_L52b K52_86 N52) (x1_52 + 1) vd_7)))))
def wp_X5_saves (vd : Md) (post : Md → Prop) : Prop :=
  ((vd.2.2.2.2.2.2.1 = 6 → (∃ N : Nat, wp_X5_saves_L11 (fun (e2 : Md) => (∀ vd_3 : Md, vd_3 = md_kept e2 ((e2.2.2.2.2.2.2.1 - 1)) → (∃ N : Nat, wp_X5_saves_L52 (fun (e5 : Md) => (∀ vd_6 : Md, vd_6 = md_kept e5 ((e5.2.2.2.2.2.2.1 + 1)) → post vd_6)) N 0 vd_3))) N 0 vd)) ∧ (¬ vd.2.2.2.2.2.2.1 = 6 → (∃ N : Nat, wp_X5_saves_L52b (fun (e8 : Md) => (∀ vd_9 : Md, vd_9 = md_kept e8 ((e8.2.2.2.2.2.2.1 + 1)) → post vd_9)) N 0 vd)))
theorem yoX5_saves : yOk yX5_saves 0 := by decide +kernel
set_option maxHeartbeats 4000000 in
set_option maxRecDepth 100000 in
theorem met_X5_saves (l : Launch) (g : JG) (d0 : Nat) (d1 : Nat) (d2 : Nat) (d3 : Nat) (d4 : Nat) (d5 : Nat) (d6 : Nat) (vd : Md) (post : Md → Prop) (hf : wp_X5_saves vd post) : MetM l yX5_saves wsX5_saves ({ frames := 0, cells := 0, slots := 0, locals := 0 } : Room) [.ref d0] g (MdW g d0 d1 d2 d3 d4 d5 d6 vd) mkV (fun (_ : Unit) (u : Md) => post u) (fun u : Md => (MdW g d0 d1 d2 d3 d4 d5 d6 u)) := by
  have hin5 : ∀ w ∈ u_ws RX5 TX5 12, w ∈ wsX5_saves := by decide +kernel
  have hl_36 : Cond.fieldLink RX5 36 (TX5 3).1 (TX5 3).2.1 (TX5 3).2.2.1 ∈ wsX5_saves := by decide +kernel
  have hl_16 : Cond.fieldLink RX5 16 (TX5 2).1 (TX5 2).2.1 (TX5 2).2.2.1 ∈ wsX5_saves := by decide +kernel
  have hl_7 : Cond.fieldLink RX5 7 (TX5 0).1 (TX5 0).2.1 (TX5 0).2.2.1 ∈ wsX5_saves := by decide +kernel
  refine enterM (own := RX5) (cc := cX5_saves) (nL := 2) (ret := none) (lv := [(0, .ref d0)]) (by decide) rfl rfl (Nat.le_of_ble_eq_true rfl) rfl (fun X hX hW hR => ?_)
  unfold wp_X5_saves at hf
  refine j_aload_n (pc' := 1) hX dX5_saves_0 rfl 0 rfl rfl ?_
  refine j_get (ci := 5) (pc' := 4) hX hin5 rfl 0 rfl 3 (by decide) hl_36 rfl dX5_saves_1 rfl ?_
  refine j_bipush (pc' := 6) (v := 6) hX dX5_saves_4 (by decide) rfl ?_
  refine j_icmp_ne (tgt := 50) (pc' := 9) hX dX5_saves_6 (by decide) rfl hf (fun hf => ?_) (fun hf => ?_)
  · refine j_iconst (pc' := 51) (v := 0) hX dX5_saves_50 (by decide) rfl ?_
    refine j_istore_n (pc' := 52) (lv' := [(1, .int 0), (0, .ref d0)]) hX dX5_saves_51 rfl (by decide) rfl rfl ?_
    obtain ⟨N52, hf⟩ := hf
    have L52 : ∀ (K52_86 : Md → Prop), (∀ (vd_52 : Md), K52_86 vd_52 → J g X 0 0 (MdW g d0 d1 d2 d3 d4 d5 d6 vd_52) [(0, .ref d0)] [] 86) → ∀ (N52 : Nat) (x1_52 : Int32) (vd_52 : Md), wp_X5_saves_L52b K52_86 N52 x1_52 vd_52 → J g X 0 0 (MdW g d0 d1 d2 d3 d4 d5 d6 vd_52) [(0, .ref d0), (1, .int x1_52)] [] 52 := by
      intro K52_86 hK52_86 N52
      induction N52 with
      | zero => intro x1_52 vd_52 hf; exact False.elim hf
      | succ N52 ih52 =>
        intro x1_52 vd_52 hf
        refine j_iload_n (pc' := 53) hX dX5_saves_52 rfl 1 rfl rfl ?_
        refine j_sipush (pc' := 56) (v := 376) hX dX5_saves_53 (by decide) rfl ?_
        refine j_icmp_ge (tgt := 86) (pc' := 59) hX dX5_saves_56 (by decide) rfl hf (fun hf => ?_) (fun hf => ?_)
        · refine J_sub (lv' := [(0, .ref d0)]) [0] rfl ?_
          exact hK52_86 vd_52 hf
        · refine j_aload_n (pc' := 60) hX dX5_saves_59 rfl 0 rfl rfl ?_
          refine j_get (ci := 5) (pc' := 63) hX hin5 rfl 0 rfl 2 (by decide) hl_16 rfl dX5_saves_60 rfl ?_
          refine j_sipush (pc' := 66) (v := 376) hX dX5_saves_63 (by decide) rfl ?_
          refine j_aload_n (pc' := 67) hX dX5_saves_66 rfl 0 rfl rfl ?_
          refine j_get (ci := 5) (pc' := 70) hX hin5 rfl 0 rfl 3 (by decide) hl_36 rfl dX5_saves_67 rfl ?_
          refine j_imul (pc' := 71) hX dX5_saves_70 rfl ?_
          refine j_iload_n (pc' := 72) hX dX5_saves_71 rfl 1 rfl rfl ?_
          refine j_iadd (pc' := 73) hX dX5_saves_72 rfl ?_
          refine j_aload_n (pc' := 74) hX dX5_saves_73 rfl 0 rfl rfl ?_
          refine j_get (ci := 5) (pc' := 77) hX hin5 rfl 0 rfl 0 (by decide) hl_7 rfl dX5_saves_74 rfl ?_
          refine j_iload_n (pc' := 78) hX dX5_saves_77 rfl 1 rfl rfl ?_
          refine j_iald (pc' := 79) hX 1 rfl dX5_saves_78 hf rfl (fun hf => ?_)
          obtain ⟨vd_7, evd_7⟩ : ∃ z : Md, z = md_past vd_52 (upd vd_52.2.2.1 ((376 * vd_52.2.2.2.2.2.2.1) + x1_52).toNatClampNeg (vd_52.1 x1_52.toNatClampNeg)) := ⟨_, rfl⟩
          refine j_iast (pc' := 80) (ws' := (MdW g d0 d1 d2 d3 d4 d5 d6 vd_7)) hX hW 3 rfl dX5_saves_79 hf (by subst evd_7; rfl) rfl (fun hf => ?_)
          replace hf := hf vd_7 evd_7
          refine j_iinc (pc' := 83) (cst := 1) (v := (x1_52 + 1)) (lv' := [(1, .int (x1_52 + 1)), (0, .ref d0)]) hX dX5_saves_80 (by decide) rfl 1 rfl (by decide) rfl rfl ?_
          refine j_goto (tgt := 52) hX dX5_saves_83 (by decide) ?_
          refine J_sub (lv' := [(0, .ref d0), (1, .int (x1_52 + 1))]) [1, 0] rfl ?_
          exact ih52 (x1_52 + 1) vd_7 hf
    refine J_sub (lv' := [(0, .ref d0), (1, .int 0)]) [1, 0] rfl ?_
    refine L52 _ (fun e8 hf => ?_) N52 0 vd hf
    refine j_aload_n (pc' := 87) hX dX5_saves_86 rfl 0 rfl rfl ?_
    refine j_dup (pc' := 88) hX dX5_saves_87 rfl rfl ?_
    refine j_get (ci := 5) (pc' := 91) hX hin5 rfl 0 rfl 3 (by decide) hl_36 rfl dX5_saves_88 rfl ?_
    refine j_iconst (pc' := 92) (v := 1) hX dX5_saves_91 (by decide) rfl ?_
    refine j_iadd (pc' := 93) hX dX5_saves_92 rfl ?_
    obtain ⟨vd_9, evd_9⟩ : ∃ z : Md, z = md_kept e8 ((e8.2.2.2.2.2.2.1 + 1)) := ⟨_, rfl⟩
    refine j_put (ci := 5) (pc' := 96) (ws' := (MdW g d0 d1 d2 d3 d4 d5 d6 vd_9)) hX hW hin5 tyX5_ok nmX5 rfl 0 rfl 3 (by decide) hl_36 rfl rfl rfl (Nat.le_of_ble_eq_true rfl) dX5_saves_93 (by subst evd_9; rfl) rfl ?_
    replace hf := hf vd_9 evd_9
    exact j_vret hX hR dX5_saves_96 ⟨(), _, rfl, hf, rfl⟩
  · refine j_iconst (pc' := 10) (v := 0) hX dX5_saves_9 (by decide) rfl ?_
    refine j_istore_n (pc' := 11) (lv' := [(1, .int 0), (0, .ref d0)]) hX dX5_saves_10 rfl (by decide) rfl rfl ?_
    obtain ⟨N11, hf⟩ := hf
    have L11 : ∀ (K11_40 : Md → Prop), (∀ (vd_11 : Md), K11_40 vd_11 → J g X 0 0 (MdW g d0 d1 d2 d3 d4 d5 d6 vd_11) [(0, .ref d0)] [] 40) → ∀ (N11 : Nat) (x1_11 : Int32) (vd_11 : Md), wp_X5_saves_L11 K11_40 N11 x1_11 vd_11 → J g X 0 0 (MdW g d0 d1 d2 d3 d4 d5 d6 vd_11) [(0, .ref d0), (1, .int x1_11)] [] 11 := by
      intro K11_40 hK11_40 N11
      induction N11 with
      | zero => intro x1_11 vd_11 hf; exact False.elim hf
      | succ N11 ih11 =>
        intro x1_11 vd_11 hf
        refine j_iload_n (pc' := 12) hX dX5_saves_11 rfl 1 rfl rfl ?_
        refine j_sipush (pc' := 15) (v := 1880) hX dX5_saves_12 (by decide) rfl ?_
        refine j_icmp_ge (tgt := 40) (pc' := 18) hX dX5_saves_15 (by decide) rfl hf (fun hf => ?_) (fun hf => ?_)
        · refine J_sub (lv' := [(0, .ref d0)]) [0] rfl ?_
          exact hK11_40 vd_11 hf
        · refine j_aload_n (pc' := 19) hX dX5_saves_18 rfl 0 rfl rfl ?_
          refine j_get (ci := 5) (pc' := 22) hX hin5 rfl 0 rfl 2 (by decide) hl_16 rfl dX5_saves_19 rfl ?_
          refine j_iload_n (pc' := 23) hX dX5_saves_22 rfl 1 rfl rfl ?_
          refine j_aload_n (pc' := 24) hX dX5_saves_23 rfl 0 rfl rfl ?_
          refine j_get (ci := 5) (pc' := 27) hX hin5 rfl 0 rfl 2 (by decide) hl_16 rfl dX5_saves_24 rfl ?_
          refine j_iload_n (pc' := 28) hX dX5_saves_27 rfl 1 rfl rfl ?_
          refine j_sipush (pc' := 31) (v := 376) hX dX5_saves_28 (by decide) rfl ?_
          refine j_iadd (pc' := 32) hX dX5_saves_31 rfl ?_
          refine j_iald (pc' := 33) hX 3 rfl dX5_saves_32 hf rfl (fun hf => ?_)
          obtain ⟨vd_1, evd_1⟩ : ∃ z : Md, z = md_past vd_11 (upd vd_11.2.2.1 x1_11.toNatClampNeg (vd_11.2.2.1 (x1_11 + 376).toNatClampNeg)) := ⟨_, rfl⟩
          refine j_iast (pc' := 34) (ws' := (MdW g d0 d1 d2 d3 d4 d5 d6 vd_1)) hX hW 3 rfl dX5_saves_33 hf (by subst evd_1; rfl) rfl (fun hf => ?_)
          replace hf := hf vd_1 evd_1
          refine j_iinc (pc' := 37) (cst := 1) (v := (x1_11 + 1)) (lv' := [(1, .int (x1_11 + 1)), (0, .ref d0)]) hX dX5_saves_34 (by decide) rfl 1 rfl (by decide) rfl rfl ?_
          refine j_goto (tgt := 11) hX dX5_saves_37 (by decide) ?_
          refine J_sub (lv' := [(0, .ref d0), (1, .int (x1_11 + 1))]) [1, 0] rfl ?_
          exact ih11 (x1_11 + 1) vd_1 hf
    refine J_sub (lv' := [(0, .ref d0), (1, .int 0)]) [1, 0] rfl ?_
    refine L11 _ (fun e2 hf => ?_) N11 0 vd hf
    refine j_aload_n (pc' := 41) hX dX5_saves_40 rfl 0 rfl rfl ?_
    refine j_dup (pc' := 42) hX dX5_saves_41 rfl rfl ?_
    refine j_get (ci := 5) (pc' := 45) hX hin5 rfl 0 rfl 3 (by decide) hl_36 rfl dX5_saves_42 rfl ?_
    refine j_iconst (pc' := 46) (v := 1) hX dX5_saves_45 (by decide) rfl ?_
    refine j_isub (pc' := 47) hX dX5_saves_46 rfl ?_
    obtain ⟨vd_3, evd_3⟩ : ∃ z : Md, z = md_kept e2 ((e2.2.2.2.2.2.2.1 - 1)) := ⟨_, rfl⟩
    refine j_put (ci := 5) (pc' := 50) (ws' := (MdW g d0 d1 d2 d3 d4 d5 d6 vd_3)) hX hW hin5 tyX5_ok nmX5 rfl 0 rfl 3 (by decide) hl_36 rfl rfl rfl (Nat.le_of_ble_eq_true rfl) dX5_saves_47 (by subst evd_3; rfl) rfl ?_
    replace hf := hf vd_3 evd_3
    refine j_iconst (pc' := 51) (v := 0) hX dX5_saves_50 (by decide) rfl ?_
    refine j_istore_n (pc' := 52) (lv' := [(1, .int 0), (0, .ref d0)]) hX dX5_saves_51 rfl (by decide) rfl rfl ?_
    obtain ⟨N52, hf⟩ := hf
    have L52 : ∀ (K52_86 : Md → Prop), (∀ (vd_52 : Md), K52_86 vd_52 → J g X 0 0 (MdW g d0 d1 d2 d3 d4 d5 d6 vd_52) [(0, .ref d0)] [] 86) → ∀ (N52 : Nat) (x1_52 : Int32) (vd_52 : Md), wp_X5_saves_L52 K52_86 N52 x1_52 vd_52 → J g X 0 0 (MdW g d0 d1 d2 d3 d4 d5 d6 vd_52) [(0, .ref d0), (1, .int x1_52)] [] 52 := by
      intro K52_86 hK52_86 N52
      induction N52 with
      | zero => intro x1_52 vd_52 hf; exact False.elim hf
      | succ N52 ih52 =>
        intro x1_52 vd_52 hf
        refine j_iload_n (pc' := 53) hX dX5_saves_52 rfl 1 rfl rfl ?_
        refine j_sipush (pc' := 56) (v := 376) hX dX5_saves_53 (by decide) rfl ?_
        refine j_icmp_ge (tgt := 86) (pc' := 59) hX dX5_saves_56 (by decide) rfl hf (fun hf => ?_) (fun hf => ?_)
        · refine J_sub (lv' := [(0, .ref d0)]) [0] rfl ?_
          exact hK52_86 vd_52 hf
        · refine j_aload_n (pc' := 60) hX dX5_saves_59 rfl 0 rfl rfl ?_
          refine j_get (ci := 5) (pc' := 63) hX hin5 rfl 0 rfl 2 (by decide) hl_16 rfl dX5_saves_60 rfl ?_
          refine j_sipush (pc' := 66) (v := 376) hX dX5_saves_63 (by decide) rfl ?_
          refine j_aload_n (pc' := 67) hX dX5_saves_66 rfl 0 rfl rfl ?_
          refine j_get (ci := 5) (pc' := 70) hX hin5 rfl 0 rfl 3 (by decide) hl_36 rfl dX5_saves_67 rfl ?_
          refine j_imul (pc' := 71) hX dX5_saves_70 rfl ?_
          refine j_iload_n (pc' := 72) hX dX5_saves_71 rfl 1 rfl rfl ?_
          refine j_iadd (pc' := 73) hX dX5_saves_72 rfl ?_
          refine j_aload_n (pc' := 74) hX dX5_saves_73 rfl 0 rfl rfl ?_
          refine j_get (ci := 5) (pc' := 77) hX hin5 rfl 0 rfl 0 (by decide) hl_7 rfl dX5_saves_74 rfl ?_
          refine j_iload_n (pc' := 78) hX dX5_saves_77 rfl 1 rfl rfl ?_
          refine j_iald (pc' := 79) hX 1 rfl dX5_saves_78 hf rfl (fun hf => ?_)
          obtain ⟨vd_4, evd_4⟩ : ∃ z : Md, z = md_past vd_52 (upd vd_52.2.2.1 ((376 * vd_52.2.2.2.2.2.2.1) + x1_52).toNatClampNeg (vd_52.1 x1_52.toNatClampNeg)) := ⟨_, rfl⟩
          refine j_iast (pc' := 80) (ws' := (MdW g d0 d1 d2 d3 d4 d5 d6 vd_4)) hX hW 3 rfl dX5_saves_79 hf (by subst evd_4; rfl) rfl (fun hf => ?_)
          replace hf := hf vd_4 evd_4
          refine j_iinc (pc' := 83) (cst := 1) (v := (x1_52 + 1)) (lv' := [(1, .int (x1_52 + 1)), (0, .ref d0)]) hX dX5_saves_80 (by decide) rfl 1 rfl (by decide) rfl rfl ?_
          refine j_goto (tgt := 52) hX dX5_saves_83 (by decide) ?_
          refine J_sub (lv' := [(0, .ref d0), (1, .int (x1_52 + 1))]) [1, 0] rfl ?_
          exact ih52 (x1_52 + 1) vd_4 hf
    refine J_sub (lv' := [(0, .ref d0), (1, .int 0)]) [1, 0] rfl ?_
    refine L52 _ (fun e5 hf => ?_) N52 0 vd_3 hf
    refine j_aload_n (pc' := 87) hX dX5_saves_86 rfl 0 rfl rfl ?_
    refine j_dup (pc' := 88) hX dX5_saves_87 rfl rfl ?_
    refine j_get (ci := 5) (pc' := 91) hX hin5 rfl 0 rfl 3 (by decide) hl_36 rfl dX5_saves_88 rfl ?_
    refine j_iconst (pc' := 92) (v := 1) hX dX5_saves_91 (by decide) rfl ?_
    refine j_iadd (pc' := 93) hX dX5_saves_92 rfl ?_
    obtain ⟨vd_6, evd_6⟩ : ∃ z : Md, z = md_kept e5 ((e5.2.2.2.2.2.2.1 + 1)) := ⟨_, rfl⟩
    refine j_put (ci := 5) (pc' := 96) (ws' := (MdW g d0 d1 d2 d3 d4 d5 d6 vd_6)) hX hW hin5 tyX5_ok nmX5 rfl 0 rfl 3 (by decide) hl_36 rfl rfl rfl (Nat.le_of_ble_eq_true rfl) dX5_saves_93 (by subst evd_6; rfl) rfl ?_
    replace hf := hf vd_6 evd_6
    exact j_vret hX hR dX5_saves_96 ⟨(), _, rfl, hf, rfl⟩
def wp_X5_undo_L30  (K30_64 : Md → Prop) : Nat → Int32 → Md → Prop
  | 0, _, _ => False
  | N30 + 1, x1_30, vd_30 =>
  ((376 ≤ x1_30 → K30_64 vd_30) ∧ (¬ 376 ≤ x1_30 → (vp_in ((376 * vd_30.2.2.2.2.2.2.1) + x1_30) 2256 ∧ (vp_in x1_30 376 ∧ (∀ vd_4 : Md, vd_4 = md_now vd_30 (upd vd_30.1 x1_30.toNatClampNeg (vd_30.2.2.1 ((376 * vd_30.2.2.2.2.2.2.1) + x1_30).toNatClampNeg)) → (wp_X5_undo_L30 K30_64 N30) (x1_30 + 1) vd_4)))))
def wp_X5_undo (vd : Md) (post : Int32 → Md → Prop) : Prop :=
  (∀ vd_1 : Md, vd_1 = md_thrown vd (0) → ((vd_1.2.2.2.2.2.2.1 = 0 → (wp_X5_fails vd_1 1 (fun r14 u14_2 => post r14 u14_2))) ∧ (¬ vd_1.2.2.2.2.2.2.1 = 0 → (∀ vd_3 : Md, vd_3 = md_kept vd_1 ((vd_1.2.2.2.2.2.2.1 - 1)) → (∃ N : Nat, wp_X5_undo_L30 (fun (e5 : Md) => post e5.2.2.2.2.2.2.1 e5) N 0 vd_3)))))
theorem yoX5_undo : yOk yX5_undo 0 := by decide +kernel
set_option maxHeartbeats 4000000 in
set_option maxRecDepth 100000 in
theorem met_X5_undo (l : Launch) (g : JG) (d0 : Nat) (d1 : Nat) (d2 : Nat) (d3 : Nat) (d4 : Nat) (d5 : Nat) (d6 : Nat) (vd : Md) (post : Int32 → Md → Prop) (hf : wp_X5_undo vd post) : MetM l yX5_undo wsX5_undo ({ frames := 1, cells := 0, slots := 0, locals := 21 } : Room) [.ref d0] g (MdW g d0 d1 d2 d3 d4 d5 d6 vd) mkI post (fun u : Md => (MdW g d0 d1 d2 d3 d4 d5 d6 u)) := by
  have hin5 : ∀ w ∈ u_ws RX5 TX5 12, w ∈ wsX5_undo := by decide +kernel
  have hl_28 : Cond.fieldLink RX5 28 (TX5 6).1 (TX5 6).2.1 (TX5 6).2.2.1 ∈ wsX5_undo := by decide +kernel
  have hl_36 : Cond.fieldLink RX5 36 (TX5 3).1 (TX5 3).2.1 (TX5 3).2.2.1 ∈ wsX5_undo := by decide +kernel
  have hl_7 : Cond.fieldLink RX5 7 (TX5 0).1 (TX5 0).2.1 (TX5 0).2.2.1 ∈ wsX5_undo := by decide +kernel
  have hl_16 : Cond.fieldLink RX5 16 (TX5 2).1 (TX5 2).2.1 (TX5 2).2.2.1 ∈ wsX5_undo := by decide +kernel
  refine enterM (own := RX5) (cc := cX5_undo) (nL := 2) (ret := (some .int)) (lv := [(0, .ref d0)]) (by decide) rfl rfl (Nat.le_of_ble_eq_true rfl) rfl (fun X hX hW hR => ?_)
  unfold wp_X5_undo at hf
  refine j_aload_n (pc' := 1) hX dX5_undo_0 rfl 0 rfl rfl ?_
  refine j_iconst (pc' := 2) (v := 0) hX dX5_undo_1 (by decide) rfl ?_
  obtain ⟨vd_1, evd_1⟩ : ∃ z : Md, z = md_thrown vd (0) := ⟨_, rfl⟩
  refine j_put (ci := 5) (pc' := 5) (ws' := (MdW g d0 d1 d2 d3 d4 d5 d6 vd_1)) hX hW hin5 tyX5_ok nmX5 rfl 0 rfl 6 (by decide) hl_28 rfl rfl rfl (Nat.le_of_ble_eq_true rfl) dX5_undo_2 (by subst evd_1; rfl) rfl ?_
  replace hf := hf vd_1 evd_1
  refine j_aload_n (pc' := 6) hX dX5_undo_5 rfl 0 rfl rfl ?_
  refine j_get (ci := 5) (pc' := 9) hX hin5 rfl 0 rfl 3 (by decide) hl_36 rfl dX5_undo_6 rfl ?_
  refine j_if_ne (tgt := 18) (pc' := 12) hX dX5_undo_9 (by decide) rfl hf (fun hf => ?_) (fun hf => ?_)
  · refine j_aload_n (pc' := 19) hX dX5_undo_18 rfl 0 rfl rfl ?_
    refine j_dup (pc' := 20) hX dX5_undo_19 rfl rfl ?_
    refine j_get (ci := 5) (pc' := 23) hX hin5 rfl 0 rfl 3 (by decide) hl_36 rfl dX5_undo_20 rfl ?_
    refine j_iconst (pc' := 24) (v := 1) hX dX5_undo_23 (by decide) rfl ?_
    refine j_isub (pc' := 25) hX dX5_undo_24 rfl ?_
    obtain ⟨vd_3, evd_3⟩ : ∃ z : Md, z = md_kept vd_1 ((vd_1.2.2.2.2.2.2.1 - 1)) := ⟨_, rfl⟩
    refine j_put (ci := 5) (pc' := 28) (ws' := (MdW g d0 d1 d2 d3 d4 d5 d6 vd_3)) hX hW hin5 tyX5_ok nmX5 rfl 0 rfl 3 (by decide) hl_36 rfl rfl rfl (Nat.le_of_ble_eq_true rfl) dX5_undo_25 (by subst evd_3; rfl) rfl ?_
    replace hf := hf vd_3 evd_3
    refine j_iconst (pc' := 29) (v := 0) hX dX5_undo_28 (by decide) rfl ?_
    refine j_istore_n (pc' := 30) (lv' := [(1, .int 0), (0, .ref d0)]) hX dX5_undo_29 rfl (by decide) rfl rfl ?_
    obtain ⟨N30, hf⟩ := hf
    have L30 : ∀ (K30_64 : Md → Prop), (∀ (vd_30 : Md), K30_64 vd_30 → J g X 0 0 (MdW g d0 d1 d2 d3 d4 d5 d6 vd_30) [(0, .ref d0)] [] 64) → ∀ (N30 : Nat) (x1_30 : Int32) (vd_30 : Md), wp_X5_undo_L30 K30_64 N30 x1_30 vd_30 → J g X 0 0 (MdW g d0 d1 d2 d3 d4 d5 d6 vd_30) [(0, .ref d0), (1, .int x1_30)] [] 30 := by
      intro K30_64 hK30_64 N30
      induction N30 with
      | zero => intro x1_30 vd_30 hf; exact False.elim hf
      | succ N30 ih30 =>
        intro x1_30 vd_30 hf
        refine j_iload_n (pc' := 31) hX dX5_undo_30 rfl 1 rfl rfl ?_
        refine j_sipush (pc' := 34) (v := 376) hX dX5_undo_31 (by decide) rfl ?_
        refine j_icmp_ge (tgt := 64) (pc' := 37) hX dX5_undo_34 (by decide) rfl hf (fun hf => ?_) (fun hf => ?_)
        · refine J_sub (lv' := [(0, .ref d0)]) [0] rfl ?_
          exact hK30_64 vd_30 hf
        · refine j_aload_n (pc' := 38) hX dX5_undo_37 rfl 0 rfl rfl ?_
          refine j_get (ci := 5) (pc' := 41) hX hin5 rfl 0 rfl 0 (by decide) hl_7 rfl dX5_undo_38 rfl ?_
          refine j_iload_n (pc' := 42) hX dX5_undo_41 rfl 1 rfl rfl ?_
          refine j_aload_n (pc' := 43) hX dX5_undo_42 rfl 0 rfl rfl ?_
          refine j_get (ci := 5) (pc' := 46) hX hin5 rfl 0 rfl 2 (by decide) hl_16 rfl dX5_undo_43 rfl ?_
          refine j_sipush (pc' := 49) (v := 376) hX dX5_undo_46 (by decide) rfl ?_
          refine j_aload_n (pc' := 50) hX dX5_undo_49 rfl 0 rfl rfl ?_
          refine j_get (ci := 5) (pc' := 53) hX hin5 rfl 0 rfl 3 (by decide) hl_36 rfl dX5_undo_50 rfl ?_
          refine j_imul (pc' := 54) hX dX5_undo_53 rfl ?_
          refine j_iload_n (pc' := 55) hX dX5_undo_54 rfl 1 rfl rfl ?_
          refine j_iadd (pc' := 56) hX dX5_undo_55 rfl ?_
          refine j_iald (pc' := 57) hX 3 rfl dX5_undo_56 hf rfl (fun hf => ?_)
          obtain ⟨vd_4, evd_4⟩ : ∃ z : Md, z = md_now vd_30 (upd vd_30.1 x1_30.toNatClampNeg (vd_30.2.2.1 ((376 * vd_30.2.2.2.2.2.2.1) + x1_30).toNatClampNeg)) := ⟨_, rfl⟩
          refine j_iast (pc' := 58) (ws' := (MdW g d0 d1 d2 d3 d4 d5 d6 vd_4)) hX hW 1 rfl dX5_undo_57 hf (by subst evd_4; rfl) rfl (fun hf => ?_)
          replace hf := hf vd_4 evd_4
          refine j_iinc (pc' := 61) (cst := 1) (v := (x1_30 + 1)) (lv' := [(1, .int (x1_30 + 1)), (0, .ref d0)]) hX dX5_undo_58 (by decide) rfl 1 rfl (by decide) rfl rfl ?_
          refine j_goto (tgt := 30) hX dX5_undo_61 (by decide) ?_
          refine J_sub (lv' := [(0, .ref d0), (1, .int (x1_30 + 1))]) [1, 0] rfl ?_
          exact ih30 (x1_30 + 1) vd_4 hf
    refine J_sub (lv' := [(0, .ref d0), (1, .int 0)]) [1, 0] rfl ?_
    refine L30 _ (fun e5 hf => ?_) N30 0 vd_3 hf
    refine j_aload_n (pc' := 65) hX dX5_undo_64 rfl 0 rfl rfl ?_
    refine j_get (ci := 5) (pc' := 68) hX hin5 rfl 0 rfl 3 (by decide) hl_36 rfl dX5_undo_65 rfl ?_
    exact j_iret hX hR dX5_undo_68 ⟨_, _, rfl, hf, rfl⟩
  · refine j_aload_n (pc' := 13) hX dX5_undo_12 rfl 0 rfl rfl ?_
    refine j_iconst (pc' := 14) (v := 1) hX dX5_undo_13 (by decide) rfl ?_
    refine j_callVM (ci := 5) (pc' := 17) (k' := 0) (n' := 0) (As := [.int 1]) (rest := []) (stk := fun r14 => [.int r14]) (ws' := fun u14_2 => (MdW g d0 d1 d2 d3 d4 d5 d6 u14_2)) (wr := ([] : va_W)) hX hW (fun l => met_X5_fails l g d0 d1 d2 d3 d4 d5 d6 vd_1 1 _ hf) rfl gX5_undo_X5_fails yoX5_fails rfl ⟨Nat.le_of_ble_eq_true rfl, Nat.le_of_ble_eq_true rfl⟩ ⟨Nat.le_of_ble_eq_true rfl, Nat.le_of_ble_eq_true rfl, Nat.le_of_ble_eq_true rfl, Nat.le_of_ble_eq_true rfl⟩ 0 rfl rfl [0, 1, 2, 3, 4, 5, 6] [] [0, 1, 2, 3, 4, 5, 6] rfl (by decide) rfl (by decide) (by decide) (fun _ => rfl) (by decide) (Nat.le_of_ble_eq_true rfl) rfl (fun _ => rfl) dX5_undo_14 rfl (fun r14 u14_2 hf => ?_)
    exact j_iret hX hR dX5_undo_17 ⟨_, _, rfl, hf, rfl⟩
def wp_X5_tries_L2  (K2_27 : Md → Prop) : Nat → Int32 → Md → Prop
  | 0, _, _ => False
  | N2 + 1, x1_2, vd_2 =>
  ((376 ≤ x1_2 → K2_27 vd_2) ∧ (¬ 376 ≤ x1_2 → (vp_in x1_2 376 ∧ (vp_in x1_2 376 ∧ (∀ vd_1 : Md, vd_1 = md_then vd_2 (upd vd_2.2.1 x1_2.toNatClampNeg (vd_2.1 x1_2.toNatClampNeg)) → (wp_X5_tries_L2 K2_27 N2) (x1_2 + 1) vd_1)))))
def wp_X5_tries (vd : Md) (post : Md → Prop) : Prop :=
  (∃ N : Nat, wp_X5_tries_L2 (fun (e2 : Md) => post e2) N 0 vd)
theorem yoX5_tries : yOk yX5_tries 0 := by decide +kernel
set_option maxHeartbeats 4000000 in
set_option maxRecDepth 100000 in
theorem met_X5_tries (l : Launch) (g : JG) (d0 : Nat) (d1 : Nat) (d2 : Nat) (d3 : Nat) (d4 : Nat) (d5 : Nat) (d6 : Nat) (vd : Md) (post : Md → Prop) (hf : wp_X5_tries vd post) : MetM l yX5_tries wsX5_tries ({ frames := 0, cells := 0, slots := 0, locals := 0 } : Room) [.ref d0] g (MdW g d0 d1 d2 d3 d4 d5 d6 vd) mkV (fun (_ : Unit) (u : Md) => post u) (fun u : Md => (MdW g d0 d1 d2 d3 d4 d5 d6 u)) := by
  have hin5 : ∀ w ∈ u_ws RX5 TX5 12, w ∈ wsX5_tries := by decide +kernel
  have hl_13 : Cond.fieldLink RX5 13 (TX5 1).1 (TX5 1).2.1 (TX5 1).2.2.1 ∈ wsX5_tries := by decide +kernel
  have hl_7 : Cond.fieldLink RX5 7 (TX5 0).1 (TX5 0).2.1 (TX5 0).2.2.1 ∈ wsX5_tries := by decide +kernel
  refine enterM (own := RX5) (cc := cX5_tries) (nL := 2) (ret := none) (lv := [(0, .ref d0)]) (by decide) rfl rfl (Nat.le_of_ble_eq_true rfl) rfl (fun X hX hW hR => ?_)
  unfold wp_X5_tries at hf
  refine j_iconst (pc' := 1) (v := 0) hX dX5_tries_0 (by decide) rfl ?_
  refine j_istore_n (pc' := 2) (lv' := [(1, .int 0), (0, .ref d0)]) hX dX5_tries_1 rfl (by decide) rfl rfl ?_
  obtain ⟨N2, hf⟩ := hf
  have L2 : ∀ (K2_27 : Md → Prop), (∀ (vd_2 : Md), K2_27 vd_2 → J g X 0 0 (MdW g d0 d1 d2 d3 d4 d5 d6 vd_2) [] [] 27) → ∀ (N2 : Nat) (x1_2 : Int32) (vd_2 : Md), wp_X5_tries_L2 K2_27 N2 x1_2 vd_2 → J g X 0 0 (MdW g d0 d1 d2 d3 d4 d5 d6 vd_2) [(0, .ref d0), (1, .int x1_2)] [] 2 := by
    intro K2_27 hK2_27 N2
    induction N2 with
    | zero => intro x1_2 vd_2 hf; exact False.elim hf
    | succ N2 ih2 =>
      intro x1_2 vd_2 hf
      refine j_iload_n (pc' := 3) hX dX5_tries_2 rfl 1 rfl rfl ?_
      refine j_sipush (pc' := 6) (v := 376) hX dX5_tries_3 (by decide) rfl ?_
      refine j_icmp_ge (tgt := 27) (pc' := 9) hX dX5_tries_6 (by decide) rfl hf (fun hf => ?_) (fun hf => ?_)
      · refine J_sub (lv' := []) [] rfl ?_
        exact hK2_27 vd_2 hf
      · refine j_aload_n (pc' := 10) hX dX5_tries_9 rfl 0 rfl rfl ?_
        refine j_get (ci := 5) (pc' := 13) hX hin5 rfl 0 rfl 1 (by decide) hl_13 rfl dX5_tries_10 rfl ?_
        refine j_iload_n (pc' := 14) hX dX5_tries_13 rfl 1 rfl rfl ?_
        refine j_aload_n (pc' := 15) hX dX5_tries_14 rfl 0 rfl rfl ?_
        refine j_get (ci := 5) (pc' := 18) hX hin5 rfl 0 rfl 0 (by decide) hl_7 rfl dX5_tries_15 rfl ?_
        refine j_iload_n (pc' := 19) hX dX5_tries_18 rfl 1 rfl rfl ?_
        refine j_iald (pc' := 20) hX 1 rfl dX5_tries_19 hf rfl (fun hf => ?_)
        obtain ⟨vd_1, evd_1⟩ : ∃ z : Md, z = md_then vd_2 (upd vd_2.2.1 x1_2.toNatClampNeg (vd_2.1 x1_2.toNatClampNeg)) := ⟨_, rfl⟩
        refine j_iast (pc' := 21) (ws' := (MdW g d0 d1 d2 d3 d4 d5 d6 vd_1)) hX hW 2 rfl dX5_tries_20 hf (by subst evd_1; rfl) rfl (fun hf => ?_)
        replace hf := hf vd_1 evd_1
        refine j_iinc (pc' := 24) (cst := 1) (v := (x1_2 + 1)) (lv' := [(1, .int (x1_2 + 1)), (0, .ref d0)]) hX dX5_tries_21 (by decide) rfl 1 rfl (by decide) rfl rfl ?_
        refine j_goto (tgt := 2) hX dX5_tries_24 (by decide) ?_
        refine J_sub (lv' := [(0, .ref d0), (1, .int (x1_2 + 1))]) [1, 0] rfl ?_
        exact ih2 (x1_2 + 1) vd_1 hf
  refine J_sub (lv' := [(0, .ref d0), (1, .int 0)]) [1, 0] rfl ?_
  refine L2 _ (fun e2 hf => ?_) N2 0 vd hf
  exact j_vret hX hR dX5_tries_27 ⟨(), _, rfl, hf, rfl⟩
def wp_X5_stock (vd : Md) (p0 : Int32) (p1 : Int32) (post : Int32 → Md → Prop) : Prop :=
  (∀ vd_1 : Md, vd_1 = md_thrown vd (0) → (wp_X5_isSize p0 (fun r6 => ((r6 = 0 → (wp_X5_fails vd_1 1 (fun r24 u24_2 => post r24 u24_2))) ∧ (¬ r6 = 0 → (wp_X5_in p1 0 99 (fun r16 => ((r16 = 0 → (wp_X5_fails vd_1 1 (fun r24 u24_3 => post r24 u24_3))) ∧ (¬ r16 = 0 → (wp_X5_saves vd_1 (fun u29_4 => (vp_in (3 + p0) 376 ∧ (vp_in (3 + p0) 376 ∧ (∀ vd_5 : Md, vd_5 = md_now u29_4 (upd u29_4.1 (3 + p0).toNatClampNeg p1) → post (u29_4.1 (3 + p0).toNatClampNeg) vd_5))))))))))))))
theorem yoX5_stock : yOk yX5_stock 2 := by decide +kernel
set_option maxHeartbeats 4000000 in
set_option maxRecDepth 100000 in
theorem met_X5_stock (l : Launch) (g : JG) (d0 : Nat) (d1 : Nat) (d2 : Nat) (d3 : Nat) (d4 : Nat) (d5 : Nat) (d6 : Nat) (vd : Md) (p0 : Int32) (p1 : Int32) (post : Int32 → Md → Prop) (hf : wp_X5_stock vd p0 p1 post) : MetM l yX5_stock wsX5_stock ({ frames := 2, cells := 0, slots := 0, locals := 42 } : Room) [.ref d0, .int p0, .int p1] g (MdW g d0 d1 d2 d3 d4 d5 d6 vd) mkI post (fun u : Md => (MdW g d0 d1 d2 d3 d4 d5 d6 u)) := by
  have hin5 : ∀ w ∈ u_ws RX5 TX5 12, w ∈ wsX5_stock := by decide +kernel
  have hl_28 : Cond.fieldLink RX5 28 (TX5 6).1 (TX5 6).2.1 (TX5 6).2.2.1 ∈ wsX5_stock := by decide +kernel
  have hl_7 : Cond.fieldLink RX5 7 (TX5 0).1 (TX5 0).2.1 (TX5 0).2.2.1 ∈ wsX5_stock := by decide +kernel
  refine enterM (own := RX5) (cc := cX5_stock) (nL := 4) (ret := (some .int)) (lv := [(0, .ref d0), (1, .int p0), (2, .int p1)]) (by decide) rfl rfl (Nat.le_of_ble_eq_true rfl) rfl (fun X hX hW hR => ?_)
  unfold wp_X5_stock at hf
  refine j_aload_n (pc' := 1) hX dX5_stock_0 rfl 0 rfl rfl ?_
  refine j_iconst (pc' := 2) (v := 0) hX dX5_stock_1 (by decide) rfl ?_
  obtain ⟨vd_1, evd_1⟩ : ∃ z : Md, z = md_thrown vd (0) := ⟨_, rfl⟩
  refine j_put (ci := 5) (pc' := 5) (ws' := (MdW g d0 d1 d2 d3 d4 d5 d6 vd_1)) hX hW hin5 tyX5_ok nmX5 rfl 0 rfl 6 (by decide) hl_28 rfl rfl rfl (Nat.le_of_ble_eq_true rfl) dX5_stock_2 (by subst evd_1; rfl) rfl ?_
  replace hf := hf vd_1 evd_1
  refine j_iload_n (pc' := 6) hX dX5_stock_5 rfl 1 rfl rfl ?_
  refine j_callSR (pc' := 9) (As := [.int p0]) (rest := []) (stk := fun r6 => [.int r6]) hX (fun l => met_X5_isSize l g p0 _ hf) rfl gX5_stock_X5_isSize yoX5_isSize rfl ⟨Nat.le_of_ble_eq_true rfl, Nat.le_of_ble_eq_true rfl⟩ ⟨⟨Nat.le_of_ble_eq_true rfl, Nat.le_of_ble_eq_true rfl⟩, rfl, rfl⟩ [] rfl (by decide) (Nat.le_of_ble_eq_true rfl) rfl (fun _ => rfl) dX5_stock_6 rfl (fun r6 hf => ?_)
  refine j_if_eq (tgt := 22) (pc' := 12) hX dX5_stock_9 (by decide) rfl hf (fun hf => ?_) (fun hf => ?_)
  · refine j_aload_n (pc' := 23) hX dX5_stock_22 rfl 0 rfl rfl ?_
    refine j_iconst (pc' := 24) (v := 1) hX dX5_stock_23 (by decide) rfl ?_
    refine j_callVM (ci := 5) (pc' := 27) (k' := 0) (n' := 0) (As := [.int 1]) (rest := []) (stk := fun r24 => [.int r24]) (ws' := fun u24_2 => (MdW g d0 d1 d2 d3 d4 d5 d6 u24_2)) (wr := ([] : va_W)) hX hW (fun l => met_X5_fails l g d0 d1 d2 d3 d4 d5 d6 vd_1 1 _ hf) rfl gX5_stock_X5_fails yoX5_fails rfl ⟨Nat.le_of_ble_eq_true rfl, Nat.le_of_ble_eq_true rfl⟩ ⟨Nat.le_of_ble_eq_true rfl, Nat.le_of_ble_eq_true rfl, Nat.le_of_ble_eq_true rfl, Nat.le_of_ble_eq_true rfl⟩ 0 rfl rfl [0, 1, 2, 3, 4, 5, 6] [] [0, 1, 2, 3, 4, 5, 6] rfl (by decide) rfl (by decide) (by decide) (fun _ => rfl) (by decide) (Nat.le_of_ble_eq_true rfl) rfl (fun _ => rfl) dX5_stock_24 rfl (fun r24 u24_2 hf => ?_)
    exact j_iret hX hR dX5_stock_27 ⟨_, _, rfl, hf, rfl⟩
  · refine j_iload_n (pc' := 13) hX dX5_stock_12 rfl 2 rfl rfl ?_
    refine j_iconst (pc' := 14) (v := 0) hX dX5_stock_13 (by decide) rfl ?_
    refine j_bipush (pc' := 16) (v := 99) hX dX5_stock_14 (by decide) rfl ?_
    refine j_callSR (pc' := 19) (As := [.int p1, .int 0, .int 99]) (rest := []) (stk := fun r16 => [.int r16]) hX (fun l => met_X5_in l g p1 0 99 _ hf) rfl gX5_stock_X5_in yoX5_in rfl ⟨Nat.le_of_ble_eq_true rfl, Nat.le_of_ble_eq_true rfl⟩ ⟨⟨Nat.le_of_ble_eq_true rfl, Nat.le_of_ble_eq_true rfl⟩, rfl, rfl⟩ [] rfl (by decide) (Nat.le_of_ble_eq_true rfl) rfl (fun _ => rfl) dX5_stock_16 rfl (fun r16 hf => ?_)
    refine j_if_ne (tgt := 28) (pc' := 22) hX dX5_stock_19 (by decide) rfl hf (fun hf => ?_) (fun hf => ?_)
    · refine j_aload_n (pc' := 29) hX dX5_stock_28 rfl 0 rfl rfl ?_
      refine j_callVM (ci := 5) (pc' := 32) (k' := 0) (n' := 0) (As := []) (rest := []) (stk := fun _ => []) (ws' := fun u29_4 => (MdW g d0 d1 d2 d3 d4 d5 d6 u29_4)) (wr := ([] : va_W)) hX hW (fun l => met_X5_saves l g d0 d1 d2 d3 d4 d5 d6 vd_1 _ hf) rfl gX5_stock_X5_saves yoX5_saves rfl ⟨Nat.le_of_ble_eq_true rfl, Nat.le_of_ble_eq_true rfl⟩ ⟨Nat.le_of_ble_eq_true rfl, Nat.le_of_ble_eq_true rfl, Nat.le_of_ble_eq_true rfl, Nat.le_of_ble_eq_true rfl⟩ 0 rfl rfl [0, 1, 2, 3, 4, 5, 6] [] [0, 1, 2, 3, 4, 5, 6] rfl (by decide) rfl (by decide) (by decide) (fun _ => rfl) (by decide) (Nat.le_of_ble_eq_true rfl) rfl (fun _ => rfl) dX5_stock_29 rfl (fun _ u29_4 hf => ?_)
      refine j_aload_n (pc' := 33) hX dX5_stock_32 rfl 0 rfl rfl ?_
      refine j_get (ci := 5) (pc' := 36) hX hin5 rfl 0 rfl 0 (by decide) hl_7 rfl dX5_stock_33 rfl ?_
      refine j_iconst (pc' := 37) (v := 3) hX dX5_stock_36 (by decide) rfl ?_
      refine j_iload_n (pc' := 38) hX dX5_stock_37 rfl 1 rfl rfl ?_
      refine j_iadd (pc' := 39) hX dX5_stock_38 rfl ?_
      refine j_iald (pc' := 40) hX 1 rfl dX5_stock_39 hf rfl (fun hf => ?_)
      refine j_istore_n (pc' := 41) (lv' := [(3, .int (u29_4.1 (3 + p0).toNatClampNeg)), (0, .ref d0), (1, .int p0), (2, .int p1)]) hX dX5_stock_40 rfl (by decide) rfl rfl ?_
      refine j_aload_n (pc' := 42) hX dX5_stock_41 rfl 1 rfl rfl ?_
      refine j_get (ci := 5) (pc' := 45) hX hin5 rfl 0 rfl 0 (by decide) hl_7 rfl dX5_stock_42 rfl ?_
      refine j_iconst (pc' := 46) (v := 3) hX dX5_stock_45 (by decide) rfl ?_
      refine j_iload_n (pc' := 47) hX dX5_stock_46 rfl 2 rfl rfl ?_
      refine j_iadd (pc' := 48) hX dX5_stock_47 rfl ?_
      refine j_iload_n (pc' := 49) hX dX5_stock_48 rfl 3 rfl rfl ?_
      obtain ⟨vd_5, evd_5⟩ : ∃ z : Md, z = md_now u29_4 (upd u29_4.1 (3 + p0).toNatClampNeg p1) := ⟨_, rfl⟩
      refine j_iast (pc' := 50) (ws' := (MdW g d0 d1 d2 d3 d4 d5 d6 vd_5)) hX hW 1 rfl dX5_stock_49 hf (by subst evd_5; rfl) rfl (fun hf => ?_)
      replace hf := hf vd_5 evd_5
      refine j_iload_n (pc' := 51) hX dX5_stock_50 rfl 0 rfl rfl ?_
      exact j_iret hX hR dX5_stock_51 ⟨_, _, rfl, hf, rfl⟩
    · refine j_aload_n (pc' := 23) hX dX5_stock_22 rfl 0 rfl rfl ?_
      refine j_iconst (pc' := 24) (v := 1) hX dX5_stock_23 (by decide) rfl ?_
      refine j_callVM (ci := 5) (pc' := 27) (k' := 0) (n' := 0) (As := [.int 1]) (rest := []) (stk := fun r24 => [.int r24]) (ws' := fun u24_3 => (MdW g d0 d1 d2 d3 d4 d5 d6 u24_3)) (wr := ([] : va_W)) hX hW (fun l => met_X5_fails l g d0 d1 d2 d3 d4 d5 d6 vd_1 1 _ hf) rfl gX5_stock_X5_fails yoX5_fails rfl ⟨Nat.le_of_ble_eq_true rfl, Nat.le_of_ble_eq_true rfl⟩ ⟨Nat.le_of_ble_eq_true rfl, Nat.le_of_ble_eq_true rfl, Nat.le_of_ble_eq_true rfl, Nat.le_of_ble_eq_true rfl⟩ 0 rfl rfl [0, 1, 2, 3, 4, 5, 6] [] [0, 1, 2, 3, 4, 5, 6] rfl (by decide) rfl (by decide) (by decide) (fun _ => rfl) (by decide) (Nat.le_of_ble_eq_true rfl) rfl (fun _ => rfl) dX5_stock_24 rfl (fun r24 u24_3 hf => ?_)
      exact j_iret hX hR dX5_stock_27 ⟨_, _, rfl, hf, rfl⟩
def wp_X5_may (vd : Md) (p0 : Int32) (p1 : Int32) (p2 : Int32) (post : Int32 → Prop) : Prop :=
  (wp_X5_isCourse p0 (fun r1 => ((r1 = 0 → post 1) ∧ (¬ r1 = 0 → (wp_X5_isSize p1 (fun r12 => ((r12 = 0 → post 2) ∧ (¬ r12 = 0 → (wp_X5_refused vd.1 p0 p1 p2 (fun r29 => ((r29 = 0 → post 0) ∧ (¬ r29 = 0 → post 3))))))))))))
theorem yoX5_may : yOk yX5_may 3 := by decide +kernel
set_option maxHeartbeats 4000000 in
set_option maxRecDepth 100000 in
theorem met_X5_may (l : Launch) (g : JG) (d0 : Nat) (d1 : Nat) (d2 : Nat) (d3 : Nat) (d4 : Nat) (d5 : Nat) (d6 : Nat) (vd : Md) (p0 : Int32) (p1 : Int32) (p2 : Int32) (post : Int32 → Prop) (hf : wp_X5_may vd p0 p1 p2 post) : MetR l yX5_may wsX5_may ({ frames := 4, cells := 0, slots := 0, locals := 93 } : Room) [.ref d0, .int p0, .int p1, .int p2] g (MdW g d0 d1 d2 d3 d4 d5 d6 vd) mkI post := by
  have hin5 : ∀ w ∈ u_ws RX5 TX5 12, w ∈ wsX5_may := by decide +kernel
  have hl_7 : Cond.fieldLink RX5 7 (TX5 0).1 (TX5 0).2.1 (TX5 0).2.2.1 ∈ wsX5_may := by decide +kernel
  refine enterR (own := RX5) (cc := cX5_may) (nL := 4) (ret := (some .int)) (lv := [(0, .ref d0), (1, .int p0), (2, .int p1), (3, .int p2)]) (by decide) rfl rfl (Nat.le_of_ble_eq_true rfl) rfl (fun X hX hR => ?_)
  unfold wp_X5_may at hf
  refine j_iload_n (pc' := 1) hX dX5_may_0 rfl 1 rfl rfl ?_
  refine j_callSR (pc' := 4) (As := [.int p0]) (rest := []) (stk := fun r1 => [.int r1]) hX (fun l => met_X5_isCourse l g p0 _ hf) rfl gX5_may_X5_isCourse yoX5_isCourse rfl ⟨Nat.le_of_ble_eq_true rfl, Nat.le_of_ble_eq_true rfl⟩ ⟨⟨Nat.le_of_ble_eq_true rfl, Nat.le_of_ble_eq_true rfl⟩, rfl, rfl⟩ [] rfl (by decide) (Nat.le_of_ble_eq_true rfl) rfl (fun _ => rfl) dX5_may_1 rfl (fun r1 hf => ?_)
  refine j_if_ne (tgt := 11) (pc' := 7) hX dX5_may_4 (by decide) rfl hf (fun hf => ?_) (fun hf => ?_)
  · refine j_iload_n (pc' := 12) hX dX5_may_11 rfl 2 rfl rfl ?_
    refine j_callSR (pc' := 15) (As := [.int p1]) (rest := []) (stk := fun r12 => [.int r12]) hX (fun l => met_X5_isSize l g p1 _ hf) rfl gX5_may_X5_isSize yoX5_isSize rfl ⟨Nat.le_of_ble_eq_true rfl, Nat.le_of_ble_eq_true rfl⟩ ⟨⟨Nat.le_of_ble_eq_true rfl, Nat.le_of_ble_eq_true rfl⟩, rfl, rfl⟩ [] rfl (by decide) (Nat.le_of_ble_eq_true rfl) rfl (fun _ => rfl) dX5_may_12 rfl (fun r12 hf => ?_)
    refine j_if_ne (tgt := 22) (pc' := 18) hX dX5_may_15 (by decide) rfl hf (fun hf => ?_) (fun hf => ?_)
    · refine j_aload_n (pc' := 23) hX dX5_may_22 rfl 0 rfl rfl ?_
      refine j_get (ci := 5) (pc' := 26) hX hin5 rfl 0 rfl 0 (by decide) hl_7 rfl dX5_may_23 rfl ?_
      refine j_iload_n (pc' := 27) hX dX5_may_26 rfl 1 rfl rfl ?_
      refine j_iload_n (pc' := 28) hX dX5_may_27 rfl 2 rfl rfl ?_
      refine j_iload_n (pc' := 29) hX dX5_may_28 rfl 3 rfl rfl ?_
      refine j_callSR (pc' := 32) (As := [.ref d1, .int p0, .int p1, .int p2]) (rest := []) (stk := fun r29 => [.int r29]) hX (fun l => met_X5_refused l g d1 vd.1 p0 p1 p2 _ hf) rfl gX5_may_X5_refused yoX5_refused rfl ⟨Nat.le_of_ble_eq_true rfl, Nat.le_of_ble_eq_true rfl⟩ ⟨⟨Nat.le_of_ble_eq_true rfl, Nat.le_of_ble_eq_true rfl⟩, rfl, rfl⟩ [1] rfl (by decide) (Nat.le_of_ble_eq_true rfl) rfl (fun _ => rfl) dX5_may_29 rfl (fun r29 hf => ?_)
      refine j_if_ne (tgt := 39) (pc' := 35) hX dX5_may_32 (by decide) rfl hf (fun hf => ?_) (fun hf => ?_)
      · refine j_iconst (pc' := 40) (v := 3) hX dX5_may_39 (by decide) rfl ?_
        exact j_iret hX hR dX5_may_40 ⟨_, rfl, hf⟩
      · refine j_iconst (pc' := 36) (v := 0) hX dX5_may_35 (by decide) rfl ?_
        refine j_goto (tgt := 40) hX dX5_may_36 (by decide) ?_
        exact j_iret hX hR dX5_may_40 ⟨_, rfl, hf⟩
    · refine j_iconst (pc' := 19) (v := 2) hX dX5_may_18 (by decide) rfl ?_
      refine j_goto (tgt := 40) hX dX5_may_19 (by decide) ?_
      exact j_iret hX hR dX5_may_40 ⟨_, rfl, hf⟩
  · refine j_iconst (pc' := 8) (v := 1) hX dX5_may_7 (by decide) rfl ?_
    refine j_goto (tgt := 40) hX dX5_may_8 (by decide) ?_
    exact j_iret hX hR dX5_may_40 ⟨_, rfl, hf⟩
def wp_X5_lay (vd : Md) (p0 : Int32) (p1 : Int32) (post : Int32 → Md → Prop) : Prop :=
  (wp_X5_may vd p0 p1 0 (fun r5 => (∀ vd_1 : Md, vd_1 = md_thrown vd (r5) → ((vd_1.2.2.2.2.2.2.2.2.1 = 0 → (wp_X5_saves vd_1 (fun u21_2 => (wp_X5_taken u21_2.1 p0 (fun r29 => (wp_X5_lays u21_2.1 p0 p1 0 (fun r40 u40_3 => post r29 (md_now u21_2 (u40_3))))))))) ∧ (¬ vd_1.2.2.2.2.2.2.2.2.1 = 0 → post 0 vd_1)))))
theorem yoX5_lay : yOk yX5_lay 2 := by decide +kernel
set_option maxHeartbeats 4000000 in
set_option maxRecDepth 100000 in
theorem met_X5_lay (l : Launch) (g : JG) (d0 : Nat) (d1 : Nat) (d2 : Nat) (d3 : Nat) (d4 : Nat) (d5 : Nat) (d6 : Nat) (vd : Md) (p0 : Int32) (p1 : Int32) (post : Int32 → Md → Prop) (hf : wp_X5_lay vd p0 p1 post) : MetM l yX5_lay wsX5_lay ({ frames := 5, cells := 0, slots := 0, locals := 116 } : Room) [.ref d0, .int p0, .int p1] g (MdW g d0 d1 d2 d3 d4 d5 d6 vd) mkI post (fun u : Md => (MdW g d0 d1 d2 d3 d4 d5 d6 u)) := by
  have hin5 : ∀ w ∈ u_ws RX5 TX5 12, w ∈ wsX5_lay := by decide +kernel
  have hl_28 : Cond.fieldLink RX5 28 (TX5 6).1 (TX5 6).2.1 (TX5 6).2.2.1 ∈ wsX5_lay := by decide +kernel
  have hl_7 : Cond.fieldLink RX5 7 (TX5 0).1 (TX5 0).2.1 (TX5 0).2.2.1 ∈ wsX5_lay := by decide +kernel
  refine enterM (own := RX5) (cc := cX5_lay) (nL := 4) (ret := (some .int)) (lv := [(0, .ref d0), (1, .int p0), (2, .int p1)]) (by decide) rfl rfl (Nat.le_of_ble_eq_true rfl) rfl (fun X hX hW hR => ?_)
  unfold wp_X5_lay at hf
  refine j_aload_n (pc' := 1) hX dX5_lay_0 rfl 0 rfl rfl ?_
  refine j_aload_n (pc' := 2) hX dX5_lay_1 rfl 0 rfl rfl ?_
  refine j_iload_n (pc' := 3) hX dX5_lay_2 rfl 1 rfl rfl ?_
  refine j_iload_n (pc' := 4) hX dX5_lay_3 rfl 2 rfl rfl ?_
  refine j_iconst (pc' := 5) (v := 0) hX dX5_lay_4 (by decide) rfl ?_
  refine j_callVR (ci := 5) (pc' := 8) (As := [.int p0, .int p1, .int 0]) (rest := [.ref d0]) (stk := fun r5 => [.int r5, .ref d0]) hX (fun l => met_X5_may l g d0 d1 d2 d3 d4 d5 d6 vd p0 p1 0 _ hf) rfl gX5_lay_X5_may yoX5_may rfl ⟨Nat.le_of_ble_eq_true rfl, Nat.le_of_ble_eq_true rfl⟩ ⟨⟨Nat.le_of_ble_eq_true rfl, Nat.le_of_ble_eq_true rfl⟩, rfl, rfl⟩ 0 rfl rfl [0, 1, 2, 3, 4, 5, 6] rfl (by decide) (Nat.le_of_ble_eq_true rfl) rfl (fun _ => rfl) dX5_lay_5 rfl (fun r5 hf => ?_)
  obtain ⟨vd_1, evd_1⟩ : ∃ z : Md, z = md_thrown vd (r5) := ⟨_, rfl⟩
  refine j_put (ci := 5) (pc' := 11) (ws' := (MdW g d0 d1 d2 d3 d4 d5 d6 vd_1)) hX hW hin5 tyX5_ok nmX5 rfl 0 rfl 6 (by decide) hl_28 rfl rfl rfl (Nat.le_of_ble_eq_true rfl) dX5_lay_8 (by subst evd_1; rfl) rfl ?_
  replace hf := hf vd_1 evd_1
  refine j_aload_n (pc' := 12) hX dX5_lay_11 rfl 0 rfl rfl ?_
  refine j_get (ci := 5) (pc' := 15) hX hin5 rfl 0 rfl 6 (by decide) hl_28 rfl dX5_lay_12 rfl ?_
  refine j_if_eq (tgt := 20) (pc' := 18) hX dX5_lay_15 (by decide) rfl hf (fun hf => ?_) (fun hf => ?_)
  · refine j_aload_n (pc' := 21) hX dX5_lay_20 rfl 0 rfl rfl ?_
    refine j_callVM (ci := 5) (pc' := 24) (k' := 0) (n' := 0) (As := []) (rest := []) (stk := fun _ => []) (ws' := fun u21_2 => (MdW g d0 d1 d2 d3 d4 d5 d6 u21_2)) (wr := ([] : va_W)) hX hW (fun l => met_X5_saves l g d0 d1 d2 d3 d4 d5 d6 vd_1 _ hf) rfl gX5_lay_X5_saves yoX5_saves rfl ⟨Nat.le_of_ble_eq_true rfl, Nat.le_of_ble_eq_true rfl⟩ ⟨Nat.le_of_ble_eq_true rfl, Nat.le_of_ble_eq_true rfl, Nat.le_of_ble_eq_true rfl, Nat.le_of_ble_eq_true rfl⟩ 0 rfl rfl [0, 1, 2, 3, 4, 5, 6] [] [0, 1, 2, 3, 4, 5, 6] rfl (by decide) rfl (by decide) (by decide) (fun _ => rfl) (by decide) (Nat.le_of_ble_eq_true rfl) rfl (fun _ => rfl) dX5_lay_21 rfl (fun _ u21_2 hf => ?_)
    refine j_aload_n (pc' := 25) hX dX5_lay_24 rfl 0 rfl rfl ?_
    refine j_get (ci := 5) (pc' := 28) hX hin5 rfl 0 rfl 0 (by decide) hl_7 rfl dX5_lay_25 rfl ?_
    refine j_iload_n (pc' := 29) hX dX5_lay_28 rfl 1 rfl rfl ?_
    refine j_callSR (pc' := 32) (As := [.ref d1, .int p0]) (rest := []) (stk := fun r29 => [.int r29]) hX (fun l => met_X5_taken l g d1 u21_2.1 p0 _ hf) rfl gX5_lay_X5_taken yoX5_taken rfl ⟨Nat.le_of_ble_eq_true rfl, Nat.le_of_ble_eq_true rfl⟩ ⟨⟨Nat.le_of_ble_eq_true rfl, Nat.le_of_ble_eq_true rfl⟩, rfl, rfl⟩ [1] rfl (by decide) (Nat.le_of_ble_eq_true rfl) rfl (fun _ => rfl) dX5_lay_29 rfl (fun r29 hf => ?_)
    refine j_istore_n (pc' := 33) (lv' := [(3, .int r29), (0, .ref d0), (1, .int p0), (2, .int p1)]) hX dX5_lay_32 rfl (by decide) rfl rfl ?_
    refine j_aload_n (pc' := 34) hX dX5_lay_33 rfl 1 rfl rfl ?_
    refine j_get (ci := 5) (pc' := 37) hX hin5 rfl 0 rfl 0 (by decide) hl_7 rfl dX5_lay_34 rfl ?_
    refine j_iload_n (pc' := 38) hX dX5_lay_37 rfl 2 rfl rfl ?_
    refine j_iload_n (pc' := 39) hX dX5_lay_38 rfl 3 rfl rfl ?_
    refine j_iconst (pc' := 40) (v := 0) hX dX5_lay_39 (by decide) rfl ?_
    refine j_callSM (pc' := 43) (k' := 0) (n' := 0) (As := [.ref d1, .int p0, .int p1, .int 0]) (rest := []) (stk := fun r40 => [.int r40]) (ws' := fun u40_3 => (MdW g d0 d1 d2 d3 d4 d5 d6 (md_now u21_2 (u40_3)))) (wr := (List.filterMap (fun i : Nat => (MdW g d0 d1 d2 d3 d4 d5 d6 u21_2)[i]?) [0, 2, 3, 4, 5, 6])) hX hW (fun l => met_X5_lays l g d1 u21_2.1 p0 p1 0 _ hf) rfl gX5_lay_X5_lays yoX5_lays rfl ⟨Nat.le_of_ble_eq_true rfl, Nat.le_of_ble_eq_true rfl⟩ ⟨Nat.le_of_ble_eq_true rfl, Nat.le_of_ble_eq_true rfl, Nat.le_of_ble_eq_true rfl, Nat.le_of_ble_eq_true rfl⟩ [1] [0, 2, 3, 4, 5, 6] [0, 6, 1, 2, 3, 4, 5] rfl (by decide) rfl (by decide) (by decide) (fun _ => rfl) (by decide) (Nat.le_of_ble_eq_true rfl) rfl (fun _ => rfl) dX5_lay_40 rfl (fun r40 u40_3 hf => ?_)
    refine j_pop (pc' := 44) hX dX5_lay_43 rfl rfl ?_
    refine j_iload_n (pc' := 45) hX dX5_lay_44 rfl 0 rfl rfl ?_
    exact j_iret hX hR dX5_lay_45 ⟨_, _, rfl, hf, rfl⟩
  · refine j_iconst (pc' := 19) (v := 0) hX dX5_lay_18 (by decide) rfl ?_
    exact j_iret hX hR dX5_lay_19 ⟨_, _, rfl, hf, rfl⟩
def wp_X5_cut (vd : Md) (p0 : Int32) (p1 : Int32) (post : Int32 → Md → Prop) : Prop :=
  (wp_X5_may vd p0 p1 1 (fun r5 => (∀ vd_1 : Md, vd_1 = md_thrown vd (r5) → ((vd_1.2.2.2.2.2.2.2.2.1 = 0 → (wp_X5_saves vd_1 (fun u21_2 => (wp_X5_lays u21_2.1 p0 p1 1 (fun r31 u31_3 => post r31 (md_now u21_2 (u31_3))))))) ∧ (¬ vd_1.2.2.2.2.2.2.2.2.1 = 0 → post 0 vd_1)))))
theorem yoX5_cut : yOk yX5_cut 2 := by decide +kernel
set_option maxHeartbeats 4000000 in
set_option maxRecDepth 100000 in
theorem met_X5_cut (l : Launch) (g : JG) (d0 : Nat) (d1 : Nat) (d2 : Nat) (d3 : Nat) (d4 : Nat) (d5 : Nat) (d6 : Nat) (vd : Md) (p0 : Int32) (p1 : Int32) (post : Int32 → Md → Prop) (hf : wp_X5_cut vd p0 p1 post) : MetM l yX5_cut wsX5_cut ({ frames := 5, cells := 0, slots := 0, locals := 116 } : Room) [.ref d0, .int p0, .int p1] g (MdW g d0 d1 d2 d3 d4 d5 d6 vd) mkI post (fun u : Md => (MdW g d0 d1 d2 d3 d4 d5 d6 u)) := by
  have hin5 : ∀ w ∈ u_ws RX5 TX5 12, w ∈ wsX5_cut := by decide +kernel
  have hl_28 : Cond.fieldLink RX5 28 (TX5 6).1 (TX5 6).2.1 (TX5 6).2.2.1 ∈ wsX5_cut := by decide +kernel
  have hl_7 : Cond.fieldLink RX5 7 (TX5 0).1 (TX5 0).2.1 (TX5 0).2.2.1 ∈ wsX5_cut := by decide +kernel
  refine enterM (own := RX5) (cc := cX5_cut) (nL := 3) (ret := (some .int)) (lv := [(0, .ref d0), (1, .int p0), (2, .int p1)]) (by decide) rfl rfl (Nat.le_of_ble_eq_true rfl) rfl (fun X hX hW hR => ?_)
  unfold wp_X5_cut at hf
  refine j_aload_n (pc' := 1) hX dX5_cut_0 rfl 0 rfl rfl ?_
  refine j_aload_n (pc' := 2) hX dX5_cut_1 rfl 0 rfl rfl ?_
  refine j_iload_n (pc' := 3) hX dX5_cut_2 rfl 1 rfl rfl ?_
  refine j_iload_n (pc' := 4) hX dX5_cut_3 rfl 2 rfl rfl ?_
  refine j_iconst (pc' := 5) (v := 1) hX dX5_cut_4 (by decide) rfl ?_
  refine j_callVR (ci := 5) (pc' := 8) (As := [.int p0, .int p1, .int 1]) (rest := [.ref d0]) (stk := fun r5 => [.int r5, .ref d0]) hX (fun l => met_X5_may l g d0 d1 d2 d3 d4 d5 d6 vd p0 p1 1 _ hf) rfl gX5_cut_X5_may yoX5_may rfl ⟨Nat.le_of_ble_eq_true rfl, Nat.le_of_ble_eq_true rfl⟩ ⟨⟨Nat.le_of_ble_eq_true rfl, Nat.le_of_ble_eq_true rfl⟩, rfl, rfl⟩ 0 rfl rfl [0, 1, 2, 3, 4, 5, 6] rfl (by decide) (Nat.le_of_ble_eq_true rfl) rfl (fun _ => rfl) dX5_cut_5 rfl (fun r5 hf => ?_)
  obtain ⟨vd_1, evd_1⟩ : ∃ z : Md, z = md_thrown vd (r5) := ⟨_, rfl⟩
  refine j_put (ci := 5) (pc' := 11) (ws' := (MdW g d0 d1 d2 d3 d4 d5 d6 vd_1)) hX hW hin5 tyX5_ok nmX5 rfl 0 rfl 6 (by decide) hl_28 rfl rfl rfl (Nat.le_of_ble_eq_true rfl) dX5_cut_8 (by subst evd_1; rfl) rfl ?_
  replace hf := hf vd_1 evd_1
  refine j_aload_n (pc' := 12) hX dX5_cut_11 rfl 0 rfl rfl ?_
  refine j_get (ci := 5) (pc' := 15) hX hin5 rfl 0 rfl 6 (by decide) hl_28 rfl dX5_cut_12 rfl ?_
  refine j_if_eq (tgt := 20) (pc' := 18) hX dX5_cut_15 (by decide) rfl hf (fun hf => ?_) (fun hf => ?_)
  · refine j_aload_n (pc' := 21) hX dX5_cut_20 rfl 0 rfl rfl ?_
    refine j_callVM (ci := 5) (pc' := 24) (k' := 0) (n' := 0) (As := []) (rest := []) (stk := fun _ => []) (ws' := fun u21_2 => (MdW g d0 d1 d2 d3 d4 d5 d6 u21_2)) (wr := ([] : va_W)) hX hW (fun l => met_X5_saves l g d0 d1 d2 d3 d4 d5 d6 vd_1 _ hf) rfl gX5_cut_X5_saves yoX5_saves rfl ⟨Nat.le_of_ble_eq_true rfl, Nat.le_of_ble_eq_true rfl⟩ ⟨Nat.le_of_ble_eq_true rfl, Nat.le_of_ble_eq_true rfl, Nat.le_of_ble_eq_true rfl, Nat.le_of_ble_eq_true rfl⟩ 0 rfl rfl [0, 1, 2, 3, 4, 5, 6] [] [0, 1, 2, 3, 4, 5, 6] rfl (by decide) rfl (by decide) (by decide) (fun _ => rfl) (by decide) (Nat.le_of_ble_eq_true rfl) rfl (fun _ => rfl) dX5_cut_21 rfl (fun _ u21_2 hf => ?_)
    refine j_aload_n (pc' := 25) hX dX5_cut_24 rfl 0 rfl rfl ?_
    refine j_get (ci := 5) (pc' := 28) hX hin5 rfl 0 rfl 0 (by decide) hl_7 rfl dX5_cut_25 rfl ?_
    refine j_iload_n (pc' := 29) hX dX5_cut_28 rfl 1 rfl rfl ?_
    refine j_iload_n (pc' := 30) hX dX5_cut_29 rfl 2 rfl rfl ?_
    refine j_iconst (pc' := 31) (v := 1) hX dX5_cut_30 (by decide) rfl ?_
    refine j_callSM (pc' := 34) (k' := 0) (n' := 0) (As := [.ref d1, .int p0, .int p1, .int 1]) (rest := []) (stk := fun r31 => [.int r31]) (ws' := fun u31_3 => (MdW g d0 d1 d2 d3 d4 d5 d6 (md_now u21_2 (u31_3)))) (wr := (List.filterMap (fun i : Nat => (MdW g d0 d1 d2 d3 d4 d5 d6 u21_2)[i]?) [0, 2, 3, 4, 5, 6])) hX hW (fun l => met_X5_lays l g d1 u21_2.1 p0 p1 1 _ hf) rfl gX5_cut_X5_lays yoX5_lays rfl ⟨Nat.le_of_ble_eq_true rfl, Nat.le_of_ble_eq_true rfl⟩ ⟨Nat.le_of_ble_eq_true rfl, Nat.le_of_ble_eq_true rfl, Nat.le_of_ble_eq_true rfl, Nat.le_of_ble_eq_true rfl⟩ [1] [0, 2, 3, 4, 5, 6] [0, 6, 1, 2, 3, 4, 5] rfl (by decide) rfl (by decide) (by decide) (fun _ => rfl) (by decide) (Nat.le_of_ble_eq_true rfl) rfl (fun _ => rfl) dX5_cut_31 rfl (fun r31 u31_3 hf => ?_)
    exact j_iret hX hR dX5_cut_34 ⟨_, _, rfl, hf, rfl⟩
  · refine j_iconst (pc' := 19) (v := 0) hX dX5_cut_18 (by decide) rfl ?_
    exact j_iret hX hR dX5_cut_19 ⟨_, _, rfl, hf, rfl⟩
def wp_X5_takeUp_L66 (p0 : Int32) (r59 : Int32) (K66_155 : Md → Prop) : Nat → Int32 → Md → Prop
  | 0, _, _ => False
  | N66 + 1, x4_66, vd_66 =>
  ((r59 ≤ x4_66 → K66_155 vd_66) ∧ (¬ r59 ≤ x4_66 → (wp_X5_pebbles vd_66.1 p0 (fun r82 => (wp_X5_sizeOf vd_66.1 p0 (r82 - 1) (fun r87 => (vp_in (10 + (61 * p0)) 376 ∧ (vp_in (10 + (61 * p0)) 376 ∧ (∀ vd_5 : Md, vd_5 = md_now vd_66 (upd vd_66.1 (10 + (61 * p0)).toNatClampNeg ((vd_66.1 (10 + (61 * p0)).toNatClampNeg) - 1)) → (vp_in (3 + r87) 376 ∧ (((vd_5.1 (3 + r87).toNatClampNeg) = 99 → (∀ vd_6 : Md, vd_6 = md_now vd_5 (upd vd_5.1 (3 : Int32).toNatClampNeg ((vd_5.1 (3 : Int32).toNatClampNeg) + r87)) → (wp_X5_takeUp_L66 p0 r59 K66_155 N66) (x4_66 + 1) vd_6)) ∧ (¬ (vd_5.1 (3 + r87).toNatClampNeg) = 99 → (vp_in (3 + r87) 376 ∧ (vp_in (3 + r87) 376 ∧ (∀ vd_7 : Md, vd_7 = md_now vd_5 (upd vd_5.1 (3 + r87).toNatClampNeg ((vd_5.1 (3 + r87).toNatClampNeg) + 1)) → (wp_X5_takeUp_L66 p0 r59 K66_155 N66) (x4_66 + 1) vd_7)))))))))))))))
def wp_X5_takeUp_L66b (p0 : Int32) (p1 : Int32) (K66_155 : Md → Prop) : Nat → Int32 → Md → Prop
  | 0, _, _ => False
  | N66 + 1, x4_66, vd_66 =>
  ((p1 ≤ x4_66 → K66_155 vd_66) ∧ (¬ p1 ≤ x4_66 → (wp_X5_pebbles vd_66.1 p0 (fun r82 => (wp_X5_sizeOf vd_66.1 p0 (r82 - 1) (fun r87 => (vp_in (10 + (61 * p0)) 376 ∧ (vp_in (10 + (61 * p0)) 376 ∧ (∀ vd_9 : Md, vd_9 = md_now vd_66 (upd vd_66.1 (10 + (61 * p0)).toNatClampNeg ((vd_66.1 (10 + (61 * p0)).toNatClampNeg) - 1)) → (vp_in (3 + r87) 376 ∧ (((vd_9.1 (3 + r87).toNatClampNeg) = 99 → (∀ vd_10 : Md, vd_10 = md_now vd_9 (upd vd_9.1 (3 : Int32).toNatClampNeg ((vd_9.1 (3 : Int32).toNatClampNeg) + r87)) → (wp_X5_takeUp_L66b p0 p1 K66_155 N66) (x4_66 + 1) vd_10)) ∧ (¬ (vd_9.1 (3 + r87).toNatClampNeg) = 99 → (vp_in (3 + r87) 376 ∧ (vp_in (3 + r87) 376 ∧ (∀ vd_11 : Md, vd_11 = md_now vd_9 (upd vd_9.1 (3 + r87).toNatClampNeg ((vd_9.1 (3 + r87).toNatClampNeg) + 1)) → (wp_X5_takeUp_L66b p0 p1 K66_155 N66) (x4_66 + 1) vd_11)))))))))))))))
def wp_X5_takeUp (vd : Md) (p0 : Int32) (p1 : Int32) (post : Int32 → Md → Prop) : Prop :=
  (∀ vd_1 : Md, vd_1 = md_thrown vd (0) → (wp_X5_isCourse p0 (fun r6 => ((r6 = 0 → (wp_X5_fails vd_1 1 (fun r14 u14_2 => post r14 u14_2))) ∧ (¬ r6 = 0 → (wp_X5_in p1 1 60 (fun r22 => ((r22 = 0 → (wp_X5_fails vd_1 2 (fun r30 u30_3 => post r30 u30_3))) ∧ (¬ r22 = 0 → (wp_X5_saves vd_1 (fun u35_4 => (wp_X5_pebbles u35_4.1 p0 (fun r44 => ((r44 ≤ p1 → (wp_X5_pebbles u35_4.1 p0 (fun r59 => (∃ N : Nat, wp_X5_takeUp_L66 p0 r59 (fun (e8 : Md) => post r59 e8) N 0 u35_4)))) ∧ (¬ r44 ≤ p1 → (∃ N : Nat, wp_X5_takeUp_L66b p0 p1 (fun (e12 : Md) => post p1 e12) N 0 u35_4))))))))))))))))
theorem yoX5_takeUp : yOk yX5_takeUp 2 := by decide +kernel
set_option maxHeartbeats 4000000 in
set_option maxRecDepth 100000 in
theorem met_X5_takeUp (l : Launch) (g : JG) (d0 : Nat) (d1 : Nat) (d2 : Nat) (d3 : Nat) (d4 : Nat) (d5 : Nat) (d6 : Nat) (vd : Md) (p0 : Int32) (p1 : Int32) (post : Int32 → Md → Prop) (hf : wp_X5_takeUp vd p0 p1 post) : MetM l yX5_takeUp wsX5_takeUp ({ frames := 2, cells := 0, slots := 0, locals := 42 } : Room) [.ref d0, .int p0, .int p1] g (MdW g d0 d1 d2 d3 d4 d5 d6 vd) mkI post (fun u : Md => (MdW g d0 d1 d2 d3 d4 d5 d6 u)) := by
  have hin5 : ∀ w ∈ u_ws RX5 TX5 12, w ∈ wsX5_takeUp := by decide +kernel
  have hl_28 : Cond.fieldLink RX5 28 (TX5 6).1 (TX5 6).2.1 (TX5 6).2.2.1 ∈ wsX5_takeUp := by decide +kernel
  have hl_7 : Cond.fieldLink RX5 7 (TX5 0).1 (TX5 0).2.1 (TX5 0).2.2.1 ∈ wsX5_takeUp := by decide +kernel
  refine enterM (own := RX5) (cc := cX5_takeUp) (nL := 6) (ret := (some .int)) (lv := [(0, .ref d0), (1, .int p0), (2, .int p1)]) (by decide) rfl rfl (Nat.le_of_ble_eq_true rfl) rfl (fun X hX hW hR => ?_)
  unfold wp_X5_takeUp at hf
  refine j_aload_n (pc' := 1) hX dX5_takeUp_0 rfl 0 rfl rfl ?_
  refine j_iconst (pc' := 2) (v := 0) hX dX5_takeUp_1 (by decide) rfl ?_
  obtain ⟨vd_1, evd_1⟩ : ∃ z : Md, z = md_thrown vd (0) := ⟨_, rfl⟩
  refine j_put (ci := 5) (pc' := 5) (ws' := (MdW g d0 d1 d2 d3 d4 d5 d6 vd_1)) hX hW hin5 tyX5_ok nmX5 rfl 0 rfl 6 (by decide) hl_28 rfl rfl rfl (Nat.le_of_ble_eq_true rfl) dX5_takeUp_2 (by subst evd_1; rfl) rfl ?_
  replace hf := hf vd_1 evd_1
  refine j_iload_n (pc' := 6) hX dX5_takeUp_5 rfl 1 rfl rfl ?_
  refine j_callSR (pc' := 9) (As := [.int p0]) (rest := []) (stk := fun r6 => [.int r6]) hX (fun l => met_X5_isCourse l g p0 _ hf) rfl gX5_takeUp_X5_isCourse yoX5_isCourse rfl ⟨Nat.le_of_ble_eq_true rfl, Nat.le_of_ble_eq_true rfl⟩ ⟨⟨Nat.le_of_ble_eq_true rfl, Nat.le_of_ble_eq_true rfl⟩, rfl, rfl⟩ [] rfl (by decide) (Nat.le_of_ble_eq_true rfl) rfl (fun _ => rfl) dX5_takeUp_6 rfl (fun r6 hf => ?_)
  refine j_if_ne (tgt := 18) (pc' := 12) hX dX5_takeUp_9 (by decide) rfl hf (fun hf => ?_) (fun hf => ?_)
  · refine j_iload_n (pc' := 19) hX dX5_takeUp_18 rfl 2 rfl rfl ?_
    refine j_iconst (pc' := 20) (v := 1) hX dX5_takeUp_19 (by decide) rfl ?_
    refine j_bipush (pc' := 22) (v := 60) hX dX5_takeUp_20 (by decide) rfl ?_
    refine j_callSR (pc' := 25) (As := [.int p1, .int 1, .int 60]) (rest := []) (stk := fun r22 => [.int r22]) hX (fun l => met_X5_in l g p1 1 60 _ hf) rfl gX5_takeUp_X5_in yoX5_in rfl ⟨Nat.le_of_ble_eq_true rfl, Nat.le_of_ble_eq_true rfl⟩ ⟨⟨Nat.le_of_ble_eq_true rfl, Nat.le_of_ble_eq_true rfl⟩, rfl, rfl⟩ [] rfl (by decide) (Nat.le_of_ble_eq_true rfl) rfl (fun _ => rfl) dX5_takeUp_22 rfl (fun r22 hf => ?_)
    refine j_if_ne (tgt := 34) (pc' := 28) hX dX5_takeUp_25 (by decide) rfl hf (fun hf => ?_) (fun hf => ?_)
    · refine j_aload_n (pc' := 35) hX dX5_takeUp_34 rfl 0 rfl rfl ?_
      refine j_callVM (ci := 5) (pc' := 38) (k' := 0) (n' := 0) (As := []) (rest := []) (stk := fun _ => []) (ws' := fun u35_4 => (MdW g d0 d1 d2 d3 d4 d5 d6 u35_4)) (wr := ([] : va_W)) hX hW (fun l => met_X5_saves l g d0 d1 d2 d3 d4 d5 d6 vd_1 _ hf) rfl gX5_takeUp_X5_saves yoX5_saves rfl ⟨Nat.le_of_ble_eq_true rfl, Nat.le_of_ble_eq_true rfl⟩ ⟨Nat.le_of_ble_eq_true rfl, Nat.le_of_ble_eq_true rfl, Nat.le_of_ble_eq_true rfl, Nat.le_of_ble_eq_true rfl⟩ 0 rfl rfl [0, 1, 2, 3, 4, 5, 6] [] [0, 1, 2, 3, 4, 5, 6] rfl (by decide) rfl (by decide) (by decide) (fun _ => rfl) (by decide) (Nat.le_of_ble_eq_true rfl) rfl (fun _ => rfl) dX5_takeUp_35 rfl (fun _ u35_4 hf => ?_)
      refine j_iload_n (pc' := 39) hX dX5_takeUp_38 rfl 2 rfl rfl ?_
      refine j_aload_n (pc' := 40) hX dX5_takeUp_39 rfl 0 rfl rfl ?_
      refine j_get (ci := 5) (pc' := 43) hX hin5 rfl 0 rfl 0 (by decide) hl_7 rfl dX5_takeUp_40 rfl ?_
      refine j_iload_n (pc' := 44) hX dX5_takeUp_43 rfl 1 rfl rfl ?_
      refine j_callSR (pc' := 47) (As := [.ref d1, .int p0]) (rest := [.int p1]) (stk := fun r44 => [.int r44, .int p1]) hX (fun l => met_X5_pebbles l g d1 u35_4.1 p0 _ hf) rfl gX5_takeUp_X5_pebbles yoX5_pebbles rfl ⟨Nat.le_of_ble_eq_true rfl, Nat.le_of_ble_eq_true rfl⟩ ⟨⟨Nat.le_of_ble_eq_true rfl, Nat.le_of_ble_eq_true rfl⟩, rfl, rfl⟩ [1] rfl (by decide) (Nat.le_of_ble_eq_true rfl) rfl (fun _ => rfl) dX5_takeUp_44 rfl (fun r44 hf => ?_)
      refine j_icmp_ge (tgt := 54) (pc' := 50) hX dX5_takeUp_47 (by decide) rfl hf (fun hf => ?_) (fun hf => ?_)
      · refine j_aload_n (pc' := 55) hX dX5_takeUp_54 rfl 0 rfl rfl ?_
        refine j_get (ci := 5) (pc' := 58) hX hin5 rfl 0 rfl 0 (by decide) hl_7 rfl dX5_takeUp_55 rfl ?_
        refine j_iload_n (pc' := 59) hX dX5_takeUp_58 rfl 1 rfl rfl ?_
        refine j_callSR (pc' := 62) (As := [.ref d1, .int p0]) (rest := []) (stk := fun r59 => [.int r59]) hX (fun l => met_X5_pebbles l g d1 u35_4.1 p0 _ hf) rfl gX5_takeUp_X5_pebbles yoX5_pebbles rfl ⟨Nat.le_of_ble_eq_true rfl, Nat.le_of_ble_eq_true rfl⟩ ⟨⟨Nat.le_of_ble_eq_true rfl, Nat.le_of_ble_eq_true rfl⟩, rfl, rfl⟩ [1] rfl (by decide) (Nat.le_of_ble_eq_true rfl) rfl (fun _ => rfl) dX5_takeUp_59 rfl (fun r59 hf => ?_)
        refine j_istore_n (pc' := 63) (lv' := [(3, .int r59), (0, .ref d0), (1, .int p0), (2, .int p1)]) hX dX5_takeUp_62 rfl (by decide) rfl rfl ?_
        refine j_iconst (pc' := 64) (v := 0) hX dX5_takeUp_63 (by decide) rfl ?_
        refine j_istore (pc' := 66) (lv' := [(4, .int 0), (3, .int r59), (0, .ref d0), (1, .int p0), (2, .int p1)]) hX dX5_takeUp_64 (by decide) rfl rfl ?_
        obtain ⟨N66, hf⟩ := hf
        have L66 : ∀ (K66_155 : Md → Prop), (∀ (vd_66 : Md), K66_155 vd_66 → J g X 0 0 (MdW g d0 d1 d2 d3 d4 d5 d6 vd_66) [(3, .int r59)] [] 155) → ∀ (N66 : Nat) (x4_66 : Int32) (vd_66 : Md), wp_X5_takeUp_L66 p0 r59 K66_155 N66 x4_66 vd_66 → J g X 0 0 (MdW g d0 d1 d2 d3 d4 d5 d6 vd_66) [(0, .ref d0), (1, .int p0), (3, .int r59), (4, .int x4_66)] [] 66 := by
          intro K66_155 hK66_155 N66
          induction N66 with
          | zero => intro x4_66 vd_66 hf; exact False.elim hf
          | succ N66 ih66 =>
            intro x4_66 vd_66 hf
            refine j_iload (pc' := 68) hX dX5_takeUp_66 3 rfl rfl ?_
            refine j_iload_n (pc' := 69) hX dX5_takeUp_68 rfl 2 rfl rfl ?_
            refine j_icmp_ge (tgt := 155) (pc' := 72) hX dX5_takeUp_69 (by decide) rfl hf (fun hf => ?_) (fun hf => ?_)
            · refine J_sub (lv' := [(3, .int r59)]) [2] rfl ?_
              exact hK66_155 vd_66 hf
            · refine j_aload_n (pc' := 73) hX dX5_takeUp_72 rfl 0 rfl rfl ?_
              refine j_get (ci := 5) (pc' := 76) hX hin5 rfl 0 rfl 0 (by decide) hl_7 rfl dX5_takeUp_73 rfl ?_
              refine j_iload_n (pc' := 77) hX dX5_takeUp_76 rfl 1 rfl rfl ?_
              refine j_aload_n (pc' := 78) hX dX5_takeUp_77 rfl 0 rfl rfl ?_
              refine j_get (ci := 5) (pc' := 81) hX hin5 rfl 0 rfl 0 (by decide) hl_7 rfl dX5_takeUp_78 rfl ?_
              refine j_iload_n (pc' := 82) hX dX5_takeUp_81 rfl 1 rfl rfl ?_
              refine j_callSR (pc' := 85) (As := [.ref d1, .int p0]) (rest := [.int p0, .ref d1]) (stk := fun r82 => [.int r82, .int p0, .ref d1]) hX (fun l => met_X5_pebbles l g d1 vd_66.1 p0 _ hf) rfl gX5_takeUp_X5_pebbles yoX5_pebbles rfl ⟨Nat.le_of_ble_eq_true rfl, Nat.le_of_ble_eq_true rfl⟩ ⟨⟨Nat.le_of_ble_eq_true rfl, Nat.le_of_ble_eq_true rfl⟩, rfl, rfl⟩ [1] rfl (by decide) (Nat.le_of_ble_eq_true rfl) rfl (fun _ => rfl) dX5_takeUp_82 rfl (fun r82 hf => ?_)
              refine j_iconst (pc' := 86) (v := 1) hX dX5_takeUp_85 (by decide) rfl ?_
              refine j_isub (pc' := 87) hX dX5_takeUp_86 rfl ?_
              refine j_callSR (pc' := 90) (As := [.ref d1, .int p0, .int (r82 - 1)]) (rest := []) (stk := fun r87 => [.int r87]) hX (fun l => met_X5_sizeOf l g d1 vd_66.1 p0 (r82 - 1) _ hf) rfl gX5_takeUp_X5_sizeOf yoX5_sizeOf rfl ⟨Nat.le_of_ble_eq_true rfl, Nat.le_of_ble_eq_true rfl⟩ ⟨⟨Nat.le_of_ble_eq_true rfl, Nat.le_of_ble_eq_true rfl⟩, rfl, rfl⟩ [1] rfl (by decide) (Nat.le_of_ble_eq_true rfl) rfl (fun _ => rfl) dX5_takeUp_87 rfl (fun r87 hf => ?_)
              refine j_istore (pc' := 92) (lv' := [(5, .int r87), (0, .ref d0), (1, .int p0), (3, .int r59), (4, .int x4_66)]) hX dX5_takeUp_90 (by decide) rfl rfl ?_
              refine j_aload_n (pc' := 93) hX dX5_takeUp_92 rfl 1 rfl rfl ?_
              refine j_get (ci := 5) (pc' := 96) hX hin5 rfl 0 rfl 0 (by decide) hl_7 rfl dX5_takeUp_93 rfl ?_
              refine j_bipush (pc' := 98) (v := 10) hX dX5_takeUp_96 (by decide) rfl ?_
              refine j_bipush (pc' := 100) (v := 61) hX dX5_takeUp_98 (by decide) rfl ?_
              refine j_iload_n (pc' := 101) hX dX5_takeUp_100 rfl 2 rfl rfl ?_
              refine j_imul (pc' := 102) hX dX5_takeUp_101 rfl ?_
              refine j_iadd (pc' := 103) hX dX5_takeUp_102 rfl ?_
              refine j_dup2 (pc' := 104) hX dX5_takeUp_103 rfl rfl rfl ?_
              refine j_iald (pc' := 105) hX 1 rfl dX5_takeUp_104 hf rfl (fun hf => ?_)
              refine j_iconst (pc' := 106) (v := 1) hX dX5_takeUp_105 (by decide) rfl ?_
              refine j_isub (pc' := 107) hX dX5_takeUp_106 rfl ?_
              obtain ⟨vd_5, evd_5⟩ : ∃ z : Md, z = md_now vd_66 (upd vd_66.1 (10 + (61 * p0)).toNatClampNeg ((vd_66.1 (10 + (61 * p0)).toNatClampNeg) - 1)) := ⟨_, rfl⟩
              refine j_iast (pc' := 108) (ws' := (MdW g d0 d1 d2 d3 d4 d5 d6 vd_5)) hX hW 1 rfl dX5_takeUp_107 hf (by subst evd_5; rfl) rfl (fun hf => ?_)
              replace hf := hf vd_5 evd_5
              refine j_aload_n (pc' := 109) hX dX5_takeUp_108 rfl 1 rfl rfl ?_
              refine j_get (ci := 5) (pc' := 112) hX hin5 rfl 0 rfl 0 (by decide) hl_7 rfl dX5_takeUp_109 rfl ?_
              refine j_iconst (pc' := 113) (v := 3) hX dX5_takeUp_112 (by decide) rfl ?_
              refine j_iload (pc' := 115) hX dX5_takeUp_113 0 rfl rfl ?_
              refine j_iadd (pc' := 116) hX dX5_takeUp_115 rfl ?_
              refine j_iald (pc' := 117) hX 1 rfl dX5_takeUp_116 hf rfl (fun hf => ?_)
              refine j_bipush (pc' := 119) (v := 99) hX dX5_takeUp_117 (by decide) rfl ?_
              refine j_icmp_ne (tgt := 136) (pc' := 122) hX dX5_takeUp_119 (by decide) rfl hf (fun hf => ?_) (fun hf => ?_)
              · refine j_aload_n (pc' := 137) hX dX5_takeUp_136 rfl 1 rfl rfl ?_
                refine j_get (ci := 5) (pc' := 140) hX hin5 rfl 0 rfl 0 (by decide) hl_7 rfl dX5_takeUp_137 rfl ?_
                refine j_iconst (pc' := 141) (v := 3) hX dX5_takeUp_140 (by decide) rfl ?_
                refine j_iload (pc' := 143) hX dX5_takeUp_141 0 rfl rfl ?_
                refine j_iadd (pc' := 144) hX dX5_takeUp_143 rfl ?_
                refine j_dup2 (pc' := 145) hX dX5_takeUp_144 rfl rfl rfl ?_
                refine j_iald (pc' := 146) hX 1 rfl dX5_takeUp_145 hf rfl (fun hf => ?_)
                refine j_iconst (pc' := 147) (v := 1) hX dX5_takeUp_146 (by decide) rfl ?_
                refine j_iadd (pc' := 148) hX dX5_takeUp_147 rfl ?_
                obtain ⟨vd_7, evd_7⟩ : ∃ z : Md, z = md_now vd_5 (upd vd_5.1 (3 + r87).toNatClampNeg ((vd_5.1 (3 + r87).toNatClampNeg) + 1)) := ⟨_, rfl⟩
                refine j_iast (pc' := 149) (ws' := (MdW g d0 d1 d2 d3 d4 d5 d6 vd_7)) hX hW 1 rfl dX5_takeUp_148 hf (by subst evd_7; rfl) rfl (fun hf => ?_)
                replace hf := hf vd_7 evd_7
                refine j_iinc (pc' := 152) (cst := 1) (v := (x4_66 + 1)) (lv' := [(4, .int (x4_66 + 1)), (5, .int r87), (0, .ref d0), (1, .int p0), (3, .int r59)]) hX dX5_takeUp_149 (by decide) rfl 4 rfl (by decide) rfl rfl ?_
                refine j_goto (tgt := 66) hX dX5_takeUp_152 (by decide) ?_
                refine J_sub (lv' := [(0, .ref d0), (1, .int p0), (3, .int r59), (4, .int (x4_66 + 1))]) [2, 3, 4, 0] rfl ?_
                exact ih66 (x4_66 + 1) vd_7 hf
              · refine j_aload_n (pc' := 123) hX dX5_takeUp_122 rfl 1 rfl rfl ?_
                refine j_get (ci := 5) (pc' := 126) hX hin5 rfl 0 rfl 0 (by decide) hl_7 rfl dX5_takeUp_123 rfl ?_
                refine j_iconst (pc' := 127) (v := 3) hX dX5_takeUp_126 (by decide) rfl ?_
                refine j_dup2 (pc' := 128) hX dX5_takeUp_127 rfl rfl rfl ?_
                refine j_iald (pc' := 129) hX 1 rfl dX5_takeUp_128 ⟨by unfold vp_in; decide, hf⟩ rfl (fun hf => ?_)
                refine j_iload (pc' := 131) hX dX5_takeUp_129 0 rfl rfl ?_
                refine j_iadd (pc' := 132) hX dX5_takeUp_131 rfl ?_
                obtain ⟨vd_6, evd_6⟩ : ∃ z : Md, z = md_now vd_5 (upd vd_5.1 (3 : Int32).toNatClampNeg ((vd_5.1 (3 : Int32).toNatClampNeg) + r87)) := ⟨_, rfl⟩
                refine j_iast (pc' := 133) (ws' := (MdW g d0 d1 d2 d3 d4 d5 d6 vd_6)) hX hW 1 rfl dX5_takeUp_132 ⟨by unfold vp_in; decide, hf⟩ (by subst evd_6; rfl) rfl (fun hf => ?_)
                replace hf := hf vd_6 evd_6
                refine j_goto (tgt := 149) hX dX5_takeUp_133 (by decide) ?_
                refine j_iinc (pc' := 152) (cst := 1) (v := (x4_66 + 1)) (lv' := [(4, .int (x4_66 + 1)), (5, .int r87), (0, .ref d0), (1, .int p0), (3, .int r59)]) hX dX5_takeUp_149 (by decide) rfl 4 rfl (by decide) rfl rfl ?_
                refine j_goto (tgt := 66) hX dX5_takeUp_152 (by decide) ?_
                refine J_sub (lv' := [(0, .ref d0), (1, .int p0), (3, .int r59), (4, .int (x4_66 + 1))]) [2, 3, 4, 0] rfl ?_
                exact ih66 (x4_66 + 1) vd_6 hf
        refine J_sub (lv' := [(0, .ref d0), (1, .int p0), (3, .int r59), (4, .int 0)]) [2, 3, 1, 0] rfl ?_
        refine L66 _ (fun e8 hf => ?_) N66 0 u35_4 hf
        refine j_iload_n (pc' := 156) hX dX5_takeUp_155 rfl 0 rfl rfl ?_
        exact j_iret hX hR dX5_takeUp_156 ⟨_, _, rfl, hf, rfl⟩
      · refine j_iload_n (pc' := 51) hX dX5_takeUp_50 rfl 2 rfl rfl ?_
        refine j_goto (tgt := 62) hX dX5_takeUp_51 (by decide) ?_
        refine j_istore_n (pc' := 63) (lv' := [(3, .int p1), (0, .ref d0), (1, .int p0), (2, .int p1)]) hX dX5_takeUp_62 rfl (by decide) rfl rfl ?_
        refine j_iconst (pc' := 64) (v := 0) hX dX5_takeUp_63 (by decide) rfl ?_
        refine j_istore (pc' := 66) (lv' := [(4, .int 0), (3, .int p1), (0, .ref d0), (1, .int p0), (2, .int p1)]) hX dX5_takeUp_64 (by decide) rfl rfl ?_
        obtain ⟨N66, hf⟩ := hf
        have L66 : ∀ (K66_155 : Md → Prop), (∀ (vd_66 : Md), K66_155 vd_66 → J g X 0 0 (MdW g d0 d1 d2 d3 d4 d5 d6 vd_66) [(3, .int p1)] [] 155) → ∀ (N66 : Nat) (x4_66 : Int32) (vd_66 : Md), wp_X5_takeUp_L66b p0 p1 K66_155 N66 x4_66 vd_66 → J g X 0 0 (MdW g d0 d1 d2 d3 d4 d5 d6 vd_66) [(0, .ref d0), (1, .int p0), (3, .int p1), (4, .int x4_66)] [] 66 := by
          intro K66_155 hK66_155 N66
          induction N66 with
          | zero => intro x4_66 vd_66 hf; exact False.elim hf
          | succ N66 ih66 =>
            intro x4_66 vd_66 hf
            refine j_iload (pc' := 68) hX dX5_takeUp_66 3 rfl rfl ?_
            refine j_iload_n (pc' := 69) hX dX5_takeUp_68 rfl 2 rfl rfl ?_
            refine j_icmp_ge (tgt := 155) (pc' := 72) hX dX5_takeUp_69 (by decide) rfl hf (fun hf => ?_) (fun hf => ?_)
            · refine J_sub (lv' := [(3, .int p1)]) [2] rfl ?_
              exact hK66_155 vd_66 hf
            · refine j_aload_n (pc' := 73) hX dX5_takeUp_72 rfl 0 rfl rfl ?_
              refine j_get (ci := 5) (pc' := 76) hX hin5 rfl 0 rfl 0 (by decide) hl_7 rfl dX5_takeUp_73 rfl ?_
              refine j_iload_n (pc' := 77) hX dX5_takeUp_76 rfl 1 rfl rfl ?_
              refine j_aload_n (pc' := 78) hX dX5_takeUp_77 rfl 0 rfl rfl ?_
              refine j_get (ci := 5) (pc' := 81) hX hin5 rfl 0 rfl 0 (by decide) hl_7 rfl dX5_takeUp_78 rfl ?_
              refine j_iload_n (pc' := 82) hX dX5_takeUp_81 rfl 1 rfl rfl ?_
              refine j_callSR (pc' := 85) (As := [.ref d1, .int p0]) (rest := [.int p0, .ref d1]) (stk := fun r82 => [.int r82, .int p0, .ref d1]) hX (fun l => met_X5_pebbles l g d1 vd_66.1 p0 _ hf) rfl gX5_takeUp_X5_pebbles yoX5_pebbles rfl ⟨Nat.le_of_ble_eq_true rfl, Nat.le_of_ble_eq_true rfl⟩ ⟨⟨Nat.le_of_ble_eq_true rfl, Nat.le_of_ble_eq_true rfl⟩, rfl, rfl⟩ [1] rfl (by decide) (Nat.le_of_ble_eq_true rfl) rfl (fun _ => rfl) dX5_takeUp_82 rfl (fun r82 hf => ?_)
              refine j_iconst (pc' := 86) (v := 1) hX dX5_takeUp_85 (by decide) rfl ?_
              refine j_isub (pc' := 87) hX dX5_takeUp_86 rfl ?_
              refine j_callSR (pc' := 90) (As := [.ref d1, .int p0, .int (r82 - 1)]) (rest := []) (stk := fun r87 => [.int r87]) hX (fun l => met_X5_sizeOf l g d1 vd_66.1 p0 (r82 - 1) _ hf) rfl gX5_takeUp_X5_sizeOf yoX5_sizeOf rfl ⟨Nat.le_of_ble_eq_true rfl, Nat.le_of_ble_eq_true rfl⟩ ⟨⟨Nat.le_of_ble_eq_true rfl, Nat.le_of_ble_eq_true rfl⟩, rfl, rfl⟩ [1] rfl (by decide) (Nat.le_of_ble_eq_true rfl) rfl (fun _ => rfl) dX5_takeUp_87 rfl (fun r87 hf => ?_)
              refine j_istore (pc' := 92) (lv' := [(5, .int r87), (0, .ref d0), (1, .int p0), (3, .int p1), (4, .int x4_66)]) hX dX5_takeUp_90 (by decide) rfl rfl ?_
              refine j_aload_n (pc' := 93) hX dX5_takeUp_92 rfl 1 rfl rfl ?_
              refine j_get (ci := 5) (pc' := 96) hX hin5 rfl 0 rfl 0 (by decide) hl_7 rfl dX5_takeUp_93 rfl ?_
              refine j_bipush (pc' := 98) (v := 10) hX dX5_takeUp_96 (by decide) rfl ?_
              refine j_bipush (pc' := 100) (v := 61) hX dX5_takeUp_98 (by decide) rfl ?_
              refine j_iload_n (pc' := 101) hX dX5_takeUp_100 rfl 2 rfl rfl ?_
              refine j_imul (pc' := 102) hX dX5_takeUp_101 rfl ?_
              refine j_iadd (pc' := 103) hX dX5_takeUp_102 rfl ?_
              refine j_dup2 (pc' := 104) hX dX5_takeUp_103 rfl rfl rfl ?_
              refine j_iald (pc' := 105) hX 1 rfl dX5_takeUp_104 hf rfl (fun hf => ?_)
              refine j_iconst (pc' := 106) (v := 1) hX dX5_takeUp_105 (by decide) rfl ?_
              refine j_isub (pc' := 107) hX dX5_takeUp_106 rfl ?_
              obtain ⟨vd_9, evd_9⟩ : ∃ z : Md, z = md_now vd_66 (upd vd_66.1 (10 + (61 * p0)).toNatClampNeg ((vd_66.1 (10 + (61 * p0)).toNatClampNeg) - 1)) := ⟨_, rfl⟩
              refine j_iast (pc' := 108) (ws' := (MdW g d0 d1 d2 d3 d4 d5 d6 vd_9)) hX hW 1 rfl dX5_takeUp_107 hf (by subst evd_9; rfl) rfl (fun hf => ?_)
              replace hf := hf vd_9 evd_9
              refine j_aload_n (pc' := 109) hX dX5_takeUp_108 rfl 1 rfl rfl ?_
              refine j_get (ci := 5) (pc' := 112) hX hin5 rfl 0 rfl 0 (by decide) hl_7 rfl dX5_takeUp_109 rfl ?_
              refine j_iconst (pc' := 113) (v := 3) hX dX5_takeUp_112 (by decide) rfl ?_
              refine j_iload (pc' := 115) hX dX5_takeUp_113 0 rfl rfl ?_
              refine j_iadd (pc' := 116) hX dX5_takeUp_115 rfl ?_
              refine j_iald (pc' := 117) hX 1 rfl dX5_takeUp_116 hf rfl (fun hf => ?_)
              refine j_bipush (pc' := 119) (v := 99) hX dX5_takeUp_117 (by decide) rfl ?_
              refine j_icmp_ne (tgt := 136) (pc' := 122) hX dX5_takeUp_119 (by decide) rfl hf (fun hf => ?_) (fun hf => ?_)
              · refine j_aload_n (pc' := 137) hX dX5_takeUp_136 rfl 1 rfl rfl ?_
                refine j_get (ci := 5) (pc' := 140) hX hin5 rfl 0 rfl 0 (by decide) hl_7 rfl dX5_takeUp_137 rfl ?_
                refine j_iconst (pc' := 141) (v := 3) hX dX5_takeUp_140 (by decide) rfl ?_
                refine j_iload (pc' := 143) hX dX5_takeUp_141 0 rfl rfl ?_
                refine j_iadd (pc' := 144) hX dX5_takeUp_143 rfl ?_
                refine j_dup2 (pc' := 145) hX dX5_takeUp_144 rfl rfl rfl ?_
                refine j_iald (pc' := 146) hX 1 rfl dX5_takeUp_145 hf rfl (fun hf => ?_)
                refine j_iconst (pc' := 147) (v := 1) hX dX5_takeUp_146 (by decide) rfl ?_
                refine j_iadd (pc' := 148) hX dX5_takeUp_147 rfl ?_
                obtain ⟨vd_11, evd_11⟩ : ∃ z : Md, z = md_now vd_9 (upd vd_9.1 (3 + r87).toNatClampNeg ((vd_9.1 (3 + r87).toNatClampNeg) + 1)) := ⟨_, rfl⟩
                refine j_iast (pc' := 149) (ws' := (MdW g d0 d1 d2 d3 d4 d5 d6 vd_11)) hX hW 1 rfl dX5_takeUp_148 hf (by subst evd_11; rfl) rfl (fun hf => ?_)
                replace hf := hf vd_11 evd_11
                refine j_iinc (pc' := 152) (cst := 1) (v := (x4_66 + 1)) (lv' := [(4, .int (x4_66 + 1)), (5, .int r87), (0, .ref d0), (1, .int p0), (3, .int p1)]) hX dX5_takeUp_149 (by decide) rfl 4 rfl (by decide) rfl rfl ?_
                refine j_goto (tgt := 66) hX dX5_takeUp_152 (by decide) ?_
                refine J_sub (lv' := [(0, .ref d0), (1, .int p0), (3, .int p1), (4, .int (x4_66 + 1))]) [2, 3, 4, 0] rfl ?_
                exact ih66 (x4_66 + 1) vd_11 hf
              · refine j_aload_n (pc' := 123) hX dX5_takeUp_122 rfl 1 rfl rfl ?_
                refine j_get (ci := 5) (pc' := 126) hX hin5 rfl 0 rfl 0 (by decide) hl_7 rfl dX5_takeUp_123 rfl ?_
                refine j_iconst (pc' := 127) (v := 3) hX dX5_takeUp_126 (by decide) rfl ?_
                refine j_dup2 (pc' := 128) hX dX5_takeUp_127 rfl rfl rfl ?_
                refine j_iald (pc' := 129) hX 1 rfl dX5_takeUp_128 ⟨by unfold vp_in; decide, hf⟩ rfl (fun hf => ?_)
                refine j_iload (pc' := 131) hX dX5_takeUp_129 0 rfl rfl ?_
                refine j_iadd (pc' := 132) hX dX5_takeUp_131 rfl ?_
                obtain ⟨vd_10, evd_10⟩ : ∃ z : Md, z = md_now vd_9 (upd vd_9.1 (3 : Int32).toNatClampNeg ((vd_9.1 (3 : Int32).toNatClampNeg) + r87)) := ⟨_, rfl⟩
                refine j_iast (pc' := 133) (ws' := (MdW g d0 d1 d2 d3 d4 d5 d6 vd_10)) hX hW 1 rfl dX5_takeUp_132 ⟨by unfold vp_in; decide, hf⟩ (by subst evd_10; rfl) rfl (fun hf => ?_)
                replace hf := hf vd_10 evd_10
                refine j_goto (tgt := 149) hX dX5_takeUp_133 (by decide) ?_
                refine j_iinc (pc' := 152) (cst := 1) (v := (x4_66 + 1)) (lv' := [(4, .int (x4_66 + 1)), (5, .int r87), (0, .ref d0), (1, .int p0), (3, .int p1)]) hX dX5_takeUp_149 (by decide) rfl 4 rfl (by decide) rfl rfl ?_
                refine j_goto (tgt := 66) hX dX5_takeUp_152 (by decide) ?_
                refine J_sub (lv' := [(0, .ref d0), (1, .int p0), (3, .int p1), (4, .int (x4_66 + 1))]) [2, 3, 4, 0] rfl ?_
                exact ih66 (x4_66 + 1) vd_10 hf
        refine J_sub (lv' := [(0, .ref d0), (1, .int p0), (3, .int p1), (4, .int 0)]) [2, 3, 1, 0] rfl ?_
        refine L66 _ (fun e12 hf => ?_) N66 0 u35_4 hf
        refine j_iload_n (pc' := 156) hX dX5_takeUp_155 rfl 0 rfl rfl ?_
        exact j_iret hX hR dX5_takeUp_156 ⟨_, _, rfl, hf, rfl⟩
    · refine j_aload_n (pc' := 29) hX dX5_takeUp_28 rfl 0 rfl rfl ?_
      refine j_iconst (pc' := 30) (v := 2) hX dX5_takeUp_29 (by decide) rfl ?_
      refine j_callVM (ci := 5) (pc' := 33) (k' := 0) (n' := 0) (As := [.int 2]) (rest := []) (stk := fun r30 => [.int r30]) (ws' := fun u30_3 => (MdW g d0 d1 d2 d3 d4 d5 d6 u30_3)) (wr := ([] : va_W)) hX hW (fun l => met_X5_fails l g d0 d1 d2 d3 d4 d5 d6 vd_1 2 _ hf) rfl gX5_takeUp_X5_fails yoX5_fails rfl ⟨Nat.le_of_ble_eq_true rfl, Nat.le_of_ble_eq_true rfl⟩ ⟨Nat.le_of_ble_eq_true rfl, Nat.le_of_ble_eq_true rfl, Nat.le_of_ble_eq_true rfl, Nat.le_of_ble_eq_true rfl⟩ 0 rfl rfl [0, 1, 2, 3, 4, 5, 6] [] [0, 1, 2, 3, 4, 5, 6] rfl (by decide) rfl (by decide) (by decide) (fun _ => rfl) (by decide) (Nat.le_of_ble_eq_true rfl) rfl (fun _ => rfl) dX5_takeUp_30 rfl (fun r30 u30_3 hf => ?_)
      exact j_iret hX hR dX5_takeUp_33 ⟨_, _, rfl, hf, rfl⟩
  · refine j_aload_n (pc' := 13) hX dX5_takeUp_12 rfl 0 rfl rfl ?_
    refine j_iconst (pc' := 14) (v := 1) hX dX5_takeUp_13 (by decide) rfl ?_
    refine j_callVM (ci := 5) (pc' := 17) (k' := 0) (n' := 0) (As := [.int 1]) (rest := []) (stk := fun r14 => [.int r14]) (ws' := fun u14_2 => (MdW g d0 d1 d2 d3 d4 d5 d6 u14_2)) (wr := ([] : va_W)) hX hW (fun l => met_X5_fails l g d0 d1 d2 d3 d4 d5 d6 vd_1 1 _ hf) rfl gX5_takeUp_X5_fails yoX5_fails rfl ⟨Nat.le_of_ble_eq_true rfl, Nat.le_of_ble_eq_true rfl⟩ ⟨Nat.le_of_ble_eq_true rfl, Nat.le_of_ble_eq_true rfl, Nat.le_of_ble_eq_true rfl, Nat.le_of_ble_eq_true rfl⟩ 0 rfl rfl [0, 1, 2, 3, 4, 5, 6] [] [0, 1, 2, 3, 4, 5, 6] rfl (by decide) rfl (by decide) (by decide) (fun _ => rfl) (by decide) (Nat.le_of_ble_eq_true rfl) rfl (fun _ => rfl) dX5_takeUp_14 rfl (fun r14 u14_2 hf => ?_)
    exact j_iret hX hR dX5_takeUp_17 ⟨_, _, rfl, hf, rfl⟩
def wp_X5_fill (vd : Md) (p0 : Int32) (post : Int32 → Md → Prop) : Prop :=
  (∀ vd_1 : Md, vd_1 = md_thrown vd (0) → (wp_X5_isCourse p0 (fun r6 => ((r6 = 0 → (wp_X5_fails vd_1 1 (fun r14 u14_2 => post r14 u14_2))) ∧ (¬ r6 = 0 → (wp_X5_saves vd_1 (fun u19_3 => (wp_X5_fills u19_3.1 p0 (fun r27 u27_4 => post r27 (md_now u19_3 (u27_4)))))))))))
theorem yoX5_fill : yOk yX5_fill 1 := by decide +kernel
set_option maxHeartbeats 4000000 in
set_option maxRecDepth 100000 in
theorem met_X5_fill (l : Launch) (g : JG) (d0 : Nat) (d1 : Nat) (d2 : Nat) (d3 : Nat) (d4 : Nat) (d5 : Nat) (d6 : Nat) (vd : Md) (p0 : Int32) (post : Int32 → Md → Prop) (hf : wp_X5_fill vd p0 post) : MetM l yX5_fill wsX5_fill ({ frames := 6, cells := 0, slots := 0, locals := 142 } : Room) [.ref d0, .int p0] g (MdW g d0 d1 d2 d3 d4 d5 d6 vd) mkI post (fun u : Md => (MdW g d0 d1 d2 d3 d4 d5 d6 u)) := by
  have hin5 : ∀ w ∈ u_ws RX5 TX5 12, w ∈ wsX5_fill := by decide +kernel
  have hl_28 : Cond.fieldLink RX5 28 (TX5 6).1 (TX5 6).2.1 (TX5 6).2.2.1 ∈ wsX5_fill := by decide +kernel
  have hl_7 : Cond.fieldLink RX5 7 (TX5 0).1 (TX5 0).2.1 (TX5 0).2.2.1 ∈ wsX5_fill := by decide +kernel
  refine enterM (own := RX5) (cc := cX5_fill) (nL := 2) (ret := (some .int)) (lv := [(0, .ref d0), (1, .int p0)]) (by decide) rfl rfl (Nat.le_of_ble_eq_true rfl) rfl (fun X hX hW hR => ?_)
  unfold wp_X5_fill at hf
  refine j_aload_n (pc' := 1) hX dX5_fill_0 rfl 0 rfl rfl ?_
  refine j_iconst (pc' := 2) (v := 0) hX dX5_fill_1 (by decide) rfl ?_
  obtain ⟨vd_1, evd_1⟩ : ∃ z : Md, z = md_thrown vd (0) := ⟨_, rfl⟩
  refine j_put (ci := 5) (pc' := 5) (ws' := (MdW g d0 d1 d2 d3 d4 d5 d6 vd_1)) hX hW hin5 tyX5_ok nmX5 rfl 0 rfl 6 (by decide) hl_28 rfl rfl rfl (Nat.le_of_ble_eq_true rfl) dX5_fill_2 (by subst evd_1; rfl) rfl ?_
  replace hf := hf vd_1 evd_1
  refine j_iload_n (pc' := 6) hX dX5_fill_5 rfl 1 rfl rfl ?_
  refine j_callSR (pc' := 9) (As := [.int p0]) (rest := []) (stk := fun r6 => [.int r6]) hX (fun l => met_X5_isCourse l g p0 _ hf) rfl gX5_fill_X5_isCourse yoX5_isCourse rfl ⟨Nat.le_of_ble_eq_true rfl, Nat.le_of_ble_eq_true rfl⟩ ⟨⟨Nat.le_of_ble_eq_true rfl, Nat.le_of_ble_eq_true rfl⟩, rfl, rfl⟩ [] rfl (by decide) (Nat.le_of_ble_eq_true rfl) rfl (fun _ => rfl) dX5_fill_6 rfl (fun r6 hf => ?_)
  refine j_if_ne (tgt := 18) (pc' := 12) hX dX5_fill_9 (by decide) rfl hf (fun hf => ?_) (fun hf => ?_)
  · refine j_aload_n (pc' := 19) hX dX5_fill_18 rfl 0 rfl rfl ?_
    refine j_callVM (ci := 5) (pc' := 22) (k' := 0) (n' := 0) (As := []) (rest := []) (stk := fun _ => []) (ws' := fun u19_3 => (MdW g d0 d1 d2 d3 d4 d5 d6 u19_3)) (wr := ([] : va_W)) hX hW (fun l => met_X5_saves l g d0 d1 d2 d3 d4 d5 d6 vd_1 _ hf) rfl gX5_fill_X5_saves yoX5_saves rfl ⟨Nat.le_of_ble_eq_true rfl, Nat.le_of_ble_eq_true rfl⟩ ⟨Nat.le_of_ble_eq_true rfl, Nat.le_of_ble_eq_true rfl, Nat.le_of_ble_eq_true rfl, Nat.le_of_ble_eq_true rfl⟩ 0 rfl rfl [0, 1, 2, 3, 4, 5, 6] [] [0, 1, 2, 3, 4, 5, 6] rfl (by decide) rfl (by decide) (by decide) (fun _ => rfl) (by decide) (Nat.le_of_ble_eq_true rfl) rfl (fun _ => rfl) dX5_fill_19 rfl (fun _ u19_3 hf => ?_)
    refine j_aload_n (pc' := 23) hX dX5_fill_22 rfl 0 rfl rfl ?_
    refine j_get (ci := 5) (pc' := 26) hX hin5 rfl 0 rfl 0 (by decide) hl_7 rfl dX5_fill_23 rfl ?_
    refine j_iload_n (pc' := 27) hX dX5_fill_26 rfl 1 rfl rfl ?_
    refine j_callSM (pc' := 30) (k' := 0) (n' := 0) (As := [.ref d1, .int p0]) (rest := []) (stk := fun r27 => [.int r27]) (ws' := fun u27_4 => (MdW g d0 d1 d2 d3 d4 d5 d6 (md_now u19_3 (u27_4)))) (wr := (List.filterMap (fun i : Nat => (MdW g d0 d1 d2 d3 d4 d5 d6 u19_3)[i]?) [0, 2, 3, 4, 5, 6])) hX hW (fun l => met_X5_fills l g d1 u19_3.1 p0 _ hf) rfl gX5_fill_X5_fills yoX5_fills rfl ⟨Nat.le_of_ble_eq_true rfl, Nat.le_of_ble_eq_true rfl⟩ ⟨Nat.le_of_ble_eq_true rfl, Nat.le_of_ble_eq_true rfl, Nat.le_of_ble_eq_true rfl, Nat.le_of_ble_eq_true rfl⟩ [1] [0, 2, 3, 4, 5, 6] [0, 6, 1, 2, 3, 4, 5] rfl (by decide) rfl (by decide) (by decide) (fun _ => rfl) (by decide) (Nat.le_of_ble_eq_true rfl) rfl (fun _ => rfl) dX5_fill_27 rfl (fun r27 u27_4 hf => ?_)
    exact j_iret hX hR dX5_fill_30 ⟨_, _, rfl, hf, rfl⟩
  · refine j_aload_n (pc' := 13) hX dX5_fill_12 rfl 0 rfl rfl ?_
    refine j_iconst (pc' := 14) (v := 1) hX dX5_fill_13 (by decide) rfl ?_
    refine j_callVM (ci := 5) (pc' := 17) (k' := 0) (n' := 0) (As := [.int 1]) (rest := []) (stk := fun r14 => [.int r14]) (ws' := fun u14_2 => (MdW g d0 d1 d2 d3 d4 d5 d6 u14_2)) (wr := ([] : va_W)) hX hW (fun l => met_X5_fails l g d0 d1 d2 d3 d4 d5 d6 vd_1 1 _ hf) rfl gX5_fill_X5_fails yoX5_fails rfl ⟨Nat.le_of_ble_eq_true rfl, Nat.le_of_ble_eq_true rfl⟩ ⟨Nat.le_of_ble_eq_true rfl, Nat.le_of_ble_eq_true rfl, Nat.le_of_ble_eq_true rfl, Nat.le_of_ble_eq_true rfl⟩ 0 rfl rfl [0, 1, 2, 3, 4, 5, 6] [] [0, 1, 2, 3, 4, 5, 6] rfl (by decide) rfl (by decide) (by decide) (fun _ => rfl) (by decide) (Nat.le_of_ble_eq_true rfl) rfl (fun _ => rfl) dX5_fill_14 rfl (fun r14 u14_2 hf => ?_)
    exact j_iret hX hR dX5_fill_17 ⟨_, _, rfl, hf, rfl⟩
def wp_X5_fillAll (vd : Md) (post : Int32 → Md → Prop) : Prop :=
  (∀ vd_1 : Md, vd_1 = md_thrown vd (0) → (wp_X5_saves vd_1 (fun u6_2 => (wp_X5_fillsAll u6_2.1 (fun r13 u13_3 => post r13 (md_now u6_2 (u13_3)))))))
theorem yoX5_fillAll : yOk yX5_fillAll 0 := by decide +kernel
set_option maxHeartbeats 4000000 in
set_option maxRecDepth 100000 in
theorem met_X5_fillAll (l : Launch) (g : JG) (d0 : Nat) (d1 : Nat) (d2 : Nat) (d3 : Nat) (d4 : Nat) (d5 : Nat) (d6 : Nat) (vd : Md) (post : Int32 → Md → Prop) (hf : wp_X5_fillAll vd post) : MetM l yX5_fillAll wsX5_fillAll ({ frames := 7, cells := 0, slots := 0, locals := 163 } : Room) [.ref d0] g (MdW g d0 d1 d2 d3 d4 d5 d6 vd) mkI post (fun u : Md => (MdW g d0 d1 d2 d3 d4 d5 d6 u)) := by
  have hin5 : ∀ w ∈ u_ws RX5 TX5 12, w ∈ wsX5_fillAll := by decide +kernel
  have hl_28 : Cond.fieldLink RX5 28 (TX5 6).1 (TX5 6).2.1 (TX5 6).2.2.1 ∈ wsX5_fillAll := by decide +kernel
  have hl_7 : Cond.fieldLink RX5 7 (TX5 0).1 (TX5 0).2.1 (TX5 0).2.2.1 ∈ wsX5_fillAll := by decide +kernel
  refine enterM (own := RX5) (cc := cX5_fillAll) (nL := 1) (ret := (some .int)) (lv := [(0, .ref d0)]) (by decide) rfl rfl (Nat.le_of_ble_eq_true rfl) rfl (fun X hX hW hR => ?_)
  unfold wp_X5_fillAll at hf
  refine j_aload_n (pc' := 1) hX dX5_fillAll_0 rfl 0 rfl rfl ?_
  refine j_iconst (pc' := 2) (v := 0) hX dX5_fillAll_1 (by decide) rfl ?_
  obtain ⟨vd_1, evd_1⟩ : ∃ z : Md, z = md_thrown vd (0) := ⟨_, rfl⟩
  refine j_put (ci := 5) (pc' := 5) (ws' := (MdW g d0 d1 d2 d3 d4 d5 d6 vd_1)) hX hW hin5 tyX5_ok nmX5 rfl 0 rfl 6 (by decide) hl_28 rfl rfl rfl (Nat.le_of_ble_eq_true rfl) dX5_fillAll_2 (by subst evd_1; rfl) rfl ?_
  replace hf := hf vd_1 evd_1
  refine j_aload_n (pc' := 6) hX dX5_fillAll_5 rfl 0 rfl rfl ?_
  refine j_callVM (ci := 5) (pc' := 9) (k' := 0) (n' := 0) (As := []) (rest := []) (stk := fun _ => []) (ws' := fun u6_2 => (MdW g d0 d1 d2 d3 d4 d5 d6 u6_2)) (wr := ([] : va_W)) hX hW (fun l => met_X5_saves l g d0 d1 d2 d3 d4 d5 d6 vd_1 _ hf) rfl gX5_fillAll_X5_saves yoX5_saves rfl ⟨Nat.le_of_ble_eq_true rfl, Nat.le_of_ble_eq_true rfl⟩ ⟨Nat.le_of_ble_eq_true rfl, Nat.le_of_ble_eq_true rfl, Nat.le_of_ble_eq_true rfl, Nat.le_of_ble_eq_true rfl⟩ 0 rfl rfl [0, 1, 2, 3, 4, 5, 6] [] [0, 1, 2, 3, 4, 5, 6] rfl (by decide) rfl (by decide) (by decide) (fun _ => rfl) (by decide) (Nat.le_of_ble_eq_true rfl) rfl (fun _ => rfl) dX5_fillAll_6 rfl (fun _ u6_2 hf => ?_)
  refine j_aload_n (pc' := 10) hX dX5_fillAll_9 rfl 0 rfl rfl ?_
  refine j_get (ci := 5) (pc' := 13) hX hin5 rfl 0 rfl 0 (by decide) hl_7 rfl dX5_fillAll_10 rfl ?_
  refine j_callSM (pc' := 16) (k' := 0) (n' := 0) (As := [.ref d1]) (rest := []) (stk := fun r13 => [.int r13]) (ws' := fun u13_3 => (MdW g d0 d1 d2 d3 d4 d5 d6 (md_now u6_2 (u13_3)))) (wr := (List.filterMap (fun i : Nat => (MdW g d0 d1 d2 d3 d4 d5 d6 u6_2)[i]?) [0, 2, 3, 4, 5, 6])) hX hW (fun l => met_X5_fillsAll l g d1 u6_2.1 _ hf) rfl gX5_fillAll_X5_fillsAll yoX5_fillsAll rfl ⟨Nat.le_of_ble_eq_true rfl, Nat.le_of_ble_eq_true rfl⟩ ⟨Nat.le_of_ble_eq_true rfl, Nat.le_of_ble_eq_true rfl, Nat.le_of_ble_eq_true rfl, Nat.le_of_ble_eq_true rfl⟩ [1] [0, 2, 3, 4, 5, 6] [0, 6, 1, 2, 3, 4, 5] rfl (by decide) rfl (by decide) (by decide) (fun _ => rfl) (by decide) (Nat.le_of_ble_eq_true rfl) rfl (fun _ => rfl) dX5_fillAll_13 rfl (fun r13 u13_3 hf => ?_)
  exact j_iret hX hR dX5_fillAll_16 ⟨_, _, rfl, hf, rfl⟩
def wp_X5_set_c62 (p0 : Int32) (p1 : Int32) (post : Int32 → Md → Prop) (vd_62 : Md) : Prop :=
  ((p0 = 0 → (wp_X5_all vd_62.1 (fun r70 => ((r70 ≤ 0 → (wp_X5_saves vd_62 (fun u83_1 => (vp_in p0 376 ∧ (vp_in p0 376 ∧ (∀ vd_2 : Md, vd_2 = md_now u83_1 (upd u83_1.1 p0.toNatClampNeg p1) → post (u83_1.1 p0.toNatClampNeg) vd_2)))))) ∧ (¬ r70 ≤ 0 → (wp_X5_fails vd_62 3 (fun r78 u78_3 => post r78 u78_3))))))) ∧ (¬ p0 = 0 → (wp_X5_saves vd_62 (fun u83_4 => (vp_in p0 376 ∧ (vp_in p0 376 ∧ (∀ vd_5 : Md, vd_5 = md_now u83_4 (upd u83_4.1 p0.toNatClampNeg p1) → post (u83_4.1 p0.toNatClampNeg) vd_5)))))))
def wp_X5_set (vd : Md) (p0 : Int32) (p1 : Int32) (post : Int32 → Md → Prop) : Prop :=
  (∀ vd_6 : Md, vd_6 = md_thrown vd (0) → (wp_X5_in p0 0 2 (fun r8 => ((r8 = 0 → (wp_X5_fails vd_6 1 (fun r16 u16_7 => post r16 u16_7))) ∧ (¬ r8 = 0 → ((p0 = 0 → (wp_X5_in p1 24 60 (fun r29 => ((r29 = 0 → (wp_X5_fails vd_6 2 (fun r58 u58_8 => post r58 u58_8))) ∧ (¬ r29 = 0 → wp_X5_set_c62 p0 p1 post vd_6))))) ∧ (¬ p0 = 0 → ((p0 = 1 → (wp_X5_in p1 0 2 (fun r50 => ((r50 = 0 → (wp_X5_fails vd_6 2 (fun r58 u58_9 => post r58 u58_9))) ∧ (¬ r50 = 0 → wp_X5_set_c62 p0 p1 post vd_6))))) ∧ (¬ p0 = 1 → (wp_X5_in p1 0 1 (fun r50 => ((r50 = 0 → (wp_X5_fails vd_6 2 (fun r58 u58_10 => post r58 u58_10))) ∧ (¬ r50 = 0 → wp_X5_set_c62 p0 p1 post vd_6)))))))))))))
theorem yoX5_set : yOk yX5_set 2 := by decide +kernel
set_option maxHeartbeats 4000000 in
set_option maxRecDepth 100000 in
theorem met_X5_set (l : Launch) (g : JG) (d0 : Nat) (d1 : Nat) (d2 : Nat) (d3 : Nat) (d4 : Nat) (d5 : Nat) (d6 : Nat) (vd : Md) (p0 : Int32) (p1 : Int32) (post : Int32 → Md → Prop) (hf : wp_X5_set vd p0 p1 post) : MetM l yX5_set wsX5_set ({ frames := 2, cells := 0, slots := 0, locals := 43 } : Room) [.ref d0, .int p0, .int p1] g (MdW g d0 d1 d2 d3 d4 d5 d6 vd) mkI post (fun u : Md => (MdW g d0 d1 d2 d3 d4 d5 d6 u)) := by
  have hin5 : ∀ w ∈ u_ws RX5 TX5 12, w ∈ wsX5_set := by decide +kernel
  have hl_7 : Cond.fieldLink RX5 7 (TX5 0).1 (TX5 0).2.1 (TX5 0).2.2.1 ∈ wsX5_set := by decide +kernel
  have hl_28 : Cond.fieldLink RX5 28 (TX5 6).1 (TX5 6).2.1 (TX5 6).2.2.1 ∈ wsX5_set := by decide +kernel
  refine enterM (own := RX5) (cc := cX5_set) (nL := 4) (ret := (some .int)) (lv := [(0, .ref d0), (1, .int p0), (2, .int p1)]) (by decide) rfl rfl (Nat.le_of_ble_eq_true rfl) rfl (fun X hX hW hR => ?_)
  unfold wp_X5_set at hf
  have J62 : ∀ (vd_62 : Md), wp_X5_set_c62 p0 p1 post vd_62 → J g X 0 0 (MdW g d0 d1 d2 d3 d4 d5 d6 vd_62) [(0, .ref d0), (1, .int p0), (2, .int p1)] [] 62 := by
    intro vd_62 hf
    refine j_iload_n (pc' := 63) hX dX5_set_62 rfl 1 rfl rfl ?_
    refine j_if_ne (tgt := 82) (pc' := 66) hX dX5_set_63 (by decide) rfl hf (fun hf => ?_) (fun hf => ?_)
    · refine j_aload_n (pc' := 83) hX dX5_set_82 rfl 0 rfl rfl ?_
      refine j_callVM (ci := 5) (pc' := 86) (k' := 0) (n' := 0) (As := []) (rest := []) (stk := fun _ => []) (ws' := fun u83_4 => (MdW g d0 d1 d2 d3 d4 d5 d6 u83_4)) (wr := ([] : va_W)) hX hW (fun l => met_X5_saves l g d0 d1 d2 d3 d4 d5 d6 vd_62 _ hf) rfl gX5_set_X5_saves yoX5_saves rfl ⟨Nat.le_of_ble_eq_true rfl, Nat.le_of_ble_eq_true rfl⟩ ⟨Nat.le_of_ble_eq_true rfl, Nat.le_of_ble_eq_true rfl, Nat.le_of_ble_eq_true rfl, Nat.le_of_ble_eq_true rfl⟩ 0 rfl rfl [0, 1, 2, 3, 4, 5, 6] [] [0, 1, 2, 3, 4, 5, 6] rfl (by decide) rfl (by decide) (by decide) (fun _ => rfl) (by decide) (Nat.le_of_ble_eq_true rfl) rfl (fun _ => rfl) dX5_set_83 rfl (fun _ u83_4 hf => ?_)
      refine j_aload_n (pc' := 87) hX dX5_set_86 rfl 0 rfl rfl ?_
      refine j_get (ci := 5) (pc' := 90) hX hin5 rfl 0 rfl 0 (by decide) hl_7 rfl dX5_set_87 rfl ?_
      refine j_iload_n (pc' := 91) hX dX5_set_90 rfl 1 rfl rfl ?_
      refine j_iald (pc' := 92) hX 1 rfl dX5_set_91 hf rfl (fun hf => ?_)
      refine j_istore_n (pc' := 93) (lv' := [(3, .int (u83_4.1 p0.toNatClampNeg)), (0, .ref d0), (1, .int p0), (2, .int p1)]) hX dX5_set_92 rfl (by decide) rfl rfl ?_
      refine j_aload_n (pc' := 94) hX dX5_set_93 rfl 1 rfl rfl ?_
      refine j_get (ci := 5) (pc' := 97) hX hin5 rfl 0 rfl 0 (by decide) hl_7 rfl dX5_set_94 rfl ?_
      refine j_iload_n (pc' := 98) hX dX5_set_97 rfl 2 rfl rfl ?_
      refine j_iload_n (pc' := 99) hX dX5_set_98 rfl 3 rfl rfl ?_
      obtain ⟨vd_5, evd_5⟩ : ∃ z : Md, z = md_now u83_4 (upd u83_4.1 p0.toNatClampNeg p1) := ⟨_, rfl⟩
      refine j_iast (pc' := 100) (ws' := (MdW g d0 d1 d2 d3 d4 d5 d6 vd_5)) hX hW 1 rfl dX5_set_99 hf (by subst evd_5; rfl) rfl (fun hf => ?_)
      replace hf := hf vd_5 evd_5
      refine j_iload_n (pc' := 101) hX dX5_set_100 rfl 0 rfl rfl ?_
      exact j_iret hX hR dX5_set_101 ⟨_, _, rfl, hf, rfl⟩
    · refine j_aload_n (pc' := 67) hX dX5_set_66 rfl 0 rfl rfl ?_
      refine j_get (ci := 5) (pc' := 70) hX hin5 rfl 0 rfl 0 (by decide) hl_7 rfl dX5_set_67 rfl ?_
      refine j_callSR (pc' := 73) (As := [.ref d1]) (rest := []) (stk := fun r70 => [.int r70]) hX (fun l => met_X5_all l g d1 vd_62.1 _ hf) rfl gX5_set_X5_all yoX5_all rfl ⟨Nat.le_of_ble_eq_true rfl, Nat.le_of_ble_eq_true rfl⟩ ⟨⟨Nat.le_of_ble_eq_true rfl, Nat.le_of_ble_eq_true rfl⟩, rfl, rfl⟩ [1] rfl (by decide) (Nat.le_of_ble_eq_true rfl) rfl (fun _ => rfl) dX5_set_70 rfl (fun r70 hf => ?_)
      refine j_if_le (tgt := 82) (pc' := 76) hX dX5_set_73 (by decide) rfl hf (fun hf => ?_) (fun hf => ?_)
      · refine j_aload_n (pc' := 83) hX dX5_set_82 rfl 0 rfl rfl ?_
        refine j_callVM (ci := 5) (pc' := 86) (k' := 0) (n' := 0) (As := []) (rest := []) (stk := fun _ => []) (ws' := fun u83_1 => (MdW g d0 d1 d2 d3 d4 d5 d6 u83_1)) (wr := ([] : va_W)) hX hW (fun l => met_X5_saves l g d0 d1 d2 d3 d4 d5 d6 vd_62 _ hf) rfl gX5_set_X5_saves yoX5_saves rfl ⟨Nat.le_of_ble_eq_true rfl, Nat.le_of_ble_eq_true rfl⟩ ⟨Nat.le_of_ble_eq_true rfl, Nat.le_of_ble_eq_true rfl, Nat.le_of_ble_eq_true rfl, Nat.le_of_ble_eq_true rfl⟩ 0 rfl rfl [0, 1, 2, 3, 4, 5, 6] [] [0, 1, 2, 3, 4, 5, 6] rfl (by decide) rfl (by decide) (by decide) (fun _ => rfl) (by decide) (Nat.le_of_ble_eq_true rfl) rfl (fun _ => rfl) dX5_set_83 rfl (fun _ u83_1 hf => ?_)
        refine j_aload_n (pc' := 87) hX dX5_set_86 rfl 0 rfl rfl ?_
        refine j_get (ci := 5) (pc' := 90) hX hin5 rfl 0 rfl 0 (by decide) hl_7 rfl dX5_set_87 rfl ?_
        refine j_iload_n (pc' := 91) hX dX5_set_90 rfl 1 rfl rfl ?_
        refine j_iald (pc' := 92) hX 1 rfl dX5_set_91 hf rfl (fun hf => ?_)
        refine j_istore_n (pc' := 93) (lv' := [(3, .int (u83_1.1 p0.toNatClampNeg)), (0, .ref d0), (1, .int p0), (2, .int p1)]) hX dX5_set_92 rfl (by decide) rfl rfl ?_
        refine j_aload_n (pc' := 94) hX dX5_set_93 rfl 1 rfl rfl ?_
        refine j_get (ci := 5) (pc' := 97) hX hin5 rfl 0 rfl 0 (by decide) hl_7 rfl dX5_set_94 rfl ?_
        refine j_iload_n (pc' := 98) hX dX5_set_97 rfl 2 rfl rfl ?_
        refine j_iload_n (pc' := 99) hX dX5_set_98 rfl 3 rfl rfl ?_
        obtain ⟨vd_2, evd_2⟩ : ∃ z : Md, z = md_now u83_1 (upd u83_1.1 p0.toNatClampNeg p1) := ⟨_, rfl⟩
        refine j_iast (pc' := 100) (ws' := (MdW g d0 d1 d2 d3 d4 d5 d6 vd_2)) hX hW 1 rfl dX5_set_99 hf (by subst evd_2; rfl) rfl (fun hf => ?_)
        replace hf := hf vd_2 evd_2
        refine j_iload_n (pc' := 101) hX dX5_set_100 rfl 0 rfl rfl ?_
        exact j_iret hX hR dX5_set_101 ⟨_, _, rfl, hf, rfl⟩
      · refine j_aload_n (pc' := 77) hX dX5_set_76 rfl 0 rfl rfl ?_
        refine j_iconst (pc' := 78) (v := 3) hX dX5_set_77 (by decide) rfl ?_
        refine j_callVM (ci := 5) (pc' := 81) (k' := 0) (n' := 0) (As := [.int 3]) (rest := []) (stk := fun r78 => [.int r78]) (ws' := fun u78_3 => (MdW g d0 d1 d2 d3 d4 d5 d6 u78_3)) (wr := ([] : va_W)) hX hW (fun l => met_X5_fails l g d0 d1 d2 d3 d4 d5 d6 vd_62 3 _ hf) rfl gX5_set_X5_fails yoX5_fails rfl ⟨Nat.le_of_ble_eq_true rfl, Nat.le_of_ble_eq_true rfl⟩ ⟨Nat.le_of_ble_eq_true rfl, Nat.le_of_ble_eq_true rfl, Nat.le_of_ble_eq_true rfl, Nat.le_of_ble_eq_true rfl⟩ 0 rfl rfl [0, 1, 2, 3, 4, 5, 6] [] [0, 1, 2, 3, 4, 5, 6] rfl (by decide) rfl (by decide) (by decide) (fun _ => rfl) (by decide) (Nat.le_of_ble_eq_true rfl) rfl (fun _ => rfl) dX5_set_78 rfl (fun r78 u78_3 hf => ?_)
        exact j_iret hX hR dX5_set_81 ⟨_, _, rfl, hf, rfl⟩
  refine j_aload_n (pc' := 1) hX dX5_set_0 rfl 0 rfl rfl ?_
  refine j_iconst (pc' := 2) (v := 0) hX dX5_set_1 (by decide) rfl ?_
  obtain ⟨vd_6, evd_6⟩ : ∃ z : Md, z = md_thrown vd (0) := ⟨_, rfl⟩
  refine j_put (ci := 5) (pc' := 5) (ws' := (MdW g d0 d1 d2 d3 d4 d5 d6 vd_6)) hX hW hin5 tyX5_ok nmX5 rfl 0 rfl 6 (by decide) hl_28 rfl rfl rfl (Nat.le_of_ble_eq_true rfl) dX5_set_2 (by subst evd_6; rfl) rfl ?_
  replace hf := hf vd_6 evd_6
  refine j_iload_n (pc' := 6) hX dX5_set_5 rfl 1 rfl rfl ?_
  refine j_iconst (pc' := 7) (v := 0) hX dX5_set_6 (by decide) rfl ?_
  refine j_iconst (pc' := 8) (v := 2) hX dX5_set_7 (by decide) rfl ?_
  refine j_callSR (pc' := 11) (As := [.int p0, .int 0, .int 2]) (rest := []) (stk := fun r8 => [.int r8]) hX (fun l => met_X5_in l g p0 0 2 _ hf) rfl gX5_set_X5_in yoX5_in rfl ⟨Nat.le_of_ble_eq_true rfl, Nat.le_of_ble_eq_true rfl⟩ ⟨⟨Nat.le_of_ble_eq_true rfl, Nat.le_of_ble_eq_true rfl⟩, rfl, rfl⟩ [] rfl (by decide) (Nat.le_of_ble_eq_true rfl) rfl (fun _ => rfl) dX5_set_8 rfl (fun r8 hf => ?_)
  refine j_if_ne (tgt := 20) (pc' := 14) hX dX5_set_11 (by decide) rfl hf (fun hf => ?_) (fun hf => ?_)
  · refine j_iload_n (pc' := 21) hX dX5_set_20 rfl 1 rfl rfl ?_
    refine j_if_ne (tgt := 38) (pc' := 24) hX dX5_set_21 (by decide) rfl hf (fun hf => ?_) (fun hf => ?_)
    · refine j_iload_n (pc' := 39) hX dX5_set_38 rfl 2 rfl rfl ?_
      refine j_iconst (pc' := 40) (v := 0) hX dX5_set_39 (by decide) rfl ?_
      refine j_iload_n (pc' := 41) hX dX5_set_40 rfl 1 rfl rfl ?_
      refine j_iconst (pc' := 42) (v := 1) hX dX5_set_41 (by decide) rfl ?_
      refine j_icmp_ne (tgt := 49) (pc' := 45) hX dX5_set_42 (by decide) rfl hf (fun hf => ?_) (fun hf => ?_)
      · refine j_iconst (pc' := 50) (v := 1) hX dX5_set_49 (by decide) rfl ?_
        refine j_callSR (pc' := 53) (As := [.int p1, .int 0, .int 1]) (rest := []) (stk := fun r50 => [.int r50]) hX (fun l => met_X5_in l g p1 0 1 _ hf) rfl gX5_set_X5_in yoX5_in rfl ⟨Nat.le_of_ble_eq_true rfl, Nat.le_of_ble_eq_true rfl⟩ ⟨⟨Nat.le_of_ble_eq_true rfl, Nat.le_of_ble_eq_true rfl⟩, rfl, rfl⟩ [] rfl (by decide) (Nat.le_of_ble_eq_true rfl) rfl (fun _ => rfl) dX5_set_50 rfl (fun r50 hf => ?_)
        refine j_if_ne (tgt := 62) (pc' := 56) hX dX5_set_53 (by decide) rfl hf (fun hf => ?_) (fun hf => ?_)
        · exact J62 vd_6 hf
        · refine j_aload_n (pc' := 57) hX dX5_set_56 rfl 0 rfl rfl ?_
          refine j_iconst (pc' := 58) (v := 2) hX dX5_set_57 (by decide) rfl ?_
          refine j_callVM (ci := 5) (pc' := 61) (k' := 0) (n' := 0) (As := [.int 2]) (rest := []) (stk := fun r58 => [.int r58]) (ws' := fun u58_10 => (MdW g d0 d1 d2 d3 d4 d5 d6 u58_10)) (wr := ([] : va_W)) hX hW (fun l => met_X5_fails l g d0 d1 d2 d3 d4 d5 d6 vd_6 2 _ hf) rfl gX5_set_X5_fails yoX5_fails rfl ⟨Nat.le_of_ble_eq_true rfl, Nat.le_of_ble_eq_true rfl⟩ ⟨Nat.le_of_ble_eq_true rfl, Nat.le_of_ble_eq_true rfl, Nat.le_of_ble_eq_true rfl, Nat.le_of_ble_eq_true rfl⟩ 0 rfl rfl [0, 1, 2, 3, 4, 5, 6] [] [0, 1, 2, 3, 4, 5, 6] rfl (by decide) rfl (by decide) (by decide) (fun _ => rfl) (by decide) (Nat.le_of_ble_eq_true rfl) rfl (fun _ => rfl) dX5_set_58 rfl (fun r58 u58_10 hf => ?_)
          exact j_iret hX hR dX5_set_61 ⟨_, _, rfl, hf, rfl⟩
      · refine j_iconst (pc' := 46) (v := 2) hX dX5_set_45 (by decide) rfl ?_
        refine j_goto (tgt := 50) hX dX5_set_46 (by decide) ?_
        refine j_callSR (pc' := 53) (As := [.int p1, .int 0, .int 2]) (rest := []) (stk := fun r50 => [.int r50]) hX (fun l => met_X5_in l g p1 0 2 _ hf) rfl gX5_set_X5_in yoX5_in rfl ⟨Nat.le_of_ble_eq_true rfl, Nat.le_of_ble_eq_true rfl⟩ ⟨⟨Nat.le_of_ble_eq_true rfl, Nat.le_of_ble_eq_true rfl⟩, rfl, rfl⟩ [] rfl (by decide) (Nat.le_of_ble_eq_true rfl) rfl (fun _ => rfl) dX5_set_50 rfl (fun r50 hf => ?_)
        refine j_if_ne (tgt := 62) (pc' := 56) hX dX5_set_53 (by decide) rfl hf (fun hf => ?_) (fun hf => ?_)
        · exact J62 vd_6 hf
        · refine j_aload_n (pc' := 57) hX dX5_set_56 rfl 0 rfl rfl ?_
          refine j_iconst (pc' := 58) (v := 2) hX dX5_set_57 (by decide) rfl ?_
          refine j_callVM (ci := 5) (pc' := 61) (k' := 0) (n' := 0) (As := [.int 2]) (rest := []) (stk := fun r58 => [.int r58]) (ws' := fun u58_9 => (MdW g d0 d1 d2 d3 d4 d5 d6 u58_9)) (wr := ([] : va_W)) hX hW (fun l => met_X5_fails l g d0 d1 d2 d3 d4 d5 d6 vd_6 2 _ hf) rfl gX5_set_X5_fails yoX5_fails rfl ⟨Nat.le_of_ble_eq_true rfl, Nat.le_of_ble_eq_true rfl⟩ ⟨Nat.le_of_ble_eq_true rfl, Nat.le_of_ble_eq_true rfl, Nat.le_of_ble_eq_true rfl, Nat.le_of_ble_eq_true rfl⟩ 0 rfl rfl [0, 1, 2, 3, 4, 5, 6] [] [0, 1, 2, 3, 4, 5, 6] rfl (by decide) rfl (by decide) (by decide) (fun _ => rfl) (by decide) (Nat.le_of_ble_eq_true rfl) rfl (fun _ => rfl) dX5_set_58 rfl (fun r58 u58_9 hf => ?_)
          exact j_iret hX hR dX5_set_61 ⟨_, _, rfl, hf, rfl⟩
    · refine j_iload_n (pc' := 25) hX dX5_set_24 rfl 2 rfl rfl ?_
      refine j_bipush (pc' := 27) (v := 24) hX dX5_set_25 (by decide) rfl ?_
      refine j_bipush (pc' := 29) (v := 60) hX dX5_set_27 (by decide) rfl ?_
      refine j_callSR (pc' := 32) (As := [.int p1, .int 24, .int 60]) (rest := []) (stk := fun r29 => [.int r29]) hX (fun l => met_X5_in l g p1 24 60 _ hf) rfl gX5_set_X5_in yoX5_in rfl ⟨Nat.le_of_ble_eq_true rfl, Nat.le_of_ble_eq_true rfl⟩ ⟨⟨Nat.le_of_ble_eq_true rfl, Nat.le_of_ble_eq_true rfl⟩, rfl, rfl⟩ [] rfl (by decide) (Nat.le_of_ble_eq_true rfl) rfl (fun _ => rfl) dX5_set_29 rfl (fun r29 hf => ?_)
      refine j_if_eq (tgt := 56) (pc' := 35) hX dX5_set_32 (by decide) rfl hf (fun hf => ?_) (fun hf => ?_)
      · refine j_aload_n (pc' := 57) hX dX5_set_56 rfl 0 rfl rfl ?_
        refine j_iconst (pc' := 58) (v := 2) hX dX5_set_57 (by decide) rfl ?_
        refine j_callVM (ci := 5) (pc' := 61) (k' := 0) (n' := 0) (As := [.int 2]) (rest := []) (stk := fun r58 => [.int r58]) (ws' := fun u58_8 => (MdW g d0 d1 d2 d3 d4 d5 d6 u58_8)) (wr := ([] : va_W)) hX hW (fun l => met_X5_fails l g d0 d1 d2 d3 d4 d5 d6 vd_6 2 _ hf) rfl gX5_set_X5_fails yoX5_fails rfl ⟨Nat.le_of_ble_eq_true rfl, Nat.le_of_ble_eq_true rfl⟩ ⟨Nat.le_of_ble_eq_true rfl, Nat.le_of_ble_eq_true rfl, Nat.le_of_ble_eq_true rfl, Nat.le_of_ble_eq_true rfl⟩ 0 rfl rfl [0, 1, 2, 3, 4, 5, 6] [] [0, 1, 2, 3, 4, 5, 6] rfl (by decide) rfl (by decide) (by decide) (fun _ => rfl) (by decide) (Nat.le_of_ble_eq_true rfl) rfl (fun _ => rfl) dX5_set_58 rfl (fun r58 u58_8 hf => ?_)
        exact j_iret hX hR dX5_set_61 ⟨_, _, rfl, hf, rfl⟩
      · refine j_goto (tgt := 62) hX dX5_set_35 (by decide) ?_
        exact J62 vd_6 hf
  · refine j_aload_n (pc' := 15) hX dX5_set_14 rfl 0 rfl rfl ?_
    refine j_iconst (pc' := 16) (v := 1) hX dX5_set_15 (by decide) rfl ?_
    refine j_callVM (ci := 5) (pc' := 19) (k' := 0) (n' := 0) (As := [.int 1]) (rest := []) (stk := fun r16 => [.int r16]) (ws' := fun u16_7 => (MdW g d0 d1 d2 d3 d4 d5 d6 u16_7)) (wr := ([] : va_W)) hX hW (fun l => met_X5_fails l g d0 d1 d2 d3 d4 d5 d6 vd_6 1 _ hf) rfl gX5_set_X5_fails yoX5_fails rfl ⟨Nat.le_of_ble_eq_true rfl, Nat.le_of_ble_eq_true rfl⟩ ⟨Nat.le_of_ble_eq_true rfl, Nat.le_of_ble_eq_true rfl, Nat.le_of_ble_eq_true rfl, Nat.le_of_ble_eq_true rfl⟩ 0 rfl rfl [0, 1, 2, 3, 4, 5, 6] [] [0, 1, 2, 3, 4, 5, 6] rfl (by decide) rfl (by decide) (by decide) (fun _ => rfl) (by decide) (Nat.le_of_ble_eq_true rfl) rfl (fun _ => rfl) dX5_set_16 rfl (fun r16 u16_7 hf => ?_)
    exact j_iret hX hR dX5_set_19 ⟨_, _, rfl, hf, rfl⟩
def wp_X5_append (vd : Md) (p0 : Int32) (post : Int32 → Md → Prop) : Prop :=
  (∀ vd_1 : Md, vd_1 = md_thrown vd (0) → (wp_X5_in p0 33 126 (fun r10 => ((r10 = 0 → (wp_X5_fails vd_1 1 (fun r18 u18_2 => post r18 u18_2))) ∧ (¬ r10 = 0 → ((vd_1.2.2.2.2.2.2.2.1 = 60 → (wp_X5_fails vd_1 2 (fun r33 u33_3 => post r33 u33_3))) ∧ (¬ vd_1.2.2.2.2.2.2.2.1 = 60 → (vp_in vd_1.2.2.2.2.2.2.2.1 60 ∧ (∀ vd_4 : Md, vd_4 = md_text vd_1 (upd vd_1.2.2.2.1 vd_1.2.2.2.2.2.2.2.1.toNatClampNeg p0) → (∀ vd_5 : Md, vd_5 = md_typed vd_4 ((vd_4.2.2.2.2.2.2.2.1 + 1)) → post vd_5.2.2.2.2.2.2.2.1 vd_5))))))))))
theorem yoX5_append : yOk yX5_append 1 := by decide +kernel
set_option maxHeartbeats 4000000 in
set_option maxRecDepth 100000 in
theorem met_X5_append (l : Launch) (g : JG) (d0 : Nat) (d1 : Nat) (d2 : Nat) (d3 : Nat) (d4 : Nat) (d5 : Nat) (d6 : Nat) (vd : Md) (p0 : Int32) (post : Int32 → Md → Prop) (hf : wp_X5_append vd p0 post) : MetM l yX5_append wsX5_append ({ frames := 1, cells := 0, slots := 0, locals := 22 } : Room) [.ref d0, .int p0] g (MdW g d0 d1 d2 d3 d4 d5 d6 vd) mkI post (fun u : Md => (MdW g d0 d1 d2 d3 d4 d5 d6 u)) := by
  have hin5 : ∀ w ∈ u_ws RX5 TX5 12, w ∈ wsX5_append := by decide +kernel
  have hl_28 : Cond.fieldLink RX5 28 (TX5 6).1 (TX5 6).2.1 (TX5 6).2.2.1 ∈ wsX5_append := by decide +kernel
  have hl_114 : Cond.fieldLink RX5 114 (TX5 5).1 (TX5 5).2.1 (TX5 5).2.2.1 ∈ wsX5_append := by decide +kernel
  have hl_19 : Cond.fieldLink RX5 19 (TX5 4).1 (TX5 4).2.1 (TX5 4).2.2.1 ∈ wsX5_append := by decide +kernel
  refine enterM (own := RX5) (cc := cX5_append) (nL := 2) (ret := (some .int)) (lv := [(0, .ref d0), (1, .int p0)]) (by decide) rfl rfl (Nat.le_of_ble_eq_true rfl) rfl (fun X hX hW hR => ?_)
  unfold wp_X5_append at hf
  refine j_aload_n (pc' := 1) hX dX5_append_0 rfl 0 rfl rfl ?_
  refine j_iconst (pc' := 2) (v := 0) hX dX5_append_1 (by decide) rfl ?_
  obtain ⟨vd_1, evd_1⟩ : ∃ z : Md, z = md_thrown vd (0) := ⟨_, rfl⟩
  refine j_put (ci := 5) (pc' := 5) (ws' := (MdW g d0 d1 d2 d3 d4 d5 d6 vd_1)) hX hW hin5 tyX5_ok nmX5 rfl 0 rfl 6 (by decide) hl_28 rfl rfl rfl (Nat.le_of_ble_eq_true rfl) dX5_append_2 (by subst evd_1; rfl) rfl ?_
  replace hf := hf vd_1 evd_1
  refine j_iload_n (pc' := 6) hX dX5_append_5 rfl 1 rfl rfl ?_
  refine j_bipush (pc' := 8) (v := 33) hX dX5_append_6 (by decide) rfl ?_
  refine j_bipush (pc' := 10) (v := 126) hX dX5_append_8 (by decide) rfl ?_
  refine j_callSR (pc' := 13) (As := [.int p0, .int 33, .int 126]) (rest := []) (stk := fun r10 => [.int r10]) hX (fun l => met_X5_in l g p0 33 126 _ hf) rfl gX5_append_X5_in yoX5_in rfl ⟨Nat.le_of_ble_eq_true rfl, Nat.le_of_ble_eq_true rfl⟩ ⟨⟨Nat.le_of_ble_eq_true rfl, Nat.le_of_ble_eq_true rfl⟩, rfl, rfl⟩ [] rfl (by decide) (Nat.le_of_ble_eq_true rfl) rfl (fun _ => rfl) dX5_append_10 rfl (fun r10 hf => ?_)
  refine j_if_ne (tgt := 22) (pc' := 16) hX dX5_append_13 (by decide) rfl hf (fun hf => ?_) (fun hf => ?_)
  · refine j_aload_n (pc' := 23) hX dX5_append_22 rfl 0 rfl rfl ?_
    refine j_get (ci := 5) (pc' := 26) hX hin5 rfl 0 rfl 5 (by decide) hl_114 rfl dX5_append_23 rfl ?_
    refine j_bipush (pc' := 28) (v := 60) hX dX5_append_26 (by decide) rfl ?_
    refine j_icmp_ne (tgt := 37) (pc' := 31) hX dX5_append_28 (by decide) rfl hf (fun hf => ?_) (fun hf => ?_)
    · refine j_aload_n (pc' := 38) hX dX5_append_37 rfl 0 rfl rfl ?_
      refine j_get (ci := 5) (pc' := 41) hX hin5 rfl 0 rfl 4 (by decide) hl_19 rfl dX5_append_38 rfl ?_
      refine j_aload_n (pc' := 42) hX dX5_append_41 rfl 0 rfl rfl ?_
      refine j_get (ci := 5) (pc' := 45) hX hin5 rfl 0 rfl 5 (by decide) hl_114 rfl dX5_append_42 rfl ?_
      refine j_iload_n (pc' := 46) hX dX5_append_45 rfl 1 rfl rfl ?_
      obtain ⟨vd_4, evd_4⟩ : ∃ z : Md, z = md_text vd_1 (upd vd_1.2.2.2.1 vd_1.2.2.2.2.2.2.2.1.toNatClampNeg p0) := ⟨_, rfl⟩
      refine j_iast (pc' := 47) (ws' := (MdW g d0 d1 d2 d3 d4 d5 d6 vd_4)) hX hW 4 rfl dX5_append_46 hf (by subst evd_4; rfl) rfl (fun hf => ?_)
      replace hf := hf vd_4 evd_4
      refine j_aload_n (pc' := 48) hX dX5_append_47 rfl 0 rfl rfl ?_
      refine j_dup (pc' := 49) hX dX5_append_48 rfl rfl ?_
      refine j_get (ci := 5) (pc' := 52) hX hin5 rfl 0 rfl 5 (by decide) hl_114 rfl dX5_append_49 rfl ?_
      refine j_iconst (pc' := 53) (v := 1) hX dX5_append_52 (by decide) rfl ?_
      refine j_iadd (pc' := 54) hX dX5_append_53 rfl ?_
      obtain ⟨vd_5, evd_5⟩ : ∃ z : Md, z = md_typed vd_4 ((vd_4.2.2.2.2.2.2.2.1 + 1)) := ⟨_, rfl⟩
      refine j_put (ci := 5) (pc' := 57) (ws' := (MdW g d0 d1 d2 d3 d4 d5 d6 vd_5)) hX hW hin5 tyX5_ok nmX5 rfl 0 rfl 5 (by decide) hl_114 rfl rfl rfl (Nat.le_of_ble_eq_true rfl) dX5_append_54 (by subst evd_5; rfl) rfl ?_
      replace hf := hf vd_5 evd_5
      refine j_aload_n (pc' := 58) hX dX5_append_57 rfl 0 rfl rfl ?_
      refine j_get (ci := 5) (pc' := 61) hX hin5 rfl 0 rfl 5 (by decide) hl_114 rfl dX5_append_58 rfl ?_
      exact j_iret hX hR dX5_append_61 ⟨_, _, rfl, hf, rfl⟩
    · refine j_aload_n (pc' := 32) hX dX5_append_31 rfl 0 rfl rfl ?_
      refine j_iconst (pc' := 33) (v := 2) hX dX5_append_32 (by decide) rfl ?_
      refine j_callVM (ci := 5) (pc' := 36) (k' := 0) (n' := 0) (As := [.int 2]) (rest := []) (stk := fun r33 => [.int r33]) (ws' := fun u33_3 => (MdW g d0 d1 d2 d3 d4 d5 d6 u33_3)) (wr := ([] : va_W)) hX hW (fun l => met_X5_fails l g d0 d1 d2 d3 d4 d5 d6 vd_1 2 _ hf) rfl gX5_append_X5_fails yoX5_fails rfl ⟨Nat.le_of_ble_eq_true rfl, Nat.le_of_ble_eq_true rfl⟩ ⟨Nat.le_of_ble_eq_true rfl, Nat.le_of_ble_eq_true rfl, Nat.le_of_ble_eq_true rfl, Nat.le_of_ble_eq_true rfl⟩ 0 rfl rfl [0, 1, 2, 3, 4, 5, 6] [] [0, 1, 2, 3, 4, 5, 6] rfl (by decide) rfl (by decide) (by decide) (fun _ => rfl) (by decide) (Nat.le_of_ble_eq_true rfl) rfl (fun _ => rfl) dX5_append_33 rfl (fun r33 u33_3 hf => ?_)
      exact j_iret hX hR dX5_append_36 ⟨_, _, rfl, hf, rfl⟩
  · refine j_aload_n (pc' := 17) hX dX5_append_16 rfl 0 rfl rfl ?_
    refine j_iconst (pc' := 18) (v := 1) hX dX5_append_17 (by decide) rfl ?_
    refine j_callVM (ci := 5) (pc' := 21) (k' := 0) (n' := 0) (As := [.int 1]) (rest := []) (stk := fun r18 => [.int r18]) (ws' := fun u18_2 => (MdW g d0 d1 d2 d3 d4 d5 d6 u18_2)) (wr := ([] : va_W)) hX hW (fun l => met_X5_fails l g d0 d1 d2 d3 d4 d5 d6 vd_1 1 _ hf) rfl gX5_append_X5_fails yoX5_fails rfl ⟨Nat.le_of_ble_eq_true rfl, Nat.le_of_ble_eq_true rfl⟩ ⟨Nat.le_of_ble_eq_true rfl, Nat.le_of_ble_eq_true rfl, Nat.le_of_ble_eq_true rfl, Nat.le_of_ble_eq_true rfl⟩ 0 rfl rfl [0, 1, 2, 3, 4, 5, 6] [] [0, 1, 2, 3, 4, 5, 6] rfl (by decide) rfl (by decide) (by decide) (fun _ => rfl) (by decide) (Nat.le_of_ble_eq_true rfl) rfl (fun _ => rfl) dX5_append_18 rfl (fun r18 u18_2 hf => ?_)
    exact j_iret hX hR dX5_append_21 ⟨_, _, rfl, hf, rfl⟩
def wp_X5_clearBuffer (vd : Md) (post : Int32 → Md → Prop) : Prop :=
  (∀ vd_1 : Md, vd_1 = md_thrown vd (0) → (∀ vd_2 : Md, vd_2 = md_typed vd_1 (0) → post vd_1.2.2.2.2.2.2.2.1 vd_2))
theorem yoX5_clearBuffer : yOk yX5_clearBuffer 0 := by decide +kernel
set_option maxHeartbeats 4000000 in
set_option maxRecDepth 100000 in
theorem met_X5_clearBuffer (l : Launch) (g : JG) (d0 : Nat) (d1 : Nat) (d2 : Nat) (d3 : Nat) (d4 : Nat) (d5 : Nat) (d6 : Nat) (vd : Md) (post : Int32 → Md → Prop) (hf : wp_X5_clearBuffer vd post) : MetM l yX5_clearBuffer wsX5_clearBuffer ({ frames := 0, cells := 0, slots := 0, locals := 0 } : Room) [.ref d0] g (MdW g d0 d1 d2 d3 d4 d5 d6 vd) mkI post (fun u : Md => (MdW g d0 d1 d2 d3 d4 d5 d6 u)) := by
  have hin5 : ∀ w ∈ u_ws RX5 TX5 12, w ∈ wsX5_clearBuffer := by decide +kernel
  have hl_28 : Cond.fieldLink RX5 28 (TX5 6).1 (TX5 6).2.1 (TX5 6).2.2.1 ∈ wsX5_clearBuffer := by decide +kernel
  have hl_114 : Cond.fieldLink RX5 114 (TX5 5).1 (TX5 5).2.1 (TX5 5).2.2.1 ∈ wsX5_clearBuffer := by decide +kernel
  refine enterM (own := RX5) (cc := cX5_clearBuffer) (nL := 2) (ret := (some .int)) (lv := [(0, .ref d0)]) (by decide) rfl rfl (Nat.le_of_ble_eq_true rfl) rfl (fun X hX hW hR => ?_)
  unfold wp_X5_clearBuffer at hf
  refine j_aload_n (pc' := 1) hX dX5_clearBuffer_0 rfl 0 rfl rfl ?_
  refine j_iconst (pc' := 2) (v := 0) hX dX5_clearBuffer_1 (by decide) rfl ?_
  obtain ⟨vd_1, evd_1⟩ : ∃ z : Md, z = md_thrown vd (0) := ⟨_, rfl⟩
  refine j_put (ci := 5) (pc' := 5) (ws' := (MdW g d0 d1 d2 d3 d4 d5 d6 vd_1)) hX hW hin5 tyX5_ok nmX5 rfl 0 rfl 6 (by decide) hl_28 rfl rfl rfl (Nat.le_of_ble_eq_true rfl) dX5_clearBuffer_2 (by subst evd_1; rfl) rfl ?_
  replace hf := hf vd_1 evd_1
  refine j_aload_n (pc' := 6) hX dX5_clearBuffer_5 rfl 0 rfl rfl ?_
  refine j_get (ci := 5) (pc' := 9) hX hin5 rfl 0 rfl 5 (by decide) hl_114 rfl dX5_clearBuffer_6 rfl ?_
  refine j_istore_n (pc' := 10) (lv' := [(1, .int vd_1.2.2.2.2.2.2.2.1), (0, .ref d0)]) hX dX5_clearBuffer_9 rfl (by decide) rfl rfl ?_
  refine j_aload_n (pc' := 11) hX dX5_clearBuffer_10 rfl 1 rfl rfl ?_
  refine j_iconst (pc' := 12) (v := 0) hX dX5_clearBuffer_11 (by decide) rfl ?_
  obtain ⟨vd_2, evd_2⟩ : ∃ z : Md, z = md_typed vd_1 (0) := ⟨_, rfl⟩
  refine j_put (ci := 5) (pc' := 15) (ws' := (MdW g d0 d1 d2 d3 d4 d5 d6 vd_2)) hX hW hin5 tyX5_ok nmX5 rfl 0 rfl 5 (by decide) hl_114 rfl rfl rfl (Nat.le_of_ble_eq_true rfl) dX5_clearBuffer_12 (by subst evd_2; rfl) rfl ?_
  replace hf := hf vd_2 evd_2
  refine j_iload_n (pc' := 16) hX dX5_clearBuffer_15 rfl 0 rfl rfl ?_
  exact j_iret hX hR dX5_clearBuffer_16 ⟨_, _, rfl, hf, rfl⟩
def wp_X5_isAt (vd : Md) (p0 : Int32) (p1 : Int32) (post : Int32 → Prop) : Prop :=
  ((vd.2.2.2.2.2.2.2.1 ≤ vd.2.2.2.2.2.2.2.2.2.1 → post 0) ∧ (¬ vd.2.2.2.2.2.2.2.1 ≤ vd.2.2.2.2.2.2.2.2.2.1 → (vp_in vd.2.2.2.2.2.2.2.2.2.1 60 ∧ (wp_X5_in (vd.2.2.2.1 vd.2.2.2.2.2.2.2.2.2.1.toNatClampNeg) p0 p1 (fun r22 => ((r22 = 0 → post 0) ∧ (¬ r22 = 0 → post 1)))))))
theorem yoX5_isAt : yOk yX5_isAt 2 := by decide +kernel
set_option maxHeartbeats 4000000 in
set_option maxRecDepth 100000 in
theorem met_X5_isAt (l : Launch) (g : JG) (d0 : Nat) (d1 : Nat) (d2 : Nat) (d3 : Nat) (d4 : Nat) (d5 : Nat) (d6 : Nat) (vd : Md) (p0 : Int32) (p1 : Int32) (post : Int32 → Prop) (hf : wp_X5_isAt vd p0 p1 post) : MetR l yX5_isAt wsX5_isAt ({ frames := 1, cells := 0, slots := 0, locals := 22 } : Room) [.ref d0, .int p0, .int p1] g (MdW g d0 d1 d2 d3 d4 d5 d6 vd) mkI post := by
  have hin5 : ∀ w ∈ u_ws RX5 TX5 12, w ∈ wsX5_isAt := by decide +kernel
  have hl_117 : Cond.fieldLink RX5 117 (TX5 7).1 (TX5 7).2.1 (TX5 7).2.2.1 ∈ wsX5_isAt := by decide +kernel
  have hl_114 : Cond.fieldLink RX5 114 (TX5 5).1 (TX5 5).2.1 (TX5 5).2.2.1 ∈ wsX5_isAt := by decide +kernel
  have hl_19 : Cond.fieldLink RX5 19 (TX5 4).1 (TX5 4).2.1 (TX5 4).2.2.1 ∈ wsX5_isAt := by decide +kernel
  refine enterR (own := RX5) (cc := cX5_isAt) (nL := 3) (ret := (some .boolean)) (lv := [(0, .ref d0), (1, .int p0), (2, .int p1)]) (by decide) rfl rfl (Nat.le_of_ble_eq_true rfl) rfl (fun X hX hR => ?_)
  unfold wp_X5_isAt at hf
  refine j_aload_n (pc' := 1) hX dX5_isAt_0 rfl 0 rfl rfl ?_
  refine j_get (ci := 5) (pc' := 4) hX hin5 rfl 0 rfl 7 (by decide) hl_117 rfl dX5_isAt_1 rfl ?_
  refine j_aload_n (pc' := 5) hX dX5_isAt_4 rfl 0 rfl rfl ?_
  refine j_get (ci := 5) (pc' := 8) hX hin5 rfl 0 rfl 5 (by decide) hl_114 rfl dX5_isAt_5 rfl ?_
  refine j_icmp_ge (tgt := 32) (pc' := 11) hX dX5_isAt_8 (by decide) rfl hf (fun hf => ?_) (fun hf => ?_)
  · refine j_iconst (pc' := 33) (v := 0) hX dX5_isAt_32 (by decide) rfl ?_
    exact j_zret hX hR rfl dX5_isAt_33 ⟨_, rfl, hf⟩
  · refine j_aload_n (pc' := 12) hX dX5_isAt_11 rfl 0 rfl rfl ?_
    refine j_get (ci := 5) (pc' := 15) hX hin5 rfl 0 rfl 4 (by decide) hl_19 rfl dX5_isAt_12 rfl ?_
    refine j_aload_n (pc' := 16) hX dX5_isAt_15 rfl 0 rfl rfl ?_
    refine j_get (ci := 5) (pc' := 19) hX hin5 rfl 0 rfl 7 (by decide) hl_117 rfl dX5_isAt_16 rfl ?_
    refine j_iald (pc' := 20) hX 4 rfl dX5_isAt_19 hf rfl (fun hf => ?_)
    refine j_iload_n (pc' := 21) hX dX5_isAt_20 rfl 1 rfl rfl ?_
    refine j_iload_n (pc' := 22) hX dX5_isAt_21 rfl 2 rfl rfl ?_
    refine j_callSR (pc' := 25) (As := [.int (vd.2.2.2.1 vd.2.2.2.2.2.2.2.2.2.1.toNatClampNeg), .int p0, .int p1]) (rest := []) (stk := fun r22 => [.int r22]) hX (fun l => met_X5_in l g (vd.2.2.2.1 vd.2.2.2.2.2.2.2.2.2.1.toNatClampNeg) p0 p1 _ hf) rfl gX5_isAt_X5_in yoX5_in rfl ⟨Nat.le_of_ble_eq_true rfl, Nat.le_of_ble_eq_true rfl⟩ ⟨⟨Nat.le_of_ble_eq_true rfl, Nat.le_of_ble_eq_true rfl⟩, rfl, rfl⟩ [] rfl (by decide) (Nat.le_of_ble_eq_true rfl) rfl (fun _ => rfl) dX5_isAt_22 rfl (fun r22 hf => ?_)
    refine j_if_eq (tgt := 32) (pc' := 28) hX dX5_isAt_25 (by decide) rfl hf (fun hf => ?_) (fun hf => ?_)
    · refine j_iconst (pc' := 33) (v := 0) hX dX5_isAt_32 (by decide) rfl ?_
      exact j_zret hX hR rfl dX5_isAt_33 ⟨_, rfl, hf⟩
    · refine j_iconst (pc' := 29) (v := 1) hX dX5_isAt_28 (by decide) rfl ?_
      refine j_goto (tgt := 33) hX dX5_isAt_29 (by decide) ?_
      exact j_zret hX hR rfl dX5_isAt_33 ⟨_, rfl, hf⟩
def wp_X5_stops (vd : Md) (post : Int32 → Md → Prop) : Prop :=
  ((vd.2.2.2.2.2.2.2.1 ≤ vd.2.2.2.2.2.2.2.2.2.1 → (∀ vd_1 : Md, vd_1 = md_isFault vd (0) → post 0 vd_1)) ∧ (¬ vd.2.2.2.2.2.2.2.1 ≤ vd.2.2.2.2.2.2.2.2.2.1 → (∀ vd_2 : Md, vd_2 = md_isFault vd (1) → post 0 vd_2)))
theorem yoX5_stops : yOk yX5_stops 0 := by decide +kernel
set_option maxHeartbeats 4000000 in
set_option maxRecDepth 100000 in
theorem met_X5_stops (l : Launch) (g : JG) (d0 : Nat) (d1 : Nat) (d2 : Nat) (d3 : Nat) (d4 : Nat) (d5 : Nat) (d6 : Nat) (vd : Md) (post : Int32 → Md → Prop) (hf : wp_X5_stops vd post) : MetM l yX5_stops wsX5_stops ({ frames := 0, cells := 0, slots := 0, locals := 0 } : Room) [.ref d0] g (MdW g d0 d1 d2 d3 d4 d5 d6 vd) mkI post (fun u : Md => (MdW g d0 d1 d2 d3 d4 d5 d6 u)) := by
  have hin5 : ∀ w ∈ u_ws RX5 TX5 12, w ∈ wsX5_stops := by decide +kernel
  have hl_117 : Cond.fieldLink RX5 117 (TX5 7).1 (TX5 7).2.1 (TX5 7).2.2.1 ∈ wsX5_stops := by decide +kernel
  have hl_114 : Cond.fieldLink RX5 114 (TX5 5).1 (TX5 5).2.1 (TX5 5).2.2.1 ∈ wsX5_stops := by decide +kernel
  have hl_120 : Cond.fieldLink RX5 120 (TX5 8).1 (TX5 8).2.1 (TX5 8).2.2.1 ∈ wsX5_stops := by decide +kernel
  refine enterM (own := RX5) (cc := cX5_stops) (nL := 1) (ret := (some .boolean)) (lv := [(0, .ref d0)]) (by decide) rfl rfl (Nat.le_of_ble_eq_true rfl) rfl (fun X hX hW hR => ?_)
  unfold wp_X5_stops at hf
  refine j_aload_n (pc' := 1) hX dX5_stops_0 rfl 0 rfl rfl ?_
  refine j_aload_n (pc' := 2) hX dX5_stops_1 rfl 0 rfl rfl ?_
  refine j_get (ci := 5) (pc' := 5) hX hin5 rfl 0 rfl 7 (by decide) hl_117 rfl dX5_stops_2 rfl ?_
  refine j_aload_n (pc' := 6) hX dX5_stops_5 rfl 0 rfl rfl ?_
  refine j_get (ci := 5) (pc' := 9) hX hin5 rfl 0 rfl 5 (by decide) hl_114 rfl dX5_stops_6 rfl ?_
  refine j_icmp_ge (tgt := 16) (pc' := 12) hX dX5_stops_9 (by decide) rfl hf (fun hf => ?_) (fun hf => ?_)
  · refine j_iconst (pc' := 17) (v := 0) hX dX5_stops_16 (by decide) rfl ?_
    obtain ⟨vd_1, evd_1⟩ : ∃ z : Md, z = md_isFault vd (0) := ⟨_, rfl⟩
    refine j_put (ci := 5) (pc' := 20) (ws' := (MdW g d0 d1 d2 d3 d4 d5 d6 vd_1)) hX hW hin5 tyX5_ok nmX5 rfl 0 rfl 8 (by decide) hl_120 rfl rfl rfl (Nat.le_of_ble_eq_true rfl) dX5_stops_17 (by subst evd_1; rfl) rfl ?_
    replace hf := hf vd_1 evd_1
    refine j_iconst (pc' := 21) (v := 0) hX dX5_stops_20 (by decide) rfl ?_
    exact j_zret hX hR rfl dX5_stops_21 ⟨_, _, rfl, hf, rfl⟩
  · refine j_iconst (pc' := 13) (v := 1) hX dX5_stops_12 (by decide) rfl ?_
    refine j_goto (tgt := 17) hX dX5_stops_13 (by decide) ?_
    obtain ⟨vd_2, evd_2⟩ : ∃ z : Md, z = md_isFault vd (1) := ⟨_, rfl⟩
    refine j_put (ci := 5) (pc' := 20) (ws' := (MdW g d0 d1 d2 d3 d4 d5 d6 vd_2)) hX hW hin5 tyX5_ok nmX5 rfl 0 rfl 8 (by decide) hl_120 rfl rfl rfl (Nat.le_of_ble_eq_true rfl) dX5_stops_17 (by subst evd_2; rfl) rfl ?_
    replace hf := hf vd_2 evd_2
    refine j_iconst (pc' := 21) (v := 0) hX dX5_stops_20 (by decide) rfl ?_
    exact j_zret hX hR rfl dX5_stops_21 ⟨_, _, rfl, hf, rfl⟩
def wp_X5_isPart_L55 (vd : Md) (K55_177 : Md → Prop) : Nat → Md → Prop
  | 0, _ => False
  | N55 + 1, vd_55 =>
  (wp_X5_isAt vd_55 49 54 (fun r60 => ((r60 = 0 → K55_177 vd_55) ∧ (¬ r60 = 0 → (vp_in (3 * vd_55.2.2.2.2.2.2.2.2.2.2.2) 180 ∧ (∀ vd_4 : Md, vd_4 = md_told vd_55 (upd vd_55.2.2.2.2.1 (3 * vd_55.2.2.2.2.2.2.2.2.2.2.2).toNatClampNeg ((vd.2.2.2.1 vd.2.2.2.2.2.2.2.2.2.1.toNatClampNeg) - 97)) → (vp_in vd_4.2.2.2.2.2.2.2.2.2.1 60 ∧ (vp_in ((3 * vd_4.2.2.2.2.2.2.2.2.2.2.2) + 1) 180 ∧ (∀ vd_5 : Md, vd_5 = md_told vd_4 (upd vd_4.2.2.2.2.1 ((3 * vd_4.2.2.2.2.2.2.2.2.2.2.2) + 1).toNatClampNeg ((vd_4.2.2.2.1 vd_4.2.2.2.2.2.2.2.2.2.1.toNatClampNeg) - 48)) → (∀ vd_6 : Md, vd_6 = md_at vd_5 ((vd_5.2.2.2.2.2.2.2.2.2.1 + 1)) → (wp_X5_isAt vd_6 33 33 (fun r130 => ((r130 = 0 → (vp_in ((3 * vd_6.2.2.2.2.2.2.2.2.2.2.2) + 2) 180 ∧ (∀ vd_7 : Md, vd_7 = md_told vd_6 (upd vd_6.2.2.2.2.1 ((3 * vd_6.2.2.2.2.2.2.2.2.2.2.2) + 2).toNatClampNeg 0) → (vp_in ((3 * vd_7.2.2.2.2.2.2.2.2.2.2.2) + 2) 180 ∧ (∀ vd_8 : Md, vd_8 = md_at vd_7 ((vd_7.2.2.2.2.2.2.2.2.2.1 + (vd_7.2.2.2.2.1 ((3 * vd_7.2.2.2.2.2.2.2.2.2.2.2) + 2).toNatClampNeg))) → (∀ vd_9 : Md, vd_9 = md_tolds vd_8 ((vd_8.2.2.2.2.2.2.2.2.2.2.2 + 1)) → (wp_X5_isPart_L55 vd K55_177 N55) vd_9)))))) ∧ (¬ r130 = 0 → (vp_in ((3 * vd_6.2.2.2.2.2.2.2.2.2.2.2) + 2) 180 ∧ (∀ vd_10 : Md, vd_10 = md_told vd_6 (upd vd_6.2.2.2.2.1 ((3 * vd_6.2.2.2.2.2.2.2.2.2.2.2) + 2).toNatClampNeg 1) → (vp_in ((3 * vd_10.2.2.2.2.2.2.2.2.2.2.2) + 2) 180 ∧ (∀ vd_11 : Md, vd_11 = md_at vd_10 ((vd_10.2.2.2.2.2.2.2.2.2.1 + (vd_10.2.2.2.2.1 ((3 * vd_10.2.2.2.2.2.2.2.2.2.2.2) + 2).toNatClampNeg))) → (∀ vd_12 : Md, vd_12 = md_tolds vd_11 ((vd_11.2.2.2.2.2.2.2.2.2.2.2 + 1)) → (wp_X5_isPart_L55 vd K55_177 N55) vd_12)))))))))))))))))))
def wp_X5_isPart (vd : Md) (post : Int32 → Md → Prop) : Prop :=
  (wp_X5_isAt vd 97 102 (fun r5 => ((r5 = 0 → (wp_X5_stops vd (fun r12 u12_1 => (narrow .boolean (.int r12) = .int r12 ∧ post r12 u12_1)))) ∧ (¬ r5 = 0 → (vp_in vd.2.2.2.2.2.2.2.2.2.1 60 ∧ (∀ vd_2 : Md, vd_2 = md_at vd ((vd.2.2.2.2.2.2.2.2.2.1 + 1)) → (wp_X5_isAt vd_2 49 54 (fun r44 => ((r44 = 0 → (wp_X5_stops vd_2 (fun r51 u51_3 => (narrow .boolean (.int r51) = .int r51 ∧ post r51 u51_3)))) ∧ (¬ r44 = 0 → (∃ N : Nat, wp_X5_isPart_L55 vd (fun (e13 : Md) => post 1 e13) N vd_2)))))))))))
theorem yoX5_isPart : yOk yX5_isPart 0 := by decide +kernel
set_option maxHeartbeats 4000000 in
set_option maxRecDepth 100000 in
theorem met_X5_isPart (l : Launch) (g : JG) (d0 : Nat) (d1 : Nat) (d2 : Nat) (d3 : Nat) (d4 : Nat) (d5 : Nat) (d6 : Nat) (vd : Md) (post : Int32 → Md → Prop) (hf : wp_X5_isPart vd post) : MetM l yX5_isPart wsX5_isPart ({ frames := 2, cells := 0, slots := 0, locals := 44 } : Room) [.ref d0] g (MdW g d0 d1 d2 d3 d4 d5 d6 vd) mkI post (fun u : Md => (MdW g d0 d1 d2 d3 d4 d5 d6 u)) := by
  have hin5 : ∀ w ∈ u_ws RX5 TX5 12, w ∈ wsX5_isPart := by decide +kernel
  have hl_19 : Cond.fieldLink RX5 19 (TX5 4).1 (TX5 4).2.1 (TX5 4).2.2.1 ∈ wsX5_isPart := by decide +kernel
  have hl_117 : Cond.fieldLink RX5 117 (TX5 7).1 (TX5 7).2.1 (TX5 7).2.2.1 ∈ wsX5_isPart := by decide +kernel
  have hl_22 : Cond.fieldLink RX5 22 (TX5 9).1 (TX5 9).2.1 (TX5 9).2.2.1 ∈ wsX5_isPart := by decide +kernel
  have hl_132 : Cond.fieldLink RX5 132 (TX5 10).1 (TX5 10).2.1 (TX5 10).2.2.1 ∈ wsX5_isPart := by decide +kernel
  refine enterM (own := RX5) (cc := cX5_isPart) (nL := 2) (ret := (some .boolean)) (lv := [(0, .ref d0)]) (by decide) rfl rfl (Nat.le_of_ble_eq_true rfl) rfl (fun X hX hW hR => ?_)
  unfold wp_X5_isPart at hf
  refine j_aload_n (pc' := 1) hX dX5_isPart_0 rfl 0 rfl rfl ?_
  refine j_bipush (pc' := 3) (v := 97) hX dX5_isPart_1 (by decide) rfl ?_
  refine j_bipush (pc' := 5) (v := 102) hX dX5_isPart_3 (by decide) rfl ?_
  refine j_callVR (ci := 5) (pc' := 8) (As := [.int 97, .int 102]) (rest := []) (stk := fun r5 => [.int r5]) hX (fun l => met_X5_isAt l g d0 d1 d2 d3 d4 d5 d6 vd 97 102 _ hf) rfl gX5_isPart_X5_isAt yoX5_isAt rfl ⟨Nat.le_of_ble_eq_true rfl, Nat.le_of_ble_eq_true rfl⟩ ⟨⟨Nat.le_of_ble_eq_true rfl, Nat.le_of_ble_eq_true rfl⟩, rfl, rfl⟩ 0 rfl rfl [0, 1, 2, 3, 4, 5, 6] rfl (by decide) (Nat.le_of_ble_eq_true rfl) rfl (fun _ => rfl) dX5_isPart_5 rfl (fun r5 hf => ?_)
  refine j_if_ne (tgt := 16) (pc' := 11) hX dX5_isPart_8 (by decide) rfl hf (fun hf => ?_) (fun hf => ?_)
  · refine j_aload_n (pc' := 17) hX dX5_isPart_16 rfl 0 rfl rfl ?_
    refine j_get (ci := 5) (pc' := 20) hX hin5 rfl 0 rfl 4 (by decide) hl_19 rfl dX5_isPart_17 rfl ?_
    refine j_aload_n (pc' := 21) hX dX5_isPart_20 rfl 0 rfl rfl ?_
    refine j_get (ci := 5) (pc' := 24) hX hin5 rfl 0 rfl 7 (by decide) hl_117 rfl dX5_isPart_21 rfl ?_
    refine j_iald (pc' := 25) hX 4 rfl dX5_isPart_24 hf rfl (fun hf => ?_)
    refine j_bipush (pc' := 27) (v := 97) hX dX5_isPart_25 (by decide) rfl ?_
    refine j_isub (pc' := 28) hX dX5_isPart_27 rfl ?_
    refine j_istore_n (pc' := 29) (lv' := [(1, .int ((vd.2.2.2.1 vd.2.2.2.2.2.2.2.2.2.1.toNatClampNeg) - 97)), (0, .ref d0)]) hX dX5_isPart_28 rfl (by decide) rfl rfl ?_
    refine j_aload_n (pc' := 30) hX dX5_isPart_29 rfl 1 rfl rfl ?_
    refine j_dup (pc' := 31) hX dX5_isPart_30 rfl rfl ?_
    refine j_get (ci := 5) (pc' := 34) hX hin5 rfl 0 rfl 7 (by decide) hl_117 rfl dX5_isPart_31 rfl ?_
    refine j_iconst (pc' := 35) (v := 1) hX dX5_isPart_34 (by decide) rfl ?_
    refine j_iadd (pc' := 36) hX dX5_isPart_35 rfl ?_
    obtain ⟨vd_2, evd_2⟩ : ∃ z : Md, z = md_at vd ((vd.2.2.2.2.2.2.2.2.2.1 + 1)) := ⟨_, rfl⟩
    refine j_put (ci := 5) (pc' := 39) (ws' := (MdW g d0 d1 d2 d3 d4 d5 d6 vd_2)) hX hW hin5 tyX5_ok nmX5 rfl 0 rfl 7 (by decide) hl_117 rfl rfl rfl (Nat.le_of_ble_eq_true rfl) dX5_isPart_36 (by subst evd_2; rfl) rfl ?_
    replace hf := hf vd_2 evd_2
    refine j_aload_n (pc' := 40) hX dX5_isPart_39 rfl 1 rfl rfl ?_
    refine j_bipush (pc' := 42) (v := 49) hX dX5_isPart_40 (by decide) rfl ?_
    refine j_bipush (pc' := 44) (v := 54) hX dX5_isPart_42 (by decide) rfl ?_
    refine j_callVR (ci := 5) (pc' := 47) (As := [.int 49, .int 54]) (rest := []) (stk := fun r44 => [.int r44]) hX (fun l => met_X5_isAt l g d0 d1 d2 d3 d4 d5 d6 vd_2 49 54 _ hf) rfl gX5_isPart_X5_isAt yoX5_isAt rfl ⟨Nat.le_of_ble_eq_true rfl, Nat.le_of_ble_eq_true rfl⟩ ⟨⟨Nat.le_of_ble_eq_true rfl, Nat.le_of_ble_eq_true rfl⟩, rfl, rfl⟩ 0 rfl rfl [0, 1, 2, 3, 4, 5, 6] rfl (by decide) (Nat.le_of_ble_eq_true rfl) rfl (fun _ => rfl) dX5_isPart_44 rfl (fun r44 hf => ?_)
    refine j_if_ne (tgt := 55) (pc' := 50) hX dX5_isPart_47 (by decide) rfl hf (fun hf => ?_) (fun hf => ?_)
    · obtain ⟨N55, hf⟩ := hf
      have L55 : ∀ (K55_177 : Md → Prop), (∀ (vd_55 : Md), K55_177 vd_55 → J g X 0 0 (MdW g d0 d1 d2 d3 d4 d5 d6 vd_55) [] [] 177) → ∀ (N55 : Nat) (vd_55 : Md), wp_X5_isPart_L55 vd K55_177 N55 vd_55 → J g X 0 0 (MdW g d0 d1 d2 d3 d4 d5 d6 vd_55) [(0, .ref d0), (1, .int ((vd.2.2.2.1 vd.2.2.2.2.2.2.2.2.2.1.toNatClampNeg) - 97))] [] 55 := by
        intro K55_177 hK55_177 N55
        induction N55 with
        | zero => intro vd_55 hf; exact False.elim hf
        | succ N55 ih55 =>
          intro vd_55 hf
          refine j_aload_n (pc' := 56) hX dX5_isPart_55 rfl 0 rfl rfl ?_
          refine j_bipush (pc' := 58) (v := 49) hX dX5_isPart_56 (by decide) rfl ?_
          refine j_bipush (pc' := 60) (v := 54) hX dX5_isPart_58 (by decide) rfl ?_
          refine j_callVR (ci := 5) (pc' := 63) (As := [.int 49, .int 54]) (rest := []) (stk := fun r60 => [.int r60]) hX (fun l => met_X5_isAt l g d0 d1 d2 d3 d4 d5 d6 vd_55 49 54 _ hf) rfl gX5_isPart_X5_isAt yoX5_isAt rfl ⟨Nat.le_of_ble_eq_true rfl, Nat.le_of_ble_eq_true rfl⟩ ⟨⟨Nat.le_of_ble_eq_true rfl, Nat.le_of_ble_eq_true rfl⟩, rfl, rfl⟩ 0 rfl rfl [0, 1, 2, 3, 4, 5, 6] rfl (by decide) (Nat.le_of_ble_eq_true rfl) rfl (fun _ => rfl) dX5_isPart_60 rfl (fun r60 hf => ?_)
          refine j_if_eq (tgt := 177) (pc' := 66) hX dX5_isPart_63 (by decide) rfl hf (fun hf => ?_) (fun hf => ?_)
          · refine J_sub (lv' := []) [] rfl ?_
            exact hK55_177 vd_55 hf
          · refine j_aload_n (pc' := 67) hX dX5_isPart_66 rfl 0 rfl rfl ?_
            refine j_get (ci := 5) (pc' := 70) hX hin5 rfl 0 rfl 9 (by decide) hl_22 rfl dX5_isPart_67 rfl ?_
            refine j_iconst (pc' := 71) (v := 3) hX dX5_isPart_70 (by decide) rfl ?_
            refine j_aload_n (pc' := 72) hX dX5_isPart_71 rfl 0 rfl rfl ?_
            refine j_get (ci := 5) (pc' := 75) hX hin5 rfl 0 rfl 10 (by decide) hl_132 rfl dX5_isPart_72 rfl ?_
            refine j_imul (pc' := 76) hX dX5_isPart_75 rfl ?_
            refine j_iload_n (pc' := 77) hX dX5_isPart_76 rfl 1 rfl rfl ?_
            obtain ⟨vd_4, evd_4⟩ : ∃ z : Md, z = md_told vd_55 (upd vd_55.2.2.2.2.1 (3 * vd_55.2.2.2.2.2.2.2.2.2.2.2).toNatClampNeg ((vd.2.2.2.1 vd.2.2.2.2.2.2.2.2.2.1.toNatClampNeg) - 97)) := ⟨_, rfl⟩
            refine j_iast (pc' := 78) (ws' := (MdW g d0 d1 d2 d3 d4 d5 d6 vd_4)) hX hW 5 rfl dX5_isPart_77 hf (by subst evd_4; rfl) rfl (fun hf => ?_)
            replace hf := hf vd_4 evd_4
            refine j_aload_n (pc' := 79) hX dX5_isPart_78 rfl 0 rfl rfl ?_
            refine j_get (ci := 5) (pc' := 82) hX hin5 rfl 0 rfl 9 (by decide) hl_22 rfl dX5_isPart_79 rfl ?_
            refine j_iconst (pc' := 83) (v := 3) hX dX5_isPart_82 (by decide) rfl ?_
            refine j_aload_n (pc' := 84) hX dX5_isPart_83 rfl 0 rfl rfl ?_
            refine j_get (ci := 5) (pc' := 87) hX hin5 rfl 0 rfl 10 (by decide) hl_132 rfl dX5_isPart_84 rfl ?_
            refine j_imul (pc' := 88) hX dX5_isPart_87 rfl ?_
            refine j_iconst (pc' := 89) (v := 1) hX dX5_isPart_88 (by decide) rfl ?_
            refine j_iadd (pc' := 90) hX dX5_isPart_89 rfl ?_
            refine j_aload_n (pc' := 91) hX dX5_isPart_90 rfl 0 rfl rfl ?_
            refine j_get (ci := 5) (pc' := 94) hX hin5 rfl 0 rfl 4 (by decide) hl_19 rfl dX5_isPart_91 rfl ?_
            refine j_aload_n (pc' := 95) hX dX5_isPart_94 rfl 0 rfl rfl ?_
            refine j_get (ci := 5) (pc' := 98) hX hin5 rfl 0 rfl 7 (by decide) hl_117 rfl dX5_isPart_95 rfl ?_
            refine j_iald (pc' := 99) hX 4 rfl dX5_isPart_98 hf rfl (fun hf => ?_)
            refine j_bipush (pc' := 101) (v := 48) hX dX5_isPart_99 (by decide) rfl ?_
            refine j_isub (pc' := 102) hX dX5_isPart_101 rfl ?_
            obtain ⟨vd_5, evd_5⟩ : ∃ z : Md, z = md_told vd_4 (upd vd_4.2.2.2.2.1 ((3 * vd_4.2.2.2.2.2.2.2.2.2.2.2) + 1).toNatClampNeg ((vd_4.2.2.2.1 vd_4.2.2.2.2.2.2.2.2.2.1.toNatClampNeg) - 48)) := ⟨_, rfl⟩
            refine j_iast (pc' := 103) (ws' := (MdW g d0 d1 d2 d3 d4 d5 d6 vd_5)) hX hW 5 rfl dX5_isPart_102 hf (by subst evd_5; rfl) rfl (fun hf => ?_)
            replace hf := hf vd_5 evd_5
            refine j_aload_n (pc' := 104) hX dX5_isPart_103 rfl 0 rfl rfl ?_
            refine j_dup (pc' := 105) hX dX5_isPart_104 rfl rfl ?_
            refine j_get (ci := 5) (pc' := 108) hX hin5 rfl 0 rfl 7 (by decide) hl_117 rfl dX5_isPart_105 rfl ?_
            refine j_iconst (pc' := 109) (v := 1) hX dX5_isPart_108 (by decide) rfl ?_
            refine j_iadd (pc' := 110) hX dX5_isPart_109 rfl ?_
            obtain ⟨vd_6, evd_6⟩ : ∃ z : Md, z = md_at vd_5 ((vd_5.2.2.2.2.2.2.2.2.2.1 + 1)) := ⟨_, rfl⟩
            refine j_put (ci := 5) (pc' := 113) (ws' := (MdW g d0 d1 d2 d3 d4 d5 d6 vd_6)) hX hW hin5 tyX5_ok nmX5 rfl 0 rfl 7 (by decide) hl_117 rfl rfl rfl (Nat.le_of_ble_eq_true rfl) dX5_isPart_110 (by subst evd_6; rfl) rfl ?_
            replace hf := hf vd_6 evd_6
            refine j_aload_n (pc' := 114) hX dX5_isPart_113 rfl 0 rfl rfl ?_
            refine j_get (ci := 5) (pc' := 117) hX hin5 rfl 0 rfl 9 (by decide) hl_22 rfl dX5_isPart_114 rfl ?_
            refine j_iconst (pc' := 118) (v := 3) hX dX5_isPart_117 (by decide) rfl ?_
            refine j_aload_n (pc' := 119) hX dX5_isPart_118 rfl 0 rfl rfl ?_
            refine j_get (ci := 5) (pc' := 122) hX hin5 rfl 0 rfl 10 (by decide) hl_132 rfl dX5_isPart_119 rfl ?_
            refine j_imul (pc' := 123) hX dX5_isPart_122 rfl ?_
            refine j_iconst (pc' := 124) (v := 2) hX dX5_isPart_123 (by decide) rfl ?_
            refine j_iadd (pc' := 125) hX dX5_isPart_124 rfl ?_
            refine j_aload_n (pc' := 126) hX dX5_isPart_125 rfl 0 rfl rfl ?_
            refine j_bipush (pc' := 128) (v := 33) hX dX5_isPart_126 (by decide) rfl ?_
            refine j_bipush (pc' := 130) (v := 33) hX dX5_isPart_128 (by decide) rfl ?_
            refine j_callVR (ci := 5) (pc' := 133) (As := [.int 33, .int 33]) (rest := [.int ((3 * vd_6.2.2.2.2.2.2.2.2.2.2.2) + 2), .ref d5]) (stk := fun r130 => [.int r130, .int ((3 * vd_6.2.2.2.2.2.2.2.2.2.2.2) + 2), .ref d5]) hX (fun l => met_X5_isAt l g d0 d1 d2 d3 d4 d5 d6 vd_6 33 33 _ hf) rfl gX5_isPart_X5_isAt yoX5_isAt rfl ⟨Nat.le_of_ble_eq_true rfl, Nat.le_of_ble_eq_true rfl⟩ ⟨⟨Nat.le_of_ble_eq_true rfl, Nat.le_of_ble_eq_true rfl⟩, rfl, rfl⟩ 0 rfl rfl [0, 1, 2, 3, 4, 5, 6] rfl (by decide) (Nat.le_of_ble_eq_true rfl) rfl (fun _ => rfl) dX5_isPart_130 rfl (fun r130 hf => ?_)
            refine j_if_eq (tgt := 140) (pc' := 136) hX dX5_isPart_133 (by decide) rfl hf (fun hf => ?_) (fun hf => ?_)
            · refine j_iconst (pc' := 141) (v := 0) hX dX5_isPart_140 (by decide) rfl ?_
              obtain ⟨vd_7, evd_7⟩ : ∃ z : Md, z = md_told vd_6 (upd vd_6.2.2.2.2.1 ((3 * vd_6.2.2.2.2.2.2.2.2.2.2.2) + 2).toNatClampNeg 0) := ⟨_, rfl⟩
              refine j_iast (pc' := 142) (ws' := (MdW g d0 d1 d2 d3 d4 d5 d6 vd_7)) hX hW 5 rfl dX5_isPart_141 hf (by subst evd_7; rfl) rfl (fun hf => ?_)
              replace hf := hf vd_7 evd_7
              refine j_aload_n (pc' := 143) hX dX5_isPart_142 rfl 0 rfl rfl ?_
              refine j_dup (pc' := 144) hX dX5_isPart_143 rfl rfl ?_
              refine j_get (ci := 5) (pc' := 147) hX hin5 rfl 0 rfl 7 (by decide) hl_117 rfl dX5_isPart_144 rfl ?_
              refine j_aload_n (pc' := 148) hX dX5_isPart_147 rfl 0 rfl rfl ?_
              refine j_get (ci := 5) (pc' := 151) hX hin5 rfl 0 rfl 9 (by decide) hl_22 rfl dX5_isPart_148 rfl ?_
              refine j_iconst (pc' := 152) (v := 3) hX dX5_isPart_151 (by decide) rfl ?_
              refine j_aload_n (pc' := 153) hX dX5_isPart_152 rfl 0 rfl rfl ?_
              refine j_get (ci := 5) (pc' := 156) hX hin5 rfl 0 rfl 10 (by decide) hl_132 rfl dX5_isPart_153 rfl ?_
              refine j_imul (pc' := 157) hX dX5_isPart_156 rfl ?_
              refine j_iconst (pc' := 158) (v := 2) hX dX5_isPart_157 (by decide) rfl ?_
              refine j_iadd (pc' := 159) hX dX5_isPart_158 rfl ?_
              refine j_iald (pc' := 160) hX 5 rfl dX5_isPart_159 hf rfl (fun hf => ?_)
              refine j_iadd (pc' := 161) hX dX5_isPart_160 rfl ?_
              obtain ⟨vd_8, evd_8⟩ : ∃ z : Md, z = md_at vd_7 ((vd_7.2.2.2.2.2.2.2.2.2.1 + (vd_7.2.2.2.2.1 ((3 * vd_7.2.2.2.2.2.2.2.2.2.2.2) + 2).toNatClampNeg))) := ⟨_, rfl⟩
              refine j_put (ci := 5) (pc' := 164) (ws' := (MdW g d0 d1 d2 d3 d4 d5 d6 vd_8)) hX hW hin5 tyX5_ok nmX5 rfl 0 rfl 7 (by decide) hl_117 rfl rfl rfl (Nat.le_of_ble_eq_true rfl) dX5_isPart_161 (by subst evd_8; rfl) rfl ?_
              replace hf := hf vd_8 evd_8
              refine j_aload_n (pc' := 165) hX dX5_isPart_164 rfl 0 rfl rfl ?_
              refine j_dup (pc' := 166) hX dX5_isPart_165 rfl rfl ?_
              refine j_get (ci := 5) (pc' := 169) hX hin5 rfl 0 rfl 10 (by decide) hl_132 rfl dX5_isPart_166 rfl ?_
              refine j_iconst (pc' := 170) (v := 1) hX dX5_isPart_169 (by decide) rfl ?_
              refine j_iadd (pc' := 171) hX dX5_isPart_170 rfl ?_
              obtain ⟨vd_9, evd_9⟩ : ∃ z : Md, z = md_tolds vd_8 ((vd_8.2.2.2.2.2.2.2.2.2.2.2 + 1)) := ⟨_, rfl⟩
              refine j_put (ci := 5) (pc' := 174) (ws' := (MdW g d0 d1 d2 d3 d4 d5 d6 vd_9)) hX hW hin5 tyX5_ok nmX5 rfl 0 rfl 10 (by decide) hl_132 rfl rfl rfl (Nat.le_of_ble_eq_true rfl) dX5_isPart_171 (by subst evd_9; rfl) rfl ?_
              replace hf := hf vd_9 evd_9
              refine j_goto (tgt := 55) hX dX5_isPart_174 (by decide) ?_
              exact ih55 vd_9 hf
            · refine j_iconst (pc' := 137) (v := 1) hX dX5_isPart_136 (by decide) rfl ?_
              refine j_goto (tgt := 141) hX dX5_isPart_137 (by decide) ?_
              obtain ⟨vd_10, evd_10⟩ : ∃ z : Md, z = md_told vd_6 (upd vd_6.2.2.2.2.1 ((3 * vd_6.2.2.2.2.2.2.2.2.2.2.2) + 2).toNatClampNeg 1) := ⟨_, rfl⟩
              refine j_iast (pc' := 142) (ws' := (MdW g d0 d1 d2 d3 d4 d5 d6 vd_10)) hX hW 5 rfl dX5_isPart_141 hf (by subst evd_10; rfl) rfl (fun hf => ?_)
              replace hf := hf vd_10 evd_10
              refine j_aload_n (pc' := 143) hX dX5_isPart_142 rfl 0 rfl rfl ?_
              refine j_dup (pc' := 144) hX dX5_isPart_143 rfl rfl ?_
              refine j_get (ci := 5) (pc' := 147) hX hin5 rfl 0 rfl 7 (by decide) hl_117 rfl dX5_isPart_144 rfl ?_
              refine j_aload_n (pc' := 148) hX dX5_isPart_147 rfl 0 rfl rfl ?_
              refine j_get (ci := 5) (pc' := 151) hX hin5 rfl 0 rfl 9 (by decide) hl_22 rfl dX5_isPart_148 rfl ?_
              refine j_iconst (pc' := 152) (v := 3) hX dX5_isPart_151 (by decide) rfl ?_
              refine j_aload_n (pc' := 153) hX dX5_isPart_152 rfl 0 rfl rfl ?_
              refine j_get (ci := 5) (pc' := 156) hX hin5 rfl 0 rfl 10 (by decide) hl_132 rfl dX5_isPart_153 rfl ?_
              refine j_imul (pc' := 157) hX dX5_isPart_156 rfl ?_
              refine j_iconst (pc' := 158) (v := 2) hX dX5_isPart_157 (by decide) rfl ?_
              refine j_iadd (pc' := 159) hX dX5_isPart_158 rfl ?_
              refine j_iald (pc' := 160) hX 5 rfl dX5_isPart_159 hf rfl (fun hf => ?_)
              refine j_iadd (pc' := 161) hX dX5_isPart_160 rfl ?_
              obtain ⟨vd_11, evd_11⟩ : ∃ z : Md, z = md_at vd_10 ((vd_10.2.2.2.2.2.2.2.2.2.1 + (vd_10.2.2.2.2.1 ((3 * vd_10.2.2.2.2.2.2.2.2.2.2.2) + 2).toNatClampNeg))) := ⟨_, rfl⟩
              refine j_put (ci := 5) (pc' := 164) (ws' := (MdW g d0 d1 d2 d3 d4 d5 d6 vd_11)) hX hW hin5 tyX5_ok nmX5 rfl 0 rfl 7 (by decide) hl_117 rfl rfl rfl (Nat.le_of_ble_eq_true rfl) dX5_isPart_161 (by subst evd_11; rfl) rfl ?_
              replace hf := hf vd_11 evd_11
              refine j_aload_n (pc' := 165) hX dX5_isPart_164 rfl 0 rfl rfl ?_
              refine j_dup (pc' := 166) hX dX5_isPart_165 rfl rfl ?_
              refine j_get (ci := 5) (pc' := 169) hX hin5 rfl 0 rfl 10 (by decide) hl_132 rfl dX5_isPart_166 rfl ?_
              refine j_iconst (pc' := 170) (v := 1) hX dX5_isPart_169 (by decide) rfl ?_
              refine j_iadd (pc' := 171) hX dX5_isPart_170 rfl ?_
              obtain ⟨vd_12, evd_12⟩ : ∃ z : Md, z = md_tolds vd_11 ((vd_11.2.2.2.2.2.2.2.2.2.2.2 + 1)) := ⟨_, rfl⟩
              refine j_put (ci := 5) (pc' := 174) (ws' := (MdW g d0 d1 d2 d3 d4 d5 d6 vd_12)) hX hW hin5 tyX5_ok nmX5 rfl 0 rfl 10 (by decide) hl_132 rfl rfl rfl (Nat.le_of_ble_eq_true rfl) dX5_isPart_171 (by subst evd_12; rfl) rfl ?_
              replace hf := hf vd_12 evd_12
              refine j_goto (tgt := 55) hX dX5_isPart_174 (by decide) ?_
              exact ih55 vd_12 hf
      refine J_sub (lv' := [(0, .ref d0), (1, .int ((vd.2.2.2.1 vd.2.2.2.2.2.2.2.2.2.1.toNatClampNeg) - 97))]) [1, 0] rfl ?_
      refine L55 _ (fun e13 hf => ?_) N55 vd_2 hf
      refine j_iconst (pc' := 178) (v := 1) hX dX5_isPart_177 (by decide) rfl ?_
      exact j_zret hX hR rfl dX5_isPart_178 ⟨_, _, rfl, hf, rfl⟩
    · refine j_aload_n (pc' := 51) hX dX5_isPart_50 rfl 1 rfl rfl ?_
      refine j_callVM (ci := 5) (pc' := 54) (k' := 0) (n' := 0) (As := []) (rest := []) (stk := fun r51 => [.int r51]) (ws' := fun u51_3 => (MdW g d0 d1 d2 d3 d4 d5 d6 u51_3)) (wr := ([] : va_W)) hX hW (fun l => met_X5_stops l g d0 d1 d2 d3 d4 d5 d6 vd_2 _ hf) rfl gX5_isPart_X5_stops yoX5_stops rfl ⟨Nat.le_of_ble_eq_true rfl, Nat.le_of_ble_eq_true rfl⟩ ⟨Nat.le_of_ble_eq_true rfl, Nat.le_of_ble_eq_true rfl, Nat.le_of_ble_eq_true rfl, Nat.le_of_ble_eq_true rfl⟩ 0 rfl rfl [0, 1, 2, 3, 4, 5, 6] [] [0, 1, 2, 3, 4, 5, 6] rfl (by decide) rfl (by decide) (by decide) (fun _ => rfl) (by decide) (Nat.le_of_ble_eq_true rfl) rfl (fun _ => rfl) dX5_isPart_51 rfl (fun r51 u51_3 hf => ?_)
      exact j_zret hX hR hf.1 dX5_isPart_54 ⟨_, _, rfl, hf.2, rfl⟩
  · refine j_aload_n (pc' := 12) hX dX5_isPart_11 rfl 0 rfl rfl ?_
    refine j_callVM (ci := 5) (pc' := 15) (k' := 0) (n' := 0) (As := []) (rest := []) (stk := fun r12 => [.int r12]) (ws' := fun u12_1 => (MdW g d0 d1 d2 d3 d4 d5 d6 u12_1)) (wr := ([] : va_W)) hX hW (fun l => met_X5_stops l g d0 d1 d2 d3 d4 d5 d6 vd _ hf) rfl gX5_isPart_X5_stops yoX5_stops rfl ⟨Nat.le_of_ble_eq_true rfl, Nat.le_of_ble_eq_true rfl⟩ ⟨Nat.le_of_ble_eq_true rfl, Nat.le_of_ble_eq_true rfl, Nat.le_of_ble_eq_true rfl, Nat.le_of_ble_eq_true rfl⟩ 0 rfl rfl [0, 1, 2, 3, 4, 5, 6] [] [0, 1, 2, 3, 4, 5, 6] rfl (by decide) rfl (by decide) (by decide) (fun _ => rfl) (by decide) (Nat.le_of_ble_eq_true rfl) rfl (fun _ => rfl) dX5_isPart_12 rfl (fun r12 u12_1 hf => ?_)
    exact j_zret hX hR hf.1 dX5_isPart_15 ⟨_, _, rfl, hf.2, rfl⟩
def wp_X5_isText_L17  (K17_28 : Md → Prop) (K17_60 : Md → Prop) : Nat → Int32 → Md → Prop
  | 0, _, _ => False
  | N17 + 1, x1_17, vd_17 =>
  ((x1_17 = 0 → K17_60 vd_17) ∧ (¬ x1_17 = 0 → (wp_X5_isPart vd_17 (fun r22 u22_4 => ((r22 = 0 → K17_28 u22_4) ∧ (¬ r22 = 0 → (wp_X5_isAt u22_4 59 59 (fun r35 => ((r35 = 0 → (∀ vd_5 : Md, vd_5 = md_at u22_4 ((u22_4.2.2.2.2.2.2.2.2.2.1 + 0)) → (wp_X5_isText_L17 K17_28 K17_60 N17) r35 vd_5)) ∧ (¬ r35 = 0 → (∀ vd_6 : Md, vd_6 = md_at u22_4 ((u22_4.2.2.2.2.2.2.2.2.2.1 + 1)) → (wp_X5_isText_L17 K17_28 K17_60 N17) r35 vd_6)))))))))))
def wp_X5_isText (vd : Md) (post : Int32 → Md → Prop) : Prop :=
  (∀ vd_1 : Md, vd_1 = md_at vd (0) → (∀ vd_2 : Md, vd_2 = md_tolds vd_1 (0) → (∀ vd_3 : Md, vd_3 = md_isFault vd_2 (0) → (∃ N : Nat, wp_X5_isText_L17 (fun (e7 : Md) => post 0 e7) (fun (e8 : Md) => ((e8.2.2.2.2.2.2.2.1 ≤ e8.2.2.2.2.2.2.2.2.2.1 → (∀ vd_9 : Md, vd_9 = md_isFault e8 (0) → ((vd_9.2.2.2.2.2.2.2.2.2.1 = vd_9.2.2.2.2.2.2.2.1 → post 1 vd_9) ∧ (¬ vd_9.2.2.2.2.2.2.2.2.2.1 = vd_9.2.2.2.2.2.2.2.1 → post 0 vd_9)))) ∧ (¬ e8.2.2.2.2.2.2.2.1 ≤ e8.2.2.2.2.2.2.2.2.2.1 → (∀ vd_10 : Md, vd_10 = md_isFault e8 (1) → ((vd_10.2.2.2.2.2.2.2.2.2.1 = vd_10.2.2.2.2.2.2.2.1 → post 1 vd_10) ∧ (¬ vd_10.2.2.2.2.2.2.2.2.2.1 = vd_10.2.2.2.2.2.2.2.1 → post 0 vd_10)))))) N 1 vd_3))))
theorem yoX5_isText : yOk yX5_isText 0 := by decide +kernel
set_option maxHeartbeats 4000000 in
set_option maxRecDepth 100000 in
theorem met_X5_isText (l : Launch) (g : JG) (d0 : Nat) (d1 : Nat) (d2 : Nat) (d3 : Nat) (d4 : Nat) (d5 : Nat) (d6 : Nat) (vd : Md) (post : Int32 → Md → Prop) (hf : wp_X5_isText vd post) : MetM l yX5_isText wsX5_isText ({ frames := 3, cells := 0, slots := 0, locals := 65 } : Room) [.ref d0] g (MdW g d0 d1 d2 d3 d4 d5 d6 vd) mkI post (fun u : Md => (MdW g d0 d1 d2 d3 d4 d5 d6 u)) := by
  have hin5 : ∀ w ∈ u_ws RX5 TX5 12, w ∈ wsX5_isText := by decide +kernel
  have hl_117 : Cond.fieldLink RX5 117 (TX5 7).1 (TX5 7).2.1 (TX5 7).2.2.1 ∈ wsX5_isText := by decide +kernel
  have hl_132 : Cond.fieldLink RX5 132 (TX5 10).1 (TX5 10).2.1 (TX5 10).2.2.1 ∈ wsX5_isText := by decide +kernel
  have hl_120 : Cond.fieldLink RX5 120 (TX5 8).1 (TX5 8).2.1 (TX5 8).2.2.1 ∈ wsX5_isText := by decide +kernel
  have hl_114 : Cond.fieldLink RX5 114 (TX5 5).1 (TX5 5).2.1 (TX5 5).2.2.1 ∈ wsX5_isText := by decide +kernel
  refine enterM (own := RX5) (cc := cX5_isText) (nL := 2) (ret := (some .boolean)) (lv := [(0, .ref d0)]) (by decide) rfl rfl (Nat.le_of_ble_eq_true rfl) rfl (fun X hX hW hR => ?_)
  unfold wp_X5_isText at hf
  refine j_aload_n (pc' := 1) hX dX5_isText_0 rfl 0 rfl rfl ?_
  refine j_iconst (pc' := 2) (v := 0) hX dX5_isText_1 (by decide) rfl ?_
  obtain ⟨vd_1, evd_1⟩ : ∃ z : Md, z = md_at vd (0) := ⟨_, rfl⟩
  refine j_put (ci := 5) (pc' := 5) (ws' := (MdW g d0 d1 d2 d3 d4 d5 d6 vd_1)) hX hW hin5 tyX5_ok nmX5 rfl 0 rfl 7 (by decide) hl_117 rfl rfl rfl (Nat.le_of_ble_eq_true rfl) dX5_isText_2 (by subst evd_1; rfl) rfl ?_
  replace hf := hf vd_1 evd_1
  refine j_aload_n (pc' := 6) hX dX5_isText_5 rfl 0 rfl rfl ?_
  refine j_iconst (pc' := 7) (v := 0) hX dX5_isText_6 (by decide) rfl ?_
  obtain ⟨vd_2, evd_2⟩ : ∃ z : Md, z = md_tolds vd_1 (0) := ⟨_, rfl⟩
  refine j_put (ci := 5) (pc' := 10) (ws' := (MdW g d0 d1 d2 d3 d4 d5 d6 vd_2)) hX hW hin5 tyX5_ok nmX5 rfl 0 rfl 10 (by decide) hl_132 rfl rfl rfl (Nat.le_of_ble_eq_true rfl) dX5_isText_7 (by subst evd_2; rfl) rfl ?_
  replace hf := hf vd_2 evd_2
  refine j_aload_n (pc' := 11) hX dX5_isText_10 rfl 0 rfl rfl ?_
  refine j_iconst (pc' := 12) (v := 0) hX dX5_isText_11 (by decide) rfl ?_
  obtain ⟨vd_3, evd_3⟩ : ∃ z : Md, z = md_isFault vd_2 (0) := ⟨_, rfl⟩
  refine j_put (ci := 5) (pc' := 15) (ws' := (MdW g d0 d1 d2 d3 d4 d5 d6 vd_3)) hX hW hin5 tyX5_ok nmX5 rfl 0 rfl 8 (by decide) hl_120 rfl rfl rfl (Nat.le_of_ble_eq_true rfl) dX5_isText_12 (by subst evd_3; rfl) rfl ?_
  replace hf := hf vd_3 evd_3
  refine j_iconst (pc' := 16) (v := 1) hX dX5_isText_15 (by decide) rfl ?_
  refine j_istore_n (pc' := 17) (lv' := [(1, .int 1), (0, .ref d0)]) hX dX5_isText_16 rfl (by decide) rfl rfl ?_
  obtain ⟨N17, hf⟩ := hf
  have L17 : ∀ (K17_28 : Md → Prop) (K17_60 : Md → Prop), (∀ (vd_17 : Md), K17_28 vd_17 → J g X 0 0 (MdW g d0 d1 d2 d3 d4 d5 d6 vd_17) [] [] 28) → (∀ (vd_17 : Md), K17_60 vd_17 → J g X 0 0 (MdW g d0 d1 d2 d3 d4 d5 d6 vd_17) [(0, .ref d0)] [] 60) → ∀ (N17 : Nat) (x1_17 : Int32) (vd_17 : Md), wp_X5_isText_L17 K17_28 K17_60 N17 x1_17 vd_17 → J g X 0 0 (MdW g d0 d1 d2 d3 d4 d5 d6 vd_17) [(0, .ref d0), (1, .int x1_17)] [] 17 := by
    intro K17_28 K17_60 hK17_28 hK17_60 N17
    induction N17 with
    | zero => intro x1_17 vd_17 hf; exact False.elim hf
    | succ N17 ih17 =>
      intro x1_17 vd_17 hf
      refine j_iload_n (pc' := 18) hX dX5_isText_17 rfl 1 rfl rfl ?_
      refine j_if_eq (tgt := 60) (pc' := 21) hX dX5_isText_18 (by decide) rfl hf (fun hf => ?_) (fun hf => ?_)
      · refine J_sub (lv' := [(0, .ref d0)]) [0] rfl ?_
        exact hK17_60 vd_17 hf
      · refine j_aload_n (pc' := 22) hX dX5_isText_21 rfl 0 rfl rfl ?_
        refine j_callVM (ci := 5) (pc' := 25) (k' := 0) (n' := 0) (As := []) (rest := []) (stk := fun r22 => [.int r22]) (ws' := fun u22_4 => (MdW g d0 d1 d2 d3 d4 d5 d6 u22_4)) (wr := ([] : va_W)) hX hW (fun l => met_X5_isPart l g d0 d1 d2 d3 d4 d5 d6 vd_17 _ hf) rfl gX5_isText_X5_isPart yoX5_isPart rfl ⟨Nat.le_of_ble_eq_true rfl, Nat.le_of_ble_eq_true rfl⟩ ⟨Nat.le_of_ble_eq_true rfl, Nat.le_of_ble_eq_true rfl, Nat.le_of_ble_eq_true rfl, Nat.le_of_ble_eq_true rfl⟩ 0 rfl rfl [0, 1, 2, 3, 4, 5, 6] [] [0, 1, 2, 3, 4, 5, 6] rfl (by decide) rfl (by decide) (by decide) (fun _ => rfl) (by decide) (Nat.le_of_ble_eq_true rfl) rfl (fun _ => rfl) dX5_isText_22 rfl (fun r22 u22_4 hf => ?_)
        refine j_if_ne (tgt := 30) (pc' := 28) hX dX5_isText_25 (by decide) rfl hf (fun hf => ?_) (fun hf => ?_)
        · refine j_aload_n (pc' := 31) hX dX5_isText_30 rfl 0 rfl rfl ?_
          refine j_bipush (pc' := 33) (v := 59) hX dX5_isText_31 (by decide) rfl ?_
          refine j_bipush (pc' := 35) (v := 59) hX dX5_isText_33 (by decide) rfl ?_
          refine j_callVR (ci := 5) (pc' := 38) (As := [.int 59, .int 59]) (rest := []) (stk := fun r35 => [.int r35]) hX (fun l => met_X5_isAt l g d0 d1 d2 d3 d4 d5 d6 u22_4 59 59 _ hf) rfl gX5_isText_X5_isAt yoX5_isAt rfl ⟨Nat.le_of_ble_eq_true rfl, Nat.le_of_ble_eq_true rfl⟩ ⟨⟨Nat.le_of_ble_eq_true rfl, Nat.le_of_ble_eq_true rfl⟩, rfl, rfl⟩ 0 rfl rfl [0, 1, 2, 3, 4, 5, 6] rfl (by decide) (Nat.le_of_ble_eq_true rfl) rfl (fun _ => rfl) dX5_isText_35 rfl (fun r35 hf => ?_)
          refine j_istore_n (pc' := 39) (lv' := [(1, .int r35), (0, .ref d0)]) hX dX5_isText_38 rfl (by decide) rfl rfl ?_
          refine j_aload_n (pc' := 40) hX dX5_isText_39 rfl 1 rfl rfl ?_
          refine j_dup (pc' := 41) hX dX5_isText_40 rfl rfl ?_
          refine j_get (ci := 5) (pc' := 44) hX hin5 rfl 0 rfl 7 (by decide) hl_117 rfl dX5_isText_41 rfl ?_
          refine j_iload_n (pc' := 45) hX dX5_isText_44 rfl 0 rfl rfl ?_
          refine j_if_eq (tgt := 52) (pc' := 48) hX dX5_isText_45 (by decide) rfl hf (fun hf => ?_) (fun hf => ?_)
          · refine j_iconst (pc' := 53) (v := 0) hX dX5_isText_52 (by decide) rfl ?_
            refine j_iadd (pc' := 54) hX dX5_isText_53 rfl ?_
            obtain ⟨vd_5, evd_5⟩ : ∃ z : Md, z = md_at u22_4 ((u22_4.2.2.2.2.2.2.2.2.2.1 + 0)) := ⟨_, rfl⟩
            refine j_put (ci := 5) (pc' := 57) (ws' := (MdW g d0 d1 d2 d3 d4 d5 d6 vd_5)) hX hW hin5 tyX5_ok nmX5 rfl 0 rfl 7 (by decide) hl_117 rfl rfl rfl (Nat.le_of_ble_eq_true rfl) dX5_isText_54 (by subst evd_5; rfl) rfl ?_
            replace hf := hf vd_5 evd_5
            refine j_goto (tgt := 17) hX dX5_isText_57 (by decide) ?_
            refine J_sub (lv' := [(0, .ref d0), (1, .int r35)]) [1, 0] rfl ?_
            exact ih17 r35 vd_5 hf
          · refine j_iconst (pc' := 49) (v := 1) hX dX5_isText_48 (by decide) rfl ?_
            refine j_goto (tgt := 53) hX dX5_isText_49 (by decide) ?_
            refine j_iadd (pc' := 54) hX dX5_isText_53 rfl ?_
            obtain ⟨vd_6, evd_6⟩ : ∃ z : Md, z = md_at u22_4 ((u22_4.2.2.2.2.2.2.2.2.2.1 + 1)) := ⟨_, rfl⟩
            refine j_put (ci := 5) (pc' := 57) (ws' := (MdW g d0 d1 d2 d3 d4 d5 d6 vd_6)) hX hW hin5 tyX5_ok nmX5 rfl 0 rfl 7 (by decide) hl_117 rfl rfl rfl (Nat.le_of_ble_eq_true rfl) dX5_isText_54 (by subst evd_6; rfl) rfl ?_
            replace hf := hf vd_6 evd_6
            refine j_goto (tgt := 17) hX dX5_isText_57 (by decide) ?_
            refine J_sub (lv' := [(0, .ref d0), (1, .int r35)]) [1, 0] rfl ?_
            exact ih17 r35 vd_6 hf
        · refine J_sub (lv' := []) [] rfl ?_
          exact hK17_28 u22_4 hf
  refine J_sub (lv' := [(0, .ref d0), (1, .int 1)]) [1, 0] rfl ?_
  refine L17 _ _ (fun e7 hf => ?_) (fun e8 hf => ?_) N17 1 vd_3 hf
  · refine j_iconst (pc' := 29) (v := 0) hX dX5_isText_28 (by decide) rfl ?_
    exact j_zret hX hR rfl dX5_isText_29 ⟨_, _, rfl, hf, rfl⟩
  · refine j_aload_n (pc' := 61) hX dX5_isText_60 rfl 0 rfl rfl ?_
    refine j_aload_n (pc' := 62) hX dX5_isText_61 rfl 0 rfl rfl ?_
    refine j_get (ci := 5) (pc' := 65) hX hin5 rfl 0 rfl 7 (by decide) hl_117 rfl dX5_isText_62 rfl ?_
    refine j_aload_n (pc' := 66) hX dX5_isText_65 rfl 0 rfl rfl ?_
    refine j_get (ci := 5) (pc' := 69) hX hin5 rfl 0 rfl 5 (by decide) hl_114 rfl dX5_isText_66 rfl ?_
    refine j_icmp_ge (tgt := 76) (pc' := 72) hX dX5_isText_69 (by decide) rfl hf (fun hf => ?_) (fun hf => ?_)
    · refine j_iconst (pc' := 77) (v := 0) hX dX5_isText_76 (by decide) rfl ?_
      obtain ⟨vd_9, evd_9⟩ : ∃ z : Md, z = md_isFault e8 (0) := ⟨_, rfl⟩
      refine j_put (ci := 5) (pc' := 80) (ws' := (MdW g d0 d1 d2 d3 d4 d5 d6 vd_9)) hX hW hin5 tyX5_ok nmX5 rfl 0 rfl 8 (by decide) hl_120 rfl rfl rfl (Nat.le_of_ble_eq_true rfl) dX5_isText_77 (by subst evd_9; rfl) rfl ?_
      replace hf := hf vd_9 evd_9
      refine j_aload_n (pc' := 81) hX dX5_isText_80 rfl 0 rfl rfl ?_
      refine j_get (ci := 5) (pc' := 84) hX hin5 rfl 0 rfl 7 (by decide) hl_117 rfl dX5_isText_81 rfl ?_
      refine j_aload_n (pc' := 85) hX dX5_isText_84 rfl 0 rfl rfl ?_
      refine j_get (ci := 5) (pc' := 88) hX hin5 rfl 0 rfl 5 (by decide) hl_114 rfl dX5_isText_85 rfl ?_
      refine j_icmp_ne (tgt := 95) (pc' := 91) hX dX5_isText_88 (by decide) rfl hf (fun hf => ?_) (fun hf => ?_)
      · refine j_iconst (pc' := 96) (v := 0) hX dX5_isText_95 (by decide) rfl ?_
        exact j_zret hX hR rfl dX5_isText_96 ⟨_, _, rfl, hf, rfl⟩
      · refine j_iconst (pc' := 92) (v := 1) hX dX5_isText_91 (by decide) rfl ?_
        refine j_goto (tgt := 96) hX dX5_isText_92 (by decide) ?_
        exact j_zret hX hR rfl dX5_isText_96 ⟨_, _, rfl, hf, rfl⟩
    · refine j_iconst (pc' := 73) (v := 1) hX dX5_isText_72 (by decide) rfl ?_
      refine j_goto (tgt := 77) hX dX5_isText_73 (by decide) ?_
      obtain ⟨vd_10, evd_10⟩ : ∃ z : Md, z = md_isFault e8 (1) := ⟨_, rfl⟩
      refine j_put (ci := 5) (pc' := 80) (ws' := (MdW g d0 d1 d2 d3 d4 d5 d6 vd_10)) hX hW hin5 tyX5_ok nmX5 rfl 0 rfl 8 (by decide) hl_120 rfl rfl rfl (Nat.le_of_ble_eq_true rfl) dX5_isText_77 (by subst evd_10; rfl) rfl ?_
      replace hf := hf vd_10 evd_10
      refine j_aload_n (pc' := 81) hX dX5_isText_80 rfl 0 rfl rfl ?_
      refine j_get (ci := 5) (pc' := 84) hX hin5 rfl 0 rfl 7 (by decide) hl_117 rfl dX5_isText_81 rfl ?_
      refine j_aload_n (pc' := 85) hX dX5_isText_84 rfl 0 rfl rfl ?_
      refine j_get (ci := 5) (pc' := 88) hX hin5 rfl 0 rfl 5 (by decide) hl_114 rfl dX5_isText_85 rfl ?_
      refine j_icmp_ne (tgt := 95) (pc' := 91) hX dX5_isText_88 (by decide) rfl hf (fun hf => ?_) (fun hf => ?_)
      · refine j_iconst (pc' := 96) (v := 0) hX dX5_isText_95 (by decide) rfl ?_
        exact j_zret hX hR rfl dX5_isText_96 ⟨_, _, rfl, hf, rfl⟩
      · refine j_iconst (pc' := 92) (v := 1) hX dX5_isText_91 (by decide) rfl ?_
        refine j_goto (tgt := 96) hX dX5_isText_92 (by decide) ?_
        exact j_zret hX hR rfl dX5_isText_96 ⟨_, _, rfl, hf, rfl⟩
def wp_X5_firstError (vd : Md) (post : Int32 → Md → Prop) : Prop :=
  (∀ vd_1 : Md, vd_1 = md_thrown vd (0) → (wp_X5_isText vd_1 (fun r6 u6_2 => ((r6 = 0 → ((u6_2.2.2.2.2.2.2.2.2.2.2.1 = 0 → post u6_2.2.2.2.2.2.2.2.1 u6_2) ∧ (¬ u6_2.2.2.2.2.2.2.2.2.2.2.1 = 0 → post u6_2.2.2.2.2.2.2.2.2.2.1 u6_2))) ∧ (¬ r6 = 0 → post u6_2.2.2.2.2.2.2.2.1 u6_2)))))
theorem yoX5_firstError : yOk yX5_firstError 0 := by decide +kernel
set_option maxHeartbeats 4000000 in
set_option maxRecDepth 100000 in
theorem met_X5_firstError (l : Launch) (g : JG) (d0 : Nat) (d1 : Nat) (d2 : Nat) (d3 : Nat) (d4 : Nat) (d5 : Nat) (d6 : Nat) (vd : Md) (post : Int32 → Md → Prop) (hf : wp_X5_firstError vd post) : MetM l yX5_firstError wsX5_firstError ({ frames := 4, cells := 0, slots := 0, locals := 86 } : Room) [.ref d0] g (MdW g d0 d1 d2 d3 d4 d5 d6 vd) mkI post (fun u : Md => (MdW g d0 d1 d2 d3 d4 d5 d6 u)) := by
  have hin5 : ∀ w ∈ u_ws RX5 TX5 12, w ∈ wsX5_firstError := by decide +kernel
  have hl_28 : Cond.fieldLink RX5 28 (TX5 6).1 (TX5 6).2.1 (TX5 6).2.2.1 ∈ wsX5_firstError := by decide +kernel
  have hl_120 : Cond.fieldLink RX5 120 (TX5 8).1 (TX5 8).2.1 (TX5 8).2.2.1 ∈ wsX5_firstError := by decide +kernel
  have hl_114 : Cond.fieldLink RX5 114 (TX5 5).1 (TX5 5).2.1 (TX5 5).2.2.1 ∈ wsX5_firstError := by decide +kernel
  have hl_117 : Cond.fieldLink RX5 117 (TX5 7).1 (TX5 7).2.1 (TX5 7).2.2.1 ∈ wsX5_firstError := by decide +kernel
  refine enterM (own := RX5) (cc := cX5_firstError) (nL := 2) (ret := (some .int)) (lv := [(0, .ref d0)]) (by decide) rfl rfl (Nat.le_of_ble_eq_true rfl) rfl (fun X hX hW hR => ?_)
  unfold wp_X5_firstError at hf
  refine j_aload_n (pc' := 1) hX dX5_firstError_0 rfl 0 rfl rfl ?_
  refine j_iconst (pc' := 2) (v := 0) hX dX5_firstError_1 (by decide) rfl ?_
  obtain ⟨vd_1, evd_1⟩ : ∃ z : Md, z = md_thrown vd (0) := ⟨_, rfl⟩
  refine j_put (ci := 5) (pc' := 5) (ws' := (MdW g d0 d1 d2 d3 d4 d5 d6 vd_1)) hX hW hin5 tyX5_ok nmX5 rfl 0 rfl 6 (by decide) hl_28 rfl rfl rfl (Nat.le_of_ble_eq_true rfl) dX5_firstError_2 (by subst evd_1; rfl) rfl ?_
  replace hf := hf vd_1 evd_1
  refine j_aload_n (pc' := 6) hX dX5_firstError_5 rfl 0 rfl rfl ?_
  refine j_callVM (ci := 5) (pc' := 9) (k' := 0) (n' := 0) (As := []) (rest := []) (stk := fun r6 => [.int r6]) (ws' := fun u6_2 => (MdW g d0 d1 d2 d3 d4 d5 d6 u6_2)) (wr := ([] : va_W)) hX hW (fun l => met_X5_isText l g d0 d1 d2 d3 d4 d5 d6 vd_1 _ hf) rfl gX5_firstError_X5_isText yoX5_isText rfl ⟨Nat.le_of_ble_eq_true rfl, Nat.le_of_ble_eq_true rfl⟩ ⟨Nat.le_of_ble_eq_true rfl, Nat.le_of_ble_eq_true rfl, Nat.le_of_ble_eq_true rfl, Nat.le_of_ble_eq_true rfl⟩ 0 rfl rfl [0, 1, 2, 3, 4, 5, 6] [] [0, 1, 2, 3, 4, 5, 6] rfl (by decide) rfl (by decide) (by decide) (fun _ => rfl) (by decide) (Nat.le_of_ble_eq_true rfl) rfl (fun _ => rfl) dX5_firstError_6 rfl (fun r6 u6_2 hf => ?_)
  refine j_istore_n (pc' := 10) (lv' := [(1, .int r6), (0, .ref d0)]) hX dX5_firstError_9 rfl (by decide) rfl rfl ?_
  refine j_iload_n (pc' := 11) hX dX5_firstError_10 rfl 0 rfl rfl ?_
  refine j_if_ne (tgt := 28) (pc' := 14) hX dX5_firstError_11 (by decide) rfl hf (fun hf => ?_) (fun hf => ?_)
  · refine j_aload_n (pc' := 29) hX dX5_firstError_28 rfl 1 rfl rfl ?_
    refine j_get (ci := 5) (pc' := 32) hX hin5 rfl 0 rfl 5 (by decide) hl_114 rfl dX5_firstError_29 rfl ?_
    exact j_iret hX hR dX5_firstError_32 ⟨_, _, rfl, hf, rfl⟩
  · refine j_aload_n (pc' := 15) hX dX5_firstError_14 rfl 1 rfl rfl ?_
    refine j_get (ci := 5) (pc' := 18) hX hin5 rfl 0 rfl 8 (by decide) hl_120 rfl dX5_firstError_15 rfl ?_
    refine j_if_eq (tgt := 28) (pc' := 21) hX dX5_firstError_18 (by decide) rfl hf (fun hf => ?_) (fun hf => ?_)
    · refine j_aload_n (pc' := 29) hX dX5_firstError_28 rfl 1 rfl rfl ?_
      refine j_get (ci := 5) (pc' := 32) hX hin5 rfl 0 rfl 5 (by decide) hl_114 rfl dX5_firstError_29 rfl ?_
      exact j_iret hX hR dX5_firstError_32 ⟨_, _, rfl, hf, rfl⟩
    · refine j_aload_n (pc' := 22) hX dX5_firstError_21 rfl 1 rfl rfl ?_
      refine j_get (ci := 5) (pc' := 25) hX hin5 rfl 0 rfl 7 (by decide) hl_117 rfl dX5_firstError_22 rfl ?_
      refine j_goto (tgt := 32) hX dX5_firstError_25 (by decide) ?_
      exact j_iret hX hR dX5_firstError_32 ⟨_, _, rfl, hf, rfl⟩
def wp_X5_layAll_L29  (K29_135 : Int32 → Md → Prop) : Nat → Int32 → Md → Prop
  | 0, _, _ => False
  | N29 + 1, x1_29, vd_29 =>
  ((vd_29.2.2.2.2.2.2.2.2.2.2.2 ≤ x1_29 → K29_135 x1_29 vd_29) ∧ (¬ vd_29.2.2.2.2.2.2.2.2.2.2.2 ≤ x1_29 → (vp_in (3 * x1_29) 180 ∧ (vp_in ((3 * x1_29) + 1) 180 ∧ (vp_in ((3 * x1_29) + 2) 180 ∧ (((vd_29.2.2.2.2.1 ((3 * x1_29) + 2).toNatClampNeg) = 1 → (wp_X5_refused vd_29.1 (vd_29.2.2.2.2.1 (3 * x1_29).toNatClampNeg) (vd_29.2.2.2.2.1 ((3 * x1_29) + 1).toNatClampNeg) 1 (fun r78 => ((r78 = 0 → (vp_in (3 * x1_29) 180 ∧ (vp_in ((3 * x1_29) + 1) 180 ∧ (vp_in ((3 * x1_29) + 2) 180 ∧ (((vd_29.2.2.2.2.1 ((3 * x1_29) + 2).toNatClampNeg) = 1 → (wp_X5_lays vd_29.1 (vd_29.2.2.2.2.1 (3 * x1_29).toNatClampNeg) (vd_29.2.2.2.2.1 ((3 * x1_29) + 1).toNatClampNeg) 1 (fun r125 u125_6 => (wp_X5_layAll_L29 K29_135 N29) (x1_29 + 1) (md_now vd_29 (u125_6))))) ∧ (¬ (vd_29.2.2.2.2.1 ((3 * x1_29) + 2).toNatClampNeg) = 1 → (wp_X5_lays vd_29.1 (vd_29.2.2.2.2.1 (3 * x1_29).toNatClampNeg) (vd_29.2.2.2.2.1 ((3 * x1_29) + 1).toNatClampNeg) 0 (fun r125 u125_7 => (wp_X5_layAll_L29 K29_135 N29) (x1_29 + 1) (md_now vd_29 (u125_7)))))))))) ∧ (¬ r78 = 0 → K29_135 x1_29 vd_29))))) ∧ (¬ (vd_29.2.2.2.2.1 ((3 * x1_29) + 2).toNatClampNeg) = 1 → (wp_X5_refused vd_29.1 (vd_29.2.2.2.2.1 (3 * x1_29).toNatClampNeg) (vd_29.2.2.2.2.1 ((3 * x1_29) + 1).toNatClampNeg) 0 (fun r78 => ((r78 = 0 → (vp_in (3 * x1_29) 180 ∧ (vp_in ((3 * x1_29) + 1) 180 ∧ (vp_in ((3 * x1_29) + 2) 180 ∧ (((vd_29.2.2.2.2.1 ((3 * x1_29) + 2).toNatClampNeg) = 1 → (wp_X5_lays vd_29.1 (vd_29.2.2.2.2.1 (3 * x1_29).toNatClampNeg) (vd_29.2.2.2.2.1 ((3 * x1_29) + 1).toNatClampNeg) 1 (fun r125 u125_8 => (wp_X5_layAll_L29 K29_135 N29) (x1_29 + 1) (md_now vd_29 (u125_8))))) ∧ (¬ (vd_29.2.2.2.2.1 ((3 * x1_29) + 2).toNatClampNeg) = 1 → (wp_X5_lays vd_29.1 (vd_29.2.2.2.2.1 (3 * x1_29).toNatClampNeg) (vd_29.2.2.2.2.1 ((3 * x1_29) + 1).toNatClampNeg) 0 (fun r125 u125_9 => (wp_X5_layAll_L29 K29_135 N29) (x1_29 + 1) (md_now vd_29 (u125_9)))))))))) ∧ (¬ r78 = 0 → K29_135 x1_29 vd_29)))))))))))
def wp_X5_layAll (vd : Md) (post : Int32 → Md → Prop) : Prop :=
  (∀ vd_1 : Md, vd_1 = md_thrown vd (0) → (wp_X5_isText vd_1 (fun r6 u6_2 => ((r6 = 0 → (wp_X5_fails u6_2 1 (fun r14 u14_3 => post r14 u14_3))) ∧ (¬ r6 = 0 → (wp_X5_saves u6_2 (fun u19_4 => (∀ vd_5 : Md, vd_5 = md_typed u19_4 (0) → (∃ N : Nat, wp_X5_layAll_L29 (fun (e10 : Int32) (e11 : Md) => post e10 e11) N 0 vd_5)))))))))
theorem yoX5_layAll : yOk yX5_layAll 0 := by decide +kernel
set_option maxHeartbeats 4000000 in
set_option maxRecDepth 100000 in
theorem met_X5_layAll (l : Launch) (g : JG) (d0 : Nat) (d1 : Nat) (d2 : Nat) (d3 : Nat) (d4 : Nat) (d5 : Nat) (d6 : Nat) (vd : Md) (post : Int32 → Md → Prop) (hf : wp_X5_layAll vd post) : MetM l yX5_layAll wsX5_layAll ({ frames := 4, cells := 0, slots := 0, locals := 93 } : Room) [.ref d0] g (MdW g d0 d1 d2 d3 d4 d5 d6 vd) mkI post (fun u : Md => (MdW g d0 d1 d2 d3 d4 d5 d6 u)) := by
  have hin5 : ∀ w ∈ u_ws RX5 TX5 12, w ∈ wsX5_layAll := by decide +kernel
  have hl_28 : Cond.fieldLink RX5 28 (TX5 6).1 (TX5 6).2.1 (TX5 6).2.2.1 ∈ wsX5_layAll := by decide +kernel
  have hl_114 : Cond.fieldLink RX5 114 (TX5 5).1 (TX5 5).2.1 (TX5 5).2.2.1 ∈ wsX5_layAll := by decide +kernel
  have hl_132 : Cond.fieldLink RX5 132 (TX5 10).1 (TX5 10).2.1 (TX5 10).2.2.1 ∈ wsX5_layAll := by decide +kernel
  have hl_7 : Cond.fieldLink RX5 7 (TX5 0).1 (TX5 0).2.1 (TX5 0).2.2.1 ∈ wsX5_layAll := by decide +kernel
  have hl_22 : Cond.fieldLink RX5 22 (TX5 9).1 (TX5 9).2.1 (TX5 9).2.2.1 ∈ wsX5_layAll := by decide +kernel
  refine enterM (own := RX5) (cc := cX5_layAll) (nL := 2) (ret := (some .int)) (lv := [(0, .ref d0)]) (by decide) rfl rfl (Nat.le_of_ble_eq_true rfl) rfl (fun X hX hW hR => ?_)
  unfold wp_X5_layAll at hf
  refine j_aload_n (pc' := 1) hX dX5_layAll_0 rfl 0 rfl rfl ?_
  refine j_iconst (pc' := 2) (v := 0) hX dX5_layAll_1 (by decide) rfl ?_
  obtain ⟨vd_1, evd_1⟩ : ∃ z : Md, z = md_thrown vd (0) := ⟨_, rfl⟩
  refine j_put (ci := 5) (pc' := 5) (ws' := (MdW g d0 d1 d2 d3 d4 d5 d6 vd_1)) hX hW hin5 tyX5_ok nmX5 rfl 0 rfl 6 (by decide) hl_28 rfl rfl rfl (Nat.le_of_ble_eq_true rfl) dX5_layAll_2 (by subst evd_1; rfl) rfl ?_
  replace hf := hf vd_1 evd_1
  refine j_aload_n (pc' := 6) hX dX5_layAll_5 rfl 0 rfl rfl ?_
  refine j_callVM (ci := 5) (pc' := 9) (k' := 0) (n' := 0) (As := []) (rest := []) (stk := fun r6 => [.int r6]) (ws' := fun u6_2 => (MdW g d0 d1 d2 d3 d4 d5 d6 u6_2)) (wr := ([] : va_W)) hX hW (fun l => met_X5_isText l g d0 d1 d2 d3 d4 d5 d6 vd_1 _ hf) rfl gX5_layAll_X5_isText yoX5_isText rfl ⟨Nat.le_of_ble_eq_true rfl, Nat.le_of_ble_eq_true rfl⟩ ⟨Nat.le_of_ble_eq_true rfl, Nat.le_of_ble_eq_true rfl, Nat.le_of_ble_eq_true rfl, Nat.le_of_ble_eq_true rfl⟩ 0 rfl rfl [0, 1, 2, 3, 4, 5, 6] [] [0, 1, 2, 3, 4, 5, 6] rfl (by decide) rfl (by decide) (by decide) (fun _ => rfl) (by decide) (Nat.le_of_ble_eq_true rfl) rfl (fun _ => rfl) dX5_layAll_6 rfl (fun r6 u6_2 hf => ?_)
  refine j_if_ne (tgt := 18) (pc' := 12) hX dX5_layAll_9 (by decide) rfl hf (fun hf => ?_) (fun hf => ?_)
  · refine j_aload_n (pc' := 19) hX dX5_layAll_18 rfl 0 rfl rfl ?_
    refine j_callVM (ci := 5) (pc' := 22) (k' := 0) (n' := 0) (As := []) (rest := []) (stk := fun _ => []) (ws' := fun u19_4 => (MdW g d0 d1 d2 d3 d4 d5 d6 u19_4)) (wr := ([] : va_W)) hX hW (fun l => met_X5_saves l g d0 d1 d2 d3 d4 d5 d6 u6_2 _ hf) rfl gX5_layAll_X5_saves yoX5_saves rfl ⟨Nat.le_of_ble_eq_true rfl, Nat.le_of_ble_eq_true rfl⟩ ⟨Nat.le_of_ble_eq_true rfl, Nat.le_of_ble_eq_true rfl, Nat.le_of_ble_eq_true rfl, Nat.le_of_ble_eq_true rfl⟩ 0 rfl rfl [0, 1, 2, 3, 4, 5, 6] [] [0, 1, 2, 3, 4, 5, 6] rfl (by decide) rfl (by decide) (by decide) (fun _ => rfl) (by decide) (Nat.le_of_ble_eq_true rfl) rfl (fun _ => rfl) dX5_layAll_19 rfl (fun _ u19_4 hf => ?_)
    refine j_aload_n (pc' := 23) hX dX5_layAll_22 rfl 0 rfl rfl ?_
    refine j_iconst (pc' := 24) (v := 0) hX dX5_layAll_23 (by decide) rfl ?_
    obtain ⟨vd_5, evd_5⟩ : ∃ z : Md, z = md_typed u19_4 (0) := ⟨_, rfl⟩
    refine j_put (ci := 5) (pc' := 27) (ws' := (MdW g d0 d1 d2 d3 d4 d5 d6 vd_5)) hX hW hin5 tyX5_ok nmX5 rfl 0 rfl 5 (by decide) hl_114 rfl rfl rfl (Nat.le_of_ble_eq_true rfl) dX5_layAll_24 (by subst evd_5; rfl) rfl ?_
    replace hf := hf vd_5 evd_5
    refine j_iconst (pc' := 28) (v := 0) hX dX5_layAll_27 (by decide) rfl ?_
    refine j_istore_n (pc' := 29) (lv' := [(1, .int 0), (0, .ref d0)]) hX dX5_layAll_28 rfl (by decide) rfl rfl ?_
    obtain ⟨N29, hf⟩ := hf
    have L29 : ∀ (K29_135 : Int32 → Md → Prop), (∀ (x1_29 : Int32) (vd_29 : Md), K29_135 x1_29 vd_29 → J g X 0 0 (MdW g d0 d1 d2 d3 d4 d5 d6 vd_29) [(1, .int x1_29)] [] 135) → ∀ (N29 : Nat) (x1_29 : Int32) (vd_29 : Md), wp_X5_layAll_L29 K29_135 N29 x1_29 vd_29 → J g X 0 0 (MdW g d0 d1 d2 d3 d4 d5 d6 vd_29) [(0, .ref d0), (1, .int x1_29)] [] 29 := by
      intro K29_135 hK29_135 N29
      induction N29 with
      | zero => intro x1_29 vd_29 hf; exact False.elim hf
      | succ N29 ih29 =>
        intro x1_29 vd_29 hf
        refine j_iload_n (pc' := 30) hX dX5_layAll_29 rfl 1 rfl rfl ?_
        refine j_aload_n (pc' := 31) hX dX5_layAll_30 rfl 0 rfl rfl ?_
        refine j_get (ci := 5) (pc' := 34) hX hin5 rfl 0 rfl 10 (by decide) hl_132 rfl dX5_layAll_31 rfl ?_
        refine j_icmp_ge (tgt := 135) (pc' := 37) hX dX5_layAll_34 (by decide) rfl hf (fun hf => ?_) (fun hf => ?_)
        · refine J_sub (lv' := [(1, .int x1_29)]) [1] rfl ?_
          exact hK29_135 x1_29 vd_29 hf
        · refine j_aload_n (pc' := 38) hX dX5_layAll_37 rfl 0 rfl rfl ?_
          refine j_get (ci := 5) (pc' := 41) hX hin5 rfl 0 rfl 0 (by decide) hl_7 rfl dX5_layAll_38 rfl ?_
          refine j_aload_n (pc' := 42) hX dX5_layAll_41 rfl 0 rfl rfl ?_
          refine j_get (ci := 5) (pc' := 45) hX hin5 rfl 0 rfl 9 (by decide) hl_22 rfl dX5_layAll_42 rfl ?_
          refine j_iconst (pc' := 46) (v := 3) hX dX5_layAll_45 (by decide) rfl ?_
          refine j_iload_n (pc' := 47) hX dX5_layAll_46 rfl 1 rfl rfl ?_
          refine j_imul (pc' := 48) hX dX5_layAll_47 rfl ?_
          refine j_iald (pc' := 49) hX 5 rfl dX5_layAll_48 hf rfl (fun hf => ?_)
          refine j_aload_n (pc' := 50) hX dX5_layAll_49 rfl 0 rfl rfl ?_
          refine j_get (ci := 5) (pc' := 53) hX hin5 rfl 0 rfl 9 (by decide) hl_22 rfl dX5_layAll_50 rfl ?_
          refine j_iconst (pc' := 54) (v := 3) hX dX5_layAll_53 (by decide) rfl ?_
          refine j_iload_n (pc' := 55) hX dX5_layAll_54 rfl 1 rfl rfl ?_
          refine j_imul (pc' := 56) hX dX5_layAll_55 rfl ?_
          refine j_iconst (pc' := 57) (v := 1) hX dX5_layAll_56 (by decide) rfl ?_
          refine j_iadd (pc' := 58) hX dX5_layAll_57 rfl ?_
          refine j_iald (pc' := 59) hX 5 rfl dX5_layAll_58 hf rfl (fun hf => ?_)
          refine j_aload_n (pc' := 60) hX dX5_layAll_59 rfl 0 rfl rfl ?_
          refine j_get (ci := 5) (pc' := 63) hX hin5 rfl 0 rfl 9 (by decide) hl_22 rfl dX5_layAll_60 rfl ?_
          refine j_iconst (pc' := 64) (v := 3) hX dX5_layAll_63 (by decide) rfl ?_
          refine j_iload_n (pc' := 65) hX dX5_layAll_64 rfl 1 rfl rfl ?_
          refine j_imul (pc' := 66) hX dX5_layAll_65 rfl ?_
          refine j_iconst (pc' := 67) (v := 2) hX dX5_layAll_66 (by decide) rfl ?_
          refine j_iadd (pc' := 68) hX dX5_layAll_67 rfl ?_
          refine j_iald (pc' := 69) hX 5 rfl dX5_layAll_68 hf rfl (fun hf => ?_)
          refine j_iconst (pc' := 70) (v := 1) hX dX5_layAll_69 (by decide) rfl ?_
          refine j_icmp_ne (tgt := 77) (pc' := 73) hX dX5_layAll_70 (by decide) rfl hf (fun hf => ?_) (fun hf => ?_)
          · refine j_iconst (pc' := 78) (v := 0) hX dX5_layAll_77 (by decide) rfl ?_
            refine j_callSR (pc' := 81) (As := [.ref d1, .int (vd_29.2.2.2.2.1 (3 * x1_29).toNatClampNeg), .int (vd_29.2.2.2.2.1 ((3 * x1_29) + 1).toNatClampNeg), .int 0]) (rest := []) (stk := fun r78 => [.int r78]) hX (fun l => met_X5_refused l g d1 vd_29.1 (vd_29.2.2.2.2.1 (3 * x1_29).toNatClampNeg) (vd_29.2.2.2.2.1 ((3 * x1_29) + 1).toNatClampNeg) 0 _ hf) rfl gX5_layAll_X5_refused yoX5_refused rfl ⟨Nat.le_of_ble_eq_true rfl, Nat.le_of_ble_eq_true rfl⟩ ⟨⟨Nat.le_of_ble_eq_true rfl, Nat.le_of_ble_eq_true rfl⟩, rfl, rfl⟩ [1] rfl (by decide) (Nat.le_of_ble_eq_true rfl) rfl (fun _ => rfl) dX5_layAll_78 rfl (fun r78 hf => ?_)
            refine j_if_ne (tgt := 135) (pc' := 84) hX dX5_layAll_81 (by decide) rfl hf (fun hf => ?_) (fun hf => ?_)
            · refine J_sub (lv' := [(1, .int x1_29)]) [1] rfl ?_
              exact hK29_135 x1_29 vd_29 hf
            · refine j_aload_n (pc' := 85) hX dX5_layAll_84 rfl 0 rfl rfl ?_
              refine j_get (ci := 5) (pc' := 88) hX hin5 rfl 0 rfl 0 (by decide) hl_7 rfl dX5_layAll_85 rfl ?_
              refine j_aload_n (pc' := 89) hX dX5_layAll_88 rfl 0 rfl rfl ?_
              refine j_get (ci := 5) (pc' := 92) hX hin5 rfl 0 rfl 9 (by decide) hl_22 rfl dX5_layAll_89 rfl ?_
              refine j_iconst (pc' := 93) (v := 3) hX dX5_layAll_92 (by decide) rfl ?_
              refine j_iload_n (pc' := 94) hX dX5_layAll_93 rfl 1 rfl rfl ?_
              refine j_imul (pc' := 95) hX dX5_layAll_94 rfl ?_
              refine j_iald (pc' := 96) hX 5 rfl dX5_layAll_95 hf rfl (fun hf => ?_)
              refine j_aload_n (pc' := 97) hX dX5_layAll_96 rfl 0 rfl rfl ?_
              refine j_get (ci := 5) (pc' := 100) hX hin5 rfl 0 rfl 9 (by decide) hl_22 rfl dX5_layAll_97 rfl ?_
              refine j_iconst (pc' := 101) (v := 3) hX dX5_layAll_100 (by decide) rfl ?_
              refine j_iload_n (pc' := 102) hX dX5_layAll_101 rfl 1 rfl rfl ?_
              refine j_imul (pc' := 103) hX dX5_layAll_102 rfl ?_
              refine j_iconst (pc' := 104) (v := 1) hX dX5_layAll_103 (by decide) rfl ?_
              refine j_iadd (pc' := 105) hX dX5_layAll_104 rfl ?_
              refine j_iald (pc' := 106) hX 5 rfl dX5_layAll_105 hf rfl (fun hf => ?_)
              refine j_aload_n (pc' := 107) hX dX5_layAll_106 rfl 0 rfl rfl ?_
              refine j_get (ci := 5) (pc' := 110) hX hin5 rfl 0 rfl 9 (by decide) hl_22 rfl dX5_layAll_107 rfl ?_
              refine j_iconst (pc' := 111) (v := 3) hX dX5_layAll_110 (by decide) rfl ?_
              refine j_iload_n (pc' := 112) hX dX5_layAll_111 rfl 1 rfl rfl ?_
              refine j_imul (pc' := 113) hX dX5_layAll_112 rfl ?_
              refine j_iconst (pc' := 114) (v := 2) hX dX5_layAll_113 (by decide) rfl ?_
              refine j_iadd (pc' := 115) hX dX5_layAll_114 rfl ?_
              refine j_iald (pc' := 116) hX 5 rfl dX5_layAll_115 hf rfl (fun hf => ?_)
              refine j_iconst (pc' := 117) (v := 1) hX dX5_layAll_116 (by decide) rfl ?_
              refine j_icmp_ne (tgt := 124) (pc' := 120) hX dX5_layAll_117 (by decide) rfl hf (fun hf => ?_) (fun hf => ?_)
              · refine j_iconst (pc' := 125) (v := 0) hX dX5_layAll_124 (by decide) rfl ?_
                refine j_callSM (pc' := 128) (k' := 0) (n' := 0) (As := [.ref d1, .int (vd_29.2.2.2.2.1 (3 * x1_29).toNatClampNeg), .int (vd_29.2.2.2.2.1 ((3 * x1_29) + 1).toNatClampNeg), .int 0]) (rest := []) (stk := fun r125 => [.int r125]) (ws' := fun u125_9 => (MdW g d0 d1 d2 d3 d4 d5 d6 (md_now vd_29 (u125_9)))) (wr := (List.filterMap (fun i : Nat => (MdW g d0 d1 d2 d3 d4 d5 d6 vd_29)[i]?) [0, 2, 3, 4, 5, 6])) hX hW (fun l => met_X5_lays l g d1 vd_29.1 (vd_29.2.2.2.2.1 (3 * x1_29).toNatClampNeg) (vd_29.2.2.2.2.1 ((3 * x1_29) + 1).toNatClampNeg) 0 _ hf) rfl gX5_layAll_X5_lays yoX5_lays rfl ⟨Nat.le_of_ble_eq_true rfl, Nat.le_of_ble_eq_true rfl⟩ ⟨Nat.le_of_ble_eq_true rfl, Nat.le_of_ble_eq_true rfl, Nat.le_of_ble_eq_true rfl, Nat.le_of_ble_eq_true rfl⟩ [1] [0, 2, 3, 4, 5, 6] [0, 6, 1, 2, 3, 4, 5] rfl (by decide) rfl (by decide) (by decide) (fun _ => rfl) (by decide) (Nat.le_of_ble_eq_true rfl) rfl (fun _ => rfl) dX5_layAll_125 rfl (fun r125 u125_9 hf => ?_)
                refine j_pop (pc' := 129) hX dX5_layAll_128 rfl rfl ?_
                refine j_iinc (pc' := 132) (cst := 1) (v := (x1_29 + 1)) (lv' := [(1, .int (x1_29 + 1)), (0, .ref d0)]) hX dX5_layAll_129 (by decide) rfl 1 rfl (by decide) rfl rfl ?_
                refine j_goto (tgt := 29) hX dX5_layAll_132 (by decide) ?_
                refine J_sub (lv' := [(0, .ref d0), (1, .int (x1_29 + 1))]) [1, 0] rfl ?_
                exact ih29 (x1_29 + 1) (md_now vd_29 (u125_9)) hf
              · refine j_iconst (pc' := 121) (v := 1) hX dX5_layAll_120 (by decide) rfl ?_
                refine j_goto (tgt := 125) hX dX5_layAll_121 (by decide) ?_
                refine j_callSM (pc' := 128) (k' := 0) (n' := 0) (As := [.ref d1, .int (vd_29.2.2.2.2.1 (3 * x1_29).toNatClampNeg), .int (vd_29.2.2.2.2.1 ((3 * x1_29) + 1).toNatClampNeg), .int 1]) (rest := []) (stk := fun r125 => [.int r125]) (ws' := fun u125_8 => (MdW g d0 d1 d2 d3 d4 d5 d6 (md_now vd_29 (u125_8)))) (wr := (List.filterMap (fun i : Nat => (MdW g d0 d1 d2 d3 d4 d5 d6 vd_29)[i]?) [0, 2, 3, 4, 5, 6])) hX hW (fun l => met_X5_lays l g d1 vd_29.1 (vd_29.2.2.2.2.1 (3 * x1_29).toNatClampNeg) (vd_29.2.2.2.2.1 ((3 * x1_29) + 1).toNatClampNeg) 1 _ hf) rfl gX5_layAll_X5_lays yoX5_lays rfl ⟨Nat.le_of_ble_eq_true rfl, Nat.le_of_ble_eq_true rfl⟩ ⟨Nat.le_of_ble_eq_true rfl, Nat.le_of_ble_eq_true rfl, Nat.le_of_ble_eq_true rfl, Nat.le_of_ble_eq_true rfl⟩ [1] [0, 2, 3, 4, 5, 6] [0, 6, 1, 2, 3, 4, 5] rfl (by decide) rfl (by decide) (by decide) (fun _ => rfl) (by decide) (Nat.le_of_ble_eq_true rfl) rfl (fun _ => rfl) dX5_layAll_125 rfl (fun r125 u125_8 hf => ?_)
                refine j_pop (pc' := 129) hX dX5_layAll_128 rfl rfl ?_
                refine j_iinc (pc' := 132) (cst := 1) (v := (x1_29 + 1)) (lv' := [(1, .int (x1_29 + 1)), (0, .ref d0)]) hX dX5_layAll_129 (by decide) rfl 1 rfl (by decide) rfl rfl ?_
                refine j_goto (tgt := 29) hX dX5_layAll_132 (by decide) ?_
                refine J_sub (lv' := [(0, .ref d0), (1, .int (x1_29 + 1))]) [1, 0] rfl ?_
                exact ih29 (x1_29 + 1) (md_now vd_29 (u125_8)) hf
          · refine j_iconst (pc' := 74) (v := 1) hX dX5_layAll_73 (by decide) rfl ?_
            refine j_goto (tgt := 78) hX dX5_layAll_74 (by decide) ?_
            refine j_callSR (pc' := 81) (As := [.ref d1, .int (vd_29.2.2.2.2.1 (3 * x1_29).toNatClampNeg), .int (vd_29.2.2.2.2.1 ((3 * x1_29) + 1).toNatClampNeg), .int 1]) (rest := []) (stk := fun r78 => [.int r78]) hX (fun l => met_X5_refused l g d1 vd_29.1 (vd_29.2.2.2.2.1 (3 * x1_29).toNatClampNeg) (vd_29.2.2.2.2.1 ((3 * x1_29) + 1).toNatClampNeg) 1 _ hf) rfl gX5_layAll_X5_refused yoX5_refused rfl ⟨Nat.le_of_ble_eq_true rfl, Nat.le_of_ble_eq_true rfl⟩ ⟨⟨Nat.le_of_ble_eq_true rfl, Nat.le_of_ble_eq_true rfl⟩, rfl, rfl⟩ [1] rfl (by decide) (Nat.le_of_ble_eq_true rfl) rfl (fun _ => rfl) dX5_layAll_78 rfl (fun r78 hf => ?_)
            refine j_if_ne (tgt := 135) (pc' := 84) hX dX5_layAll_81 (by decide) rfl hf (fun hf => ?_) (fun hf => ?_)
            · refine J_sub (lv' := [(1, .int x1_29)]) [1] rfl ?_
              exact hK29_135 x1_29 vd_29 hf
            · refine j_aload_n (pc' := 85) hX dX5_layAll_84 rfl 0 rfl rfl ?_
              refine j_get (ci := 5) (pc' := 88) hX hin5 rfl 0 rfl 0 (by decide) hl_7 rfl dX5_layAll_85 rfl ?_
              refine j_aload_n (pc' := 89) hX dX5_layAll_88 rfl 0 rfl rfl ?_
              refine j_get (ci := 5) (pc' := 92) hX hin5 rfl 0 rfl 9 (by decide) hl_22 rfl dX5_layAll_89 rfl ?_
              refine j_iconst (pc' := 93) (v := 3) hX dX5_layAll_92 (by decide) rfl ?_
              refine j_iload_n (pc' := 94) hX dX5_layAll_93 rfl 1 rfl rfl ?_
              refine j_imul (pc' := 95) hX dX5_layAll_94 rfl ?_
              refine j_iald (pc' := 96) hX 5 rfl dX5_layAll_95 hf rfl (fun hf => ?_)
              refine j_aload_n (pc' := 97) hX dX5_layAll_96 rfl 0 rfl rfl ?_
              refine j_get (ci := 5) (pc' := 100) hX hin5 rfl 0 rfl 9 (by decide) hl_22 rfl dX5_layAll_97 rfl ?_
              refine j_iconst (pc' := 101) (v := 3) hX dX5_layAll_100 (by decide) rfl ?_
              refine j_iload_n (pc' := 102) hX dX5_layAll_101 rfl 1 rfl rfl ?_
              refine j_imul (pc' := 103) hX dX5_layAll_102 rfl ?_
              refine j_iconst (pc' := 104) (v := 1) hX dX5_layAll_103 (by decide) rfl ?_
              refine j_iadd (pc' := 105) hX dX5_layAll_104 rfl ?_
              refine j_iald (pc' := 106) hX 5 rfl dX5_layAll_105 hf rfl (fun hf => ?_)
              refine j_aload_n (pc' := 107) hX dX5_layAll_106 rfl 0 rfl rfl ?_
              refine j_get (ci := 5) (pc' := 110) hX hin5 rfl 0 rfl 9 (by decide) hl_22 rfl dX5_layAll_107 rfl ?_
              refine j_iconst (pc' := 111) (v := 3) hX dX5_layAll_110 (by decide) rfl ?_
              refine j_iload_n (pc' := 112) hX dX5_layAll_111 rfl 1 rfl rfl ?_
              refine j_imul (pc' := 113) hX dX5_layAll_112 rfl ?_
              refine j_iconst (pc' := 114) (v := 2) hX dX5_layAll_113 (by decide) rfl ?_
              refine j_iadd (pc' := 115) hX dX5_layAll_114 rfl ?_
              refine j_iald (pc' := 116) hX 5 rfl dX5_layAll_115 hf rfl (fun hf => ?_)
              refine j_iconst (pc' := 117) (v := 1) hX dX5_layAll_116 (by decide) rfl ?_
              refine j_icmp_ne (tgt := 124) (pc' := 120) hX dX5_layAll_117 (by decide) rfl hf (fun hf => ?_) (fun hf => ?_)
              · refine j_iconst (pc' := 125) (v := 0) hX dX5_layAll_124 (by decide) rfl ?_
                refine j_callSM (pc' := 128) (k' := 0) (n' := 0) (As := [.ref d1, .int (vd_29.2.2.2.2.1 (3 * x1_29).toNatClampNeg), .int (vd_29.2.2.2.2.1 ((3 * x1_29) + 1).toNatClampNeg), .int 0]) (rest := []) (stk := fun r125 => [.int r125]) (ws' := fun u125_7 => (MdW g d0 d1 d2 d3 d4 d5 d6 (md_now vd_29 (u125_7)))) (wr := (List.filterMap (fun i : Nat => (MdW g d0 d1 d2 d3 d4 d5 d6 vd_29)[i]?) [0, 2, 3, 4, 5, 6])) hX hW (fun l => met_X5_lays l g d1 vd_29.1 (vd_29.2.2.2.2.1 (3 * x1_29).toNatClampNeg) (vd_29.2.2.2.2.1 ((3 * x1_29) + 1).toNatClampNeg) 0 _ hf) rfl gX5_layAll_X5_lays yoX5_lays rfl ⟨Nat.le_of_ble_eq_true rfl, Nat.le_of_ble_eq_true rfl⟩ ⟨Nat.le_of_ble_eq_true rfl, Nat.le_of_ble_eq_true rfl, Nat.le_of_ble_eq_true rfl, Nat.le_of_ble_eq_true rfl⟩ [1] [0, 2, 3, 4, 5, 6] [0, 6, 1, 2, 3, 4, 5] rfl (by decide) rfl (by decide) (by decide) (fun _ => rfl) (by decide) (Nat.le_of_ble_eq_true rfl) rfl (fun _ => rfl) dX5_layAll_125 rfl (fun r125 u125_7 hf => ?_)
                refine j_pop (pc' := 129) hX dX5_layAll_128 rfl rfl ?_
                refine j_iinc (pc' := 132) (cst := 1) (v := (x1_29 + 1)) (lv' := [(1, .int (x1_29 + 1)), (0, .ref d0)]) hX dX5_layAll_129 (by decide) rfl 1 rfl (by decide) rfl rfl ?_
                refine j_goto (tgt := 29) hX dX5_layAll_132 (by decide) ?_
                refine J_sub (lv' := [(0, .ref d0), (1, .int (x1_29 + 1))]) [1, 0] rfl ?_
                exact ih29 (x1_29 + 1) (md_now vd_29 (u125_7)) hf
              · refine j_iconst (pc' := 121) (v := 1) hX dX5_layAll_120 (by decide) rfl ?_
                refine j_goto (tgt := 125) hX dX5_layAll_121 (by decide) ?_
                refine j_callSM (pc' := 128) (k' := 0) (n' := 0) (As := [.ref d1, .int (vd_29.2.2.2.2.1 (3 * x1_29).toNatClampNeg), .int (vd_29.2.2.2.2.1 ((3 * x1_29) + 1).toNatClampNeg), .int 1]) (rest := []) (stk := fun r125 => [.int r125]) (ws' := fun u125_6 => (MdW g d0 d1 d2 d3 d4 d5 d6 (md_now vd_29 (u125_6)))) (wr := (List.filterMap (fun i : Nat => (MdW g d0 d1 d2 d3 d4 d5 d6 vd_29)[i]?) [0, 2, 3, 4, 5, 6])) hX hW (fun l => met_X5_lays l g d1 vd_29.1 (vd_29.2.2.2.2.1 (3 * x1_29).toNatClampNeg) (vd_29.2.2.2.2.1 ((3 * x1_29) + 1).toNatClampNeg) 1 _ hf) rfl gX5_layAll_X5_lays yoX5_lays rfl ⟨Nat.le_of_ble_eq_true rfl, Nat.le_of_ble_eq_true rfl⟩ ⟨Nat.le_of_ble_eq_true rfl, Nat.le_of_ble_eq_true rfl, Nat.le_of_ble_eq_true rfl, Nat.le_of_ble_eq_true rfl⟩ [1] [0, 2, 3, 4, 5, 6] [0, 6, 1, 2, 3, 4, 5] rfl (by decide) rfl (by decide) (by decide) (fun _ => rfl) (by decide) (Nat.le_of_ble_eq_true rfl) rfl (fun _ => rfl) dX5_layAll_125 rfl (fun r125 u125_6 hf => ?_)
                refine j_pop (pc' := 129) hX dX5_layAll_128 rfl rfl ?_
                refine j_iinc (pc' := 132) (cst := 1) (v := (x1_29 + 1)) (lv' := [(1, .int (x1_29 + 1)), (0, .ref d0)]) hX dX5_layAll_129 (by decide) rfl 1 rfl (by decide) rfl rfl ?_
                refine j_goto (tgt := 29) hX dX5_layAll_132 (by decide) ?_
                refine J_sub (lv' := [(0, .ref d0), (1, .int (x1_29 + 1))]) [1, 0] rfl ?_
                exact ih29 (x1_29 + 1) (md_now vd_29 (u125_6)) hf
    refine J_sub (lv' := [(0, .ref d0), (1, .int 0)]) [1, 0] rfl ?_
    refine L29 _ (fun e10 e11 hf => ?_) N29 0 vd_5 hf
    refine j_iload_n (pc' := 136) hX dX5_layAll_135 rfl 0 rfl rfl ?_
    exact j_iret hX hR dX5_layAll_136 ⟨_, _, rfl, hf, rfl⟩
  · refine j_aload_n (pc' := 13) hX dX5_layAll_12 rfl 0 rfl rfl ?_
    refine j_iconst (pc' := 14) (v := 1) hX dX5_layAll_13 (by decide) rfl ?_
    refine j_callVM (ci := 5) (pc' := 17) (k' := 0) (n' := 0) (As := [.int 1]) (rest := []) (stk := fun r14 => [.int r14]) (ws' := fun u14_3 => (MdW g d0 d1 d2 d3 d4 d5 d6 u14_3)) (wr := ([] : va_W)) hX hW (fun l => met_X5_fails l g d0 d1 d2 d3 d4 d5 d6 u6_2 1 _ hf) rfl gX5_layAll_X5_fails yoX5_fails rfl ⟨Nat.le_of_ble_eq_true rfl, Nat.le_of_ble_eq_true rfl⟩ ⟨Nat.le_of_ble_eq_true rfl, Nat.le_of_ble_eq_true rfl, Nat.le_of_ble_eq_true rfl, Nat.le_of_ble_eq_true rfl⟩ 0 rfl rfl [0, 1, 2, 3, 4, 5, 6] [] [0, 1, 2, 3, 4, 5, 6] rfl (by decide) rfl (by decide) (by decide) (fun _ => rfl) (by decide) (Nat.le_of_ble_eq_true rfl) rfl (fun _ => rfl) dX5_layAll_14 rfl (fun r14 u14_3 hf => ?_)
    exact j_iret hX hR dX5_layAll_17 ⟨_, _, rfl, hf, rfl⟩
def wp_X5_fillers_L4 (vd : Md) (p0 : Int32) (K4_44 : Int32 → Prop) : Nat → Int32 → Int32 → Prop
  | 0, _, _ => False
  | N4 + 1, x2_4, x3_4 =>
  (wp_X5_pebbles vd.1 p0 (fun r10 => ((r10 ≤ x3_4 → K4_44 x2_4) ∧ (¬ r10 ≤ x3_4 → (vp_in (((10 + (61 * p0)) + 1) + x3_4) 376 ∧ (wp_X5_fillers_L4 vd p0 K4_44 N4) (x2_4 + ((vd.1 (((10 + (61 * p0)) + 1) + x3_4).toNatClampNeg) / 10)) (x3_4 + 1))))))
def wp_X5_fillers (vd : Md) (p0 : Int32) (post : Int32 → Prop) : Prop :=
  (∃ N : Nat, wp_X5_fillers_L4 vd p0 (fun (e1 : Int32) => post e1) N 0 0)
theorem yoX5_fillers : yOk yX5_fillers 1 := by decide +kernel
set_option maxHeartbeats 4000000 in
set_option maxRecDepth 100000 in
theorem met_X5_fillers (l : Launch) (g : JG) (d0 : Nat) (d1 : Nat) (d2 : Nat) (d3 : Nat) (d4 : Nat) (d5 : Nat) (d6 : Nat) (vd : Md) (p0 : Int32) (post : Int32 → Prop) (hf : wp_X5_fillers vd p0 post) : MetR l yX5_fillers wsX5_fillers ({ frames := 1, cells := 0, slots := 0, locals := 21 } : Room) [.ref d0, .int p0] g (MdW g d0 d1 d2 d3 d4 d5 d6 vd) mkI post := by
  have hin5 : ∀ w ∈ u_ws RX5 TX5 12, w ∈ wsX5_fillers := by decide +kernel
  have hl_7 : Cond.fieldLink RX5 7 (TX5 0).1 (TX5 0).2.1 (TX5 0).2.2.1 ∈ wsX5_fillers := by decide +kernel
  refine enterR (own := RX5) (cc := cX5_fillers) (nL := 4) (ret := (some .int)) (lv := [(0, .ref d0), (1, .int p0)]) (by decide) rfl rfl (Nat.le_of_ble_eq_true rfl) rfl (fun X hX hR => ?_)
  unfold wp_X5_fillers at hf
  refine j_iconst (pc' := 1) (v := 0) hX dX5_fillers_0 (by decide) rfl ?_
  refine j_istore_n (pc' := 2) (lv' := [(2, .int 0), (0, .ref d0), (1, .int p0)]) hX dX5_fillers_1 rfl (by decide) rfl rfl ?_
  refine j_iconst (pc' := 3) (v := 0) hX dX5_fillers_2 (by decide) rfl ?_
  refine j_istore_n (pc' := 4) (lv' := [(3, .int 0), (2, .int 0), (0, .ref d0), (1, .int p0)]) hX dX5_fillers_3 rfl (by decide) rfl rfl ?_
  obtain ⟨N4, hf⟩ := hf
  have L4 : ∀ (K4_44 : Int32 → Prop), (∀ (x2_4 : Int32), K4_44 x2_4 → J g X 0 0 (MdW g d0 d1 d2 d3 d4 d5 d6 vd) [(2, .int x2_4)] [] 44) → ∀ (N4 : Nat) (x2_4 : Int32) (x3_4 : Int32), wp_X5_fillers_L4 vd p0 K4_44 N4 x2_4 x3_4 → J g X 0 0 (MdW g d0 d1 d2 d3 d4 d5 d6 vd) [(0, .ref d0), (1, .int p0), (2, .int x2_4), (3, .int x3_4)] [] 4 := by
    intro K4_44 hK4_44 N4
    induction N4 with
    | zero => intro x2_4 x3_4 hf; exact False.elim hf
    | succ N4 ih4 =>
      intro x2_4 x3_4 hf
      refine j_iload_n (pc' := 5) hX dX5_fillers_4 rfl 3 rfl rfl ?_
      refine j_aload_n (pc' := 6) hX dX5_fillers_5 rfl 0 rfl rfl ?_
      refine j_get (ci := 5) (pc' := 9) hX hin5 rfl 0 rfl 0 (by decide) hl_7 rfl dX5_fillers_6 rfl ?_
      refine j_iload_n (pc' := 10) hX dX5_fillers_9 rfl 1 rfl rfl ?_
      refine j_callSR (pc' := 13) (As := [.ref d1, .int p0]) (rest := [.int x3_4]) (stk := fun r10 => [.int r10, .int x3_4]) hX (fun l => met_X5_pebbles l g d1 vd.1 p0 _ hf) rfl gX5_fillers_X5_pebbles yoX5_pebbles rfl ⟨Nat.le_of_ble_eq_true rfl, Nat.le_of_ble_eq_true rfl⟩ ⟨⟨Nat.le_of_ble_eq_true rfl, Nat.le_of_ble_eq_true rfl⟩, rfl, rfl⟩ [1] rfl (by decide) (Nat.le_of_ble_eq_true rfl) rfl (fun _ => rfl) dX5_fillers_10 rfl (fun r10 hf => ?_)
      refine j_icmp_ge (tgt := 44) (pc' := 16) hX dX5_fillers_13 (by decide) rfl hf (fun hf => ?_) (fun hf => ?_)
      · refine J_sub (lv' := [(2, .int x2_4)]) [2] rfl ?_
        exact hK4_44 x2_4 hf
      · refine j_iload_n (pc' := 17) hX dX5_fillers_16 rfl 2 rfl rfl ?_
        refine j_aload_n (pc' := 18) hX dX5_fillers_17 rfl 0 rfl rfl ?_
        refine j_get (ci := 5) (pc' := 21) hX hin5 rfl 0 rfl 0 (by decide) hl_7 rfl dX5_fillers_18 rfl ?_
        refine j_bipush (pc' := 23) (v := 10) hX dX5_fillers_21 (by decide) rfl ?_
        refine j_bipush (pc' := 25) (v := 61) hX dX5_fillers_23 (by decide) rfl ?_
        refine j_iload_n (pc' := 26) hX dX5_fillers_25 rfl 1 rfl rfl ?_
        refine j_imul (pc' := 27) hX dX5_fillers_26 rfl ?_
        refine j_iadd (pc' := 28) hX dX5_fillers_27 rfl ?_
        refine j_iconst (pc' := 29) (v := 1) hX dX5_fillers_28 (by decide) rfl ?_
        refine j_iadd (pc' := 30) hX dX5_fillers_29 rfl ?_
        refine j_iload_n (pc' := 31) hX dX5_fillers_30 rfl 3 rfl rfl ?_
        refine j_iadd (pc' := 32) hX dX5_fillers_31 rfl ?_
        refine j_iald (pc' := 33) hX 1 rfl dX5_fillers_32 hf rfl (fun hf => ?_)
        refine j_bipush (pc' := 35) (v := 10) hX dX5_fillers_33 (by decide) rfl ?_
        refine j_idiv (pc' := 36) hX dX5_fillers_35 ⟨by decide, hf⟩ rfl (fun hf => ?_)
        refine j_iadd (pc' := 37) hX dX5_fillers_36 rfl ?_
        refine j_istore_n (pc' := 38) (lv' := [(2, .int (x2_4 + ((vd.1 (((10 + (61 * p0)) + 1) + x3_4).toNatClampNeg) / 10))), (0, .ref d0), (1, .int p0), (3, .int x3_4)]) hX dX5_fillers_37 rfl (by decide) rfl rfl ?_
        refine j_iinc (pc' := 41) (cst := 1) (v := (x3_4 + 1)) (lv' := [(3, .int (x3_4 + 1)), (2, .int (x2_4 + ((vd.1 (((10 + (61 * p0)) + 1) + x3_4).toNatClampNeg) / 10))), (0, .ref d0), (1, .int p0)]) hX dX5_fillers_38 (by decide) rfl 3 rfl (by decide) rfl rfl ?_
        refine j_goto (tgt := 4) hX dX5_fillers_41 (by decide) ?_
        refine J_sub (lv' := [(0, .ref d0), (1, .int p0), (2, .int (x2_4 + ((vd.1 (((10 + (61 * p0)) + 1) + x3_4).toNatClampNeg) / 10))), (3, .int (x3_4 + 1))]) [2, 3, 1, 0] rfl ?_
        exact ih4 (x2_4 + ((vd.1 (((10 + (61 * p0)) + 1) + x3_4).toNatClampNeg) / 10)) (x3_4 + 1) hf
  refine J_sub (lv' := [(0, .ref d0), (1, .int p0), (2, .int 0), (3, .int 0)]) [2, 3, 1, 0] rfl ?_
  refine L4 _ (fun e1 hf => ?_) N4 0 0 hf
  refine j_iload_n (pc' := 45) hX dX5_fillers_44 rfl 0 rfl rfl ?_
  exact j_iret hX hR dX5_fillers_45 ⟨_, rfl, hf⟩
def wp_X5_ofCourse (vd : Md) (p0 : Int32) (p1 : Int32) (post : Int32 → Prop) : Prop :=
  ((4 ≤ p1 → ((p1 = 4 → (wp_X5_joints vd.1 p0 (fun r88 => post r88))) ∧ (¬ p1 = 4 → ((p1 = 5 → (wp_X5_meeting vd.1 p0 0 (fun r105 => post r105))) ∧ (¬ p1 = 5 → (wp_X5_fillers vd p0 (fun r113 => post r113))))))) ∧ (¬ 4 ≤ p1 → ((p1 = 0 → (wp_X5_cells vd.1 p0 (fun r14 => post r14))) ∧ (¬ p1 = 0 → ((p1 = 1 → (wp_X5_pebbles vd.1 p0 (fun r30 => post r30))) ∧ (¬ p1 = 1 → ((p1 = 2 → (wp_X5_cells vd.1 p0 (fun r46 => (wp_X5_taken vd.1 p0 (fun r54 => post (r46 - r54)))))) ∧ (¬ p1 = 2 → (wp_X5_isClosed vd.1 p0 (fun r66 => ((r66 = 0 → post 0) ∧ (¬ r66 = 0 → post 1))))))))))))
theorem yoX5_ofCourse : yOk yX5_ofCourse 2 := by decide +kernel
set_option maxHeartbeats 4000000 in
set_option maxRecDepth 100000 in
theorem met_X5_ofCourse (l : Launch) (g : JG) (d0 : Nat) (d1 : Nat) (d2 : Nat) (d3 : Nat) (d4 : Nat) (d5 : Nat) (d6 : Nat) (vd : Md) (p0 : Int32) (p1 : Int32) (post : Int32 → Prop) (hf : wp_X5_ofCourse vd p0 p1 post) : MetR l yX5_ofCourse wsX5_ofCourse ({ frames := 4, cells := 0, slots := 0, locals := 93 } : Room) [.ref d0, .int p0, .int p1] g (MdW g d0 d1 d2 d3 d4 d5 d6 vd) mkI post := by
  have hin5 : ∀ w ∈ u_ws RX5 TX5 12, w ∈ wsX5_ofCourse := by decide +kernel
  have hl_7 : Cond.fieldLink RX5 7 (TX5 0).1 (TX5 0).2.1 (TX5 0).2.2.1 ∈ wsX5_ofCourse := by decide +kernel
  refine enterR (own := RX5) (cc := cX5_ofCourse) (nL := 3) (ret := (some .int)) (lv := [(0, .ref d0), (1, .int p0), (2, .int p1)]) (by decide) rfl rfl (Nat.le_of_ble_eq_true rfl) rfl (fun X hX hR => ?_)
  unfold wp_X5_ofCourse at hf
  refine j_iload_n (pc' := 1) hX dX5_ofCourse_0 rfl 2 rfl rfl ?_
  refine j_iconst (pc' := 2) (v := 4) hX dX5_ofCourse_1 (by decide) rfl ?_
  refine j_icmp_ge (tgt := 78) (pc' := 5) hX dX5_ofCourse_2 (by decide) rfl hf (fun hf => ?_) (fun hf => ?_)
  · refine j_iload_n (pc' := 79) hX dX5_ofCourse_78 rfl 2 rfl rfl ?_
    refine j_iconst (pc' := 80) (v := 4) hX dX5_ofCourse_79 (by decide) rfl ?_
    refine j_icmp_ne (tgt := 94) (pc' := 83) hX dX5_ofCourse_80 (by decide) rfl hf (fun hf => ?_) (fun hf => ?_)
    · refine j_iload_n (pc' := 95) hX dX5_ofCourse_94 rfl 2 rfl rfl ?_
      refine j_iconst (pc' := 96) (v := 5) hX dX5_ofCourse_95 (by decide) rfl ?_
      refine j_icmp_ne (tgt := 111) (pc' := 99) hX dX5_ofCourse_96 (by decide) rfl hf (fun hf => ?_) (fun hf => ?_)
      · refine j_aload_n (pc' := 112) hX dX5_ofCourse_111 rfl 0 rfl rfl ?_
        refine j_iload_n (pc' := 113) hX dX5_ofCourse_112 rfl 1 rfl rfl ?_
        refine j_callVR (ci := 5) (pc' := 116) (As := [.int p0]) (rest := []) (stk := fun r113 => [.int r113]) hX (fun l => met_X5_fillers l g d0 d1 d2 d3 d4 d5 d6 vd p0 _ hf) rfl gX5_ofCourse_X5_fillers yoX5_fillers rfl ⟨Nat.le_of_ble_eq_true rfl, Nat.le_of_ble_eq_true rfl⟩ ⟨⟨Nat.le_of_ble_eq_true rfl, Nat.le_of_ble_eq_true rfl⟩, rfl, rfl⟩ 0 rfl rfl [0, 1, 2, 3, 4, 5, 6] rfl (by decide) (Nat.le_of_ble_eq_true rfl) rfl (fun _ => rfl) dX5_ofCourse_113 rfl (fun r113 hf => ?_)
        exact j_iret hX hR dX5_ofCourse_116 ⟨_, rfl, hf⟩
      · refine j_aload_n (pc' := 100) hX dX5_ofCourse_99 rfl 0 rfl rfl ?_
        refine j_get (ci := 5) (pc' := 103) hX hin5 rfl 0 rfl 0 (by decide) hl_7 rfl dX5_ofCourse_100 rfl ?_
        refine j_iload_n (pc' := 104) hX dX5_ofCourse_103 rfl 1 rfl rfl ?_
        refine j_iconst (pc' := 105) (v := 0) hX dX5_ofCourse_104 (by decide) rfl ?_
        refine j_callSR (pc' := 108) (As := [.ref d1, .int p0, .int 0]) (rest := []) (stk := fun r105 => [.int r105]) hX (fun l => met_X5_meeting l g d1 vd.1 p0 0 _ hf) rfl gX5_ofCourse_X5_meeting yoX5_meeting rfl ⟨Nat.le_of_ble_eq_true rfl, Nat.le_of_ble_eq_true rfl⟩ ⟨⟨Nat.le_of_ble_eq_true rfl, Nat.le_of_ble_eq_true rfl⟩, rfl, rfl⟩ [1] rfl (by decide) (Nat.le_of_ble_eq_true rfl) rfl (fun _ => rfl) dX5_ofCourse_105 rfl (fun r105 hf => ?_)
        refine j_goto (tgt := 116) hX dX5_ofCourse_108 (by decide) ?_
        exact j_iret hX hR dX5_ofCourse_116 ⟨_, rfl, hf⟩
    · refine j_aload_n (pc' := 84) hX dX5_ofCourse_83 rfl 0 rfl rfl ?_
      refine j_get (ci := 5) (pc' := 87) hX hin5 rfl 0 rfl 0 (by decide) hl_7 rfl dX5_ofCourse_84 rfl ?_
      refine j_iload_n (pc' := 88) hX dX5_ofCourse_87 rfl 1 rfl rfl ?_
      refine j_callSR (pc' := 91) (As := [.ref d1, .int p0]) (rest := []) (stk := fun r88 => [.int r88]) hX (fun l => met_X5_joints l g d1 vd.1 p0 _ hf) rfl gX5_ofCourse_X5_joints yoX5_joints rfl ⟨Nat.le_of_ble_eq_true rfl, Nat.le_of_ble_eq_true rfl⟩ ⟨⟨Nat.le_of_ble_eq_true rfl, Nat.le_of_ble_eq_true rfl⟩, rfl, rfl⟩ [1] rfl (by decide) (Nat.le_of_ble_eq_true rfl) rfl (fun _ => rfl) dX5_ofCourse_88 rfl (fun r88 hf => ?_)
      refine j_goto (tgt := 116) hX dX5_ofCourse_91 (by decide) ?_
      exact j_iret hX hR dX5_ofCourse_116 ⟨_, rfl, hf⟩
  · refine j_iload_n (pc' := 6) hX dX5_ofCourse_5 rfl 2 rfl rfl ?_
    refine j_if_ne (tgt := 20) (pc' := 9) hX dX5_ofCourse_6 (by decide) rfl hf (fun hf => ?_) (fun hf => ?_)
    · refine j_iload_n (pc' := 21) hX dX5_ofCourse_20 rfl 2 rfl rfl ?_
      refine j_iconst (pc' := 22) (v := 1) hX dX5_ofCourse_21 (by decide) rfl ?_
      refine j_icmp_ne (tgt := 36) (pc' := 25) hX dX5_ofCourse_22 (by decide) rfl hf (fun hf => ?_) (fun hf => ?_)
      · refine j_iload_n (pc' := 37) hX dX5_ofCourse_36 rfl 2 rfl rfl ?_
        refine j_iconst (pc' := 38) (v := 2) hX dX5_ofCourse_37 (by decide) rfl ?_
        refine j_icmp_ne (tgt := 61) (pc' := 41) hX dX5_ofCourse_38 (by decide) rfl hf (fun hf => ?_) (fun hf => ?_)
        · refine j_aload_n (pc' := 62) hX dX5_ofCourse_61 rfl 0 rfl rfl ?_
          refine j_get (ci := 5) (pc' := 65) hX hin5 rfl 0 rfl 0 (by decide) hl_7 rfl dX5_ofCourse_62 rfl ?_
          refine j_iload_n (pc' := 66) hX dX5_ofCourse_65 rfl 1 rfl rfl ?_
          refine j_callSR (pc' := 69) (As := [.ref d1, .int p0]) (rest := []) (stk := fun r66 => [.int r66]) hX (fun l => met_X5_isClosed l g d1 vd.1 p0 _ hf) rfl gX5_ofCourse_X5_isClosed yoX5_isClosed rfl ⟨Nat.le_of_ble_eq_true rfl, Nat.le_of_ble_eq_true rfl⟩ ⟨⟨Nat.le_of_ble_eq_true rfl, Nat.le_of_ble_eq_true rfl⟩, rfl, rfl⟩ [1] rfl (by decide) (Nat.le_of_ble_eq_true rfl) rfl (fun _ => rfl) dX5_ofCourse_66 rfl (fun r66 hf => ?_)
          refine j_if_eq (tgt := 76) (pc' := 72) hX dX5_ofCourse_69 (by decide) rfl hf (fun hf => ?_) (fun hf => ?_)
          · refine j_iconst (pc' := 77) (v := 0) hX dX5_ofCourse_76 (by decide) rfl ?_
            exact j_iret hX hR dX5_ofCourse_77 ⟨_, rfl, hf⟩
          · refine j_iconst (pc' := 73) (v := 1) hX dX5_ofCourse_72 (by decide) rfl ?_
            refine j_goto (tgt := 77) hX dX5_ofCourse_73 (by decide) ?_
            exact j_iret hX hR dX5_ofCourse_77 ⟨_, rfl, hf⟩
        · refine j_aload_n (pc' := 42) hX dX5_ofCourse_41 rfl 0 rfl rfl ?_
          refine j_get (ci := 5) (pc' := 45) hX hin5 rfl 0 rfl 0 (by decide) hl_7 rfl dX5_ofCourse_42 rfl ?_
          refine j_iload_n (pc' := 46) hX dX5_ofCourse_45 rfl 1 rfl rfl ?_
          refine j_callSR (pc' := 49) (As := [.ref d1, .int p0]) (rest := []) (stk := fun r46 => [.int r46]) hX (fun l => met_X5_cells l g d1 vd.1 p0 _ hf) rfl gX5_ofCourse_X5_cells yoX5_cells rfl ⟨Nat.le_of_ble_eq_true rfl, Nat.le_of_ble_eq_true rfl⟩ ⟨⟨Nat.le_of_ble_eq_true rfl, Nat.le_of_ble_eq_true rfl⟩, rfl, rfl⟩ [1] rfl (by decide) (Nat.le_of_ble_eq_true rfl) rfl (fun _ => rfl) dX5_ofCourse_46 rfl (fun r46 hf => ?_)
          refine j_aload_n (pc' := 50) hX dX5_ofCourse_49 rfl 0 rfl rfl ?_
          refine j_get (ci := 5) (pc' := 53) hX hin5 rfl 0 rfl 0 (by decide) hl_7 rfl dX5_ofCourse_50 rfl ?_
          refine j_iload_n (pc' := 54) hX dX5_ofCourse_53 rfl 1 rfl rfl ?_
          refine j_callSR (pc' := 57) (As := [.ref d1, .int p0]) (rest := [.int r46]) (stk := fun r54 => [.int r54, .int r46]) hX (fun l => met_X5_taken l g d1 vd.1 p0 _ hf) rfl gX5_ofCourse_X5_taken yoX5_taken rfl ⟨Nat.le_of_ble_eq_true rfl, Nat.le_of_ble_eq_true rfl⟩ ⟨⟨Nat.le_of_ble_eq_true rfl, Nat.le_of_ble_eq_true rfl⟩, rfl, rfl⟩ [1] rfl (by decide) (Nat.le_of_ble_eq_true rfl) rfl (fun _ => rfl) dX5_ofCourse_54 rfl (fun r54 hf => ?_)
          refine j_isub (pc' := 58) hX dX5_ofCourse_57 rfl ?_
          refine j_goto (tgt := 77) hX dX5_ofCourse_58 (by decide) ?_
          exact j_iret hX hR dX5_ofCourse_77 ⟨_, rfl, hf⟩
      · refine j_aload_n (pc' := 26) hX dX5_ofCourse_25 rfl 0 rfl rfl ?_
        refine j_get (ci := 5) (pc' := 29) hX hin5 rfl 0 rfl 0 (by decide) hl_7 rfl dX5_ofCourse_26 rfl ?_
        refine j_iload_n (pc' := 30) hX dX5_ofCourse_29 rfl 1 rfl rfl ?_
        refine j_callSR (pc' := 33) (As := [.ref d1, .int p0]) (rest := []) (stk := fun r30 => [.int r30]) hX (fun l => met_X5_pebbles l g d1 vd.1 p0 _ hf) rfl gX5_ofCourse_X5_pebbles yoX5_pebbles rfl ⟨Nat.le_of_ble_eq_true rfl, Nat.le_of_ble_eq_true rfl⟩ ⟨⟨Nat.le_of_ble_eq_true rfl, Nat.le_of_ble_eq_true rfl⟩, rfl, rfl⟩ [1] rfl (by decide) (Nat.le_of_ble_eq_true rfl) rfl (fun _ => rfl) dX5_ofCourse_30 rfl (fun r30 hf => ?_)
        refine j_goto (tgt := 77) hX dX5_ofCourse_33 (by decide) ?_
        exact j_iret hX hR dX5_ofCourse_77 ⟨_, rfl, hf⟩
    · refine j_aload_n (pc' := 10) hX dX5_ofCourse_9 rfl 0 rfl rfl ?_
      refine j_get (ci := 5) (pc' := 13) hX hin5 rfl 0 rfl 0 (by decide) hl_7 rfl dX5_ofCourse_10 rfl ?_
      refine j_iload_n (pc' := 14) hX dX5_ofCourse_13 rfl 1 rfl rfl ?_
      refine j_callSR (pc' := 17) (As := [.ref d1, .int p0]) (rest := []) (stk := fun r14 => [.int r14]) hX (fun l => met_X5_cells l g d1 vd.1 p0 _ hf) rfl gX5_ofCourse_X5_cells yoX5_cells rfl ⟨Nat.le_of_ble_eq_true rfl, Nat.le_of_ble_eq_true rfl⟩ ⟨⟨Nat.le_of_ble_eq_true rfl, Nat.le_of_ble_eq_true rfl⟩, rfl, rfl⟩ [1] rfl (by decide) (Nat.le_of_ble_eq_true rfl) rfl (fun _ => rfl) dX5_ofCourse_14 rfl (fun r14 hf => ?_)
      refine j_goto (tgt := 77) hX dX5_ofCourse_17 (by decide) ?_
      exact j_iret hX hR dX5_ofCourse_77 ⟨_, rfl, hf⟩
def wp_X5_course (vd : Md) (p0 : Int32) (p1 : Int32) (post : Int32 → Md → Prop) : Prop :=
  (∀ vd_1 : Md, vd_1 = md_thrown vd (0) → (wp_X5_isCourse p0 (fun r6 => ((r6 = 0 → (wp_X5_fails vd_1 1 (fun r14 u14_2 => post r14 u14_2))) ∧ (¬ r6 = 0 → (wp_X5_in p1 0 6 (fun r22 => ((r22 = 0 → (wp_X5_fails vd_1 2 (fun r39 u39_3 => post r39 u39_3))) ∧ (¬ r22 = 0 → (wp_X5_ofCourse vd_1 p0 p1 (fun r31 => post r31 vd_1)))))))))))
theorem yoX5_course : yOk yX5_course 2 := by decide +kernel
set_option maxHeartbeats 4000000 in
set_option maxRecDepth 100000 in
theorem met_X5_course (l : Launch) (g : JG) (d0 : Nat) (d1 : Nat) (d2 : Nat) (d3 : Nat) (d4 : Nat) (d5 : Nat) (d6 : Nat) (vd : Md) (p0 : Int32) (p1 : Int32) (post : Int32 → Md → Prop) (hf : wp_X5_course vd p0 p1 post) : MetM l yX5_course wsX5_course ({ frames := 5, cells := 0, slots := 0, locals := 115 } : Room) [.ref d0, .int p0, .int p1] g (MdW g d0 d1 d2 d3 d4 d5 d6 vd) mkI post (fun u : Md => (MdW g d0 d1 d2 d3 d4 d5 d6 u)) := by
  have hin5 : ∀ w ∈ u_ws RX5 TX5 12, w ∈ wsX5_course := by decide +kernel
  have hl_28 : Cond.fieldLink RX5 28 (TX5 6).1 (TX5 6).2.1 (TX5 6).2.2.1 ∈ wsX5_course := by decide +kernel
  refine enterM (own := RX5) (cc := cX5_course) (nL := 3) (ret := (some .int)) (lv := [(0, .ref d0), (1, .int p0), (2, .int p1)]) (by decide) rfl rfl (Nat.le_of_ble_eq_true rfl) rfl (fun X hX hW hR => ?_)
  unfold wp_X5_course at hf
  refine j_aload_n (pc' := 1) hX dX5_course_0 rfl 0 rfl rfl ?_
  refine j_iconst (pc' := 2) (v := 0) hX dX5_course_1 (by decide) rfl ?_
  obtain ⟨vd_1, evd_1⟩ : ∃ z : Md, z = md_thrown vd (0) := ⟨_, rfl⟩
  refine j_put (ci := 5) (pc' := 5) (ws' := (MdW g d0 d1 d2 d3 d4 d5 d6 vd_1)) hX hW hin5 tyX5_ok nmX5 rfl 0 rfl 6 (by decide) hl_28 rfl rfl rfl (Nat.le_of_ble_eq_true rfl) dX5_course_2 (by subst evd_1; rfl) rfl ?_
  replace hf := hf vd_1 evd_1
  refine j_iload_n (pc' := 6) hX dX5_course_5 rfl 1 rfl rfl ?_
  refine j_callSR (pc' := 9) (As := [.int p0]) (rest := []) (stk := fun r6 => [.int r6]) hX (fun l => met_X5_isCourse l g p0 _ hf) rfl gX5_course_X5_isCourse yoX5_isCourse rfl ⟨Nat.le_of_ble_eq_true rfl, Nat.le_of_ble_eq_true rfl⟩ ⟨⟨Nat.le_of_ble_eq_true rfl, Nat.le_of_ble_eq_true rfl⟩, rfl, rfl⟩ [] rfl (by decide) (Nat.le_of_ble_eq_true rfl) rfl (fun _ => rfl) dX5_course_6 rfl (fun r6 hf => ?_)
  refine j_if_ne (tgt := 18) (pc' := 12) hX dX5_course_9 (by decide) rfl hf (fun hf => ?_) (fun hf => ?_)
  · refine j_iload_n (pc' := 19) hX dX5_course_18 rfl 2 rfl rfl ?_
    refine j_iconst (pc' := 20) (v := 0) hX dX5_course_19 (by decide) rfl ?_
    refine j_bipush (pc' := 22) (v := 6) hX dX5_course_20 (by decide) rfl ?_
    refine j_callSR (pc' := 25) (As := [.int p1, .int 0, .int 6]) (rest := []) (stk := fun r22 => [.int r22]) hX (fun l => met_X5_in l g p1 0 6 _ hf) rfl gX5_course_X5_in yoX5_in rfl ⟨Nat.le_of_ble_eq_true rfl, Nat.le_of_ble_eq_true rfl⟩ ⟨⟨Nat.le_of_ble_eq_true rfl, Nat.le_of_ble_eq_true rfl⟩, rfl, rfl⟩ [] rfl (by decide) (Nat.le_of_ble_eq_true rfl) rfl (fun _ => rfl) dX5_course_22 rfl (fun r22 hf => ?_)
    refine j_if_eq (tgt := 37) (pc' := 28) hX dX5_course_25 (by decide) rfl hf (fun hf => ?_) (fun hf => ?_)
    · refine j_aload_n (pc' := 38) hX dX5_course_37 rfl 0 rfl rfl ?_
      refine j_iconst (pc' := 39) (v := 2) hX dX5_course_38 (by decide) rfl ?_
      refine j_callVM (ci := 5) (pc' := 42) (k' := 0) (n' := 0) (As := [.int 2]) (rest := []) (stk := fun r39 => [.int r39]) (ws' := fun u39_3 => (MdW g d0 d1 d2 d3 d4 d5 d6 u39_3)) (wr := ([] : va_W)) hX hW (fun l => met_X5_fails l g d0 d1 d2 d3 d4 d5 d6 vd_1 2 _ hf) rfl gX5_course_X5_fails yoX5_fails rfl ⟨Nat.le_of_ble_eq_true rfl, Nat.le_of_ble_eq_true rfl⟩ ⟨Nat.le_of_ble_eq_true rfl, Nat.le_of_ble_eq_true rfl, Nat.le_of_ble_eq_true rfl, Nat.le_of_ble_eq_true rfl⟩ 0 rfl rfl [0, 1, 2, 3, 4, 5, 6] [] [0, 1, 2, 3, 4, 5, 6] rfl (by decide) rfl (by decide) (by decide) (fun _ => rfl) (by decide) (Nat.le_of_ble_eq_true rfl) rfl (fun _ => rfl) dX5_course_39 rfl (fun r39 u39_3 hf => ?_)
      exact j_iret hX hR dX5_course_42 ⟨_, _, rfl, hf, rfl⟩
    · refine j_aload_n (pc' := 29) hX dX5_course_28 rfl 0 rfl rfl ?_
      refine j_iload_n (pc' := 30) hX dX5_course_29 rfl 1 rfl rfl ?_
      refine j_iload_n (pc' := 31) hX dX5_course_30 rfl 2 rfl rfl ?_
      refine j_callVR (ci := 5) (pc' := 34) (As := [.int p0, .int p1]) (rest := []) (stk := fun r31 => [.int r31]) hX (fun l => met_X5_ofCourse l g d0 d1 d2 d3 d4 d5 d6 vd_1 p0 p1 _ hf) rfl gX5_course_X5_ofCourse yoX5_ofCourse rfl ⟨Nat.le_of_ble_eq_true rfl, Nat.le_of_ble_eq_true rfl⟩ ⟨⟨Nat.le_of_ble_eq_true rfl, Nat.le_of_ble_eq_true rfl⟩, rfl, rfl⟩ 0 rfl rfl [0, 1, 2, 3, 4, 5, 6] rfl (by decide) (Nat.le_of_ble_eq_true rfl) rfl (fun _ => rfl) dX5_course_31 rfl (fun r31 hf => ?_)
      refine j_goto (tgt := 42) hX dX5_course_34 (by decide) ?_
      exact j_iret hX hR dX5_course_42 ⟨_, _, rfl, hf, rfl⟩
  · refine j_aload_n (pc' := 13) hX dX5_course_12 rfl 0 rfl rfl ?_
    refine j_iconst (pc' := 14) (v := 1) hX dX5_course_13 (by decide) rfl ?_
    refine j_callVM (ci := 5) (pc' := 17) (k' := 0) (n' := 0) (As := [.int 1]) (rest := []) (stk := fun r14 => [.int r14]) (ws' := fun u14_2 => (MdW g d0 d1 d2 d3 d4 d5 d6 u14_2)) (wr := ([] : va_W)) hX hW (fun l => met_X5_fails l g d0 d1 d2 d3 d4 d5 d6 vd_1 1 _ hf) rfl gX5_course_X5_fails yoX5_fails rfl ⟨Nat.le_of_ble_eq_true rfl, Nat.le_of_ble_eq_true rfl⟩ ⟨Nat.le_of_ble_eq_true rfl, Nat.le_of_ble_eq_true rfl, Nat.le_of_ble_eq_true rfl, Nat.le_of_ble_eq_true rfl⟩ 0 rfl rfl [0, 1, 2, 3, 4, 5, 6] [] [0, 1, 2, 3, 4, 5, 6] rfl (by decide) rfl (by decide) (by decide) (fun _ => rfl) (by decide) (Nat.le_of_ble_eq_true rfl) rfl (fun _ => rfl) dX5_course_14 rfl (fun r14 u14_2 hf => ?_)
    exact j_iret hX hR dX5_course_17 ⟨_, _, rfl, hf, rfl⟩
def wp_X5_pebbleAt_L5 (vd : Md) (p0 : Int32) (p1 : Int32) (K5_36 : Int32 → Prop) (K5_53 : Prop) : Nat → Int32 → Int32 → Prop
  | 0, _, _ => False
  | N5 + 1, x3_5, x4_5 =>
  (wp_X5_pebbles vd.1 p0 (fun r12 => ((r12 ≤ x4_5 → K5_53) ∧ (¬ r12 ≤ x4_5 → (wp_X5_sizeOf vd.1 p0 x4_5 (fun r26 => (((x3_5 + r26) ≤ p1 → (wp_X5_pebbleAt_L5 vd p0 p1 K5_36 K5_53 N5) (x3_5 + r26) (x4_5 + 1)) ∧ (¬ (x3_5 + r26) ≤ p1 → K5_36 x4_5))))))))
def wp_X5_pebbleAt (vd : Md) (p0 : Int32) (p1 : Int32) (post : Int32 → Prop) : Prop :=
  (∃ N : Nat, wp_X5_pebbleAt_L5 vd p0 p1 (fun (e1 : Int32) => (wp_X5_sizeOf vd.1 p0 e1 (fun r43 => post r43))) (post (-1)) N 0 0)
theorem yoX5_pebbleAt : yOk yX5_pebbleAt 2 := by decide +kernel
set_option maxHeartbeats 4000000 in
set_option maxRecDepth 100000 in
theorem met_X5_pebbleAt (l : Launch) (g : JG) (d0 : Nat) (d1 : Nat) (d2 : Nat) (d3 : Nat) (d4 : Nat) (d5 : Nat) (d6 : Nat) (vd : Md) (p0 : Int32) (p1 : Int32) (post : Int32 → Prop) (hf : wp_X5_pebbleAt vd p0 p1 post) : MetR l yX5_pebbleAt wsX5_pebbleAt ({ frames := 1, cells := 0, slots := 0, locals := 22 } : Room) [.ref d0, .int p0, .int p1] g (MdW g d0 d1 d2 d3 d4 d5 d6 vd) mkI post := by
  have hin5 : ∀ w ∈ u_ws RX5 TX5 12, w ∈ wsX5_pebbleAt := by decide +kernel
  have hl_7 : Cond.fieldLink RX5 7 (TX5 0).1 (TX5 0).2.1 (TX5 0).2.2.1 ∈ wsX5_pebbleAt := by decide +kernel
  refine enterR (own := RX5) (cc := cX5_pebbleAt) (nL := 5) (ret := (some .int)) (lv := [(0, .ref d0), (1, .int p0), (2, .int p1)]) (by decide) rfl rfl (Nat.le_of_ble_eq_true rfl) rfl (fun X hX hR => ?_)
  unfold wp_X5_pebbleAt at hf
  refine j_iconst (pc' := 1) (v := 0) hX dX5_pebbleAt_0 (by decide) rfl ?_
  refine j_istore_n (pc' := 2) (lv' := [(3, .int 0), (0, .ref d0), (1, .int p0), (2, .int p1)]) hX dX5_pebbleAt_1 rfl (by decide) rfl rfl ?_
  refine j_iconst (pc' := 3) (v := 0) hX dX5_pebbleAt_2 (by decide) rfl ?_
  refine j_istore (pc' := 5) (lv' := [(4, .int 0), (3, .int 0), (0, .ref d0), (1, .int p0), (2, .int p1)]) hX dX5_pebbleAt_3 (by decide) rfl rfl ?_
  obtain ⟨N5, hf⟩ := hf
  have L5 : ∀ (K5_36 : Int32 → Prop) (K5_53 : Prop), (∀ (x4_5 : Int32), K5_36 x4_5 → J g X 0 0 (MdW g d0 d1 d2 d3 d4 d5 d6 vd) [(0, .ref d0), (1, .int p0), (4, .int x4_5)] [] 36) → (K5_53 → J g X 0 0 (MdW g d0 d1 d2 d3 d4 d5 d6 vd) [] [] 53) → ∀ (N5 : Nat) (x3_5 : Int32) (x4_5 : Int32), wp_X5_pebbleAt_L5 vd p0 p1 K5_36 K5_53 N5 x3_5 x4_5 → J g X 0 0 (MdW g d0 d1 d2 d3 d4 d5 d6 vd) [(0, .ref d0), (1, .int p0), (2, .int p1), (3, .int x3_5), (4, .int x4_5)] [] 5 := by
    intro K5_36 K5_53 hK5_36 hK5_53 N5
    induction N5 with
    | zero => intro x3_5 x4_5 hf; exact False.elim hf
    | succ N5 ih5 =>
      intro x3_5 x4_5 hf
      refine j_iload (pc' := 7) hX dX5_pebbleAt_5 4 rfl rfl ?_
      refine j_aload_n (pc' := 8) hX dX5_pebbleAt_7 rfl 0 rfl rfl ?_
      refine j_get (ci := 5) (pc' := 11) hX hin5 rfl 0 rfl 0 (by decide) hl_7 rfl dX5_pebbleAt_8 rfl ?_
      refine j_iload_n (pc' := 12) hX dX5_pebbleAt_11 rfl 1 rfl rfl ?_
      refine j_callSR (pc' := 15) (As := [.ref d1, .int p0]) (rest := [.int x4_5]) (stk := fun r12 => [.int r12, .int x4_5]) hX (fun l => met_X5_pebbles l g d1 vd.1 p0 _ hf) rfl gX5_pebbleAt_X5_pebbles yoX5_pebbles rfl ⟨Nat.le_of_ble_eq_true rfl, Nat.le_of_ble_eq_true rfl⟩ ⟨⟨Nat.le_of_ble_eq_true rfl, Nat.le_of_ble_eq_true rfl⟩, rfl, rfl⟩ [1] rfl (by decide) (Nat.le_of_ble_eq_true rfl) rfl (fun _ => rfl) dX5_pebbleAt_12 rfl (fun r12 hf => ?_)
      refine j_icmp_ge (tgt := 53) (pc' := 18) hX dX5_pebbleAt_15 (by decide) rfl hf (fun hf => ?_) (fun hf => ?_)
      · refine J_sub (lv' := []) [] rfl ?_
        exact hK5_53 hf
      · refine j_iload_n (pc' := 19) hX dX5_pebbleAt_18 rfl 3 rfl rfl ?_
        refine j_aload_n (pc' := 20) hX dX5_pebbleAt_19 rfl 0 rfl rfl ?_
        refine j_get (ci := 5) (pc' := 23) hX hin5 rfl 0 rfl 0 (by decide) hl_7 rfl dX5_pebbleAt_20 rfl ?_
        refine j_iload_n (pc' := 24) hX dX5_pebbleAt_23 rfl 1 rfl rfl ?_
        refine j_iload (pc' := 26) hX dX5_pebbleAt_24 4 rfl rfl ?_
        refine j_callSR (pc' := 29) (As := [.ref d1, .int p0, .int x4_5]) (rest := [.int x3_5]) (stk := fun r26 => [.int r26, .int x3_5]) hX (fun l => met_X5_sizeOf l g d1 vd.1 p0 x4_5 _ hf) rfl gX5_pebbleAt_X5_sizeOf yoX5_sizeOf rfl ⟨Nat.le_of_ble_eq_true rfl, Nat.le_of_ble_eq_true rfl⟩ ⟨⟨Nat.le_of_ble_eq_true rfl, Nat.le_of_ble_eq_true rfl⟩, rfl, rfl⟩ [1] rfl (by decide) (Nat.le_of_ble_eq_true rfl) rfl (fun _ => rfl) dX5_pebbleAt_26 rfl (fun r26 hf => ?_)
        refine j_iadd (pc' := 30) hX dX5_pebbleAt_29 rfl ?_
        refine j_istore_n (pc' := 31) (lv' := [(3, .int (x3_5 + r26)), (0, .ref d0), (1, .int p0), (2, .int p1), (4, .int x4_5)]) hX dX5_pebbleAt_30 rfl (by decide) rfl rfl ?_
        refine j_iload_n (pc' := 32) hX dX5_pebbleAt_31 rfl 3 rfl rfl ?_
        refine j_iload_n (pc' := 33) hX dX5_pebbleAt_32 rfl 0 rfl rfl ?_
        refine j_icmp_ge (tgt := 47) (pc' := 36) hX dX5_pebbleAt_33 (by decide) rfl hf (fun hf => ?_) (fun hf => ?_)
        · refine j_iinc (pc' := 50) (cst := 1) (v := (x4_5 + 1)) (lv' := [(4, .int (x4_5 + 1)), (3, .int (x3_5 + r26)), (0, .ref d0), (1, .int p0), (2, .int p1)]) hX dX5_pebbleAt_47 (by decide) rfl 4 rfl (by decide) rfl rfl ?_
          refine j_goto (tgt := 5) hX dX5_pebbleAt_50 (by decide) ?_
          refine J_sub (lv' := [(0, .ref d0), (1, .int p0), (2, .int p1), (3, .int (x3_5 + r26)), (4, .int (x4_5 + 1))]) [2, 3, 4, 1, 0] rfl ?_
          exact ih5 (x3_5 + r26) (x4_5 + 1) hf
        · refine J_sub (lv' := [(0, .ref d0), (1, .int p0), (4, .int x4_5)]) [1, 2, 4] rfl ?_
          exact hK5_36 x4_5 hf
  refine J_sub (lv' := [(0, .ref d0), (1, .int p0), (2, .int p1), (3, .int 0), (4, .int 0)]) [2, 3, 4, 1, 0] rfl ?_
  refine L5 _ _ (fun e1 hf => ?_) (fun hf => ?_) N5 0 0 hf
  · refine j_aload_n (pc' := 37) hX dX5_pebbleAt_36 rfl 0 rfl rfl ?_
    refine j_get (ci := 5) (pc' := 40) hX hin5 rfl 0 rfl 0 (by decide) hl_7 rfl dX5_pebbleAt_37 rfl ?_
    refine j_iload_n (pc' := 41) hX dX5_pebbleAt_40 rfl 1 rfl rfl ?_
    refine j_iload (pc' := 43) hX dX5_pebbleAt_41 2 rfl rfl ?_
    refine j_callSR (pc' := 46) (As := [.ref d1, .int p0, .int e1]) (rest := []) (stk := fun r43 => [.int r43]) hX (fun l => met_X5_sizeOf l g d1 vd.1 p0 e1 _ hf) rfl gX5_pebbleAt_X5_sizeOf yoX5_sizeOf rfl ⟨Nat.le_of_ble_eq_true rfl, Nat.le_of_ble_eq_true rfl⟩ ⟨⟨Nat.le_of_ble_eq_true rfl, Nat.le_of_ble_eq_true rfl⟩, rfl, rfl⟩ [1] rfl (by decide) (Nat.le_of_ble_eq_true rfl) rfl (fun _ => rfl) dX5_pebbleAt_43 rfl (fun r43 hf => ?_)
    exact j_iret hX hR dX5_pebbleAt_46 ⟨_, rfl, hf⟩
  · refine j_iconst (pc' := 54) (v := (-1)) hX dX5_pebbleAt_53 (by decide) rfl ?_
    exact j_iret hX hR dX5_pebbleAt_54 ⟨_, rfl, hf⟩
def wp_X5_ofCell (vd : Md) (p0 : Int32) (p1 : Int32) (p2 : Int32) (post : Int32 → Prop) : Prop :=
  ((p2 = 0 → (wp_X5_pebbleAt vd p0 p1 (fun r31 => post r31))) ∧ (¬ p2 = 0 → ((p2 = 1 → (wp_X5_isJoint vd.1 p0 p1 (fun r41 => ((r41 = 0 → post 0) ∧ (¬ r41 = 0 → post 1))))) ∧ (¬ p2 = 1 → ((p2 = 2 → ((p0 = 0 → post (-1)) ∧ (¬ p0 = 0 → (wp_X5_meets vd.1 p0 p1 (fun r67 => post r67))))) ∧ (¬ p2 = 2 → (wp_X5_runs vd.1 p0 p1 (fun r77 => ((r77 = 0 → post 0) ∧ (¬ r77 = 0 → post 1))))))))))
theorem yoX5_ofCell : yOk yX5_ofCell 3 := by decide +kernel
set_option maxHeartbeats 4000000 in
set_option maxRecDepth 100000 in
theorem met_X5_ofCell (l : Launch) (g : JG) (d0 : Nat) (d1 : Nat) (d2 : Nat) (d3 : Nat) (d4 : Nat) (d5 : Nat) (d6 : Nat) (vd : Md) (p0 : Int32) (p1 : Int32) (p2 : Int32) (post : Int32 → Prop) (hf : wp_X5_ofCell vd p0 p1 p2 post) : MetR l yX5_ofCell wsX5_ofCell ({ frames := 3, cells := 0, slots := 0, locals := 69 } : Room) [.ref d0, .int p0, .int p1, .int p2] g (MdW g d0 d1 d2 d3 d4 d5 d6 vd) mkI post := by
  have hin5 : ∀ w ∈ u_ws RX5 TX5 12, w ∈ wsX5_ofCell := by decide +kernel
  have hl_7 : Cond.fieldLink RX5 7 (TX5 0).1 (TX5 0).2.1 (TX5 0).2.2.1 ∈ wsX5_ofCell := by decide +kernel
  refine enterR (own := RX5) (cc := cX5_ofCell) (nL := 4) (ret := (some .int)) (lv := [(0, .ref d0), (1, .int p0), (2, .int p1), (3, .int p2)]) (by decide) rfl rfl (Nat.le_of_ble_eq_true rfl) rfl (fun X hX hR => ?_)
  unfold wp_X5_ofCell at hf
  refine j_iload_n (pc' := 1) hX dX5_ofCell_0 rfl 3 rfl rfl ?_
  by_cases hs0 : p2 = 0
  · replace hf := hf.1 hs0
    refine j_tswI (tgt := 28) (cst := 0) hX dX5_ofCell_1 hs0 (by decide) (by decide) rfl (by decide) ?_
    refine j_aload_n (pc' := 29) hX dX5_ofCell_28 rfl 0 rfl rfl ?_
    refine j_iload_n (pc' := 30) hX dX5_ofCell_29 rfl 1 rfl rfl ?_
    refine j_iload_n (pc' := 31) hX dX5_ofCell_30 rfl 2 rfl rfl ?_
    refine j_callVR (ci := 5) (pc' := 34) (As := [.int p0, .int p1]) (rest := []) (stk := fun r31 => [.int r31]) hX (fun l => met_X5_pebbleAt l g d0 d1 d2 d3 d4 d5 d6 vd p0 p1 _ hf) rfl gX5_ofCell_X5_pebbleAt yoX5_pebbleAt rfl ⟨Nat.le_of_ble_eq_true rfl, Nat.le_of_ble_eq_true rfl⟩ ⟨⟨Nat.le_of_ble_eq_true rfl, Nat.le_of_ble_eq_true rfl⟩, rfl, rfl⟩ 0 rfl rfl [0, 1, 2, 3, 4, 5, 6] rfl (by decide) (Nat.le_of_ble_eq_true rfl) rfl (fun _ => rfl) dX5_ofCell_31 rfl (fun r31 hf => ?_)
    exact j_iret hX hR dX5_ofCell_34 ⟨_, rfl, hf⟩
  · replace hf := hf.2 hs0
    by_cases hs1 : p2 = 1
    · replace hf := hf.1 hs1
      refine j_tswI (tgt := 35) (cst := 1) hX dX5_ofCell_1 hs1 (by decide) (by decide) rfl (by decide) ?_
      refine j_aload_n (pc' := 36) hX dX5_ofCell_35 rfl 0 rfl rfl ?_
      refine j_get (ci := 5) (pc' := 39) hX hin5 rfl 0 rfl 0 (by decide) hl_7 rfl dX5_ofCell_36 rfl ?_
      refine j_iload_n (pc' := 40) hX dX5_ofCell_39 rfl 1 rfl rfl ?_
      refine j_iload_n (pc' := 41) hX dX5_ofCell_40 rfl 2 rfl rfl ?_
      refine j_callSR (pc' := 44) (As := [.ref d1, .int p0, .int p1]) (rest := []) (stk := fun r41 => [.int r41]) hX (fun l => met_X5_isJoint l g d1 vd.1 p0 p1 _ hf) rfl gX5_ofCell_X5_isJoint yoX5_isJoint rfl ⟨Nat.le_of_ble_eq_true rfl, Nat.le_of_ble_eq_true rfl⟩ ⟨⟨Nat.le_of_ble_eq_true rfl, Nat.le_of_ble_eq_true rfl⟩, rfl, rfl⟩ [1] rfl (by decide) (Nat.le_of_ble_eq_true rfl) rfl (fun _ => rfl) dX5_ofCell_41 rfl (fun r41 hf => ?_)
      refine j_if_eq (tgt := 51) (pc' := 47) hX dX5_ofCell_44 (by decide) rfl hf (fun hf => ?_) (fun hf => ?_)
      · refine j_iconst (pc' := 52) (v := 0) hX dX5_ofCell_51 (by decide) rfl ?_
        exact j_iret hX hR dX5_ofCell_52 ⟨_, rfl, hf⟩
      · refine j_iconst (pc' := 48) (v := 1) hX dX5_ofCell_47 (by decide) rfl ?_
        refine j_goto (tgt := 52) hX dX5_ofCell_48 (by decide) ?_
        exact j_iret hX hR dX5_ofCell_52 ⟨_, rfl, hf⟩
    · replace hf := hf.2 hs1
      by_cases hs2 : p2 = 2
      · replace hf := hf.1 hs2
        refine j_tswI (tgt := 53) (cst := 2) hX dX5_ofCell_1 hs2 (by decide) (by decide) rfl (by decide) ?_
        refine j_iload_n (pc' := 54) hX dX5_ofCell_53 rfl 1 rfl rfl ?_
        refine j_if_ne (tgt := 61) (pc' := 57) hX dX5_ofCell_54 (by decide) rfl hf (fun hf => ?_) (fun hf => ?_)
        · refine j_aload_n (pc' := 62) hX dX5_ofCell_61 rfl 0 rfl rfl ?_
          refine j_get (ci := 5) (pc' := 65) hX hin5 rfl 0 rfl 0 (by decide) hl_7 rfl dX5_ofCell_62 rfl ?_
          refine j_iload_n (pc' := 66) hX dX5_ofCell_65 rfl 1 rfl rfl ?_
          refine j_iload_n (pc' := 67) hX dX5_ofCell_66 rfl 2 rfl rfl ?_
          refine j_callSR (pc' := 70) (As := [.ref d1, .int p0, .int p1]) (rest := []) (stk := fun r67 => [.int r67]) hX (fun l => met_X5_meets l g d1 vd.1 p0 p1 _ hf) rfl gX5_ofCell_X5_meets yoX5_meets rfl ⟨Nat.le_of_ble_eq_true rfl, Nat.le_of_ble_eq_true rfl⟩ ⟨⟨Nat.le_of_ble_eq_true rfl, Nat.le_of_ble_eq_true rfl⟩, rfl, rfl⟩ [1] rfl (by decide) (Nat.le_of_ble_eq_true rfl) rfl (fun _ => rfl) dX5_ofCell_67 rfl (fun r67 hf => ?_)
          exact j_iret hX hR dX5_ofCell_70 ⟨_, rfl, hf⟩
        · refine j_iconst (pc' := 58) (v := (-1)) hX dX5_ofCell_57 (by decide) rfl ?_
          refine j_goto (tgt := 70) hX dX5_ofCell_58 (by decide) ?_
          exact j_iret hX hR dX5_ofCell_70 ⟨_, rfl, hf⟩
      · replace hf := hf.2 hs2
        have ho : p2.toInt < 0 ∨ 2 < p2.toInt := by
          have hq0 := lv_neT (a := 0) hs0 (by decide)
          have hq1 := lv_neT (a := 1) hs1 (by decide)
          have hq2 := lv_neT (a := 2) hs2 (by decide)
          omega
        refine j_tswO (tgt := 71) hX dX5_ofCell_1 ho (by decide) ?_
        refine j_aload_n (pc' := 72) hX dX5_ofCell_71 rfl 0 rfl rfl ?_
        refine j_get (ci := 5) (pc' := 75) hX hin5 rfl 0 rfl 0 (by decide) hl_7 rfl dX5_ofCell_72 rfl ?_
        refine j_iload_n (pc' := 76) hX dX5_ofCell_75 rfl 1 rfl rfl ?_
        refine j_iload_n (pc' := 77) hX dX5_ofCell_76 rfl 2 rfl rfl ?_
        refine j_callSR (pc' := 80) (As := [.ref d1, .int p0, .int p1]) (rest := []) (stk := fun r77 => [.int r77]) hX (fun l => met_X5_runs l g d1 vd.1 p0 p1 _ hf) rfl gX5_ofCell_X5_runs yoX5_runs rfl ⟨Nat.le_of_ble_eq_true rfl, Nat.le_of_ble_eq_true rfl⟩ ⟨⟨Nat.le_of_ble_eq_true rfl, Nat.le_of_ble_eq_true rfl⟩, rfl, rfl⟩ [1] rfl (by decide) (Nat.le_of_ble_eq_true rfl) rfl (fun _ => rfl) dX5_ofCell_77 rfl (fun r77 hf => ?_)
        refine j_if_eq (tgt := 87) (pc' := 83) hX dX5_ofCell_80 (by decide) rfl hf (fun hf => ?_) (fun hf => ?_)
        · refine j_iconst (pc' := 88) (v := 0) hX dX5_ofCell_87 (by decide) rfl ?_
          exact j_iret hX hR dX5_ofCell_88 ⟨_, rfl, hf⟩
        · refine j_iconst (pc' := 84) (v := 1) hX dX5_ofCell_83 (by decide) rfl ?_
          refine j_goto (tgt := 88) hX dX5_ofCell_84 (by decide) ?_
          exact j_iret hX hR dX5_ofCell_88 ⟨_, rfl, hf⟩
def wp_X5_cell (vd : Md) (p0 : Int32) (p1 : Int32) (p2 : Int32) (post : Int32 → Md → Prop) : Prop :=
  (∀ vd_1 : Md, vd_1 = md_thrown vd (0) → (wp_X5_isCourse p0 (fun r6 => ((r6 = 0 → (wp_X5_fails vd_1 1 (fun r32 u32_2 => post r32 u32_2))) ∧ (¬ r6 = 0 → (wp_X5_cells vd_1.1 p0 (fun r19 => (wp_X5_in p1 0 (r19 - 1) (fun r24 => ((r24 = 0 → (wp_X5_fails vd_1 1 (fun r32 u32_3 => post r32 u32_3))) ∧ (¬ r24 = 0 → (wp_X5_in p2 0 3 (fun r39 => ((r39 = 0 → (wp_X5_fails vd_1 2 (fun r57 u57_4 => post r57 u57_4))) ∧ (¬ r39 = 0 → (wp_X5_ofCell vd_1 p0 p1 p2 (fun r49 => post r49 vd_1)))))))))))))))))
theorem yoX5_cell : yOk yX5_cell 3 := by decide +kernel
set_option maxHeartbeats 4000000 in
set_option maxRecDepth 100000 in
theorem met_X5_cell (l : Launch) (g : JG) (d0 : Nat) (d1 : Nat) (d2 : Nat) (d3 : Nat) (d4 : Nat) (d5 : Nat) (d6 : Nat) (vd : Md) (p0 : Int32) (p1 : Int32) (p2 : Int32) (post : Int32 → Md → Prop) (hf : wp_X5_cell vd p0 p1 p2 post) : MetM l yX5_cell wsX5_cell ({ frames := 4, cells := 0, slots := 0, locals := 92 } : Room) [.ref d0, .int p0, .int p1, .int p2] g (MdW g d0 d1 d2 d3 d4 d5 d6 vd) mkI post (fun u : Md => (MdW g d0 d1 d2 d3 d4 d5 d6 u)) := by
  have hin5 : ∀ w ∈ u_ws RX5 TX5 12, w ∈ wsX5_cell := by decide +kernel
  have hl_28 : Cond.fieldLink RX5 28 (TX5 6).1 (TX5 6).2.1 (TX5 6).2.2.1 ∈ wsX5_cell := by decide +kernel
  have hl_7 : Cond.fieldLink RX5 7 (TX5 0).1 (TX5 0).2.1 (TX5 0).2.2.1 ∈ wsX5_cell := by decide +kernel
  refine enterM (own := RX5) (cc := cX5_cell) (nL := 4) (ret := (some .int)) (lv := [(0, .ref d0), (1, .int p0), (2, .int p1), (3, .int p2)]) (by decide) rfl rfl (Nat.le_of_ble_eq_true rfl) rfl (fun X hX hW hR => ?_)
  unfold wp_X5_cell at hf
  refine j_aload_n (pc' := 1) hX dX5_cell_0 rfl 0 rfl rfl ?_
  refine j_iconst (pc' := 2) (v := 0) hX dX5_cell_1 (by decide) rfl ?_
  obtain ⟨vd_1, evd_1⟩ : ∃ z : Md, z = md_thrown vd (0) := ⟨_, rfl⟩
  refine j_put (ci := 5) (pc' := 5) (ws' := (MdW g d0 d1 d2 d3 d4 d5 d6 vd_1)) hX hW hin5 tyX5_ok nmX5 rfl 0 rfl 6 (by decide) hl_28 rfl rfl rfl (Nat.le_of_ble_eq_true rfl) dX5_cell_2 (by subst evd_1; rfl) rfl ?_
  replace hf := hf vd_1 evd_1
  refine j_iload_n (pc' := 6) hX dX5_cell_5 rfl 1 rfl rfl ?_
  refine j_callSR (pc' := 9) (As := [.int p0]) (rest := []) (stk := fun r6 => [.int r6]) hX (fun l => met_X5_isCourse l g p0 _ hf) rfl gX5_cell_X5_isCourse yoX5_isCourse rfl ⟨Nat.le_of_ble_eq_true rfl, Nat.le_of_ble_eq_true rfl⟩ ⟨⟨Nat.le_of_ble_eq_true rfl, Nat.le_of_ble_eq_true rfl⟩, rfl, rfl⟩ [] rfl (by decide) (Nat.le_of_ble_eq_true rfl) rfl (fun _ => rfl) dX5_cell_6 rfl (fun r6 hf => ?_)
  refine j_if_eq (tgt := 30) (pc' := 12) hX dX5_cell_9 (by decide) rfl hf (fun hf => ?_) (fun hf => ?_)
  · refine j_aload_n (pc' := 31) hX dX5_cell_30 rfl 0 rfl rfl ?_
    refine j_iconst (pc' := 32) (v := 1) hX dX5_cell_31 (by decide) rfl ?_
    refine j_callVM (ci := 5) (pc' := 35) (k' := 0) (n' := 0) (As := [.int 1]) (rest := []) (stk := fun r32 => [.int r32]) (ws' := fun u32_2 => (MdW g d0 d1 d2 d3 d4 d5 d6 u32_2)) (wr := ([] : va_W)) hX hW (fun l => met_X5_fails l g d0 d1 d2 d3 d4 d5 d6 vd_1 1 _ hf) rfl gX5_cell_X5_fails yoX5_fails rfl ⟨Nat.le_of_ble_eq_true rfl, Nat.le_of_ble_eq_true rfl⟩ ⟨Nat.le_of_ble_eq_true rfl, Nat.le_of_ble_eq_true rfl, Nat.le_of_ble_eq_true rfl, Nat.le_of_ble_eq_true rfl⟩ 0 rfl rfl [0, 1, 2, 3, 4, 5, 6] [] [0, 1, 2, 3, 4, 5, 6] rfl (by decide) rfl (by decide) (by decide) (fun _ => rfl) (by decide) (Nat.le_of_ble_eq_true rfl) rfl (fun _ => rfl) dX5_cell_32 rfl (fun r32 u32_2 hf => ?_)
    exact j_iret hX hR dX5_cell_35 ⟨_, _, rfl, hf, rfl⟩
  · refine j_iload_n (pc' := 13) hX dX5_cell_12 rfl 2 rfl rfl ?_
    refine j_iconst (pc' := 14) (v := 0) hX dX5_cell_13 (by decide) rfl ?_
    refine j_aload_n (pc' := 15) hX dX5_cell_14 rfl 0 rfl rfl ?_
    refine j_get (ci := 5) (pc' := 18) hX hin5 rfl 0 rfl 0 (by decide) hl_7 rfl dX5_cell_15 rfl ?_
    refine j_iload_n (pc' := 19) hX dX5_cell_18 rfl 1 rfl rfl ?_
    refine j_callSR (pc' := 22) (As := [.ref d1, .int p0]) (rest := [.int 0, .int p1]) (stk := fun r19 => [.int r19, .int 0, .int p1]) hX (fun l => met_X5_cells l g d1 vd_1.1 p0 _ hf) rfl gX5_cell_X5_cells yoX5_cells rfl ⟨Nat.le_of_ble_eq_true rfl, Nat.le_of_ble_eq_true rfl⟩ ⟨⟨Nat.le_of_ble_eq_true rfl, Nat.le_of_ble_eq_true rfl⟩, rfl, rfl⟩ [1] rfl (by decide) (Nat.le_of_ble_eq_true rfl) rfl (fun _ => rfl) dX5_cell_19 rfl (fun r19 hf => ?_)
    refine j_iconst (pc' := 23) (v := 1) hX dX5_cell_22 (by decide) rfl ?_
    refine j_isub (pc' := 24) hX dX5_cell_23 rfl ?_
    refine j_callSR (pc' := 27) (As := [.int p1, .int 0, .int (r19 - 1)]) (rest := []) (stk := fun r24 => [.int r24]) hX (fun l => met_X5_in l g p1 0 (r19 - 1) _ hf) rfl gX5_cell_X5_in yoX5_in rfl ⟨Nat.le_of_ble_eq_true rfl, Nat.le_of_ble_eq_true rfl⟩ ⟨⟨Nat.le_of_ble_eq_true rfl, Nat.le_of_ble_eq_true rfl⟩, rfl, rfl⟩ [] rfl (by decide) (Nat.le_of_ble_eq_true rfl) rfl (fun _ => rfl) dX5_cell_24 rfl (fun r24 hf => ?_)
    refine j_if_ne (tgt := 36) (pc' := 30) hX dX5_cell_27 (by decide) rfl hf (fun hf => ?_) (fun hf => ?_)
    · refine j_iload_n (pc' := 37) hX dX5_cell_36 rfl 3 rfl rfl ?_
      refine j_iconst (pc' := 38) (v := 0) hX dX5_cell_37 (by decide) rfl ?_
      refine j_iconst (pc' := 39) (v := 3) hX dX5_cell_38 (by decide) rfl ?_
      refine j_callSR (pc' := 42) (As := [.int p2, .int 0, .int 3]) (rest := []) (stk := fun r39 => [.int r39]) hX (fun l => met_X5_in l g p2 0 3 _ hf) rfl gX5_cell_X5_in yoX5_in rfl ⟨Nat.le_of_ble_eq_true rfl, Nat.le_of_ble_eq_true rfl⟩ ⟨⟨Nat.le_of_ble_eq_true rfl, Nat.le_of_ble_eq_true rfl⟩, rfl, rfl⟩ [] rfl (by decide) (Nat.le_of_ble_eq_true rfl) rfl (fun _ => rfl) dX5_cell_39 rfl (fun r39 hf => ?_)
      refine j_if_eq (tgt := 55) (pc' := 45) hX dX5_cell_42 (by decide) rfl hf (fun hf => ?_) (fun hf => ?_)
      · refine j_aload_n (pc' := 56) hX dX5_cell_55 rfl 0 rfl rfl ?_
        refine j_iconst (pc' := 57) (v := 2) hX dX5_cell_56 (by decide) rfl ?_
        refine j_callVM (ci := 5) (pc' := 60) (k' := 0) (n' := 0) (As := [.int 2]) (rest := []) (stk := fun r57 => [.int r57]) (ws' := fun u57_4 => (MdW g d0 d1 d2 d3 d4 d5 d6 u57_4)) (wr := ([] : va_W)) hX hW (fun l => met_X5_fails l g d0 d1 d2 d3 d4 d5 d6 vd_1 2 _ hf) rfl gX5_cell_X5_fails yoX5_fails rfl ⟨Nat.le_of_ble_eq_true rfl, Nat.le_of_ble_eq_true rfl⟩ ⟨Nat.le_of_ble_eq_true rfl, Nat.le_of_ble_eq_true rfl, Nat.le_of_ble_eq_true rfl, Nat.le_of_ble_eq_true rfl⟩ 0 rfl rfl [0, 1, 2, 3, 4, 5, 6] [] [0, 1, 2, 3, 4, 5, 6] rfl (by decide) rfl (by decide) (by decide) (fun _ => rfl) (by decide) (Nat.le_of_ble_eq_true rfl) rfl (fun _ => rfl) dX5_cell_57 rfl (fun r57 u57_4 hf => ?_)
        exact j_iret hX hR dX5_cell_60 ⟨_, _, rfl, hf, rfl⟩
      · refine j_aload_n (pc' := 46) hX dX5_cell_45 rfl 0 rfl rfl ?_
        refine j_iload_n (pc' := 47) hX dX5_cell_46 rfl 1 rfl rfl ?_
        refine j_iload_n (pc' := 48) hX dX5_cell_47 rfl 2 rfl rfl ?_
        refine j_iload_n (pc' := 49) hX dX5_cell_48 rfl 3 rfl rfl ?_
        refine j_callVR (ci := 5) (pc' := 52) (As := [.int p0, .int p1, .int p2]) (rest := []) (stk := fun r49 => [.int r49]) hX (fun l => met_X5_ofCell l g d0 d1 d2 d3 d4 d5 d6 vd_1 p0 p1 p2 _ hf) rfl gX5_cell_X5_ofCell yoX5_ofCell rfl ⟨Nat.le_of_ble_eq_true rfl, Nat.le_of_ble_eq_true rfl⟩ ⟨⟨Nat.le_of_ble_eq_true rfl, Nat.le_of_ble_eq_true rfl⟩, rfl, rfl⟩ 0 rfl rfl [0, 1, 2, 3, 4, 5, 6] rfl (by decide) (Nat.le_of_ble_eq_true rfl) rfl (fun _ => rfl) dX5_cell_49 rfl (fun r49 hf => ?_)
        refine j_goto (tgt := 60) hX dX5_cell_52 (by decide) ?_
        exact j_iret hX hR dX5_cell_60 ⟨_, _, rfl, hf, rfl⟩
    · refine j_aload_n (pc' := 31) hX dX5_cell_30 rfl 0 rfl rfl ?_
      refine j_iconst (pc' := 32) (v := 1) hX dX5_cell_31 (by decide) rfl ?_
      refine j_callVM (ci := 5) (pc' := 35) (k' := 0) (n' := 0) (As := [.int 1]) (rest := []) (stk := fun r32 => [.int r32]) (ws' := fun u32_3 => (MdW g d0 d1 d2 d3 d4 d5 d6 u32_3)) (wr := ([] : va_W)) hX hW (fun l => met_X5_fails l g d0 d1 d2 d3 d4 d5 d6 vd_1 1 _ hf) rfl gX5_cell_X5_fails yoX5_fails rfl ⟨Nat.le_of_ble_eq_true rfl, Nat.le_of_ble_eq_true rfl⟩ ⟨Nat.le_of_ble_eq_true rfl, Nat.le_of_ble_eq_true rfl, Nat.le_of_ble_eq_true rfl, Nat.le_of_ble_eq_true rfl⟩ 0 rfl rfl [0, 1, 2, 3, 4, 5, 6] [] [0, 1, 2, 3, 4, 5, 6] rfl (by decide) rfl (by decide) (by decide) (fun _ => rfl) (by decide) (Nat.le_of_ble_eq_true rfl) rfl (fun _ => rfl) dX5_cell_32 rfl (fun r32 u32_3 hf => ?_)
      exact j_iret hX hR dX5_cell_35 ⟨_, _, rfl, hf, rfl⟩
def wp_X5_refusal (vd : Md) (p0 : Int32) (p1 : Int32) (p2 : Int32) (post : Int32 → Md → Prop) : Prop :=
  (∀ vd_1 : Md, vd_1 = md_thrown vd (0) → (wp_X5_isCourse p0 (fun r6 => ((r6 = 0 → (wp_X5_fails vd_1 1 (fun r14 u14_2 => post r14 u14_2))) ∧ (¬ r6 = 0 → (wp_X5_isSize p1 (fun r19 => ((r19 = 0 → (wp_X5_fails vd_1 2 (fun r40 u40_3 => post r40 u40_3))) ∧ (¬ r19 = 0 → (wp_X5_refused vd_1.1 p0 p1 p2 (fun r32 => post r32 vd_1)))))))))))
theorem yoX5_refusal : yOk yX5_refusal 3 := by decide +kernel
set_option maxHeartbeats 4000000 in
set_option maxRecDepth 100000 in
theorem met_X5_refusal (l : Launch) (g : JG) (d0 : Nat) (d1 : Nat) (d2 : Nat) (d3 : Nat) (d4 : Nat) (d5 : Nat) (d6 : Nat) (vd : Md) (p0 : Int32) (p1 : Int32) (p2 : Int32) (post : Int32 → Md → Prop) (hf : wp_X5_refusal vd p0 p1 p2 post) : MetM l yX5_refusal wsX5_refusal ({ frames := 4, cells := 0, slots := 0, locals := 93 } : Room) [.ref d0, .int p0, .int p1, .int p2] g (MdW g d0 d1 d2 d3 d4 d5 d6 vd) mkI post (fun u : Md => (MdW g d0 d1 d2 d3 d4 d5 d6 u)) := by
  have hin5 : ∀ w ∈ u_ws RX5 TX5 12, w ∈ wsX5_refusal := by decide +kernel
  have hl_28 : Cond.fieldLink RX5 28 (TX5 6).1 (TX5 6).2.1 (TX5 6).2.2.1 ∈ wsX5_refusal := by decide +kernel
  have hl_7 : Cond.fieldLink RX5 7 (TX5 0).1 (TX5 0).2.1 (TX5 0).2.2.1 ∈ wsX5_refusal := by decide +kernel
  refine enterM (own := RX5) (cc := cX5_refusal) (nL := 4) (ret := (some .int)) (lv := [(0, .ref d0), (1, .int p0), (2, .int p1), (3, .int p2)]) (by decide) rfl rfl (Nat.le_of_ble_eq_true rfl) rfl (fun X hX hW hR => ?_)
  unfold wp_X5_refusal at hf
  refine j_aload_n (pc' := 1) hX dX5_refusal_0 rfl 0 rfl rfl ?_
  refine j_iconst (pc' := 2) (v := 0) hX dX5_refusal_1 (by decide) rfl ?_
  obtain ⟨vd_1, evd_1⟩ : ∃ z : Md, z = md_thrown vd (0) := ⟨_, rfl⟩
  refine j_put (ci := 5) (pc' := 5) (ws' := (MdW g d0 d1 d2 d3 d4 d5 d6 vd_1)) hX hW hin5 tyX5_ok nmX5 rfl 0 rfl 6 (by decide) hl_28 rfl rfl rfl (Nat.le_of_ble_eq_true rfl) dX5_refusal_2 (by subst evd_1; rfl) rfl ?_
  replace hf := hf vd_1 evd_1
  refine j_iload_n (pc' := 6) hX dX5_refusal_5 rfl 1 rfl rfl ?_
  refine j_callSR (pc' := 9) (As := [.int p0]) (rest := []) (stk := fun r6 => [.int r6]) hX (fun l => met_X5_isCourse l g p0 _ hf) rfl gX5_refusal_X5_isCourse yoX5_isCourse rfl ⟨Nat.le_of_ble_eq_true rfl, Nat.le_of_ble_eq_true rfl⟩ ⟨⟨Nat.le_of_ble_eq_true rfl, Nat.le_of_ble_eq_true rfl⟩, rfl, rfl⟩ [] rfl (by decide) (Nat.le_of_ble_eq_true rfl) rfl (fun _ => rfl) dX5_refusal_6 rfl (fun r6 hf => ?_)
  refine j_if_ne (tgt := 18) (pc' := 12) hX dX5_refusal_9 (by decide) rfl hf (fun hf => ?_) (fun hf => ?_)
  · refine j_iload_n (pc' := 19) hX dX5_refusal_18 rfl 2 rfl rfl ?_
    refine j_callSR (pc' := 22) (As := [.int p1]) (rest := []) (stk := fun r19 => [.int r19]) hX (fun l => met_X5_isSize l g p1 _ hf) rfl gX5_refusal_X5_isSize yoX5_isSize rfl ⟨Nat.le_of_ble_eq_true rfl, Nat.le_of_ble_eq_true rfl⟩ ⟨⟨Nat.le_of_ble_eq_true rfl, Nat.le_of_ble_eq_true rfl⟩, rfl, rfl⟩ [] rfl (by decide) (Nat.le_of_ble_eq_true rfl) rfl (fun _ => rfl) dX5_refusal_19 rfl (fun r19 hf => ?_)
    refine j_if_eq (tgt := 38) (pc' := 25) hX dX5_refusal_22 (by decide) rfl hf (fun hf => ?_) (fun hf => ?_)
    · refine j_aload_n (pc' := 39) hX dX5_refusal_38 rfl 0 rfl rfl ?_
      refine j_iconst (pc' := 40) (v := 2) hX dX5_refusal_39 (by decide) rfl ?_
      refine j_callVM (ci := 5) (pc' := 43) (k' := 0) (n' := 0) (As := [.int 2]) (rest := []) (stk := fun r40 => [.int r40]) (ws' := fun u40_3 => (MdW g d0 d1 d2 d3 d4 d5 d6 u40_3)) (wr := ([] : va_W)) hX hW (fun l => met_X5_fails l g d0 d1 d2 d3 d4 d5 d6 vd_1 2 _ hf) rfl gX5_refusal_X5_fails yoX5_fails rfl ⟨Nat.le_of_ble_eq_true rfl, Nat.le_of_ble_eq_true rfl⟩ ⟨Nat.le_of_ble_eq_true rfl, Nat.le_of_ble_eq_true rfl, Nat.le_of_ble_eq_true rfl, Nat.le_of_ble_eq_true rfl⟩ 0 rfl rfl [0, 1, 2, 3, 4, 5, 6] [] [0, 1, 2, 3, 4, 5, 6] rfl (by decide) rfl (by decide) (by decide) (fun _ => rfl) (by decide) (Nat.le_of_ble_eq_true rfl) rfl (fun _ => rfl) dX5_refusal_40 rfl (fun r40 u40_3 hf => ?_)
      exact j_iret hX hR dX5_refusal_43 ⟨_, _, rfl, hf, rfl⟩
    · refine j_aload_n (pc' := 26) hX dX5_refusal_25 rfl 0 rfl rfl ?_
      refine j_get (ci := 5) (pc' := 29) hX hin5 rfl 0 rfl 0 (by decide) hl_7 rfl dX5_refusal_26 rfl ?_
      refine j_iload_n (pc' := 30) hX dX5_refusal_29 rfl 1 rfl rfl ?_
      refine j_iload_n (pc' := 31) hX dX5_refusal_30 rfl 2 rfl rfl ?_
      refine j_iload_n (pc' := 32) hX dX5_refusal_31 rfl 3 rfl rfl ?_
      refine j_callSR (pc' := 35) (As := [.ref d1, .int p0, .int p1, .int p2]) (rest := []) (stk := fun r32 => [.int r32]) hX (fun l => met_X5_refused l g d1 vd_1.1 p0 p1 p2 _ hf) rfl gX5_refusal_X5_refused yoX5_refused rfl ⟨Nat.le_of_ble_eq_true rfl, Nat.le_of_ble_eq_true rfl⟩ ⟨⟨Nat.le_of_ble_eq_true rfl, Nat.le_of_ble_eq_true rfl⟩, rfl, rfl⟩ [1] rfl (by decide) (Nat.le_of_ble_eq_true rfl) rfl (fun _ => rfl) dX5_refusal_32 rfl (fun r32 hf => ?_)
      refine j_goto (tgt := 43) hX dX5_refusal_35 (by decide) ?_
      exact j_iret hX hR dX5_refusal_43 ⟨_, _, rfl, hf, rfl⟩
  · refine j_aload_n (pc' := 13) hX dX5_refusal_12 rfl 0 rfl rfl ?_
    refine j_iconst (pc' := 14) (v := 1) hX dX5_refusal_13 (by decide) rfl ?_
    refine j_callVM (ci := 5) (pc' := 17) (k' := 0) (n' := 0) (As := [.int 1]) (rest := []) (stk := fun r14 => [.int r14]) (ws' := fun u14_2 => (MdW g d0 d1 d2 d3 d4 d5 d6 u14_2)) (wr := ([] : va_W)) hX hW (fun l => met_X5_fails l g d0 d1 d2 d3 d4 d5 d6 vd_1 1 _ hf) rfl gX5_refusal_X5_fails yoX5_fails rfl ⟨Nat.le_of_ble_eq_true rfl, Nat.le_of_ble_eq_true rfl⟩ ⟨Nat.le_of_ble_eq_true rfl, Nat.le_of_ble_eq_true rfl, Nat.le_of_ble_eq_true rfl, Nat.le_of_ble_eq_true rfl⟩ 0 rfl rfl [0, 1, 2, 3, 4, 5, 6] [] [0, 1, 2, 3, 4, 5, 6] rfl (by decide) rfl (by decide) (by decide) (fun _ => rfl) (by decide) (Nat.le_of_ble_eq_true rfl) rfl (fun _ => rfl) dX5_refusal_14 rfl (fun r14 u14_2 hf => ?_)
    exact j_iret hX hR dX5_refusal_17 ⟨_, _, rfl, hf, rfl⟩
def wp_X5_stockOf (vd : Md) (p0 : Int32) (post : Int32 → Md → Prop) : Prop :=
  (∀ vd_1 : Md, vd_1 = md_thrown vd (0) → (wp_X5_isSize p0 (fun r6 => ((r6 = 0 → (wp_X5_fails vd_1 1 (fun r25 u25_2 => post r25 u25_2))) ∧ (¬ r6 = 0 → (vp_in (3 + p0) 376 ∧ post (vd_1.1 (3 + p0).toNatClampNeg) vd_1))))))
theorem yoX5_stockOf : yOk yX5_stockOf 1 := by decide +kernel
set_option maxHeartbeats 4000000 in
set_option maxRecDepth 100000 in
theorem met_X5_stockOf (l : Launch) (g : JG) (d0 : Nat) (d1 : Nat) (d2 : Nat) (d3 : Nat) (d4 : Nat) (d5 : Nat) (d6 : Nat) (vd : Md) (p0 : Int32) (post : Int32 → Md → Prop) (hf : wp_X5_stockOf vd p0 post) : MetM l yX5_stockOf wsX5_stockOf ({ frames := 2, cells := 0, slots := 0, locals := 42 } : Room) [.ref d0, .int p0] g (MdW g d0 d1 d2 d3 d4 d5 d6 vd) mkI post (fun u : Md => (MdW g d0 d1 d2 d3 d4 d5 d6 u)) := by
  have hin5 : ∀ w ∈ u_ws RX5 TX5 12, w ∈ wsX5_stockOf := by decide +kernel
  have hl_28 : Cond.fieldLink RX5 28 (TX5 6).1 (TX5 6).2.1 (TX5 6).2.2.1 ∈ wsX5_stockOf := by decide +kernel
  have hl_7 : Cond.fieldLink RX5 7 (TX5 0).1 (TX5 0).2.1 (TX5 0).2.2.1 ∈ wsX5_stockOf := by decide +kernel
  refine enterM (own := RX5) (cc := cX5_stockOf) (nL := 2) (ret := (some .int)) (lv := [(0, .ref d0), (1, .int p0)]) (by decide) rfl rfl (Nat.le_of_ble_eq_true rfl) rfl (fun X hX hW hR => ?_)
  unfold wp_X5_stockOf at hf
  refine j_aload_n (pc' := 1) hX dX5_stockOf_0 rfl 0 rfl rfl ?_
  refine j_iconst (pc' := 2) (v := 0) hX dX5_stockOf_1 (by decide) rfl ?_
  obtain ⟨vd_1, evd_1⟩ : ∃ z : Md, z = md_thrown vd (0) := ⟨_, rfl⟩
  refine j_put (ci := 5) (pc' := 5) (ws' := (MdW g d0 d1 d2 d3 d4 d5 d6 vd_1)) hX hW hin5 tyX5_ok nmX5 rfl 0 rfl 6 (by decide) hl_28 rfl rfl rfl (Nat.le_of_ble_eq_true rfl) dX5_stockOf_2 (by subst evd_1; rfl) rfl ?_
  replace hf := hf vd_1 evd_1
  refine j_iload_n (pc' := 6) hX dX5_stockOf_5 rfl 1 rfl rfl ?_
  refine j_callSR (pc' := 9) (As := [.int p0]) (rest := []) (stk := fun r6 => [.int r6]) hX (fun l => met_X5_isSize l g p0 _ hf) rfl gX5_stockOf_X5_isSize yoX5_isSize rfl ⟨Nat.le_of_ble_eq_true rfl, Nat.le_of_ble_eq_true rfl⟩ ⟨⟨Nat.le_of_ble_eq_true rfl, Nat.le_of_ble_eq_true rfl⟩, rfl, rfl⟩ [] rfl (by decide) (Nat.le_of_ble_eq_true rfl) rfl (fun _ => rfl) dX5_stockOf_6 rfl (fun r6 hf => ?_)
  refine j_if_eq (tgt := 23) (pc' := 12) hX dX5_stockOf_9 (by decide) rfl hf (fun hf => ?_) (fun hf => ?_)
  · refine j_aload_n (pc' := 24) hX dX5_stockOf_23 rfl 0 rfl rfl ?_
    refine j_iconst (pc' := 25) (v := 1) hX dX5_stockOf_24 (by decide) rfl ?_
    refine j_callVM (ci := 5) (pc' := 28) (k' := 0) (n' := 0) (As := [.int 1]) (rest := []) (stk := fun r25 => [.int r25]) (ws' := fun u25_2 => (MdW g d0 d1 d2 d3 d4 d5 d6 u25_2)) (wr := ([] : va_W)) hX hW (fun l => met_X5_fails l g d0 d1 d2 d3 d4 d5 d6 vd_1 1 _ hf) rfl gX5_stockOf_X5_fails yoX5_fails rfl ⟨Nat.le_of_ble_eq_true rfl, Nat.le_of_ble_eq_true rfl⟩ ⟨Nat.le_of_ble_eq_true rfl, Nat.le_of_ble_eq_true rfl, Nat.le_of_ble_eq_true rfl, Nat.le_of_ble_eq_true rfl⟩ 0 rfl rfl [0, 1, 2, 3, 4, 5, 6] [] [0, 1, 2, 3, 4, 5, 6] rfl (by decide) rfl (by decide) (by decide) (fun _ => rfl) (by decide) (Nat.le_of_ble_eq_true rfl) rfl (fun _ => rfl) dX5_stockOf_25 rfl (fun r25 u25_2 hf => ?_)
    exact j_iret hX hR dX5_stockOf_28 ⟨_, _, rfl, hf, rfl⟩
  · refine j_aload_n (pc' := 13) hX dX5_stockOf_12 rfl 0 rfl rfl ?_
    refine j_get (ci := 5) (pc' := 16) hX hin5 rfl 0 rfl 0 (by decide) hl_7 rfl dX5_stockOf_13 rfl ?_
    refine j_iconst (pc' := 17) (v := 3) hX dX5_stockOf_16 (by decide) rfl ?_
    refine j_iload_n (pc' := 18) hX dX5_stockOf_17 rfl 1 rfl rfl ?_
    refine j_iadd (pc' := 19) hX dX5_stockOf_18 rfl ?_
    refine j_iald (pc' := 20) hX 1 rfl dX5_stockOf_19 hf rfl (fun hf => ?_)
    refine j_goto (tgt := 28) hX dX5_stockOf_20 (by decide) ?_
    exact j_iret hX hR dX5_stockOf_28 ⟨_, _, rfl, hf, rfl⟩
def wp_X5_counted_c130 (x3_65 : Int32) (KB65 : Int32 → Int32 → Prop) (z0_130 : Int32) (z1_130 : Int32) : Prop :=
  KB65 (z1_130 + z0_130) (x3_65 + 1)
def wp_X5_counted_L65 (vd : Md) (p0 : Int32) (K65_138 : Int32 → Prop) : Nat → Int32 → Int32 → Prop
  | 0, _, _ => False
  | N65 + 1, x2_65, x3_65 =>
  ((6 ≤ x3_65 → K65_138 x2_65) ∧ (¬ 6 ≤ x3_65 → ((p0 = 2 → (wp_X5_joints vd.1 x3_65 (fun r82 => wp_X5_counted_c130 x3_65 (wp_X5_counted_L65 vd p0 K65_138 N65) r82 x2_65))) ∧ (¬ p0 = 2 → ((p0 = 3 → (wp_X5_meeting vd.1 x3_65 1 (fun r99 => wp_X5_counted_c130 x3_65 (wp_X5_counted_L65 vd p0 K65_138 N65) r99 x2_65))) ∧ (¬ p0 = 3 → ((p0 = 4 → (wp_X5_fillers vd x3_65 (fun r112 => wp_X5_counted_c130 x3_65 (wp_X5_counted_L65 vd p0 K65_138 N65) r112 x2_65))) ∧ (¬ p0 = 4 → (vp_in (4 + x3_65) 376 ∧ wp_X5_counted_c130 x3_65 (wp_X5_counted_L65 vd p0 K65_138 N65) ((x3_65 + 1) * (vd.1 (4 + x3_65).toNatClampNeg)) x2_65)))))))))
def wp_X5_counted (vd : Md) (p0 : Int32) (post : Int32 → Prop) : Prop :=
  ((p0 = 0 → ((p0 = 0 → (wp_X5_all vd.1 (fun r17 => post r17))) ∧ (¬ p0 = 0 → (wp_X5_closed vd.1 (fun r27 => post r27))))) ∧ (¬ p0 = 0 → ((p0 = 1 → ((p0 = 0 → (wp_X5_all vd.1 (fun r17 => post r17))) ∧ (¬ p0 = 0 → (wp_X5_closed vd.1 (fun r27 => post r27))))) ∧ (¬ p0 = 1 → ((p0 = 5 → ((p0 = 5 → post (vd.1 (3 : Int32).toNatClampNeg)) ∧ (¬ p0 = 5 → post vd.2.2.2.2.2.2.1))) ∧ (¬ p0 = 5 → ((p0 = 7 → ((p0 = 5 → post (vd.1 (3 : Int32).toNatClampNeg)) ∧ (¬ p0 = 5 → post vd.2.2.2.2.2.2.1))) ∧ (¬ p0 = 7 → (∃ N : Nat, wp_X5_counted_L65 vd p0 (fun (e1 : Int32) => post e1) N 0 0)))))))))
theorem yoX5_counted : yOk yX5_counted 1 := by decide +kernel
set_option maxHeartbeats 4000000 in
set_option maxRecDepth 100000 in
theorem met_X5_counted (l : Launch) (g : JG) (d0 : Nat) (d1 : Nat) (d2 : Nat) (d3 : Nat) (d4 : Nat) (d5 : Nat) (d6 : Nat) (vd : Md) (p0 : Int32) (post : Int32 → Prop) (hf : wp_X5_counted vd p0 post) : MetR l yX5_counted wsX5_counted ({ frames := 4, cells := 0, slots := 0, locals := 93 } : Room) [.ref d0, .int p0] g (MdW g d0 d1 d2 d3 d4 d5 d6 vd) mkI post := by
  have hin5 : ∀ w ∈ u_ws RX5 TX5 12, w ∈ wsX5_counted := by decide +kernel
  have hl_7 : Cond.fieldLink RX5 7 (TX5 0).1 (TX5 0).2.1 (TX5 0).2.2.1 ∈ wsX5_counted := by decide +kernel
  have hl_36 : Cond.fieldLink RX5 36 (TX5 3).1 (TX5 3).2.1 (TX5 3).2.2.1 ∈ wsX5_counted := by decide +kernel
  refine enterR (own := RX5) (cc := cX5_counted) (nL := 4) (ret := (some .int)) (lv := [(0, .ref d0), (1, .int p0)]) (by decide) rfl rfl (Nat.le_of_ble_eq_true rfl) rfl (fun X hX hR => ?_)
  unfold wp_X5_counted at hf
  refine j_iload_n (pc' := 1) hX dX5_counted_0 rfl 1 rfl rfl ?_
  refine j_if_eq (tgt := 9) (pc' := 4) hX dX5_counted_1 (by decide) rfl hf (fun hf => ?_) (fun hf => ?_)
  · refine j_iload_n (pc' := 10) hX dX5_counted_9 rfl 1 rfl rfl ?_
    refine j_if_ne (tgt := 23) (pc' := 13) hX dX5_counted_10 (by decide) rfl hf (fun hf => ?_) (fun hf => ?_)
    · refine j_aload_n (pc' := 24) hX dX5_counted_23 rfl 0 rfl rfl ?_
      refine j_get (ci := 5) (pc' := 27) hX hin5 rfl 0 rfl 0 (by decide) hl_7 rfl dX5_counted_24 rfl ?_
      refine j_callSR (pc' := 30) (As := [.ref d1]) (rest := []) (stk := fun r27 => [.int r27]) hX (fun l => met_X5_closed l g d1 vd.1 _ hf) rfl gX5_counted_X5_closed yoX5_closed rfl ⟨Nat.le_of_ble_eq_true rfl, Nat.le_of_ble_eq_true rfl⟩ ⟨⟨Nat.le_of_ble_eq_true rfl, Nat.le_of_ble_eq_true rfl⟩, rfl, rfl⟩ [1] rfl (by decide) (Nat.le_of_ble_eq_true rfl) rfl (fun _ => rfl) dX5_counted_27 rfl (fun r27 hf => ?_)
      exact j_iret hX hR dX5_counted_30 ⟨_, rfl, hf⟩
    · refine j_aload_n (pc' := 14) hX dX5_counted_13 rfl 0 rfl rfl ?_
      refine j_get (ci := 5) (pc' := 17) hX hin5 rfl 0 rfl 0 (by decide) hl_7 rfl dX5_counted_14 rfl ?_
      refine j_callSR (pc' := 20) (As := [.ref d1]) (rest := []) (stk := fun r17 => [.int r17]) hX (fun l => met_X5_all l g d1 vd.1 _ hf) rfl gX5_counted_X5_all yoX5_all rfl ⟨Nat.le_of_ble_eq_true rfl, Nat.le_of_ble_eq_true rfl⟩ ⟨⟨Nat.le_of_ble_eq_true rfl, Nat.le_of_ble_eq_true rfl⟩, rfl, rfl⟩ [1] rfl (by decide) (Nat.le_of_ble_eq_true rfl) rfl (fun _ => rfl) dX5_counted_17 rfl (fun r17 hf => ?_)
      refine j_goto (tgt := 30) hX dX5_counted_20 (by decide) ?_
      exact j_iret hX hR dX5_counted_30 ⟨_, rfl, hf⟩
  · refine j_iload_n (pc' := 5) hX dX5_counted_4 rfl 1 rfl rfl ?_
    refine j_iconst (pc' := 6) (v := 1) hX dX5_counted_5 (by decide) rfl ?_
    refine j_icmp_ne (tgt := 31) (pc' := 9) hX dX5_counted_6 (by decide) rfl hf (fun hf => ?_) (fun hf => ?_)
    · refine j_iload_n (pc' := 32) hX dX5_counted_31 rfl 1 rfl rfl ?_
      refine j_iconst (pc' := 33) (v := 5) hX dX5_counted_32 (by decide) rfl ?_
      refine j_icmp_eq (tgt := 42) (pc' := 36) hX dX5_counted_33 (by decide) rfl hf (fun hf => ?_) (fun hf => ?_)
      · refine j_iload_n (pc' := 43) hX dX5_counted_42 rfl 1 rfl rfl ?_
        refine j_iconst (pc' := 44) (v := 5) hX dX5_counted_43 (by decide) rfl ?_
        refine j_icmp_ne (tgt := 56) (pc' := 47) hX dX5_counted_44 (by decide) rfl hf (fun hf => ?_) (fun hf => ?_)
        · refine j_aload_n (pc' := 57) hX dX5_counted_56 rfl 0 rfl rfl ?_
          refine j_get (ci := 5) (pc' := 60) hX hin5 rfl 0 rfl 3 (by decide) hl_36 rfl dX5_counted_57 rfl ?_
          exact j_iret hX hR dX5_counted_60 ⟨_, rfl, hf⟩
        · refine j_aload_n (pc' := 48) hX dX5_counted_47 rfl 0 rfl rfl ?_
          refine j_get (ci := 5) (pc' := 51) hX hin5 rfl 0 rfl 0 (by decide) hl_7 rfl dX5_counted_48 rfl ?_
          refine j_iconst (pc' := 52) (v := 3) hX dX5_counted_51 (by decide) rfl ?_
          refine j_iald (pc' := 53) hX 1 rfl dX5_counted_52 ⟨by unfold vp_in; decide, hf⟩ rfl (fun hf => ?_)
          refine j_goto (tgt := 60) hX dX5_counted_53 (by decide) ?_
          exact j_iret hX hR dX5_counted_60 ⟨_, rfl, hf⟩
      · refine j_iload_n (pc' := 37) hX dX5_counted_36 rfl 1 rfl rfl ?_
        refine j_bipush (pc' := 39) (v := 7) hX dX5_counted_37 (by decide) rfl ?_
        refine j_icmp_ne (tgt := 61) (pc' := 42) hX dX5_counted_39 (by decide) rfl hf (fun hf => ?_) (fun hf => ?_)
        · refine j_iconst (pc' := 62) (v := 0) hX dX5_counted_61 (by decide) rfl ?_
          refine j_istore_n (pc' := 63) (lv' := [(2, .int 0), (0, .ref d0), (1, .int p0)]) hX dX5_counted_62 rfl (by decide) rfl rfl ?_
          refine j_iconst (pc' := 64) (v := 0) hX dX5_counted_63 (by decide) rfl ?_
          refine j_istore_n (pc' := 65) (lv' := [(3, .int 0), (2, .int 0), (0, .ref d0), (1, .int p0)]) hX dX5_counted_64 rfl (by decide) rfl rfl ?_
          obtain ⟨N65, hf⟩ := hf
          have L65 : ∀ (K65_138 : Int32 → Prop), (∀ (x2_65 : Int32), K65_138 x2_65 → J g X 0 0 (MdW g d0 d1 d2 d3 d4 d5 d6 vd) [(2, .int x2_65)] [] 138) → ∀ (N65 : Nat) (x2_65 : Int32) (x3_65 : Int32), wp_X5_counted_L65 vd p0 K65_138 N65 x2_65 x3_65 → J g X 0 0 (MdW g d0 d1 d2 d3 d4 d5 d6 vd) [(0, .ref d0), (1, .int p0), (2, .int x2_65), (3, .int x3_65)] [] 65 := by
            intro K65_138 hK65_138 N65
            induction N65 with
            | zero => intro x2_65 x3_65 hf; exact False.elim hf
            | succ N65 ih65 =>
              intro x2_65 x3_65 hf
              have J130 : ∀ (z0_130 : Int32) (z1_130 : Int32), wp_X5_counted_c130 x3_65 (wp_X5_counted_L65 vd p0 K65_138 N65) z0_130 z1_130 → J g X 0 0 (MdW g d0 d1 d2 d3 d4 d5 d6 vd) [(0, .ref d0), (1, .int p0), (3, .int x3_65)] [.int z0_130, .int z1_130] 130 := by
                intro z0_130 z1_130 hf
                refine j_iadd (pc' := 131) hX dX5_counted_130 rfl ?_
                refine j_istore_n (pc' := 132) (lv' := [(2, .int (z1_130 + z0_130)), (0, .ref d0), (1, .int p0), (3, .int x3_65)]) hX dX5_counted_131 rfl (by decide) rfl rfl ?_
                refine j_iinc (pc' := 135) (cst := 1) (v := (x3_65 + 1)) (lv' := [(3, .int (x3_65 + 1)), (2, .int (z1_130 + z0_130)), (0, .ref d0), (1, .int p0)]) hX dX5_counted_132 (by decide) rfl 3 rfl (by decide) rfl rfl ?_
                refine j_goto (tgt := 65) hX dX5_counted_135 (by decide) ?_
                refine J_sub (lv' := [(0, .ref d0), (1, .int p0), (2, .int (z1_130 + z0_130)), (3, .int (x3_65 + 1))]) [2, 3, 1, 0] rfl ?_
                exact ih65 (z1_130 + z0_130) (x3_65 + 1) hf
              refine j_iload_n (pc' := 66) hX dX5_counted_65 rfl 3 rfl rfl ?_
              refine j_bipush (pc' := 68) (v := 6) hX dX5_counted_66 (by decide) rfl ?_
              refine j_icmp_ge (tgt := 138) (pc' := 71) hX dX5_counted_68 (by decide) rfl hf (fun hf => ?_) (fun hf => ?_)
              · refine J_sub (lv' := [(2, .int x2_65)]) [2] rfl ?_
                exact hK65_138 x2_65 hf
              · refine j_iload_n (pc' := 72) hX dX5_counted_71 rfl 2 rfl rfl ?_
                refine j_iload_n (pc' := 73) hX dX5_counted_72 rfl 1 rfl rfl ?_
                refine j_iconst (pc' := 74) (v := 2) hX dX5_counted_73 (by decide) rfl ?_
                refine j_icmp_ne (tgt := 88) (pc' := 77) hX dX5_counted_74 (by decide) rfl hf (fun hf => ?_) (fun hf => ?_)
                · refine j_iload_n (pc' := 89) hX dX5_counted_88 rfl 1 rfl rfl ?_
                  refine j_iconst (pc' := 90) (v := 3) hX dX5_counted_89 (by decide) rfl ?_
                  refine j_icmp_ne (tgt := 105) (pc' := 93) hX dX5_counted_90 (by decide) rfl hf (fun hf => ?_) (fun hf => ?_)
                  · refine j_iload_n (pc' := 106) hX dX5_counted_105 rfl 1 rfl rfl ?_
                    refine j_iconst (pc' := 107) (v := 4) hX dX5_counted_106 (by decide) rfl ?_
                    refine j_icmp_ne (tgt := 118) (pc' := 110) hX dX5_counted_107 (by decide) rfl hf (fun hf => ?_) (fun hf => ?_)
                    · refine j_iload_n (pc' := 119) hX dX5_counted_118 rfl 3 rfl rfl ?_
                      refine j_iconst (pc' := 120) (v := 1) hX dX5_counted_119 (by decide) rfl ?_
                      refine j_iadd (pc' := 121) hX dX5_counted_120 rfl ?_
                      refine j_aload_n (pc' := 122) hX dX5_counted_121 rfl 0 rfl rfl ?_
                      refine j_get (ci := 5) (pc' := 125) hX hin5 rfl 0 rfl 0 (by decide) hl_7 rfl dX5_counted_122 rfl ?_
                      refine j_iconst (pc' := 126) (v := 4) hX dX5_counted_125 (by decide) rfl ?_
                      refine j_iload_n (pc' := 127) hX dX5_counted_126 rfl 3 rfl rfl ?_
                      refine j_iadd (pc' := 128) hX dX5_counted_127 rfl ?_
                      refine j_iald (pc' := 129) hX 1 rfl dX5_counted_128 hf rfl (fun hf => ?_)
                      refine j_imul (pc' := 130) hX dX5_counted_129 rfl ?_
                      refine J_sub (lv' := [(0, .ref d0), (1, .int p0), (3, .int x3_65)]) [0, 1, 3] rfl ?_
                      exact J130 ((x3_65 + 1) * (vd.1 (4 + x3_65).toNatClampNeg)) x2_65 hf
                    · refine j_aload_n (pc' := 111) hX dX5_counted_110 rfl 0 rfl rfl ?_
                      refine j_iload_n (pc' := 112) hX dX5_counted_111 rfl 3 rfl rfl ?_
                      refine j_callVR (ci := 5) (pc' := 115) (As := [.int x3_65]) (rest := [.int x2_65]) (stk := fun r112 => [.int r112, .int x2_65]) hX (fun l => met_X5_fillers l g d0 d1 d2 d3 d4 d5 d6 vd x3_65 _ hf) rfl gX5_counted_X5_fillers yoX5_fillers rfl ⟨Nat.le_of_ble_eq_true rfl, Nat.le_of_ble_eq_true rfl⟩ ⟨⟨Nat.le_of_ble_eq_true rfl, Nat.le_of_ble_eq_true rfl⟩, rfl, rfl⟩ 0 rfl rfl [0, 1, 2, 3, 4, 5, 6] rfl (by decide) (Nat.le_of_ble_eq_true rfl) rfl (fun _ => rfl) dX5_counted_112 rfl (fun r112 hf => ?_)
                      refine j_goto (tgt := 130) hX dX5_counted_115 (by decide) ?_
                      refine J_sub (lv' := [(0, .ref d0), (1, .int p0), (3, .int x3_65)]) [0, 1, 3] rfl ?_
                      exact J130 r112 x2_65 hf
                  · refine j_aload_n (pc' := 94) hX dX5_counted_93 rfl 0 rfl rfl ?_
                    refine j_get (ci := 5) (pc' := 97) hX hin5 rfl 0 rfl 0 (by decide) hl_7 rfl dX5_counted_94 rfl ?_
                    refine j_iload_n (pc' := 98) hX dX5_counted_97 rfl 3 rfl rfl ?_
                    refine j_iconst (pc' := 99) (v := 1) hX dX5_counted_98 (by decide) rfl ?_
                    refine j_callSR (pc' := 102) (As := [.ref d1, .int x3_65, .int 1]) (rest := [.int x2_65]) (stk := fun r99 => [.int r99, .int x2_65]) hX (fun l => met_X5_meeting l g d1 vd.1 x3_65 1 _ hf) rfl gX5_counted_X5_meeting yoX5_meeting rfl ⟨Nat.le_of_ble_eq_true rfl, Nat.le_of_ble_eq_true rfl⟩ ⟨⟨Nat.le_of_ble_eq_true rfl, Nat.le_of_ble_eq_true rfl⟩, rfl, rfl⟩ [1] rfl (by decide) (Nat.le_of_ble_eq_true rfl) rfl (fun _ => rfl) dX5_counted_99 rfl (fun r99 hf => ?_)
                    refine j_goto (tgt := 130) hX dX5_counted_102 (by decide) ?_
                    refine J_sub (lv' := [(0, .ref d0), (1, .int p0), (3, .int x3_65)]) [0, 1, 3] rfl ?_
                    exact J130 r99 x2_65 hf
                · refine j_aload_n (pc' := 78) hX dX5_counted_77 rfl 0 rfl rfl ?_
                  refine j_get (ci := 5) (pc' := 81) hX hin5 rfl 0 rfl 0 (by decide) hl_7 rfl dX5_counted_78 rfl ?_
                  refine j_iload_n (pc' := 82) hX dX5_counted_81 rfl 3 rfl rfl ?_
                  refine j_callSR (pc' := 85) (As := [.ref d1, .int x3_65]) (rest := [.int x2_65]) (stk := fun r82 => [.int r82, .int x2_65]) hX (fun l => met_X5_joints l g d1 vd.1 x3_65 _ hf) rfl gX5_counted_X5_joints yoX5_joints rfl ⟨Nat.le_of_ble_eq_true rfl, Nat.le_of_ble_eq_true rfl⟩ ⟨⟨Nat.le_of_ble_eq_true rfl, Nat.le_of_ble_eq_true rfl⟩, rfl, rfl⟩ [1] rfl (by decide) (Nat.le_of_ble_eq_true rfl) rfl (fun _ => rfl) dX5_counted_82 rfl (fun r82 hf => ?_)
                  refine j_goto (tgt := 130) hX dX5_counted_85 (by decide) ?_
                  refine J_sub (lv' := [(0, .ref d0), (1, .int p0), (3, .int x3_65)]) [0, 1, 3] rfl ?_
                  exact J130 r82 x2_65 hf
          refine J_sub (lv' := [(0, .ref d0), (1, .int p0), (2, .int 0), (3, .int 0)]) [2, 3, 1, 0] rfl ?_
          refine L65 _ (fun e1 hf => ?_) N65 0 0 hf
          refine j_iload_n (pc' := 139) hX dX5_counted_138 rfl 0 rfl rfl ?_
          exact j_iret hX hR dX5_counted_139 ⟨_, rfl, hf⟩
        · refine j_iload_n (pc' := 43) hX dX5_counted_42 rfl 1 rfl rfl ?_
          refine j_iconst (pc' := 44) (v := 5) hX dX5_counted_43 (by decide) rfl ?_
          refine j_icmp_ne (tgt := 56) (pc' := 47) hX dX5_counted_44 (by decide) rfl hf (fun hf => ?_) (fun hf => ?_)
          · refine j_aload_n (pc' := 57) hX dX5_counted_56 rfl 0 rfl rfl ?_
            refine j_get (ci := 5) (pc' := 60) hX hin5 rfl 0 rfl 3 (by decide) hl_36 rfl dX5_counted_57 rfl ?_
            exact j_iret hX hR dX5_counted_60 ⟨_, rfl, hf⟩
          · refine j_aload_n (pc' := 48) hX dX5_counted_47 rfl 0 rfl rfl ?_
            refine j_get (ci := 5) (pc' := 51) hX hin5 rfl 0 rfl 0 (by decide) hl_7 rfl dX5_counted_48 rfl ?_
            refine j_iconst (pc' := 52) (v := 3) hX dX5_counted_51 (by decide) rfl ?_
            refine j_iald (pc' := 53) hX 1 rfl dX5_counted_52 ⟨by unfold vp_in; decide, hf⟩ rfl (fun hf => ?_)
            refine j_goto (tgt := 60) hX dX5_counted_53 (by decide) ?_
            exact j_iret hX hR dX5_counted_60 ⟨_, rfl, hf⟩
    · refine j_iload_n (pc' := 10) hX dX5_counted_9 rfl 1 rfl rfl ?_
      refine j_if_ne (tgt := 23) (pc' := 13) hX dX5_counted_10 (by decide) rfl hf (fun hf => ?_) (fun hf => ?_)
      · refine j_aload_n (pc' := 24) hX dX5_counted_23 rfl 0 rfl rfl ?_
        refine j_get (ci := 5) (pc' := 27) hX hin5 rfl 0 rfl 0 (by decide) hl_7 rfl dX5_counted_24 rfl ?_
        refine j_callSR (pc' := 30) (As := [.ref d1]) (rest := []) (stk := fun r27 => [.int r27]) hX (fun l => met_X5_closed l g d1 vd.1 _ hf) rfl gX5_counted_X5_closed yoX5_closed rfl ⟨Nat.le_of_ble_eq_true rfl, Nat.le_of_ble_eq_true rfl⟩ ⟨⟨Nat.le_of_ble_eq_true rfl, Nat.le_of_ble_eq_true rfl⟩, rfl, rfl⟩ [1] rfl (by decide) (Nat.le_of_ble_eq_true rfl) rfl (fun _ => rfl) dX5_counted_27 rfl (fun r27 hf => ?_)
        exact j_iret hX hR dX5_counted_30 ⟨_, rfl, hf⟩
      · refine j_aload_n (pc' := 14) hX dX5_counted_13 rfl 0 rfl rfl ?_
        refine j_get (ci := 5) (pc' := 17) hX hin5 rfl 0 rfl 0 (by decide) hl_7 rfl dX5_counted_14 rfl ?_
        refine j_callSR (pc' := 20) (As := [.ref d1]) (rest := []) (stk := fun r17 => [.int r17]) hX (fun l => met_X5_all l g d1 vd.1 _ hf) rfl gX5_counted_X5_all yoX5_all rfl ⟨Nat.le_of_ble_eq_true rfl, Nat.le_of_ble_eq_true rfl⟩ ⟨⟨Nat.le_of_ble_eq_true rfl, Nat.le_of_ble_eq_true rfl⟩, rfl, rfl⟩ [1] rfl (by decide) (Nat.le_of_ble_eq_true rfl) rfl (fun _ => rfl) dX5_counted_17 rfl (fun r17 hf => ?_)
        refine j_goto (tgt := 30) hX dX5_counted_20 (by decide) ?_
        exact j_iret hX hR dX5_counted_30 ⟨_, rfl, hf⟩
def wp_X5_count (vd : Md) (p0 : Int32) (post : Int32 → Md → Prop) : Prop :=
  (∀ vd_1 : Md, vd_1 = md_thrown vd (0) → (wp_X5_in p0 0 7 (fun r9 => ((r9 = 0 → (wp_X5_fails vd_1 1 (fun r25 u25_2 => post r25 u25_2))) ∧ (¬ r9 = 0 → (wp_X5_counted vd_1 p0 (fun r17 => post r17 vd_1)))))))
theorem yoX5_count : yOk yX5_count 1 := by decide +kernel
set_option maxHeartbeats 4000000 in
set_option maxRecDepth 100000 in
theorem met_X5_count (l : Launch) (g : JG) (d0 : Nat) (d1 : Nat) (d2 : Nat) (d3 : Nat) (d4 : Nat) (d5 : Nat) (d6 : Nat) (vd : Md) (p0 : Int32) (post : Int32 → Md → Prop) (hf : wp_X5_count vd p0 post) : MetM l yX5_count wsX5_count ({ frames := 5, cells := 0, slots := 0, locals := 116 } : Room) [.ref d0, .int p0] g (MdW g d0 d1 d2 d3 d4 d5 d6 vd) mkI post (fun u : Md => (MdW g d0 d1 d2 d3 d4 d5 d6 u)) := by
  have hin5 : ∀ w ∈ u_ws RX5 TX5 12, w ∈ wsX5_count := by decide +kernel
  have hl_28 : Cond.fieldLink RX5 28 (TX5 6).1 (TX5 6).2.1 (TX5 6).2.2.1 ∈ wsX5_count := by decide +kernel
  refine enterM (own := RX5) (cc := cX5_count) (nL := 2) (ret := (some .int)) (lv := [(0, .ref d0), (1, .int p0)]) (by decide) rfl rfl (Nat.le_of_ble_eq_true rfl) rfl (fun X hX hW hR => ?_)
  unfold wp_X5_count at hf
  refine j_aload_n (pc' := 1) hX dX5_count_0 rfl 0 rfl rfl ?_
  refine j_iconst (pc' := 2) (v := 0) hX dX5_count_1 (by decide) rfl ?_
  obtain ⟨vd_1, evd_1⟩ : ∃ z : Md, z = md_thrown vd (0) := ⟨_, rfl⟩
  refine j_put (ci := 5) (pc' := 5) (ws' := (MdW g d0 d1 d2 d3 d4 d5 d6 vd_1)) hX hW hin5 tyX5_ok nmX5 rfl 0 rfl 6 (by decide) hl_28 rfl rfl rfl (Nat.le_of_ble_eq_true rfl) dX5_count_2 (by subst evd_1; rfl) rfl ?_
  replace hf := hf vd_1 evd_1
  refine j_iload_n (pc' := 6) hX dX5_count_5 rfl 1 rfl rfl ?_
  refine j_iconst (pc' := 7) (v := 0) hX dX5_count_6 (by decide) rfl ?_
  refine j_bipush (pc' := 9) (v := 7) hX dX5_count_7 (by decide) rfl ?_
  refine j_callSR (pc' := 12) (As := [.int p0, .int 0, .int 7]) (rest := []) (stk := fun r9 => [.int r9]) hX (fun l => met_X5_in l g p0 0 7 _ hf) rfl gX5_count_X5_in yoX5_in rfl ⟨Nat.le_of_ble_eq_true rfl, Nat.le_of_ble_eq_true rfl⟩ ⟨⟨Nat.le_of_ble_eq_true rfl, Nat.le_of_ble_eq_true rfl⟩, rfl, rfl⟩ [] rfl (by decide) (Nat.le_of_ble_eq_true rfl) rfl (fun _ => rfl) dX5_count_9 rfl (fun r9 hf => ?_)
  refine j_if_eq (tgt := 23) (pc' := 15) hX dX5_count_12 (by decide) rfl hf (fun hf => ?_) (fun hf => ?_)
  · refine j_aload_n (pc' := 24) hX dX5_count_23 rfl 0 rfl rfl ?_
    refine j_iconst (pc' := 25) (v := 1) hX dX5_count_24 (by decide) rfl ?_
    refine j_callVM (ci := 5) (pc' := 28) (k' := 0) (n' := 0) (As := [.int 1]) (rest := []) (stk := fun r25 => [.int r25]) (ws' := fun u25_2 => (MdW g d0 d1 d2 d3 d4 d5 d6 u25_2)) (wr := ([] : va_W)) hX hW (fun l => met_X5_fails l g d0 d1 d2 d3 d4 d5 d6 vd_1 1 _ hf) rfl gX5_count_X5_fails yoX5_fails rfl ⟨Nat.le_of_ble_eq_true rfl, Nat.le_of_ble_eq_true rfl⟩ ⟨Nat.le_of_ble_eq_true rfl, Nat.le_of_ble_eq_true rfl, Nat.le_of_ble_eq_true rfl, Nat.le_of_ble_eq_true rfl⟩ 0 rfl rfl [0, 1, 2, 3, 4, 5, 6] [] [0, 1, 2, 3, 4, 5, 6] rfl (by decide) rfl (by decide) (by decide) (fun _ => rfl) (by decide) (Nat.le_of_ble_eq_true rfl) rfl (fun _ => rfl) dX5_count_25 rfl (fun r25 u25_2 hf => ?_)
    exact j_iret hX hR dX5_count_28 ⟨_, _, rfl, hf, rfl⟩
  · refine j_aload_n (pc' := 16) hX dX5_count_15 rfl 0 rfl rfl ?_
    refine j_iload_n (pc' := 17) hX dX5_count_16 rfl 1 rfl rfl ?_
    refine j_callVR (ci := 5) (pc' := 20) (As := [.int p0]) (rest := []) (stk := fun r17 => [.int r17]) hX (fun l => met_X5_counted l g d0 d1 d2 d3 d4 d5 d6 vd_1 p0 _ hf) rfl gX5_count_X5_counted yoX5_counted rfl ⟨Nat.le_of_ble_eq_true rfl, Nat.le_of_ble_eq_true rfl⟩ ⟨⟨Nat.le_of_ble_eq_true rfl, Nat.le_of_ble_eq_true rfl⟩, rfl, rfl⟩ 0 rfl rfl [0, 1, 2, 3, 4, 5, 6] rfl (by decide) (Nat.le_of_ble_eq_true rfl) rfl (fun _ => rfl) dX5_count_17 rfl (fun r17 hf => ?_)
    refine j_goto (tgt := 28) hX dX5_count_20 (by decide) ?_
    exact j_iret hX hR dX5_count_28 ⟨_, _, rfl, hf, rfl⟩
def wp_X5_setting (vd : Md) (p0 : Int32) (post : Int32 → Md → Prop) : Prop :=
  (∀ vd_1 : Md, vd_1 = md_thrown vd (0) → (wp_X5_in p0 0 2 (fun r8 => ((r8 = 0 → (wp_X5_fails vd_1 1 (fun r25 u25_2 => post r25 u25_2))) ∧ (¬ r8 = 0 → (vp_in p0 376 ∧ post (vd_1.1 p0.toNatClampNeg) vd_1))))))
theorem yoX5_setting : yOk yX5_setting 1 := by decide +kernel
set_option maxHeartbeats 4000000 in
set_option maxRecDepth 100000 in
theorem met_X5_setting (l : Launch) (g : JG) (d0 : Nat) (d1 : Nat) (d2 : Nat) (d3 : Nat) (d4 : Nat) (d5 : Nat) (d6 : Nat) (vd : Md) (p0 : Int32) (post : Int32 → Md → Prop) (hf : wp_X5_setting vd p0 post) : MetM l yX5_setting wsX5_setting ({ frames := 1, cells := 0, slots := 0, locals := 22 } : Room) [.ref d0, .int p0] g (MdW g d0 d1 d2 d3 d4 d5 d6 vd) mkI post (fun u : Md => (MdW g d0 d1 d2 d3 d4 d5 d6 u)) := by
  have hin5 : ∀ w ∈ u_ws RX5 TX5 12, w ∈ wsX5_setting := by decide +kernel
  have hl_28 : Cond.fieldLink RX5 28 (TX5 6).1 (TX5 6).2.1 (TX5 6).2.2.1 ∈ wsX5_setting := by decide +kernel
  have hl_7 : Cond.fieldLink RX5 7 (TX5 0).1 (TX5 0).2.1 (TX5 0).2.2.1 ∈ wsX5_setting := by decide +kernel
  refine enterM (own := RX5) (cc := cX5_setting) (nL := 2) (ret := (some .int)) (lv := [(0, .ref d0), (1, .int p0)]) (by decide) rfl rfl (Nat.le_of_ble_eq_true rfl) rfl (fun X hX hW hR => ?_)
  unfold wp_X5_setting at hf
  refine j_aload_n (pc' := 1) hX dX5_setting_0 rfl 0 rfl rfl ?_
  refine j_iconst (pc' := 2) (v := 0) hX dX5_setting_1 (by decide) rfl ?_
  obtain ⟨vd_1, evd_1⟩ : ∃ z : Md, z = md_thrown vd (0) := ⟨_, rfl⟩
  refine j_put (ci := 5) (pc' := 5) (ws' := (MdW g d0 d1 d2 d3 d4 d5 d6 vd_1)) hX hW hin5 tyX5_ok nmX5 rfl 0 rfl 6 (by decide) hl_28 rfl rfl rfl (Nat.le_of_ble_eq_true rfl) dX5_setting_2 (by subst evd_1; rfl) rfl ?_
  replace hf := hf vd_1 evd_1
  refine j_iload_n (pc' := 6) hX dX5_setting_5 rfl 1 rfl rfl ?_
  refine j_iconst (pc' := 7) (v := 0) hX dX5_setting_6 (by decide) rfl ?_
  refine j_iconst (pc' := 8) (v := 2) hX dX5_setting_7 (by decide) rfl ?_
  refine j_callSR (pc' := 11) (As := [.int p0, .int 0, .int 2]) (rest := []) (stk := fun r8 => [.int r8]) hX (fun l => met_X5_in l g p0 0 2 _ hf) rfl gX5_setting_X5_in yoX5_in rfl ⟨Nat.le_of_ble_eq_true rfl, Nat.le_of_ble_eq_true rfl⟩ ⟨⟨Nat.le_of_ble_eq_true rfl, Nat.le_of_ble_eq_true rfl⟩, rfl, rfl⟩ [] rfl (by decide) (Nat.le_of_ble_eq_true rfl) rfl (fun _ => rfl) dX5_setting_8 rfl (fun r8 hf => ?_)
  refine j_if_eq (tgt := 23) (pc' := 14) hX dX5_setting_11 (by decide) rfl hf (fun hf => ?_) (fun hf => ?_)
  · refine j_aload_n (pc' := 24) hX dX5_setting_23 rfl 0 rfl rfl ?_
    refine j_iconst (pc' := 25) (v := 1) hX dX5_setting_24 (by decide) rfl ?_
    refine j_callVM (ci := 5) (pc' := 28) (k' := 0) (n' := 0) (As := [.int 1]) (rest := []) (stk := fun r25 => [.int r25]) (ws' := fun u25_2 => (MdW g d0 d1 d2 d3 d4 d5 d6 u25_2)) (wr := ([] : va_W)) hX hW (fun l => met_X5_fails l g d0 d1 d2 d3 d4 d5 d6 vd_1 1 _ hf) rfl gX5_setting_X5_fails yoX5_fails rfl ⟨Nat.le_of_ble_eq_true rfl, Nat.le_of_ble_eq_true rfl⟩ ⟨Nat.le_of_ble_eq_true rfl, Nat.le_of_ble_eq_true rfl, Nat.le_of_ble_eq_true rfl, Nat.le_of_ble_eq_true rfl⟩ 0 rfl rfl [0, 1, 2, 3, 4, 5, 6] [] [0, 1, 2, 3, 4, 5, 6] rfl (by decide) rfl (by decide) (by decide) (fun _ => rfl) (by decide) (Nat.le_of_ble_eq_true rfl) rfl (fun _ => rfl) dX5_setting_25 rfl (fun r25 u25_2 hf => ?_)
    exact j_iret hX hR dX5_setting_28 ⟨_, _, rfl, hf, rfl⟩
  · refine j_aload_n (pc' := 15) hX dX5_setting_14 rfl 0 rfl rfl ?_
    refine j_get (ci := 5) (pc' := 18) hX hin5 rfl 0 rfl 0 (by decide) hl_7 rfl dX5_setting_15 rfl ?_
    refine j_iload_n (pc' := 19) hX dX5_setting_18 rfl 1 rfl rfl ?_
    refine j_iald (pc' := 20) hX 1 rfl dX5_setting_19 hf rfl (fun hf => ?_)
    refine j_goto (tgt := 28) hX dX5_setting_20 (by decide) ?_
    exact j_iret hX hR dX5_setting_28 ⟨_, _, rfl, hf, rfl⟩
def wp_X5_closes_c155 (x6_34 : Int32) (x7_55 : Int32) (vd_55 : Md) (KB55 : Int32 → Int32 → Md → Prop) : Prop :=
  (vp_in (x6_34 + x7_55) 61 ∧ (vp_in x6_34 61 ∧ (∀ vd_3 : Md, vd_3 = md_few vd_55 (upd vd_55.2.2.2.2.2.1 x6_34.toNatClampNeg ((vd_55.2.2.2.2.2.1 (x6_34 + x7_55).toNatClampNeg) + 1)) → KB55 x7_55 (x7_55 + 1) vd_3)))
def wp_X5_closes_c115 (x6_34 : Int32) (x5_55 : Int32) (x7_55 : Int32) (vd_55 : Md) (KB55 : Int32 → Int32 → Md → Prop) (z0_115 : Int32) : Prop :=
  ((z0_115 = 0 → KB55 x5_55 (x7_55 + 1) vd_55) ∧ (¬ z0_115 = 0 → (vp_in x6_34 61 ∧ (((vd_55.2.2.2.2.2.1 x6_34.toNatClampNeg) = (-1) → wp_X5_closes_c155 x6_34 x7_55 vd_55 KB55) ∧ (¬ (vd_55.2.2.2.2.2.1 x6_34.toNatClampNeg) = (-1) → (vp_in (x6_34 + x7_55) 61 ∧ (vp_in x6_34 61 ∧ (((vd_55.2.2.2.2.2.1 x6_34.toNatClampNeg) < ((vd_55.2.2.2.2.2.1 (x6_34 + x7_55).toNatClampNeg) + 1) → KB55 x5_55 (x7_55 + 1) vd_55) ∧ (¬ (vd_55.2.2.2.2.2.1 x6_34.toNatClampNeg) < ((vd_55.2.2.2.2.2.1 (x6_34 + x7_55).toNatClampNeg) + 1) → wp_X5_closes_c155 x6_34 x7_55 vd_55 KB55)))))))))
def wp_X5_closes_L55 (p0 : Int32) (r5 : Int32) (x6_34 : Int32) (K55_184 : Int32 → Md → Prop) : Nat → Int32 → Int32 → Md → Prop
  | 0, _, _, _ => False
  | N55 + 1, x5_55, x7_55, vd_55 =>
  ((6 < x7_55 → K55_184 x5_55 vd_55) ∧ (¬ 6 < x7_55 → ((r5 < (x6_34 + x7_55) → K55_184 x5_55 vd_55) ∧ (¬ r5 < (x6_34 + x7_55) → (vp_in (x6_34 + x7_55) 61 ∧ (((vd_55.2.2.2.2.2.1 (x6_34 + x7_55).toNatClampNeg) = (-1) → wp_X5_closes_c115 x6_34 x5_55 x7_55 vd_55 (wp_X5_closes_L55 p0 r5 x6_34 K55_184 N55) 0) ∧ (¬ (vd_55.2.2.2.2.2.1 (x6_34 + x7_55).toNatClampNeg) = (-1) → (((x6_34 + x7_55) = r5 → wp_X5_closes_c115 x6_34 x5_55 x7_55 vd_55 (wp_X5_closes_L55 p0 r5 x6_34 K55_184 N55) 1) ∧ (¬ (x6_34 + x7_55) = r5 → (wp_X5_runs vd_55.1 p0 (x6_34 + x7_55) (fun r104 => ((r104 = 0 → wp_X5_closes_c115 x6_34 x5_55 x7_55 vd_55 (wp_X5_closes_L55 p0 r5 x6_34 K55_184 N55) 1) ∧ (¬ r104 = 0 → wp_X5_closes_c115 x6_34 x5_55 x7_55 vd_55 (wp_X5_closes_L55 p0 r5 x6_34 K55_184 N55) 0)))))))))))))
def wp_X5_closes_L34 (p0 : Int32) (r5 : Int32) (r14 : Int32) (K34_190 : Int32 → Md → Prop) : Nat → Int32 → Int32 → Md → Prop
  | 0, _, _, _ => False
  | N34 + 1, x5_34, x6_34, vd_34 =>
  ((x6_34 < r14 → K34_190 x5_34 vd_34) ∧ (¬ x6_34 < r14 → (vp_in x6_34 61 ∧ (∀ vd_2 : Md, vd_2 = md_few vd_34 (upd vd_34.2.2.2.2.2.1 x6_34.toNatClampNeg (-1)) → (∃ N : Nat, wp_X5_closes_L55 p0 r5 x6_34 (fun (e4 : Int32) (e5 : Md) => (wp_X5_closes_L34 p0 r5 r14 K34_190 N34) e4 (x6_34 + (-1)) e5) N (-1) 1 vd_2)))))
def wp_X5_closes (vd : Md) (p0 : Int32) (p1 : Int32) (post : Int32 → Md → Prop) : Prop :=
  (wp_X5_cells vd.1 p0 (fun r5 => (wp_X5_taken vd.1 p0 (fun r14 => (vp_in r5 61 ∧ (∀ vd_1 : Md, vd_1 = md_few vd (upd vd.2.2.2.2.2.1 r5.toNatClampNeg 0) → (∃ N : Nat, wp_X5_closes_L34 p0 r5 r14 (fun (e6 : Int32) (e7 : Md) => ((p1 = 0 → (vp_in r14 61 ∧ post (e7.2.2.2.2.2.1 r14.toNatClampNeg) e7)) ∧ (¬ p1 = 0 → post e6 e7))) N (-1) (r5 - 1) vd_1)))))))
theorem yoX5_closes : yOk yX5_closes 2 := by decide +kernel
set_option maxHeartbeats 4000000 in
set_option maxRecDepth 100000 in
theorem met_X5_closes (l : Launch) (g : JG) (d0 : Nat) (d1 : Nat) (d2 : Nat) (d3 : Nat) (d4 : Nat) (d5 : Nat) (d6 : Nat) (vd : Md) (p0 : Int32) (p1 : Int32) (post : Int32 → Md → Prop) (hf : wp_X5_closes vd p0 p1 post) : MetM l yX5_closes wsX5_closes ({ frames := 3, cells := 0, slots := 0, locals := 69 } : Room) [.ref d0, .int p0, .int p1] g (MdW g d0 d1 d2 d3 d4 d5 d6 vd) mkI post (fun u : Md => (MdW g d0 d1 d2 d3 d4 d5 d6 u)) := by
  have hin5 : ∀ w ∈ u_ws RX5 TX5 12, w ∈ wsX5_closes := by decide +kernel
  have hl_7 : Cond.fieldLink RX5 7 (TX5 0).1 (TX5 0).2.1 (TX5 0).2.2.1 ∈ wsX5_closes := by decide +kernel
  have hl_25 : Cond.fieldLink RX5 25 (TX5 11).1 (TX5 11).2.1 (TX5 11).2.2.1 ∈ wsX5_closes := by decide +kernel
  refine enterM (own := RX5) (cc := cX5_closes) (nL := 9) (ret := (some .int)) (lv := [(0, .ref d0), (1, .int p0), (2, .int p1)]) (by decide) rfl rfl (Nat.le_of_ble_eq_true rfl) rfl (fun X hX hW hR => ?_)
  unfold wp_X5_closes at hf
  refine j_aload_n (pc' := 1) hX dX5_closes_0 rfl 0 rfl rfl ?_
  refine j_get (ci := 5) (pc' := 4) hX hin5 rfl 0 rfl 0 (by decide) hl_7 rfl dX5_closes_1 rfl ?_
  refine j_iload_n (pc' := 5) hX dX5_closes_4 rfl 1 rfl rfl ?_
  refine j_callSR (pc' := 8) (As := [.ref d1, .int p0]) (rest := []) (stk := fun r5 => [.int r5]) hX (fun l => met_X5_cells l g d1 vd.1 p0 _ hf) rfl gX5_closes_X5_cells yoX5_cells rfl ⟨Nat.le_of_ble_eq_true rfl, Nat.le_of_ble_eq_true rfl⟩ ⟨⟨Nat.le_of_ble_eq_true rfl, Nat.le_of_ble_eq_true rfl⟩, rfl, rfl⟩ [1] rfl (by decide) (Nat.le_of_ble_eq_true rfl) rfl (fun _ => rfl) dX5_closes_5 rfl (fun r5 hf => ?_)
  refine j_istore_n (pc' := 9) (lv' := [(3, .int r5), (0, .ref d0), (1, .int p0), (2, .int p1)]) hX dX5_closes_8 rfl (by decide) rfl rfl ?_
  refine j_aload_n (pc' := 10) hX dX5_closes_9 rfl 1 rfl rfl ?_
  refine j_get (ci := 5) (pc' := 13) hX hin5 rfl 0 rfl 0 (by decide) hl_7 rfl dX5_closes_10 rfl ?_
  refine j_iload_n (pc' := 14) hX dX5_closes_13 rfl 2 rfl rfl ?_
  refine j_callSR (pc' := 17) (As := [.ref d1, .int p0]) (rest := []) (stk := fun r14 => [.int r14]) hX (fun l => met_X5_taken l g d1 vd.1 p0 _ hf) rfl gX5_closes_X5_taken yoX5_taken rfl ⟨Nat.le_of_ble_eq_true rfl, Nat.le_of_ble_eq_true rfl⟩ ⟨⟨Nat.le_of_ble_eq_true rfl, Nat.le_of_ble_eq_true rfl⟩, rfl, rfl⟩ [1] rfl (by decide) (Nat.le_of_ble_eq_true rfl) rfl (fun _ => rfl) dX5_closes_14 rfl (fun r14 hf => ?_)
  refine j_istore (pc' := 19) (lv' := [(4, .int r14), (3, .int r5), (0, .ref d0), (1, .int p0), (2, .int p1)]) hX dX5_closes_17 (by decide) rfl rfl ?_
  refine j_iconst (pc' := 20) (v := (-1)) hX dX5_closes_19 (by decide) rfl ?_
  refine j_istore (pc' := 22) (lv' := [(5, .int (-1)), (4, .int r14), (3, .int r5), (0, .ref d0), (1, .int p0), (2, .int p1)]) hX dX5_closes_20 (by decide) rfl rfl ?_
  refine j_aload_n (pc' := 23) hX dX5_closes_22 rfl 3 rfl rfl ?_
  refine j_get (ci := 5) (pc' := 26) hX hin5 rfl 0 rfl 11 (by decide) hl_25 rfl dX5_closes_23 rfl ?_
  refine j_iload_n (pc' := 27) hX dX5_closes_26 rfl 2 rfl rfl ?_
  refine j_iconst (pc' := 28) (v := 0) hX dX5_closes_27 (by decide) rfl ?_
  obtain ⟨vd_1, evd_1⟩ : ∃ z : Md, z = md_few vd (upd vd.2.2.2.2.2.1 r5.toNatClampNeg 0) := ⟨_, rfl⟩
  refine j_iast (pc' := 29) (ws' := (MdW g d0 d1 d2 d3 d4 d5 d6 vd_1)) hX hW 6 rfl dX5_closes_28 hf (by subst evd_1; rfl) rfl (fun hf => ?_)
  replace hf := hf vd_1 evd_1
  refine j_iload_n (pc' := 30) hX dX5_closes_29 rfl 2 rfl rfl ?_
  refine j_iconst (pc' := 31) (v := 1) hX dX5_closes_30 (by decide) rfl ?_
  refine j_isub (pc' := 32) hX dX5_closes_31 rfl ?_
  refine j_istore (pc' := 34) (lv' := [(6, .int (r5 - 1)), (5, .int (-1)), (4, .int r14), (3, .int r5), (0, .ref d0), (1, .int p0), (2, .int p1)]) hX dX5_closes_32 (by decide) rfl rfl ?_
  obtain ⟨N34, hf⟩ := hf
  have L34 : ∀ (K34_190 : Int32 → Md → Prop), (∀ (x5_34 : Int32) (vd_34 : Md), K34_190 x5_34 vd_34 → J g X 0 0 (MdW g d0 d1 d2 d3 d4 d5 d6 vd_34) [(0, .ref d0), (2, .int p1), (4, .int r14), (5, .int x5_34)] [] 190) → ∀ (N34 : Nat) (x5_34 : Int32) (x6_34 : Int32) (vd_34 : Md), wp_X5_closes_L34 p0 r5 r14 K34_190 N34 x5_34 x6_34 vd_34 → J g X 0 0 (MdW g d0 d1 d2 d3 d4 d5 d6 vd_34) [(0, .ref d0), (1, .int p0), (2, .int p1), (3, .int r5), (4, .int r14), (5, .int x5_34), (6, .int x6_34)] [] 34 := by
    intro K34_190 hK34_190 N34
    induction N34 with
    | zero => intro x5_34 x6_34 vd_34 hf; exact False.elim hf
    | succ N34 ih34 =>
      intro x5_34 x6_34 vd_34 hf
      refine j_iload (pc' := 36) hX dX5_closes_34 6 rfl rfl ?_
      refine j_iload (pc' := 38) hX dX5_closes_36 4 rfl rfl ?_
      refine j_icmp_lt (tgt := 190) (pc' := 41) hX dX5_closes_38 (by decide) rfl hf (fun hf => ?_) (fun hf => ?_)
      · refine J_sub (lv' := [(0, .ref d0), (2, .int p1), (4, .int r14), (5, .int x5_34)]) [0, 2, 4, 5] rfl ?_
        exact hK34_190 x5_34 vd_34 hf
      · refine j_aload_n (pc' := 42) hX dX5_closes_41 rfl 0 rfl rfl ?_
        refine j_get (ci := 5) (pc' := 45) hX hin5 rfl 0 rfl 11 (by decide) hl_25 rfl dX5_closes_42 rfl ?_
        refine j_iload (pc' := 47) hX dX5_closes_45 6 rfl rfl ?_
        refine j_iconst (pc' := 48) (v := (-1)) hX dX5_closes_47 (by decide) rfl ?_
        obtain ⟨vd_2, evd_2⟩ : ∃ z : Md, z = md_few vd_34 (upd vd_34.2.2.2.2.2.1 x6_34.toNatClampNeg (-1)) := ⟨_, rfl⟩
        refine j_iast (pc' := 49) (ws' := (MdW g d0 d1 d2 d3 d4 d5 d6 vd_2)) hX hW 6 rfl dX5_closes_48 hf (by subst evd_2; rfl) rfl (fun hf => ?_)
        replace hf := hf vd_2 evd_2
        refine j_iconst (pc' := 50) (v := (-1)) hX dX5_closes_49 (by decide) rfl ?_
        refine j_istore (pc' := 52) (lv' := [(5, .int (-1)), (0, .ref d0), (1, .int p0), (2, .int p1), (3, .int r5), (4, .int r14), (6, .int x6_34)]) hX dX5_closes_50 (by decide) rfl rfl ?_
        refine j_iconst (pc' := 53) (v := 1) hX dX5_closes_52 (by decide) rfl ?_
        refine j_istore (pc' := 55) (lv' := [(7, .int 1), (5, .int (-1)), (0, .ref d0), (1, .int p0), (2, .int p1), (3, .int r5), (4, .int r14), (6, .int x6_34)]) hX dX5_closes_53 (by decide) rfl rfl ?_
        obtain ⟨N55, hf⟩ := hf
        have L55 : ∀ (K55_184 : Int32 → Md → Prop), (∀ (x5_55 : Int32) (vd_55 : Md), K55_184 x5_55 vd_55 → J g X 0 0 (MdW g d0 d1 d2 d3 d4 d5 d6 vd_55) [(0, .ref d0), (1, .int p0), (2, .int p1), (3, .int r5), (4, .int r14), (5, .int x5_55), (6, .int x6_34)] [] 184) → ∀ (N55 : Nat) (x5_55 : Int32) (x7_55 : Int32) (vd_55 : Md), wp_X5_closes_L55 p0 r5 x6_34 K55_184 N55 x5_55 x7_55 vd_55 → J g X 0 0 (MdW g d0 d1 d2 d3 d4 d5 d6 vd_55) [(0, .ref d0), (1, .int p0), (2, .int p1), (3, .int r5), (4, .int r14), (5, .int x5_55), (6, .int x6_34), (7, .int x7_55)] [] 55 := by
          intro K55_184 hK55_184 N55
          induction N55 with
          | zero => intro x5_55 x7_55 vd_55 hf; exact False.elim hf
          | succ N55 ih55 =>
            intro x5_55 x7_55 vd_55 hf
            have J155 : wp_X5_closes_c155 x6_34 x7_55 vd_55 (wp_X5_closes_L55 p0 r5 x6_34 K55_184 N55) → J g X 0 0 (MdW g d0 d1 d2 d3 d4 d5 d6 vd_55) [(0, .ref d0), (1, .int p0), (2, .int p1), (3, .int r5), (4, .int r14), (6, .int x6_34), (7, .int x7_55)] [] 155 := by
              intro hf
              refine j_aload_n (pc' := 156) hX dX5_closes_155 rfl 0 rfl rfl ?_
              refine j_get (ci := 5) (pc' := 159) hX hin5 rfl 0 rfl 11 (by decide) hl_25 rfl dX5_closes_156 rfl ?_
              refine j_iload (pc' := 161) hX dX5_closes_159 5 rfl rfl ?_
              refine j_aload_n (pc' := 162) hX dX5_closes_161 rfl 0 rfl rfl ?_
              refine j_get (ci := 5) (pc' := 165) hX hin5 rfl 0 rfl 11 (by decide) hl_25 rfl dX5_closes_162 rfl ?_
              refine j_iload (pc' := 167) hX dX5_closes_165 5 rfl rfl ?_
              refine j_iload (pc' := 169) hX dX5_closes_167 6 rfl rfl ?_
              refine j_iadd (pc' := 170) hX dX5_closes_169 rfl ?_
              refine j_iald (pc' := 171) hX 6 rfl dX5_closes_170 hf rfl (fun hf => ?_)
              refine j_iconst (pc' := 172) (v := 1) hX dX5_closes_171 (by decide) rfl ?_
              refine j_iadd (pc' := 173) hX dX5_closes_172 rfl ?_
              obtain ⟨vd_3, evd_3⟩ : ∃ z : Md, z = md_few vd_55 (upd vd_55.2.2.2.2.2.1 x6_34.toNatClampNeg ((vd_55.2.2.2.2.2.1 (x6_34 + x7_55).toNatClampNeg) + 1)) := ⟨_, rfl⟩
              refine j_iast (pc' := 174) (ws' := (MdW g d0 d1 d2 d3 d4 d5 d6 vd_3)) hX hW 6 rfl dX5_closes_173 hf (by subst evd_3; rfl) rfl (fun hf => ?_)
              replace hf := hf vd_3 evd_3
              refine j_iload (pc' := 176) hX dX5_closes_174 6 rfl rfl ?_
              refine j_istore (pc' := 178) (lv' := [(5, .int x7_55), (0, .ref d0), (1, .int p0), (2, .int p1), (3, .int r5), (4, .int r14), (6, .int x6_34), (7, .int x7_55)]) hX dX5_closes_176 (by decide) rfl rfl ?_
              refine j_iinc (pc' := 181) (cst := 1) (v := (x7_55 + 1)) (lv' := [(7, .int (x7_55 + 1)), (5, .int x7_55), (0, .ref d0), (1, .int p0), (2, .int p1), (3, .int r5), (4, .int r14), (6, .int x6_34)]) hX dX5_closes_178 (by decide) rfl 7 rfl (by decide) rfl rfl ?_
              refine j_goto (tgt := 55) hX dX5_closes_181 (by decide) ?_
              refine J_sub (lv' := [(0, .ref d0), (1, .int p0), (2, .int p1), (3, .int r5), (4, .int r14), (5, .int x7_55), (6, .int x6_34), (7, .int (x7_55 + 1))]) [2, 3, 4, 5, 6, 1, 7, 0] rfl ?_
              exact ih55 x7_55 (x7_55 + 1) vd_3 hf
            have J115 : ∀ (z0_115 : Int32), wp_X5_closes_c115 x6_34 x5_55 x7_55 vd_55 (wp_X5_closes_L55 p0 r5 x6_34 K55_184 N55) z0_115 → J g X 0 0 (MdW g d0 d1 d2 d3 d4 d5 d6 vd_55) [(0, .ref d0), (1, .int p0), (2, .int p1), (3, .int r5), (4, .int r14), (5, .int x5_55), (6, .int x6_34), (7, .int x7_55)] [.int z0_115] 115 := by
              intro z0_115 hf
              refine j_istore (pc' := 117) (lv' := [(8, .int z0_115), (0, .ref d0), (1, .int p0), (2, .int p1), (3, .int r5), (4, .int r14), (5, .int x5_55), (6, .int x6_34), (7, .int x7_55)]) hX dX5_closes_115 (by decide) rfl rfl ?_
              refine j_iload (pc' := 119) hX dX5_closes_117 0 rfl rfl ?_
              refine j_if_eq (tgt := 178) (pc' := 122) hX dX5_closes_119 (by decide) rfl hf (fun hf => ?_) (fun hf => ?_)
              · refine j_iinc (pc' := 181) (cst := 1) (v := (x7_55 + 1)) (lv' := [(7, .int (x7_55 + 1)), (8, .int z0_115), (0, .ref d0), (1, .int p0), (2, .int p1), (3, .int r5), (4, .int r14), (5, .int x5_55), (6, .int x6_34)]) hX dX5_closes_178 (by decide) rfl 8 rfl (by decide) rfl rfl ?_
                refine j_goto (tgt := 55) hX dX5_closes_181 (by decide) ?_
                refine J_sub (lv' := [(0, .ref d0), (1, .int p0), (2, .int p1), (3, .int r5), (4, .int r14), (5, .int x5_55), (6, .int x6_34), (7, .int (x7_55 + 1))]) [2, 3, 4, 5, 6, 7, 8, 0] rfl ?_
                exact ih55 x5_55 (x7_55 + 1) vd_55 hf
              · refine j_aload_n (pc' := 123) hX dX5_closes_122 rfl 1 rfl rfl ?_
                refine j_get (ci := 5) (pc' := 126) hX hin5 rfl 0 rfl 11 (by decide) hl_25 rfl dX5_closes_123 rfl ?_
                refine j_iload (pc' := 128) hX dX5_closes_126 7 rfl rfl ?_
                refine j_iald (pc' := 129) hX 6 rfl dX5_closes_128 hf rfl (fun hf => ?_)
                refine j_iconst (pc' := 130) (v := (-1)) hX dX5_closes_129 (by decide) rfl ?_
                refine j_icmp_eq (tgt := 155) (pc' := 133) hX dX5_closes_130 (by decide) rfl hf (fun hf => ?_) (fun hf => ?_)
                · refine J_sub (lv' := [(0, .ref d0), (1, .int p0), (2, .int p1), (3, .int r5), (4, .int r14), (6, .int x6_34), (7, .int x7_55)]) [1, 2, 3, 4, 5, 7, 8] rfl ?_
                  exact J155 hf
                · refine j_aload_n (pc' := 134) hX dX5_closes_133 rfl 1 rfl rfl ?_
                  refine j_get (ci := 5) (pc' := 137) hX hin5 rfl 0 rfl 11 (by decide) hl_25 rfl dX5_closes_134 rfl ?_
                  refine j_iload (pc' := 139) hX dX5_closes_137 7 rfl rfl ?_
                  refine j_iload (pc' := 141) hX dX5_closes_139 8 rfl rfl ?_
                  refine j_iadd (pc' := 142) hX dX5_closes_141 rfl ?_
                  refine j_iald (pc' := 143) hX 6 rfl dX5_closes_142 hf rfl (fun hf => ?_)
                  refine j_iconst (pc' := 144) (v := 1) hX dX5_closes_143 (by decide) rfl ?_
                  refine j_iadd (pc' := 145) hX dX5_closes_144 rfl ?_
                  refine j_aload_n (pc' := 146) hX dX5_closes_145 rfl 1 rfl rfl ?_
                  refine j_get (ci := 5) (pc' := 149) hX hin5 rfl 0 rfl 11 (by decide) hl_25 rfl dX5_closes_146 rfl ?_
                  refine j_iload (pc' := 151) hX dX5_closes_149 7 rfl rfl ?_
                  refine j_iald (pc' := 152) hX 6 rfl dX5_closes_151 hf rfl (fun hf => ?_)
                  refine j_icmp_gt (tgt := 178) (pc' := 155) hX dX5_closes_152 (by decide) rfl hf (fun hf => ?_) (fun hf => ?_)
                  · refine j_iinc (pc' := 181) (cst := 1) (v := (x7_55 + 1)) (lv' := [(7, .int (x7_55 + 1)), (8, .int z0_115), (0, .ref d0), (1, .int p0), (2, .int p1), (3, .int r5), (4, .int r14), (5, .int x5_55), (6, .int x6_34)]) hX dX5_closes_178 (by decide) rfl 8 rfl (by decide) rfl rfl ?_
                    refine j_goto (tgt := 55) hX dX5_closes_181 (by decide) ?_
                    refine J_sub (lv' := [(0, .ref d0), (1, .int p0), (2, .int p1), (3, .int r5), (4, .int r14), (5, .int x5_55), (6, .int x6_34), (7, .int (x7_55 + 1))]) [2, 3, 4, 5, 6, 7, 8, 0] rfl ?_
                    exact ih55 x5_55 (x7_55 + 1) vd_55 hf
                  · refine J_sub (lv' := [(0, .ref d0), (1, .int p0), (2, .int p1), (3, .int r5), (4, .int r14), (6, .int x6_34), (7, .int x7_55)]) [1, 2, 3, 4, 5, 7, 8] rfl ?_
                    exact J155 hf
            refine j_iload (pc' := 57) hX dX5_closes_55 7 rfl rfl ?_
            refine j_bipush (pc' := 59) (v := 6) hX dX5_closes_57 (by decide) rfl ?_
            refine j_icmp_gt (tgt := 184) (pc' := 62) hX dX5_closes_59 (by decide) rfl hf (fun hf => ?_) (fun hf => ?_)
            · refine J_sub (lv' := [(0, .ref d0), (1, .int p0), (2, .int p1), (3, .int r5), (4, .int r14), (5, .int x5_55), (6, .int x6_34)]) [0, 1, 2, 3, 4, 5, 6] rfl ?_
              exact hK55_184 x5_55 vd_55 hf
            · refine j_iload (pc' := 64) hX dX5_closes_62 6 rfl rfl ?_
              refine j_iload (pc' := 66) hX dX5_closes_64 7 rfl rfl ?_
              refine j_iadd (pc' := 67) hX dX5_closes_66 rfl ?_
              refine j_iload_n (pc' := 68) hX dX5_closes_67 rfl 3 rfl rfl ?_
              refine j_icmp_gt (tgt := 184) (pc' := 71) hX dX5_closes_68 (by decide) rfl hf (fun hf => ?_) (fun hf => ?_)
              · refine J_sub (lv' := [(0, .ref d0), (1, .int p0), (2, .int p1), (3, .int r5), (4, .int r14), (5, .int x5_55), (6, .int x6_34)]) [0, 1, 2, 3, 4, 5, 6] rfl ?_
                exact hK55_184 x5_55 vd_55 hf
              · refine j_aload_n (pc' := 72) hX dX5_closes_71 rfl 0 rfl rfl ?_
                refine j_get (ci := 5) (pc' := 75) hX hin5 rfl 0 rfl 11 (by decide) hl_25 rfl dX5_closes_72 rfl ?_
                refine j_iload (pc' := 77) hX dX5_closes_75 6 rfl rfl ?_
                refine j_iload (pc' := 79) hX dX5_closes_77 7 rfl rfl ?_
                refine j_iadd (pc' := 80) hX dX5_closes_79 rfl ?_
                refine j_iald (pc' := 81) hX 6 rfl dX5_closes_80 hf rfl (fun hf => ?_)
                refine j_iconst (pc' := 82) (v := (-1)) hX dX5_closes_81 (by decide) rfl ?_
                refine j_icmp_eq (tgt := 114) (pc' := 85) hX dX5_closes_82 (by decide) rfl hf (fun hf => ?_) (fun hf => ?_)
                · refine j_iconst (pc' := 115) (v := 0) hX dX5_closes_114 (by decide) rfl ?_
                  exact J115 0 hf
                · refine j_iload (pc' := 87) hX dX5_closes_85 6 rfl rfl ?_
                  refine j_iload (pc' := 89) hX dX5_closes_87 7 rfl rfl ?_
                  refine j_iadd (pc' := 90) hX dX5_closes_89 rfl ?_
                  refine j_iload_n (pc' := 91) hX dX5_closes_90 rfl 3 rfl rfl ?_
                  refine j_icmp_eq (tgt := 110) (pc' := 94) hX dX5_closes_91 (by decide) rfl hf (fun hf => ?_) (fun hf => ?_)
                  · refine j_iconst (pc' := 111) (v := 1) hX dX5_closes_110 (by decide) rfl ?_
                    refine j_goto (tgt := 115) hX dX5_closes_111 (by decide) ?_
                    exact J115 1 hf
                  · refine j_aload_n (pc' := 95) hX dX5_closes_94 rfl 0 rfl rfl ?_
                    refine j_get (ci := 5) (pc' := 98) hX hin5 rfl 0 rfl 0 (by decide) hl_7 rfl dX5_closes_95 rfl ?_
                    refine j_iload_n (pc' := 99) hX dX5_closes_98 rfl 1 rfl rfl ?_
                    refine j_iload (pc' := 101) hX dX5_closes_99 6 rfl rfl ?_
                    refine j_iload (pc' := 103) hX dX5_closes_101 7 rfl rfl ?_
                    refine j_iadd (pc' := 104) hX dX5_closes_103 rfl ?_
                    refine j_callSR (pc' := 107) (As := [.ref d1, .int p0, .int (x6_34 + x7_55)]) (rest := []) (stk := fun r104 => [.int r104]) hX (fun l => met_X5_runs l g d1 vd_55.1 p0 (x6_34 + x7_55) _ hf) rfl gX5_closes_X5_runs yoX5_runs rfl ⟨Nat.le_of_ble_eq_true rfl, Nat.le_of_ble_eq_true rfl⟩ ⟨⟨Nat.le_of_ble_eq_true rfl, Nat.le_of_ble_eq_true rfl⟩, rfl, rfl⟩ [1] rfl (by decide) (Nat.le_of_ble_eq_true rfl) rfl (fun _ => rfl) dX5_closes_104 rfl (fun r104 hf => ?_)
                    refine j_if_ne (tgt := 114) (pc' := 110) hX dX5_closes_107 (by decide) rfl hf (fun hf => ?_) (fun hf => ?_)
                    · refine j_iconst (pc' := 115) (v := 0) hX dX5_closes_114 (by decide) rfl ?_
                      exact J115 0 hf
                    · refine j_iconst (pc' := 111) (v := 1) hX dX5_closes_110 (by decide) rfl ?_
                      refine j_goto (tgt := 115) hX dX5_closes_111 (by decide) ?_
                      exact J115 1 hf
        refine J_sub (lv' := [(0, .ref d0), (1, .int p0), (2, .int p1), (3, .int r5), (4, .int r14), (5, .int (-1)), (6, .int x6_34), (7, .int 1)]) [2, 3, 4, 5, 6, 1, 7, 0] rfl ?_
        refine L55 _ (fun e4 e5 hf => ?_) N55 (-1) 1 vd_2 hf
        refine j_iinc (pc' := 187) (cst := (-1)) (v := (x6_34 + (-1))) (lv' := [(6, .int (x6_34 + (-1))), (0, .ref d0), (1, .int p0), (2, .int p1), (3, .int r5), (4, .int r14), (5, .int e4)]) hX dX5_closes_184 (by decide) rfl 6 rfl (by decide) rfl rfl ?_
        refine j_goto (tgt := 34) hX dX5_closes_187 (by decide) ?_
        refine J_sub (lv' := [(0, .ref d0), (1, .int p0), (2, .int p1), (3, .int r5), (4, .int r14), (5, .int e4), (6, .int (x6_34 + (-1)))]) [1, 2, 3, 4, 5, 6, 0] rfl ?_
        exact ih34 e4 (x6_34 + (-1)) e5 hf
  refine J_sub (lv' := [(0, .ref d0), (1, .int p0), (2, .int p1), (3, .int r5), (4, .int r14), (5, .int (-1)), (6, .int (r5 - 1))]) [4, 5, 6, 3, 2, 1, 0] rfl ?_
  refine L34 _ (fun e6 e7 hf => ?_) N34 (-1) (r5 - 1) vd_1 hf
  refine j_iload_n (pc' := 191) hX dX5_closes_190 rfl 1 rfl rfl ?_
  refine j_if_eq (tgt := 199) (pc' := 194) hX dX5_closes_191 (by decide) rfl hf (fun hf => ?_) (fun hf => ?_)
  · refine j_aload_n (pc' := 200) hX dX5_closes_199 rfl 0 rfl rfl ?_
    refine j_get (ci := 5) (pc' := 203) hX hin5 rfl 0 rfl 11 (by decide) hl_25 rfl dX5_closes_200 rfl ?_
    refine j_iload (pc' := 205) hX dX5_closes_203 2 rfl rfl ?_
    refine j_iald (pc' := 206) hX 6 rfl dX5_closes_205 hf rfl (fun hf => ?_)
    exact j_iret hX hR dX5_closes_206 ⟨_, _, rfl, hf, rfl⟩
  · refine j_iload (pc' := 196) hX dX5_closes_194 3 rfl rfl ?_
    refine j_goto (tgt := 206) hX dX5_closes_196 (by decide) ?_
    exact j_iret hX hR dX5_closes_206 ⟨_, _, rfl, hf, rfl⟩
def wp_X5_fewest (vd : Md) (p0 : Int32) (post : Int32 → Md → Prop) : Prop :=
  (∀ vd_1 : Md, vd_1 = md_thrown vd (0) → (wp_X5_isCourse p0 (fun r6 => ((r6 = 0 → (wp_X5_fails vd_1 1 (fun r23 u23_2 => post r23 u23_2))) ∧ (¬ r6 = 0 → (wp_X5_closes vd_1 p0 0 (fun r15 u15_3 => post r15 u15_3)))))))
theorem yoX5_fewest : yOk yX5_fewest 1 := by decide +kernel
set_option maxHeartbeats 4000000 in
set_option maxRecDepth 100000 in
theorem met_X5_fewest (l : Launch) (g : JG) (d0 : Nat) (d1 : Nat) (d2 : Nat) (d3 : Nat) (d4 : Nat) (d5 : Nat) (d6 : Nat) (vd : Md) (p0 : Int32) (post : Int32 → Md → Prop) (hf : wp_X5_fewest vd p0 post) : MetM l yX5_fewest wsX5_fewest ({ frames := 4, cells := 0, slots := 0, locals := 97 } : Room) [.ref d0, .int p0] g (MdW g d0 d1 d2 d3 d4 d5 d6 vd) mkI post (fun u : Md => (MdW g d0 d1 d2 d3 d4 d5 d6 u)) := by
  have hin5 : ∀ w ∈ u_ws RX5 TX5 12, w ∈ wsX5_fewest := by decide +kernel
  have hl_28 : Cond.fieldLink RX5 28 (TX5 6).1 (TX5 6).2.1 (TX5 6).2.2.1 ∈ wsX5_fewest := by decide +kernel
  refine enterM (own := RX5) (cc := cX5_fewest) (nL := 2) (ret := (some .int)) (lv := [(0, .ref d0), (1, .int p0)]) (by decide) rfl rfl (Nat.le_of_ble_eq_true rfl) rfl (fun X hX hW hR => ?_)
  unfold wp_X5_fewest at hf
  refine j_aload_n (pc' := 1) hX dX5_fewest_0 rfl 0 rfl rfl ?_
  refine j_iconst (pc' := 2) (v := 0) hX dX5_fewest_1 (by decide) rfl ?_
  obtain ⟨vd_1, evd_1⟩ : ∃ z : Md, z = md_thrown vd (0) := ⟨_, rfl⟩
  refine j_put (ci := 5) (pc' := 5) (ws' := (MdW g d0 d1 d2 d3 d4 d5 d6 vd_1)) hX hW hin5 tyX5_ok nmX5 rfl 0 rfl 6 (by decide) hl_28 rfl rfl rfl (Nat.le_of_ble_eq_true rfl) dX5_fewest_2 (by subst evd_1; rfl) rfl ?_
  replace hf := hf vd_1 evd_1
  refine j_iload_n (pc' := 6) hX dX5_fewest_5 rfl 1 rfl rfl ?_
  refine j_callSR (pc' := 9) (As := [.int p0]) (rest := []) (stk := fun r6 => [.int r6]) hX (fun l => met_X5_isCourse l g p0 _ hf) rfl gX5_fewest_X5_isCourse yoX5_isCourse rfl ⟨Nat.le_of_ble_eq_true rfl, Nat.le_of_ble_eq_true rfl⟩ ⟨⟨Nat.le_of_ble_eq_true rfl, Nat.le_of_ble_eq_true rfl⟩, rfl, rfl⟩ [] rfl (by decide) (Nat.le_of_ble_eq_true rfl) rfl (fun _ => rfl) dX5_fewest_6 rfl (fun r6 hf => ?_)
  refine j_if_eq (tgt := 21) (pc' := 12) hX dX5_fewest_9 (by decide) rfl hf (fun hf => ?_) (fun hf => ?_)
  · refine j_aload_n (pc' := 22) hX dX5_fewest_21 rfl 0 rfl rfl ?_
    refine j_iconst (pc' := 23) (v := 1) hX dX5_fewest_22 (by decide) rfl ?_
    refine j_callVM (ci := 5) (pc' := 26) (k' := 0) (n' := 0) (As := [.int 1]) (rest := []) (stk := fun r23 => [.int r23]) (ws' := fun u23_2 => (MdW g d0 d1 d2 d3 d4 d5 d6 u23_2)) (wr := ([] : va_W)) hX hW (fun l => met_X5_fails l g d0 d1 d2 d3 d4 d5 d6 vd_1 1 _ hf) rfl gX5_fewest_X5_fails yoX5_fails rfl ⟨Nat.le_of_ble_eq_true rfl, Nat.le_of_ble_eq_true rfl⟩ ⟨Nat.le_of_ble_eq_true rfl, Nat.le_of_ble_eq_true rfl, Nat.le_of_ble_eq_true rfl, Nat.le_of_ble_eq_true rfl⟩ 0 rfl rfl [0, 1, 2, 3, 4, 5, 6] [] [0, 1, 2, 3, 4, 5, 6] rfl (by decide) rfl (by decide) (by decide) (fun _ => rfl) (by decide) (Nat.le_of_ble_eq_true rfl) rfl (fun _ => rfl) dX5_fewest_23 rfl (fun r23 u23_2 hf => ?_)
    exact j_iret hX hR dX5_fewest_26 ⟨_, _, rfl, hf, rfl⟩
  · refine j_aload_n (pc' := 13) hX dX5_fewest_12 rfl 0 rfl rfl ?_
    refine j_iload_n (pc' := 14) hX dX5_fewest_13 rfl 1 rfl rfl ?_
    refine j_iconst (pc' := 15) (v := 0) hX dX5_fewest_14 (by decide) rfl ?_
    refine j_callVM (ci := 5) (pc' := 18) (k' := 0) (n' := 0) (As := [.int p0, .int 0]) (rest := []) (stk := fun r15 => [.int r15]) (ws' := fun u15_3 => (MdW g d0 d1 d2 d3 d4 d5 d6 u15_3)) (wr := ([] : va_W)) hX hW (fun l => met_X5_closes l g d0 d1 d2 d3 d4 d5 d6 vd_1 p0 0 _ hf) rfl gX5_fewest_X5_closes yoX5_closes rfl ⟨Nat.le_of_ble_eq_true rfl, Nat.le_of_ble_eq_true rfl⟩ ⟨Nat.le_of_ble_eq_true rfl, Nat.le_of_ble_eq_true rfl, Nat.le_of_ble_eq_true rfl, Nat.le_of_ble_eq_true rfl⟩ 0 rfl rfl [0, 1, 2, 3, 4, 5, 6] [] [0, 1, 2, 3, 4, 5, 6] rfl (by decide) rfl (by decide) (by decide) (fun _ => rfl) (by decide) (Nat.le_of_ble_eq_true rfl) rfl (fun _ => rfl) dX5_fewest_15 rfl (fun r15 u15_3 hf => ?_)
    refine j_goto (tgt := 26) hX dX5_fewest_18 (by decide) ?_
    exact j_iret hX hR dX5_fewest_26 ⟨_, _, rfl, hf, rfl⟩
def wp_X5_nextSize (vd : Md) (p0 : Int32) (post : Int32 → Md → Prop) : Prop :=
  (∀ vd_1 : Md, vd_1 = md_thrown vd (0) → (wp_X5_isCourse p0 (fun r6 => ((r6 = 0 → (wp_X5_fails vd_1 1 (fun r23 u23_2 => post r23 u23_2))) ∧ (¬ r6 = 0 → (wp_X5_closes vd_1 p0 1 (fun r15 u15_3 => post r15 u15_3)))))))
theorem yoX5_nextSize : yOk yX5_nextSize 1 := by decide +kernel
set_option maxHeartbeats 4000000 in
set_option maxRecDepth 100000 in
theorem met_X5_nextSize (l : Launch) (g : JG) (d0 : Nat) (d1 : Nat) (d2 : Nat) (d3 : Nat) (d4 : Nat) (d5 : Nat) (d6 : Nat) (vd : Md) (p0 : Int32) (post : Int32 → Md → Prop) (hf : wp_X5_nextSize vd p0 post) : MetM l yX5_nextSize wsX5_nextSize ({ frames := 4, cells := 0, slots := 0, locals := 97 } : Room) [.ref d0, .int p0] g (MdW g d0 d1 d2 d3 d4 d5 d6 vd) mkI post (fun u : Md => (MdW g d0 d1 d2 d3 d4 d5 d6 u)) := by
  have hin5 : ∀ w ∈ u_ws RX5 TX5 12, w ∈ wsX5_nextSize := by decide +kernel
  have hl_28 : Cond.fieldLink RX5 28 (TX5 6).1 (TX5 6).2.1 (TX5 6).2.2.1 ∈ wsX5_nextSize := by decide +kernel
  refine enterM (own := RX5) (cc := cX5_nextSize) (nL := 2) (ret := (some .int)) (lv := [(0, .ref d0), (1, .int p0)]) (by decide) rfl rfl (Nat.le_of_ble_eq_true rfl) rfl (fun X hX hW hR => ?_)
  unfold wp_X5_nextSize at hf
  refine j_aload_n (pc' := 1) hX dX5_nextSize_0 rfl 0 rfl rfl ?_
  refine j_iconst (pc' := 2) (v := 0) hX dX5_nextSize_1 (by decide) rfl ?_
  obtain ⟨vd_1, evd_1⟩ : ∃ z : Md, z = md_thrown vd (0) := ⟨_, rfl⟩
  refine j_put (ci := 5) (pc' := 5) (ws' := (MdW g d0 d1 d2 d3 d4 d5 d6 vd_1)) hX hW hin5 tyX5_ok nmX5 rfl 0 rfl 6 (by decide) hl_28 rfl rfl rfl (Nat.le_of_ble_eq_true rfl) dX5_nextSize_2 (by subst evd_1; rfl) rfl ?_
  replace hf := hf vd_1 evd_1
  refine j_iload_n (pc' := 6) hX dX5_nextSize_5 rfl 1 rfl rfl ?_
  refine j_callSR (pc' := 9) (As := [.int p0]) (rest := []) (stk := fun r6 => [.int r6]) hX (fun l => met_X5_isCourse l g p0 _ hf) rfl gX5_nextSize_X5_isCourse yoX5_isCourse rfl ⟨Nat.le_of_ble_eq_true rfl, Nat.le_of_ble_eq_true rfl⟩ ⟨⟨Nat.le_of_ble_eq_true rfl, Nat.le_of_ble_eq_true rfl⟩, rfl, rfl⟩ [] rfl (by decide) (Nat.le_of_ble_eq_true rfl) rfl (fun _ => rfl) dX5_nextSize_6 rfl (fun r6 hf => ?_)
  refine j_if_eq (tgt := 21) (pc' := 12) hX dX5_nextSize_9 (by decide) rfl hf (fun hf => ?_) (fun hf => ?_)
  · refine j_aload_n (pc' := 22) hX dX5_nextSize_21 rfl 0 rfl rfl ?_
    refine j_iconst (pc' := 23) (v := 1) hX dX5_nextSize_22 (by decide) rfl ?_
    refine j_callVM (ci := 5) (pc' := 26) (k' := 0) (n' := 0) (As := [.int 1]) (rest := []) (stk := fun r23 => [.int r23]) (ws' := fun u23_2 => (MdW g d0 d1 d2 d3 d4 d5 d6 u23_2)) (wr := ([] : va_W)) hX hW (fun l => met_X5_fails l g d0 d1 d2 d3 d4 d5 d6 vd_1 1 _ hf) rfl gX5_nextSize_X5_fails yoX5_fails rfl ⟨Nat.le_of_ble_eq_true rfl, Nat.le_of_ble_eq_true rfl⟩ ⟨Nat.le_of_ble_eq_true rfl, Nat.le_of_ble_eq_true rfl, Nat.le_of_ble_eq_true rfl, Nat.le_of_ble_eq_true rfl⟩ 0 rfl rfl [0, 1, 2, 3, 4, 5, 6] [] [0, 1, 2, 3, 4, 5, 6] rfl (by decide) rfl (by decide) (by decide) (fun _ => rfl) (by decide) (Nat.le_of_ble_eq_true rfl) rfl (fun _ => rfl) dX5_nextSize_23 rfl (fun r23 u23_2 hf => ?_)
    exact j_iret hX hR dX5_nextSize_26 ⟨_, _, rfl, hf, rfl⟩
  · refine j_aload_n (pc' := 13) hX dX5_nextSize_12 rfl 0 rfl rfl ?_
    refine j_iload_n (pc' := 14) hX dX5_nextSize_13 rfl 1 rfl rfl ?_
    refine j_iconst (pc' := 15) (v := 1) hX dX5_nextSize_14 (by decide) rfl ?_
    refine j_callVM (ci := 5) (pc' := 18) (k' := 0) (n' := 0) (As := [.int p0, .int 1]) (rest := []) (stk := fun r15 => [.int r15]) (ws' := fun u15_3 => (MdW g d0 d1 d2 d3 d4 d5 d6 u15_3)) (wr := ([] : va_W)) hX hW (fun l => met_X5_closes l g d0 d1 d2 d3 d4 d5 d6 vd_1 p0 1 _ hf) rfl gX5_nextSize_X5_closes yoX5_closes rfl ⟨Nat.le_of_ble_eq_true rfl, Nat.le_of_ble_eq_true rfl⟩ ⟨Nat.le_of_ble_eq_true rfl, Nat.le_of_ble_eq_true rfl, Nat.le_of_ble_eq_true rfl, Nat.le_of_ble_eq_true rfl⟩ 0 rfl rfl [0, 1, 2, 3, 4, 5, 6] [] [0, 1, 2, 3, 4, 5, 6] rfl (by decide) rfl (by decide) (by decide) (fun _ => rfl) (by decide) (Nat.le_of_ble_eq_true rfl) rfl (fun _ => rfl) dX5_nextSize_15 rfl (fun r15 u15_3 hf => ?_)
    refine j_goto (tgt := 26) hX dX5_nextSize_18 (by decide) ?_
    exact j_iret hX hR dX5_nextSize_26 ⟨_, _, rfl, hf, rfl⟩
def wp_X5_byFilling (vd : Md) (p0 : Int32) (p1 : Int32) (p2 : Int32) (post : Int32 → Md → Prop) : Prop :=
  (wp_X5_tries vd (fun u1_1 => (∀ vd_2 : Md, vd_2 = md_then u1_1 (upd u1_1.2.1 (1 : Int32).toNatClampNeg p1) → (wp_X5_fills vd_2.2.1 p0 (fun r16 u16_3 => ((p2 = 0 → (wp_X5_cells ((md_then vd_2 (u16_3)).2.1) p0 (fun r30 => (wp_X5_taken ((md_then vd_2 (u16_3)).2.1) p0 (fun r38 => post (r30 - r38) (md_then vd_2 (u16_3))))))) ∧ (¬ p2 = 0 → ((p2 = 1 → post r16 (md_then vd_2 (u16_3))) ∧ (¬ p2 = 1 → (wp_X5_meeting ((md_then vd_2 (u16_3)).2.1) p0 0 (fun r61 => post r61 (md_then vd_2 (u16_3)))))))))))))
theorem yoX5_byFilling : yOk yX5_byFilling 3 := by decide +kernel
set_option maxHeartbeats 4000000 in
set_option maxRecDepth 100000 in
theorem met_X5_byFilling (l : Launch) (g : JG) (d0 : Nat) (d1 : Nat) (d2 : Nat) (d3 : Nat) (d4 : Nat) (d5 : Nat) (d6 : Nat) (vd : Md) (p0 : Int32) (p1 : Int32) (p2 : Int32) (post : Int32 → Md → Prop) (hf : wp_X5_byFilling vd p0 p1 p2 post) : MetM l yX5_byFilling wsX5_byFilling ({ frames := 6, cells := 0, slots := 0, locals := 142 } : Room) [.ref d0, .int p0, .int p1, .int p2] g (MdW g d0 d1 d2 d3 d4 d5 d6 vd) mkI post (fun u : Md => (MdW g d0 d1 d2 d3 d4 d5 d6 u)) := by
  have hin5 : ∀ w ∈ u_ws RX5 TX5 12, w ∈ wsX5_byFilling := by decide +kernel
  have hl_13 : Cond.fieldLink RX5 13 (TX5 1).1 (TX5 1).2.1 (TX5 1).2.2.1 ∈ wsX5_byFilling := by decide +kernel
  refine enterM (own := RX5) (cc := cX5_byFilling) (nL := 5) (ret := (some .int)) (lv := [(0, .ref d0), (1, .int p0), (2, .int p1), (3, .int p2)]) (by decide) rfl rfl (Nat.le_of_ble_eq_true rfl) rfl (fun X hX hW hR => ?_)
  unfold wp_X5_byFilling at hf
  refine j_aload_n (pc' := 1) hX dX5_byFilling_0 rfl 0 rfl rfl ?_
  refine j_callVM (ci := 5) (pc' := 4) (k' := 0) (n' := 0) (As := []) (rest := []) (stk := fun _ => []) (ws' := fun u1_1 => (MdW g d0 d1 d2 d3 d4 d5 d6 u1_1)) (wr := ([] : va_W)) hX hW (fun l => met_X5_tries l g d0 d1 d2 d3 d4 d5 d6 vd _ hf) rfl gX5_byFilling_X5_tries yoX5_tries rfl ⟨Nat.le_of_ble_eq_true rfl, Nat.le_of_ble_eq_true rfl⟩ ⟨Nat.le_of_ble_eq_true rfl, Nat.le_of_ble_eq_true rfl, Nat.le_of_ble_eq_true rfl, Nat.le_of_ble_eq_true rfl⟩ 0 rfl rfl [0, 1, 2, 3, 4, 5, 6] [] [0, 1, 2, 3, 4, 5, 6] rfl (by decide) rfl (by decide) (by decide) (fun _ => rfl) (by decide) (Nat.le_of_ble_eq_true rfl) rfl (fun _ => rfl) dX5_byFilling_1 rfl (fun _ u1_1 hf => ?_)
  refine j_aload_n (pc' := 5) hX dX5_byFilling_4 rfl 0 rfl rfl ?_
  refine j_get (ci := 5) (pc' := 8) hX hin5 rfl 0 rfl 1 (by decide) hl_13 rfl dX5_byFilling_5 rfl ?_
  refine j_iconst (pc' := 9) (v := 1) hX dX5_byFilling_8 (by decide) rfl ?_
  refine j_iload_n (pc' := 10) hX dX5_byFilling_9 rfl 2 rfl rfl ?_
  obtain ⟨vd_2, evd_2⟩ : ∃ z : Md, z = md_then u1_1 (upd u1_1.2.1 (1 : Int32).toNatClampNeg p1) := ⟨_, rfl⟩
  refine j_iast (pc' := 11) (ws' := (MdW g d0 d1 d2 d3 d4 d5 d6 vd_2)) hX hW 2 rfl dX5_byFilling_10 ⟨by unfold vp_in; decide, hf⟩ (by subst evd_2; rfl) rfl (fun hf => ?_)
  replace hf := hf vd_2 evd_2
  refine j_aload_n (pc' := 12) hX dX5_byFilling_11 rfl 0 rfl rfl ?_
  refine j_get (ci := 5) (pc' := 15) hX hin5 rfl 0 rfl 1 (by decide) hl_13 rfl dX5_byFilling_12 rfl ?_
  refine j_iload_n (pc' := 16) hX dX5_byFilling_15 rfl 1 rfl rfl ?_
  refine j_callSM (pc' := 19) (k' := 0) (n' := 0) (As := [.ref d2, .int p0]) (rest := []) (stk := fun r16 => [.int r16]) (ws' := fun u16_3 => (MdW g d0 d1 d2 d3 d4 d5 d6 (md_then vd_2 (u16_3)))) (wr := (List.filterMap (fun i : Nat => (MdW g d0 d1 d2 d3 d4 d5 d6 vd_2)[i]?) [0, 1, 3, 4, 5, 6])) hX hW (fun l => met_X5_fills l g d2 vd_2.2.1 p0 _ hf) rfl gX5_byFilling_X5_fills yoX5_fills rfl ⟨Nat.le_of_ble_eq_true rfl, Nat.le_of_ble_eq_true rfl⟩ ⟨Nat.le_of_ble_eq_true rfl, Nat.le_of_ble_eq_true rfl, Nat.le_of_ble_eq_true rfl, Nat.le_of_ble_eq_true rfl⟩ [2] [0, 1, 3, 4, 5, 6] [0, 1, 6, 2, 3, 4, 5] rfl (by decide) rfl (by decide) (by decide) (fun _ => rfl) (by decide) (Nat.le_of_ble_eq_true rfl) rfl (fun _ => rfl) dX5_byFilling_16 rfl (fun r16 u16_3 hf => ?_)
  refine j_istore (pc' := 21) (lv' := [(4, .int r16), (0, .ref d0), (1, .int p0), (2, .int p1), (3, .int p2)]) hX dX5_byFilling_19 (by decide) rfl rfl ?_
  refine j_iload_n (pc' := 22) hX dX5_byFilling_21 rfl 4 rfl rfl ?_
  refine j_if_ne (tgt := 45) (pc' := 25) hX dX5_byFilling_22 (by decide) rfl hf (fun hf => ?_) (fun hf => ?_)
  · refine j_iload_n (pc' := 46) hX dX5_byFilling_45 rfl 4 rfl rfl ?_
    refine j_iconst (pc' := 47) (v := 1) hX dX5_byFilling_46 (by decide) rfl ?_
    refine j_icmp_ne (tgt := 55) (pc' := 50) hX dX5_byFilling_47 (by decide) rfl hf (fun hf => ?_) (fun hf => ?_)
    · refine j_aload_n (pc' := 56) hX dX5_byFilling_55 rfl 1 rfl rfl ?_
      refine j_get (ci := 5) (pc' := 59) hX hin5 rfl 0 rfl 1 (by decide) hl_13 rfl dX5_byFilling_56 rfl ?_
      refine j_iload_n (pc' := 60) hX dX5_byFilling_59 rfl 2 rfl rfl ?_
      refine j_iconst (pc' := 61) (v := 0) hX dX5_byFilling_60 (by decide) rfl ?_
      refine j_callSR (pc' := 64) (As := [.ref d2, .int p0, .int 0]) (rest := []) (stk := fun r61 => [.int r61]) hX (fun l => met_X5_meeting l g d2 ((md_then vd_2 (u16_3)).2.1) p0 0 _ hf) rfl gX5_byFilling_X5_meeting yoX5_meeting rfl ⟨Nat.le_of_ble_eq_true rfl, Nat.le_of_ble_eq_true rfl⟩ ⟨⟨Nat.le_of_ble_eq_true rfl, Nat.le_of_ble_eq_true rfl⟩, rfl, rfl⟩ [2] rfl (by decide) (Nat.le_of_ble_eq_true rfl) rfl (fun _ => rfl) dX5_byFilling_61 rfl (fun r61 hf => ?_)
      exact j_iret hX hR dX5_byFilling_64 ⟨_, _, rfl, hf, rfl⟩
    · refine j_iload (pc' := 52) hX dX5_byFilling_50 0 rfl rfl ?_
      refine j_goto (tgt := 64) hX dX5_byFilling_52 (by decide) ?_
      exact j_iret hX hR dX5_byFilling_64 ⟨_, _, rfl, hf, rfl⟩
  · refine j_aload_n (pc' := 26) hX dX5_byFilling_25 rfl 1 rfl rfl ?_
    refine j_get (ci := 5) (pc' := 29) hX hin5 rfl 0 rfl 1 (by decide) hl_13 rfl dX5_byFilling_26 rfl ?_
    refine j_iload_n (pc' := 30) hX dX5_byFilling_29 rfl 2 rfl rfl ?_
    refine j_callSR (pc' := 33) (As := [.ref d2, .int p0]) (rest := []) (stk := fun r30 => [.int r30]) hX (fun l => met_X5_cells l g d2 ((md_then vd_2 (u16_3)).2.1) p0 _ hf) rfl gX5_byFilling_X5_cells yoX5_cells rfl ⟨Nat.le_of_ble_eq_true rfl, Nat.le_of_ble_eq_true rfl⟩ ⟨⟨Nat.le_of_ble_eq_true rfl, Nat.le_of_ble_eq_true rfl⟩, rfl, rfl⟩ [2] rfl (by decide) (Nat.le_of_ble_eq_true rfl) rfl (fun _ => rfl) dX5_byFilling_30 rfl (fun r30 hf => ?_)
    refine j_aload_n (pc' := 34) hX dX5_byFilling_33 rfl 1 rfl rfl ?_
    refine j_get (ci := 5) (pc' := 37) hX hin5 rfl 0 rfl 1 (by decide) hl_13 rfl dX5_byFilling_34 rfl ?_
    refine j_iload_n (pc' := 38) hX dX5_byFilling_37 rfl 2 rfl rfl ?_
    refine j_callSR (pc' := 41) (As := [.ref d2, .int p0]) (rest := [.int r30]) (stk := fun r38 => [.int r38, .int r30]) hX (fun l => met_X5_taken l g d2 ((md_then vd_2 (u16_3)).2.1) p0 _ hf) rfl gX5_byFilling_X5_taken yoX5_taken rfl ⟨Nat.le_of_ble_eq_true rfl, Nat.le_of_ble_eq_true rfl⟩ ⟨⟨Nat.le_of_ble_eq_true rfl, Nat.le_of_ble_eq_true rfl⟩, rfl, rfl⟩ [2] rfl (by decide) (Nat.le_of_ble_eq_true rfl) rfl (fun _ => rfl) dX5_byFilling_38 rfl (fun r38 hf => ?_)
    refine j_isub (pc' := 42) hX dX5_byFilling_41 rfl ?_
    refine j_goto (tgt := 64) hX dX5_byFilling_42 (by decide) ?_
    exact j_iret hX hR dX5_byFilling_64 ⟨_, _, rfl, hf, rfl⟩
def wp_X5_ifFilled (vd : Md) (p0 : Int32) (p1 : Int32) (p2 : Int32) (post : Int32 → Md → Prop) : Prop :=
  (∀ vd_1 : Md, vd_1 = md_thrown vd (0) → (wp_X5_isCourse p0 (fun r6 => ((r6 = 0 → (wp_X5_fails vd_1 1 (fun r14 u14_2 => post r14 u14_2))) ∧ (¬ r6 = 0 → (wp_X5_in p1 0 2 (fun r21 => ((r21 = 0 → (wp_X5_fails vd_1 2 (fun r48 u48_3 => post r48 u48_3))) ∧ (¬ r21 = 0 → (wp_X5_in p2 0 2 (fun r30 => ((r30 = 0 → (wp_X5_fails vd_1 2 (fun r48 u48_4 => post r48 u48_4))) ∧ (¬ r30 = 0 → (wp_X5_byFilling vd_1 p0 p1 p2 (fun r40 u40_5 => post r40 u40_5)))))))))))))))
theorem yoX5_ifFilled : yOk yX5_ifFilled 3 := by decide +kernel
set_option maxHeartbeats 4000000 in
set_option maxRecDepth 100000 in
theorem met_X5_ifFilled (l : Launch) (g : JG) (d0 : Nat) (d1 : Nat) (d2 : Nat) (d3 : Nat) (d4 : Nat) (d5 : Nat) (d6 : Nat) (vd : Md) (p0 : Int32) (p1 : Int32) (p2 : Int32) (post : Int32 → Md → Prop) (hf : wp_X5_ifFilled vd p0 p1 p2 post) : MetM l yX5_ifFilled wsX5_ifFilled ({ frames := 7, cells := 0, slots := 0, locals := 166 } : Room) [.ref d0, .int p0, .int p1, .int p2] g (MdW g d0 d1 d2 d3 d4 d5 d6 vd) mkI post (fun u : Md => (MdW g d0 d1 d2 d3 d4 d5 d6 u)) := by
  have hin5 : ∀ w ∈ u_ws RX5 TX5 12, w ∈ wsX5_ifFilled := by decide +kernel
  have hl_28 : Cond.fieldLink RX5 28 (TX5 6).1 (TX5 6).2.1 (TX5 6).2.2.1 ∈ wsX5_ifFilled := by decide +kernel
  refine enterM (own := RX5) (cc := cX5_ifFilled) (nL := 4) (ret := (some .int)) (lv := [(0, .ref d0), (1, .int p0), (2, .int p1), (3, .int p2)]) (by decide) rfl rfl (Nat.le_of_ble_eq_true rfl) rfl (fun X hX hW hR => ?_)
  unfold wp_X5_ifFilled at hf
  refine j_aload_n (pc' := 1) hX dX5_ifFilled_0 rfl 0 rfl rfl ?_
  refine j_iconst (pc' := 2) (v := 0) hX dX5_ifFilled_1 (by decide) rfl ?_
  obtain ⟨vd_1, evd_1⟩ : ∃ z : Md, z = md_thrown vd (0) := ⟨_, rfl⟩
  refine j_put (ci := 5) (pc' := 5) (ws' := (MdW g d0 d1 d2 d3 d4 d5 d6 vd_1)) hX hW hin5 tyX5_ok nmX5 rfl 0 rfl 6 (by decide) hl_28 rfl rfl rfl (Nat.le_of_ble_eq_true rfl) dX5_ifFilled_2 (by subst evd_1; rfl) rfl ?_
  replace hf := hf vd_1 evd_1
  refine j_iload_n (pc' := 6) hX dX5_ifFilled_5 rfl 1 rfl rfl ?_
  refine j_callSR (pc' := 9) (As := [.int p0]) (rest := []) (stk := fun r6 => [.int r6]) hX (fun l => met_X5_isCourse l g p0 _ hf) rfl gX5_ifFilled_X5_isCourse yoX5_isCourse rfl ⟨Nat.le_of_ble_eq_true rfl, Nat.le_of_ble_eq_true rfl⟩ ⟨⟨Nat.le_of_ble_eq_true rfl, Nat.le_of_ble_eq_true rfl⟩, rfl, rfl⟩ [] rfl (by decide) (Nat.le_of_ble_eq_true rfl) rfl (fun _ => rfl) dX5_ifFilled_6 rfl (fun r6 hf => ?_)
  refine j_if_ne (tgt := 18) (pc' := 12) hX dX5_ifFilled_9 (by decide) rfl hf (fun hf => ?_) (fun hf => ?_)
  · refine j_iload_n (pc' := 19) hX dX5_ifFilled_18 rfl 2 rfl rfl ?_
    refine j_iconst (pc' := 20) (v := 0) hX dX5_ifFilled_19 (by decide) rfl ?_
    refine j_iconst (pc' := 21) (v := 2) hX dX5_ifFilled_20 (by decide) rfl ?_
    refine j_callSR (pc' := 24) (As := [.int p1, .int 0, .int 2]) (rest := []) (stk := fun r21 => [.int r21]) hX (fun l => met_X5_in l g p1 0 2 _ hf) rfl gX5_ifFilled_X5_in yoX5_in rfl ⟨Nat.le_of_ble_eq_true rfl, Nat.le_of_ble_eq_true rfl⟩ ⟨⟨Nat.le_of_ble_eq_true rfl, Nat.le_of_ble_eq_true rfl⟩, rfl, rfl⟩ [] rfl (by decide) (Nat.le_of_ble_eq_true rfl) rfl (fun _ => rfl) dX5_ifFilled_21 rfl (fun r21 hf => ?_)
    refine j_if_eq (tgt := 46) (pc' := 27) hX dX5_ifFilled_24 (by decide) rfl hf (fun hf => ?_) (fun hf => ?_)
    · refine j_aload_n (pc' := 47) hX dX5_ifFilled_46 rfl 0 rfl rfl ?_
      refine j_iconst (pc' := 48) (v := 2) hX dX5_ifFilled_47 (by decide) rfl ?_
      refine j_callVM (ci := 5) (pc' := 51) (k' := 0) (n' := 0) (As := [.int 2]) (rest := []) (stk := fun r48 => [.int r48]) (ws' := fun u48_3 => (MdW g d0 d1 d2 d3 d4 d5 d6 u48_3)) (wr := ([] : va_W)) hX hW (fun l => met_X5_fails l g d0 d1 d2 d3 d4 d5 d6 vd_1 2 _ hf) rfl gX5_ifFilled_X5_fails yoX5_fails rfl ⟨Nat.le_of_ble_eq_true rfl, Nat.le_of_ble_eq_true rfl⟩ ⟨Nat.le_of_ble_eq_true rfl, Nat.le_of_ble_eq_true rfl, Nat.le_of_ble_eq_true rfl, Nat.le_of_ble_eq_true rfl⟩ 0 rfl rfl [0, 1, 2, 3, 4, 5, 6] [] [0, 1, 2, 3, 4, 5, 6] rfl (by decide) rfl (by decide) (by decide) (fun _ => rfl) (by decide) (Nat.le_of_ble_eq_true rfl) rfl (fun _ => rfl) dX5_ifFilled_48 rfl (fun r48 u48_3 hf => ?_)
      exact j_iret hX hR dX5_ifFilled_51 ⟨_, _, rfl, hf, rfl⟩
    · refine j_iload_n (pc' := 28) hX dX5_ifFilled_27 rfl 3 rfl rfl ?_
      refine j_iconst (pc' := 29) (v := 0) hX dX5_ifFilled_28 (by decide) rfl ?_
      refine j_iconst (pc' := 30) (v := 2) hX dX5_ifFilled_29 (by decide) rfl ?_
      refine j_callSR (pc' := 33) (As := [.int p2, .int 0, .int 2]) (rest := []) (stk := fun r30 => [.int r30]) hX (fun l => met_X5_in l g p2 0 2 _ hf) rfl gX5_ifFilled_X5_in yoX5_in rfl ⟨Nat.le_of_ble_eq_true rfl, Nat.le_of_ble_eq_true rfl⟩ ⟨⟨Nat.le_of_ble_eq_true rfl, Nat.le_of_ble_eq_true rfl⟩, rfl, rfl⟩ [] rfl (by decide) (Nat.le_of_ble_eq_true rfl) rfl (fun _ => rfl) dX5_ifFilled_30 rfl (fun r30 hf => ?_)
      refine j_if_eq (tgt := 46) (pc' := 36) hX dX5_ifFilled_33 (by decide) rfl hf (fun hf => ?_) (fun hf => ?_)
      · refine j_aload_n (pc' := 47) hX dX5_ifFilled_46 rfl 0 rfl rfl ?_
        refine j_iconst (pc' := 48) (v := 2) hX dX5_ifFilled_47 (by decide) rfl ?_
        refine j_callVM (ci := 5) (pc' := 51) (k' := 0) (n' := 0) (As := [.int 2]) (rest := []) (stk := fun r48 => [.int r48]) (ws' := fun u48_4 => (MdW g d0 d1 d2 d3 d4 d5 d6 u48_4)) (wr := ([] : va_W)) hX hW (fun l => met_X5_fails l g d0 d1 d2 d3 d4 d5 d6 vd_1 2 _ hf) rfl gX5_ifFilled_X5_fails yoX5_fails rfl ⟨Nat.le_of_ble_eq_true rfl, Nat.le_of_ble_eq_true rfl⟩ ⟨Nat.le_of_ble_eq_true rfl, Nat.le_of_ble_eq_true rfl, Nat.le_of_ble_eq_true rfl, Nat.le_of_ble_eq_true rfl⟩ 0 rfl rfl [0, 1, 2, 3, 4, 5, 6] [] [0, 1, 2, 3, 4, 5, 6] rfl (by decide) rfl (by decide) (by decide) (fun _ => rfl) (by decide) (Nat.le_of_ble_eq_true rfl) rfl (fun _ => rfl) dX5_ifFilled_48 rfl (fun r48 u48_4 hf => ?_)
        exact j_iret hX hR dX5_ifFilled_51 ⟨_, _, rfl, hf, rfl⟩
      · refine j_aload_n (pc' := 37) hX dX5_ifFilled_36 rfl 0 rfl rfl ?_
        refine j_iload_n (pc' := 38) hX dX5_ifFilled_37 rfl 1 rfl rfl ?_
        refine j_iload_n (pc' := 39) hX dX5_ifFilled_38 rfl 2 rfl rfl ?_
        refine j_iload_n (pc' := 40) hX dX5_ifFilled_39 rfl 3 rfl rfl ?_
        refine j_callVM (ci := 5) (pc' := 43) (k' := 0) (n' := 0) (As := [.int p0, .int p1, .int p2]) (rest := []) (stk := fun r40 => [.int r40]) (ws' := fun u40_5 => (MdW g d0 d1 d2 d3 d4 d5 d6 u40_5)) (wr := ([] : va_W)) hX hW (fun l => met_X5_byFilling l g d0 d1 d2 d3 d4 d5 d6 vd_1 p0 p1 p2 _ hf) rfl gX5_ifFilled_X5_byFilling yoX5_byFilling rfl ⟨Nat.le_of_ble_eq_true rfl, Nat.le_of_ble_eq_true rfl⟩ ⟨Nat.le_of_ble_eq_true rfl, Nat.le_of_ble_eq_true rfl, Nat.le_of_ble_eq_true rfl, Nat.le_of_ble_eq_true rfl⟩ 0 rfl rfl [0, 1, 2, 3, 4, 5, 6] [] [0, 1, 2, 3, 4, 5, 6] rfl (by decide) rfl (by decide) (by decide) (fun _ => rfl) (by decide) (Nat.le_of_ble_eq_true rfl) rfl (fun _ => rfl) dX5_ifFilled_40 rfl (fun r40 u40_5 hf => ?_)
        refine j_goto (tgt := 51) hX dX5_ifFilled_43 (by decide) ?_
        exact j_iret hX hR dX5_ifFilled_51 ⟨_, _, rfl, hf, rfl⟩
  · refine j_aload_n (pc' := 13) hX dX5_ifFilled_12 rfl 0 rfl rfl ?_
    refine j_iconst (pc' := 14) (v := 1) hX dX5_ifFilled_13 (by decide) rfl ?_
    refine j_callVM (ci := 5) (pc' := 17) (k' := 0) (n' := 0) (As := [.int 1]) (rest := []) (stk := fun r14 => [.int r14]) (ws' := fun u14_2 => (MdW g d0 d1 d2 d3 d4 d5 d6 u14_2)) (wr := ([] : va_W)) hX hW (fun l => met_X5_fails l g d0 d1 d2 d3 d4 d5 d6 vd_1 1 _ hf) rfl gX5_ifFilled_X5_fails yoX5_fails rfl ⟨Nat.le_of_ble_eq_true rfl, Nat.le_of_ble_eq_true rfl⟩ ⟨Nat.le_of_ble_eq_true rfl, Nat.le_of_ble_eq_true rfl, Nat.le_of_ble_eq_true rfl, Nat.le_of_ble_eq_true rfl⟩ 0 rfl rfl [0, 1, 2, 3, 4, 5, 6] [] [0, 1, 2, 3, 4, 5, 6] rfl (by decide) rfl (by decide) (by decide) (fun _ => rfl) (by decide) (Nat.le_of_ble_eq_true rfl) rfl (fun _ => rfl) dX5_ifFilled_14 rfl (fun r14 u14_2 hf => ?_)
    exact j_iret hX hR dX5_ifFilled_17 ⟨_, _, rfl, hf, rfl⟩
def wp_X5_best_c100 (x5_12 : Int32) (KB12 : Int32 → Int32 → Int32 → Int32 → Int32 → Md → Prop) (y6_100 : Int32) (vd_100 : Md) : Prop :=
  (wp_X5_all vd_100.2.1 (fun r117 => KB12 x5_12 y6_100 (vd_100.2.1 (3 : Int32).toNatClampNeg) r117 (x5_12 + 1) vd_100))
def wp_X5_best_c76 (x1_12 : Int32) (x2_12 : Int32) (x3_12 : Int32) (x4_12 : Int32) (x5_12 : Int32) (KB12 : Int32 → Int32 → Int32 → Int32 → Int32 → Md → Prop) (y6_76 : Int32) (z0_76 : Int32) (vd_76 : Md) : Prop :=
  ((x1_12 = (-1) → wp_X5_best_c100 x5_12 KB12 y6_76 vd_76) ∧ (¬ x1_12 = (-1) → ((x2_12 < y6_76 → wp_X5_best_c100 x5_12 KB12 y6_76 vd_76) ∧ (¬ x2_12 < y6_76 → ((y6_76 = x2_12 → ((z0_76 = 0 → KB12 x1_12 x2_12 x3_12 x4_12 (x5_12 + 1) vd_76) ∧ (¬ z0_76 = 0 → wp_X5_best_c100 x5_12 KB12 y6_76 vd_76))) ∧ (¬ y6_76 = x2_12 → KB12 x1_12 x2_12 x3_12 x4_12 (x5_12 + 1) vd_76))))))
def wp_X5_best_L12  (K12_128 : Int32 → Md → Prop) : Nat → Int32 → Int32 → Int32 → Int32 → Int32 → Md → Prop
  | 0, _, _, _, _, _, _ => False
  | N12 + 1, x1_12, x2_12, x3_12, x4_12, x5_12, vd_12 =>
  ((3 ≤ x5_12 → K12_128 x1_12 vd_12) ∧ (¬ 3 ≤ x5_12 → (wp_X5_tries vd_12 (fun u19_1 => (∀ vd_2 : Md, vd_2 = md_then u19_1 (upd u19_1.2.1 (1 : Int32).toNatClampNeg x5_12) → (wp_X5_fillsAll vd_2.2.1 (fun r34 u34_3 => (((((md_then vd_2 (u34_3)).2.1) (3 : Int32).toNatClampNeg) < x3_12 → wp_X5_best_c76 x1_12 x2_12 x3_12 x4_12 x5_12 (wp_X5_best_L12 K12_128 N12) r34 1 (md_then vd_2 (u34_3))) ∧ (¬ (((md_then vd_2 (u34_3)).2.1) (3 : Int32).toNatClampNeg) < x3_12 → (((((md_then vd_2 (u34_3)).2.1) (3 : Int32).toNatClampNeg) = x3_12 → (wp_X5_all ((md_then vd_2 (u34_3)).2.1) (fun r63 => ((x4_12 ≤ r63 → wp_X5_best_c76 x1_12 x2_12 x3_12 x4_12 x5_12 (wp_X5_best_L12 K12_128 N12) r34 0 (md_then vd_2 (u34_3))) ∧ (¬ x4_12 ≤ r63 → wp_X5_best_c76 x1_12 x2_12 x3_12 x4_12 x5_12 (wp_X5_best_L12 K12_128 N12) r34 1 (md_then vd_2 (u34_3))))))) ∧ (¬ (((md_then vd_2 (u34_3)).2.1) (3 : Int32).toNatClampNeg) = x3_12 → wp_X5_best_c76 x1_12 x2_12 x3_12 x4_12 x5_12 (wp_X5_best_L12 K12_128 N12) r34 0 (md_then vd_2 (u34_3)))))))))))))
def wp_X5_best (vd : Md) (post : Int32 → Md → Prop) : Prop :=
  (∃ N : Nat, wp_X5_best_L12 (fun (e4 : Int32) (e5 : Md) => post e4 e5) N (-1) 0 0 0 0 vd)
theorem yoX5_best : yOk yX5_best 0 := by decide +kernel
set_option maxHeartbeats 4000000 in
set_option maxRecDepth 100000 in
theorem met_X5_best (l : Launch) (g : JG) (d0 : Nat) (d1 : Nat) (d2 : Nat) (d3 : Nat) (d4 : Nat) (d5 : Nat) (d6 : Nat) (vd : Md) (post : Int32 → Md → Prop) (hf : wp_X5_best vd post) : MetM l yX5_best wsX5_best ({ frames := 7, cells := 0, slots := 0, locals := 163 } : Room) [.ref d0] g (MdW g d0 d1 d2 d3 d4 d5 d6 vd) mkI post (fun u : Md => (MdW g d0 d1 d2 d3 d4 d5 d6 u)) := by
  have hin5 : ∀ w ∈ u_ws RX5 TX5 12, w ∈ wsX5_best := by decide +kernel
  have hl_13 : Cond.fieldLink RX5 13 (TX5 1).1 (TX5 1).2.1 (TX5 1).2.2.1 ∈ wsX5_best := by decide +kernel
  refine enterM (own := RX5) (cc := cX5_best) (nL := 8) (ret := (some .int)) (lv := [(0, .ref d0)]) (by decide) rfl rfl (Nat.le_of_ble_eq_true rfl) rfl (fun X hX hW hR => ?_)
  unfold wp_X5_best at hf
  refine j_iconst (pc' := 1) (v := (-1)) hX dX5_best_0 (by decide) rfl ?_
  refine j_istore_n (pc' := 2) (lv' := [(1, .int (-1)), (0, .ref d0)]) hX dX5_best_1 rfl (by decide) rfl rfl ?_
  refine j_iconst (pc' := 3) (v := 0) hX dX5_best_2 (by decide) rfl ?_
  refine j_istore_n (pc' := 4) (lv' := [(2, .int 0), (1, .int (-1)), (0, .ref d0)]) hX dX5_best_3 rfl (by decide) rfl rfl ?_
  refine j_iconst (pc' := 5) (v := 0) hX dX5_best_4 (by decide) rfl ?_
  refine j_istore_n (pc' := 6) (lv' := [(3, .int 0), (2, .int 0), (1, .int (-1)), (0, .ref d0)]) hX dX5_best_5 rfl (by decide) rfl rfl ?_
  refine j_iconst (pc' := 7) (v := 0) hX dX5_best_6 (by decide) rfl ?_
  refine j_istore (pc' := 9) (lv' := [(4, .int 0), (3, .int 0), (2, .int 0), (1, .int (-1)), (0, .ref d0)]) hX dX5_best_7 (by decide) rfl rfl ?_
  refine j_iconst (pc' := 10) (v := 0) hX dX5_best_9 (by decide) rfl ?_
  refine j_istore (pc' := 12) (lv' := [(5, .int 0), (4, .int 0), (3, .int 0), (2, .int 0), (1, .int (-1)), (0, .ref d0)]) hX dX5_best_10 (by decide) rfl rfl ?_
  obtain ⟨N12, hf⟩ := hf
  have L12 : ∀ (K12_128 : Int32 → Md → Prop), (∀ (x1_12 : Int32) (vd_12 : Md), K12_128 x1_12 vd_12 → J g X 0 0 (MdW g d0 d1 d2 d3 d4 d5 d6 vd_12) [(1, .int x1_12)] [] 128) → ∀ (N12 : Nat) (x1_12 : Int32) (x2_12 : Int32) (x3_12 : Int32) (x4_12 : Int32) (x5_12 : Int32) (vd_12 : Md), wp_X5_best_L12 K12_128 N12 x1_12 x2_12 x3_12 x4_12 x5_12 vd_12 → J g X 0 0 (MdW g d0 d1 d2 d3 d4 d5 d6 vd_12) [(0, .ref d0), (1, .int x1_12), (2, .int x2_12), (3, .int x3_12), (4, .int x4_12), (5, .int x5_12)] [] 12 := by
    intro K12_128 hK12_128 N12
    induction N12 with
    | zero => intro x1_12 x2_12 x3_12 x4_12 x5_12 vd_12 hf; exact False.elim hf
    | succ N12 ih12 =>
      intro x1_12 x2_12 x3_12 x4_12 x5_12 vd_12 hf
      have J100 : ∀ (y6_100 : Int32) (vd_100 : Md), wp_X5_best_c100 x5_12 (wp_X5_best_L12 K12_128 N12) y6_100 vd_100 → J g X 0 0 (MdW g d0 d1 d2 d3 d4 d5 d6 vd_100) [(0, .ref d0), (5, .int x5_12), (6, .int y6_100)] [] 100 := by
        intro y6_100 vd_100 hf
        refine j_iload (pc' := 102) hX dX5_best_100 1 rfl rfl ?_
        refine j_istore_n (pc' := 103) (lv' := [(1, .int x5_12), (0, .ref d0), (5, .int x5_12), (6, .int y6_100)]) hX dX5_best_102 rfl (by decide) rfl rfl ?_
        refine j_iload (pc' := 105) hX dX5_best_103 3 rfl rfl ?_
        refine j_istore_n (pc' := 106) (lv' := [(2, .int y6_100), (1, .int x5_12), (0, .ref d0), (5, .int x5_12), (6, .int y6_100)]) hX dX5_best_105 rfl (by decide) rfl rfl ?_
        refine j_aload_n (pc' := 107) hX dX5_best_106 rfl 2 rfl rfl ?_
        refine j_get (ci := 5) (pc' := 110) hX hin5 rfl 0 rfl 1 (by decide) hl_13 rfl dX5_best_107 rfl ?_
        refine j_iconst (pc' := 111) (v := 3) hX dX5_best_110 (by decide) rfl ?_
        refine j_iald (pc' := 112) hX 2 rfl dX5_best_111 ⟨by unfold vp_in; decide, hf⟩ rfl (fun hf => ?_)
        refine j_istore_n (pc' := 113) (lv' := [(3, .int (vd_100.2.1 (3 : Int32).toNatClampNeg)), (2, .int y6_100), (1, .int x5_12), (0, .ref d0), (5, .int x5_12), (6, .int y6_100)]) hX dX5_best_112 rfl (by decide) rfl rfl ?_
        refine j_aload_n (pc' := 114) hX dX5_best_113 rfl 3 rfl rfl ?_
        refine j_get (ci := 5) (pc' := 117) hX hin5 rfl 0 rfl 1 (by decide) hl_13 rfl dX5_best_114 rfl ?_
        refine j_callSR (pc' := 120) (As := [.ref d2]) (rest := []) (stk := fun r117 => [.int r117]) hX (fun l => met_X5_all l g d2 vd_100.2.1 _ hf) rfl gX5_best_X5_all yoX5_all rfl ⟨Nat.le_of_ble_eq_true rfl, Nat.le_of_ble_eq_true rfl⟩ ⟨⟨Nat.le_of_ble_eq_true rfl, Nat.le_of_ble_eq_true rfl⟩, rfl, rfl⟩ [2] rfl (by decide) (Nat.le_of_ble_eq_true rfl) rfl (fun _ => rfl) dX5_best_117 rfl (fun r117 hf => ?_)
        refine j_istore (pc' := 122) (lv' := [(4, .int r117), (3, .int (vd_100.2.1 (3 : Int32).toNatClampNeg)), (2, .int y6_100), (1, .int x5_12), (0, .ref d0), (5, .int x5_12), (6, .int y6_100)]) hX dX5_best_120 (by decide) rfl rfl ?_
        refine j_iinc (pc' := 125) (cst := 1) (v := (x5_12 + 1)) (lv' := [(5, .int (x5_12 + 1)), (4, .int r117), (3, .int (vd_100.2.1 (3 : Int32).toNatClampNeg)), (2, .int y6_100), (1, .int x5_12), (0, .ref d0), (6, .int y6_100)]) hX dX5_best_122 (by decide) rfl 5 rfl (by decide) rfl rfl ?_
        refine j_goto (tgt := 12) hX dX5_best_125 (by decide) ?_
        refine J_sub (lv' := [(0, .ref d0), (1, .int x5_12), (2, .int y6_100), (3, .int (vd_100.2.1 (3 : Int32).toNatClampNeg)), (4, .int r117), (5, .int (x5_12 + 1))]) [5, 4, 3, 2, 1, 0] rfl ?_
        exact ih12 x5_12 y6_100 (vd_100.2.1 (3 : Int32).toNatClampNeg) r117 (x5_12 + 1) vd_100 hf
      have J76 : ∀ (y6_76 : Int32) (z0_76 : Int32) (vd_76 : Md), wp_X5_best_c76 x1_12 x2_12 x3_12 x4_12 x5_12 (wp_X5_best_L12 K12_128 N12) y6_76 z0_76 vd_76 → J g X 0 0 (MdW g d0 d1 d2 d3 d4 d5 d6 vd_76) [(0, .ref d0), (1, .int x1_12), (2, .int x2_12), (3, .int x3_12), (4, .int x4_12), (5, .int x5_12), (6, .int y6_76)] [.int z0_76] 76 := by
        intro y6_76 z0_76 vd_76 hf
        refine j_istore (pc' := 78) (lv' := [(7, .int z0_76), (0, .ref d0), (1, .int x1_12), (2, .int x2_12), (3, .int x3_12), (4, .int x4_12), (5, .int x5_12), (6, .int y6_76)]) hX dX5_best_76 (by decide) rfl rfl ?_
        refine j_iload_n (pc' := 79) hX dX5_best_78 rfl 2 rfl rfl ?_
        refine j_iconst (pc' := 80) (v := (-1)) hX dX5_best_79 (by decide) rfl ?_
        refine j_icmp_eq (tgt := 100) (pc' := 83) hX dX5_best_80 (by decide) rfl hf (fun hf => ?_) (fun hf => ?_)
        · refine J_sub (lv' := [(0, .ref d0), (5, .int x5_12), (6, .int y6_76)]) [1, 6, 7] rfl ?_
          exact J100 y6_76 vd_76 hf
        · refine j_iload (pc' := 85) hX dX5_best_83 7 rfl rfl ?_
          refine j_iload_n (pc' := 86) hX dX5_best_85 rfl 3 rfl rfl ?_
          refine j_icmp_gt (tgt := 100) (pc' := 89) hX dX5_best_86 (by decide) rfl hf (fun hf => ?_) (fun hf => ?_)
          · refine J_sub (lv' := [(0, .ref d0), (5, .int x5_12), (6, .int y6_76)]) [1, 6, 7] rfl ?_
            exact J100 y6_76 vd_76 hf
          · refine j_iload (pc' := 91) hX dX5_best_89 7 rfl rfl ?_
            refine j_iload_n (pc' := 92) hX dX5_best_91 rfl 3 rfl rfl ?_
            refine j_icmp_ne (tgt := 122) (pc' := 95) hX dX5_best_92 (by decide) rfl hf (fun hf => ?_) (fun hf => ?_)
            · refine j_iinc (pc' := 125) (cst := 1) (v := (x5_12 + 1)) (lv' := [(5, .int (x5_12 + 1)), (7, .int z0_76), (0, .ref d0), (1, .int x1_12), (2, .int x2_12), (3, .int x3_12), (4, .int x4_12), (6, .int y6_76)]) hX dX5_best_122 (by decide) rfl 6 rfl (by decide) rfl rfl ?_
              refine j_goto (tgt := 12) hX dX5_best_125 (by decide) ?_
              refine J_sub (lv' := [(0, .ref d0), (1, .int x1_12), (2, .int x2_12), (3, .int x3_12), (4, .int x4_12), (5, .int (x5_12 + 1))]) [2, 3, 4, 5, 6, 0] rfl ?_
              exact ih12 x1_12 x2_12 x3_12 x4_12 (x5_12 + 1) vd_76 hf
            · refine j_iload (pc' := 97) hX dX5_best_95 0 rfl rfl ?_
              refine j_if_eq (tgt := 122) (pc' := 100) hX dX5_best_97 (by decide) rfl hf (fun hf => ?_) (fun hf => ?_)
              · refine j_iinc (pc' := 125) (cst := 1) (v := (x5_12 + 1)) (lv' := [(5, .int (x5_12 + 1)), (7, .int z0_76), (0, .ref d0), (1, .int x1_12), (2, .int x2_12), (3, .int x3_12), (4, .int x4_12), (6, .int y6_76)]) hX dX5_best_122 (by decide) rfl 6 rfl (by decide) rfl rfl ?_
                refine j_goto (tgt := 12) hX dX5_best_125 (by decide) ?_
                refine J_sub (lv' := [(0, .ref d0), (1, .int x1_12), (2, .int x2_12), (3, .int x3_12), (4, .int x4_12), (5, .int (x5_12 + 1))]) [2, 3, 4, 5, 6, 0] rfl ?_
                exact ih12 x1_12 x2_12 x3_12 x4_12 (x5_12 + 1) vd_76 hf
              · refine J_sub (lv' := [(0, .ref d0), (5, .int x5_12), (6, .int y6_76)]) [1, 6, 7] rfl ?_
                exact J100 y6_76 vd_76 hf
      refine j_iload (pc' := 14) hX dX5_best_12 5 rfl rfl ?_
      refine j_iconst (pc' := 15) (v := 3) hX dX5_best_14 (by decide) rfl ?_
      refine j_icmp_ge (tgt := 128) (pc' := 18) hX dX5_best_15 (by decide) rfl hf (fun hf => ?_) (fun hf => ?_)
      · refine J_sub (lv' := [(1, .int x1_12)]) [1] rfl ?_
        exact hK12_128 x1_12 vd_12 hf
      · refine j_aload_n (pc' := 19) hX dX5_best_18 rfl 0 rfl rfl ?_
        refine j_callVM (ci := 5) (pc' := 22) (k' := 0) (n' := 0) (As := []) (rest := []) (stk := fun _ => []) (ws' := fun u19_1 => (MdW g d0 d1 d2 d3 d4 d5 d6 u19_1)) (wr := ([] : va_W)) hX hW (fun l => met_X5_tries l g d0 d1 d2 d3 d4 d5 d6 vd_12 _ hf) rfl gX5_best_X5_tries yoX5_tries rfl ⟨Nat.le_of_ble_eq_true rfl, Nat.le_of_ble_eq_true rfl⟩ ⟨Nat.le_of_ble_eq_true rfl, Nat.le_of_ble_eq_true rfl, Nat.le_of_ble_eq_true rfl, Nat.le_of_ble_eq_true rfl⟩ 0 rfl rfl [0, 1, 2, 3, 4, 5, 6] [] [0, 1, 2, 3, 4, 5, 6] rfl (by decide) rfl (by decide) (by decide) (fun _ => rfl) (by decide) (Nat.le_of_ble_eq_true rfl) rfl (fun _ => rfl) dX5_best_19 rfl (fun _ u19_1 hf => ?_)
        refine j_aload_n (pc' := 23) hX dX5_best_22 rfl 0 rfl rfl ?_
        refine j_get (ci := 5) (pc' := 26) hX hin5 rfl 0 rfl 1 (by decide) hl_13 rfl dX5_best_23 rfl ?_
        refine j_iconst (pc' := 27) (v := 1) hX dX5_best_26 (by decide) rfl ?_
        refine j_iload (pc' := 29) hX dX5_best_27 5 rfl rfl ?_
        obtain ⟨vd_2, evd_2⟩ : ∃ z : Md, z = md_then u19_1 (upd u19_1.2.1 (1 : Int32).toNatClampNeg x5_12) := ⟨_, rfl⟩
        refine j_iast (pc' := 30) (ws' := (MdW g d0 d1 d2 d3 d4 d5 d6 vd_2)) hX hW 2 rfl dX5_best_29 ⟨by unfold vp_in; decide, hf⟩ (by subst evd_2; rfl) rfl (fun hf => ?_)
        replace hf := hf vd_2 evd_2
        refine j_aload_n (pc' := 31) hX dX5_best_30 rfl 0 rfl rfl ?_
        refine j_get (ci := 5) (pc' := 34) hX hin5 rfl 0 rfl 1 (by decide) hl_13 rfl dX5_best_31 rfl ?_
        refine j_callSM (pc' := 37) (k' := 0) (n' := 0) (As := [.ref d2]) (rest := []) (stk := fun r34 => [.int r34]) (ws' := fun u34_3 => (MdW g d0 d1 d2 d3 d4 d5 d6 (md_then vd_2 (u34_3)))) (wr := (List.filterMap (fun i : Nat => (MdW g d0 d1 d2 d3 d4 d5 d6 vd_2)[i]?) [0, 1, 3, 4, 5, 6])) hX hW (fun l => met_X5_fillsAll l g d2 vd_2.2.1 _ hf) rfl gX5_best_X5_fillsAll yoX5_fillsAll rfl ⟨Nat.le_of_ble_eq_true rfl, Nat.le_of_ble_eq_true rfl⟩ ⟨Nat.le_of_ble_eq_true rfl, Nat.le_of_ble_eq_true rfl, Nat.le_of_ble_eq_true rfl, Nat.le_of_ble_eq_true rfl⟩ [2] [0, 1, 3, 4, 5, 6] [0, 1, 6, 2, 3, 4, 5] rfl (by decide) rfl (by decide) (by decide) (fun _ => rfl) (by decide) (Nat.le_of_ble_eq_true rfl) rfl (fun _ => rfl) dX5_best_34 rfl (fun r34 u34_3 hf => ?_)
        refine j_istore (pc' := 39) (lv' := [(6, .int r34), (0, .ref d0), (1, .int x1_12), (2, .int x2_12), (3, .int x3_12), (4, .int x4_12), (5, .int x5_12)]) hX dX5_best_37 (by decide) rfl rfl ?_
        refine j_aload_n (pc' := 40) hX dX5_best_39 rfl 1 rfl rfl ?_
        refine j_get (ci := 5) (pc' := 43) hX hin5 rfl 0 rfl 1 (by decide) hl_13 rfl dX5_best_40 rfl ?_
        refine j_iconst (pc' := 44) (v := 3) hX dX5_best_43 (by decide) rfl ?_
        refine j_iald (pc' := 45) hX 2 rfl dX5_best_44 ⟨by unfold vp_in; decide, hf⟩ rfl (fun hf => ?_)
        refine j_iload_n (pc' := 46) hX dX5_best_45 rfl 4 rfl rfl ?_
        refine j_icmp_lt (tgt := 71) (pc' := 49) hX dX5_best_46 (by decide) rfl hf (fun hf => ?_) (fun hf => ?_)
        · refine j_iconst (pc' := 72) (v := 1) hX dX5_best_71 (by decide) rfl ?_
          refine j_goto (tgt := 76) hX dX5_best_72 (by decide) ?_
          refine J_sub (lv' := [(0, .ref d0), (1, .int x1_12), (2, .int x2_12), (3, .int x3_12), (4, .int x4_12), (5, .int x5_12), (6, .int r34)]) [1, 2, 3, 4, 5, 6, 0] rfl ?_
          exact J76 r34 1 (md_then vd_2 (u34_3)) hf
        · refine j_aload_n (pc' := 50) hX dX5_best_49 rfl 1 rfl rfl ?_
          refine j_get (ci := 5) (pc' := 53) hX hin5 rfl 0 rfl 1 (by decide) hl_13 rfl dX5_best_50 rfl ?_
          refine j_iconst (pc' := 54) (v := 3) hX dX5_best_53 (by decide) rfl ?_
          refine j_iald (pc' := 55) hX 2 rfl dX5_best_54 ⟨by unfold vp_in; decide, hf⟩ rfl (fun hf => ?_)
          refine j_iload_n (pc' := 56) hX dX5_best_55 rfl 4 rfl rfl ?_
          refine j_icmp_ne (tgt := 75) (pc' := 59) hX dX5_best_56 (by decide) rfl hf (fun hf => ?_) (fun hf => ?_)
          · refine j_iconst (pc' := 76) (v := 0) hX dX5_best_75 (by decide) rfl ?_
            refine J_sub (lv' := [(0, .ref d0), (1, .int x1_12), (2, .int x2_12), (3, .int x3_12), (4, .int x4_12), (5, .int x5_12), (6, .int r34)]) [1, 2, 3, 4, 5, 6, 0] rfl ?_
            exact J76 r34 0 (md_then vd_2 (u34_3)) hf
          · refine j_aload_n (pc' := 60) hX dX5_best_59 rfl 1 rfl rfl ?_
            refine j_get (ci := 5) (pc' := 63) hX hin5 rfl 0 rfl 1 (by decide) hl_13 rfl dX5_best_60 rfl ?_
            refine j_callSR (pc' := 66) (As := [.ref d2]) (rest := []) (stk := fun r63 => [.int r63]) hX (fun l => met_X5_all l g d2 ((md_then vd_2 (u34_3)).2.1) _ hf) rfl gX5_best_X5_all yoX5_all rfl ⟨Nat.le_of_ble_eq_true rfl, Nat.le_of_ble_eq_true rfl⟩ ⟨⟨Nat.le_of_ble_eq_true rfl, Nat.le_of_ble_eq_true rfl⟩, rfl, rfl⟩ [2] rfl (by decide) (Nat.le_of_ble_eq_true rfl) rfl (fun _ => rfl) dX5_best_63 rfl (fun r63 hf => ?_)
            refine j_iload (pc' := 68) hX dX5_best_66 5 rfl rfl ?_
            refine j_icmp_ge (tgt := 75) (pc' := 71) hX dX5_best_68 (by decide) rfl hf (fun hf => ?_) (fun hf => ?_)
            · refine j_iconst (pc' := 76) (v := 0) hX dX5_best_75 (by decide) rfl ?_
              refine J_sub (lv' := [(0, .ref d0), (1, .int x1_12), (2, .int x2_12), (3, .int x3_12), (4, .int x4_12), (5, .int x5_12), (6, .int r34)]) [1, 2, 3, 4, 5, 6, 0] rfl ?_
              exact J76 r34 0 (md_then vd_2 (u34_3)) hf
            · refine j_iconst (pc' := 72) (v := 1) hX dX5_best_71 (by decide) rfl ?_
              refine j_goto (tgt := 76) hX dX5_best_72 (by decide) ?_
              refine J_sub (lv' := [(0, .ref d0), (1, .int x1_12), (2, .int x2_12), (3, .int x3_12), (4, .int x4_12), (5, .int x5_12), (6, .int r34)]) [1, 2, 3, 4, 5, 6, 0] rfl ?_
              exact J76 r34 1 (md_then vd_2 (u34_3)) hf
  refine J_sub (lv' := [(0, .ref d0), (1, .int (-1)), (2, .int 0), (3, .int 0), (4, .int 0), (5, .int 0)]) [5, 4, 3, 2, 1, 0] rfl ?_
  refine L12 _ (fun e4 e5 hf => ?_) N12 (-1) 0 0 0 0 vd hf
  refine j_iload_n (pc' := 129) hX dX5_best_128 rfl 0 rfl rfl ?_
  exact j_iret hX hR dX5_best_129 ⟨_, _, rfl, hf, rfl⟩
def wp_X5_bestRule (vd : Md) (post : Int32 → Md → Prop) : Prop :=
  (∀ vd_1 : Md, vd_1 = md_thrown vd (0) → (wp_X5_best vd_1 (fun r6 u6_2 => post r6 u6_2)))
theorem yoX5_bestRule : yOk yX5_bestRule 0 := by decide +kernel
set_option maxHeartbeats 4000000 in
set_option maxRecDepth 100000 in
theorem met_X5_bestRule (l : Launch) (g : JG) (d0 : Nat) (d1 : Nat) (d2 : Nat) (d3 : Nat) (d4 : Nat) (d5 : Nat) (d6 : Nat) (vd : Md) (post : Int32 → Md → Prop) (hf : wp_X5_bestRule vd post) : MetM l yX5_bestRule wsX5_bestRule ({ frames := 8, cells := 0, slots := 0, locals := 190 } : Room) [.ref d0] g (MdW g d0 d1 d2 d3 d4 d5 d6 vd) mkI post (fun u : Md => (MdW g d0 d1 d2 d3 d4 d5 d6 u)) := by
  have hin5 : ∀ w ∈ u_ws RX5 TX5 12, w ∈ wsX5_bestRule := by decide +kernel
  have hl_28 : Cond.fieldLink RX5 28 (TX5 6).1 (TX5 6).2.1 (TX5 6).2.2.1 ∈ wsX5_bestRule := by decide +kernel
  refine enterM (own := RX5) (cc := cX5_bestRule) (nL := 1) (ret := (some .int)) (lv := [(0, .ref d0)]) (by decide) rfl rfl (Nat.le_of_ble_eq_true rfl) rfl (fun X hX hW hR => ?_)
  unfold wp_X5_bestRule at hf
  refine j_aload_n (pc' := 1) hX dX5_bestRule_0 rfl 0 rfl rfl ?_
  refine j_iconst (pc' := 2) (v := 0) hX dX5_bestRule_1 (by decide) rfl ?_
  obtain ⟨vd_1, evd_1⟩ : ∃ z : Md, z = md_thrown vd (0) := ⟨_, rfl⟩
  refine j_put (ci := 5) (pc' := 5) (ws' := (MdW g d0 d1 d2 d3 d4 d5 d6 vd_1)) hX hW hin5 tyX5_ok nmX5 rfl 0 rfl 6 (by decide) hl_28 rfl rfl rfl (Nat.le_of_ble_eq_true rfl) dX5_bestRule_2 (by subst evd_1; rfl) rfl ?_
  replace hf := hf vd_1 evd_1
  refine j_aload_n (pc' := 6) hX dX5_bestRule_5 rfl 0 rfl rfl ?_
  refine j_callVM (ci := 5) (pc' := 9) (k' := 0) (n' := 0) (As := []) (rest := []) (stk := fun r6 => [.int r6]) (ws' := fun u6_2 => (MdW g d0 d1 d2 d3 d4 d5 d6 u6_2)) (wr := ([] : va_W)) hX hW (fun l => met_X5_best l g d0 d1 d2 d3 d4 d5 d6 vd_1 _ hf) rfl gX5_bestRule_X5_best yoX5_best rfl ⟨Nat.le_of_ble_eq_true rfl, Nat.le_of_ble_eq_true rfl⟩ ⟨Nat.le_of_ble_eq_true rfl, Nat.le_of_ble_eq_true rfl, Nat.le_of_ble_eq_true rfl, Nat.le_of_ble_eq_true rfl⟩ 0 rfl rfl [0, 1, 2, 3, 4, 5, 6] [] [0, 1, 2, 3, 4, 5, 6] rfl (by decide) rfl (by decide) (by decide) (fun _ => rfl) (by decide) (Nat.le_of_ble_eq_true rfl) rfl (fun _ => rfl) dX5_bestRule_6 rfl (fun r6 u6_2 hf => ?_)
  exact j_iret hX hR dX5_bestRule_9 ⟨_, _, rfl, hf, rfl⟩
def wp_X5_laid_L6 (vd : Md) (K6_40 : Int32 → Int32 → Prop) : Nat → Int32 → Int32 → Int32 → Prop
  | 0, _, _, _ => False
  | N6 + 1, x1_6, x2_6, x3_6 =>
  ((6 ≤ x3_6 → K6_40 x1_6 x2_6) ∧ (¬ 6 ≤ x3_6 → (wp_X5_taken vd.1 x3_6 (fun r18 => (wp_X5_cells vd.1 x3_6 (fun r29 => (wp_X5_laid_L6 vd K6_40 N6) (x1_6 + r18) (x2_6 + r29) (x3_6 + 1)))))))
def wp_X5_laid (vd : Md) (post : UInt64 → Prop) : Prop :=
  (∃ N : Nat, wp_X5_laid_L6 vd (fun (e1 : Int32) (e2 : Int32) => (vf_n64 (FP.ddiv (FP.i2d e1) (FP.i2d e2)) ∧ post (FP.ddiv (FP.i2d e1) (FP.i2d e2)))) N 0 0 0)
theorem yoX5_laid : yOk yX5_laid 0 := by decide +kernel
set_option maxHeartbeats 4000000 in
set_option maxRecDepth 100000 in
theorem met_X5_laid (l : Launch) (g : JG) (d0 : Nat) (d1 : Nat) (d2 : Nat) (d3 : Nat) (d4 : Nat) (d5 : Nat) (d6 : Nat) (vd : Md) (post : UInt64 → Prop) (hf : wp_X5_laid vd post) : MetR l yX5_laid wsX5_laid ({ frames := 2, cells := 0, slots := 0, locals := 45 } : Room) [.ref d0] g (MdW g d0 d1 d2 d3 d4 d5 d6 vd) mkD post := by
  have hin5 : ∀ w ∈ u_ws RX5 TX5 12, w ∈ wsX5_laid := by decide +kernel
  have hl_7 : Cond.fieldLink RX5 7 (TX5 0).1 (TX5 0).2.1 (TX5 0).2.2.1 ∈ wsX5_laid := by decide +kernel
  refine enterR (own := RX5) (cc := cX5_laid) (nL := 4) (ret := (some .double)) (lv := [(0, .ref d0)]) (by decide) rfl rfl (Nat.le_of_ble_eq_true rfl) rfl (fun X hX hR => ?_)
  unfold wp_X5_laid at hf
  refine j_iconst (pc' := 1) (v := 0) hX dX5_laid_0 (by decide) rfl ?_
  refine j_istore_n (pc' := 2) (lv' := [(1, .int 0), (0, .ref d0)]) hX dX5_laid_1 rfl (by decide) rfl rfl ?_
  refine j_iconst (pc' := 3) (v := 0) hX dX5_laid_2 (by decide) rfl ?_
  refine j_istore_n (pc' := 4) (lv' := [(2, .int 0), (1, .int 0), (0, .ref d0)]) hX dX5_laid_3 rfl (by decide) rfl rfl ?_
  refine j_iconst (pc' := 5) (v := 0) hX dX5_laid_4 (by decide) rfl ?_
  refine j_istore_n (pc' := 6) (lv' := [(3, .int 0), (2, .int 0), (1, .int 0), (0, .ref d0)]) hX dX5_laid_5 rfl (by decide) rfl rfl ?_
  obtain ⟨N6, hf⟩ := hf
  have L6 : ∀ (K6_40 : Int32 → Int32 → Prop), (∀ (x1_6 : Int32) (x2_6 : Int32), K6_40 x1_6 x2_6 → J g X 0 0 (MdW g d0 d1 d2 d3 d4 d5 d6 vd) [(1, .int x1_6), (2, .int x2_6)] [] 40) → ∀ (N6 : Nat) (x1_6 : Int32) (x2_6 : Int32) (x3_6 : Int32), wp_X5_laid_L6 vd K6_40 N6 x1_6 x2_6 x3_6 → J g X 0 0 (MdW g d0 d1 d2 d3 d4 d5 d6 vd) [(0, .ref d0), (1, .int x1_6), (2, .int x2_6), (3, .int x3_6)] [] 6 := by
    intro K6_40 hK6_40 N6
    induction N6 with
    | zero => intro x1_6 x2_6 x3_6 hf; exact False.elim hf
    | succ N6 ih6 =>
      intro x1_6 x2_6 x3_6 hf
      refine j_iload_n (pc' := 7) hX dX5_laid_6 rfl 3 rfl rfl ?_
      refine j_bipush (pc' := 9) (v := 6) hX dX5_laid_7 (by decide) rfl ?_
      refine j_icmp_ge (tgt := 40) (pc' := 12) hX dX5_laid_9 (by decide) rfl hf (fun hf => ?_) (fun hf => ?_)
      · refine J_sub (lv' := [(1, .int x1_6), (2, .int x2_6)]) [1, 2] rfl ?_
        exact hK6_40 x1_6 x2_6 hf
      · refine j_iload_n (pc' := 13) hX dX5_laid_12 rfl 1 rfl rfl ?_
        refine j_aload_n (pc' := 14) hX dX5_laid_13 rfl 0 rfl rfl ?_
        refine j_get (ci := 5) (pc' := 17) hX hin5 rfl 0 rfl 0 (by decide) hl_7 rfl dX5_laid_14 rfl ?_
        refine j_iload_n (pc' := 18) hX dX5_laid_17 rfl 3 rfl rfl ?_
        refine j_callSR (pc' := 21) (As := [.ref d1, .int x3_6]) (rest := [.int x1_6]) (stk := fun r18 => [.int r18, .int x1_6]) hX (fun l => met_X5_taken l g d1 vd.1 x3_6 _ hf) rfl gX5_laid_X5_taken yoX5_taken rfl ⟨Nat.le_of_ble_eq_true rfl, Nat.le_of_ble_eq_true rfl⟩ ⟨⟨Nat.le_of_ble_eq_true rfl, Nat.le_of_ble_eq_true rfl⟩, rfl, rfl⟩ [1] rfl (by decide) (Nat.le_of_ble_eq_true rfl) rfl (fun _ => rfl) dX5_laid_18 rfl (fun r18 hf => ?_)
        refine j_iadd (pc' := 22) hX dX5_laid_21 rfl ?_
        refine j_istore_n (pc' := 23) (lv' := [(1, .int (x1_6 + r18)), (0, .ref d0), (2, .int x2_6), (3, .int x3_6)]) hX dX5_laid_22 rfl (by decide) rfl rfl ?_
        refine j_iload_n (pc' := 24) hX dX5_laid_23 rfl 2 rfl rfl ?_
        refine j_aload_n (pc' := 25) hX dX5_laid_24 rfl 1 rfl rfl ?_
        refine j_get (ci := 5) (pc' := 28) hX hin5 rfl 0 rfl 0 (by decide) hl_7 rfl dX5_laid_25 rfl ?_
        refine j_iload_n (pc' := 29) hX dX5_laid_28 rfl 3 rfl rfl ?_
        refine j_callSR (pc' := 32) (As := [.ref d1, .int x3_6]) (rest := [.int x2_6]) (stk := fun r29 => [.int r29, .int x2_6]) hX (fun l => met_X5_cells l g d1 vd.1 x3_6 _ hf) rfl gX5_laid_X5_cells yoX5_cells rfl ⟨Nat.le_of_ble_eq_true rfl, Nat.le_of_ble_eq_true rfl⟩ ⟨⟨Nat.le_of_ble_eq_true rfl, Nat.le_of_ble_eq_true rfl⟩, rfl, rfl⟩ [1] rfl (by decide) (Nat.le_of_ble_eq_true rfl) rfl (fun _ => rfl) dX5_laid_29 rfl (fun r29 hf => ?_)
        refine j_iadd (pc' := 33) hX dX5_laid_32 rfl ?_
        refine j_istore_n (pc' := 34) (lv' := [(2, .int (x2_6 + r29)), (1, .int (x1_6 + r18)), (0, .ref d0), (3, .int x3_6)]) hX dX5_laid_33 rfl (by decide) rfl rfl ?_
        refine j_iinc (pc' := 37) (cst := 1) (v := (x3_6 + 1)) (lv' := [(3, .int (x3_6 + 1)), (2, .int (x2_6 + r29)), (1, .int (x1_6 + r18)), (0, .ref d0)]) hX dX5_laid_34 (by decide) rfl 3 rfl (by decide) rfl rfl ?_
        refine j_goto (tgt := 6) hX dX5_laid_37 (by decide) ?_
        refine J_sub (lv' := [(0, .ref d0), (1, .int (x1_6 + r18)), (2, .int (x2_6 + r29)), (3, .int (x3_6 + 1))]) [3, 2, 1, 0] rfl ?_
        exact ih6 (x1_6 + r18) (x2_6 + r29) (x3_6 + 1) hf
  refine J_sub (lv' := [(0, .ref d0), (1, .int 0), (2, .int 0), (3, .int 0)]) [3, 2, 1, 0] rfl ?_
  refine L6 _ (fun e1 e2 hf => ?_) N6 0 0 0 hf
  refine j_iload_n (pc' := 41) hX dX5_laid_40 rfl 0 rfl rfl ?_
  refine j_i2d (pc' := 42) hX dX5_laid_41 rfl ?_
  refine j_iload_n (pc' := 43) hX dX5_laid_42 rfl 1 rfl rfl ?_
  refine j_i2d (pc' := 44) hX dX5_laid_43 rfl ?_
  refine j_ddiv (pc' := 45) hX dX5_laid_44 hf rfl (fun hf => ?_)
  exact j_dret hX hR dX5_laid_45 ⟨_, rfl, hf⟩
def wp_X5_share (vd : Md) (post : UInt64 → Md → Prop) : Prop :=
  (∀ vd_1 : Md, vd_1 = md_thrown vd (0) → (wp_X5_laid vd_1 (fun r6 => post r6 vd_1)))
theorem yoX5_share : yOk yX5_share 0 := by decide +kernel
set_option maxHeartbeats 4000000 in
set_option maxRecDepth 100000 in
theorem met_X5_share (l : Launch) (g : JG) (d0 : Nat) (d1 : Nat) (d2 : Nat) (d3 : Nat) (d4 : Nat) (d5 : Nat) (d6 : Nat) (vd : Md) (post : UInt64 → Md → Prop) (hf : wp_X5_share vd post) : MetM l yX5_share wsX5_share ({ frames := 3, cells := 0, slots := 0, locals := 68 } : Room) [.ref d0] g (MdW g d0 d1 d2 d3 d4 d5 d6 vd) mkD post (fun u : Md => (MdW g d0 d1 d2 d3 d4 d5 d6 u)) := by
  have hin5 : ∀ w ∈ u_ws RX5 TX5 12, w ∈ wsX5_share := by decide +kernel
  have hl_28 : Cond.fieldLink RX5 28 (TX5 6).1 (TX5 6).2.1 (TX5 6).2.2.1 ∈ wsX5_share := by decide +kernel
  refine enterM (own := RX5) (cc := cX5_share) (nL := 1) (ret := (some .double)) (lv := [(0, .ref d0)]) (by decide) rfl rfl (Nat.le_of_ble_eq_true rfl) rfl (fun X hX hW hR => ?_)
  unfold wp_X5_share at hf
  refine j_aload_n (pc' := 1) hX dX5_share_0 rfl 0 rfl rfl ?_
  refine j_iconst (pc' := 2) (v := 0) hX dX5_share_1 (by decide) rfl ?_
  obtain ⟨vd_1, evd_1⟩ : ∃ z : Md, z = md_thrown vd (0) := ⟨_, rfl⟩
  refine j_put (ci := 5) (pc' := 5) (ws' := (MdW g d0 d1 d2 d3 d4 d5 d6 vd_1)) hX hW hin5 tyX5_ok nmX5 rfl 0 rfl 6 (by decide) hl_28 rfl rfl rfl (Nat.le_of_ble_eq_true rfl) dX5_share_2 (by subst evd_1; rfl) rfl ?_
  replace hf := hf vd_1 evd_1
  refine j_aload_n (pc' := 6) hX dX5_share_5 rfl 0 rfl rfl ?_
  refine j_callVR (ci := 5) (pc' := 9) (As := []) (rest := []) (stk := fun r6 => [.double r6]) hX (fun l => met_X5_laid l g d0 d1 d2 d3 d4 d5 d6 vd_1 _ hf) rfl gX5_share_X5_laid yoX5_laid rfl ⟨Nat.le_of_ble_eq_true rfl, Nat.le_of_ble_eq_true rfl⟩ ⟨⟨Nat.le_of_ble_eq_true rfl, Nat.le_of_ble_eq_true rfl⟩, rfl, rfl⟩ 0 rfl rfl [0, 1, 2, 3, 4, 5, 6] rfl (by decide) (Nat.le_of_ble_eq_true rfl) rfl (fun _ => rfl) dX5_share_6 rfl (fun r6 hf => ?_)
  exact j_dret hX hR dX5_share_9 ⟨_, _, rfl, hf, rfl⟩
