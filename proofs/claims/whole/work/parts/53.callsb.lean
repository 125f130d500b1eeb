/-! THE CALLS of the class, on. -/
theorem sum_all {A : Ab} : ps (fun c => aProp A c 1) 6 = aAll A := ps_congr (fun c _ => rfl)
theorem sum_cl {A : Ab} : ps (fun c => aProp A c 3) 6 = aCl A := ps_congr (fun c _ => rfl)
theorem sum_j {A : Ab} : ps (fun c => aProp A c 4) 6 = ps (aSm A 2) 6 := ps_congr (fun c _ => rfl)
theorem sum_f {A : Ab} : ps (fun c => aProp A c 6) 6 = ps (aSm A 4) 6 := ps_congr (fun c _ => rfl)
theorem sum_t {A : Ab} : ps (fun c => n01 (2 ≤ c) * aTh A c) 6 = ps (aSm A 3) 6 := ps_congr (fun c hc => by
  show n01 (2 ≤ c) * aTh A c = aTh A c
  unfold n01
  by_cases h : 2 ≤ c
  · rw [if_pos h, Nat.one_mul]
  · rw [if_neg h, Nat.zero_mul]
    refine (ps_zero (fun p hp => if_neg (fun h1 => ?_))).symm
    have := h1.2.2
    unfold aRun at this
    simp at this
    omega)
theorem sum_k {A : Ab} : ps (fun k => (k + 1) * aS A (k + 1)) 6 = ps (aSm A 6) 6 := ps_congr (fun c _ => rfl)
theorem aAll_r {A : Ab} (hW : Wf A) : aAll A ≤ 360 := by
  have h := fun c (hc : c < 6) => aK_60 hW hc
  show 0 + aK A 0 + aK A 1 + aK A 2 + aK A 3 + aK A 4 + aK A 5 ≤ 360
  have := h 0 (by omega)
  have := h 1 (by omega)
  have := h 2 (by omega)
  have := h 3 (by omega)
  have := h 4 (by omega)
  have := h 5 (by omega)
  omega
theorem X4_fillAll_L_ok {r : Nat} (hr : r ≤ 2) {ir : Int} (hir : ir = r) {K : Pc → Prop} {n : Nat} : ∀ {vp : Pc} {A : Ab} {c : Nat} {j : Int}, RepC vp.1 A → Wf A → j = c → c + n = 6 → (∀ w1, RepC w1 (aFA r n A) → K (pc_m vp w1)) → wp_X4_fillAll_L22 (zz ir) K (n + 1) (zz j) vp := by
  induction n with
  | zero =>
    intro vp A c j hR hW hj hn k
    subst hj
    unfold wp_X4_fillAll_L22
    simp (disch := omega) only [zl_0, zl_1, zl_2, zl_3, zl_4, zl_5, zl_6, zl_7, zl_8, zl_9, zl_10, zl_11, zl_12, zl_24, zl_31, zl_32, zl_33, zl_36, zl_48, zl_49, zl_54, zl_59, zl_60, zl_61, zl_97, zl_99, zl_102, zl_126, zl_180, zl_360, zl_376, zl_1880, zl_2256, zl_2903, z_add, z_sub, z_mul, z_neg, z_lt, z_le, z_eq, z_in]
    exact wT (by omega) (k vp.1 hR)
  | succ n ih =>
    intro vp A c j hR hW hj hn k
    subst hj
    unfold wp_X4_fillAll_L22
    simp (disch := omega) only [zl_0, zl_1, zl_2, zl_3, zl_4, zl_5, zl_6, zl_7, zl_8, zl_9, zl_10, zl_11, zl_12, zl_24, zl_31, zl_32, zl_33, zl_36, zl_48, zl_49, zl_54, zl_59, zl_60, zl_61, zl_97, zl_99, zl_102, zl_126, zl_180, zl_360, zl_376, zl_1880, zl_2256, zl_2903, z_add, z_sub, z_mul, z_neg, z_lt, z_le, z_eq, z_in]
    refine wF (by omega) (X2_fillCourse_ok hR hW (c := c) (r := r) (by omega) rfl hir hr (fun w1 h1 => ?_))
    refine ih (vp := pc_m vp w1) h1 (hW.fills (by omega)) (c := c + 1) (by omega) (by omega) (fun w2 h2 => k w2 ?_)
    have e : c = 5 - n := by omega
    subst e
    exact h2
theorem X4_fillAll_ok {vp : Pc} {S : SS} (hC : InvC vp S) (hW : WfS S)    {post : Int32 → Pc → Prop} (k0 : (o_fillAll S).1 = 0 → ∀ vp1, InvC vp1 (o_fillAll S).2.2 → post (o_fillAll S).2.1 vp1) : wp_X4_fillAll vp   post  := by
  have e : o_fillAll S = (0, zz (aCl (aFA (aR S.1) 6 S.1)), sS S (aFA (aR S.1) 6 S.1)) := rfl
  rw [e] at k0
  unfold wp_X4_fillAll
  have hr := hW.1.2.1
  refine X1_save_ok hC.2.1 hC.1 (fun vh1 h3 => X2_settingOf_ok (A := S.1) hC.1 hW.1 (i := 1) (t := 1) (by omega) rfl ⟨7, ?_⟩)
  simp (disch := omega) only [zl_0, zl_1, zl_2, zl_3, zl_4, zl_5, zl_6, zl_7, zl_8, zl_9, zl_10, zl_11, zl_12, zl_24, zl_31, zl_32, zl_33, zl_36, zl_48, zl_49, zl_54, zl_59, zl_60, zl_61, zl_97, zl_99, zl_102, zl_126, zl_180, zl_360, zl_376, zl_1880, zl_2256, zl_2903, z_add, z_sub, z_mul, z_neg, z_lt, z_le, z_eq, z_in]
  refine X4_fillAll_L_ok hr rfl (vp := pc_h vp vh1) (n := 6) (c := 0) (j := 0) hC.1 hW.1 rfl rfl (fun w1 h6 => ?_)
  refine X2_summed_ok (A := aFA (aR S.1) 6 S.1) h6 hW.1.fa (t := 3) (j := 3) (by omega) rfl ?_
  rw [sum_cl]
  clear e
  generalize aFA (aR S.1) 6 S.1 = X at k0 h6 ⊢
  exact k0 rfl _ ⟨h6, h3, hC.2.2⟩
theorem X4_set_ok {vp : Pc} {S : SS} (hC : InvC vp S) (hW : WfS S) {a : Int} {b : Int} (ha : i32 a) (hb : i32 b)  {post : Int32 → Pc → Prop} {pX : String → Prop} (k1 : (o_set S a b).1 = 1 → pX XI) (k2 : (o_set S a b).1 = 2 → pX XA) (k3 : (o_set S a b).1 = 3 → pX XS) (k0 : (o_set S a b).1 = 0 → ∀ vp1, InvC vp1 (o_set S a b).2.2 → post (o_set S a b).2.1 vp1) : wp_X4_set vp (zz a) (zz b)  post pX := by
  unfold i32 at *
  unfold wp_X4_set
  refine X4_needSetting_ok ha (fun h => ?_) (fun h => k1 (by unfold o_set; rw [if_pos h]))
  have g2 : ¬ (if a = 0 then 24 ≤ b ∧ b ≤ 60 else if a = 1 then 0 ≤ b ∧ b ≤ 2 else 0 ≤ b ∧ b ≤ 1) → pX XA := fun h1 => k2 (by unfold o_set; rw [if_neg (fun h2 => h2 h), if_pos h1])
  have h9 := aAll_r hW.1
  have fin : (if a = 0 then 24 ≤ b ∧ b ≤ 60 else if a = 1 then 0 ≤ b ∧ b ≤ 2 else 0 ≤ b ∧ b ≤ 1) → ¬ (a = 0 ∧ aAll S.1 ≠ 0) → wp_X4_set_c32 vp (zz a) (zz b) post pX (zz 1) := fun h1 h2 => by
    have e : o_set S a b = (0, zz (aSet S.1 a.toNat), sS S (aChg S.1 a.toNat b.toNat)) := by unfold o_set; rw [if_neg (fun h2 => h2 h), if_neg (fun h3 => h3 h1), if_neg h2]
    rw [e] at k0
    have hb2 : 0 ≤ b := by
      split at h1
      · omega
      · split at h1 <;> omega
    unfold wp_X4_set_c32
    exact nS1 (X1_save_ok hC.2.1 hC.1 (fun vh1 h3 => X2_settingOf_ok (A := S.1) hC.1 hW.1 (t := a.toNat) (by omega) (by omega) (X2_changeSetting_ok (A := S.1) hC.1 hW.1 (t := a.toNat) (v := b.toNat) (by omega) (by omega) (by omega) (fun h4 => by rw [if_pos (by omega)] at h1; omega) (fun w1 h6 => k0 rfl _ ⟨h6, h3, hC.2.2⟩))))
  have fin3 : (if a = 0 then 24 ≤ b ∧ b ≤ 60 else if a = 1 then 0 ≤ b ∧ b ≤ 2 else 0 ≤ b ∧ b ≤ 1) → (a = 0 ∧ aAll S.1 ≠ 0) → wp_X4_set_c32 vp (zz a) (zz b) post pX (zz 0) := fun h1 h2 => by
    unfold wp_X4_set_c32
    exact nS0 (k3 (by unfold o_set; rw [if_neg (fun h2 => h2 h), if_neg (fun h3 => h3 h1), if_pos h2]))
  clear k0 k1 k2 k3
  have rest : (if a = 0 then 24 ≤ b ∧ b ≤ 60 else if a = 1 then 0 ≤ b ∧ b ≤ 2 else 0 ≤ b ∧ b ≤ 1) → (((zz a = zz 0 → (wp_X2_summed vp.1 (zz 1) (fun r21 => ((r21 = zz 0 → wp_X4_set_c32 vp (zz a) (zz b) post pX (zz 1)) ∧ (¬ r21 = zz 0 → wp_X4_set_c32 vp (zz a) (zz b) post pX (zz 0)))))) ∧ (¬ zz a = zz 0 → wp_X4_set_c32 vp (zz a) (zz b) post pX (zz 1)))) := fun h1 => by
    rw [z_eq (by omega)]
    refine wB rfl (fun h2 => X2_summed_ok (A := S.1) hC.1 hW.1 (t := 1) (by omega) rfl ?_) (fun h2 => fin h1 (fun h3 => h2 h3.1))
    rw [sum_all, z_eq (by omega)]
    exact wB rfl (fun h4 => fin h1 (by omega)) (fun h4 => fin3 h1 ⟨h2, by omega⟩)
  unfold wp_X4_isSettingValue
  simp (disch := omega) only [zl_0, zl_1, zl_2, zl_3, zl_4, zl_5, zl_6, zl_7, zl_8, zl_9, zl_10, zl_11, zl_12, zl_24, zl_31, zl_32, zl_33, zl_36, zl_48, zl_49, zl_54, zl_59, zl_60, zl_61, zl_97, zl_99, zl_102, zl_126, zl_180, zl_360, zl_376, zl_1880, zl_2256, zl_2903, z_add, z_sub, z_mul, z_neg, z_lt, z_le, z_eq, z_in]
  simp (disch := omega) only [z_eq] at rest
  refine wB rfl (fun h1 => ?_) (fun h1 => ?_)
  · rw [if_pos h1] at rest g2
    exact wB rfl (fun h2 => nA0 (g2 (by omega))) (fun h2 => wB rfl (fun h3 => nA0 (g2 (by omega))) (fun h3 => nA1 (rest (by omega))))
  rw [if_neg h1] at rest g2
  refine wB rfl (fun h2 => nA0 (g2 (by split <;> omega))) (fun h2 => wB rfl (fun h3 => ?_) (fun h3 => ?_))
  · rw [if_pos h3] at rest g2
    exact wB rfl (fun h2 => nA0 (g2 (by omega))) (fun h2 => nA1 (rest (by omega)))
  · rw [if_neg h3] at rest g2
    exact wB rfl (fun h2 => nA0 (g2 (by omega))) (fun h2 => nA1 (rest (by omega)))
theorem X4_append_ok {vp : Pc} {S : SS} (hC : InvC vp S) (hW : WfS S) {a : Int} (ha : i32 a)  {post : Int32 → Pc → Prop} {pX : String → Prop} (k1 : (o_append S a).1 = 1 → pX XA) (k2 : (o_append S a).1 = 2 → pX XS) (k0 : (o_append S a).1 = 0 → ∀ vp1, InvC vp1 (o_append S a).2.2 → post (o_append S a).2.1 vp1) : wp_X4_append vp (zz a)  post pX := by
  unfold i32 at *
  obtain ⟨hR, hH, hT1, hT2⟩ := hC
  have hn := hW.2.2.2.1
  unfold wp_X4_append wp_X4_append_c17 wp_X3_length
  rw [hT1]
  simp (disch := omega) only [zl_0, zl_1, zl_2, zl_3, zl_4, zl_5, zl_6, zl_7, zl_8, zl_9, zl_10, zl_11, zl_12, zl_24, zl_31, zl_32, zl_33, zl_36, zl_48, zl_49, zl_54, zl_59, zl_60, zl_61, zl_97, zl_99, zl_102, zl_126, zl_180, zl_360, zl_376, zl_1880, zl_2256, zl_2903, z_add, z_sub, z_mul, z_neg, z_lt, z_le, z_eq, z_in]
  refine wB rfl (fun h => nA0 (k1 (by unfold o_append; rw [if_pos (by omega)]))) (fun h => wB rfl (fun h1 => nA0 (k1 (by unfold o_append; rw [if_pos (by omega)]))) (fun h1 => nA1 (wB rfl (fun h2 => nS0 (k2 (by unfold o_append; rw [if_neg (by omega), if_pos (by omega)]))) (fun h2 => nS1 ?_))))
  have e : o_append S a = (0, zz (S.2.2.1 + 1 : Nat), (S.1, S.2.1, S.2.2.1 + 1, upN S.2.2.2 S.2.2.1 a.toNat)) := by unfold o_append; rw [if_neg (by omega), if_neg (by omega)]
  rw [e] at k0
  unfold wp_X3_add
  rw [hT1]
  simp (disch := omega) only [zl_0, zl_1, zl_2, zl_3, zl_4, zl_5, zl_6, zl_7, zl_8, zl_9, zl_10, zl_11, zl_12, zl_24, zl_31, zl_32, zl_33, zl_36, zl_48, zl_49, zl_54, zl_59, zl_60, zl_61, zl_97, zl_99, zl_102, zl_126, zl_180, zl_360, zl_376, zl_1880, zl_2256, zl_2903, z_add, z_sub, z_mul, z_neg, z_lt, z_le, z_eq, z_in]
  refine wF (by omega) (wF (by omega) ⟨by omega, fun v1 h3 v2 h4 => ?_⟩)
  subst h3 h4
  have ec : vp_nar .char ((zz a).toUInt32 % 65536).toInt32 = zz a := by
    have hk : ∀ m : Nat, m < 127 → vp_nar .char ((zz m).toUInt32 % 65536).toInt32 = zz m := by decide +kernel
    have := hk a.toNat (by omega)
    rw [show ((a.toNat : Nat) : Int) = a by omega] at this
    exact this
  rw [ec]
  show post (vp.2.2.2.2.2 + zz 1) (pc_x vp (tx_l (tx_s vp.2.2.2.2 (upd vp.2.2.2.2.1 (zz S.2.2.1).toNatClampNeg (zz a))) (vp.2.2.2.2.2 + zz 1)))
  rw [hT1, z_add]
  refine k0 rfl _ ⟨hR, hH, ?_, fun i hi => ?_⟩
  · rfl
  · show upd _ _ _ i = zz (upN S.2.2.2 S.2.2.1 a.toNat i : Nat)
    rw [z_nat (by omega), Int.toNat_natCast]
    have hi' : i < S.2.2.1 + 1 := hi
    by_cases e1 : i = S.2.2.1
    · rw [upd_eq e1, upN_eq e1]
      refine congrArg zz ?_
      omega
    · rw [upd_ne e1, upN_ne e1]; exact hT2 i (by omega)
theorem X4_clearBuffer_ok {vp : Pc} {S : SS} (hC : InvC vp S) (hW : WfS S)    {post : Int32 → Pc → Prop}   (k0 : (o_clear S).1 = 0 → ∀ vp1, InvC vp1 (o_clear S).2.2 → post (o_clear S).2.1 vp1) : wp_X4_clearBuffer vp   post  := by
  obtain ⟨hR, hH, hT1, hT2⟩ := hC
  unfold wp_X4_clearBuffer wp_X3_drop
  intro v1 h1
  subst h1
  rw [hT1]
  exact k0 rfl _ ⟨hR, hH, rfl, fun i hi => absurd hi (Nat.not_lt_zero _)⟩
theorem X4_undo_ok {vp : Pc} {S : SS} (hC : InvC vp S) (hW : WfS S)    {post : Int32 → Pc → Prop} {pX : String → Prop} (k1 : (o_undo S).1 = 1 → pX XS) (k0 : (o_undo S).1 = 0 → ∀ vp1, InvC vp1 (o_undo S).2.2 → post (o_undo S).2.1 vp1) : wp_X4_undo vp   post pX := by
  obtain ⟨A, H, n, ch⟩ := S
  obtain ⟨hR, hH, hT⟩ := hC
  have hl := hW.2.2.1
  have e2 : vp.2.2.2.1.2.1 = zz H.length := by obtain ⟨nx, h6, e1, e2, _⟩ := hH; exact e2
  unfold wp_X4_undo wp_X1_size
  rw [e2]
  have hl' : H.length ≤ 6 := hl
  simp (disch := omega) only [zl_0, zl_1, zl_2, zl_3, zl_4, zl_5, zl_6, zl_7, zl_8, zl_9, zl_10, zl_11, zl_12, zl_24, zl_31, zl_32, zl_33, zl_36, zl_48, zl_49, zl_54, zl_59, zl_60, zl_61, zl_97, zl_99, zl_102, zl_126, zl_180, zl_360, zl_376, zl_1880, zl_2256, zl_2903, z_add, z_sub, z_mul, z_neg, z_lt, z_le, z_eq, z_in]
  cases H with
  | nil => exact wT (by show ((0 : Nat) : Int) ≤ 0; omega) (nS0 (k1 rfl))
  | cons B H =>
    refine wF (by rw [List.length_cons]; omega) (nS1 (X1_restore_ok hH (fun vh1 vm1 h1 h2 => ?_)))
    have e3 : vh1.2.1 = zz H.length := by obtain ⟨nx, h6, e1, e2, _⟩ := h1; exact e2
    show post vh1.2.1 _
    rw [e3]
    exact k0 rfl _ ⟨h2, h1, hT⟩
theorem X4_course_ok {vp : Pc} {S : SS} (hC : InvC vp S) (hW : WfS S) {a : Int} {b : Int} (ha : i32 a) (hb : i32 b)  {post : Int32 → Prop} {pX : String → Prop} (k1 : (o_course S a b).1 = 1 → pX XI) (k2 : (o_course S a b).1 = 2 → pX XA) (k0 : (o_course S a b).1 = 0 → post (o_course S a b).2.1) : wp_X4_course vp (zz a) (zz b)  post pX := by
  unfold i32 at *
  unfold wp_X4_course
  refine X4_needCourse_ok ha (fun h => ?_) (fun h => k1 (by unfold o_course; rw [if_pos h]))
  simp (disch := omega) only [zl_0, zl_1, zl_2, zl_3, zl_4, zl_5, zl_6, zl_7, zl_8, zl_9, zl_10, zl_11, zl_12, zl_24, zl_31, zl_32, zl_33, zl_36, zl_48, zl_49, zl_54, zl_59, zl_60, zl_61, zl_97, zl_99, zl_102, zl_126, zl_180, zl_360, zl_376, zl_1880, zl_2256, zl_2903, z_add, z_sub, z_mul, z_neg, z_lt, z_le, z_eq, z_in]
  refine wB rfl (fun h1 => nA0 (k2 (by unfold o_course; rw [if_neg (fun h2 => h2 h), if_pos (by omega)]))) (fun h1 => wB rfl (fun h2 => nA0 (k2 (by unfold o_course; rw [if_neg (fun h2 => h2 h), if_pos (by omega)]))) (fun h2 => nA1 ?_))
  have e : o_course S a b = (0, zz (aProp S.1 a.toNat b.toNat), S) := by unfold o_course; rw [if_neg (fun h2 => h2 h), if_neg (by omega)]
  rw [e] at k0
  exact X2_property_ok (A := S.1) hC.1 hW.1 (c := a.toNat) (t := b.toNat) (by omega) (by omega) (by omega) (by omega) (k0 rfl)
theorem X4_refusal_ok {vp : Pc} {S : SS} (hC : InvC vp S) (hW : WfS S) {a : Int} {b : Int} (ha : i32 a) (hb : i32 b) {f : Bool} {post : Int32 → Prop} {pX : String → Prop} (k1 : (o_refusal S a b f).1 = 1 → pX XI) (k2 : (o_refusal S a b f).1 = 2 → pX XA) (k0 : (o_refusal S a b f).1 = 0 → post (o_refusal S a b f).2.1) : wp_X4_refusal vp (zz a) (zz b) (zz (bB f)) post pX := by
  unfold i32 at *
  unfold wp_X4_refusal
  refine X4_needCourse_ok ha (fun h => X4_needSize_ok hb (fun h1 => ?_) (fun h1 => k2 (by unfold o_refusal; rw [if_neg (fun h2 => h2 h), if_pos h1]))) (fun h => k1 (by unfold o_refusal; rw [if_pos h]))
  have e : o_refusal S a b f = (0, zz (aRea S.1 a.toNat b.toNat f), S) := by unfold o_refusal; rw [if_neg (fun h2 => h2 h), if_neg (fun h2 => h2 h1)]
  rw [e] at k0
  exact X2_reasonAgainst_ok (A := S.1) hC.1 hW.1 (c := a.toNat) (s := b.toNat) (f := f) (by omega) (by omega) (by omega) (by omega) rfl (k0 rfl)
theorem X4_stockOf_ok {vp : Pc} {S : SS} (hC : InvC vp S) (hW : WfS S) {a : Int} (ha : i32 a)  {post : Int32 → Prop} {pX : String → Prop} (k1 : (o_stockOf S a).1 = 1 → pX XA) (k0 : (o_stockOf S a).1 = 0 → post (o_stockOf S a).2.1) : wp_X4_stockOf vp (zz a)  post pX := by
  unfold i32 at *
  unfold wp_X4_stockOf
  refine X4_needSize_ok ha (fun h => ?_) (fun h => k1 (by unfold o_stockOf; rw [if_pos h]))
  have e : o_stockOf S a = (0, zz (aS S.1 a.toNat), S) := by unfold o_stockOf; rw [if_neg (fun h2 => h2 h)]
  rw [e] at k0
  exact X2_inStock_ok (A := S.1) hC.1 hW.1 (s := a.toNat) (by omega) (by omega) (k0 rfl)
theorem X4_setting_ok {vp : Pc} {S : SS} (hC : InvC vp S) (hW : WfS S) {a : Int} (ha : i32 a)  {post : Int32 → Prop} {pX : String → Prop} (k1 : (o_setting S a).1 = 1 → pX XI) (k0 : (o_setting S a).1 = 0 → post (o_setting S a).2.1) : wp_X4_setting vp (zz a)  post pX := by
  unfold i32 at *
  unfold wp_X4_setting
  refine X4_needSetting_ok ha (fun h => ?_) (fun h => k1 (by unfold o_setting; rw [if_pos h]))
  have e : o_setting S a = (0, zz (aSet S.1 a.toNat), S) := by unfold o_setting; rw [if_neg (fun h2 => h2 h)]
  rw [e] at k0
  exact X2_settingOf_ok (A := S.1) hC.1 hW.1 (t := a.toNat) (by omega) (by omega) (k0 rfl)
theorem X4_fewest_ok {vp : Pc} {S : SS} (hC : InvC vp S) (hW : WfS S) {a : Int} (ha : i32 a)  {post : Int32 → Pc → Prop} {pX : String → Prop} (k1 : (o_clo false S a).1 = 1 → pX XI) (k0 : (o_clo false S a).1 = 0 → ∀ vp1, InvC vp1 (o_clo false S a).2.2 → post (o_clo false S a).2.1 vp1) : wp_X4_fewest vp (zz a)  post pX := by
  unfold i32 at *
  unfold wp_X4_fewest wp_X0_pebbles
  refine X4_needCourse_ok ha (fun h => ?_) (fun h => k1 (by unfold o_clo; rw [if_pos h]))
  have e : o_clo false S a = (0, zz (aClo S.1 a.toNat).1, S) := by unfold o_clo; rw [if_neg (fun h2 => h2 h)]; rfl
  rw [e] at k0
  refine X0_find_ok (A := S.1) hC.1 hW.1 (c := a.toNat) (by omega) (by omega) (fun vc h1 h2 => ?_)
  show post vc.2.1 _
  rw [h1]
  exact k0 rfl _ ⟨hC.1, hC.2⟩
theorem X4_nextSize_ok {vp : Pc} {S : SS} (hC : InvC vp S) (hW : WfS S) {a : Int} (ha : i32 a)  {post : Int32 → Pc → Prop} {pX : String → Prop} (k1 : (o_clo true S a).1 = 1 → pX XI) (k0 : (o_clo true S a).1 = 0 → ∀ vp1, InvC vp1 (o_clo true S a).2.2 → post (o_clo true S a).2.1 vp1) : wp_X4_nextSize vp (zz a)  post pX := by
  unfold i32 at *
  unfold wp_X4_nextSize wp_X0_firstSize
  refine X4_needCourse_ok ha (fun h => ?_) (fun h => k1 (by unfold o_clo; rw [if_pos h]))
  have e : o_clo true S a = (0, zz (aClo S.1 a.toNat).2, S) := by unfold o_clo; rw [if_neg (fun h2 => h2 h)]; rfl
  rw [e] at k0
  refine X0_find_ok (A := S.1) hC.1 hW.1 (c := a.toNat) (by omega) (by omega) (fun vc h1 h2 => ?_)
  show post vc.2.2 _
  rw [h2]
  exact k0 rfl _ ⟨hC.1, hC.2⟩
