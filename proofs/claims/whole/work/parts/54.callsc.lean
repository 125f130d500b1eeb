/-! THE CALLS of the class: cell, count, ifFilled. -/
theorem X4_numberOf_ok {b : Bool} {post : Int32 → Prop} (k : post (zz (bB b))) : wp_X4_numberOf (zz (bB b)) post := by
  unfold wp_X4_numberOf
  cases b
  · exact wT rfl k
  · exact wF (by decide) k
theorem X4_cell_c_ok {vp : Pc} {S : SS} (hC : InvC vp S) (hW : WfS S) {c p w : Nat} (hc : c < 6) (hp : p < cel S.1 c) (hw : w ≤ 3) {ic ip iw : Int} (h1 : ic = c) (h2 : ip = p) (h3 : iw = w) {post : Int32 → Prop} {pX : String → Prop} (k : post (zz (aCell S.1 c p w))) : wp_X4_cell_c42 vp (zz ic) (zz ip) (zz iw) post pX (zz 1) := by
  subst h1 h2 h3
  have h4 := cel_r hW.1 hc
  unfold wp_X4_cell_c42
  refine nA1 ?_
  unfold aCell at k
  simp (disch := omega) only [zl_0, zl_1, zl_2, zl_3, zl_4, zl_5, zl_6, zl_7, zl_8, zl_9, zl_10, zl_11, zl_12, zl_24, zl_31, zl_32, zl_33, zl_36, zl_48, zl_49, zl_54, zl_59, zl_60, zl_61, zl_97, zl_99, zl_102, zl_126, zl_180, zl_360, zl_376, zl_1880, zl_2256, zl_2903, z_add, z_sub, z_mul, z_neg, z_lt, z_le, z_eq, z_in]
  refine wB rfl (fun h => ?_) (fun h => wB rfl (fun h1 => ?_) (fun h1 => wB rfl (fun h2 => ?_) (fun h2 => ?_)))
  · rw [if_pos (by omega)] at k
    exact X2_sizeAt_ok (A := S.1) hC.1 hW.1 hc rfl rfl (by omega) k
  · rw [if_neg (by omega), if_pos (by omega)] at k
    exact X2_hasJoint_ok (A := S.1) hC.1 hW.1 hc rfl rfl (by omega) (X4_numberOf_ok k)
  · rw [if_neg (by omega), if_neg (by omega), if_pos (by omega)] at k
    by_cases h0 : c = 0
    · rw [if_pos h0] at k
      unfold wp_X2_meets
      simp (disch := omega) only [zl_0, zl_1, zl_2, zl_3, zl_4, zl_5, zl_6, zl_7, zl_8, zl_9, zl_10, zl_11, zl_12, zl_24, zl_31, zl_32, zl_33, zl_36, zl_48, zl_49, zl_54, zl_59, zl_60, zl_61, zl_97, zl_99, zl_102, zl_126, zl_180, zl_360, zl_376, zl_1880, zl_2256, zl_2903, z_add, z_sub, z_mul, z_neg, z_lt, z_le, z_eq, z_in]
      exact wT (by omega) k
    · rw [if_neg h0] at k
      exact X2_meets_ok (A := S.1) hC.1 hW.1 hc (by omega) rfl rfl (by omega) k
  · rw [if_neg (by omega), if_neg (by omega), if_neg (by omega)] at k
    exact X2_runsThrough_ok (A := S.1) hC.1 hW.1 hc rfl rfl hp (X4_numberOf_ok k)
theorem X4_cell_ok {vp : Pc} {S : SS} (hC : InvC vp S) (hW : WfS S) {a : Int} {b : Int} {d : Int} (ha : i32 a) (hb : i32 b) (hd : i32 d)  {post : Int32 → Prop} {pX : String → Prop} (k1 : (o_cell S a b d).1 = 1 → pX XI) (k2 : (o_cell S a b d).1 = 2 → pX XA) (k0 : (o_cell S a b d).1 = 0 → post (o_cell S a b d).2.1) : wp_X4_cell vp (zz a) (zz b) (zz d)  post pX := by
  unfold i32 at *
  have g1 : ¬ (isC a ∧ 0 ≤ b ∧ b < cel S.1 a.toNat) → pX XI := fun h => k1 (by unfold o_cell; rw [if_pos h])
  unfold wp_X4_cell
  refine X4_needCourse_ok ha (fun h => ?_) (fun h => g1 (fun h1 => h h1.1))
  have h4 := cel_r hW.1 (show a.toNat < 6 by omega)
  rw [zl_0, z_lt (by omega)]
  refine wB rfl (fun h1 => nI0 (g1 (by omega))) (fun h1 => X2_cellsOf_ok (A := S.1) hC.1 hW.1 (c := a.toNat) (by omega) (by omega) ?_)
  rw [z_le (by omega)]
  refine wB rfl (fun h2 => nI0 (g1 (by omega))) (fun h2 => nI1 ?_)
  have g2 : ¬ (0 ≤ d ∧ d ≤ 3) → wp_X4_cell_c42 vp (zz a) (zz b) (zz d) post pX (zz 0) := fun h3 => by
    unfold wp_X4_cell_c42
    exact nA0 (k2 (by unfold o_cell; rw [if_neg (fun h5 => h5 ⟨h, by omega, by omega⟩), if_pos h3]))
  simp (disch := omega) only [zl_0, zl_1, zl_2, zl_3, zl_4, zl_5, zl_6, zl_7, zl_8, zl_9, zl_10, zl_11, zl_12, zl_24, zl_31, zl_32, zl_33, zl_36, zl_48, zl_49, zl_54, zl_59, zl_60, zl_61, zl_97, zl_99, zl_102, zl_126, zl_180, zl_360, zl_376, zl_1880, zl_2256, zl_2903, z_add, z_sub, z_mul, z_neg, z_lt, z_le, z_eq, z_in]
  refine wB rfl (fun h3 => g2 (by omega)) (fun h3 => wB rfl (fun h5 => g2 (by omega)) (fun h5 => ?_))
  have e : o_cell S a b d = (0, zz (aCell S.1 a.toNat b.toNat d.toNat), S) := by unfold o_cell; rw [if_neg (fun h5 => h5 ⟨h, by omega, by omega⟩), if_neg (by omega)]
  rw [e] at k0
  exact X4_cell_c_ok hC hW (c := a.toNat) (p := b.toNat) (w := d.toNat) (by omega) (by omega) (by omega) (by omega) (by omega) (by omega) (k0 rfl)
theorem X4_count_c_ok {vp : Pc} {S : SS} (hC : InvC vp S) (hW : WfS S) {t : Nat} (ht : t ≤ 7) {it : Int} (hi : it = t) {post : Int32 → Prop} {pX : String → Prop} (k : post (aCnt S.1 S.2.1.length t)) : wp_X4_count_c15 vp (zz it) post pX (zz 1) := by
  subst hi
  have e2 : vp.2.2.2.1.2.1 = zz S.2.1.length := by obtain ⟨nx, h6, e1, e2, _⟩ := hC.2.1; exact e2
  unfold wp_X4_count_c15
  refine nA1 ?_
  unfold aCnt at k
  simp (disch := omega) only [zl_0, zl_1, zl_2, zl_3, zl_4, zl_5, zl_6, zl_7, zl_8, zl_9, zl_10, zl_11, zl_12, zl_24, zl_31, zl_32, zl_33, zl_36, zl_48, zl_49, zl_54, zl_59, zl_60, zl_61, zl_97, zl_99, zl_102, zl_126, zl_180, zl_360, zl_376, zl_1880, zl_2256, zl_2903, z_add, z_sub, z_mul, z_neg, z_lt, z_le, z_eq, z_in]
  refine wB rfl (fun h => ?_) (fun h => wB rfl (fun h1 => ?_) (fun h1 => wB rfl (fun h2 => ?_) (fun h2 => wB rfl (fun h3 => ?_) (fun h3 => wB rfl (fun h4 => ?_) (fun h4 => wB rfl (fun h5 => ?_) (fun h5 => wB rfl (fun h6 => ?_) (fun h6 => ?_)))))))
  · rw [if_pos (by omega)] at k
    refine X2_summed_ok (A := S.1) hC.1 hW.1 (t := 1) (by omega) rfl ?_
    rw [sum_all]; exact k
  · rw [if_neg (by omega), if_pos (by omega)] at k
    refine X2_summed_ok (A := S.1) hC.1 hW.1 (t := 3) (by omega) rfl ?_
    rw [sum_cl]; exact k
  · rw [if_neg (by omega), if_neg (by omega), if_neg (by omega), if_neg (by omega)] at k
    refine X2_summed_ok (A := S.1) hC.1 hW.1 (t := 4) (by omega) rfl ?_
    rw [sum_j, ← show t = 2 by omega]; exact k
  · rw [if_neg (by omega), if_neg (by omega), if_neg (by omega), if_neg (by omega)] at k
    refine X2_throughJoints_ok (A := S.1) hC.1 hW.1 ?_
    rw [sum_t, ← show t = 3 by omega]; exact k
  · rw [if_neg (by omega), if_neg (by omega), if_neg (by omega), if_neg (by omega)] at k
    refine X2_summed_ok (A := S.1) hC.1 hW.1 (t := 6) (by omega) rfl ?_
    rw [sum_f, ← show t = 4 by omega]; exact k
  · rw [if_neg (by omega), if_neg (by omega), if_pos (by omega)] at k
    exact X2_wasted_ok (A := S.1) hC.1 hW.1 k
  · rw [if_neg (by omega), if_neg (by omega), if_neg (by omega), if_neg (by omega)] at k
    refine X2_stockCells_ok (A := S.1) hC.1 hW.1 ?_
    have e6 : t = 6 := by omega
    rw [e6] at k
    rw [sum_k]; exact k
  · rw [if_neg (by omega), if_neg (by omega), if_neg (by omega), if_pos (by omega)] at k
    unfold wp_X1_size
    rw [e2]
    exact k
theorem X4_count_ok {vp : Pc} {S : SS} (hC : InvC vp S) (hW : WfS S) {a : Int} (ha : i32 a)  {post : Int32 → Prop} {pX : String → Prop} (k1 : (o_count S a).1 = 1 → pX XA) (k0 : (o_count S a).1 = 0 → post (o_count S a).2.1) : wp_X4_count vp (zz a)  post pX := by
  unfold i32 at *
  have g1 : ¬ (0 ≤ a ∧ a ≤ 7) → wp_X4_count_c15 vp (zz a) post pX (zz 0) := fun h => by
    unfold wp_X4_count_c15
    exact nA0 (k1 (by unfold o_count; rw [if_pos h]))
  unfold wp_X4_count
  simp (disch := omega) only [zl_0, zl_1, zl_2, zl_3, zl_4, zl_5, zl_6, zl_7, zl_8, zl_9, zl_10, zl_11, zl_12, zl_24, zl_31, zl_32, zl_33, zl_36, zl_48, zl_49, zl_54, zl_59, zl_60, zl_61, zl_97, zl_99, zl_102, zl_126, zl_180, zl_360, zl_376, zl_1880, zl_2256, zl_2903, z_add, z_sub, z_mul, z_neg, z_lt, z_le, z_eq, z_in]
  refine wB rfl (fun h1 => g1 (by omega)) (fun h1 => wB rfl (fun h2 => g1 (by omega)) (fun h2 => ?_))
  have e : o_count S a = (0, aCnt S.1 S.2.1.length a.toNat, S) := by unfold o_count; rw [if_neg (by omega)]
  rw [e] at k0
  exact X4_count_c_ok hC hW (t := a.toNat) (by omega) (by omega) (k0 rfl)
theorem X4_ifFilled_c_ok {vp : Pc} {S : SS} (hC : InvC vp S) (hW : WfS S) {c r w : Nat} (hc : c < 6) (hr : r ≤ 2) (hw : w ≤ 2) {ic ir iw : Int} (h1 : ic = c) (h2 : ir = r) (h3 : iw = w) {post : Int32 → Pc → Prop} {pX : String → Prop} (k : ∀ vp1, InvC vp1 S → post (zz (aIf S.1 c r w)) vp1) : wp_X4_ifFilled_c35 vp (zz ic) (zz ir) (zz iw) post pX (zz 1) := by
  subst h1 h2 h3
  unfold wp_X4_ifFilled_c35
  refine nA1 (X2_become_ok hC.1 (fun w1 h1 => X2_fillCourse_ok h1 hW.1 hc rfl rfl hr (fun w2 h2 => ?_)))
  have hW2 := hW.1.fills (r := r) (n := 60) hc
  unfold aIf at k
  generalize aFills c r 60 S.1 = X at h2 hW2 k ⊢
  simp (disch := omega) only [zl_0, zl_1, zl_2, zl_3, zl_4, zl_5, zl_6, zl_7, zl_8, zl_9, zl_10, zl_11, zl_12, zl_24, zl_31, zl_32, zl_33, zl_36, zl_48, zl_49, zl_54, zl_59, zl_60, zl_61, zl_97, zl_99, zl_102, zl_126, zl_180, zl_360, zl_376, zl_1880, zl_2256, zl_2903, z_add, z_sub, z_mul, z_neg, z_lt, z_le, z_eq, z_in]
  refine wB rfl (fun h => ?_) (fun h => wB rfl (fun h1 => ?_) (fun h1 => ?_))
  · rw [if_pos (by omega)] at k
    exact X2_freeOf_ok (A := X.2) h2 hW2 hc rfl (k _ ⟨hC.1, hC.2⟩)
  · rw [if_neg (by omega), if_pos (by omega)] at k
    exact k _ ⟨hC.1, hC.2⟩
  · rw [if_neg (by omega), if_neg (by omega)] at k
    exact X2_meetingJointsOf_ok (A := X.2) h2 hW2 hc rfl (k _ ⟨hC.1, hC.2⟩)
theorem X4_ifFilled_ok {vp : Pc} {S : SS} (hC : InvC vp S) (hW : WfS S) {a : Int} {b : Int} {d : Int} (ha : i32 a) (hb : i32 b) (hd : i32 d)  {post : Int32 → Pc → Prop} {pX : String → Prop} (k1 : (o_ifFilled S a b d).1 = 1 → pX XI) (k2 : (o_ifFilled S a b d).1 = 2 → pX XA) (k0 : (o_ifFilled S a b d).1 = 0 → ∀ vp1, InvC vp1 (o_ifFilled S a b d).2.2 → post (o_ifFilled S a b d).2.1 vp1) : wp_X4_ifFilled vp (zz a) (zz b) (zz d)  post pX := by
  unfold i32 at *
  unfold wp_X4_ifFilled
  refine X4_needCourse_ok ha (fun h => ?_) (fun h => k1 (by unfold o_ifFilled; rw [if_pos h]))
  have g2 : ¬ ((0 ≤ b ∧ b ≤ 2) ∧ 0 ≤ d ∧ d ≤ 2) → pX XA := fun h1 => k2 (by unfold o_ifFilled; rw [if_neg (fun h2 => h2 h), if_pos h1])
  have g3 : ¬ ((0 ≤ b ∧ b ≤ 2) ∧ 0 ≤ d ∧ d ≤ 2) → wp_X4_ifFilled_c35 vp (zz a) (zz b) (zz d) post pX (zz 0) := fun h1 => by
    unfold wp_X4_ifFilled_c35
    exact nA0 (g2 h1)
  simp (disch := omega) only [zl_0, zl_1, zl_2, zl_3, zl_4, zl_5, zl_6, zl_7, zl_8, zl_9, zl_10, zl_11, zl_12, zl_24, zl_31, zl_32, zl_33, zl_36, zl_48, zl_49, zl_54, zl_59, zl_60, zl_61, zl_97, zl_99, zl_102, zl_126, zl_180, zl_360, zl_376, zl_1880, zl_2256, zl_2903, z_add, z_sub, z_mul, z_neg, z_lt, z_le, z_eq, z_in]
  refine wB rfl (fun h1 => nA0 (g2 (by omega))) (fun h1 => wB rfl (fun h2 => nA0 (g2 (by omega))) (fun h2 => nA1 (wB rfl (fun h3 => g3 (by omega)) (fun h3 => wB rfl (fun h4 => g3 (by omega)) (fun h4 => ?_)))))
  have e : o_ifFilled S a b d = (0, zz (aIf S.1 a.toNat b.toNat d.toNat), S) := by unfold o_ifFilled; rw [if_neg (fun h2 => h2 h), if_neg (by omega)]
  rw [e] at k0
  exact X4_ifFilled_c_ok hC hW (c := a.toNat) (r := b.toNat) (w := d.toNat) (by omega) (by omega) (by omega) (by omega) (by omega) (by omega) (k0 rfl)
