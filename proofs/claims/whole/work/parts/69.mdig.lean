/-! THE DIGEST of the reference. -/
theorem RepM.se {v : Nat → Int32} {A : Ab} (hR : RepM v A) {t : Nat} (ht : t ≤ 2) : v t = vS A t := by
  obtain ⟨h0, h1, h2, _⟩ := hR
  rcases (show t = 0 ∨ t = 1 ∨ t = 2 by omega) with rfl | rfl | rfl
  · exact h0
  · exact h1
  · exact h2
theorem X5_digest_L11_ok {vd : Md} {S : SS} (hM : InvM vd S) (hW : WfS S) {K : Int64 → Prop} {d : Nat} : ∀ {t : Nat} {h : Int64} {j : Int}, j = t → t + d = 8 → K (dF (vC S) d t h) → wp_X5_digest_L11 vd K (d + 1) h (zz j) := by
  induction d with
  | zero =>
    intro t h j hj hd k
    subst hj
    unfold wp_X5_digest_L11
    simp (disch := omega) only [zl_0, zl_1, zl_2, zl_3, zl_4, zl_5, zl_6, zl_7, zl_8, zl_9, zl_10, zl_11, zl_12, zl_24, zl_31, zl_32, zl_33, zl_36, zl_48, zl_49, zl_54, zl_59, zl_60, zl_61, zl_97, zl_99, zl_102, zl_126, zl_180, zl_360, zl_376, zl_1880, zl_2256, zl_2903, z_add, z_sub, z_mul, z_neg, z_lt, z_le, z_eq, z_in]
    exact wT (by omega) k
  | succ d ih =>
    intro t h j hj hd k
    subst hj
    unfold wp_X5_digest_L11
    simp (disch := omega) only [zl_0, zl_1, zl_2, zl_3, zl_4, zl_5, zl_6, zl_7, zl_8, zl_9, zl_10, zl_11, zl_12, zl_24, zl_31, zl_32, zl_33, zl_36, zl_48, zl_49, zl_54, zl_59, zl_60, zl_61, zl_97, zl_99, zl_102, zl_126, zl_180, zl_360, zl_376, zl_1880, zl_2256, zl_2903, z_add, z_sub, z_mul, z_neg, z_lt, z_le, z_eq, z_in]
    exact wF (by omega) (X5_counted_ok hM.1 hW.1 (h := S.2.1.length) (t := t) hM.2.1.1 rfl (by omega) (ih (t := t + 1) (by omega) (by omega) k))
theorem X5_digest_L38_ok {vd : Md} {S : SS} (hM : InvM vd S) (hW : WfS S) {K : Int64 → Prop} {d : Nat} : ∀ {t : Nat} {h : Int64} {j : Int}, j = t → t + d = 3 → K (dF (vS S.1) d t h) → wp_X5_digest_L38 vd K (d + 1) h (zz j) := by
  induction d with
  | zero =>
    intro t h j hj hd k
    subst hj
    unfold wp_X5_digest_L38
    simp (disch := omega) only [zl_0, zl_1, zl_2, zl_3, zl_4, zl_5, zl_6, zl_7, zl_8, zl_9, zl_10, zl_11, zl_12, zl_24, zl_31, zl_32, zl_33, zl_36, zl_48, zl_49, zl_54, zl_59, zl_60, zl_61, zl_97, zl_99, zl_102, zl_126, zl_180, zl_360, zl_376, zl_1880, zl_2256, zl_2903, z_add, z_sub, z_mul, z_neg, z_lt, z_le, z_eq, z_in]
    exact wT (by omega) k
  | succ d ih =>
    intro t h j hj hd k
    subst hj
    unfold wp_X5_digest_L38
    simp (disch := omega) only [zl_0, zl_1, zl_2, zl_3, zl_4, zl_5, zl_6, zl_7, zl_8, zl_9, zl_10, zl_11, zl_12, zl_24, zl_31, zl_32, zl_33, zl_36, zl_48, zl_49, zl_54, zl_59, zl_60, zl_61, zl_97, zl_99, zl_102, zl_126, zl_180, zl_360, zl_376, zl_1880, zl_2256, zl_2903, z_add, z_sub, z_mul, z_neg, z_lt, z_le, z_eq, z_in]
    refine wF (by omega) ⟨by omega, ?_⟩
    rw [z_nat (by omega), Int.toNat_natCast, hM.1.se (by omega)]
    exact ih (t := t + 1) (by omega) (by omega) k
theorem X5_digest_L65_ok {vd : Md} {S : SS} (hM : InvM vd S) (hW : WfS S) {K : Int64 → Prop} {d : Nat} : ∀ {t : Nat} {h : Int64} {j : Int}, j = t → (t + d = 7 ∧ 1 ≤ t) → K (dF (vK S.1) d t h) → wp_X5_digest_L65 vd K (d + 1) h (zz j) := by
  induction d with
  | zero =>
    intro t h j hj hd k
    subst hj
    unfold wp_X5_digest_L65
    simp (disch := omega) only [zl_0, zl_1, zl_2, zl_3, zl_4, zl_5, zl_6, zl_7, zl_8, zl_9, zl_10, zl_11, zl_12, zl_24, zl_31, zl_32, zl_33, zl_36, zl_48, zl_49, zl_54, zl_59, zl_60, zl_61, zl_97, zl_99, zl_102, zl_126, zl_180, zl_360, zl_376, zl_1880, zl_2256, zl_2903, z_add, z_sub, z_mul, z_neg, z_lt, z_le, z_eq, z_in]
    exact wT (by omega) k
  | succ d ih =>
    intro t h j hj hd k
    subst hj
    unfold wp_X5_digest_L65
    simp (disch := omega) only [zl_0, zl_1, zl_2, zl_3, zl_4, zl_5, zl_6, zl_7, zl_8, zl_9, zl_10, zl_11, zl_12, zl_24, zl_31, zl_32, zl_33, zl_36, zl_48, zl_49, zl_54, zl_59, zl_60, zl_61, zl_97, zl_99, zl_102, zl_126, zl_180, zl_360, zl_376, zl_1880, zl_2256, zl_2903, z_add, z_sub, z_mul, z_neg, z_lt, z_le, z_eq, z_in]
    refine wF (by omega) ⟨by omega, ?_⟩
    rw [hM.1.st (s := t) (by omega)]
    exact ih (t := t + 1) (by omega) (by omega) k
theorem X5_digest_L104_ok {vd : Md} {S : SS} (hM : InvM vd S) (hW : WfS S) {c : Nat} (hc : c < 6) {K : Int64 → Prop} {d : Nat} : ∀ {t : Nat} {h : Int64} {j : Int}, j = t → t + d = 7 → K (dF (vP S.1 c) d t h) → wp_X5_digest_L104 (zz c) vd K (d + 1) h (zz j) := by
  induction d with
  | zero =>
    intro t h j hj hd k
    subst hj
    unfold wp_X5_digest_L104
    simp (disch := omega) only [zl_0, zl_1, zl_2, zl_3, zl_4, zl_5, zl_6, zl_7, zl_8, zl_9, zl_10, zl_11, zl_12, zl_24, zl_31, zl_32, zl_33, zl_36, zl_48, zl_49, zl_54, zl_59, zl_60, zl_61, zl_97, zl_99, zl_102, zl_126, zl_180, zl_360, zl_376, zl_1880, zl_2256, zl_2903, z_add, z_sub, z_mul, z_neg, z_lt, z_le, z_eq, z_in]
    exact wT (by omega) k
  | succ d ih =>
    intro t h j hj hd k
    subst hj
    unfold wp_X5_digest_L104
    simp (disch := omega) only [zl_0, zl_1, zl_2, zl_3, zl_4, zl_5, zl_6, zl_7, zl_8, zl_9, zl_10, zl_11, zl_12, zl_24, zl_31, zl_32, zl_33, zl_36, zl_48, zl_49, zl_54, zl_59, zl_60, zl_61, zl_97, zl_99, zl_102, zl_126, zl_180, zl_360, zl_376, zl_1880, zl_2256, zl_2903, z_add, z_sub, z_mul, z_neg, z_lt, z_le, z_eq, z_in]
    exact wF (by omega) (X5_ofCourse_ok hM.1 hW.1 (c := c) hc rfl (t := t) (by omega) rfl (ih (t := t + 1) (by omega) (by omega) k))
theorem X5_digest_L291_ok {vd : Md} {S : SS} (hM : InvM vd S) (hW : WfS S) {K : Int64 → Prop} {d : Nat} : ∀ {t : Nat} {h : Int64} {j : Int}, j = t → t + d = S.2.2.1 → K (dF (vX S) d t h) → wp_X5_digest_L291 vd K (d + 1) h (zz j) := by
  have hn := hW.2.2.2.1
  have e := hM.2.2.1
  induction d with
  | zero =>
    intro t h j hj hd k
    subst hj
    unfold wp_X5_digest_L291
    rw [e]
    simp (disch := omega) only [zl_0, zl_1, zl_2, zl_3, zl_4, zl_5, zl_6, zl_7, zl_8, zl_9, zl_10, zl_11, zl_12, zl_24, zl_31, zl_32, zl_33, zl_36, zl_48, zl_49, zl_54, zl_59, zl_60, zl_61, zl_97, zl_99, zl_102, zl_126, zl_180, zl_360, zl_376, zl_1880, zl_2256, zl_2903, z_add, z_sub, z_mul, z_neg, z_lt, z_le, z_eq, z_in]
    exact wT (by omega) k
  | succ d ih =>
    intro t h j hj hd k
    subst hj
    unfold wp_X5_digest_L291
    rw [e]
    simp (disch := omega) only [zl_0, zl_1, zl_2, zl_3, zl_4, zl_5, zl_6, zl_7, zl_8, zl_9, zl_10, zl_11, zl_12, zl_24, zl_31, zl_32, zl_33, zl_36, zl_48, zl_49, zl_54, zl_59, zl_60, zl_61, zl_97, zl_99, zl_102, zl_126, zl_180, zl_360, zl_376, zl_1880, zl_2256, zl_2903, z_add, z_sub, z_mul, z_neg, z_lt, z_le, z_eq, z_in]
    refine wF (by omega) ⟨by omega, ?_⟩
    rw [z_nat (by omega), Int.toNat_natCast, hM.2.2.2 t (by omega)]
    exact ih (t := t + 1) (by omega) (by omega) k
theorem X5_digest_L135_ok {vd : Md} {S : SS} (hM : InvM vd S) (hW : WfS S) {c : Nat} (hc : c < 6) {K : Int64 → Prop} {d : Nat} : ∀ {t : Nat} {h : Int64} {j : Int}, j = t → t + d = cel S.1 c → K (dG (vA S.1 c) (vR S.1 c) d t h) → wp_X5_digest_L135 (zz c) vd K (d + 1) h (zz j) := by
  have hn := cel_r hW.1 hc
  induction d with
  | zero =>
    intro t h j hj hd k
    subst hj
    unfold wp_X5_digest_L135
    refine X5_cells_ok hM.1 hW.1 (c := c) hc rfl ?_
    simp (disch := omega) only [zl_0, zl_1, zl_2, zl_3, zl_4, zl_5, zl_6, zl_7, zl_8, zl_9, zl_10, zl_11, zl_12, zl_24, zl_31, zl_32, zl_33, zl_36, zl_48, zl_49, zl_54, zl_59, zl_60, zl_61, zl_97, zl_99, zl_102, zl_126, zl_180, zl_360, zl_376, zl_1880, zl_2256, zl_2903, z_add, z_sub, z_mul, z_neg, z_lt, z_le, z_eq, z_in]
    exact wT (by omega) k
  | succ d ih =>
    intro t h j hj hd k
    subst hj
    unfold wp_X5_digest_L135 wp_X5_ofCell
    refine X5_cells_ok hM.1 hW.1 (c := c) hc rfl ?_
    rw [z_le (by omega)]
    refine wF (by omega) (wT rfl (X5_pebbleAt_ok hM.1 hW.1 (c := c) (p := t) hc rfl rfl (by omega) (wF (by decide) (wF (by decide) (wF (by decide) (X5_runs_ok hM.1 hW.1 (c := c) (p := t) hc rfl rfl (by omega) ?_))))))
    have k : wp_X5_digest_L135 (zz c) vd K (d + 1) (31 * (31 * h + (vA S.1 c t).toInt64) + (vR S.1 c t).toInt64) (zz t + 1) := by
      rw [zl_1, z_add]
      exact ih (t := t + 1) (by omega) (by omega) k
    unfold vR at k
    cases hj : aRun S.1 c t <;> rw [hj] at k
    · exact wT rfl k
    · exact wF (by decide) k
theorem X5_digest_L213_ok {S : SS} (hW : WfS S) {c : Nat} (hc : c < 6) {K : Int64 → Md → Prop} {d : Nat} : ∀ {vd : Md} {t : Nat} {h : Int64} {j : Int}, InvM vd S → j = t → t + d = 6 → (∀ vd1, InvM vd1 S → K (dF (vI S.1 c) d t h) vd1) → wp_X5_digest_L213 (zz c) K (d + 1) h (zz j) vd := by
  induction d with
  | zero =>
    intro vd t h j hM hj hd k
    subst hj
    unfold wp_X5_digest_L213
    simp (disch := omega) only [zl_0, zl_1, zl_2, zl_3, zl_4, zl_5, zl_6, zl_7, zl_8, zl_9, zl_10, zl_11, zl_12, zl_24, zl_31, zl_32, zl_33, zl_36, zl_48, zl_49, zl_54, zl_59, zl_60, zl_61, zl_97, zl_99, zl_102, zl_126, zl_180, zl_360, zl_376, zl_1880, zl_2256, zl_2903, z_add, z_sub, z_mul, z_neg, z_lt, z_le, z_eq, z_in]
    exact wT (by omega) (k vd hM)
  | succ d ih =>
    intro vd t h j hM hj hd k
    subst hj
    unfold wp_X5_digest_L213
    rw [zl_6, zl_3, zl_1, z_le (by omega), z_div (by omega), z_mul, z_sub, z_add]
    refine wF (by omega) (X5_byFilling_ok hM.1 hW.1 (c := c) (r := t / 3) (w := t % 3) hc (by omega) (by omega) rfl (by omega) (by omega) (fun v => ?_))
    exact ih (vd := thenW vd v) (t := t + 1) hM (by omega) (by omega) k
theorem X5_digest_L95_ok {S : SS} (hW : WfS S) {K : Int64 → Md → Prop} {d : Nat} : ∀ {vd : Md} {c : Nat} {h : Int64} {j : Int}, InvM vd S → j = c → c + d = 6 → (∀ vd1, InvM vd1 S → K (dC S.1 d c h) vd1) → wp_X5_digest_L95 K (d + 1) h (zz j) vd := by
  induction d with
  | zero =>
    intro vd c h j hM hj hd k
    subst hj
    unfold wp_X5_digest_L95
    rw [zl_6, z_le (by omega)]
    exact wT (by omega) (k vd hM)
  | succ d ih =>
    intro vd c h j hM hj hd k
    subst hj
    unfold wp_X5_digest_L95
    rw [zl_6, z_le (by omega)]
    refine wF (by omega) ⟨8, X5_digest_L104_ok hM hW (c := c) (by omega) (t := 0) (j := 0) rfl rfl ⟨cel S.1 c + 1, X5_digest_L135_ok hM hW (c := c) (by omega) (t := 0) (j := 0) rfl (by omega) ?_⟩⟩
    refine X5_closes_ok hM.1 hW.1 (c := c) (by omega) rfl (b := false) (jb := 0) rfl (fun f1 => X5_closes_ok (vd := fewW vd f1) hM.1 hW.1 (c := c) (by omega) rfl (b := true) (jb := 1) rfl (fun f2 => ⟨7, ?_⟩))
    refine X5_digest_L213_ok hW (c := c) (by omega) (vd := fewW (fewW vd f1) f2) (t := 0) (j := 0) hM rfl rfl (fun vd1 h1 => ?_)
    show wp_X5_digest_L95 K (d + 1) _ (zz c + 1) vd1
    rw [zl_1, z_add]
    exact ih (c := c + 1) h1 (by omega) (by omega) k
theorem X5_digest_ok {vd : Md} {S : SS} (hM : InvM vd S) (hW : WfS S) {post : Int64 → Md → Prop} (k : ∀ vd1, InvM vd1 S → post (dg S) vd1) : wp_X5_digest vd post := by
  unfold dg at k
  unfold wp_X5_digest
  refine let_md ⟨9, X5_digest_L11_ok (vd := md_thrown vd 0) (S := S) hM hW (t := 0) (j := 0) rfl rfl ⟨4, X5_digest_L38_ok (vd := md_thrown vd 0) (S := S) hM hW (t := 0) (j := 0) rfl rfl ⟨7, X5_digest_L65_ok (vd := md_thrown vd 0) (S := S) hM hW (t := 1) (j := 1) rfl ⟨rfl, Nat.le_refl _⟩ ⟨7, X5_digest_L95_ok hW (vd := md_thrown vd 0) (c := 0) (j := 0) hM rfl rfl (fun vd1 h1 => ?_)⟩⟩⟩⟩
  generalize dC S.1 6 0 (dF (vK S.1) 6 1 (dF (vS S.1) 3 0 (dF (vC S) 8 0 2903))) = D at k ⊢
  refine X5_best_ok h1.1 hW.1 (fun v2 => X5_laid_ok (vd := thenW vd1 v2) h1.1 hW.1 ⟨(aSh_n hW.1).2, ?_⟩)
  have k : ∀ vd1, InvM vd1 S → post (dF (vX S) S.2.2.1 0 (31 * (31 * (31 * D + (zz (bFold S.1 3 (-1, 0, 0, 0)).1).toInt64) + (aSh S.1).toInt64) + (zz S.2.2.1).toInt64)) vd1 := k
  generalize aSh S.1 = H at k ⊢
  generalize zz (bFold S.1 3 (-1, 0, 0, 0)).1 = B at k ⊢
  rw [show (thenW vd1 v2).2.2.2.2.2.2.2.1 = zz S.2.2.1 from h1.2.2.1]
  exact ⟨S.2.2.1 + 1, X5_digest_L291_ok (vd := thenW vd1 v2) (S := S) h1 hW (t := 0) (j := 0) rfl (by omega) (k _ h1)⟩
