/-! The best rule of the reference. -/
theorem X5_best_L_ok {vd : Md} {A : Ab} (hR : RepM vd.1 A) (hW : Wf A) {K : Int32 → Md → Prop} {n : Nat} : ∀ {s : bS} {r : Nat} {j : Int} {v : Nat → Int32}, bOkS s → j = r → r + n = 3 → (∀ v1, K (zz (bFold A n s).1) (thenW vd v1)) → wp_X5_best_L12 K (n + 1) (zz s.1) (zz s.2.1) s.2.2.1 (zz s.2.2.2) (zz j) (thenW vd v) := by
  induction n with
  | zero =>
    intro s r j v hs hj hn k
    subst hj
    unfold wp_X5_best_L12
    simp (disch := omega) only [zl_0, zl_1, zl_2, zl_3, zl_4, zl_5, zl_6, zl_7, zl_8, zl_9, zl_10, zl_11, zl_12, zl_24, zl_31, zl_32, zl_33, zl_36, zl_48, zl_49, zl_54, zl_59, zl_60, zl_61, zl_97, zl_99, zl_102, zl_126, zl_180, zl_360, zl_376, zl_1880, zl_2256, zl_2903, z_add, z_sub, z_mul, z_neg, z_lt, z_le, z_eq, z_in]
    exact wT (by omega) (k v)
  | succ n ih =>
    intro s r j v hs hj hn k
    subst hj
    unfold bFold at k
    have e2 : 2 - n = r := by omega
    rw [e2] at k
    unfold wp_X5_best_L12
    simp (disch := omega) only [zl_0, zl_1, zl_2, zl_3, zl_4, zl_5, zl_6, zl_7, zl_8, zl_9, zl_10, zl_11, zl_12, zl_24, zl_31, zl_32, zl_33, zl_36, zl_48, zl_49, zl_54, zl_59, zl_60, zl_61, zl_97, zl_99, zl_102, zl_126, zl_180, zl_360, zl_376, zl_1880, zl_2256, zl_2903, z_add, z_sub, z_mul, z_neg, z_lt, z_le, z_eq, z_in]
    refine wF (by omega) (X5_tries_ok (vd := thenW vd v) hR hW (fun v1 hv1 v2 hv2 => ?_))
    have e3 : thenW (thenW vd v) v1 = thenW vd v1 := rfl
    rw [e3, tw_2, tw_tw, z_nat (by omega)] at hv2
    subst hv2
    rw [tw_2]
    refine X5_fillsAll_ok (A := aRr A r) hv1.rr (hW.rr (by omega)) (fun v3 hv3 => ?_)
    have ea : aR (aRr A r) = r := rfl
    rw [ea, aFA_rr] at hv3 ⊢
    have hW2 : Wf (aFA r 6 A) := hW.fa
    generalize aFA r 6 A = X at k hv3 hW2 ⊢
    have hW3 : Wf (aRr X r) := hW2.rr (by omega)
    have ecl : aCl (aRr X r) = aCl X := rfl
    have eal : aAll (aRr X r) = aAll X := rfl
    rw [ecl]
    have e4 : ∀ w, md_then (thenW vd (upd v1 1 (zz r))) w = thenW vd w := fun w => rfl
    have ew : v3 (zz 3).toNatClampNeg = aW X := hv3.2.2.2.1
    have hcl := aCl_r (A := X)
    have hal := aAll_r hW2
    obtain ⟨s1, s2, s3, s4⟩ := hs
    have hsn := bStep_ok (s := s) hW2 (r := r) (by omega) ⟨s1, s2, s3, s4⟩
    have done : (s.1 = -1 ∨ better s X) → wp_X5_best_c100 (zz r) (wp_X5_best_L12 K (n + 1)) (zz (aCl X)) (thenW vd v3) := fun h => by
      unfold wp_X5_best_c100
      unfold bStep at k hsn
      rw [if_pos h] at k hsn
      have := ih (s := (r, aCl X, aW X, aAll X)) (r := r + 1) (j := (r : Int) + 1) (v := v3) hsn (by omega) (by omega) k
      rw [tw_2]
      refine X5_all_ok hv3 hW3 ?_
      rw [eal]
      simp (disch := omega) only [zl_0, zl_1, zl_2, zl_3, zl_4, zl_5, zl_6, zl_7, zl_8, zl_9, zl_10, zl_11, zl_12, zl_24, zl_31, zl_32, zl_33, zl_36, zl_48, zl_49, zl_54, zl_59, zl_60, zl_61, zl_97, zl_99, zl_102, zl_126, zl_180, zl_360, zl_376, zl_1880, zl_2256, zl_2903, z_add, z_sub, z_mul, z_neg, z_lt, z_le, z_eq, z_in, ew]
      exact this
    have skip : ¬ (s.1 = -1 ∨ better s X) → wp_X5_best_L12 K (n + 1) (zz s.1) (zz s.2.1) s.2.2.1 (zz s.2.2.2) (zz ((r : Int) + 1)) (thenW vd v3) := fun h => by
      unfold bStep at k hsn
      rw [if_neg h] at k hsn
      exact ih (r := r + 1) hsn (by omega) (by omega) k
    clear ih k hsn
    have c1 : (aW X < s.2.2.1 ∨ (aW X = s.2.2.1 ∧ aAll X < s.2.2.2)) → wp_X5_best_c76 (zz s.1) (zz s.2.1) s.2.2.1 (zz s.2.2.2) (zz r) (wp_X5_best_L12 K (n + 1)) (zz (aCl X)) (zz 1) (thenW vd v3) := fun h => by
      unfold wp_X5_best_c76
      simp (disch := omega) only [zl_0, zl_1, zl_2, zl_3, zl_4, zl_5, zl_6, zl_7, zl_8, zl_9, zl_10, zl_11, zl_12, zl_24, zl_31, zl_32, zl_33, zl_36, zl_48, zl_49, zl_54, zl_59, zl_60, zl_61, zl_97, zl_99, zl_102, zl_126, zl_180, zl_360, zl_376, zl_1880, zl_2256, zl_2903, z_add, z_sub, z_mul, z_neg, z_lt, z_le, z_eq, z_in]
      exact wB rfl (fun h1 => done (.inl h1)) (fun h1 => wB rfl (fun h2 => done (.inr (.inl (by omega)))) (fun h2 => wB rfl (fun h3 => wF (by omega) (done (.inr (.inr ⟨by omega, h⟩)))) (fun h3 => skip (by
        rintro (h4 | h4 | h4)
        · exact h1 h4
        · omega
        · have := h4.1; omega))))
    have c0 : ¬ (aW X < s.2.2.1 ∨ (aW X = s.2.2.1 ∧ aAll X < s.2.2.2)) → wp_X5_best_c76 (zz s.1) (zz s.2.1) s.2.2.1 (zz s.2.2.2) (zz r) (wp_X5_best_L12 K (n + 1)) (zz (aCl X)) (zz 0) (thenW vd v3) := fun h => by
      unfold wp_X5_best_c76
      simp (disch := omega) only [zl_0, zl_1, zl_2, zl_3, zl_4, zl_5, zl_6, zl_7, zl_8, zl_9, zl_10, zl_11, zl_12, zl_24, zl_31, zl_32, zl_33, zl_36, zl_48, zl_49, zl_54, zl_59, zl_60, zl_61, zl_97, zl_99, zl_102, zl_126, zl_180, zl_360, zl_376, zl_1880, zl_2256, zl_2903, z_add, z_sub, z_mul, z_neg, z_lt, z_le, z_eq, z_in]
      exact wB rfl (fun h1 => done (.inl h1)) (fun h1 => wB rfl (fun h2 => done (.inr (.inl (by omega)))) (fun h2 => wB rfl (fun h3 => wT trivial (skip (by
        rintro (h4 | h4 | h4)
        · exact h1 h4
        · omega
        · exact h h4.2))) (fun h3 => skip (by
        rintro (h4 | h4 | h4)
        · exact h1 h4
        · omega
        · have := h4.1; omega))))
    show ((v3 (zz 3).toNatClampNeg < s.2.2.1 → wp_X5_best_c76 _ _ _ _ _ _ _ _ (thenW vd v3)) ∧ (¬ v3 (zz 3).toNatClampNeg < s.2.2.1 → ((v3 (zz 3).toNatClampNeg = s.2.2.1 → wp_X5_all v3 _) ∧ (¬ v3 (zz 3).toNatClampNeg = s.2.2.1 → wp_X5_best_c76 _ _ _ _ _ _ _ _ (thenW vd v3)))))
    rw [ew]
    refine wB rfl (fun h => c1 (.inl h)) (fun h => wB rfl (fun h1 => X5_all_ok hv3 hW3 ?_) (fun h1 => c0 ?_))
    · rw [eal, z_le (by omega)]
      refine wB rfl (fun h2 => c0 ?_) (fun h2 => c1 (.inr ⟨h1, by omega⟩))
      rintro (h3 | ⟨h3, h4⟩)
      · exact h h3
      · omega
    · rintro (h3 | ⟨h3, h4⟩)
      · exact h h3
      · exact h1 h3
theorem X5_best_ok {vd : Md} {A : Ab} (hR : RepM vd.1 A) (hW : Wf A) {post : Int32 → Md → Prop} (k : ∀ v, post (zz (bFold A 3 (-1, 0, 0, 0)).1) (thenW vd v)) : wp_X5_best vd post := by
  refine ⟨4, ?_⟩
  have e : vd = thenW vd vd.2.1 := rfl
  have h := X5_best_L_ok (vd := vd) hR hW (K := fun e4 e5 => post e4 e5) (n := 3) (s := (-1, 0, 0, 0)) (r := 0) (j := 0) (v := vd.2.1) ⟨by decide, by decide, by decide, by decide⟩ rfl rfl k
  rw [← e] at h
  exact h
theorem X5_bestRule_ok {vd : Md} {S : SS} (hM : InvM vd S) (hW : WfS S) {post : Int32 → Md → Prop} (k : ∀ vd1, InvM vd1 S → post (o_best S).2.1 vd1) : wp_X5_bestRule vd post := by
  unfold wp_X5_bestRule
  intro v1 hv1
  subst hv1
  exact X5_best_ok (vd := md_thrown vd 0) hM.1 hW.1 (fun v => k _ ⟨hM.1, hM.2⟩)
