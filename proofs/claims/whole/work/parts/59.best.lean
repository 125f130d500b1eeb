/-! The best rule, of both. -/
abbrev bS : Type := Int × Nat × Int32 × Nat
abbrev better (s : bS) (X : Ab) : Prop := s.2.1 < aCl X ∨ (aCl X = s.2.1 ∧ (aW X < s.2.2.1 ∨ (aW X = s.2.2.1 ∧ aAll X < s.2.2.2)))
def bStep (s : bS) (X : Ab) (r : Nat) : bS := if s.1 = -1 ∨ better s X then (r, aCl X, aW X, aAll X) else s
def bFold (A : Ab) : Nat → bS → bS
  | 0, s => s
  | n + 1, s => bFold A n (bStep s (aFA (2 - n) 6 A) (2 - n))
def bOkS (s : bS) : Prop := -1 ≤ s.1 ∧ s.1 ≤ 2 ∧ s.2.1 ≤ 6 ∧ s.2.2.2 ≤ 360
theorem aCl_r {A : Ab} : aCl A ≤ 6 := by
  have : aCl A ≤ 1 * 6 := ps_le (fun _ => n01_le)
  omega
theorem bStep_ok {s : bS} {X : Ab} (hW : Wf X) {r : Nat} (hr : r ≤ 2) (h : bOkS s) : bOkS (bStep s X r) := by
  unfold bStep
  split
  · exact ⟨by show (-1 : Int) ≤ r; omega, by show (r : Int) ≤ 2; omega, aCl_r, aAll_r hW⟩
  · exact h
def o_best (S : SS) : RR := (0, zz (bFold S.1 3 (-1, 0, 0, 0)).1, S)
theorem X4_bestRule_in_ok {r : Nat} (hr : r ≤ 2) {ir : Int} (hir : ir = r) {K : Pc → Prop} {n : Nat} : ∀ {vp : Pc} {A : Ab} {c : Nat} {j : Int}, RepC vp.2.1 A → Wf A → j = c → c + n = 6 → (∀ w1, RepC w1 (aFA r n A) → K (pc_t vp w1)) → wp_X4_bestRule_L32 (zz ir) K (n + 1) (zz j) vp := by
  induction n with
  | zero =>
    intro vp A c j hR hW hj hn k
    subst hj
    unfold wp_X4_bestRule_L32
    simp (disch := omega) only [zl_0, zl_1, zl_2, zl_3, zl_4, zl_5, zl_6, zl_7, zl_8, zl_9, zl_10, zl_11, zl_12, zl_24, zl_31, zl_32, zl_33, zl_36, zl_48, zl_49, zl_54, zl_59, zl_60, zl_61, zl_97, zl_99, zl_102, zl_126, zl_180, zl_360, zl_376, zl_1880, zl_2256, zl_2903, z_add, z_sub, z_mul, z_neg, z_lt, z_le, z_eq, z_in]
    exact wT (by omega) (k vp.2.1 hR)
  | succ n ih =>
    intro vp A c j hR hW hj hn k
    subst hj
    unfold wp_X4_bestRule_L32
    simp (disch := omega) only [zl_0, zl_1, zl_2, zl_3, zl_4, zl_5, zl_6, zl_7, zl_8, zl_9, zl_10, zl_11, zl_12, zl_24, zl_31, zl_32, zl_33, zl_36, zl_48, zl_49, zl_54, zl_59, zl_60, zl_61, zl_97, zl_99, zl_102, zl_126, zl_180, zl_360, zl_376, zl_1880, zl_2256, zl_2903, z_add, z_sub, z_mul, z_neg, z_lt, z_le, z_eq, z_in]
    refine wF (by omega) (X2_fillCourse_ok hR hW (c := c) (r := r) (by omega) rfl hir hr (fun w1 h1 => ?_))
    refine ih (vp := pc_t vp w1) h1 (hW.fills (by omega)) (c := c + 1) (by omega) (by omega) (fun w2 h2 => k w2 ?_)
    have e : c = 5 - n := by omega
    subst e
    exact h2
theorem X4_bestRule_L_ok {vp0 : Pc} {A : Ab} (hR : RepC vp0.1 A) (hW : Wf A) {K : Int32 → Pc → Prop} {n : Nat} : ∀ {s : bS} {r : Nat} {j : Int} {vt : Mo}, bOkS s → j = r → r + n = 3 → (∀ vt1, K (zz (bFold A n s).1) (pc_t vp0 vt1)) → wp_X4_bestRule_L12 K (n + 1) (zz s.1) (zz s.2.1) s.2.2.1 (zz s.2.2.2) (zz j) (pc_t vp0 vt) := by
  induction n with
  | zero =>
    intro s r j vt hs hj hn k
    subst hj
    unfold wp_X4_bestRule_L12
    simp (disch := omega) only [zl_0, zl_1, zl_2, zl_3, zl_4, zl_5, zl_6, zl_7, zl_8, zl_9, zl_10, zl_11, zl_12, zl_24, zl_31, zl_32, zl_33, zl_36, zl_48, zl_49, zl_54, zl_59, zl_60, zl_61, zl_97, zl_99, zl_102, zl_126, zl_180, zl_360, zl_376, zl_1880, zl_2256, zl_2903, z_add, z_sub, z_mul, z_neg, z_lt, z_le, z_eq, z_in]
    exact wT (by omega) (k vt)
  | succ n ih =>
    intro s r j vt hs hj hn k
    subst hj
    unfold bFold at k
    have e2 : 2 - n = r := by omega
    rw [e2] at k
    unfold wp_X4_bestRule_L12
    simp (disch := omega) only [zl_0, zl_1, zl_2, zl_3, zl_4, zl_5, zl_6, zl_7, zl_8, zl_9, zl_10, zl_11, zl_12, zl_24, zl_31, zl_32, zl_33, zl_36, zl_48, zl_49, zl_54, zl_59, zl_60, zl_61, zl_97, zl_99, zl_102, zl_126, zl_180, zl_360, zl_376, zl_1880, zl_2256, zl_2903, z_add, z_sub, z_mul, z_neg, z_lt, z_le, z_eq, z_in]
    refine wF (by omega) (X2_become_ok hR (fun w1 h1 => ⟨7, X4_bestRule_in_ok (r := r) (by omega) rfl (vp := pc_t vp0 w1) (n := 6) (c := 0) (j := 0) h1 hW rfl rfl (fun w2 h2 => ?_)⟩))
    have hW2 : Wf (aFA r 6 A) := hW.fa
    generalize aFA r 6 A = X at k h2 hW2
    refine X2_summed_ok (A := X) h2 hW2 (t := 3) (j := 3) (by omega) rfl (X2_wasted_ok (A := X) h2 hW2 (X2_summed_ok (A := X) h2 hW2 (t := 1) (j := 1) (by omega) rfl ?_))
    rw [sum_cl, sum_all]
    have hcl := aCl_r (A := X)
    have hal := aAll_r hW2
    obtain ⟨s1, s2, s3, s4⟩ := hs
    have hsn := bStep_ok (s := s) hW2 (r := r) (by omega) ⟨s1, s2, s3, s4⟩
    have no : ¬ better s X → wp_X4_bestRule_c138 (zz s.1) (zz s.2.1) s.2.2.1 (zz s.2.2.2) (zz r) (wp_X4_bestRule_L12 K (n + 1)) (zz (aCl X)) (aW X) (zz (aAll X)) (zz 0) (pc_t (pc_t vp0 w1) w2) := fun h => by
      unfold wp_X4_bestRule_c138
      unfold bStep at k hsn
      simp (disch := omega) only [zl_0, zl_1, zl_2, zl_3, zl_4, zl_5, zl_6, zl_7, zl_8, zl_9, zl_10, zl_11, zl_12, zl_24, zl_31, zl_32, zl_33, zl_36, zl_48, zl_49, zl_54, zl_59, zl_60, zl_61, zl_97, zl_99, zl_102, zl_126, zl_180, zl_360, zl_376, zl_1880, zl_2256, zl_2903, z_add, z_sub, z_mul, z_neg, z_lt, z_le, z_eq, z_in]
      refine wB rfl (fun h5 => ?_) (fun h5 => wT trivial ?_)
      · rw [if_pos (.inl h5)] at k hsn
        exact ih (s := (r, aCl X, aW X, aAll X)) (r := r + 1) hsn (by omega) (by omega) k
      · rw [if_neg (fun h6 => h6.elim h5 h)] at k hsn
        exact ih (r := r + 1) hsn (by omega) (by omega) k
    have yes : better s X → wp_X4_bestRule_c138 (zz s.1) (zz s.2.1) s.2.2.1 (zz s.2.2.2) (zz r) (wp_X4_bestRule_L12 K (n + 1)) (zz (aCl X)) (aW X) (zz (aAll X)) (zz 1) (pc_t (pc_t vp0 w1) w2) := fun h => by
      unfold wp_X4_bestRule_c138
      unfold bStep at k hsn
      rw [if_pos (.inr h)] at k hsn
      have := ih (s := (r, aCl X, aW X, aAll X)) (r := r + 1) (j := (r : Int) + 1) (vt := w2) hsn (by omega) (by omega) k
      simp (disch := omega) only [zl_0, zl_1, zl_2, zl_3, zl_4, zl_5, zl_6, zl_7, zl_8, zl_9, zl_10, zl_11, zl_12, zl_24, zl_31, zl_32, zl_33, zl_36, zl_48, zl_49, zl_54, zl_59, zl_60, zl_61, zl_97, zl_99, zl_102, zl_126, zl_180, zl_360, zl_376, zl_1880, zl_2256, zl_2903, z_add, z_sub, z_mul, z_neg, z_lt, z_le, z_eq, z_in]
      exact wB rfl (fun h5 => this) (fun h5 => wF (by omega) this)
    clear ih k
    simp (disch := omega) only [zl_0, zl_1, zl_2, zl_3, zl_4, zl_5, zl_6, zl_7, zl_8, zl_9, zl_10, zl_11, zl_12, zl_24, zl_31, zl_32, zl_33, zl_36, zl_48, zl_49, zl_54, zl_59, zl_60, zl_61, zl_97, zl_99, zl_102, zl_126, zl_180, zl_360, zl_376, zl_1880, zl_2256, zl_2903, z_add, z_sub, z_mul, z_neg, z_lt, z_le, z_eq, z_in]
    refine wB rfl (fun h => wB rfl (fun h3 => wB rfl (fun h4 => no ?_) (fun h4 => yes ?_)) (fun h3 => wB rfl (fun h4 => no ?_) (fun h4 => yes ?_))) (fun h => wB rfl (fun h3 => no ?_) (fun h3 => yes ?_))
    · rintro (h5 | ⟨h5, h6 | ⟨h6, h7⟩⟩)
      · omega
      · rw [h3] at h6; exact Int32.lt_irrefl h6
      · omega
    · exact .inr ⟨by omega, .inr ⟨h3, by omega⟩⟩
    · rintro (h5 | ⟨h5, h6 | ⟨h6, h7⟩⟩)
      · omega
      · exact absurd h6 (Int32.not_lt.mpr h4)
      · exact h3 h6
    · exact .inr ⟨by omega, .inl (Int32.not_le.mp h4)⟩
    · rintro (h5 | ⟨h5, h6⟩)
      · omega
      · omega
    · exact .inl (by omega)
theorem X4_bestRule_ok {vp : Pc} {S : SS} (hC : InvC vp S) (hW : WfS S) {post : Int32 → Pc → Prop} (k0 : ∀ vp1, InvC vp1 S → post (o_best S).2.1 vp1) : wp_X4_bestRule vp post := by
  refine ⟨4, ?_⟩
  have e : vp = pc_t vp vp.2.1 := rfl
  have h := X4_bestRule_L_ok (vp0 := vp) hC.1 hW.1 (K := fun e4 e5 => post e4 e5) (n := 3) (s := (-1, 0, 0, 0)) (r := 0) (j := 0) (vt := vp.2.1) ⟨by decide, by decide, by decide, by decide⟩ rfl rfl (fun vt1 => k0 _ ⟨hC.1, hC.2⟩)
  rw [← e] at h
  exact h
