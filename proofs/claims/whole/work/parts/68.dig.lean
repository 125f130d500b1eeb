/-! THE DIGEST: its terms, in order; of the class. -/
def dF (v : Nat → Int32) : Nat → Nat → Int64 → Int64
  | 0, _, h => h
  | n + 1, i, h => dF v n (i + 1) (31 * h + (v i).toInt64)
def dG (v w : Nat → Int32) : Nat → Nat → Int64 → Int64
  | 0, _, h => h
  | n + 1, i, h => dG v w n (i + 1) (31 * (31 * h + (v i).toInt64) + (w i).toInt64)
def vC (S : SS) (t : Nat) : Int32 := aCnt S.1 S.2.1.length t
def vS (A : Ab) (t : Nat) : Int32 := zz (aSet A t)
def vK (A : Ab) (t : Nat) : Int32 := zz (aS A t)
def vP (A : Ab) (c t : Nat) : Int32 := zz (aProp A c t)
def vA (A : Ab) (c p : Nat) : Int32 := zz (aAt (aZ A c) (aK A c) p)
def vR (A : Ab) (c p : Nat) : Int32 := zz (bB (aRun A c p))
def vI (A : Ab) (c k : Nat) : Int32 := zz (aIf A c (k / 3) (k % 3))
def vX (S : SS) (i : Nat) : Int32 := zz (S.2.2.2 i)
def dOne (A : Ab) (c : Nat) (h : Int64) : Int64 := dF (vI A c) 6 0 (31 * (31 * (dG (vA A c) (vR A c) (cel A c) 0 (dF (vP A c) 7 0 h)) + (zz (aClo A c).1).toInt64) + (zz (aClo A c).2).toInt64)
def dC (A : Ab) : Nat → Nat → Int64 → Int64
  | 0, _, h => h
  | n + 1, c, h => dC A n (c + 1) (dOne A c h)
def dg (S : SS) : Int64 := dF (vX S) S.2.2.1 0 (31 * (31 * (31 * (dC S.1 6 0 (dF (vK S.1) 6 1 (dF (vS S.1) 3 0 (dF (vC S) 8 0 2903)))) + (o_best S).2.1.toInt64) + (aSh S.1).toInt64) + (zz S.2.2.1).toInt64)
theorem X4_count_n_ok {vp : Pc} {S : SS} (hC : InvC vp S) (hW : WfS S) {t : Nat} (ht : t ≤ 7) {it : Int} (hi : it = t) {post : Int32 → Prop} (k : post (vC S t)) : wp_X4_count_n vp (zz it) post := by
  have h := X4_count_c_ok hC hW ht hi (pX := fun _ => False) k
  unfold wp_X4_count_n
  simp (disch := omega) only [zl_0, zl_1, zl_2, zl_3, zl_4, zl_5, zl_6, zl_7, zl_8, zl_9, zl_10, zl_11, zl_12, zl_24, zl_31, zl_32, zl_33, zl_36, zl_48, zl_49, zl_54, zl_59, zl_60, zl_61, zl_97, zl_99, zl_102, zl_126, zl_180, zl_360, zl_376, zl_1880, zl_2256, zl_2903, z_add, z_sub, z_mul, z_neg, z_lt, z_le, z_eq, z_in]
  exact wF (by omega) (wF (by omega) h)
theorem X4_digest_L6_ok {vp : Pc} {S : SS} (hC : InvC vp S) (hW : WfS S) {K : Int64 → Prop} {d : Nat} : ∀ {t : Nat} {h : Int64} {j : Int}, j = t → t + d = 8 → K (dF (vC S) d t h) → wp_X4_digest_L6 vp K (d + 1) h (zz j) := by
  induction d with
  | zero =>
    intro t h j hj hd k
    subst hj
    unfold wp_X4_digest_L6
    
    simp (disch := omega) only [zl_0, zl_1, zl_2, zl_3, zl_4, zl_5, zl_6, zl_7, zl_8, zl_9, zl_10, zl_11, zl_12, zl_24, zl_31, zl_32, zl_33, zl_36, zl_48, zl_49, zl_54, zl_59, zl_60, zl_61, zl_97, zl_99, zl_102, zl_126, zl_180, zl_360, zl_376, zl_1880, zl_2256, zl_2903, z_add, z_sub, z_mul, z_neg, z_lt, z_le, z_eq, z_in]
    exact wT (by omega) k
  | succ d ih =>
    intro t h j hj hd k
    subst hj
    unfold wp_X4_digest_L6
    
    simp (disch := omega) only [zl_0, zl_1, zl_2, zl_3, zl_4, zl_5, zl_6, zl_7, zl_8, zl_9, zl_10, zl_11, zl_12, zl_24, zl_31, zl_32, zl_33, zl_36, zl_48, zl_49, zl_54, zl_59, zl_60, zl_61, zl_97, zl_99, zl_102, zl_126, zl_180, zl_360, zl_376, zl_1880, zl_2256, zl_2903, z_add, z_sub, z_mul, z_neg, z_lt, z_le, z_eq, z_in]
    refine wF (by omega) (X4_count_n_ok hC hW (t := t) (by omega) rfl ?_)
    unfold wp_X4_mixed
    exact ih (t := t + 1) (by omega) (by omega) k
theorem X4_digest_L31_ok {vp : Pc} {S : SS} (hC : InvC vp S) (hW : WfS S) {K : Int64 → Prop} {d : Nat} : ∀ {t : Nat} {h : Int64} {j : Int}, j = t → t + d = 3 → K (dF (vS S.1) d t h) → wp_X4_digest_L31 vp K (d + 1) h (zz j) := by
  induction d with
  | zero =>
    intro t h j hj hd k
    subst hj
    unfold wp_X4_digest_L31
    
    simp (disch := omega) only [zl_0, zl_1, zl_2, zl_3, zl_4, zl_5, zl_6, zl_7, zl_8, zl_9, zl_10, zl_11, zl_12, zl_24, zl_31, zl_32, zl_33, zl_36, zl_48, zl_49, zl_54, zl_59, zl_60, zl_61, zl_97, zl_99, zl_102, zl_126, zl_180, zl_360, zl_376, zl_1880, zl_2256, zl_2903, z_add, z_sub, z_mul, z_neg, z_lt, z_le, z_eq, z_in]
    exact wT (by omega) k
  | succ d ih =>
    intro t h j hj hd k
    subst hj
    unfold wp_X4_digest_L31
    
    simp (disch := omega) only [zl_0, zl_1, zl_2, zl_3, zl_4, zl_5, zl_6, zl_7, zl_8, zl_9, zl_10, zl_11, zl_12, zl_24, zl_31, zl_32, zl_33, zl_36, zl_48, zl_49, zl_54, zl_59, zl_60, zl_61, zl_97, zl_99, zl_102, zl_126, zl_180, zl_360, zl_376, zl_1880, zl_2256, zl_2903, z_add, z_sub, z_mul, z_neg, z_lt, z_le, z_eq, z_in]
    refine wF (by omega) (X2_settingOf_ok hC.1 hW.1 (t := t) (by omega) rfl ?_)
    unfold wp_X4_mixed
    exact ih (t := t + 1) (by omega) (by omega) k
theorem X4_digest_L58_ok {vp : Pc} {S : SS} (hC : InvC vp S) (hW : WfS S) {K : Int64 → Prop} {d : Nat} : ∀ {t : Nat} {h : Int64} {j : Int}, j = t → (t + d = 7 ∧ 1 ≤ t) → K (dF (vK S.1) d t h) → wp_X4_digest_L58 vp K (d + 1) h (zz j) := by
  induction d with
  | zero =>
    intro t h j hj hd k
    subst hj
    unfold wp_X4_digest_L58
    
    simp (disch := omega) only [zl_0, zl_1, zl_2, zl_3, zl_4, zl_5, zl_6, zl_7, zl_8, zl_9, zl_10, zl_11, zl_12, zl_24, zl_31, zl_32, zl_33, zl_36, zl_48, zl_49, zl_54, zl_59, zl_60, zl_61, zl_97, zl_99, zl_102, zl_126, zl_180, zl_360, zl_376, zl_1880, zl_2256, zl_2903, z_add, z_sub, z_mul, z_neg, z_lt, z_le, z_eq, z_in]
    exact wT (by omega) k
  | succ d ih =>
    intro t h j hj hd k
    subst hj
    unfold wp_X4_digest_L58
    
    simp (disch := omega) only [zl_0, zl_1, zl_2, zl_3, zl_4, zl_5, zl_6, zl_7, zl_8, zl_9, zl_10, zl_11, zl_12, zl_24, zl_31, zl_32, zl_33, zl_36, zl_48, zl_49, zl_54, zl_59, zl_60, zl_61, zl_97, zl_99, zl_102, zl_126, zl_180, zl_360, zl_376, zl_1880, zl_2256, zl_2903, z_add, z_sub, z_mul, z_neg, z_lt, z_le, z_eq, z_in]
    refine wF (by omega) (X2_inStock_ok hC.1 hW.1 (s := t) (by omega) rfl ?_)
    unfold wp_X4_mixed
    exact ih (t := t + 1) (by omega) (by omega) k
theorem X4_mixedWithCourse_L6_ok {vp : Pc} {S : SS} (hC : InvC vp S) (hW : WfS S) {c : Nat} (hc : c < 6) {K : Int64 → Prop} {d : Nat} : ∀ {t : Nat} {h : Int64} {j : Int}, j = t → t + d = 7 → K (dF (vP S.1 c) d t h) → wp_X4_mixedWithCourse_L6 vp (zz c) K (d + 1) h (zz j) := by
  induction d with
  | zero =>
    intro t h j hj hd k
    subst hj
    unfold wp_X4_mixedWithCourse_L6
    
    simp (disch := omega) only [zl_0, zl_1, zl_2, zl_3, zl_4, zl_5, zl_6, zl_7, zl_8, zl_9, zl_10, zl_11, zl_12, zl_24, zl_31, zl_32, zl_33, zl_36, zl_48, zl_49, zl_54, zl_59, zl_60, zl_61, zl_97, zl_99, zl_102, zl_126, zl_180, zl_360, zl_376, zl_1880, zl_2256, zl_2903, z_add, z_sub, z_mul, z_neg, z_lt, z_le, z_eq, z_in]
    exact wT (by omega) k
  | succ d ih =>
    intro t h j hj hd k
    subst hj
    unfold wp_X4_mixedWithCourse_L6
    
    simp (disch := omega) only [zl_0, zl_1, zl_2, zl_3, zl_4, zl_5, zl_6, zl_7, zl_8, zl_9, zl_10, zl_11, zl_12, zl_24, zl_31, zl_32, zl_33, zl_36, zl_48, zl_49, zl_54, zl_59, zl_60, zl_61, zl_97, zl_99, zl_102, zl_126, zl_180, zl_360, zl_376, zl_1880, zl_2256, zl_2903, z_add, z_sub, z_mul, z_neg, z_lt, z_le, z_eq, z_in]
    refine wF (by omega) (X2_property_ok hC.1 hW.1 (c := c) (t := t) (by omega) (by omega) rfl rfl ?_)
    unfold wp_X4_mixed
    exact ih (t := t + 1) (by omega) (by omega) k
theorem X4_digest_L145_ok {vp : Pc} {S : SS} (hC : InvC vp S) (hW : WfS S) {K : Int64 → Prop} {d : Nat} : ∀ {t : Nat} {h : Int64} {j : Int}, j = t → t + d = S.2.2.1 → K (dF (vX S) d t h) → wp_X4_digest_L145 vp (zz S.2.2.1) K (d + 1) h (zz j) := by
  have hn := hW.2.2.2.1
  induction d with
  | zero =>
    intro t h j hj hd k
    subst hj
    unfold wp_X4_digest_L145
    simp (disch := omega) only [zl_0, zl_1, zl_2, zl_3, zl_4, zl_5, zl_6, zl_7, zl_8, zl_9, zl_10, zl_11, zl_12, zl_24, zl_31, zl_32, zl_33, zl_36, zl_48, zl_49, zl_54, zl_59, zl_60, zl_61, zl_97, zl_99, zl_102, zl_126, zl_180, zl_360, zl_376, zl_1880, zl_2256, zl_2903, z_add, z_sub, z_mul, z_neg, z_lt, z_le, z_eq, z_in]
    exact wT (by omega) k
  | succ d ih =>
    intro t h j hj hd k
    subst hj
    unfold wp_X4_digest_L145
    simp (disch := omega) only [zl_0, zl_1, zl_2, zl_3, zl_4, zl_5, zl_6, zl_7, zl_8, zl_9, zl_10, zl_11, zl_12, zl_24, zl_31, zl_32, zl_33, zl_36, zl_48, zl_49, zl_54, zl_59, zl_60, zl_61, zl_97, zl_99, zl_102, zl_126, zl_180, zl_360, zl_376, zl_1880, zl_2256, zl_2903, z_add, z_sub, z_mul, z_neg, z_lt, z_le, z_eq, z_in]
    refine wF (by omega) (X3_signAt_ok hC.2.2 hn hW.2.2.2.2 (by omega) ?_)
    rw [sg_in (p := t) rfl (by omega)]
    unfold wp_X4_mixed
    exact ih (t := t + 1) (by omega) (by omega) k
theorem X4_mixedWithCourse_L50_ok {vp : Pc} {S : SS} (hC : InvC vp S) (hW : WfS S) {c : Nat} (hc : c < 6) {K : Int64 → Prop} {d : Nat} : ∀ {t : Nat} {h : Int64} {j : Int}, j = t → t + d = cel S.1 c → K (dG (vA S.1 c) (vR S.1 c) d t h) → wp_X4_mixedWithCourse_L50 vp (zz c) (zz (cel S.1 c)) K (d + 1) h (zz j) := by
  have hn := cel_r hW.1 hc
  induction d with
  | zero =>
    intro t h j hj hd k
    subst hj
    unfold wp_X4_mixedWithCourse_L50
    simp (disch := omega) only [zl_0, zl_1, zl_2, zl_3, zl_4, zl_5, zl_6, zl_7, zl_8, zl_9, zl_10, zl_11, zl_12, zl_24, zl_31, zl_32, zl_33, zl_36, zl_48, zl_49, zl_54, zl_59, zl_60, zl_61, zl_97, zl_99, zl_102, zl_126, zl_180, zl_360, zl_376, zl_1880, zl_2256, zl_2903, z_add, z_sub, z_mul, z_neg, z_lt, z_le, z_eq, z_in]
    exact wT (by omega) k
  | succ d ih =>
    intro t h j hj hd k
    subst hj
    unfold wp_X4_mixedWithCourse_L50
    simp (disch := omega) only [zl_0, zl_1, zl_2, zl_3, zl_4, zl_5, zl_6, zl_7, zl_8, zl_9, zl_10, zl_11, zl_12, zl_24, zl_31, zl_32, zl_33, zl_36, zl_48, zl_49, zl_54, zl_59, zl_60, zl_61, zl_97, zl_99, zl_102, zl_126, zl_180, zl_360, zl_376, zl_1880, zl_2256, zl_2903, z_add, z_sub, z_mul, z_neg, z_lt, z_le, z_eq, z_in]
    refine wF (by omega) (X2_sizeAt_ok hC.1 hW.1 (c := c) (p := t) hc rfl rfl (by omega) ?_)
    unfold wp_X4_mixed
    refine X2_runsThrough_ok hC.1 hW.1 (c := c) (p := t) hc rfl rfl (by omega) (X4_numberOf_ok ?_)
    exact ih (t := t + 1) (by omega) (by omega) k
theorem X4_mixedWithCourse_L147_ok {S : SS} (hW : WfS S) {c : Nat} (hc : c < 6) {K : Int64 → Pc → Prop} {d : Nat} : ∀ {vp : Pc} {r : Nat} {h : Int64} {j : Int}, InvC vp S → j = r → r + d = 2 → (∀ vp1, InvC vp1 S → K (dF (vI S.1 c) (3 * d) (3 * r) h) vp1) → wp_X4_mixedWithCourse_L147 (zz c) K (d + 1) h (zz j) vp := by
  induction d with
  | zero =>
    intro vp r h j hC hj hd k
    subst hj
    unfold wp_X4_mixedWithCourse_L147
    simp (disch := omega) only [zl_0, zl_1, zl_2, zl_3, zl_4, zl_5, zl_6, zl_7, zl_8, zl_9, zl_10, zl_11, zl_12, zl_24, zl_31, zl_32, zl_33, zl_36, zl_48, zl_49, zl_54, zl_59, zl_60, zl_61, zl_97, zl_99, zl_102, zl_126, zl_180, zl_360, zl_376, zl_1880, zl_2256, zl_2903, z_add, z_sub, z_mul, z_neg, z_lt, z_le, z_eq, z_in]
    exact wT (by omega) (k vp hC)
  | succ d ih =>
    intro vp r h j hC hj hd k
    subst hj
    have e : dF (vI S.1 c) (3 * (d + 1)) (3 * r) h = dF (vI S.1 c) (3 * d) (3 * (r + 1)) (31 * (31 * (31 * h + (vI S.1 c (3 * r)).toInt64) + (vI S.1 c (3 * r + 1)).toInt64) + (vI S.1 c (3 * r + 2)).toInt64) := by
      rw [show 3 * (d + 1) = 3 * d + 1 + 1 + 1 by omega, show 3 * (r + 1) = 3 * r + 1 + 1 + 1 by omega]
      rfl
    have hW2 := hW.1.fills (r := r) (n := 60) hc
    have e0 : vI S.1 c (3 * r) = zz ((cel (aFills c r 60 S.1).2 c - tak (aFills c r 60 S.1).2 c : Nat)) := by
      unfold vI aIf
      rw [show 3 * r / 3 = r by omega, show 3 * r % 3 = 0 by omega, if_pos rfl]
    have e1 : vI S.1 c (3 * r + 1) = zz ((aFills c r 60 S.1).1 : Nat) := by
      unfold vI aIf
      rw [show (3 * r + 1) / 3 = r by omega, show (3 * r + 1) % 3 = 1 by omega, if_neg (by decide), if_pos rfl]
    have e2 : vI S.1 c (3 * r + 2) = zz (aMe (aFills c r 60 S.1).2 c : Nat) := by
      unfold vI aIf
      rw [show (3 * r + 2) / 3 = r by omega, show (3 * r + 2) % 3 = 2 by omega, if_neg (by decide), if_neg (by decide)]
    rw [e, e0, e1, e2] at k
    clear e e0 e1 e2
    unfold wp_X4_mixedWithCourse_L147
    simp (disch := omega) only [zl_0, zl_1, zl_2, zl_3, zl_4, zl_5, zl_6, zl_7, zl_8, zl_9, zl_10, zl_11, zl_12, zl_24, zl_31, zl_32, zl_33, zl_36, zl_48, zl_49, zl_54, zl_59, zl_60, zl_61, zl_97, zl_99, zl_102, zl_126, zl_180, zl_360, zl_376, zl_1880, zl_2256, zl_2903, z_add, z_sub, z_mul, z_neg, z_lt, z_le, z_eq, z_in]
    refine wF (by omega) (X2_become_ok hC.1 (fun w1 h1 => X2_fillCourse_ok h1 hW.1 (c := c) (r := r) hc rfl rfl (by omega) (fun w2 h2 => ?_)))
    generalize aFills c r 60 S.1 = X at k hW2 h2 ⊢
    refine X2_freeOf_ok (A := X.2) h2 hW2 hc rfl ?_
    unfold wp_X4_mixed
    refine X2_meetingJointsOf_ok (A := X.2) h2 hW2 hc rfl ?_
    exact ih (vp := pc_t (pc_t vp w1) w2) (r := r + 1) ⟨hC.1, hC.2⟩ (by omega) (by omega) k
theorem X4_mixedWithCourse_ok {vp : Pc} {S : SS} (hC : InvC vp S) (hW : WfS S) {c : Nat} (hc : c < 6) {h : Int64} {ic : Int} (hi : ic = c) {post : Int64 → Pc → Prop} (k : ∀ vp1, InvC vp1 S → post (dOne S.1 c h) vp1) : wp_X4_mixedWithCourse vp h (zz ic) post := by
  subst hi
  unfold wp_X4_mixedWithCourse
  refine ⟨8, X4_mixedWithCourse_L6_ok hC hW hc (t := 0) (j := 0) rfl rfl (X2_cellsOf_ok hC.1 hW.1 (c := c) hc rfl ⟨cel S.1 c + 1, X4_mixedWithCourse_L50_ok hC hW hc (t := 0) (j := 0) rfl (by omega) (X0_find_ok hC.1 hW.1 (c := c) hc rfl (fun vc h1 h2 => ?_))⟩)⟩
  unfold wp_X0_pebbles wp_X0_firstSize wp_X4_mixed
  refine ⟨3, ?_⟩
  show wp_X4_mixedWithCourse_L147 _ _ _ (31 * (31 * _ + (vc.2.1).toInt64) + (vc.2.2).toInt64) _ (pc_c vp vc)
  rw [h1, h2]
  exact X4_mixedWithCourse_L147_ok hW hc (vp := pc_c vp vc) (r := 0) (j := 0) ⟨hC.1, hC.2⟩ rfl rfl k
theorem X4_digest_L86_ok {S : SS} (hW : WfS S) {K : Int64 → Pc → Prop} {d : Nat} : ∀ {vp : Pc} {c : Nat} {h : Int64} {j : Int}, InvC vp S → j = c → c + d = 6 → (∀ vp1, InvC vp1 S → K (dC S.1 d c h) vp1) → wp_X4_digest_L86 K (d + 1) h (zz j) vp := by
  induction d with
  | zero =>
    intro vp c h j hC hj hd k
    subst hj
    unfold wp_X4_digest_L86
    simp (disch := omega) only [zl_0, zl_1, zl_2, zl_3, zl_4, zl_5, zl_6, zl_7, zl_8, zl_9, zl_10, zl_11, zl_12, zl_24, zl_31, zl_32, zl_33, zl_36, zl_48, zl_49, zl_54, zl_59, zl_60, zl_61, zl_97, zl_99, zl_102, zl_126, zl_180, zl_360, zl_376, zl_1880, zl_2256, zl_2903, z_add, z_sub, z_mul, z_neg, z_lt, z_le, z_eq, z_in]
    exact wT (by omega) (k vp hC)
  | succ d ih =>
    intro vp c h j hC hj hd k
    subst hj
    unfold wp_X4_digest_L86
    simp (disch := omega) only [zl_0, zl_1, zl_2, zl_3, zl_4, zl_5, zl_6, zl_7, zl_8, zl_9, zl_10, zl_11, zl_12, zl_24, zl_31, zl_32, zl_33, zl_36, zl_48, zl_49, zl_54, zl_59, zl_60, zl_61, zl_97, zl_99, zl_102, zl_126, zl_180, zl_360, zl_376, zl_1880, zl_2256, zl_2903, z_add, z_sub, z_mul, z_neg, z_lt, z_le, z_eq, z_in]
    exact wF (by omega) (X4_mixedWithCourse_ok hC hW (c := c) (by omega) rfl (fun vp1 h1 => ih (c := c + 1) h1 (by omega) (by omega) k))
theorem X4_digest_ok {vp : Pc} {S : SS} (hC : InvC vp S) (hW : WfS S) {post : Int64 → Pc → Prop} (k : ∀ vp1, InvC vp1 S → post (dg S) vp1) : wp_X4_digest vp post := by
  unfold dg at k
  unfold wp_X4_digest
  refine ⟨9, X4_digest_L6_ok hC hW (t := 0) (j := 0) rfl rfl ⟨4, X4_digest_L31_ok hC hW (t := 0) (j := 0) rfl rfl ⟨7, X4_digest_L58_ok hC hW (t := 1) (j := 1) rfl ⟨rfl, Nat.le_refl _⟩ ⟨7, X4_digest_L86_ok hW (c := 0) (j := 0) hC rfl rfl (fun vp1 h1 => ?_)⟩⟩⟩⟩
  generalize dC S.1 6 0 (dF (vK S.1) 6 1 (dF (vS S.1) 3 0 (dF (vC S) 8 0 2903))) = D at k ⊢
  refine X4_bestRule_ok h1 hW (fun vp2 h2 => ?_)
  generalize (o_best S).2.1 = B at k ⊢
  unfold wp_X4_mixed
  refine X4_share_ok h2 hW (X4_bitsOf_ok (aSh_ok hW.1) ?_)
  generalize aSh S.1 = H at k ⊢
  unfold wp_X3_length
  rw [show vp2.2.2.2.2.2 = zz S.2.2.1 from h2.2.2.1]
  exact ⟨S.2.2.1 + 1, X4_digest_L145_ok h2 hW (t := 0) (j := 0) rfl (by omega) (k vp2 h2)⟩
