/-! The share, of both. -/
def aTk (A : Ab) : Nat := ps (fun c => tak A c) 6
theorem six {q : Nat → Nat} : ps q 6 = q 0 + q 1 + q 2 + q 3 + q 4 + q 5 := by
  show 0 + q 0 + q 1 + q 2 + q 3 + q 4 + q 5 = _
  omega
theorem cel_sum {A : Ab} (hW : Wf A) : ps (fun c => cel A c) 6 = 6 * aN A - 60 := by
  rw [six]
  have := hW.1
  unfold cel
  omega
theorem aTk_le {A : Ab} (hW : Wf A) : aTk A ≤ 6 * aN A - 60 ∧ ps (fun c => aProp A c 2) 6 = 6 * aN A - 60 - aTk A ∧ ps (fun c => aProp A c 0) 6 = 6 * aN A - 60 := by
  have h := cel_sum hW
  have e0 : ps (fun c => aProp A c 0) 6 = ps (fun c => cel A c) 6 := ps_congr (fun c _ => rfl)
  have e2 : ps (fun c => aProp A c 2) 6 = ps (fun c => cel A c - tak A c) 6 := ps_congr (fun c _ => rfl)
  rw [e0, e2]
  unfold aTk
  rw [six] at h ⊢
  rw [six, six]
  have t0 := hW.2.2.2.2.1 0 (by omega)
  have t1 := hW.2.2.2.2.1 1 (by omega)
  have t2 := hW.2.2.2.2.1 2 (by omega)
  have t3 := hW.2.2.2.2.1 3 (by omega)
  have t4 := hW.2.2.2.2.1 4 (by omega)
  have t5 := hW.2.2.2.2.1 5 (by omega)
  omega
def aSh (A : Ab) : UInt64 := shB (aTk A) (6 * aN A - 60)
theorem aSh_ok {A : Ab} (hW : Wf A) : bChk (aSh A) = true := bChk_all hW.1 (aTk_le hW).1
theorem aSh_n {A : Ab} (hW : Wf A) : vf_n64 (aSh A) ∧ Op.cmpValue (FP.dcmp (aSh A) (aSh A)) CmpOp.l = 0 := by
  have h := aSh_ok hW
  generalize aSh A = x at h ⊢
  unfold bChk at h
  rw [Bool.and_eq_true, Bool.and_eq_true, decide_eq_true_iff, decide_eq_true_iff] at h
  exact ⟨h.1, h.2.1⟩
theorem X4_share_ok {vp : Pc} {S : SS} (hC : InvC vp S) (hW : WfS S) {post : UInt64 → Prop} (k : post (aSh S.1)) : wp_X4_share vp post := by
  obtain ⟨h1, h2, h3⟩ := aTk_le hW.1
  have hn := hW.1.1
  have hv := (aSh_n hW.1).1
  unfold wp_X4_share
  refine X2_summed_ok (A := S.1) hC.1 hW.1 (t := 0) (j := 0) (by omega) rfl (X2_summed_ok (A := S.1) hC.1 hW.1 (t := 2) (j := 2) (by omega) rfl ?_)
  rw [h2, h3, zl_0, z_le (by omega), z_sub, show ((6 * aN S.1 - 60 : Nat) : Int) - ((6 * aN S.1 - 60 - aTk S.1 : Nat) : Int) = (aTk S.1 : Nat) by omega]
  exact wF (by omega) ⟨hv, k⟩
theorem X5_laid_L_ok {vd : Md} {A : Ab} (hR : RepM vd.1 A) (hW : Wf A) {K : Int32 → Int32 → Prop} {n : Nat} : ∀ {c : Nat} {i1 i2 j : Int}, i1 = (ps (fun c => tak A c) c : Nat) → i2 = (ps (fun c => cel A c) c : Nat) → j = c → c + n = 6 → K (zz (ps (fun c => tak A c) 6 : Nat)) (zz (ps (fun c => cel A c) 6 : Nat)) → wp_X5_laid_L6 vd K (n + 1) (zz i1) (zz i2) (zz j) := by
  induction n with
  | zero =>
    intro c i1 i2 j h1 h2 hj hn k
    subst h1 h2 hj
    unfold wp_X5_laid_L6
    simp (disch := omega) only [zl_0, zl_1, zl_2, zl_3, zl_4, zl_5, zl_6, zl_7, zl_8, zl_9, zl_10, zl_11, zl_12, zl_24, zl_31, zl_32, zl_33, zl_36, zl_48, zl_49, zl_54, zl_59, zl_60, zl_61, zl_97, zl_99, zl_102, zl_126, zl_180, zl_360, zl_376, zl_1880, zl_2256, zl_2903, z_add, z_sub, z_mul, z_neg, z_lt, z_le, z_eq, z_in]
    rw [show c = 6 by omega]
    exact wT (by omega) k
  | succ n ih =>
    intro c i1 i2 j h1 h2 hj hn k
    subst h1 h2 hj
    have e1 : ps (fun c => tak A c) (c + 1) = ps (fun c => tak A c) c + tak A c := rfl
    have e2 : ps (fun c => cel A c) (c + 1) = ps (fun c => cel A c) c + cel A c := rfl
    unfold wp_X5_laid_L6
    simp (disch := omega) only [zl_0, zl_1, zl_2, zl_3, zl_4, zl_5, zl_6, zl_7, zl_8, zl_9, zl_10, zl_11, zl_12, zl_24, zl_31, zl_32, zl_33, zl_36, zl_48, zl_49, zl_54, zl_59, zl_60, zl_61, zl_97, zl_99, zl_102, zl_126, zl_180, zl_360, zl_376, zl_1880, zl_2256, zl_2903, z_add, z_sub, z_mul, z_neg, z_lt, z_le, z_eq, z_in]
    refine wF (by omega) (X5_taken_ok hR hW (c := c) (by omega) rfl (X5_cells_ok hR hW (c := c) (by omega) rfl ?_))
    simp (disch := omega) only [zl_0, zl_1, zl_2, zl_3, zl_4, zl_5, zl_6, zl_7, zl_8, zl_9, zl_10, zl_11, zl_12, zl_24, zl_31, zl_32, zl_33, zl_36, zl_48, zl_49, zl_54, zl_59, zl_60, zl_61, zl_97, zl_99, zl_102, zl_126, zl_180, zl_360, zl_376, zl_1880, zl_2256, zl_2903, z_add, z_sub, z_mul, z_neg, z_lt, z_le, z_eq, z_in]
    exact ih (c := c + 1) (by omega) (by omega) (by omega) (by omega) k
theorem X5_laid_ok {vd : Md} {A : Ab} (hR : RepM vd.1 A) (hW : Wf A) {post : UInt64 → Prop} (k : post (aSh A)) : wp_X5_laid vd post := by
  have hv := (aSh_n hW).1
  refine ⟨7, ?_⟩
  simp (disch := omega) only [zl_0, zl_1, zl_2, zl_3, zl_4, zl_5, zl_6, zl_7, zl_8, zl_9, zl_10, zl_11, zl_12, zl_24, zl_31, zl_32, zl_33, zl_36, zl_48, zl_49, zl_54, zl_59, zl_60, zl_61, zl_97, zl_99, zl_102, zl_126, zl_180, zl_360, zl_376, zl_1880, zl_2256, zl_2903, z_add, z_sub, z_mul, z_neg, z_lt, z_le, z_eq, z_in]
  refine X5_laid_L_ok hR hW (n := 6) (c := 0) rfl rfl rfl rfl ?_
  rw [cel_sum hW]
  exact ⟨hv, k⟩
theorem X5_share_ok {vd : Md} {S : SS} (hM : InvM vd S) (hW : WfS S) {post : UInt64 → Md → Prop} (k : ∀ vd1, InvM vd1 S → post (aSh S.1) vd1) : wp_X5_share vd post := by
  unfold wp_X5_share
  intro v1 hv1
  subst hv1
  exact X5_laid_ok (vd := md_thrown vd 0) hM.1 hW.1 (k _ hM)
