/-! THE CALLS of the reference, on. -/
theorem X5_course_ok {vd : Md} {S : SS} (hM : InvM vd S) (hW : WfS S) {a : Int} {b : Int} (ha : i32 a) (hb : i32 b)  {post : Int32 → Md → Prop} (k : ∀ r vd1, InvM vd1 (o_course S a b).2.2 → thr vd1 = zz (o_course S a b).1 → ((o_course S a b).1 = 0 → r = (o_course S a b).2.1) → post r vd1) : wp_X5_course vd (zz a) (zz b)  post := by
  unfold i32 at *
  unfold wp_X5_course
  intro v1 hv1
  subst hv1
  have no1 : ¬ isC a → wp_X5_fails (md_thrown vd 0) 1 post := fun h v2 h2 => by
    subst h2
    have e : o_course S a b = (1, 0, S) := by unfold o_course; rw [if_pos h]
    rw [e] at k
    exact k _ _ hM rfl nz
  refine X5_isCourse_ok ha (fun h => wF (by decide) ?_) (fun h => wT rfl (no1 h))
  refine X5_in_ok (lo := 0) (hi := 6) hb (by unfold i32; omega) (by unfold i32; omega) (fun h1 => wF (by decide) ?_) (fun h1 => wT rfl (fun v2 hv2 => ?_))
  · have e : o_course S a b = (0, zz (aProp S.1 a.toNat b.toNat), S) := by unfold o_course; rw [if_neg (fun h2 => h2 h), if_neg (fun h2 => h2 h1)]
    rw [e] at k
    exact X5_ofCourse_ok (A := S.1) (vd := md_thrown vd 0) hM.1 hW.1 (c := a.toNat) (t := b.toNat) (by omega) (by omega) (by omega) (by omega) (k _ _ hM rfl (fun _ => rfl))
  · subst hv2
    have e : o_course S a b = (2, 0, S) := by unfold o_course; rw [if_neg (fun h2 => h2 h), if_pos h1]
    rw [e] at k
    exact k _ _ hM rfl nz
theorem X5_refusal_ok {vd : Md} {S : SS} (hM : InvM vd S) (hW : WfS S) {a : Int} {b : Int} (ha : i32 a) (hb : i32 b) {f : Bool} {post : Int32 → Md → Prop} (k : ∀ r vd1, InvM vd1 (o_refusal S a b f).2.2 → thr vd1 = zz (o_refusal S a b f).1 → ((o_refusal S a b f).1 = 0 → r = (o_refusal S a b f).2.1) → post r vd1) : wp_X5_refusal vd (zz a) (zz b) (zz (bB f)) post := by
  unfold i32 at *
  unfold wp_X5_refusal
  intro v1 hv1
  subst hv1
  have no1 : ¬ isC a → wp_X5_fails (md_thrown vd 0) 1 post := fun h v2 h2 => by
    subst h2
    have e : o_refusal S a b f = (1, 0, S) := by unfold o_refusal; rw [if_pos h]
    rw [e] at k
    exact k _ _ hM rfl nz
  refine X5_isCourse_ok ha (fun h => wF (by decide) ?_) (fun h => wT rfl (no1 h))
  refine X5_isSize_ok hb (fun h1 => wF (by decide) ?_) (fun h1 => wT rfl (fun v2 hv2 => ?_))
  · have e : o_refusal S a b f = (0, zz (aRea S.1 a.toNat b.toNat f), S) := by unfold o_refusal; rw [if_neg (fun h2 => h2 h), if_neg (fun h2 => h2 h1)]
    rw [e] at k
    exact X5_refused_ok (A := S.1) hM.1 hW.1 (c := a.toNat) (s := b.toNat) (f := f) (by omega) (by omega) (by omega) (by omega) rfl (k _ _ hM rfl (fun _ => rfl))
  · subst hv2
    have e : o_refusal S a b f = (2, 0, S) := by unfold o_refusal; rw [if_neg (fun h2 => h2 h), if_pos h1]
    rw [e] at k
    exact k _ _ hM rfl nz
theorem X5_stockOf_ok {vd : Md} {S : SS} (hM : InvM vd S) (hW : WfS S) {a : Int} (ha : i32 a)  {post : Int32 → Md → Prop} (k : ∀ r vd1, InvM vd1 (o_stockOf S a).2.2 → thr vd1 = zz (o_stockOf S a).1 → ((o_stockOf S a).1 = 0 → r = (o_stockOf S a).2.1) → post r vd1) : wp_X5_stockOf vd (zz a)  post := by
  unfold i32 at *
  unfold wp_X5_stockOf
  intro v1 hv1
  subst hv1
  have no1 : ¬ isZ a → wp_X5_fails (md_thrown vd 0) 1 post := fun h v2 h2 => by
    subst h2
    have e : o_stockOf S a = (1, 0, S) := by unfold o_stockOf; rw [if_pos h]
    rw [e] at k
    exact k _ _ hM rfl nz
  refine X5_isSize_ok ha (fun h => wF (by decide) ?_) (fun h => wT rfl (no1 h))
  have e : o_stockOf S a = (0, zz (aS S.1 a.toNat), S) := by unfold o_stockOf; rw [if_neg (fun h2 => h2 h)]
  rw [e] at k
  have hst := hM.1.st (i := 3 + a) (s := a.toNat) (by omega)
  rw [zl_3, z_add, z_in (by omega)]
  show _ ∧ post (vd.1 _) _
  rw [hst]
  exact ⟨by omega, k _ _ hM rfl (fun _ => rfl)⟩
theorem X5_setting_ok {vd : Md} {S : SS} (hM : InvM vd S) (hW : WfS S) {a : Int} (ha : i32 a)  {post : Int32 → Md → Prop} (k : ∀ r vd1, InvM vd1 (o_setting S a).2.2 → thr vd1 = zz (o_setting S a).1 → ((o_setting S a).1 = 0 → r = (o_setting S a).2.1) → post r vd1) : wp_X5_setting vd (zz a)  post := by
  unfold i32 at *
  unfold wp_X5_setting
  intro v1 hv1
  subst hv1
  have no1 : ¬ (0 ≤ a ∧ a ≤ 2) → wp_X5_fails (md_thrown vd 0) 1 post := fun h v2 h2 => by
    subst h2
    have e : o_setting S a = (1, 0, S) := by unfold o_setting; rw [if_pos h]
    rw [e] at k
    exact k _ _ hM rfl nz
  refine X5_in_ok (lo := 0) (hi := 2) ha (by unfold i32; omega) (by unfold i32; omega) (fun h => wF (by decide) ?_) (fun h => wT rfl (no1 h))
  have e : o_setting S a = (0, zz (aSet S.1 a.toNat), S) := by unfold o_setting; rw [if_neg (fun h2 => h2 h)]
  rw [e] at k
  rw [z_in (by omega)]
  show _ ∧ post (vd.1 _) _
  have es : vd.1 (zz a).toNatClampNeg = zz (aSet S.1 a.toNat) := by
    rw [z_nat (by omega)]
    unfold aSet
    rcases (show a = 0 ∨ a = 1 ∨ a = 2 by omega) with rfl | rfl | rfl
    · exact hM.1.1
    · exact hM.1.2.1
    · exact hM.1.2.2.1
  rw [es]
  exact ⟨by omega, k _ _ hM rfl (fun _ => rfl)⟩
theorem X5_count_ok {vd : Md} {S : SS} (hM : InvM vd S) (hW : WfS S) {a : Int} (ha : i32 a)  {post : Int32 → Md → Prop} (k : ∀ r vd1, InvM vd1 (o_count S a).2.2 → thr vd1 = zz (o_count S a).1 → ((o_count S a).1 = 0 → r = (o_count S a).2.1) → post r vd1) : wp_X5_count vd (zz a)  post := by
  unfold i32 at *
  unfold wp_X5_count
  intro v1 hv1
  subst hv1
  have no1 : ¬ (0 ≤ a ∧ a ≤ 7) → wp_X5_fails (md_thrown vd 0) 1 post := fun h v2 h2 => by
    subst h2
    have e : o_count S a = (1, 0, S) := by unfold o_count; rw [if_pos h]
    rw [e] at k
    exact k _ _ hM rfl nz
  refine X5_in_ok (lo := 0) (hi := 7) ha (by unfold i32; omega) (by unfold i32; omega) (fun h => wF (by decide) ?_) (fun h => wT rfl (no1 h))
  have e : o_count S a = (0, aCnt S.1 S.2.1.length a.toNat, S) := by unfold o_count; rw [if_neg (fun h2 => h2 h)]
  rw [e] at k
  exact X5_counted_ok (A := S.1) (vd := md_thrown vd 0) (h := S.2.1.length) hM.1 hW.1 hM.2.1.1 (t := a.toNat) (by omega) (by omega) (k _ _ hM rfl (fun _ => rfl))
theorem X5_fewest_ok {vd : Md} {S : SS} (hM : InvM vd S) (hW : WfS S) {a : Int} (ha : i32 a)  {post : Int32 → Md → Prop} (k : ∀ r vd1, InvM vd1 (o_clo false S a).2.2 → thr vd1 = zz (o_clo false S a).1 → ((o_clo false S a).1 = 0 → r = (o_clo false S a).2.1) → post r vd1) : wp_X5_fewest vd (zz a)  post := by
  unfold i32 at *
  unfold wp_X5_fewest
  intro v1 hv1
  subst hv1
  have no1 : ¬ isC a → wp_X5_fails (md_thrown vd 0) 1 post := fun h v2 h2 => by
    subst h2
    have e : o_clo false S a = (1, 0, S) := by unfold o_clo; rw [if_pos h]
    rw [e] at k
    exact k _ _ hM rfl nz
  refine X5_isCourse_ok ha (fun h => wF (by decide) ?_) (fun h => wT rfl (no1 h))
  have e : o_clo false S a = (0, zz (if false then (aClo S.1 a.toNat).2 else (aClo S.1 a.toNat).1), S) := by unfold o_clo; rw [if_neg (fun h2 => h2 h)]
  rw [e] at k
  exact X5_closes_ok (A := S.1) (vd := md_thrown vd 0) hM.1 hW.1 (c := a.toNat) (by omega) (ip := a) (jb := 0) (by omega) (b := false) rfl (fun f => k _ _ ⟨hM.1, hM.2⟩ rfl (fun _ => rfl))
theorem X5_nextSize_ok {vd : Md} {S : SS} (hM : InvM vd S) (hW : WfS S) {a : Int} (ha : i32 a)  {post : Int32 → Md → Prop} (k : ∀ r vd1, InvM vd1 (o_clo true S a).2.2 → thr vd1 = zz (o_clo true S a).1 → ((o_clo true S a).1 = 0 → r = (o_clo true S a).2.1) → post r vd1) : wp_X5_nextSize vd (zz a)  post := by
  unfold i32 at *
  unfold wp_X5_nextSize
  intro v1 hv1
  subst hv1
  have no1 : ¬ isC a → wp_X5_fails (md_thrown vd 0) 1 post := fun h v2 h2 => by
    subst h2
    have e : o_clo true S a = (1, 0, S) := by unfold o_clo; rw [if_pos h]
    rw [e] at k
    exact k _ _ hM rfl nz
  refine X5_isCourse_ok ha (fun h => wF (by decide) ?_) (fun h => wT rfl (no1 h))
  have e : o_clo true S a = (0, zz (if true then (aClo S.1 a.toNat).2 else (aClo S.1 a.toNat).1), S) := by unfold o_clo; rw [if_neg (fun h2 => h2 h)]
  rw [e] at k
  exact X5_closes_ok (A := S.1) (vd := md_thrown vd 0) hM.1 hW.1 (c := a.toNat) (by omega) (ip := a) (jb := 1) (by omega) (b := true) rfl (fun f => k _ _ ⟨hM.1, hM.2⟩ rfl (fun _ => rfl))
theorem X5_cell_ok {vd : Md} {S : SS} (hM : InvM vd S) (hW : WfS S) {a : Int} {b : Int} {d : Int} (ha : i32 a) (hb : i32 b) (hd : i32 d)  {post : Int32 → Md → Prop} (k : ∀ r vd1, InvM vd1 (o_cell S a b d).2.2 → thr vd1 = zz (o_cell S a b d).1 → ((o_cell S a b d).1 = 0 → r = (o_cell S a b d).2.1) → post r vd1) : wp_X5_cell vd (zz a) (zz b) (zz d)  post := by
  unfold i32 at *
  unfold wp_X5_cell
  intro v1 hv1
  subst hv1
  have no1 : ¬ (isC a ∧ 0 ≤ b ∧ b < cel S.1 a.toNat) → wp_X5_fails (md_thrown vd 0) 1 post := fun h v2 h2 => by
    subst h2
    have e : o_cell S a b d = (1, 0, S) := by unfold o_cell; rw [if_pos h]
    rw [e] at k
    exact k _ _ hM rfl nz
  refine X5_isCourse_ok ha (fun h => wF (by decide) ?_) (fun h => wT rfl (no1 (fun h1 => h h1.1)))
  have h4 := cel_r hW.1 (show a.toNat < 6 by omega)
  refine X5_cells_ok (A := S.1) hM.1 hW.1 (c := a.toNat) (by omega) (by omega) ?_
  rw [zl_1, z_sub]
  refine X5_in_ok (lo := 0) (hi := (cel S.1 a.toNat : Int) - 1) hb (by unfold i32; omega) (by unfold i32; omega) (fun h1 => wF (by decide) ?_) (fun h1 => wT rfl (no1 (by omega)))
  refine X5_in_ok (lo := 0) (hi := 3) hd (by unfold i32; omega) (by unfold i32; omega) (fun h2 => wF (by decide) ?_) (fun h2 => wT rfl (fun v2 hv2 => ?_))
  · have e : o_cell S a b d = (0, zz (aCell S.1 a.toNat b.toNat d.toNat), S) := by unfold o_cell; rw [if_neg (fun h5 => h5 ⟨h, by omega, by omega⟩), if_neg (fun h5 => h5 h2)]
    rw [e] at k
    have kk : post (zz (aCell S.1 a.toNat b.toNat d.toNat)) (md_thrown vd 0) := k _ _ hM rfl (fun _ => rfl)
    unfold wp_X5_ofCell
    unfold aCell at kk
    have hR : RepM (md_thrown vd 0).1 S.1 := hM.1
    simp (disch := omega) only [zl_0, zl_1, zl_2, zl_3, zl_4, zl_5, zl_6, zl_7, zl_8, zl_9, zl_10, zl_11, zl_12, zl_24, zl_31, zl_32, zl_33, zl_36, zl_48, zl_49, zl_54, zl_59, zl_60, zl_61, zl_97, zl_99, zl_102, zl_126, zl_180, zl_360, zl_376, zl_1880, zl_2256, zl_2903, z_add, z_sub, z_mul, z_neg, z_lt, z_le, z_eq, z_in]
    refine wB rfl (fun h => ?_) (fun h => wB rfl (fun h1 => ?_) (fun h1 => wB rfl (fun h2 => ?_) (fun h2 => ?_)))
    · rw [if_pos (by omega)] at kk
      exact X5_pebbleAt_ok (A := S.1) (vd := md_thrown vd (zz 0)) hM.1 hW.1 (c := a.toNat) (p := b.toNat) (by omega) (by omega) (by omega) (by omega) kk
    · rw [if_neg (by omega), if_pos (by omega)] at kk
      refine X5_isJoint_ok (A := S.1) hM.1 hW.1 (c := a.toNat) (p := b.toNat) (by omega) (by omega) (by omega) (by omega) ?_
      cases hj : aJ S.1 a.toNat b.toNat <;> rw [hj] at kk
      · exact wT rfl kk
      · exact wF (by decide) kk
    · rw [if_neg (by omega), if_neg (by omega), if_pos (by omega)] at kk
      refine wB rfl (fun h3 => ?_) (fun h3 => ?_)
      · rw [if_pos (by omega)] at kk; exact kk
      · rw [if_neg (by omega)] at kk
        exact X5_meets_ok (A := S.1) hM.1 hW.1 (c := a.toNat) (p := b.toNat) (by omega) (by omega) (by omega) (by omega) (by omega) kk
    · rw [if_neg (by omega), if_neg (by omega), if_neg (by omega)] at kk
      refine X5_runs_ok (A := S.1) hM.1 hW.1 (c := a.toNat) (p := b.toNat) (by omega) (by omega) (by omega) (by omega) ?_
      cases hj : aRun S.1 a.toNat b.toNat <;> rw [hj] at kk
      · exact wT rfl kk
      · exact wF (by decide) kk
  · subst hv2
    have e : o_cell S a b d = (2, 0, S) := by unfold o_cell; rw [if_neg (fun h5 => h5 ⟨h, by omega, by omega⟩), if_pos h2]
    rw [e] at k
    exact k _ _ hM rfl nz
theorem RepM.chg {v : Nat → Int32} {A : Ab} (hR : RepM v A) {t b : Nat} (ht : t ≤ 2) : RepM (upd v t (zz b)) (aChg A t b) := by
  obtain ⟨r1, r2, r3, r4, r5, r6, r7⟩ := hR
  unfold aChg
  rcases (show t = 0 ∨ t = 1 ∨ t = 2 by omega) with rfl | rfl | rfl
  · refine ⟨rfl, r2, r3, r4, fun s h5 h6 => ?_, fun c hc => ?_, fun c k hc hk => ?_⟩
    · rw [upd_ne (by omega)]; exact r5 s h5 h6
    · rw [upd_ne (by omega)]; exact r6 c hc
    · rw [upd_ne (by omega)]; exact r7 c k hc hk
  · refine ⟨r1, rfl, r3, r4, fun s h5 h6 => ?_, fun c hc => ?_, fun c k hc hk => ?_⟩
    · rw [upd_ne (by omega)]; exact r5 s h5 h6
    · rw [upd_ne (by omega)]; exact r6 c hc
    · rw [upd_ne (by omega)]; exact r7 c k hc hk
  · refine ⟨r1, r2, rfl, r4, fun s h5 h6 => ?_, fun c hc => ?_, fun c k hc hk => ?_⟩
    · rw [upd_ne (by omega)]; exact r5 s h5 h6
    · rw [upd_ne (by omega)]; exact r6 c hc
    · rw [upd_ne (by omega)]; exact r7 c k hc hk
theorem X5_set_ok {vd : Md} {S : SS} (hM : InvM vd S) (hW : WfS S) {a : Int} {b : Int} (ha : i32 a) (hb : i32 b)  {post : Int32 → Md → Prop} (k : ∀ r vd1, InvM vd1 (o_set S a b).2.2 → thr vd1 = zz (o_set S a b).1 → ((o_set S a b).1 = 0 → r = (o_set S a b).2.1) → post r vd1) : wp_X5_set vd (zz a) (zz b)  post := by
  unfold i32 at *
  unfold wp_X5_set
  intro v1 hv1
  subst hv1
  have no1 : ¬ (0 ≤ a ∧ a ≤ 2) → wp_X5_fails (md_thrown vd 0) 1 post := fun h v2 h2 => by
    subst h2
    have e : o_set S a b = (1, 0, S) := by unfold o_set; rw [if_pos h]
    rw [e] at k
    exact k _ _ hM rfl nz
  refine X5_in_ok (lo := 0) (hi := 2) ha (by unfold i32; omega) (by unfold i32; omega) (fun h => wF (by decide) ?_) (fun h => wT rfl (no1 h))
  have no2 : ¬ (if a = 0 then 24 ≤ b ∧ b ≤ 60 else if a = 1 then 0 ≤ b ∧ b ≤ 2 else 0 ≤ b ∧ b ≤ 1) → wp_X5_fails (md_thrown vd 0) 2 post := fun h1 v2 h2 => by
    subst h2
    have e : o_set S a b = (2, 0, S) := by unfold o_set; rw [if_neg (fun h2 => h2 h), if_pos h1]
    rw [e] at k
    exact k _ _ hM rfl nz
  have h9 := aAll_r hW.1
  have yes : (if a = 0 then 24 ≤ b ∧ b ≤ 60 else if a = 1 then 0 ≤ b ∧ b ≤ 2 else 0 ≤ b ∧ b ≤ 1) → wp_X5_set_c62 (zz a) (zz b) post (md_thrown vd 0) := fun h1 => by
    have hb2 : 0 ≤ b := by
      split at h1
      · omega
      · split at h1 <;> omega
    have put : ¬ (a = 0 ∧ aAll S.1 ≠ 0) → wp_X5_saves (md_thrown vd 0) (fun u83_4 => (vp_in (zz a) 376 ∧ (vp_in (zz a) 376 ∧ (∀ vd_5 : Md, vd_5 = md_now u83_4 (upd u83_4.1 (zz a).toNatClampNeg (zz b)) → post (u83_4.1 (zz a).toNatClampNeg) vd_5)))) := fun h2 => by
      have e : o_set S a b = (0, zz (aSet S.1 a.toNat), sS S (aChg S.1 a.toNat b.toNat)) := by unfold o_set; rw [if_neg (fun h2 => h2 h), if_neg (fun h3 => h3 h1), if_neg h2]
      rw [e] at k
      refine X5_saves_ok (vd := md_thrown vd 0) hM.1 hW.1 hM.2.1 hW.2.1 (fun f1 x h3 => ?_)
      rw [pw_1, z_in (by omega), z_nat (by omega)]
      refine ⟨by omega, by omega, fun v2 hv2 => ?_⟩
      subst hv2
      have es : vd.1 a.toNat = zz (aSet S.1 a.toNat) := by
        unfold aSet
        rcases (show a = 0 ∨ a = 1 ∨ a = 2 by omega) with rfl | rfl | rfl
        · exact hM.1.1
        · exact hM.1.2.1
        · exact hM.1.2.2.1
      show post (vd.1 a.toNat) _
      rw [es]
      refine k _ _ ⟨?_, h3, hM.2.2⟩ rfl (fun _ => rfl)
      have := hM.1.chg (t := a.toNat) (b := b.toNat) (by omega)
      rw [show ((b.toNat : Nat) : Int) = b by omega] at this
      exact this
    unfold wp_X5_set_c62
    rw [zl_0, z_eq (by omega)]
    refine wB rfl (fun h2 => X5_all_ok (A := S.1) hM.1 hW.1 ?_) (fun h2 => put (fun h3 => h2 h3.1))
    rw [z_le (by omega)]
    refine wB rfl (fun h3 => put (by omega)) (fun h3 v2 hv2 => ?_)
    subst hv2
    have e : o_set S a b = (3, 0, S) := by unfold o_set; rw [if_neg (fun h2 => h2 h), if_neg (fun h3 => h3 h1), if_pos ⟨h2, by omega⟩]
    rw [e] at k
    exact k _ _ hM rfl nz
  clear k
  rw [zl_0, zl_1] at *
  rw [z_eq (by omega), z_eq (by omega)]
  refine wB rfl (fun h1 => ?_) (fun h1 => wB rfl (fun h2 => ?_) (fun h2 => ?_))
  · rw [if_pos h1] at yes no2
    exact X5_in_ok (lo := 24) (hi := 60) hb (by unfold i32; omega) (by unfold i32; omega) (fun h3 => wF (by decide) (yes h3)) (fun h3 => wT rfl (no2 h3))
  · rw [if_neg h1, if_pos h2] at yes no2
    exact X5_in_ok (lo := 0) (hi := 2) hb (by unfold i32; omega) (by unfold i32; omega) (fun h3 => wF (by decide) (yes h3)) (fun h3 => wT rfl (no2 h3))
  · rw [if_neg h1, if_neg h2] at yes no2
    exact X5_in_ok (lo := 0) (hi := 1) hb (by unfold i32; omega) (by unfold i32; omega) (fun h3 => wF (by decide) (yes h3)) (fun h3 => wT rfl (no2 h3))
