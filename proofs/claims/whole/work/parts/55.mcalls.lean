/-! THE CALLS of the reference. -/
def RepX (x : Nat → Int32) (typed : Int32) (n : Nat) (ch : Nat → Nat) : Prop := typed = zz n ∧ ∀ i, i < n → x i = zz (ch i)
def InvM (vd : Md) (S : SS) : Prop := RepM vd.1 S.1 ∧ RepP vd.2.2.1 vd.2.2.2.2.2.2.1 S.2.1 ∧ RepX vd.2.2.2.1 vd.2.2.2.2.2.2.2.1 S.2.2.1 S.2.2.2
def thr (vd : Md) : Int32 := vd.2.2.2.2.2.2.2.2.1
theorem nz {n : Nat} {α : Prop} {S : SS} {x : Int32} (h : ((n + 1, x, S) : RR).1 = 0) : α := absurd (show n + 1 = 0 from h) (Nat.succ_ne_zero n)
theorem tz1 : ¬ (zz ((1 : Nat) : Int) = 0) := by decide
theorem tz2 : ¬ (zz ((2 : Nat) : Int) = 0) := by decide
theorem tz3 : ¬ (zz ((3 : Nat) : Int) = 0) := by decide
theorem X5_in_ok {a lo hi : Int} (ha : i32 a) (hl : i32 lo) (hh : i32 hi) {post : Int32 → Prop} (h1 : lo ≤ a ∧ a ≤ hi → post (zz 1)) (h2 : ¬ (lo ≤ a ∧ a ≤ hi) → post (zz 0)) : wp_X5_in (zz a) (zz lo) (zz hi) post := by
  unfold i32 at *
  unfold wp_X5_in
  simp (disch := omega) only [zl_0, zl_1, zl_2, zl_3, zl_4, zl_5, zl_6, zl_7, zl_8, zl_9, zl_10, zl_11, zl_12, zl_24, zl_31, zl_32, zl_33, zl_36, zl_48, zl_49, zl_54, zl_59, zl_60, zl_61, zl_97, zl_99, zl_102, zl_126, zl_180, zl_360, zl_376, zl_1880, zl_2256, zl_2903, z_add, z_sub, z_mul, z_neg, z_lt, z_le, z_eq, z_in]
  exact wB rfl (fun h => h2 (by omega)) (fun h => wB rfl (fun h3 => h2 (by omega)) (fun h3 => h1 (by omega)))
theorem X5_isCourse_ok {a : Int} (ha : i32 a) {post : Int32 → Prop} (h1 : isC a → post (zz 1)) (h2 : ¬ isC a → post (zz 0)) : wp_X5_isCourse (zz a) post := by
  unfold wp_X5_isCourse
  exact X5_in_ok (lo := 0) (hi := 5) ha (by unfold i32; omega) (by unfold i32; omega) (fun h => ⟨rfl, h1 (by omega)⟩) (fun h => ⟨rfl, h2 (by omega)⟩)
theorem X5_isSize_ok {a : Int} (ha : i32 a) {post : Int32 → Prop} (h1 : isZ a → post (zz 1)) (h2 : ¬ isZ a → post (zz 0)) : wp_X5_isSize (zz a) post := by
  unfold wp_X5_isSize
  exact X5_in_ok (lo := 1) (hi := 6) ha (by unfold i32; omega) (by unfold i32; omega) (fun h => ⟨rfl, h1 (by omega)⟩) (fun h => ⟨rfl, h2 (by omega)⟩)
theorem X5_stock_ok {vd : Md} {S : SS} (hM : InvM vd S) (hW : WfS S) {a : Int} {b : Int} (ha : i32 a) (hb : i32 b)  {post : Int32 → Md → Prop} (k : ∀ r vd1, InvM vd1 (o_stock S a b).2.2 → thr vd1 = zz (o_stock S a b).1 → ((o_stock S a b).1 = 0 → r = (o_stock S a b).2.1) → post r vd1) : wp_X5_stock vd (zz a) (zz b)  post := by
  unfold i32 at *
  unfold wp_X5_stock
  intro v1 hv1
  subst hv1
  have no : ¬ (isZ a ∧ 0 ≤ b ∧ b ≤ 99) → wp_X5_fails (md_thrown vd 0) 1 post := fun h v2 h2 => by
    subst h2
    have e : o_stock S a b = (1, 0, S) := by unfold o_stock; rw [if_neg h]
    rw [e] at k
    exact k _ _ hM rfl nz
  refine X5_isSize_ok ha (fun h => wF (by decide) (X5_in_ok (lo := 0) (hi := 99) hb (by unfold i32; omega) (by unfold i32; omega) (fun h1 => wF (by decide) ?_) (fun h1 => wT rfl (no (fun h2 => h1 h2.2))))) (fun h => wT rfl (no (fun h2 => h h2.1)))
  have e : o_stock S a b = (0, zz (aS S.1 a.toNat), sS S (aStk S.1 a.toNat b.toNat)) := by unfold o_stock; rw [if_pos ⟨h, by omega, by omega⟩]
  rw [e] at k
  refine X5_saves_ok (vd := md_thrown vd 0) hM.1 hW.1 hM.2.1 hW.2.1 (fun f x h2 => ?_)
  have hst := hM.1.st (i := 3 + a) (s := a.toNat) (by omega)
  rw [zl_3, z_add, z_in (by omega), pw_1]
  refine ⟨by omega, by omega, fun v2 hv2 => ?_⟩
  subst hv2
  show post (vd.1 _) _
  rw [hst]
  refine k _ _ ⟨?_, h2, hM.2.2⟩ rfl (fun _ => rfl)
  obtain ⟨r1, r2, r3, r4, r5, r6, r7⟩ := hM.1
  have ei : (zz (3 + a)).toNatClampNeg = 3 + a.toNat := by rw [z_nat (by omega)]; omega
  show RepM (upd vd.1 (zz (3 + a)).toNatClampNeg (zz b)) (aStk S.1 a.toNat b.toNat)
  rw [ei]
  refine ⟨?_, ?_, ?_, ?_, fun s h5 h6 => ?_, fun c hc => ?_, fun c k hc hk => ?_⟩
  · rw [upd_ne (by omega)]; exact r1
  · rw [upd_ne (by omega)]; exact r2
  · rw [upd_ne (by omega)]; exact r3
  · rw [upd_ne (by omega)]; exact r4
  · show _ = zz (upN (aS S.1) a.toNat b.toNat s : Nat)
    by_cases e1 : s = a.toNat
    · rw [upd_eq (by omega), upN_eq e1]; refine congrArg zz ?_; omega
    · rw [upd_ne (by omega), upN_ne e1]; exact r5 s h5 h6
  · rw [upd_ne (by omega)]; exact r6 c hc
  · rw [upd_ne (by omega)]; exact r7 c k hc hk
theorem X5_may_ok {vd : Md} {A : Ab} (hR : RepM vd.1 A) (hW : Wf A) {a b l : Int} (ha : i32 a) (hb : i32 b) {f : Bool} (hl : l = bB f) {post : Int32 → Prop} (k : post (zz (if ¬ isC a then 1 else if ¬ isZ b then 2 else if aRea A a.toNat b.toNat f ≠ 0 then 3 else 0 : Nat))) : wp_X5_may vd (zz a) (zz b) (zz l) post := by
  unfold wp_X5_may
  refine X5_isCourse_ok ha (fun h => ?_) (fun h => ?_)
  · rw [if_neg (fun h2 => h2 h)] at k
    refine wF (by decide) (X5_isSize_ok hb (fun h1 => ?_) (fun h1 => ?_))
    · rw [if_neg (fun h2 => h2 h1)] at k
      refine wF (by decide) (X5_refused_ok hR hW (c := a.toNat) (s := b.toNat) (f := f) (by omega) (by omega) (by omega) (by omega) hl ?_)
      have h4 := aRea_4 (A := A) (c := a.toNat) (s := b.toNat) (f := f)
      rw [zl_0, z_eq (by omega)]
      refine wB rfl (fun h5 => ?_) (fun h5 => ?_)
      · rw [if_neg (by omega)] at k; exact k
      · rw [if_pos (by omega)] at k; exact k
    · rw [if_pos h1] at k; exact wT rfl k
  · rw [if_pos h] at k; exact wT rfl k
theorem X5_lay_ok {vd : Md} {S : SS} (hM : InvM vd S) (hW : WfS S) {a : Int} {b : Int} (ha : i32 a) (hb : i32 b)  {post : Int32 → Md → Prop} (k : ∀ r vd1, InvM vd1 (o_lay false S a b).2.2 → thr vd1 = zz (o_lay false S a b).1 → ((o_lay false S a b).1 = 0 → r = (o_lay false S a b).2.1) → post r vd1) : wp_X5_lay vd (zz a) (zz b)  post := by
  unfold wp_X5_lay
  refine X5_may_ok hM.1 hW.1 ha hb (f := false) (l := bB false) rfl ?_
  unfold i32 at *
  intro v1 hv1
  subst hv1
  by_cases h : isC a
  · rw [if_neg (fun h2 => h2 h)]
    by_cases h1 : isZ b
    · rw [if_neg (fun h2 => h2 h1)]
      by_cases h3 : aRea S.1 a.toNat b.toNat false ≠ 0
      · rw [if_pos h3]
        have e : o_lay false S a b = (3, 0, S) := by unfold o_lay; rw [if_neg (fun h2 => h2 h), if_neg (fun h2 => h2 h1), if_pos h3]
        rw [e] at k
        exact wF tz3 (k _ _ hM rfl nz)
      · rw [if_neg h3]
        have e : o_lay false S a b = (0, zz (tak S.1 a.toNat), sS S (aPut S.1 a.toNat b.toNat false)) := by unfold o_lay; rw [if_neg (fun h2 => h2 h), if_neg (fun h2 => h2 h1), if_neg h3]; rw [if_neg (by decide)]
        rw [e] at k
        refine wT rfl (X5_saves_ok (vd := md_thrown vd (zz (0 : Nat))) hM.1 hW.1 hM.2.1 hW.2.1 (fun f1 x h2 => ?_))
        exact X5_taken_ok (A := S.1) hM.1 hW.1 (c := a.toNat) (by omega) (by omega) (X5_lays_ok (A := S.1) hM.1 hW.1 (c := a.toNat) (s := b.toNat) (f := false) (by omega) (by omega) (by omega) (by omega) (l := bB false) rfl (by omega) (fun w1 h6 => k _ _ ⟨h6, h2, hM.2.2⟩ rfl (fun _ => rfl)))
    · rw [if_pos h1]
      have e : o_lay false S a b = (2, 0, S) := by unfold o_lay; rw [if_neg (fun h2 => h2 h), if_pos h1]
      rw [e] at k
      exact wF tz2 (k _ _ hM rfl nz)
  · rw [if_pos h]
    have e : o_lay false S a b = (1, 0, S) := by unfold o_lay; rw [if_pos h]
    rw [e] at k
    exact wF tz1 (k _ _ hM rfl nz)
theorem X5_cut_ok {vd : Md} {S : SS} (hM : InvM vd S) (hW : WfS S) {a : Int} {b : Int} (ha : i32 a) (hb : i32 b)  {post : Int32 → Md → Prop} (k : ∀ r vd1, InvM vd1 (o_lay true S a b).2.2 → thr vd1 = zz (o_lay true S a b).1 → ((o_lay true S a b).1 = 0 → r = (o_lay true S a b).2.1) → post r vd1) : wp_X5_cut vd (zz a) (zz b)  post := by
  unfold wp_X5_cut
  refine X5_may_ok hM.1 hW.1 ha hb (f := true) (l := bB true) rfl ?_
  unfold i32 at *
  intro v1 hv1
  subst hv1
  by_cases h : isC a
  · rw [if_neg (fun h2 => h2 h)]
    by_cases h1 : isZ b
    · rw [if_neg (fun h2 => h2 h1)]
      by_cases h3 : aRea S.1 a.toNat b.toNat true ≠ 0
      · rw [if_pos h3]
        have e : o_lay true S a b = (3, 0, S) := by unfold o_lay; rw [if_neg (fun h2 => h2 h), if_neg (fun h2 => h2 h1), if_pos h3]
        rw [e] at k
        exact wF tz3 (k _ _ hM rfl nz)
      · rw [if_neg h3]
        have e : o_lay true S a b = (0, zz ((aSrc S.1 b.toNat true : Int) - b.toNat), sS S (aPut S.1 a.toNat b.toNat true)) := by unfold o_lay; rw [if_neg (fun h2 => h2 h), if_neg (fun h2 => h2 h1), if_neg h3]; rw [if_pos rfl]
        rw [e] at k
        refine wT rfl (X5_saves_ok (vd := md_thrown vd (zz (0 : Nat))) hM.1 hW.1 hM.2.1 hW.2.1 (fun f1 x h2 => ?_))
        exact (X5_lays_ok (A := S.1) hM.1 hW.1 (c := a.toNat) (s := b.toNat) (f := true) (by omega) (by omega) (by omega) (by omega) (l := bB true) rfl (by omega) (fun w1 h6 => k _ _ ⟨h6, h2, hM.2.2⟩ rfl (fun _ => rfl)))
    · rw [if_pos h1]
      have e : o_lay true S a b = (2, 0, S) := by unfold o_lay; rw [if_neg (fun h2 => h2 h), if_pos h1]
      rw [e] at k
      exact wF tz2 (k _ _ hM rfl nz)
  · rw [if_pos h]
    have e : o_lay true S a b = (1, 0, S) := by unfold o_lay; rw [if_pos h]
    rw [e] at k
    exact wF tz1 (k _ _ hM rfl nz)
theorem X5_fill_ok {vd : Md} {S : SS} (hM : InvM vd S) (hW : WfS S) {a : Int} (ha : i32 a)  {post : Int32 → Md → Prop} (k : ∀ r vd1, InvM vd1 (o_fill S a).2.2 → thr vd1 = zz (o_fill S a).1 → ((o_fill S a).1 = 0 → r = (o_fill S a).2.1) → post r vd1) : wp_X5_fill vd (zz a)  post := by
  unfold i32 at *
  unfold wp_X5_fill
  intro v1 hv1
  subst hv1
  have no1 : ¬ isC a → wp_X5_fails (md_thrown vd 0) 1 post := fun h v2 h2 => by
    subst h2
    have e : o_fill S a = (1, 0, S) := by unfold o_fill; rw [if_pos h]
    rw [e] at k
    exact k _ _ hM rfl nz
  refine X5_isCourse_ok ha (fun h => wF (by decide) ?_) (fun h => wT rfl (no1 h))
  have e : o_fill S a = (0, zz ((aFills a.toNat (aR S.1) 60 S.1).1 : Nat), sS S (aFills a.toNat (aR S.1) 60 S.1).2) := by unfold o_fill; rw [if_neg (fun h2 => h2 h)]
  rw [e] at k
  refine X5_saves_ok (vd := md_thrown vd 0) hM.1 hW.1 hM.2.1 hW.2.1 (fun f1 x h2 => ?_)
  refine X5_fills_ok (A := S.1) hM.1 hW.1 (c := a.toNat) (by omega) (by omega) (fun w1 h6 => ?_)
  generalize aFills a.toNat (aR S.1) 60 S.1 = X at k h6 ⊢
  exact k _ _ ⟨h6, h2, hM.2.2⟩ rfl (fun _ => rfl)
theorem X5_fillAll_ok {vd : Md} {S : SS} (hM : InvM vd S) (hW : WfS S)    {post : Int32 → Md → Prop} (k : ∀ r vd1, InvM vd1 (o_fillAll S).2.2 → thr vd1 = zz (o_fillAll S).1 → ((o_fillAll S).1 = 0 → r = (o_fillAll S).2.1) → post r vd1) : wp_X5_fillAll vd   post := by
  unfold wp_X5_fillAll
  intro v1 hv1
  subst hv1
  have e : o_fillAll S = (0, zz (aCl (aFA (aR S.1) 6 S.1)), sS S (aFA (aR S.1) 6 S.1)) := rfl
  rw [e] at k
  clear e
  refine X5_saves_ok (vd := md_thrown vd 0) hM.1 hW.1 hM.2.1 hW.2.1 (fun f1 x h2 => ?_)
  refine X5_fillsAll_ok (A := S.1) hM.1 hW.1 (fun w1 h6 => ?_)
  generalize aFA (aR S.1) 6 S.1 = X at k h6 ⊢
  exact k _ _ ⟨h6, h2, hM.2.2⟩ rfl (fun _ => rfl)
theorem X5_clearBuffer_ok {vd : Md} {S : SS} (hM : InvM vd S) (hW : WfS S)    {post : Int32 → Md → Prop} (k : ∀ r vd1, InvM vd1 (o_clear S).2.2 → thr vd1 = zz (o_clear S).1 → ((o_clear S).1 = 0 → r = (o_clear S).2.1) → post r vd1) : wp_X5_clearBuffer vd   post := by
  unfold wp_X5_clearBuffer
  intro v1 hv1 v2 hv2
  subst hv1 hv2
  show post vd.2.2.2.2.2.2.2.1 _
  rw [hM.2.2.1]
  exact k _ _ ⟨hM.1, hM.2.1, rfl, fun i hi => absurd hi (Nat.not_lt_zero _)⟩ rfl (fun _ => rfl)
theorem X5_append_ok {vd : Md} {S : SS} (hM : InvM vd S) (hW : WfS S) {a : Int} (ha : i32 a)  {post : Int32 → Md → Prop} (k : ∀ r vd1, InvM vd1 (o_append S a).2.2 → thr vd1 = zz (o_append S a).1 → ((o_append S a).1 = 0 → r = (o_append S a).2.1) → post r vd1) : wp_X5_append vd (zz a)  post := by
  unfold i32 at *
  unfold wp_X5_append
  intro v1 hv1
  subst hv1
  have hn := hW.2.2.2.1
  have no1 : ¬ (33 ≤ a ∧ a ≤ 126) → wp_X5_fails (md_thrown vd 0) 1 post := fun h v2 h2 => by
    subst h2
    have e : o_append S a = (1, 0, S) := by unfold o_append; rw [if_pos h]
    rw [e] at k
    exact k _ _ hM rfl nz
  refine X5_in_ok (lo := 33) (hi := 126) ha (by unfold i32; omega) (by unfold i32; omega) (fun h => wF (by decide) ?_) (fun h => wT rfl (no1 h))
  show ((vd.2.2.2.2.2.2.2.1 = 60 → _) ∧ (¬ vd.2.2.2.2.2.2.2.1 = 60 → (vp_in vd.2.2.2.2.2.2.2.1 60 ∧ _)))
  rw [hM.2.2.1]
  rw [zl_60, z_eq (by omega), z_in (by omega)]
  refine wB rfl (fun h1 v2 hv2 => ?_) (fun h1 => ⟨by omega, fun v2 hv2 v3 hv3 => ?_⟩)
  · subst hv2
    have e : o_append S a = (2, 0, S) := by unfold o_append; rw [if_neg (fun h2 => h2 h), if_pos (by omega)]
    rw [e] at k
    exact k _ _ hM rfl nz
  · subst hv2 hv3
    have e : o_append S a = (0, zz (S.2.2.1 + 1 : Nat), (S.1, S.2.1, S.2.2.1 + 1, upN S.2.2.2 S.2.2.1 a.toNat)) := by unfold o_append; rw [if_neg (fun h2 => h2 h), if_neg (by omega)]
    rw [e] at k
    have et : vd.2.2.2.2.2.2.2.1 + 1 = zz (S.2.2.1 + 1 : Nat) := by rw [hM.2.2.1, zl_1, z_add]; rfl
    refine k _ _ ⟨hM.1, hM.2.1, et, fun i hi => ?_⟩ rfl (fun _ => et)
    have hi' : i < S.2.2.1 + 1 := hi
    show upd vd.2.2.2.1 (zz S.2.2.1).toNatClampNeg (zz a) i = zz (upN S.2.2.2 S.2.2.1 a.toNat i : Nat)
    rw [z_nat (by omega), Int.toNat_natCast]
    by_cases e1 : i = S.2.2.1
    · rw [upd_eq e1, upN_eq e1]; refine congrArg zz ?_; omega
    · rw [upd_ne e1, upN_ne e1]; exact hM.2.2.2 i (by omega)
