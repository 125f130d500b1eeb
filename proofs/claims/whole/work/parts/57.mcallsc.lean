/-! THE CALLS of the reference: takeUp, undo, ifFilled. -/
def nowW (vd : Md) (v : Nat → Int32) : Md := md_now vd v
theorem nw_1 {vd : Md} {v : Nat → Int32} : (nowW vd v).1 = v := rfl
theorem nw_nw {vd : Md} {v v' : Nat → Int32} : md_now (nowW vd v) v' = nowW vd v' := rfl
theorem RepM.pop {v : Nat → Int32} {A : Ab} (hR : RepM v A) (hW : Wf A) {c : Nat} (hc : c < 6) (hk : 1 ≤ aK A c) {i0 i1 : Nat} {x y : Int32} (h0 : i0 = 10 + 61 * c) (hx : x = zz (aK A c - 1 : Nat)) (h1 : i1 = if aS A (aZ A c (aK A c - 1)) < 99 then 3 + aZ A c (aK A c - 1) else 3) (hy : y = if aS A (aZ A c (aK A c - 1)) < 99 then zz (aS A (aZ A c (aK A c - 1)) + 1 : Nat) else aW A + zz (aZ A c (aK A c - 1))) : RepM (upd (upd v i0 x) i1 y) (aPop A c) := by
  obtain ⟨r1, r2, r3, r4, r5, r6, r7⟩ := hR
  have hz := hW.2.2.2.2.2 c (aK A c - 1) hc (by omega)
  have hi : 3 ≤ i1 ∧ i1 ≤ 9 := by rw [h1]; split <;> omega
  refine ⟨?_, ?_, ?_, ?_, fun s h5 h6 => ?_, fun d hd => ?_, fun d k hd hk1 => ?_⟩
  · rw [upd_ne (by omega), upd_ne (by omega)]; exact r1
  · rw [upd_ne (by omega), upd_ne (by omega)]; exact r2
  · rw [upd_ne (by omega), upd_ne (by omega)]; exact r3
  · show _ = if aS A (aZ A c (aK A c - 1)) < 99 then aW A else aW A + zz (aZ A c (aK A c - 1))
    by_cases e : aS A (aZ A c (aK A c - 1)) < 99
    · rw [if_pos e] at h1 ⊢; rw [upd_ne (by omega), upd_ne (by omega)]; exact r4
    · rw [if_neg e] at h1 hy ⊢; rw [upd_eq (by omega), hy]
  · show _ = zz (((if aS A (aZ A c (aK A c - 1)) < 99 then upN (aS A) (aZ A c (aK A c - 1)) (aS A (aZ A c (aK A c - 1)) + 1) else aS A) s : Nat) : Int)
    by_cases e : aS A (aZ A c (aK A c - 1)) < 99
    · rw [if_pos e] at h1 hy ⊢
      by_cases e1 : s = aZ A c (aK A c - 1)
      · rw [upd_eq (by omega), upN_eq e1, hy]
      · rw [upd_ne (by omega), upN_ne e1, upd_ne (by omega)]; exact r5 s h5 h6
    · rw [if_neg e] at h1 ⊢
      rw [upd_ne (by omega), upd_ne (by omega)]; exact r5 s h5 h6
  · show _ = zz (upN (aK A) c (aK A c - 1) d : Nat)
    rw [upd_ne (by omega)]
    by_cases e : d = c
    · rw [upd_eq (by omega), upN_eq e, hx]
    · rw [upd_ne (by omega), upN_ne e]; exact r6 d hd
  · have hk' : k < upN (aK A) c (aK A c - 1) d := hk1
    have hk2 : k < aK A d := by
      by_cases e : d = c
      · rw [upN_eq e] at hk'; rw [e]; omega
      · rw [upN_ne e] at hk'; exact hk'
    have a6 := aK_60 hW hd
    rw [upd_ne (by omega), upd_ne (by omega)]
    exact r7 d k hd hk2
theorem X5_takeUp_L66_ok {vd : Md} {c m : Nat} (hc : c < 6) (hm : m ≤ 60) {ip im : Int} (hi : ip = c) (him : im = m) {K : Md → Prop} {n : Nat} : ∀ {v : Nat → Int32} {A : Ab} {u : Nat} {i : Int}, RepM v A → Wf A → i = u → u + n = m → n ≤ aK A c → (∀ v1, RepM v1 (aTake c n A) → K (nowW vd v1)) → wp_X5_takeUp_L66 (zz ip) (zz im) K (n + 1) (zz i) (nowW vd v) := by
  subst hi him
  induction n with
  | zero =>
    intro v A u i hR hW hi hn hk k
    subst hi
    unfold wp_X5_takeUp_L66
    simp (disch := omega) only [zl_0, zl_1, zl_2, zl_3, zl_4, zl_5, zl_6, zl_7, zl_8, zl_9, zl_10, zl_11, zl_12, zl_24, zl_31, zl_32, zl_33, zl_36, zl_48, zl_49, zl_54, zl_59, zl_60, zl_61, zl_97, zl_99, zl_102, zl_126, zl_180, zl_360, zl_376, zl_1880, zl_2256, zl_2903, z_add, z_sub, z_mul, z_neg, z_lt, z_le, z_eq, z_in]
    exact wT (by omega) (k v hR)
  | succ n ih =>
    intro v A u i hR hW hi hn hk k
    subst hi
    have hz := hW.2.2.2.2.2 c (aK A c - 1) hc (by omega)
    have h6 := aK_60 hW hc
    have h9 := hW.2.2.2.1 (aZ A c (aK A c - 1))
    have hpk := hR.pk (i := 10 + 61 * (c : Int)) (c := c) (by omega)
    have hst := hR.st (i := 3 + (aZ A c (aK A c - 1) : Int)) (s := aZ A c (aK A c - 1)) (by omega)
    have ez : ∀ x : Int, 0 ≤ x → x < 1000 → (zz x).toNatClampNeg = x.toNat := fun x h3 h4 => z_nat (by omega)
    have fin : ∀ (i0 i1 : Nat) (x y : Int32), i0 = 10 + 61 * c → x = zz (aK A c - 1 : Nat) → (i1 = if aS A (aZ A c (aK A c - 1)) < 99 then 3 + aZ A c (aK A c - 1) else 3) → (y = if aS A (aZ A c (aK A c - 1)) < 99 then zz (aS A (aZ A c (aK A c - 1)) + 1 : Nat) else aW A + zz (aZ A c (aK A c - 1))) → wp_X5_takeUp_L66 (zz c) (zz m) K (n + 1) (zz ((u : Int) + 1)) (nowW vd (upd (upd v i0 x) i1 y)) := fun i0 i1 x y a1 a2 a3 a4 => ih (hR.pop hW hc (by omega) a1 a2 a3 a4) (hW.pop hc) (u := u + 1) (by omega) (by omega) (by rw [aK_pop]; omega) k
    clear ih
    unfold wp_X5_takeUp_L66
    rw [nw_1]
    simp (disch := omega) only [zl_0, zl_1, zl_2, zl_3, zl_4, zl_5, zl_6, zl_7, zl_8, zl_9, zl_10, zl_11, zl_12, zl_24, zl_31, zl_32, zl_33, zl_36, zl_48, zl_49, zl_54, zl_59, zl_60, zl_61, zl_97, zl_99, zl_102, zl_126, zl_180, zl_360, zl_376, zl_1880, zl_2256, zl_2903, z_add, z_sub, z_mul, z_neg, z_lt, z_le, z_eq, z_in]
    refine wF (by omega) (X5_pebbles_ok hR hW hc rfl ?_)
    simp (disch := omega) only [zl_0, zl_1, zl_2, zl_3, zl_4, zl_5, zl_6, zl_7, zl_8, zl_9, zl_10, zl_11, zl_12, zl_24, zl_31, zl_32, zl_33, zl_36, zl_48, zl_49, zl_54, zl_59, zl_60, zl_61, zl_97, zl_99, zl_102, zl_126, zl_180, zl_360, zl_376, zl_1880, zl_2256, zl_2903, z_add, z_sub, z_mul, z_neg, z_lt, z_le, z_eq, z_in, hpk]
    refine X5_sizeOf_ok hR hW hc rfl (k := aK A c - 1) (by omega) (by omega) ⟨by omega, by omega, fun v2 hv2 => ?_⟩
    rw [nw_nw] at hv2
    subst hv2
    rw [nw_1]
    have hs2 : upd v (zz (10 + 61 * (c : Int))).toNatClampNeg (zz ((aK A c : Int) - 1)) (zz (3 + (aZ A c (aK A c - 1) : Int))).toNatClampNeg = zz (aS A (aZ A c (aK A c - 1))) := by
      rw [upd_ne, hst]
      rw [ez _ (by omega) (by omega), ez _ (by omega) (by omega)]; omega
    have hs3 : upd v (zz (10 + 61 * (c : Int))).toNatClampNeg (zz ((aK A c : Int) - 1)) (zz 3).toNatClampNeg = aW A := by
      rw [upd_ne]
      · exact hR.2.2.2.1
      · rw [ez _ (by omega) (by omega), ez _ (by omega) (by omega)]; omega
    simp (disch := omega) only [zl_0, zl_1, zl_2, zl_3, zl_4, zl_5, zl_6, zl_7, zl_8, zl_9, zl_10, zl_11, zl_12, zl_24, zl_31, zl_32, zl_33, zl_36, zl_48, zl_49, zl_54, zl_59, zl_60, zl_61, zl_97, zl_99, zl_102, zl_126, zl_180, zl_360, zl_376, zl_1880, zl_2256, zl_2903, z_add, z_sub, z_mul, z_neg, z_lt, z_le, z_eq, z_in, hs2]
    refine ⟨by omega, wB rfl (fun h => ?_) (fun h => ⟨by omega, by omega, ?_⟩)⟩
    · intro v3 hv3
      rw [nw_nw, hs3] at hv3
      subst hv3
      refine fin _ _ _ _ ?_ ?_ ?_ ?_
      · rw [ez _ (by omega) (by omega)]; omega
      · refine congrArg zz ?_; omega
      · rw [if_neg (by omega)]; rfl
      · rw [if_neg (by omega)]
    · intro v3 hv3
      rw [nw_nw] at hv3
      try rw [nw_1, hs2] at hv3
      subst hv3
      refine fin _ _ _ _ ?_ ?_ ?_ ?_
      · rw [ez _ (by omega) (by omega)]; omega
      · refine congrArg zz ?_; omega
      · rw [if_pos (by omega), ez _ (by omega) (by omega)]; omega
      · rw [if_pos (by omega)]; first | rfl | (refine congrArg zz ?_; omega)
theorem X5_takeUp_L66b_ok {vd : Md} {c m : Nat} (hc : c < 6) (hm : m ≤ 60) {ip im : Int} (hi : ip = c) (him : im = m) {K : Md → Prop} {n : Nat} : ∀ {v : Nat → Int32} {A : Ab} {u : Nat} {i : Int}, RepM v A → Wf A → i = u → u + n = m → n ≤ aK A c → (∀ v1, RepM v1 (aTake c n A) → K (nowW vd v1)) → wp_X5_takeUp_L66b (zz ip) (zz im) K (n + 1) (zz i) (nowW vd v) := by
  subst hi him
  induction n with
  | zero =>
    intro v A u i hR hW hi hn hk k
    subst hi
    unfold wp_X5_takeUp_L66b
    simp (disch := omega) only [zl_0, zl_1, zl_2, zl_3, zl_4, zl_5, zl_6, zl_7, zl_8, zl_9, zl_10, zl_11, zl_12, zl_24, zl_31, zl_32, zl_33, zl_36, zl_48, zl_49, zl_54, zl_59, zl_60, zl_61, zl_97, zl_99, zl_102, zl_126, zl_180, zl_360, zl_376, zl_1880, zl_2256, zl_2903, z_add, z_sub, z_mul, z_neg, z_lt, z_le, z_eq, z_in]
    exact wT (by omega) (k v hR)
  | succ n ih =>
    intro v A u i hR hW hi hn hk k
    subst hi
    have hz := hW.2.2.2.2.2 c (aK A c - 1) hc (by omega)
    have h6 := aK_60 hW hc
    have h9 := hW.2.2.2.1 (aZ A c (aK A c - 1))
    have hpk := hR.pk (i := 10 + 61 * (c : Int)) (c := c) (by omega)
    have hst := hR.st (i := 3 + (aZ A c (aK A c - 1) : Int)) (s := aZ A c (aK A c - 1)) (by omega)
    have ez : ∀ x : Int, 0 ≤ x → x < 1000 → (zz x).toNatClampNeg = x.toNat := fun x h3 h4 => z_nat (by omega)
    have fin : ∀ (i0 i1 : Nat) (x y : Int32), i0 = 10 + 61 * c → x = zz (aK A c - 1 : Nat) → (i1 = if aS A (aZ A c (aK A c - 1)) < 99 then 3 + aZ A c (aK A c - 1) else 3) → (y = if aS A (aZ A c (aK A c - 1)) < 99 then zz (aS A (aZ A c (aK A c - 1)) + 1 : Nat) else aW A + zz (aZ A c (aK A c - 1))) → wp_X5_takeUp_L66b (zz c) (zz m) K (n + 1) (zz ((u : Int) + 1)) (nowW vd (upd (upd v i0 x) i1 y)) := fun i0 i1 x y a1 a2 a3 a4 => ih (hR.pop hW hc (by omega) a1 a2 a3 a4) (hW.pop hc) (u := u + 1) (by omega) (by omega) (by rw [aK_pop]; omega) k
    clear ih
    unfold wp_X5_takeUp_L66b
    rw [nw_1]
    simp (disch := omega) only [zl_0, zl_1, zl_2, zl_3, zl_4, zl_5, zl_6, zl_7, zl_8, zl_9, zl_10, zl_11, zl_12, zl_24, zl_31, zl_32, zl_33, zl_36, zl_48, zl_49, zl_54, zl_59, zl_60, zl_61, zl_97, zl_99, zl_102, zl_126, zl_180, zl_360, zl_376, zl_1880, zl_2256, zl_2903, z_add, z_sub, z_mul, z_neg, z_lt, z_le, z_eq, z_in]
    refine wF (by omega) (X5_pebbles_ok hR hW hc rfl ?_)
    simp (disch := omega) only [zl_0, zl_1, zl_2, zl_3, zl_4, zl_5, zl_6, zl_7, zl_8, zl_9, zl_10, zl_11, zl_12, zl_24, zl_31, zl_32, zl_33, zl_36, zl_48, zl_49, zl_54, zl_59, zl_60, zl_61, zl_97, zl_99, zl_102, zl_126, zl_180, zl_360, zl_376, zl_1880, zl_2256, zl_2903, z_add, z_sub, z_mul, z_neg, z_lt, z_le, z_eq, z_in, hpk]
    refine X5_sizeOf_ok hR hW hc rfl (k := aK A c - 1) (by omega) (by omega) ⟨by omega, by omega, fun v2 hv2 => ?_⟩
    rw [nw_nw] at hv2
    subst hv2
    rw [nw_1]
    have hs2 : upd v (zz (10 + 61 * (c : Int))).toNatClampNeg (zz ((aK A c : Int) - 1)) (zz (3 + (aZ A c (aK A c - 1) : Int))).toNatClampNeg = zz (aS A (aZ A c (aK A c - 1))) := by
      rw [upd_ne, hst]
      rw [ez _ (by omega) (by omega), ez _ (by omega) (by omega)]; omega
    have hs3 : upd v (zz (10 + 61 * (c : Int))).toNatClampNeg (zz ((aK A c : Int) - 1)) (zz 3).toNatClampNeg = aW A := by
      rw [upd_ne]
      · exact hR.2.2.2.1
      · rw [ez _ (by omega) (by omega), ez _ (by omega) (by omega)]; omega
    simp (disch := omega) only [zl_0, zl_1, zl_2, zl_3, zl_4, zl_5, zl_6, zl_7, zl_8, zl_9, zl_10, zl_11, zl_12, zl_24, zl_31, zl_32, zl_33, zl_36, zl_48, zl_49, zl_54, zl_59, zl_60, zl_61, zl_97, zl_99, zl_102, zl_126, zl_180, zl_360, zl_376, zl_1880, zl_2256, zl_2903, z_add, z_sub, z_mul, z_neg, z_lt, z_le, z_eq, z_in, hs2]
    refine ⟨by omega, wB rfl (fun h => ?_) (fun h => ⟨by omega, by omega, ?_⟩)⟩
    · intro v3 hv3
      rw [nw_nw, hs3] at hv3
      subst hv3
      refine fin _ _ _ _ ?_ ?_ ?_ ?_
      · rw [ez _ (by omega) (by omega)]; omega
      · refine congrArg zz ?_; omega
      · rw [if_neg (by omega)]; rfl
      · rw [if_neg (by omega)]
    · intro v3 hv3
      rw [nw_nw] at hv3
      try rw [nw_1, hs2] at hv3
      subst hv3
      refine fin _ _ _ _ ?_ ?_ ?_ ?_
      · rw [ez _ (by omega) (by omega)]; omega
      · refine congrArg zz ?_; omega
      · rw [if_pos (by omega), ez _ (by omega) (by omega)]; omega
      · rw [if_pos (by omega)]; first | rfl | (refine congrArg zz ?_; omega)
theorem X5_takeUp_ok {vd : Md} {S : SS} (hM : InvM vd S) (hW : WfS S) {a : Int} {b : Int} (ha : i32 a) (hb : i32 b)  {post : Int32 → Md → Prop} (k : ∀ r vd1, InvM vd1 (o_takeUp S a b).2.2 → thr vd1 = zz (o_takeUp S a b).1 → ((o_takeUp S a b).1 = 0 → r = (o_takeUp S a b).2.1) → post r vd1) : wp_X5_takeUp vd (zz a) (zz b)  post := by
  unfold i32 at *
  unfold wp_X5_takeUp
  intro v1 hv1
  subst hv1
  have no1 : ¬ isC a → wp_X5_fails (md_thrown vd 0) 1 post := fun h v2 h2 => by
    subst h2
    have e : o_takeUp S a b = (1, 0, S) := by unfold o_takeUp; rw [if_pos h]
    rw [e] at k
    exact k _ _ hM rfl nz
  refine X5_isCourse_ok ha (fun h => wF (by decide) ?_) (fun h => wT rfl (no1 h))
  refine X5_in_ok (lo := 1) (hi := 60) hb (by unfold i32; omega) (by unfold i32; omega) (fun h1 => wF (by decide) ?_) (fun h1 => wT rfl (fun v2 hv2 => ?_))
  · have e : o_takeUp S a b = (0, zz (min b.toNat (aK S.1 a.toNat) : Nat), sS S (aTake a.toNat (min b.toNat (aK S.1 a.toNat)) S.1)) := by unfold o_takeUp; rw [if_neg (fun h2 => h2 h), if_neg (fun h2 => h2 h1)]
    rw [e] at k
    have h6 := aK_60 hW.1 (show a.toNat < 6 by omega)
    refine X5_saves_ok (vd := md_thrown vd 0) hM.1 hW.1 hM.2.1 hW.2.1 (fun f1 x h2 => ?_)
    refine X5_pebbles_ok (A := S.1) hM.1 hW.1 (c := a.toNat) (by omega) (by omega) ?_
    have e0 : pastW (md_thrown vd 0) f1 x = nowW (pastW (md_thrown vd 0) f1 x) vd.1 := rfl
    rw [z_le (by omega)]
    refine wB rfl (fun h3 => X5_pebbles_ok (A := S.1) hM.1 hW.1 (c := a.toNat) (by omega) (by omega) ⟨aK S.1 a.toNat + 1, ?_⟩) (fun h3 => ⟨b.toNat + 1, ?_⟩)
    · rw [e0]
      refine X5_takeUp_L66_ok (c := a.toNat) (m := aK S.1 a.toNat) (by omega) h6 (by omega) rfl hM.1 hW.1 (u := 0) (i := 0) rfl (by omega) (Nat.le_refl _) (fun v1 h7 => ?_)
      have e5 : min b.toNat (aK S.1 a.toNat) = aK S.1 a.toNat := by omega
      rw [e5] at k
      exact k _ _ ⟨h7, h2, hM.2.2⟩ rfl (fun _ => rfl)
    · rw [e0]
      refine X5_takeUp_L66b_ok (c := a.toNat) (m := b.toNat) (by omega) (by omega) (by omega) (by omega) hM.1 hW.1 (u := 0) (i := 0) rfl (by omega) (by omega) (fun v1 h7 => ?_)
      have e5 : min b.toNat (aK S.1 a.toNat) = b.toNat := by omega
      rw [e5, show ((b.toNat : Nat) : Int) = b by omega] at k
      exact k _ _ ⟨h7, h2, hM.2.2⟩ rfl (fun _ => rfl)
  · subst hv2
    have e : o_takeUp S a b = (2, 0, S) := by unfold o_takeUp; rw [if_neg (fun h2 => h2 h), if_pos h1]
    rw [e] at k
    exact k _ _ hM rfl nz
