/-! Taking up. -/
def aPop (A : Ab) (c : Nat) : Ab := (aN A, aR A, aC A, if aS A (aZ A c (aK A c - 1)) < 99 then aW A else aW A + zz (aZ A c (aK A c - 1)), if aS A (aZ A c (aK A c - 1)) < 99 then upN (aS A) (aZ A c (aK A c - 1)) (aS A (aZ A c (aK A c - 1)) + 1) else aS A, upN (aK A) c (aK A c - 1), aZ A, aF A)
def aTake (c : Nat) : Nat → Ab → Ab
  | 0, A => A
  | n + 1, A => aTake c n (aPop A c)
theorem aK_pop {A : Ab} {c : Nat} : aK (aPop A c) c = aK A c - 1 := upN_eq rfl
theorem tak_pop {A : Ab} {c d : Nat} : tak (aPop A c) d = if d = c then ps (aZ A c) (aK A c - 1) else tak A d := by
  show ps (aZ A d) (upN (aK A) c (aK A c - 1) d) = _
  by_cases h : d = c
  · rw [upN_eq h, if_pos h, h]
  · rw [upN_ne h, if_neg h]; rfl
theorem aB_pop {A : Ab} (hW : Wf A) {c d p : Nat} (hc : c < 6) (hk : 1 ≤ aK A c) : aB (aPop A c) d p = if d = c ∧ p = ps (aZ A c) (aK A c - 1) then 0 else aB A d p := by
  show bgn (aZ A d) (aF A d) (upN (aK A) c (aK A c - 1) d) p = _
  by_cases h : d = c
  · subst h
    rw [upN_eq rfl]
    have hs := fun k hk => hW.2.2.2.2.2 d k hc hk
    obtain ⟨m, hm⟩ : ∃ m, aK A d = m + 1 := ⟨aK A d - 1, by omega⟩
    have e : aB A d p = bgn (aZ A d) (aF A d) (m + 1) p := by unfold aB; rw [hm]
    rw [e, bgn_succ, hm, Nat.add_sub_cancel]
    by_cases h1 : p = ps (aZ A d) m
    · rw [if_pos ⟨rfl, h1⟩]
      exact bgn_top (fun k hk => hs k (by omega)) (by omega)
    · rw [if_neg (fun h2 => h1 h2.2), if_neg (fun h2 => h1 h2.symm)]
  · rw [upN_ne h, if_neg (fun h1 => h h1.1)]; rfl
theorem Wf.pop {A : Ab} (hW : Wf A) {c : Nat} (hc : c < 6) : Wf (aPop A c) := by
  refine ⟨hW.1, hW.2.1, hW.2.2.1, fun t => ?_, fun d hd => ?_, fun d k hd hk => ?_⟩
  · show (if aS A (aZ A c (aK A c - 1)) < 99 then upN (aS A) (aZ A c (aK A c - 1)) (aS A (aZ A c (aK A c - 1)) + 1) else aS A) t ≤ 99
    have := hW.2.2.2.1 t
    split
    · by_cases e : t = aZ A c (aK A c - 1)
      · rw [upN_eq e]; omega
      · rw [upN_ne e]; exact this
    · exact this
  · rw [tak_pop]
    show _ ≤ cel A d
    have h1 := hW.2.2.2.2.1 d hd
    split
    · rename_i e
      subst e
      have : ps (aZ A d) (aK A d - 1) ≤ tak A d := ps_mono (by omega)
      omega
    · exact h1
  · have hk' : k < upN (aK A) c (aK A c - 1) d := hk
    refine hW.2.2.2.2.2 d k hd ?_
    by_cases e : d = c
    · rw [upN_eq e] at hk'; rw [e]; omega
    · rw [upN_ne e] at hk'; exact hk'
theorem Wf.take {c n : Nat} (hc : c < 6) {A : Ab} (hW : Wf A) : Wf (aTake c n A) := by
  induction n generalizing A with
  | zero => exact hW
  | succ n ih => exact ih (hW.pop hc)
theorem RepC.pop {w : Mo} {A : Ab} (hR : RepC w A) (hW : Wf A) {c : Nat} (hc : c < 6) (hk : 1 ≤ aK A c) {i0 i1 : Nat} {y : Int32} (h0 : i0 = 60 * c + ps (aZ A c) (aK A c - 1)) (h1 : i1 = c) (hy : y = zz (ps (aZ A c) (aK A c - 1) : Nat)) {S : Nat → Int32} {q : Int32} (hS : ∀ s, 1 ≤ s → s ≤ 6 → S s = zz (aS (aPop A c) s)) (hq : q = aW (aPop A c)) : RepC (w.1, upd w.2.1 i1 y, upd w.2.2.1 i0 0, S, w.2.2.2.2.1, w.2.2.2.2.2.1, q) (aPop A c) := by
  subst h0 h1 hy
  have e4 := cel_r hW hc
  have e5 := hW.2.2.2.2.1 i1 hc
  have e6 : ps (aZ A i1) (aK A i1 - 1) ≤ tak A i1 := ps_mono (by omega)
  obtain ⟨r1, r2, r3, r4, r5, r6, r7⟩ := hR
  refine ⟨r1, fun d hd => ?_, fun d p hd hp => ?_, hS, r5, r6, hq⟩
  · rw [tak_pop]
    show upd w.2.1 i1 _ d = _
    by_cases e : d = i1
    · rw [upd_eq e, if_pos e]
    · rw [upd_ne e, if_neg e]; exact r2 d hd
  · rw [aB_pop hW hc hk]
    show upd w.2.2.1 _ _ _ = _
    have e7 := hW.2.2.2.2.2 i1 (aK A i1 - 1) hc (by omega)
    have e8 : ps (aZ A i1) (aK A i1 - 1 + 1) = ps (aZ A i1) (aK A i1 - 1) + aZ A i1 (aK A i1 - 1) := rfl
    have e9 : tak A i1 = ps (aZ A i1) (aK A i1 - 1 + 1) := by unfold tak; rw [show aK A i1 - 1 + 1 = aK A i1 by omega]
    by_cases e : d = i1 ∧ p = ps (aZ A i1) (aK A i1 - 1)
    · rw [if_pos e, upd_eq (by rw [e.1, e.2])]; rfl
    · rw [if_neg e, upd_ne (by omega)]; exact r3 d p hd hp
theorem X2_takeUpLast_L_ok {c m : Nat} (hc : c < 6) (hm : m ≤ 60) {ip im : Int} (hi : ip = c) (him : im = m) {K : Int32 → Mo → Prop} {n : Nat} : ∀ {w : Mo} {A : Ab} {u : Nat} {i j : Int}, RepC w A → Wf A → i = u → j = (n : Int) - 1 → n ≤ 60 → u ≤ m → (∀ q, n ≤ q → q < 60 → aB A c q = 0) → (∀ w1, RepC w1 (aTake c (min (m - u) (aK A c)) A) → K (zz (u + min (m - u) (aK A c) : Nat)) w1) → wp_X2_takeUpLast_L26 (zz ip) (zz im) K (n + 1) (zz i) (zz j) w := by
  subst hi him
  induction n with
  | zero =>
    intro w A u i j hR hW hi hj hn hu hq k
    subst hi hj
    unfold wp_X2_takeUpLast_L26
    simp (disch := omega) only [zl_0, zl_1, zl_2, zl_3, zl_4, zl_5, zl_6, zl_7, zl_8, zl_9, zl_10, zl_11, zl_12, zl_24, zl_31, zl_32, zl_33, zl_36, zl_48, zl_49, zl_54, zl_59, zl_60, zl_61, zl_97, zl_99, zl_102, zl_126, zl_180, zl_360, zl_376, zl_1880, zl_2256, zl_2903, z_add, z_sub, z_mul, z_neg, z_lt, z_le, z_eq, z_in]
    have h2 := cel_r hW hc
    have h3 := hW.2.2.2.2.1 c hc
    have hs := fun k hk => hW.2.2.2.2.2 c k hc hk
    have e : aK A c = 0 := by
      rcases Nat.eq_zero_or_pos (aK A c) with h | h
      · exact h
      · exact absurd (hq 0 (Nat.le_refl _) (by omega)) ((bgn_ne hs).1.mpr (isJ_iff.mpr ⟨0, h, rfl⟩))
    rw [e, Nat.min_zero, Nat.add_zero] at k
    exact wT (by omega) (k w hR)
  | succ n ih =>
    intro w A u i j hR hW hi hj hn hu hq k
    subst hi hj
    unfold wp_X2_takeUpLast_L26
    have hbe := hR.be (i := (c : Int) * 60 + (((n + 1 : Nat) : Int) - 1)) (c := c) (p := n) (by omega)
    have h2 := cel_r hW hc
    have h3 := hW.2.2.2.2.1 c hc
    have hs := fun k hk => hW.2.2.2.2.2 c k hc hk
    have h5 := aB_r hW hc (p := n)
    simp (disch := omega) only [zl_0, zl_1, zl_2, zl_3, zl_4, zl_5, zl_6, zl_7, zl_8, zl_9, zl_10, zl_11, zl_12, zl_24, zl_31, zl_32, zl_33, zl_36, zl_48, zl_49, zl_54, zl_59, zl_60, zl_61, zl_97, zl_99, zl_102, zl_126, zl_180, zl_360, zl_376, zl_1880, zl_2256, zl_2903, z_add, z_sub, z_mul, z_neg, z_lt, z_le, z_eq, z_in, hbe]
    refine wF (by omega) (wB rfl (fun h => ?_) (fun h => ⟨by omega, wB rfl (fun h1 => ?_) (fun h1 => ⟨by omega, fun w1 hw1 => ⟨by omega, ?_⟩⟩)⟩))
    · rw [show m - u = 0 by omega, Nat.zero_min, Nat.add_zero] at k
      exact k w hR
    · refine ih hR hW rfl (by omega) (by omega) hu (fun q h6 h7 => ?_) k
      rcases Nat.lt_or_ge n q with h8 | h8
      · exact hq q h8 h7
      · rw [show q = n by omega]; exact h1
    · subst hw1
      obtain ⟨k1, e1, e2⟩ := isJ_iff.mp ((bgn_ne hs).1.mp h1)
      have e3 : k1 = aK A c - 1 := by
        rcases Nat.lt_or_ge (k1 + 1) (aK A c) with h6 | h6
        · have h7 := ps_lt h6 (fun j hj => (hs j hj).1)
          have h8 : ps (aZ A c) (aK A c) = tak A c := rfl
          have h9 := hs k1 e1
          have h10 : ps (aZ A c) (k1 + 1) = ps (aZ A c) k1 + aZ A c k1 := rfl
          exact absurd (hq (ps (aZ A c) (k1 + 1)) (by omega) (by omega)) ((bgn_ne hs).1.mpr (isJ_iff.mpr ⟨k1 + 1, h6, rfl⟩))
        · omega
      subst e3
      have e4 : tak A c = n + aZ A c (aK A c - 1) := by
        have : ps (aZ A c) (aK A c - 1 + 1) = ps (aZ A c) (aK A c - 1) + aZ A c (aK A c - 1) := rfl
        rw [show aK A c - 1 + 1 = aK A c by omega] at this
        rw [← e2]
        exact this
      have e5 := hs (aK A c - 1) e1
      have e6 := hW.2.2.2.1 (aZ A c (aK A c - 1))
      have hta := hR.ta (i := (c : Int)) (by omega)
      rw [Int.toNat_natCast] at hta
      have hst := hR.st (i := (aZ A c (aK A c - 1) : Int)) (by omega)
      rw [Int.toNat_natCast] at hst
      show wp_X2_bringBack _ (w.2.1 _ - _) _
      rw [hta, z_sub, show (tak A c : Int) - (((n + 1 : Nat) : Int) - 1) = (aZ A c (aK A c - 1) : Nat) by omega]
      unfold wp_X2_bringBack
      refine X2_isSize_ok (by omega) (wF (by decide) ?_)
      simp (disch := omega) only [zl_0, zl_1, zl_2, zl_3, zl_4, zl_5, zl_6, zl_7, zl_8, zl_9, zl_10, zl_11, zl_12, zl_24, zl_31, zl_32, zl_33, zl_36, zl_48, zl_49, zl_54, zl_59, zl_60, zl_61, zl_97, zl_99, zl_102, zl_126, zl_180, zl_360, zl_376, zl_1880, zl_2256, zl_2903, z_add, z_sub, z_mul, z_neg, z_lt, z_le, z_eq, z_in, hst]
      have fin : ∀ (S : Nat → Int32) (q : Int32), (∀ s, 1 ≤ s → s ≤ 6 → S s = zz (aS (aPop A c) s)) → q = aW (aPop A c) → wp_X2_takeUpLast_L26 (zz c) (zz m) K (n + 1) (zz (u + 1)) (zz (((n + 1 : Nat) : Int) - 1 + -1)) (w.1, upd w.2.1 (zz c).toNatClampNeg (zz (((n + 1 : Nat) : Int) - 1)), upd w.2.2.1 (zz ((c : Int) * 60 + (((n + 1 : Nat) : Int) - 1))).toNatClampNeg (zz 0), S, w.2.2.2.2.1, w.2.2.2.2.2.1, q) := fun S q hS hq1 => by
        refine ih (hR.pop hW hc (by omega) ?_ ?_ ?_ hS hq1) (hW.pop hc) (by omega) (by omega) (by omega) (by omega) (fun q h6 h7 => ?_) ?_ (u := u + 1)
        · rw [z_nat (by omega)]; omega
        · rw [z_nat (by omega)]; omega
        · exact congrArg zz (by omega)
        · rw [aB_pop hW hc (by omega)]
          by_cases e7 : q = n
          · rw [if_pos ⟨rfl, by omega⟩]
          · rw [if_neg (by omega)]; exact hq q (by omega) h7
        · intro w1 h6
          rw [aK_pop] at h6 ⊢
          have e8 : min (m - u) (aK A c) = min (m - (u + 1)) (aK A c - 1) + 1 := by omega
          have := k w1 (by rw [e8]; exact h6)
          rw [show u + 1 + min (m - (u + 1)) (aK A c - 1) = u + min (m - u) (aK A c) by omega]
          exact this
      refine ⟨by omega, wB rfl (fun h6 => ?_) (fun h6 => ⟨by omega, ⟨by omega, ?_⟩⟩)⟩
      · intro w2 hw2
        subst hw2
        refine ⟨by omega, fun w3 hw3 => ?_⟩
        subst hw3
        refine fin w.2.2.2.1 _ (fun s h7 h8 => ?_) ?_
        · show _ = zz (((if aS A (aZ A c (aK A c - 1)) < 99 then upN (aS A) (aZ A c (aK A c - 1)) (aS A (aZ A c (aK A c - 1)) + 1) else aS A) s : Nat) : Int)
          rw [if_neg (by omega)]; exact hR.2.2.2.1 s h7 h8
        · show _ = if aS A (aZ A c (aK A c - 1)) < 99 then aW A else aW A + zz (aZ A c (aK A c - 1))
          rw [if_neg (by omega), ← hR.2.2.2.2.2.2]
      · intro w2 hw2
        subst hw2
        refine ⟨by omega, fun w3 hw3 => ?_⟩
        subst hw3
        refine fin (upd w.2.2.2.1 (zz (aZ A c (aK A c - 1) : Nat)).toNatClampNeg _) w.2.2.2.2.2.2 (fun s h7 h8 => ?_) ?_
        · show _ = zz (((if aS A (aZ A c (aK A c - 1)) < 99 then upN (aS A) (aZ A c (aK A c - 1)) (aS A (aZ A c (aK A c - 1)) + 1) else aS A) s : Nat) : Int)
          rw [if_pos (by omega)]
          rw [z_nat (by omega), Int.toNat_natCast]
          by_cases e : s = aZ A c (aK A c - 1)
          · rw [upd_eq e, upN_eq e]; exact congrArg zz (by omega)
          · rw [upd_ne e, upN_ne e]; exact hR.2.2.2.1 s h7 h8
        · show _ = if aS A (aZ A c (aK A c - 1)) < 99 then aW A else aW A + zz (aZ A c (aK A c - 1))
          rw [if_pos (by omega), ← hR.2.2.2.2.2.2]
theorem X2_takeUpLast_ok {w : Mo} {A : Ab} (hR : RepC w A) (hW : Wf A) {i j : Int} {c m : Nat} (hc : c < 6) (hm : 1 ≤ m ∧ m ≤ 60) (hi : i = c) (hj : j = m) {post : Int32 → Mo → Prop} (k : ∀ w1, RepC w1 (aTake c (min m (aK A c)) A) → post (zz (min m (aK A c) : Nat)) w1) : wp_X2_takeUpLast w (zz i) (zz j) post := by
  subst hi hj
  have h2 := cel_r hW hc
  have h3 := hW.2.2.2.2.1 c hc
  have hs := fun k hk => hW.2.2.2.2.2 c k hc hk
  have hta := hR.ta (i := (c : Int)) (by omega)
  rw [Int.toNat_natCast] at hta
  unfold wp_X2_takeUpLast
  refine X2_isCourse_ok (by omega) (wF (by decide) ?_)
  simp (disch := omega) only [zl_0, zl_1, zl_2, zl_3, zl_4, zl_5, zl_6, zl_7, zl_8, zl_9, zl_10, zl_11, zl_12, zl_24, zl_31, zl_32, zl_33, zl_36, zl_48, zl_49, zl_54, zl_59, zl_60, zl_61, zl_97, zl_99, zl_102, zl_126, zl_180, zl_360, zl_376, zl_1880, zl_2256, zl_2903, z_add, z_sub, z_mul, z_neg, z_lt, z_le, z_eq, z_in, hta]
  rw [if_neg (by omega), z_sub]
  refine ⟨by omega, tak A c + 1, ?_⟩
  refine X2_takeUpLast_L_ok hc hm.2 rfl rfl (u := 0) hR hW rfl rfl (by omega) (by omega) (fun q h4 h5 => bgn_top hs h4) (fun w1 h6 => ?_)
  rw [Nat.zero_add]
  exact k w1 h6
