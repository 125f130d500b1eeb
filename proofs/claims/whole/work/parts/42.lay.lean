/-! A pebble laid: where it comes from, why not, and what is then. -/
def grt (S : Nat → Nat) : Nat → Nat → Nat
  | 0, _ => 0
  | n + 1, g => if 6 < g then 0 else if S g = 0 then grt S n (g + 1) else g
def aSrc (A : Ab) (s : Nat) (f : Bool) : Nat := if f then grt (aS A) 7 (s + 1) else if aS A s = 0 then 0 else s
def aRea (A : Ab) (c s : Nat) (f : Bool) : Nat := if cel A c - tak A c = 0 then 1 else if cel A c - tak A c < s then 2 else if aSrc A s f = 0 then 3 else if s < cel A c - tak A c then (if aRun A c (tak A c + s) then 4 else 0) else 0
def upN {α : Type} (f : Nat → α) (k : Nat) (x : α) : Nat → α := fun j => if j = k then x else f j
theorem upN_eq {α : Type} {f : Nat → α} {k j : Nat} {x : α} (h : j = k) : upN f k x j = x := by subst h; exact if_pos rfl
theorem upN_ne {α : Type} {f : Nat → α} {k j : Nat} {x : α} (h : j ≠ k) : upN f k x j = f j := if_neg h
def aPut (A : Ab) (c s : Nat) (f : Bool) : Ab := (aN A, aR A, aC A, aW A + zz ((aSrc A s f : Int) - s), upN (aS A) (aSrc A s f) (aS A (aSrc A s f) - 1), upN (aK A) c (aK A c + 1), upN (aZ A) c (upN (aZ A c) (aK A c) s), upN (aF A) c (upN (aF A c) (aK A c) f))
theorem grt_r {S : Nat → Nat} {n g : Nat} : grt S n g = 0 ∨ (g ≤ grt S n g ∧ grt S n g ≤ 6 ∧ S (grt S n g) ≠ 0) := by
  induction n generalizing g with
  | zero => exact .inl rfl
  | succ n ih =>
    unfold grt
    by_cases h : 6 < g
    · rw [if_pos h]; exact .inl rfl
    · rw [if_neg h]
      by_cases h1 : S g = 0
      · rw [if_pos h1]
        rcases ih (g := g + 1) with h2 | h2
        · exact .inl h2
        · exact .inr ⟨by omega, h2.2⟩
      · rw [if_neg h1]; exact .inr ⟨Nat.le_refl _, by omega, h1⟩
theorem aSrc_r {A : Ab} {s : Nat} {f : Bool} (hs : s ≤ 6) : aSrc A s f = 0 ∨ (s ≤ aSrc A s f ∧ aSrc A s f ≤ 6 ∧ aS A (aSrc A s f) ≠ 0) := by
  unfold aSrc
  cases f
  · by_cases h : aS A s = 0
    · exact .inl (by simp [h])
    · simp only [if_neg h, Bool.false_eq_true, if_false]; exact .inr ⟨Nat.le_refl _, hs, h⟩
  · simp only [if_true]
    rcases grt_r (S := aS A) (n := 7) (g := s + 1) with h | h
    · exact .inl h
    · exact .inr ⟨by omega, h.2⟩
theorem ps_congr {f f' : Nat → Nat} {n : Nat} (h : ∀ k, k < n → f k = f' k) : ps f n = ps f' n := by
  induction n with
  | zero => rfl
  | succ n ih => show ps f n + f n = ps f' n + f' n; rw [ih (fun k hk => h k (by omega)), h n (by omega)]
theorem isJ_congr {f f' : Nat → Nat} {n p : Nat} (h : ∀ k, k < n → f k = f' k) : isJ f n p = isJ f' n p := by
  induction n with
  | zero => rfl
  | succ n ih => unfold isJ; rw [ih (fun k hk => h k (by omega)), ps_congr (fun k hk => h k (by omega))]
theorem bgn_congr {f f' : Nat → Nat} {g g' : Nat → Bool} {n p : Nat} (h : ∀ k, k < n → f k = f' k ∧ g k = g' k) : bgn f g n p = bgn f' g' n p := by
  induction n with
  | zero => rfl
  | succ n ih => unfold bgn; rw [ih (fun k hk => h k (by omega)), ps_congr (fun k hk => (h k (by omega)).1), (h n (by omega)).1, (h n (by omega)).2]
theorem upN_lt {α : Type} {f : Nat → α} {n k : Nat} {x : α} (h : k < n) : upN f n x k = f k := upN_ne (by omega)
theorem bgn_succ {f : Nat → Nat} {g : Nat → Bool} {n p : Nat} : bgn f g (n + 1) p = if ps f n = p then (if g n then -(f n : Int) else (f n : Int)) else bgn f g n p := rfl
theorem bB_f : bB false = 0 := rfl
theorem bB_t : bB true = 1 := rfl
theorem tak_put {A : Ab} {c c' s : Nat} {f : Bool} : tak (aPut A c s f) c' = if c' = c then tak A c + s else tak A c' := by
  by_cases h : c' = c
  · subst h
    rw [if_pos rfl]
    unfold tak aPut aZ aK
    show ps (upN A.2.2.2.2.2.2.1 c' _ c') (upN A.2.2.2.2.2.1 c' _ c') = _
    rw [upN_eq rfl, upN_eq rfl]
    show ps _ _ + upN _ _ _ _ = _
    rw [upN_eq rfl, ps_congr (fun k hk => upN_lt hk)]
  · rw [if_neg h]
    unfold tak aPut aZ aK
    show ps (upN A.2.2.2.2.2.2.1 c _ c') (upN A.2.2.2.2.2.1 c _ c') = _
    rw [upN_ne h, upN_ne h]
theorem aB_put {A : Ab} {c c' p s : Nat} {f : Bool} : aB (aPut A c s f) c' p = if c' = c ∧ p = tak A c then (if f then -(s : Int) else (s : Int)) else aB A c' p := by
  by_cases h : c' = c
  · subst h
    unfold aB aPut aZ aK aF
    show bgn (upN A.2.2.2.2.2.2.1 c' _ c') (upN A.2.2.2.2.2.2.2 c' _ c') (upN A.2.2.2.2.2.1 c' _ c') p = _
    rw [upN_eq rfl, upN_eq rfl, upN_eq rfl, bgn_succ]
    rw [ps_congr (f' := A.2.2.2.2.2.2.1 c') (fun k hk => upN_lt hk), upN_eq rfl, upN_eq rfl]
    by_cases h1 : ps (A.2.2.2.2.2.2.1 c') (A.2.2.2.2.2.1 c') = p
    · rw [if_pos h1, if_pos (show c' = c' ∧ p = tak A c' from ⟨rfl, h1.symm⟩)]
    · rw [if_neg h1, if_neg (fun h2 => h1 h2.2.symm)]
      exact bgn_congr (fun k hk => ⟨upN_lt hk, upN_lt hk⟩)
  · rw [if_neg (fun h1 => h h1.1)]
    unfold aB aPut aZ aK aF
    show bgn (upN A.2.2.2.2.2.2.1 c _ c') (upN A.2.2.2.2.2.2.2 c _ c') (upN A.2.2.2.2.2.1 c _ c') p = _
    rw [upN_ne h, upN_ne h, upN_ne h]
theorem cel_put {A : Ab} {c c' s : Nat} {f : Bool} : cel (aPut A c s f) c' = cel A c' := rfl
theorem aS_put {A : Ab} {c s t : Nat} {f : Bool} : aS (aPut A c s f) t = if t = aSrc A s f then aS A t - 1 else aS A t := by
  show upN _ _ _ _ = _
  unfold upN
  by_cases h : t = aSrc A s f
  · rw [if_pos h, if_pos h, h]
  · rw [if_neg h, if_neg h]
theorem aRea_0 {A : Ab} {c s : Nat} {f : Bool} (h : aRea A c s f = 0) : s ≤ cel A c - tak A c ∧ aSrc A s f ≠ 0 ∧ tak A c < cel A c := by
  unfold aRea at h
  by_cases h1 : cel A c - tak A c = 0
  · rw [if_pos h1] at h; exact absurd h (by decide)
  rw [if_neg h1] at h
  by_cases h2 : cel A c - tak A c < s
  · rw [if_pos h2] at h; exact absurd h (by decide)
  rw [if_neg h2] at h
  by_cases h3 : aSrc A s f = 0
  · rw [if_pos h3] at h; exact absurd h (by decide)
  exact ⟨by omega, h3, by omega⟩
theorem Wf.put {A : Ab} (hW : Wf A) {c s : Nat} {f : Bool} (hc : c < 6) (hs : 1 ≤ s ∧ s ≤ 6) (h : aRea A c s f = 0) : Wf (aPut A c s f) := by
  obtain ⟨h1, h2, h3⟩ := aRea_0 h
  refine ⟨hW.1, hW.2.1, hW.2.2.1, fun t => ?_, fun c' hc' => ?_, fun c' k hc' hk => ?_⟩
  · rw [aS_put]
    have := hW.2.2.2.1 t
    split <;> omega
  · rw [tak_put, cel_put]
    have := hW.2.2.2.2.1 c' hc'
    split
    · rename_i e; subst e; omega
    · exact this
  · have hk' : k < upN (aK A) c (aK A c + 1) c' := hk
    show 1 ≤ upN (aZ A) c (upN (aZ A c) (aK A c) s) c' k ∧ upN (aZ A) c (upN (aZ A c) (aK A c) s) c' k ≤ 6
    by_cases e : c' = c
    · subst e
      rw [upN_eq rfl] at hk' ⊢
      by_cases e1 : k = aK A c'
      · rw [upN_eq e1]; exact hs
      · rw [upN_ne e1]; exact hW.2.2.2.2.2 c' k hc' (by omega)
    · rw [upN_ne e] at hk' ⊢
      exact hW.2.2.2.2.2 c' k hc' hk'
theorem X2_sourceOf_L_ok {w : Mo} {A : Ab} (hR : RepC w A) (hW : Wf A) {K : Int32 → Prop} {Z : Prop} (hz : K (zz 0) → Z) {n : Nat} : ∀ {g : Nat} {i : Int}, i = g → 1 ≤ g → g ≤ 7 → 7 < n + g → K (zz (grt (aS A) n g)) → wp_X2_sourceOf_L22 w K Z n (zz i) := by
  induction n with
  | zero => intro g i hi h1 h2 h3 k; omega
  | succ n ih =>
    intro g i hi h1 h2 h3 k
    subst hi
    unfold grt at k
    unfold wp_X2_sourceOf_L22
    simp (disch := omega) only [zl_0, zl_1, zl_2, zl_3, zl_4, zl_5, zl_6, zl_7, zl_8, zl_9, zl_10, zl_11, zl_12, zl_24, zl_31, zl_32, zl_33, zl_36, zl_48, zl_49, zl_54, zl_59, zl_60, zl_61, zl_97, zl_99, zl_102, zl_126, zl_180, zl_360, zl_376, zl_1880, zl_2256, zl_2903, z_add, z_sub, z_mul, z_neg, z_lt, z_le, z_eq, z_in]
    refine wB rfl (fun h => ?_) (fun h => ?_)
    · rw [if_pos (by omega)] at k; exact hz k
    · rw [if_neg (by omega)] at k
      refine X2_inStock_ok hR hW (s := g) (by omega) rfl ?_
      have := hW.2.2.2.1 g
      simp (disch := omega) only [zl_0, zl_1, zl_2, zl_3, zl_4, zl_5, zl_6, zl_7, zl_8, zl_9, zl_10, zl_11, zl_12, zl_24, zl_31, zl_32, zl_33, zl_36, zl_48, zl_49, zl_54, zl_59, zl_60, zl_61, zl_97, zl_99, zl_102, zl_126, zl_180, zl_360, zl_376, zl_1880, zl_2256, zl_2903, z_add, z_sub, z_mul, z_neg, z_lt, z_le, z_eq, z_in]
      refine wB rfl (fun h4 => ?_) (fun h4 => ?_)
      · rw [if_pos (by omega)] at k; exact ih (by omega) (by omega) (by omega) (by omega) k
      · rw [if_neg (by omega)] at k; exact k
theorem X2_sourceOf_ok {w : Mo} {A : Ab} (hR : RepC w A) (hW : Wf A) {i j : Int} {s : Nat} {f : Bool} (hs : 1 ≤ s ∧ s ≤ 6) (hi : i = s) (hj : j = bB f) {post : Int32 → Prop} (k : post (zz (aSrc A s f))) : wp_X2_sourceOf w (zz i) (zz j) post := by
  subst hi hj
  unfold wp_X2_sourceOf
  unfold aSrc at k
  have := hW.2.2.2.1 s
  cases f
  · refine wT rfl ?_
    refine X2_inStock_ok hR hW hs rfl ?_
    rw [if_neg (by decide)] at k
    simp (disch := omega) only [zl_0, zl_1, zl_2, zl_3, zl_4, zl_5, zl_6, zl_7, zl_8, zl_9, zl_10, zl_11, zl_12, zl_24, zl_31, zl_32, zl_33, zl_36, zl_48, zl_49, zl_54, zl_59, zl_60, zl_61, zl_97, zl_99, zl_102, zl_126, zl_180, zl_360, zl_376, zl_1880, zl_2256, zl_2903, z_add, z_sub, z_mul, z_neg, z_lt, z_le, z_eq, z_in]
    refine wB rfl (fun h4 => ?_) (fun h4 => ?_)
    · rw [if_pos (by omega)] at k; exact k
    · rw [if_neg (by omega)] at k; exact k
  · rw [if_pos rfl] at k
    refine wF (by decide) ⟨7, ?_⟩
    simp (disch := omega) only [zl_0, zl_1, zl_2, zl_3, zl_4, zl_5, zl_6, zl_7, zl_8, zl_9, zl_10, zl_11, zl_12, zl_24, zl_31, zl_32, zl_33, zl_36, zl_48, zl_49, zl_54, zl_59, zl_60, zl_61, zl_97, zl_99, zl_102, zl_126, zl_180, zl_360, zl_376, zl_1880, zl_2256, zl_2903, z_add, z_sub, z_mul, z_neg, z_lt, z_le, z_eq, z_in]
    exact X2_sourceOf_L_ok hR hW (fun h => h) (by omega) (by omega) (by omega) (by omega) k
theorem X2_reasonAgainst_ok {w : Mo} {A : Ab} (hR : RepC w A) (hW : Wf A) {i j l : Int} {c s : Nat} {f : Bool} (hc : c < 6) (hs : 1 ≤ s ∧ s ≤ 6) (hi : i = c) (hj : j = s) (hl : l = bB f) {post : Int32 → Prop} (k : post (zz (aRea A c s f))) : wp_X2_reasonAgainst w (zz i) (zz j) (zz l) post := by
  subst hi hj
  have h2 := cel_r hW hc
  have h3 := hW.2.2.2.2.1 c hc
  unfold wp_X2_reasonAgainst
  refine X2_freeOf_ok hR hW hc rfl ?_
  unfold aRea at k
  simp (disch := omega) only [zl_0, zl_1, zl_2, zl_3, zl_4, zl_5, zl_6, zl_7, zl_8, zl_9, zl_10, zl_11, zl_12, zl_24, zl_31, zl_32, zl_33, zl_36, zl_48, zl_49, zl_54, zl_59, zl_60, zl_61, zl_97, zl_99, zl_102, zl_126, zl_180, zl_360, zl_376, zl_1880, zl_2256, zl_2903, z_add, z_sub, z_mul, z_neg, z_lt, z_le, z_eq, z_in]
  refine wB rfl (fun h => ?_) (fun h => ?_)
  · rw [if_pos (by omega)] at k; exact k
  rw [if_neg (by omega)] at k
  refine wB rfl (fun h4 => ?_) (fun h4 => ?_)
  · rw [if_neg (by omega)] at k
    refine X2_sourceOf_ok hR hW hs rfl hl ?_
    have h5 := aSrc_r (A := A) (f := f) hs.2
    simp (disch := omega) only [zl_0, zl_1, zl_2, zl_3, zl_4, zl_5, zl_6, zl_7, zl_8, zl_9, zl_10, zl_11, zl_12, zl_24, zl_31, zl_32, zl_33, zl_36, zl_48, zl_49, zl_54, zl_59, zl_60, zl_61, zl_97, zl_99, zl_102, zl_126, zl_180, zl_360, zl_376, zl_1880, zl_2256, zl_2903, z_add, z_sub, z_mul, z_neg, z_lt, z_le, z_eq, z_in]
    refine wB rfl (fun h6 => ?_) (fun h6 => ?_)
    · rw [if_pos (by omega)] at k; exact k
    rw [if_neg (by omega)] at k
    refine wB rfl (fun h7 => ?_) (fun h7 => ?_)
    · rw [if_neg (by omega)] at k; exact k
    rw [if_pos (by omega)] at k
    refine X2_takenOf_ok hR hW hc rfl ?_
    simp (disch := omega) only [zl_0, zl_1, zl_2, zl_3, zl_4, zl_5, zl_6, zl_7, zl_8, zl_9, zl_10, zl_11, zl_12, zl_24, zl_31, zl_32, zl_33, zl_36, zl_48, zl_49, zl_54, zl_59, zl_60, zl_61, zl_97, zl_99, zl_102, zl_126, zl_180, zl_360, zl_376, zl_1880, zl_2256, zl_2903, z_add, z_sub, z_mul, z_neg, z_lt, z_le, z_eq, z_in]
    refine X2_runsThrough_ok hR hW (c := c) (p := tak A c + s) hc rfl (by omega) (by omega) ?_
    cases hr : aRun A c (tak A c + s) <;> rw [hr] at k
    · exact wT rfl k
    · exact wF (by decide) k
  · rw [if_pos (by omega)] at k; exact k
theorem RepC.put {w : Mo} {A : Ab} (hR : RepC w A) (hW : Wf A) {c s : Nat} {f : Bool} (hc : c < 6) (hs : 1 ≤ s ∧ s ≤ 6) (h : aRea A c s f = 0) {x y z : Int32} {i0 i1 i2 : Nat} (h0 : i0 = 60 * c + tak A c) (h1 : i1 = c) (h2 : i2 = aSrc A s f) (hx : x = zz (if f then -(s : Int) else (s : Int))) (hy : y = zz ((tak A c + s : Nat) : Int)) (hz : z = zz ((aS A (aSrc A s f) - 1 : Nat) : Int)) {q : Int32} (hq : q = aW A + zz ((aSrc A s f : Int) - s)) : RepC (mo_w (mo_s (mo_t (mo_b w (upd w.2.2.1 i0 x)) (upd w.2.1 i1 y)) (upd w.2.2.2.1 i2 z)) q) (aPut A c s f) := by
  subst h0 h1 h2 hx hy hz hq
  obtain ⟨r1, r2, r3, r4, r5, r6, r7⟩ := hR
  obtain ⟨e1, e2, e3⟩ := aRea_0 h
  have e4 := cel_r hW hc
  refine ⟨r1, fun c' hc' => ?_, fun c' p hc' hp => ?_, fun t h5 h6 => ?_, r5, r6, rfl⟩
  · rw [tak_put]
    show upd w.2.1 i1 _ c' = _
    by_cases e : c' = i1
    · rw [upd_eq e, if_pos e]
    · rw [upd_ne e, if_neg e]; exact r2 c' hc'
  · rw [aB_put]
    show upd w.2.2.1 _ _ _ = _
    by_cases e : c' = i1 ∧ p = tak A i1
    · rw [if_pos e, upd_eq (by rw [e.1, e.2])]
    · rw [if_neg e, upd_ne (by omega)]; exact r3 c' p hc' hp
  · rw [aS_put]
    show upd w.2.2.2.1 _ _ _ = _
    by_cases e : t = aSrc A s f
    · rw [if_pos e, upd_eq e, e]
    · rw [if_neg e, upd_ne e]; exact r4 t h5 h6
theorem X2_put_ok {w : Mo} {A : Ab} (hR : RepC w A) (hW : Wf A) {i j l : Int} {c s : Nat} {f : Bool} (hc : c < 6) (hs : 1 ≤ s ∧ s ≤ 6) (hi : i = c) (hj : j = s) (hl : l = bB f) (h : aRea A c s f = 0) {post : Int32 → Mo → Prop} (k : ∀ w1, RepC w1 (aPut A c s f) → post (zz ((aSrc A s f : Int) - s)) w1) : wp_X2_put w (zz i) (zz j) (zz l) post := by
  subst hi hj
  have h2 := cel_r hW hc
  have h3 := hW.2.2.2.2.1 c hc
  obtain ⟨e1, e2, e3⟩ := aRea_0 h
  have e5 := aSrc_r (A := A) (f := f) hs.2
  have e6 := hW.2.2.2.1 (aSrc A s f)
  unfold wp_X2_put
  refine X2_sourceOf_ok hR hW hs rfl hl ?_
  refine X2_isCourse_ok (by omega) ?_
  refine wF (by decide) ?_
  refine X2_isSize_ok (by omega) ?_
  refine wF (by decide) ?_
  have ht := hR.ta (i := (c : Int)) (by omega)
  have hst := hR.st (i := (aSrc A s f : Int)) (by omega)
  rw [Int.toNat_natCast] at ht hst
  subst hl
  have hz := h
  clear h
  cases f
  · simp (disch := omega) only [zl_0, zl_1, zl_2, zl_3, zl_4, zl_5, zl_6, zl_7, zl_8, zl_9, zl_10, zl_11, zl_12, zl_24, zl_31, zl_32, zl_33, zl_36, zl_48, zl_49, zl_54, zl_59, zl_60, zl_61, zl_97, zl_99, zl_102, zl_126, zl_180, zl_360, zl_376, zl_1880, zl_2256, zl_2903, z_add, z_sub, z_mul, z_neg, z_lt, z_le, z_eq, z_in, ht, hst, bB_f]
    repeat' (first | (refine ⟨fun _ => ?_, fun h => absurd trivial h⟩) | (refine ⟨fun h => h.elim, fun _ => ?_⟩) | (refine ⟨fun h => ?_, fun h => ?_⟩ <;> first | (exfalso; omega) | skip) | (refine ⟨by omega, ?_⟩) | (intro v hv; subst hv))
    all_goals (simp only [ht, hst])
    all_goals simp (disch := omega) only [zl_0, zl_1, zl_2, zl_3, zl_4, zl_5, zl_6, zl_7, zl_8, zl_9, zl_10, zl_11, zl_12, zl_24, zl_31, zl_32, zl_33, zl_36, zl_48, zl_49, zl_54, zl_59, zl_60, zl_61, zl_97, zl_99, zl_102, zl_126, zl_180, zl_360, zl_376, zl_1880, zl_2256, zl_2903, z_add, z_sub, z_mul, z_neg, z_lt, z_le, z_eq, z_in]
    all_goals (refine k _ (RepC.put hR hW hc hs hz ?_ ?_ ?_ ?_ ?_ ?_ ?_))
    all_goals first | (rw [z_nat (by omega)]; omega) | rfl | exact congrArg zz (by omega) | rw [hR.2.2.2.2.2.2]
  · simp (disch := omega) only [zl_0, zl_1, zl_2, zl_3, zl_4, zl_5, zl_6, zl_7, zl_8, zl_9, zl_10, zl_11, zl_12, zl_24, zl_31, zl_32, zl_33, zl_36, zl_48, zl_49, zl_54, zl_59, zl_60, zl_61, zl_97, zl_99, zl_102, zl_126, zl_180, zl_360, zl_376, zl_1880, zl_2256, zl_2903, z_add, z_sub, z_mul, z_neg, z_lt, z_le, z_eq, z_in, ht, hst, bB_t]
    repeat' (first | (refine ⟨fun _ => ?_, fun h => absurd trivial h⟩) | (refine ⟨fun h => h.elim, fun _ => ?_⟩) | (refine ⟨fun h => ?_, fun h => ?_⟩ <;> first | (exfalso; omega) | skip) | (refine ⟨by omega, ?_⟩) | (intro v hv; subst hv))
    all_goals (simp only [ht, hst])
    all_goals simp (disch := omega) only [zl_0, zl_1, zl_2, zl_3, zl_4, zl_5, zl_6, zl_7, zl_8, zl_9, zl_10, zl_11, zl_12, zl_24, zl_31, zl_32, zl_33, zl_36, zl_48, zl_49, zl_54, zl_59, zl_60, zl_61, zl_97, zl_99, zl_102, zl_126, zl_180, zl_360, zl_376, zl_1880, zl_2256, zl_2903, z_add, z_sub, z_mul, z_neg, z_lt, z_le, z_eq, z_in]
    all_goals (refine k _ (RepC.put hR hW hc hs hz ?_ ?_ ?_ ?_ ?_ ?_ ?_))
    all_goals first | (rw [z_nat (by omega)]; omega) | rfl | exact congrArg zz (by omega) | rw [hR.2.2.2.2.2.2]
