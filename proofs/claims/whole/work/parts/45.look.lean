/-! Looks at the courses; changes of the stock and of a setting; copies. -/
def aAt (f : Nat → Nat) : Nat → Nat → Int
  | 0, _ => -1
  | n + 1, p => if p < ps f n then aAt f n p else if p < ps f (n + 1) then (f n : Int) else -1
theorem aAt_of {f : Nat → Nat} {n k p : Nat} (hk : k < n) (h1 : ps f k ≤ p) (h2 : p < ps f (k + 1)) : aAt f n p = (f k : Int) := by
  induction n with
  | zero => omega
  | succ n ih =>
    unfold aAt
    by_cases e : k = n
    · subst e; rw [if_neg (by omega), if_pos h2]
    · have : ps f (k + 1) ≤ ps f n := ps_mono (by omega)
      rw [if_pos (by omega), ih (by omega)]
theorem aAt_r {f : Nat → Nat} {n p : Nat} (h : ∀ k, k < n → 1 ≤ f k ∧ f k ≤ 6) : -1 ≤ aAt f n p ∧ aAt f n p ≤ 6 := by
  induction n with
  | zero => exact ⟨Int.le_refl _, by show (-1 : Int) ≤ 6; decide⟩
  | succ n ih =>
    have ih := ih (fun k hk => h k (by omega))
    have := h n (by omega)
    unfold aAt
    split
    · exact ih
    · split <;> omega
theorem aAt_no {f : Nat → Nat} {n p : Nat} (h : ps f n ≤ p) : aAt f n p = -1 := by
  cases n with
  | zero => rfl
  | succ n =>
    have : ps f n ≤ ps f (n + 1) := ps_mono (by omega)
    unfold aAt
    rw [if_neg (by omega), if_neg (by omega)]
theorem X2_sizeAt_L_ok {w : Mo} {A : Ab} (hR : RepC w A) (hW : Wf A) {c p : Nat} (hc : c < 6) (hp : p < tak A c) {ip : Int} (hi : ip = c) {K : Int32 → Prop} {Z : Prop} (k : ∀ x : Int, -6 ≤ x → x ≤ 6 → (if 0 ≤ x then x else 0 - x) = aAt (aZ A c) (aK A c) p → K (zz x)) {b : Nat} : ∀ {i : Int}, i = b → b ≤ p → (∀ q, b < q → q ≤ p → aB A c q = 0) → wp_X2_sizeAt_L13 w (zz ip) K Z (b + 2) (zz i) := by
  subst hi
  have h2 := cel_r hW hc
  have h3 := hW.2.2.2.2.1 c hc
  have hs := fun k hk => hW.2.2.2.2.2 c k hc hk
  have found : ∀ b, b ≤ p → (∀ q, b < q → q ≤ p → aB A c q = 0) → aB A c b ≠ 0 → K (zz (aB A c b)) := fun b hb hq hne => by
    obtain ⟨k1, e1, e2⟩ := isJ_iff.mp ((bgn_ne (g := aF A c) hs).1.mp hne)
    have e3 : aB A c b = if aF A c k1 then -(aZ A c k1 : Int) else (aZ A c k1 : Int) := by rw [← e2]; exact bgn_at hs e1
    have e4 : p < ps (aZ A c) (k1 + 1) := by
      rcases Nat.lt_or_ge (k1 + 1) (aK A c) with h | h
      · rcases Nat.lt_or_ge p (ps (aZ A c) (k1 + 1)) with h4 | h4
        · exact h4
        · have h5 := hs k1 e1
          have h6 : ps (aZ A c) (k1 + 1) = ps (aZ A c) k1 + aZ A c k1 := rfl
          exact absurd (hq _ (by omega) h4) ((bgn_ne (g := aF A c) hs).1.mpr (isJ_iff.mpr ⟨k1 + 1, h, rfl⟩))
      · have : k1 + 1 = aK A c := by omega
        rw [this]; exact hp
    have e5 := aAt_of (f := aZ A c) e1 (by omega) e4
    have h5 := hs k1 e1
    refine k _ (aB_r hW hc).1 (aB_r hW hc).2 ?_
    rw [e5, e3]
    cases aF A c k1
    · rw [if_neg (show ¬ (false = true) by decide), if_pos (by omega)]
    · rw [if_pos rfl, if_neg (by omega)]
      omega
  induction b with
  | zero =>
    intro i hi hb hq
    subst hi
    have h5 := aB_r hW hc (p := 0)
    unfold wp_X2_sizeAt_L13
    simp (disch := omega) only [zl_0, zl_1, zl_2, zl_3, zl_4, zl_5, zl_6, zl_7, zl_8, zl_9, zl_10, zl_11, zl_12, zl_24, zl_31, zl_32, zl_33, zl_36, zl_48, zl_49, zl_54, zl_59, zl_60, zl_61, zl_97, zl_99, zl_102, zl_126, zl_180, zl_360, zl_376, zl_1880, zl_2256, zl_2903, z_add, z_sub, z_mul, z_neg, z_lt, z_le, z_eq, z_in]
    refine wF (by omega) (X2_beginAt_ok hR hW hc rfl (p := 0) rfl (by omega) ?_)
    simp (disch := omega) only [zl_0, zl_1, zl_2, zl_3, zl_4, zl_5, zl_6, zl_7, zl_8, zl_9, zl_10, zl_11, zl_12, zl_24, zl_31, zl_32, zl_33, zl_36, zl_48, zl_49, zl_54, zl_59, zl_60, zl_61, zl_97, zl_99, zl_102, zl_126, zl_180, zl_360, zl_376, zl_1880, zl_2256, zl_2903, z_add, z_sub, z_mul, z_neg, z_lt, z_le, z_eq, z_in]
    refine wB rfl (fun h => ?_) (fun h => found 0 hb hq h)
    have h6 : 0 < aK A c := by
      rcases Nat.eq_zero_or_pos (aK A c) with h7 | h7
      · have := (tak_0 hW hc).mpr h7; omega
      · exact h7
    exact absurd h ((bgn_ne (g := aF A c) hs).1.mpr (isJ_iff.mpr ⟨0, h6, rfl⟩))
  | succ b ih =>
    intro i hi hb hq
    subst hi
    have h5 := aB_r hW hc (p := b + 1)
    unfold wp_X2_sizeAt_L13
    simp (disch := omega) only [zl_0, zl_1, zl_2, zl_3, zl_4, zl_5, zl_6, zl_7, zl_8, zl_9, zl_10, zl_11, zl_12, zl_24, zl_31, zl_32, zl_33, zl_36, zl_48, zl_49, zl_54, zl_59, zl_60, zl_61, zl_97, zl_99, zl_102, zl_126, zl_180, zl_360, zl_376, zl_1880, zl_2256, zl_2903, z_add, z_sub, z_mul, z_neg, z_lt, z_le, z_eq, z_in]
    refine wF (by omega) (X2_beginAt_ok hR hW hc rfl (p := b + 1) rfl (by omega) ?_)
    simp (disch := omega) only [zl_0, zl_1, zl_2, zl_3, zl_4, zl_5, zl_6, zl_7, zl_8, zl_9, zl_10, zl_11, zl_12, zl_24, zl_31, zl_32, zl_33, zl_36, zl_48, zl_49, zl_54, zl_59, zl_60, zl_61, zl_97, zl_99, zl_102, zl_126, zl_180, zl_360, zl_376, zl_1880, zl_2256, zl_2903, z_add, z_sub, z_mul, z_neg, z_lt, z_le, z_eq, z_in]
    refine wB rfl (fun h => ih (by omega) (by omega) (fun q h6 h7 => ?_)) (fun h => found (b + 1) hb hq h)
    rcases Nat.lt_or_ge (b + 1) q with h8 | h8
    · exact hq q h8 h7
    · rw [show q = b + 1 by omega]; exact h
theorem X2_sizeAt_ok {w : Mo} {A : Ab} (hR : RepC w A) (hW : Wf A) {i j : Int} {c p : Nat} (hc : c < 6) (hi : i = c) (hj : j = p) (hp : p < 1000) {post : Int32 → Prop} (k : post (zz (aAt (aZ A c) (aK A c) p))) : wp_X2_sizeAt w (zz i) (zz j) post := by
  subst hi hj
  have h2 := cel_r hW hc
  have h3 := hW.2.2.2.2.1 c hc
  unfold wp_X2_sizeAt
  refine X2_takenOf_ok hR hW hc rfl ?_
  simp (disch := omega) only [zl_0, zl_1, zl_2, zl_3, zl_4, zl_5, zl_6, zl_7, zl_8, zl_9, zl_10, zl_11, zl_12, zl_24, zl_31, zl_32, zl_33, zl_36, zl_48, zl_49, zl_54, zl_59, zl_60, zl_61, zl_97, zl_99, zl_102, zl_126, zl_180, zl_360, zl_376, zl_1880, zl_2256, zl_2903, z_add, z_sub, z_mul, z_neg, z_lt, z_le, z_eq, z_in]
  refine wB rfl (fun h => ⟨p + 2, ?_⟩) (fun h => ?_)
  · refine X2_sizeAt_L_ok hR hW hc (p := p) (by omega) (ip := c) rfl (fun x h5 h6 h7 => ?_) (b := p) (i := p) rfl (Nat.le_refl _) (fun q h4 h5 => by omega)
    rw [← h7] at k
    show post _
    simp (disch := omega) only [zl_0, zl_1, zl_2, zl_3, zl_4, zl_5, zl_6, zl_7, zl_8, zl_9, zl_10, zl_11, zl_12, zl_24, zl_31, zl_32, zl_33, zl_36, zl_48, zl_49, zl_54, zl_59, zl_60, zl_61, zl_97, zl_99, zl_102, zl_126, zl_180, zl_360, zl_376, zl_1880, zl_2256, zl_2903, z_add, z_sub, z_mul, z_neg, z_lt, z_le, z_eq, z_in]
    split
    · rename_i h8; rw [if_pos h8] at k; exact k
    · rename_i h8; rw [if_neg h8] at k; exact k
  · rw [aAt_no (show ps (aZ A c) (aK A c) ≤ p by show tak A c ≤ p; omega)] at k
    exact k
def aProp (A : Ab) (c what : Nat) : Nat := if what = 0 then cel A c else if what = 1 then aK A c else if what = 2 then cel A c - tak A c else if what = 3 then n01 (cel A c - tak A c = 0) else if what = 4 then aJn A c else if what = 5 then aMe A c else aFn A c
theorem aK_le {A : Ab} (hW : Wf A) {c : Nat} (hc : c < 6) : aK A c ≤ tak A c := by
  have h1 : ∀ n, n ≤ aK A c → n ≤ ps (aZ A c) n := fun n => by
    induction n with
    | zero => intro _; exact Nat.zero_le _
    | succ n ih => intro hn; show n + 1 ≤ ps _ n + _; have := ih (by omega); have := hW.2.2.2.2.2 c n hc (by omega); omega
  exact h1 _ (Nat.le_refl _)
theorem aProp_r {A : Ab} (hW : Wf A) {c what : Nat} (hc : c < 6) : aProp A c what ≤ 61 := by
  have h1 := cel_r hW hc
  have h2 := aK_le hW hc
  have h3 := hW.2.2.2.2.1 c hc
  have h4 : aFn A c ≤ 1 * aK A c := ps_le (fun _ => n01_le)
  have h5 : aMe A c ≤ 1 * cel A c := ps_le (fun _ => n01_le)
  have h6 : aJn A c ≤ aK A c + 1 := by unfold aJn; split <;> omega
  have h7 : n01 (cel A c - tak A c = 0) ≤ 1 := n01_le
  unfold aProp
  split
  · omega
  split
  · omega
  split
  · omega
  split
  · omega
  split
  · omega
  split <;> omega
theorem X2_property_ok {w : Mo} {A : Ab} (hR : RepC w A) (hW : Wf A) {i j : Int} {c t : Nat} (hc : c < 6) (ht : t ≤ 6) (hi : i = c) (hj : j = t) {post : Int32 → Prop} (k : post (zz (aProp A c t))) : wp_X2_property w (zz i) (zz j) post := by
  subst hi hj
  unfold wp_X2_property
  unfold aProp at k
  have h2 := cel_r hW hc
  have h3 := hW.2.2.2.2.1 c hc
  simp (disch := omega) only [zl_0, zl_1, zl_2, zl_3, zl_4, zl_5, zl_6, zl_7, zl_8, zl_9, zl_10, zl_11, zl_12, zl_24, zl_31, zl_32, zl_33, zl_36, zl_48, zl_49, zl_54, zl_59, zl_60, zl_61, zl_97, zl_99, zl_102, zl_126, zl_180, zl_360, zl_376, zl_1880, zl_2256, zl_2903, z_add, z_sub, z_mul, z_neg, z_lt, z_le, z_eq, z_in]
  refine wB rfl (fun h => ?_) (fun h => ?_)
  · rw [if_pos (by omega)] at k; exact X2_cellsOf_ok hR hW hc rfl k
  rw [if_neg (by omega)] at k
  refine wB rfl (fun h => ?_) (fun h => ?_)
  · rw [if_pos (by omega)] at k; exact X2_pebblesOf_ok hR hW hc rfl k
  rw [if_neg (by omega)] at k
  refine wB rfl (fun h => ?_) (fun h => ?_)
  · rw [if_pos (by omega)] at k; exact X2_freeOf_ok hR hW hc rfl k
  rw [if_neg (by omega)] at k
  refine wB rfl (fun h => ?_) (fun h => ?_)
  · rw [if_pos (by omega)] at k
    refine X2_freeOf_ok hR hW hc rfl ?_
    simp (disch := omega) only [zl_0, zl_1, zl_2, zl_3, zl_4, zl_5, zl_6, zl_7, zl_8, zl_9, zl_10, zl_11, zl_12, zl_24, zl_31, zl_32, zl_33, zl_36, zl_48, zl_49, zl_54, zl_59, zl_60, zl_61, zl_97, zl_99, zl_102, zl_126, zl_180, zl_360, zl_376, zl_1880, zl_2256, zl_2903, z_add, z_sub, z_mul, z_neg, z_lt, z_le, z_eq, z_in]
    refine wB rfl (fun h => ?_) (fun h => ?_)
    · unfold n01 at k; rw [if_pos (by omega)] at k; exact k
    · unfold n01 at k; rw [if_neg (by omega)] at k; exact k
  rw [if_neg (by omega)] at k
  refine wB rfl (fun h => ?_) (fun h => ?_)
  · rw [if_pos (by omega)] at k; exact X2_jointsOf_ok hR hW hc rfl k
  rw [if_neg (by omega)] at k
  refine wB rfl (fun h => ?_) (fun h => ?_)
  · rw [if_pos (by omega)] at k; exact X2_meetingJointsOf_ok hR hW hc rfl k
  rw [if_neg (by omega)] at k
  exact X2_fillersOf_ok hR hW hc rfl k
theorem X2_summed_L_ok {w : Mo} {A : Ab} (hR : RepC w A) (hW : Wf A) {t : Nat} (ht : t ≤ 6) {jt : Int} (hjt : jt = t) {K : Int32 → Prop} {n : Nat} : ∀ {p : Nat} {i j : Int}, 0 ≤ p → i = (ps (fun c => aProp A c t) p : Nat) → j = p → p + n = 6 → K (zz (ps (fun c => aProp A c t) 6 : Nat)) → wp_X2_summed_L4 w (zz jt) K (n + 1) (zz i) (zz j) := by
  induction n with
  | zero =>
    intro p i j hl hi hj hn k
    subst hi hj
    unfold wp_X2_summed_L4
    simp (disch := omega) only [zl_0, zl_1, zl_2, zl_3, zl_4, zl_5, zl_6, zl_7, zl_8, zl_9, zl_10, zl_11, zl_12, zl_24, zl_31, zl_32, zl_33, zl_36, zl_48, zl_49, zl_54, zl_59, zl_60, zl_61, zl_97, zl_99, zl_102, zl_126, zl_180, zl_360, zl_376, zl_1880, zl_2256, zl_2903, z_add, z_sub, z_mul, z_neg, z_lt, z_le, z_eq, z_in]
    rw [show p = 6 by omega]
    exact wT (by omega) k
  | succ n ih =>
    intro p i j hl hi hj hn k
    subst hi hj
    have hs : ps (fun c => aProp A c t) (p + 1) = ps (fun c => aProp A c t) p + aProp A p t := rfl
    unfold wp_X2_summed_L4
    simp (disch := omega) only [zl_0, zl_1, zl_2, zl_3, zl_4, zl_5, zl_6, zl_7, zl_8, zl_9, zl_10, zl_11, zl_12, zl_24, zl_31, zl_32, zl_33, zl_36, zl_48, zl_49, zl_54, zl_59, zl_60, zl_61, zl_97, zl_99, zl_102, zl_126, zl_180, zl_360, zl_376, zl_1880, zl_2256, zl_2903, z_add, z_sub, z_mul, z_neg, z_lt, z_le, z_eq, z_in]
    refine wF (by omega) ?_
    refine X2_property_ok hR hW (by omega) ht rfl hjt ?_
    simp (disch := omega) only [zl_0, zl_1, zl_2, zl_3, zl_4, zl_5, zl_6, zl_7, zl_8, zl_9, zl_10, zl_11, zl_12, zl_24, zl_31, zl_32, zl_33, zl_36, zl_48, zl_49, zl_54, zl_59, zl_60, zl_61, zl_97, zl_99, zl_102, zl_126, zl_180, zl_360, zl_376, zl_1880, zl_2256, zl_2903, z_add, z_sub, z_mul, z_neg, z_lt, z_le, z_eq, z_in]
    exact ih (p := p + 1) (by omega) (by omega) (by omega) (by omega) k
theorem X2_summed_ok {w : Mo} {A : Ab} (hR : RepC w A) (hW : Wf A) {j : Int} {t : Nat} (ht : t ≤ 6) (hj : j = t) {post : Int32 → Prop} (k : post (zz (ps (fun c => aProp A c t) 6 : Nat))) : wp_X2_summed w (zz j) post := by
  refine ⟨7, ?_⟩
  simp (disch := omega) only [zl_0, zl_1, zl_2, zl_3, zl_4, zl_5, zl_6, zl_7, zl_8, zl_9, zl_10, zl_11, zl_12, zl_24, zl_31, zl_32, zl_33, zl_36, zl_48, zl_49, zl_54, zl_59, zl_60, zl_61, zl_97, zl_99, zl_102, zl_126, zl_180, zl_360, zl_376, zl_1880, zl_2256, zl_2903, z_add, z_sub, z_mul, z_neg, z_lt, z_le, z_eq, z_in]
  exact X2_summed_L_ok hR hW ht hj (n := 6) (p := 0) (Nat.le_refl 0) rfl rfl rfl k
theorem X2_throughJoints_L_ok {w : Mo} {A : Ab} (hR : RepC w A) (hW : Wf A) {K : Int32 → Prop} {n : Nat} : ∀ {p : Nat} {i j : Int}, 2 ≤ p → i = (ps (fun c => n01 (2 ≤ c) * aTh A c) p : Nat) → j = p → p + n = 6 → K (zz (ps (fun c => n01 (2 ≤ c) * aTh A c) 6 : Nat)) → wp_X2_throughJoints_L4 w K (n + 1) (zz i) (zz j) := by
  have hall : ∀ k, n01 (2 ≤ k) * aTh A k ≤ 1000 := fun k => by
    have h1 : aTh A k ≤ 1 * cel A k := ps_le (fun _ => n01_le)
    have h2 : n01 (2 ≤ k) ≤ 1 := n01_le
    have h3 := hW.1
    have h4 : cel A k ≤ aN A := Nat.sub_le _ _
    have := Nat.mul_le_mul h2 h1
    omega
  have hbig : ∀ p, p < 6 → ps (fun c => n01 (2 ≤ c) * aTh A c) p ≤ 1000 := fun p hp => by
    have h6 : ps (fun c => n01 (2 ≤ c) * aTh A c) p ≤ 60 * p := ps_le (fun k => by
      have h1 : aTh A k ≤ 1 * cel A k := ps_le (fun _ => n01_le)
      have h2 : n01 (2 ≤ k) ≤ 1 := n01_le
      have h3 := hW.1
      have h4 : cel A k ≤ aN A := Nat.sub_le _ _
      have := Nat.mul_le_mul h2 h1
      omega)
    omega
  induction n with
  | zero =>
    intro p i j hl hi hj hn k
    subst hi hj
    unfold wp_X2_throughJoints_L4
    simp (disch := omega) only [zl_0, zl_1, zl_2, zl_3, zl_4, zl_5, zl_6, zl_7, zl_8, zl_9, zl_10, zl_11, zl_12, zl_24, zl_31, zl_32, zl_33, zl_36, zl_48, zl_49, zl_54, zl_59, zl_60, zl_61, zl_97, zl_99, zl_102, zl_126, zl_180, zl_360, zl_376, zl_1880, zl_2256, zl_2903, z_add, z_sub, z_mul, z_neg, z_lt, z_le, z_eq, z_in]
    rw [show p = 6 by omega]
    exact wT (by omega) k
  | succ n ih =>
    intro p i j hl hi hj hn k
    subst hi hj
    have hs : ps (fun c => n01 (2 ≤ c) * aTh A c) (p + 1) = ps (fun c => n01 (2 ≤ c) * aTh A c) p + n01 (2 ≤ p) * aTh A p := rfl
    unfold wp_X2_throughJoints_L4
    simp (disch := omega) only [zl_0, zl_1, zl_2, zl_3, zl_4, zl_5, zl_6, zl_7, zl_8, zl_9, zl_10, zl_11, zl_12, zl_24, zl_31, zl_32, zl_33, zl_36, zl_48, zl_49, zl_54, zl_59, zl_60, zl_61, zl_97, zl_99, zl_102, zl_126, zl_180, zl_360, zl_376, zl_1880, zl_2256, zl_2903, z_add, z_sub, z_mul, z_neg, z_lt, z_le, z_eq, z_in]
    refine wF (by omega) ?_
    refine X2_cellsOf_ok hR hW (c := p) (by omega) rfl ⟨cel A p - 1 + 1, ?_⟩
    have h2 := cel_r hW (show p < 6 by omega)
    have hq : ∀ k, (fun c => n01 (2 ≤ c) * aTh A c) k ≤ 1000 := fun k => hall k
    have h5 : ps (fun c => n01 (2 ≤ c) * aTh A c) p ≤ 1000 * p := ps_le hq
    have hb := hbig p (by omega)
    refine X2_throughJoints_L19_ok hR hW (c := p) (by omega) rfl (b := ps (fun c => n01 (2 ≤ c) * aTh A c) p) (by omega) (p := 1) (by omega) (by rfl) rfl (by omega) ?_
    refine ih (p := p + 1) (by omega) ?_ (by omega) (by omega) k
    rw [hs]
    unfold n01 aTh
    rw [if_pos hl, Nat.one_mul]
    rfl
theorem X2_throughJoints_ok {w : Mo} {A : Ab} (hR : RepC w A) (hW : Wf A) {post : Int32 → Prop} (k : post (zz (ps (fun c => n01 (2 ≤ c) * aTh A c) 6 : Nat))) : wp_X2_throughJoints w post := by
  refine ⟨5, ?_⟩
  simp (disch := omega) only [zl_0, zl_1, zl_2, zl_3, zl_4, zl_5, zl_6, zl_7, zl_8, zl_9, zl_10, zl_11, zl_12, zl_24, zl_31, zl_32, zl_33, zl_36, zl_48, zl_49, zl_54, zl_59, zl_60, zl_61, zl_97, zl_99, zl_102, zl_126, zl_180, zl_360, zl_376, zl_1880, zl_2256, zl_2903, z_add, z_sub, z_mul, z_neg, z_lt, z_le, z_eq, z_in]
  exact X2_throughJoints_L_ok hR hW (n := 4) (p := 2) (Nat.le_refl 2) (by simp [ps, n01]) rfl rfl k
theorem X2_stockCells_L_ok {w : Mo} {A : Ab} (hR : RepC w A) (hW : Wf A) {K : Int32 → Prop} {n : Nat} : ∀ {p : Nat} {i j : Int}, i = (ps (fun k => (k + 1) * aS A (k + 1)) p : Nat) → j = (p : Int) + 1 → p + n = 6 → K (zz (ps (fun k => (k + 1) * aS A (k + 1)) 6 : Nat)) → wp_X2_stockCells_L4 w K (n + 1) (zz i) (zz j) := by
  induction n with
  | zero =>
    intro p i j hi hj hn k
    subst hi hj
    unfold wp_X2_stockCells_L4
    simp (disch := omega) only [zl_0, zl_1, zl_2, zl_3, zl_4, zl_5, zl_6, zl_7, zl_8, zl_9, zl_10, zl_11, zl_12, zl_24, zl_31, zl_32, zl_33, zl_36, zl_48, zl_49, zl_54, zl_59, zl_60, zl_61, zl_97, zl_99, zl_102, zl_126, zl_180, zl_360, zl_376, zl_1880, zl_2256, zl_2903, z_add, z_sub, z_mul, z_neg, z_lt, z_le, z_eq, z_in]
    rw [show p = 6 by omega]
    exact wT (by omega) k
  | succ n ih =>
    intro p i j hi hj hn k
    subst hi hj
    have hs : ps (fun k => (k + 1) * aS A (k + 1)) (p + 1) = ps (fun k => (k + 1) * aS A (k + 1)) p + (p + 1) * aS A (p + 1) := rfl
    unfold wp_X2_stockCells_L4
    simp (disch := omega) only [zl_0, zl_1, zl_2, zl_3, zl_4, zl_5, zl_6, zl_7, zl_8, zl_9, zl_10, zl_11, zl_12, zl_24, zl_31, zl_32, zl_33, zl_36, zl_48, zl_49, zl_54, zl_59, zl_60, zl_61, zl_97, zl_99, zl_102, zl_126, zl_180, zl_360, zl_376, zl_1880, zl_2256, zl_2903, z_add, z_sub, z_mul, z_neg, z_lt, z_le, z_eq, z_in]
    refine wF (by omega) ?_
    refine X2_inStock_ok hR hW (s := p + 1) (by omega) (by omega) ?_
    simp (disch := omega) only [zl_0, zl_1, zl_2, zl_3, zl_4, zl_5, zl_6, zl_7, zl_8, zl_9, zl_10, zl_11, zl_12, zl_24, zl_31, zl_32, zl_33, zl_36, zl_48, zl_49, zl_54, zl_59, zl_60, zl_61, zl_97, zl_99, zl_102, zl_126, zl_180, zl_360, zl_376, zl_1880, zl_2256, zl_2903, z_add, z_sub, z_mul, z_neg, z_lt, z_le, z_eq, z_in]
    refine ih (p := p + 1) ?_ (by omega) (by omega) k
    rw [hs]
    rw [Int.natCast_add, Int.natCast_mul]
    rfl
theorem X2_stockCells_ok {w : Mo} {A : Ab} (hR : RepC w A) (hW : Wf A) {post : Int32 → Prop} (k : post (zz (ps (fun k => (k + 1) * aS A (k + 1)) 6 : Nat))) : wp_X2_stockCells w post := by
  refine ⟨7, ?_⟩
  simp (disch := omega) only [zl_0, zl_1, zl_2, zl_3, zl_4, zl_5, zl_6, zl_7, zl_8, zl_9, zl_10, zl_11, zl_12, zl_24, zl_31, zl_32, zl_33, zl_36, zl_48, zl_49, zl_54, zl_59, zl_60, zl_61, zl_97, zl_99, zl_102, zl_126, zl_180, zl_360, zl_376, zl_1880, zl_2256, zl_2903, z_add, z_sub, z_mul, z_neg, z_lt, z_le, z_eq, z_in]
  exact X2_stockCells_L_ok hR hW (n := 6) (p := 0) rfl rfl rfl k
def aSet (A : Ab) (t : Nat) : Nat := if t = 0 then aN A else if t = 1 then aR A else aC A
def aChg (A : Ab) (t v : Nat) : Ab := if t = 0 then (v, A.2) else if t = 1 then (aN A, v, A.2.2) else (aN A, aR A, v, A.2.2.2)
def aStk (A : Ab) (s m : Nat) : Ab := (aN A, aR A, aC A, aW A, upN (aS A) s m, aK A, aZ A, aF A)
theorem X2_settingOf_ok {w : Mo} {A : Ab} (hR : RepC w A) (hW : Wf A) {i : Int} {t : Nat} (ht : t ≤ 2) (hi : i = t) {post : Int32 → Prop} (k : post (zz (aSet A t))) : wp_X2_settingOf w (zz i) post := by
  subst hi
  unfold wp_X2_settingOf
  unfold aSet at k
  have h0 := hR.1 0 (by omega)
  simp (disch := omega) only [zl_0, zl_1, zl_2, zl_3, zl_4, zl_5, zl_6, zl_7, zl_8, zl_9, zl_10, zl_11, zl_12, zl_24, zl_31, zl_32, zl_33, zl_36, zl_48, zl_49, zl_54, zl_59, zl_60, zl_61, zl_97, zl_99, zl_102, zl_126, zl_180, zl_360, zl_376, zl_1880, zl_2256, zl_2903, z_add, z_sub, z_mul, z_neg, z_lt, z_le, z_eq, z_in]
  rw [z_nat (by omega)]
  refine wB rfl (fun h => ?_) (fun h => wB rfl (fun h1 => ?_) (fun h1 => ?_))
  · rw [if_pos (by omega)] at k
    show post (w.1 0)
    rw [h0]
    exact k
  · rw [if_neg (by omega), if_pos (by omega)] at k
    rw [hR.2.2.2.2.1]; exact k
  · rw [if_neg (by omega), if_neg (by omega)] at k
    rw [hR.2.2.2.2.2.1]; exact k
theorem X2_wasted_ok {w : Mo} {A : Ab} (hR : RepC w A) (hW : Wf A) {post : Int32 → Prop} (k : post (aW A)) : wp_X2_wasted w post := by
  unfold wp_X2_wasted
  rw [hR.2.2.2.2.2.2]
  exact k
theorem X2_changeStock_ok {w : Mo} {A : Ab} (hR : RepC w A) (hW : Wf A) {i j : Int} {s m : Nat} (hs : 1 ≤ s ∧ s ≤ 6) (hi : i = s) (hj : j = m) {post : Int32 → Mo → Prop} (k : ∀ w1, RepC w1 (aStk A s m) → post (zz (aS A s)) w1) : wp_X2_changeStock w (zz i) (zz j) post := by
  subst hi hj
  unfold wp_X2_changeStock
  refine X2_isSize_ok (by omega) (wF (by decide) ?_)
  have hst := hR.st (i := (s : Int)) (by omega)
  rw [Int.toNat_natCast] at hst
  simp (disch := omega) only [zl_0, zl_1, zl_2, zl_3, zl_4, zl_5, zl_6, zl_7, zl_8, zl_9, zl_10, zl_11, zl_12, zl_24, zl_31, zl_32, zl_33, zl_36, zl_48, zl_49, zl_54, zl_59, zl_60, zl_61, zl_97, zl_99, zl_102, zl_126, zl_180, zl_360, zl_376, zl_1880, zl_2256, zl_2903, z_add, z_sub, z_mul, z_neg, z_lt, z_le, z_eq, z_in, hst]
  repeat' (first | (refine ⟨fun _ => ?_, fun h => absurd trivial h⟩) | (refine ⟨fun h => h.elim, fun _ => ?_⟩) | (refine ⟨fun h => ?_, fun h => ?_⟩ <;> first | (exfalso; omega) | skip) | (refine ⟨by omega, ?_⟩) | (intro v hv; subst hv))
  all_goals (refine k _ ⟨hR.1, hR.2.1, hR.2.2.1, fun t h1 h2 => ?_, hR.2.2.2.2.1, hR.2.2.2.2.2.1, hR.2.2.2.2.2.2⟩)
  all_goals (show upd _ _ _ _ = zz (upN _ _ _ _ : Nat); rw [z_nat (by omega), Int.toNat_natCast])
  all_goals (by_cases e : t = s)
  all_goals first | rw [upd_eq e, upN_eq e] | (rw [upd_ne e, upN_ne e]; exact hR.2.2.2.1 t h1 h2)
theorem Wf.stk {A : Ab} (hW : Wf A) {s m : Nat} (hm : m ≤ 99) : Wf (aStk A s m) := by
  refine ⟨hW.1, hW.2.1, hW.2.2.1, fun t => ?_, hW.2.2.2.2⟩
  show upN _ _ _ _ ≤ 99
  by_cases e : t = s
  · rw [upN_eq e]; exact hm
  · rw [upN_ne e]; exact hW.2.2.2.1 t
def aAll (A : Ab) : Nat := ps (aK A) 6
theorem aAll_0 {A : Ab} (h : aAll A = 0) : ∀ c, c < 6 → aK A c = 0 := fun c hc => by
  have h1 : ∀ n, c < n → aK A c ≤ ps (aK A) n := fun n hn => by
    have h2 : ps (aK A) (c + 1) ≤ ps (aK A) n := ps_mono (by omega)
    have h3 : ps (aK A) (c + 1) = ps (aK A) c + aK A c := rfl
    omega
  have := h1 6 hc
  unfold aAll at h
  omega
theorem Wf.chg {A : Ab} (hW : Wf A) {t v : Nat} (h0 : t = 0 → aAll A = 0 ∧ 24 ≤ v ∧ v ≤ 60) (h1 : t = 1 → v ≤ 2) (h2 : t = 2 → v ≤ 1) (ht : t ≤ 2) : Wf (aChg A t v) := by
  unfold aChg
  by_cases e : t = 0
  · rw [if_pos e]
    obtain ⟨h3, h4⟩ := h0 e
    refine ⟨h4, hW.2.1, hW.2.2.1, hW.2.2.2.1, fun c hc => ?_, hW.2.2.2.2.2⟩
    have : tak A c = 0 := by unfold tak; rw [aAll_0 h3 c hc]; rfl
    show tak A c ≤ _
    omega
  · rw [if_neg e]
    by_cases e1 : t = 1
    · rw [if_pos e1]
      exact ⟨hW.1, h1 e1, hW.2.2⟩
    · rw [if_neg e1]
      exact ⟨hW.1, hW.2.1, h2 (by omega), hW.2.2.2⟩
theorem X2_changeSetting_L_ok {w0 : Mo} {v : Nat} (hv : 24 ≤ v ∧ v ≤ 60) {jv : Int} (hj : jv = v) {K : Mo → Prop} (k : ∀ f : Nat → Int32, (∀ c, c < 6 → f c = zz (v - 4 * c : Nat)) → K (mo_c w0 f)) {n : Nat} : ∀ {c : Nat} {f : Nat → Int32} {i : Int}, i = c → c + n = 6 → (∀ d, d < c → f d = zz (v - 4 * d : Nat)) → wp_X2_changeSetting_L6 (zz jv) K (n + 1) (zz i) (mo_c w0 f) := by
  subst hj
  induction n with
  | zero =>
    intro c f i hi hn hf
    subst hi
    unfold wp_X2_changeSetting_L6
    simp (disch := omega) only [zl_0, zl_1, zl_2, zl_3, zl_4, zl_5, zl_6, zl_7, zl_8, zl_9, zl_10, zl_11, zl_12, zl_24, zl_31, zl_32, zl_33, zl_36, zl_48, zl_49, zl_54, zl_59, zl_60, zl_61, zl_97, zl_99, zl_102, zl_126, zl_180, zl_360, zl_376, zl_1880, zl_2256, zl_2903, z_add, z_sub, z_mul, z_neg, z_lt, z_le, z_eq, z_in]
    exact wT (by omega) (k f (fun c' hc' => hf c' (by omega)))
  | succ n ih =>
    intro c f i hi hn hf
    subst hi
    unfold wp_X2_changeSetting_L6
    simp (disch := omega) only [zl_0, zl_1, zl_2, zl_3, zl_4, zl_5, zl_6, zl_7, zl_8, zl_9, zl_10, zl_11, zl_12, zl_24, zl_31, zl_32, zl_33, zl_36, zl_48, zl_49, zl_54, zl_59, zl_60, zl_61, zl_97, zl_99, zl_102, zl_126, zl_180, zl_360, zl_376, zl_1880, zl_2256, zl_2903, z_add, z_sub, z_mul, z_neg, z_lt, z_le, z_eq, z_in]
    refine wF (by omega) ⟨by omega, fun w1 hw1 => ?_⟩
    subst hw1
    rw [z_nat (by omega), Int.toNat_natCast]
    refine ih (c := c + 1) (by omega) (by omega) (fun c' hc' => ?_)
    by_cases e : c' = c
    · rw [upd_eq e]
      exact congrArg zz (by omega)
    · rw [upd_ne e]; exact hf c' (by omega)
theorem X2_changeSetting_ok {w : Mo} {A : Ab} (hR : RepC w A) (hW : Wf A) {i j : Int} {t v : Nat} (hi : i = t) (hj : j = v) (ht : t ≤ 2) (h0 : t = 0 → 24 ≤ v ∧ v ≤ 60) {post : Mo → Prop} (k : ∀ w1, RepC w1 (aChg A t v) → post w1) : wp_X2_changeSetting w (zz i) (zz j) post := by
  subst hi hj
  unfold wp_X2_changeSetting
  unfold aChg at k
  simp (disch := omega) only [zl_0, zl_1, zl_2, zl_3, zl_4, zl_5, zl_6, zl_7, zl_8, zl_9, zl_10, zl_11, zl_12, zl_24, zl_31, zl_32, zl_33, zl_36, zl_48, zl_49, zl_54, zl_59, zl_60, zl_61, zl_97, zl_99, zl_102, zl_126, zl_180, zl_360, zl_376, zl_1880, zl_2256, zl_2903, z_add, z_sub, z_mul, z_neg, z_lt, z_le, z_eq, z_in]
  refine wB rfl (fun h => ⟨7, ?_⟩) (fun h => wB rfl (fun h1 => ?_) (fun h1 => ?_))
  · rw [if_pos (by omega)] at k
    refine X2_changeSetting_L_ok (w0 := w) (h0 (by omega)) rfl (fun f hf => k _ ?_) (n := 6) (c := 0) (f := w.1) rfl rfl (fun c' hc' => by omega)
    exact ⟨hf, hR.2⟩
  · rw [if_neg (by omega), if_pos (by omega)] at k
    intro w1 hw1
    subst hw1
    exact k _ ⟨hR.1, hR.2.1, hR.2.2.1, hR.2.2.2.1, rfl, hR.2.2.2.2.2⟩
  · rw [if_neg (by omega), if_neg (by omega)] at k
    intro w1 hw1
    subst hw1
    exact k _ ⟨hR.1, hR.2.1, hR.2.2.1, hR.2.2.2.1, hR.2.2.2.2.1, rfl, hR.2.2.2.2.2.2⟩
theorem X2_copy_ok {n : Nat} (hn : n < 100000) {vf vt : Nat → Int32} {post : (Nat → Int32) → Prop} (k : ∀ f : Nat → Int32, (∀ j, j < n → f j = vf j) → post f) : wp_X2_copy n n vf vt post := by
  unfold wp_X2_copy
  rw [z_ofNat]
  simp (disch := omega) only [zl_0, zl_1, zl_2, zl_3, zl_4, zl_5, zl_6, zl_7, zl_8, zl_9, zl_10, zl_11, zl_12, zl_24, zl_31, zl_32, zl_33, zl_36, zl_48, zl_49, zl_54, zl_59, zl_60, zl_61, zl_97, zl_99, zl_102, zl_126, zl_180, zl_360, zl_376, zl_1880, zl_2256, zl_2903, z_add, z_sub, z_mul, z_neg, z_lt, z_le, z_eq, z_in]
  have e : (if (n : Int) < n then zz n else zz n) = zz n := by split <;> rfl
  rw [e, z_nat (by omega), z_nat (by omega)]
  simp (disch := omega) only [zl_0, zl_1, zl_2, zl_3, zl_4, zl_5, zl_6, zl_7, zl_8, zl_9, zl_10, zl_11, zl_12, zl_24, zl_31, zl_32, zl_33, zl_36, zl_48, zl_49, zl_54, zl_59, zl_60, zl_61, zl_97, zl_99, zl_102, zl_126, zl_180, zl_360, zl_376, zl_1880, zl_2256, zl_2903, z_add, z_sub, z_mul, z_neg, z_lt, z_le, z_eq, z_in]
  refine ⟨⟨by omega, by omega, by omega, by omega, by omega⟩, fun f hf => k f (fun j hj => ?_)⟩
  subst hf
  show (if _ then _ else _) = _
  rw [if_pos (by omega)]
  congr 1
  omega
theorem X2_become_ok {vm vo : Mo} {A : Ab} (hR : RepC vo A) {post : Mo → Prop} (k : ∀ w1, RepC w1 A → post w1) : wp_X2_become vm vo post := by
  unfold wp_X2_become
  refine X2_copy_ok (by omega) (fun f1 h1 => X2_copy_ok (by omega) (fun f2 h2 => X2_copy_ok (by omega) (fun f3 h3 => X2_copy_ok (by omega) (fun f4 h4 => ?_))))
  intro a ha b hb c hc
  subst ha hb hc
  obtain ⟨r1, r2, r3, r4, r5, r6, r7⟩ := hR
  exact k _ ⟨fun c hc => (h1 c (by omega)).trans (r1 c hc), fun c hc => (h2 c (by omega)).trans (r2 c hc), fun c p hc hp => (h3 _ (by omega)).trans (r3 c p hc hp), fun s h5 h6 => (h4 s (by omega)).trans (r4 s h5 h6), r5, r6, r7⟩
