/-! THE STATE, without a machine: cells, rule, cutting, waste, stock, and for each course its pebbles (how many; size and kind by place). -/
abbrev Ab : Type := Nat × Nat × Nat × Int32 × (Nat → Nat) × (Nat → Nat) × (Nat → Nat → Nat) × (Nat → Nat → Bool)
def aN (A : Ab) : Nat := A.1
def aR (A : Ab) : Nat := A.2.1
def aC (A : Ab) : Nat := A.2.2.1
def aW (A : Ab) : Int32 := A.2.2.2.1
def aS (A : Ab) : Nat → Nat := A.2.2.2.2.1
def aK (A : Ab) : Nat → Nat := A.2.2.2.2.2.1
def aZ (A : Ab) : Nat → Nat → Nat := A.2.2.2.2.2.2.1
def aF (A : Ab) : Nat → Nat → Bool := A.2.2.2.2.2.2.2
def ps (f : Nat → Nat) : Nat → Nat
  | 0 => 0
  | n + 1 => ps f n + f n
def cel (A : Ab) (c : Nat) : Nat := aN A - 4 * c
def tak (A : Ab) (c : Nat) : Nat := ps (aZ A c) (aK A c)
def isJ (f : Nat → Nat) : Nat → Nat → Bool
  | 0, _ => false
  | n + 1, p => isJ f n p || decide (ps f n = p)
def bgn (f : Nat → Nat) (g : Nat → Bool) : Nat → Nat → Int
  | 0, _ => 0
  | n + 1, p => if ps f n = p then (if g n then -(f n : Int) else (f n : Int)) else bgn f g n p
def aB (A : Ab) (c p : Nat) : Int := bgn (aZ A c) (aF A c) (aK A c) p
def aJ (A : Ab) (c p : Nat) : Bool := isJ (aZ A c) (aK A c) p || (decide (0 < p) && decide (p = tak A c) && decide (p < cel A c))
def bB (b : Bool) : Int := if b then 1 else 0
def mts (A : Ab) (c p : Nat) : Nat := p * cel A (c - 1) / cel A c
def aRun (A : Ab) (c p : Nat) : Bool := decide (2 ≤ c) && (decide (1 ≤ p) && (aJ A (c - 1) (mts A c p) && aJ A (c - 2) (mts A (c - 1) (mts A c p))))
def Wf (A : Ab) : Prop := (24 ≤ aN A ∧ aN A ≤ 60) ∧ aR A ≤ 2 ∧ aC A ≤ 1 ∧ (∀ s, aS A s ≤ 99) ∧ (∀ c, c < 6 → tak A c ≤ cel A c) ∧ (∀ c k, c < 6 → k < aK A c → 1 ≤ aZ A c k ∧ aZ A c k ≤ 6)
def RepC (w : Mo) (A : Ab) : Prop := (∀ c, c < 6 → w.1 c = zz (cel A c)) ∧ (∀ c, c < 6 → w.2.1 c = zz (tak A c)) ∧ (∀ c p, c < 6 → p < 60 → w.2.2.1 (60 * c + p) = zz (aB A c p)) ∧ (∀ s, 1 ≤ s → s ≤ 6 → w.2.2.2.1 s = zz (aS A s)) ∧ w.2.2.2.2.1 = zz (aR A) ∧ w.2.2.2.2.2.1 = zz (aC A) ∧ w.2.2.2.2.2.2 = aW A
theorem ps_mono {f : Nat → Nat} {a b : Nat} (h : a ≤ b) : ps f a ≤ ps f b := by
  induction b with
  | zero => rw [show a = 0 by omega]; exact Nat.le_refl _
  | succ b ih =>
    rcases Nat.lt_or_ge a (b + 1) with h1 | h1
    · exact Nat.le_trans (ih (by omega)) (Nat.le_add_right _ _)
    · rw [show a = b + 1 by omega]; exact Nat.le_refl _
theorem ps_lt {f : Nat → Nat} {a b : Nat} (h : a < b) (h1 : ∀ k, k < b → 1 ≤ f k) : ps f a < ps f b := by
  have h2 : ps f (a + 1) ≤ ps f b := ps_mono (by omega)
  have h3 : ps f (a + 1) = ps f a + f a := rfl
  have h4 := h1 a h
  omega
theorem isJ_iff {f : Nat → Nat} {n p : Nat} : isJ f n p = true ↔ ∃ k, k < n ∧ ps f k = p := by
  induction n with
  | zero => exact ⟨(fun h => by cases h), (fun ⟨k, h, _⟩ => absurd h (Nat.not_lt_zero _))⟩
  | succ n ih =>
    unfold isJ
    rw [Bool.or_eq_true, ih, decide_eq_true_iff]
    constructor
    · rintro (⟨k, h1, h2⟩ | h)
      · exact ⟨k, by omega, h2⟩
      · exact ⟨n, by omega, h⟩
    · rintro ⟨k, h1, h2⟩
      rcases Nat.lt_or_ge k n with h3 | h3
      · exact .inl ⟨k, h3, h2⟩
      · exact .inr (by rw [← h2, show k = n by omega])
theorem bgn_ne {f : Nat → Nat} {g : Nat → Bool} {n p : Nat} (h1 : ∀ k, k < n → 1 ≤ f k ∧ f k ≤ 6) : (bgn f g n p ≠ 0 ↔ isJ f n p = true) ∧ -6 ≤ bgn f g n p ∧ bgn f g n p ≤ 6 := by
  induction n with
  | zero => exact ⟨⟨fun h => absurd rfl h, fun h => by cases h⟩, (by show (-6 : Int) ≤ 0; decide), (by show (0 : Int) ≤ 6; decide)⟩
  | succ n ih =>
    have ih := ih (fun k hk => h1 k (by omega))
    have h2 := h1 n (by omega)
    unfold bgn isJ
    by_cases h : ps f n = p
    · rw [if_pos h, decide_eq_true h, Bool.or_true]
      cases g n <;> simp <;> omega
    · rw [if_neg h, decide_eq_false h, Bool.or_false]
      exact ih
theorem isJ_lt {A : Ab} (hW : Wf A) {c p : Nat} (hc : c < 6) (h : isJ (aZ A c) (aK A c) p = true) : p < cel A c := by
  obtain ⟨k, h1, rfl⟩ := isJ_iff.mp h
  exact Nat.lt_of_lt_of_le (ps_lt h1 fun j hj => (hW.2.2.2.2.2 c j hc hj).1) (hW.2.2.2.2.1 c hc)
theorem aJ_lt {A : Ab} (hW : Wf A) {c p : Nat} (hc : c < 6) (h : aJ A c p = true) : p < cel A c := by
  unfold aJ at h
  rw [Bool.or_eq_true] at h
  rcases h with h | h
  · exact isJ_lt hW hc h
  · simp at h
    exact h.2
theorem cel_r {A : Ab} (hW : Wf A) {c : Nat} (hc : c < 6) : 4 ≤ cel A c ∧ cel A c ≤ 60 ∧ cel A c = aN A - 4 * c := by
  have := hW.1
  unfold cel
  omega
theorem mts_lt {A : Ab} (hW : Wf A) {c p : Nat} (hc : c < 6) (h1 : 1 ≤ c) (hp : p < cel A c) : mts A c p < cel A (c - 1) := by
  unfold mts
  have := cel_r hW hc
  exact Nat.div_lt_of_lt_mul (by rw [Nat.mul_comm (cel A c)]; rw [Nat.mul_comm p]; exact Nat.mul_lt_mul_of_pos_left hp (by have := cel_r hW (show c - 1 < 6 by omega); omega))
theorem RepC.ce {w : Mo} {A : Ab} (h : RepC w A) {i : Int} (hi : 0 ≤ i ∧ i < 6) : w.1 (zz i).toNatClampNeg = zz (cel A i.toNat) := by rw [z_nat (by omega)]; exact h.1 _ (by omega)
theorem RepC.ta {w : Mo} {A : Ab} (h : RepC w A) {i : Int} (hi : 0 ≤ i ∧ i < 6) : w.2.1 (zz i).toNatClampNeg = zz (tak A i.toNat) := by rw [z_nat (by omega)]; exact h.2.1 _ (by omega)
theorem RepC.be {w : Mo} {A : Ab} (h : RepC w A) {i : Int} {c p : Nat} (hi : c < 6 ∧ p < 60 ∧ i = 60 * c + p) : w.2.2.1 (zz i).toNatClampNeg = zz (aB A c p) := by
  have e : i.toNat = 60 * c + p := by omega
  rw [z_nat (by omega), e]
  exact h.2.2.1 c p (by omega) (by omega)
theorem RepC.st {w : Mo} {A : Ab} (h : RepC w A) {i : Int} (hi : 1 ≤ i ∧ i ≤ 6) : w.2.2.2.1 (zz i).toNatClampNeg = zz (aS A i.toNat) := by rw [z_nat (by omega)]; exact h.2.2.2.1 _ (by omega) (by omega)
theorem X2_isCourse_ok {i : Int} {post : Int32 → Prop} (hi : 0 ≤ i ∧ i < 6) (k : post (zz 1)) : wp_X2_isCourse (zz i) post := by
  unfold wp_X2_isCourse
  simp (disch := omega) only [zl_0, zl_1, zl_2, zl_3, zl_4, zl_5, zl_6, zl_7, zl_8, zl_9, zl_10, zl_11, zl_12, zl_24, zl_31, zl_32, zl_33, zl_36, zl_48, zl_49, zl_54, zl_59, zl_60, zl_61, zl_97, zl_99, zl_102, zl_126, zl_180, zl_360, zl_376, zl_1880, zl_2256, zl_2903, z_add, z_sub, z_mul, z_neg, z_lt, z_le, z_eq, z_in]
  repeat' (first | (refine ⟨fun _ => ?_, fun h => absurd trivial h⟩) | (refine ⟨fun h => h.elim, fun _ => ?_⟩) | (refine ⟨fun h => ?_, fun h => ?_⟩ <;> first | (exfalso; omega) | skip) | (refine ⟨by omega, ?_⟩) | (intro v hv; subst hv))
  all_goals exact k
theorem X2_isCourse_no {i : Int} {post : Int32 → Prop} (hi : -2147483648 ≤ i ∧ i < 2147483648) (hn : ¬ (0 ≤ i ∧ i < 6)) (k : post (zz 0)) : wp_X2_isCourse (zz i) post := by
  unfold wp_X2_isCourse
  simp (disch := omega) only [zl_0, zl_1, zl_2, zl_3, zl_4, zl_5, zl_6, zl_7, zl_8, zl_9, zl_10, zl_11, zl_12, zl_24, zl_31, zl_32, zl_33, zl_36, zl_48, zl_49, zl_54, zl_59, zl_60, zl_61, zl_97, zl_99, zl_102, zl_126, zl_180, zl_360, zl_376, zl_1880, zl_2256, zl_2903, z_add, z_sub, z_mul, z_neg, z_lt, z_le, z_eq, z_in]
  repeat' (first | (refine ⟨fun _ => ?_, fun h => absurd trivial h⟩) | (refine ⟨fun h => h.elim, fun _ => ?_⟩) | (refine ⟨fun h => ?_, fun h => ?_⟩ <;> first | (exfalso; omega) | skip) | (refine ⟨by omega, ?_⟩) | (intro v hv; subst hv))
  all_goals exact k
theorem X2_isSize_ok {i : Int} {post : Int32 → Prop} (hi : 1 ≤ i ∧ i ≤ 6) (k : post (zz 1)) : wp_X2_isSize (zz i) post := by
  unfold wp_X2_isSize
  simp (disch := omega) only [zl_0, zl_1, zl_2, zl_3, zl_4, zl_5, zl_6, zl_7, zl_8, zl_9, zl_10, zl_11, zl_12, zl_24, zl_31, zl_32, zl_33, zl_36, zl_48, zl_49, zl_54, zl_59, zl_60, zl_61, zl_97, zl_99, zl_102, zl_126, zl_180, zl_360, zl_376, zl_1880, zl_2256, zl_2903, z_add, z_sub, z_mul, z_neg, z_lt, z_le, z_eq, z_in]
  repeat' (first | (refine ⟨fun _ => ?_, fun h => absurd trivial h⟩) | (refine ⟨fun h => h.elim, fun _ => ?_⟩) | (refine ⟨fun h => ?_, fun h => ?_⟩ <;> first | (exfalso; omega) | skip) | (refine ⟨by omega, ?_⟩) | (intro v hv; subst hv))
  all_goals exact k
theorem X2_cellsOf_ok {w : Mo} {A : Ab} (hR : RepC w A) (hW : Wf A) {i : Int} {c : Nat} (hc : c < 6) (hi : i = c) {post : Int32 → Prop} (k : post (zz (cel A c))) : wp_X2_cellsOf w (zz i) post := by
  subst hi
  refine X2_isCourse_ok (by omega) ?_
  simp (disch := omega) only [zl_0, zl_1, zl_2, zl_3, zl_4, zl_5, zl_6, zl_7, zl_8, zl_9, zl_10, zl_11, zl_12, zl_24, zl_31, zl_32, zl_33, zl_36, zl_48, zl_49, zl_54, zl_59, zl_60, zl_61, zl_97, zl_99, zl_102, zl_126, zl_180, zl_360, zl_376, zl_1880, zl_2256, zl_2903, z_add, z_sub, z_mul, z_neg, z_lt, z_le, z_eq, z_in, hR.ce, Int.toNat_natCast]
  repeat' (first | (refine ⟨fun _ => ?_, fun h => absurd trivial h⟩) | (refine ⟨fun h => h.elim, fun _ => ?_⟩) | (refine ⟨fun h => ?_, fun h => ?_⟩ <;> first | (exfalso; omega) | skip) | (refine ⟨by omega, ?_⟩) | (intro v hv; subst hv))
  all_goals exact k
theorem X2_takenOf_ok {w : Mo} {A : Ab} (hR : RepC w A) (hW : Wf A) {i : Int} {c : Nat} (hc : c < 6) (hi : i = c) {post : Int32 → Prop} (k : post (zz (tak A c))) : wp_X2_takenOf w (zz i) post := by
  subst hi
  refine X2_isCourse_ok (by omega) ?_
  simp (disch := omega) only [zl_0, zl_1, zl_2, zl_3, zl_4, zl_5, zl_6, zl_7, zl_8, zl_9, zl_10, zl_11, zl_12, zl_24, zl_31, zl_32, zl_33, zl_36, zl_48, zl_49, zl_54, zl_59, zl_60, zl_61, zl_97, zl_99, zl_102, zl_126, zl_180, zl_360, zl_376, zl_1880, zl_2256, zl_2903, z_add, z_sub, z_mul, z_neg, z_lt, z_le, z_eq, z_in, hR.ta, Int.toNat_natCast]
  repeat' (first | (refine ⟨fun _ => ?_, fun h => absurd trivial h⟩) | (refine ⟨fun h => h.elim, fun _ => ?_⟩) | (refine ⟨fun h => ?_, fun h => ?_⟩ <;> first | (exfalso; omega) | skip) | (refine ⟨by omega, ?_⟩) | (intro v hv; subst hv))
  all_goals exact k
theorem X2_freeOf_ok {w : Mo} {A : Ab} (hR : RepC w A) (hW : Wf A) {i : Int} {c : Nat} (hc : c < 6) (hi : i = c) {post : Int32 → Prop} (k : post (zz ((cel A c - tak A c : Nat) : Int))) : wp_X2_freeOf w (zz i) post := by
  subst hi
  refine X2_isCourse_ok (by omega) ?_
  have ht := hW.2.2.2.2.1 c hc
  simp (disch := omega) only [zl_0, zl_1, zl_2, zl_3, zl_4, zl_5, zl_6, zl_7, zl_8, zl_9, zl_10, zl_11, zl_12, zl_24, zl_31, zl_32, zl_33, zl_36, zl_48, zl_49, zl_54, zl_59, zl_60, zl_61, zl_97, zl_99, zl_102, zl_126, zl_180, zl_360, zl_376, zl_1880, zl_2256, zl_2903, z_add, z_sub, z_mul, z_neg, z_lt, z_le, z_eq, z_in, hR.ta, hR.ce, Int.toNat_natCast]
  repeat' (first | (refine ⟨fun _ => ?_, fun h => absurd trivial h⟩) | (refine ⟨fun h => h.elim, fun _ => ?_⟩) | (refine ⟨fun h => ?_, fun h => ?_⟩ <;> first | (exfalso; omega) | skip) | (refine ⟨by omega, ?_⟩) | (intro v hv; subst hv))
  all_goals (rw [show ((cel A c : Nat) : Int) - (tak A c : Nat) = ((cel A c - tak A c : Nat) : Int) by omega]; exact k)
theorem X2_inStock_ok {w : Mo} {A : Ab} (hR : RepC w A) (hW : Wf A) {i : Int} {s : Nat} (hs : 1 ≤ s ∧ s ≤ 6) (hi : i = s) {post : Int32 → Prop} (k : post (zz (aS A s))) : wp_X2_inStock w (zz i) post := by
  subst hi
  unfold wp_X2_inStock
  simp (disch := omega) only [zl_0, zl_1, zl_2, zl_3, zl_4, zl_5, zl_6, zl_7, zl_8, zl_9, zl_10, zl_11, zl_12, zl_24, zl_31, zl_32, zl_33, zl_36, zl_48, zl_49, zl_54, zl_59, zl_60, zl_61, zl_97, zl_99, zl_102, zl_126, zl_180, zl_360, zl_376, zl_1880, zl_2256, zl_2903, z_add, z_sub, z_mul, z_neg, z_lt, z_le, z_eq, z_in, hR.st, Int.toNat_natCast]
  repeat' (first | (refine ⟨fun _ => ?_, fun h => absurd trivial h⟩) | (refine ⟨fun h => h.elim, fun _ => ?_⟩) | (refine ⟨fun h => ?_, fun h => ?_⟩ <;> first | (exfalso; omega) | skip) | (refine ⟨by omega, ?_⟩) | (intro v hv; subst hv))
  all_goals exact k
theorem X2_meets_ok {w : Mo} {A : Ab} (hR : RepC w A) (hW : Wf A) {i j : Int} {c p : Nat} (hc : c < 6) (h1 : 1 ≤ c) (hi : i = c) (hj : j = p) (hp : p < 1000) {post : Int32 → Prop} (k : post (zz (mts A c p))) : wp_X2_meets w (zz i) (zz j) post := by
  subst hi hj
  have h2 := cel_r hW hc
  have h3 := cel_r hW (show c - 1 < 6 by omega)
  have h4 : ((c : Int) - 1).toNat = c - 1 := by omega
  have h5 : p * cel A (c - 1) ≤ 1000 * 60 := Nat.mul_le_mul (by omega) (by omega)
  have h6 : (p : Int) * (cel A (c - 1) : Nat) = ((p * cel A (c - 1) : Nat) : Int) := by omega
  unfold wp_X2_meets
  simp (disch := omega) only [zl_0, zl_1, zl_2, zl_3, zl_4, zl_5, zl_6, zl_7, zl_8, zl_9, zl_10, zl_11, zl_12, zl_24, zl_31, zl_32, zl_33, zl_36, zl_48, zl_49, zl_54, zl_59, zl_60, zl_61, zl_97, zl_99, zl_102, zl_126, zl_180, zl_360, zl_376, zl_1880, zl_2256, zl_2903, z_add, z_sub, z_mul, z_neg, z_lt, z_le, z_eq, z_in, hR.ce, Int.toNat_natCast, h4, h6, z_div]
  repeat' (first | (refine ⟨fun _ => ?_, fun h => absurd trivial h⟩) | (refine ⟨fun h => h.elim, fun _ => ?_⟩) | (refine ⟨fun h => ?_, fun h => ?_⟩ <;> first | (exfalso; omega) | skip) | (refine ⟨by omega, ?_⟩) | (intro v hv; subst hv))
  all_goals exact k
theorem X2_hasJoint_ok {w : Mo} {A : Ab} (hR : RepC w A) (hW : Wf A) {i j : Int} {c p : Nat} (hc : c < 6) (hi : i = c) (hj : j = p) (hp : p < 100000) {post : Int32 → Prop} (k : post (zz (bB (aJ A c p)))) : wp_X2_hasJoint w (zz i) (zz j) post := by
  subst hi hj
  have h2 := cel_r hW hc
  have h3 := hW.2.2.2.2.1 c hc
  have hb := bgn_ne (g := aF A c) (p := p) (fun k hk => hW.2.2.2.2.2 c k hc hk)
  have hB : aB A c p = bgn (aZ A c) (aF A c) (aK A c) p := rfl
  have hl := aJ_lt (p := p) hW hc
  have k0 : aJ A c p = false → post (zz 0) := fun h => by rw [h] at k; exact k
  have k1 : aJ A c p = true → post (zz 1) := fun h => by rw [h] at k; exact k
  have kj : isJ (aZ A c) (aK A c) p = true → aJ A c p = true := fun h => by unfold aJ; rw [h, Bool.true_or]
  have kt : 0 < p → p = tak A c → p < cel A c → aJ A c p = true := fun h4 h5 h6 => by unfold aJ; simp [h4, ← h5, h6]
  have kn : isJ (aZ A c) (aK A c) p = false → ¬ (0 < p ∧ p = tak A c) → aJ A c p = false := fun h4 h5 => by
    unfold aJ
    rw [h4, Bool.false_or]
    simp
    intro h6 h7
    exact absurd ⟨h6, h7⟩ h5
  have hn : ∀ h : ¬ p < cel A c, aJ A c p = false := fun h => by
    cases hh : aJ A c p
    · rfl
    · exact absurd (hl hh) h
  unfold wp_X2_hasJoint wp_X2_hasJoint_c51
  by_cases hp6 : p < 60
  · have hbe := hR.be (i := (c : Int) * 60 + p) (c := c) (p := p) (by omega)
    rw [hB] at hbe
    simp (disch := omega) only [zl_0, zl_1, zl_2, zl_3, zl_4, zl_5, zl_6, zl_7, zl_8, zl_9, zl_10, zl_11, zl_12, zl_24, zl_31, zl_32, zl_33, zl_36, zl_48, zl_49, zl_54, zl_59, zl_60, zl_61, zl_97, zl_99, zl_102, zl_126, zl_180, zl_360, zl_376, zl_1880, zl_2256, zl_2903, z_add, z_sub, z_mul, z_neg, z_lt, z_le, z_eq, z_in, hR.ta, hR.ce, hbe, Int.toNat_natCast]
    repeat' (first | (refine ⟨fun _ => ?_, fun h => absurd trivial h⟩) | (refine ⟨fun h => h.elim, fun _ => ?_⟩) | (refine ⟨fun h => ?_, fun h => ?_⟩ <;> first | (exfalso; omega) | skip) | (refine ⟨by omega, ?_⟩) | (intro v hv; subst hv))
    all_goals first | exact k0 (hn (by omega)) | skip
    all_goals first | exact k1 (kt (by omega) (by omega) (by omega)) | skip
    all_goals first | exact k1 (kj (hb.1.mp (by omega))) | skip
    all_goals (refine k0 (kn ?_ (by omega)); rw [← Bool.not_eq_true, ← hb.1]; omega)
  · have hk := k0 (hn (by omega))
    refine ⟨fun _ => hk, fun _ => ⟨fun _ => hk, fun _ => ⟨fun _ => hk, fun _ => ⟨fun _ => hk, fun h => absurd ?_ h⟩⟩⟩⟩
    simp (disch := omega) only [zl_0, zl_1, zl_2, zl_3, zl_4, zl_5, zl_6, zl_7, zl_8, zl_9, zl_10, zl_11, zl_12, zl_24, zl_31, zl_32, zl_33, zl_36, zl_48, zl_49, zl_54, zl_59, zl_60, zl_61, zl_97, zl_99, zl_102, zl_126, zl_180, zl_360, zl_376, zl_1880, zl_2256, zl_2903, z_add, z_sub, z_mul, z_neg, z_lt, z_le, z_eq, z_in]
    omega
theorem X2_hasJoint_neg {w : Mo} {i j : Int} (hi : -100 ≤ i ∧ i < 0) {post : Int32 → Prop} (k : post (zz 0)) : wp_X2_hasJoint w (zz i) (zz j) post := by
  unfold wp_X2_hasJoint
  refine ⟨fun _ => k, fun h => absurd ?_ h⟩
  simp (disch := omega) only [zl_0, zl_1, zl_2, zl_3, zl_4, zl_5, zl_6, zl_7, zl_8, zl_9, zl_10, zl_11, zl_12, zl_24, zl_31, zl_32, zl_33, zl_36, zl_48, zl_49, zl_54, zl_59, zl_60, zl_61, zl_97, zl_99, zl_102, zl_126, zl_180, zl_360, zl_376, zl_1880, zl_2256, zl_2903, z_add, z_sub, z_mul, z_neg, z_lt, z_le, z_eq, z_in]
  omega
theorem X2_runsThrough_ok {w : Mo} {A : Ab} (hR : RepC w A) (hW : Wf A) {i j : Int} {c p : Nat} (hc : c < 6) (hi : i = c) (hj : j = p) (hp : p < cel A c) {post : Int32 → Prop} (k : post (zz (bB (aRun A c p)))) : wp_X2_runsThrough w (zz i) (zz j) post := by
  subst hi hj
  have h2 := cel_r hW hc
  unfold wp_X2_runsThrough
  simp (disch := omega) only [zl_0, zl_1, zl_2, zl_3, zl_4, zl_5, zl_6, zl_7, zl_8, zl_9, zl_10, zl_11, zl_12, zl_24, zl_31, zl_32, zl_33, zl_36, zl_48, zl_49, zl_54, zl_59, zl_60, zl_61, zl_97, zl_99, zl_102, zl_126, zl_180, zl_360, zl_376, zl_1880, zl_2256, zl_2903, z_add, z_sub, z_mul, z_neg, z_lt, z_le, z_eq, z_in]
  refine wB rfl (fun h => ?_) (fun h => wB rfl (fun h1 => ?_) (fun h1 => ?_))
  · rw [show aRun A c p = false by unfold aRun; simp; omega] at k
    exact k
  · have h3 := mts_lt hW hc (by omega) hp
    have h4 := cel_r hW (show c - 1 < 6 by omega)
    have h5 := mts_lt hW (show c - 1 < 6 by omega) (by omega) h3
    have h6 := cel_r hW (show c - 1 - 1 < 6 by omega)
    have e : aRun A c p = (aJ A (c - 1) (mts A c p) && aJ A (c - 2) (mts A (c - 1) (mts A c p))) := by
      unfold aRun
      rw [decide_eq_true (show 2 ≤ c by omega), decide_eq_true (show 1 ≤ p by omega)]
      rfl
    rw [e] at k
    refine X2_meets_ok hR hW hc (by omega) rfl rfl (by omega) ?_
    refine X2_hasJoint_ok hR hW (c := c - 1) (by omega) (by omega) rfl (by omega) ?_
    cases hj1 : aJ A (c - 1) (mts A c p) <;> rw [hj1] at k
    · exact wT rfl k
    · refine wF (by decide) ?_
      refine X2_meets_ok hR hW (c := c - 1) (by omega) (by omega) (by omega) rfl (by omega) ?_
      refine X2_hasJoint_ok hR hW (c := c - 2) (by omega) (by omega) rfl (by omega) ?_
      cases hj2 : aJ A (c - 2) (mts A (c - 1) (mts A c p)) <;> rw [hj2] at k
      · exact wT rfl k
      · exact wF (by decide) k
  · rw [show aRun A c p = false by unfold aRun; simp; omega] at k
    exact k
