/-! Counts: sums over cells are sums over pebbles. -/
theorem ps_upd {q : Nat → Nat} {a x m : Nat} (h : a < m) (h0 : q a = 0) : ps (fun p => if a = p then x else q p) m = ps q m + x := by
  induction m with
  | zero => omega
  | succ m ih =>
    show ps _ m + (if a = m then x else q m) = ps q m + q m + x
    by_cases e : a = m
    · subst e
      rw [if_pos rfl, h0, ps_congr (f' := q) (fun k hk => if_neg (by omega)), Nat.add_zero]
    · rw [ih (by omega), if_neg e]
      omega
theorem ps_zero {q : Nat → Nat} {m : Nat} (h : ∀ k, k < m → q k = 0) : ps q m = 0 := by
  induction m with
  | zero => rfl
  | succ m ih => show ps q m + q m = 0; rw [ih (fun k hk => h k (by omega)), h m (by omega)]
theorem ps_add {q r : Nat → Nat} {m : Nat} : ps (fun p => q p + r p) m = ps q m + ps r m := by
  induction m with
  | zero => rfl
  | succ m ih => show ps _ m + (q m + r m) = ps q m + q m + (ps r m + r m); rw [ih]; omega
theorem ps_le {q : Nat → Nat} {b m : Nat} (h : ∀ k, q k ≤ b) : ps q m ≤ b * m := by
  induction m with
  | zero => exact Nat.zero_le _
  | succ m ih => show ps q m + q m ≤ b * (m + 1); have := h m; rw [Nat.mul_succ]; omega
theorem bgn_top {f : Nat → Nat} {g : Nat → Bool} {n p : Nat} (h : ∀ k, k < n → 1 ≤ f k ∧ f k ≤ 6) (hp : ps f n ≤ p) : bgn f g n p = 0 := by
  have h1 := (bgn_ne (g := g) (p := p) h).1
  by_cases h2 : bgn f g n p = 0
  · exact h2
  · obtain ⟨k, h3, h4⟩ := isJ_iff.mp (h1.mp h2)
    have := ps_lt h3 (fun j hj => (h j hj).1)
    omega
theorem bgn_at {f : Nat → Nat} {g : Nat → Bool} {n k : Nat} (h : ∀ k, k < n → 1 ≤ f k ∧ f k ≤ 6) (hk : k < n) : bgn f g n (ps f k) = if g k then -(f k : Int) else (f k : Int) := by
  induction n with
  | zero => omega
  | succ n ih =>
    rw [bgn_succ]
    by_cases e : k = n
    · rw [e, if_pos rfl]
    · have := ps_lt (show k < n by omega) (fun j hj => (h j (by omega)).1)
      rw [if_neg (by omega)]
      exact ih (fun j hj => h j (by omega)) (by omega)
theorem bgn_sum {f : Nat → Nat} {g : Nat → Bool} {hh : Int → Nat} (h0 : hh 0 = 0) {n m : Nat} (h : ∀ k, k < n → 1 ≤ f k ∧ f k ≤ 6) (hm : ps f n ≤ m) : ps (fun p => hh (bgn f g n p)) m = ps (fun k => hh (if g k then -(f k : Int) else (f k : Int))) n := by
  induction n with
  | zero => exact ps_zero (fun k _ => h0)
  | succ n ih =>
    have h1 : ∀ k, k < n → 1 ≤ f k ∧ f k ≤ 6 := fun k hk => h k (by omega)
    have h2 : ps f (n + 1) = ps f n + f n := rfl
    have h3 := h n (by omega)
    have e : ps (fun p => hh (bgn f g (n + 1) p)) m = ps (fun p => if ps f n = p then hh (if g n then -(f n : Int) else (f n : Int)) else hh (bgn f g n p)) m := ps_congr (fun p hp => by
      rw [bgn_succ]
      by_cases e1 : ps f n = p
      · rw [if_pos e1, if_pos e1]
      · rw [if_neg e1, if_neg e1])
    rw [e, ps_upd (q := fun p => hh (bgn f g n p)) (by omega) (by show hh (bgn f g n (ps f n)) = 0; rw [bgn_top h1 (Nat.le_refl _), h0]), ih h1 (by omega)]
    rfl
def n01 (P : Prop) [Decidable P] : Nat := if P then 1 else 0
theorem n01_le {P : Prop} [Decidable P] : n01 P ≤ 1 := by unfold n01; split <;> omega
def aFn (A : Ab) (c : Nat) : Nat := ps (fun k => n01 (aF A c k = true)) (aK A c)
def aJn (A : Ab) (c : Nat) : Nat := if aK A c = 0 ∨ tak A c = cel A c then aK A c else aK A c + 1
def aMe (A : Ab) (c : Nat) : Nat := ps (fun p => n01 (0 < p ∧ aJ A c p = true ∧ 1 ≤ c ∧ aJ A (c - 1) (mts A c p) = true)) (cel A c)
def aTh (A : Ab) (c : Nat) : Nat := ps (fun p => n01 (0 < p ∧ aJ A c p = true ∧ aRun A c p = true)) (cel A c)
theorem pebs_sum {A : Ab} (hW : Wf A) {c : Nat} (hc : c < 6) : ps (fun p => n01 (aB A c p ≠ 0)) (tak A c) = aK A c := by
  have h := bgn_sum (f := aZ A c) (g := aF A c) (hh := fun x => n01 (x ≠ 0)) rfl (fun k hk => hW.2.2.2.2.2 c k hc hk) (Nat.le_refl _)
  refine h.trans ?_
  have h1 : ∀ n, n ≤ aK A c → ps (fun k => n01 ((if aF A c k then -(aZ A c k : Int) else (aZ A c k : Int)) ≠ 0)) n = n := fun n => by
    induction n with
    | zero => intro _; rfl
    | succ n ih =>
      intro hn
      show ps _ n + n01 _ = n + 1
      have := hW.2.2.2.2.2 c n hc (by omega)
      rw [ih (by omega)]
      unfold n01
      rw [if_pos (by split <;> omega)]
  exact h1 _ (Nat.le_refl _)
theorem fils_sum {A : Ab} (hW : Wf A) {c : Nat} (hc : c < 6) : ps (fun p => n01 (aB A c p < 0)) (tak A c) = aFn A c := by
  have h := bgn_sum (f := aZ A c) (g := aF A c) (hh := fun x => n01 (x < 0)) rfl (fun k hk => hW.2.2.2.2.2 c k hc hk) (Nat.le_refl _)
  refine h.trans ?_
  unfold aFn
  refine ps_congr (fun k hk => ?_)
  have := hW.2.2.2.2.2 c k hc hk
  unfold n01
  cases aF A c k
  · rw [if_neg (by rw [if_neg (by decide)]; omega), if_neg (by decide)]
  · rw [if_pos (by rw [if_pos rfl]; omega), if_pos rfl]
theorem tak_0 {A : Ab} (hW : Wf A) {c : Nat} (hc : c < 6) : tak A c = 0 ↔ aK A c = 0 := by
  constructor
  · intro h
    rcases Nat.eq_zero_or_pos (aK A c) with h1 | h1
    · exact h1
    · have := ps_lt h1 (fun j hj => (hW.2.2.2.2.2 c j hc hj).1)
      unfold tak at h
      omega
  · intro h; unfold tak; rw [h]; rfl
theorem jnts_sum {A : Ab} (hW : Wf A) {c : Nat} (hc : c < 6) : ps (fun p => n01 (aJ A c p = true)) (cel A c) = aJn A c := by
  have hs := fun k hk => hW.2.2.2.2.2 c k hc hk
  have hb : ∀ p, (aB A c p ≠ 0 ↔ isJ (aZ A c) (aK A c) p = true) := fun p => (bgn_ne hs).1
  have ht : aB A c (tak A c) = 0 := bgn_top hs (Nat.le_refl _)
  have h1 := bgn_sum (f := aZ A c) (g := aF A c) (hh := fun x => n01 (x ≠ 0)) rfl hs (Nat.le_refl _)
  have h2 := bgn_sum (f := aZ A c) (g := aF A c) (hh := fun x => n01 (x ≠ 0)) rfl hs (hW.2.2.2.2.1 c hc)
  have h3 : ps (fun p => n01 (aB A c p ≠ 0)) (cel A c) = aK A c := (h2.trans h1.symm).trans (pebs_sum hW hc)
  have h4 : ps (fun p => n01 (aJ A c p = true)) (cel A c) = ps (fun p => n01 (aB A c p ≠ 0) + (if tak A c = p then n01 (0 < tak A c ∧ tak A c < cel A c) else 0)) (cel A c) := ps_congr (fun p hp => by
    unfold aJ
    by_cases e : tak A c = p
    · subst e
      rw [ht, if_pos rfl]
      have e1 : isJ (aZ A c) (aK A c) (tak A c) = false := by rw [← Bool.not_eq_true, ← hb, ht]; exact fun h => h rfl
      rw [e1]
      unfold n01
      simp
    · rw [if_neg e, decide_eq_false (show ¬ p = tak A c from fun h => e h.symm), Bool.and_false, Bool.false_and, Bool.or_false]
      unfold n01
      by_cases e1 : isJ (aZ A c) (aK A c) p = true
      · rw [if_pos e1, if_pos ((hb p).mpr e1)]
      · rw [if_neg e1, if_neg (fun h => e1 ((hb p).mp h))])
  rw [h4, ps_add, h3]
  have h0 := tak_0 hW hc
  unfold aJn
  by_cases e : tak A c < cel A c
  · have := ps_upd (q := fun _ => 0) (x := n01 (0 < tak A c ∧ tak A c < cel A c)) e rfl
    rw [this, ps_zero (fun _ _ => rfl)]
    unfold n01
    by_cases e1 : aK A c = 0
    · rw [if_neg (by omega), if_pos (.inl e1)]
      rfl
    · rw [if_pos (by omega), if_neg (by omega)]
  · have := hW.2.2.2.2.1 c hc
    rw [ps_zero (fun k hk => if_neg (by omega)), if_pos (.inr (by omega))]
    rfl
theorem X2_beginAt_ok {w : Mo} {A : Ab} (hR : RepC w A) (hW : Wf A) {i j : Int} {c p : Nat} (hc : c < 6) (hi : i = c) (hj : j = p) (hp : p < 60) {post : Int32 → Prop} (k : post (zz (aB A c p))) : wp_X2_beginAt w (zz i) (zz j) post := by
  subst hi hj
  unfold wp_X2_beginAt
  refine X2_isCourse_ok (by omega) (wF (by decide) ?_)
  have hbe := hR.be (i := (c : Int) * 60 + p) (c := c) (p := p) (by omega)
  simp (disch := omega) only [zl_0, zl_1, zl_2, zl_3, zl_4, zl_5, zl_6, zl_7, zl_8, zl_9, zl_10, zl_11, zl_12, zl_24, zl_31, zl_32, zl_33, zl_36, zl_48, zl_49, zl_54, zl_59, zl_60, zl_61, zl_97, zl_99, zl_102, zl_126, zl_180, zl_360, zl_376, zl_1880, zl_2256, zl_2903, z_add, z_sub, z_mul, z_neg, z_lt, z_le, z_eq, z_in, hbe]
  repeat' (first | (refine ⟨fun _ => ?_, fun h => absurd trivial h⟩) | (refine ⟨fun h => h.elim, fun _ => ?_⟩) | (refine ⟨fun h => ?_, fun h => ?_⟩ <;> first | (exfalso; omega) | skip) | (refine ⟨by omega, ?_⟩) | (intro v hv; subst hv))
  all_goals exact k
theorem aB_r {A : Ab} (hW : Wf A) {c p : Nat} (hc : c < 6) : -6 ≤ aB A c p ∧ aB A c p ≤ 6 := (bgn_ne (fun k hk => hW.2.2.2.2.2 c k hc hk)).2
theorem X2_pebblesOf_L_ok {w : Mo} {A : Ab} (hR : RepC w A) (hW : Wf A) {c : Nat} (hc : c < 6) {ip : Int} (hi : ip = c) {K : Int32 → Prop} {b n : Nat} (hb : b ≤ 1000) : ∀ {p : Nat} {i j : Int}, 0 ≤ p → i = (b + ps (fun p => n01 (aB A c p ≠ 0)) p : Nat) → j = p → p + n = tak A c → K (zz (b + ps (fun p => n01 (aB A c p ≠ 0)) (tak A c) : Nat)) → wp_X2_pebblesOf_L11 w (zz c) (zz (tak A c)) K (n + 1) (zz i) (zz j) := by
  subst hi
  have h2 := cel_r hW hc
  have h3 := hW.2.2.2.2.1 c hc
  have hq : ∀ k, (fun p => n01 (aB A c p ≠ 0)) k ≤ 1 := fun k => n01_le
  induction n with
  | zero =>
    intro p i j hl hi hj hn k
    subst hi hj
    unfold wp_X2_pebblesOf_L11
    simp (disch := omega) only [zl_0, zl_1, zl_2, zl_3, zl_4, zl_5, zl_6, zl_7, zl_8, zl_9, zl_10, zl_11, zl_12, zl_24, zl_31, zl_32, zl_33, zl_36, zl_48, zl_49, zl_54, zl_59, zl_60, zl_61, zl_97, zl_99, zl_102, zl_126, zl_180, zl_360, zl_376, zl_1880, zl_2256, zl_2903, z_add, z_sub, z_mul, z_neg, z_lt, z_le, z_eq, z_in]
    rw [show p = tak A c by omega]
    exact wT (by omega) k
  | succ n ih =>
    intro p i j hl hi hj hn k
    subst hi hj
    have hp := ps_le (m := p) hq
    have hs : ps (fun p => n01 (aB A c p ≠ 0)) (p + 1) = ps (fun p => n01 (aB A c p ≠ 0)) p + (fun p => n01 (aB A c p ≠ 0)) p := rfl
    have no : (fun p => n01 (aB A c p ≠ 0)) p = 0 → wp_X2_pebblesOf_L11 w (zz c) (zz (tak A c)) K (n + 1) (zz ((b + ps (fun p => n01 (aB A c p ≠ 0)) p : Nat) + 0)) (zz (p + 1)) := fun h => ih (p := p + 1) (by omega) (by omega) (by omega) (by omega) k
    have yes : (fun p => n01 (aB A c p ≠ 0)) p = 1 → wp_X2_pebblesOf_L11 w (zz c) (zz (tak A c)) K (n + 1) (zz ((b + ps (fun p => n01 (aB A c p ≠ 0)) p : Nat) + 1)) (zz (p + 1)) := fun h => ih (p := p + 1) (by omega) (by omega) (by omega) (by omega) k
    clear ih k
    unfold wp_X2_pebblesOf_L11
    simp (disch := omega) only [zl_0, zl_1, zl_2, zl_3, zl_4, zl_5, zl_6, zl_7, zl_8, zl_9, zl_10, zl_11, zl_12, zl_24, zl_31, zl_32, zl_33, zl_36, zl_48, zl_49, zl_54, zl_59, zl_60, zl_61, zl_97, zl_99, zl_102, zl_126, zl_180, zl_360, zl_376, zl_1880, zl_2256, zl_2903, z_add, z_sub, z_mul, z_neg, z_lt, z_le, z_eq, z_in]
    refine wF (by omega) ?_
    refine X2_beginAt_ok hR hW hc rfl rfl (by omega) ?_
    have h5 := aB_r hW hc (p := p)
    simp (disch := omega) only [zl_0, zl_1, zl_2, zl_3, zl_4, zl_5, zl_6, zl_7, zl_8, zl_9, zl_10, zl_11, zl_12, zl_24, zl_31, zl_32, zl_33, zl_36, zl_48, zl_49, zl_54, zl_59, zl_60, zl_61, zl_97, zl_99, zl_102, zl_126, zl_180, zl_360, zl_376, zl_1880, zl_2256, zl_2903, z_add, z_sub, z_mul, z_neg, z_lt, z_le, z_eq, z_in]
    exact wB rfl (fun h => no (if_neg (fun h1 => h1 h))) (fun h => yes (if_pos h))
theorem X2_fillersOf_L_ok {w : Mo} {A : Ab} (hR : RepC w A) (hW : Wf A) {c : Nat} (hc : c < 6) {ip : Int} (hi : ip = c) {K : Int32 → Prop} {b n : Nat} (hb : b ≤ 1000) : ∀ {p : Nat} {i j : Int}, 0 ≤ p → i = (b + ps (fun p => n01 (aB A c p < 0)) p : Nat) → j = p → p + n = tak A c → K (zz (b + ps (fun p => n01 (aB A c p < 0)) (tak A c) : Nat)) → wp_X2_fillersOf_L11 w (zz c) (zz (tak A c)) K (n + 1) (zz i) (zz j) := by
  subst hi
  have h2 := cel_r hW hc
  have h3 := hW.2.2.2.2.1 c hc
  have hq : ∀ k, (fun p => n01 (aB A c p < 0)) k ≤ 1 := fun k => n01_le
  induction n with
  | zero =>
    intro p i j hl hi hj hn k
    subst hi hj
    unfold wp_X2_fillersOf_L11
    simp (disch := omega) only [zl_0, zl_1, zl_2, zl_3, zl_4, zl_5, zl_6, zl_7, zl_8, zl_9, zl_10, zl_11, zl_12, zl_24, zl_31, zl_32, zl_33, zl_36, zl_48, zl_49, zl_54, zl_59, zl_60, zl_61, zl_97, zl_99, zl_102, zl_126, zl_180, zl_360, zl_376, zl_1880, zl_2256, zl_2903, z_add, z_sub, z_mul, z_neg, z_lt, z_le, z_eq, z_in]
    rw [show p = tak A c by omega]
    exact wT (by omega) k
  | succ n ih =>
    intro p i j hl hi hj hn k
    subst hi hj
    have hp := ps_le (m := p) hq
    have hs : ps (fun p => n01 (aB A c p < 0)) (p + 1) = ps (fun p => n01 (aB A c p < 0)) p + (fun p => n01 (aB A c p < 0)) p := rfl
    have no : (fun p => n01 (aB A c p < 0)) p = 0 → wp_X2_fillersOf_L11 w (zz c) (zz (tak A c)) K (n + 1) (zz ((b + ps (fun p => n01 (aB A c p < 0)) p : Nat) + 0)) (zz (p + 1)) := fun h => ih (p := p + 1) (by omega) (by omega) (by omega) (by omega) k
    have yes : (fun p => n01 (aB A c p < 0)) p = 1 → wp_X2_fillersOf_L11 w (zz c) (zz (tak A c)) K (n + 1) (zz ((b + ps (fun p => n01 (aB A c p < 0)) p : Nat) + 1)) (zz (p + 1)) := fun h => ih (p := p + 1) (by omega) (by omega) (by omega) (by omega) k
    clear ih k
    unfold wp_X2_fillersOf_L11
    simp (disch := omega) only [zl_0, zl_1, zl_2, zl_3, zl_4, zl_5, zl_6, zl_7, zl_8, zl_9, zl_10, zl_11, zl_12, zl_24, zl_31, zl_32, zl_33, zl_36, zl_48, zl_49, zl_54, zl_59, zl_60, zl_61, zl_97, zl_99, zl_102, zl_126, zl_180, zl_360, zl_376, zl_1880, zl_2256, zl_2903, z_add, z_sub, z_mul, z_neg, z_lt, z_le, z_eq, z_in]
    refine wF (by omega) ?_
    refine X2_beginAt_ok hR hW hc rfl rfl (by omega) ?_
    have h5 := aB_r hW hc (p := p)
    simp (disch := omega) only [zl_0, zl_1, zl_2, zl_3, zl_4, zl_5, zl_6, zl_7, zl_8, zl_9, zl_10, zl_11, zl_12, zl_24, zl_31, zl_32, zl_33, zl_36, zl_48, zl_49, zl_54, zl_59, zl_60, zl_61, zl_97, zl_99, zl_102, zl_126, zl_180, zl_360, zl_376, zl_1880, zl_2256, zl_2903, z_add, z_sub, z_mul, z_neg, z_lt, z_le, z_eq, z_in]
    exact wB rfl (fun h => no (if_neg (by omega))) (fun h => yes (if_pos (by omega)))
theorem X2_jointsOf_L_ok {w : Mo} {A : Ab} (hR : RepC w A) (hW : Wf A) {c : Nat} (hc : c < 6) {ip : Int} (hi : ip = c) {K : Int32 → Prop} {b n : Nat} (hb : b ≤ 1000) : ∀ {p : Nat} {i j : Int}, 0 ≤ p → i = (b + ps (fun p => n01 (aJ A c p = true)) p : Nat) → j = p → p + n = cel A c → K (zz (b + ps (fun p => n01 (aJ A c p = true)) (cel A c) : Nat)) → wp_X2_jointsOf_L11 w (zz c) (zz (cel A c)) K (n + 1) (zz i) (zz j) := by
  subst hi
  have h2 := cel_r hW hc
  have h3 := hW.2.2.2.2.1 c hc
  have hq : ∀ k, (fun p => n01 (aJ A c p = true)) k ≤ 1 := fun k => n01_le
  induction n with
  | zero =>
    intro p i j hl hi hj hn k
    subst hi hj
    unfold wp_X2_jointsOf_L11
    simp (disch := omega) only [zl_0, zl_1, zl_2, zl_3, zl_4, zl_5, zl_6, zl_7, zl_8, zl_9, zl_10, zl_11, zl_12, zl_24, zl_31, zl_32, zl_33, zl_36, zl_48, zl_49, zl_54, zl_59, zl_60, zl_61, zl_97, zl_99, zl_102, zl_126, zl_180, zl_360, zl_376, zl_1880, zl_2256, zl_2903, z_add, z_sub, z_mul, z_neg, z_lt, z_le, z_eq, z_in]
    rw [show p = cel A c by omega]
    exact wT (by omega) k
  | succ n ih =>
    intro p i j hl hi hj hn k
    subst hi hj
    have hp := ps_le (m := p) hq
    have hs : ps (fun p => n01 (aJ A c p = true)) (p + 1) = ps (fun p => n01 (aJ A c p = true)) p + (fun p => n01 (aJ A c p = true)) p := rfl
    have no : (fun p => n01 (aJ A c p = true)) p = 0 → wp_X2_jointsOf_L11 w (zz c) (zz (cel A c)) K (n + 1) (zz ((b + ps (fun p => n01 (aJ A c p = true)) p : Nat) + 0)) (zz (p + 1)) := fun h => ih (p := p + 1) (by omega) (by omega) (by omega) (by omega) k
    have yes : (fun p => n01 (aJ A c p = true)) p = 1 → wp_X2_jointsOf_L11 w (zz c) (zz (cel A c)) K (n + 1) (zz ((b + ps (fun p => n01 (aJ A c p = true)) p : Nat) + 1)) (zz (p + 1)) := fun h => ih (p := p + 1) (by omega) (by omega) (by omega) (by omega) k
    clear ih k
    unfold wp_X2_jointsOf_L11
    simp (disch := omega) only [zl_0, zl_1, zl_2, zl_3, zl_4, zl_5, zl_6, zl_7, zl_8, zl_9, zl_10, zl_11, zl_12, zl_24, zl_31, zl_32, zl_33, zl_36, zl_48, zl_49, zl_54, zl_59, zl_60, zl_61, zl_97, zl_99, zl_102, zl_126, zl_180, zl_360, zl_376, zl_1880, zl_2256, zl_2903, z_add, z_sub, z_mul, z_neg, z_lt, z_le, z_eq, z_in]
    refine wF (by omega) ?_
    refine X2_hasJoint_ok hR hW hc rfl rfl (by omega) ?_
    cases hj : aJ A c p
    · exact wT rfl (no (if_neg (by rw [hj]; decide)))
    · exact wF (by decide) (yes (if_pos hj))
theorem X2_meetingJointsOf_L_ok {w : Mo} {A : Ab} (hR : RepC w A) (hW : Wf A) {c : Nat} (hc : c < 6) {ip : Int} (hi : ip = c) {K : Int32 → Prop} {b n : Nat} (hb : b ≤ 1000) : ∀ {p : Nat} {i j : Int}, 1 ≤ p → i = (b + ps (fun p => n01 (0 < p ∧ aJ A c p = true ∧ 1 ≤ c ∧ aJ A (c - 1) (mts A c p) = true)) p : Nat) → j = p → p + n = cel A c → K (zz (b + ps (fun p => n01 (0 < p ∧ aJ A c p = true ∧ 1 ≤ c ∧ aJ A (c - 1) (mts A c p) = true)) (cel A c) : Nat)) → wp_X2_meetingJointsOf_L11 w (zz c) (zz (cel A c)) K (n + 1) (zz i) (zz j) := by
  subst hi
  have h2 := cel_r hW hc
  have h3 := hW.2.2.2.2.1 c hc
  have hq : ∀ k, (fun p => n01 (0 < p ∧ aJ A c p = true ∧ 1 ≤ c ∧ aJ A (c - 1) (mts A c p) = true)) k ≤ 1 := fun k => n01_le
  induction n with
  | zero =>
    intro p i j hl hi hj hn k
    subst hi hj
    unfold wp_X2_meetingJointsOf_L11
    simp (disch := omega) only [zl_0, zl_1, zl_2, zl_3, zl_4, zl_5, zl_6, zl_7, zl_8, zl_9, zl_10, zl_11, zl_12, zl_24, zl_31, zl_32, zl_33, zl_36, zl_48, zl_49, zl_54, zl_59, zl_60, zl_61, zl_97, zl_99, zl_102, zl_126, zl_180, zl_360, zl_376, zl_1880, zl_2256, zl_2903, z_add, z_sub, z_mul, z_neg, z_lt, z_le, z_eq, z_in]
    rw [show p = cel A c by omega]
    exact wT (by omega) k
  | succ n ih =>
    intro p i j hl hi hj hn k
    subst hi hj
    have hp := ps_le (m := p) hq
    have hs : ps (fun p => n01 (0 < p ∧ aJ A c p = true ∧ 1 ≤ c ∧ aJ A (c - 1) (mts A c p) = true)) (p + 1) = ps (fun p => n01 (0 < p ∧ aJ A c p = true ∧ 1 ≤ c ∧ aJ A (c - 1) (mts A c p) = true)) p + (fun p => n01 (0 < p ∧ aJ A c p = true ∧ 1 ≤ c ∧ aJ A (c - 1) (mts A c p) = true)) p := rfl
    have no : (fun p => n01 (0 < p ∧ aJ A c p = true ∧ 1 ≤ c ∧ aJ A (c - 1) (mts A c p) = true)) p = 0 → wp_X2_meetingJointsOf_L11 w (zz c) (zz (cel A c)) K (n + 1) (zz ((b + ps (fun p => n01 (0 < p ∧ aJ A c p = true ∧ 1 ≤ c ∧ aJ A (c - 1) (mts A c p) = true)) p : Nat) + 0)) (zz (p + 1)) := fun h => ih (p := p + 1) (by omega) (by omega) (by omega) (by omega) k
    have yes : (fun p => n01 (0 < p ∧ aJ A c p = true ∧ 1 ≤ c ∧ aJ A (c - 1) (mts A c p) = true)) p = 1 → wp_X2_meetingJointsOf_L11 w (zz c) (zz (cel A c)) K (n + 1) (zz ((b + ps (fun p => n01 (0 < p ∧ aJ A c p = true ∧ 1 ≤ c ∧ aJ A (c - 1) (mts A c p) = true)) p : Nat) + 1)) (zz (p + 1)) := fun h => ih (p := p + 1) (by omega) (by omega) (by omega) (by omega) k
    clear ih k
    unfold wp_X2_meetingJointsOf_L11
    simp (disch := omega) only [zl_0, zl_1, zl_2, zl_3, zl_4, zl_5, zl_6, zl_7, zl_8, zl_9, zl_10, zl_11, zl_12, zl_24, zl_31, zl_32, zl_33, zl_36, zl_48, zl_49, zl_54, zl_59, zl_60, zl_61, zl_97, zl_99, zl_102, zl_126, zl_180, zl_360, zl_376, zl_1880, zl_2256, zl_2903, z_add, z_sub, z_mul, z_neg, z_lt, z_le, z_eq, z_in]
    refine wF (by omega) ?_
    refine X2_hasJoint_ok hR hW hc rfl rfl (by omega) ?_
    cases hj : aJ A c p
    · exact wT rfl (no (if_neg (by rw [hj]; intro h; exact absurd h.2.1 (by decide))))
    · refine wF (by decide) ?_
      by_cases h0 : 1 ≤ c
      · refine X2_meets_ok hR hW hc h0 rfl rfl (by omega) ?_
        have h6 := mts_lt hW hc h0 (show p < cel A c by omega)
        have h7 := cel_r hW (show c - 1 < 6 by omega)
        refine X2_hasJoint_ok hR hW (c := c - 1) (by omega) (by omega) rfl (by omega) ?_
        cases hj1 : aJ A (c - 1) (mts A c p)
        · exact wT rfl (no (if_neg (by rw [hj1]; intro h; exact absurd h.2.2.2 (by decide))))
        · exact wF (by decide) (yes (if_pos ⟨hl, hj, h0, hj1⟩))
      · unfold wp_X2_meets
        simp (disch := omega) only [zl_0, zl_1, zl_2, zl_3, zl_4, zl_5, zl_6, zl_7, zl_8, zl_9, zl_10, zl_11, zl_12, zl_24, zl_31, zl_32, zl_33, zl_36, zl_48, zl_49, zl_54, zl_59, zl_60, zl_61, zl_97, zl_99, zl_102, zl_126, zl_180, zl_360, zl_376, zl_1880, zl_2256, zl_2903, z_add, z_sub, z_mul, z_neg, z_lt, z_le, z_eq, z_in]
        refine wT (by omega) (X2_hasJoint_neg (by omega) (wT rfl (no (if_neg (fun h => h0 h.2.2.1)))))
theorem X2_throughJoints_L19_ok {w : Mo} {A : Ab} (hR : RepC w A) (hW : Wf A) {c : Nat} (hc : c < 6) {ip : Int} (hi : ip = c) {K : Int32 → Prop} {b n : Nat} (hb : b ≤ 1000) : ∀ {p : Nat} {i j : Int}, 1 ≤ p → i = (b + ps (fun p => n01 (0 < p ∧ aJ A c p = true ∧ aRun A c p = true)) p : Nat) → j = p → p + n = cel A c → K (zz (b + ps (fun p => n01 (0 < p ∧ aJ A c p = true ∧ aRun A c p = true)) (cel A c) : Nat)) → wp_X2_throughJoints_L19 w (zz c) (zz (cel A c)) K (n + 1) (zz i) (zz j) := by
  subst hi
  have h2 := cel_r hW hc
  have h3 := hW.2.2.2.2.1 c hc
  have hq : ∀ k, (fun p => n01 (0 < p ∧ aJ A c p = true ∧ aRun A c p = true)) k ≤ 1 := fun k => n01_le
  induction n with
  | zero =>
    intro p i j hl hi hj hn k
    subst hi hj
    unfold wp_X2_throughJoints_L19
    simp (disch := omega) only [zl_0, zl_1, zl_2, zl_3, zl_4, zl_5, zl_6, zl_7, zl_8, zl_9, zl_10, zl_11, zl_12, zl_24, zl_31, zl_32, zl_33, zl_36, zl_48, zl_49, zl_54, zl_59, zl_60, zl_61, zl_97, zl_99, zl_102, zl_126, zl_180, zl_360, zl_376, zl_1880, zl_2256, zl_2903, z_add, z_sub, z_mul, z_neg, z_lt, z_le, z_eq, z_in]
    rw [show p = cel A c by omega]
    exact wT (by omega) k
  | succ n ih =>
    intro p i j hl hi hj hn k
    subst hi hj
    have hp := ps_le (m := p) hq
    have hs : ps (fun p => n01 (0 < p ∧ aJ A c p = true ∧ aRun A c p = true)) (p + 1) = ps (fun p => n01 (0 < p ∧ aJ A c p = true ∧ aRun A c p = true)) p + (fun p => n01 (0 < p ∧ aJ A c p = true ∧ aRun A c p = true)) p := rfl
    have no : (fun p => n01 (0 < p ∧ aJ A c p = true ∧ aRun A c p = true)) p = 0 → wp_X2_throughJoints_L19 w (zz c) (zz (cel A c)) K (n + 1) (zz ((b + ps (fun p => n01 (0 < p ∧ aJ A c p = true ∧ aRun A c p = true)) p : Nat) + 0)) (zz (p + 1)) := fun h => ih (p := p + 1) (by omega) (by omega) (by omega) (by omega) k
    have yes : (fun p => n01 (0 < p ∧ aJ A c p = true ∧ aRun A c p = true)) p = 1 → wp_X2_throughJoints_L19 w (zz c) (zz (cel A c)) K (n + 1) (zz ((b + ps (fun p => n01 (0 < p ∧ aJ A c p = true ∧ aRun A c p = true)) p : Nat) + 1)) (zz (p + 1)) := fun h => ih (p := p + 1) (by omega) (by omega) (by omega) (by omega) k
    clear ih k
    unfold wp_X2_throughJoints_L19
    simp (disch := omega) only [zl_0, zl_1, zl_2, zl_3, zl_4, zl_5, zl_6, zl_7, zl_8, zl_9, zl_10, zl_11, zl_12, zl_24, zl_31, zl_32, zl_33, zl_36, zl_48, zl_49, zl_54, zl_59, zl_60, zl_61, zl_97, zl_99, zl_102, zl_126, zl_180, zl_360, zl_376, zl_1880, zl_2256, zl_2903, z_add, z_sub, z_mul, z_neg, z_lt, z_le, z_eq, z_in]
    refine wF (by omega) ?_
    refine X2_hasJoint_ok hR hW hc rfl rfl (by omega) ?_
    cases hj : aJ A c p
    · exact wT rfl (no (if_neg (by rw [hj]; intro h; exact absurd h.2.1 (by decide))))
    · refine wF (by decide) (X2_runsThrough_ok hR hW hc rfl rfl (by omega) ?_)
      cases hj1 : aRun A c p
      · exact wT rfl (no (if_neg (by rw [hj1]; intro h; exact absurd h.2.2 (by decide))))
      · exact wF (by decide) (yes (if_pos ⟨hl, hj, hj1⟩))
theorem X2_pebblesOf_ok {w : Mo} {A : Ab} (hR : RepC w A) (hW : Wf A) {c : Nat} (hc : c < 6) {ip : Int} (hi : ip = c) {post : Int32 → Prop} (k : post (zz (aK A c))) : wp_X2_pebblesOf w (zz ip) post := by
  subst hi
  have h2 := cel_r hW hc
  unfold wp_X2_pebblesOf
  refine X2_takenOf_ok hR hW hc rfl ⟨tak A c - 0 + 1, ?_⟩
  simp (disch := omega) only [zl_0, zl_1, zl_2, zl_3, zl_4, zl_5, zl_6, zl_7, zl_8, zl_9, zl_10, zl_11, zl_12, zl_24, zl_31, zl_32, zl_33, zl_36, zl_48, zl_49, zl_54, zl_59, zl_60, zl_61, zl_97, zl_99, zl_102, zl_126, zl_180, zl_360, zl_376, zl_1880, zl_2256, zl_2903, z_add, z_sub, z_mul, z_neg, z_lt, z_le, z_eq, z_in]
  refine X2_pebblesOf_L_ok hR hW hc (b := 0) (p := 0) rfl (by omega) (by omega) (by rfl) rfl (by omega) ?_
  have e : ps (fun p => n01 (aB A c p ≠ 0)) (tak A c) = aK A c := pebs_sum hW hc
  rw [Nat.zero_add, e]
  exact k
theorem X2_fillersOf_ok {w : Mo} {A : Ab} (hR : RepC w A) (hW : Wf A) {c : Nat} (hc : c < 6) {ip : Int} (hi : ip = c) {post : Int32 → Prop} (k : post (zz (aFn A c))) : wp_X2_fillersOf w (zz ip) post := by
  subst hi
  have h2 := cel_r hW hc
  unfold wp_X2_fillersOf
  refine X2_takenOf_ok hR hW hc rfl ⟨tak A c - 0 + 1, ?_⟩
  simp (disch := omega) only [zl_0, zl_1, zl_2, zl_3, zl_4, zl_5, zl_6, zl_7, zl_8, zl_9, zl_10, zl_11, zl_12, zl_24, zl_31, zl_32, zl_33, zl_36, zl_48, zl_49, zl_54, zl_59, zl_60, zl_61, zl_97, zl_99, zl_102, zl_126, zl_180, zl_360, zl_376, zl_1880, zl_2256, zl_2903, z_add, z_sub, z_mul, z_neg, z_lt, z_le, z_eq, z_in]
  refine X2_fillersOf_L_ok hR hW hc (b := 0) (p := 0) rfl (by omega) (by omega) (by rfl) rfl (by omega) ?_
  have e : ps (fun p => n01 (aB A c p < 0)) (tak A c) = aFn A c := fils_sum hW hc
  rw [Nat.zero_add, e]
  exact k
theorem X2_jointsOf_ok {w : Mo} {A : Ab} (hR : RepC w A) (hW : Wf A) {c : Nat} (hc : c < 6) {ip : Int} (hi : ip = c) {post : Int32 → Prop} (k : post (zz (aJn A c))) : wp_X2_jointsOf w (zz ip) post := by
  subst hi
  have h2 := cel_r hW hc
  unfold wp_X2_jointsOf
  refine X2_cellsOf_ok hR hW hc rfl ⟨cel A c - 0 + 1, ?_⟩
  simp (disch := omega) only [zl_0, zl_1, zl_2, zl_3, zl_4, zl_5, zl_6, zl_7, zl_8, zl_9, zl_10, zl_11, zl_12, zl_24, zl_31, zl_32, zl_33, zl_36, zl_48, zl_49, zl_54, zl_59, zl_60, zl_61, zl_97, zl_99, zl_102, zl_126, zl_180, zl_360, zl_376, zl_1880, zl_2256, zl_2903, z_add, z_sub, z_mul, z_neg, z_lt, z_le, z_eq, z_in]
  refine X2_jointsOf_L_ok hR hW hc (b := 0) (p := 0) rfl (by omega) (by omega) (by rfl) rfl (by omega) ?_
  have e : ps (fun p => n01 (aJ A c p = true)) (cel A c) = aJn A c := jnts_sum hW hc
  rw [Nat.zero_add, e]
  exact k
theorem X2_meetingJointsOf_ok {w : Mo} {A : Ab} (hR : RepC w A) (hW : Wf A) {c : Nat} (hc : c < 6) {ip : Int} (hi : ip = c) {post : Int32 → Prop} (k : post (zz (aMe A c))) : wp_X2_meetingJointsOf w (zz ip) post := by
  subst hi
  have h2 := cel_r hW hc
  unfold wp_X2_meetingJointsOf
  refine X2_cellsOf_ok hR hW hc rfl ⟨cel A c - 1 + 1, ?_⟩
  simp (disch := omega) only [zl_0, zl_1, zl_2, zl_3, zl_4, zl_5, zl_6, zl_7, zl_8, zl_9, zl_10, zl_11, zl_12, zl_24, zl_31, zl_32, zl_33, zl_36, zl_48, zl_49, zl_54, zl_59, zl_60, zl_61, zl_97, zl_99, zl_102, zl_126, zl_180, zl_360, zl_376, zl_1880, zl_2256, zl_2903, z_add, z_sub, z_mul, z_neg, z_lt, z_le, z_eq, z_in]
  refine X2_meetingJointsOf_L_ok hR hW hc (b := 0) (p := 1) rfl (by omega) (by omega) (by show (0 : Int) = ((0 + (0 + (fun p => n01 (0 < p ∧ aJ A c p = true ∧ 1 ≤ c ∧ aJ A (c - 1) (mts A c p) = true)) 0) : Nat) : Int); rfl) rfl (by omega) ?_
  have e : ps (fun p => n01 (0 < p ∧ aJ A c p = true ∧ 1 ≤ c ∧ aJ A (c - 1) (mts A c p) = true)) (cel A c) = aMe A c := rfl
  rw [Nat.zero_add, e]
  exact k
