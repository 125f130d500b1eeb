/-! Filling a course, and taking up. -/
def aRul (A : Ab) (c r : Nat) : Nat → Nat → Nat → Nat
  | 0, ch, _ => ch
  | n + 1, ch, s => aRul A c r n (if (ch = 0 ∨ r = 0 ∨ r = 2 ∧ aS A ch ≤ aS A s) ∧ aRea A c s false = 0 then s else ch) (s + 1)
def aFil (A : Ab) (c : Nat) : Nat → Nat
  | 0 => 0
  | n + 1 => if aRea A c (n + 1) true = 0 then n + 1 else aFil A c n
def aStep (A : Ab) (c r : Nat) : Nat × Bool := if aRul A c r 6 0 1 = 0 ∧ aC A = 1 then (aFil A c 6, true) else (aRul A c r 6 0 1, false)
def aFills (c r : Nat) : Nat → Ab → Nat × Ab
  | 0, A => (0, A)
  | n + 1, A => if (aStep A c r).1 = 0 then (0, A) else ((aFills c r n (aPut A c (aStep A c r).1 (aStep A c r).2)).1 + 1, (aFills c r n (aPut A c (aStep A c r).1 (aStep A c r).2)).2)
theorem aRul_r {A : Ab} {c r n ch s : Nat} (h : ch = 0 ∨ (1 ≤ ch ∧ ch ≤ 6 ∧ aRea A c ch false = 0)) (hs : 1 ≤ s) (hn : s + n = 7) : aRul A c r n ch s = 0 ∨ (1 ≤ aRul A c r n ch s ∧ aRul A c r n ch s ≤ 6 ∧ aRea A c (aRul A c r n ch s) false = 0) := by
  induction n generalizing ch s with
  | zero => exact h
  | succ n ih =>
    unfold aRul
    refine ih ?_ (by omega) (by omega)
    split
    · rename_i e; exact .inr ⟨hs, by omega, e.2⟩
    · exact h
theorem aFil_r {A : Ab} {c n : Nat} (hn : n ≤ 6) : aFil A c n = 0 ∨ (1 ≤ aFil A c n ∧ aFil A c n ≤ 6 ∧ aRea A c (aFil A c n) true = 0) := by
  induction n with
  | zero => exact .inl rfl
  | succ n ih =>
    unfold aFil
    by_cases h : aRea A c (n + 1) true = 0
    · rw [if_pos h]; exact .inr ⟨by omega, hn, h⟩
    · rw [if_neg h]; exact ih (by omega)
theorem aStep_r {A : Ab} {c r : Nat} : (aStep A c r).1 = 0 ∨ ((1 ≤ (aStep A c r).1 ∧ (aStep A c r).1 ≤ 6) ∧ aRea A c (aStep A c r).1 (aStep A c r).2 = 0) := by
  have h1 := aFil_r (A := A) (c := c) (Nat.le_refl 6)
  have h2 := aRul_r (A := A) (c := c) (r := r) (n := 6) (ch := 0) (s := 1) (.inl rfl) (by omega) (by omega)
  unfold aStep
  generalize aFil A c 6 = x at h1 ⊢
  generalize aRul A c r 6 0 1 = y at h2 ⊢
  split
  · rcases h1 with h | h
    · exact .inl h
    · exact .inr ⟨⟨h.1, h.2.1⟩, h.2.2⟩
  · rcases h2 with h | h
    · exact .inl h
    · exact .inr ⟨⟨h.1, h.2.1⟩, h.2.2⟩
theorem Wf.fills {c r n : Nat} (hc : c < 6) {A : Ab} (hW : Wf A) : Wf (aFills c r n A).2 := by
  induction n generalizing A with
  | zero => exact hW
  | succ n ih =>
    unfold aFills
    rcases aStep_r (A := A) (c := c) (r := r) with h | h
    · rw [if_pos h]; exact hW
    · rw [if_neg (by omega)]; exact ih (hW.put hc h.1 h.2)
theorem X2_sizeByRule_L_ok {w : Mo} {A : Ab} (hR : RepC w A) (hW : Wf A) {c r : Nat} (hc : c < 6) {ip ir : Int} (hi : ip = c) (hr : ir = r) (hr2 : r ≤ 2) {K : Int32 → Prop} {n : Nat} : ∀ {ch s : Nat} {i j : Int}, i = ch → j = s → ch ≤ 6 → 1 ≤ s → s + n = 7 → K (zz (aRul A c r n ch s)) → wp_X2_sizeByRule_L5 w (zz ip) (zz ir) K (n + 1) (zz i) (zz j) := by
  subst hi hr
  induction n with
  | zero =>
    intro ch s i j hi hj h1 h2 h3 k
    subst hi hj
    unfold wp_X2_sizeByRule_L5
    simp (disch := omega) only [zl_0, zl_1, zl_2, zl_3, zl_4, zl_5, zl_6, zl_7, zl_8, zl_9, zl_10, zl_11, zl_12, zl_24, zl_31, zl_32, zl_33, zl_36, zl_48, zl_49, zl_54, zl_59, zl_60, zl_61, zl_97, zl_99, zl_102, zl_126, zl_180, zl_360, zl_376, zl_1880, zl_2256, zl_2903, z_add, z_sub, z_mul, z_neg, z_lt, z_le, z_eq, z_in]
    exact wT (by omega) k
  | succ n ih =>
    intro ch s i j hi hj h1 h2 h3 k
    subst hi hj
    unfold aRul at k
    have hs := hW.2.2.2.1 s
    have hch := hW.2.2.2.1 ch
    have kn : ¬ (ch = 0 ∨ r = 0 ∨ r = 2 ∧ aS A ch ≤ aS A s) → wp_X2_sizeByRule_c44 w (zz c) (zz ch) (zz s) (wp_X2_sizeByRule_L5 w (zz c) (zz r) K (n + 1)) (zz 0) := fun h => by
      rw [if_neg (fun h4 => h h4.1)] at k
      unfold wp_X2_sizeByRule_c44
      simp (disch := omega) only [zl_0, zl_1, zl_2, zl_3, zl_4, zl_5, zl_6, zl_7, zl_8, zl_9, zl_10, zl_11, zl_12, zl_24, zl_31, zl_32, zl_33, zl_36, zl_48, zl_49, zl_54, zl_59, zl_60, zl_61, zl_97, zl_99, zl_102, zl_126, zl_180, zl_360, zl_376, zl_1880, zl_2256, zl_2903, z_add, z_sub, z_mul, z_neg, z_lt, z_le, z_eq, z_in]
      exact wT trivial (ih rfl (by omega) h1 (by omega) (by omega) k)
    have ky : (ch = 0 ∨ r = 0 ∨ r = 2 ∧ aS A ch ≤ aS A s) → wp_X2_sizeByRule_c44 w (zz c) (zz ch) (zz s) (wp_X2_sizeByRule_L5 w (zz c) (zz r) K (n + 1)) (zz 1) := fun h => by
      unfold wp_X2_sizeByRule_c44
      simp (disch := omega) only [zl_0, zl_1, zl_2, zl_3, zl_4, zl_5, zl_6, zl_7, zl_8, zl_9, zl_10, zl_11, zl_12, zl_24, zl_31, zl_32, zl_33, zl_36, zl_48, zl_49, zl_54, zl_59, zl_60, zl_61, zl_97, zl_99, zl_102, zl_126, zl_180, zl_360, zl_376, zl_1880, zl_2256, zl_2903, z_add, z_sub, z_mul, z_neg, z_lt, z_le, z_eq, z_in]
      refine wF (by omega) (X2_reasonAgainst_ok hR hW hc ⟨h2, by omega⟩ rfl rfl (f := false) rfl ?_)
      have h5 : aRea A c s false ≤ 4 := by unfold aRea; split <;> (try split) <;> (try split) <;> (try split) <;> (try split) <;> omega
      simp (disch := omega) only [zl_0, zl_1, zl_2, zl_3, zl_4, zl_5, zl_6, zl_7, zl_8, zl_9, zl_10, zl_11, zl_12, zl_24, zl_31, zl_32, zl_33, zl_36, zl_48, zl_49, zl_54, zl_59, zl_60, zl_61, zl_97, zl_99, zl_102, zl_126, zl_180, zl_360, zl_376, zl_1880, zl_2256, zl_2903, z_add, z_sub, z_mul, z_neg, z_lt, z_le, z_eq, z_in]
      refine wB rfl (fun h4 => ?_) (fun h4 => ?_)
      · rw [if_pos ⟨h, by omega⟩] at k
        exact ih rfl (by omega) (by omega) (by omega) (by omega) k
      · rw [if_neg (fun h6 => h4 (by omega))] at k
        exact ih rfl (by omega) h1 (by omega) (by omega) k
    clear ih k
    unfold wp_X2_sizeByRule_L5
    simp (disch := omega) only [zl_0, zl_1, zl_2, zl_3, zl_4, zl_5, zl_6, zl_7, zl_8, zl_9, zl_10, zl_11, zl_12, zl_24, zl_31, zl_32, zl_33, zl_36, zl_48, zl_49, zl_54, zl_59, zl_60, zl_61, zl_97, zl_99, zl_102, zl_126, zl_180, zl_360, zl_376, zl_1880, zl_2256, zl_2903, z_add, z_sub, z_mul, z_neg, z_lt, z_le, z_eq, z_in]
    refine wF (by omega) (wB rfl (fun h4 => ky (.inl (by omega))) fun h4 => wB rfl (fun h5 => ky (.inr (.inl (by omega)))) fun h5 => wB rfl (fun h6 => ?_) fun h6 => kn (by omega))
    refine X2_inStock_ok hR hW ⟨h2, by omega⟩ rfl (X2_inStock_ok hR hW (s := ch) ⟨by omega, h1⟩ rfl ?_)
    simp (disch := omega) only [zl_0, zl_1, zl_2, zl_3, zl_4, zl_5, zl_6, zl_7, zl_8, zl_9, zl_10, zl_11, zl_12, zl_24, zl_31, zl_32, zl_33, zl_36, zl_48, zl_49, zl_54, zl_59, zl_60, zl_61, zl_97, zl_99, zl_102, zl_126, zl_180, zl_360, zl_376, zl_1880, zl_2256, zl_2903, z_add, z_sub, z_mul, z_neg, z_lt, z_le, z_eq, z_in]
    exact wB rfl (fun h7 => kn (by omega)) fun h7 => ky (by omega)
theorem X2_sizeByRule_ok {w : Mo} {A : Ab} (hR : RepC w A) (hW : Wf A) {c r : Nat} (hc : c < 6) {ip ir : Int} (hi : ip = c) (hr : ir = r) (hr2 : r ≤ 2) {post : Int32 → Prop} (k : post (zz (aRul A c r 6 0 1))) : wp_X2_sizeByRule w (zz ip) (zz ir) post := by
  refine ⟨7, ?_⟩
  simp (disch := omega) only [zl_0, zl_1, zl_2, zl_3, zl_4, zl_5, zl_6, zl_7, zl_8, zl_9, zl_10, zl_11, zl_12, zl_24, zl_31, zl_32, zl_33, zl_36, zl_48, zl_49, zl_54, zl_59, zl_60, zl_61, zl_97, zl_99, zl_102, zl_126, zl_180, zl_360, zl_376, zl_1880, zl_2256, zl_2903, z_add, z_sub, z_mul, z_neg, z_lt, z_le, z_eq, z_in]
  exact X2_sizeByRule_L_ok hR hW hc hi hr hr2 (n := 6) (ch := 0) (s := 1) (i := 0) (j := 1) rfl rfl (by omega) (by omega) (by omega) k
theorem aRea_4 {A : Ab} {c s : Nat} {f : Bool} : aRea A c s f ≤ 4 := by
  unfold aRea
  split <;> (try split) <;> (try split) <;> (try split) <;> (try split) <;> omega
theorem X2_greatestFiller_L_ok {w : Mo} {A : Ab} (hR : RepC w A) (hW : Wf A) {c : Nat} (hc : c < 6) {ip : Int} (hi : ip = c) {K : Int32 → Prop} {Z : Prop} (hz : K (zz 0) → Z) {n : Nat} : ∀ {j : Int}, j = n → n ≤ 6 → K (zz (aFil A c n)) → wp_X2_greatestFiller_L3 w (zz ip) K Z (n + 1) (zz j) := by
  subst hi
  induction n with
  | zero =>
    intro j hj h1 k
    subst hj
    unfold wp_X2_greatestFiller_L3
    simp (disch := omega) only [zl_0, zl_1, zl_2, zl_3, zl_4, zl_5, zl_6, zl_7, zl_8, zl_9, zl_10, zl_11, zl_12, zl_24, zl_31, zl_32, zl_33, zl_36, zl_48, zl_49, zl_54, zl_59, zl_60, zl_61, zl_97, zl_99, zl_102, zl_126, zl_180, zl_360, zl_376, zl_1880, zl_2256, zl_2903, z_add, z_sub, z_mul, z_neg, z_lt, z_le, z_eq, z_in]
    exact wT (by omega) (hz k)
  | succ n ih =>
    intro j hj h1 k
    subst hj
    unfold aFil at k
    have h4 := aRea_4 (A := A) (c := c) (s := n + 1) (f := true)
    unfold wp_X2_greatestFiller_L3
    simp (disch := omega) only [zl_0, zl_1, zl_2, zl_3, zl_4, zl_5, zl_6, zl_7, zl_8, zl_9, zl_10, zl_11, zl_12, zl_24, zl_31, zl_32, zl_33, zl_36, zl_48, zl_49, zl_54, zl_59, zl_60, zl_61, zl_97, zl_99, zl_102, zl_126, zl_180, zl_360, zl_376, zl_1880, zl_2256, zl_2903, z_add, z_sub, z_mul, z_neg, z_lt, z_le, z_eq, z_in]
    refine wF (by omega) (X2_reasonAgainst_ok hR hW hc (s := n + 1) ⟨by omega, by omega⟩ rfl rfl (f := true) rfl ?_)
    simp (disch := omega) only [zl_0, zl_1, zl_2, zl_3, zl_4, zl_5, zl_6, zl_7, zl_8, zl_9, zl_10, zl_11, zl_12, zl_24, zl_31, zl_32, zl_33, zl_36, zl_48, zl_49, zl_54, zl_59, zl_60, zl_61, zl_97, zl_99, zl_102, zl_126, zl_180, zl_360, zl_376, zl_1880, zl_2256, zl_2903, z_add, z_sub, z_mul, z_neg, z_lt, z_le, z_eq, z_in]
    refine wB rfl (fun h5 => ?_) (fun h5 => ?_)
    · rw [if_pos (by omega)] at k; exact k
    · rw [if_neg (by omega)] at k; exact ih (by omega) (by omega) k
theorem X2_greatestFiller_ok {w : Mo} {A : Ab} (hR : RepC w A) (hW : Wf A) {c : Nat} (hc : c < 6) {ip : Int} (hi : ip = c) {post : Int32 → Prop} (k : post (zz (aFil A c 6))) : wp_X2_greatestFiller w (zz ip) post := by
  refine ⟨7, ?_⟩
  simp (disch := omega) only [zl_0, zl_1, zl_2, zl_3, zl_4, zl_5, zl_6, zl_7, zl_8, zl_9, zl_10, zl_11, zl_12, zl_24, zl_31, zl_32, zl_33, zl_36, zl_48, zl_49, zl_54, zl_59, zl_60, zl_61, zl_97, zl_99, zl_102, zl_126, zl_180, zl_360, zl_376, zl_1880, zl_2256, zl_2903, z_add, z_sub, z_mul, z_neg, z_lt, z_le, z_eq, z_in]
  exact X2_greatestFiller_L_ok hR hW hc hi (K := post) (fun h => h) (n := 6) (j := 6) rfl (by omega) k
theorem X2_fillCourse_L_ok {c r : Nat} (hc : c < 6) {ip ir : Int} (hi : ip = c) (hr : ir = r) (hr2 : r ≤ 2) {K : Int32 → Mo → Prop} {n : Nat} : ∀ {w : Mo} {A : Ab} {laid : Nat} {j : Int}, RepC w A → Wf A → j = laid → laid + n = 60 → (∀ w1, RepC w1 (aFills c r n A).2 → K (zz (laid + (aFills c r n A).1 : Nat)) w1) → wp_X2_fillCourse_L2 (zz ip) (zz ir) K K (n + 1) (zz j) w := by
  subst hi hr
  induction n with
  | zero =>
    intro w A laid j hR hW hj hn k
    subst hj
    unfold wp_X2_fillCourse_L2
    simp (disch := omega) only [zl_0, zl_1, zl_2, zl_3, zl_4, zl_5, zl_6, zl_7, zl_8, zl_9, zl_10, zl_11, zl_12, zl_24, zl_31, zl_32, zl_33, zl_36, zl_48, zl_49, zl_54, zl_59, zl_60, zl_61, zl_97, zl_99, zl_102, zl_126, zl_180, zl_360, zl_376, zl_1880, zl_2256, zl_2903, z_add, z_sub, z_mul, z_neg, z_lt, z_le, z_eq, z_in]
    exact wT (by omega) (k w hR)
  | succ n ih =>
    intro w A laid j hR hW hj hn k
    subst hj
    unfold aFills at k
    have hst := aStep_r (A := A) (c := c) (r := r)
    have hq := aRul_r (A := A) (c := c) (r := r) (n := 6) (ch := 0) (s := 1) (.inl rfl) (by omega) (by omega)
    have hc1 := hW.2.2.1
    unfold wp_X2_fillCourse_L2 wp_X2_fillCourse_c34
    rw [hR.2.2.2.2.2.1]
    simp (disch := omega) only [zl_0, zl_1, zl_2, zl_3, zl_4, zl_5, zl_6, zl_7, zl_8, zl_9, zl_10, zl_11, zl_12, zl_24, zl_31, zl_32, zl_33, zl_36, zl_48, zl_49, zl_54, zl_59, zl_60, zl_61, zl_97, zl_99, zl_102, zl_126, zl_180, zl_360, zl_376, zl_1880, zl_2256, zl_2903, z_add, z_sub, z_mul, z_neg, z_lt, z_le, z_eq, z_in]
    refine wF (by omega) (X2_sizeByRule_ok hR hW hc rfl rfl hr2 ?_)
    simp (disch := omega) only [zl_0, zl_1, zl_2, zl_3, zl_4, zl_5, zl_6, zl_7, zl_8, zl_9, zl_10, zl_11, zl_12, zl_24, zl_31, zl_32, zl_33, zl_36, zl_48, zl_49, zl_54, zl_59, zl_60, zl_61, zl_97, zl_99, zl_102, zl_126, zl_180, zl_360, zl_376, zl_1880, zl_2256, zl_2903, z_add, z_sub, z_mul, z_neg, z_lt, z_le, z_eq, z_in]
    have kput : ∀ (s : Nat) (f : Bool), aStep A c r = (s, f) → s ≠ 0 → ∀ {b : Int}, b = bB f → wp_X2_put w (zz c) (zz s) (zz b) (fun r62 u62_1 => wp_X2_fillCourse_L2 (zz c) (zz r) K K (n + 1) (zz (laid + 1)) u62_1) := fun s f e h0 b hb => by
      rw [e] at k hst
      rw [if_neg h0] at k
      rcases hst with h | h
      · exact absurd h h0
      · refine X2_put_ok hR hW hc h.1 rfl rfl hb h.2 (fun w1 h1 => ih h1 (hW.put hc h.1 h.2) (laid := laid + 1) (by omega) (by omega) (fun w2 h2 => ?_))
        have := k w2 h2
        rw [show laid + 1 + (aFills c r n (aPut A c s f)).1 = laid + ((aFills c r n (aPut A c s f)).1 + 1) by omega]
        exact this
    have kend : ∀ (s : Nat) (f : Bool), aStep A c r = (s, f) → s = 0 → K (zz laid) w := fun s f e h0 => by
      rw [e] at k
      rw [if_pos h0] at k
      exact k w hR
    refine wB rfl (fun h => ?_) (fun h => ?_)
    · refine wB rfl (fun h1 => ?_) (fun h1 => ?_)
      · have e : aStep A c r = (aFil A c 6, true) := by unfold aStep; rw [if_pos ⟨by omega, by omega⟩]
        have hf := aFil_r (A := A) (c := c) (Nat.le_refl 6)
        refine wF (by omega) (X2_greatestFiller_ok hR hW hc rfl ?_)
        simp (disch := omega) only [zl_0, zl_1, zl_2, zl_3, zl_4, zl_5, zl_6, zl_7, zl_8, zl_9, zl_10, zl_11, zl_12, zl_24, zl_31, zl_32, zl_33, zl_36, zl_48, zl_49, zl_54, zl_59, zl_60, zl_61, zl_97, zl_99, zl_102, zl_126, zl_180, zl_360, zl_376, zl_1880, zl_2256, zl_2903, z_add, z_sub, z_mul, z_neg, z_lt, z_le, z_eq, z_in]
        refine wB rfl (fun h2 => kend _ _ e (by omega)) (fun h2 => kput _ _ e (by omega) rfl)
      · have e : aStep A c r = (aRul A c r 6 0 1, false) := by unfold aStep; rw [if_neg (by omega)]
        refine wT trivial (wT (by omega) (kend _ _ e (by omega)))
    · have e : aStep A c r = (aRul A c r 6 0 1, false) := by unfold aStep; rw [if_neg (by omega)]
      exact wT trivial (wF (by omega) (kput _ _ e (by omega) rfl))
theorem X2_fillCourse_ok {w : Mo} {A : Ab} (hR : RepC w A) (hW : Wf A) {c r : Nat} (hc : c < 6) {ip ir : Int} (hi : ip = c) (hr : ir = r) (hr2 : r ≤ 2) {post : Int32 → Mo → Prop} (k : ∀ w1, RepC w1 (aFills c r 60 A).2 → post (zz ((aFills c r 60 A).1 : Nat)) w1) : wp_X2_fillCourse w (zz ip) (zz ir) post := by
  refine ⟨61, X2_fillCourse_L_ok hc hi hr hr2 (laid := 0) (j := 0) hR hW rfl (by omega) (fun w1 h1 => ?_)⟩
  rw [Nat.zero_add]
  exact k w1 h1
