/-! The reference: filling and counting. -/
theorem X5_byRule_L_ok {v : Nat → Int32} {A : Ab} (hR : RepM v A) (hW : Wf A) {ip : Int} {c : Nat} (hc : c < 6) (hi : ip = c) {K : Int32 → Prop} {n : Nat} : ∀ {ch s : Nat} {i j : Int}, i = ch → j = s → ch ≤ 6 → 1 ≤ s → s + n = 7 → K (zz (aRul A c (aR A) n ch s)) → wp_X5_byRule_L4 v (zz ip) K (n + 1) (zz i) (zz j) := by
  subst hi
  induction n with
  | zero =>
    intro ch s i j hi hj h1 h2 h3 k
    subst hi hj
    unfold wp_X5_byRule_L4
    simp (disch := omega) only [zl_0, zl_1, zl_2, zl_3, zl_4, zl_5, zl_6, zl_7, zl_8, zl_9, zl_10, zl_11, zl_12, zl_24, zl_31, zl_32, zl_33, zl_36, zl_48, zl_49, zl_54, zl_59, zl_60, zl_61, zl_97, zl_99, zl_102, zl_126, zl_180, zl_360, zl_376, zl_1880, zl_2256, zl_2903, z_add, z_sub, z_mul, z_neg, z_lt, z_le, z_eq, z_in]
    exact wT (by omega) k
  | succ n ih =>
    intro ch s i j hi hj h1 h2 h3 k
    subst hi hj
    unfold aRul at k
    have hs := hW.2.2.2.1 s
    have hch := hW.2.2.2.1 ch
    have kn : ¬ (ch = 0 ∨ aR A = 0 ∨ aR A = 2 ∧ aS A ch ≤ aS A s) → wp_X5_byRule_c45 v (zz c) (zz ch) (zz s) (wp_X5_byRule_L4 v (zz c) K (n + 1)) (zz 0) := fun h => by
      rw [if_neg (fun h4 => h h4.1)] at k
      unfold wp_X5_byRule_c45
      simp (disch := omega) only [zl_0, zl_1, zl_2, zl_3, zl_4, zl_5, zl_6, zl_7, zl_8, zl_9, zl_10, zl_11, zl_12, zl_24, zl_31, zl_32, zl_33, zl_36, zl_48, zl_49, zl_54, zl_59, zl_60, zl_61, zl_97, zl_99, zl_102, zl_126, zl_180, zl_360, zl_376, zl_1880, zl_2256, zl_2903, z_add, z_sub, z_mul, z_neg, z_lt, z_le, z_eq, z_in]
      exact wT trivial (ih rfl (by omega) h1 (by omega) (by omega) k)
    have ky : (ch = 0 ∨ aR A = 0 ∨ aR A = 2 ∧ aS A ch ≤ aS A s) → wp_X5_byRule_c45 v (zz c) (zz ch) (zz s) (wp_X5_byRule_L4 v (zz c) K (n + 1)) (zz 1) := fun h => by
      unfold wp_X5_byRule_c45
      simp (disch := omega) only [zl_0, zl_1, zl_2, zl_3, zl_4, zl_5, zl_6, zl_7, zl_8, zl_9, zl_10, zl_11, zl_12, zl_24, zl_31, zl_32, zl_33, zl_36, zl_48, zl_49, zl_54, zl_59, zl_60, zl_61, zl_97, zl_99, zl_102, zl_126, zl_180, zl_360, zl_376, zl_1880, zl_2256, zl_2903, z_add, z_sub, z_mul, z_neg, z_lt, z_le, z_eq, z_in]
      refine wF (by omega) (X5_refused_ok hR hW hc ⟨h2, by omega⟩ rfl rfl (f := false) rfl ?_)
      have h5 := aRea_4 (A := A) (c := c) (s := s) (f := false)
      simp (disch := omega) only [zl_0, zl_1, zl_2, zl_3, zl_4, zl_5, zl_6, zl_7, zl_8, zl_9, zl_10, zl_11, zl_12, zl_24, zl_31, zl_32, zl_33, zl_36, zl_48, zl_49, zl_54, zl_59, zl_60, zl_61, zl_97, zl_99, zl_102, zl_126, zl_180, zl_360, zl_376, zl_1880, zl_2256, zl_2903, z_add, z_sub, z_mul, z_neg, z_lt, z_le, z_eq, z_in]
      refine wB rfl (fun h4 => ?_) (fun h4 => ?_)
      · rw [if_pos ⟨h, by omega⟩] at k
        exact ih rfl (by omega) (by omega) (by omega) (by omega) k
      · rw [if_neg (fun h6 => h4 (by omega))] at k
        exact ih rfl (by omega) h1 (by omega) (by omega) k
    clear ih k
    have hr := hW.2.1
    unfold wp_X5_byRule_L4
    have hru := hR.ru
    have hst := hR.st (i := 3 + (s : Int)) (s := s) (by omega)
    simp (disch := omega) only [zl_0, zl_1, zl_2, zl_3, zl_4, zl_5, zl_6, zl_7, zl_8, zl_9, zl_10, zl_11, zl_12, zl_24, zl_31, zl_32, zl_33, zl_36, zl_48, zl_49, zl_54, zl_59, zl_60, zl_61, zl_97, zl_99, zl_102, zl_126, zl_180, zl_360, zl_376, zl_1880, zl_2256, zl_2903, z_add, z_sub, z_mul, z_neg, z_lt, z_le, z_eq, z_in, hru, hst]
    refine wF (by omega) (wB rfl (fun h4 => ky (.inl (by omega))) fun h4 => wB rfl (fun h5 => ky (.inr (.inl (by omega)))) fun h5 => wB rfl (fun h6 => ?_) fun h6 => kn (by omega))
    have hst2 := hR.st (i := 3 + (ch : Int)) (s := ch) (by omega)
    rw [hst2]
    simp (disch := omega) only [zl_0, zl_1, zl_2, zl_3, zl_4, zl_5, zl_6, zl_7, zl_8, zl_9, zl_10, zl_11, zl_12, zl_24, zl_31, zl_32, zl_33, zl_36, zl_48, zl_49, zl_54, zl_59, zl_60, zl_61, zl_97, zl_99, zl_102, zl_126, zl_180, zl_360, zl_376, zl_1880, zl_2256, zl_2903, z_add, z_sub, z_mul, z_neg, z_lt, z_le, z_eq, z_in]
    exact ⟨by omega, by omega, wB rfl (fun h7 => kn (by omega)) fun h7 => ky (by omega)⟩
theorem X5_byRule_ok {v : Nat → Int32} {A : Ab} (hR : RepM v A) (hW : Wf A) {ip : Int} {c : Nat} (hc : c < 6) (hi : ip = c) {post : Int32 → Prop} (k : post (zz (aRul A c (aR A) 6 0 1))) : wp_X5_byRule v (zz ip) post := by
  refine ⟨7, ?_⟩
  simp (disch := omega) only [zl_0, zl_1, zl_2, zl_3, zl_4, zl_5, zl_6, zl_7, zl_8, zl_9, zl_10, zl_11, zl_12, zl_24, zl_31, zl_32, zl_33, zl_36, zl_48, zl_49, zl_54, zl_59, zl_60, zl_61, zl_97, zl_99, zl_102, zl_126, zl_180, zl_360, zl_376, zl_1880, zl_2256, zl_2903, z_add, z_sub, z_mul, z_neg, z_lt, z_le, z_eq, z_in]
  exact X5_byRule_L_ok hR hW hc hi (n := 6) (ch := 0) (s := 1) (i := 0) (j := 1) rfl rfl (by omega) (by omega) (by omega) k
theorem X5_filler_L_ok {v : Nat → Int32} {A : Ab} (hR : RepM v A) (hW : Wf A) {ip : Int} {c : Nat} (hc : c < 6) (hi : ip = c) {K : Int32 → Prop} {n : Nat} : ∀ {j : Int}, j = n → n ≤ 6 → K (zz (aFil A c n)) → wp_X5_filler_L14 v (zz ip) K (n + 1) (zz j) := by
  subst hi
  induction n with
  | zero =>
    intro j hj h1 k
    subst hj
    unfold wp_X5_filler_L14
    simp (disch := omega) only [zl_0, zl_1, zl_2, zl_3, zl_4, zl_5, zl_6, zl_7, zl_8, zl_9, zl_10, zl_11, zl_12, zl_24, zl_31, zl_32, zl_33, zl_36, zl_48, zl_49, zl_54, zl_59, zl_60, zl_61, zl_97, zl_99, zl_102, zl_126, zl_180, zl_360, zl_376, zl_1880, zl_2256, zl_2903, z_add, z_sub, z_mul, z_neg, z_lt, z_le, z_eq, z_in]
    exact wT (by omega) k
  | succ n ih =>
    intro j hj h1 k
    subst hj
    unfold aFil at k
    have h4 := aRea_4 (A := A) (c := c) (s := n + 1) (f := true)
    unfold wp_X5_filler_L14
    simp (disch := omega) only [zl_0, zl_1, zl_2, zl_3, zl_4, zl_5, zl_6, zl_7, zl_8, zl_9, zl_10, zl_11, zl_12, zl_24, zl_31, zl_32, zl_33, zl_36, zl_48, zl_49, zl_54, zl_59, zl_60, zl_61, zl_97, zl_99, zl_102, zl_126, zl_180, zl_360, zl_376, zl_1880, zl_2256, zl_2903, z_add, z_sub, z_mul, z_neg, z_lt, z_le, z_eq, z_in]
    refine wF (by omega) (X5_refused_ok hR hW hc (s := n + 1) ⟨by omega, by omega⟩ rfl rfl (f := true) rfl ?_)
    simp (disch := omega) only [zl_0, zl_1, zl_2, zl_3, zl_4, zl_5, zl_6, zl_7, zl_8, zl_9, zl_10, zl_11, zl_12, zl_24, zl_31, zl_32, zl_33, zl_36, zl_48, zl_49, zl_54, zl_59, zl_60, zl_61, zl_97, zl_99, zl_102, zl_126, zl_180, zl_360, zl_376, zl_1880, zl_2256, zl_2903, z_add, z_sub, z_mul, z_neg, z_lt, z_le, z_eq, z_in]
    refine wB rfl (fun h5 => ?_) (fun h5 => ?_)
    · rw [if_pos (by omega)] at k; exact k
    · rw [if_neg (by omega)] at k; exact ih (by omega) (by omega) k
theorem X5_filler_ok {v : Nat → Int32} {A : Ab} (hR : RepM v A) (hW : Wf A) {ip : Int} {c : Nat} (hc : c < 6) (hi : ip = c) {post : Int32 → Prop} (k : post (zz (if aC A = 1 then aFil A c 6 else 0 : Nat))) : wp_X5_filler v (zz ip) post := by
  unfold wp_X5_filler
  have hc1 := hW.2.2.1
  have hcu := hR.cu
  simp (disch := omega) only [zl_0, zl_1, zl_2, zl_3, zl_4, zl_5, zl_6, zl_7, zl_8, zl_9, zl_10, zl_11, zl_12, zl_24, zl_31, zl_32, zl_33, zl_36, zl_48, zl_49, zl_54, zl_59, zl_60, zl_61, zl_97, zl_99, zl_102, zl_126, zl_180, zl_360, zl_376, zl_1880, zl_2256, zl_2903, z_add, z_sub, z_mul, z_neg, z_lt, z_le, z_eq, z_in, hcu]
  refine wB rfl (fun h => ⟨7, ?_⟩) (fun h => ⟨1, ?_⟩)
  · rw [if_pos (by omega)] at k
    exact X5_filler_L_ok hR hW hc hi (n := 6) (j := 6) rfl (by omega) k
  · rw [if_neg (by omega)] at k
    unfold wp_X5_filler_L14b
    simp (disch := omega) only [zl_0, zl_1, zl_2, zl_3, zl_4, zl_5, zl_6, zl_7, zl_8, zl_9, zl_10, zl_11, zl_12, zl_24, zl_31, zl_32, zl_33, zl_36, zl_48, zl_49, zl_54, zl_59, zl_60, zl_61, zl_97, zl_99, zl_102, zl_126, zl_180, zl_360, zl_376, zl_1880, zl_2256, zl_2903, z_add, z_sub, z_mul, z_neg, z_lt, z_le, z_eq, z_in]
    exact wT (by omega) k
theorem X5_fills_L_ok {ip : Int} {c : Nat} (hc : c < 6) (hi : ip = c) {r : Nat} {K : Int32 → (Nat → Int32) → Prop} {n : Nat} : ∀ {v : Nat → Int32} {A : Ab} {laid : Nat} {j : Int}, RepM v A → Wf A → aR A = r → j = laid → laid + n ≤ 1000 → cel A c - tak A c ≤ n → (∀ v1, RepM v1 (aFills c r n A).2 → K (zz (laid + (aFills c r n A).1 : Nat)) v1) → wp_X5_fills_L4 (zz ip) K (n + 2) (zz j) (zz 1) v := by
  subst hi
  induction n with
  | zero =>
    intro v A laid j hR hW hr hj hn hfree k
    subst hj
    have hst := aStep_r (A := A) (c := c) (r := r)
    have e0 : (aStep A c r).1 = 0 := by
      rcases hst with h | h
      · exact h
      · have := aRea_0 h.2; omega
    have hq := aRul_r (A := A) (c := c) (r := r) (n := 6) (ch := 0) (s := 1) (.inl rfl) (by omega) (by omega)
    have hf := aFil_r (A := A) (c := c) (Nat.le_refl 6)
    have hc1 := hW.2.2.1
    have e1 : aRul A c r 6 0 1 = 0 := by
      rcases hq with h | h
      · exact h
      · have := aRea_0 h.2.2; omega
    have e2 : aFil A c 6 = 0 := by
      rcases hf with h | h
      · exact h
      · have := aRea_0 h.2.2; omega
    unfold wp_X5_fills_L4 wp_X5_fills_c44
    simp (disch := omega) only [zl_0, zl_1, zl_2, zl_3, zl_4, zl_5, zl_6, zl_7, zl_8, zl_9, zl_10, zl_11, zl_12, zl_24, zl_31, zl_32, zl_33, zl_36, zl_48, zl_49, zl_54, zl_59, zl_60, zl_61, zl_97, zl_99, zl_102, zl_126, zl_180, zl_360, zl_376, zl_1880, zl_2256, zl_2903, z_add, z_sub, z_mul, z_neg, z_lt, z_le, z_eq, z_in]
    refine wF (by omega) (X5_byRule_ok hR hW hc rfl ?_)
    rw [hr, e1]
    refine wT rfl (X5_filler_ok hR hW hc rfl ?_)
    rw [e2, show (if aC A = 1 then 0 else 0 : Nat) = 0 by split <;> rfl]
    simp (disch := omega) only [zl_0, zl_1, zl_2, zl_3, zl_4, zl_5, zl_6, zl_7, zl_8, zl_9, zl_10, zl_11, zl_12, zl_24, zl_31, zl_32, zl_33, zl_36, zl_48, zl_49, zl_54, zl_59, zl_60, zl_61, zl_97, zl_99, zl_102, zl_126, zl_180, zl_360, zl_376, zl_1880, zl_2256, zl_2903, z_add, z_sub, z_mul, z_neg, z_lt, z_le, z_eq, z_in]
    refine wT (by omega) (wT trivial ?_)
    unfold wp_X5_fills_L4
    simp (disch := omega) only [zl_0, zl_1, zl_2, zl_3, zl_4, zl_5, zl_6, zl_7, zl_8, zl_9, zl_10, zl_11, zl_12, zl_24, zl_31, zl_32, zl_33, zl_36, zl_48, zl_49, zl_54, zl_59, zl_60, zl_61, zl_97, zl_99, zl_102, zl_126, zl_180, zl_360, zl_376, zl_1880, zl_2256, zl_2903, z_add, z_sub, z_mul, z_neg, z_lt, z_le, z_eq, z_in]
    exact wT trivial (k v hR)
  | succ n ih =>
    intro v A laid j hR hW hr hj hn hfree k
    subst hj
    unfold aFills at k
    have hst := aStep_r (A := A) (c := c) (r := r)
    have hq := aRul_r (A := A) (c := c) (r := r) (n := 6) (ch := 0) (s := 1) (.inl rfl) (by omega) (by omega)
    have hf := aFil_r (A := A) (c := c) (Nat.le_refl 6)
    have hc1 := hW.2.2.1
    have kput : ∀ (s : Nat) (f : Bool), aStep A c r = (s, f) → s ≠ 0 → ∀ {b : Int}, b = bB f → wp_X5_lays v (zz c) (zz s) (zz b) (fun r62 u62_1 => wp_X5_fills_L4 (zz c) K (n + 2) (zz (laid + 1)) (zz 1) u62_1) := fun s f e h0 b hb => by
      rw [e] at k hst
      rw [if_neg h0] at k
      rcases hst with h | h
      · exact absurd h h0
      · have h9 := aRea_0 h.2
        refine X5_lays_ok hR hW hc h.1 rfl rfl hb h.2 (fun v1 h1 => ih h1 (hW.put hc h.1 h.2) hr (laid := laid + 1) (by omega) (by omega) ?_ (fun w2 h2 => ?_))
        · rw [tak_put, cel_put, if_pos rfl]
          have := h.1
          show cel A c - (tak A c + s) ≤ n
          omega
        · have := k w2 h2
          rw [show laid + 1 + (aFills c r n (aPut A c s f)).1 = laid + ((aFills c r n (aPut A c s f)).1 + 1) by omega]
          exact this
    have kend : ∀ (s : Nat) (f : Bool), aStep A c r = (s, f) → s = 0 → K (zz laid) v := fun s f e h0 => by
      rw [e] at k
      rw [if_pos h0] at k
      exact k v hR
    clear ih k hst
    unfold wp_X5_fills_L4 wp_X5_fills_c44
    simp (disch := omega) only [zl_0, zl_1, zl_2, zl_3, zl_4, zl_5, zl_6, zl_7, zl_8, zl_9, zl_10, zl_11, zl_12, zl_24, zl_31, zl_32, zl_33, zl_36, zl_48, zl_49, zl_54, zl_59, zl_60, zl_61, zl_97, zl_99, zl_102, zl_126, zl_180, zl_360, zl_376, zl_1880, zl_2256, zl_2903, z_add, z_sub, z_mul, z_neg, z_lt, z_le, z_eq, z_in]
    refine wF (by omega) (X5_byRule_ok hR hW hc rfl ?_)
    rw [hr]
    have quit : K (zz laid) v → wp_X5_fills_L4 (zz c) K (n + 2) (zz laid) (zz 0) v := fun h => by
      unfold wp_X5_fills_L4
      simp (disch := omega) only [zl_0, zl_1, zl_2, zl_3, zl_4, zl_5, zl_6, zl_7, zl_8, zl_9, zl_10, zl_11, zl_12, zl_24, zl_31, zl_32, zl_33, zl_36, zl_48, zl_49, zl_54, zl_59, zl_60, zl_61, zl_97, zl_99, zl_102, zl_126, zl_180, zl_360, zl_376, zl_1880, zl_2256, zl_2903, z_add, z_sub, z_mul, z_neg, z_lt, z_le, z_eq, z_in]
      exact wT trivial h
    simp (disch := omega) only [zl_0, zl_1, zl_2, zl_3, zl_4, zl_5, zl_6, zl_7, zl_8, zl_9, zl_10, zl_11, zl_12, zl_24, zl_31, zl_32, zl_33, zl_36, zl_48, zl_49, zl_54, zl_59, zl_60, zl_61, zl_97, zl_99, zl_102, zl_126, zl_180, zl_360, zl_376, zl_1880, zl_2256, zl_2903, z_add, z_sub, z_mul, z_neg, z_lt, z_le, z_eq, z_in]
    refine wB rfl (fun h => X5_filler_ok hR hW hc rfl ?_) (fun h => ?_)
    · by_cases h1 : aC A = 1
      · have e : aStep A c r = (aFil A c 6, true) := by unfold aStep; rw [if_pos ⟨by omega, h1⟩]
        rw [if_pos h1]
        simp (disch := omega) only [zl_0, zl_1, zl_2, zl_3, zl_4, zl_5, zl_6, zl_7, zl_8, zl_9, zl_10, zl_11, zl_12, zl_24, zl_31, zl_32, zl_33, zl_36, zl_48, zl_49, zl_54, zl_59, zl_60, zl_61, zl_97, zl_99, zl_102, zl_126, zl_180, zl_360, zl_376, zl_1880, zl_2256, zl_2903, z_add, z_sub, z_mul, z_neg, z_lt, z_le, z_eq, z_in]
        refine wB rfl (fun h2 => wT trivial (quit (kend _ _ e (by omega)))) (fun h2 => wF (by omega) (wF (by omega) ?_))
        rw [show (aRul A c r 6 0 1 : Int) + aFil A c 6 = aFil A c 6 by omega]
        exact kput _ _ e (by omega) rfl
      · have e : aStep A c r = (aRul A c r 6 0 1, false) := by unfold aStep; rw [if_neg (fun h3 => h1 h3.2)]
        rw [if_neg h1]
        simp (disch := omega) only [zl_0, zl_1, zl_2, zl_3, zl_4, zl_5, zl_6, zl_7, zl_8, zl_9, zl_10, zl_11, zl_12, zl_24, zl_31, zl_32, zl_33, zl_36, zl_48, zl_49, zl_54, zl_59, zl_60, zl_61, zl_97, zl_99, zl_102, zl_126, zl_180, zl_360, zl_376, zl_1880, zl_2256, zl_2903, z_add, z_sub, z_mul, z_neg, z_lt, z_le, z_eq, z_in]
        exact wT (by omega) (wT trivial (quit (kend _ _ e (by omega))))
    · have e : aStep A c r = (aRul A c r 6 0 1, false) := by unfold aStep; rw [if_neg (fun h3 => h (by omega))]
      refine wF (by omega) (wF (by omega) (wT (by omega) ?_))
      rw [show (aRul A c r 6 0 1 : Int) + 0 = aRul A c r 6 0 1 by omega]
      exact kput _ _ e (by omega) rfl
theorem X5_fills_ok {v : Nat → Int32} {A : Ab} (hR : RepM v A) (hW : Wf A) {ip : Int} {c : Nat} (hc : c < 6) (hi : ip = c) {post : Int32 → (Nat → Int32) → Prop} (k : ∀ v1, RepM v1 (aFills c (aR A) 60 A).2 → post (zz ((aFills c (aR A) 60 A).1 : Nat)) v1) : wp_X5_fills v (zz ip) post := by
  have h2 := cel_r hW hc
  refine ⟨62, ?_⟩
  simp (disch := omega) only [zl_0, zl_1, zl_2, zl_3, zl_4, zl_5, zl_6, zl_7, zl_8, zl_9, zl_10, zl_11, zl_12, zl_24, zl_31, zl_32, zl_33, zl_36, zl_48, zl_49, zl_54, zl_59, zl_60, zl_61, zl_97, zl_99, zl_102, zl_126, zl_180, zl_360, zl_376, zl_1880, zl_2256, zl_2903, z_add, z_sub, z_mul, z_neg, z_lt, z_le, z_eq, z_in]
  refine X5_fills_L_ok hc hi (n := 60) (laid := 0) hR hW rfl rfl (by omega) (by omega) (fun v1 h1 => ?_)
  rw [Nat.zero_add]
  exact k v1 h1
def aFA (r : Nat) : Nat → Ab → Ab
  | 0, A => A
  | n + 1, A => aFA r n (aFills (5 - n) r 60 A).2
theorem Wf.fa {r n : Nat} {A : Ab} (hW : Wf A) : Wf (aFA r n A) := by
  induction n generalizing A with
  | zero => exact hW
  | succ n ih => exact ih (hW.fills (by omega))
theorem aR_fills {c r n : Nat} {A : Ab} : aR (aFills c r n A).2 = aR A := by
  induction n generalizing A with
  | zero => rfl
  | succ n ih =>
    unfold aFills
    split
    · rfl
    · exact ih
def aCl (A : Ab) : Nat := ps (fun c => n01 (cel A c - tak A c = 0)) 6
theorem X5_closed_L_ok {v : Nat → Int32} {A : Ab} (hR : RepM v A) (hW : Wf A) {K : Int32 → Prop} {n : Nat} : ∀ {p : Nat} {i j : Int}, i = (ps (fun c => n01 (cel A c - tak A c = 0)) p : Nat) → j = p → p + n = 6 → K (zz (ps (fun c => n01 (cel A c - tak A c = 0)) 6 : Nat)) → wp_X5_closed_L4 v K (n + 1) (zz i) (zz j) := by
  induction n with
  | zero =>
    intro p i j hi hj hn k
    subst hi hj
    unfold wp_X5_closed_L4
    simp (disch := omega) only [zl_0, zl_1, zl_2, zl_3, zl_4, zl_5, zl_6, zl_7, zl_8, zl_9, zl_10, zl_11, zl_12, zl_24, zl_31, zl_32, zl_33, zl_36, zl_48, zl_49, zl_54, zl_59, zl_60, zl_61, zl_97, zl_99, zl_102, zl_126, zl_180, zl_360, zl_376, zl_1880, zl_2256, zl_2903, z_add, z_sub, z_mul, z_neg, z_lt, z_le, z_eq, z_in]
    rw [show p = 6 by omega]
    exact wT (by omega) k
  | succ n ih =>
    intro p i j hi hj hn k
    subst hi hj
    have hs : ps (fun c => n01 (cel A c - tak A c = 0)) (p + 1) = ps (fun c => n01 (cel A c - tak A c = 0)) p + n01 (cel A p - tak A p = 0) := rfl
    unfold wp_X5_closed_L4
    simp (disch := omega) only [zl_0, zl_1, zl_2, zl_3, zl_4, zl_5, zl_6, zl_7, zl_8, zl_9, zl_10, zl_11, zl_12, zl_24, zl_31, zl_32, zl_33, zl_36, zl_48, zl_49, zl_54, zl_59, zl_60, zl_61, zl_97, zl_99, zl_102, zl_126, zl_180, zl_360, zl_376, zl_1880, zl_2256, zl_2903, z_add, z_sub, z_mul, z_neg, z_lt, z_le, z_eq, z_in]
    refine wF (by omega) ?_
    refine X5_isClosed_ok hR hW (by omega) rfl ?_
    have h9 : n01 (cel A p - tak A p = 0) ≤ 1 := n01_le
    generalize n01 (cel A p - tak A p = 0) = x at hs h9 ⊢
    simp (disch := omega) only [zl_0, zl_1, zl_2, zl_3, zl_4, zl_5, zl_6, zl_7, zl_8, zl_9, zl_10, zl_11, zl_12, zl_24, zl_31, zl_32, zl_33, zl_36, zl_48, zl_49, zl_54, zl_59, zl_60, zl_61, zl_97, zl_99, zl_102, zl_126, zl_180, zl_360, zl_376, zl_1880, zl_2256, zl_2903, z_add, z_sub, z_mul, z_neg, z_lt, z_le, z_eq, z_in]
    exact wB rfl (fun h => ih (p := p + 1) (by omega) (by omega) (by omega) k) (fun h => ih (p := p + 1) (by omega) (by omega) (by omega) k)
theorem X5_closed_ok {v : Nat → Int32} {A : Ab} (hR : RepM v A) (hW : Wf A) {post : Int32 → Prop} (k : post (zz (aCl A))) : wp_X5_closed v post := by
  refine ⟨7, ?_⟩
  simp (disch := omega) only [zl_0, zl_1, zl_2, zl_3, zl_4, zl_5, zl_6, zl_7, zl_8, zl_9, zl_10, zl_11, zl_12, zl_24, zl_31, zl_32, zl_33, zl_36, zl_48, zl_49, zl_54, zl_59, zl_60, zl_61, zl_97, zl_99, zl_102, zl_126, zl_180, zl_360, zl_376, zl_1880, zl_2256, zl_2903, z_add, z_sub, z_mul, z_neg, z_lt, z_le, z_eq, z_in]
  exact X5_closed_L_ok hR hW (n := 6) (p := 0) rfl rfl rfl k
theorem X5_all_L_ok {v : Nat → Int32} {A : Ab} (hR : RepM v A) (hW : Wf A) {K : Int32 → Prop} {n : Nat} : ∀ {p : Nat} {i j : Int}, i = (ps (aK A) p : Nat) → j = p → p + n = 6 → K (zz (ps (aK A) 6 : Nat)) → wp_X5_all_L4 v K (n + 1) (zz i) (zz j) := by
  induction n with
  | zero =>
    intro p i j hi hj hn k
    subst hi hj
    unfold wp_X5_all_L4
    simp (disch := omega) only [zl_0, zl_1, zl_2, zl_3, zl_4, zl_5, zl_6, zl_7, zl_8, zl_9, zl_10, zl_11, zl_12, zl_24, zl_31, zl_32, zl_33, zl_36, zl_48, zl_49, zl_54, zl_59, zl_60, zl_61, zl_97, zl_99, zl_102, zl_126, zl_180, zl_360, zl_376, zl_1880, zl_2256, zl_2903, z_add, z_sub, z_mul, z_neg, z_lt, z_le, z_eq, z_in]
    rw [show p = 6 by omega]
    exact wT (by omega) k
  | succ n ih =>
    intro p i j hi hj hn k
    subst hi hj
    have hs : ps (aK A) (p + 1) = ps (aK A) p + aK A p := rfl
    unfold wp_X5_all_L4
    simp (disch := omega) only [zl_0, zl_1, zl_2, zl_3, zl_4, zl_5, zl_6, zl_7, zl_8, zl_9, zl_10, zl_11, zl_12, zl_24, zl_31, zl_32, zl_33, zl_36, zl_48, zl_49, zl_54, zl_59, zl_60, zl_61, zl_97, zl_99, zl_102, zl_126, zl_180, zl_360, zl_376, zl_1880, zl_2256, zl_2903, z_add, z_sub, z_mul, z_neg, z_lt, z_le, z_eq, z_in]
    refine wF (by omega) ?_
    refine X5_pebbles_ok hR hW (by omega) rfl ?_
    simp (disch := omega) only [zl_0, zl_1, zl_2, zl_3, zl_4, zl_5, zl_6, zl_7, zl_8, zl_9, zl_10, zl_11, zl_12, zl_24, zl_31, zl_32, zl_33, zl_36, zl_48, zl_49, zl_54, zl_59, zl_60, zl_61, zl_97, zl_99, zl_102, zl_126, zl_180, zl_360, zl_376, zl_1880, zl_2256, zl_2903, z_add, z_sub, z_mul, z_neg, z_lt, z_le, z_eq, z_in]
    exact ih (p := p + 1) (by omega) (by omega) (by omega) k
theorem X5_all_ok {v : Nat → Int32} {A : Ab} (hR : RepM v A) (hW : Wf A) {post : Int32 → Prop} (k : post (zz (aAll A))) : wp_X5_all v post := by
  refine ⟨7, ?_⟩
  simp (disch := omega) only [zl_0, zl_1, zl_2, zl_3, zl_4, zl_5, zl_6, zl_7, zl_8, zl_9, zl_10, zl_11, zl_12, zl_24, zl_31, zl_32, zl_33, zl_36, zl_48, zl_49, zl_54, zl_59, zl_60, zl_61, zl_97, zl_99, zl_102, zl_126, zl_180, zl_360, zl_376, zl_1880, zl_2256, zl_2903, z_add, z_sub, z_mul, z_neg, z_lt, z_le, z_eq, z_in]
  exact X5_all_L_ok hR hW (n := 6) (p := 0) rfl rfl rfl k
theorem X5_fillsAll_L_ok {r : Nat} {K : (Nat → Int32) → Prop} {n : Nat} : ∀ {v : Nat → Int32} {A : Ab} {c : Nat} {j : Int}, RepM v A → Wf A → aR A = r → j = c → c + n = 6 → (∀ v1, RepM v1 (aFA r n A) → K v1) → wp_X5_fillsAll_L2 K (n + 1) (zz j) v := by
  induction n with
  | zero =>
    intro v A c j hR hW hr hj hn k
    subst hj
    unfold wp_X5_fillsAll_L2
    simp (disch := omega) only [zl_0, zl_1, zl_2, zl_3, zl_4, zl_5, zl_6, zl_7, zl_8, zl_9, zl_10, zl_11, zl_12, zl_24, zl_31, zl_32, zl_33, zl_36, zl_48, zl_49, zl_54, zl_59, zl_60, zl_61, zl_97, zl_99, zl_102, zl_126, zl_180, zl_360, zl_376, zl_1880, zl_2256, zl_2903, z_add, z_sub, z_mul, z_neg, z_lt, z_le, z_eq, z_in]
    exact wT (by omega) (k v hR)
  | succ n ih =>
    intro v A c j hR hW hr hj hn k
    subst hj
    unfold wp_X5_fillsAll_L2
    simp (disch := omega) only [zl_0, zl_1, zl_2, zl_3, zl_4, zl_5, zl_6, zl_7, zl_8, zl_9, zl_10, zl_11, zl_12, zl_24, zl_31, zl_32, zl_33, zl_36, zl_48, zl_49, zl_54, zl_59, zl_60, zl_61, zl_97, zl_99, zl_102, zl_126, zl_180, zl_360, zl_376, zl_1880, zl_2256, zl_2903, z_add, z_sub, z_mul, z_neg, z_lt, z_le, z_eq, z_in]
    refine wF (by omega) (X5_fills_ok hR hW (c := c) (by omega) rfl (fun v1 h1 => ?_))
    rw [hr] at h1
    refine ih h1 (hW.fills (by omega)) (by rw [aR_fills]; exact hr) (c := c + 1) (by omega) (by omega) (fun v2 h2 => k v2 ?_)
    have e : c = 5 - n := by omega
    subst e
    exact h2
theorem X5_fillsAll_ok {v : Nat → Int32} {A : Ab} (hR : RepM v A) (hW : Wf A) {post : Int32 → (Nat → Int32) → Prop} (k : ∀ v1, RepM v1 (aFA (aR A) 6 A) → post (zz (aCl (aFA (aR A) 6 A))) v1) : wp_X5_fillsAll v post := by
  refine ⟨7, ?_⟩
  simp (disch := omega) only [zl_0, zl_1, zl_2, zl_3, zl_4, zl_5, zl_6, zl_7, zl_8, zl_9, zl_10, zl_11, zl_12, zl_24, zl_31, zl_32, zl_33, zl_36, zl_48, zl_49, zl_54, zl_59, zl_60, zl_61, zl_97, zl_99, zl_102, zl_126, zl_180, zl_360, zl_376, zl_1880, zl_2256, zl_2903, z_add, z_sub, z_mul, z_neg, z_lt, z_le, z_eq, z_in]
  refine X5_fillsAll_L_ok hR hW rfl (n := 6) (c := 0) rfl rfl (fun v1 h1 => ?_)
  exact X5_closed_ok h1 hW.fa (k v1 h1)
theorem X5_joints_ok {v : Nat → Int32} {A : Ab} (hR : RepM v A) (hW : Wf A) {ip : Int} {c : Nat} (hc : c < 6) (hi : ip = c) {post : Int32 → Prop} (k : post (zz (aJn A c))) : wp_X5_joints v (zz ip) post := by
  unfold wp_X5_joints
  unfold aJn at k
  have h6 := aK_60 hW hc
  have h3 := hW.2.2.2.2.1 c hc
  refine X5_pebbles_ok hR hW hc hi ?_
  simp (disch := omega) only [zl_0, zl_1, zl_2, zl_3, zl_4, zl_5, zl_6, zl_7, zl_8, zl_9, zl_10, zl_11, zl_12, zl_24, zl_31, zl_32, zl_33, zl_36, zl_48, zl_49, zl_54, zl_59, zl_60, zl_61, zl_97, zl_99, zl_102, zl_126, zl_180, zl_360, zl_376, zl_1880, zl_2256, zl_2903, z_add, z_sub, z_mul, z_neg, z_lt, z_le, z_eq, z_in]
  refine wB rfl (fun h => ?_) (fun h => X5_isClosed_ok hR hW hc hi ?_)
  · rw [if_pos (by omega)] at k; exact k
  · unfold n01
    by_cases h4 : cel A c - tak A c = 0
    · rw [if_pos (by omega)] at k
      rw [if_pos h4]
      exact wF (by decide) k
    · rw [if_neg (by omega)] at k
      rw [if_neg h4]
      exact wT rfl k
theorem X5_meetingF_L_ok {v : Nat → Int32} {A : Ab} (hR : RepM v A) (hW : Wf A) {ip : Int} {c : Nat} (hc : c < 6) (hi : ip = c) (h0 : 1 ≤ c) {K : Int32 → Prop} {n : Nat} : ∀ {p : Nat} {i j : Int}, 1 ≤ p → i = (ps (fun p => n01 (0 < p ∧ aJ A c p = true ∧ 1 ≤ c ∧ aJ A (c - 1) (mts A c p) = true)) p : Nat) → j = p → p + n = cel A c → K (zz (ps (fun p => n01 (0 < p ∧ aJ A c p = true ∧ 1 ≤ c ∧ aJ A (c - 1) (mts A c p) = true)) (cel A c) : Nat)) → wp_X5_meeting_L5 v (zz ip) (zz 0) K (n + 1) (zz i) (zz j) := by
  subst hi
  have h2 := cel_r hW hc
  have h3 := hW.2.2.2.2.1 c hc
  have hq : ∀ k, (fun p => n01 (0 < p ∧ aJ A c p = true ∧ 1 ≤ c ∧ aJ A (c - 1) (mts A c p) = true)) k ≤ 1 := fun k => n01_le
  induction n with
  | zero =>
    intro p i j hl hi hj hn k
    subst hi hj
    unfold wp_X5_meeting_L5
    refine X5_cells_ok hR hW hc rfl ?_
    simp (disch := omega) only [zl_0, zl_1, zl_2, zl_3, zl_4, zl_5, zl_6, zl_7, zl_8, zl_9, zl_10, zl_11, zl_12, zl_24, zl_31, zl_32, zl_33, zl_36, zl_48, zl_49, zl_54, zl_59, zl_60, zl_61, zl_97, zl_99, zl_102, zl_126, zl_180, zl_360, zl_376, zl_1880, zl_2256, zl_2903, z_add, z_sub, z_mul, z_neg, z_lt, z_le, z_eq, z_in]
    rw [show p = cel A c by omega]
    exact wT (by omega) k
  | succ n ih =>
    intro p i j hl hi hj hn k
    subst hi hj
    have hp := ps_le (m := p) hq
    have hs : ps (fun p => n01 (0 < p ∧ aJ A c p = true ∧ 1 ≤ c ∧ aJ A (c - 1) (mts A c p) = true)) (p + 1) = ps (fun p => n01 (0 < p ∧ aJ A c p = true ∧ 1 ≤ c ∧ aJ A (c - 1) (mts A c p) = true)) p + (fun p => n01 (0 < p ∧ aJ A c p = true ∧ 1 ≤ c ∧ aJ A (c - 1) (mts A c p) = true)) p := rfl
    have no : (fun p => n01 (0 < p ∧ aJ A c p = true ∧ 1 ≤ c ∧ aJ A (c - 1) (mts A c p) = true)) p = 0 → wp_X5_meeting_L5 v (zz c) (zz 0) K (n + 1) (zz (ps (fun p => n01 (0 < p ∧ aJ A c p = true ∧ 1 ≤ c ∧ aJ A (c - 1) (mts A c p) = true)) p : Nat)) (zz (p + 1)) := fun h => ih (p := p + 1) (by omega) (by omega) (by omega) (by omega) k
    have no0 : (fun p => n01 (0 < p ∧ aJ A c p = true ∧ 1 ≤ c ∧ aJ A (c - 1) (mts A c p) = true)) p = 0 → wp_X5_meeting_L5 v (zz c) (zz 0) K (n + 1) (zz ((ps (fun p => n01 (0 < p ∧ aJ A c p = true ∧ 1 ≤ c ∧ aJ A (c - 1) (mts A c p) = true)) p : Nat) + 0)) (zz (p + 1)) := fun h => ih (p := p + 1) (by omega) (by omega) (by omega) (by omega) k
    have yes : (fun p => n01 (0 < p ∧ aJ A c p = true ∧ 1 ≤ c ∧ aJ A (c - 1) (mts A c p) = true)) p = 1 → wp_X5_meeting_L5 v (zz c) (zz 0) K (n + 1) (zz ((ps (fun p => n01 (0 < p ∧ aJ A c p = true ∧ 1 ≤ c ∧ aJ A (c - 1) (mts A c p) = true)) p : Nat) + 1)) (zz (p + 1)) := fun h => ih (p := p + 1) (by omega) (by omega) (by omega) (by omega) k
    clear ih k
    unfold wp_X5_meeting_L5
    refine X5_cells_ok hR hW hc rfl ?_
    simp (disch := omega) only [zl_0, zl_1, zl_2, zl_3, zl_4, zl_5, zl_6, zl_7, zl_8, zl_9, zl_10, zl_11, zl_12, zl_24, zl_31, zl_32, zl_33, zl_36, zl_48, zl_49, zl_54, zl_59, zl_60, zl_61, zl_97, zl_99, zl_102, zl_126, zl_180, zl_360, zl_376, zl_1880, zl_2256, zl_2903, z_add, z_sub, z_mul, z_neg, z_lt, z_le, z_eq, z_in]
    refine wF (by omega) (wF (by omega) (X5_isJoint_ok hR hW hc rfl rfl (by omega) ?_))
    cases hj : aJ A c p
    · exact wT rfl (no (if_neg (by rw [hj]; intro h; exact absurd h.2.1 (by decide))))
    · refine wF (by decide) ?_
      refine wT trivial (X5_meets_ok hR hW hc rfl h0 rfl (by omega) ?_)
      have h6 := mts_lt hW hc h0 (show p < cel A c by omega)
      have h7 := cel_r hW (show c - 1 < 6 by omega)
      refine X5_isJoint_ok hR hW (c := c - 1) (by omega) (by omega) rfl (by omega) ?_
      cases hj1 : aJ A (c - 1) (mts A c p)
      · exact wT rfl (no0 (if_neg (by rw [hj1]; intro h; exact absurd h.2.2.2 (by decide))))
      · exact wF (by decide) (yes (if_pos ⟨hl, hj, h0, hj1⟩))
theorem X5_meetingF_ok {v : Nat → Int32} {A : Ab} (hR : RepM v A) (hW : Wf A) {ip : Int} {c : Nat} (hc : c < 6) (hi : ip = c) {post : Int32 → Prop} (k : post (zz (aMe A c))) : wp_X5_meeting v (zz ip) (zz 0) post := by
  subst hi
  have h2 := cel_r hW hc
  by_cases h0 : 1 ≤ c
  · refine ⟨cel A c - 1 + 1, ?_⟩
    simp (disch := omega) only [zl_0, zl_1, zl_2, zl_3, zl_4, zl_5, zl_6, zl_7, zl_8, zl_9, zl_10, zl_11, zl_12, zl_24, zl_31, zl_32, zl_33, zl_36, zl_48, zl_49, zl_54, zl_59, zl_60, zl_61, zl_97, zl_99, zl_102, zl_126, zl_180, zl_360, zl_376, zl_1880, zl_2256, zl_2903, z_add, z_sub, z_mul, z_neg, z_lt, z_le, z_eq, z_in]
    exact X5_meetingF_L_ok hR hW hc rfl h0 (p := 1) (Nat.le_refl _) rfl rfl (by omega) k
  · refine ⟨1, ?_⟩
    unfold wp_X5_meeting_L5
    refine X5_cells_ok hR hW hc rfl ?_
    simp (disch := omega) only [zl_0, zl_1, zl_2, zl_3, zl_4, zl_5, zl_6, zl_7, zl_8, zl_9, zl_10, zl_11, zl_12, zl_24, zl_31, zl_32, zl_33, zl_36, zl_48, zl_49, zl_54, zl_59, zl_60, zl_61, zl_97, zl_99, zl_102, zl_126, zl_180, zl_360, zl_376, zl_1880, zl_2256, zl_2903, z_add, z_sub, z_mul, z_neg, z_lt, z_le, z_eq, z_in]
    refine wF (by omega) (wT (by omega) ?_)
    have e : aMe A c = 0 := ps_zero (fun p hp => if_neg (by
      intro h
      have := h.2.2
      exact h0 this.1))
    rw [e] at k
    exact k
theorem X5_meetingT_L_ok {v : Nat → Int32} {A : Ab} (hR : RepM v A) (hW : Wf A) {ip : Int} {c : Nat} (hc : c < 6) (hi : ip = c) (h0 : 1 ≤ c) {K : Int32 → Prop} {n : Nat} : ∀ {p : Nat} {i j : Int}, 1 ≤ p → i = (ps (fun p => n01 (0 < p ∧ aJ A c p = true ∧ aRun A c p = true)) p : Nat) → j = p → p + n = cel A c → K (zz (ps (fun p => n01 (0 < p ∧ aJ A c p = true ∧ aRun A c p = true)) (cel A c) : Nat)) → wp_X5_meeting_L5 v (zz ip) (zz 1) K (n + 1) (zz i) (zz j) := by
  subst hi
  have h2 := cel_r hW hc
  have h3 := hW.2.2.2.2.1 c hc
  have hq : ∀ k, (fun p => n01 (0 < p ∧ aJ A c p = true ∧ aRun A c p = true)) k ≤ 1 := fun k => n01_le
  induction n with
  | zero =>
    intro p i j hl hi hj hn k
    subst hi hj
    unfold wp_X5_meeting_L5
    refine X5_cells_ok hR hW hc rfl ?_
    simp (disch := omega) only [zl_0, zl_1, zl_2, zl_3, zl_4, zl_5, zl_6, zl_7, zl_8, zl_9, zl_10, zl_11, zl_12, zl_24, zl_31, zl_32, zl_33, zl_36, zl_48, zl_49, zl_54, zl_59, zl_60, zl_61, zl_97, zl_99, zl_102, zl_126, zl_180, zl_360, zl_376, zl_1880, zl_2256, zl_2903, z_add, z_sub, z_mul, z_neg, z_lt, z_le, z_eq, z_in]
    rw [show p = cel A c by omega]
    exact wT (by omega) k
  | succ n ih =>
    intro p i j hl hi hj hn k
    subst hi hj
    have hp := ps_le (m := p) hq
    have hs : ps (fun p => n01 (0 < p ∧ aJ A c p = true ∧ aRun A c p = true)) (p + 1) = ps (fun p => n01 (0 < p ∧ aJ A c p = true ∧ aRun A c p = true)) p + (fun p => n01 (0 < p ∧ aJ A c p = true ∧ aRun A c p = true)) p := rfl
    have no : (fun p => n01 (0 < p ∧ aJ A c p = true ∧ aRun A c p = true)) p = 0 → wp_X5_meeting_L5 v (zz c) (zz 1) K (n + 1) (zz (ps (fun p => n01 (0 < p ∧ aJ A c p = true ∧ aRun A c p = true)) p : Nat)) (zz (p + 1)) := fun h => ih (p := p + 1) (by omega) (by omega) (by omega) (by omega) k
    have no0 : (fun p => n01 (0 < p ∧ aJ A c p = true ∧ aRun A c p = true)) p = 0 → wp_X5_meeting_L5 v (zz c) (zz 1) K (n + 1) (zz ((ps (fun p => n01 (0 < p ∧ aJ A c p = true ∧ aRun A c p = true)) p : Nat) + 0)) (zz (p + 1)) := fun h => ih (p := p + 1) (by omega) (by omega) (by omega) (by omega) k
    have yes : (fun p => n01 (0 < p ∧ aJ A c p = true ∧ aRun A c p = true)) p = 1 → wp_X5_meeting_L5 v (zz c) (zz 1) K (n + 1) (zz ((ps (fun p => n01 (0 < p ∧ aJ A c p = true ∧ aRun A c p = true)) p : Nat) + 1)) (zz (p + 1)) := fun h => ih (p := p + 1) (by omega) (by omega) (by omega) (by omega) k
    clear ih k
    unfold wp_X5_meeting_L5
    refine X5_cells_ok hR hW hc rfl ?_
    simp (disch := omega) only [zl_0, zl_1, zl_2, zl_3, zl_4, zl_5, zl_6, zl_7, zl_8, zl_9, zl_10, zl_11, zl_12, zl_24, zl_31, zl_32, zl_33, zl_36, zl_48, zl_49, zl_54, zl_59, zl_60, zl_61, zl_97, zl_99, zl_102, zl_126, zl_180, zl_360, zl_376, zl_1880, zl_2256, zl_2903, z_add, z_sub, z_mul, z_neg, z_lt, z_le, z_eq, z_in]
    refine wF (by omega) (wF (by omega) (X5_isJoint_ok hR hW hc rfl rfl (by omega) ?_))
    cases hj : aJ A c p
    · exact wT rfl (no (if_neg (by rw [hj]; intro h; exact absurd h.2.1 (by decide))))
    · refine wF (by decide) ?_
      refine wF (by decide) (X5_runs_ok hR hW hc rfl rfl (by omega) ?_)
      cases hj1 : aRun A c p
      · exact wT rfl (no0 (if_neg (by rw [hj1]; intro h; exact absurd h.2.2 (by decide))))
      · exact wF (by decide) (yes (if_pos ⟨hl, hj, hj1⟩))
theorem X5_meetingT_ok {v : Nat → Int32} {A : Ab} (hR : RepM v A) (hW : Wf A) {ip : Int} {c : Nat} (hc : c < 6) (hi : ip = c) {post : Int32 → Prop} (k : post (zz (aTh A c))) : wp_X5_meeting v (zz ip) (zz 1) post := by
  subst hi
  have h2 := cel_r hW hc
  by_cases h0 : 1 ≤ c
  · refine ⟨cel A c - 1 + 1, ?_⟩
    simp (disch := omega) only [zl_0, zl_1, zl_2, zl_3, zl_4, zl_5, zl_6, zl_7, zl_8, zl_9, zl_10, zl_11, zl_12, zl_24, zl_31, zl_32, zl_33, zl_36, zl_48, zl_49, zl_54, zl_59, zl_60, zl_61, zl_97, zl_99, zl_102, zl_126, zl_180, zl_360, zl_376, zl_1880, zl_2256, zl_2903, z_add, z_sub, z_mul, z_neg, z_lt, z_le, z_eq, z_in]
    exact X5_meetingT_L_ok hR hW hc rfl h0 (p := 1) (Nat.le_refl _) rfl rfl (by omega) k
  · refine ⟨1, ?_⟩
    unfold wp_X5_meeting_L5
    refine X5_cells_ok hR hW hc rfl ?_
    simp (disch := omega) only [zl_0, zl_1, zl_2, zl_3, zl_4, zl_5, zl_6, zl_7, zl_8, zl_9, zl_10, zl_11, zl_12, zl_24, zl_31, zl_32, zl_33, zl_36, zl_48, zl_49, zl_54, zl_59, zl_60, zl_61, zl_97, zl_99, zl_102, zl_126, zl_180, zl_360, zl_376, zl_1880, zl_2256, zl_2903, z_add, z_sub, z_mul, z_neg, z_lt, z_le, z_eq, z_in]
    refine wF (by omega) (wT (by omega) ?_)
    have e : aTh A c = 0 := ps_zero (fun p hp => if_neg (by
      intro h
      have := h.2.2
      unfold aRun at this; simp at this; omega))
    rw [e] at k
    exact k
theorem X5_fillers_L_ok {vd : Md} {A : Ab} (hR : RepM vd.1 A) (hW : Wf A) {ip : Int} {c : Nat} (hc : c < 6) (hi : ip = c) {K : Int32 → Prop} {n : Nat} : ∀ {p : Nat} {i j : Int}, i = (ps (fun k => n01 (aF A c k = true)) p : Nat) → j = p → p + n = aK A c → K (zz (aFn A c)) → wp_X5_fillers_L4 vd (zz ip) K (n + 1) (zz i) (zz j) := by
  subst hi
  have h6 := aK_60 hW hc
  induction n with
  | zero =>
    intro p i j hi hj hn k
    subst hi hj
    unfold wp_X5_fillers_L4
    refine X5_pebbles_ok hR hW hc rfl ?_
    simp (disch := omega) only [zl_0, zl_1, zl_2, zl_3, zl_4, zl_5, zl_6, zl_7, zl_8, zl_9, zl_10, zl_11, zl_12, zl_24, zl_31, zl_32, zl_33, zl_36, zl_48, zl_49, zl_54, zl_59, zl_60, zl_61, zl_97, zl_99, zl_102, zl_126, zl_180, zl_360, zl_376, zl_1880, zl_2256, zl_2903, z_add, z_sub, z_mul, z_neg, z_lt, z_le, z_eq, z_in]
    rw [show p = aK A c by omega]
    exact wT (by omega) k
  | succ n ih =>
    intro p i j hi hj hn k
    subst hi hj
    have hs : ps (fun k => n01 (aF A c k = true)) (p + 1) = ps (fun k => n01 (aF A c k = true)) p + n01 (aF A c p = true) := rfl
    have hp := hR.en (i := 10 + 61 * (c : Int) + 1 + p) (c := c) (k := p) (by omega) (by omega)
    have he := enc_r hW hc (show p < aK A c by omega)
    unfold wp_X5_fillers_L4
    refine X5_pebbles_ok hR hW hc rfl ?_
    simp (disch := omega) only [zl_0, zl_1, zl_2, zl_3, zl_4, zl_5, zl_6, zl_7, zl_8, zl_9, zl_10, zl_11, zl_12, zl_24, zl_31, zl_32, zl_33, zl_36, zl_48, zl_49, zl_54, zl_59, zl_60, zl_61, zl_97, zl_99, zl_102, zl_126, zl_180, zl_360, zl_376, zl_1880, zl_2256, zl_2903, z_add, z_sub, z_mul, z_neg, z_lt, z_le, z_eq, z_in, hp, z_div]
    refine wF (by omega) ⟨by omega, ih (p := p + 1) ?_ (by omega) (by omega) k⟩
    rw [hs]
    omega
theorem X5_fillers_ok {vd : Md} {A : Ab} (hR : RepM vd.1 A) (hW : Wf A) {ip : Int} {c : Nat} (hc : c < 6) (hi : ip = c) {post : Int32 → Prop} (k : post (zz (aFn A c))) : wp_X5_fillers vd (zz ip) post := by
  refine ⟨aK A c + 1, ?_⟩
  simp (disch := omega) only [zl_0, zl_1, zl_2, zl_3, zl_4, zl_5, zl_6, zl_7, zl_8, zl_9, zl_10, zl_11, zl_12, zl_24, zl_31, zl_32, zl_33, zl_36, zl_48, zl_49, zl_54, zl_59, zl_60, zl_61, zl_97, zl_99, zl_102, zl_126, zl_180, zl_360, zl_376, zl_1880, zl_2256, zl_2903, z_add, z_sub, z_mul, z_neg, z_lt, z_le, z_eq, z_in]
  exact X5_fillers_L_ok hR hW hc hi (p := 0) rfl rfl (by omega) k
theorem X5_ofCourse_ok {vd : Md} {A : Ab} (hR : RepM vd.1 A) (hW : Wf A) {ip : Int} {c : Nat} (hc : c < 6) (hi : ip = c) {jp : Int} {t : Nat} (ht : t ≤ 6) (hj : jp = t) {post : Int32 → Prop} (k : post (zz (aProp A c t))) : wp_X5_ofCourse vd (zz ip) (zz jp) post := by
  subst hj
  unfold aProp at k
  unfold wp_X5_ofCourse
  have h2 := cel_r hW hc
  have h3 := hW.2.2.2.2.1 c hc
  simp (disch := omega) only [zl_0, zl_1, zl_2, zl_3, zl_4, zl_5, zl_6, zl_7, zl_8, zl_9, zl_10, zl_11, zl_12, zl_24, zl_31, zl_32, zl_33, zl_36, zl_48, zl_49, zl_54, zl_59, zl_60, zl_61, zl_97, zl_99, zl_102, zl_126, zl_180, zl_360, zl_376, zl_1880, zl_2256, zl_2903, z_add, z_sub, z_mul, z_neg, z_lt, z_le, z_eq, z_in]
  refine wB rfl (fun h => wB rfl (fun h1 => ?_) (fun h1 => wB rfl (fun h4 => ?_) (fun h4 => ?_))) (fun h => wB rfl (fun h1 => ?_) (fun h1 => wB rfl (fun h4 => ?_) (fun h4 => wB rfl (fun h5 => ?_) (fun h5 => ?_))))
  · rw [if_neg (by omega), if_neg (by omega), if_neg (by omega), if_neg (by omega), if_pos (by omega)] at k
    exact X5_joints_ok hR hW hc hi k
  · rw [if_neg (by omega), if_neg (by omega), if_neg (by omega), if_neg (by omega), if_neg (by omega), if_pos (by omega)] at k
    exact X5_meetingF_ok hR hW hc hi k
  · rw [if_neg (by omega), if_neg (by omega), if_neg (by omega), if_neg (by omega), if_neg (by omega), if_neg (by omega)] at k
    exact X5_fillers_ok hR hW hc hi k
  · rw [if_pos (by omega)] at k
    exact X5_cells_ok hR hW hc hi k
  · rw [if_neg (by omega), if_pos (by omega)] at k
    exact X5_pebbles_ok hR hW hc hi k
  · rw [if_neg (by omega), if_neg (by omega), if_pos (by omega)] at k
    refine X5_cells_ok hR hW hc hi (X5_taken_ok hR hW hc hi ?_)
    rw [z_sub, show (cel A c : Int) - tak A c = ((cel A c - tak A c : Nat) : Int) by omega]
    exact k
  · rw [if_neg (by omega), if_neg (by omega), if_neg (by omega), if_pos (by omega)] at k
    refine X5_isClosed_ok hR hW hc hi ?_
    unfold n01 at k ⊢
    by_cases h6 : cel A c - tak A c = 0
    · rw [if_pos h6] at k ⊢; exact wF (by decide) k
    · rw [if_neg h6] at k ⊢; exact wT rfl k
theorem X5_pebbleAt_L_ok {vd : Md} {A : Ab} (hR : RepM vd.1 A) (hW : Wf A) {ip : Int} {c : Nat} (hc : c < 6) (hi : ip = c) {jp : Int} {p : Nat} (hp : jp = p) (hp1 : p < 100000) {K : Int32 → Prop} {Z : Prop} (kK : ∀ k, k < aK A c → aAt (aZ A c) (aK A c) p = (aZ A c k : Int) → K (zz k)) (kZ : aAt (aZ A c) (aK A c) p = -1 → Z) {n : Nat} : ∀ {k : Nat} {i j : Int}, i = (ps (aZ A c) k : Nat) → j = k → k + n = aK A c → ps (aZ A c) k ≤ p → wp_X5_pebbleAt_L5 vd (zz ip) (zz jp) K Z (n + 1) (zz i) (zz j) := by
  subst hi hp
  have h6 := aK_60 hW hc
  have h2 := cel_r hW hc
  have h3 := hW.2.2.2.2.1 c hc
  induction n with
  | zero =>
    intro k i j hi hj hn hq
    subst hi hj
    unfold wp_X5_pebbleAt_L5
    refine X5_pebbles_ok hR hW hc rfl ?_
    simp (disch := omega) only [zl_0, zl_1, zl_2, zl_3, zl_4, zl_5, zl_6, zl_7, zl_8, zl_9, zl_10, zl_11, zl_12, zl_24, zl_31, zl_32, zl_33, zl_36, zl_48, zl_49, zl_54, zl_59, zl_60, zl_61, zl_97, zl_99, zl_102, zl_126, zl_180, zl_360, zl_376, zl_1880, zl_2256, zl_2903, z_add, z_sub, z_mul, z_neg, z_lt, z_le, z_eq, z_in]
    have e : k = aK A c := by omega
    subst e
    exact wT (by omega) (kZ (aAt_no hq))
  | succ n ih =>
    intro k i j hi hj hn hq
    subst hi hj
    have hs : ps (aZ A c) (k + 1) = ps (aZ A c) k + aZ A c k := rfl
    have ht : ps (aZ A c) k ≤ tak A c := ps_mono (by omega)
    have hz := hW.2.2.2.2.2 c k hc (by omega)
    unfold wp_X5_pebbleAt_L5
    refine X5_pebbles_ok hR hW hc rfl ?_
    simp (disch := omega) only [zl_0, zl_1, zl_2, zl_3, zl_4, zl_5, zl_6, zl_7, zl_8, zl_9, zl_10, zl_11, zl_12, zl_24, zl_31, zl_32, zl_33, zl_36, zl_48, zl_49, zl_54, zl_59, zl_60, zl_61, zl_97, zl_99, zl_102, zl_126, zl_180, zl_360, zl_376, zl_1880, zl_2256, zl_2903, z_add, z_sub, z_mul, z_neg, z_lt, z_le, z_eq, z_in]
    refine wF (by omega) (X5_sizeOf_ok hR hW hc rfl rfl (by omega) ?_)
    simp (disch := omega) only [zl_0, zl_1, zl_2, zl_3, zl_4, zl_5, zl_6, zl_7, zl_8, zl_9, zl_10, zl_11, zl_12, zl_24, zl_31, zl_32, zl_33, zl_36, zl_48, zl_49, zl_54, zl_59, zl_60, zl_61, zl_97, zl_99, zl_102, zl_126, zl_180, zl_360, zl_376, zl_1880, zl_2256, zl_2903, z_add, z_sub, z_mul, z_neg, z_lt, z_le, z_eq, z_in]
    refine wB rfl (fun h => ih (k := k + 1) (by omega) (by omega) (by omega) (by omega)) (fun h => kK k (by omega) (aAt_of (by omega) hq (by omega)))
theorem X5_pebbleAt_ok {vd : Md} {A : Ab} (hR : RepM vd.1 A) (hW : Wf A) {ip : Int} {c : Nat} (hc : c < 6) (hi : ip = c) {jp : Int} {p : Nat} (hp : jp = p) (hp1 : p < 100000) {post : Int32 → Prop} (k : post (zz (aAt (aZ A c) (aK A c) p))) : wp_X5_pebbleAt vd (zz ip) (zz jp) post := by
  refine ⟨aK A c + 1, ?_⟩
  simp (disch := omega) only [zl_0, zl_1, zl_2, zl_3, zl_4, zl_5, zl_6, zl_7, zl_8, zl_9, zl_10, zl_11, zl_12, zl_24, zl_31, zl_32, zl_33, zl_36, zl_48, zl_49, zl_54, zl_59, zl_60, zl_61, zl_97, zl_99, zl_102, zl_126, zl_180, zl_360, zl_376, zl_1880, zl_2256, zl_2903, z_add, z_sub, z_mul, z_neg, z_lt, z_le, z_eq, z_in]
  refine X5_pebbleAt_L_ok hR hW hc hi hp hp1 (fun q hq e => X5_sizeOf_ok hR hW hc hi rfl hq ?_) (fun e => ?_) (k := 0) rfl rfl (by omega) (Nat.zero_le _)
  · rw [e] at k; exact k
  · rw [e] at k; exact k
def aSm (A : Ab) (t k : Nat) : Nat := if t = 2 then aJn A k else if t = 3 then aTh A k else if t = 4 then aFn A k else (k + 1) * aS A (k + 1)
def aCnt (A : Ab) (h t : Nat) : Int32 := if t = 0 then zz (aAll A) else if t = 1 then zz (aCl A) else if t = 5 then aW A else if t = 7 then zz h else zz (ps (aSm A t) 6)
theorem X5_counted_L_ok {vd : Md} {A : Ab} (hR : RepM vd.1 A) (hW : Wf A) {t : Nat} {jt : Int} (hjt : jt = t) (ht : t = 2 ∨ t = 3 ∨ t = 4 ∨ t = 6) {K : Int32 → Prop} {n : Nat} : ∀ {p : Nat} {i j : Int}, i = (ps (aSm A t) p : Nat) → j = p → p + n = 6 → K (zz (ps (aSm A t) 6 : Nat)) → wp_X5_counted_L65 vd (zz jt) K (n + 1) (zz i) (zz j) := by
  subst hjt
  induction n with
  | zero =>
    intro p i j hi hj hn k
    subst hi hj
    unfold wp_X5_counted_L65
    simp (disch := omega) only [zl_0, zl_1, zl_2, zl_3, zl_4, zl_5, zl_6, zl_7, zl_8, zl_9, zl_10, zl_11, zl_12, zl_24, zl_31, zl_32, zl_33, zl_36, zl_48, zl_49, zl_54, zl_59, zl_60, zl_61, zl_97, zl_99, zl_102, zl_126, zl_180, zl_360, zl_376, zl_1880, zl_2256, zl_2903, z_add, z_sub, z_mul, z_neg, z_lt, z_le, z_eq, z_in]
    rw [show p = 6 by omega]
    exact wT (by omega) k
  | succ n ih =>
    intro p i j hi hj hn k
    subst hi hj
    have hs : ps (aSm A t) (p + 1) = ps (aSm A t) p + aSm A t p := rfl
    have step : ∀ x : Int, x = aSm A t p → wp_X5_counted_c130 (zz p) (wp_X5_counted_L65 vd (zz t) K (n + 1)) (zz x) (zz (ps (aSm A t) p : Nat)) := fun x hx => by
      unfold wp_X5_counted_c130
      simp (disch := omega) only [zl_0, zl_1, zl_2, zl_3, zl_4, zl_5, zl_6, zl_7, zl_8, zl_9, zl_10, zl_11, zl_12, zl_24, zl_31, zl_32, zl_33, zl_36, zl_48, zl_49, zl_54, zl_59, zl_60, zl_61, zl_97, zl_99, zl_102, zl_126, zl_180, zl_360, zl_376, zl_1880, zl_2256, zl_2903, z_add, z_sub, z_mul, z_neg, z_lt, z_le, z_eq, z_in]
      exact ih (p := p + 1) (by omega) (by omega) (by omega) k
    unfold aSm at step
    unfold wp_X5_counted_L65
    have hst := hR.st (i := 4 + (p : Int)) (s := p + 1) (by omega)
    simp (disch := omega) only [zl_0, zl_1, zl_2, zl_3, zl_4, zl_5, zl_6, zl_7, zl_8, zl_9, zl_10, zl_11, zl_12, zl_24, zl_31, zl_32, zl_33, zl_36, zl_48, zl_49, zl_54, zl_59, zl_60, zl_61, zl_97, zl_99, zl_102, zl_126, zl_180, zl_360, zl_376, zl_1880, zl_2256, zl_2903, z_add, z_sub, z_mul, z_neg, z_lt, z_le, z_eq, z_in, hst]
    refine wF (by omega) (wB rfl (fun h => X5_joints_ok hR hW (by omega) rfl (step _ (by rw [if_pos (by omega)]))) (fun h => wB rfl (fun h1 => X5_meetingT_ok hR hW (by omega) rfl (step _ (by rw [if_neg (by omega), if_pos (by omega)]))) (fun h1 => wB rfl (fun h2 => X5_fillers_ok hR hW (by omega) rfl (step _ (by rw [if_neg (by omega), if_neg (by omega), if_pos (by omega)]))) (fun h2 => ⟨by omega, step _ ?_⟩))))
    rw [if_neg (by omega), if_neg (by omega), if_neg (by omega), Int.natCast_mul]
    rfl
theorem X5_counted_ok {vd : Md} {A : Ab} (hR : RepM vd.1 A) (hW : Wf A) {h t : Nat} (hk : vd.2.2.2.2.2.2.1 = zz h) {jt : Int} (hjt : jt = t) (ht : t ≤ 7) {post : Int32 → Prop} (k : post (aCnt A h t)) : wp_X5_counted vd (zz jt) post := by
  subst hjt
  unfold aCnt at k
  unfold wp_X5_counted
  simp (disch := omega) only [zl_0, zl_1, zl_2, zl_3, zl_4, zl_5, zl_6, zl_7, zl_8, zl_9, zl_10, zl_11, zl_12, zl_24, zl_31, zl_32, zl_33, zl_36, zl_48, zl_49, zl_54, zl_59, zl_60, zl_61, zl_97, zl_99, zl_102, zl_126, zl_180, zl_360, zl_376, zl_1880, zl_2256, zl_2903, z_add, z_sub, z_mul, z_neg, z_lt, z_le, z_eq, z_in]
  refine wB rfl (fun h1 => wB rfl (fun h2 => ?_) (fun h2 => absurd h1 h2)) (fun h1 => wB rfl (fun h2 => wB rfl (fun h3 => absurd h3 h1) (fun h3 => ?_)) (fun h2 => wB rfl (fun h3 => wB rfl (fun h4 => ?_) (fun h4 => absurd h3 h4)) (fun h3 => wB rfl (fun h4 => wB rfl (fun h5 => absurd h5 h3) (fun h5 => ?_)) (fun h4 => ⟨7, ?_⟩))))
  · rw [if_pos (by omega)] at k; exact X5_all_ok hR hW k
  · rw [if_neg (by omega), if_pos (by omega)] at k; exact X5_closed_ok hR hW k
  · rw [if_neg (by omega), if_neg (by omega), if_pos (by omega)] at k
    show post (vd.1 3)
    rw [hR.2.2.2.1]; exact k
  · rw [if_neg (by omega), if_neg (by omega), if_neg (by omega), if_pos (by omega)] at k
    rw [hk]; exact k
  · rw [if_neg (by omega), if_neg (by omega), if_neg (by omega), if_neg (by omega)] at k
    exact X5_counted_L_ok hR hW rfl (by omega) (n := 6) (p := 0) rfl rfl rfl k
