/-! The reference: the same state in one row of numbers. -/
def enc (A : Ab) (c k : Nat) : Nat := aZ A c k + 10 * n01 (aF A c k = true)
def RepM (v : Nat → Int32) (A : Ab) : Prop := v 0 = zz (aN A) ∧ v 1 = zz (aR A) ∧ v 2 = zz (aC A) ∧ v 3 = aW A ∧ (∀ s, 1 ≤ s → s ≤ 6 → v (3 + s) = zz (aS A s)) ∧ (∀ c, c < 6 → v (10 + 61 * c) = zz (aK A c)) ∧ (∀ c k, c < 6 → k < aK A c → v (10 + 61 * c + 1 + k) = zz (enc A c k))
theorem RepM.cl {v : Nat → Int32} {A : Ab} (h : RepM v A) : v (zz 0).toNatClampNeg = zz (aN A) := h.1
theorem RepM.ru {v : Nat → Int32} {A : Ab} (h : RepM v A) : v (zz 1).toNatClampNeg = zz (aR A) := h.2.1
theorem RepM.cu {v : Nat → Int32} {A : Ab} (h : RepM v A) : v (zz 2).toNatClampNeg = zz (aC A) := h.2.2.1
theorem RepM.st {v : Nat → Int32} {A : Ab} (h : RepM v A) {i : Int} {s : Nat} (hi : i = 3 + s ∧ 1 ≤ s ∧ s ≤ 6) : v (zz i).toNatClampNeg = zz (aS A s) := by
  have e : i.toNat = 3 + s := by omega
  rw [z_nat (by omega), e]
  exact h.2.2.2.2.1 s hi.2.1 hi.2.2
theorem RepM.pk {v : Nat → Int32} {A : Ab} (h : RepM v A) {i : Int} {c : Nat} (hi : i = 10 + 61 * c ∧ c < 6) : v (zz i).toNatClampNeg = zz (aK A c) := by
  have e : i.toNat = 10 + 61 * c := by omega
  rw [z_nat (by omega), e]
  exact h.2.2.2.2.2.1 c hi.2
theorem RepM.en {v : Nat → Int32} {A : Ab} (h : RepM v A) {i : Int} {c k : Nat} (hi : i = 10 + 61 * c + 1 + k ∧ c < 6 ∧ k < 60) (hk : k < aK A c) : v (zz i).toNatClampNeg = zz (enc A c k) := by
  have e : i.toNat = 10 + 61 * c + 1 + k := by omega
  rw [z_nat (by omega), e]
  exact h.2.2.2.2.2.2 c k hi.2.1 hk
theorem aK_60 {A : Ab} (hW : Wf A) {c : Nat} (hc : c < 6) : aK A c ≤ 60 := by
  have h1 := aK_le hW hc
  have h2 := hW.2.2.2.2.1 c hc
  have h3 := cel_r hW hc
  omega
theorem enc_r {A : Ab} (hW : Wf A) {c k : Nat} (hc : c < 6) (hk : k < aK A c) : enc A c k ≤ 16 ∧ enc A c k / 10 = n01 (aF A c k = true) ∧ enc A c k % 10 = aZ A c k := by
  have h1 := hW.2.2.2.2.2 c k hc hk
  have h2 : n01 (aF A c k = true) ≤ 1 := n01_le
  unfold enc
  omega
theorem X5_cells_ok {v : Nat → Int32} {A : Ab} (hR : RepM v A) (hW : Wf A) {ip : Int} {c : Nat} (hc : c < 6) (hi : ip = c) {post : Int32 → Prop} (k : post (zz (cel A c))) : wp_X5_cells v (zz ip) post := by
  subst hi
  unfold wp_X5_cells
  have h2 := cel_r hW hc
  have h1 := hW.1
  simp (disch := omega) only [zl_0, zl_1, zl_2, zl_3, zl_4, zl_5, zl_6, zl_7, zl_8, zl_9, zl_10, zl_11, zl_12, zl_24, zl_31, zl_32, zl_33, zl_36, zl_48, zl_49, zl_54, zl_59, zl_60, zl_61, zl_97, zl_99, zl_102, zl_126, zl_180, zl_360, zl_376, zl_1880, zl_2256, zl_2903, z_add, z_sub, z_mul, z_neg, z_lt, z_le, z_eq, z_in, hR.cl]
  rw [show (aN A : Int) - 4 * c = (cel A c : Nat) by omega]
  exact k
theorem X5_pebbles_ok {v : Nat → Int32} {A : Ab} (hR : RepM v A) (hW : Wf A) {ip : Int} {c : Nat} (hc : c < 6) (hi : ip = c) {post : Int32 → Prop} (k : post (zz (aK A c))) : wp_X5_pebbles v (zz ip) post := by
  subst hi
  unfold wp_X5_pebbles
  have hp := hR.pk (i := 10 + 61 * (c : Int)) (c := c) (by omega)
  simp (disch := omega) only [zl_0, zl_1, zl_2, zl_3, zl_4, zl_5, zl_6, zl_7, zl_8, zl_9, zl_10, zl_11, zl_12, zl_24, zl_31, zl_32, zl_33, zl_36, zl_48, zl_49, zl_54, zl_59, zl_60, zl_61, zl_97, zl_99, zl_102, zl_126, zl_180, zl_360, zl_376, zl_1880, zl_2256, zl_2903, z_add, z_sub, z_mul, z_neg, z_lt, z_le, z_eq, z_in, hp]
  exact ⟨by omega, k⟩
theorem X5_sizeOf_ok {v : Nat → Int32} {A : Ab} (hR : RepM v A) (hW : Wf A) {ip : Int} {c : Nat} (hc : c < 6) (hi : ip = c) {jp : Int} {k : Nat} (hj : jp = k) (hk : k < aK A c) {post : Int32 → Prop} (kk : post (zz (aZ A c k))) : wp_X5_sizeOf v (zz ip) (zz jp) post := by
  subst hi hj
  unfold wp_X5_sizeOf
  have h6 := aK_60 hW hc
  have hp := hR.en (i := 10 + 61 * (c : Int) + 1 + k) (c := c) (k := k) (by omega) hk
  have he := enc_r hW hc hk
  simp (disch := omega) only [zl_0, zl_1, zl_2, zl_3, zl_4, zl_5, zl_6, zl_7, zl_8, zl_9, zl_10, zl_11, zl_12, zl_24, zl_31, zl_32, zl_33, zl_36, zl_48, zl_49, zl_54, zl_59, zl_60, zl_61, zl_97, zl_99, zl_102, zl_126, zl_180, zl_360, zl_376, zl_1880, zl_2256, zl_2903, z_add, z_sub, z_mul, z_neg, z_lt, z_le, z_eq, z_in, hp, z_div]
  rw [show (enc A c k : Int) - enc A c k / 10 * 10 = (aZ A c k : Nat) by omega]
  exact ⟨by omega, kk⟩
theorem X5_taken_L_ok {v : Nat → Int32} {A : Ab} (hR : RepM v A) (hW : Wf A) {ip : Int} {c : Nat} (hc : c < 6) (hi : ip = c) {K : Int32 → Prop} {n : Nat} : ∀ {k : Nat} {i j : Int}, i = (ps (aZ A c) k : Nat) → j = k → k + n = aK A c → K (zz (tak A c)) → wp_X5_taken_L4 v (zz ip) K (n + 1) (zz i) (zz j) := by
  subst hi
  have h6 := aK_60 hW hc
  induction n with
  | zero =>
    intro k i j hi hj hn kk
    subst hi hj
    unfold wp_X5_taken_L4
    refine X5_pebbles_ok hR hW hc rfl ?_
    simp (disch := omega) only [zl_0, zl_1, zl_2, zl_3, zl_4, zl_5, zl_6, zl_7, zl_8, zl_9, zl_10, zl_11, zl_12, zl_24, zl_31, zl_32, zl_33, zl_36, zl_48, zl_49, zl_54, zl_59, zl_60, zl_61, zl_97, zl_99, zl_102, zl_126, zl_180, zl_360, zl_376, zl_1880, zl_2256, zl_2903, z_add, z_sub, z_mul, z_neg, z_lt, z_le, z_eq, z_in]
    rw [show k = aK A c by omega]
    exact wT (by omega) kk
  | succ n ih =>
    intro k i j hi hj hn kk
    subst hi hj
    have hs : ps (aZ A c) (k + 1) = ps (aZ A c) k + aZ A c k := rfl
    unfold wp_X5_taken_L4
    refine X5_pebbles_ok hR hW hc rfl ?_
    simp (disch := omega) only [zl_0, zl_1, zl_2, zl_3, zl_4, zl_5, zl_6, zl_7, zl_8, zl_9, zl_10, zl_11, zl_12, zl_24, zl_31, zl_32, zl_33, zl_36, zl_48, zl_49, zl_54, zl_59, zl_60, zl_61, zl_97, zl_99, zl_102, zl_126, zl_180, zl_360, zl_376, zl_1880, zl_2256, zl_2903, z_add, z_sub, z_mul, z_neg, z_lt, z_le, z_eq, z_in]
    refine wF (by omega) (X5_sizeOf_ok hR hW hc rfl rfl (by omega) ?_)
    simp (disch := omega) only [zl_0, zl_1, zl_2, zl_3, zl_4, zl_5, zl_6, zl_7, zl_8, zl_9, zl_10, zl_11, zl_12, zl_24, zl_31, zl_32, zl_33, zl_36, zl_48, zl_49, zl_54, zl_59, zl_60, zl_61, zl_97, zl_99, zl_102, zl_126, zl_180, zl_360, zl_376, zl_1880, zl_2256, zl_2903, z_add, z_sub, z_mul, z_neg, z_lt, z_le, z_eq, z_in]
    exact ih (k := k + 1) (by omega) (by omega) (by omega) kk
theorem X5_taken_ok {v : Nat → Int32} {A : Ab} (hR : RepM v A) (hW : Wf A) {ip : Int} {c : Nat} (hc : c < 6) (hi : ip = c) {post : Int32 → Prop} (k : post (zz (tak A c))) : wp_X5_taken v (zz ip) post := by
  refine ⟨aK A c + 1, ?_⟩
  simp (disch := omega) only [zl_0, zl_1, zl_2, zl_3, zl_4, zl_5, zl_6, zl_7, zl_8, zl_9, zl_10, zl_11, zl_12, zl_24, zl_31, zl_32, zl_33, zl_36, zl_48, zl_49, zl_54, zl_59, zl_60, zl_61, zl_97, zl_99, zl_102, zl_126, zl_180, zl_360, zl_376, zl_1880, zl_2256, zl_2903, z_add, z_sub, z_mul, z_neg, z_lt, z_le, z_eq, z_in]
  exact X5_taken_L_ok hR hW hc hi (k := 0) rfl rfl (by omega) k
theorem X5_isClosed_ok {v : Nat → Int32} {A : Ab} (hR : RepM v A) (hW : Wf A) {ip : Int} {c : Nat} (hc : c < 6) (hi : ip = c) {post : Int32 → Prop} (k : post (zz (n01 (cel A c - tak A c = 0)))) : wp_X5_isClosed v (zz ip) post := by
  unfold wp_X5_isClosed
  have h2 := cel_r hW hc
  have h3 := hW.2.2.2.2.1 c hc
  refine X5_taken_ok hR hW hc hi (X5_cells_ok hR hW hc hi ?_)
  unfold n01 at k
  simp (disch := omega) only [zl_0, zl_1, zl_2, zl_3, zl_4, zl_5, zl_6, zl_7, zl_8, zl_9, zl_10, zl_11, zl_12, zl_24, zl_31, zl_32, zl_33, zl_36, zl_48, zl_49, zl_54, zl_59, zl_60, zl_61, zl_97, zl_99, zl_102, zl_126, zl_180, zl_360, zl_376, zl_1880, zl_2256, zl_2903, z_add, z_sub, z_mul, z_neg, z_lt, z_le, z_eq, z_in]
  refine wB rfl (fun h => ?_) (fun h => ?_)
  · rw [if_pos (by omega)] at k; exact k
  · rw [if_neg (by omega)] at k; exact k
theorem X5_isJoint_L_ok {v : Nat → Int32} {A : Ab} (hR : RepM v A) (hW : Wf A) {ip : Int} {c : Nat} (hc : c < 6) (hi : ip = c) {jp : Int} {p : Nat} (hp : jp = p) (hp1 : p < 100000) {T : Prop} {K : Int32 → Prop} (kT : isJ (aZ A c) (aK A c) p = true → T) (kK : isJ (aZ A c) (aK A c) p = false → K (zz (tak A c))) {n : Nat} : ∀ {k : Nat} {i j : Int}, i = (ps (aZ A c) k : Nat) → j = k → k + n = aK A c → (∀ q, q < k → ps (aZ A c) q ≠ p) → wp_X5_isJoint_L5 v (zz ip) (zz jp) T K (n + 1) (zz i) (zz j) := by
  subst hi hp
  have h6 := aK_60 hW hc
  have h2 := cel_r hW hc
  have h3 := hW.2.2.2.2.1 c hc
  induction n with
  | zero =>
    intro k i j hi hj hn hq
    subst hi hj
    unfold wp_X5_isJoint_L5
    refine X5_pebbles_ok hR hW hc rfl ?_
    simp (disch := omega) only [zl_0, zl_1, zl_2, zl_3, zl_4, zl_5, zl_6, zl_7, zl_8, zl_9, zl_10, zl_11, zl_12, zl_24, zl_31, zl_32, zl_33, zl_36, zl_48, zl_49, zl_54, zl_59, zl_60, zl_61, zl_97, zl_99, zl_102, zl_126, zl_180, zl_360, zl_376, zl_1880, zl_2256, zl_2903, z_add, z_sub, z_mul, z_neg, z_lt, z_le, z_eq, z_in]
    have e : k = aK A c := by omega
    subst e
    refine wT (by omega) (kK ?_)
    rw [← Bool.not_eq_true, isJ_iff]
    exact fun ⟨q, h1, h4⟩ => hq q h1 h4
  | succ n ih =>
    intro k i j hi hj hn hq
    subst hi hj
    have hs : ps (aZ A c) (k + 1) = ps (aZ A c) k + aZ A c k := rfl
    have ht : ps (aZ A c) k ≤ tak A c := ps_mono (by omega)
    unfold wp_X5_isJoint_L5
    refine X5_pebbles_ok hR hW hc rfl ?_
    simp (disch := omega) only [zl_0, zl_1, zl_2, zl_3, zl_4, zl_5, zl_6, zl_7, zl_8, zl_9, zl_10, zl_11, zl_12, zl_24, zl_31, zl_32, zl_33, zl_36, zl_48, zl_49, zl_54, zl_59, zl_60, zl_61, zl_97, zl_99, zl_102, zl_126, zl_180, zl_360, zl_376, zl_1880, zl_2256, zl_2903, z_add, z_sub, z_mul, z_neg, z_lt, z_le, z_eq, z_in]
    refine wF (by omega) (wB rfl (fun h => kT (isJ_iff.mpr ⟨k, by omega, by omega⟩)) (fun h => X5_sizeOf_ok hR hW hc rfl rfl (by omega) ?_))
    simp (disch := omega) only [zl_0, zl_1, zl_2, zl_3, zl_4, zl_5, zl_6, zl_7, zl_8, zl_9, zl_10, zl_11, zl_12, zl_24, zl_31, zl_32, zl_33, zl_36, zl_48, zl_49, zl_54, zl_59, zl_60, zl_61, zl_97, zl_99, zl_102, zl_126, zl_180, zl_360, zl_376, zl_1880, zl_2256, zl_2903, z_add, z_sub, z_mul, z_neg, z_lt, z_le, z_eq, z_in]
    refine ih (k := k + 1) (by omega) (by omega) (by omega) (fun q h1 => ?_)
    rcases Nat.lt_or_ge q k with h4 | h4
    · exact hq q h4
    · rw [show q = k by omega]; omega
theorem X5_isJoint_ok {v : Nat → Int32} {A : Ab} (hR : RepM v A) (hW : Wf A) {ip : Int} {c : Nat} (hc : c < 6) (hi : ip = c) {jp : Int} {p : Nat} (hp : jp = p) (hp1 : p < 100000) {post : Int32 → Prop} (k : post (zz (bB (aJ A c p)))) : wp_X5_isJoint v (zz ip) (zz jp) post := by
  subst hp
  have h2 := cel_r hW hc
  have h3 := hW.2.2.2.2.1 c hc
  refine ⟨aK A c + 1, ?_⟩
  simp (disch := omega) only [zl_0, zl_1, zl_2, zl_3, zl_4, zl_5, zl_6, zl_7, zl_8, zl_9, zl_10, zl_11, zl_12, zl_24, zl_31, zl_32, zl_33, zl_36, zl_48, zl_49, zl_54, zl_59, zl_60, zl_61, zl_97, zl_99, zl_102, zl_126, zl_180, zl_360, zl_376, zl_1880, zl_2256, zl_2903, z_add, z_sub, z_mul, z_neg, z_lt, z_le, z_eq, z_in]
  refine X5_isJoint_L_ok hR hW hc hi rfl hp1 (fun h => ?_) (fun h => ?_) (k := 0) rfl rfl (by omega) (fun q h => absurd h (Nat.not_lt_zero _))
  · rw [show aJ A c p = true by unfold aJ; rw [h, Bool.true_or]] at k
    exact k
  · have e : aJ A c p = (decide (0 < p) && decide (p = tak A c) && decide (p < cel A c)) := by unfold aJ; rw [h, Bool.false_or]
    rw [e] at k
    simp (disch := omega) only [zl_0, zl_1, zl_2, zl_3, zl_4, zl_5, zl_6, zl_7, zl_8, zl_9, zl_10, zl_11, zl_12, zl_24, zl_31, zl_32, zl_33, zl_36, zl_48, zl_49, zl_54, zl_59, zl_60, zl_61, zl_97, zl_99, zl_102, zl_126, zl_180, zl_360, zl_376, zl_1880, zl_2256, zl_2903, z_add, z_sub, z_mul, z_neg, z_lt, z_le, z_eq, z_in]
    refine wB rfl (fun h4 => ?_) (fun h4 => wB rfl (fun h5 => ?_) (fun h5 => ?_))
    · have : (decide (0 < p) && decide (p = tak A c) && decide (p < cel A c)) = false := by simp; omega
      rw [this] at k; exact k
    · refine X5_cells_ok hR hW hc hi ?_
      simp (disch := omega) only [zl_0, zl_1, zl_2, zl_3, zl_4, zl_5, zl_6, zl_7, zl_8, zl_9, zl_10, zl_11, zl_12, zl_24, zl_31, zl_32, zl_33, zl_36, zl_48, zl_49, zl_54, zl_59, zl_60, zl_61, zl_97, zl_99, zl_102, zl_126, zl_180, zl_360, zl_376, zl_1880, zl_2256, zl_2903, z_add, z_sub, z_mul, z_neg, z_lt, z_le, z_eq, z_in]
      refine wB rfl (fun h6 => ?_) (fun h6 => ?_)
      · have : (decide (0 < p) && decide (p = tak A c) && decide (p < cel A c)) = false := by simp; omega
        rw [this] at k; exact k
      · have : (decide (0 < p) && decide (p = tak A c) && decide (p < cel A c)) = true := by simp; omega
        rw [this] at k; exact k
    · have : (decide (0 < p) && decide (p = tak A c) && decide (p < cel A c)) = false := by simp; omega
      rw [this] at k; exact k
theorem X5_meets_ok {v : Nat → Int32} {A : Ab} (hR : RepM v A) (hW : Wf A) {ip : Int} {c : Nat} (hc : c < 6) (hi : ip = c) (h1 : 1 ≤ c) {jp : Int} {p : Nat} (hp : jp = p) (hp1 : p < 1000) {post : Int32 → Prop} (k : post (zz (mts A c p))) : wp_X5_meets v (zz ip) (zz jp) post := by
  subst hp
  have h2 := cel_r hW hc
  have h3 := cel_r hW (show c - 1 < 6 by omega)
  have h5 : p * cel A (c - 1) ≤ 1000 * 60 := Nat.mul_le_mul (by omega) (by omega)
  have h6 : (p : Int) * (cel A (c - 1) : Nat) = ((p * cel A (c - 1) : Nat) : Int) := by omega
  unfold wp_X5_meets
  simp (disch := omega) only [zl_0, zl_1, zl_2, zl_3, zl_4, zl_5, zl_6, zl_7, zl_8, zl_9, zl_10, zl_11, zl_12, zl_24, zl_31, zl_32, zl_33, zl_36, zl_48, zl_49, zl_54, zl_59, zl_60, zl_61, zl_97, zl_99, zl_102, zl_126, zl_180, zl_360, zl_376, zl_1880, zl_2256, zl_2903, z_add, z_sub, z_mul, z_neg, z_lt, z_le, z_eq, z_in]
  refine X5_cells_ok hR hW (c := c - 1) (by omega) (by omega) (X5_cells_ok hR hW hc hi ?_)
  simp (disch := omega) only [zl_0, zl_1, zl_2, zl_3, zl_4, zl_5, zl_6, zl_7, zl_8, zl_9, zl_10, zl_11, zl_12, zl_24, zl_31, zl_32, zl_33, zl_36, zl_48, zl_49, zl_54, zl_59, zl_60, zl_61, zl_97, zl_99, zl_102, zl_126, zl_180, zl_360, zl_376, zl_1880, zl_2256, zl_2903, z_add, z_sub, z_mul, z_neg, z_lt, z_le, z_eq, z_in, h6, z_div]
  exact ⟨by omega, k⟩
theorem X5_runs_ok {v : Nat → Int32} {A : Ab} (hR : RepM v A) (hW : Wf A) {ip : Int} {c : Nat} (hc : c < 6) (hi : ip = c) {jp : Int} {p : Nat} (hp : jp = p) (hp1 : p < cel A c) {post : Int32 → Prop} (k : post (zz (bB (aRun A c p)))) : wp_X5_runs v (zz ip) (zz jp) post := by
  subst hi hp
  have h2 := cel_r hW hc
  unfold wp_X5_runs
  simp (disch := omega) only [zl_0, zl_1, zl_2, zl_3, zl_4, zl_5, zl_6, zl_7, zl_8, zl_9, zl_10, zl_11, zl_12, zl_24, zl_31, zl_32, zl_33, zl_36, zl_48, zl_49, zl_54, zl_59, zl_60, zl_61, zl_97, zl_99, zl_102, zl_126, zl_180, zl_360, zl_376, zl_1880, zl_2256, zl_2903, z_add, z_sub, z_mul, z_neg, z_lt, z_le, z_eq, z_in]
  refine wB rfl (fun h => ?_) (fun h => wB rfl (fun h1 => ?_) (fun h1 => ?_))
  · rw [show aRun A c p = false by unfold aRun; simp; omega] at k
    exact k
  · rw [show aRun A c p = false by unfold aRun; simp; omega] at k
    exact k
  · have h3 := mts_lt hW hc (by omega) hp1
    have h4 := cel_r hW (show c - 1 < 6 by omega)
    have h5 := mts_lt hW (show c - 1 < 6 by omega) (by omega) h3
    have h6 := cel_r hW (show c - 1 - 1 < 6 by omega)
    have e : aRun A c p = (aJ A (c - 1) (mts A c p) && aJ A (c - 2) (mts A (c - 1) (mts A c p))) := by
      unfold aRun
      rw [decide_eq_true (show 2 ≤ c by omega), decide_eq_true (show 1 ≤ p by omega)]
      rfl
    rw [e] at k
    refine X5_meets_ok hR hW hc rfl (by omega) rfl (by omega) ?_
    refine X5_isJoint_ok hR hW (c := c - 1) (by omega) (by omega) rfl (by omega) ?_
    cases hj1 : aJ A (c - 1) (mts A c p) <;> rw [hj1] at k
    · exact wT rfl k
    · refine wF (by decide) ?_
      refine X5_meets_ok hR hW (c := c - 1) (by omega) (by omega) (by omega) rfl (by omega) ?_
      refine X5_isJoint_ok hR hW (c := c - 2) (by omega) (by omega) rfl (by omega) ?_
      cases hj2 : aJ A (c - 2) (mts A (c - 1) (mts A c p)) <;> rw [hj2] at k
      · exact wT rfl k
      · exact wF (by decide) k
theorem X5_greater_L_ok {v : Nat → Int32} {A : Ab} (hR : RepM v A) (hW : Wf A) {K : Int32 → Prop} {post : Int32 → Prop} (hk : ∀ x : Nat, x ≤ 7 → post (zz (if 6 < x then 0 else x : Nat)) → K (zz x)) {n : Nat} : ∀ {g : Nat} {i : Int}, i = g → 1 ≤ g → g ≤ 7 → 7 < n + g → post (zz (grt (aS A) n g)) → wp_X5_greater_L4 v K n (zz i) := by
  induction n with
  | zero => intro g i hi h1 h2 h3 k; omega
  | succ n ih =>
    intro g i hi h1 h2 h3 k
    subst hi
    unfold grt at k
    unfold wp_X5_greater_L4
    simp (disch := omega) only [zl_0, zl_1, zl_2, zl_3, zl_4, zl_5, zl_6, zl_7, zl_8, zl_9, zl_10, zl_11, zl_12, zl_24, zl_31, zl_32, zl_33, zl_36, zl_48, zl_49, zl_54, zl_59, zl_60, zl_61, zl_97, zl_99, zl_102, zl_126, zl_180, zl_360, zl_376, zl_1880, zl_2256, zl_2903, z_add, z_sub, z_mul, z_neg, z_lt, z_le, z_eq, z_in]
    refine wB rfl (fun h => ?_) (fun h => ?_)
    · rw [if_pos (by omega)] at k
      exact hk g h2 (by rw [if_pos (by omega)]; exact k)
    · rw [if_neg (by omega)] at k
      have hst := hR.st (i := 3 + (g : Int)) (s := g) (by omega)
      have := hW.2.2.2.1 g
      simp (disch := omega) only [zl_0, zl_1, zl_2, zl_3, zl_4, zl_5, zl_6, zl_7, zl_8, zl_9, zl_10, zl_11, zl_12, zl_24, zl_31, zl_32, zl_33, zl_36, zl_48, zl_49, zl_54, zl_59, zl_60, zl_61, zl_97, zl_99, zl_102, zl_126, zl_180, zl_360, zl_376, zl_1880, zl_2256, zl_2903, z_add, z_sub, z_mul, z_neg, z_lt, z_le, z_eq, z_in, hst]
      refine ⟨by omega, wB rfl (fun h4 => ?_) (fun h4 => ?_)⟩
      · rw [if_pos (by omega)] at k; exact ih (by omega) (by omega) (by omega) (by omega) k
      · rw [if_neg (by omega)] at k
        exact hk g h2 (by rw [if_neg (by omega)]; exact k)
theorem X5_greater_ok {v : Nat → Int32} {A : Ab} (hR : RepM v A) (hW : Wf A) {i : Int} {s : Nat} (hs : 1 ≤ s ∧ s ≤ 6) (hi : i = s) {post : Int32 → Prop} (k : post (zz (aSrc A s true))) : wp_X5_greater v (zz i) post := by
  subst hi
  unfold wp_X5_greater
  refine ⟨7, ?_⟩
  simp (disch := omega) only [zl_0, zl_1, zl_2, zl_3, zl_4, zl_5, zl_6, zl_7, zl_8, zl_9, zl_10, zl_11, zl_12, zl_24, zl_31, zl_32, zl_33, zl_36, zl_48, zl_49, zl_54, zl_59, zl_60, zl_61, zl_97, zl_99, zl_102, zl_126, zl_180, zl_360, zl_376, zl_1880, zl_2256, zl_2903, z_add, z_sub, z_mul, z_neg, z_lt, z_le, z_eq, z_in]
  refine X5_greater_L_ok hR hW (post := post) (fun x hx h => ?_) (g := s + 1) (by omega) (by omega) (by omega) (by omega) k
  simp (disch := omega) only [zl_0, zl_1, zl_2, zl_3, zl_4, zl_5, zl_6, zl_7, zl_8, zl_9, zl_10, zl_11, zl_12, zl_24, zl_31, zl_32, zl_33, zl_36, zl_48, zl_49, zl_54, zl_59, zl_60, zl_61, zl_97, zl_99, zl_102, zl_126, zl_180, zl_360, zl_376, zl_1880, zl_2256, zl_2903, z_add, z_sub, z_mul, z_neg, z_lt, z_le, z_eq, z_in]
  refine wB rfl (fun h4 => ?_) (fun h4 => ?_)
  · rw [if_neg (by omega)] at h; exact h
  · rw [if_pos (by omega)] at h; exact h
theorem X5_refused_ok {v : Nat → Int32} {A : Ab} (hR : RepM v A) (hW : Wf A) {i j l : Int} {c s : Nat} {f : Bool} (hc : c < 6) (hs : 1 ≤ s ∧ s ≤ 6) (hi : i = c) (hj : j = s) (hl : l = bB f) {post : Int32 → Prop} (k : post (zz (aRea A c s f))) : wp_X5_refused v (zz i) (zz j) (zz l) post := by
  subst hi hj hl
  have h2 := cel_r hW hc
  have h3 := hW.2.2.2.2.1 c hc
  unfold wp_X5_refused
  refine X5_taken_ok hR hW hc rfl (X5_isClosed_ok hR hW hc rfl ?_)
  unfold aRea at k
  unfold n01
  have hst := hR.st (i := 3 + (s : Int)) (s := s) (by omega)
  have h9 := hW.2.2.2.1 s
  by_cases h0 : cel A c - tak A c = 0
  · rw [if_pos h0] at k ⊢
    exact wF (by decide) k
  rw [if_neg h0] at k ⊢
  refine wT rfl (X5_cells_ok hR hW hc rfl ?_)
  have fin : aSrc A s f ≠ 0 → s ≤ cel A c - tak A c → wp_X5_refused_c56 v (zz c) post (zz ((tak A c : Int) + s)) := fun h5 h6 => by
    rw [if_neg (by omega), if_neg h5] at k
    unfold wp_X5_refused_c56
    refine X5_cells_ok hR hW hc rfl ?_
    simp (disch := omega) only [zl_0, zl_1, zl_2, zl_3, zl_4, zl_5, zl_6, zl_7, zl_8, zl_9, zl_10, zl_11, zl_12, zl_24, zl_31, zl_32, zl_33, zl_36, zl_48, zl_49, zl_54, zl_59, zl_60, zl_61, zl_97, zl_99, zl_102, zl_126, zl_180, zl_360, zl_376, zl_1880, zl_2256, zl_2903, z_add, z_sub, z_mul, z_neg, z_lt, z_le, z_eq, z_in]
    refine wB rfl (fun h7 => ?_) (fun h7 => ?_)
    · rw [if_neg (by omega)] at k; exact k
    rw [if_pos (by omega)] at k
    refine X5_runs_ok hR hW hc rfl (p := tak A c + s) (by omega) (by omega) ?_
    cases hr : aRun A c (tak A c + s) <;> rw [hr] at k
    · exact wT rfl k
    · exact wF (by decide) k
  have no : aSrc A s f = 0 → s ≤ cel A c - tak A c → post (zz 3) := fun h5 h6 => by
    rw [if_neg (by omega), if_pos h5] at k
    exact k
  have big : cel A c - tak A c < s → post (zz 2) := fun h6 => by
    rw [if_pos h6] at k
    exact k
  clear k
  cases f
  · have e : aSrc A s false = 0 ↔ aS A s = 0 := by unfold aSrc; rw [if_neg (by decide)]; split <;> omega
    simp (disch := omega) only [zl_0, zl_1, zl_2, zl_3, zl_4, zl_5, zl_6, zl_7, zl_8, zl_9, zl_10, zl_11, zl_12, zl_24, zl_31, zl_32, zl_33, zl_36, zl_48, zl_49, zl_54, zl_59, zl_60, zl_61, zl_97, zl_99, zl_102, zl_126, zl_180, zl_360, zl_376, zl_1880, zl_2256, zl_2903, z_add, z_sub, z_mul, z_neg, z_lt, z_le, z_eq, z_in, hst, bB_f]
    refine wB rfl (fun h4 => ?_) (fun h4 => big (by omega))
    refine wT trivial ⟨by omega, wB rfl (fun h5 => no (by omega) (by omega)) (fun h5 => fin (by omega) (by omega))⟩
  · have h5 := aSrc_r (A := A) (f := true) hs.2
    simp (disch := omega) only [zl_0, zl_1, zl_2, zl_3, zl_4, zl_5, zl_6, zl_7, zl_8, zl_9, zl_10, zl_11, zl_12, zl_24, zl_31, zl_32, zl_33, zl_36, zl_48, zl_49, zl_54, zl_59, zl_60, zl_61, zl_97, zl_99, zl_102, zl_126, zl_180, zl_360, zl_376, zl_1880, zl_2256, zl_2903, z_add, z_sub, z_mul, z_neg, z_lt, z_le, z_eq, z_in, bB_t]
    refine wB rfl (fun h4 => wF (by omega) (X5_greater_ok hR hW hs rfl ?_)) (fun h4 => big (by omega))
    simp (disch := omega) only [zl_0, zl_1, zl_2, zl_3, zl_4, zl_5, zl_6, zl_7, zl_8, zl_9, zl_10, zl_11, zl_12, zl_24, zl_31, zl_32, zl_33, zl_36, zl_48, zl_49, zl_54, zl_59, zl_60, zl_61, zl_97, zl_99, zl_102, zl_126, zl_180, zl_360, zl_376, zl_1880, zl_2256, zl_2903, z_add, z_sub, z_mul, z_neg, z_lt, z_le, z_eq, z_in]
    exact wB rfl (fun h5 => no (by omega) (by omega)) (fun h5 => fin (by omega) (by omega))
theorem RepM.put {v : Nat → Int32} {A : Ab} (hR : RepM v A) (hW : Wf A) {c s : Nat} {f : Bool} (hc : c < 6) (hs : 1 ≤ s ∧ s ≤ 6) (h : aRea A c s f = 0) {x0 x1 x2 x3 : Int32} {i0 i1 i2 i3 : Nat} (h0 : i0 = 3 + aSrc A s f) (h1 : i1 = 3) (h2 : i2 = 10 + 61 * c + 1 + aK A c) (h3 : i3 = 10 + 61 * c) (e0 : x0 = zz ((aS A (aSrc A s f) - 1 : Nat) : Int)) (e1 : x1 = aW A + zz ((aSrc A s f : Int) - s)) (e2 : x2 = zz ((s + 10 * n01 (f = true) : Nat) : Int)) (e3 : x3 = zz ((aK A c + 1 : Nat) : Int)) : RepM (upd (upd (upd (upd v i0 x0) i1 x1) i2 x2) i3 x3) (aPut A c s f) := by
  subst h0 h1 h2 h3 e0 e1 e2 e3
  obtain ⟨r1, r2, r3, r4, r5, r6, r7⟩ := hR
  obtain ⟨a1, a2, a3⟩ := aRea_0 h
  have a4 := aSrc_r (A := A) (f := f) hs.2
  have a5 : aK A c ≤ 59 := by have := aK_le hW hc; have := cel_r hW hc; omega
  refine ⟨?_, ?_, ?_, ?_, fun t h5 h6 => ?_, fun d hd => ?_, fun d k hd hk => ?_⟩
  · rw [upd_ne (by omega), upd_ne (by omega), upd_ne (by omega), upd_ne (by omega)]; exact r1
  · rw [upd_ne (by omega), upd_ne (by omega), upd_ne (by omega), upd_ne (by omega)]; exact r2
  · rw [upd_ne (by omega), upd_ne (by omega), upd_ne (by omega), upd_ne (by omega)]; exact r3
  · rw [upd_ne (by omega), upd_ne (by omega), upd_eq (by omega)]; rfl
  · rw [aS_put, upd_ne (by omega), upd_ne (by omega), upd_ne (by omega)]
    by_cases e : t = aSrc A s f
    · rw [if_pos e, upd_eq (by omega), e]
    · rw [if_neg e, upd_ne (by omega)]; exact r5 t h5 h6
  · show _ = zz (upN (aK A) c (aK A c + 1) d : Nat)
    by_cases e : d = c
    · rw [upN_eq e, upd_eq (by omega)]
    · rw [upN_ne e, upd_ne (by omega), upd_ne (by omega), upd_ne (by omega), upd_ne (by omega)]; exact r6 d hd
  · have hk' : k < upN (aK A) c (aK A c + 1) d := hk
    have a6 := aK_60 hW hd
    by_cases e : d = c
    · subst e
      rw [upN_eq rfl] at hk'
      by_cases e1 : k = aK A d
      · subst e1
        rw [upd_ne (by omega), upd_eq (by omega)]
        unfold enc
        show _ = zz (upN (aZ A) d (upN (aZ A d) (aK A d) s) d (aK A d) + 10 * n01 (upN (aF A) d (upN (aF A d) (aK A d) f) d (aK A d) = true) : Nat)
        rw [upN_eq rfl, upN_eq rfl, upN_eq rfl, upN_eq rfl]
      · rw [upd_ne (by omega), upd_ne (by omega), upd_ne (by omega), upd_ne (by omega), r7 d k hd (by omega)]
        unfold enc
        show _ = zz (upN (aZ A) d (upN (aZ A d) (aK A d) s) d k + 10 * n01 (upN (aF A) d (upN (aF A d) (aK A d) f) d k = true) : Nat)
        rw [upN_eq rfl, upN_eq rfl, upN_ne e1, upN_ne e1]
    · rw [upN_ne e] at hk'
      rw [upd_ne (by omega), upd_ne (by omega), upd_ne (by omega), upd_ne (by omega), r7 d k hd hk']
      unfold enc
      show _ = zz (upN (aZ A) c (upN (aZ A c) (aK A c) s) d k + 10 * n01 (upN (aF A) c (upN (aF A c) (aK A c) f) d k = true) : Nat)
      rw [upN_ne e, upN_ne e]
theorem X5_lays_c_ok {v : Nat → Int32} {A : Ab} (hR : RepM v A) (hW : Wf A) {i j l : Int} {c s : Nat} {f : Bool} (hc : c < 6) (hs : 1 ≤ s ∧ s ≤ 6) (hi : i = c) (hj : j = s) (hl : l = bB f) (h : aRea A c s f = 0) {post : Int32 → (Nat → Int32) → Prop} (k : ∀ v1, RepM v1 (aPut A c s f) → post (zz ((aSrc A s f : Int) - s)) v1) : wp_X5_lays_c13 v (zz i) (zz j) (zz l) post (zz (aSrc A s f)) := by
  subst hi hj hl
  obtain ⟨e1, e2, e3⟩ := aRea_0 h
  have e5 := aSrc_r (A := A) (f := f) hs.2
  have e6 := hW.2.2.2.1 (aSrc A s f)
  have e7 : aK A c ≤ 59 := by have := aK_le hW hc; have := cel_r hW hc; omega
  have hst := hR.st (i := 3 + (aSrc A s f : Int)) (s := aSrc A s f) (by omega)
  unfold wp_X5_lays_c13 wp_X5_pebbles
  simp (disch := omega) only [zl_0, zl_1, zl_2, zl_3, zl_4, zl_5, zl_6, zl_7, zl_8, zl_9, zl_10, zl_11, zl_12, zl_24, zl_31, zl_32, zl_33, zl_36, zl_48, zl_49, zl_54, zl_59, zl_60, zl_61, zl_97, zl_99, zl_102, zl_126, zl_180, zl_360, zl_376, zl_1880, zl_2256, zl_2903, z_add, z_sub, z_mul, z_neg, z_lt, z_le, z_eq, z_in, hst]
  refine ⟨by omega, by omega, fun v1 hv1 v2 hv2 => ⟨by omega, ?_⟩⟩
  have n1 : ∀ {x : Int}, 0 ≤ x → x < 1000 → (zz x).toNatClampNeg = x.toNat := fun h1 h2 => z_nat (by omega)
  have hv3 : v1 (zz 3).toNatClampNeg = aW A := by
    rw [hv1, upd_ne]
    · rw [n1 (by omega) (by omega)]; exact hR.2.2.2.1
    · rw [n1 (by omega) (by omega), n1 (by omega) (by omega)]; omega
  have hk2 : v2 (zz (10 + 61 * (c : Int))).toNatClampNeg = zz (aK A c) := by
    rw [hv2, upd_ne, hv1, upd_ne]
    · exact hR.pk (c := c) (by omega)
    · rw [n1 (by omega) (by omega), n1 (by omega) (by omega)]; omega
    · rw [n1 (by omega) (by omega), n1 (by omega) (by omega)]; omega
  rw [hv3] at hv2
  rw [hk2]
  have fin : ∀ (i2 i3 : Nat) (x2 x3 : Int32), i2 = 10 + 61 * c + 1 + aK A c → i3 = 10 + 61 * c → x2 = zz ((s + 10 * n01 (f = true) : Nat) : Int) → x3 = zz ((aK A c + 1 : Nat) : Int) → post (zz ((aSrc A s f : Int) - s)) (upd (upd v2 i2 x2) i3 x3) := fun i2 i3 x2 x3 a1 a2 a3 a4 => by
    subst hv2 hv1
    refine k _ (hR.put hW hc hs h ?_ ?_ a1 a2 ?_ rfl a3 a4)
    · rw [n1 (by omega) (by omega)]; omega
    · rw [n1 (by omega) (by omega)]; rfl
    · exact congrArg zz (by omega)
  have hk3 : ∀ x2, upd v2 (zz (10 + 61 * (c : Int) + 1 + aK A c)).toNatClampNeg x2 (zz (10 + 61 * (c : Int))).toNatClampNeg = zz (aK A c) := fun x2 => by
    rw [upd_ne, hk2]
    rw [n1 (by omega) (by omega), n1 (by omega) (by omega)]; omega
  clear hv1 hv2 h
  cases f
  · simp (disch := omega) only [zl_0, zl_1, zl_2, zl_3, zl_4, zl_5, zl_6, zl_7, zl_8, zl_9, zl_10, zl_11, zl_12, zl_24, zl_31, zl_32, zl_33, zl_36, zl_48, zl_49, zl_54, zl_59, zl_60, zl_61, zl_97, zl_99, zl_102, zl_126, zl_180, zl_360, zl_376, zl_1880, zl_2256, zl_2903, z_add, z_sub, z_mul, z_neg, z_lt, z_le, z_eq, z_in, bB_f]
    refine wT trivial ⟨by omega, fun v3 hv3 => ⟨by omega, by omega, fun v4 hv4 => ?_⟩⟩
    subst hv3 hv4
    rw [hk3]
    simp (disch := omega) only [zl_0, zl_1, zl_2, zl_3, zl_4, zl_5, zl_6, zl_7, zl_8, zl_9, zl_10, zl_11, zl_12, zl_24, zl_31, zl_32, zl_33, zl_36, zl_48, zl_49, zl_54, zl_59, zl_60, zl_61, zl_97, zl_99, zl_102, zl_126, zl_180, zl_360, zl_376, zl_1880, zl_2256, zl_2903, z_add, z_sub, z_mul, z_neg, z_lt, z_le, z_eq, z_in]
    refine fin _ _ _ _ ?_ ?_ ?_ ?_
    · rw [n1 (by omega) (by omega)]; omega
    · rw [n1 (by omega) (by omega)]; omega
    · unfold n01; rw [if_neg (by decide)]; exact congrArg zz (by omega)
    · exact congrArg zz (by omega)
  · simp (disch := omega) only [zl_0, zl_1, zl_2, zl_3, zl_4, zl_5, zl_6, zl_7, zl_8, zl_9, zl_10, zl_11, zl_12, zl_24, zl_31, zl_32, zl_33, zl_36, zl_48, zl_49, zl_54, zl_59, zl_60, zl_61, zl_97, zl_99, zl_102, zl_126, zl_180, zl_360, zl_376, zl_1880, zl_2256, zl_2903, z_add, z_sub, z_mul, z_neg, z_lt, z_le, z_eq, z_in, bB_t]
    refine wF (by omega) ⟨by omega, fun v3 hv3 => ⟨by omega, by omega, fun v4 hv4 => ?_⟩⟩
    subst hv3 hv4
    rw [hk3]
    simp (disch := omega) only [zl_0, zl_1, zl_2, zl_3, zl_4, zl_5, zl_6, zl_7, zl_8, zl_9, zl_10, zl_11, zl_12, zl_24, zl_31, zl_32, zl_33, zl_36, zl_48, zl_49, zl_54, zl_59, zl_60, zl_61, zl_97, zl_99, zl_102, zl_126, zl_180, zl_360, zl_376, zl_1880, zl_2256, zl_2903, z_add, z_sub, z_mul, z_neg, z_lt, z_le, z_eq, z_in]
    refine fin _ _ _ _ ?_ ?_ ?_ ?_
    · rw [n1 (by omega) (by omega)]; omega
    · rw [n1 (by omega) (by omega)]; omega
    · unfold n01; rw [if_pos rfl]; exact congrArg zz (by omega)
    · exact congrArg zz (by omega)
theorem X5_lays_ok {v : Nat → Int32} {A : Ab} (hR : RepM v A) (hW : Wf A) {i j l : Int} {c s : Nat} {f : Bool} (hc : c < 6) (hs : 1 ≤ s ∧ s ≤ 6) (hi : i = c) (hj : j = s) (hl : l = bB f) (h : aRea A c s f = 0) {post : Int32 → (Nat → Int32) → Prop} (k : ∀ v1, RepM v1 (aPut A c s f) → post (zz ((aSrc A s f : Int) - s)) v1) : wp_X5_lays v (zz i) (zz j) (zz l) post := by
  have hq := X5_lays_c_ok hR hW hc hs hi hj hl h k
  unfold wp_X5_lays
  obtain ⟨e1, e2, e3⟩ := aRea_0 h
  subst hl
  cases f
  · refine wT rfl ?_
    have e : aSrc A s false = s := by
      unfold aSrc at e2 ⊢
      rw [if_neg (by decide)] at e2 ⊢
      by_cases h1 : aS A s = 0
      · rw [if_pos h1] at e2; exact absurd rfl e2
      · rw [if_neg h1]
    rw [e] at hq
    rw [← hj] at hq
    exact hq
  · exact wF (by decide) (X5_greater_ok hR hW hs hj hq)
