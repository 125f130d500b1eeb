/-! The closing by the fewest pebbles: a table from the end back. -/
def bst (g : Nat → Int) (p e : Nat) : Nat → Nat → Int → Int
  | 0, _, b => b
  | m + 1, s, b => if e < p + s then b else bst g p e m (s + 1) (if g (p + s) ≠ -1 ∧ (b = -1 ∨ g (p + s) ≤ g (p + b.toNat)) then (s : Int) else b)
def vl (g : Nat → Int) (p : Nat) (b : Int) : Int := if b = -1 then -1 else g (p + b.toNat) + 1
def tbl (bar : Nat → Bool) (e : Nat) : Nat → Nat → Int
  | 0, _ => 0
  | j + 1, q => if q = e - (j + 1) then (if bar q then -1 else vl (tbl bar e j) q (bst (tbl bar e j) q e 6 1 (-1))) else tbl bar e j q
def uv (bar : Nat → Bool) (e q : Nat) : Int := if e ≤ q then 0 else vl (tbl bar e (e - q - 1)) q (bst (tbl bar e (e - q - 1)) q e 6 1 (-1))
def bOk (g : Nat → Int) (p e : Nat) (b : Int) : Prop := b = -1 ∨ (1 ≤ b ∧ b ≤ 6 ∧ p + b.toNat ≤ e ∧ g (p + b.toNat) ≠ -1)
theorem bOk_step {g : Nat → Int} {p e s : Nat} {b : Int} (h : bOk g p e b) (hs : 1 ≤ s ∧ s ≤ 6) (he : ¬ e < p + s) : bOk g p e (if g (p + s) ≠ -1 ∧ (b = -1 ∨ g (p + s) ≤ g (p + b.toNat)) then (s : Int) else b) := by
  split
  · rename_i h1
    exact .inr ⟨by omega, by omega, by rw [Int.toNat_natCast]; omega, by rw [Int.toNat_natCast]; exact h1.1⟩
  · exact h
theorem bst_ok {g : Nat → Int} {p e n s : Nat} {b : Int} (h : bOk g p e b) (hs : 1 ≤ s) (hn : s + n = 7) : bOk g p e (bst g p e n s b) := by
  induction n generalizing s b with
  | zero => exact h
  | succ n ih =>
    unfold bst
    by_cases h1 : e < p + s
    · rw [if_pos h1]; exact h
    · rw [if_neg h1]
      exact ih (bOk_step h ⟨hs, by omega⟩ h1) (by omega) (by omega)
theorem vl_r {g : Nat → Int} {p e : Nat} {b j : Int} (hg : ∀ q, -1 ≤ g q ∧ g q ≤ j) (hj : 0 ≤ j) (h : bOk g p e b) : -1 ≤ vl g p b ∧ vl g p b ≤ j + 1 ∧ (vl g p b = -1 ↔ b = -1) := by
  unfold vl
  rcases h with h | h
  · rw [if_pos h]; omega
  · rw [if_neg (by omega)]
    have := hg (p + b.toNat)
    have := h.2.2.2
    omega
theorem tbl_r {bar : Nat → Bool} {e j : Nat} : ∀ q, -1 ≤ tbl bar e j q ∧ tbl bar e j q ≤ j := by
  induction j with
  | zero => intro q; exact ⟨by show (-1 : Int) ≤ 0; decide, by show (0 : Int) ≤ 0; decide⟩
  | succ j ih =>
    intro q
    unfold tbl
    split
    · split
      · omega
      · have := vl_r ih (by omega) (bst_ok (p := q) (e := e) (n := 6) (s := 1) (.inl rfl) (Nat.le_refl _) rfl)
        omega
    · have := ih q; omega
theorem tbl_uv {bar : Nat → Bool} {e j q : Nat} (hj : j ≤ e) (h1 : e - j ≤ q) (h2 : q ≤ e) : tbl bar e j q = if q < e ∧ bar q = true then -1 else uv bar e q := by
  induction j with
  | zero =>
    rw [if_neg (by omega)]
    unfold uv
    rw [if_pos (by omega)]
    rfl
  | succ j ih =>
    unfold tbl
    by_cases h : q = e - (j + 1)
    · rw [if_pos h]
      unfold uv
      have e1 : e - q - 1 = j := by omega
      rw [if_neg (show ¬ e ≤ q by omega), e1]
      by_cases h3 : bar q = true
      · rw [if_pos h3, if_pos ⟨by omega, h3⟩]
      · rw [if_neg h3, if_neg (fun h4 => h3 h4.2)]
    · rw [if_neg h]
      exact ih (by omega) (by omega)
def aClo (A : Ab) (c : Nat) : Int × Int := if cel A c ≤ tak A c then (0, -1) else (uv (aRun A c) (cel A c) (tak A c), bst (tbl (aRun A c) (cel A c) (cel A c - tak A c - 1)) (tak A c) (cel A c) 6 1 (-1))
theorem X0_pebblesFrom_ok {vc : Cl} {i : Int} (hi : 0 ≤ i ∧ i ≤ 60) {post : Int32 → Prop} (k : post (vc.1 i.toNat)) : wp_X0_pebblesFrom vc (zz i) post := by
  unfold wp_X0_pebblesFrom
  simp (disch := omega) only [zl_0, zl_1, zl_2, zl_3, zl_4, zl_5, zl_6, zl_7, zl_8, zl_9, zl_10, zl_11, zl_12, zl_24, zl_31, zl_32, zl_33, zl_36, zl_48, zl_49, zl_54, zl_59, zl_60, zl_61, zl_97, zl_99, zl_102, zl_126, zl_180, zl_360, zl_376, zl_1880, zl_2256, zl_2903, z_add, z_sub, z_mul, z_neg, z_lt, z_le, z_eq, z_in]
  rw [z_nat (by omega)]
  exact wF (by omega) (wF (by omega) ⟨by omega, k⟩)
theorem X0_bestSize_L_ok {vc : Cl} {g : Nat → Int} {p e : Nat} (he : e ≤ 60) (hpe : p < e) (hf : ∀ q, p < q → q ≤ e → vc.1 q = zz (g q)) (hg : ∀ q, -1 ≤ g q ∧ g q ≤ 100) {ip ie : Int} (hp : ip = p) (hie : ie = e) {K : Int32 → Prop} {n : Nat} : ∀ {s : Nat} {b j : Int}, j = s → 1 ≤ s → s + n = 7 → bOk g p e b → K (zz (bst g p e n s b)) → wp_X0_bestSize_L5 vc (zz ip) (zz ie) K (n + 1) (zz b) (zz j) := by
  subst hp hie
  induction n with
  | zero =>
    intro s b j hj h1 hn hb k
    subst hj
    unfold wp_X0_bestSize_L5
    simp (disch := omega) only [zl_0, zl_1, zl_2, zl_3, zl_4, zl_5, zl_6, zl_7, zl_8, zl_9, zl_10, zl_11, zl_12, zl_24, zl_31, zl_32, zl_33, zl_36, zl_48, zl_49, zl_54, zl_59, zl_60, zl_61, zl_97, zl_99, zl_102, zl_126, zl_180, zl_360, zl_376, zl_1880, zl_2256, zl_2903, z_add, z_sub, z_mul, z_neg, z_lt, z_le, z_eq, z_in]
    exact wT (by omega) k
  | succ n ih =>
    intro s b j hj h1 hn hb k
    subst hj
    have hb2 : ¬ e < p + s → bOk g p e (if g (p + s) ≠ -1 ∧ (b = -1 ∨ g (p + s) ≤ g (p + b.toNat)) then (s : Int) else b) := fun h => bOk_step hb ⟨h1, by omega⟩ h
    unfold bst at k
    have hbr : -1 ≤ b ∧ b ≤ 6 := by rcases hb with h | h <;> omega
    unfold wp_X0_bestSize_L5
    simp (disch := omega) only [zl_0, zl_1, zl_2, zl_3, zl_4, zl_5, zl_6, zl_7, zl_8, zl_9, zl_10, zl_11, zl_12, zl_24, zl_31, zl_32, zl_33, zl_36, zl_48, zl_49, zl_54, zl_59, zl_60, zl_61, zl_97, zl_99, zl_102, zl_126, zl_180, zl_360, zl_376, zl_1880, zl_2256, zl_2903, z_add, z_sub, z_mul, z_neg, z_lt, z_le, z_eq, z_in]
    refine wF (by omega) (wB rfl (fun h => ?_) (fun h => ?_))
    · rw [if_pos (by omega)] at k; exact k
    rw [if_neg (by omega)] at k
    have hb3 := hb2 (by omega)
    refine X0_pebblesFrom_ok (by omega) ?_
    have e1 : ((p : Int) + s).toNat = p + s := by omega
    have hgs := hg (p + s)
    rw [e1, hf (p + s) (by omega) (by omega)]
    simp (disch := omega) only [zl_0, zl_1, zl_2, zl_3, zl_4, zl_5, zl_6, zl_7, zl_8, zl_9, zl_10, zl_11, zl_12, zl_24, zl_31, zl_32, zl_33, zl_36, zl_48, zl_49, zl_54, zl_59, zl_60, zl_61, zl_97, zl_99, zl_102, zl_126, zl_180, zl_360, zl_376, zl_1880, zl_2256, zl_2903, z_add, z_sub, z_mul, z_neg, z_lt, z_le, z_eq, z_in]
    refine wB rfl (fun h2 => ?_) (fun h2 => wB rfl (fun h3 => ?_) (fun h3 => ?_))
    · rw [if_neg (fun h4 => h4.1 h2)] at k hb3
      exact ih (by omega) (by omega) (by omega) hb k
    · rw [if_pos ⟨h2, .inl h3⟩] at k hb3
      exact ih (by omega) (by omega) (by omega) hb3 k
    · have hb4 : 1 ≤ b ∧ b ≤ 6 ∧ p + b.toNat ≤ e := by rcases hb with h4 | h4 <;> omega
      refine X0_pebblesFrom_ok (by omega) ?_
      have e2 : ((p : Int) + b).toNat = p + b.toNat := by omega
      have hgb := hg (p + b.toNat)
      rw [e2, hf (p + b.toNat) (by omega) (by omega)]
      simp (disch := omega) only [zl_0, zl_1, zl_2, zl_3, zl_4, zl_5, zl_6, zl_7, zl_8, zl_9, zl_10, zl_11, zl_12, zl_24, zl_31, zl_32, zl_33, zl_36, zl_48, zl_49, zl_54, zl_59, zl_60, zl_61, zl_97, zl_99, zl_102, zl_126, zl_180, zl_360, zl_376, zl_1880, zl_2256, zl_2903, z_add, z_sub, z_mul, z_neg, z_lt, z_le, z_eq, z_in]
      refine wB rfl (fun h4 => ?_) (fun h4 => ?_)
      · rw [if_neg (by omega)] at k hb3
        exact ih (by omega) (by omega) (by omega) hb k
      · rw [if_pos (by omega)] at k hb3
        exact ih (by omega) (by omega) (by omega) hb3 k
theorem X0_bestSize_ok {vc : Cl} {g : Nat → Int} {p e : Nat} (he : e ≤ 60) (hpe : p < e) (hf : ∀ q, p < q → q ≤ e → vc.1 q = zz (g q)) (hg : ∀ q, -1 ≤ g q ∧ g q ≤ 100) {ip ie : Int} (hp : ip = p) (hie : ie = e) {post : Int32 → Prop} (k : post (zz (bst g p e 6 1 (-1)))) : wp_X0_bestSize vc (zz ip) (zz ie) post := by
  refine ⟨7, ?_⟩
  simp (disch := omega) only [zl_0, zl_1, zl_2, zl_3, zl_4, zl_5, zl_6, zl_7, zl_8, zl_9, zl_10, zl_11, zl_12, zl_24, zl_31, zl_32, zl_33, zl_36, zl_48, zl_49, zl_54, zl_59, zl_60, zl_61, zl_97, zl_99, zl_102, zl_126, zl_180, zl_360, zl_376, zl_1880, zl_2256, zl_2903, z_add, z_sub, z_mul, z_neg, z_lt, z_le, z_eq, z_in]
  exact X0_bestSize_L_ok he hpe hf hg hp hie (n := 6) (s := 1) rfl (Nat.le_refl _) rfl (.inl rfl) k
theorem find_tail {vc : Cl} {g : Nat → Int} {p e : Nat} (he : e ≤ 60) (hp : p < e) (hf : ∀ q, p < q → q ≤ e → vc.1 q = zz (g q)) (hg : ∀ q, -1 ≤ g q ∧ g q ≤ 100) {b : Int} (hb : bOk g p e b) {L : Cl → Prop} (k : ∀ vd : Cl, (∀ q, p < q → vd.1 q = vc.1 q) → vd.1 p = zz (vl g p b) → vd.2.1 = zz (vl g p b) → vd.2.2 = zz b → L vd) : (∀ vc_4 : Cl, vc_4 = cl_g vc (zz b) → ((vc_4.2.2 = zz (-1) → (∀ vc_5 : Cl, vc_5 = cl_f vc_4 (zz (-1)) → ((0 ≤ (p : Int) ∧ (p : Int) < ((61 : Nat) : Int)) ∧ (∀ vc_6 : Cl, vc_6 = cl_a vc_5 (upd vc_5.1 (zz p).toNatClampNeg vc_5.2.1) → L vc_6)))) ∧ (¬ vc_4.2.2 = zz (-1) → (wp_X0_pebblesFrom vc_4 (zz p + vc_4.2.2) (fun r131 => (∀ vc_7 : Cl, vc_7 = cl_f vc_4 (r131 + zz 1) → ((0 ≤ (p : Int) ∧ (p : Int) < ((61 : Nat) : Int)) ∧ (∀ vc_8 : Cl, vc_8 = cl_a vc_7 (upd vc_7.1 (zz p).toNatClampNeg vc_7.2.1) → L vc_8)))))))) := by
  intro v4 h4
  subst h4
  have hbr : -1 ≤ b ∧ b ≤ 6 := by rcases hb with h | h <;> omega
  have en : (zz (p : Int)).toNatClampNeg = p := by rw [z_nat (by omega)]; omega
  rw [en]
  show ((zz b = zz (-1) → _) ∧ (¬ zz b = zz (-1) → wp_X0_pebblesFrom _ (zz p + zz b) _))
  rw [z_eq (by omega), z_add]
  refine wB rfl (fun h => ?_) (fun h => ?_)
  · intro v5 h5
    subst h5
    refine ⟨by omega, fun v6 h6 => ?_⟩
    subst h6
    have e1 : vl g p b = -1 := by unfold vl; rw [if_pos h]
    refine k _ (fun q hq => upd_ne (by omega)) ?_ ?_ rfl
    · rw [e1]; exact upd_eq rfl
    · rw [e1]
  · have hb4 : 1 ≤ b ∧ b ≤ 6 ∧ p + b.toNat ≤ e := by rcases hb with h4 | h4 <;> omega
    refine X0_pebblesFrom_ok (by omega) ?_
    have e2 : ((p : Int) + b).toNat = p + b.toNat := by omega
    have e1 : vl g p b = g (p + b.toNat) + 1 := by unfold vl; rw [if_neg h]
    rw [e2]
    show ∀ vc_7 : Cl, vc_7 = cl_f _ (vc.1 (p + b.toNat) + zz 1) → _
    rw [hf (p + b.toNat) (by omega) (by omega), z_add]
    intro v7 h7
    subst h7
    refine ⟨by omega, fun v8 h8 => ?_⟩
    subst h8
    refine k _ (fun q hq => upd_ne (by omega)) ?_ ?_ rfl
    · rw [e1]; exact upd_eq rfl
    · rw [e1]
theorem X0_find_L_ok {w : Mo} {A : Ab} (hR : RepC w A) (hW : Wf A) {c : Nat} (hc : c < 6) {ip : Int} (hi : ip = c) (ht : tak A c < cel A c) {K : Cl → Prop} (kk : ∀ vc : Cl, vc.2.1 = zz (aClo A c).1 → vc.2.2 = zz (aClo A c).2 → K vc) {d : Nat} : ∀ {vc : Cl} {p : Nat} {j : Int}, j = p → p = tak A c + d → p < cel A c → (∀ q, p < q → q ≤ cel A c → vc.1 q = zz (tbl (aRun A c) (cel A c) (cel A c - p - 1) q)) → wp_X0_find_L60 w (zz ip) (zz (tak A c)) (zz (cel A c)) K (d + 2) (zz j) vc := by
  subst hi
  have h2 := cel_r hW hc
  have hg : ∀ j', j' ≤ 60 → ∀ q, -1 ≤ tbl (aRun A c) (cel A c) j' q ∧ tbl (aRun A c) (cel A c) j' q ≤ 100 := fun j' hj' q => by
    have := tbl_r (bar := aRun A c) (e := cel A c) (j := j') q
    omega
  induction d with
  | zero =>
    intro vc p j hj hp hpe hf
    subst hj
    have hbo := bst_ok (g := tbl (aRun A c) (cel A c) (cel A c - p - 1)) (p := p) (e := cel A c) (n := 6) (s := 1) (.inl rfl) (Nat.le_refl _) rfl
    unfold wp_X0_find_L60
    simp (disch := omega) only [zl_0, zl_1, zl_2, zl_3, zl_4, zl_5, zl_6, zl_7, zl_8, zl_9, zl_10, zl_11, zl_12, zl_24, zl_31, zl_32, zl_33, zl_36, zl_48, zl_49, zl_54, zl_59, zl_60, zl_61, zl_97, zl_99, zl_102, zl_126, zl_180, zl_360, zl_376, zl_1880, zl_2256, zl_2903, z_add, z_sub, z_mul, z_neg, z_lt, z_le, z_eq, z_in]
    refine wF (by omega) (wT (by omega) (X0_bestSize_ok (by omega) hpe hf (hg _ (by omega)) rfl rfl ?_))
    refine find_tail (by omega) hpe hf (hg _ (by omega)) hbo (fun vd k1 k2 k3 k4 => ?_)
    have ea : aClo A c = (vl (tbl (aRun A c) (cel A c) (cel A c - p - 1)) p (bst (tbl (aRun A c) (cel A c) (cel A c - p - 1)) p (cel A c) 6 1 (-1)), bst (tbl (aRun A c) (cel A c) (cel A c - p - 1)) p (cel A c) 6 1 (-1)) := by
      unfold aClo uv
      rw [if_neg (by omega), if_neg (by omega), hp, Nat.add_zero]
    unfold wp_X0_find_L60
    simp (disch := omega) only [zl_0, zl_1, zl_2, zl_3, zl_4, zl_5, zl_6, zl_7, zl_8, zl_9, zl_10, zl_11, zl_12, zl_24, zl_31, zl_32, zl_33, zl_36, zl_48, zl_49, zl_54, zl_59, zl_60, zl_61, zl_97, zl_99, zl_102, zl_126, zl_180, zl_360, zl_376, zl_1880, zl_2256, zl_2903, z_add, z_sub, z_mul, z_neg, z_lt, z_le, z_eq, z_in]
    refine wT (by omega) (kk vd ?_ ?_)
    · rw [ea]; exact k3
    · rw [ea]; exact k4
  | succ d ih =>
    intro vc p j hj hp hpe hf
    subst hj
    have hbo := bst_ok (g := tbl (aRun A c) (cel A c) (cel A c - p - 1)) (p := p) (e := cel A c) (n := 6) (s := 1) (.inl rfl) (Nat.le_refl _) rfl
    have next : ∀ (b : Int), (if aRun A c p = true then -1 else vl (tbl (aRun A c) (cel A c) (cel A c - p - 1)) p (bst (tbl (aRun A c) (cel A c) (cel A c - p - 1)) p (cel A c) 6 1 (-1))) = vl (tbl (aRun A c) (cel A c) (cel A c - p - 1)) p b → ∀ vd : Cl, (∀ q, p < q → vd.1 q = vc.1 q) → vd.1 p = zz (vl (tbl (aRun A c) (cel A c) (cel A c - p - 1)) p b) → wp_X0_find_L60 w (zz c) (zz (tak A c)) (zz (cel A c)) K (d + 2) (zz ((p : Int) + -1)) vd := fun b hb vd k1 k2 => by
      refine ih (p := p - 1) (by omega) (by omega) (by omega) (fun q h5 h6 => ?_)
      have e1 : cel A c - (p - 1) - 1 = (cel A c - p - 1) + 1 := by omega
      rw [e1]
      unfold tbl
      by_cases h7 : q = p
      · rw [if_pos (by omega), h7, hb]; exact k2
      · rw [if_neg (by omega), k1 q (by omega)]
        exact hf q (by omega) h6
    unfold wp_X0_find_L60
    simp (disch := omega) only [zl_0, zl_1, zl_2, zl_3, zl_4, zl_5, zl_6, zl_7, zl_8, zl_9, zl_10, zl_11, zl_12, zl_24, zl_31, zl_32, zl_33, zl_36, zl_48, zl_49, zl_54, zl_59, zl_60, zl_61, zl_97, zl_99, zl_102, zl_126, zl_180, zl_360, zl_376, zl_1880, zl_2256, zl_2903, z_add, z_sub, z_mul, z_neg, z_lt, z_le, z_eq, z_in]
    refine wF (by omega) (wF (by omega) (X2_runsThrough_ok hR hW hc rfl rfl hpe ?_))
    cases hr : aRun A c p
    · refine wT rfl (X0_bestSize_ok (by omega) hpe hf (hg _ (by omega)) rfl rfl ?_)
      refine find_tail (by omega) hpe hf (hg _ (by omega)) hbo (fun vd k1 k2 k3 k4 => next _ ?_ vd k1 k2)
      rw [if_neg (by rw [hr]; decide)]
    · refine wF (by decide) ?_
      refine find_tail (by omega) hpe hf (hg _ (by omega)) (b := -1) (.inl rfl) (fun vd k1 k2 k3 k4 => next (-1) ?_ vd k1 k2)
      rw [if_pos hr]
      rfl
theorem X0_find_ok {w : Mo} {A : Ab} (hR : RepC w A) (hW : Wf A) {c : Nat} (hc : c < 6) {ip : Int} (hi : ip = c) {vc : Cl} {post : Cl → Prop} (kk : ∀ vc : Cl, vc.2.1 = zz (aClo A c).1 → vc.2.2 = zz (aClo A c).2 → post vc) : wp_X0_find vc w (zz ip) post := by
  subst hi
  have h2 := cel_r hW hc
  have h3 := hW.2.2.2.2.1 c hc
  unfold wp_X0_find
  intro v1 h1 v2 h4
  subst h1 h4
  refine X2_takenOf_ok hR hW hc rfl (X2_cellsOf_ok hR hW hc rfl ?_)
  simp (disch := omega) only [zl_0, zl_1, zl_2, zl_3, zl_4, zl_5, zl_6, zl_7, zl_8, zl_9, zl_10, zl_11, zl_12, zl_24, zl_31, zl_32, zl_33, zl_36, zl_48, zl_49, zl_54, zl_59, zl_60, zl_61, zl_97, zl_99, zl_102, zl_126, zl_180, zl_360, zl_376, zl_1880, zl_2256, zl_2903, z_add, z_sub, z_mul, z_neg, z_lt, z_le, z_eq, z_in]
  refine wF (by omega) (wF (by omega) (wB rfl (fun h => ?_) (fun h => ?_)))
  · refine ⟨by omega, fun v3 h5 => ⟨cel A c - 1 - tak A c + 2, ?_⟩⟩
    subst h5
    refine X0_find_L_ok hR hW hc rfl (by omega) kk (p := cel A c - 1) (by omega) (by omega) (by omega) (fun q h5 h6 => ?_)
    rw [show cel A c - (cel A c - 1) - 1 = 0 by omega]
    show upd _ _ _ q = zz 0
    rw [upd_eq]
    rw [z_nat (by omega)]; omega
  · have ea : aClo A c = (0, -1) := by unfold aClo; rw [if_pos (by omega)]
    refine kk _ ?_ ?_
    · rw [ea]
    · rw [ea]
