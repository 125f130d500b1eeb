/-! The reference: the closing. -/
def fewW (vd : Md) (f : Nat → Int32) : Md := md_few vd f
theorem fw_f {vd : Md} {f : Nat → Int32} : (fewW vd f).2.2.2.2.2.1 = f := rfl
theorem fw_1 {vd : Md} {f : Nat → Int32} : (fewW vd f).1 = vd.1 := rfl
theorem fw_fw {vd : Md} {f f' : Nat → Int32} : md_few (fewW vd f) f' = fewW vd f' := rfl
theorem X5_closes_in_ok {vd : Md} {A : Ab} (hR : RepM vd.1 A) (hW : Wf A) {c : Nat} (hc : c < 6) {p : Nat} (hp : p < cel A c) {K : Int32 → Md → Prop} {n : Nat} : ∀ {s : Nat} {b j : Int} {f : Nat → Int32}, j = s → 1 ≤ s → s + n = 7 → bOk (tbl (aRun A c) (cel A c) (cel A c - p - 1)) p (cel A c) b → f p = zz (vl (tbl (aRun A c) (cel A c) (cel A c - p - 1)) p b) → (∀ q, p < q → q ≤ cel A c → f q = zz (uv (aRun A c) (cel A c) q)) → (∀ f' : Nat → Int32, f' p = zz (vl (tbl (aRun A c) (cel A c) (cel A c - p - 1)) p (bst (tbl (aRun A c) (cel A c) (cel A c - p - 1)) p (cel A c) n s b)) → (∀ q, p < q → q ≤ cel A c → f' q = zz (uv (aRun A c) (cel A c) q)) → K (zz (bst (tbl (aRun A c) (cel A c) (cel A c - p - 1)) p (cel A c) n s b)) (fewW vd f')) → wp_X5_closes_L55 (zz c) (zz (cel A c)) (zz p) K (n + 1) (zz b) (zz j) (fewW vd f) := by
  have h2 := cel_r hW hc
  have hT : ∀ q, -1 ≤ tbl (aRun A c) (cel A c) (cel A c - p - 1) q ∧ tbl (aRun A c) (cel A c) (cel A c - p - 1) q ≤ 60 := fun q => by
    have := tbl_r (bar := aRun A c) (e := cel A c) (j := cel A c - p - 1) q
    omega
  have hU : ∀ q, p < q → q ≤ cel A c → tbl (aRun A c) (cel A c) (cel A c - p - 1) q = if q < cel A c ∧ aRun A c q = true then -1 else uv (aRun A c) (cel A c) q := fun q h5 h6 => tbl_uv (by omega) (by omega) h6
  have hUr : ∀ q, -1 ≤ uv (aRun A c) (cel A c) q ∧ uv (aRun A c) (cel A c) q ≤ 61 := fun q => by
    unfold uv
    split
    · omega
    · have := vl_r (tbl_r (bar := aRun A c) (e := cel A c) (j := cel A c - q - 1)) (by omega) (bst_ok (p := q) (e := cel A c) (n := 6) (s := 1) (.inl rfl) (Nat.le_refl _) rfl)
      omega
  generalize tbl (aRun A c) (cel A c) (cel A c - p - 1) = T at hT hU ⊢
  induction n with
  | zero =>
    intro s b j f hj h1 hn hb hfp hf k
    subst hj
    unfold wp_X5_closes_L55
    simp (disch := omega) only [zl_0, zl_1, zl_2, zl_3, zl_4, zl_5, zl_6, zl_7, zl_8, zl_9, zl_10, zl_11, zl_12, zl_24, zl_31, zl_32, zl_33, zl_36, zl_48, zl_49, zl_54, zl_59, zl_60, zl_61, zl_97, zl_99, zl_102, zl_126, zl_180, zl_360, zl_376, zl_1880, zl_2256, zl_2903, z_add, z_sub, z_mul, z_neg, z_lt, z_le, z_eq, z_in]
    exact wT (by omega) (k f hfp hf)
  | succ n ih =>
    intro s b j f hj h1 hn hb hfp hf k
    subst hj
    have hb2 : ¬ cel A c < p + s → bOk T p (cel A c) (if T (p + s) ≠ -1 ∧ (b = -1 ∨ T (p + s) ≤ T (p + b.toNat)) then (s : Int) else b) := fun h => bOk_step hb ⟨h1, by omega⟩ h
    have hbr : -1 ≤ b ∧ b ≤ 6 := by rcases hb with h | h <;> omega
    have hv := vl_r (j := 60) hT (by omega) hb
    have hTb := hT (p + b.toNat)
    have hTs := hT (p + s)
    have hUs := hUr (p + s)
    unfold bst at k
    have ez : ∀ x : Int, 0 ≤ x → x < 1000 → (zz x).toNatClampNeg = x.toNat := fun x h3 h4 => z_nat (by omega)
    have e1 : ((p : Int) + s).toNat = p + s := by omega
    unfold wp_X5_closes_L55
    rw [fw_f, fw_1]
    simp (disch := omega) only [zl_0, zl_1, zl_2, zl_3, zl_4, zl_5, zl_6, zl_7, zl_8, zl_9, zl_10, zl_11, zl_12, zl_24, zl_31, zl_32, zl_33, zl_36, zl_48, zl_49, zl_54, zl_59, zl_60, zl_61, zl_97, zl_99, zl_102, zl_126, zl_180, zl_360, zl_376, zl_1880, zl_2256, zl_2903, z_add, z_sub, z_mul, z_neg, z_lt, z_le, z_eq, z_in]
    refine wF (by omega) (wB rfl (fun h => ?_) (fun h => ?_))
    · rw [if_pos (by omega)] at k; exact k f hfp hf
    rw [if_neg (by omega)] at k
    have hb3 := hb2 (by omega)
    have hUs2 := hU (p + s) (by omega) (by omega)
    have hfs := hf (p + s) (by omega) (by omega)
    rw [ez _ (by omega) (by omega), e1, hfs]
    have no : T (p + s) = -1 → wp_X5_closes_c115 (zz p) (zz b) (zz s) (fewW vd f) (wp_X5_closes_L55 (zz c) (zz (cel A c)) (zz p) K (n + 1)) (zz 0) := fun h3 => by
      rw [if_neg (fun h4 => h4.1 h3)] at k hb3
      unfold wp_X5_closes_c115
      simp (disch := omega) only [zl_0, zl_1, zl_2, zl_3, zl_4, zl_5, zl_6, zl_7, zl_8, zl_9, zl_10, zl_11, zl_12, zl_24, zl_31, zl_32, zl_33, zl_36, zl_48, zl_49, zl_54, zl_59, zl_60, zl_61, zl_97, zl_99, zl_102, zl_126, zl_180, zl_360, zl_376, zl_1880, zl_2256, zl_2903, z_add, z_sub, z_mul, z_neg, z_lt, z_le, z_eq, z_in]
      exact wT trivial (ih (s := s + 1) (by omega) (by omega) (by omega) hb hfp hf k)
    have yes : T (p + s) ≠ -1 → T (p + s) = uv (aRun A c) (cel A c) (p + s) → wp_X5_closes_c115 (zz p) (zz b) (zz s) (fewW vd f) (wp_X5_closes_L55 (zz c) (zz (cel A c)) (zz p) K (n + 1)) (zz 1) := fun h3 h5 => by
      have take : (b = -1 ∨ T (p + s) ≤ T (p + b.toNat)) → wp_X5_closes_c155 (zz p) (zz s) (fewW vd f) (wp_X5_closes_L55 (zz c) (zz (cel A c)) (zz p) K (n + 1)) := fun h4 => by
        rw [if_pos ⟨h3, h4⟩] at k hb3
        unfold wp_X5_closes_c155
        rw [fw_f]
        simp (disch := omega) only [zl_0, zl_1, zl_2, zl_3, zl_4, zl_5, zl_6, zl_7, zl_8, zl_9, zl_10, zl_11, zl_12, zl_24, zl_31, zl_32, zl_33, zl_36, zl_48, zl_49, zl_54, zl_59, zl_60, zl_61, zl_97, zl_99, zl_102, zl_126, zl_180, zl_360, zl_376, zl_1880, zl_2256, zl_2903, z_add, z_sub, z_mul, z_neg, z_lt, z_le, z_eq, z_in]
        rw [ez _ (by omega) (by omega), ez _ (by omega) (by omega), e1, hfs, z_add]
        refine ⟨by omega, by omega, fun v3 h6 => ?_⟩
        rw [fw_fw] at h6
        subst h6
        refine ih (s := s + 1) (by omega) (by omega) (by omega) hb3 ?_ (fun q h7 h8 => ?_) k
        · rw [upd_eq (by omega)]
          unfold vl
          rw [if_neg (by omega), Int.toNat_natCast, h5]
        · rw [upd_ne (by omega)]; exact hf q h7 h8
      have keep : ¬ (b = -1 ∨ T (p + s) ≤ T (p + b.toNat)) → wp_X5_closes_L55 (zz c) (zz (cel A c)) (zz p) K (n + 1) (zz b) (zz ((s : Int) + 1)) (fewW vd f) := fun h4 => by
        rw [if_neg (fun h6 => h4 h6.2)] at k hb3
        exact ih (s := s + 1) (by omega) (by omega) (by omega) hb hfp hf k
      clear ih k
      unfold wp_X5_closes_c115
      rw [fw_f]
      simp (disch := omega) only [zl_0, zl_1, zl_2, zl_3, zl_4, zl_5, zl_6, zl_7, zl_8, zl_9, zl_10, zl_11, zl_12, zl_24, zl_31, zl_32, zl_33, zl_36, zl_48, zl_49, zl_54, zl_59, zl_60, zl_61, zl_97, zl_99, zl_102, zl_126, zl_180, zl_360, zl_376, zl_1880, zl_2256, zl_2903, z_add, z_sub, z_mul, z_neg, z_lt, z_le, z_eq, z_in]
      rw [ez _ (by omega) (by omega), ez _ (by omega) (by omega), e1, hfs, Int.toNat_natCast, hfp]
      simp (disch := omega) only [zl_0, zl_1, zl_2, zl_3, zl_4, zl_5, zl_6, zl_7, zl_8, zl_9, zl_10, zl_11, zl_12, zl_24, zl_31, zl_32, zl_33, zl_36, zl_48, zl_49, zl_54, zl_59, zl_60, zl_61, zl_97, zl_99, zl_102, zl_126, zl_180, zl_360, zl_376, zl_1880, zl_2256, zl_2903, z_add, z_sub, z_mul, z_neg, z_lt, z_le, z_eq, z_in]
      refine wF (by omega) ⟨by omega, wB rfl (fun h6 => take (.inl (by omega))) (fun h6 => ⟨by omega, by omega, ?_⟩)⟩
      have h8 : vl T p b = T (p + b.toNat) + 1 := by unfold vl; rw [if_neg (by omega)]
      exact wB rfl (fun h7 => keep (by omega)) (fun h7 => take (by omega))
    clear ih k
    simp (disch := omega) only [zl_0, zl_1, zl_2, zl_3, zl_4, zl_5, zl_6, zl_7, zl_8, zl_9, zl_10, zl_11, zl_12, zl_24, zl_31, zl_32, zl_33, zl_36, zl_48, zl_49, zl_54, zl_59, zl_60, zl_61, zl_97, zl_99, zl_102, zl_126, zl_180, zl_360, zl_376, zl_1880, zl_2256, zl_2903, z_add, z_sub, z_mul, z_neg, z_lt, z_le, z_eq, z_in]
    refine ⟨by omega, wB rfl (fun h3 => no ?_) (fun h3 => wB rfl (fun h4 => yes ?_ ?_) (fun h4 => X5_runs_ok hR hW hc rfl (p := p + s) (by omega) (by omega) ?_))⟩
    · rw [hUs2]; split
      · rfl
      · exact h3
    · rw [hUs2, if_neg (by omega)]; exact h3
    · rw [hUs2, if_neg (by omega)]
    · cases hr : aRun A c (p + s)
      · rw [if_neg (by rw [hr]; intro h5; exact absurd h5.2 (by decide))] at hUs2
        exact wT rfl (yes (by rw [hUs2]; exact h3) hUs2)
      · rw [if_pos ⟨by omega, hr⟩] at hUs2
        exact wF (by decide) (no hUs2)
theorem X5_closes_out_ok {vd : Md} {A : Ab} (hR : RepM vd.1 A) (hW : Wf A) {c : Nat} (hc : c < 6) (ht : tak A c < cel A c) {K : Int32 → Md → Prop} (kk : ∀ f : Nat → Int32, f (tak A c) = zz (aClo A c).1 → K (zz (aClo A c).2) (fewW vd f)) {d : Nat} : ∀ {p : Nat} {b j : Int} {f : Nat → Int32}, j = p → p = tak A c + d → p < cel A c → (∀ q, p < q → q ≤ cel A c → f q = zz (uv (aRun A c) (cel A c) q)) → wp_X5_closes_L34 (zz c) (zz (cel A c)) (zz (tak A c)) K (d + 2) (zz b) (zz j) (fewW vd f) := by
  have h2 := cel_r hW hc
  have ez : ∀ x : Int, 0 ≤ x → x < 1000 → (zz x).toNatClampNeg = x.toNat := fun x h3 h4 => z_nat (by omega)
  induction d with
  | zero =>
    intro p b j f hj hp hpe hf
    subst hj
    unfold wp_X5_closes_L34
    rw [fw_f]
    simp (disch := omega) only [zl_0, zl_1, zl_2, zl_3, zl_4, zl_5, zl_6, zl_7, zl_8, zl_9, zl_10, zl_11, zl_12, zl_24, zl_31, zl_32, zl_33, zl_36, zl_48, zl_49, zl_54, zl_59, zl_60, zl_61, zl_97, zl_99, zl_102, zl_126, zl_180, zl_360, zl_376, zl_1880, zl_2256, zl_2903, z_add, z_sub, z_mul, z_neg, z_lt, z_le, z_eq, z_in]
    rw [ez _ (by omega) (by omega), Int.toNat_natCast]
    refine wF (by omega) ⟨by omega, fun v2 hv => ⟨7, ?_⟩⟩
    rw [fw_fw] at hv
    subst hv
    refine X5_closes_in_ok hR hW hc hpe (n := 6) (s := 1) rfl (Nat.le_refl _) rfl (.inl rfl) (upd_eq rfl) (fun q h5 h6 => by rw [upd_ne (by omega)]; exact hf q h5 h6) (fun f' h5 h6 => ?_)
    have ea : aClo A c = (vl (tbl (aRun A c) (cel A c) (cel A c - p - 1)) p (bst (tbl (aRun A c) (cel A c) (cel A c - p - 1)) p (cel A c) 6 1 (-1)), bst (tbl (aRun A c) (cel A c) (cel A c - p - 1)) p (cel A c) 6 1 (-1)) := by
      unfold aClo uv
      rw [if_neg (by omega), if_neg (by omega), hp, Nat.add_zero]
    unfold wp_X5_closes_L34
    simp (disch := omega) only [zl_0, zl_1, zl_2, zl_3, zl_4, zl_5, zl_6, zl_7, zl_8, zl_9, zl_10, zl_11, zl_12, zl_24, zl_31, zl_32, zl_33, zl_36, zl_48, zl_49, zl_54, zl_59, zl_60, zl_61, zl_97, zl_99, zl_102, zl_126, zl_180, zl_360, zl_376, zl_1880, zl_2256, zl_2903, z_add, z_sub, z_mul, z_neg, z_lt, z_le, z_eq, z_in]
    rw [ea] at kk
    refine wT (by omega) (kk f' ?_)
    rw [show tak A c = p by omega]
    exact h5
  | succ d ih =>
    intro p b j f hj hp hpe hf
    subst hj
    unfold wp_X5_closes_L34
    rw [fw_f]
    simp (disch := omega) only [zl_0, zl_1, zl_2, zl_3, zl_4, zl_5, zl_6, zl_7, zl_8, zl_9, zl_10, zl_11, zl_12, zl_24, zl_31, zl_32, zl_33, zl_36, zl_48, zl_49, zl_54, zl_59, zl_60, zl_61, zl_97, zl_99, zl_102, zl_126, zl_180, zl_360, zl_376, zl_1880, zl_2256, zl_2903, z_add, z_sub, z_mul, z_neg, z_lt, z_le, z_eq, z_in]
    rw [ez _ (by omega) (by omega), Int.toNat_natCast]
    refine wF (by omega) ⟨by omega, fun v2 hv => ⟨7, ?_⟩⟩
    rw [fw_fw] at hv
    subst hv
    refine X5_closes_in_ok hR hW hc hpe (n := 6) (s := 1) rfl (Nat.le_refl _) rfl (.inl rfl) (upd_eq rfl) (fun q h5 h6 => by rw [upd_ne (by omega)]; exact hf q h5 h6) (fun f' h5 h6 => ?_)
    refine ih (p := p - 1) (by omega) (by omega) (by omega) (fun q h7 h8 => ?_)
    by_cases h9 : q = p
    · rw [h9, h5]
      unfold uv
      rw [if_neg (by omega)]
    · exact h6 q (by omega) h8
theorem X5_closes_ok {vd : Md} {A : Ab} (hR : RepM vd.1 A) (hW : Wf A) {c : Nat} (hc : c < 6) {ip jb : Int} (hi : ip = c) {b : Bool} (hb : jb = bB b) {post : Int32 → Md → Prop} (kk : ∀ f : Nat → Int32, post (zz (if b then (aClo A c).2 else (aClo A c).1)) (fewW vd f)) : wp_X5_closes vd (zz ip) (zz jb) post := by
  subst hi
  have h2 := cel_r hW hc
  have h3 := hW.2.2.2.2.1 c hc
  have ez : ∀ x : Int, 0 ≤ x → x < 1000 → (zz x).toNatClampNeg = x.toNat := fun x h3 h4 => z_nat (by omega)
  have fin : ∀ f : Nat → Int32, f (tak A c) = zz (aClo A c).1 → ((zz jb = zz 0 → ((0 ≤ (tak A c : Int) ∧ (tak A c : Int) < ((61 : Nat) : Int)) ∧ post (f (tak A c)) (fewW vd f))) ∧ (¬ zz jb = zz 0 → post (zz (aClo A c).2) (fewW vd f))) := fun f hf => by
    subst hb
    have := kk f
    cases b
    · refine wT rfl ⟨by omega, ?_⟩
      rw [hf]
      exact this
    · exact wF (by decide) this
  unfold wp_X5_closes
  refine X5_cells_ok hR hW hc rfl (X5_taken_ok hR hW hc rfl ?_)
  rw [z_in (by omega)]
  refine ⟨by omega, fun v1 hv => ?_⟩
  have hv1 : v1 = fewW vd (upd vd.2.2.2.2.2.1 (zz (cel A c)).toNatClampNeg 0) := hv
  subst hv1
  clear hv
  have en : ∀ m : Nat, m < 1000 → (zz m).toNatClampNeg = m := fun m hm => by rw [ez _ (by omega) (by omega), Int.toNat_natCast]
  rw [en (cel A c) (by omega), en (tak A c) (by omega)]
  by_cases h : tak A c < cel A c
  · refine ⟨cel A c - 1 - tak A c + 2, ?_⟩
    rw [zl_1, z_sub, zl_0, z_neg]
    refine X5_closes_out_ok hR hW hc h ?_ (p := cel A c - 1) (by omega) (by omega) (by omega) (fun q h5 h6 => ?_)
    · intro f hf
      have := fin f hf
      rw [z_in (by omega)]
      exact this
    · have e : q = cel A c := by omega
      rw [upd_eq e]
      unfold uv
      rw [if_pos (by omega)]
  · refine ⟨1, ?_⟩
    have ea : aClo A c = (0, -1) := by unfold aClo; rw [if_pos (by omega)]
    unfold wp_X5_closes_L34
    rw [zl_1, z_sub, zl_0, z_neg, z_lt (by omega)]
    refine wT (by omega) ?_
    have := fin (upd vd.2.2.2.2.2.1 (cel A c) (zz 0)) (by rw [upd_eq (by omega), ea])
    rw [ea] at this
    rw [z_in (by omega)]
    exact this
