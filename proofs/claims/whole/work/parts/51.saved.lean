/-! The saved states: a ring of places in the class, a row that is shifted in the reference. -/
def sav (A : Ab) (H : List Ab) : List Ab := (A :: H).take 6
def RepH (h : Hi) (H : List Ab) : Prop := ∃ nx : Nat, nx < 6 ∧ h.1 = zz nx ∧ h.2.1 = zz H.length ∧ H.length ≤ 6 ∧ ∀ i B, H[i]? = some B → RepC (h.2.2 ((nx + 5 - i) % 6)) B
def RepP (past : Nat → Int32) (kept : Int32) (H : List Ab) : Prop := kept = zz H.length ∧ H.length ≤ 6 ∧ ∀ i B, H[i]? = some B → RepM (fun k => past (376 * (H.length - 1 - i) + k)) B
theorem RepM.congr {v v' : Nat → Int32} {A : Ab} (hW : Wf A) (h : RepM v A) (e : ∀ k, k < 376 → v' k = v k) : RepM v' A := by
  obtain ⟨r1, r2, r3, r4, r5, r6, r7⟩ := h
  refine ⟨(e 0 (by omega)).trans r1, (e 1 (by omega)).trans r2, (e 2 (by omega)).trans r3, (e 3 (by omega)).trans r4, fun s h1 h2 => (e _ (by omega)).trans (r5 s h1 h2), fun c hc => (e _ (by omega)).trans (r6 c hc), fun c k hc hk => ?_⟩
  have := aK_60 hW hc
  exact (e _ (by omega)).trans (r7 c k hc hk)
theorem sav_len {A : Ab} {H : List Ab} (h : H.length ≤ 6) : (sav A H).length = if H.length = 6 then 6 else H.length + 1 := by
  unfold sav
  rw [List.length_take]
  show min 6 (H.length + 1) = _
  split <;> omega
theorem sav_at {A B : Ab} {H : List Ab} {i : Nat} (h : (sav A H)[i]? = some B) : i < 6 ∧ ((i = 0 ∧ B = A) ∨ (1 ≤ i ∧ H[i - 1]? = some B)) := by
  unfold sav at h
  rw [List.getElem?_take] at h
  by_cases h6 : i < 6
  · rw [if_pos h6] at h
    refine ⟨h6, ?_⟩
    cases i with
    | zero => exact .inl ⟨rfl, (Option.some.inj h).symm⟩
    | succ i => exact .inr ⟨by omega, h⟩
  · rw [if_neg h6] at h
    cases h
theorem at_lt {B : Ab} {H : List Ab} {i : Nat} (h : H[i]? = some B) : i < H.length := (List.getElem?_eq_some_iff.mp h).1
theorem X1_save_ok {vh : Hi} {vm : Mo} {A : Ab} {H : List Ab} (hH : RepH vh H) (hR : RepC vm A) {post : Hi → Prop} (k : ∀ vh1, RepH vh1 (sav A H) → post vh1) : wp_X1_save vh vm post := by
  obtain ⟨nx, h6, e1, e2, h7, hS⟩ := hH
  have key : ∀ j : Nat, j = nx → wp_X2_become (vh.2.2 j) vm (fun u16_1 => (∀ vh_2 : Hi, vh_2 = hi_n (hi_s vh j (u16_1)) ((((hi_s vh j (u16_1)).1 + 1) - ((hi_s vh j (u16_1)).1 + 1) / 6 * 6)) → (∀ vh_3 : Hi, vh_3 = hi_m vh_2 ((if 6 < (vh_2.2.1 + 1) then (6 : Int32) else (vh_2.2.1 + 1))) → post vh_3))) := fun j hj => by
    subst hj
    refine X2_become_ok hR (fun w1 h1 v2 h2 v3 h3 => ?_)
    subst h2 h3
    refine k _ ⟨(j + 1) % 6, by omega, ?_, ?_, ?_, fun i B hB => ?_⟩
    · show vh.1 + 1 - (vh.1 + 1) / 6 * 6 = _
      rw [e1]
      simp (disch := omega) only [zl_0, zl_1, zl_2, zl_3, zl_4, zl_5, zl_6, zl_7, zl_8, zl_9, zl_10, zl_11, zl_12, zl_24, zl_31, zl_32, zl_33, zl_36, zl_48, zl_49, zl_54, zl_59, zl_60, zl_61, zl_97, zl_99, zl_102, zl_126, zl_180, zl_360, zl_376, zl_1880, zl_2256, zl_2903, z_add, z_sub, z_mul, z_neg, z_lt, z_le, z_eq, z_in, z_div]
      omega
    · show (if 6 < vh.2.1 + 1 then (6 : Int32) else vh.2.1 + 1) = _
      rw [e2, sav_len h7]
      simp (disch := omega) only [zl_0, zl_1, zl_2, zl_3, zl_4, zl_5, zl_6, zl_7, zl_8, zl_9, zl_10, zl_11, zl_12, zl_24, zl_31, zl_32, zl_33, zl_36, zl_48, zl_49, zl_54, zl_59, zl_60, zl_61, zl_97, zl_99, zl_102, zl_126, zl_180, zl_360, zl_376, zl_1880, zl_2256, zl_2903, z_add, z_sub, z_mul, z_neg, z_lt, z_le, z_eq, z_in]
      split
      · rw [if_pos (by omega)]; rfl
      · rw [if_neg (by omega)]; rfl
    · rw [sav_len h7]; split <;> omega
    · obtain ⟨hi6, h⟩ := sav_at hB
      show RepC ((fun q => if q = j then w1 else vh.2.2 q) (((j + 1) % 6 + 5 - i) % 6)) B
      rcases h with ⟨h, rfl⟩ | ⟨h, h8⟩
      · subst h
        rw [show ((j + 1) % 6 + 5 - 0) % 6 = j by omega]
        show RepC (if j = j then w1 else _) B
        rw [if_pos rfl]
        exact h1
      · have h9 := at_lt h8
        show RepC (if ((j + 1) % 6 + 5 - i) % 6 = j then w1 else vh.2.2 (((j + 1) % 6 + 5 - i) % 6)) B
        rw [if_neg (by omega), show ((j + 1) % 6 + 5 - i) % 6 = (j + 5 - (i - 1)) % 6 by omega]
        exact hS (i - 1) B h8
  unfold wp_X1_save
  refine ⟨by rw [e1, z_in (by omega)]; omega, fun h => key 0 ?_, fun h => key 1 ?_, fun h => key 2 ?_, fun h => key 3 ?_, fun h => key 4 ?_, fun h => key 5 ?_⟩
  all_goals (rw [e1] at h; simp (disch := omega) only [zl_0, zl_1, zl_2, zl_3, zl_4, zl_5, z_eq] at h; omega)
theorem X1_restore_ok {vh : Hi} {vm : Mo} {B : Ab} {H : List Ab} (hH : RepH vh (B :: H)) {post : Hi × Mo → Prop} (k : ∀ vh1 vm1, RepH vh1 H → RepC vm1 B → post (vh1, vm1)) : wp_X1_restore vh vm post := by
  obtain ⟨nx, h6, e1, e2, h7, hS⟩ := hH
  have hl : (B :: H).length = H.length + 1 := rfl
  rw [hl] at e2 h7
  have key : ∀ j : Nat, j = (nx + 5) % 6 → wp_X2_become vm (vh.2.2 j) (fun u31_1 => (∀ vh_2 : Hi, vh_2 = hi_n vh ((((vh.1 + 6) - 1) - ((vh.1 + 6) - 1) / 6 * 6)) → (∀ vh_3 : Hi, vh_3 = hi_m vh_2 ((vh_2.2.1 - 1)) → post (vh_3, u31_1)))) := fun j hj => by
    refine X2_become_ok (hj ▸ hS 0 B rfl) (fun w1 h1 v2 h2 v3 h3 => ?_)
    subst h2 h3
    refine k _ _ ⟨(nx + 5) % 6, by omega, ?_, ?_, by omega, fun i C hC => ?_⟩ h1
    · show vh.1 + 6 - 1 - (vh.1 + 6 - 1) / 6 * 6 = _
      rw [e1]
      simp (disch := omega) only [zl_0, zl_1, zl_2, zl_3, zl_4, zl_5, zl_6, zl_7, zl_8, zl_9, zl_10, zl_11, zl_12, zl_24, zl_31, zl_32, zl_33, zl_36, zl_48, zl_49, zl_54, zl_59, zl_60, zl_61, zl_97, zl_99, zl_102, zl_126, zl_180, zl_360, zl_376, zl_1880, zl_2256, zl_2903, z_add, z_sub, z_mul, z_neg, z_lt, z_le, z_eq, z_in, z_div]
      omega
    · show vh.2.1 - 1 = _
      rw [e2]
      simp (disch := omega) only [zl_0, zl_1, zl_2, zl_3, zl_4, zl_5, zl_6, zl_7, zl_8, zl_9, zl_10, zl_11, zl_12, zl_24, zl_31, zl_32, zl_33, zl_36, zl_48, zl_49, zl_54, zl_59, zl_60, zl_61, zl_97, zl_99, zl_102, zl_126, zl_180, zl_360, zl_376, zl_1880, zl_2256, zl_2903, z_add, z_sub, z_mul, z_neg, z_lt, z_le, z_eq, z_in]
      omega
    · have h9 := at_lt hC
      show RepC (vh.2.2 (((nx + 5) % 6 + 5 - i) % 6)) C
      rw [show ((nx + 5) % 6 + 5 - i) % 6 = (nx + 5 - (i + 1)) % 6 by omega]
      exact hS (i + 1) C hC
  unfold wp_X1_restore
  have ee : vh.1 + 6 - 1 - (vh.1 + 6 - 1) / 6 * 6 = zz ((nx + 5) % 6 : Nat) := by
    rw [e1]
    simp (disch := omega) only [zl_0, zl_1, zl_2, zl_3, zl_4, zl_5, zl_6, zl_7, zl_8, zl_9, zl_10, zl_11, zl_12, zl_24, zl_31, zl_32, zl_33, zl_36, zl_48, zl_49, zl_54, zl_59, zl_60, zl_61, zl_97, zl_99, zl_102, zl_126, zl_180, zl_360, zl_376, zl_1880, zl_2256, zl_2903, z_add, z_sub, z_mul, z_neg, z_lt, z_le, z_eq, z_in, z_div]
    omega
  refine wF (by rw [e2, zl_0, z_eq (by omega)]; omega) ?_
  refine ⟨by rw [ee, z_in (by omega)]; omega, fun h => key 0 ?_, fun h => key 1 ?_, fun h => key 2 ?_, fun h => key 3 ?_, fun h => key 4 ?_, fun h => key 5 ?_⟩
  all_goals (rw [ee] at h; simp (disch := omega) only [zl_0, zl_1, zl_2, zl_3, zl_4, zl_5, z_eq] at h; omega)
def pastW (vd : Md) (f : Nat → Int32) (x : Int32) : Md := md_kept (md_past vd f) x
theorem pw_p {vd : Md} {f : Nat → Int32} {x : Int32} : (pastW vd f x).2.2.1 = f := rfl
theorem pw_k {vd : Md} {f : Nat → Int32} {x : Int32} : (pastW vd f x).2.2.2.2.2.2.1 = x := rfl
theorem pw_1 {vd : Md} {f : Nat → Int32} {x : Int32} : (pastW vd f x).1 = vd.1 := rfl
theorem pw_pw {vd : Md} {f f' : Nat → Int32} {x : Int32} : md_past (pastW vd f x) f' = pastW vd f' x := rfl
theorem pw_kw {vd : Md} {f : Nat → Int32} {x x' : Int32} : md_kept (pastW vd f x) x' = pastW vd f x' := rfl
theorem X5_saves_L11_ok {vd : Md} {f : Nat → Int32} {x : Int32} {K : Md → Prop} (kk : ∀ f1 : Nat → Int32, (∀ j, j < 1880 → f1 j = f (j + 376)) → K (pastW vd f1 x)) {n : Nat} : ∀ {p : Nat} {i : Int} {g : Nat → Int32}, i = p → p + n = 1880 → (∀ j, j < p → g j = f (j + 376)) → (∀ j, p ≤ j → g j = f j) → wp_X5_saves_L11 K (n + 1) (zz i) (pastW vd g x) := by
  induction n with
  | zero =>
    intro p i g hi hn h1 h2
    subst hi
    unfold wp_X5_saves_L11
    simp (disch := omega) only [zl_0, zl_1, zl_2, zl_3, zl_4, zl_5, zl_6, zl_7, zl_8, zl_9, zl_10, zl_11, zl_12, zl_24, zl_31, zl_32, zl_33, zl_36, zl_48, zl_49, zl_54, zl_59, zl_60, zl_61, zl_97, zl_99, zl_102, zl_126, zl_180, zl_360, zl_376, zl_1880, zl_2256, zl_2903, z_add, z_sub, z_mul, z_neg, z_lt, z_le, z_eq, z_in]
    exact wT (by omega) (kk g (fun j hj => h1 j (by omega)))
  | succ n ih =>
    intro p i g hi hn h1 h2
    subst hi
    unfold wp_X5_saves_L11
    rw [pw_p]
    simp (disch := omega) only [zl_0, zl_1, zl_2, zl_3, zl_4, zl_5, zl_6, zl_7, zl_8, zl_9, zl_10, zl_11, zl_12, zl_24, zl_31, zl_32, zl_33, zl_36, zl_48, zl_49, zl_54, zl_59, zl_60, zl_61, zl_97, zl_99, zl_102, zl_126, zl_180, zl_360, zl_376, zl_1880, zl_2256, zl_2903, z_add, z_sub, z_mul, z_neg, z_lt, z_le, z_eq, z_in]
    rw [z_nat (by omega), z_nat (by omega), Int.toNat_natCast, show ((p : Int) + 376).toNat = p + 376 by omega, h2 (p + 376) (by omega)]
    refine wF (by omega) ⟨by omega, by omega, fun v1 hv => ?_⟩
    rw [pw_pw] at hv
    subst hv
    refine ih (p := p + 1) (by omega) (by omega) (fun j hj => ?_) (fun j hj => ?_)
    · by_cases e : j = p
      · rw [upd_eq e, e]
      · rw [upd_ne e]; exact h1 j (by omega)
    · rw [upd_ne (by omega)]; exact h2 j (by omega)
theorem X5_saves_L52_ok {vd : Md} {f : Nat → Int32} {m : Nat} (hm : m ≤ 5) {K : Md → Prop} (kk : ∀ f1 : Nat → Int32, (∀ j, j < 376 → f1 (376 * m + j) = vd.1 j) → (∀ j, j < 376 * m → f1 j = f j) → K (pastW vd f1 (zz m))) {n : Nat} : ∀ {p : Nat} {i : Int} {g : Nat → Int32}, i = p → p + n = 376 → (∀ j, j < p → g (376 * m + j) = vd.1 j) → (∀ j, j < 376 * m → g j = f j) → wp_X5_saves_L52 K (n + 1) (zz i) (pastW vd g (zz m)) := by
  induction n with
  | zero =>
    intro p i g hi hn h1 h2
    subst hi
    unfold wp_X5_saves_L52
    simp (disch := omega) only [zl_0, zl_1, zl_2, zl_3, zl_4, zl_5, zl_6, zl_7, zl_8, zl_9, zl_10, zl_11, zl_12, zl_24, zl_31, zl_32, zl_33, zl_36, zl_48, zl_49, zl_54, zl_59, zl_60, zl_61, zl_97, zl_99, zl_102, zl_126, zl_180, zl_360, zl_376, zl_1880, zl_2256, zl_2903, z_add, z_sub, z_mul, z_neg, z_lt, z_le, z_eq, z_in]
    exact wT (by omega) (kk g (fun j hj => h1 j (by omega)) h2)
  | succ n ih =>
    intro p i g hi hn h1 h2
    subst hi
    unfold wp_X5_saves_L52
    rw [pw_p, pw_k, pw_1]
    simp (disch := omega) only [zl_0, zl_1, zl_2, zl_3, zl_4, zl_5, zl_6, zl_7, zl_8, zl_9, zl_10, zl_11, zl_12, zl_24, zl_31, zl_32, zl_33, zl_36, zl_48, zl_49, zl_54, zl_59, zl_60, zl_61, zl_97, zl_99, zl_102, zl_126, zl_180, zl_360, zl_376, zl_1880, zl_2256, zl_2903, z_add, z_sub, z_mul, z_neg, z_lt, z_le, z_eq, z_in]
    rw [z_nat (by omega), z_nat (by omega), Int.toNat_natCast, show (376 * (m : Int) + p).toNat = 376 * m + p by omega]
    refine wF (by omega) ⟨by omega, by omega, fun v1 hv => ?_⟩
    rw [pw_pw] at hv
    subst hv
    refine ih (p := p + 1) (by omega) (by omega) (fun j hj => ?_) (fun j hj => ?_)
    · by_cases e : j = p
      · rw [upd_eq (by omega), e]
      · rw [upd_ne (by omega)]; exact h1 j (by omega)
    · rw [upd_ne (by omega)]; exact h2 j hj
theorem X5_saves_L52b_ok {vd : Md} {f : Nat → Int32} {m : Nat} (hm : m ≤ 5) {K : Md → Prop} (kk : ∀ f1 : Nat → Int32, (∀ j, j < 376 → f1 (376 * m + j) = vd.1 j) → (∀ j, j < 376 * m → f1 j = f j) → K (pastW vd f1 (zz m))) {n : Nat} : ∀ {p : Nat} {i : Int} {g : Nat → Int32}, i = p → p + n = 376 → (∀ j, j < p → g (376 * m + j) = vd.1 j) → (∀ j, j < 376 * m → g j = f j) → wp_X5_saves_L52b K (n + 1) (zz i) (pastW vd g (zz m)) := by
  induction n with
  | zero =>
    intro p i g hi hn h1 h2
    subst hi
    unfold wp_X5_saves_L52b
    simp (disch := omega) only [zl_0, zl_1, zl_2, zl_3, zl_4, zl_5, zl_6, zl_7, zl_8, zl_9, zl_10, zl_11, zl_12, zl_24, zl_31, zl_32, zl_33, zl_36, zl_48, zl_49, zl_54, zl_59, zl_60, zl_61, zl_97, zl_99, zl_102, zl_126, zl_180, zl_360, zl_376, zl_1880, zl_2256, zl_2903, z_add, z_sub, z_mul, z_neg, z_lt, z_le, z_eq, z_in]
    exact wT (by omega) (kk g (fun j hj => h1 j (by omega)) h2)
  | succ n ih =>
    intro p i g hi hn h1 h2
    subst hi
    unfold wp_X5_saves_L52b
    rw [pw_p, pw_k, pw_1]
    simp (disch := omega) only [zl_0, zl_1, zl_2, zl_3, zl_4, zl_5, zl_6, zl_7, zl_8, zl_9, zl_10, zl_11, zl_12, zl_24, zl_31, zl_32, zl_33, zl_36, zl_48, zl_49, zl_54, zl_59, zl_60, zl_61, zl_97, zl_99, zl_102, zl_126, zl_180, zl_360, zl_376, zl_1880, zl_2256, zl_2903, z_add, z_sub, z_mul, z_neg, z_lt, z_le, z_eq, z_in]
    rw [z_nat (by omega), z_nat (by omega), Int.toNat_natCast, show (376 * (m : Int) + p).toNat = 376 * m + p by omega]
    refine wF (by omega) ⟨by omega, by omega, fun v1 hv => ?_⟩
    rw [pw_pw] at hv
    subst hv
    refine ih (p := p + 1) (by omega) (by omega) (fun j hj => ?_) (fun j hj => ?_)
    · by_cases e : j = p
      · rw [upd_eq (by omega), e]
      · rw [upd_ne (by omega)]; exact h1 j (by omega)
    · rw [upd_ne (by omega)]; exact h2 j hj
theorem RepP_sav {past : Nat → Int32} {kept : Int32} {H : List Ab} (hP : RepP past kept H) (hWH : ∀ B, B ∈ H → Wf B) {A : Ab} (hW : Wf A) {v : Nat → Int32} (hR : RepM v A) {f : Nat → Int32} {d : Nat} (hd : d = if H.length = 6 then 1 else 0) (h1 : ∀ j, j < 376 → f (376 * (H.length - d) + j) = v j) (h2 : ∀ j, j < 376 * (H.length - d) → f j = past (j + 376 * d)) : RepP f (zz ((H.length - d + 1 : Nat))) (sav A H) := by
  obtain ⟨e1, h7, hS⟩ := hP
  have hl := sav_len (A := A) h7
  have hl2 : (sav A H).length = H.length - d + 1 := by rw [hl, hd]; split <;> omega
  refine ⟨by rw [hl2], by rw [hl]; split <;> omega, fun i B hB => ?_⟩
  obtain ⟨hi6, h⟩ := sav_at hB
  rw [hl2]
  have hd3 : (H.length = 6 ∧ d = 1) ∨ (H.length ≠ 6 ∧ d = 0) := by
    by_cases e : H.length = 6
    · rw [if_pos e] at hd; exact .inl ⟨e, hd⟩
    · rw [if_neg e] at hd; exact .inr ⟨e, hd⟩
  clear hd hl
  rcases h with ⟨h, rfl⟩ | ⟨h, h8⟩
  · subst h
    exact hR.congr hW (fun j hj => by rw [← h1 j hj]; congr 1)
  · have h9 := at_lt h8
    have hWB : Wf B := hWH B (List.mem_of_getElem? h8)
    refine (hS (i - 1) B h8).congr hWB (fun j hj => ?_)
    show f _ = past _
    rw [h2 _ (by omega)]
    congr 1
    omega
theorem X5_saves_ok {vd : Md} {A : Ab} {H : List Ab} (hR : RepM vd.1 A) (hW : Wf A) (hP : RepP vd.2.2.1 vd.2.2.2.2.2.2.1 H) (hWH : ∀ B, B ∈ H → Wf B) {post : Md → Prop} (k : ∀ f x, RepP f x (sav A H) → post (pastW vd f x)) : wp_X5_saves vd post := by
  have e1 := hP.1
  have h7 := hP.2.1
  unfold wp_X5_saves
  rw [e1]
  have e0 : vd = pastW vd vd.2.2.1 (zz H.length) := by rw [← e1]; rfl
  simp (disch := omega) only [zl_0, zl_1, zl_2, zl_3, zl_4, zl_5, zl_6, zl_7, zl_8, zl_9, zl_10, zl_11, zl_12, zl_24, zl_31, zl_32, zl_33, zl_36, zl_48, zl_49, zl_54, zl_59, zl_60, zl_61, zl_97, zl_99, zl_102, zl_126, zl_180, zl_360, zl_376, zl_1880, zl_2256, zl_2903, z_add, z_sub, z_mul, z_neg, z_lt, z_le, z_eq, z_in]
  refine wB rfl (fun h => ⟨1881, ?_⟩) (fun h => ⟨377, ?_⟩)
  · have h6 : H.length = 6 := by omega
    have hL := X5_saves_L11_ok (vd := vd) (f := vd.2.2.1) (x := zz H.length) (K := fun e2 => ∀ vd_3 : Md, vd_3 = md_kept e2 (e2.2.2.2.2.2.2.1 - zz 1) → ∃ N : Nat, wp_X5_saves_L52 (fun e5 => ∀ vd_6 : Md, vd_6 = md_kept e5 (e5.2.2.2.2.2.2.1 + zz 1) → post vd_6) N (zz 0) vd_3) (fun f1 hf1 v3 h3 => ⟨377, ?_⟩) (n := 1880) (p := 0) (i := 0) (g := vd.2.2.1) rfl rfl (fun j hj => absurd hj (Nat.not_lt_zero _)) (fun j _ => rfl)
    · rw [← e0] at hL
      exact hL
    · rw [pw_k, pw_kw, h6] at h3
      rw [show zz (6 : Nat) - zz 1 = zz (5 : Nat) from rfl] at h3
      subst h3
      refine X5_saves_L52_ok (vd := vd) (f := f1) (m := 5) (Nat.le_refl _) (fun f2 h8 h9 v6 h10 => ?_) (n := 376) (p := 0) rfl rfl (fun j hj => absurd hj (Nat.not_lt_zero _)) (fun j _ => rfl)
      rw [pw_k, pw_kw] at h10
      rw [show zz (5 : Nat) + zz 1 = zz (6 : Nat) from rfl] at h10
      subst h10
      have := RepP_sav hP hWH hW hR (f := f2) (d := 1) (by rw [if_pos h6]) (fun j hj => by rw [h6]; exact h8 j hj) (fun j hj => by rw [h6] at hj; rw [h9 j (by omega), hf1 j (by omega)])
      rw [h6] at this
      exact k f2 _ this
  · have hL := X5_saves_L52b_ok (vd := vd) (f := vd.2.2.1) (m := H.length) (by omega) (K := fun e8 => ∀ vd_9 : Md, vd_9 = md_kept e8 (e8.2.2.2.2.2.2.1 + zz 1) → post vd_9) (fun f2 h8 h9 v6 h10 => ?_) (n := 376) (p := 0) (i := 0) (g := vd.2.2.1) rfl rfl (fun j hj => absurd hj (Nat.not_lt_zero _)) (fun j _ => rfl)
    · rw [← e0] at hL
      exact hL
    · rw [pw_k, pw_kw] at h10
      have := RepP_sav hP hWH hW hR (f := f2) (d := 0) (by rw [if_neg (by omega)]) (fun j hj => h8 j hj) (fun j hj => h9 j hj)
      rw [z_add, show (H.length : Int) + 1 = ((H.length - 0 + 1 : Nat) : Int) by omega] at h10
      subst h10
      exact k f2 _ this
