/-! THE CALLS of the reference: undo, ifFilled. -/
def thenW (vd : Md) (v : Nat → Int32) : Md := md_then vd v
theorem tw_2 {vd : Md} {v : Nat → Int32} : (thenW vd v).2.1 = v := rfl
theorem tw_1 {vd : Md} {v : Nat → Int32} : (thenW vd v).1 = vd.1 := rfl
theorem tw_tw {vd : Md} {v v' : Nat → Int32} : md_then (thenW vd v) v' = thenW vd v' := rfl
def aRr (A : Ab) (q : Nat) : Ab := (A.1, q, A.2.2)
theorem Wf.rr {A : Ab} (hW : Wf A) {q : Nat} (hq : q ≤ 2) : Wf (aRr A q) := ⟨hW.1, hq, hW.2.2⟩
theorem RepM.rr {v : Nat → Int32} {A : Ab} (hR : RepM v A) {q : Nat} : RepM (upd v 1 (zz q)) (aRr A q) := hR.chg (t := 1) (b := q) (by omega)
theorem aRul_rr {A : Ab} {q c r n ch s : Nat} : aRul (aRr A q) c r n ch s = aRul A c r n ch s := by
  induction n generalizing ch s with
  | zero => rfl
  | succ n ih => unfold aRul; rw [ih]; rfl
theorem aFil_rr {A : Ab} {q c n : Nat} : aFil (aRr A q) c n = aFil A c n := by
  induction n with
  | zero => rfl
  | succ n ih => unfold aFil; rw [ih]; rfl
theorem aStep_rr {A : Ab} {q c r : Nat} : aStep (aRr A q) c r = aStep A c r := by
  unfold aStep
  rw [aRul_rr, aFil_rr]
  rfl
theorem aFills_rr {q c r n : Nat} {A : Ab} : aFills c r n (aRr A q) = ((aFills c r n A).1, aRr (aFills c r n A).2 q) := by
  induction n generalizing A with
  | zero => rfl
  | succ n ih =>
    unfold aFills
    rw [aStep_rr]
    by_cases h : (aStep A c r).1 = 0
    · rw [if_pos h, if_pos h]
    · rw [if_neg h, if_neg h]
      have e : aPut (aRr A q) c (aStep A c r).1 (aStep A c r).2 = aRr (aPut A c (aStep A c r).1 (aStep A c r).2) q := rfl
      rw [e, ih]
theorem aFA_rr {q r n : Nat} {A : Ab} : aFA r n (aRr A q) = aRr (aFA r n A) q := by
  induction n generalizing A with
  | zero => rfl
  | succ n ih =>
    unfold aFA
    rw [aFills_rr]
    exact ih
theorem X5_tries_L_ok {vd : Md} {K : Md → Prop} (kk : ∀ f1 : Nat → Int32, (∀ j, j < 376 → f1 j = vd.1 j) → K (thenW vd f1)) {n : Nat} : ∀ {p : Nat} {i : Int} {g : Nat → Int32}, i = p → p + n = 376 → (∀ j, j < p → g j = vd.1 j) → wp_X5_tries_L2 K (n + 1) (zz i) (thenW vd g) := by
  induction n with
  | zero =>
    intro p i g hi hn h1
    subst hi
    unfold wp_X5_tries_L2
    simp (disch := omega) only [zl_0, zl_1, zl_2, zl_3, zl_4, zl_5, zl_6, zl_7, zl_8, zl_9, zl_10, zl_11, zl_12, zl_24, zl_31, zl_32, zl_33, zl_36, zl_48, zl_49, zl_54, zl_59, zl_60, zl_61, zl_97, zl_99, zl_102, zl_126, zl_180, zl_360, zl_376, zl_1880, zl_2256, zl_2903, z_add, z_sub, z_mul, z_neg, z_lt, z_le, z_eq, z_in]
    exact wT (by omega) (kk g (fun j hj => h1 j (by omega)))
  | succ n ih =>
    intro p i g hi hn h1
    subst hi
    unfold wp_X5_tries_L2
    rw [tw_1, tw_2]
    simp (disch := omega) only [zl_0, zl_1, zl_2, zl_3, zl_4, zl_5, zl_6, zl_7, zl_8, zl_9, zl_10, zl_11, zl_12, zl_24, zl_31, zl_32, zl_33, zl_36, zl_48, zl_49, zl_54, zl_59, zl_60, zl_61, zl_97, zl_99, zl_102, zl_126, zl_180, zl_360, zl_376, zl_1880, zl_2256, zl_2903, z_add, z_sub, z_mul, z_neg, z_lt, z_le, z_eq, z_in]
    rw [z_nat (by omega), Int.toNat_natCast]
    refine wF (by omega) ⟨by omega, by omega, fun v1 hv => ?_⟩
    rw [tw_tw] at hv
    subst hv
    refine ih (p := p + 1) (by omega) (by omega) (fun j hj => ?_)
    by_cases e : j = p
    · rw [upd_eq e, e]
    · rw [upd_ne e]; exact h1 j (by omega)
theorem X5_tries_ok {vd : Md} {A : Ab} (hR : RepM vd.1 A) (hW : Wf A) {post : Md → Prop} (k : ∀ v, RepM v A → post (thenW vd v)) : wp_X5_tries vd post := by
  refine ⟨377, ?_⟩
  have e : vd = thenW vd vd.2.1 := rfl
  have h := X5_tries_L_ok (vd := vd) (K := fun e2 => post e2) (fun f1 hf => k f1 (hR.congr hW hf)) (n := 376) (p := 0) (i := 0) (g := vd.2.1) rfl rfl (fun j hj => absurd hj (Nat.not_lt_zero _))
  rw [← e] at h
  exact h
theorem X5_byFilling_ok {vd : Md} {A : Ab} (hR : RepM vd.1 A) (hW : Wf A) {c r w : Nat} (hc : c < 6) (hr : r ≤ 2) (hw : w ≤ 2) {ic ir iw : Int} (h1 : ic = c) (h2 : ir = r) (h3 : iw = w) {post : Int32 → Md → Prop} (k : ∀ v, post (zz (aIf A c r w)) (thenW vd v)) : wp_X5_byFilling vd (zz ic) (zz ir) (zz iw) post := by
  subst h1 h2 h3
  unfold wp_X5_byFilling
  refine X5_tries_ok hR hW (fun v1 hv1 v2 hv2 => ?_)
  rw [tw_2, tw_tw, zl_1, z_nat (by omega)] at hv2
  subst hv2
  rw [tw_2]
  refine X5_fills_ok (A := aRr A r) hv1.rr (hW.rr hr) hc rfl (fun v3 hv3 => ?_)
  have hW2 := (hW.rr hr).fills (r := aR (aRr A r)) (n := 60) hc
  have ea : aR (aRr A r) = r := rfl
  rw [ea, aFills_rr] at hv3 hW2 ⊢
  unfold aIf at k
  generalize aFills c r 60 A = X at k hv3 hW2 ⊢
  show ((zz w = 0 → wp_X5_cells v3 (zz c) _) ∧ (¬ zz w = 0 → ((zz w = 1 → post (zz X.1) (thenW vd v3)) ∧ (¬ zz w = 1 → wp_X5_meeting v3 (zz c) 0 _))))
  rw [zl_0, zl_1, z_eq (by omega), z_eq (by omega)]
  refine wB rfl (fun h => ?_) (fun h => wB rfl (fun h1 => ?_) (fun h1 => ?_))
  · refine X5_cells_ok (A := aRr X.2 r) hv3 hW2 hc rfl (X5_taken_ok (A := aRr X.2 r) hv3 hW2 hc rfl ?_)
    have h3 := hW2.2.2.2.2.1 c hc
    have := k v3
    rw [if_pos (by omega)] at this
    have e1 : cel (aRr X.2 r) c = cel X.2 c := rfl
    have e2 : tak (aRr X.2 r) c = tak X.2 c := rfl
    rw [e1, e2] at h3 ⊢
    rw [z_sub, show (cel X.2 c : Int) - tak X.2 c = ((cel X.2 c - tak X.2 c : Nat) : Int) by omega]
    exact this
  · have := k v3
    rw [if_neg (by omega), if_pos (by omega)] at this
    exact this
  · have := k v3
    rw [if_neg (by omega), if_neg (by omega)] at this
    exact X5_meetingF_ok (A := aRr X.2 r) hv3 hW2 hc rfl this
theorem X5_ifFilled_ok {vd : Md} {S : SS} (hM : InvM vd S) (hW : WfS S) {a : Int} {b : Int} {d : Int} (ha : i32 a) (hb : i32 b) (hd : i32 d)  {post : Int32 → Md → Prop} (k : ∀ r vd1, InvM vd1 (o_ifFilled S a b d).2.2 → thr vd1 = zz (o_ifFilled S a b d).1 → ((o_ifFilled S a b d).1 = 0 → r = (o_ifFilled S a b d).2.1) → post r vd1) : wp_X5_ifFilled vd (zz a) (zz b) (zz d)  post := by
  unfold i32 at *
  unfold wp_X5_ifFilled
  intro v1 hv1
  subst hv1
  have no1 : ¬ isC a → wp_X5_fails (md_thrown vd 0) 1 post := fun h v2 h2 => by
    subst h2
    have e : o_ifFilled S a b d = (1, 0, S) := by unfold o_ifFilled; rw [if_pos h]
    rw [e] at k
    exact k _ _ hM rfl nz
  refine X5_isCourse_ok ha (fun h => wF (by decide) ?_) (fun h => wT rfl (no1 h))
  have no2 : ¬ ((0 ≤ b ∧ b ≤ 2) ∧ 0 ≤ d ∧ d ≤ 2) → wp_X5_fails (md_thrown vd 0) 2 post := fun h1 v2 h2 => by
    subst h2
    have e : o_ifFilled S a b d = (2, 0, S) := by unfold o_ifFilled; rw [if_neg (fun h2 => h2 h), if_pos h1]
    rw [e] at k
    exact k _ _ hM rfl nz
  refine X5_in_ok (lo := 0) (hi := 2) hb (by unfold i32; omega) (by unfold i32; omega) (fun h1 => wF (by decide) ?_) (fun h1 => wT rfl (no2 (fun h2 => h1 h2.1)))
  refine X5_in_ok (lo := 0) (hi := 2) hd (by unfold i32; omega) (by unfold i32; omega) (fun h2 => wF (by decide) ?_) (fun h2 => wT rfl (no2 (fun h3 => h2 h3.2)))
  have e : o_ifFilled S a b d = (0, zz (aIf S.1 a.toNat b.toNat d.toNat), S) := by unfold o_ifFilled; rw [if_neg (fun h2 => h2 h), if_neg (fun h3 => h3 ⟨h1, h2⟩)]
  rw [e] at k
  exact X5_byFilling_ok (A := S.1) (vd := md_thrown vd 0) hM.1 hW.1 (c := a.toNat) (r := b.toNat) (w := d.toNat) (by omega) (by omega) (by omega) (by omega) (by omega) (by omega) (fun v => k _ _ ⟨hM.1, hM.2⟩ rfl (fun _ => rfl))
theorem X5_undo_L_ok {vd : Md} {m : Nat} (hm : m ≤ 5) (hk : vd.2.2.2.2.2.2.1 = zz m) {K : Md → Prop} (kk : ∀ f1 : Nat → Int32, (∀ j, j < 376 → f1 j = vd.2.2.1 (376 * m + j)) → K (nowW vd f1)) {n : Nat} : ∀ {p : Nat} {i : Int} {g : Nat → Int32}, i = p → p + n = 376 → (∀ j, j < p → g j = vd.2.2.1 (376 * m + j)) → wp_X5_undo_L30 K (n + 1) (zz i) (nowW vd g) := by
  have e1 : ∀ g, (nowW vd g).2.2.2.2.2.2.1 = zz m := fun g => hk
  have e2 : ∀ g, (nowW vd g).2.2.1 = vd.2.2.1 := fun g => rfl
  induction n with
  | zero =>
    intro p i g hi hn h1
    subst hi
    unfold wp_X5_undo_L30
    simp (disch := omega) only [zl_0, zl_1, zl_2, zl_3, zl_4, zl_5, zl_6, zl_7, zl_8, zl_9, zl_10, zl_11, zl_12, zl_24, zl_31, zl_32, zl_33, zl_36, zl_48, zl_49, zl_54, zl_59, zl_60, zl_61, zl_97, zl_99, zl_102, zl_126, zl_180, zl_360, zl_376, zl_1880, zl_2256, zl_2903, z_add, z_sub, z_mul, z_neg, z_lt, z_le, z_eq, z_in]
    exact wT (by omega) (kk g (fun j hj => h1 j (by omega)))
  | succ n ih =>
    intro p i g hi hn h1
    subst hi
    unfold wp_X5_undo_L30
    rw [nw_1, e1, e2]
    simp (disch := omega) only [zl_0, zl_1, zl_2, zl_3, zl_4, zl_5, zl_6, zl_7, zl_8, zl_9, zl_10, zl_11, zl_12, zl_24, zl_31, zl_32, zl_33, zl_36, zl_48, zl_49, zl_54, zl_59, zl_60, zl_61, zl_97, zl_99, zl_102, zl_126, zl_180, zl_360, zl_376, zl_1880, zl_2256, zl_2903, z_add, z_sub, z_mul, z_neg, z_lt, z_le, z_eq, z_in]
    rw [z_nat (by omega), z_nat (by omega), Int.toNat_natCast, show (376 * (m : Int) + p).toNat = 376 * m + p by omega]
    refine wF (by omega) ⟨by omega, by omega, fun v1 hv => ?_⟩
    rw [nw_nw] at hv
    subst hv
    refine ih (p := p + 1) (by omega) (by omega) (fun j hj => ?_)
    by_cases e : j = p
    · rw [upd_eq e, e]
    · rw [upd_ne e]; exact h1 j (by omega)
theorem X5_undo_ok {vd : Md} {S : SS} (hM : InvM vd S) (hW : WfS S)    {post : Int32 → Md → Prop} (k : ∀ r vd1, InvM vd1 (o_undo S).2.2 → thr vd1 = zz (o_undo S).1 → ((o_undo S).1 = 0 → r = (o_undo S).2.1) → post r vd1) : wp_X5_undo vd   post := by
  obtain ⟨A, H, n, ch⟩ := S
  obtain ⟨hR, ⟨hP1, hP2, hP3⟩, hX⟩ := hM
  have hP1' : vd.2.2.2.2.2.2.1 = zz H.length := hP1
  have hP2' : H.length ≤ 6 := hP2
  unfold wp_X5_undo
  intro v1 hv1
  subst hv1
  show ((vd.2.2.2.2.2.2.1 = 0 → _) ∧ (¬ vd.2.2.2.2.2.2.1 = 0 → _))
  rw [hP1', zl_0, z_eq (by omega)]
  cases H with
  | nil =>
    refine wT rfl (fun v2 hv2 => ?_)
    subst hv2
    exact k _ _ ⟨hR, ⟨hP1, hP2, hP3⟩, hX⟩ rfl nz
  | cons B H =>
    refine wF (by rw [List.length_cons]; omega) (fun v3 hv3 => ⟨377, ?_⟩)
    have hl : (B :: H).length = H.length + 1 := rfl
    have ek : zz (B :: H).length - 1 = zz H.length := by
      rw [zl_1, z_sub, hl]
      refine congrArg zz ?_
      omega
    rw [ek] at hv3
    have e3 : v3 = nowW v3 vd.1 := by rw [hv3]; rfl
    rw [e3]
    have hp3 : v3.2.2.1 = vd.2.2.1 := by rw [hv3]
    have hk3 : v3.2.2.2.2.2.2.1 = zz H.length := by rw [hv3]
    have hx3 : RepX v3.2.2.2.1 v3.2.2.2.2.2.2.2.1 n ch := by rw [hv3]; exact hX
    have ht3 : thr v3 = zz 0 := by rw [hv3]; rfl
    clear e3 hv3
    refine X5_undo_L_ok (m := H.length) (by omega) hk3 (fun f1 hf1 => ?_) (n := 376) (p := 0) rfl rfl (fun j hj => absurd hj (Nat.not_lt_zero _))
    have hWB : Wf B := hW.2.1 B (List.mem_cons_self)
    show post v3.2.2.2.2.2.2.1 (nowW v3 f1)
    rw [hk3]
    have e : o_undo (A, B :: H, n, ch) = (0, zz H.length, (B, H, n, ch)) := rfl
    rw [e] at k
    have hl6 : H.length ≤ 6 := by omega
    refine k _ _ ⟨?_, ⟨hk3, hl6, fun i C hC => ?_⟩, hx3⟩ ht3 (fun _ => rfl)
    · have h0 := hP3 0 B rfl
      refine h0.congr hWB (fun j hj => ?_)
      show f1 j = vd.2.2.1 (376 * ((B :: H).length - 1 - 0) + j)
      rw [hf1 j hj, hp3, hl]
      rfl
    · have h9 := at_lt hC
      have h9' : i < H.length := h9
      have h1 : RepM (fun k => vd.2.2.1 (376 * ((B :: H).length - 1 - (i + 1)) + k)) C := hP3 (i + 1) C hC
      rw [hl, show H.length + 1 - 1 - (i + 1) = H.length - 1 - i by omega] at h1
      show RepM (fun k => v3.2.2.1 (376 * (H.length - 1 - i) + k)) C
      rw [hp3]
      exact h1
