/-! THE TEXT: the reference's reading. -/
def RepL (f : Nat → Int32) (T : List Tok) : Prop := ∀ k x, T[k]? = some x → f (3 * k) = zz x.1 ∧ f (3 * k + 1) = zz x.2.1 ∧ f (3 * k + 2) = zz (bB x.2.2)
def tdW (vd : Md) (f : Nat → Int32) (a q t : Int32) : Md := md_tolds (md_isFault (md_at (md_told vd f) a) q) t
theorem td_n {vd : Md} {f : Nat → Int32} {a q t : Int32} : (tdW vd f a q t).2.2.2.2.2.2.2.1 = vd.2.2.2.2.2.2.2.1 := rfl
theorem td_a {vd : Md} {f : Nat → Int32} {a q t : Int32} : (tdW vd f a q t).2.2.2.2.2.2.2.2.2.1 = a := rfl
theorem td_q {vd : Md} {f : Nat → Int32} {a q t : Int32} : (tdW vd f a q t).2.2.2.2.2.2.2.2.2.2.1 = q := rfl
theorem td_X {vd : Md} {f : Nat → Int32} {a q t : Int32} {n : Nat} {ch : Nat → Nat} (hX : RepX vd.2.2.2.1 vd.2.2.2.2.2.2.2.1 n ch) : RepX (tdW vd f a q t).2.2.2.1 (tdW vd f a q t).2.2.2.2.2.2.2.1 n ch := hX
theorem td_f {vd : Md} {f : Nat → Int32} {a q t : Int32} : (tdW vd f a q t).2.2.2.2.1 = f := rfl
theorem td_x {vd : Md} {f : Nat → Int32} {a q t : Int32} : (tdW vd f a q t).2.2.2.1 = vd.2.2.2.1 := rfl
theorem td_t {vd : Md} {f : Nat → Int32} {a q t : Int32} : (tdW vd f a q t).2.2.2.2.2.2.2.2.2.2.2 = t := rfl
theorem st_told {v vd : Md} {f f1 : Nat → Int32} {a q t : Int32} (e : v = md_told (tdW vd f a q t) f1) : v = tdW vd f1 a q t := e
theorem st_at {v vd : Md} {f : Nat → Int32} {a a1 q t : Int32} (e : v = md_at (tdW vd f a q t) a1) : v = tdW vd f a1 q t := e
theorem st_tolds {v vd : Md} {f : Nat → Int32} {a q t t1 : Int32} (e : v = md_tolds (tdW vd f a q t) t1) : v = tdW vd f a q t1 := e
theorem st_isF {v vd : Md} {f : Nat → Int32} {a q q1 t : Int32} (e : v = md_isFault (tdW vd f a q t) q1) : v = tdW vd f a q1 t := e
theorem let_md {v : Md} {P : Md → Prop} (h : P v) : ∀ w : Md, w = v → P w := fun w e => by subst e; exact h
def TI (ch : Nat → Nat) (n E : Nat) (C : Bool) (TT : List Tok) (i b c : Nat) (T : List Tok) : Prop := i ≤ n ∧ tErr ch (n - i) i b = E ∧ tCmp ch (n - i) i b = C ∧ T ++ tTok ch (n - i) i c = TT ∧ T.length ≤ i ∧ b < 1000
theorem tSuc {i n : Nat} (h : i < n) : n - i = (n - (i + 1)) + 1 := by omega
theorem TI.step {ch : Nat → Nat} {n E : Nat} {C : Bool} {TT : List Tok} {i b c : Nat} {T : List Tok} (h : TI ch n E C TT i b c T) (hi : i < n) (hm : tMay b (ch i) = true) : tErr ch (n - (i + 1)) (i + 1) (ch i) = E ∧ tCmp ch (n - (i + 1)) (i + 1) (ch i) = C := by
  obtain ⟨h1, h2, h3, h4, h5, h6⟩ := h
  rw [tSuc hi] at h2 h3
  unfold tErr at h2
  unfold tCmp at h3
  rw [if_pos hm] at h2 h3
  exact ⟨h2, h3⟩
theorem TI.bad {ch : Nat → Nat} {n E : Nat} {C : Bool} {TT : List Tok} {i b c : Nat} {T : List Tok} (h : TI ch n E C TT i b c T) (hi : i < n) (hm : tMay b (ch i) = false) : E = i ∧ C = false := by
  obtain ⟨h1, h2, h3, h4, h5, h6⟩ := h
  rw [tSuc hi] at h2 h3
  unfold tErr at h2
  unfold tCmp at h3
  rw [hm, if_neg (by decide)] at h2 h3
  exact ⟨h2.symm, h3.symm⟩
theorem TI.fin {ch : Nat → Nat} {n E : Nat} {C : Bool} {TT : List Tok} {i b c : Nat} {T : List Tok} (h : TI ch n E C TT i b c T) (hi : ¬ i < n) : i = n ∧ E = n ∧ C = tEnd b ∧ T = TT := by
  obtain ⟨h1, h2, h3, h4, h5, h6⟩ := h
  rw [show n - i = 0 by omega] at h2 h3 h4
  have h2 : i = E := h2
  have h3 : tEnd b = C := h3
  have h4 : T ++ [] = TT := h4
  rw [List.append_nil] at h4
  exact ⟨by omega, by omega, h3.symm, h4⟩
theorem tTok_c {ch : Nat → Nat} {n i c : Nat} (hi : i < n) (h : tC (ch i) = true) : tTok ch (n - i) i c = tTok ch (n - (i + 1)) (i + 1) (ch i - 97) := by
  rw [tSuc hi]
  show (if tC (ch i) = true then _ else _) = _
  rw [if_pos h]
theorem tTok_o {ch : Nat → Nat} {n i c : Nat} (hi : i < n) (h : tC (ch i) = false) (h1 : tZ (ch i) = false) : tTok ch (n - i) i c = tTok ch (n - (i + 1)) (i + 1) c := by
  rw [tSuc hi]
  show (if tC (ch i) = true then _ else if tZ (ch i) = true then _ else _) = _
  rw [h, h1, if_neg (by decide), if_neg (by decide)]
theorem tTok_z {ch : Nat → Nat} {n i c : Nat} (hi : i < n) (h1 : tZ (ch i) = true) : tTok ch (n - i) i c = (c, ch i - 48, decide (i + 1 < n ∧ ch (i + 1) = 33)) :: tTok ch (n - (i + 1)) (i + 1) c := by
  have h := tC_n (x := ch i) (by have := tZ_t h1; omega)
  rw [tSuc hi]
  show (if tC (ch i) = true then _ else if tZ (ch i) = true then _ else _) = _
  rw [h, h1, if_neg (by decide), if_pos rfl]
  have e : (0 < n - (i + 1) ∧ ch (i + 1) = 33) = (i + 1 < n ∧ ch (i + 1) = 33) := by rw [show (0 < n - (i + 1)) = (i + 1 < n) from propext ⟨fun h => by omega, fun h => by omega⟩]
  simp only [e]
theorem tEnd_z {b : Nat} (h : tZ b = true) : tEnd b = true := if_pos h
theorem tMay_z {b x : Nat} (h : tZ x = true) (hb : b ≠ 59) : tMay b x = true := by
  unfold tMay
  rw [if_neg hb]
  split
  · exact h
  · first | rfl | exact if_pos h
theorem RepL.snoc {f : Nat → Int32} {T : List Tok} (h : RepL f T) {c s : Nat} {fl : Bool} : RepL (upd (upd (upd f (3 * T.length) (zz c)) (3 * T.length + 1) (zz s)) (3 * T.length + 2) (zz (bB fl))) (T ++ [(c, s, fl)]) := by
  intro k x hk
  by_cases h1 : k < T.length
  · rw [List.getElem?_append_left h1] at hk
    have h2 := h k x hk
    refine ⟨?_, ?_, ?_⟩
    · rw [upd_ne (by omega), upd_ne (by omega), upd_ne (by omega)]; exact h2.1
    · rw [upd_ne (by omega), upd_ne (by omega), upd_ne (by omega)]; exact h2.2.1
    · rw [upd_ne (by omega), upd_ne (by omega), upd_ne (by omega)]; exact h2.2.2
  · rw [List.getElem?_append_right (by omega)] at hk
    have h3 : k - T.length = 0 := by
      have h4 := (List.getElem?_eq_some_iff.mp hk).1
      have h5 : k - T.length < 1 := h4
      omega
    rw [h3] at hk
    have h6 : (c, s, fl) = x := Option.some.inj hk
    have h7 : k = T.length := by omega
    subst h6 h7
    refine ⟨?_, ?_, ?_⟩
    · rw [upd_ne (by omega), upd_ne (by omega), upd_eq rfl]
    · rw [upd_ne (by omega), upd_eq rfl]
    · rw [upd_eq rfl]
theorem X5_isAt_ok {vd : Md} {n : Nat} {ch : Nat → Nat} (hX : RepX vd.2.2.2.1 vd.2.2.2.2.2.2.2.1 n ch) (hn : n ≤ 60) (hch : ∀ i, i < n → 33 ≤ ch i ∧ ch i ≤ 126) {i : Nat} (ha : vd.2.2.2.2.2.2.2.2.2.1 = zz i) (hi : i ≤ n) {lo up : Int} (hlo : 0 ≤ lo ∧ lo < 1000) (hhi : 0 ≤ up ∧ up < 1000) {post : Int32 → Prop} (k1 : i < n ∧ lo ≤ ch i ∧ (ch i : Int) ≤ up → post 1) (k0 : ¬ (i < n ∧ lo ≤ ch i ∧ (ch i : Int) ≤ up) → post 0) : wp_X5_isAt vd (zz lo) (zz up) post := by
  unfold wp_X5_isAt
  rw [ha, hX.1]
  simp (disch := omega) only [zl_0, zl_1, zl_2, zl_3, zl_4, zl_5, zl_6, zl_7, zl_8, zl_9, zl_10, zl_11, zl_12, zl_24, zl_31, zl_32, zl_33, zl_36, zl_48, zl_49, zl_54, zl_59, zl_60, zl_61, zl_97, zl_99, zl_102, zl_126, zl_180, zl_360, zl_376, zl_1880, zl_2256, zl_2903, z_add, z_sub, z_mul, z_neg, z_lt, z_le, z_eq, z_in]
  refine wB rfl (fun h => k0 (by omega)) (fun h => ⟨by omega, ?_⟩)
  have hc := hch i (by omega)
  rw [z_nat (by omega), Int.toNat_natCast, hX.2 i (by omega)]
  exact X5_in_ok (a := (ch i : Nat)) (by unfold i32; omega) (by unfold i32; omega) (by unfold i32; omega) (fun h1 => wF (by decide) (k1 ⟨by omega, h1⟩)) (fun h1 => wT rfl (k0 (fun h2 => h1 h2.2)))
theorem X5_stops_ok {vd : Md} {n : Nat} {ch : Nat → Nat} (hX : RepX vd.2.2.2.1 vd.2.2.2.2.2.2.2.1 n ch) (hn : n ≤ 60) {f : Nat → Int32} {i : Nat} {q t : Int32} (hi : i ≤ n) {post : Int32 → Md → Prop} (k : post (zz 0) (tdW vd f (zz i) (zz (bB (decide (i < n)))) t)) : wp_X5_stops (tdW vd f (zz i) q t) post := by
  unfold wp_X5_stops
  rw [td_n, td_a, hX.1, z_le (by omega)]
  refine wB rfl (fun h => let_md ?_) (fun h => let_md ?_)
  · rw [decide_eq_false (by omega)] at k; exact k
  · rw [decide_eq_true (by omega)] at k; exact k
theorem td_eq {vd : Md} {f : Nat → Int32} {q : Int32} {t j c s : Nat} {xc xs : Int32} (hxc : xc - 97 = zz c) (hxs : xs - 48 = zz s) (ht : t ≤ 59) (fl : Bool) : tdW vd (upd (upd (upd f (3 * zz t).toNatClampNeg (xc - 97)) (3 * zz t + 1).toNatClampNeg (xs - 48)) (3 * zz t + 2).toNatClampNeg (zz (bB fl))) (zz j + 1 + zz (bB fl)) q (zz t + 1) = tdW vd (upd (upd (upd f (3 * t) (zz c)) (3 * t + 1) (zz s)) (3 * t + 2) (zz (bB fl))) (zz (j + 1 + (if fl = true then 1 else 0) : Nat)) q (zz (t + 1 : Nat)) := by
  have e0 : (3 * zz t).toNatClampNeg = 3 * t := by rw [zl_3, z_mul, z_nat (by omega)]; omega
  have e1 : (3 * zz t + 1).toNatClampNeg = 3 * t + 1 := by rw [zl_3, z_mul, zl_1, z_add, z_nat (by omega)]; omega
  have e2 : (3 * zz t + 2).toNatClampNeg = 3 * t + 2 := by rw [zl_3, z_mul, zl_2, z_add, z_nat (by omega)]; omega
  have e4 : zz j + 1 + zz (bB fl) = zz (j + 1 + (if fl = true then 1 else 0) : Nat) := by
    rw [zl_1, z_add, z_add]
    refine congrArg zz ?_
    cases fl
    · show (j : Int) + 1 + 0 = ((j + 1 + 0 : Nat) : Int); omega
    · show (j : Int) + 1 + 1 = ((j + 1 + 1 : Nat) : Int); omega
  have e5 : zz t + 1 = zz (t + 1 : Nat) := by rw [zl_1, z_add]; rfl
  rw [e0, e1, e2, hxc, hxs, e4, e5]
theorem part_fl {vd : Md} {g : Nat → Int32} {a q t x : Int32} {L : Md → Prop} (i2 : vp_in (3 * t + 2) 180) (h : L (tdW vd (upd g (3 * t + 2).toNatClampNeg x) (a + x) q (t + 1))) : (∀ vd_7 : Md, vd_7 = md_told (tdW vd g a q t) (upd (tdW vd g a q t).2.2.2.2.1 ((3 * (tdW vd g a q t).2.2.2.2.2.2.2.2.2.2.2) + 2).toNatClampNeg x) → (vp_in ((3 * vd_7.2.2.2.2.2.2.2.2.2.2.2) + 2) 180 ∧ (∀ vd_8 : Md, vd_8 = md_at vd_7 ((vd_7.2.2.2.2.2.2.2.2.2.1 + (vd_7.2.2.2.2.1 ((3 * vd_7.2.2.2.2.2.2.2.2.2.2.2) + 2).toNatClampNeg))) → (∀ vd_9 : Md, vd_9 = md_tolds vd_8 ((vd_8.2.2.2.2.2.2.2.2.2.2.2 + 1)) → L vd_9)))) := by
  intro v7 e7
  have F7 : v7 = tdW vd (upd g (3 * t + 2).toNatClampNeg x) a q t := e7
  have hu : (upd g (3 * t + 2).toNatClampNeg x) (3 * t + 2).toNatClampNeg = x := upd_eq rfl
  clear e7
  generalize upd g (3 * t + 2).toNatClampNeg x = g1 at F7 hu h
  subst F7
  refine ⟨i2, fun v8 e8 v9 e9 => ?_⟩
  have F8 : v8 = tdW vd g1 (a + g1 (3 * t + 2).toNatClampNeg) q t := e8
  rw [hu] at F8
  clear e8
  subst F8
  have F9 : v9 = tdW vd g1 (a + x) q (t + 1) := e9
  rw [F9]
  exact h
theorem part_in {vd : Md} {n : Nat} {ch : Nat → Nat} (hX : RepX vd.2.2.2.1 vd.2.2.2.2.2.2.2.1 n ch) (hn : n ≤ 60) (hch : ∀ i, i < n → 33 ≤ ch i ∧ ch i ≤ 126) {f : Nat → Int32} {j t c : Nat} {q xc : Int32} {L : Md → Prop} (hj : j < n) (ht : t ≤ 59) (hxc : xc - 97 = zz c) (hz : 49 ≤ ch j) (hk : ∀ fl : Bool, fl = decide (j + 1 < n ∧ ch (j + 1) = 33) → L (tdW vd (upd (upd (upd f (3 * t) (zz c)) (3 * t + 1) (zz (ch j - 48 : Nat))) (3 * t + 2) (zz (bB fl))) (zz (j + 1 + (if fl = true then 1 else 0) : Nat)) q (zz (t + 1 : Nat)))) : (vp_in (3 * (tdW vd f (zz j) q (zz t)).2.2.2.2.2.2.2.2.2.2.2) 180 ∧ (∀ vd_4 : Md, vd_4 = md_told (tdW vd f (zz j) q (zz t)) (upd (tdW vd f (zz j) q (zz t)).2.2.2.2.1 (3 * (tdW vd f (zz j) q (zz t)).2.2.2.2.2.2.2.2.2.2.2).toNatClampNeg (xc - 97)) → (vp_in vd_4.2.2.2.2.2.2.2.2.2.1 60 ∧ (vp_in ((3 * vd_4.2.2.2.2.2.2.2.2.2.2.2) + 1) 180 ∧ (∀ vd_5 : Md, vd_5 = md_told vd_4 (upd vd_4.2.2.2.2.1 ((3 * vd_4.2.2.2.2.2.2.2.2.2.2.2) + 1).toNatClampNeg ((vd_4.2.2.2.1 vd_4.2.2.2.2.2.2.2.2.2.1.toNatClampNeg) - 48)) → (∀ vd_6 : Md, vd_6 = md_at vd_5 ((vd_5.2.2.2.2.2.2.2.2.2.1 + 1)) → (wp_X5_isAt vd_6 33 33 (fun r130 => ((r130 = 0 → (vp_in ((3 * vd_6.2.2.2.2.2.2.2.2.2.2.2) + 2) 180 ∧ (∀ vd_7 : Md, vd_7 = md_told vd_6 (upd vd_6.2.2.2.2.1 ((3 * vd_6.2.2.2.2.2.2.2.2.2.2.2) + 2).toNatClampNeg 0) → (vp_in ((3 * vd_7.2.2.2.2.2.2.2.2.2.2.2) + 2) 180 ∧ (∀ vd_8 : Md, vd_8 = md_at vd_7 ((vd_7.2.2.2.2.2.2.2.2.2.1 + (vd_7.2.2.2.2.1 ((3 * vd_7.2.2.2.2.2.2.2.2.2.2.2) + 2).toNatClampNeg))) → (∀ vd_9 : Md, vd_9 = md_tolds vd_8 ((vd_8.2.2.2.2.2.2.2.2.2.2.2 + 1)) → L vd_9)))))) ∧ (¬ r130 = 0 → (vp_in ((3 * vd_6.2.2.2.2.2.2.2.2.2.2.2) + 2) 180 ∧ (∀ vd_10 : Md, vd_10 = md_told vd_6 (upd vd_6.2.2.2.2.1 ((3 * vd_6.2.2.2.2.2.2.2.2.2.2.2) + 2).toNatClampNeg 1) → (vp_in ((3 * vd_10.2.2.2.2.2.2.2.2.2.2.2) + 2) 180 ∧ (∀ vd_11 : Md, vd_11 = md_at vd_10 ((vd_10.2.2.2.2.2.2.2.2.2.1 + (vd_10.2.2.2.2.1 ((3 * vd_10.2.2.2.2.2.2.2.2.2.2.2) + 2).toNatClampNeg))) → (∀ vd_12 : Md, vd_12 = md_tolds vd_11 ((vd_11.2.2.2.2.2.2.2.2.2.2.2 + 1)) → L vd_12))))))))))))))) := by
  have hxs : (vd.2.2.2.1 (zz j).toNatClampNeg) - 48 = zz (ch j - 48 : Nat) := by
    rw [z_nat (by omega), Int.toNat_natCast, hX.2 j hj, zl_48, z_sub]
    refine congrArg zz ?_
    omega
  have i0' : vp_in (3 * zz t) 180 := by rw [zl_3, z_mul, z_in (by omega)]; omega
  have i1 : vp_in (3 * zz t + 1) 180 := by rw [zl_3, z_mul, zl_1, z_add, z_in (by omega)]; omega
  have i2 : vp_in (3 * zz t + 2) 180 := by rw [zl_3, z_mul, zl_2, z_add, z_in (by omega)]; omega
  have ia : vp_in (zz j) 60 := by rw [z_in (by omega)]; omega
  have ea : zz j + 1 = zz (j + 1 : Nat) := by rw [zl_1, z_add]; rfl
  have h1 := hk true
  have h0 := hk false
  rw [← td_eq (vd := vd) (f := f) (q := q) (t := t) (j := j) hxc hxs ht] at h1 h0
  clear hk
  rw [show zz (bB true) = 1 from rfl] at h1
  rw [show zz (bB false) = 0 from rfl] at h0
  rw [td_t, td_f]
  refine ⟨i0', fun v4 e4 => ?_⟩
  have F4 := st_told e4
  clear e4
  generalize upd f (3 * zz t).toNatClampNeg (xc - 97) = g4 at F4 h1 h0
  subst F4
  rw [td_a, td_t, td_f, td_x]
  refine ⟨ia, i1, fun v5 e5 v6 e6 => ?_⟩
  have F5 := st_told e5
  clear e5
  generalize upd g4 (3 * zz t + 1).toNatClampNeg ((vd.2.2.2.1 (zz j).toNatClampNeg) - 48) = g at F5 h1 h0
  subst F5
  rw [td_a] at e6
  have F6 := st_at e6
  clear e6
  subst F6
  refine X5_isAt_ok (vd := tdW vd g (zz j + 1) q (zz t)) (i := j + 1) (lo := 33) (up := 33) (td_X hX) hn hch (td_a.trans ea) (by omega) (by omega) (by omega) (fun h2 => ?_) (fun h2 => ?_)
  · exact wF (by decide) ⟨i2, part_fl i2 (h1 (decide_eq_true (by omega)).symm)⟩
  · exact wT rfl ⟨i2, part_fl i2 (h0 (decide_eq_false (by omega)).symm)⟩
theorem X5_isPart_L_ok {vd vdP : Md} {n : Nat} {ch : Nat → Nat} (hX : RepX vd.2.2.2.1 vd.2.2.2.2.2.2.2.1 n ch) (hn : n ≤ 60) (hch : ∀ i, i < n → 33 ≤ ch i ∧ ch i ≤ 126) {E : Nat} {C : Bool} {TT : List Tok} {c i0 : Nat} (hcc : (vdP.2.2.2.1 vdP.2.2.2.2.2.2.2.2.2.1.toNatClampNeg) - 97 = zz c) {q : Int32} {K : Md → Prop} (k : ∀ f j b T, TI ch n E C TT j b c T → RepL f T → i0 < j → tEnd b = true → ¬ (j < n ∧ tZ (ch j) = true) → ¬ (tZ b = true ∧ j < n ∧ ch j = 33) → K (tdW vd f (zz j) q (zz T.length))) {N : Nat} : ∀ {f : Nat → Int32} {j b : Nat} {T : List Tok} {a t : Int32}, n < j + N → a = zz j → t = zz T.length → TI ch n E C TT j b c T → RepL f T → i0 < j → ((tEnd b = true ∧ ¬ (tZ b = true ∧ j < n ∧ ch j = 33)) ∨ (tC b = true ∧ j < n ∧ tZ (ch j) = true)) → wp_X5_isPart_L55 vdP K N (tdW vd f a q t) := by
  induction N with
  | zero =>
    intro f j b T a t hN ha ht hI hL hj hb
    have := hI.1
    omega
  | succ N ih =>
    intro f j b T a t hN ha ht hI hL hj hb
    subst ha ht
    unfold wp_X5_isPart_L55
    have hjn := hI.1
    have htl := hI.2.2.2.2.1
    refine X5_isAt_ok (vd := tdW vd f (zz j) q (zz T.length)) (i := j) (lo := 49) (up := 54) (td_X hX) hn hch rfl hjn (by omega) (by omega) (fun h1 => ?_) (fun h0 => ?_)
    · have hz : tZ (ch j) = true := tZ_y (by omega)
      have hm : tMay b (ch j) = true := tMay_z hz (fun h59 => by
        subst h59
        rcases hb with hb | hb
        · exact absurd hb.1 (by decide)
        · exact absurd hb.1 (by decide))
      obtain ⟨s1, s2⟩ := hI.step h1.1 hm
      have s3 := hI.2.2.2.1
      rw [tTok_z h1.1 hz] at s3
      have hk : ∀ fl : Bool, fl = decide (j + 1 < n ∧ ch (j + 1) = 33) → wp_X5_isPart_L55 vdP K N (tdW vd (upd (upd (upd f (3 * T.length) (zz c)) (3 * T.length + 1) (zz (ch j - 48 : Nat))) (3 * T.length + 2) (zz (bB fl))) (zz (j + 1 + (if fl = true then 1 else 0) : Nat)) q (zz (T.length + 1 : Nat))) := fun fl hfl => by
        rw [← hfl] at s3
        cases fl
        · have h33 := of_decide_eq_false hfl.symm
          refine ih (f := _) (j := j + 1) (b := ch j) (T := T ++ [(c, ch j - 48, false)]) (by omega) rfl (by rw [List.length_append]; rfl) ⟨by omega, s1, s2, by rw [List.append_assoc]; exact s3, by rw [List.length_append]; show T.length + 1 ≤ j + 1; omega, by omega⟩ hL.snoc (by omega) (.inl ⟨tEnd_z hz, fun h => h33 h.2⟩)
        · have h33 := of_decide_eq_true hfl.symm
          have hm2 : tMay (ch j) (ch (j + 1)) = true := by
            rw [h33.2]
            unfold tMay
            rw [if_neg (by omega), tC_n (by omega), if_neg (by decide), hz]
            rfl
          have hI2 : TI ch n E C TT (j + 1) (ch j) c (T ++ [(c, ch j - 48, true)]) := ⟨by omega, s1, s2, by rw [List.append_assoc]; exact s3, by rw [List.length_append]; show T.length + 1 ≤ j + 1; omega, by omega⟩
          obtain ⟨u1, u2⟩ := hI2.step h33.1 hm2
          have u3 := hI2.2.2.2.1
          rw [tTok_o h33.1 (by rw [h33.2]; decide) (by rw [h33.2]; decide)] at u3
          refine ih (f := _) (j := j + 1 + 1) (b := ch (j + 1)) (T := T ++ [(c, ch j - 48, true)]) (by omega) rfl (by rw [List.length_append]; rfl) ⟨by omega, u1, u2, u3, by rw [List.length_append]; show T.length + 1 ≤ j + 1 + 1; omega, by omega⟩ hL.snoc (by omega) (.inl ⟨by rw [h33.2]; decide, fun h => absurd h.1 (by rw [h33.2]; decide)⟩)
      exact wF (by decide) (part_in hX hn hch h1.1 (by omega) hcc (by omega) hk)
    · have hz : ¬ (j < n ∧ tZ (ch j) = true) := fun h => h0 (by have := tZ_t h.2; omega)
      refine wT rfl ?_
      rcases hb with hb | hb
      · exact k f j b T hI hL hj hb.1 hz hb.2
      · exact absurd hb.2 hz
