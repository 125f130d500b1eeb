/-! THE TEXT: what may follow, the first fault, whether it is complete, the pebbles it tells. The class. -/
def tC (x : Nat) : Bool := decide (97 ≤ x ∧ x ≤ 102)
def tZ (x : Nat) : Bool := decide (49 ≤ x ∧ x ≤ 54)
def tMay (b x : Nat) : Bool := if b = 59 then tC x else if tC b = true then tZ x else if tZ x = true then true else if x = 59 then true else if x = 33 then tZ b else false
def tErr (ch : Nat → Nat) : Nat → Nat → Nat → Nat
  | 0, i, _ => i
  | k + 1, i, b => if tMay b (ch i) = true then tErr ch k (i + 1) (ch i) else i
def tEnd (b : Nat) : Bool := if tZ b = true then true else decide (b = 33)
def tCmp (ch : Nat → Nat) : Nat → Nat → Nat → Bool
  | 0, _, b => tEnd b
  | k + 1, i, b => if tMay b (ch i) = true then tCmp ch k (i + 1) (ch i) else false
abbrev Tok : Type := Nat × Nat × Bool
def tTok (ch : Nat → Nat) : Nat → Nat → Nat → List Tok
  | 0, _, _ => []
  | k + 1, i, c => if tC (ch i) = true then tTok ch k (i + 1) (ch i - 97) else if tZ (ch i) = true then (c, ch i - 48, decide (0 < k ∧ ch (i + 1) = 33)) :: tTok ch k (i + 1) c else tTok ch k (i + 1) c
def aLA : List Tok → Ab → Nat × Ab
  | [], A => (0, A)
  | t :: l, A => if aRea A t.1 t.2.1 t.2.2 = 0 then ((aLA l (aPut A t.1 t.2.1 t.2.2)).1 + 1, (aLA l (aPut A t.1 t.2.1 t.2.2)).2) else (0, A)
def o_ferr (S : SS) : RR := (0, zz (tErr S.2.2.2 S.2.2.1 0 59 : Nat), S)
def o_layAll (S : SS) : RR := if tCmp S.2.2.2 S.2.2.1 0 59 = true then (0, zz ((aLA (tTok S.2.2.2 S.2.2.1 0 0) S.1).1 : Nat), ((aLA (tTok S.2.2.2 S.2.2.1 0 0) S.1).2, sav S.1 S.2.1, 0, S.2.2.2)) else (1, 0, S)
theorem tC_y {x : Nat} (h : 97 ≤ x ∧ x ≤ 102) : tC x = true := decide_eq_true h
theorem tC_n {x : Nat} (h : ¬ (97 ≤ x ∧ x ≤ 102)) : tC x = false := decide_eq_false h
theorem tZ_y {x : Nat} (h : 49 ≤ x ∧ x ≤ 54) : tZ x = true := decide_eq_true h
theorem tZ_n {x : Nat} (h : ¬ (49 ≤ x ∧ x ≤ 54)) : tZ x = false := decide_eq_false h
theorem tC_t {x : Nat} (h : tC x = true) : 97 ≤ x ∧ x ≤ 102 := of_decide_eq_true h
theorem tC_f {x : Nat} (h : tC x = false) : ¬ (97 ≤ x ∧ x ≤ 102) := of_decide_eq_false h
theorem tZ_t {x : Nat} (h : tZ x = true) : 49 ≤ x ∧ x ≤ 54 := of_decide_eq_true h
theorem tZ_f {x : Nat} (h : tZ x = false) : ¬ (49 ≤ x ∧ x ≤ 54) := of_decide_eq_false h
theorem nb_ok {b : Bool} : narrow .boolean (.int (zz (bB b))) = .int (zz (bB b)) := by cases b <;> rfl
theorem nc_ok {m : Nat} (h : m < 127) : narrow .char (.int (zz m)) = .int (zz m) := by
  have hk : ∀ m : Nat, m < 127 → (zz m).toUInt32.toUInt16.toUInt32.toInt32 = zz m := by decide +kernel
  show Value.int (zz m).toUInt32.toUInt16.toUInt32.toInt32 = Value.int (zz m)
  rw [hk m h]
theorem X3_isCourse_ok {x : Nat} (hx : x < 1000) {i : Int} (hi : i = x) {post : Int32 → Prop} (k : post (zz (bB (tC x)))) : wp_X3_isCourse (zz i) post := by
  subst hi
  unfold wp_X3_isCourse
  simp (disch := omega) only [zl_0, zl_1, zl_2, zl_3, zl_4, zl_5, zl_6, zl_7, zl_8, zl_9, zl_10, zl_11, zl_12, zl_24, zl_31, zl_32, zl_33, zl_36, zl_48, zl_49, zl_54, zl_59, zl_60, zl_61, zl_97, zl_99, zl_102, zl_126, zl_180, zl_360, zl_376, zl_1880, zl_2256, zl_2903, z_add, z_sub, z_mul, z_neg, z_lt, z_le, z_eq, z_in]
  refine wB rfl (fun h => ?_) (fun h => wB rfl (fun h1 => ?_) (fun h1 => ?_))
  · rw [tC_n (by omega)] at k; exact k
  · rw [tC_n (by omega)] at k; exact k
  · rw [tC_y (by omega)] at k; exact k
theorem X3_isSize_ok {x : Nat} (hx : x < 1000) {i : Int} (hi : i = x) {post : Int32 → Prop} (k : post (zz (bB (tZ x)))) : wp_X3_isSize (zz i) post := by
  subst hi
  unfold wp_X3_isSize
  simp (disch := omega) only [zl_0, zl_1, zl_2, zl_3, zl_4, zl_5, zl_6, zl_7, zl_8, zl_9, zl_10, zl_11, zl_12, zl_24, zl_31, zl_32, zl_33, zl_36, zl_48, zl_49, zl_54, zl_59, zl_60, zl_61, zl_97, zl_99, zl_102, zl_126, zl_180, zl_360, zl_376, zl_1880, zl_2256, zl_2903, z_add, z_sub, z_mul, z_neg, z_lt, z_le, z_eq, z_in]
  refine wB rfl (fun h => ?_) (fun h => wB rfl (fun h1 => ?_) (fun h1 => ?_))
  · rw [tZ_n (by omega)] at k; exact k
  · rw [tZ_n (by omega)] at k; exact k
  · rw [tZ_y (by omega)] at k; exact k
theorem X3_mayFollow_ok {b x : Nat} (hb : b < 1000) (hx : x < 1000) {i j : Int} (hi : i = b) (hj : j = x) {post : Int32 → Prop} (k : post (zz (bB (tMay b x)))) : wp_X3_mayFollow (zz i) (zz j) post := by
  subst hi hj
  unfold wp_X3_mayFollow
  simp (disch := omega) only [zl_0, zl_1, zl_2, zl_3, zl_4, zl_5, zl_6, zl_7, zl_8, zl_9, zl_10, zl_11, zl_12, zl_24, zl_31, zl_32, zl_33, zl_36, zl_48, zl_49, zl_54, zl_59, zl_60, zl_61, zl_97, zl_99, zl_102, zl_126, zl_180, zl_360, zl_376, zl_1880, zl_2256, zl_2903, z_add, z_sub, z_mul, z_neg, z_lt, z_le, z_eq, z_in]
  unfold tMay at k
  refine wB rfl (fun h => X3_isCourse_ok hx rfl ⟨nb_ok, ?_⟩) (fun h => X3_isCourse_ok hb rfl ?_)
  · rw [if_pos (by omega)] at k; exact k
  rw [if_neg (by omega)] at k
  cases hc : tC b
  · rw [hc, if_neg (by decide)] at k
    refine wT rfl (X3_isSize_ok hx rfl ?_)
    cases hz : tZ x
    · rw [hz, if_neg (by decide)] at k
      refine wT rfl (wB rfl (fun h1 => ?_) (fun h1 => wB rfl (fun h2 => X3_isSize_ok hb rfl ?_) (fun h2 => ?_)))
      · rw [if_pos (by omega)] at k; exact k
      · rw [if_neg (by omega), if_pos (by omega)] at k
        cases hq : tZ b <;> rw [hq] at k
        · exact wT rfl k
        · exact wF (by decide) k
      · rw [if_neg (by omega), if_neg (by omega)] at k; exact k
    · rw [hz, if_pos rfl] at k
      exact wF (by decide) k
  · rw [hc, if_pos rfl] at k
    exact wF (by decide) (X3_isSize_ok hx rfl ⟨nb_ok, k⟩)
def sg (n : Nat) (ch : Nat → Nat) (i : Int) : Nat := if 0 ≤ i ∧ i < n then ch i.toNat else 0
theorem sg_in {n : Nat} {ch : Nat → Nat} {i : Int} {p : Nat} (hi : i = p) (h : p < n) : sg n ch i = ch p := by
  unfold sg
  rw [if_pos (by omega), show i.toNat = p by omega]
theorem sg_out {n : Nat} {ch : Nat → Nat} {i : Int} (h : ¬ (0 ≤ i ∧ i < n)) : sg n ch i = 0 := if_neg h
theorem X3_signAt_ok {vt : Tx} {n : Nat} {ch : Nat → Nat} (hT : RepT vt n ch) (hn : n ≤ 60) (hch : ∀ i, i < n → 33 ≤ ch i ∧ ch i ≤ 126) {i : Int} (hi : -1000 < i ∧ i < 1000) {post : Int32 → Prop} (k : post (zz (sg n ch i))) : wp_X3_signAt vt (zz i) post := by
  unfold wp_X3_signAt
  rw [hT.1]
  simp (disch := omega) only [zl_0, zl_1, zl_2, zl_3, zl_4, zl_5, zl_6, zl_7, zl_8, zl_9, zl_10, zl_11, zl_12, zl_24, zl_31, zl_32, zl_33, zl_36, zl_48, zl_49, zl_54, zl_59, zl_60, zl_61, zl_97, zl_99, zl_102, zl_126, zl_180, zl_360, zl_376, zl_1880, zl_2256, zl_2903, z_add, z_sub, z_mul, z_neg, z_lt, z_le, z_eq, z_in]
  refine wB rfl (fun h => ?_) (fun h => wB rfl (fun h1 => ?_) (fun h1 => wB rfl (fun h2 => ?_) (fun h2 => ⟨by omega, ?_⟩)))
  · rw [sg_out (by omega)] at k; exact k
  · rw [sg_out (by omega)] at k; exact k
  · exact absurd h2 (by omega)
  · have e : vt.1 (zz i).toNatClampNeg = zz (ch i.toNat) := by rw [z_nat (by omega)]; exact hT.2 _ (by omega)
    rw [sg_in (p := i.toNat) (by omega) (by omega)] at k
    have h3 := hch i.toNat (by omega)
    rw [e]
    exact ⟨nc_ok (by omega), k⟩
theorem X3_wrongAt_L_ok {vt : Tx} {n : Nat} {ch : Nat → Nat} (hT : RepT vt n ch) (hn : n ≤ 60) (hch : ∀ i, i < n → 33 ≤ ch i ∧ ch i ≤ 126) {K : Int32 → Prop} {Z : Prop} (hz : K (zz n) → Z) {d : Nat} : ∀ {b i : Nat} {ib j : Int}, ib = b → j = i → i + d = n → b < 1000 → K (zz (tErr ch d i b : Nat)) → wp_X3_wrongAt_L5 vt K Z (d + 1) (zz ib) (zz j) := by
  induction d with
  | zero =>
    intro b i ib j hib hj hd hb k
    subst hib hj
    unfold wp_X3_wrongAt_L5
    rw [hT.1]
    simp (disch := omega) only [zl_0, zl_1, zl_2, zl_3, zl_4, zl_5, zl_6, zl_7, zl_8, zl_9, zl_10, zl_11, zl_12, zl_24, zl_31, zl_32, zl_33, zl_36, zl_48, zl_49, zl_54, zl_59, zl_60, zl_61, zl_97, zl_99, zl_102, zl_126, zl_180, zl_360, zl_376, zl_1880, zl_2256, zl_2903, z_add, z_sub, z_mul, z_neg, z_lt, z_le, z_eq, z_in]
    refine wT (by omega) (hz ?_)
    have e : i = n := by omega
    subst e
    exact k
  | succ d ih =>
    intro b i ib j hib hj hd hb k
    subst hib hj
    unfold wp_X3_wrongAt_L5
    rw [hT.1]
    simp (disch := omega) only [zl_0, zl_1, zl_2, zl_3, zl_4, zl_5, zl_6, zl_7, zl_8, zl_9, zl_10, zl_11, zl_12, zl_24, zl_31, zl_32, zl_33, zl_36, zl_48, zl_49, zl_54, zl_59, zl_60, zl_61, zl_97, zl_99, zl_102, zl_126, zl_180, zl_360, zl_376, zl_1880, zl_2256, zl_2903, z_add, z_sub, z_mul, z_neg, z_lt, z_le, z_eq, z_in]
    have hc := hch i (by omega)
    refine wF (by omega) (X3_signAt_ok hT hn hch (by omega) ?_)
    rw [sg_in rfl (by omega)]
    refine X3_mayFollow_ok hb (by omega) rfl rfl ?_
    unfold tErr at k
    cases hm : tMay b (ch i) <;> rw [hm] at k
    · rw [if_neg (by decide)] at k
      exact wT rfl k
    · rw [if_pos rfl] at k
      exact wF (by decide) (ih rfl (by omega) (by omega) (by omega) k)
theorem X3_wrongAt_ok {vt : Tx} {n : Nat} {ch : Nat → Nat} (hT : RepT vt n ch) (hn : n ≤ 60) (hch : ∀ i, i < n → 33 ≤ ch i ∧ ch i ≤ 126) {post : Int32 → Prop} (k : post (zz (tErr ch n 0 59 : Nat))) : wp_X3_wrongAt vt post :=
  ⟨n + 1, X3_wrongAt_L_ok hT hn hch (fun h => by rw [hT.1]; exact h) (b := 59) (i := 0) (ib := 59) (j := 0) rfl rfl (by omega) (by omega) k⟩
theorem tErr_le {ch : Nat → Nat} {k : Nat} : ∀ {i b : Nat}, i ≤ tErr ch k i b ∧ tErr ch k i b ≤ i + k := by
  induction k with
  | zero => exact fun {i b} => ⟨Nat.le_refl _, Nat.le_refl _⟩
  | succ k ih =>
    intro i b
    unfold tErr
    split
    · have := ih (i := i + 1) (b := ch i); omega
    · omega
theorem tCmp_eq {ch : Nat → Nat} {k : Nat} : ∀ {i b : Nat}, tCmp ch k i b = (decide (tErr ch k i b = i + k) && tEnd (if k = 0 then b else ch (i + k - 1))) := by
  induction k with
  | zero =>
    intro i b
    show tEnd b = (decide (i = i + 0) && tEnd (if 0 = 0 then b else _))
    rw [if_pos rfl, decide_eq_true (show i = i + 0 from rfl), Bool.true_and]
  | succ k ih =>
    intro i b
    unfold tCmp tErr
    rw [if_neg (Nat.succ_ne_zero k)]
    cases hm : tMay b (ch i)
    · rw [if_neg (by decide), if_neg (by decide), decide_eq_false (by omega), Bool.false_and]
    · rw [if_pos rfl, if_pos rfl, ih, show i + (k + 1) = i + 1 + k by omega]
      by_cases h0 : k = 0
      · subst h0
        rw [if_pos rfl]
        rfl
      · rw [if_neg h0]
theorem X3_isComplete_ok {vt : Tx} {n : Nat} {ch : Nat → Nat} (hT : RepT vt n ch) (hn : n ≤ 60) (hch : ∀ i, i < n → 33 ≤ ch i ∧ ch i ≤ 126) {post : Int32 → Prop} (k : post (zz (bB (tCmp ch n 0 59)))) : wp_X3_isComplete vt post := by
  rw [tCmp_eq, Nat.zero_add] at k
  have fin : tEnd (if n = 0 then 59 else ch (n - 1)) = true → wp_X3_wrongAt vt (fun r25 => ((r25 = vt.2 → post 1) ∧ (¬ r25 = vt.2 → post 0))) := fun h => by
    rw [h, Bool.and_true] at k
    refine X3_wrongAt_ok hT hn hch ?_
    rw [hT.1]
    have hl := tErr_le (ch := ch) (k := n) (i := 0) (b := 59)
    rw [z_eq (by omega)]
    refine wB rfl (fun h1 => ?_) (fun h1 => ?_)
    · rw [decide_eq_true (by omega)] at k; exact k
    · rw [decide_eq_false (by omega)] at k; exact k
  have no : tEnd (if n = 0 then 59 else ch (n - 1)) = false → post 0 := fun h => by
    rw [h, Bool.and_false] at k
    exact k
  clear k
  have e0 : (vt.2 - 1 : Int32) = zz ((n : Int) - 1) := by rw [hT.1, zl_1, z_sub]
  unfold wp_X3_isComplete
  rw [e0]
  refine X3_signAt_ok hT hn hch (by omega) ?_
  by_cases h0 : n = 0
  · rw [sg_out (by omega)]
    rw [if_pos h0] at no
    refine X3_isSize_ok (x := 0) (by omega) rfl (wT rfl (wF (by decide) (no (by decide))))
  · rw [if_neg h0] at no fin
    rw [sg_in (p := n - 1) (by omega) (by omega)]
    have hc := hch (n - 1) (by omega)
    generalize ch (n - 1) = x at no fin hc ⊢
    unfold tEnd at no fin
    refine X3_isSize_ok (x := x) (by omega) rfl ?_
    cases hz : tZ x
    · rw [hz, if_neg (by decide)] at no fin
      rw [show (33 : Int32) = zz 33 from rfl, z_eq (by omega)]
      exact wT rfl (wB rfl (fun h1 => fin (decide_eq_true (by omega))) (fun h1 => no (decide_eq_false (by omega))))
    · rw [hz, if_pos rfl] at fin
      exact wF (by decide) (fin rfl)
theorem X4_firstError_ok {vp : Pc} {S : SS} (hC : InvC vp S) (hW : WfS S) {post : Int32 → Prop} (k0 : post (o_ferr S).2.1) : wp_X4_firstError vp post :=
  X3_wrongAt_ok hC.2.2 hW.2.2.2.1 hW.2.2.2.2 k0
theorem X4_layAll_c_ok {vp : Pc} {A : Ab} (hR : RepC vp.1 A) (hW : Wf A) {c s : Nat} {f : Bool} (hc : c < 6) (hs : 1 ≤ s ∧ s ≤ 6) {x1 x4 : Int32} {ic is il : Int} (hic : ic = c) (his : is = s) (hil : il = bB f) {KB : Int32 → Int32 → Int32 → Pc → Prop} {K : Int32 → Pc → Prop} (h0 : aRea A c s f = 0 → ∀ w1, RepC w1 (aPut A c s f) → KB (x1 + 1) (zz ic) (x4 + 1) (pc_m vp w1)) (h1 : ¬ aRea A c s f = 0 → K x1 vp) : wp_X4_layAll_c106 x1 (zz ic) x4 vp KB K (zz is) (zz il) := by
  subst hic his hil
  unfold wp_X4_layAll_c106
  refine X2_reasonAgainst_ok hR hW hc hs rfl rfl rfl ?_
  have h4 := aRea_4 (A := A) (c := c) (s := s) (f := f)
  rw [zl_0, z_eq (by omega)]
  refine wB rfl (fun h => ?_) (fun h => h1 (by omega))
  exact X2_put_ok hR hW hc hs rfl rfl rfl (by omega) (fun w1 h6 => h0 (by omega) w1 h6)
theorem X4_layAll_L_ok {n : Nat} {ch : Nat → Nat} (hn : n ≤ 60) (hch : ∀ i, i < n → 33 ≤ ch i ∧ ch i ≤ 126) {K : Int32 → Pc → Prop} {d : Nat} : ∀ {vp : Pc} {A : Ab} {l c i : Nat} {il ic ii : Int}, RepT vp.2.2.2.2 n ch → RepC vp.1 A → Wf A → il = l → ic = c → ii = i → i + d = n → c < 6 → (∀ w1, RepC w1 (aLA (tTok ch d i c) A).2 → K (zz (l + (aLA (tTok ch d i c) A).1 : Nat)) (pc_m vp w1)) → wp_X4_layAll_L36 (zz n) K K (d + 1) (zz il) (zz ic) (zz ii) vp := by
  induction d with
  | zero =>
    intro vp A l c i il ic ii hT hR hW hl hc hi hd h6 k
    subst hl hc hi
    unfold wp_X4_layAll_L36
    simp (disch := omega) only [zl_0, zl_1, zl_2, zl_3, zl_4, zl_5, zl_6, zl_7, zl_8, zl_9, zl_10, zl_11, zl_12, zl_24, zl_31, zl_32, zl_33, zl_36, zl_48, zl_49, zl_54, zl_59, zl_60, zl_61, zl_97, zl_99, zl_102, zl_126, zl_180, zl_360, zl_376, zl_1880, zl_2256, zl_2903, z_add, z_sub, z_mul, z_neg, z_lt, z_le, z_eq, z_in]
    exact wT (by omega) (k vp.1 hR)
  | succ d ih =>
    intro vp A l c i il ic ii hT hR hW hl hc hi hd h6 k
    subst hl hc hi
    unfold wp_X4_layAll_L36
    simp (disch := omega) only [zl_0, zl_1, zl_2, zl_3, zl_4, zl_5, zl_6, zl_7, zl_8, zl_9, zl_10, zl_11, zl_12, zl_24, zl_31, zl_32, zl_33, zl_36, zl_48, zl_49, zl_54, zl_59, zl_60, zl_61, zl_97, zl_99, zl_102, zl_126, zl_180, zl_360, zl_376, zl_1880, zl_2256, zl_2903, z_add, z_sub, z_mul, z_neg, z_lt, z_le, z_eq, z_in]
    have hx := hch i (by omega)
    refine wF (by omega) (X3_signAt_ok hT hn hch (by omega) ?_)
    rw [sg_in rfl (by omega)]
    refine X3_isCourse_ok (x := ch i) (by omega) rfl ?_
    unfold tTok at k
    cases hq : tC (ch i)
    · rw [hq, if_neg (by decide)] at k
      refine wT rfl (X3_isSize_ok (x := ch i) (by omega) rfl ?_)
      cases hz : tZ (ch i)
      · rw [hz, if_neg (by decide)] at k
        exact wT rfl (ih hT hR hW rfl rfl (by omega) (by omega) h6 k)
      · rw [hz, if_pos rfl] at k
        have hz2 := tZ_t hz
        refine wF (by decide) (X3_signAt_ok hT hn hch (by omega) ?_)
        rw [z_sub]
        have main : ∀ f : Bool, f = decide (0 < d ∧ ch (i + 1) = 33) → wp_X4_layAll_c106 (zz l) (zz c) (zz i) vp (wp_X4_layAll_L36 (zz n) K K (d + 1)) K (zz ((ch i : Int) - 48)) (zz (bB f)) := fun f hf => by
          rw [← hf] at k
          refine X4_layAll_c_ok hR hW (c := c) (s := ch i - 48) (f := f) h6 (by omega) rfl (by omega) rfl (fun h0 w1 h1 => ?_) (fun h0 => ?_)
          · have k : ∀ w1, RepC w1 (if aRea A c (ch i - 48) f = 0 then ((aLA (tTok ch d (i + 1) c) (aPut A c (ch i - 48) f)).1 + 1, (aLA (tTok ch d (i + 1) c) (aPut A c (ch i - 48) f)).2) else (0, A)).2 → K (zz (l + (if aRea A c (ch i - 48) f = 0 then ((aLA (tTok ch d (i + 1) c) (aPut A c (ch i - 48) f)).1 + 1, (aLA (tTok ch d (i + 1) c) (aPut A c (ch i - 48) f)).2) else (0, A)).1 : Nat)) (pc_m vp w1) := k
            rw [if_pos h0] at k
            rw [zl_1, z_add, z_add]
            refine ih (vp := pc_m vp w1) (l := l + 1) (i := i + 1) hT h1 (hW.put h6 (by omega) h0) (by omega) rfl (by omega) (by omega) h6 (fun w2 h2 => ?_)
            have k2 : K (zz (l + ((aLA (tTok ch d (i + 1) c) (aPut A c (ch i - 48) f)).1 + 1) : Nat)) (pc_m vp w2) := k w2 h2
            rw [show l + ((aLA (tTok ch d (i + 1) c) (aPut A c (ch i - 48) f)).1 + 1) = l + 1 + (aLA (tTok ch d (i + 1) c) (aPut A c (ch i - 48) f)).1 by omega] at k2
            exact k2
          · have k : ∀ w1, RepC w1 (if aRea A c (ch i - 48) f = 0 then ((aLA (tTok ch d (i + 1) c) (aPut A c (ch i - 48) f)).1 + 1, (aLA (tTok ch d (i + 1) c) (aPut A c (ch i - 48) f)).2) else (0, A)).2 → K (zz (l + (if aRea A c (ch i - 48) f = 0 then ((aLA (tTok ch d (i + 1) c) (aPut A c (ch i - 48) f)).1 + 1, (aLA (tTok ch d (i + 1) c) (aPut A c (ch i - 48) f)).2) else (0, A)).1 : Nat)) (pc_m vp w1) := k
            rw [if_neg h0] at k
            exact k vp.1 hR
        clear ih k
        by_cases h33 : 0 < d ∧ ch (i + 1) = 33
        · rw [sg_in (p := i + 1) (by omega) (by omega), h33.2]
          exact wT rfl (main true (decide_eq_true h33).symm)
        · have e : ¬ zz (sg n ch ((i : Int) + 1) : Nat) = zz 33 := by
            by_cases h1 : i + 1 < n
            · have h2 := hch (i + 1) h1
              rw [sg_in (p := i + 1) (by omega) h1, z_eq (by omega)]
              omega
            · rw [sg_out (by omega)]
              decide
          exact wF e (main false (decide_eq_false h33).symm)
    · rw [hq, if_pos rfl] at k
      have hq2 := tC_t hq
      refine wF (by decide) ?_
      rw [z_sub]
      exact ih hT hR hW rfl (by omega) (by omega) (by omega) (by omega) k
theorem X4_layAll_ok {vp : Pc} {S : SS} (hC : InvC vp S) (hW : WfS S) {post : Int32 → Pc → Prop} {pX : String → Prop} (k1 : (o_layAll S).1 = 1 → pX XA) (k0 : (o_layAll S).1 = 0 → ∀ vp1, InvC vp1 (o_layAll S).2.2 → post (o_layAll S).2.1 vp1) : wp_X4_layAll vp post pX := by
  unfold wp_X4_layAll
  refine X3_isComplete_ok hC.2.2 hW.2.2.2.1 hW.2.2.2.2 ?_
  unfold o_layAll at k0 k1
  cases hq : tCmp S.2.2.2 S.2.2.1 0 59
  · rw [hq, if_neg (by decide)] at k1
    exact nA0 (k1 rfl)
  · rw [hq, if_pos rfl] at k0
    refine nA1 (X1_save_ok hC.2.1 hC.1 (fun vh1 h3 => ?_))
    refine ⟨S.2.2.1 + 1, ?_⟩
    show wp_X4_layAll_L36 vp.2.2.2.2.2 _ _ _ 0 0 0 (pc_h vp vh1)
    rw [hC.2.2.1]
    refine X4_layAll_L_ok (vp := pc_h vp vh1) (A := S.1) (l := 0) (c := 0) (i := 0) (il := 0) (ic := 0) (ii := 0) hW.2.2.2.1 hW.2.2.2.2 hC.2.2 hC.1 hW.1 rfl rfl rfl (by omega) (by omega) (fun w1 h1 => ?_)
    unfold wp_X3_drop
    intro v1 hv1
    subst hv1
    rw [Nat.zero_add]
    exact k0 rfl _ ⟨h1, h3, rfl, fun i hi => absurd hi (Nat.not_lt_zero _)⟩
