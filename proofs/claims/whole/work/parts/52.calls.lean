/-! THE CALLS on the whole state: courses, saved states, text. A call answers a code (0: an answer), the answer, and the state then. -/
abbrev SS : Type := Ab × List Ab × Nat × (Nat → Nat)
abbrev RR : Type := Nat × Int32 × SS
def RepT (t : Tx) (n : Nat) (ch : Nat → Nat) : Prop := t.2 = zz n ∧ ∀ i, i < n → t.1 i = zz (ch i)
def InvC (vp : Pc) (S : SS) : Prop := RepC vp.1 S.1 ∧ RepH vp.2.2.2.1 S.2.1 ∧ RepT vp.2.2.2.2 S.2.2.1 S.2.2.2
def WfS (S : SS) : Prop := Wf S.1 ∧ (∀ B, B ∈ S.2.1 → Wf B) ∧ S.2.1.length ≤ 6 ∧ S.2.2.1 ≤ 60 ∧ ∀ i, i < S.2.2.1 → 33 ≤ S.2.2.2 i ∧ S.2.2.2 i ≤ 126
def i32 (a : Int) : Prop := -2147483648 ≤ a ∧ a < 2147483648
def sS (S : SS) (B : Ab) : SS := (B, sav S.1 S.2.1, S.2.2)
abbrev isC (a : Int) : Prop := 0 ≤ a ∧ a < 6
abbrev isZ (a : Int) : Prop := 1 ≤ a ∧ a ≤ 6
def o_stock (S : SS) (a b : Int) : RR := if isZ a ∧ 0 ≤ b ∧ b ≤ 99 then (0, zz (aS S.1 a.toNat), sS S (aStk S.1 a.toNat b.toNat)) else (1, 0, S)
def o_lay (f : Bool) (S : SS) (a b : Int) : RR := if ¬ isC a then (1, 0, S) else if ¬ isZ b then (2, 0, S) else if aRea S.1 a.toNat b.toNat f ≠ 0 then (3, 0, S) else (0, (if f then zz ((aSrc S.1 b.toNat f : Int) - b.toNat) else zz (tak S.1 a.toNat)), sS S (aPut S.1 a.toNat b.toNat f))
def o_takeUp (S : SS) (a b : Int) : RR := if ¬ isC a then (1, 0, S) else if ¬ (1 ≤ b ∧ b ≤ 60) then (2, 0, S) else (0, zz (min b.toNat (aK S.1 a.toNat) : Nat), sS S (aTake a.toNat (min b.toNat (aK S.1 a.toNat)) S.1))
def o_fill (S : SS) (a : Int) : RR := if ¬ isC a then (1, 0, S) else (0, zz ((aFills a.toNat (aR S.1) 60 S.1).1 : Nat), sS S (aFills a.toNat (aR S.1) 60 S.1).2)
def o_fillAll (S : SS) : RR := (0, zz (aCl (aFA (aR S.1) 6 S.1)), sS S (aFA (aR S.1) 6 S.1))
def o_set (S : SS) (a b : Int) : RR := if ¬ (0 ≤ a ∧ a ≤ 2) then (1, 0, S) else if ¬ (if a = 0 then 24 ≤ b ∧ b ≤ 60 else if a = 1 then 0 ≤ b ∧ b ≤ 2 else 0 ≤ b ∧ b ≤ 1) then (2, 0, S) else if a = 0 ∧ aAll S.1 ≠ 0 then (3, 0, S) else (0, zz (aSet S.1 a.toNat), sS S (aChg S.1 a.toNat b.toNat))
def o_append (S : SS) (a : Int) : RR := if ¬ (33 ≤ a ∧ a ≤ 126) then (1, 0, S) else if S.2.2.1 = 60 then (2, 0, S) else (0, zz (S.2.2.1 + 1 : Nat), (S.1, S.2.1, S.2.2.1 + 1, upN S.2.2.2 S.2.2.1 a.toNat))
def o_clear (S : SS) : RR := (0, zz S.2.2.1, (S.1, S.2.1, 0, S.2.2.2))
def o_undo (S : SS) : RR := match S.2.1 with | [] => (1, 0, S) | B :: H => (0, zz H.length, (B, H, S.2.2))
def o_course (S : SS) (a b : Int) : RR := if ¬ isC a then (1, 0, S) else if ¬ (0 ≤ b ∧ b ≤ 6) then (2, 0, S) else (0, zz (aProp S.1 a.toNat b.toNat), S)
def aCell (A : Ab) (c p w : Nat) : Int := if w = 0 then aAt (aZ A c) (aK A c) p else if w = 1 then bB (aJ A c p) else if w = 2 then (if c = 0 then -1 else (mts A c p : Int)) else bB (aRun A c p)
def o_cell (S : SS) (a b w : Int) : RR := if ¬ (isC a ∧ 0 ≤ b ∧ b < cel S.1 a.toNat) then (1, 0, S) else if ¬ (0 ≤ w ∧ w ≤ 3) then (2, 0, S) else (0, zz (aCell S.1 a.toNat b.toNat w.toNat), S)
def o_refusal (S : SS) (a b : Int) (f : Bool) : RR := if ¬ isC a then (1, 0, S) else if ¬ isZ b then (2, 0, S) else (0, zz (aRea S.1 a.toNat b.toNat f), S)
def o_stockOf (S : SS) (a : Int) : RR := if ¬ isZ a then (1, 0, S) else (0, zz (aS S.1 a.toNat), S)
def o_count (S : SS) (a : Int) : RR := if ¬ (0 ≤ a ∧ a ≤ 7) then (1, 0, S) else (0, aCnt S.1 S.2.1.length a.toNat, S)
def o_setting (S : SS) (a : Int) : RR := if ¬ (0 ≤ a ∧ a ≤ 2) then (1, 0, S) else (0, zz (aSet S.1 a.toNat), S)
def o_clo (b : Bool) (S : SS) (a : Int) : RR := if ¬ isC a then (1, 0, S) else (0, zz (if b then (aClo S.1 a.toNat).2 else (aClo S.1 a.toNat).1), S)
def aIf (A : Ab) (c r w : Nat) : Nat := if w = 0 then cel (aFills c r 60 A).2 c - tak (aFills c r 60 A).2 c else if w = 1 then (aFills c r 60 A).1 else aMe (aFills c r 60 A).2 c
def o_ifFilled (S : SS) (a r w : Int) : RR := if ¬ isC a then (1, 0, S) else if ¬ ((0 ≤ r ∧ r ≤ 2) ∧ 0 ≤ w ∧ w ≤ 2) then (2, 0, S) else (0, zz (aIf S.1 a.toNat r.toNat w.toNat), S)
theorem nI0 {post : Prop} {pX : String → Prop} (h : pX XI) : wp_X4_needIndex (zz 0) post pX := wT rfl h
theorem nI1 {post : Prop} {pX : String → Prop} (h : post) : wp_X4_needIndex (zz 1) post pX := wF (by decide) h
theorem nA0 {post : Prop} {pX : String → Prop} (h : pX XA) : wp_X4_needArgument (zz 0) post pX := wT rfl h
theorem nA1 {post : Prop} {pX : String → Prop} (h : post) : wp_X4_needArgument (zz 1) post pX := wF (by decide) h
theorem nS0 {post : Prop} {pX : String → Prop} (h : pX XS) : wp_X4_needState (zz 0) post pX := wT rfl h
theorem nS1 {post : Prop} {pX : String → Prop} (h : post) : wp_X4_needState (zz 1) post pX := wF (by decide) h
theorem X4_needCourse_ok {a : Int} (ha : i32 a) {post : Prop} {pX : String → Prop} (h1 : 0 ≤ a ∧ a < 6 → post) (h2 : ¬ (0 ≤ a ∧ a < 6) → pX XI) : wp_X4_needCourse (zz a) post pX := by
  unfold i32 at ha
  unfold wp_X4_needCourse
  simp (disch := omega) only [zl_0, zl_1, zl_2, zl_3, zl_4, zl_5, zl_6, zl_7, zl_8, zl_9, zl_10, zl_11, zl_12, zl_24, zl_31, zl_32, zl_33, zl_36, zl_48, zl_49, zl_54, zl_59, zl_60, zl_61, zl_97, zl_99, zl_102, zl_126, zl_180, zl_360, zl_376, zl_1880, zl_2256, zl_2903, z_add, z_sub, z_mul, z_neg, z_lt, z_le, z_eq, z_in]
  exact wB rfl (fun h => nI0 (h2 (by omega))) (fun h => wB rfl (fun h3 => nI0 (h2 (by omega))) (fun h3 => nI1 (h1 (by omega))))
theorem X4_needSetting_ok {a : Int} (ha : i32 a) {post : Prop} {pX : String → Prop} (h1 : 0 ≤ a ∧ a ≤ 2 → post) (h2 : ¬ (0 ≤ a ∧ a ≤ 2) → pX XI) : wp_X4_needSetting (zz a) post pX := by
  unfold i32 at ha
  unfold wp_X4_needSetting
  simp (disch := omega) only [zl_0, zl_1, zl_2, zl_3, zl_4, zl_5, zl_6, zl_7, zl_8, zl_9, zl_10, zl_11, zl_12, zl_24, zl_31, zl_32, zl_33, zl_36, zl_48, zl_49, zl_54, zl_59, zl_60, zl_61, zl_97, zl_99, zl_102, zl_126, zl_180, zl_360, zl_376, zl_1880, zl_2256, zl_2903, z_add, z_sub, z_mul, z_neg, z_lt, z_le, z_eq, z_in]
  exact wB rfl (fun h => nI0 (h2 (by omega))) (fun h => wB rfl (fun h3 => nI0 (h2 (by omega))) (fun h3 => nI1 (h1 (by omega))))
theorem X4_needSize_ok {a : Int} (ha : i32 a) {post : Prop} {pX : String → Prop} (h1 : 1 ≤ a ∧ a ≤ 6 → post) (h2 : ¬ (1 ≤ a ∧ a ≤ 6) → pX XA) : wp_X4_needSize (zz a) post pX := by
  unfold i32 at ha
  unfold wp_X4_needSize
  simp (disch := omega) only [zl_0, zl_1, zl_2, zl_3, zl_4, zl_5, zl_6, zl_7, zl_8, zl_9, zl_10, zl_11, zl_12, zl_24, zl_31, zl_32, zl_33, zl_36, zl_48, zl_49, zl_54, zl_59, zl_60, zl_61, zl_97, zl_99, zl_102, zl_126, zl_180, zl_360, zl_376, zl_1880, zl_2256, zl_2903, z_add, z_sub, z_mul, z_neg, z_lt, z_le, z_eq, z_in]
  exact wB rfl (fun h => nA0 (h2 (by omega))) (fun h => wB rfl (fun h3 => nA0 (h2 (by omega))) (fun h3 => nA1 (h1 (by omega))))
theorem X4_stock_ok {vp : Pc} {S : SS} (hC : InvC vp S) (hW : WfS S) {a : Int} {b : Int} (ha : i32 a) (hb : i32 b)  {post : Int32 → Pc → Prop} {pX : String → Prop} (k1 : (o_stock S a b).1 = 1 → pX XA) (k0 : (o_stock S a b).1 = 0 → ∀ vp1, InvC vp1 (o_stock S a b).2.2 → post (o_stock S a b).2.1 vp1) : wp_X4_stock vp (zz a) (zz b)  post pX := by
  unfold i32 at *
  unfold wp_X4_stock
  refine X4_needSize_ok ha (fun h => ?_) (fun h => k1 (by unfold o_stock; rw [if_neg (fun h1 => h h1.1)]))
  simp (disch := omega) only [zl_0, zl_1, zl_2, zl_3, zl_4, zl_5, zl_6, zl_7, zl_8, zl_9, zl_10, zl_11, zl_12, zl_24, zl_31, zl_32, zl_33, zl_36, zl_48, zl_49, zl_54, zl_59, zl_60, zl_61, zl_97, zl_99, zl_102, zl_126, zl_180, zl_360, zl_376, zl_1880, zl_2256, zl_2903, z_add, z_sub, z_mul, z_neg, z_lt, z_le, z_eq, z_in]
  refine wB rfl (fun h1 => nA0 (k1 (by unfold o_stock; rw [if_neg (by omega)]))) (fun h1 => wB rfl (fun h2 => nA0 (k1 (by unfold o_stock; rw [if_neg (by omega)]))) (fun h2 => nA1 ?_))
  have e : o_stock S a b = (0, zz (aS S.1 a.toNat), sS S (aStk S.1 a.toNat b.toNat)) := by unfold o_stock; rw [if_pos ⟨h, by omega, by omega⟩]
  rw [e] at k0
  refine X1_save_ok hC.2.1 hC.1 (fun vh1 h3 => X2_changeStock_ok (A := S.1) hC.1 hW.1 (s := a.toNat) (m := b.toNat) (by omega) (by omega) (by omega) (fun w1 h4 => k0 rfl _ ⟨h4, h3, hC.2.2⟩))
theorem X4_lay_ok {vp : Pc} {S : SS} (hC : InvC vp S) (hW : WfS S) {a : Int} {b : Int} (ha : i32 a) (hb : i32 b)  {post : Int32 → Pc → Prop} {pX : String → Prop} (k1 : (o_lay false S a b).1 = 1 → pX XI) (k2 : (o_lay false S a b).1 = 2 → pX XA) (k3 : (o_lay false S a b).1 = 3 → pX XS) (k0 : (o_lay false S a b).1 = 0 → ∀ vp1, InvC vp1 (o_lay false S a b).2.2 → post (o_lay false S a b).2.1 vp1) : wp_X4_lay vp (zz a) (zz b)  post pX := by
  unfold i32 at *
  unfold wp_X4_lay wp_X4_lay_c26
  refine X4_needCourse_ok ha (fun h => X4_needSize_ok hb (fun h1 => ?_) (fun h1 => k2 (by unfold o_lay; rw [if_neg (fun h2 => h2 h), if_pos h1]))) (fun h => k1 (by unfold o_lay; rw [if_pos h]))
  refine X2_reasonAgainst_ok hC.1 hW.1 (c := a.toNat) (s := b.toNat) (f := false) (by omega) (by omega) (by omega) (by omega) rfl ?_
  have h4 := aRea_4 (A := S.1) (c := a.toNat) (s := b.toNat) (f := false)
  simp (disch := omega) only [zl_0, zl_1, zl_2, zl_3, zl_4, zl_5, zl_6, zl_7, zl_8, zl_9, zl_10, zl_11, zl_12, zl_24, zl_31, zl_32, zl_33, zl_36, zl_48, zl_49, zl_54, zl_59, zl_60, zl_61, zl_97, zl_99, zl_102, zl_126, zl_180, zl_360, zl_376, zl_1880, zl_2256, zl_2903, z_add, z_sub, z_mul, z_neg, z_lt, z_le, z_eq, z_in]
  refine wB rfl (fun h5 => nS1 ?_) (fun h5 => nS0 (k3 (by unfold o_lay; rw [if_neg (fun h2 => h2 h), if_neg (fun h2 => h2 h1), if_pos (by omega)])))
  have e : o_lay false S a b = (0, zz (tak S.1 a.toNat), sS S (aPut S.1 a.toNat b.toNat false)) := by unfold o_lay; rw [if_neg (fun h2 => h2 h), if_neg (fun h2 => h2 h1), if_neg (by omega), if_neg (by decide)]
  rw [e] at k0
  refine X1_save_ok hC.2.1 hC.1 (fun vh1 h3 => X2_takenOf_ok (A := S.1) hC.1 hW.1 (c := a.toNat) (by omega) (by omega) (X2_put_ok (A := S.1) hC.1 hW.1 (c := a.toNat) (s := b.toNat) (f := false) (by omega) (by omega) (by omega) (by omega) rfl (by omega) (fun w1 h6 => k0 rfl _ ⟨h6, h3, hC.2.2⟩)))
theorem X4_cut_ok {vp : Pc} {S : SS} (hC : InvC vp S) (hW : WfS S) {a : Int} {b : Int} (ha : i32 a) (hb : i32 b)  {post : Int32 → Pc → Prop} {pX : String → Prop} (k1 : (o_lay true S a b).1 = 1 → pX XI) (k2 : (o_lay true S a b).1 = 2 → pX XA) (k3 : (o_lay true S a b).1 = 3 → pX XS) (k0 : (o_lay true S a b).1 = 0 → ∀ vp1, InvC vp1 (o_lay true S a b).2.2 → post (o_lay true S a b).2.1 vp1) : wp_X4_cut vp (zz a) (zz b)  post pX := by
  unfold i32 at *
  unfold wp_X4_cut
  refine X4_needCourse_ok ha (fun h => X4_needSize_ok hb (fun h1 => ?_) (fun h1 => k2 (by unfold o_lay; rw [if_neg (fun h2 => h2 h), if_pos h1]))) (fun h => k1 (by unfold o_lay; rw [if_pos h]))
  refine X2_reasonAgainst_ok hC.1 hW.1 (c := a.toNat) (s := b.toNat) (f := true) (by omega) (by omega) (by omega) (by omega) rfl ?_
  have h4 := aRea_4 (A := S.1) (c := a.toNat) (s := b.toNat) (f := true)
  simp (disch := omega) only [zl_0, zl_1, zl_2, zl_3, zl_4, zl_5, zl_6, zl_7, zl_8, zl_9, zl_10, zl_11, zl_12, zl_24, zl_31, zl_32, zl_33, zl_36, zl_48, zl_49, zl_54, zl_59, zl_60, zl_61, zl_97, zl_99, zl_102, zl_126, zl_180, zl_360, zl_376, zl_1880, zl_2256, zl_2903, z_add, z_sub, z_mul, z_neg, z_lt, z_le, z_eq, z_in]
  refine wB rfl (fun h5 => nS1 ?_) (fun h5 => nS0 (k3 (by unfold o_lay; rw [if_neg (fun h2 => h2 h), if_neg (fun h2 => h2 h1), if_pos (by omega)])))
  have e : o_lay true S a b = (0, zz ((aSrc S.1 b.toNat true : Int) - b.toNat), sS S (aPut S.1 a.toNat b.toNat true)) := by unfold o_lay; rw [if_neg (fun h2 => h2 h), if_neg (fun h2 => h2 h1), if_neg (by omega), if_pos rfl]
  rw [e] at k0
  refine X1_save_ok hC.2.1 hC.1 (fun vh1 h3 => X2_put_ok (A := S.1) hC.1 hW.1 (c := a.toNat) (s := b.toNat) (f := true) (by omega) (by omega) (by omega) (by omega) rfl (by omega) (fun w1 h6 => k0 rfl _ ⟨h6, h3, hC.2.2⟩))
theorem X4_takeUp_ok {vp : Pc} {S : SS} (hC : InvC vp S) (hW : WfS S) {a : Int} {b : Int} (ha : i32 a) (hb : i32 b)  {post : Int32 → Pc → Prop} {pX : String → Prop} (k1 : (o_takeUp S a b).1 = 1 → pX XI) (k2 : (o_takeUp S a b).1 = 2 → pX XA) (k0 : (o_takeUp S a b).1 = 0 → ∀ vp1, InvC vp1 (o_takeUp S a b).2.2 → post (o_takeUp S a b).2.1 vp1) : wp_X4_takeUp vp (zz a) (zz b)  post pX := by
  unfold i32 at *
  unfold wp_X4_takeUp
  refine X4_needCourse_ok ha (fun h => ?_) (fun h => k1 (by unfold o_takeUp; rw [if_pos h]))
  simp (disch := omega) only [zl_0, zl_1, zl_2, zl_3, zl_4, zl_5, zl_6, zl_7, zl_8, zl_9, zl_10, zl_11, zl_12, zl_24, zl_31, zl_32, zl_33, zl_36, zl_48, zl_49, zl_54, zl_59, zl_60, zl_61, zl_97, zl_99, zl_102, zl_126, zl_180, zl_360, zl_376, zl_1880, zl_2256, zl_2903, z_add, z_sub, z_mul, z_neg, z_lt, z_le, z_eq, z_in]
  refine wB rfl (fun h1 => nA0 (k2 (by unfold o_takeUp; rw [if_neg (fun h2 => h2 h), if_pos (by omega)]))) (fun h1 => wB rfl (fun h2 => nA0 (k2 (by unfold o_takeUp; rw [if_neg (fun h2 => h2 h), if_pos (by omega)]))) (fun h2 => nA1 ?_))
  have e : o_takeUp S a b = (0, zz (min b.toNat (aK S.1 a.toNat) : Nat), sS S (aTake a.toNat (min b.toNat (aK S.1 a.toNat)) S.1)) := by unfold o_takeUp; rw [if_neg (fun h2 => h2 h), if_neg (by omega)]
  rw [e] at k0
  exact X1_save_ok hC.2.1 hC.1 (fun vh1 h3 => X2_takeUpLast_ok (A := S.1) hC.1 hW.1 (c := a.toNat) (m := b.toNat) (by omega) (by omega) (by omega) (by omega) (fun w1 h6 => k0 rfl _ ⟨h6, h3, hC.2.2⟩))
theorem X4_fill_ok {vp : Pc} {S : SS} (hC : InvC vp S) (hW : WfS S) {a : Int} (ha : i32 a)  {post : Int32 → Pc → Prop} {pX : String → Prop} (k1 : (o_fill S a).1 = 1 → pX XI) (k0 : (o_fill S a).1 = 0 → ∀ vp1, InvC vp1 (o_fill S a).2.2 → post (o_fill S a).2.1 vp1) : wp_X4_fill vp (zz a)  post pX := by
  unfold i32 at *
  unfold wp_X4_fill
  refine X4_needCourse_ok ha (fun h => ?_) (fun h => k1 (by unfold o_fill; rw [if_pos h]))
  have e : o_fill S a = (0, zz ((aFills a.toNat (aR S.1) 60 S.1).1 : Nat), sS S (aFills a.toNat (aR S.1) 60 S.1).2) := by unfold o_fill; rw [if_neg (fun h2 => h2 h)]
  rw [e] at k0
  have hr := hW.1.2.1
  exact X1_save_ok hC.2.1 hC.1 (fun vh1 h3 => X2_settingOf_ok (A := S.1) hC.1 hW.1 (i := 1) (t := 1) (by omega) rfl (X2_fillCourse_ok (A := S.1) hC.1 hW.1 (c := a.toNat) (r := aR S.1) (by omega) (by omega) rfl hr (fun w1 h6 => k0 rfl _ ⟨h6, h3, hC.2.2⟩)))
