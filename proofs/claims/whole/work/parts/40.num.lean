/-! NUMBERS: Int32 as zz of an Int; branches of a weakest precondition. -/
def zz (i : Int) : Int32 := Int32.ofInt i
theorem zl_0 : (0 : Int32) = zz 0 := rfl
theorem zl_1 : (1 : Int32) = zz 1 := rfl
theorem zl_2 : (2 : Int32) = zz 2 := rfl
theorem zl_3 : (3 : Int32) = zz 3 := rfl
theorem zl_4 : (4 : Int32) = zz 4 := rfl
theorem zl_5 : (5 : Int32) = zz 5 := rfl
theorem zl_6 : (6 : Int32) = zz 6 := rfl
theorem zl_7 : (7 : Int32) = zz 7 := rfl
theorem zl_8 : (8 : Int32) = zz 8 := rfl
theorem zl_9 : (9 : Int32) = zz 9 := rfl
theorem zl_10 : (10 : Int32) = zz 10 := rfl
theorem zl_11 : (11 : Int32) = zz 11 := rfl
theorem zl_12 : (12 : Int32) = zz 12 := rfl
theorem zl_24 : (24 : Int32) = zz 24 := rfl
theorem zl_31 : (31 : Int32) = zz 31 := rfl
theorem zl_32 : (32 : Int32) = zz 32 := rfl
theorem zl_33 : (33 : Int32) = zz 33 := rfl
theorem zl_36 : (36 : Int32) = zz 36 := rfl
theorem zl_48 : (48 : Int32) = zz 48 := rfl
theorem zl_49 : (49 : Int32) = zz 49 := rfl
theorem zl_54 : (54 : Int32) = zz 54 := rfl
theorem zl_59 : (59 : Int32) = zz 59 := rfl
theorem zl_60 : (60 : Int32) = zz 60 := rfl
theorem zl_61 : (61 : Int32) = zz 61 := rfl
theorem zl_97 : (97 : Int32) = zz 97 := rfl
theorem zl_99 : (99 : Int32) = zz 99 := rfl
theorem zl_102 : (102 : Int32) = zz 102 := rfl
theorem zl_126 : (126 : Int32) = zz 126 := rfl
theorem zl_180 : (180 : Int32) = zz 180 := rfl
theorem zl_360 : (360 : Int32) = zz 360 := rfl
theorem zl_376 : (376 : Int32) = zz 376 := rfl
theorem zl_1880 : (1880 : Int32) = zz 1880 := rfl
theorem zl_2256 : (2256 : Int32) = zz 2256 := rfl
theorem zl_2903 : (2903 : Int32) = zz 2903 := rfl
theorem z_add (a b : Int) : zz a + zz b = zz (a + b) := (Int32.ofInt_add a b).symm
theorem z_sub (a b : Int) : zz a - zz b = zz (a - b) := (Int32.ofInt_sub a b).symm
theorem z_mul (a b : Int) : zz a * zz b = zz (a * b) := (Int32.ofInt_mul a b).symm
theorem z_neg (a : Int) : - zz a = zz (- a) := (Int32.ofInt_neg a).symm
theorem z_int {a : Int} (h : -2147483648 ≤ a ∧ a < 2147483648) : (zz a).toInt = a := Int32.toInt_ofInt_of_le (by omega) (by omega)
theorem z_lt {a b : Int} (h : -2147483648 ≤ a ∧ a < 2147483648 ∧ -2147483648 ≤ b ∧ b < 2147483648) : (zz a < zz b) = (a < b) := by
  rw [Int32.lt_iff_toInt_lt, z_int (by omega), z_int (by omega)]
theorem z_le {a b : Int} (h : -2147483648 ≤ a ∧ a < 2147483648 ∧ -2147483648 ≤ b ∧ b < 2147483648) : (zz a ≤ zz b) = (a ≤ b) := by
  rw [Int32.le_iff_toInt_le, z_int (by omega), z_int (by omega)]
theorem z_eq {a b : Int} (h : -2147483648 ≤ a ∧ a < 2147483648 ∧ -2147483648 ≤ b ∧ b < 2147483648) : (zz a = zz b) = (a = b) := by
  rw [← Int32.toInt_inj, z_int (by omega), z_int (by omega)]
theorem z_nat {a : Int} (h : -2147483648 ≤ a ∧ a < 2147483648) : (zz a).toNatClampNeg = a.toNat := by
  show (zz a).toInt.toNat = _
  rw [z_int h]
theorem z_in {a : Int} {n : Nat} (h : -2147483648 ≤ a ∧ a < 2147483648) : vp_in (zz a) n = (0 ≤ a ∧ a < (n : Int)) := by
  unfold vp_in
  rw [zl_0, z_lt (by omega), z_nat h]
  exact propext ⟨fun h => by omega, fun h => by omega⟩
theorem z_div {a b : Int} (h : 0 ≤ a ∧ a < 2147483648 ∧ 0 < b ∧ b < 2147483648) : zz a / zz b = zz (a / b) := by
  rw [← Int32.toInt_inj, Int32.toInt_div_of_ne_left, z_int (by omega), z_int (by omega), Int.tdiv_eq_ediv_of_nonneg (by omega), z_int]
  · exact ⟨Int.le_trans (by omega) (Int.ediv_nonneg (by omega) (by omega)), Int.lt_of_le_of_lt (Int.ediv_le_self _ (by omega)) (by omega)⟩
  · intro e
    have := congrArg Int32.toInt e
    rw [z_int (by omega)] at this
    exact absurd this (by have : Int32.minValue.toInt = -2147483648 := rfl; omega)
theorem z_mod {a b : Int} (h : 0 ≤ a ∧ a < 2147483648 ∧ 0 < b ∧ b < 2147483648) : zz a % zz b = zz (a % b) := by
  rw [← Int32.toInt_inj, Int32.toInt_mod, z_int (by omega), z_int (by omega), Int.tmod_eq_emod_of_nonneg (by omega), z_int]
  have h1 := Int.emod_nonneg a (show b ≠ 0 by omega)
  have h2 := Int.emod_lt_of_pos a (show 0 < b by omega)
  omega
theorem z_ofNat (n : Nat) : Int32.ofNat n = zz n := Int32.ofInt_eq_ofNat.symm
theorem z_nI (n : Nat) : nI n = zz n := z_ofNat n
theorem z_surj (x : Int32) : ∃ a : Int, -2147483648 ≤ a ∧ a < 2147483648 ∧ x = zz a := ⟨x.toInt, by have := Int32.le_toInt x; omega, by have := Int32.toInt_lt x; omega, (Int32.ofInt_toInt x).symm⟩
theorem wB {P Q : Prop} {a b : Prop} (e : P = Q) (h1 : Q → a) (h2 : ¬ Q → b) : (P → a) ∧ (¬ P → b) := by subst e; exact ⟨h1, h2⟩
theorem wT {P : Prop} {a b : Prop} (e : P) (h1 : a) : (P → a) ∧ (¬ P → b) := ⟨fun _ => h1, fun h => absurd e h⟩
theorem wF {P : Prop} {a b : Prop} (e : ¬ P) (h1 : b) : (P → a) ∧ (¬ P → b) := ⟨fun h => absurd h e, fun _ => h1⟩
theorem upd_eq {f : Nat → Int32} {k j : Nat} {x : Int32} (h : j = k) : upd f k x j = x := by subst h; exact if_pos rfl
theorem upd_ne {f : Nat → Int32} {k j : Nat} {x : Int32} (h : j ≠ k) : upd f k x j = f j := if_neg h
