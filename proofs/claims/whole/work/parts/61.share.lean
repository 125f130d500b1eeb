/-! The share and its bits: every share that there is, looked at. -/
def shB (t a : Nat) : UInt64 := FP.ddiv (FP.i2d (zz t)) (FP.i2d (zz a))
def bRun : Nat → UInt64 → Int64 → Option (UInt64 × Int64)
  | 0, _, _ => none
  | n + 1, x, e => if 0 ≤ Op.cmpValue (FP.dcmp x FP.dconst1) CmpOp.g then some (x, e) else if (FP.dmul x 4611686018427387904) &&& 0x7fffffffffffffff ≤ 0x7ff0000000000000 then bRun n (FP.dmul x 4611686018427387904) (e - 1) else none
def bFin (y : UInt64) (e : Int64) : Int64 := (e <<< ((52 : Int32).toInt64 &&& 63)) + (FP.d2l (FP.dmul (FP.dsub y FP.dconst1) 4841369599423283200))
def bChk (x : UInt64) : Bool := decide (x &&& 0x7fffffffffffffff ≤ 0x7ff0000000000000) && (decide (Op.cmpValue (FP.dcmp x x) CmpOp.l = 0) && (if 0 < Op.cmpValue (FP.dcmp x FP.dconst0) CmpOp.l then (match bRun 12 x 1023 with | some p => decide ((FP.dsub p.1 FP.dconst1) &&& 0x7fffffffffffffff ≤ 0x7ff0000000000000) && (decide ((FP.dmul (FP.dsub p.1 FP.dconst1) 4841369599423283200) &&& 0x7fffffffffffffff ≤ 0x7ff0000000000000) && decide (bFin p.1 p.2 = x.toInt64)) | none => false) else decide (x.toInt64 = 0)))
theorem bChk_24 : ∀ t : Nat, t < 85 → bChk (shB t 84) = true := by decide +kernel
theorem bChk_25 : ∀ t : Nat, t < 91 → bChk (shB t 90) = true := by decide +kernel
theorem bChk_26 : ∀ t : Nat, t < 97 → bChk (shB t 96) = true := by decide +kernel
theorem bChk_27 : ∀ t : Nat, t < 103 → bChk (shB t 102) = true := by decide +kernel
theorem bChk_28 : ∀ t : Nat, t < 109 → bChk (shB t 108) = true := by decide +kernel
theorem bChk_29 : ∀ t : Nat, t < 115 → bChk (shB t 114) = true := by decide +kernel
theorem bChk_30 : ∀ t : Nat, t < 121 → bChk (shB t 120) = true := by decide +kernel
theorem bChk_31 : ∀ t : Nat, t < 127 → bChk (shB t 126) = true := by decide +kernel
theorem bChk_32 : ∀ t : Nat, t < 133 → bChk (shB t 132) = true := by decide +kernel
theorem bChk_33 : ∀ t : Nat, t < 139 → bChk (shB t 138) = true := by decide +kernel
theorem bChk_34 : ∀ t : Nat, t < 145 → bChk (shB t 144) = true := by decide +kernel
theorem bChk_35 : ∀ t : Nat, t < 151 → bChk (shB t 150) = true := by decide +kernel
theorem bChk_36 : ∀ t : Nat, t < 157 → bChk (shB t 156) = true := by decide +kernel
theorem bChk_37 : ∀ t : Nat, t < 163 → bChk (shB t 162) = true := by decide +kernel
theorem bChk_38 : ∀ t : Nat, t < 169 → bChk (shB t 168) = true := by decide +kernel
theorem bChk_39 : ∀ t : Nat, t < 175 → bChk (shB t 174) = true := by decide +kernel
theorem bChk_40 : ∀ t : Nat, t < 181 → bChk (shB t 180) = true := by decide +kernel
theorem bChk_41 : ∀ t : Nat, t < 187 → bChk (shB t 186) = true := by decide +kernel
theorem bChk_42 : ∀ t : Nat, t < 193 → bChk (shB t 192) = true := by decide +kernel
theorem bChk_43 : ∀ t : Nat, t < 199 → bChk (shB t 198) = true := by decide +kernel
theorem bChk_44 : ∀ t : Nat, t < 205 → bChk (shB t 204) = true := by decide +kernel
theorem bChk_45 : ∀ t : Nat, t < 211 → bChk (shB t 210) = true := by decide +kernel
theorem bChk_46 : ∀ t : Nat, t < 217 → bChk (shB t 216) = true := by decide +kernel
theorem bChk_47 : ∀ t : Nat, t < 223 → bChk (shB t 222) = true := by decide +kernel
theorem bChk_48 : ∀ t : Nat, t < 229 → bChk (shB t 228) = true := by decide +kernel
theorem bChk_49 : ∀ t : Nat, t < 235 → bChk (shB t 234) = true := by decide +kernel
theorem bChk_50 : ∀ t : Nat, t < 241 → bChk (shB t 240) = true := by decide +kernel
theorem bChk_51 : ∀ t : Nat, t < 247 → bChk (shB t 246) = true := by decide +kernel
theorem bChk_52 : ∀ t : Nat, t < 253 → bChk (shB t 252) = true := by decide +kernel
theorem bChk_53 : ∀ t : Nat, t < 259 → bChk (shB t 258) = true := by decide +kernel
theorem bChk_54 : ∀ t : Nat, t < 265 → bChk (shB t 264) = true := by decide +kernel
theorem bChk_55 : ∀ t : Nat, t < 271 → bChk (shB t 270) = true := by decide +kernel
theorem bChk_56 : ∀ t : Nat, t < 277 → bChk (shB t 276) = true := by decide +kernel
theorem bChk_57 : ∀ t : Nat, t < 283 → bChk (shB t 282) = true := by decide +kernel
theorem bChk_58 : ∀ t : Nat, t < 289 → bChk (shB t 288) = true := by decide +kernel
theorem bChk_59 : ∀ t : Nat, t < 295 → bChk (shB t 294) = true := by decide +kernel
theorem bChk_60 : ∀ t : Nat, t < 301 → bChk (shB t 300) = true := by decide +kernel
theorem bChk_all {n t : Nat} (hn : 24 ≤ n ∧ n ≤ 60) (ht : t ≤ 6 * n - 60) : bChk (shB t (6 * n - 60)) = true := by
  rcases (show n = 24 ∨ n = 25 ∨ n = 26 ∨ n = 27 ∨ n = 28 ∨ n = 29 ∨ n = 30 ∨ n = 31 ∨ n = 32 ∨ n = 33 ∨ n = 34 ∨ n = 35 ∨ n = 36 ∨ n = 37 ∨ n = 38 ∨ n = 39 ∨ n = 40 ∨ n = 41 ∨ n = 42 ∨ n = 43 ∨ n = 44 ∨ n = 45 ∨ n = 46 ∨ n = 47 ∨ n = 48 ∨ n = 49 ∨ n = 50 ∨ n = 51 ∨ n = 52 ∨ n = 53 ∨ n = 54 ∨ n = 55 ∨ n = 56 ∨ n = 57 ∨ n = 58 ∨ n = 59 ∨ n = 60 by omega) with rfl | rfl | rfl | rfl | rfl | rfl | rfl | rfl | rfl | rfl | rfl | rfl | rfl | rfl | rfl | rfl | rfl | rfl | rfl | rfl | rfl | rfl | rfl | rfl | rfl | rfl | rfl | rfl | rfl | rfl | rfl | rfl | rfl | rfl | rfl | rfl | rfl
  · exact bChk_24 t (by omega)
  · exact bChk_25 t (by omega)
  · exact bChk_26 t (by omega)
  · exact bChk_27 t (by omega)
  · exact bChk_28 t (by omega)
  · exact bChk_29 t (by omega)
  · exact bChk_30 t (by omega)
  · exact bChk_31 t (by omega)
  · exact bChk_32 t (by omega)
  · exact bChk_33 t (by omega)
  · exact bChk_34 t (by omega)
  · exact bChk_35 t (by omega)
  · exact bChk_36 t (by omega)
  · exact bChk_37 t (by omega)
  · exact bChk_38 t (by omega)
  · exact bChk_39 t (by omega)
  · exact bChk_40 t (by omega)
  · exact bChk_41 t (by omega)
  · exact bChk_42 t (by omega)
  · exact bChk_43 t (by omega)
  · exact bChk_44 t (by omega)
  · exact bChk_45 t (by omega)
  · exact bChk_46 t (by omega)
  · exact bChk_47 t (by omega)
  · exact bChk_48 t (by omega)
  · exact bChk_49 t (by omega)
  · exact bChk_50 t (by omega)
  · exact bChk_51 t (by omega)
  · exact bChk_52 t (by omega)
  · exact bChk_53 t (by omega)
  · exact bChk_54 t (by omega)
  · exact bChk_55 t (by omega)
  · exact bChk_56 t (by omega)
  · exact bChk_57 t (by omega)
  · exact bChk_58 t (by omega)
  · exact bChk_59 t (by omega)
  · exact bChk_60 t (by omega)
theorem bRun_ok {K : UInt64 → Int64 → Prop} {n : Nat} : ∀ {x : UInt64} {e : Int64} {i : Nat} {j : Int} {p : UInt64 × Int64}, j = i → i + n ≤ 60 → bRun n x e = some p → K p.1 p.2 → wp_X4_bitsOf_L18 K n x e (zz j) := by
  induction n with
  | zero => intro x e i j p hj hn h k; exact absurd h (by unfold bRun; intro h; cases h)
  | succ n ih =>
    intro x e i j p hj hn h k
    subst hj
    unfold bRun at h
    unfold wp_X4_bitsOf_L18
    rw [show (64 : Int32) = zz 64 from rfl, zl_1, z_le (by omega), z_add]
    refine wF (by omega) (wB rfl (fun h1 => ?_) (fun h1 => ?_))
    · rw [if_pos h1] at h
      have := Option.some.inj h
      subst this
      exact k
    · rw [if_neg h1] at h
      by_cases h2 : (FP.dmul x 4611686018427387904) &&& 0x7fffffffffffffff ≤ 0x7ff0000000000000
      · rw [if_pos h2] at h
        exact ⟨h2, ih (i := i + 1) (by omega) (by omega) h k⟩
      · rw [if_neg h2] at h
        cases h
theorem X4_bitsOf_ok {x : UInt64} (h : bChk x = true) {post : Int64 → Prop} (k : post x.toInt64) : wp_X4_bitsOf x post := by
  unfold bChk at h
  rw [Bool.and_eq_true, Bool.and_eq_true] at h
  obtain ⟨h1, h2, h3⟩ := h
  unfold wp_X4_bitsOf
  refine wB rfl (fun h4 => ⟨12, ?_⟩) (fun h4 => ?_)
  · rw [if_pos h4] at h3
    cases hp : bRun 12 x 1023 with
    | none => rw [hp] at h3; cases h3
    | some p =>
      rw [hp] at h3
      rw [Bool.and_eq_true, Bool.and_eq_true, decide_eq_true_iff, decide_eq_true_iff, decide_eq_true_iff] at h3
      refine bRun_ok (i := 0) (j := 0) rfl (by omega) hp ⟨h3.1, h3.2.1, ?_⟩
      have := h3.2.2
      unfold bFin at this
      rw [this]
      exact k
  · rw [if_neg h4, decide_eq_true_iff] at h3
    rw [h3] at k
    exact k
