/-! THE LAW'S LOOP over the mathematics, and its start. -/
set_option maxHeartbeats 4000000 in
theorem law_ok {L : Nat} (hL : L ≤ 2048) {xs : Nat → Int32} {N : Nat} : ∀ {p : Nat} {i : Int} {vp : Pc} {vd : Md} {vo : Nat → Int64} {S : SS}, i = p → p ≤ L → L < p + 4 * N → InvC vp S → InvM vd S → WfS S → wp_law L xs N (zz i) vp vd vo := by
  induction N with
  | zero =>
    intro p i vp vd vo S hi hp hN hC hM hW
    omega
  | succ N ih =>
    intro p i vp vd vo S hi hp hN hC hM hW
    subst hi
    have e4 : nI L - 4 = zz ((L : Int) - 4) := by rw [z_nI, zl_4, z_sub]
    unfold wp_law
    rw [e4, z_lt (by omega)]
    refine ⟨fun _ => trivial, fun h => ⟨by rw [z_in (by omega)]; omega, ?_⟩⟩
    have hK : ∀ (S1 : SS) (vp1 : Pc) (vd1 : Md) (vo1 : Nat → Int64), InvC vp1 S1 → InvM vd1 S1 → WfS S1 → wp_law L xs N (zz p + 4) vp1 vd1 vo1 := fun S1 vp1 vd1 vo1 h1 h2 h3 => by
      rw [zl_4, z_add]
      exact ih (p := p + 4) (by omega) (by omega) (by omega) h1 h2 h3
    clear ih
    have j1 : vp_in (zz p + 1) L := by rw [zl_1, z_add, z_in (by omega)]; omega
    have j2 : vp_in (zz p + 2) L := by rw [zl_2, z_add, z_in (by omega)]; omega
    have j3 : vp_in (zz p + 3) L := by rw [zl_3, z_add, z_in (by omega)]; omega
    generalize (xs (zz (p : Int)).toNatClampNeg) &&& 31 = o
    generalize xs (zz (p : Int) + 3).toNatClampNeg = x3
    generalize xs (zz (p : Int) + 2).toNatClampNeg = x2
    generalize xs (zz (p : Int) + 1).toNatClampNeg = x1
    obtain ⟨a, a1, a2, rfl⟩ := z_surj x1
    obtain ⟨b, b1, b2, rfl⟩ := z_surj x2
    obtain ⟨d, d1, d2, rfl⟩ := z_surj x3
    have ha : i32 a := ⟨a1, a2⟩
    have hb : i32 b := ⟨b1, b2⟩
    have hd : i32 d := ⟨d1, d2⟩
    refine ⟨fun _ => ⟨j1, j2, C_stock (K := wp_law L xs N (zz p + 4)) hC hM hW ha hb j1 j2 hK⟩, fun _ => ?_⟩
    refine ⟨fun _ => ⟨j1, j2, C_lay (K := wp_law L xs N (zz p + 4)) hC hM hW ha hb j1 j2 hK⟩, fun _ => ?_⟩
    refine ⟨fun _ => ⟨j1, j2, C_cut (K := wp_law L xs N (zz p + 4)) hC hM hW ha hb j1 j2 hK⟩, fun _ => ?_⟩
    refine ⟨fun _ => ⟨j1, j2, C_takeUp (K := wp_law L xs N (zz p + 4)) hC hM hW ha hb j1 j2 hK⟩, fun _ => ?_⟩
    refine ⟨fun _ => ⟨j1, C_fill (K := wp_law L xs N (zz p + 4)) hC hM hW ha j1 hK⟩, fun _ => ?_⟩
    refine ⟨fun _ => X4_fillAll_ok hC hW (fun _ vp1 h1 => X5_fillAll_ok hM hW (fun rv vd1 hM1 ht hv => ⟨fun _ => hK _ _ _ _ h1 hM1 (W_fillAll hW), fun h => h (hv rfl).symm⟩)), fun _ => ?_⟩
    refine ⟨fun _ => ⟨j1, j2, C_set (K := wp_law L xs N (zz p + 4)) hC hM hW ha hb j1 j2 hK⟩, fun _ => ?_⟩
    refine ⟨fun _ => ⟨j1, C_append (K := wp_law L xs N (zz p + 4)) hC hM hW ha j1 hK⟩, fun _ => ?_⟩
    refine ⟨fun _ => X4_clearBuffer_ok hC hW (fun _ vp1 h1 => X5_clearBuffer_ok hM hW (fun rv vd1 hM1 ht hv => ⟨fun _ => hK _ _ _ _ h1 hM1 (W_clear hW), fun h => h (hv rfl).symm⟩)), fun _ => ?_⟩
    refine ⟨fun _ => X4_firstError_ok hC hW (X5_firstError_ok hM hW (fun vd1 hM1 => ⟨fun _ => hK _ _ _ _ hC hM1 hW, fun h => h rfl⟩)), fun _ => ?_⟩
    refine ⟨fun _ => C_layAll (K := wp_law L xs N (zz p + 4)) hC hM hW hK, fun _ => ?_⟩
    refine ⟨fun _ => C_undo (K := wp_law L xs N (zz p + 4)) hC hM hW hK, fun _ => ?_⟩
    refine ⟨fun _ => ⟨j1, j2, C_course (K := wp_law L xs N (zz p + 4)) hC hM hW ha hb j1 j2 hK⟩, fun _ => ?_⟩
    refine ⟨fun _ => ⟨j1, j2, j3, C_cell (K := wp_law L xs N (zz p + 4)) hC hM hW ha hb hd j1 j2 j3 hK⟩, fun _ => ?_⟩
    refine ⟨fun _ => ⟨j1, j2, j3, (fun h0 => C_refusal (f := false) (K := wp_law L xs N (zz p + 4)) hC hM hW ha hb hK (fun r u h => ⟨j1, j2, j3, wT h0 h⟩)), (fun h0 => C_refusal (f := true) (K := wp_law L xs N (zz p + 4)) hC hM hW ha hb hK (fun r u h => ⟨j1, j2, j3, wF h0 h⟩))⟩, fun _ => ?_⟩
    refine ⟨fun _ => ⟨j1, C_stockOf (K := wp_law L xs N (zz p + 4)) hC hM hW ha j1 hK⟩, fun _ => ?_⟩
    refine ⟨fun _ => ⟨j1, C_count (K := wp_law L xs N (zz p + 4)) hC hM hW ha j1 hK⟩, fun _ => ?_⟩
    refine ⟨fun _ => ⟨j1, C_setting (K := wp_law L xs N (zz p + 4)) hC hM hW ha j1 hK⟩, fun _ => ?_⟩
    refine ⟨fun _ => ⟨j1, C_fewest (K := wp_law L xs N (zz p + 4)) hC hM hW ha j1 hK⟩, fun _ => ?_⟩
    refine ⟨fun _ => ⟨j1, C_nextSize (K := wp_law L xs N (zz p + 4)) hC hM hW ha j1 hK⟩, fun _ => ?_⟩
    refine ⟨fun _ => ⟨j1, j2, j3, C_ifFilled (K := wp_law L xs N (zz p + 4)) hC hM hW ha hb hd j1 j2 j3 hK⟩, fun _ => ?_⟩
    refine ⟨fun _ => X4_bestRule_ok hC hW (fun vp1 h1 => X5_bestRule_ok hM hW (fun vd1 hM1 => ⟨fun _ => hK _ _ _ _ h1 hM1 hW, fun h => h rfl⟩)), fun _ => ?_⟩
    refine ⟨fun _ => X4_share_ok hC hW (X5_share_ok hM hW (fun vd1 hM1 => wT (aSh_n hW.1).2 (hK _ _ _ _ hC hM1 hW))), fun _ => ?_⟩
    refine ⟨fun _ => X4_digest_ok hC hW (fun vp1 h1 => X5_digest_ok hM hW (fun vd1 hM1 => wT (lgc _) (hK _ _ _ _ h1 hM1 hW))), fun _ => ?_⟩
    exact hK _ _ _ _ hC hM hW
theorem no_at {i : Nat} {B : Ab} {P : Prop} (h : ([] : List Ab)[i]? = some B) : P := by
  rw [List.getElem?_nil] at h
  cases h
theorem six_cases {c : Nat} (h : c < 6) : c = 0 ∨ c = 1 ∨ c = 2 ∨ c = 3 ∨ c = 4 ∨ c = 5 := by omega
theorem CC0 : InvC zPc S0 := by
  refine ⟨⟨fun c hc => ?_, fun c hc => rfl, fun c p hc hp => rfl, fun s h1 h2 => ?_, rfl, rfl, rfl⟩, ⟨0, by omega, rfl, rfl, Nat.zero_le _, fun i B h => no_at h⟩, rfl, fun i hi => absurd hi (Nat.not_lt_zero _)⟩
  · rcases six_cases hc with rfl | rfl | rfl | rfl | rfl | rfl <;> decide
  · rcases (show s = 1 ∨ s = 2 ∨ s = 3 ∨ s = 4 ∨ s = 5 ∨ s = 6 by omega) with rfl | rfl | rfl | rfl | rfl | rfl <;> decide
theorem MM0 : InvM zMd S0 := by
  refine ⟨⟨by decide, by decide, by decide, by decide, fun s h1 h2 => ?_, fun c hc => ?_, fun c k hc hk => absurd hk (Nat.not_lt_zero _)⟩, ⟨rfl, Nat.zero_le _, fun i B h => no_at h⟩, rfl, fun i hi => absurd hi (Nat.not_lt_zero _)⟩
  · rcases (show s = 1 ∨ s = 2 ∨ s = 3 ∨ s = 4 ∨ s = 5 ∨ s = 6 by omega) with rfl | rfl | rfl | rfl | rfl | rfl <;> decide
  · rcases six_cases hc with rfl | rfl | rfl | rfl | rfl | rfl <;> decide
theorem law_all {L : Nat} (hL : L ≤ 2048) {xs : Nat → Int32} : wp_law L xs 513 0 zPc zMd (fun _ => 0) := law_ok hL (p := 0) (i := 0) rfl (Nat.zero_le _) (by omega) CC0 MM0 S0_ok
