/-! The law's own comparing of two answers. -/
theorem lgc (x : Int64) : lg_cmp x x = 0 := by
  unfold lg_cmp
  rw [if_neg (Int64.lt_irrefl), if_pos rfl]
theorem law_fin {K : Prop} {u2 : Nat → Int64} {t r rv : Int32} {R : RR} (ht : t = zz R.1) (hr : r = zz R.1) (h3 : R.1 ≤ 3) (hv : R.1 = 0 → u2 0 = rv.toInt64) (k : K) : (t = r → ((r = 0 → ((lg_cmp (u2 (0 : Int32).toNatClampNeg) rv.toInt64 = 0 → K) ∧ (¬ lg_cmp (u2 (0 : Int32).toNatClampNeg) rv.toInt64 = 0 → False))) ∧ (¬ r = 0 → K))) ∧ (¬ t = r → False) := by
  subst ht hr
  refine ⟨fun _ => ⟨fun h => ?_, fun _ => k⟩, fun h => h rfl⟩
  rw [zl_0, z_eq (by omega)] at h
  have e : u2 (0 : Int32).toNatClampNeg = rv.toInt64 := hv (by omega)
  rw [e]
  exact ⟨fun _ => k, fun h1 => h1 (lgc _)⟩
def A0 : Ab := (32, 0, 0, 0, fun _ => 9, fun _ => 0, fun _ _ => 1, fun _ _ => false)
def S0 : SS := (A0, [], 0, fun _ => 33)
theorem S0_ok : WfS S0 := ⟨⟨⟨by decide, by decide⟩, by decide, by decide, fun _ => by show 9 ≤ 99; decide, fun c hc => Nat.zero_le _, fun c k hc hk => absurd hk (Nat.not_lt_zero _)⟩, (fun B hB => absurd hB (List.not_mem_nil)), Nat.zero_le _, Nat.zero_le _, fun i hi => absurd hi (Nat.not_lt_zero _)⟩
