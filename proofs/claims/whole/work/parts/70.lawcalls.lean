/-! THE LAW'S CALLS: the helper of the class's call, and both calls compared. -/
theorem upL0 {vo : Nat → Int64} {x : Int64} : vp_updL vo (0 : Int32).toNatClampNeg x 0 = x := by
  show (if (0 : Nat) = (0 : Int32).toNatClampNeg then x else vo 0) = x
  exact if_pos (by decide)
theorem brW {vd : Md} {P : Int32 → Prop} (h : P vd.2.2.2.2.2.2.2.2.1) : wp_X5_thrown vd P := h
theorem E_stock {S : SS} {a : Int} {b : Int} : ((o_stock S a b).1 ≠ 0 → (o_stock S a b).2.2 = S) ∧ (o_stock S a b).1 ≤ 3 := by
  unfold o_stock
  repeat' split
  all_goals first | exact ⟨fun h => absurd rfl h, Nat.le_of_ble_eq_true rfl⟩ | exact ⟨fun _ => rfl, Nat.le_of_ble_eq_true rfl⟩
theorem L_stock_ok {vp : Pc} {vo : Nat → Int64} {S : SS} (hC : InvC vp S) (hW : WfS S) {a : Int} {b : Int} (ha : i32 a) (hb : i32 b) {post : Int32 → Pc × (Nat → Int64) → Prop} (k : ∀ r u, r = zz (o_stock S a b).1 → InvC u.1 (o_stock S a b).2.2 → ((o_stock S a b).1 = 0 → u.2 0 = (o_stock S a b).2.1.toInt64) → post r u) : wp_L_stock vp vo (zz a) (zz b) post := by
  have e := E_stock (S := S) (a := a) (b := b)
  have bad : ∀ n : Nat, (o_stock S a b).1 = n + 1 → ∀ r, r = zz (n + 1 : Nat) → post r (vp, vo) := fun n h r hr => k r (vp, vo) (by rw [h]; exact hr) (by rw [e.1 (by omega)]; exact hC) (fun h0 => absurd h0 (by omega))
  unfold wp_L_stock
  exact X4_stock_ok hC hW ha hb (fun h => ⟨rfl, bad 0 h 1 rfl⟩) (fun h vp1 h1 => k 0 (vp1, _) (by rw [h]; rfl) h1 (fun _ => upL0 (vo := vo)))
theorem C_stock {vp : Pc} {vd : Md} {vo : Nat → Int64} {S : SS} (hC : InvC vp S) (hM : InvM vd S) (hW : WfS S) {a : Int} {b : Int} (ha : i32 a) (hb : i32 b) {I1 : Prop} {I2 : Prop} (h1 : I1) (h2 : I2) {K : Pc → Md → (Nat → Int64) → Prop} (hK : ∀ (S1 : SS) (vp1 : Pc) (vd1 : Md) (vo1 : Nat → Int64), InvC vp1 S1 → InvM vd1 S1 → WfS S1 → K vp1 vd1 vo1) : wp_L_stock vp vo (zz a) (zz b) (fun r u => (I1 ∧ (I2 ∧ (wp_X5_stock vd (zz a) (zz b) (fun r1 u1 => (wp_X5_thrown u1 (fun r2 => ((r2 = r → ((r = 0 → (((lg_cmp ((u.2) (0 : Int32).toNatClampNeg) r1.toInt64) = 0 → K u.1 u1 u.2) ∧ (¬ (lg_cmp ((u.2) (0 : Int32).toNatClampNeg) r1.toInt64) = 0 → False))) ∧ (¬ r = 0 → K u.1 u1 u.2))) ∧ (¬ r2 = r → False))))))))) :=
  L_stock_ok hC hW ha hb (fun r u hr hu hv => ⟨h1, h2, X5_stock_ok hM hW ha hb (fun r1 u1 hM1 ht hv1 => brW (law_fin (R := (o_stock S a b)) ht hr (E_stock).2 (fun h => (hv h).trans (by rw [hv1 h])) (hK _ _ _ _ hu hM1 (W_stock hW))))⟩)
theorem E_lay {S : SS} {a : Int} {b : Int} : ((o_lay false S a b).1 ≠ 0 → (o_lay false S a b).2.2 = S) ∧ (o_lay false S a b).1 ≤ 3 := by
  unfold o_lay
  repeat' split
  all_goals first | exact ⟨fun h => absurd rfl h, Nat.le_of_ble_eq_true rfl⟩ | exact ⟨fun _ => rfl, Nat.le_of_ble_eq_true rfl⟩
theorem L_lay_ok {vp : Pc} {vo : Nat → Int64} {S : SS} (hC : InvC vp S) (hW : WfS S) {a : Int} {b : Int} (ha : i32 a) (hb : i32 b) {post : Int32 → Pc × (Nat → Int64) → Prop} (k : ∀ r u, r = zz (o_lay false S a b).1 → InvC u.1 (o_lay false S a b).2.2 → ((o_lay false S a b).1 = 0 → u.2 0 = (o_lay false S a b).2.1.toInt64) → post r u) : wp_L_lay vp vo (zz a) (zz b) post := by
  have e := E_lay (S := S) (a := a) (b := b)
  have bad : ∀ n : Nat, (o_lay false S a b).1 = n + 1 → ∀ r, r = zz (n + 1 : Nat) → post r (vp, vo) := fun n h r hr => k r (vp, vo) (by rw [h]; exact hr) (by rw [e.1 (by omega)]; exact hC) (fun h0 => absurd h0 (by omega))
  unfold wp_L_lay
  exact X4_lay_ok hC hW ha hb (fun h => .inl ⟨rfl, bad 0 h 1 rfl⟩) (fun h => .inr (.inl ⟨rfl, bad 1 h 2 rfl⟩)) (fun h => .inr (.inr (⟨rfl, bad 2 h 3 rfl⟩))) (fun h vp1 h1 => k 0 (vp1, _) (by rw [h]; rfl) h1 (fun _ => upL0 (vo := vo)))
theorem C_lay {vp : Pc} {vd : Md} {vo : Nat → Int64} {S : SS} (hC : InvC vp S) (hM : InvM vd S) (hW : WfS S) {a : Int} {b : Int} (ha : i32 a) (hb : i32 b) {I1 : Prop} {I2 : Prop} (h1 : I1) (h2 : I2) {K : Pc → Md → (Nat → Int64) → Prop} (hK : ∀ (S1 : SS) (vp1 : Pc) (vd1 : Md) (vo1 : Nat → Int64), InvC vp1 S1 → InvM vd1 S1 → WfS S1 → K vp1 vd1 vo1) : wp_L_lay vp vo (zz a) (zz b) (fun r u => (I1 ∧ (I2 ∧ (wp_X5_lay vd (zz a) (zz b) (fun r1 u1 => (wp_X5_thrown u1 (fun r2 => ((r2 = r → ((r = 0 → (((lg_cmp ((u.2) (0 : Int32).toNatClampNeg) r1.toInt64) = 0 → K u.1 u1 u.2) ∧ (¬ (lg_cmp ((u.2) (0 : Int32).toNatClampNeg) r1.toInt64) = 0 → False))) ∧ (¬ r = 0 → K u.1 u1 u.2))) ∧ (¬ r2 = r → False))))))))) :=
  L_lay_ok hC hW ha hb (fun r u hr hu hv => ⟨h1, h2, X5_lay_ok hM hW ha hb (fun r1 u1 hM1 ht hv1 => brW (law_fin (R := (o_lay false S a b)) ht hr (E_lay).2 (fun h => (hv h).trans (by rw [hv1 h])) (hK _ _ _ _ hu hM1 (W_lay hW))))⟩)
theorem E_cut {S : SS} {a : Int} {b : Int} : ((o_lay true S a b).1 ≠ 0 → (o_lay true S a b).2.2 = S) ∧ (o_lay true S a b).1 ≤ 3 := by
  unfold o_lay
  repeat' split
  all_goals first | exact ⟨fun h => absurd rfl h, Nat.le_of_ble_eq_true rfl⟩ | exact ⟨fun _ => rfl, Nat.le_of_ble_eq_true rfl⟩
theorem L_cut_ok {vp : Pc} {vo : Nat → Int64} {S : SS} (hC : InvC vp S) (hW : WfS S) {a : Int} {b : Int} (ha : i32 a) (hb : i32 b) {post : Int32 → Pc × (Nat → Int64) → Prop} (k : ∀ r u, r = zz (o_lay true S a b).1 → InvC u.1 (o_lay true S a b).2.2 → ((o_lay true S a b).1 = 0 → u.2 0 = (o_lay true S a b).2.1.toInt64) → post r u) : wp_L_cut vp vo (zz a) (zz b) post := by
  have e := E_cut (S := S) (a := a) (b := b)
  have bad : ∀ n : Nat, (o_lay true S a b).1 = n + 1 → ∀ r, r = zz (n + 1 : Nat) → post r (vp, vo) := fun n h r hr => k r (vp, vo) (by rw [h]; exact hr) (by rw [e.1 (by omega)]; exact hC) (fun h0 => absurd h0 (by omega))
  unfold wp_L_cut
  exact X4_cut_ok hC hW ha hb (fun h => .inl ⟨rfl, bad 0 h 1 rfl⟩) (fun h => .inr (.inl ⟨rfl, bad 1 h 2 rfl⟩)) (fun h => .inr (.inr (⟨rfl, bad 2 h 3 rfl⟩))) (fun h vp1 h1 => k 0 (vp1, _) (by rw [h]; rfl) h1 (fun _ => upL0 (vo := vo)))
theorem C_cut {vp : Pc} {vd : Md} {vo : Nat → Int64} {S : SS} (hC : InvC vp S) (hM : InvM vd S) (hW : WfS S) {a : Int} {b : Int} (ha : i32 a) (hb : i32 b) {I1 : Prop} {I2 : Prop} (h1 : I1) (h2 : I2) {K : Pc → Md → (Nat → Int64) → Prop} (hK : ∀ (S1 : SS) (vp1 : Pc) (vd1 : Md) (vo1 : Nat → Int64), InvC vp1 S1 → InvM vd1 S1 → WfS S1 → K vp1 vd1 vo1) : wp_L_cut vp vo (zz a) (zz b) (fun r u => (I1 ∧ (I2 ∧ (wp_X5_cut vd (zz a) (zz b) (fun r1 u1 => (wp_X5_thrown u1 (fun r2 => ((r2 = r → ((r = 0 → (((lg_cmp ((u.2) (0 : Int32).toNatClampNeg) r1.toInt64) = 0 → K u.1 u1 u.2) ∧ (¬ (lg_cmp ((u.2) (0 : Int32).toNatClampNeg) r1.toInt64) = 0 → False))) ∧ (¬ r = 0 → K u.1 u1 u.2))) ∧ (¬ r2 = r → False))))))))) :=
  L_cut_ok hC hW ha hb (fun r u hr hu hv => ⟨h1, h2, X5_cut_ok hM hW ha hb (fun r1 u1 hM1 ht hv1 => brW (law_fin (R := (o_lay true S a b)) ht hr (E_cut).2 (fun h => (hv h).trans (by rw [hv1 h])) (hK _ _ _ _ hu hM1 (W_lay hW))))⟩)
theorem E_takeUp {S : SS} {a : Int} {b : Int} : ((o_takeUp S a b).1 ≠ 0 → (o_takeUp S a b).2.2 = S) ∧ (o_takeUp S a b).1 ≤ 3 := by
  unfold o_takeUp
  repeat' split
  all_goals first | exact ⟨fun h => absurd rfl h, Nat.le_of_ble_eq_true rfl⟩ | exact ⟨fun _ => rfl, Nat.le_of_ble_eq_true rfl⟩
theorem L_takeUp_ok {vp : Pc} {vo : Nat → Int64} {S : SS} (hC : InvC vp S) (hW : WfS S) {a : Int} {b : Int} (ha : i32 a) (hb : i32 b) {post : Int32 → Pc × (Nat → Int64) → Prop} (k : ∀ r u, r = zz (o_takeUp S a b).1 → InvC u.1 (o_takeUp S a b).2.2 → ((o_takeUp S a b).1 = 0 → u.2 0 = (o_takeUp S a b).2.1.toInt64) → post r u) : wp_L_takeUp vp vo (zz a) (zz b) post := by
  have e := E_takeUp (S := S) (a := a) (b := b)
  have bad : ∀ n : Nat, (o_takeUp S a b).1 = n + 1 → ∀ r, r = zz (n + 1 : Nat) → post r (vp, vo) := fun n h r hr => k r (vp, vo) (by rw [h]; exact hr) (by rw [e.1 (by omega)]; exact hC) (fun h0 => absurd h0 (by omega))
  unfold wp_L_takeUp
  exact X4_takeUp_ok hC hW ha hb (fun h => .inl ⟨rfl, bad 0 h 1 rfl⟩) (fun h => .inr (⟨rfl, bad 1 h 2 rfl⟩)) (fun h vp1 h1 => k 0 (vp1, _) (by rw [h]; rfl) h1 (fun _ => upL0 (vo := vo)))
theorem C_takeUp {vp : Pc} {vd : Md} {vo : Nat → Int64} {S : SS} (hC : InvC vp S) (hM : InvM vd S) (hW : WfS S) {a : Int} {b : Int} (ha : i32 a) (hb : i32 b) {I1 : Prop} {I2 : Prop} (h1 : I1) (h2 : I2) {K : Pc → Md → (Nat → Int64) → Prop} (hK : ∀ (S1 : SS) (vp1 : Pc) (vd1 : Md) (vo1 : Nat → Int64), InvC vp1 S1 → InvM vd1 S1 → WfS S1 → K vp1 vd1 vo1) : wp_L_takeUp vp vo (zz a) (zz b) (fun r u => (I1 ∧ (I2 ∧ (wp_X5_takeUp vd (zz a) (zz b) (fun r1 u1 => (wp_X5_thrown u1 (fun r2 => ((r2 = r → ((r = 0 → (((lg_cmp ((u.2) (0 : Int32).toNatClampNeg) r1.toInt64) = 0 → K u.1 u1 u.2) ∧ (¬ (lg_cmp ((u.2) (0 : Int32).toNatClampNeg) r1.toInt64) = 0 → False))) ∧ (¬ r = 0 → K u.1 u1 u.2))) ∧ (¬ r2 = r → False))))))))) :=
  L_takeUp_ok hC hW ha hb (fun r u hr hu hv => ⟨h1, h2, X5_takeUp_ok hM hW ha hb (fun r1 u1 hM1 ht hv1 => brW (law_fin (R := (o_takeUp S a b)) ht hr (E_takeUp).2 (fun h => (hv h).trans (by rw [hv1 h])) (hK _ _ _ _ hu hM1 (W_takeUp hW))))⟩)
theorem E_fill {S : SS} {a : Int} : ((o_fill S a).1 ≠ 0 → (o_fill S a).2.2 = S) ∧ (o_fill S a).1 ≤ 3 := by
  unfold o_fill
  repeat' split
  all_goals first | exact ⟨fun h => absurd rfl h, Nat.le_of_ble_eq_true rfl⟩ | exact ⟨fun _ => rfl, Nat.le_of_ble_eq_true rfl⟩
theorem L_fill_ok {vp : Pc} {vo : Nat → Int64} {S : SS} (hC : InvC vp S) (hW : WfS S) {a : Int} (ha : i32 a) {post : Int32 → Pc × (Nat → Int64) → Prop} (k : ∀ r u, r = zz (o_fill S a).1 → InvC u.1 (o_fill S a).2.2 → ((o_fill S a).1 = 0 → u.2 0 = (o_fill S a).2.1.toInt64) → post r u) : wp_L_fill vp vo (zz a) post := by
  have e := E_fill (S := S) (a := a)
  have bad : ∀ n : Nat, (o_fill S a).1 = n + 1 → ∀ r, r = zz (n + 1 : Nat) → post r (vp, vo) := fun n h r hr => k r (vp, vo) (by rw [h]; exact hr) (by rw [e.1 (by omega)]; exact hC) (fun h0 => absurd h0 (by omega))
  unfold wp_L_fill
  exact X4_fill_ok hC hW ha (fun h => ⟨rfl, bad 0 h 1 rfl⟩) (fun h vp1 h1 => k 0 (vp1, _) (by rw [h]; rfl) h1 (fun _ => upL0 (vo := vo)))
theorem C_fill {vp : Pc} {vd : Md} {vo : Nat → Int64} {S : SS} (hC : InvC vp S) (hM : InvM vd S) (hW : WfS S) {a : Int} (ha : i32 a) {I1 : Prop} (h1 : I1) {K : Pc → Md → (Nat → Int64) → Prop} (hK : ∀ (S1 : SS) (vp1 : Pc) (vd1 : Md) (vo1 : Nat → Int64), InvC vp1 S1 → InvM vd1 S1 → WfS S1 → K vp1 vd1 vo1) : wp_L_fill vp vo (zz a) (fun r u => (I1 ∧ (wp_X5_fill vd (zz a) (fun r1 u1 => (wp_X5_thrown u1 (fun r2 => ((r2 = r → ((r = 0 → (((lg_cmp ((u.2) (0 : Int32).toNatClampNeg) r1.toInt64) = 0 → K u.1 u1 u.2) ∧ (¬ (lg_cmp ((u.2) (0 : Int32).toNatClampNeg) r1.toInt64) = 0 → False))) ∧ (¬ r = 0 → K u.1 u1 u.2))) ∧ (¬ r2 = r → False)))))))) :=
  L_fill_ok hC hW ha (fun r u hr hu hv => ⟨h1, X5_fill_ok hM hW ha (fun r1 u1 hM1 ht hv1 => brW (law_fin (R := (o_fill S a)) ht hr (E_fill).2 (fun h => (hv h).trans (by rw [hv1 h])) (hK _ _ _ _ hu hM1 (W_fill hW))))⟩)
theorem E_set {S : SS} {a : Int} {b : Int} : ((o_set S a b).1 ≠ 0 → (o_set S a b).2.2 = S) ∧ (o_set S a b).1 ≤ 3 := by
  unfold o_set
  by_cases h : 0 ≤ a ∧ a ≤ 2
  · rw [if_neg (fun h2 => h2 h)]
    by_cases h1 : (if a = 0 then 24 ≤ b ∧ b ≤ 60 else if a = 1 then 0 ≤ b ∧ b ≤ 2 else 0 ≤ b ∧ b ≤ 1)
    · rw [if_neg (fun h2 => h2 h1)]
      by_cases h2 : a = 0 ∧ aAll S.1 ≠ 0
      · rw [if_pos h2]; exact ⟨fun _ => rfl, Nat.le_of_ble_eq_true rfl⟩
      · rw [if_neg h2]; exact ⟨fun h => absurd rfl h, Nat.le_of_ble_eq_true rfl⟩
    · rw [if_pos h1]; exact ⟨fun _ => rfl, Nat.le_of_ble_eq_true rfl⟩
  · rw [if_pos h]; exact ⟨fun _ => rfl, Nat.le_of_ble_eq_true rfl⟩
theorem L_set_ok {vp : Pc} {vo : Nat → Int64} {S : SS} (hC : InvC vp S) (hW : WfS S) {a : Int} {b : Int} (ha : i32 a) (hb : i32 b) {post : Int32 → Pc × (Nat → Int64) → Prop} (k : ∀ r u, r = zz (o_set S a b).1 → InvC u.1 (o_set S a b).2.2 → ((o_set S a b).1 = 0 → u.2 0 = (o_set S a b).2.1.toInt64) → post r u) : wp_L_set vp vo (zz a) (zz b) post := by
  have e := E_set (S := S) (a := a) (b := b)
  have bad : ∀ n : Nat, (o_set S a b).1 = n + 1 → ∀ r, r = zz (n + 1 : Nat) → post r (vp, vo) := fun n h r hr => k r (vp, vo) (by rw [h]; exact hr) (by rw [e.1 (by omega)]; exact hC) (fun h0 => absurd h0 (by omega))
  unfold wp_L_set
  exact X4_set_ok hC hW ha hb (fun h => .inl ⟨rfl, bad 0 h 1 rfl⟩) (fun h => .inr (.inl ⟨rfl, bad 1 h 2 rfl⟩)) (fun h => .inr (.inr (⟨rfl, bad 2 h 3 rfl⟩))) (fun h vp1 h1 => k 0 (vp1, _) (by rw [h]; rfl) h1 (fun _ => upL0 (vo := vo)))
theorem C_set {vp : Pc} {vd : Md} {vo : Nat → Int64} {S : SS} (hC : InvC vp S) (hM : InvM vd S) (hW : WfS S) {a : Int} {b : Int} (ha : i32 a) (hb : i32 b) {I1 : Prop} {I2 : Prop} (h1 : I1) (h2 : I2) {K : Pc → Md → (Nat → Int64) → Prop} (hK : ∀ (S1 : SS) (vp1 : Pc) (vd1 : Md) (vo1 : Nat → Int64), InvC vp1 S1 → InvM vd1 S1 → WfS S1 → K vp1 vd1 vo1) : wp_L_set vp vo (zz a) (zz b) (fun r u => (I1 ∧ (I2 ∧ (wp_X5_set vd (zz a) (zz b) (fun r1 u1 => (wp_X5_thrown u1 (fun r2 => ((r2 = r → ((r = 0 → (((lg_cmp ((u.2) (0 : Int32).toNatClampNeg) r1.toInt64) = 0 → K u.1 u1 u.2) ∧ (¬ (lg_cmp ((u.2) (0 : Int32).toNatClampNeg) r1.toInt64) = 0 → False))) ∧ (¬ r = 0 → K u.1 u1 u.2))) ∧ (¬ r2 = r → False))))))))) :=
  L_set_ok hC hW ha hb (fun r u hr hu hv => ⟨h1, h2, X5_set_ok hM hW ha hb (fun r1 u1 hM1 ht hv1 => brW (law_fin (R := (o_set S a b)) ht hr (E_set).2 (fun h => (hv h).trans (by rw [hv1 h])) (hK _ _ _ _ hu hM1 (W_set hW))))⟩)
theorem E_append {S : SS} {a : Int} : ((o_append S a).1 ≠ 0 → (o_append S a).2.2 = S) ∧ (o_append S a).1 ≤ 3 := by
  unfold o_append
  repeat' split
  all_goals first | exact ⟨fun h => absurd rfl h, Nat.le_of_ble_eq_true rfl⟩ | exact ⟨fun _ => rfl, Nat.le_of_ble_eq_true rfl⟩
theorem L_append_ok {vp : Pc} {vo : Nat → Int64} {S : SS} (hC : InvC vp S) (hW : WfS S) {a : Int} (ha : i32 a) {post : Int32 → Pc × (Nat → Int64) → Prop} (k : ∀ r u, r = zz (o_append S a).1 → InvC u.1 (o_append S a).2.2 → ((o_append S a).1 = 0 → u.2 0 = (o_append S a).2.1.toInt64) → post r u) : wp_L_append vp vo (zz a) post := by
  have e := E_append (S := S) (a := a)
  have bad : ∀ n : Nat, (o_append S a).1 = n + 1 → ∀ r, r = zz (n + 1 : Nat) → post r (vp, vo) := fun n h r hr => k r (vp, vo) (by rw [h]; exact hr) (by rw [e.1 (by omega)]; exact hC) (fun h0 => absurd h0 (by omega))
  unfold wp_L_append
  exact X4_append_ok hC hW ha (fun h => .inl ⟨rfl, bad 0 h 1 rfl⟩) (fun h => .inr (⟨rfl, bad 1 h 2 rfl⟩)) (fun h vp1 h1 => k 0 (vp1, _) (by rw [h]; rfl) h1 (fun _ => upL0 (vo := vo)))
theorem C_append {vp : Pc} {vd : Md} {vo : Nat → Int64} {S : SS} (hC : InvC vp S) (hM : InvM vd S) (hW : WfS S) {a : Int} (ha : i32 a) {I1 : Prop} (h1 : I1) {K : Pc → Md → (Nat → Int64) → Prop} (hK : ∀ (S1 : SS) (vp1 : Pc) (vd1 : Md) (vo1 : Nat → Int64), InvC vp1 S1 → InvM vd1 S1 → WfS S1 → K vp1 vd1 vo1) : wp_L_append vp vo (zz a) (fun r u => (I1 ∧ (wp_X5_append vd (zz a) (fun r1 u1 => (wp_X5_thrown u1 (fun r2 => ((r2 = r → ((r = 0 → (((lg_cmp ((u.2) (0 : Int32).toNatClampNeg) r1.toInt64) = 0 → K u.1 u1 u.2) ∧ (¬ (lg_cmp ((u.2) (0 : Int32).toNatClampNeg) r1.toInt64) = 0 → False))) ∧ (¬ r = 0 → K u.1 u1 u.2))) ∧ (¬ r2 = r → False)))))))) :=
  L_append_ok hC hW ha (fun r u hr hu hv => ⟨h1, X5_append_ok hM hW ha (fun r1 u1 hM1 ht hv1 => brW (law_fin (R := (o_append S a)) ht hr (E_append).2 (fun h => (hv h).trans (by rw [hv1 h])) (hK _ _ _ _ hu hM1 (W_append hW))))⟩)
theorem E_layAll {S : SS} : ((o_layAll S).1 ≠ 0 → (o_layAll S).2.2 = S) ∧ (o_layAll S).1 ≤ 3 := by
  unfold o_layAll
  repeat' split
  all_goals first | exact ⟨fun h => absurd rfl h, Nat.le_of_ble_eq_true rfl⟩ | exact ⟨fun _ => rfl, Nat.le_of_ble_eq_true rfl⟩
theorem L_layAll_ok {vp : Pc} {vo : Nat → Int64} {S : SS} (hC : InvC vp S) (hW : WfS S) {post : Int32 → Pc × (Nat → Int64) → Prop} (k : ∀ r u, r = zz (o_layAll S).1 → InvC u.1 (o_layAll S).2.2 → ((o_layAll S).1 = 0 → u.2 0 = (o_layAll S).2.1.toInt64) → post r u) : wp_L_layAll vp vo post := by
  have e := E_layAll (S := S)
  have bad : ∀ n : Nat, (o_layAll S).1 = n + 1 → ∀ r, r = zz (n + 1 : Nat) → post r (vp, vo) := fun n h r hr => k r (vp, vo) (by rw [h]; exact hr) (by rw [e.1 (by omega)]; exact hC) (fun h0 => absurd h0 (by omega))
  unfold wp_L_layAll
  exact X4_layAll_ok hC hW (fun h => ⟨rfl, bad 0 h 1 rfl⟩) (fun h vp1 h1 => k 0 (vp1, _) (by rw [h]; rfl) h1 (fun _ => upL0 (vo := vo)))
theorem C_layAll {vp : Pc} {vd : Md} {vo : Nat → Int64} {S : SS} (hC : InvC vp S) (hM : InvM vd S) (hW : WfS S) {K : Pc → Md → (Nat → Int64) → Prop} (hK : ∀ (S1 : SS) (vp1 : Pc) (vd1 : Md) (vo1 : Nat → Int64), InvC vp1 S1 → InvM vd1 S1 → WfS S1 → K vp1 vd1 vo1) : wp_L_layAll vp vo (fun r u => (wp_X5_layAll vd (fun r1 u1 => (wp_X5_thrown u1 (fun r2 => ((r2 = r → ((r = 0 → (((lg_cmp ((u.2) (0 : Int32).toNatClampNeg) r1.toInt64) = 0 → K u.1 u1 u.2) ∧ (¬ (lg_cmp ((u.2) (0 : Int32).toNatClampNeg) r1.toInt64) = 0 → False))) ∧ (¬ r = 0 → K u.1 u1 u.2))) ∧ (¬ r2 = r → False))))))) :=
  L_layAll_ok hC hW (fun r u hr hu hv => X5_layAll_ok hM hW (fun r1 u1 hM1 ht hv1 => brW (law_fin (R := (o_layAll S)) ht hr (E_layAll).2 (fun h => (hv h).trans (by rw [hv1 h])) (hK _ _ _ _ hu hM1 (W_layAll hW)))))
theorem E_undo {S : SS} : ((o_undo S).1 ≠ 0 → (o_undo S).2.2 = S) ∧ (o_undo S).1 ≤ 3 := by
  unfold o_undo
  repeat' split
  all_goals first | exact ⟨fun h => absurd rfl h, Nat.le_of_ble_eq_true rfl⟩ | exact ⟨fun _ => rfl, Nat.le_of_ble_eq_true rfl⟩
theorem L_undo_ok {vp : Pc} {vo : Nat → Int64} {S : SS} (hC : InvC vp S) (hW : WfS S) {post : Int32 → Pc × (Nat → Int64) → Prop} (k : ∀ r u, r = zz (o_undo S).1 → InvC u.1 (o_undo S).2.2 → ((o_undo S).1 = 0 → u.2 0 = (o_undo S).2.1.toInt64) → post r u) : wp_L_undo vp vo post := by
  have e := E_undo (S := S)
  have bad : ∀ n : Nat, (o_undo S).1 = n + 1 → ∀ r, r = zz (n + 1 : Nat) → post r (vp, vo) := fun n h r hr => k r (vp, vo) (by rw [h]; exact hr) (by rw [e.1 (by omega)]; exact hC) (fun h0 => absurd h0 (by omega))
  unfold wp_L_undo
  exact X4_undo_ok hC hW (fun h => ⟨rfl, bad 0 h 1 rfl⟩) (fun h vp1 h1 => k 0 (vp1, _) (by rw [h]; rfl) h1 (fun _ => upL0 (vo := vo)))
theorem C_undo {vp : Pc} {vd : Md} {vo : Nat → Int64} {S : SS} (hC : InvC vp S) (hM : InvM vd S) (hW : WfS S) {K : Pc → Md → (Nat → Int64) → Prop} (hK : ∀ (S1 : SS) (vp1 : Pc) (vd1 : Md) (vo1 : Nat → Int64), InvC vp1 S1 → InvM vd1 S1 → WfS S1 → K vp1 vd1 vo1) : wp_L_undo vp vo (fun r u => (wp_X5_undo vd (fun r1 u1 => (wp_X5_thrown u1 (fun r2 => ((r2 = r → ((r = 0 → (((lg_cmp ((u.2) (0 : Int32).toNatClampNeg) r1.toInt64) = 0 → K u.1 u1 u.2) ∧ (¬ (lg_cmp ((u.2) (0 : Int32).toNatClampNeg) r1.toInt64) = 0 → False))) ∧ (¬ r = 0 → K u.1 u1 u.2))) ∧ (¬ r2 = r → False))))))) :=
  L_undo_ok hC hW (fun r u hr hu hv => X5_undo_ok hM hW (fun r1 u1 hM1 ht hv1 => brW (law_fin (R := (o_undo S)) ht hr (E_undo).2 (fun h => (hv h).trans (by rw [hv1 h])) (hK _ _ _ _ hu hM1 (W_undo hW)))))
theorem E_course {S : SS} {a : Int} {b : Int} : ((o_course S a b).1 ≠ 0 → (o_course S a b).2.2 = S) ∧ (o_course S a b).1 ≤ 3 := by
  unfold o_course
  repeat' split
  all_goals first | exact ⟨fun h => absurd rfl h, Nat.le_of_ble_eq_true rfl⟩ | exact ⟨fun _ => rfl, Nat.le_of_ble_eq_true rfl⟩
theorem F_course {S : SS} {a : Int} {b : Int} : (o_course S a b).2.2 = S := by
  unfold o_course
  repeat' split
  all_goals rfl
theorem L_course_ok {vp : Pc} {vo : Nat → Int64} {S : SS} (hC : InvC vp S) (hW : WfS S) {a : Int} {b : Int} (ha : i32 a) (hb : i32 b) {post : Int32 → Pc × (Nat → Int64) → Prop} (k : ∀ r u, r = zz (o_course S a b).1 → InvC u.1 (o_course S a b).2.2 → ((o_course S a b).1 = 0 → u.2 0 = (o_course S a b).2.1.toInt64) → post r u) : wp_L_course vp vo (zz a) (zz b) post := by
  have e := E_course (S := S) (a := a) (b := b)
  have bad : ∀ n : Nat, (o_course S a b).1 = n + 1 → ∀ r, r = zz (n + 1 : Nat) → post r (vp, vo) := fun n h r hr => k r (vp, vo) (by rw [h]; exact hr) (by rw [e.1 (by omega)]; exact hC) (fun h0 => absurd h0 (by omega))
  unfold wp_L_course
  exact X4_course_ok hC hW ha hb (fun h => .inl ⟨rfl, bad 0 h 1 rfl⟩) (fun h => .inr (⟨rfl, bad 1 h 2 rfl⟩)) (fun h => k 0 (vp, _) (by rw [h]; rfl) (by rw [F_course]; exact hC) (fun _ => upL0 (vo := vo)))
theorem C_course {vp : Pc} {vd : Md} {vo : Nat → Int64} {S : SS} (hC : InvC vp S) (hM : InvM vd S) (hW : WfS S) {a : Int} {b : Int} (ha : i32 a) (hb : i32 b) {I1 : Prop} {I2 : Prop} (h1 : I1) (h2 : I2) {K : Pc → Md → (Nat → Int64) → Prop} (hK : ∀ (S1 : SS) (vp1 : Pc) (vd1 : Md) (vo1 : Nat → Int64), InvC vp1 S1 → InvM vd1 S1 → WfS S1 → K vp1 vd1 vo1) : wp_L_course vp vo (zz a) (zz b) (fun r u => (I1 ∧ (I2 ∧ (wp_X5_course vd (zz a) (zz b) (fun r1 u1 => (wp_X5_thrown u1 (fun r2 => ((r2 = r → ((r = 0 → (((lg_cmp ((u.2) (0 : Int32).toNatClampNeg) r1.toInt64) = 0 → K u.1 u1 u.2) ∧ (¬ (lg_cmp ((u.2) (0 : Int32).toNatClampNeg) r1.toInt64) = 0 → False))) ∧ (¬ r = 0 → K u.1 u1 u.2))) ∧ (¬ r2 = r → False))))))))) :=
  L_course_ok hC hW ha hb (fun r u hr hu hv => ⟨h1, h2, X5_course_ok hM hW ha hb (fun r1 u1 hM1 ht hv1 => brW (law_fin (R := (o_course S a b)) ht hr (E_course).2 (fun h => (hv h).trans (by rw [hv1 h])) (hK _ _ _ _ hu hM1 (by rw [F_course]; exact hW))))⟩)
theorem E_cell {S : SS} {a : Int} {b : Int} {d : Int} : ((o_cell S a b d).1 ≠ 0 → (o_cell S a b d).2.2 = S) ∧ (o_cell S a b d).1 ≤ 3 := by
  unfold o_cell
  repeat' split
  all_goals first | exact ⟨fun h => absurd rfl h, Nat.le_of_ble_eq_true rfl⟩ | exact ⟨fun _ => rfl, Nat.le_of_ble_eq_true rfl⟩
theorem F_cell {S : SS} {a : Int} {b : Int} {d : Int} : (o_cell S a b d).2.2 = S := by
  unfold o_cell
  repeat' split
  all_goals rfl
theorem L_cell_ok {vp : Pc} {vo : Nat → Int64} {S : SS} (hC : InvC vp S) (hW : WfS S) {a : Int} {b : Int} {d : Int} (ha : i32 a) (hb : i32 b) (hd : i32 d) {post : Int32 → Pc × (Nat → Int64) → Prop} (k : ∀ r u, r = zz (o_cell S a b d).1 → InvC u.1 (o_cell S a b d).2.2 → ((o_cell S a b d).1 = 0 → u.2 0 = (o_cell S a b d).2.1.toInt64) → post r u) : wp_L_cell vp vo (zz a) (zz b) (zz d) post := by
  have e := E_cell (S := S) (a := a) (b := b) (d := d)
  have bad : ∀ n : Nat, (o_cell S a b d).1 = n + 1 → ∀ r, r = zz (n + 1 : Nat) → post r (vp, vo) := fun n h r hr => k r (vp, vo) (by rw [h]; exact hr) (by rw [e.1 (by omega)]; exact hC) (fun h0 => absurd h0 (by omega))
  unfold wp_L_cell
  exact X4_cell_ok hC hW ha hb hd (fun h => .inl ⟨rfl, bad 0 h 1 rfl⟩) (fun h => .inr (⟨rfl, bad 1 h 2 rfl⟩)) (fun h => k 0 (vp, _) (by rw [h]; rfl) (by rw [F_cell]; exact hC) (fun _ => upL0 (vo := vo)))
theorem C_cell {vp : Pc} {vd : Md} {vo : Nat → Int64} {S : SS} (hC : InvC vp S) (hM : InvM vd S) (hW : WfS S) {a : Int} {b : Int} {d : Int} (ha : i32 a) (hb : i32 b) (hd : i32 d) {I1 : Prop} {I2 : Prop} {I3 : Prop} (h1 : I1) (h2 : I2) (h3 : I3) {K : Pc → Md → (Nat → Int64) → Prop} (hK : ∀ (S1 : SS) (vp1 : Pc) (vd1 : Md) (vo1 : Nat → Int64), InvC vp1 S1 → InvM vd1 S1 → WfS S1 → K vp1 vd1 vo1) : wp_L_cell vp vo (zz a) (zz b) (zz d) (fun r u => (I1 ∧ (I2 ∧ (I3 ∧ (wp_X5_cell vd (zz a) (zz b) (zz d) (fun r1 u1 => (wp_X5_thrown u1 (fun r2 => ((r2 = r → ((r = 0 → (((lg_cmp ((u.2) (0 : Int32).toNatClampNeg) r1.toInt64) = 0 → K u.1 u1 u.2) ∧ (¬ (lg_cmp ((u.2) (0 : Int32).toNatClampNeg) r1.toInt64) = 0 → False))) ∧ (¬ r = 0 → K u.1 u1 u.2))) ∧ (¬ r2 = r → False)))))))))) :=
  L_cell_ok hC hW ha hb hd (fun r u hr hu hv => ⟨h1, h2, h3, X5_cell_ok hM hW ha hb hd (fun r1 u1 hM1 ht hv1 => brW (law_fin (R := (o_cell S a b d)) ht hr (E_cell).2 (fun h => (hv h).trans (by rw [hv1 h])) (hK _ _ _ _ hu hM1 (by rw [F_cell]; exact hW))))⟩)
theorem E_refusal {S : SS} {a : Int} {b : Int} {f : Bool} : ((o_refusal S a b f).1 ≠ 0 → (o_refusal S a b f).2.2 = S) ∧ (o_refusal S a b f).1 ≤ 3 := by
  unfold o_refusal
  repeat' split
  all_goals first | exact ⟨fun h => absurd rfl h, Nat.le_of_ble_eq_true rfl⟩ | exact ⟨fun _ => rfl, Nat.le_of_ble_eq_true rfl⟩
theorem F_refusal {S : SS} {a : Int} {b : Int} {f : Bool} : (o_refusal S a b f).2.2 = S := by
  unfold o_refusal
  repeat' split
  all_goals rfl
theorem L_refusal_ok {vp : Pc} {vo : Nat → Int64} {S : SS} (hC : InvC vp S) (hW : WfS S) {a : Int} {b : Int} {f : Bool} (ha : i32 a) (hb : i32 b) {post : Int32 → Pc × (Nat → Int64) → Prop} (k : ∀ r u, r = zz (o_refusal S a b f).1 → InvC u.1 (o_refusal S a b f).2.2 → ((o_refusal S a b f).1 = 0 → u.2 0 = (o_refusal S a b f).2.1.toInt64) → post r u) : wp_L_refusal vp vo (zz a) (zz b) (zz (bB f)) post := by
  have e := E_refusal (S := S) (a := a) (b := b) (f := f)
  have bad : ∀ n : Nat, (o_refusal S a b f).1 = n + 1 → ∀ r, r = zz (n + 1 : Nat) → post r (vp, vo) := fun n h r hr => k r (vp, vo) (by rw [h]; exact hr) (by rw [e.1 (by omega)]; exact hC) (fun h0 => absurd h0 (by omega))
  unfold wp_L_refusal
  exact X4_refusal_ok hC hW ha hb (fun h => .inl ⟨rfl, bad 0 h 1 rfl⟩) (fun h => .inr (⟨rfl, bad 1 h 2 rfl⟩)) (fun h => k 0 (vp, _) (by rw [h]; rfl) (by rw [F_refusal]; exact hC) (fun _ => upL0 (vo := vo)))
theorem C_refusal {vp : Pc} {vd : Md} {vo : Nat → Int64} {S : SS} (hC : InvC vp S) (hM : InvM vd S) (hW : WfS S) {a : Int} {b : Int} {f : Bool} (ha : i32 a) (hb : i32 b) {K : Pc → Md → (Nat → Int64) → Prop} (hK : ∀ (S1 : SS) (vp1 : Pc) (vd1 : Md) (vo1 : Nat → Int64), InvC vp1 S1 → InvM vd1 S1 → WfS S1 → K vp1 vd1 vo1) {post : Int32 → Pc × (Nat → Int64) → Prop} (kk : ∀ (r : Int32) (u : Pc × (Nat → Int64)), (wp_X5_refusal vd (zz a) (zz b) (zz (bB f)) (fun r1 u1 => (wp_X5_thrown u1 (fun r2 => ((r2 = r → ((r = 0 → (((lg_cmp ((u.2) (0 : Int32).toNatClampNeg) r1.toInt64) = 0 → K u.1 u1 u.2) ∧ (¬ (lg_cmp ((u.2) (0 : Int32).toNatClampNeg) r1.toInt64) = 0 → False))) ∧ (¬ r = 0 → K u.1 u1 u.2))) ∧ (¬ r2 = r → False)))))) → post r u) : wp_L_refusal vp vo (zz a) (zz b) (zz (bB f)) post :=
  L_refusal_ok hC hW ha hb (fun r u hr hu hv => kk r u (X5_refusal_ok hM hW ha hb (fun r1 u1 hM1 ht hv1 => brW (law_fin (R := (o_refusal S a b f)) ht hr (E_refusal).2 (fun h => (hv h).trans (by rw [hv1 h])) (hK _ _ _ _ hu hM1 (by rw [F_refusal]; exact hW))))))
theorem E_stockOf {S : SS} {a : Int} : ((o_stockOf S a).1 ≠ 0 → (o_stockOf S a).2.2 = S) ∧ (o_stockOf S a).1 ≤ 3 := by
  unfold o_stockOf
  repeat' split
  all_goals first | exact ⟨fun h => absurd rfl h, Nat.le_of_ble_eq_true rfl⟩ | exact ⟨fun _ => rfl, Nat.le_of_ble_eq_true rfl⟩
theorem F_stockOf {S : SS} {a : Int} : (o_stockOf S a).2.2 = S := by
  unfold o_stockOf
  repeat' split
  all_goals rfl
theorem L_stockOf_ok {vp : Pc} {vo : Nat → Int64} {S : SS} (hC : InvC vp S) (hW : WfS S) {a : Int} (ha : i32 a) {post : Int32 → Pc × (Nat → Int64) → Prop} (k : ∀ r u, r = zz (o_stockOf S a).1 → InvC u.1 (o_stockOf S a).2.2 → ((o_stockOf S a).1 = 0 → u.2 0 = (o_stockOf S a).2.1.toInt64) → post r u) : wp_L_stockOf vp vo (zz a) post := by
  have e := E_stockOf (S := S) (a := a)
  have bad : ∀ n : Nat, (o_stockOf S a).1 = n + 1 → ∀ r, r = zz (n + 1 : Nat) → post r (vp, vo) := fun n h r hr => k r (vp, vo) (by rw [h]; exact hr) (by rw [e.1 (by omega)]; exact hC) (fun h0 => absurd h0 (by omega))
  unfold wp_L_stockOf
  exact X4_stockOf_ok hC hW ha (fun h => ⟨rfl, bad 0 h 1 rfl⟩) (fun h => k 0 (vp, _) (by rw [h]; rfl) (by rw [F_stockOf]; exact hC) (fun _ => upL0 (vo := vo)))
theorem C_stockOf {vp : Pc} {vd : Md} {vo : Nat → Int64} {S : SS} (hC : InvC vp S) (hM : InvM vd S) (hW : WfS S) {a : Int} (ha : i32 a) {I1 : Prop} (h1 : I1) {K : Pc → Md → (Nat → Int64) → Prop} (hK : ∀ (S1 : SS) (vp1 : Pc) (vd1 : Md) (vo1 : Nat → Int64), InvC vp1 S1 → InvM vd1 S1 → WfS S1 → K vp1 vd1 vo1) : wp_L_stockOf vp vo (zz a) (fun r u => (I1 ∧ (wp_X5_stockOf vd (zz a) (fun r1 u1 => (wp_X5_thrown u1 (fun r2 => ((r2 = r → ((r = 0 → (((lg_cmp ((u.2) (0 : Int32).toNatClampNeg) r1.toInt64) = 0 → K u.1 u1 u.2) ∧ (¬ (lg_cmp ((u.2) (0 : Int32).toNatClampNeg) r1.toInt64) = 0 → False))) ∧ (¬ r = 0 → K u.1 u1 u.2))) ∧ (¬ r2 = r → False)))))))) :=
  L_stockOf_ok hC hW ha (fun r u hr hu hv => ⟨h1, X5_stockOf_ok hM hW ha (fun r1 u1 hM1 ht hv1 => brW (law_fin (R := (o_stockOf S a)) ht hr (E_stockOf).2 (fun h => (hv h).trans (by rw [hv1 h])) (hK _ _ _ _ hu hM1 (by rw [F_stockOf]; exact hW))))⟩)
theorem E_count {S : SS} {a : Int} : ((o_count S a).1 ≠ 0 → (o_count S a).2.2 = S) ∧ (o_count S a).1 ≤ 3 := by
  unfold o_count
  repeat' split
  all_goals first | exact ⟨fun h => absurd rfl h, Nat.le_of_ble_eq_true rfl⟩ | exact ⟨fun _ => rfl, Nat.le_of_ble_eq_true rfl⟩
theorem F_count {S : SS} {a : Int} : (o_count S a).2.2 = S := by
  unfold o_count
  repeat' split
  all_goals rfl
theorem L_count_ok {vp : Pc} {vo : Nat → Int64} {S : SS} (hC : InvC vp S) (hW : WfS S) {a : Int} (ha : i32 a) {post : Int32 → Pc × (Nat → Int64) → Prop} (k : ∀ r u, r = zz (o_count S a).1 → InvC u.1 (o_count S a).2.2 → ((o_count S a).1 = 0 → u.2 0 = (o_count S a).2.1.toInt64) → post r u) : wp_L_count vp vo (zz a) post := by
  have e := E_count (S := S) (a := a)
  have bad : ∀ n : Nat, (o_count S a).1 = n + 1 → ∀ r, r = zz (n + 1 : Nat) → post r (vp, vo) := fun n h r hr => k r (vp, vo) (by rw [h]; exact hr) (by rw [e.1 (by omega)]; exact hC) (fun h0 => absurd h0 (by omega))
  unfold wp_L_count
  exact X4_count_ok hC hW ha (fun h => ⟨rfl, bad 0 h 1 rfl⟩) (fun h => k 0 (vp, _) (by rw [h]; rfl) (by rw [F_count]; exact hC) (fun _ => upL0 (vo := vo)))
theorem C_count {vp : Pc} {vd : Md} {vo : Nat → Int64} {S : SS} (hC : InvC vp S) (hM : InvM vd S) (hW : WfS S) {a : Int} (ha : i32 a) {I1 : Prop} (h1 : I1) {K : Pc → Md → (Nat → Int64) → Prop} (hK : ∀ (S1 : SS) (vp1 : Pc) (vd1 : Md) (vo1 : Nat → Int64), InvC vp1 S1 → InvM vd1 S1 → WfS S1 → K vp1 vd1 vo1) : wp_L_count vp vo (zz a) (fun r u => (I1 ∧ (wp_X5_count vd (zz a) (fun r1 u1 => (wp_X5_thrown u1 (fun r2 => ((r2 = r → ((r = 0 → (((lg_cmp ((u.2) (0 : Int32).toNatClampNeg) r1.toInt64) = 0 → K u.1 u1 u.2) ∧ (¬ (lg_cmp ((u.2) (0 : Int32).toNatClampNeg) r1.toInt64) = 0 → False))) ∧ (¬ r = 0 → K u.1 u1 u.2))) ∧ (¬ r2 = r → False)))))))) :=
  L_count_ok hC hW ha (fun r u hr hu hv => ⟨h1, X5_count_ok hM hW ha (fun r1 u1 hM1 ht hv1 => brW (law_fin (R := (o_count S a)) ht hr (E_count).2 (fun h => (hv h).trans (by rw [hv1 h])) (hK _ _ _ _ hu hM1 (by rw [F_count]; exact hW))))⟩)
theorem E_setting {S : SS} {a : Int} : ((o_setting S a).1 ≠ 0 → (o_setting S a).2.2 = S) ∧ (o_setting S a).1 ≤ 3 := by
  unfold o_setting
  repeat' split
  all_goals first | exact ⟨fun h => absurd rfl h, Nat.le_of_ble_eq_true rfl⟩ | exact ⟨fun _ => rfl, Nat.le_of_ble_eq_true rfl⟩
theorem F_setting {S : SS} {a : Int} : (o_setting S a).2.2 = S := by
  unfold o_setting
  repeat' split
  all_goals rfl
theorem L_setting_ok {vp : Pc} {vo : Nat → Int64} {S : SS} (hC : InvC vp S) (hW : WfS S) {a : Int} (ha : i32 a) {post : Int32 → Pc × (Nat → Int64) → Prop} (k : ∀ r u, r = zz (o_setting S a).1 → InvC u.1 (o_setting S a).2.2 → ((o_setting S a).1 = 0 → u.2 0 = (o_setting S a).2.1.toInt64) → post r u) : wp_L_setting vp vo (zz a) post := by
  have e := E_setting (S := S) (a := a)
  have bad : ∀ n : Nat, (o_setting S a).1 = n + 1 → ∀ r, r = zz (n + 1 : Nat) → post r (vp, vo) := fun n h r hr => k r (vp, vo) (by rw [h]; exact hr) (by rw [e.1 (by omega)]; exact hC) (fun h0 => absurd h0 (by omega))
  unfold wp_L_setting
  exact X4_setting_ok hC hW ha (fun h => ⟨rfl, bad 0 h 1 rfl⟩) (fun h => k 0 (vp, _) (by rw [h]; rfl) (by rw [F_setting]; exact hC) (fun _ => upL0 (vo := vo)))
theorem C_setting {vp : Pc} {vd : Md} {vo : Nat → Int64} {S : SS} (hC : InvC vp S) (hM : InvM vd S) (hW : WfS S) {a : Int} (ha : i32 a) {I1 : Prop} (h1 : I1) {K : Pc → Md → (Nat → Int64) → Prop} (hK : ∀ (S1 : SS) (vp1 : Pc) (vd1 : Md) (vo1 : Nat → Int64), InvC vp1 S1 → InvM vd1 S1 → WfS S1 → K vp1 vd1 vo1) : wp_L_setting vp vo (zz a) (fun r u => (I1 ∧ (wp_X5_setting vd (zz a) (fun r1 u1 => (wp_X5_thrown u1 (fun r2 => ((r2 = r → ((r = 0 → (((lg_cmp ((u.2) (0 : Int32).toNatClampNeg) r1.toInt64) = 0 → K u.1 u1 u.2) ∧ (¬ (lg_cmp ((u.2) (0 : Int32).toNatClampNeg) r1.toInt64) = 0 → False))) ∧ (¬ r = 0 → K u.1 u1 u.2))) ∧ (¬ r2 = r → False)))))))) :=
  L_setting_ok hC hW ha (fun r u hr hu hv => ⟨h1, X5_setting_ok hM hW ha (fun r1 u1 hM1 ht hv1 => brW (law_fin (R := (o_setting S a)) ht hr (E_setting).2 (fun h => (hv h).trans (by rw [hv1 h])) (hK _ _ _ _ hu hM1 (by rw [F_setting]; exact hW))))⟩)
theorem E_fewest {S : SS} {a : Int} : ((o_clo false S a).1 ≠ 0 → (o_clo false S a).2.2 = S) ∧ (o_clo false S a).1 ≤ 3 := by
  unfold o_clo
  repeat' split
  all_goals first | exact ⟨fun h => absurd rfl h, Nat.le_of_ble_eq_true rfl⟩ | exact ⟨fun _ => rfl, Nat.le_of_ble_eq_true rfl⟩
theorem F_fewest {S : SS} {a : Int} : (o_clo false S a).2.2 = S := by
  unfold o_clo
  repeat' split
  all_goals rfl
theorem L_fewest_ok {vp : Pc} {vo : Nat → Int64} {S : SS} (hC : InvC vp S) (hW : WfS S) {a : Int} (ha : i32 a) {post : Int32 → Pc × (Nat → Int64) → Prop} (k : ∀ r u, r = zz (o_clo false S a).1 → InvC u.1 (o_clo false S a).2.2 → ((o_clo false S a).1 = 0 → u.2 0 = (o_clo false S a).2.1.toInt64) → post r u) : wp_L_fewest vp vo (zz a) post := by
  have e := E_fewest (S := S) (a := a)
  have bad : ∀ n : Nat, (o_clo false S a).1 = n + 1 → ∀ r, r = zz (n + 1 : Nat) → post r (vp, vo) := fun n h r hr => k r (vp, vo) (by rw [h]; exact hr) (by rw [e.1 (by omega)]; exact hC) (fun h0 => absurd h0 (by omega))
  unfold wp_L_fewest
  exact X4_fewest_ok hC hW ha (fun h => ⟨rfl, bad 0 h 1 rfl⟩) (fun h vp1 h1 => k 0 (vp1, _) (by rw [h]; rfl) h1 (fun _ => upL0 (vo := vo)))
theorem C_fewest {vp : Pc} {vd : Md} {vo : Nat → Int64} {S : SS} (hC : InvC vp S) (hM : InvM vd S) (hW : WfS S) {a : Int} (ha : i32 a) {I1 : Prop} (h1 : I1) {K : Pc → Md → (Nat → Int64) → Prop} (hK : ∀ (S1 : SS) (vp1 : Pc) (vd1 : Md) (vo1 : Nat → Int64), InvC vp1 S1 → InvM vd1 S1 → WfS S1 → K vp1 vd1 vo1) : wp_L_fewest vp vo (zz a) (fun r u => (I1 ∧ (wp_X5_fewest vd (zz a) (fun r1 u1 => (wp_X5_thrown u1 (fun r2 => ((r2 = r → ((r = 0 → (((lg_cmp ((u.2) (0 : Int32).toNatClampNeg) r1.toInt64) = 0 → K u.1 u1 u.2) ∧ (¬ (lg_cmp ((u.2) (0 : Int32).toNatClampNeg) r1.toInt64) = 0 → False))) ∧ (¬ r = 0 → K u.1 u1 u.2))) ∧ (¬ r2 = r → False)))))))) :=
  L_fewest_ok hC hW ha (fun r u hr hu hv => ⟨h1, X5_fewest_ok hM hW ha (fun r1 u1 hM1 ht hv1 => brW (law_fin (R := (o_clo false S a)) ht hr (E_fewest).2 (fun h => (hv h).trans (by rw [hv1 h])) (hK _ _ _ _ hu hM1 (by rw [F_fewest]; exact hW))))⟩)
theorem E_nextSize {S : SS} {a : Int} : ((o_clo true S a).1 ≠ 0 → (o_clo true S a).2.2 = S) ∧ (o_clo true S a).1 ≤ 3 := by
  unfold o_clo
  repeat' split
  all_goals first | exact ⟨fun h => absurd rfl h, Nat.le_of_ble_eq_true rfl⟩ | exact ⟨fun _ => rfl, Nat.le_of_ble_eq_true rfl⟩
theorem F_nextSize {S : SS} {a : Int} : (o_clo true S a).2.2 = S := by
  unfold o_clo
  repeat' split
  all_goals rfl
theorem L_nextSize_ok {vp : Pc} {vo : Nat → Int64} {S : SS} (hC : InvC vp S) (hW : WfS S) {a : Int} (ha : i32 a) {post : Int32 → Pc × (Nat → Int64) → Prop} (k : ∀ r u, r = zz (o_clo true S a).1 → InvC u.1 (o_clo true S a).2.2 → ((o_clo true S a).1 = 0 → u.2 0 = (o_clo true S a).2.1.toInt64) → post r u) : wp_L_nextSize vp vo (zz a) post := by
  have e := E_nextSize (S := S) (a := a)
  have bad : ∀ n : Nat, (o_clo true S a).1 = n + 1 → ∀ r, r = zz (n + 1 : Nat) → post r (vp, vo) := fun n h r hr => k r (vp, vo) (by rw [h]; exact hr) (by rw [e.1 (by omega)]; exact hC) (fun h0 => absurd h0 (by omega))
  unfold wp_L_nextSize
  exact X4_nextSize_ok hC hW ha (fun h => ⟨rfl, bad 0 h 1 rfl⟩) (fun h vp1 h1 => k 0 (vp1, _) (by rw [h]; rfl) h1 (fun _ => upL0 (vo := vo)))
theorem C_nextSize {vp : Pc} {vd : Md} {vo : Nat → Int64} {S : SS} (hC : InvC vp S) (hM : InvM vd S) (hW : WfS S) {a : Int} (ha : i32 a) {I1 : Prop} (h1 : I1) {K : Pc → Md → (Nat → Int64) → Prop} (hK : ∀ (S1 : SS) (vp1 : Pc) (vd1 : Md) (vo1 : Nat → Int64), InvC vp1 S1 → InvM vd1 S1 → WfS S1 → K vp1 vd1 vo1) : wp_L_nextSize vp vo (zz a) (fun r u => (I1 ∧ (wp_X5_nextSize vd (zz a) (fun r1 u1 => (wp_X5_thrown u1 (fun r2 => ((r2 = r → ((r = 0 → (((lg_cmp ((u.2) (0 : Int32).toNatClampNeg) r1.toInt64) = 0 → K u.1 u1 u.2) ∧ (¬ (lg_cmp ((u.2) (0 : Int32).toNatClampNeg) r1.toInt64) = 0 → False))) ∧ (¬ r = 0 → K u.1 u1 u.2))) ∧ (¬ r2 = r → False)))))))) :=
  L_nextSize_ok hC hW ha (fun r u hr hu hv => ⟨h1, X5_nextSize_ok hM hW ha (fun r1 u1 hM1 ht hv1 => brW (law_fin (R := (o_clo true S a)) ht hr (E_nextSize).2 (fun h => (hv h).trans (by rw [hv1 h])) (hK _ _ _ _ hu hM1 (by rw [F_nextSize]; exact hW))))⟩)
theorem E_ifFilled {S : SS} {a : Int} {b : Int} {d : Int} : ((o_ifFilled S a b d).1 ≠ 0 → (o_ifFilled S a b d).2.2 = S) ∧ (o_ifFilled S a b d).1 ≤ 3 := by
  unfold o_ifFilled
  repeat' split
  all_goals first | exact ⟨fun h => absurd rfl h, Nat.le_of_ble_eq_true rfl⟩ | exact ⟨fun _ => rfl, Nat.le_of_ble_eq_true rfl⟩
theorem F_ifFilled {S : SS} {a : Int} {b : Int} {d : Int} : (o_ifFilled S a b d).2.2 = S := by
  unfold o_ifFilled
  repeat' split
  all_goals rfl
theorem L_ifFilled_ok {vp : Pc} {vo : Nat → Int64} {S : SS} (hC : InvC vp S) (hW : WfS S) {a : Int} {b : Int} {d : Int} (ha : i32 a) (hb : i32 b) (hd : i32 d) {post : Int32 → Pc × (Nat → Int64) → Prop} (k : ∀ r u, r = zz (o_ifFilled S a b d).1 → InvC u.1 (o_ifFilled S a b d).2.2 → ((o_ifFilled S a b d).1 = 0 → u.2 0 = (o_ifFilled S a b d).2.1.toInt64) → post r u) : wp_L_ifFilled vp vo (zz a) (zz b) (zz d) post := by
  have e := E_ifFilled (S := S) (a := a) (b := b) (d := d)
  have bad : ∀ n : Nat, (o_ifFilled S a b d).1 = n + 1 → ∀ r, r = zz (n + 1 : Nat) → post r (vp, vo) := fun n h r hr => k r (vp, vo) (by rw [h]; exact hr) (by rw [e.1 (by omega)]; exact hC) (fun h0 => absurd h0 (by omega))
  unfold wp_L_ifFilled
  exact X4_ifFilled_ok hC hW ha hb hd (fun h => .inl ⟨rfl, bad 0 h 1 rfl⟩) (fun h => .inr (⟨rfl, bad 1 h 2 rfl⟩)) (fun h vp1 h1 => k 0 (vp1, _) (by rw [h]; rfl) h1 (fun _ => upL0 (vo := vo)))
theorem C_ifFilled {vp : Pc} {vd : Md} {vo : Nat → Int64} {S : SS} (hC : InvC vp S) (hM : InvM vd S) (hW : WfS S) {a : Int} {b : Int} {d : Int} (ha : i32 a) (hb : i32 b) (hd : i32 d) {I1 : Prop} {I2 : Prop} {I3 : Prop} (h1 : I1) (h2 : I2) (h3 : I3) {K : Pc → Md → (Nat → Int64) → Prop} (hK : ∀ (S1 : SS) (vp1 : Pc) (vd1 : Md) (vo1 : Nat → Int64), InvC vp1 S1 → InvM vd1 S1 → WfS S1 → K vp1 vd1 vo1) : wp_L_ifFilled vp vo (zz a) (zz b) (zz d) (fun r u => (I1 ∧ (I2 ∧ (I3 ∧ (wp_X5_ifFilled vd (zz a) (zz b) (zz d) (fun r1 u1 => (wp_X5_thrown u1 (fun r2 => ((r2 = r → ((r = 0 → (((lg_cmp ((u.2) (0 : Int32).toNatClampNeg) r1.toInt64) = 0 → K u.1 u1 u.2) ∧ (¬ (lg_cmp ((u.2) (0 : Int32).toNatClampNeg) r1.toInt64) = 0 → False))) ∧ (¬ r = 0 → K u.1 u1 u.2))) ∧ (¬ r2 = r → False)))))))))) :=
  L_ifFilled_ok hC hW ha hb hd (fun r u hr hu hv => ⟨h1, h2, h3, X5_ifFilled_ok hM hW ha hb hd (fun r1 u1 hM1 ht hv1 => brW (law_fin (R := (o_ifFilled S a b d)) ht hr (E_ifFilled).2 (fun h => (hv h).trans (by rw [hv1 h])) (hK _ _ _ _ hu hM1 (by rw [F_ifFilled]; exact hW))))⟩)
