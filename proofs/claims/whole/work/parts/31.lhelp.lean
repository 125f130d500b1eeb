def wp_L_stock (vp : Pc) (vo : Nat → Int64) (p1 : Int32) (p2 : Int32) (post : Int32 → Pc × (Nat → Int64) → Prop) : Prop :=
  wp_X4_stock vp p1 p2 (fun r u => post 0 (u, vp_updL vo (0 : Int32).toNatClampNeg r.toInt64)) (fun E => (E = XA ∧ post 1 (vp, vo)))
theorem yoL_stock : yOk yL_stock 4 := by decide +kernel
set_option maxHeartbeats 4000000 in
set_option maxRecDepth 100000 in
theorem met_L_stock (l : Launch) (g : JG) (pa : Nat → Nat) (o0 : Nat) (vp : Pc) (vo : Nat → Int64) (p1 : Int32) (p2 : Int32) (post : Int32 → Pc × (Nat → Int64) → Prop) (hf : wp_L_stock vp vo p1 p2 post) : MetE l yL_stock wsL_stock ({ frames := 9, cells := 2, slots := 12, locals := 152 } : Room) [.ref (pa 0), .int p1, .int p2, .ref o0] g ((PcB g pa vp ++ [ALW g o0 1 vo]).flatten) mkI post (fun u : Pc × (Nat → Int64) => ((PcB g pa u.1 ++ [ALW g o0 1 u.2]).flatten)) := by
  have hl_13 : Cond.classLink RL 13 XA ∈ wsL_stock := by decide +kernel
  refine enterE (own := RL) (cc := cL_stock) (nL := 5) (ret := (some .int)) (hh := [(0, 10, 13, 13)]) (lv := [(0, .ref (pa 0)), (1, .int p1), (2, .int p2), (3, .ref o0)]) (by decide) rfl rfl (Nat.le_of_ble_eq_true rfl) rfl (fun X hX hW hE hT hR => ?_)
  unfold wp_L_stock at hf
  refine j_aload_n (pc' := 1) hX dL_stock_0 rfl 3 rfl rfl ?_
  refine j_iconst (pc' := 2) (v := 0) hX dL_stock_1 (by decide) rfl ?_
  refine j_aload_n (pc' := 3) hX dL_stock_2 rfl 0 rfl rfl ?_
  refine j_iload_n (pc' := 4) hX dL_stock_3 rfl 1 rfl rfl ?_
  refine j_iload_n (pc' := 5) hX dL_stock_4 rfl 2 rfl rfl ?_
  refine j_callVXb (ci := 4) (nb := 13) (pc' := 8) (k' := 2) (n' := 12) (As := [.int p1, .int p2]) (rest := [.int 0, .ref o0]) (stk := fun r => .int r :: [.int 0, .ref o0]) (bs := (PcB g pa vp ++ [ALW g o0 1 vo])) (cs := (PcB g pa vp)) (rs := [ALW g o0 1 vo]) (ws' := fun u => ((PcB g pa u ++ [ALW g o0 1 vo]).flatten)) (bs' := fun u => (PcB g pa u ++ [ALW g o0 1 vo])) (d1 := fun u => (PcB g pa u)) hX hW hE (fun l => met_X4_stock l g pa vp p1 p2 _ _ hf) rfl gL_stock_X4_stock yoX4_stock rfl ⟨Nat.le_of_ble_eq_true rfl, Nat.le_of_ble_eq_true rfl⟩ ⟨Nat.le_of_ble_eq_true rfl, Nat.le_of_ble_eq_true rfl, Nat.le_of_ble_eq_true rfl, Nat.le_of_ble_eq_true rfl⟩ 0 rfl rfl [12, 0, 1, 2, 3, 4, 5, 6, 7, 8, 9, 10, 11] rfl rfl rfl (by decide) rfl (fun _ => rfl) (fun _ => rfl) (fun _ => rfl) (fun _ => rfl) (Nat.le_of_ble_eq_true rfl) rfl (fun _ => rfl) dL_stock_5 rfl (fun E hf => ?_) (fun r u hf => ?_)
  · obtain ⟨rfl, hf⟩ := hf
    refine j_catch (h := 13) hX hE hT [] ⟨0, 10, 13, 13⟩ [] rfl (fun _ _ _ _ hz => absurd hz List.not_mem_nil) (by decide) (by decide) hl_13 (fun _ _ h => h.2.2.2.2.2.1.2.1) rfl (fun q => ?_)
    refine j_astore (pc' := 15) (lv' := [(4, .ref q), (0, .ref (pa 0)), (1, .int p1), (2, .int p2), (3, .ref o0)]) hX dL_stock_13 (by decide) rfl rfl ?_
    refine j_iconst (pc' := 16) (v := 1) hX dL_stock_15 (by decide) rfl ?_
    exact j_iret hX hR dL_stock_16 ⟨_, (vp, vo), rfl, hf, rfl⟩
  · refine j_i2l (pc' := 9) hX dL_stock_8 rfl ?_
    refine j_last (P := True) (pc' := 10) (ws' := ((PcB g pa u ++ [ALW g o0 1 (vp_updL vo (0 : Int32).toNatClampNeg r.toInt64)]).flatten)) hX hW 47 rfl dL_stock_9 ⟨by unfold vp_in; decide, trivial⟩ rfl rfl (fun _ => ?_)
    refine j_goto (tgt := 17) hX dL_stock_10 (by decide) ?_
    refine j_iconst (pc' := 18) (v := 0) hX dL_stock_17 (by decide) rfl ?_
    exact j_iret hX hR dL_stock_18 ⟨_, (u, vp_updL vo (0 : Int32).toNatClampNeg r.toInt64), rfl, hf, rfl⟩
def wp_L_lay (vp : Pc) (vo : Nat → Int64) (p1 : Int32) (p2 : Int32) (post : Int32 → Pc × (Nat → Int64) → Prop) : Prop :=
  wp_X4_lay vp p1 p2 (fun r u => post 0 (u, vp_updL vo (0 : Int32).toNatClampNeg r.toInt64)) (fun E => (E = XI ∧ post 1 (vp, vo)) ∨ (E = XA ∧ post 2 (vp, vo)) ∨ (E = XS ∧ post 3 (vp, vo)))
theorem yoL_lay : yOk yL_lay 4 := by decide +kernel
set_option maxHeartbeats 4000000 in
set_option maxRecDepth 100000 in
theorem met_L_lay (l : Launch) (g : JG) (pa : Nat → Nat) (o0 : Nat) (vp : Pc) (vo : Nat → Int64) (p1 : Int32) (p2 : Int32) (post : Int32 → Pc × (Nat → Int64) → Prop) (hf : wp_L_lay vp vo p1 p2 post) : MetE l yL_lay wsL_lay ({ frames := 9, cells := 3, slots := 18, locals := 153 } : Room) [.ref (pa 0), .int p1, .int p2, .ref o0] g ((PcB g pa vp ++ [ALW g o0 1 vo]).flatten) mkI post (fun u : Pc × (Nat → Int64) => ((PcB g pa u.1 ++ [ALW g o0 1 u.2]).flatten)) := by
  have hl_18 : Cond.classLink RL 18 XI ∈ wsL_lay := by decide +kernel
  have hl_13 : Cond.classLink RL 13 XA ∈ wsL_lay := by decide +kernel
  have hl_20 : Cond.classLink RL 20 XS ∈ wsL_lay := by decide +kernel
  refine enterE (own := RL) (cc := cL_lay) (nL := 5) (ret := (some .int)) (hh := [(0, 10, 13, 18), (0, 10, 17, 13), (0, 10, 21, 20)]) (lv := [(0, .ref (pa 0)), (1, .int p1), (2, .int p2), (3, .ref o0)]) (by decide) rfl rfl (Nat.le_of_ble_eq_true rfl) rfl (fun X hX hW hE hT hR => ?_)
  unfold wp_L_lay at hf
  refine j_aload_n (pc' := 1) hX dL_lay_0 rfl 3 rfl rfl ?_
  refine j_iconst (pc' := 2) (v := 0) hX dL_lay_1 (by decide) rfl ?_
  refine j_aload_n (pc' := 3) hX dL_lay_2 rfl 0 rfl rfl ?_
  refine j_iload_n (pc' := 4) hX dL_lay_3 rfl 1 rfl rfl ?_
  refine j_iload_n (pc' := 5) hX dL_lay_4 rfl 2 rfl rfl ?_
  refine j_callVXb (ci := 4) (nb := 13) (pc' := 8) (k' := 3) (n' := 18) (As := [.int p1, .int p2]) (rest := [.int 0, .ref o0]) (stk := fun r => .int r :: [.int 0, .ref o0]) (bs := (PcB g pa vp ++ [ALW g o0 1 vo])) (cs := (PcB g pa vp)) (rs := [ALW g o0 1 vo]) (ws' := fun u => ((PcB g pa u ++ [ALW g o0 1 vo]).flatten)) (bs' := fun u => (PcB g pa u ++ [ALW g o0 1 vo])) (d1 := fun u => (PcB g pa u)) hX hW hE (fun l => met_X4_lay l g pa vp p1 p2 _ _ hf) rfl gL_lay_X4_lay yoX4_lay rfl ⟨Nat.le_of_ble_eq_true rfl, Nat.le_of_ble_eq_true rfl⟩ ⟨Nat.le_of_ble_eq_true rfl, Nat.le_of_ble_eq_true rfl, Nat.le_of_ble_eq_true rfl, Nat.le_of_ble_eq_true rfl⟩ 0 rfl rfl [12, 0, 1, 2, 3, 4, 5, 6, 7, 8, 9, 10, 11] rfl rfl rfl (by decide) rfl (fun _ => rfl) (fun _ => rfl) (fun _ => rfl) (fun _ => rfl) (Nat.le_of_ble_eq_true rfl) rfl (fun _ => rfl) dL_lay_5 rfl (fun E hf => ?_) (fun r u hf => ?_)
  · rcases hf with ⟨rfl, hf⟩ | ⟨rfl, hf⟩ | ⟨rfl, hf⟩
    · refine j_catch (h := 13) hX hE hT [] ⟨0, 10, 13, 18⟩ [⟨0, 10, 17, 13⟩, ⟨0, 10, 21, 20⟩] rfl (fun _ _ _ _ hz => absurd hz List.not_mem_nil) (by decide) (by decide) hl_18 (fun _ _ h => h.2.2.2.2.2.1.1) rfl (fun q => ?_)
      refine j_astore (pc' := 15) (lv' := [(4, .ref q), (0, .ref (pa 0)), (1, .int p1), (2, .int p2), (3, .ref o0)]) hX dL_lay_13 (by decide) rfl rfl ?_
      refine j_iconst (pc' := 16) (v := 1) hX dL_lay_15 (by decide) rfl ?_
      exact j_iret hX hR dL_lay_16 ⟨_, (vp, vo), rfl, hf, rfl⟩
    · refine j_catch (h := 17) hX hE hT [⟨0, 10, 13, 18⟩] ⟨0, 10, 17, 13⟩ [⟨0, 10, 21, 20⟩] rfl (fun _ _ h z hz => by
        rcases List.mem_singleton.mp hz with rfl
        exact ⟨by decide, XI, hl_18, h.2.2.2.2.2.2.1.2.2.1⟩) (by decide) (by decide) hl_13 (fun _ _ h => h.2.2.2.2.2.1.2.1) rfl (fun q => ?_)
      refine j_astore (pc' := 19) (lv' := [(4, .ref q), (0, .ref (pa 0)), (1, .int p1), (2, .int p2), (3, .ref o0)]) hX dL_lay_17 (by decide) rfl rfl ?_
      refine j_iconst (pc' := 20) (v := 2) hX dL_lay_19 (by decide) rfl ?_
      exact j_iret hX hR dL_lay_20 ⟨_, (vp, vo), rfl, hf, rfl⟩
    · refine j_catch (h := 21) hX hE hT [⟨0, 10, 13, 18⟩, ⟨0, 10, 17, 13⟩] ⟨0, 10, 21, 20⟩ [] rfl (fun _ _ h z hz => by
        simp only [List.mem_cons, List.not_mem_nil, or_false] at hz
        rcases hz with rfl | rfl
        · exact ⟨by decide, XI, hl_18, h.2.2.2.2.2.2.1.2.2.2.2.1⟩
        · exact ⟨by decide, XA, hl_13, h.2.2.2.2.2.2.1.2.2.2.2.2⟩) (by decide) (by decide) hl_20 (fun _ _ h => h.2.2.2.2.2.1.2.2) rfl (fun q => ?_)
      refine j_astore (pc' := 23) (lv' := [(4, .ref q), (0, .ref (pa 0)), (1, .int p1), (2, .int p2), (3, .ref o0)]) hX dL_lay_21 (by decide) rfl rfl ?_
      refine j_iconst (pc' := 24) (v := 3) hX dL_lay_23 (by decide) rfl ?_
      exact j_iret hX hR dL_lay_24 ⟨_, (vp, vo), rfl, hf, rfl⟩
  · refine j_i2l (pc' := 9) hX dL_lay_8 rfl ?_
    refine j_last (P := True) (pc' := 10) (ws' := ((PcB g pa u ++ [ALW g o0 1 (vp_updL vo (0 : Int32).toNatClampNeg r.toInt64)]).flatten)) hX hW 47 rfl dL_lay_9 ⟨by unfold vp_in; decide, trivial⟩ rfl rfl (fun _ => ?_)
    refine j_goto (tgt := 25) hX dL_lay_10 (by decide) ?_
    refine j_iconst (pc' := 26) (v := 0) hX dL_lay_25 (by decide) rfl ?_
    exact j_iret hX hR dL_lay_26 ⟨_, (u, vp_updL vo (0 : Int32).toNatClampNeg r.toInt64), rfl, hf, rfl⟩
def wp_L_cut (vp : Pc) (vo : Nat → Int64) (p1 : Int32) (p2 : Int32) (post : Int32 → Pc × (Nat → Int64) → Prop) : Prop :=
  wp_X4_cut vp p1 p2 (fun r u => post 0 (u, vp_updL vo (0 : Int32).toNatClampNeg r.toInt64)) (fun E => (E = XI ∧ post 1 (vp, vo)) ∨ (E = XA ∧ post 2 (vp, vo)) ∨ (E = XS ∧ post 3 (vp, vo)))
theorem yoL_cut : yOk yL_cut 4 := by decide +kernel
set_option maxHeartbeats 4000000 in
set_option maxRecDepth 100000 in
theorem met_L_cut (l : Launch) (g : JG) (pa : Nat → Nat) (o0 : Nat) (vp : Pc) (vo : Nat → Int64) (p1 : Int32) (p2 : Int32) (post : Int32 → Pc × (Nat → Int64) → Prop) (hf : wp_L_cut vp vo p1 p2 post) : MetE l yL_cut wsL_cut ({ frames := 9, cells := 3, slots := 18, locals := 152 } : Room) [.ref (pa 0), .int p1, .int p2, .ref o0] g ((PcB g pa vp ++ [ALW g o0 1 vo]).flatten) mkI post (fun u : Pc × (Nat → Int64) => ((PcB g pa u.1 ++ [ALW g o0 1 u.2]).flatten)) := by
  have hl_18 : Cond.classLink RL 18 XI ∈ wsL_cut := by decide +kernel
  have hl_13 : Cond.classLink RL 13 XA ∈ wsL_cut := by decide +kernel
  have hl_20 : Cond.classLink RL 20 XS ∈ wsL_cut := by decide +kernel
  refine enterE (own := RL) (cc := cL_cut) (nL := 5) (ret := (some .int)) (hh := [(0, 10, 13, 18), (0, 10, 17, 13), (0, 10, 21, 20)]) (lv := [(0, .ref (pa 0)), (1, .int p1), (2, .int p2), (3, .ref o0)]) (by decide) rfl rfl (Nat.le_of_ble_eq_true rfl) rfl (fun X hX hW hE hT hR => ?_)
  unfold wp_L_cut at hf
  refine j_aload_n (pc' := 1) hX dL_cut_0 rfl 3 rfl rfl ?_
  refine j_iconst (pc' := 2) (v := 0) hX dL_cut_1 (by decide) rfl ?_
  refine j_aload_n (pc' := 3) hX dL_cut_2 rfl 0 rfl rfl ?_
  refine j_iload_n (pc' := 4) hX dL_cut_3 rfl 1 rfl rfl ?_
  refine j_iload_n (pc' := 5) hX dL_cut_4 rfl 2 rfl rfl ?_
  refine j_callVXb (ci := 4) (nb := 13) (pc' := 8) (k' := 3) (n' := 18) (As := [.int p1, .int p2]) (rest := [.int 0, .ref o0]) (stk := fun r => .int r :: [.int 0, .ref o0]) (bs := (PcB g pa vp ++ [ALW g o0 1 vo])) (cs := (PcB g pa vp)) (rs := [ALW g o0 1 vo]) (ws' := fun u => ((PcB g pa u ++ [ALW g o0 1 vo]).flatten)) (bs' := fun u => (PcB g pa u ++ [ALW g o0 1 vo])) (d1 := fun u => (PcB g pa u)) hX hW hE (fun l => met_X4_cut l g pa vp p1 p2 _ _ hf) rfl gL_cut_X4_cut yoX4_cut rfl ⟨Nat.le_of_ble_eq_true rfl, Nat.le_of_ble_eq_true rfl⟩ ⟨Nat.le_of_ble_eq_true rfl, Nat.le_of_ble_eq_true rfl, Nat.le_of_ble_eq_true rfl, Nat.le_of_ble_eq_true rfl⟩ 0 rfl rfl [12, 0, 1, 2, 3, 4, 5, 6, 7, 8, 9, 10, 11] rfl rfl rfl (by decide) rfl (fun _ => rfl) (fun _ => rfl) (fun _ => rfl) (fun _ => rfl) (Nat.le_of_ble_eq_true rfl) rfl (fun _ => rfl) dL_cut_5 rfl (fun E hf => ?_) (fun r u hf => ?_)
  · rcases hf with ⟨rfl, hf⟩ | ⟨rfl, hf⟩ | ⟨rfl, hf⟩
    · refine j_catch (h := 13) hX hE hT [] ⟨0, 10, 13, 18⟩ [⟨0, 10, 17, 13⟩, ⟨0, 10, 21, 20⟩] rfl (fun _ _ _ _ hz => absurd hz List.not_mem_nil) (by decide) (by decide) hl_18 (fun _ _ h => h.2.2.2.2.2.1.1) rfl (fun q => ?_)
      refine j_astore (pc' := 15) (lv' := [(4, .ref q), (0, .ref (pa 0)), (1, .int p1), (2, .int p2), (3, .ref o0)]) hX dL_cut_13 (by decide) rfl rfl ?_
      refine j_iconst (pc' := 16) (v := 1) hX dL_cut_15 (by decide) rfl ?_
      exact j_iret hX hR dL_cut_16 ⟨_, (vp, vo), rfl, hf, rfl⟩
    · refine j_catch (h := 17) hX hE hT [⟨0, 10, 13, 18⟩] ⟨0, 10, 17, 13⟩ [⟨0, 10, 21, 20⟩] rfl (fun _ _ h z hz => by
        rcases List.mem_singleton.mp hz with rfl
        exact ⟨by decide, XI, hl_18, h.2.2.2.2.2.2.1.2.2.1⟩) (by decide) (by decide) hl_13 (fun _ _ h => h.2.2.2.2.2.1.2.1) rfl (fun q => ?_)
      refine j_astore (pc' := 19) (lv' := [(4, .ref q), (0, .ref (pa 0)), (1, .int p1), (2, .int p2), (3, .ref o0)]) hX dL_cut_17 (by decide) rfl rfl ?_
      refine j_iconst (pc' := 20) (v := 2) hX dL_cut_19 (by decide) rfl ?_
      exact j_iret hX hR dL_cut_20 ⟨_, (vp, vo), rfl, hf, rfl⟩
    · refine j_catch (h := 21) hX hE hT [⟨0, 10, 13, 18⟩, ⟨0, 10, 17, 13⟩] ⟨0, 10, 21, 20⟩ [] rfl (fun _ _ h z hz => by
        simp only [List.mem_cons, List.not_mem_nil, or_false] at hz
        rcases hz with rfl | rfl
        · exact ⟨by decide, XI, hl_18, h.2.2.2.2.2.2.1.2.2.2.2.1⟩
        · exact ⟨by decide, XA, hl_13, h.2.2.2.2.2.2.1.2.2.2.2.2⟩) (by decide) (by decide) hl_20 (fun _ _ h => h.2.2.2.2.2.1.2.2) rfl (fun q => ?_)
      refine j_astore (pc' := 23) (lv' := [(4, .ref q), (0, .ref (pa 0)), (1, .int p1), (2, .int p2), (3, .ref o0)]) hX dL_cut_21 (by decide) rfl rfl ?_
      refine j_iconst (pc' := 24) (v := 3) hX dL_cut_23 (by decide) rfl ?_
      exact j_iret hX hR dL_cut_24 ⟨_, (vp, vo), rfl, hf, rfl⟩
  · refine j_i2l (pc' := 9) hX dL_cut_8 rfl ?_
    refine j_last (P := True) (pc' := 10) (ws' := ((PcB g pa u ++ [ALW g o0 1 (vp_updL vo (0 : Int32).toNatClampNeg r.toInt64)]).flatten)) hX hW 47 rfl dL_cut_9 ⟨by unfold vp_in; decide, trivial⟩ rfl rfl (fun _ => ?_)
    refine j_goto (tgt := 25) hX dL_cut_10 (by decide) ?_
    refine j_iconst (pc' := 26) (v := 0) hX dL_cut_25 (by decide) rfl ?_
    exact j_iret hX hR dL_cut_26 ⟨_, (u, vp_updL vo (0 : Int32).toNatClampNeg r.toInt64), rfl, hf, rfl⟩
def wp_L_takeUp (vp : Pc) (vo : Nat → Int64) (p1 : Int32) (p2 : Int32) (post : Int32 → Pc × (Nat → Int64) → Prop) : Prop :=
  wp_X4_takeUp vp p1 p2 (fun r u => post 0 (u, vp_updL vo (0 : Int32).toNatClampNeg r.toInt64)) (fun E => (E = XI ∧ post 1 (vp, vo)) ∨ (E = XA ∧ post 2 (vp, vo)))
theorem yoL_takeUp : yOk yL_takeUp 4 := by decide +kernel
set_option maxHeartbeats 4000000 in
set_option maxRecDepth 100000 in
theorem met_L_takeUp (l : Launch) (g : JG) (pa : Nat → Nat) (o0 : Nat) (vp : Pc) (vo : Nat → Int64) (p1 : Int32) (p2 : Int32) (post : Int32 → Pc × (Nat → Int64) → Prop) (hf : wp_L_takeUp vp vo p1 p2 post) : MetE l yL_takeUp wsL_takeUp ({ frames := 9, cells := 2, slots := 12, locals := 152 } : Room) [.ref (pa 0), .int p1, .int p2, .ref o0] g ((PcB g pa vp ++ [ALW g o0 1 vo]).flatten) mkI post (fun u : Pc × (Nat → Int64) => ((PcB g pa u.1 ++ [ALW g o0 1 u.2]).flatten)) := by
  have hl_18 : Cond.classLink RL 18 XI ∈ wsL_takeUp := by decide +kernel
  have hl_13 : Cond.classLink RL 13 XA ∈ wsL_takeUp := by decide +kernel
  refine enterE (own := RL) (cc := cL_takeUp) (nL := 5) (ret := (some .int)) (hh := [(0, 10, 13, 18), (0, 10, 17, 13)]) (lv := [(0, .ref (pa 0)), (1, .int p1), (2, .int p2), (3, .ref o0)]) (by decide) rfl rfl (Nat.le_of_ble_eq_true rfl) rfl (fun X hX hW hE hT hR => ?_)
  unfold wp_L_takeUp at hf
  refine j_aload_n (pc' := 1) hX dL_takeUp_0 rfl 3 rfl rfl ?_
  refine j_iconst (pc' := 2) (v := 0) hX dL_takeUp_1 (by decide) rfl ?_
  refine j_aload_n (pc' := 3) hX dL_takeUp_2 rfl 0 rfl rfl ?_
  refine j_iload_n (pc' := 4) hX dL_takeUp_3 rfl 1 rfl rfl ?_
  refine j_iload_n (pc' := 5) hX dL_takeUp_4 rfl 2 rfl rfl ?_
  refine j_callVXb (ci := 4) (nb := 13) (pc' := 8) (k' := 2) (n' := 12) (As := [.int p1, .int p2]) (rest := [.int 0, .ref o0]) (stk := fun r => .int r :: [.int 0, .ref o0]) (bs := (PcB g pa vp ++ [ALW g o0 1 vo])) (cs := (PcB g pa vp)) (rs := [ALW g o0 1 vo]) (ws' := fun u => ((PcB g pa u ++ [ALW g o0 1 vo]).flatten)) (bs' := fun u => (PcB g pa u ++ [ALW g o0 1 vo])) (d1 := fun u => (PcB g pa u)) hX hW hE (fun l => met_X4_takeUp l g pa vp p1 p2 _ _ hf) rfl gL_takeUp_X4_takeUp yoX4_takeUp rfl ⟨Nat.le_of_ble_eq_true rfl, Nat.le_of_ble_eq_true rfl⟩ ⟨Nat.le_of_ble_eq_true rfl, Nat.le_of_ble_eq_true rfl, Nat.le_of_ble_eq_true rfl, Nat.le_of_ble_eq_true rfl⟩ 0 rfl rfl [12, 0, 1, 2, 3, 4, 5, 6, 7, 8, 9, 10, 11] rfl rfl rfl (by decide) rfl (fun _ => rfl) (fun _ => rfl) (fun _ => rfl) (fun _ => rfl) (Nat.le_of_ble_eq_true rfl) rfl (fun _ => rfl) dL_takeUp_5 rfl (fun E hf => ?_) (fun r u hf => ?_)
  · rcases hf with ⟨rfl, hf⟩ | ⟨rfl, hf⟩
    · refine j_catch (h := 13) hX hE hT [] ⟨0, 10, 13, 18⟩ [⟨0, 10, 17, 13⟩] rfl (fun _ _ _ _ hz => absurd hz List.not_mem_nil) (by decide) (by decide) hl_18 (fun _ _ h => h.2.2.2.2.2.1.1) rfl (fun q => ?_)
      refine j_astore (pc' := 15) (lv' := [(4, .ref q), (0, .ref (pa 0)), (1, .int p1), (2, .int p2), (3, .ref o0)]) hX dL_takeUp_13 (by decide) rfl rfl ?_
      refine j_iconst (pc' := 16) (v := 1) hX dL_takeUp_15 (by decide) rfl ?_
      exact j_iret hX hR dL_takeUp_16 ⟨_, (vp, vo), rfl, hf, rfl⟩
    · refine j_catch (h := 17) hX hE hT [⟨0, 10, 13, 18⟩] ⟨0, 10, 17, 13⟩ [] rfl (fun _ _ h z hz => by
        rcases List.mem_singleton.mp hz with rfl
        exact ⟨by decide, XI, hl_18, h.2.2.2.2.2.2.1.2.2.1⟩) (by decide) (by decide) hl_13 (fun _ _ h => h.2.2.2.2.2.1.2.1) rfl (fun q => ?_)
      refine j_astore (pc' := 19) (lv' := [(4, .ref q), (0, .ref (pa 0)), (1, .int p1), (2, .int p2), (3, .ref o0)]) hX dL_takeUp_17 (by decide) rfl rfl ?_
      refine j_iconst (pc' := 20) (v := 2) hX dL_takeUp_19 (by decide) rfl ?_
      exact j_iret hX hR dL_takeUp_20 ⟨_, (vp, vo), rfl, hf, rfl⟩
  · refine j_i2l (pc' := 9) hX dL_takeUp_8 rfl ?_
    refine j_last (P := True) (pc' := 10) (ws' := ((PcB g pa u ++ [ALW g o0 1 (vp_updL vo (0 : Int32).toNatClampNeg r.toInt64)]).flatten)) hX hW 47 rfl dL_takeUp_9 ⟨by unfold vp_in; decide, trivial⟩ rfl rfl (fun _ => ?_)
    refine j_goto (tgt := 21) hX dL_takeUp_10 (by decide) ?_
    refine j_iconst (pc' := 22) (v := 0) hX dL_takeUp_21 (by decide) rfl ?_
    exact j_iret hX hR dL_takeUp_22 ⟨_, (u, vp_updL vo (0 : Int32).toNatClampNeg r.toInt64), rfl, hf, rfl⟩
def wp_L_fill (vp : Pc) (vo : Nat → Int64) (p1 : Int32) (post : Int32 → Pc × (Nat → Int64) → Prop) : Prop :=
  wp_X4_fill vp p1 (fun r u => post 0 (u, vp_updL vo (0 : Int32).toNatClampNeg r.toInt64)) (fun E => (E = XI ∧ post 1 (vp, vo)))
theorem yoL_fill : yOk yL_fill 3 := by decide +kernel
set_option maxHeartbeats 4000000 in
set_option maxRecDepth 100000 in
theorem met_L_fill (l : Launch) (g : JG) (pa : Nat → Nat) (o0 : Nat) (vp : Pc) (vo : Nat → Int64) (p1 : Int32) (post : Int32 → Pc × (Nat → Int64) → Prop) (hf : wp_L_fill vp vo p1 post) : MetE l yL_fill wsL_fill ({ frames := 9, cells := 1, slots := 6, locals := 151 } : Room) [.ref (pa 0), .int p1, .ref o0] g ((PcB g pa vp ++ [ALW g o0 1 vo]).flatten) mkI post (fun u : Pc × (Nat → Int64) => ((PcB g pa u.1 ++ [ALW g o0 1 u.2]).flatten)) := by
  have hl_18 : Cond.classLink RL 18 XI ∈ wsL_fill := by decide +kernel
  refine enterE (own := RL) (cc := cL_fill) (nL := 4) (ret := (some .int)) (hh := [(0, 9, 12, 18)]) (lv := [(0, .ref (pa 0)), (1, .int p1), (2, .ref o0)]) (by decide) rfl rfl (Nat.le_of_ble_eq_true rfl) rfl (fun X hX hW hE hT hR => ?_)
  unfold wp_L_fill at hf
  refine j_aload_n (pc' := 1) hX dL_fill_0 rfl 2 rfl rfl ?_
  refine j_iconst (pc' := 2) (v := 0) hX dL_fill_1 (by decide) rfl ?_
  refine j_aload_n (pc' := 3) hX dL_fill_2 rfl 0 rfl rfl ?_
  refine j_iload_n (pc' := 4) hX dL_fill_3 rfl 1 rfl rfl ?_
  refine j_callVXb (ci := 4) (nb := 13) (pc' := 7) (k' := 1) (n' := 6) (As := [.int p1]) (rest := [.int 0, .ref o0]) (stk := fun r => .int r :: [.int 0, .ref o0]) (bs := (PcB g pa vp ++ [ALW g o0 1 vo])) (cs := (PcB g pa vp)) (rs := [ALW g o0 1 vo]) (ws' := fun u => ((PcB g pa u ++ [ALW g o0 1 vo]).flatten)) (bs' := fun u => (PcB g pa u ++ [ALW g o0 1 vo])) (d1 := fun u => (PcB g pa u)) hX hW hE (fun l => met_X4_fill l g pa vp p1 _ _ hf) rfl gL_fill_X4_fill yoX4_fill rfl ⟨Nat.le_of_ble_eq_true rfl, Nat.le_of_ble_eq_true rfl⟩ ⟨Nat.le_of_ble_eq_true rfl, Nat.le_of_ble_eq_true rfl, Nat.le_of_ble_eq_true rfl, Nat.le_of_ble_eq_true rfl⟩ 0 rfl rfl [12, 0, 1, 2, 3, 4, 5, 6, 7, 8, 9, 10, 11] rfl rfl rfl (by decide) rfl (fun _ => rfl) (fun _ => rfl) (fun _ => rfl) (fun _ => rfl) (Nat.le_of_ble_eq_true rfl) rfl (fun _ => rfl) dL_fill_4 rfl (fun E hf => ?_) (fun r u hf => ?_)
  · obtain ⟨rfl, hf⟩ := hf
    refine j_catch (h := 12) hX hE hT [] ⟨0, 9, 12, 18⟩ [] rfl (fun _ _ _ _ hz => absurd hz List.not_mem_nil) (by decide) (by decide) hl_18 (fun _ _ h => h.2.2.2.2.2.1.1) rfl (fun q => ?_)
    refine j_astore_n (pc' := 13) (lv' := [(3, .ref q), (0, .ref (pa 0)), (1, .int p1), (2, .ref o0)]) hX dL_fill_12 rfl (by decide) rfl rfl ?_
    refine j_iconst (pc' := 14) (v := 1) hX dL_fill_13 (by decide) rfl ?_
    exact j_iret hX hR dL_fill_14 ⟨_, (vp, vo), rfl, hf, rfl⟩
  · refine j_i2l (pc' := 8) hX dL_fill_7 rfl ?_
    refine j_last (P := True) (pc' := 9) (ws' := ((PcB g pa u ++ [ALW g o0 1 (vp_updL vo (0 : Int32).toNatClampNeg r.toInt64)]).flatten)) hX hW 47 rfl dL_fill_8 ⟨by unfold vp_in; decide, trivial⟩ rfl rfl (fun _ => ?_)
    refine j_goto (tgt := 15) hX dL_fill_9 (by decide) ?_
    refine j_iconst (pc' := 16) (v := 0) hX dL_fill_15 (by decide) rfl ?_
    exact j_iret hX hR dL_fill_16 ⟨_, (u, vp_updL vo (0 : Int32).toNatClampNeg r.toInt64), rfl, hf, rfl⟩
def wp_L_set (vp : Pc) (vo : Nat → Int64) (p1 : Int32) (p2 : Int32) (post : Int32 → Pc × (Nat → Int64) → Prop) : Prop :=
  wp_X4_set vp p1 p2 (fun r u => post 0 (u, vp_updL vo (0 : Int32).toNatClampNeg r.toInt64)) (fun E => (E = XI ∧ post 1 (vp, vo)) ∨ (E = XA ∧ post 2 (vp, vo)) ∨ (E = XS ∧ post 3 (vp, vo)))
theorem yoL_set : yOk yL_set 4 := by decide +kernel
set_option maxHeartbeats 4000000 in
set_option maxRecDepth 100000 in
theorem met_L_set (l : Launch) (g : JG) (pa : Nat → Nat) (o0 : Nat) (vp : Pc) (vo : Nat → Int64) (p1 : Int32) (p2 : Int32) (post : Int32 → Pc × (Nat → Int64) → Prop) (hf : wp_L_set vp vo p1 p2 post) : MetE l yL_set wsL_set ({ frames := 9, cells := 3, slots := 18, locals := 153 } : Room) [.ref (pa 0), .int p1, .int p2, .ref o0] g ((PcB g pa vp ++ [ALW g o0 1 vo]).flatten) mkI post (fun u : Pc × (Nat → Int64) => ((PcB g pa u.1 ++ [ALW g o0 1 u.2]).flatten)) := by
  have hl_18 : Cond.classLink RL 18 XI ∈ wsL_set := by decide +kernel
  have hl_13 : Cond.classLink RL 13 XA ∈ wsL_set := by decide +kernel
  have hl_20 : Cond.classLink RL 20 XS ∈ wsL_set := by decide +kernel
  refine enterE (own := RL) (cc := cL_set) (nL := 5) (ret := (some .int)) (hh := [(0, 10, 13, 18), (0, 10, 17, 13), (0, 10, 21, 20)]) (lv := [(0, .ref (pa 0)), (1, .int p1), (2, .int p2), (3, .ref o0)]) (by decide) rfl rfl (Nat.le_of_ble_eq_true rfl) rfl (fun X hX hW hE hT hR => ?_)
  unfold wp_L_set at hf
  refine j_aload_n (pc' := 1) hX dL_set_0 rfl 3 rfl rfl ?_
  refine j_iconst (pc' := 2) (v := 0) hX dL_set_1 (by decide) rfl ?_
  refine j_aload_n (pc' := 3) hX dL_set_2 rfl 0 rfl rfl ?_
  refine j_iload_n (pc' := 4) hX dL_set_3 rfl 1 rfl rfl ?_
  refine j_iload_n (pc' := 5) hX dL_set_4 rfl 2 rfl rfl ?_
  refine j_callVXb (ci := 4) (nb := 13) (pc' := 8) (k' := 3) (n' := 18) (As := [.int p1, .int p2]) (rest := [.int 0, .ref o0]) (stk := fun r => .int r :: [.int 0, .ref o0]) (bs := (PcB g pa vp ++ [ALW g o0 1 vo])) (cs := (PcB g pa vp)) (rs := [ALW g o0 1 vo]) (ws' := fun u => ((PcB g pa u ++ [ALW g o0 1 vo]).flatten)) (bs' := fun u => (PcB g pa u ++ [ALW g o0 1 vo])) (d1 := fun u => (PcB g pa u)) hX hW hE (fun l => met_X4_set l g pa vp p1 p2 _ _ hf) rfl gL_set_X4_set yoX4_set rfl ⟨Nat.le_of_ble_eq_true rfl, Nat.le_of_ble_eq_true rfl⟩ ⟨Nat.le_of_ble_eq_true rfl, Nat.le_of_ble_eq_true rfl, Nat.le_of_ble_eq_true rfl, Nat.le_of_ble_eq_true rfl⟩ 0 rfl rfl [12, 0, 1, 2, 3, 4, 5, 6, 7, 8, 9, 10, 11] rfl rfl rfl (by decide) rfl (fun _ => rfl) (fun _ => rfl) (fun _ => rfl) (fun _ => rfl) (Nat.le_of_ble_eq_true rfl) rfl (fun _ => rfl) dL_set_5 rfl (fun E hf => ?_) (fun r u hf => ?_)
  · rcases hf with ⟨rfl, hf⟩ | ⟨rfl, hf⟩ | ⟨rfl, hf⟩
    · refine j_catch (h := 13) hX hE hT [] ⟨0, 10, 13, 18⟩ [⟨0, 10, 17, 13⟩, ⟨0, 10, 21, 20⟩] rfl (fun _ _ _ _ hz => absurd hz List.not_mem_nil) (by decide) (by decide) hl_18 (fun _ _ h => h.2.2.2.2.2.1.1) rfl (fun q => ?_)
      refine j_astore (pc' := 15) (lv' := [(4, .ref q), (0, .ref (pa 0)), (1, .int p1), (2, .int p2), (3, .ref o0)]) hX dL_set_13 (by decide) rfl rfl ?_
      refine j_iconst (pc' := 16) (v := 1) hX dL_set_15 (by decide) rfl ?_
      exact j_iret hX hR dL_set_16 ⟨_, (vp, vo), rfl, hf, rfl⟩
    · refine j_catch (h := 17) hX hE hT [⟨0, 10, 13, 18⟩] ⟨0, 10, 17, 13⟩ [⟨0, 10, 21, 20⟩] rfl (fun _ _ h z hz => by
        rcases List.mem_singleton.mp hz with rfl
        exact ⟨by decide, XI, hl_18, h.2.2.2.2.2.2.1.2.2.1⟩) (by decide) (by decide) hl_13 (fun _ _ h => h.2.2.2.2.2.1.2.1) rfl (fun q => ?_)
      refine j_astore (pc' := 19) (lv' := [(4, .ref q), (0, .ref (pa 0)), (1, .int p1), (2, .int p2), (3, .ref o0)]) hX dL_set_17 (by decide) rfl rfl ?_
      refine j_iconst (pc' := 20) (v := 2) hX dL_set_19 (by decide) rfl ?_
      exact j_iret hX hR dL_set_20 ⟨_, (vp, vo), rfl, hf, rfl⟩
    · refine j_catch (h := 21) hX hE hT [⟨0, 10, 13, 18⟩, ⟨0, 10, 17, 13⟩] ⟨0, 10, 21, 20⟩ [] rfl (fun _ _ h z hz => by
        simp only [List.mem_cons, List.not_mem_nil, or_false] at hz
        rcases hz with rfl | rfl
        · exact ⟨by decide, XI, hl_18, h.2.2.2.2.2.2.1.2.2.2.2.1⟩
        · exact ⟨by decide, XA, hl_13, h.2.2.2.2.2.2.1.2.2.2.2.2⟩) (by decide) (by decide) hl_20 (fun _ _ h => h.2.2.2.2.2.1.2.2) rfl (fun q => ?_)
      refine j_astore (pc' := 23) (lv' := [(4, .ref q), (0, .ref (pa 0)), (1, .int p1), (2, .int p2), (3, .ref o0)]) hX dL_set_21 (by decide) rfl rfl ?_
      refine j_iconst (pc' := 24) (v := 3) hX dL_set_23 (by decide) rfl ?_
      exact j_iret hX hR dL_set_24 ⟨_, (vp, vo), rfl, hf, rfl⟩
  · refine j_i2l (pc' := 9) hX dL_set_8 rfl ?_
    refine j_last (P := True) (pc' := 10) (ws' := ((PcB g pa u ++ [ALW g o0 1 (vp_updL vo (0 : Int32).toNatClampNeg r.toInt64)]).flatten)) hX hW 47 rfl dL_set_9 ⟨by unfold vp_in; decide, trivial⟩ rfl rfl (fun _ => ?_)
    refine j_goto (tgt := 25) hX dL_set_10 (by decide) ?_
    refine j_iconst (pc' := 26) (v := 0) hX dL_set_25 (by decide) rfl ?_
    exact j_iret hX hR dL_set_26 ⟨_, (u, vp_updL vo (0 : Int32).toNatClampNeg r.toInt64), rfl, hf, rfl⟩
def wp_L_append (vp : Pc) (vo : Nat → Int64) (p1 : Int32) (post : Int32 → Pc × (Nat → Int64) → Prop) : Prop :=
  wp_X4_append vp p1 (fun r u => post 0 (u, vp_updL vo (0 : Int32).toNatClampNeg r.toInt64)) (fun E => (E = XA ∧ post 1 (vp, vo)) ∨ (E = XS ∧ post 2 (vp, vo)))
theorem yoL_append : yOk yL_append 3 := by decide +kernel
set_option maxHeartbeats 4000000 in
set_option maxRecDepth 100000 in
theorem met_L_append (l : Launch) (g : JG) (pa : Nat → Nat) (o0 : Nat) (vp : Pc) (vo : Nat → Int64) (p1 : Int32) (post : Int32 → Pc × (Nat → Int64) → Prop) (hf : wp_L_append vp vo p1 post) : MetE l yL_append wsL_append ({ frames := 8, cells := 2, slots := 12, locals := 131 } : Room) [.ref (pa 0), .int p1, .ref o0] g ((PcB g pa vp ++ [ALW g o0 1 vo]).flatten) mkI post (fun u : Pc × (Nat → Int64) => ((PcB g pa u.1 ++ [ALW g o0 1 u.2]).flatten)) := by
  have hl_13 : Cond.classLink RL 13 XA ∈ wsL_append := by decide +kernel
  have hl_20 : Cond.classLink RL 20 XS ∈ wsL_append := by decide +kernel
  refine enterE (own := RL) (cc := cL_append) (nL := 4) (ret := (some .int)) (hh := [(0, 9, 12, 13), (0, 9, 15, 20)]) (lv := [(0, .ref (pa 0)), (1, .int p1), (2, .ref o0)]) (by decide) rfl rfl (Nat.le_of_ble_eq_true rfl) rfl (fun X hX hW hE hT hR => ?_)
  unfold wp_L_append at hf
  refine j_aload_n (pc' := 1) hX dL_append_0 rfl 2 rfl rfl ?_
  refine j_iconst (pc' := 2) (v := 0) hX dL_append_1 (by decide) rfl ?_
  refine j_aload_n (pc' := 3) hX dL_append_2 rfl 0 rfl rfl ?_
  refine j_iload_n (pc' := 4) hX dL_append_3 rfl 1 rfl rfl ?_
  refine j_callVXb (ci := 4) (nb := 13) (pc' := 7) (k' := 2) (n' := 12) (As := [.int p1]) (rest := [.int 0, .ref o0]) (stk := fun r => .int r :: [.int 0, .ref o0]) (bs := (PcB g pa vp ++ [ALW g o0 1 vo])) (cs := (PcB g pa vp)) (rs := [ALW g o0 1 vo]) (ws' := fun u => ((PcB g pa u ++ [ALW g o0 1 vo]).flatten)) (bs' := fun u => (PcB g pa u ++ [ALW g o0 1 vo])) (d1 := fun u => (PcB g pa u)) hX hW hE (fun l => met_X4_append l g pa vp p1 _ _ hf) rfl gL_append_X4_append yoX4_append rfl ⟨Nat.le_of_ble_eq_true rfl, Nat.le_of_ble_eq_true rfl⟩ ⟨Nat.le_of_ble_eq_true rfl, Nat.le_of_ble_eq_true rfl, Nat.le_of_ble_eq_true rfl, Nat.le_of_ble_eq_true rfl⟩ 0 rfl rfl [12, 0, 1, 2, 3, 4, 5, 6, 7, 8, 9, 10, 11] rfl rfl rfl (by decide) rfl (fun _ => rfl) (fun _ => rfl) (fun _ => rfl) (fun _ => rfl) (Nat.le_of_ble_eq_true rfl) rfl (fun _ => rfl) dL_append_4 rfl (fun E hf => ?_) (fun r u hf => ?_)
  · rcases hf with ⟨rfl, hf⟩ | ⟨rfl, hf⟩
    · refine j_catch (h := 12) hX hE hT [] ⟨0, 9, 12, 13⟩ [⟨0, 9, 15, 20⟩] rfl (fun _ _ _ _ hz => absurd hz List.not_mem_nil) (by decide) (by decide) hl_13 (fun _ _ h => h.2.2.2.2.2.1.2.1) rfl (fun q => ?_)
      refine j_astore_n (pc' := 13) (lv' := [(3, .ref q), (0, .ref (pa 0)), (1, .int p1), (2, .ref o0)]) hX dL_append_12 rfl (by decide) rfl rfl ?_
      refine j_iconst (pc' := 14) (v := 1) hX dL_append_13 (by decide) rfl ?_
      exact j_iret hX hR dL_append_14 ⟨_, (vp, vo), rfl, hf, rfl⟩
    · refine j_catch (h := 15) hX hE hT [⟨0, 9, 12, 13⟩] ⟨0, 9, 15, 20⟩ [] rfl (fun _ _ h z hz => by
        rcases List.mem_singleton.mp hz with rfl
        exact ⟨by decide, XA, hl_13, h.2.2.2.2.2.2.1.2.2.2.2.2⟩) (by decide) (by decide) hl_20 (fun _ _ h => h.2.2.2.2.2.1.2.2) rfl (fun q => ?_)
      refine j_astore_n (pc' := 16) (lv' := [(3, .ref q), (0, .ref (pa 0)), (1, .int p1), (2, .ref o0)]) hX dL_append_15 rfl (by decide) rfl rfl ?_
      refine j_iconst (pc' := 17) (v := 2) hX dL_append_16 (by decide) rfl ?_
      exact j_iret hX hR dL_append_17 ⟨_, (vp, vo), rfl, hf, rfl⟩
  · refine j_i2l (pc' := 8) hX dL_append_7 rfl ?_
    refine j_last (P := True) (pc' := 9) (ws' := ((PcB g pa u ++ [ALW g o0 1 (vp_updL vo (0 : Int32).toNatClampNeg r.toInt64)]).flatten)) hX hW 47 rfl dL_append_8 ⟨by unfold vp_in; decide, trivial⟩ rfl rfl (fun _ => ?_)
    refine j_goto (tgt := 18) hX dL_append_9 (by decide) ?_
    refine j_iconst (pc' := 19) (v := 0) hX dL_append_18 (by decide) rfl ?_
    exact j_iret hX hR dL_append_19 ⟨_, (u, vp_updL vo (0 : Int32).toNatClampNeg r.toInt64), rfl, hf, rfl⟩
def wp_L_layAll (vp : Pc) (vo : Nat → Int64) (post : Int32 → Pc × (Nat → Int64) → Prop) : Prop :=
  wp_X4_layAll vp (fun r u => post 0 (u, vp_updL vo (0 : Int32).toNatClampNeg r.toInt64)) (fun E => (E = XA ∧ post 1 (vp, vo)))
theorem yoL_layAll : yOk yL_layAll 2 := by decide +kernel
set_option maxHeartbeats 4000000 in
set_option maxRecDepth 100000 in
theorem met_L_layAll (l : Launch) (g : JG) (pa : Nat → Nat) (o0 : Nat) (vp : Pc) (vo : Nat → Int64) (post : Int32 → Pc × (Nat → Int64) → Prop) (hf : wp_L_layAll vp vo post) : MetE l yL_layAll wsL_layAll ({ frames := 8, cells := 1, slots := 6, locals := 151 } : Room) [.ref (pa 0), .ref o0] g ((PcB g pa vp ++ [ALW g o0 1 vo]).flatten) mkI post (fun u : Pc × (Nat → Int64) => ((PcB g pa u.1 ++ [ALW g o0 1 u.2]).flatten)) := by
  have hl_13 : Cond.classLink RL 13 XA ∈ wsL_layAll := by decide +kernel
  refine enterE (own := RL) (cc := cL_layAll) (nL := 3) (ret := (some .int)) (hh := [(0, 8, 11, 13)]) (lv := [(0, .ref (pa 0)), (1, .ref o0)]) (by decide) rfl rfl (Nat.le_of_ble_eq_true rfl) rfl (fun X hX hW hE hT hR => ?_)
  unfold wp_L_layAll at hf
  refine j_aload_n (pc' := 1) hX dL_layAll_0 rfl 1 rfl rfl ?_
  refine j_iconst (pc' := 2) (v := 0) hX dL_layAll_1 (by decide) rfl ?_
  refine j_aload_n (pc' := 3) hX dL_layAll_2 rfl 0 rfl rfl ?_
  refine j_callVXb (ci := 4) (nb := 13) (pc' := 6) (k' := 1) (n' := 6) (As := []) (rest := [.int 0, .ref o0]) (stk := fun r => .int r :: [.int 0, .ref o0]) (bs := (PcB g pa vp ++ [ALW g o0 1 vo])) (cs := (PcB g pa vp)) (rs := [ALW g o0 1 vo]) (ws' := fun u => ((PcB g pa u ++ [ALW g o0 1 vo]).flatten)) (bs' := fun u => (PcB g pa u ++ [ALW g o0 1 vo])) (d1 := fun u => (PcB g pa u)) hX hW hE (fun l => met_X4_layAll l g pa vp _ _ hf) rfl gL_layAll_X4_layAll yoX4_layAll rfl ⟨Nat.le_of_ble_eq_true rfl, Nat.le_of_ble_eq_true rfl⟩ ⟨Nat.le_of_ble_eq_true rfl, Nat.le_of_ble_eq_true rfl, Nat.le_of_ble_eq_true rfl, Nat.le_of_ble_eq_true rfl⟩ 0 rfl rfl [12, 0, 1, 2, 3, 4, 5, 6, 7, 8, 9, 10, 11] rfl rfl rfl (by decide) rfl (fun _ => rfl) (fun _ => rfl) (fun _ => rfl) (fun _ => rfl) (Nat.le_of_ble_eq_true rfl) rfl (fun _ => rfl) dL_layAll_3 rfl (fun E hf => ?_) (fun r u hf => ?_)
  · obtain ⟨rfl, hf⟩ := hf
    refine j_catch (h := 11) hX hE hT [] ⟨0, 8, 11, 13⟩ [] rfl (fun _ _ _ _ hz => absurd hz List.not_mem_nil) (by decide) (by decide) hl_13 (fun _ _ h => h.2.2.2.2.2.1.2.1) rfl (fun q => ?_)
    refine j_astore_n (pc' := 12) (lv' := [(2, .ref q), (0, .ref (pa 0)), (1, .ref o0)]) hX dL_layAll_11 rfl (by decide) rfl rfl ?_
    refine j_iconst (pc' := 13) (v := 1) hX dL_layAll_12 (by decide) rfl ?_
    exact j_iret hX hR dL_layAll_13 ⟨_, (vp, vo), rfl, hf, rfl⟩
  · refine j_i2l (pc' := 7) hX dL_layAll_6 rfl ?_
    refine j_last (P := True) (pc' := 8) (ws' := ((PcB g pa u ++ [ALW g o0 1 (vp_updL vo (0 : Int32).toNatClampNeg r.toInt64)]).flatten)) hX hW 47 rfl dL_layAll_7 ⟨by unfold vp_in; decide, trivial⟩ rfl rfl (fun _ => ?_)
    refine j_goto (tgt := 14) hX dL_layAll_8 (by decide) ?_
    refine j_iconst (pc' := 15) (v := 0) hX dL_layAll_14 (by decide) rfl ?_
    exact j_iret hX hR dL_layAll_15 ⟨_, (u, vp_updL vo (0 : Int32).toNatClampNeg r.toInt64), rfl, hf, rfl⟩
def wp_L_undo (vp : Pc) (vo : Nat → Int64) (post : Int32 → Pc × (Nat → Int64) → Prop) : Prop :=
  wp_X4_undo vp (fun r u => post 0 (u, vp_updL vo (0 : Int32).toNatClampNeg r.toInt64)) (fun E => (E = XS ∧ post 1 (vp, vo)))
theorem yoL_undo : yOk yL_undo 2 := by decide +kernel
set_option maxHeartbeats 4000000 in
set_option maxRecDepth 100000 in
theorem met_L_undo (l : Launch) (g : JG) (pa : Nat → Nat) (o0 : Nat) (vp : Pc) (vo : Nat → Int64) (post : Int32 → Pc × (Nat → Int64) → Prop) (hf : wp_L_undo vp vo post) : MetE l yL_undo wsL_undo ({ frames := 8, cells := 1, slots := 6, locals := 144 } : Room) [.ref (pa 0), .ref o0] g ((PcB g pa vp ++ [ALW g o0 1 vo]).flatten) mkI post (fun u : Pc × (Nat → Int64) => ((PcB g pa u.1 ++ [ALW g o0 1 u.2]).flatten)) := by
  have hl_20 : Cond.classLink RL 20 XS ∈ wsL_undo := by decide +kernel
  refine enterE (own := RL) (cc := cL_undo) (nL := 3) (ret := (some .int)) (hh := [(0, 8, 11, 20)]) (lv := [(0, .ref (pa 0)), (1, .ref o0)]) (by decide) rfl rfl (Nat.le_of_ble_eq_true rfl) rfl (fun X hX hW hE hT hR => ?_)
  unfold wp_L_undo at hf
  refine j_aload_n (pc' := 1) hX dL_undo_0 rfl 1 rfl rfl ?_
  refine j_iconst (pc' := 2) (v := 0) hX dL_undo_1 (by decide) rfl ?_
  refine j_aload_n (pc' := 3) hX dL_undo_2 rfl 0 rfl rfl ?_
  refine j_callVXb (ci := 4) (nb := 13) (pc' := 6) (k' := 1) (n' := 6) (As := []) (rest := [.int 0, .ref o0]) (stk := fun r => .int r :: [.int 0, .ref o0]) (bs := (PcB g pa vp ++ [ALW g o0 1 vo])) (cs := (PcB g pa vp)) (rs := [ALW g o0 1 vo]) (ws' := fun u => ((PcB g pa u ++ [ALW g o0 1 vo]).flatten)) (bs' := fun u => (PcB g pa u ++ [ALW g o0 1 vo])) (d1 := fun u => (PcB g pa u)) hX hW hE (fun l => met_X4_undo l g pa vp _ _ hf) rfl gL_undo_X4_undo yoX4_undo rfl ⟨Nat.le_of_ble_eq_true rfl, Nat.le_of_ble_eq_true rfl⟩ ⟨Nat.le_of_ble_eq_true rfl, Nat.le_of_ble_eq_true rfl, Nat.le_of_ble_eq_true rfl, Nat.le_of_ble_eq_true rfl⟩ 0 rfl rfl [12, 0, 1, 2, 3, 4, 5, 6, 7, 8, 9, 10, 11] rfl rfl rfl (by decide) rfl (fun _ => rfl) (fun _ => rfl) (fun _ => rfl) (fun _ => rfl) (Nat.le_of_ble_eq_true rfl) rfl (fun _ => rfl) dL_undo_3 rfl (fun E hf => ?_) (fun r u hf => ?_)
  · obtain ⟨rfl, hf⟩ := hf
    refine j_catch (h := 11) hX hE hT [] ⟨0, 8, 11, 20⟩ [] rfl (fun _ _ _ _ hz => absurd hz List.not_mem_nil) (by decide) (by decide) hl_20 (fun _ _ h => h.2.2.2.2.2.1.2.2) rfl (fun q => ?_)
    refine j_astore_n (pc' := 12) (lv' := [(2, .ref q), (0, .ref (pa 0)), (1, .ref o0)]) hX dL_undo_11 rfl (by decide) rfl rfl ?_
    refine j_iconst (pc' := 13) (v := 1) hX dL_undo_12 (by decide) rfl ?_
    exact j_iret hX hR dL_undo_13 ⟨_, (vp, vo), rfl, hf, rfl⟩
  · refine j_i2l (pc' := 7) hX dL_undo_6 rfl ?_
    refine j_last (P := True) (pc' := 8) (ws' := ((PcB g pa u ++ [ALW g o0 1 (vp_updL vo (0 : Int32).toNatClampNeg r.toInt64)]).flatten)) hX hW 47 rfl dL_undo_7 ⟨by unfold vp_in; decide, trivial⟩ rfl rfl (fun _ => ?_)
    refine j_goto (tgt := 14) hX dL_undo_8 (by decide) ?_
    refine j_iconst (pc' := 15) (v := 0) hX dL_undo_14 (by decide) rfl ?_
    exact j_iret hX hR dL_undo_15 ⟨_, (u, vp_updL vo (0 : Int32).toNatClampNeg r.toInt64), rfl, hf, rfl⟩
def wp_L_course (vp : Pc) (vo : Nat → Int64) (p1 : Int32) (p2 : Int32) (post : Int32 → Pc × (Nat → Int64) → Prop) : Prop :=
  wp_X4_course vp p1 p2 (fun r => post 0 (vp, vp_updL vo (0 : Int32).toNatClampNeg r.toInt64)) (fun E => (E = XI ∧ post 1 (vp, vo)) ∨ (E = XA ∧ post 2 (vp, vo)))
theorem yoL_course : yOk yL_course 4 := by decide +kernel
set_option maxHeartbeats 4000000 in
set_option maxRecDepth 100000 in
theorem met_L_course (l : Launch) (g : JG) (pa : Nat → Nat) (o0 : Nat) (vp : Pc) (vo : Nat → Int64) (p1 : Int32) (p2 : Int32) (post : Int32 → Pc × (Nat → Int64) → Prop) (hf : wp_L_course vp vo p1 p2 post) : MetE l yL_course wsL_course ({ frames := 9, cells := 2, slots := 12, locals := 152 } : Room) [.ref (pa 0), .int p1, .int p2, .ref o0] g ((PcB g pa vp ++ [ALW g o0 1 vo]).flatten) mkI post (fun u : Pc × (Nat → Int64) => ((PcB g pa u.1 ++ [ALW g o0 1 u.2]).flatten)) := by
  have hl_18 : Cond.classLink RL 18 XI ∈ wsL_course := by decide +kernel
  have hl_13 : Cond.classLink RL 13 XA ∈ wsL_course := by decide +kernel
  refine enterE (own := RL) (cc := cL_course) (nL := 5) (ret := (some .int)) (hh := [(0, 10, 13, 18), (0, 10, 17, 13)]) (lv := [(0, .ref (pa 0)), (1, .int p1), (2, .int p2), (3, .ref o0)]) (by decide) rfl rfl (Nat.le_of_ble_eq_true rfl) rfl (fun X hX hW hE hT hR => ?_)
  unfold wp_L_course at hf
  refine j_aload_n (pc' := 1) hX dL_course_0 rfl 3 rfl rfl ?_
  refine j_iconst (pc' := 2) (v := 0) hX dL_course_1 (by decide) rfl ?_
  refine j_aload_n (pc' := 3) hX dL_course_2 rfl 0 rfl rfl ?_
  refine j_iload_n (pc' := 4) hX dL_course_3 rfl 1 rfl rfl ?_
  refine j_iload_n (pc' := 5) hX dL_course_4 rfl 2 rfl rfl ?_
  refine j_callVXb (ci := 4) (nb := 13) (pc' := 8) (k' := 2) (n' := 12) (As := [.int p1, .int p2]) (rest := [.int 0, .ref o0]) (stk := fun r => .int r :: [.int 0, .ref o0]) (bs := (PcB g pa vp ++ [ALW g o0 1 vo])) (cs := (PcB g pa vp)) (rs := [ALW g o0 1 vo]) (ws' := fun _ => ((PcB g pa vp ++ [ALW g o0 1 vo]).flatten)) (bs' := fun _ => (PcB g pa vp ++ [ALW g o0 1 vo])) (d1 := fun _ => (PcB g pa vp)) hX hW hE (fun l => met_X4_course l g pa vp p1 p2 _ _ hf) rfl gL_course_X4_course yoX4_course rfl ⟨Nat.le_of_ble_eq_true rfl, Nat.le_of_ble_eq_true rfl⟩ ⟨Nat.le_of_ble_eq_true rfl, Nat.le_of_ble_eq_true rfl, Nat.le_of_ble_eq_true rfl, Nat.le_of_ble_eq_true rfl⟩ 0 rfl rfl [12, 0, 1, 2, 3, 4, 5, 6, 7, 8, 9, 10, 11] rfl rfl rfl (by decide) rfl (fun _ => rfl) (fun _ => rfl) (fun _ => rfl) (fun _ => rfl) (Nat.le_of_ble_eq_true rfl) rfl (fun _ => rfl) dL_course_5 rfl (fun E hf => ?_) (fun r _ hf => ?_)
  · rcases hf with ⟨rfl, hf⟩ | ⟨rfl, hf⟩
    · refine j_catch (h := 13) hX hE hT [] ⟨0, 10, 13, 18⟩ [⟨0, 10, 17, 13⟩] rfl (fun _ _ _ _ hz => absurd hz List.not_mem_nil) (by decide) (by decide) hl_18 (fun _ _ h => h.2.2.2.2.2.1.1) rfl (fun q => ?_)
      refine j_astore (pc' := 15) (lv' := [(4, .ref q), (0, .ref (pa 0)), (1, .int p1), (2, .int p2), (3, .ref o0)]) hX dL_course_13 (by decide) rfl rfl ?_
      refine j_iconst (pc' := 16) (v := 1) hX dL_course_15 (by decide) rfl ?_
      exact j_iret hX hR dL_course_16 ⟨_, (vp, vo), rfl, hf, rfl⟩
    · refine j_catch (h := 17) hX hE hT [⟨0, 10, 13, 18⟩] ⟨0, 10, 17, 13⟩ [] rfl (fun _ _ h z hz => by
        rcases List.mem_singleton.mp hz with rfl
        exact ⟨by decide, XI, hl_18, h.2.2.2.2.2.2.1.2.2.1⟩) (by decide) (by decide) hl_13 (fun _ _ h => h.2.2.2.2.2.1.2.1) rfl (fun q => ?_)
      refine j_astore (pc' := 19) (lv' := [(4, .ref q), (0, .ref (pa 0)), (1, .int p1), (2, .int p2), (3, .ref o0)]) hX dL_course_17 (by decide) rfl rfl ?_
      refine j_iconst (pc' := 20) (v := 2) hX dL_course_19 (by decide) rfl ?_
      exact j_iret hX hR dL_course_20 ⟨_, (vp, vo), rfl, hf, rfl⟩
  · refine j_i2l (pc' := 9) hX dL_course_8 rfl ?_
    refine j_last (P := True) (pc' := 10) (ws' := ((PcB g pa vp ++ [ALW g o0 1 (vp_updL vo (0 : Int32).toNatClampNeg r.toInt64)]).flatten)) hX hW 47 rfl dL_course_9 ⟨by unfold vp_in; decide, trivial⟩ rfl rfl (fun _ => ?_)
    refine j_goto (tgt := 21) hX dL_course_10 (by decide) ?_
    refine j_iconst (pc' := 22) (v := 0) hX dL_course_21 (by decide) rfl ?_
    exact j_iret hX hR dL_course_22 ⟨_, (vp, vp_updL vo (0 : Int32).toNatClampNeg r.toInt64), rfl, hf, rfl⟩
def wp_L_cell (vp : Pc) (vo : Nat → Int64) (p1 : Int32) (p2 : Int32) (p3 : Int32) (post : Int32 → Pc × (Nat → Int64) → Prop) : Prop :=
  wp_X4_cell vp p1 p2 p3 (fun r => post 0 (vp, vp_updL vo (0 : Int32).toNatClampNeg r.toInt64)) (fun E => (E = XI ∧ post 1 (vp, vo)) ∨ (E = XA ∧ post 2 (vp, vo)))
theorem yoL_cell : yOk yL_cell 5 := by decide +kernel
set_option maxHeartbeats 4000000 in
set_option maxRecDepth 100000 in
theorem met_L_cell (l : Launch) (g : JG) (pa : Nat → Nat) (o0 : Nat) (vp : Pc) (vo : Nat → Int64) (p1 : Int32) (p2 : Int32) (p3 : Int32) (post : Int32 → Pc × (Nat → Int64) → Prop) (hf : wp_L_cell vp vo p1 p2 p3 post) : MetE l yL_cell wsL_cell ({ frames := 9, cells := 3, slots := 18, locals := 153 } : Room) [.ref (pa 0), .int p1, .int p2, .int p3, .ref o0] g ((PcB g pa vp ++ [ALW g o0 1 vo]).flatten) mkI post (fun u : Pc × (Nat → Int64) => ((PcB g pa u.1 ++ [ALW g o0 1 u.2]).flatten)) := by
  have hl_18 : Cond.classLink RL 18 XI ∈ wsL_cell := by decide +kernel
  have hl_13 : Cond.classLink RL 13 XA ∈ wsL_cell := by decide +kernel
  refine enterE (own := RL) (cc := cL_cell) (nL := 6) (ret := (some .int)) (hh := [(0, 12, 15, 18), (0, 12, 19, 13)]) (lv := [(0, .ref (pa 0)), (1, .int p1), (2, .int p2), (3, .int p3), (4, .ref o0)]) (by decide) rfl rfl (Nat.le_of_ble_eq_true rfl) rfl (fun X hX hW hE hT hR => ?_)
  unfold wp_L_cell at hf
  refine j_aload (pc' := 2) hX dL_cell_0 4 rfl rfl ?_
  refine j_iconst (pc' := 3) (v := 0) hX dL_cell_2 (by decide) rfl ?_
  refine j_aload_n (pc' := 4) hX dL_cell_3 rfl 0 rfl rfl ?_
  refine j_iload_n (pc' := 5) hX dL_cell_4 rfl 1 rfl rfl ?_
  refine j_iload_n (pc' := 6) hX dL_cell_5 rfl 2 rfl rfl ?_
  refine j_iload_n (pc' := 7) hX dL_cell_6 rfl 3 rfl rfl ?_
  refine j_callVXb (ci := 4) (nb := 13) (pc' := 10) (k' := 3) (n' := 18) (As := [.int p1, .int p2, .int p3]) (rest := [.int 0, .ref o0]) (stk := fun r => .int r :: [.int 0, .ref o0]) (bs := (PcB g pa vp ++ [ALW g o0 1 vo])) (cs := (PcB g pa vp)) (rs := [ALW g o0 1 vo]) (ws' := fun _ => ((PcB g pa vp ++ [ALW g o0 1 vo]).flatten)) (bs' := fun _ => (PcB g pa vp ++ [ALW g o0 1 vo])) (d1 := fun _ => (PcB g pa vp)) hX hW hE (fun l => met_X4_cell l g pa vp p1 p2 p3 _ _ hf) rfl gL_cell_X4_cell yoX4_cell rfl ⟨Nat.le_of_ble_eq_true rfl, Nat.le_of_ble_eq_true rfl⟩ ⟨Nat.le_of_ble_eq_true rfl, Nat.le_of_ble_eq_true rfl, Nat.le_of_ble_eq_true rfl, Nat.le_of_ble_eq_true rfl⟩ 0 rfl rfl [12, 0, 1, 2, 3, 4, 5, 6, 7, 8, 9, 10, 11] rfl rfl rfl (by decide) rfl (fun _ => rfl) (fun _ => rfl) (fun _ => rfl) (fun _ => rfl) (Nat.le_of_ble_eq_true rfl) rfl (fun _ => rfl) dL_cell_7 rfl (fun E hf => ?_) (fun r _ hf => ?_)
  · rcases hf with ⟨rfl, hf⟩ | ⟨rfl, hf⟩
    · refine j_catch (h := 15) hX hE hT [] ⟨0, 12, 15, 18⟩ [⟨0, 12, 19, 13⟩] rfl (fun _ _ _ _ hz => absurd hz List.not_mem_nil) (by decide) (by decide) hl_18 (fun _ _ h => h.2.2.2.2.2.1.1) rfl (fun q => ?_)
      refine j_astore (pc' := 17) (lv' := [(5, .ref q), (0, .ref (pa 0)), (1, .int p1), (2, .int p2), (3, .int p3), (4, .ref o0)]) hX dL_cell_15 (by decide) rfl rfl ?_
      refine j_iconst (pc' := 18) (v := 1) hX dL_cell_17 (by decide) rfl ?_
      exact j_iret hX hR dL_cell_18 ⟨_, (vp, vo), rfl, hf, rfl⟩
    · refine j_catch (h := 19) hX hE hT [⟨0, 12, 15, 18⟩] ⟨0, 12, 19, 13⟩ [] rfl (fun _ _ h z hz => by
        rcases List.mem_singleton.mp hz with rfl
        exact ⟨by decide, XI, hl_18, h.2.2.2.2.2.2.1.2.2.1⟩) (by decide) (by decide) hl_13 (fun _ _ h => h.2.2.2.2.2.1.2.1) rfl (fun q => ?_)
      refine j_astore (pc' := 21) (lv' := [(5, .ref q), (0, .ref (pa 0)), (1, .int p1), (2, .int p2), (3, .int p3), (4, .ref o0)]) hX dL_cell_19 (by decide) rfl rfl ?_
      refine j_iconst (pc' := 22) (v := 2) hX dL_cell_21 (by decide) rfl ?_
      exact j_iret hX hR dL_cell_22 ⟨_, (vp, vo), rfl, hf, rfl⟩
  · refine j_i2l (pc' := 11) hX dL_cell_10 rfl ?_
    refine j_last (P := True) (pc' := 12) (ws' := ((PcB g pa vp ++ [ALW g o0 1 (vp_updL vo (0 : Int32).toNatClampNeg r.toInt64)]).flatten)) hX hW 47 rfl dL_cell_11 ⟨by unfold vp_in; decide, trivial⟩ rfl rfl (fun _ => ?_)
    refine j_goto (tgt := 23) hX dL_cell_12 (by decide) ?_
    refine j_iconst (pc' := 24) (v := 0) hX dL_cell_23 (by decide) rfl ?_
    exact j_iret hX hR dL_cell_24 ⟨_, (vp, vp_updL vo (0 : Int32).toNatClampNeg r.toInt64), rfl, hf, rfl⟩
def wp_L_refusal (vp : Pc) (vo : Nat → Int64) (p1 : Int32) (p2 : Int32) (p3 : Int32) (post : Int32 → Pc × (Nat → Int64) → Prop) : Prop :=
  wp_X4_refusal vp p1 p2 p3 (fun r => post 0 (vp, vp_updL vo (0 : Int32).toNatClampNeg r.toInt64)) (fun E => (E = XI ∧ post 1 (vp, vo)) ∨ (E = XA ∧ post 2 (vp, vo)))
theorem yoL_refusal : yOk yL_refusal 5 := by decide +kernel
set_option maxHeartbeats 4000000 in
set_option maxRecDepth 100000 in
theorem met_L_refusal (l : Launch) (g : JG) (pa : Nat → Nat) (o0 : Nat) (vp : Pc) (vo : Nat → Int64) (p1 : Int32) (p2 : Int32) (p3 : Int32) (post : Int32 → Pc × (Nat → Int64) → Prop) (hf : wp_L_refusal vp vo p1 p2 p3 post) : MetE l yL_refusal wsL_refusal ({ frames := 9, cells := 2, slots := 12, locals := 153 } : Room) [.ref (pa 0), .int p1, .int p2, .int p3, .ref o0] g ((PcB g pa vp ++ [ALW g o0 1 vo]).flatten) mkI post (fun u : Pc × (Nat → Int64) => ((PcB g pa u.1 ++ [ALW g o0 1 u.2]).flatten)) := by
  have hl_18 : Cond.classLink RL 18 XI ∈ wsL_refusal := by decide +kernel
  have hl_13 : Cond.classLink RL 13 XA ∈ wsL_refusal := by decide +kernel
  refine enterE (own := RL) (cc := cL_refusal) (nL := 6) (ret := (some .int)) (hh := [(0, 12, 15, 18), (0, 12, 19, 13)]) (lv := [(0, .ref (pa 0)), (1, .int p1), (2, .int p2), (3, .int p3), (4, .ref o0)]) (by decide) rfl rfl (Nat.le_of_ble_eq_true rfl) rfl (fun X hX hW hE hT hR => ?_)
  unfold wp_L_refusal at hf
  refine j_aload (pc' := 2) hX dL_refusal_0 4 rfl rfl ?_
  refine j_iconst (pc' := 3) (v := 0) hX dL_refusal_2 (by decide) rfl ?_
  refine j_aload_n (pc' := 4) hX dL_refusal_3 rfl 0 rfl rfl ?_
  refine j_iload_n (pc' := 5) hX dL_refusal_4 rfl 1 rfl rfl ?_
  refine j_iload_n (pc' := 6) hX dL_refusal_5 rfl 2 rfl rfl ?_
  refine j_iload_n (pc' := 7) hX dL_refusal_6 rfl 3 rfl rfl ?_
  refine j_callVXb (ci := 4) (nb := 13) (pc' := 10) (k' := 2) (n' := 12) (As := [.int p1, .int p2, .int p3]) (rest := [.int 0, .ref o0]) (stk := fun r => .int r :: [.int 0, .ref o0]) (bs := (PcB g pa vp ++ [ALW g o0 1 vo])) (cs := (PcB g pa vp)) (rs := [ALW g o0 1 vo]) (ws' := fun _ => ((PcB g pa vp ++ [ALW g o0 1 vo]).flatten)) (bs' := fun _ => (PcB g pa vp ++ [ALW g o0 1 vo])) (d1 := fun _ => (PcB g pa vp)) hX hW hE (fun l => met_X4_refusal l g pa vp p1 p2 p3 _ _ hf) rfl gL_refusal_X4_refusal yoX4_refusal rfl ⟨Nat.le_of_ble_eq_true rfl, Nat.le_of_ble_eq_true rfl⟩ ⟨Nat.le_of_ble_eq_true rfl, Nat.le_of_ble_eq_true rfl, Nat.le_of_ble_eq_true rfl, Nat.le_of_ble_eq_true rfl⟩ 0 rfl rfl [12, 0, 1, 2, 3, 4, 5, 6, 7, 8, 9, 10, 11] rfl rfl rfl (by decide) rfl (fun _ => rfl) (fun _ => rfl) (fun _ => rfl) (fun _ => rfl) (Nat.le_of_ble_eq_true rfl) rfl (fun _ => rfl) dL_refusal_7 rfl (fun E hf => ?_) (fun r _ hf => ?_)
  · rcases hf with ⟨rfl, hf⟩ | ⟨rfl, hf⟩
    · refine j_catch (h := 15) hX hE hT [] ⟨0, 12, 15, 18⟩ [⟨0, 12, 19, 13⟩] rfl (fun _ _ _ _ hz => absurd hz List.not_mem_nil) (by decide) (by decide) hl_18 (fun _ _ h => h.2.2.2.2.2.1.1) rfl (fun q => ?_)
      refine j_astore (pc' := 17) (lv' := [(5, .ref q), (0, .ref (pa 0)), (1, .int p1), (2, .int p2), (3, .int p3), (4, .ref o0)]) hX dL_refusal_15 (by decide) rfl rfl ?_
      refine j_iconst (pc' := 18) (v := 1) hX dL_refusal_17 (by decide) rfl ?_
      exact j_iret hX hR dL_refusal_18 ⟨_, (vp, vo), rfl, hf, rfl⟩
    · refine j_catch (h := 19) hX hE hT [⟨0, 12, 15, 18⟩] ⟨0, 12, 19, 13⟩ [] rfl (fun _ _ h z hz => by
        rcases List.mem_singleton.mp hz with rfl
        exact ⟨by decide, XI, hl_18, h.2.2.2.2.2.2.1.2.2.1⟩) (by decide) (by decide) hl_13 (fun _ _ h => h.2.2.2.2.2.1.2.1) rfl (fun q => ?_)
      refine j_astore (pc' := 21) (lv' := [(5, .ref q), (0, .ref (pa 0)), (1, .int p1), (2, .int p2), (3, .int p3), (4, .ref o0)]) hX dL_refusal_19 (by decide) rfl rfl ?_
      refine j_iconst (pc' := 22) (v := 2) hX dL_refusal_21 (by decide) rfl ?_
      exact j_iret hX hR dL_refusal_22 ⟨_, (vp, vo), rfl, hf, rfl⟩
  · refine j_i2l (pc' := 11) hX dL_refusal_10 rfl ?_
    refine j_last (P := True) (pc' := 12) (ws' := ((PcB g pa vp ++ [ALW g o0 1 (vp_updL vo (0 : Int32).toNatClampNeg r.toInt64)]).flatten)) hX hW 47 rfl dL_refusal_11 ⟨by unfold vp_in; decide, trivial⟩ rfl rfl (fun _ => ?_)
    refine j_goto (tgt := 23) hX dL_refusal_12 (by decide) ?_
    refine j_iconst (pc' := 24) (v := 0) hX dL_refusal_23 (by decide) rfl ?_
    exact j_iret hX hR dL_refusal_24 ⟨_, (vp, vp_updL vo (0 : Int32).toNatClampNeg r.toInt64), rfl, hf, rfl⟩
def wp_L_stockOf (vp : Pc) (vo : Nat → Int64) (p1 : Int32) (post : Int32 → Pc × (Nat → Int64) → Prop) : Prop :=
  wp_X4_stockOf vp p1 (fun r => post 0 (vp, vp_updL vo (0 : Int32).toNatClampNeg r.toInt64)) (fun E => (E = XA ∧ post 1 (vp, vo)))
theorem yoL_stockOf : yOk yL_stockOf 3 := by decide +kernel
set_option maxHeartbeats 4000000 in
set_option maxRecDepth 100000 in
theorem met_L_stockOf (l : Launch) (g : JG) (pa : Nat → Nat) (o0 : Nat) (vp : Pc) (vo : Nat → Int64) (p1 : Int32) (post : Int32 → Pc × (Nat → Int64) → Prop) (hf : wp_L_stockOf vp vo p1 post) : MetE l yL_stockOf wsL_stockOf ({ frames := 9, cells := 1, slots := 6, locals := 151 } : Room) [.ref (pa 0), .int p1, .ref o0] g ((PcB g pa vp ++ [ALW g o0 1 vo]).flatten) mkI post (fun u : Pc × (Nat → Int64) => ((PcB g pa u.1 ++ [ALW g o0 1 u.2]).flatten)) := by
  have hl_13 : Cond.classLink RL 13 XA ∈ wsL_stockOf := by decide +kernel
  refine enterE (own := RL) (cc := cL_stockOf) (nL := 4) (ret := (some .int)) (hh := [(0, 9, 12, 13)]) (lv := [(0, .ref (pa 0)), (1, .int p1), (2, .ref o0)]) (by decide) rfl rfl (Nat.le_of_ble_eq_true rfl) rfl (fun X hX hW hE hT hR => ?_)
  unfold wp_L_stockOf at hf
  refine j_aload_n (pc' := 1) hX dL_stockOf_0 rfl 2 rfl rfl ?_
  refine j_iconst (pc' := 2) (v := 0) hX dL_stockOf_1 (by decide) rfl ?_
  refine j_aload_n (pc' := 3) hX dL_stockOf_2 rfl 0 rfl rfl ?_
  refine j_iload_n (pc' := 4) hX dL_stockOf_3 rfl 1 rfl rfl ?_
  refine j_callVXb (ci := 4) (nb := 13) (pc' := 7) (k' := 1) (n' := 6) (As := [.int p1]) (rest := [.int 0, .ref o0]) (stk := fun r => .int r :: [.int 0, .ref o0]) (bs := (PcB g pa vp ++ [ALW g o0 1 vo])) (cs := (PcB g pa vp)) (rs := [ALW g o0 1 vo]) (ws' := fun _ => ((PcB g pa vp ++ [ALW g o0 1 vo]).flatten)) (bs' := fun _ => (PcB g pa vp ++ [ALW g o0 1 vo])) (d1 := fun _ => (PcB g pa vp)) hX hW hE (fun l => met_X4_stockOf l g pa vp p1 _ _ hf) rfl gL_stockOf_X4_stockOf yoX4_stockOf rfl ⟨Nat.le_of_ble_eq_true rfl, Nat.le_of_ble_eq_true rfl⟩ ⟨Nat.le_of_ble_eq_true rfl, Nat.le_of_ble_eq_true rfl, Nat.le_of_ble_eq_true rfl, Nat.le_of_ble_eq_true rfl⟩ 0 rfl rfl [12, 0, 1, 2, 3, 4, 5, 6, 7, 8, 9, 10, 11] rfl rfl rfl (by decide) rfl (fun _ => rfl) (fun _ => rfl) (fun _ => rfl) (fun _ => rfl) (Nat.le_of_ble_eq_true rfl) rfl (fun _ => rfl) dL_stockOf_4 rfl (fun E hf => ?_) (fun r _ hf => ?_)
  · obtain ⟨rfl, hf⟩ := hf
    refine j_catch (h := 12) hX hE hT [] ⟨0, 9, 12, 13⟩ [] rfl (fun _ _ _ _ hz => absurd hz List.not_mem_nil) (by decide) (by decide) hl_13 (fun _ _ h => h.2.2.2.2.2.1.2.1) rfl (fun q => ?_)
    refine j_astore_n (pc' := 13) (lv' := [(3, .ref q), (0, .ref (pa 0)), (1, .int p1), (2, .ref o0)]) hX dL_stockOf_12 rfl (by decide) rfl rfl ?_
    refine j_iconst (pc' := 14) (v := 1) hX dL_stockOf_13 (by decide) rfl ?_
    exact j_iret hX hR dL_stockOf_14 ⟨_, (vp, vo), rfl, hf, rfl⟩
  · refine j_i2l (pc' := 8) hX dL_stockOf_7 rfl ?_
    refine j_last (P := True) (pc' := 9) (ws' := ((PcB g pa vp ++ [ALW g o0 1 (vp_updL vo (0 : Int32).toNatClampNeg r.toInt64)]).flatten)) hX hW 47 rfl dL_stockOf_8 ⟨by unfold vp_in; decide, trivial⟩ rfl rfl (fun _ => ?_)
    refine j_goto (tgt := 15) hX dL_stockOf_9 (by decide) ?_
    refine j_iconst (pc' := 16) (v := 0) hX dL_stockOf_15 (by decide) rfl ?_
    exact j_iret hX hR dL_stockOf_16 ⟨_, (vp, vp_updL vo (0 : Int32).toNatClampNeg r.toInt64), rfl, hf, rfl⟩
def wp_L_count (vp : Pc) (vo : Nat → Int64) (p1 : Int32) (post : Int32 → Pc × (Nat → Int64) → Prop) : Prop :=
  wp_X4_count vp p1 (fun r => post 0 (vp, vp_updL vo (0 : Int32).toNatClampNeg r.toInt64)) (fun E => (E = XA ∧ post 1 (vp, vo)))
theorem yoL_count : yOk yL_count 3 := by decide +kernel
set_option maxHeartbeats 4000000 in
set_option maxRecDepth 100000 in
theorem met_L_count (l : Launch) (g : JG) (pa : Nat → Nat) (o0 : Nat) (vp : Pc) (vo : Nat → Int64) (p1 : Int32) (post : Int32 → Pc × (Nat → Int64) → Prop) (hf : wp_L_count vp vo p1 post) : MetE l yL_count wsL_count ({ frames := 8, cells := 1, slots := 6, locals := 132 } : Room) [.ref (pa 0), .int p1, .ref o0] g ((PcB g pa vp ++ [ALW g o0 1 vo]).flatten) mkI post (fun u : Pc × (Nat → Int64) => ((PcB g pa u.1 ++ [ALW g o0 1 u.2]).flatten)) := by
  have hl_13 : Cond.classLink RL 13 XA ∈ wsL_count := by decide +kernel
  refine enterE (own := RL) (cc := cL_count) (nL := 4) (ret := (some .int)) (hh := [(0, 9, 12, 13)]) (lv := [(0, .ref (pa 0)), (1, .int p1), (2, .ref o0)]) (by decide) rfl rfl (Nat.le_of_ble_eq_true rfl) rfl (fun X hX hW hE hT hR => ?_)
  unfold wp_L_count at hf
  refine j_aload_n (pc' := 1) hX dL_count_0 rfl 2 rfl rfl ?_
  refine j_iconst (pc' := 2) (v := 0) hX dL_count_1 (by decide) rfl ?_
  refine j_aload_n (pc' := 3) hX dL_count_2 rfl 0 rfl rfl ?_
  refine j_iload_n (pc' := 4) hX dL_count_3 rfl 1 rfl rfl ?_
  refine j_callVXb (ci := 4) (nb := 13) (pc' := 7) (k' := 1) (n' := 6) (As := [.int p1]) (rest := [.int 0, .ref o0]) (stk := fun r => .int r :: [.int 0, .ref o0]) (bs := (PcB g pa vp ++ [ALW g o0 1 vo])) (cs := (PcB g pa vp)) (rs := [ALW g o0 1 vo]) (ws' := fun _ => ((PcB g pa vp ++ [ALW g o0 1 vo]).flatten)) (bs' := fun _ => (PcB g pa vp ++ [ALW g o0 1 vo])) (d1 := fun _ => (PcB g pa vp)) hX hW hE (fun l => met_X4_count l g pa vp p1 _ _ hf) rfl gL_count_X4_count yoX4_count rfl ⟨Nat.le_of_ble_eq_true rfl, Nat.le_of_ble_eq_true rfl⟩ ⟨Nat.le_of_ble_eq_true rfl, Nat.le_of_ble_eq_true rfl, Nat.le_of_ble_eq_true rfl, Nat.le_of_ble_eq_true rfl⟩ 0 rfl rfl [12, 0, 1, 2, 3, 4, 5, 6, 7, 8, 9, 10, 11] rfl rfl rfl (by decide) rfl (fun _ => rfl) (fun _ => rfl) (fun _ => rfl) (fun _ => rfl) (Nat.le_of_ble_eq_true rfl) rfl (fun _ => rfl) dL_count_4 rfl (fun E hf => ?_) (fun r _ hf => ?_)
  · obtain ⟨rfl, hf⟩ := hf
    refine j_catch (h := 12) hX hE hT [] ⟨0, 9, 12, 13⟩ [] rfl (fun _ _ _ _ hz => absurd hz List.not_mem_nil) (by decide) (by decide) hl_13 (fun _ _ h => h.2.2.2.2.2.1.2.1) rfl (fun q => ?_)
    refine j_astore_n (pc' := 13) (lv' := [(3, .ref q), (0, .ref (pa 0)), (1, .int p1), (2, .ref o0)]) hX dL_count_12 rfl (by decide) rfl rfl ?_
    refine j_iconst (pc' := 14) (v := 1) hX dL_count_13 (by decide) rfl ?_
    exact j_iret hX hR dL_count_14 ⟨_, (vp, vo), rfl, hf, rfl⟩
  · refine j_i2l (pc' := 8) hX dL_count_7 rfl ?_
    refine j_last (P := True) (pc' := 9) (ws' := ((PcB g pa vp ++ [ALW g o0 1 (vp_updL vo (0 : Int32).toNatClampNeg r.toInt64)]).flatten)) hX hW 47 rfl dL_count_8 ⟨by unfold vp_in; decide, trivial⟩ rfl rfl (fun _ => ?_)
    refine j_goto (tgt := 15) hX dL_count_9 (by decide) ?_
    refine j_iconst (pc' := 16) (v := 0) hX dL_count_15 (by decide) rfl ?_
    exact j_iret hX hR dL_count_16 ⟨_, (vp, vp_updL vo (0 : Int32).toNatClampNeg r.toInt64), rfl, hf, rfl⟩
def wp_L_setting (vp : Pc) (vo : Nat → Int64) (p1 : Int32) (post : Int32 → Pc × (Nat → Int64) → Prop) : Prop :=
  wp_X4_setting vp p1 (fun r => post 0 (vp, vp_updL vo (0 : Int32).toNatClampNeg r.toInt64)) (fun E => (E = XI ∧ post 1 (vp, vo)))
theorem yoL_setting : yOk yL_setting 3 := by decide +kernel
set_option maxHeartbeats 4000000 in
set_option maxRecDepth 100000 in
theorem met_L_setting (l : Launch) (g : JG) (pa : Nat → Nat) (o0 : Nat) (vp : Pc) (vo : Nat → Int64) (p1 : Int32) (post : Int32 → Pc × (Nat → Int64) → Prop) (hf : wp_L_setting vp vo p1 post) : MetE l yL_setting wsL_setting ({ frames := 9, cells := 1, slots := 6, locals := 151 } : Room) [.ref (pa 0), .int p1, .ref o0] g ((PcB g pa vp ++ [ALW g o0 1 vo]).flatten) mkI post (fun u : Pc × (Nat → Int64) => ((PcB g pa u.1 ++ [ALW g o0 1 u.2]).flatten)) := by
  have hl_18 : Cond.classLink RL 18 XI ∈ wsL_setting := by decide +kernel
  refine enterE (own := RL) (cc := cL_setting) (nL := 4) (ret := (some .int)) (hh := [(0, 9, 12, 18)]) (lv := [(0, .ref (pa 0)), (1, .int p1), (2, .ref o0)]) (by decide) rfl rfl (Nat.le_of_ble_eq_true rfl) rfl (fun X hX hW hE hT hR => ?_)
  unfold wp_L_setting at hf
  refine j_aload_n (pc' := 1) hX dL_setting_0 rfl 2 rfl rfl ?_
  refine j_iconst (pc' := 2) (v := 0) hX dL_setting_1 (by decide) rfl ?_
  refine j_aload_n (pc' := 3) hX dL_setting_2 rfl 0 rfl rfl ?_
  refine j_iload_n (pc' := 4) hX dL_setting_3 rfl 1 rfl rfl ?_
  refine j_callVXb (ci := 4) (nb := 13) (pc' := 7) (k' := 1) (n' := 6) (As := [.int p1]) (rest := [.int 0, .ref o0]) (stk := fun r => .int r :: [.int 0, .ref o0]) (bs := (PcB g pa vp ++ [ALW g o0 1 vo])) (cs := (PcB g pa vp)) (rs := [ALW g o0 1 vo]) (ws' := fun _ => ((PcB g pa vp ++ [ALW g o0 1 vo]).flatten)) (bs' := fun _ => (PcB g pa vp ++ [ALW g o0 1 vo])) (d1 := fun _ => (PcB g pa vp)) hX hW hE (fun l => met_X4_setting l g pa vp p1 _ _ hf) rfl gL_setting_X4_setting yoX4_setting rfl ⟨Nat.le_of_ble_eq_true rfl, Nat.le_of_ble_eq_true rfl⟩ ⟨Nat.le_of_ble_eq_true rfl, Nat.le_of_ble_eq_true rfl, Nat.le_of_ble_eq_true rfl, Nat.le_of_ble_eq_true rfl⟩ 0 rfl rfl [12, 0, 1, 2, 3, 4, 5, 6, 7, 8, 9, 10, 11] rfl rfl rfl (by decide) rfl (fun _ => rfl) (fun _ => rfl) (fun _ => rfl) (fun _ => rfl) (Nat.le_of_ble_eq_true rfl) rfl (fun _ => rfl) dL_setting_4 rfl (fun E hf => ?_) (fun r _ hf => ?_)
  · obtain ⟨rfl, hf⟩ := hf
    refine j_catch (h := 12) hX hE hT [] ⟨0, 9, 12, 18⟩ [] rfl (fun _ _ _ _ hz => absurd hz List.not_mem_nil) (by decide) (by decide) hl_18 (fun _ _ h => h.2.2.2.2.2.1.1) rfl (fun q => ?_)
    refine j_astore_n (pc' := 13) (lv' := [(3, .ref q), (0, .ref (pa 0)), (1, .int p1), (2, .ref o0)]) hX dL_setting_12 rfl (by decide) rfl rfl ?_
    refine j_iconst (pc' := 14) (v := 1) hX dL_setting_13 (by decide) rfl ?_
    exact j_iret hX hR dL_setting_14 ⟨_, (vp, vo), rfl, hf, rfl⟩
  · refine j_i2l (pc' := 8) hX dL_setting_7 rfl ?_
    refine j_last (P := True) (pc' := 9) (ws' := ((PcB g pa vp ++ [ALW g o0 1 (vp_updL vo (0 : Int32).toNatClampNeg r.toInt64)]).flatten)) hX hW 47 rfl dL_setting_8 ⟨by unfold vp_in; decide, trivial⟩ rfl rfl (fun _ => ?_)
    refine j_goto (tgt := 15) hX dL_setting_9 (by decide) ?_
    refine j_iconst (pc' := 16) (v := 0) hX dL_setting_15 (by decide) rfl ?_
    exact j_iret hX hR dL_setting_16 ⟨_, (vp, vp_updL vo (0 : Int32).toNatClampNeg r.toInt64), rfl, hf, rfl⟩
def wp_L_fewest (vp : Pc) (vo : Nat → Int64) (p1 : Int32) (post : Int32 → Pc × (Nat → Int64) → Prop) : Prop :=
  wp_X4_fewest vp p1 (fun r u => post 0 (u, vp_updL vo (0 : Int32).toNatClampNeg r.toInt64)) (fun E => (E = XI ∧ post 1 (vp, vo)))
theorem yoL_fewest : yOk yL_fewest 3 := by decide +kernel
set_option maxHeartbeats 4000000 in
set_option maxRecDepth 100000 in
theorem met_L_fewest (l : Launch) (g : JG) (pa : Nat → Nat) (o0 : Nat) (vp : Pc) (vo : Nat → Int64) (p1 : Int32) (post : Int32 → Pc × (Nat → Int64) → Prop) (hf : wp_L_fewest vp vo p1 post) : MetE l yL_fewest wsL_fewest ({ frames := 9, cells := 1, slots := 6, locals := 151 } : Room) [.ref (pa 0), .int p1, .ref o0] g ((PcB g pa vp ++ [ALW g o0 1 vo]).flatten) mkI post (fun u : Pc × (Nat → Int64) => ((PcB g pa u.1 ++ [ALW g o0 1 u.2]).flatten)) := by
  have hl_18 : Cond.classLink RL 18 XI ∈ wsL_fewest := by decide +kernel
  refine enterE (own := RL) (cc := cL_fewest) (nL := 4) (ret := (some .int)) (hh := [(0, 9, 12, 18)]) (lv := [(0, .ref (pa 0)), (1, .int p1), (2, .ref o0)]) (by decide) rfl rfl (Nat.le_of_ble_eq_true rfl) rfl (fun X hX hW hE hT hR => ?_)
  unfold wp_L_fewest at hf
  refine j_aload_n (pc' := 1) hX dL_fewest_0 rfl 2 rfl rfl ?_
  refine j_iconst (pc' := 2) (v := 0) hX dL_fewest_1 (by decide) rfl ?_
  refine j_aload_n (pc' := 3) hX dL_fewest_2 rfl 0 rfl rfl ?_
  refine j_iload_n (pc' := 4) hX dL_fewest_3 rfl 1 rfl rfl ?_
  refine j_callVXb (ci := 4) (nb := 13) (pc' := 7) (k' := 1) (n' := 6) (As := [.int p1]) (rest := [.int 0, .ref o0]) (stk := fun r => .int r :: [.int 0, .ref o0]) (bs := (PcB g pa vp ++ [ALW g o0 1 vo])) (cs := (PcB g pa vp)) (rs := [ALW g o0 1 vo]) (ws' := fun u => ((PcB g pa u ++ [ALW g o0 1 vo]).flatten)) (bs' := fun u => (PcB g pa u ++ [ALW g o0 1 vo])) (d1 := fun u => (PcB g pa u)) hX hW hE (fun l => met_X4_fewest l g pa vp p1 _ _ hf) rfl gL_fewest_X4_fewest yoX4_fewest rfl ⟨Nat.le_of_ble_eq_true rfl, Nat.le_of_ble_eq_true rfl⟩ ⟨Nat.le_of_ble_eq_true rfl, Nat.le_of_ble_eq_true rfl, Nat.le_of_ble_eq_true rfl, Nat.le_of_ble_eq_true rfl⟩ 0 rfl rfl [12, 0, 1, 2, 3, 4, 5, 6, 7, 8, 9, 10, 11] rfl rfl rfl (by decide) rfl (fun _ => rfl) (fun _ => rfl) (fun _ => rfl) (fun _ => rfl) (Nat.le_of_ble_eq_true rfl) rfl (fun _ => rfl) dL_fewest_4 rfl (fun E hf => ?_) (fun r u hf => ?_)
  · obtain ⟨rfl, hf⟩ := hf
    refine j_catch (h := 12) hX hE hT [] ⟨0, 9, 12, 18⟩ [] rfl (fun _ _ _ _ hz => absurd hz List.not_mem_nil) (by decide) (by decide) hl_18 (fun _ _ h => h.2.2.2.2.2.1.1) rfl (fun q => ?_)
    refine j_astore_n (pc' := 13) (lv' := [(3, .ref q), (0, .ref (pa 0)), (1, .int p1), (2, .ref o0)]) hX dL_fewest_12 rfl (by decide) rfl rfl ?_
    refine j_iconst (pc' := 14) (v := 1) hX dL_fewest_13 (by decide) rfl ?_
    exact j_iret hX hR dL_fewest_14 ⟨_, (vp, vo), rfl, hf, rfl⟩
  · refine j_i2l (pc' := 8) hX dL_fewest_7 rfl ?_
    refine j_last (P := True) (pc' := 9) (ws' := ((PcB g pa u ++ [ALW g o0 1 (vp_updL vo (0 : Int32).toNatClampNeg r.toInt64)]).flatten)) hX hW 47 rfl dL_fewest_8 ⟨by unfold vp_in; decide, trivial⟩ rfl rfl (fun _ => ?_)
    refine j_goto (tgt := 15) hX dL_fewest_9 (by decide) ?_
    refine j_iconst (pc' := 16) (v := 0) hX dL_fewest_15 (by decide) rfl ?_
    exact j_iret hX hR dL_fewest_16 ⟨_, (u, vp_updL vo (0 : Int32).toNatClampNeg r.toInt64), rfl, hf, rfl⟩
def wp_L_nextSize (vp : Pc) (vo : Nat → Int64) (p1 : Int32) (post : Int32 → Pc × (Nat → Int64) → Prop) : Prop :=
  wp_X4_nextSize vp p1 (fun r u => post 0 (u, vp_updL vo (0 : Int32).toNatClampNeg r.toInt64)) (fun E => (E = XI ∧ post 1 (vp, vo)))
theorem yoL_nextSize : yOk yL_nextSize 3 := by decide +kernel
set_option maxHeartbeats 4000000 in
set_option maxRecDepth 100000 in
theorem met_L_nextSize (l : Launch) (g : JG) (pa : Nat → Nat) (o0 : Nat) (vp : Pc) (vo : Nat → Int64) (p1 : Int32) (post : Int32 → Pc × (Nat → Int64) → Prop) (hf : wp_L_nextSize vp vo p1 post) : MetE l yL_nextSize wsL_nextSize ({ frames := 9, cells := 1, slots := 6, locals := 151 } : Room) [.ref (pa 0), .int p1, .ref o0] g ((PcB g pa vp ++ [ALW g o0 1 vo]).flatten) mkI post (fun u : Pc × (Nat → Int64) => ((PcB g pa u.1 ++ [ALW g o0 1 u.2]).flatten)) := by
  have hl_18 : Cond.classLink RL 18 XI ∈ wsL_nextSize := by decide +kernel
  refine enterE (own := RL) (cc := cL_nextSize) (nL := 4) (ret := (some .int)) (hh := [(0, 9, 12, 18)]) (lv := [(0, .ref (pa 0)), (1, .int p1), (2, .ref o0)]) (by decide) rfl rfl (Nat.le_of_ble_eq_true rfl) rfl (fun X hX hW hE hT hR => ?_)
  unfold wp_L_nextSize at hf
  refine j_aload_n (pc' := 1) hX dL_nextSize_0 rfl 2 rfl rfl ?_
  refine j_iconst (pc' := 2) (v := 0) hX dL_nextSize_1 (by decide) rfl ?_
  refine j_aload_n (pc' := 3) hX dL_nextSize_2 rfl 0 rfl rfl ?_
  refine j_iload_n (pc' := 4) hX dL_nextSize_3 rfl 1 rfl rfl ?_
  refine j_callVXb (ci := 4) (nb := 13) (pc' := 7) (k' := 1) (n' := 6) (As := [.int p1]) (rest := [.int 0, .ref o0]) (stk := fun r => .int r :: [.int 0, .ref o0]) (bs := (PcB g pa vp ++ [ALW g o0 1 vo])) (cs := (PcB g pa vp)) (rs := [ALW g o0 1 vo]) (ws' := fun u => ((PcB g pa u ++ [ALW g o0 1 vo]).flatten)) (bs' := fun u => (PcB g pa u ++ [ALW g o0 1 vo])) (d1 := fun u => (PcB g pa u)) hX hW hE (fun l => met_X4_nextSize l g pa vp p1 _ _ hf) rfl gL_nextSize_X4_nextSize yoX4_nextSize rfl ⟨Nat.le_of_ble_eq_true rfl, Nat.le_of_ble_eq_true rfl⟩ ⟨Nat.le_of_ble_eq_true rfl, Nat.le_of_ble_eq_true rfl, Nat.le_of_ble_eq_true rfl, Nat.le_of_ble_eq_true rfl⟩ 0 rfl rfl [12, 0, 1, 2, 3, 4, 5, 6, 7, 8, 9, 10, 11] rfl rfl rfl (by decide) rfl (fun _ => rfl) (fun _ => rfl) (fun _ => rfl) (fun _ => rfl) (Nat.le_of_ble_eq_true rfl) rfl (fun _ => rfl) dL_nextSize_4 rfl (fun E hf => ?_) (fun r u hf => ?_)
  · obtain ⟨rfl, hf⟩ := hf
    refine j_catch (h := 12) hX hE hT [] ⟨0, 9, 12, 18⟩ [] rfl (fun _ _ _ _ hz => absurd hz List.not_mem_nil) (by decide) (by decide) hl_18 (fun _ _ h => h.2.2.2.2.2.1.1) rfl (fun q => ?_)
    refine j_astore_n (pc' := 13) (lv' := [(3, .ref q), (0, .ref (pa 0)), (1, .int p1), (2, .ref o0)]) hX dL_nextSize_12 rfl (by decide) rfl rfl ?_
    refine j_iconst (pc' := 14) (v := 1) hX dL_nextSize_13 (by decide) rfl ?_
    exact j_iret hX hR dL_nextSize_14 ⟨_, (vp, vo), rfl, hf, rfl⟩
  · refine j_i2l (pc' := 8) hX dL_nextSize_7 rfl ?_
    refine j_last (P := True) (pc' := 9) (ws' := ((PcB g pa u ++ [ALW g o0 1 (vp_updL vo (0 : Int32).toNatClampNeg r.toInt64)]).flatten)) hX hW 47 rfl dL_nextSize_8 ⟨by unfold vp_in; decide, trivial⟩ rfl rfl (fun _ => ?_)
    refine j_goto (tgt := 15) hX dL_nextSize_9 (by decide) ?_
    refine j_iconst (pc' := 16) (v := 0) hX dL_nextSize_15 (by decide) rfl ?_
    exact j_iret hX hR dL_nextSize_16 ⟨_, (u, vp_updL vo (0 : Int32).toNatClampNeg r.toInt64), rfl, hf, rfl⟩
def wp_L_ifFilled (vp : Pc) (vo : Nat → Int64) (p1 : Int32) (p2 : Int32) (p3 : Int32) (post : Int32 → Pc × (Nat → Int64) → Prop) : Prop :=
  wp_X4_ifFilled vp p1 p2 p3 (fun r u => post 0 (u, vp_updL vo (0 : Int32).toNatClampNeg r.toInt64)) (fun E => (E = XI ∧ post 1 (vp, vo)) ∨ (E = XA ∧ post 2 (vp, vo)))
theorem yoL_ifFilled : yOk yL_ifFilled 5 := by decide +kernel
set_option maxHeartbeats 4000000 in
set_option maxRecDepth 100000 in
theorem met_L_ifFilled (l : Launch) (g : JG) (pa : Nat → Nat) (o0 : Nat) (vp : Pc) (vo : Nat → Int64) (p1 : Int32) (p2 : Int32) (p3 : Int32) (post : Int32 → Pc × (Nat → Int64) → Prop) (hf : wp_L_ifFilled vp vo p1 p2 p3 post) : MetE l yL_ifFilled wsL_ifFilled ({ frames := 9, cells := 3, slots := 18, locals := 154 } : Room) [.ref (pa 0), .int p1, .int p2, .int p3, .ref o0] g ((PcB g pa vp ++ [ALW g o0 1 vo]).flatten) mkI post (fun u : Pc × (Nat → Int64) => ((PcB g pa u.1 ++ [ALW g o0 1 u.2]).flatten)) := by
  have hl_18 : Cond.classLink RL 18 XI ∈ wsL_ifFilled := by decide +kernel
  have hl_13 : Cond.classLink RL 13 XA ∈ wsL_ifFilled := by decide +kernel
  refine enterE (own := RL) (cc := cL_ifFilled) (nL := 6) (ret := (some .int)) (hh := [(0, 12, 15, 18), (0, 12, 19, 13)]) (lv := [(0, .ref (pa 0)), (1, .int p1), (2, .int p2), (3, .int p3), (4, .ref o0)]) (by decide) rfl rfl (Nat.le_of_ble_eq_true rfl) rfl (fun X hX hW hE hT hR => ?_)
  unfold wp_L_ifFilled at hf
  refine j_aload (pc' := 2) hX dL_ifFilled_0 4 rfl rfl ?_
  refine j_iconst (pc' := 3) (v := 0) hX dL_ifFilled_2 (by decide) rfl ?_
  refine j_aload_n (pc' := 4) hX dL_ifFilled_3 rfl 0 rfl rfl ?_
  refine j_iload_n (pc' := 5) hX dL_ifFilled_4 rfl 1 rfl rfl ?_
  refine j_iload_n (pc' := 6) hX dL_ifFilled_5 rfl 2 rfl rfl ?_
  refine j_iload_n (pc' := 7) hX dL_ifFilled_6 rfl 3 rfl rfl ?_
  refine j_callVXb (ci := 4) (nb := 13) (pc' := 10) (k' := 3) (n' := 18) (As := [.int p1, .int p2, .int p3]) (rest := [.int 0, .ref o0]) (stk := fun r => .int r :: [.int 0, .ref o0]) (bs := (PcB g pa vp ++ [ALW g o0 1 vo])) (cs := (PcB g pa vp)) (rs := [ALW g o0 1 vo]) (ws' := fun u => ((PcB g pa u ++ [ALW g o0 1 vo]).flatten)) (bs' := fun u => (PcB g pa u ++ [ALW g o0 1 vo])) (d1 := fun u => (PcB g pa u)) hX hW hE (fun l => met_X4_ifFilled l g pa vp p1 p2 p3 _ _ hf) rfl gL_ifFilled_X4_ifFilled yoX4_ifFilled rfl ⟨Nat.le_of_ble_eq_true rfl, Nat.le_of_ble_eq_true rfl⟩ ⟨Nat.le_of_ble_eq_true rfl, Nat.le_of_ble_eq_true rfl, Nat.le_of_ble_eq_true rfl, Nat.le_of_ble_eq_true rfl⟩ 0 rfl rfl [12, 0, 1, 2, 3, 4, 5, 6, 7, 8, 9, 10, 11] rfl rfl rfl (by decide) rfl (fun _ => rfl) (fun _ => rfl) (fun _ => rfl) (fun _ => rfl) (Nat.le_of_ble_eq_true rfl) rfl (fun _ => rfl) dL_ifFilled_7 rfl (fun E hf => ?_) (fun r u hf => ?_)
  · rcases hf with ⟨rfl, hf⟩ | ⟨rfl, hf⟩
    · refine j_catch (h := 15) hX hE hT [] ⟨0, 12, 15, 18⟩ [⟨0, 12, 19, 13⟩] rfl (fun _ _ _ _ hz => absurd hz List.not_mem_nil) (by decide) (by decide) hl_18 (fun _ _ h => h.2.2.2.2.2.1.1) rfl (fun q => ?_)
      refine j_astore (pc' := 17) (lv' := [(5, .ref q), (0, .ref (pa 0)), (1, .int p1), (2, .int p2), (3, .int p3), (4, .ref o0)]) hX dL_ifFilled_15 (by decide) rfl rfl ?_
      refine j_iconst (pc' := 18) (v := 1) hX dL_ifFilled_17 (by decide) rfl ?_
      exact j_iret hX hR dL_ifFilled_18 ⟨_, (vp, vo), rfl, hf, rfl⟩
    · refine j_catch (h := 19) hX hE hT [⟨0, 12, 15, 18⟩] ⟨0, 12, 19, 13⟩ [] rfl (fun _ _ h z hz => by
        rcases List.mem_singleton.mp hz with rfl
        exact ⟨by decide, XI, hl_18, h.2.2.2.2.2.2.1.2.2.1⟩) (by decide) (by decide) hl_13 (fun _ _ h => h.2.2.2.2.2.1.2.1) rfl (fun q => ?_)
      refine j_astore (pc' := 21) (lv' := [(5, .ref q), (0, .ref (pa 0)), (1, .int p1), (2, .int p2), (3, .int p3), (4, .ref o0)]) hX dL_ifFilled_19 (by decide) rfl rfl ?_
      refine j_iconst (pc' := 22) (v := 2) hX dL_ifFilled_21 (by decide) rfl ?_
      exact j_iret hX hR dL_ifFilled_22 ⟨_, (vp, vo), rfl, hf, rfl⟩
  · refine j_i2l (pc' := 11) hX dL_ifFilled_10 rfl ?_
    refine j_last (P := True) (pc' := 12) (ws' := ((PcB g pa u ++ [ALW g o0 1 (vp_updL vo (0 : Int32).toNatClampNeg r.toInt64)]).flatten)) hX hW 47 rfl dL_ifFilled_11 ⟨by unfold vp_in; decide, trivial⟩ rfl rfl (fun _ => ?_)
    refine j_goto (tgt := 23) hX dL_ifFilled_12 (by decide) ?_
    refine j_iconst (pc' := 24) (v := 0) hX dL_ifFilled_23 (by decide) rfl ?_
    exact j_iret hX hR dL_ifFilled_24 ⟨_, (u, vp_updL vo (0 : Int32).toNatClampNeg r.toInt64), rfl, hf, rfl⟩
