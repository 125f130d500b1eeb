theorem df_4 : ∀ j, j < 5 → defaultValue (tyX4 j) = vp_V [.null, .null, .null, .null, .null] j := fun j hj => by
  rcases (show j = 0 ∨ j = 1 ∨ j = 2 ∨ j = 3 ∨ j = 4 by omega) with rfl | rfl | rfl | rfl | rfl <;> rfl
theorem df_5 : ∀ j, j < 12 → defaultValue (tyX5 j) = vp_V [.null, .null, .null, .int 0, .null, .int 0, .int 0, .int 0, .int 0, .null, .int 0, .null] j := fun j hj => by
  rcases (show j = 0 ∨ j = 1 ∨ j = 2 ∨ j = 3 ∨ j = 4 ∨ j = 5 ∨ j = 6 ∨ j = 7 ∨ j = 8 ∨ j = 9 ∨ j = 10 ∨ j = 11 by omega) with rfl | rfl | rfl | rfl | rfl | rfl | rfl | rfl | rfl | rfl | rfl | rfl <;> rfl
set_option maxHeartbeats 4000000 in
set_option maxRecDepth 100000 in
theorem law_walk {g : JG} {X : JX} {b L : Nat} {xs : Nat → Int32} (hX : JOk g X cL_law 9 RL wsL_law room_1) (hW : JNew X) (hE : JHas X) (hJ : JHasJ X) (hScr : JScr X b L xs) (hT : ∀ (k n : Nat) (ws : va_W) (lv : List (Nat × Value)), k ≤ room_1.cells → n ≤ room_1.slots → J g X k n ws lv [.int 1] 1406) (hf : wp_law L xs 513 0 zPc zMd (fun _ => 0)) : J g X 0 0 [] [(0, .ref b)] [] 0 := by
  have hin4 : ∀ w ∈ u_ws RX4 TX4 5, w ∈ wsL_law := by decide +kernel
  have hl_8 : Cond.classLink RL 8 RX4 ∈ wsL_law := by decide +kernel
  have hn_4 : Cond.instantiable RX4 5 ∈ wsL_law := by decide +kernel
  have hi_4 : Cond.initialized RX4 ∈ wsL_law := by decide +kernel
  have hi_X4_init : Cond.initialized yX4_init.cls ∈ wsL_law := by decide +kernel
  have hm_X4_init : Cond.instanceMethod yX4_init ∈ wsL_law := by decide +kernel
  have hl_74 : Cond.methodLink RL 74 yX4_init ∈ wsL_law := by decide +kernel
  have hin5 : ∀ w ∈ u_ws RX5 TX5 12, w ∈ wsL_law := by decide +kernel
  have hl_75 : Cond.classLink RL 75 RX5 ∈ wsL_law := by decide +kernel
  have hn_5 : Cond.instantiable RX5 12 ∈ wsL_law := by decide +kernel
  have hi_5 : Cond.initialized RX5 ∈ wsL_law := by decide +kernel
  have hi_X5_init : Cond.initialized yX5_init.cls ∈ wsL_law := by decide +kernel
  have hm_X5_init : Cond.instanceMethod yX5_init ∈ wsL_law := by decide +kernel
  have hl_77 : Cond.methodLink RL 77 yX5_init ∈ wsL_law := by decide +kernel
  have ha_long : Cond.arrayClass .long ∈ wsL_law := by decide +kernel
  refine J_ws (ws' := (([] : List va_W).flatten)) rfl ?_
  refine j_new (ci := 4) (ty := tyX4) (fs := [.null, .null, .null, .null, .null]) (k' := 1) (n' := 5) (pc' := 3) (ws' := fun q0 => (([[(q0, .inr (4, [.null, .null, .null, .null, .null]))]] : List va_W).flatten)) hX hW hin4 tyX4_ok rfl hl_8 hn_4 hi_4 df_4 ⟨rfl, rfl, Nat.le_of_ble_eq_true rfl, Nat.le_of_ble_eq_true rfl⟩ dL_law_0 (fun _ => rfl) rfl (fun q0 => ?_)
  refine j_dup (pc' := 4) hX dL_law_3 rfl rfl ?_
  refine j_callIC (nb := 1) (k' := 47) (n' := 3228) (pc' := 7) (As := []) (rest := [.ref q0]) (ws' := fun u1 => (([((PcB g (fun i => if i = 0 then q0 else u1 i) zPc).flatten)] : List va_W).flatten)) (bs := ([[(q0, .inr (4, [.null, .null, .null, .null, .null]))]] : List va_W)) (cs := [[(q0, .inr (4, [.null, .null, .null, .null, .null]))]]) (rs := ([] : List va_W)) (bs' := fun u1 => ([((PcB g (fun i => if i = 0 then q0 else u1 i) zPc).flatten)] : List va_W)) (d1 := fun u1 => [((PcB g (fun i => if i = 0 then q0 else u1 i) zPc).flatten)]) hX hW hJ (fun l => met_X4_init l g q0) rfl gL_law_X4_init hi_X4_init hm_X4_init rfl hl_74 yoX4_init rfl ⟨Nat.le_of_ble_eq_true rfl, Nat.le_of_ble_eq_true rfl⟩ ⟨Nat.le_of_ble_eq_true rfl, Nat.le_of_ble_eq_true rfl, Nat.le_of_ble_eq_true rfl, Nat.le_of_ble_eq_true rfl⟩ [0] rfl (List.flatten_singleton).symm rfl (by decide) rfl (fun _ => rfl) (fun _ => (List.flatten_singleton).symm) (fun _ => rfl) (fun _ => rfl) (Nat.le_of_ble_eq_true rfl) rfl dL_law_4 rfl (fun u1 => ?_)
  refine j_astore_n (pc' := 8) (lv' := [(1, .ref q0), (0, .ref b)]) hX dL_law_7 rfl (by decide) rfl rfl ?_
  refine j_new (ci := 5) (ty := tyX5) (fs := [.null, .null, .null, .int 0, .null, .int 0, .int 0, .int 0, .int 0, .null, .int 0, .null]) (k' := 48) (n' := 3240) (pc' := 11) (ws' := fun q2 => (([((PcB g (fun i => if i = 0 then q0 else u1 i) zPc).flatten), [(q2, .inr (5, [.null, .null, .null, .int 0, .null, .int 0, .int 0, .int 0, .int 0, .null, .int 0, .null]))]] : List va_W).flatten)) hX hW hin5 tyX5_ok rfl hl_75 hn_5 hi_5 df_5 ⟨rfl, rfl, Nat.le_of_ble_eq_true rfl, Nat.le_of_ble_eq_true rfl⟩ dL_law_8 (fun _ => rfl) rfl (fun q2 => ?_)
  refine j_dup (pc' := 12) hX dL_law_11 rfl rfl ?_
  refine j_callIC (nb := 2) (k' := 54) (n' := 6549) (pc' := 15) (As := []) (rest := [.ref q2]) (ws' := fun u3 => (([((PcB g (fun i => if i = 0 then q0 else u1 i) zPc).flatten), MdW g q2 u3.1 u3.2.1 u3.2.2.1 u3.2.2.2.1 u3.2.2.2.2.1 u3.2.2.2.2.2 zMd] : List va_W).flatten)) (bs := ([((PcB g (fun i => if i = 0 then q0 else u1 i) zPc).flatten), [(q2, .inr (5, [.null, .null, .null, .int 0, .null, .int 0, .int 0, .int 0, .int 0, .null, .int 0, .null]))]] : List va_W)) (cs := [[(q2, .inr (5, [.null, .null, .null, .int 0, .null, .int 0, .int 0, .int 0, .int 0, .null, .int 0, .null]))]]) (rs := ([((PcB g (fun i => if i = 0 then q0 else u1 i) zPc).flatten)] : List va_W)) (bs' := fun u3 => ([((PcB g (fun i => if i = 0 then q0 else u1 i) zPc).flatten), MdW g q2 u3.1 u3.2.1 u3.2.2.1 u3.2.2.2.1 u3.2.2.2.2.1 u3.2.2.2.2.2 zMd] : List va_W)) (d1 := fun u3 => [MdW g q2 u3.1 u3.2.1 u3.2.2.1 u3.2.2.2.1 u3.2.2.2.2.1 u3.2.2.2.2.2 zMd]) hX hW hJ (fun l => met_X5_init l g q2) rfl gL_law_X5_init hi_X5_init hm_X5_init rfl hl_77 yoX5_init rfl ⟨Nat.le_of_ble_eq_true rfl, Nat.le_of_ble_eq_true rfl⟩ ⟨Nat.le_of_ble_eq_true rfl, Nat.le_of_ble_eq_true rfl, Nat.le_of_ble_eq_true rfl, Nat.le_of_ble_eq_true rfl⟩ [0, 1] rfl (List.flatten_singleton).symm rfl (by decide) rfl (fun _ => rfl) (fun _ => (List.flatten_singleton).symm) (fun _ => rfl) (fun _ => rfl) (Nat.le_of_ble_eq_true rfl) rfl dL_law_12 rfl (fun u3 => ?_)
  refine j_astore_n (pc' := 16) (lv' := [(2, .ref q2), (1, .ref q0), (0, .ref b)]) hX dL_law_15 rfl (by decide) rfl rfl ?_
  refine j_iconst (pc' := 17) (v := 1) hX dL_law_16 (by decide) rfl ?_
  refine j_newl (k' := 55) (n' := 6550) (pc' := 19) (ws' := fun q4 => (([((PcB g (fun i => if i = 0 then q0 else u1 i) zPc).flatten), MdW g q2 u3.1 u3.2.1 u3.2.2.1 u3.2.2.2.1 u3.2.2.2.2.1 u3.2.2.2.2.2 zMd, [(q4, .inl (g.2 2, 1, .inr (.inl (fun _ => 0))))]] : List va_W).flatten)) hX hW ha_long ⟨by decide, by decide, by decide⟩ ⟨rfl, rfl, Nat.le_of_ble_eq_true rfl, Nat.le_of_ble_eq_true rfl⟩ dL_law_17 (fun _ => rfl) rfl (fun q4 => ?_)
  refine j_astore_n (pc' := 20) (lv' := [(3, .ref q4), (2, .ref q2), (1, .ref q0), (0, .ref b)]) hX dL_law_19 rfl (by decide) rfl rfl ?_
  refine j_iconst (pc' := 21) (v := 0) hX dL_law_20 (by decide) rfl ?_
  refine j_istore (pc' := 23) (lv' := [(4, .int 0), (3, .ref q4), (2, .ref q2), (1, .ref q0), (0, .ref b)]) hX dL_law_21 (by decide) rfl rfl ?_
  have h := law_loop (pa := (fun i => if i = 0 then q0 else u1 i)) (d0 := q2) (d1 := u3.1) (d2 := u3.2.1) (d3 := u3.2.2.1) (d4 := u3.2.2.2.1) (d5 := u3.2.2.2.2.1) (d6 := u3.2.2.2.2.2) (o0 := q4) hX hW hE hScr hT 513 0 zPc zMd (fun _ => 0) 55 6550 hf (Nat.le_of_ble_eq_true rfl) (Nat.le_of_ble_eq_true rfl)
  refine J_sub (lv' := [(0, .ref b), (1, .ref q0), (2, .ref q2), (3, .ref q4), (4, .int 0)]) [4, 3, 2, 1, 0] rfl ?_
  refine J_ws (ws' := ((PcB g (fun i => if i = 0 then q0 else u1 i) zPc ++ [(MdW g q2 u3.1 u3.2.1 u3.2.2.1 u3.2.2.2.1 u3.2.2.2.2.1 u3.2.2.2.2.2 zMd)] ++ [(ALW g q4 1 (fun _ => 0))]).flatten)) ?_ h
  simp only [List.flatten_append, List.flatten_cons, List.flatten_nil, List.append_nil, List.append_assoc]
  rfl
