/-! THE LAW'S LOOP, in the form J. -/
def JScr (X : JX) (b L : Nat) (xs : Nat → Int32) : Prop := match X with | (_, _, _, _, s, _, _, _, _, _, _, A, _, _) => va_X b L xs s s.heap ∧ b < s.heap.size ∧ ¬ A b
theorem j_slen {g : JG} {X : JX} {cc : ByteArray} {nL : Nat} {own : String} {Ts : List Cond} {rm : Room} {k n pc pc' b L : Nat} {xs : Nat → Int32} {ws : va_W} {lv : List (Nat × Value)} {st : List Value} (hX : JOk g X cc nL own Ts rm) (hS : JScr X b L xs) (hd : decode cc pc = .ok (.arraylength, 1)) (hp : pc + 1 = pc') (kk : J g X k n ws lv (.int (nI L) :: st) pc') : J g X k n ws lv (.ref b :: st) pc := by
  obtain ⟨p, l, e, R, s, m, args, below, meth, c, Q, A, D, nL0⟩ := X
  subst hp
  exact fun H locs ls hP hD hS1 hl => va_slen hX.1 hX.2.1 hS.1 hS.2.1 hS.2.2 hS1 hd (kk H locs ls hP hD hS1 hl)
theorem j_sld {g : JG} {X : JX} {cc : ByteArray} {nL : Nat} {own : String} {Ts : List Cond} {rm : Room} {k n pc pc' b L : Nat} {xs : Nat → Int32} {ws : va_W} {lv : List (Nat × Value)} {st : List Value} (hX : JOk g X cc nL own Ts rm) (hS : JScr X b L xs) {i : Int32} {P : Prop} (hd : decode cc pc = .ok (.iaload, 1)) (hf : vp_in i L ∧ P) (hp : pc + 1 = pc') (kk : P → J g X k n ws lv (.int (xs i.toNatClampNeg) :: st) pc') : J g X k n ws lv (.int i :: .ref b :: st) pc := by
  obtain ⟨p, l, e, R, s, m, args, below, meth, c, Q, A, D, nL0⟩ := X
  subst hp
  exact fun H locs ls hP hD hS1 hl => va_sld hX.1 hX.2.1 hS.1 hS.2.1 hS.2.2 hS1 hf.1 hd (kk hf.2 H locs ls hP hD hS1 hl)
def wp_law (L : Nat) (xs : Nat → Int32) : Nat → Int32 → Pc → Md → (Nat → Int64) → Prop
  | 0, _, _, _, _ => False
  | N + 1, i, vp, vd, vo =>
  ((((nI L) - 4) < i → True) ∧ (¬ ((nI L) - 4) < i → (vp_in i L ∧ ((((xs i.toNatClampNeg) &&& 31) = 0 → (vp_in (i + 1) L ∧ (vp_in (i + 2) L ∧ (wp_L_stock vp vo (xs (i + 1).toNatClampNeg) (xs (i + 2).toNatClampNeg) (fun r162 u162_1 => (vp_in (i + 1) L ∧ (vp_in (i + 2) L ∧ (wp_X5_stock vd (xs (i + 1).toNatClampNeg) (xs (i + 2).toNatClampNeg) (fun r180 u180_2 => (wp_X5_thrown u180_2 (fun r186 => ((r186 = r162 → ((r162 = 0 → (((lg_cmp ((u162_1.2) (0 : Int32).toNatClampNeg) r180.toInt64) = 0 → (wp_law L xs N) (i + 4) u162_1.1 u180_2 u162_1.2) ∧ (¬ (lg_cmp ((u162_1.2) (0 : Int32).toNatClampNeg) r180.toInt64) = 0 → False))) ∧ (¬ r162 = 0 → (wp_law L xs N) (i + 4) u162_1.1 u180_2 u162_1.2))) ∧ (¬ r186 = r162 → False))))))))))))) ∧ (¬ ((xs i.toNatClampNeg) &&& 31) = 0 → ((((xs i.toNatClampNeg) &&& 31) = 1 → (vp_in (i + 1) L ∧ (vp_in (i + 2) L ∧ (wp_L_lay vp vo (xs (i + 1).toNatClampNeg) (xs (i + 2).toNatClampNeg) (fun r230 u230_3 => (vp_in (i + 1) L ∧ (vp_in (i + 2) L ∧ (wp_X5_lay vd (xs (i + 1).toNatClampNeg) (xs (i + 2).toNatClampNeg) (fun r248 u248_4 => (wp_X5_thrown u248_4 (fun r254 => ((r254 = r230 → ((r230 = 0 → (((lg_cmp ((u230_3.2) (0 : Int32).toNatClampNeg) r248.toInt64) = 0 → (wp_law L xs N) (i + 4) u230_3.1 u248_4 u230_3.2) ∧ (¬ (lg_cmp ((u230_3.2) (0 : Int32).toNatClampNeg) r248.toInt64) = 0 → False))) ∧ (¬ r230 = 0 → (wp_law L xs N) (i + 4) u230_3.1 u248_4 u230_3.2))) ∧ (¬ r254 = r230 → False))))))))))))) ∧ (¬ ((xs i.toNatClampNeg) &&& 31) = 1 → ((((xs i.toNatClampNeg) &&& 31) = 2 → (vp_in (i + 1) L ∧ (vp_in (i + 2) L ∧ (wp_L_cut vp vo (xs (i + 1).toNatClampNeg) (xs (i + 2).toNatClampNeg) (fun r298 u298_5 => (vp_in (i + 1) L ∧ (vp_in (i + 2) L ∧ (wp_X5_cut vd (xs (i + 1).toNatClampNeg) (xs (i + 2).toNatClampNeg) (fun r316 u316_6 => (wp_X5_thrown u316_6 (fun r322 => ((r322 = r298 → ((r298 = 0 → (((lg_cmp ((u298_5.2) (0 : Int32).toNatClampNeg) r316.toInt64) = 0 → (wp_law L xs N) (i + 4) u298_5.1 u316_6 u298_5.2) ∧ (¬ (lg_cmp ((u298_5.2) (0 : Int32).toNatClampNeg) r316.toInt64) = 0 → False))) ∧ (¬ r298 = 0 → (wp_law L xs N) (i + 4) u298_5.1 u316_6 u298_5.2))) ∧ (¬ r322 = r298 → False))))))))))))) ∧ (¬ ((xs i.toNatClampNeg) &&& 31) = 2 → ((((xs i.toNatClampNeg) &&& 31) = 3 → (vp_in (i + 1) L ∧ (vp_in (i + 2) L ∧ (wp_L_takeUp vp vo (xs (i + 1).toNatClampNeg) (xs (i + 2).toNatClampNeg) (fun r366 u366_7 => (vp_in (i + 1) L ∧ (vp_in (i + 2) L ∧ (wp_X5_takeUp vd (xs (i + 1).toNatClampNeg) (xs (i + 2).toNatClampNeg) (fun r384 u384_8 => (wp_X5_thrown u384_8 (fun r390 => ((r390 = r366 → ((r366 = 0 → (((lg_cmp ((u366_7.2) (0 : Int32).toNatClampNeg) r384.toInt64) = 0 → (wp_law L xs N) (i + 4) u366_7.1 u384_8 u366_7.2) ∧ (¬ (lg_cmp ((u366_7.2) (0 : Int32).toNatClampNeg) r384.toInt64) = 0 → False))) ∧ (¬ r366 = 0 → (wp_law L xs N) (i + 4) u366_7.1 u384_8 u366_7.2))) ∧ (¬ r390 = r366 → False))))))))))))) ∧ (¬ ((xs i.toNatClampNeg) &&& 31) = 3 → ((((xs i.toNatClampNeg) &&& 31) = 4 → (vp_in (i + 1) L ∧ (wp_L_fill vp vo (xs (i + 1).toNatClampNeg) (fun r428 u428_9 => (vp_in (i + 1) L ∧ (wp_X5_fill vd (xs (i + 1).toNatClampNeg) (fun r440 u440_10 => (wp_X5_thrown u440_10 (fun r446 => ((r446 = r428 → ((r428 = 0 → (((lg_cmp ((u428_9.2) (0 : Int32).toNatClampNeg) r440.toInt64) = 0 → (wp_law L xs N) (i + 4) u428_9.1 u440_10 u428_9.2) ∧ (¬ (lg_cmp ((u428_9.2) (0 : Int32).toNatClampNeg) r440.toInt64) = 0 → False))) ∧ (¬ r428 = 0 → (wp_law L xs N) (i + 4) u428_9.1 u440_10 u428_9.2))) ∧ (¬ r446 = r428 → False))))))))))) ∧ (¬ ((xs i.toNatClampNeg) &&& 31) = 4 → ((((xs i.toNatClampNeg) &&& 31) = 5 → (wp_X4_fillAll vp (fun r477 u477_11 => (wp_X5_fillAll vd (fun r481 u481_12 => ((r477 = r481 → (wp_law L xs N) (i + 4) u477_11 u481_12 vo) ∧ (¬ r477 = r481 → False))))))) ∧ (¬ ((xs i.toNatClampNeg) &&& 31) = 5 → ((((xs i.toNatClampNeg) &&& 31) = 6 → (vp_in (i + 1) L ∧ (vp_in (i + 2) L ∧ (wp_L_set vp vo (xs (i + 1).toNatClampNeg) (xs (i + 2).toNatClampNeg) (fun r503 u503_13 => (vp_in (i + 1) L ∧ (vp_in (i + 2) L ∧ (wp_X5_set vd (xs (i + 1).toNatClampNeg) (xs (i + 2).toNatClampNeg) (fun r521 u521_14 => (wp_X5_thrown u521_14 (fun r527 => ((r527 = r503 → ((r503 = 0 → (((lg_cmp ((u503_13.2) (0 : Int32).toNatClampNeg) r521.toInt64) = 0 → (wp_law L xs N) (i + 4) u503_13.1 u521_14 u503_13.2) ∧ (¬ (lg_cmp ((u503_13.2) (0 : Int32).toNatClampNeg) r521.toInt64) = 0 → False))) ∧ (¬ r503 = 0 → (wp_law L xs N) (i + 4) u503_13.1 u521_14 u503_13.2))) ∧ (¬ r527 = r503 → False))))))))))))) ∧ (¬ ((xs i.toNatClampNeg) &&& 31) = 6 → ((((xs i.toNatClampNeg) &&& 31) = 7 → (vp_in (i + 1) L ∧ (wp_L_append vp vo (xs (i + 1).toNatClampNeg) (fun r565 u565_15 => (vp_in (i + 1) L ∧ (wp_X5_append vd (xs (i + 1).toNatClampNeg) (fun r577 u577_16 => (wp_X5_thrown u577_16 (fun r583 => ((r583 = r565 → ((r565 = 0 → (((lg_cmp ((u565_15.2) (0 : Int32).toNatClampNeg) r577.toInt64) = 0 → (wp_law L xs N) (i + 4) u565_15.1 u577_16 u565_15.2) ∧ (¬ (lg_cmp ((u565_15.2) (0 : Int32).toNatClampNeg) r577.toInt64) = 0 → False))) ∧ (¬ r565 = 0 → (wp_law L xs N) (i + 4) u565_15.1 u577_16 u565_15.2))) ∧ (¬ r583 = r565 → False))))))))))) ∧ (¬ ((xs i.toNatClampNeg) &&& 31) = 7 → ((((xs i.toNatClampNeg) &&& 31) = 8 → (wp_X4_clearBuffer vp (fun r614 u614_17 => (wp_X5_clearBuffer vd (fun r618 u618_18 => ((r614 = r618 → (wp_law L xs N) (i + 4) u614_17 u618_18 vo) ∧ (¬ r614 = r618 → False))))))) ∧ (¬ ((xs i.toNatClampNeg) &&& 31) = 8 → ((((xs i.toNatClampNeg) &&& 31) = 9 → (wp_X4_firstError vp (fun r627 => (wp_X5_firstError vd (fun r631 u631_19 => ((r627 = r631 → (wp_law L xs N) (i + 4) vp u631_19 vo) ∧ (¬ r627 = r631 → False))))))) ∧ (¬ ((xs i.toNatClampNeg) &&& 31) = 9 → ((((xs i.toNatClampNeg) &&& 31) = 10 → (wp_L_layAll vp vo (fun r641 u641_20 => (wp_X5_layAll vd (fun r647 u647_21 => (wp_X5_thrown u647_21 (fun r653 => ((r653 = r641 → ((r641 = 0 → (((lg_cmp ((u641_20.2) (0 : Int32).toNatClampNeg) r647.toInt64) = 0 → (wp_law L xs N) (i + 4) u641_20.1 u647_21 u641_20.2) ∧ (¬ (lg_cmp ((u641_20.2) (0 : Int32).toNatClampNeg) r647.toInt64) = 0 → False))) ∧ (¬ r641 = 0 → (wp_law L xs N) (i + 4) u641_20.1 u647_21 u641_20.2))) ∧ (¬ r653 = r641 → False))))))))) ∧ (¬ ((xs i.toNatClampNeg) &&& 31) = 10 → ((((xs i.toNatClampNeg) &&& 31) = 11 → (wp_L_undo vp vo (fun r685 u685_22 => (wp_X5_undo vd (fun r691 u691_23 => (wp_X5_thrown u691_23 (fun r697 => ((r697 = r685 → ((r685 = 0 → (((lg_cmp ((u685_22.2) (0 : Int32).toNatClampNeg) r691.toInt64) = 0 → (wp_law L xs N) (i + 4) u685_22.1 u691_23 u685_22.2) ∧ (¬ (lg_cmp ((u685_22.2) (0 : Int32).toNatClampNeg) r691.toInt64) = 0 → False))) ∧ (¬ r685 = 0 → (wp_law L xs N) (i + 4) u685_22.1 u691_23 u685_22.2))) ∧ (¬ r697 = r685 → False))))))))) ∧ (¬ ((xs i.toNatClampNeg) &&& 31) = 11 → ((((xs i.toNatClampNeg) &&& 31) = 12 → (vp_in (i + 1) L ∧ (vp_in (i + 2) L ∧ (wp_L_course vp vo (xs (i + 1).toNatClampNeg) (xs (i + 2).toNatClampNeg) (fun r741 u741_24 => (vp_in (i + 1) L ∧ (vp_in (i + 2) L ∧ (wp_X5_course vd (xs (i + 1).toNatClampNeg) (xs (i + 2).toNatClampNeg) (fun r759 u759_25 => (wp_X5_thrown u759_25 (fun r765 => ((r765 = r741 → ((r741 = 0 → (((lg_cmp ((u741_24.2) (0 : Int32).toNatClampNeg) r759.toInt64) = 0 → (wp_law L xs N) (i + 4) u741_24.1 u759_25 u741_24.2) ∧ (¬ (lg_cmp ((u741_24.2) (0 : Int32).toNatClampNeg) r759.toInt64) = 0 → False))) ∧ (¬ r741 = 0 → (wp_law L xs N) (i + 4) u741_24.1 u759_25 u741_24.2))) ∧ (¬ r765 = r741 → False))))))))))))) ∧ (¬ ((xs i.toNatClampNeg) &&& 31) = 12 → ((((xs i.toNatClampNeg) &&& 31) = 13 → (vp_in (i + 1) L ∧ (vp_in (i + 2) L ∧ (vp_in (i + 3) L ∧ (wp_L_cell vp vo (xs (i + 1).toNatClampNeg) (xs (i + 2).toNatClampNeg) (xs (i + 3).toNatClampNeg) (fun r815 u815_26 => (vp_in (i + 1) L ∧ (vp_in (i + 2) L ∧ (vp_in (i + 3) L ∧ (wp_X5_cell vd (xs (i + 1).toNatClampNeg) (xs (i + 2).toNatClampNeg) (xs (i + 3).toNatClampNeg) (fun r839 u839_27 => (wp_X5_thrown u839_27 (fun r845 => ((r845 = r815 → ((r815 = 0 → (((lg_cmp ((u815_26.2) (0 : Int32).toNatClampNeg) r839.toInt64) = 0 → (wp_law L xs N) (i + 4) u815_26.1 u839_27 u815_26.2) ∧ (¬ (lg_cmp ((u815_26.2) (0 : Int32).toNatClampNeg) r839.toInt64) = 0 → False))) ∧ (¬ r815 = 0 → (wp_law L xs N) (i + 4) u815_26.1 u839_27 u815_26.2))) ∧ (¬ r845 = r815 → False))))))))))))))) ∧ (¬ ((xs i.toNatClampNeg) &&& 31) = 13 → ((((xs i.toNatClampNeg) &&& 31) = 14 → (vp_in (i + 1) L ∧ (vp_in (i + 2) L ∧ (vp_in (i + 3) L ∧ (((xs (i + 3).toNatClampNeg) = 0 → (wp_L_refusal vp vo (xs (i + 1).toNatClampNeg) (xs (i + 2).toNatClampNeg) 0 (fun r903 u903_28 => (vp_in (i + 1) L ∧ (vp_in (i + 2) L ∧ (vp_in (i + 3) L ∧ (((xs (i + 3).toNatClampNeg) = 0 → (wp_X5_refusal vd (xs (i + 1).toNatClampNeg) (xs (i + 2).toNatClampNeg) 0 (fun r935 u935_29 => (wp_X5_thrown u935_29 (fun r941 => ((r941 = r903 → ((r903 = 0 → (((lg_cmp ((u903_28.2) (0 : Int32).toNatClampNeg) r935.toInt64) = 0 → (wp_law L xs N) (i + 4) u903_28.1 u935_29 u903_28.2) ∧ (¬ (lg_cmp ((u903_28.2) (0 : Int32).toNatClampNeg) r935.toInt64) = 0 → False))) ∧ (¬ r903 = 0 → (wp_law L xs N) (i + 4) u903_28.1 u935_29 u903_28.2))) ∧ (¬ r941 = r903 → False))))))) ∧ (¬ (xs (i + 3).toNatClampNeg) = 0 → (wp_X5_refusal vd (xs (i + 1).toNatClampNeg) (xs (i + 2).toNatClampNeg) 1 (fun r935 u935_30 => (wp_X5_thrown u935_30 (fun r941 => ((r941 = r903 → ((r903 = 0 → (((lg_cmp ((u903_28.2) (0 : Int32).toNatClampNeg) r935.toInt64) = 0 → (wp_law L xs N) (i + 4) u903_28.1 u935_30 u903_28.2) ∧ (¬ (lg_cmp ((u903_28.2) (0 : Int32).toNatClampNeg) r935.toInt64) = 0 → False))) ∧ (¬ r903 = 0 → (wp_law L xs N) (i + 4) u903_28.1 u935_30 u903_28.2))) ∧ (¬ r941 = r903 → False)))))))))))))) ∧ (¬ (xs (i + 3).toNatClampNeg) = 0 → (wp_L_refusal vp vo (xs (i + 1).toNatClampNeg) (xs (i + 2).toNatClampNeg) 1 (fun r903 u903_31 => (vp_in (i + 1) L ∧ (vp_in (i + 2) L ∧ (vp_in (i + 3) L ∧ (((xs (i + 3).toNatClampNeg) = 0 → (wp_X5_refusal vd (xs (i + 1).toNatClampNeg) (xs (i + 2).toNatClampNeg) 0 (fun r935 u935_32 => (wp_X5_thrown u935_32 (fun r941 => ((r941 = r903 → ((r903 = 0 → (((lg_cmp ((u903_31.2) (0 : Int32).toNatClampNeg) r935.toInt64) = 0 → (wp_law L xs N) (i + 4) u903_31.1 u935_32 u903_31.2) ∧ (¬ (lg_cmp ((u903_31.2) (0 : Int32).toNatClampNeg) r935.toInt64) = 0 → False))) ∧ (¬ r903 = 0 → (wp_law L xs N) (i + 4) u903_31.1 u935_32 u903_31.2))) ∧ (¬ r941 = r903 → False))))))) ∧ (¬ (xs (i + 3).toNatClampNeg) = 0 → (wp_X5_refusal vd (xs (i + 1).toNatClampNeg) (xs (i + 2).toNatClampNeg) 1 (fun r935 u935_33 => (wp_X5_thrown u935_33 (fun r941 => ((r941 = r903 → ((r903 = 0 → (((lg_cmp ((u903_31.2) (0 : Int32).toNatClampNeg) r935.toInt64) = 0 → (wp_law L xs N) (i + 4) u903_31.1 u935_33 u903_31.2) ∧ (¬ (lg_cmp ((u903_31.2) (0 : Int32).toNatClampNeg) r935.toInt64) = 0 → False))) ∧ (¬ r903 = 0 → (wp_law L xs N) (i + 4) u903_31.1 u935_33 u903_31.2))) ∧ (¬ r941 = r903 → False))))))))))))))))))) ∧ (¬ ((xs i.toNatClampNeg) &&& 31) = 14 → ((((xs i.toNatClampNeg) &&& 31) = 15 → (vp_in (i + 1) L ∧ (wp_L_stockOf vp vo (xs (i + 1).toNatClampNeg) (fun r979 u979_34 => (vp_in (i + 1) L ∧ (wp_X5_stockOf vd (xs (i + 1).toNatClampNeg) (fun r991 u991_35 => (wp_X5_thrown u991_35 (fun r997 => ((r997 = r979 → ((r979 = 0 → (((lg_cmp ((u979_34.2) (0 : Int32).toNatClampNeg) r991.toInt64) = 0 → (wp_law L xs N) (i + 4) u979_34.1 u991_35 u979_34.2) ∧ (¬ (lg_cmp ((u979_34.2) (0 : Int32).toNatClampNeg) r991.toInt64) = 0 → False))) ∧ (¬ r979 = 0 → (wp_law L xs N) (i + 4) u979_34.1 u991_35 u979_34.2))) ∧ (¬ r997 = r979 → False))))))))))) ∧ (¬ ((xs i.toNatClampNeg) &&& 31) = 15 → ((((xs i.toNatClampNeg) &&& 31) = 16 → (vp_in (i + 1) L ∧ (wp_L_count vp vo (xs (i + 1).toNatClampNeg) (fun r1035 u1035_36 => (vp_in (i + 1) L ∧ (wp_X5_count vd (xs (i + 1).toNatClampNeg) (fun r1047 u1047_37 => (wp_X5_thrown u1047_37 (fun r1053 => ((r1053 = r1035 → ((r1035 = 0 → (((lg_cmp ((u1035_36.2) (0 : Int32).toNatClampNeg) r1047.toInt64) = 0 → (wp_law L xs N) (i + 4) u1035_36.1 u1047_37 u1035_36.2) ∧ (¬ (lg_cmp ((u1035_36.2) (0 : Int32).toNatClampNeg) r1047.toInt64) = 0 → False))) ∧ (¬ r1035 = 0 → (wp_law L xs N) (i + 4) u1035_36.1 u1047_37 u1035_36.2))) ∧ (¬ r1053 = r1035 → False))))))))))) ∧ (¬ ((xs i.toNatClampNeg) &&& 31) = 16 → ((((xs i.toNatClampNeg) &&& 31) = 17 → (vp_in (i + 1) L ∧ (wp_L_setting vp vo (xs (i + 1).toNatClampNeg) (fun r1091 u1091_38 => (vp_in (i + 1) L ∧ (wp_X5_setting vd (xs (i + 1).toNatClampNeg) (fun r1103 u1103_39 => (wp_X5_thrown u1103_39 (fun r1109 => ((r1109 = r1091 → ((r1091 = 0 → (((lg_cmp ((u1091_38.2) (0 : Int32).toNatClampNeg) r1103.toInt64) = 0 → (wp_law L xs N) (i + 4) u1091_38.1 u1103_39 u1091_38.2) ∧ (¬ (lg_cmp ((u1091_38.2) (0 : Int32).toNatClampNeg) r1103.toInt64) = 0 → False))) ∧ (¬ r1091 = 0 → (wp_law L xs N) (i + 4) u1091_38.1 u1103_39 u1091_38.2))) ∧ (¬ r1109 = r1091 → False))))))))))) ∧ (¬ ((xs i.toNatClampNeg) &&& 31) = 17 → ((((xs i.toNatClampNeg) &&& 31) = 18 → (vp_in (i + 1) L ∧ (wp_L_fewest vp vo (xs (i + 1).toNatClampNeg) (fun r1147 u1147_40 => (vp_in (i + 1) L ∧ (wp_X5_fewest vd (xs (i + 1).toNatClampNeg) (fun r1159 u1159_41 => (wp_X5_thrown u1159_41 (fun r1165 => ((r1165 = r1147 → ((r1147 = 0 → (((lg_cmp ((u1147_40.2) (0 : Int32).toNatClampNeg) r1159.toInt64) = 0 → (wp_law L xs N) (i + 4) u1147_40.1 u1159_41 u1147_40.2) ∧ (¬ (lg_cmp ((u1147_40.2) (0 : Int32).toNatClampNeg) r1159.toInt64) = 0 → False))) ∧ (¬ r1147 = 0 → (wp_law L xs N) (i + 4) u1147_40.1 u1159_41 u1147_40.2))) ∧ (¬ r1165 = r1147 → False))))))))))) ∧ (¬ ((xs i.toNatClampNeg) &&& 31) = 18 → ((((xs i.toNatClampNeg) &&& 31) = 19 → (vp_in (i + 1) L ∧ (wp_L_nextSize vp vo (xs (i + 1).toNatClampNeg) (fun r1203 u1203_42 => (vp_in (i + 1) L ∧ (wp_X5_nextSize vd (xs (i + 1).toNatClampNeg) (fun r1215 u1215_43 => (wp_X5_thrown u1215_43 (fun r1221 => ((r1221 = r1203 → ((r1203 = 0 → (((lg_cmp ((u1203_42.2) (0 : Int32).toNatClampNeg) r1215.toInt64) = 0 → (wp_law L xs N) (i + 4) u1203_42.1 u1215_43 u1203_42.2) ∧ (¬ (lg_cmp ((u1203_42.2) (0 : Int32).toNatClampNeg) r1215.toInt64) = 0 → False))) ∧ (¬ r1203 = 0 → (wp_law L xs N) (i + 4) u1203_42.1 u1215_43 u1203_42.2))) ∧ (¬ r1221 = r1203 → False))))))))))) ∧ (¬ ((xs i.toNatClampNeg) &&& 31) = 19 → ((((xs i.toNatClampNeg) &&& 31) = 20 → (vp_in (i + 1) L ∧ (vp_in (i + 2) L ∧ (vp_in (i + 3) L ∧ (wp_L_ifFilled vp vo (xs (i + 1).toNatClampNeg) (xs (i + 2).toNatClampNeg) (xs (i + 3).toNatClampNeg) (fun r1271 u1271_44 => (vp_in (i + 1) L ∧ (vp_in (i + 2) L ∧ (vp_in (i + 3) L ∧ (wp_X5_ifFilled vd (xs (i + 1).toNatClampNeg) (xs (i + 2).toNatClampNeg) (xs (i + 3).toNatClampNeg) (fun r1295 u1295_45 => (wp_X5_thrown u1295_45 (fun r1301 => ((r1301 = r1271 → ((r1271 = 0 → (((lg_cmp ((u1271_44.2) (0 : Int32).toNatClampNeg) r1295.toInt64) = 0 → (wp_law L xs N) (i + 4) u1271_44.1 u1295_45 u1271_44.2) ∧ (¬ (lg_cmp ((u1271_44.2) (0 : Int32).toNatClampNeg) r1295.toInt64) = 0 → False))) ∧ (¬ r1271 = 0 → (wp_law L xs N) (i + 4) u1271_44.1 u1295_45 u1271_44.2))) ∧ (¬ r1301 = r1271 → False))))))))))))))) ∧ (¬ ((xs i.toNatClampNeg) &&& 31) = 20 → ((((xs i.toNatClampNeg) &&& 31) = 21 → (wp_X4_bestRule vp (fun r1332 u1332_46 => (wp_X5_bestRule vd (fun r1336 u1336_47 => ((r1332 = r1336 → (wp_law L xs N) (i + 4) u1332_46 u1336_47 vo) ∧ (¬ r1332 = r1336 → False))))))) ∧ (¬ ((xs i.toNatClampNeg) &&& 31) = 21 → ((((xs i.toNatClampNeg) &&& 31) = 22 → (wp_X4_share vp (fun r1345 => (wp_X5_share vd (fun r1351 u1351_48 => (((Op.cmpValue (FP.dcmp r1345 r1351) CmpOp.l) = 0 → (wp_law L xs N) (i + 4) vp u1351_48 vo) ∧ (¬ (Op.cmpValue (FP.dcmp r1345 r1351) CmpOp.l) = 0 → (((Op.cmpValue (FP.dcmp r1345 r1345) CmpOp.l) = 0 → False) ∧ (¬ (Op.cmpValue (FP.dcmp r1345 r1345) CmpOp.l) = 0 → (((Op.cmpValue (FP.dcmp r1351 r1351) CmpOp.l) = 0 → False) ∧ (¬ (Op.cmpValue (FP.dcmp r1351 r1351) CmpOp.l) = 0 → (wp_law L xs N) (i + 4) vp u1351_48 vo))))))))))) ∧ (¬ ((xs i.toNatClampNeg) &&& 31) = 22 → ((((xs i.toNatClampNeg) &&& 31) = 23 → (wp_X4_digest vp (fun r1386 u1386_49 => (wp_X5_digest vd (fun r1390 u1390_50 => (((lg_cmp r1386 r1390) = 0 → (wp_law L xs N) (i + 4) u1386_49 u1390_50 vo) ∧ (¬ (lg_cmp r1386 r1390) = 0 → False))))))) ∧ (¬ ((xs i.toNatClampNeg) &&& 31) = 23 → (wp_law L xs N) (i + 4) vp vd vo)))))))))))))))))))))))))))))))))))))))))))))))))))
set_option maxHeartbeats 40000000 in
set_option maxRecDepth 100000 in
theorem law_loop {g : JG} {X : JX} {b L : Nat} {xs : Nat → Int32} {pa : Nat → Nat} {d0 d1 d2 d3 d4 d5 d6 o0 : Nat} (hX : JOk g X cL_law 9 RL wsL_law room_1) (hW : JNew X) (hE : JHas X) (hScr : JScr X b L xs) (hT : ∀ (k n : Nat) (ws : va_W) (lv : List (Nat × Value)), k ≤ room_1.cells → n ≤ room_1.slots → J g X k n ws lv [.int 1] 1406) :
    ∀ (N : Nat) (i : Int32) (vp : Pc) (vd : Md) (vo : Nat → Int64) (k n : Nat), wp_law L xs N i vp vd vo → k + 3 * N ≤ 601024 → n + 18 * N ≤ 7293034 → J g X k n ((PcB g pa vp ++ [(MdW g d0 d1 d2 d3 d4 d5 d6 vd)] ++ [(ALW g o0 1 vo)]).flatten) [(0, .ref b), (1, .ref (pa 0)), (2, .ref d0), (3, .ref o0), (4, .int i)] [] 23 := by
  intro N
  induction N with
  | zero => intro i vp vd vo k n hf; exact False.elim hf
  | succ N ih =>
    intro i vp vd vo k n hf hk hn
    have hk0 : k ≤ room_1.cells := by show _ ≤ 601024; omega
    have hn0 : n ≤ room_1.slots := by show _ ≤ 7293034; omega
    have hk1 : k + 1 ≤ room_1.cells := by show _ ≤ 601024; omega
    have hn6 : n + 6 ≤ room_1.slots := by show _ ≤ 7293034; omega
    have hk2 : k + 2 ≤ room_1.cells := by show _ ≤ 601024; omega
    have hn12 : n + 12 ≤ room_1.slots := by show _ ≤ 7293034; omega
    have hk3 : k + 3 ≤ room_1.cells := by show _ ≤ 601024; omega
    have hn18 : n + 18 ≤ room_1.slots := by show _ ≤ 7293034; omega
    refine j_iload (pc' := 25) hX dL_law_23 4 rfl rfl ?_
    refine j_aload_n (pc' := 26) hX dL_law_25 rfl 0 rfl rfl ?_
    refine j_slen (pc' := 27) hX hScr dL_law_26 rfl ?_
    refine j_iconst (pc' := 28) (v := 4) hX dL_law_27 (by decide) rfl ?_
    refine j_isub (pc' := 29) hX dL_law_28 rfl ?_
    refine j_icmp_gt (tgt := 1405) (pc' := 32) hX dL_law_29 (by decide) rfl hf (fun hf => ?_) (fun hf => ?_)
    · refine j_iconst (pc' := 1406) (v := 1) hX dL_law_1405 (by decide) rfl ?_
      exact hT _ _ _ _ hk0 hn0
    · refine j_aload_n (pc' := 33) hX dL_law_32 rfl 0 rfl rfl ?_
      refine j_iload (pc' := 35) hX dL_law_33 4 rfl rfl ?_
      refine j_sld (pc' := 36) hX hScr dL_law_35 hf rfl (fun hf => ?_)
      refine j_bipush (pc' := 38) (v := 31) hX dL_law_36 (by decide) rfl ?_
      refine j_iand (pc' := 39) hX dL_law_38 rfl ?_
      by_cases hs0 : ((xs i.toNatClampNeg) &&& 31) = 0
      · replace hf := hf.1 hs0
        refine j_tswI (tgt := 148) (cst := 0) hX dL_law_39 hs0 (by decide) (by decide) rfl (by decide) ?_
        refine j_aload_n (pc' := 149) hX dL_law_148 rfl 1 rfl rfl ?_
        refine j_aload_n (pc' := 150) hX dL_law_149 rfl 0 rfl rfl ?_
        refine j_iload (pc' := 152) hX dL_law_150 4 rfl rfl ?_
        refine j_iconst (pc' := 153) (v := 1) hX dL_law_152 (by decide) rfl ?_
        refine j_iadd (pc' := 154) hX dL_law_153 rfl ?_
        refine j_sld (pc' := 155) hX hScr dL_law_154 hf rfl (fun hf => ?_)
        refine j_aload_n (pc' := 156) hX dL_law_155 rfl 0 rfl rfl ?_
        refine j_iload (pc' := 158) hX dL_law_156 4 rfl rfl ?_
        refine j_iconst (pc' := 159) (v := 2) hX dL_law_158 (by decide) rfl ?_
        refine j_iadd (pc' := 160) hX dL_law_159 rfl ?_
        refine j_sld (pc' := 161) hX hScr dL_law_160 hf rfl (fun hf => ?_)
        refine j_aload_n (pc' := 162) hX dL_law_161 rfl 3 rfl rfl ?_
        refine j_callSEb (nb := 14) (pc' := 165) (k' := k + 2) (n' := n + 12) (As := [.ref (pa 0), .int (xs (i + 1).toNatClampNeg), .int (xs (i + 2).toNatClampNeg), .ref o0]) (rest := []) (stk := fun r162 => [.int r162]) (bs := (PcB g pa vp ++ [(MdW g d0 d1 d2 d3 d4 d5 d6 vd)] ++ [(ALW g o0 1 vo)])) (cs := (PcB g pa vp ++ [(ALW g o0 1 vo)])) (rs := (List.map (fun i : Nat => List.getD (PcB g pa vp ++ [(MdW g d0 d1 d2 d3 d4 d5 d6 vd)] ++ [(ALW g o0 1 vo)]) i []) [12])) (ws' := fun u162_1 => ((PcB g pa u162_1.1 ++ [(MdW g d0 d1 d2 d3 d4 d5 d6 vd)] ++ [(ALW g o0 1 (u162_1.2))]).flatten)) (bs' := fun u162_1 => (PcB g pa u162_1.1 ++ [(MdW g d0 d1 d2 d3 d4 d5 d6 vd)] ++ [(ALW g o0 1 (u162_1.2))])) (d1 := fun u162_1 => (PcB g pa u162_1.1 ++ [(ALW g o0 1 (u162_1.2))])) hX hW hE (fun l => met_L_stock l g pa o0 vp vo (xs (i + 1).toNatClampNeg) (xs (i + 2).toNatClampNeg) _ hf) rfl gL_law_L_stock yoL_stock rfl ⟨Nat.le_of_ble_eq_true rfl, Nat.le_of_ble_eq_true rfl⟩ ⟨Nat.le_refl _, Nat.le_refl _, hk2, hn12⟩ [12, 0, 1, 2, 3, 4, 5, 6, 7, 8, 9, 10, 11, 13] rfl rfl rfl (by decide) rfl (fun _ => rfl) (fun _ => rfl) (fun _ => rfl) (fun _ => rfl) (Nat.le_of_ble_eq_true rfl) rfl (fun _ => rfl) dL_law_162 rfl (fun r162 u162_1 hf => ?_)
        refine j_istore (pc' := 167) (lv' := [(5, .int r162), (0, .ref b), (1, .ref (pa 0)), (2, .ref d0), (3, .ref o0), (4, .int i)]) hX dL_law_165 (by decide) rfl rfl ?_
        refine j_aload_n (pc' := 168) hX dL_law_167 rfl 3 rfl rfl ?_
        refine j_aload_n (pc' := 169) hX dL_law_168 rfl 1 rfl rfl ?_
        refine j_iload (pc' := 171) hX dL_law_169 5 rfl rfl ?_
        refine j_iconst (pc' := 172) (v := 1) hX dL_law_171 (by decide) rfl ?_
        refine j_iadd (pc' := 173) hX dL_law_172 rfl ?_
        refine j_sld (pc' := 174) hX hScr dL_law_173 hf rfl (fun hf => ?_)
        refine j_aload_n (pc' := 175) hX dL_law_174 rfl 1 rfl rfl ?_
        refine j_iload (pc' := 177) hX dL_law_175 5 rfl rfl ?_
        refine j_iconst (pc' := 178) (v := 2) hX dL_law_177 (by decide) rfl ?_
        refine j_iadd (pc' := 179) hX dL_law_178 rfl ?_
        refine j_sld (pc' := 180) hX hScr dL_law_179 hf rfl (fun hf => ?_)
        refine j_callVMb (ci := 5) (nb := 14) (pc' := 183) (k' := k + 2) (n' := n + 12) (As := [.int (xs (i + 1).toNatClampNeg), .int (xs (i + 2).toNatClampNeg)]) (rest := []) (stk := fun r180 => [.int r180]) (bs := (PcB g pa u162_1.1 ++ [(MdW g d0 d1 d2 d3 d4 d5 d6 vd)] ++ [(ALW g o0 1 (u162_1.2))])) (cs := ([(MdW g d0 d1 d2 d3 d4 d5 d6 vd)])) (rs := (List.map (fun i : Nat => List.getD (PcB g pa u162_1.1 ++ [(MdW g d0 d1 d2 d3 d4 d5 d6 vd)] ++ [(ALW g o0 1 (u162_1.2))]) i []) [0, 1, 2, 3, 4, 5, 6, 7, 8, 9, 10, 11, 13])) (ws' := fun u180_2 => ((PcB g pa u162_1.1 ++ [(MdW g d0 d1 d2 d3 d4 d5 d6 u180_2)] ++ [(ALW g o0 1 (u162_1.2))]).flatten)) (bs' := fun u180_2 => (PcB g pa u162_1.1 ++ [(MdW g d0 d1 d2 d3 d4 d5 d6 u180_2)] ++ [(ALW g o0 1 (u162_1.2))])) (d1 := fun u180_2 => ([(MdW g d0 d1 d2 d3 d4 d5 d6 u180_2)])) hX hW (fun l => met_X5_stock l g d0 d1 d2 d3 d4 d5 d6 vd (xs (i + 1).toNatClampNeg) (xs (i + 2).toNatClampNeg) _ hf) rfl gL_law_X5_stock yoX5_stock rfl ⟨Nat.le_of_ble_eq_true rfl, Nat.le_of_ble_eq_true rfl⟩ ⟨Nat.le_refl _, Nat.le_refl _, hk2, hn12⟩ 0 rfl rfl [0, 1, 2, 3, 4, 5, 6, 7, 8, 9, 10, 11, 13, 12] rfl rfl rfl (by decide) rfl (fun _ => rfl) (fun _ => rfl) (fun _ => rfl) (fun _ => rfl) (Nat.le_of_ble_eq_true rfl) rfl (fun _ => rfl) dL_law_180 rfl (fun r180 u180_2 hf => ?_)
        refine j_istore (pc' := 185) (lv' := [(6, .int r180), (5, .int r162), (0, .ref b), (1, .ref (pa 0)), (2, .ref d0), (3, .ref o0), (4, .int i)]) hX dL_law_183 (by decide) rfl rfl ?_
        refine j_aload_n (pc' := 186) hX dL_law_185 rfl 4 rfl rfl ?_
        refine j_callVRb (ci := 5) (nb := 14) (pc' := 189) (As := []) (rest := []) (stk := fun r186 => [.int r186]) (bs := (PcB g pa u162_1.1 ++ [(MdW g d0 d1 d2 d3 d4 d5 d6 u180_2)] ++ [(ALW g o0 1 (u162_1.2))])) (cs := ([(MdW g d0 d1 d2 d3 d4 d5 d6 u180_2)])) (rs := (List.map (fun i : Nat => List.getD (PcB g pa u162_1.1 ++ [(MdW g d0 d1 d2 d3 d4 d5 d6 u180_2)] ++ [(ALW g o0 1 (u162_1.2))]) i []) [0, 1, 2, 3, 4, 5, 6, 7, 8, 9, 10, 11, 13])) hX (fun l => met_X5_thrown l g d0 d1 d2 d3 d4 d5 d6 u180_2 _ hf) rfl gL_law_X5_thrown yoX5_thrown rfl ⟨Nat.le_of_ble_eq_true rfl, Nat.le_of_ble_eq_true rfl⟩ ⟨⟨hk2, hn12⟩, rfl, rfl⟩ 0 rfl rfl [0, 1, 2, 3, 4, 5, 6, 7, 8, 9, 10, 11, 13, 12] rfl rfl rfl (by decide) rfl (Nat.le_of_ble_eq_true rfl) rfl (fun _ => rfl) dL_law_186 rfl (fun r186 hf => ?_)
        refine j_iload (pc' := 191) hX dL_law_189 1 rfl rfl ?_
        refine j_icmp_eq (tgt := 196) (pc' := 194) hX dL_law_191 (by decide) rfl hf (fun hf => ?_) (fun hf => ?_)
        · refine j_iload (pc' := 198) hX dL_law_196 1 rfl rfl ?_
          refine j_if_ne (tgt := 213) (pc' := 201) hX dL_law_198 (by decide) rfl hf (fun hf => ?_) (fun hf => ?_)
          · refine j_goto (tgt := 1399) hX dL_law_213 (by decide) ?_
            refine j_iinc (pc' := 1402) (cst := 4) (v := (i + 4)) (lv' := [(4, .int (i + 4)), (6, .int r180), (5, .int r162), (0, .ref b), (1, .ref (pa 0)), (2, .ref d0), (3, .ref o0)]) hX dL_law_1399 (by decide) rfl 6 rfl (by decide) rfl rfl ?_
            refine j_goto (tgt := 23) hX dL_law_1402 (by decide) ?_
            refine J_sub (lv' := [(0, .ref b), (1, .ref (pa 0)), (2, .ref d0), (3, .ref o0), (4, .int (i + 4))]) [3, 4, 5, 6, 0] rfl ?_
            exact ih (i + 4) u162_1.1 u180_2 u162_1.2 (k + 2) (n + 12) hf (by omega) (by omega)
          · refine j_aload_n (pc' := 202) hX dL_law_201 rfl 5 rfl rfl ?_
            refine j_iconst (pc' := 203) (v := 0) hX dL_law_202 (by decide) rfl ?_
            refine j_lald (pc' := 204) hX 54 rfl dL_law_203 ⟨by unfold vp_in; decide, hf⟩ rfl (fun hf => ?_)
            refine j_iload (pc' := 206) hX dL_law_204 0 rfl rfl ?_
            refine j_i2l (pc' := 207) hX dL_law_206 rfl ?_
            refine j_lcmp (pc' := 208) hX dL_law_207 rfl ?_
            refine j_if_eq (tgt := 213) (pc' := 211) hX dL_law_208 (by decide) rfl hf (fun hf => ?_) (fun hf => ?_)
            · refine j_goto (tgt := 1399) hX dL_law_213 (by decide) ?_
              refine j_iinc (pc' := 1402) (cst := 4) (v := (i + 4)) (lv' := [(4, .int (i + 4)), (6, .int r180), (5, .int r162), (0, .ref b), (1, .ref (pa 0)), (2, .ref d0), (3, .ref o0)]) hX dL_law_1399 (by decide) rfl 6 rfl (by decide) rfl rfl ?_
              refine j_goto (tgt := 23) hX dL_law_1402 (by decide) ?_
              refine J_sub (lv' := [(0, .ref b), (1, .ref (pa 0)), (2, .ref d0), (3, .ref o0), (4, .int (i + 4))]) [3, 4, 5, 6, 0] rfl ?_
              exact ih (i + 4) u162_1.1 u180_2 u162_1.2 (k + 2) (n + 12) hf (by omega) (by omega)
            · refine j_iconst (pc' := 212) (v := 0) hX dL_law_211 (by decide) rfl ?_
              exact False.elim hf
        · refine j_iconst (pc' := 195) (v := 0) hX dL_law_194 (by decide) rfl ?_
          exact False.elim hf
      · replace hf := hf.2 hs0
        by_cases hs1 : ((xs i.toNatClampNeg) &&& 31) = 1
        · replace hf := hf.1 hs1
          refine j_tswI (tgt := 216) (cst := 1) hX dL_law_39 hs1 (by decide) (by decide) rfl (by decide) ?_
          refine j_aload_n (pc' := 217) hX dL_law_216 rfl 1 rfl rfl ?_
          refine j_aload_n (pc' := 218) hX dL_law_217 rfl 0 rfl rfl ?_
          refine j_iload (pc' := 220) hX dL_law_218 4 rfl rfl ?_
          refine j_iconst (pc' := 221) (v := 1) hX dL_law_220 (by decide) rfl ?_
          refine j_iadd (pc' := 222) hX dL_law_221 rfl ?_
          refine j_sld (pc' := 223) hX hScr dL_law_222 hf rfl (fun hf => ?_)
          refine j_aload_n (pc' := 224) hX dL_law_223 rfl 0 rfl rfl ?_
          refine j_iload (pc' := 226) hX dL_law_224 4 rfl rfl ?_
          refine j_iconst (pc' := 227) (v := 2) hX dL_law_226 (by decide) rfl ?_
          refine j_iadd (pc' := 228) hX dL_law_227 rfl ?_
          refine j_sld (pc' := 229) hX hScr dL_law_228 hf rfl (fun hf => ?_)
          refine j_aload_n (pc' := 230) hX dL_law_229 rfl 3 rfl rfl ?_
          refine j_callSEb (nb := 14) (pc' := 233) (k' := k + 3) (n' := n + 18) (As := [.ref (pa 0), .int (xs (i + 1).toNatClampNeg), .int (xs (i + 2).toNatClampNeg), .ref o0]) (rest := []) (stk := fun r230 => [.int r230]) (bs := (PcB g pa vp ++ [(MdW g d0 d1 d2 d3 d4 d5 d6 vd)] ++ [(ALW g o0 1 vo)])) (cs := (PcB g pa vp ++ [(ALW g o0 1 vo)])) (rs := (List.map (fun i : Nat => List.getD (PcB g pa vp ++ [(MdW g d0 d1 d2 d3 d4 d5 d6 vd)] ++ [(ALW g o0 1 vo)]) i []) [12])) (ws' := fun u230_3 => ((PcB g pa u230_3.1 ++ [(MdW g d0 d1 d2 d3 d4 d5 d6 vd)] ++ [(ALW g o0 1 (u230_3.2))]).flatten)) (bs' := fun u230_3 => (PcB g pa u230_3.1 ++ [(MdW g d0 d1 d2 d3 d4 d5 d6 vd)] ++ [(ALW g o0 1 (u230_3.2))])) (d1 := fun u230_3 => (PcB g pa u230_3.1 ++ [(ALW g o0 1 (u230_3.2))])) hX hW hE (fun l => met_L_lay l g pa o0 vp vo (xs (i + 1).toNatClampNeg) (xs (i + 2).toNatClampNeg) _ hf) rfl gL_law_L_lay yoL_lay rfl ⟨Nat.le_of_ble_eq_true rfl, Nat.le_of_ble_eq_true rfl⟩ ⟨Nat.le_refl _, Nat.le_refl _, hk3, hn18⟩ [12, 0, 1, 2, 3, 4, 5, 6, 7, 8, 9, 10, 11, 13] rfl rfl rfl (by decide) rfl (fun _ => rfl) (fun _ => rfl) (fun _ => rfl) (fun _ => rfl) (Nat.le_of_ble_eq_true rfl) rfl (fun _ => rfl) dL_law_230 rfl (fun r230 u230_3 hf => ?_)
          refine j_istore (pc' := 235) (lv' := [(5, .int r230), (0, .ref b), (1, .ref (pa 0)), (2, .ref d0), (3, .ref o0), (4, .int i)]) hX dL_law_233 (by decide) rfl rfl ?_
          refine j_aload_n (pc' := 236) hX dL_law_235 rfl 3 rfl rfl ?_
          refine j_aload_n (pc' := 237) hX dL_law_236 rfl 1 rfl rfl ?_
          refine j_iload (pc' := 239) hX dL_law_237 5 rfl rfl ?_
          refine j_iconst (pc' := 240) (v := 1) hX dL_law_239 (by decide) rfl ?_
          refine j_iadd (pc' := 241) hX dL_law_240 rfl ?_
          refine j_sld (pc' := 242) hX hScr dL_law_241 hf rfl (fun hf => ?_)
          refine j_aload_n (pc' := 243) hX dL_law_242 rfl 1 rfl rfl ?_
          refine j_iload (pc' := 245) hX dL_law_243 5 rfl rfl ?_
          refine j_iconst (pc' := 246) (v := 2) hX dL_law_245 (by decide) rfl ?_
          refine j_iadd (pc' := 247) hX dL_law_246 rfl ?_
          refine j_sld (pc' := 248) hX hScr dL_law_247 hf rfl (fun hf => ?_)
          refine j_callVMb (ci := 5) (nb := 14) (pc' := 251) (k' := k + 3) (n' := n + 18) (As := [.int (xs (i + 1).toNatClampNeg), .int (xs (i + 2).toNatClampNeg)]) (rest := []) (stk := fun r248 => [.int r248]) (bs := (PcB g pa u230_3.1 ++ [(MdW g d0 d1 d2 d3 d4 d5 d6 vd)] ++ [(ALW g o0 1 (u230_3.2))])) (cs := ([(MdW g d0 d1 d2 d3 d4 d5 d6 vd)])) (rs := (List.map (fun i : Nat => List.getD (PcB g pa u230_3.1 ++ [(MdW g d0 d1 d2 d3 d4 d5 d6 vd)] ++ [(ALW g o0 1 (u230_3.2))]) i []) [0, 1, 2, 3, 4, 5, 6, 7, 8, 9, 10, 11, 13])) (ws' := fun u248_4 => ((PcB g pa u230_3.1 ++ [(MdW g d0 d1 d2 d3 d4 d5 d6 u248_4)] ++ [(ALW g o0 1 (u230_3.2))]).flatten)) (bs' := fun u248_4 => (PcB g pa u230_3.1 ++ [(MdW g d0 d1 d2 d3 d4 d5 d6 u248_4)] ++ [(ALW g o0 1 (u230_3.2))])) (d1 := fun u248_4 => ([(MdW g d0 d1 d2 d3 d4 d5 d6 u248_4)])) hX hW (fun l => met_X5_lay l g d0 d1 d2 d3 d4 d5 d6 vd (xs (i + 1).toNatClampNeg) (xs (i + 2).toNatClampNeg) _ hf) rfl gL_law_X5_lay yoX5_lay rfl ⟨Nat.le_of_ble_eq_true rfl, Nat.le_of_ble_eq_true rfl⟩ ⟨Nat.le_refl _, Nat.le_refl _, hk3, hn18⟩ 0 rfl rfl [0, 1, 2, 3, 4, 5, 6, 7, 8, 9, 10, 11, 13, 12] rfl rfl rfl (by decide) rfl (fun _ => rfl) (fun _ => rfl) (fun _ => rfl) (fun _ => rfl) (Nat.le_of_ble_eq_true rfl) rfl (fun _ => rfl) dL_law_248 rfl (fun r248 u248_4 hf => ?_)
          refine j_istore (pc' := 253) (lv' := [(6, .int r248), (5, .int r230), (0, .ref b), (1, .ref (pa 0)), (2, .ref d0), (3, .ref o0), (4, .int i)]) hX dL_law_251 (by decide) rfl rfl ?_
          refine j_aload_n (pc' := 254) hX dL_law_253 rfl 4 rfl rfl ?_
          refine j_callVRb (ci := 5) (nb := 14) (pc' := 257) (As := []) (rest := []) (stk := fun r254 => [.int r254]) (bs := (PcB g pa u230_3.1 ++ [(MdW g d0 d1 d2 d3 d4 d5 d6 u248_4)] ++ [(ALW g o0 1 (u230_3.2))])) (cs := ([(MdW g d0 d1 d2 d3 d4 d5 d6 u248_4)])) (rs := (List.map (fun i : Nat => List.getD (PcB g pa u230_3.1 ++ [(MdW g d0 d1 d2 d3 d4 d5 d6 u248_4)] ++ [(ALW g o0 1 (u230_3.2))]) i []) [0, 1, 2, 3, 4, 5, 6, 7, 8, 9, 10, 11, 13])) hX (fun l => met_X5_thrown l g d0 d1 d2 d3 d4 d5 d6 u248_4 _ hf) rfl gL_law_X5_thrown yoX5_thrown rfl ⟨Nat.le_of_ble_eq_true rfl, Nat.le_of_ble_eq_true rfl⟩ ⟨⟨hk3, hn18⟩, rfl, rfl⟩ 0 rfl rfl [0, 1, 2, 3, 4, 5, 6, 7, 8, 9, 10, 11, 13, 12] rfl rfl rfl (by decide) rfl (Nat.le_of_ble_eq_true rfl) rfl (fun _ => rfl) dL_law_254 rfl (fun r254 hf => ?_)
          refine j_iload (pc' := 259) hX dL_law_257 1 rfl rfl ?_
          refine j_icmp_eq (tgt := 264) (pc' := 262) hX dL_law_259 (by decide) rfl hf (fun hf => ?_) (fun hf => ?_)
          · refine j_iload (pc' := 266) hX dL_law_264 1 rfl rfl ?_
            refine j_if_ne (tgt := 281) (pc' := 269) hX dL_law_266 (by decide) rfl hf (fun hf => ?_) (fun hf => ?_)
            · refine j_goto (tgt := 1399) hX dL_law_281 (by decide) ?_
              refine j_iinc (pc' := 1402) (cst := 4) (v := (i + 4)) (lv' := [(4, .int (i + 4)), (6, .int r248), (5, .int r230), (0, .ref b), (1, .ref (pa 0)), (2, .ref d0), (3, .ref o0)]) hX dL_law_1399 (by decide) rfl 6 rfl (by decide) rfl rfl ?_
              refine j_goto (tgt := 23) hX dL_law_1402 (by decide) ?_
              refine J_sub (lv' := [(0, .ref b), (1, .ref (pa 0)), (2, .ref d0), (3, .ref o0), (4, .int (i + 4))]) [3, 4, 5, 6, 0] rfl ?_
              exact ih (i + 4) u230_3.1 u248_4 u230_3.2 (k + 3) (n + 18) hf (by omega) (by omega)
            · refine j_aload_n (pc' := 270) hX dL_law_269 rfl 5 rfl rfl ?_
              refine j_iconst (pc' := 271) (v := 0) hX dL_law_270 (by decide) rfl ?_
              refine j_lald (pc' := 272) hX 54 rfl dL_law_271 ⟨by unfold vp_in; decide, hf⟩ rfl (fun hf => ?_)
              refine j_iload (pc' := 274) hX dL_law_272 0 rfl rfl ?_
              refine j_i2l (pc' := 275) hX dL_law_274 rfl ?_
              refine j_lcmp (pc' := 276) hX dL_law_275 rfl ?_
              refine j_if_eq (tgt := 281) (pc' := 279) hX dL_law_276 (by decide) rfl hf (fun hf => ?_) (fun hf => ?_)
              · refine j_goto (tgt := 1399) hX dL_law_281 (by decide) ?_
                refine j_iinc (pc' := 1402) (cst := 4) (v := (i + 4)) (lv' := [(4, .int (i + 4)), (6, .int r248), (5, .int r230), (0, .ref b), (1, .ref (pa 0)), (2, .ref d0), (3, .ref o0)]) hX dL_law_1399 (by decide) rfl 6 rfl (by decide) rfl rfl ?_
                refine j_goto (tgt := 23) hX dL_law_1402 (by decide) ?_
                refine J_sub (lv' := [(0, .ref b), (1, .ref (pa 0)), (2, .ref d0), (3, .ref o0), (4, .int (i + 4))]) [3, 4, 5, 6, 0] rfl ?_
                exact ih (i + 4) u230_3.1 u248_4 u230_3.2 (k + 3) (n + 18) hf (by omega) (by omega)
              · refine j_iconst (pc' := 280) (v := 0) hX dL_law_279 (by decide) rfl ?_
                exact False.elim hf
          · refine j_iconst (pc' := 263) (v := 0) hX dL_law_262 (by decide) rfl ?_
            exact False.elim hf
        · replace hf := hf.2 hs1
          by_cases hs2 : ((xs i.toNatClampNeg) &&& 31) = 2
          · replace hf := hf.1 hs2
            refine j_tswI (tgt := 284) (cst := 2) hX dL_law_39 hs2 (by decide) (by decide) rfl (by decide) ?_
            refine j_aload_n (pc' := 285) hX dL_law_284 rfl 1 rfl rfl ?_
            refine j_aload_n (pc' := 286) hX dL_law_285 rfl 0 rfl rfl ?_
            refine j_iload (pc' := 288) hX dL_law_286 4 rfl rfl ?_
            refine j_iconst (pc' := 289) (v := 1) hX dL_law_288 (by decide) rfl ?_
            refine j_iadd (pc' := 290) hX dL_law_289 rfl ?_
            refine j_sld (pc' := 291) hX hScr dL_law_290 hf rfl (fun hf => ?_)
            refine j_aload_n (pc' := 292) hX dL_law_291 rfl 0 rfl rfl ?_
            refine j_iload (pc' := 294) hX dL_law_292 4 rfl rfl ?_
            refine j_iconst (pc' := 295) (v := 2) hX dL_law_294 (by decide) rfl ?_
            refine j_iadd (pc' := 296) hX dL_law_295 rfl ?_
            refine j_sld (pc' := 297) hX hScr dL_law_296 hf rfl (fun hf => ?_)
            refine j_aload_n (pc' := 298) hX dL_law_297 rfl 3 rfl rfl ?_
            refine j_callSEb (nb := 14) (pc' := 301) (k' := k + 3) (n' := n + 18) (As := [.ref (pa 0), .int (xs (i + 1).toNatClampNeg), .int (xs (i + 2).toNatClampNeg), .ref o0]) (rest := []) (stk := fun r298 => [.int r298]) (bs := (PcB g pa vp ++ [(MdW g d0 d1 d2 d3 d4 d5 d6 vd)] ++ [(ALW g o0 1 vo)])) (cs := (PcB g pa vp ++ [(ALW g o0 1 vo)])) (rs := (List.map (fun i : Nat => List.getD (PcB g pa vp ++ [(MdW g d0 d1 d2 d3 d4 d5 d6 vd)] ++ [(ALW g o0 1 vo)]) i []) [12])) (ws' := fun u298_5 => ((PcB g pa u298_5.1 ++ [(MdW g d0 d1 d2 d3 d4 d5 d6 vd)] ++ [(ALW g o0 1 (u298_5.2))]).flatten)) (bs' := fun u298_5 => (PcB g pa u298_5.1 ++ [(MdW g d0 d1 d2 d3 d4 d5 d6 vd)] ++ [(ALW g o0 1 (u298_5.2))])) (d1 := fun u298_5 => (PcB g pa u298_5.1 ++ [(ALW g o0 1 (u298_5.2))])) hX hW hE (fun l => met_L_cut l g pa o0 vp vo (xs (i + 1).toNatClampNeg) (xs (i + 2).toNatClampNeg) _ hf) rfl gL_law_L_cut yoL_cut rfl ⟨Nat.le_of_ble_eq_true rfl, Nat.le_of_ble_eq_true rfl⟩ ⟨Nat.le_refl _, Nat.le_refl _, hk3, hn18⟩ [12, 0, 1, 2, 3, 4, 5, 6, 7, 8, 9, 10, 11, 13] rfl rfl rfl (by decide) rfl (fun _ => rfl) (fun _ => rfl) (fun _ => rfl) (fun _ => rfl) (Nat.le_of_ble_eq_true rfl) rfl (fun _ => rfl) dL_law_298 rfl (fun r298 u298_5 hf => ?_)
            refine j_istore (pc' := 303) (lv' := [(5, .int r298), (0, .ref b), (1, .ref (pa 0)), (2, .ref d0), (3, .ref o0), (4, .int i)]) hX dL_law_301 (by decide) rfl rfl ?_
            refine j_aload_n (pc' := 304) hX dL_law_303 rfl 3 rfl rfl ?_
            refine j_aload_n (pc' := 305) hX dL_law_304 rfl 1 rfl rfl ?_
            refine j_iload (pc' := 307) hX dL_law_305 5 rfl rfl ?_
            refine j_iconst (pc' := 308) (v := 1) hX dL_law_307 (by decide) rfl ?_
            refine j_iadd (pc' := 309) hX dL_law_308 rfl ?_
            refine j_sld (pc' := 310) hX hScr dL_law_309 hf rfl (fun hf => ?_)
            refine j_aload_n (pc' := 311) hX dL_law_310 rfl 1 rfl rfl ?_
            refine j_iload (pc' := 313) hX dL_law_311 5 rfl rfl ?_
            refine j_iconst (pc' := 314) (v := 2) hX dL_law_313 (by decide) rfl ?_
            refine j_iadd (pc' := 315) hX dL_law_314 rfl ?_
            refine j_sld (pc' := 316) hX hScr dL_law_315 hf rfl (fun hf => ?_)
            refine j_callVMb (ci := 5) (nb := 14) (pc' := 319) (k' := k + 3) (n' := n + 18) (As := [.int (xs (i + 1).toNatClampNeg), .int (xs (i + 2).toNatClampNeg)]) (rest := []) (stk := fun r316 => [.int r316]) (bs := (PcB g pa u298_5.1 ++ [(MdW g d0 d1 d2 d3 d4 d5 d6 vd)] ++ [(ALW g o0 1 (u298_5.2))])) (cs := ([(MdW g d0 d1 d2 d3 d4 d5 d6 vd)])) (rs := (List.map (fun i : Nat => List.getD (PcB g pa u298_5.1 ++ [(MdW g d0 d1 d2 d3 d4 d5 d6 vd)] ++ [(ALW g o0 1 (u298_5.2))]) i []) [0, 1, 2, 3, 4, 5, 6, 7, 8, 9, 10, 11, 13])) (ws' := fun u316_6 => ((PcB g pa u298_5.1 ++ [(MdW g d0 d1 d2 d3 d4 d5 d6 u316_6)] ++ [(ALW g o0 1 (u298_5.2))]).flatten)) (bs' := fun u316_6 => (PcB g pa u298_5.1 ++ [(MdW g d0 d1 d2 d3 d4 d5 d6 u316_6)] ++ [(ALW g o0 1 (u298_5.2))])) (d1 := fun u316_6 => ([(MdW g d0 d1 d2 d3 d4 d5 d6 u316_6)])) hX hW (fun l => met_X5_cut l g d0 d1 d2 d3 d4 d5 d6 vd (xs (i + 1).toNatClampNeg) (xs (i + 2).toNatClampNeg) _ hf) rfl gL_law_X5_cut yoX5_cut rfl ⟨Nat.le_of_ble_eq_true rfl, Nat.le_of_ble_eq_true rfl⟩ ⟨Nat.le_refl _, Nat.le_refl _, hk3, hn18⟩ 0 rfl rfl [0, 1, 2, 3, 4, 5, 6, 7, 8, 9, 10, 11, 13, 12] rfl rfl rfl (by decide) rfl (fun _ => rfl) (fun _ => rfl) (fun _ => rfl) (fun _ => rfl) (Nat.le_of_ble_eq_true rfl) rfl (fun _ => rfl) dL_law_316 rfl (fun r316 u316_6 hf => ?_)
            refine j_istore (pc' := 321) (lv' := [(6, .int r316), (5, .int r298), (0, .ref b), (1, .ref (pa 0)), (2, .ref d0), (3, .ref o0), (4, .int i)]) hX dL_law_319 (by decide) rfl rfl ?_
            refine j_aload_n (pc' := 322) hX dL_law_321 rfl 4 rfl rfl ?_
            refine j_callVRb (ci := 5) (nb := 14) (pc' := 325) (As := []) (rest := []) (stk := fun r322 => [.int r322]) (bs := (PcB g pa u298_5.1 ++ [(MdW g d0 d1 d2 d3 d4 d5 d6 u316_6)] ++ [(ALW g o0 1 (u298_5.2))])) (cs := ([(MdW g d0 d1 d2 d3 d4 d5 d6 u316_6)])) (rs := (List.map (fun i : Nat => List.getD (PcB g pa u298_5.1 ++ [(MdW g d0 d1 d2 d3 d4 d5 d6 u316_6)] ++ [(ALW g o0 1 (u298_5.2))]) i []) [0, 1, 2, 3, 4, 5, 6, 7, 8, 9, 10, 11, 13])) hX (fun l => met_X5_thrown l g d0 d1 d2 d3 d4 d5 d6 u316_6 _ hf) rfl gL_law_X5_thrown yoX5_thrown rfl ⟨Nat.le_of_ble_eq_true rfl, Nat.le_of_ble_eq_true rfl⟩ ⟨⟨hk3, hn18⟩, rfl, rfl⟩ 0 rfl rfl [0, 1, 2, 3, 4, 5, 6, 7, 8, 9, 10, 11, 13, 12] rfl rfl rfl (by decide) rfl (Nat.le_of_ble_eq_true rfl) rfl (fun _ => rfl) dL_law_322 rfl (fun r322 hf => ?_)
            refine j_iload (pc' := 327) hX dL_law_325 1 rfl rfl ?_
            refine j_icmp_eq (tgt := 332) (pc' := 330) hX dL_law_327 (by decide) rfl hf (fun hf => ?_) (fun hf => ?_)
            · refine j_iload (pc' := 334) hX dL_law_332 1 rfl rfl ?_
              refine j_if_ne (tgt := 349) (pc' := 337) hX dL_law_334 (by decide) rfl hf (fun hf => ?_) (fun hf => ?_)
              · refine j_goto (tgt := 1399) hX dL_law_349 (by decide) ?_
                refine j_iinc (pc' := 1402) (cst := 4) (v := (i + 4)) (lv' := [(4, .int (i + 4)), (6, .int r316), (5, .int r298), (0, .ref b), (1, .ref (pa 0)), (2, .ref d0), (3, .ref o0)]) hX dL_law_1399 (by decide) rfl 6 rfl (by decide) rfl rfl ?_
                refine j_goto (tgt := 23) hX dL_law_1402 (by decide) ?_
                refine J_sub (lv' := [(0, .ref b), (1, .ref (pa 0)), (2, .ref d0), (3, .ref o0), (4, .int (i + 4))]) [3, 4, 5, 6, 0] rfl ?_
                exact ih (i + 4) u298_5.1 u316_6 u298_5.2 (k + 3) (n + 18) hf (by omega) (by omega)
              · refine j_aload_n (pc' := 338) hX dL_law_337 rfl 5 rfl rfl ?_
                refine j_iconst (pc' := 339) (v := 0) hX dL_law_338 (by decide) rfl ?_
                refine j_lald (pc' := 340) hX 54 rfl dL_law_339 ⟨by unfold vp_in; decide, hf⟩ rfl (fun hf => ?_)
                refine j_iload (pc' := 342) hX dL_law_340 0 rfl rfl ?_
                refine j_i2l (pc' := 343) hX dL_law_342 rfl ?_
                refine j_lcmp (pc' := 344) hX dL_law_343 rfl ?_
                refine j_if_eq (tgt := 349) (pc' := 347) hX dL_law_344 (by decide) rfl hf (fun hf => ?_) (fun hf => ?_)
                · refine j_goto (tgt := 1399) hX dL_law_349 (by decide) ?_
                  refine j_iinc (pc' := 1402) (cst := 4) (v := (i + 4)) (lv' := [(4, .int (i + 4)), (6, .int r316), (5, .int r298), (0, .ref b), (1, .ref (pa 0)), (2, .ref d0), (3, .ref o0)]) hX dL_law_1399 (by decide) rfl 6 rfl (by decide) rfl rfl ?_
                  refine j_goto (tgt := 23) hX dL_law_1402 (by decide) ?_
                  refine J_sub (lv' := [(0, .ref b), (1, .ref (pa 0)), (2, .ref d0), (3, .ref o0), (4, .int (i + 4))]) [3, 4, 5, 6, 0] rfl ?_
                  exact ih (i + 4) u298_5.1 u316_6 u298_5.2 (k + 3) (n + 18) hf (by omega) (by omega)
                · refine j_iconst (pc' := 348) (v := 0) hX dL_law_347 (by decide) rfl ?_
                  exact False.elim hf
            · refine j_iconst (pc' := 331) (v := 0) hX dL_law_330 (by decide) rfl ?_
              exact False.elim hf
          · replace hf := hf.2 hs2
            by_cases hs3 : ((xs i.toNatClampNeg) &&& 31) = 3
            · replace hf := hf.1 hs3
              refine j_tswI (tgt := 352) (cst := 3) hX dL_law_39 hs3 (by decide) (by decide) rfl (by decide) ?_
              refine j_aload_n (pc' := 353) hX dL_law_352 rfl 1 rfl rfl ?_
              refine j_aload_n (pc' := 354) hX dL_law_353 rfl 0 rfl rfl ?_
              refine j_iload (pc' := 356) hX dL_law_354 4 rfl rfl ?_
              refine j_iconst (pc' := 357) (v := 1) hX dL_law_356 (by decide) rfl ?_
              refine j_iadd (pc' := 358) hX dL_law_357 rfl ?_
              refine j_sld (pc' := 359) hX hScr dL_law_358 hf rfl (fun hf => ?_)
              refine j_aload_n (pc' := 360) hX dL_law_359 rfl 0 rfl rfl ?_
              refine j_iload (pc' := 362) hX dL_law_360 4 rfl rfl ?_
              refine j_iconst (pc' := 363) (v := 2) hX dL_law_362 (by decide) rfl ?_
              refine j_iadd (pc' := 364) hX dL_law_363 rfl ?_
              refine j_sld (pc' := 365) hX hScr dL_law_364 hf rfl (fun hf => ?_)
              refine j_aload_n (pc' := 366) hX dL_law_365 rfl 3 rfl rfl ?_
              refine j_callSEb (nb := 14) (pc' := 369) (k' := k + 2) (n' := n + 12) (As := [.ref (pa 0), .int (xs (i + 1).toNatClampNeg), .int (xs (i + 2).toNatClampNeg), .ref o0]) (rest := []) (stk := fun r366 => [.int r366]) (bs := (PcB g pa vp ++ [(MdW g d0 d1 d2 d3 d4 d5 d6 vd)] ++ [(ALW g o0 1 vo)])) (cs := (PcB g pa vp ++ [(ALW g o0 1 vo)])) (rs := (List.map (fun i : Nat => List.getD (PcB g pa vp ++ [(MdW g d0 d1 d2 d3 d4 d5 d6 vd)] ++ [(ALW g o0 1 vo)]) i []) [12])) (ws' := fun u366_7 => ((PcB g pa u366_7.1 ++ [(MdW g d0 d1 d2 d3 d4 d5 d6 vd)] ++ [(ALW g o0 1 (u366_7.2))]).flatten)) (bs' := fun u366_7 => (PcB g pa u366_7.1 ++ [(MdW g d0 d1 d2 d3 d4 d5 d6 vd)] ++ [(ALW g o0 1 (u366_7.2))])) (d1 := fun u366_7 => (PcB g pa u366_7.1 ++ [(ALW g o0 1 (u366_7.2))])) hX hW hE (fun l => met_L_takeUp l g pa o0 vp vo (xs (i + 1).toNatClampNeg) (xs (i + 2).toNatClampNeg) _ hf) rfl gL_law_L_takeUp yoL_takeUp rfl ⟨Nat.le_of_ble_eq_true rfl, Nat.le_of_ble_eq_true rfl⟩ ⟨Nat.le_refl _, Nat.le_refl _, hk2, hn12⟩ [12, 0, 1, 2, 3, 4, 5, 6, 7, 8, 9, 10, 11, 13] rfl rfl rfl (by decide) rfl (fun _ => rfl) (fun _ => rfl) (fun _ => rfl) (fun _ => rfl) (Nat.le_of_ble_eq_true rfl) rfl (fun _ => rfl) dL_law_366 rfl (fun r366 u366_7 hf => ?_)
              refine j_istore (pc' := 371) (lv' := [(5, .int r366), (0, .ref b), (1, .ref (pa 0)), (2, .ref d0), (3, .ref o0), (4, .int i)]) hX dL_law_369 (by decide) rfl rfl ?_
              refine j_aload_n (pc' := 372) hX dL_law_371 rfl 3 rfl rfl ?_
              refine j_aload_n (pc' := 373) hX dL_law_372 rfl 1 rfl rfl ?_
              refine j_iload (pc' := 375) hX dL_law_373 5 rfl rfl ?_
              refine j_iconst (pc' := 376) (v := 1) hX dL_law_375 (by decide) rfl ?_
              refine j_iadd (pc' := 377) hX dL_law_376 rfl ?_
              refine j_sld (pc' := 378) hX hScr dL_law_377 hf rfl (fun hf => ?_)
              refine j_aload_n (pc' := 379) hX dL_law_378 rfl 1 rfl rfl ?_
              refine j_iload (pc' := 381) hX dL_law_379 5 rfl rfl ?_
              refine j_iconst (pc' := 382) (v := 2) hX dL_law_381 (by decide) rfl ?_
              refine j_iadd (pc' := 383) hX dL_law_382 rfl ?_
              refine j_sld (pc' := 384) hX hScr dL_law_383 hf rfl (fun hf => ?_)
              refine j_callVMb (ci := 5) (nb := 14) (pc' := 387) (k' := k + 2) (n' := n + 12) (As := [.int (xs (i + 1).toNatClampNeg), .int (xs (i + 2).toNatClampNeg)]) (rest := []) (stk := fun r384 => [.int r384]) (bs := (PcB g pa u366_7.1 ++ [(MdW g d0 d1 d2 d3 d4 d5 d6 vd)] ++ [(ALW g o0 1 (u366_7.2))])) (cs := ([(MdW g d0 d1 d2 d3 d4 d5 d6 vd)])) (rs := (List.map (fun i : Nat => List.getD (PcB g pa u366_7.1 ++ [(MdW g d0 d1 d2 d3 d4 d5 d6 vd)] ++ [(ALW g o0 1 (u366_7.2))]) i []) [0, 1, 2, 3, 4, 5, 6, 7, 8, 9, 10, 11, 13])) (ws' := fun u384_8 => ((PcB g pa u366_7.1 ++ [(MdW g d0 d1 d2 d3 d4 d5 d6 u384_8)] ++ [(ALW g o0 1 (u366_7.2))]).flatten)) (bs' := fun u384_8 => (PcB g pa u366_7.1 ++ [(MdW g d0 d1 d2 d3 d4 d5 d6 u384_8)] ++ [(ALW g o0 1 (u366_7.2))])) (d1 := fun u384_8 => ([(MdW g d0 d1 d2 d3 d4 d5 d6 u384_8)])) hX hW (fun l => met_X5_takeUp l g d0 d1 d2 d3 d4 d5 d6 vd (xs (i + 1).toNatClampNeg) (xs (i + 2).toNatClampNeg) _ hf) rfl gL_law_X5_takeUp yoX5_takeUp rfl ⟨Nat.le_of_ble_eq_true rfl, Nat.le_of_ble_eq_true rfl⟩ ⟨Nat.le_refl _, Nat.le_refl _, hk2, hn12⟩ 0 rfl rfl [0, 1, 2, 3, 4, 5, 6, 7, 8, 9, 10, 11, 13, 12] rfl rfl rfl (by decide) rfl (fun _ => rfl) (fun _ => rfl) (fun _ => rfl) (fun _ => rfl) (Nat.le_of_ble_eq_true rfl) rfl (fun _ => rfl) dL_law_384 rfl (fun r384 u384_8 hf => ?_)
              refine j_istore (pc' := 389) (lv' := [(6, .int r384), (5, .int r366), (0, .ref b), (1, .ref (pa 0)), (2, .ref d0), (3, .ref o0), (4, .int i)]) hX dL_law_387 (by decide) rfl rfl ?_
              refine j_aload_n (pc' := 390) hX dL_law_389 rfl 4 rfl rfl ?_
              refine j_callVRb (ci := 5) (nb := 14) (pc' := 393) (As := []) (rest := []) (stk := fun r390 => [.int r390]) (bs := (PcB g pa u366_7.1 ++ [(MdW g d0 d1 d2 d3 d4 d5 d6 u384_8)] ++ [(ALW g o0 1 (u366_7.2))])) (cs := ([(MdW g d0 d1 d2 d3 d4 d5 d6 u384_8)])) (rs := (List.map (fun i : Nat => List.getD (PcB g pa u366_7.1 ++ [(MdW g d0 d1 d2 d3 d4 d5 d6 u384_8)] ++ [(ALW g o0 1 (u366_7.2))]) i []) [0, 1, 2, 3, 4, 5, 6, 7, 8, 9, 10, 11, 13])) hX (fun l => met_X5_thrown l g d0 d1 d2 d3 d4 d5 d6 u384_8 _ hf) rfl gL_law_X5_thrown yoX5_thrown rfl ⟨Nat.le_of_ble_eq_true rfl, Nat.le_of_ble_eq_true rfl⟩ ⟨⟨hk2, hn12⟩, rfl, rfl⟩ 0 rfl rfl [0, 1, 2, 3, 4, 5, 6, 7, 8, 9, 10, 11, 13, 12] rfl rfl rfl (by decide) rfl (Nat.le_of_ble_eq_true rfl) rfl (fun _ => rfl) dL_law_390 rfl (fun r390 hf => ?_)
              refine j_iload (pc' := 395) hX dL_law_393 1 rfl rfl ?_
              refine j_icmp_eq (tgt := 400) (pc' := 398) hX dL_law_395 (by decide) rfl hf (fun hf => ?_) (fun hf => ?_)
              · refine j_iload (pc' := 402) hX dL_law_400 1 rfl rfl ?_
                refine j_if_ne (tgt := 417) (pc' := 405) hX dL_law_402 (by decide) rfl hf (fun hf => ?_) (fun hf => ?_)
                · refine j_goto (tgt := 1399) hX dL_law_417 (by decide) ?_
                  refine j_iinc (pc' := 1402) (cst := 4) (v := (i + 4)) (lv' := [(4, .int (i + 4)), (6, .int r384), (5, .int r366), (0, .ref b), (1, .ref (pa 0)), (2, .ref d0), (3, .ref o0)]) hX dL_law_1399 (by decide) rfl 6 rfl (by decide) rfl rfl ?_
                  refine j_goto (tgt := 23) hX dL_law_1402 (by decide) ?_
                  refine J_sub (lv' := [(0, .ref b), (1, .ref (pa 0)), (2, .ref d0), (3, .ref o0), (4, .int (i + 4))]) [3, 4, 5, 6, 0] rfl ?_
                  exact ih (i + 4) u366_7.1 u384_8 u366_7.2 (k + 2) (n + 12) hf (by omega) (by omega)
                · refine j_aload_n (pc' := 406) hX dL_law_405 rfl 5 rfl rfl ?_
                  refine j_iconst (pc' := 407) (v := 0) hX dL_law_406 (by decide) rfl ?_
                  refine j_lald (pc' := 408) hX 54 rfl dL_law_407 ⟨by unfold vp_in; decide, hf⟩ rfl (fun hf => ?_)
                  refine j_iload (pc' := 410) hX dL_law_408 0 rfl rfl ?_
                  refine j_i2l (pc' := 411) hX dL_law_410 rfl ?_
                  refine j_lcmp (pc' := 412) hX dL_law_411 rfl ?_
                  refine j_if_eq (tgt := 417) (pc' := 415) hX dL_law_412 (by decide) rfl hf (fun hf => ?_) (fun hf => ?_)
                  · refine j_goto (tgt := 1399) hX dL_law_417 (by decide) ?_
                    refine j_iinc (pc' := 1402) (cst := 4) (v := (i + 4)) (lv' := [(4, .int (i + 4)), (6, .int r384), (5, .int r366), (0, .ref b), (1, .ref (pa 0)), (2, .ref d0), (3, .ref o0)]) hX dL_law_1399 (by decide) rfl 6 rfl (by decide) rfl rfl ?_
                    refine j_goto (tgt := 23) hX dL_law_1402 (by decide) ?_
                    refine J_sub (lv' := [(0, .ref b), (1, .ref (pa 0)), (2, .ref d0), (3, .ref o0), (4, .int (i + 4))]) [3, 4, 5, 6, 0] rfl ?_
                    exact ih (i + 4) u366_7.1 u384_8 u366_7.2 (k + 2) (n + 12) hf (by omega) (by omega)
                  · refine j_iconst (pc' := 416) (v := 0) hX dL_law_415 (by decide) rfl ?_
                    exact False.elim hf
              · refine j_iconst (pc' := 399) (v := 0) hX dL_law_398 (by decide) rfl ?_
                exact False.elim hf
            · replace hf := hf.2 hs3
              by_cases hs4 : ((xs i.toNatClampNeg) &&& 31) = 4
              · replace hf := hf.1 hs4
                refine j_tswI (tgt := 420) (cst := 4) hX dL_law_39 hs4 (by decide) (by decide) rfl (by decide) ?_
                refine j_aload_n (pc' := 421) hX dL_law_420 rfl 1 rfl rfl ?_
                refine j_aload_n (pc' := 422) hX dL_law_421 rfl 0 rfl rfl ?_
                refine j_iload (pc' := 424) hX dL_law_422 4 rfl rfl ?_
                refine j_iconst (pc' := 425) (v := 1) hX dL_law_424 (by decide) rfl ?_
                refine j_iadd (pc' := 426) hX dL_law_425 rfl ?_
                refine j_sld (pc' := 427) hX hScr dL_law_426 hf rfl (fun hf => ?_)
                refine j_aload_n (pc' := 428) hX dL_law_427 rfl 3 rfl rfl ?_
                refine j_callSEb (nb := 14) (pc' := 431) (k' := k + 1) (n' := n + 6) (As := [.ref (pa 0), .int (xs (i + 1).toNatClampNeg), .ref o0]) (rest := []) (stk := fun r428 => [.int r428]) (bs := (PcB g pa vp ++ [(MdW g d0 d1 d2 d3 d4 d5 d6 vd)] ++ [(ALW g o0 1 vo)])) (cs := (PcB g pa vp ++ [(ALW g o0 1 vo)])) (rs := (List.map (fun i : Nat => List.getD (PcB g pa vp ++ [(MdW g d0 d1 d2 d3 d4 d5 d6 vd)] ++ [(ALW g o0 1 vo)]) i []) [12])) (ws' := fun u428_9 => ((PcB g pa u428_9.1 ++ [(MdW g d0 d1 d2 d3 d4 d5 d6 vd)] ++ [(ALW g o0 1 (u428_9.2))]).flatten)) (bs' := fun u428_9 => (PcB g pa u428_9.1 ++ [(MdW g d0 d1 d2 d3 d4 d5 d6 vd)] ++ [(ALW g o0 1 (u428_9.2))])) (d1 := fun u428_9 => (PcB g pa u428_9.1 ++ [(ALW g o0 1 (u428_9.2))])) hX hW hE (fun l => met_L_fill l g pa o0 vp vo (xs (i + 1).toNatClampNeg) _ hf) rfl gL_law_L_fill yoL_fill rfl ⟨Nat.le_of_ble_eq_true rfl, Nat.le_of_ble_eq_true rfl⟩ ⟨Nat.le_refl _, Nat.le_refl _, hk1, hn6⟩ [12, 0, 1, 2, 3, 4, 5, 6, 7, 8, 9, 10, 11, 13] rfl rfl rfl (by decide) rfl (fun _ => rfl) (fun _ => rfl) (fun _ => rfl) (fun _ => rfl) (Nat.le_of_ble_eq_true rfl) rfl (fun _ => rfl) dL_law_428 rfl (fun r428 u428_9 hf => ?_)
                refine j_istore (pc' := 433) (lv' := [(5, .int r428), (0, .ref b), (1, .ref (pa 0)), (2, .ref d0), (3, .ref o0), (4, .int i)]) hX dL_law_431 (by decide) rfl rfl ?_
                refine j_aload_n (pc' := 434) hX dL_law_433 rfl 3 rfl rfl ?_
                refine j_aload_n (pc' := 435) hX dL_law_434 rfl 1 rfl rfl ?_
                refine j_iload (pc' := 437) hX dL_law_435 5 rfl rfl ?_
                refine j_iconst (pc' := 438) (v := 1) hX dL_law_437 (by decide) rfl ?_
                refine j_iadd (pc' := 439) hX dL_law_438 rfl ?_
                refine j_sld (pc' := 440) hX hScr dL_law_439 hf rfl (fun hf => ?_)
                refine j_callVMb (ci := 5) (nb := 14) (pc' := 443) (k' := k + 1) (n' := n + 6) (As := [.int (xs (i + 1).toNatClampNeg)]) (rest := []) (stk := fun r440 => [.int r440]) (bs := (PcB g pa u428_9.1 ++ [(MdW g d0 d1 d2 d3 d4 d5 d6 vd)] ++ [(ALW g o0 1 (u428_9.2))])) (cs := ([(MdW g d0 d1 d2 d3 d4 d5 d6 vd)])) (rs := (List.map (fun i : Nat => List.getD (PcB g pa u428_9.1 ++ [(MdW g d0 d1 d2 d3 d4 d5 d6 vd)] ++ [(ALW g o0 1 (u428_9.2))]) i []) [0, 1, 2, 3, 4, 5, 6, 7, 8, 9, 10, 11, 13])) (ws' := fun u440_10 => ((PcB g pa u428_9.1 ++ [(MdW g d0 d1 d2 d3 d4 d5 d6 u440_10)] ++ [(ALW g o0 1 (u428_9.2))]).flatten)) (bs' := fun u440_10 => (PcB g pa u428_9.1 ++ [(MdW g d0 d1 d2 d3 d4 d5 d6 u440_10)] ++ [(ALW g o0 1 (u428_9.2))])) (d1 := fun u440_10 => ([(MdW g d0 d1 d2 d3 d4 d5 d6 u440_10)])) hX hW (fun l => met_X5_fill l g d0 d1 d2 d3 d4 d5 d6 vd (xs (i + 1).toNatClampNeg) _ hf) rfl gL_law_X5_fill yoX5_fill rfl ⟨Nat.le_of_ble_eq_true rfl, Nat.le_of_ble_eq_true rfl⟩ ⟨Nat.le_refl _, Nat.le_refl _, hk1, hn6⟩ 0 rfl rfl [0, 1, 2, 3, 4, 5, 6, 7, 8, 9, 10, 11, 13, 12] rfl rfl rfl (by decide) rfl (fun _ => rfl) (fun _ => rfl) (fun _ => rfl) (fun _ => rfl) (Nat.le_of_ble_eq_true rfl) rfl (fun _ => rfl) dL_law_440 rfl (fun r440 u440_10 hf => ?_)
                refine j_istore (pc' := 445) (lv' := [(6, .int r440), (5, .int r428), (0, .ref b), (1, .ref (pa 0)), (2, .ref d0), (3, .ref o0), (4, .int i)]) hX dL_law_443 (by decide) rfl rfl ?_
                refine j_aload_n (pc' := 446) hX dL_law_445 rfl 4 rfl rfl ?_
                refine j_callVRb (ci := 5) (nb := 14) (pc' := 449) (As := []) (rest := []) (stk := fun r446 => [.int r446]) (bs := (PcB g pa u428_9.1 ++ [(MdW g d0 d1 d2 d3 d4 d5 d6 u440_10)] ++ [(ALW g o0 1 (u428_9.2))])) (cs := ([(MdW g d0 d1 d2 d3 d4 d5 d6 u440_10)])) (rs := (List.map (fun i : Nat => List.getD (PcB g pa u428_9.1 ++ [(MdW g d0 d1 d2 d3 d4 d5 d6 u440_10)] ++ [(ALW g o0 1 (u428_9.2))]) i []) [0, 1, 2, 3, 4, 5, 6, 7, 8, 9, 10, 11, 13])) hX (fun l => met_X5_thrown l g d0 d1 d2 d3 d4 d5 d6 u440_10 _ hf) rfl gL_law_X5_thrown yoX5_thrown rfl ⟨Nat.le_of_ble_eq_true rfl, Nat.le_of_ble_eq_true rfl⟩ ⟨⟨hk1, hn6⟩, rfl, rfl⟩ 0 rfl rfl [0, 1, 2, 3, 4, 5, 6, 7, 8, 9, 10, 11, 13, 12] rfl rfl rfl (by decide) rfl (Nat.le_of_ble_eq_true rfl) rfl (fun _ => rfl) dL_law_446 rfl (fun r446 hf => ?_)
                refine j_iload (pc' := 451) hX dL_law_449 1 rfl rfl ?_
                refine j_icmp_eq (tgt := 456) (pc' := 454) hX dL_law_451 (by decide) rfl hf (fun hf => ?_) (fun hf => ?_)
                · refine j_iload (pc' := 458) hX dL_law_456 1 rfl rfl ?_
                  refine j_if_ne (tgt := 473) (pc' := 461) hX dL_law_458 (by decide) rfl hf (fun hf => ?_) (fun hf => ?_)
                  · refine j_goto (tgt := 1399) hX dL_law_473 (by decide) ?_
                    refine j_iinc (pc' := 1402) (cst := 4) (v := (i + 4)) (lv' := [(4, .int (i + 4)), (6, .int r440), (5, .int r428), (0, .ref b), (1, .ref (pa 0)), (2, .ref d0), (3, .ref o0)]) hX dL_law_1399 (by decide) rfl 6 rfl (by decide) rfl rfl ?_
                    refine j_goto (tgt := 23) hX dL_law_1402 (by decide) ?_
                    refine J_sub (lv' := [(0, .ref b), (1, .ref (pa 0)), (2, .ref d0), (3, .ref o0), (4, .int (i + 4))]) [3, 4, 5, 6, 0] rfl ?_
                    exact ih (i + 4) u428_9.1 u440_10 u428_9.2 (k + 1) (n + 6) hf (by omega) (by omega)
                  · refine j_aload_n (pc' := 462) hX dL_law_461 rfl 5 rfl rfl ?_
                    refine j_iconst (pc' := 463) (v := 0) hX dL_law_462 (by decide) rfl ?_
                    refine j_lald (pc' := 464) hX 54 rfl dL_law_463 ⟨by unfold vp_in; decide, hf⟩ rfl (fun hf => ?_)
                    refine j_iload (pc' := 466) hX dL_law_464 0 rfl rfl ?_
                    refine j_i2l (pc' := 467) hX dL_law_466 rfl ?_
                    refine j_lcmp (pc' := 468) hX dL_law_467 rfl ?_
                    refine j_if_eq (tgt := 473) (pc' := 471) hX dL_law_468 (by decide) rfl hf (fun hf => ?_) (fun hf => ?_)
                    · refine j_goto (tgt := 1399) hX dL_law_473 (by decide) ?_
                      refine j_iinc (pc' := 1402) (cst := 4) (v := (i + 4)) (lv' := [(4, .int (i + 4)), (6, .int r440), (5, .int r428), (0, .ref b), (1, .ref (pa 0)), (2, .ref d0), (3, .ref o0)]) hX dL_law_1399 (by decide) rfl 6 rfl (by decide) rfl rfl ?_
                      refine j_goto (tgt := 23) hX dL_law_1402 (by decide) ?_
                      refine J_sub (lv' := [(0, .ref b), (1, .ref (pa 0)), (2, .ref d0), (3, .ref o0), (4, .int (i + 4))]) [3, 4, 5, 6, 0] rfl ?_
                      exact ih (i + 4) u428_9.1 u440_10 u428_9.2 (k + 1) (n + 6) hf (by omega) (by omega)
                    · refine j_iconst (pc' := 472) (v := 0) hX dL_law_471 (by decide) rfl ?_
                      exact False.elim hf
                · refine j_iconst (pc' := 455) (v := 0) hX dL_law_454 (by decide) rfl ?_
                  exact False.elim hf
              · replace hf := hf.2 hs4
                by_cases hs5 : ((xs i.toNatClampNeg) &&& 31) = 5
                · replace hf := hf.1 hs5
                  refine j_tswI (tgt := 476) (cst := 5) hX dL_law_39 hs5 (by decide) (by decide) rfl (by decide) ?_
                  refine j_aload_n (pc' := 477) hX dL_law_476 rfl 1 rfl rfl ?_
                  refine j_callVMb (ci := 4) (nb := 14) (pc' := 480) (k' := k) (n' := n) (As := []) (rest := []) (stk := fun r477 => [.int r477]) (bs := (PcB g pa vp ++ [(MdW g d0 d1 d2 d3 d4 d5 d6 vd)] ++ [(ALW g o0 1 vo)])) (cs := (PcB g pa vp)) (rs := (List.map (fun i : Nat => List.getD (PcB g pa vp ++ [(MdW g d0 d1 d2 d3 d4 d5 d6 vd)] ++ [(ALW g o0 1 vo)]) i []) [12, 13])) (ws' := fun u477_11 => ((PcB g pa u477_11 ++ [(MdW g d0 d1 d2 d3 d4 d5 d6 vd)] ++ [(ALW g o0 1 vo)]).flatten)) (bs' := fun u477_11 => (PcB g pa u477_11 ++ [(MdW g d0 d1 d2 d3 d4 d5 d6 vd)] ++ [(ALW g o0 1 vo)])) (d1 := fun u477_11 => (PcB g pa u477_11)) hX hW (fun l => met_X4_fillAll l g pa vp _ hf) rfl gL_law_X4_fillAll yoX4_fillAll rfl ⟨Nat.le_of_ble_eq_true rfl, Nat.le_of_ble_eq_true rfl⟩ ⟨Nat.le_refl _, Nat.le_refl _, hk0, hn0⟩ 0 rfl rfl [12, 13, 0, 1, 2, 3, 4, 5, 6, 7, 8, 9, 10, 11] rfl rfl rfl (by decide) rfl (fun _ => rfl) (fun _ => rfl) (fun _ => rfl) (fun _ => rfl) (Nat.le_of_ble_eq_true rfl) rfl (fun _ => rfl) dL_law_477 rfl (fun r477 u477_11 hf => ?_)
                  refine j_aload_n (pc' := 481) hX dL_law_480 rfl 2 rfl rfl ?_
                  refine j_callVMb (ci := 5) (nb := 14) (pc' := 484) (k' := k) (n' := n) (As := []) (rest := [.int r477]) (stk := fun r481 => [.int r481, .int r477]) (bs := (PcB g pa u477_11 ++ [(MdW g d0 d1 d2 d3 d4 d5 d6 vd)] ++ [(ALW g o0 1 vo)])) (cs := ([(MdW g d0 d1 d2 d3 d4 d5 d6 vd)])) (rs := (List.map (fun i : Nat => List.getD (PcB g pa u477_11 ++ [(MdW g d0 d1 d2 d3 d4 d5 d6 vd)] ++ [(ALW g o0 1 vo)]) i []) [0, 1, 2, 3, 4, 5, 6, 7, 8, 9, 10, 11, 13])) (ws' := fun u481_12 => ((PcB g pa u477_11 ++ [(MdW g d0 d1 d2 d3 d4 d5 d6 u481_12)] ++ [(ALW g o0 1 vo)]).flatten)) (bs' := fun u481_12 => (PcB g pa u477_11 ++ [(MdW g d0 d1 d2 d3 d4 d5 d6 u481_12)] ++ [(ALW g o0 1 vo)])) (d1 := fun u481_12 => ([(MdW g d0 d1 d2 d3 d4 d5 d6 u481_12)])) hX hW (fun l => met_X5_fillAll l g d0 d1 d2 d3 d4 d5 d6 vd _ hf) rfl gL_law_X5_fillAll yoX5_fillAll rfl ⟨Nat.le_of_ble_eq_true rfl, Nat.le_of_ble_eq_true rfl⟩ ⟨Nat.le_refl _, Nat.le_refl _, hk0, hn0⟩ 0 rfl rfl [0, 1, 2, 3, 4, 5, 6, 7, 8, 9, 10, 11, 13, 12] rfl rfl rfl (by decide) rfl (fun _ => rfl) (fun _ => rfl) (fun _ => rfl) (fun _ => rfl) (Nat.le_of_ble_eq_true rfl) rfl (fun _ => rfl) dL_law_481 rfl (fun r481 u481_12 hf => ?_)
                  refine j_icmp_eq (tgt := 1399) (pc' := 487) hX dL_law_484 (by decide) rfl hf (fun hf => ?_) (fun hf => ?_)
                  · refine j_iinc (pc' := 1402) (cst := 4) (v := (i + 4)) (lv' := [(4, .int (i + 4)), (0, .ref b), (1, .ref (pa 0)), (2, .ref d0), (3, .ref o0)]) hX dL_law_1399 (by decide) rfl 4 rfl (by decide) rfl rfl ?_
                    refine j_goto (tgt := 23) hX dL_law_1402 (by decide) ?_
                    refine J_sub (lv' := [(0, .ref b), (1, .ref (pa 0)), (2, .ref d0), (3, .ref o0), (4, .int (i + 4))]) [1, 2, 3, 4, 0] rfl ?_
                    exact ih (i + 4) u477_11 u481_12 vo k n hf (by omega) (by omega)
                  · refine j_iconst (pc' := 488) (v := 0) hX dL_law_487 (by decide) rfl ?_
                    exact False.elim hf
                · replace hf := hf.2 hs5
                  by_cases hs6 : ((xs i.toNatClampNeg) &&& 31) = 6
                  · replace hf := hf.1 hs6
                    refine j_tswI (tgt := 489) (cst := 6) hX dL_law_39 hs6 (by decide) (by decide) rfl (by decide) ?_
                    refine j_aload_n (pc' := 490) hX dL_law_489 rfl 1 rfl rfl ?_
                    refine j_aload_n (pc' := 491) hX dL_law_490 rfl 0 rfl rfl ?_
                    refine j_iload (pc' := 493) hX dL_law_491 4 rfl rfl ?_
                    refine j_iconst (pc' := 494) (v := 1) hX dL_law_493 (by decide) rfl ?_
                    refine j_iadd (pc' := 495) hX dL_law_494 rfl ?_
                    refine j_sld (pc' := 496) hX hScr dL_law_495 hf rfl (fun hf => ?_)
                    refine j_aload_n (pc' := 497) hX dL_law_496 rfl 0 rfl rfl ?_
                    refine j_iload (pc' := 499) hX dL_law_497 4 rfl rfl ?_
                    refine j_iconst (pc' := 500) (v := 2) hX dL_law_499 (by decide) rfl ?_
                    refine j_iadd (pc' := 501) hX dL_law_500 rfl ?_
                    refine j_sld (pc' := 502) hX hScr dL_law_501 hf rfl (fun hf => ?_)
                    refine j_aload_n (pc' := 503) hX dL_law_502 rfl 3 rfl rfl ?_
                    refine j_callSEb (nb := 14) (pc' := 506) (k' := k + 3) (n' := n + 18) (As := [.ref (pa 0), .int (xs (i + 1).toNatClampNeg), .int (xs (i + 2).toNatClampNeg), .ref o0]) (rest := []) (stk := fun r503 => [.int r503]) (bs := (PcB g pa vp ++ [(MdW g d0 d1 d2 d3 d4 d5 d6 vd)] ++ [(ALW g o0 1 vo)])) (cs := (PcB g pa vp ++ [(ALW g o0 1 vo)])) (rs := (List.map (fun i : Nat => List.getD (PcB g pa vp ++ [(MdW g d0 d1 d2 d3 d4 d5 d6 vd)] ++ [(ALW g o0 1 vo)]) i []) [12])) (ws' := fun u503_13 => ((PcB g pa u503_13.1 ++ [(MdW g d0 d1 d2 d3 d4 d5 d6 vd)] ++ [(ALW g o0 1 (u503_13.2))]).flatten)) (bs' := fun u503_13 => (PcB g pa u503_13.1 ++ [(MdW g d0 d1 d2 d3 d4 d5 d6 vd)] ++ [(ALW g o0 1 (u503_13.2))])) (d1 := fun u503_13 => (PcB g pa u503_13.1 ++ [(ALW g o0 1 (u503_13.2))])) hX hW hE (fun l => met_L_set l g pa o0 vp vo (xs (i + 1).toNatClampNeg) (xs (i + 2).toNatClampNeg) _ hf) rfl gL_law_L_set yoL_set rfl ⟨Nat.le_of_ble_eq_true rfl, Nat.le_of_ble_eq_true rfl⟩ ⟨Nat.le_refl _, Nat.le_refl _, hk3, hn18⟩ [12, 0, 1, 2, 3, 4, 5, 6, 7, 8, 9, 10, 11, 13] rfl rfl rfl (by decide) rfl (fun _ => rfl) (fun _ => rfl) (fun _ => rfl) (fun _ => rfl) (Nat.le_of_ble_eq_true rfl) rfl (fun _ => rfl) dL_law_503 rfl (fun r503 u503_13 hf => ?_)
                    refine j_istore (pc' := 508) (lv' := [(5, .int r503), (0, .ref b), (1, .ref (pa 0)), (2, .ref d0), (3, .ref o0), (4, .int i)]) hX dL_law_506 (by decide) rfl rfl ?_
                    refine j_aload_n (pc' := 509) hX dL_law_508 rfl 3 rfl rfl ?_
                    refine j_aload_n (pc' := 510) hX dL_law_509 rfl 1 rfl rfl ?_
                    refine j_iload (pc' := 512) hX dL_law_510 5 rfl rfl ?_
                    refine j_iconst (pc' := 513) (v := 1) hX dL_law_512 (by decide) rfl ?_
                    refine j_iadd (pc' := 514) hX dL_law_513 rfl ?_
                    refine j_sld (pc' := 515) hX hScr dL_law_514 hf rfl (fun hf => ?_)
                    refine j_aload_n (pc' := 516) hX dL_law_515 rfl 1 rfl rfl ?_
                    refine j_iload (pc' := 518) hX dL_law_516 5 rfl rfl ?_
                    refine j_iconst (pc' := 519) (v := 2) hX dL_law_518 (by decide) rfl ?_
                    refine j_iadd (pc' := 520) hX dL_law_519 rfl ?_
                    refine j_sld (pc' := 521) hX hScr dL_law_520 hf rfl (fun hf => ?_)
                    refine j_callVMb (ci := 5) (nb := 14) (pc' := 524) (k' := k + 3) (n' := n + 18) (As := [.int (xs (i + 1).toNatClampNeg), .int (xs (i + 2).toNatClampNeg)]) (rest := []) (stk := fun r521 => [.int r521]) (bs := (PcB g pa u503_13.1 ++ [(MdW g d0 d1 d2 d3 d4 d5 d6 vd)] ++ [(ALW g o0 1 (u503_13.2))])) (cs := ([(MdW g d0 d1 d2 d3 d4 d5 d6 vd)])) (rs := (List.map (fun i : Nat => List.getD (PcB g pa u503_13.1 ++ [(MdW g d0 d1 d2 d3 d4 d5 d6 vd)] ++ [(ALW g o0 1 (u503_13.2))]) i []) [0, 1, 2, 3, 4, 5, 6, 7, 8, 9, 10, 11, 13])) (ws' := fun u521_14 => ((PcB g pa u503_13.1 ++ [(MdW g d0 d1 d2 d3 d4 d5 d6 u521_14)] ++ [(ALW g o0 1 (u503_13.2))]).flatten)) (bs' := fun u521_14 => (PcB g pa u503_13.1 ++ [(MdW g d0 d1 d2 d3 d4 d5 d6 u521_14)] ++ [(ALW g o0 1 (u503_13.2))])) (d1 := fun u521_14 => ([(MdW g d0 d1 d2 d3 d4 d5 d6 u521_14)])) hX hW (fun l => met_X5_set l g d0 d1 d2 d3 d4 d5 d6 vd (xs (i + 1).toNatClampNeg) (xs (i + 2).toNatClampNeg) _ hf) rfl gL_law_X5_set yoX5_set rfl ⟨Nat.le_of_ble_eq_true rfl, Nat.le_of_ble_eq_true rfl⟩ ⟨Nat.le_refl _, Nat.le_refl _, hk3, hn18⟩ 0 rfl rfl [0, 1, 2, 3, 4, 5, 6, 7, 8, 9, 10, 11, 13, 12] rfl rfl rfl (by decide) rfl (fun _ => rfl) (fun _ => rfl) (fun _ => rfl) (fun _ => rfl) (Nat.le_of_ble_eq_true rfl) rfl (fun _ => rfl) dL_law_521 rfl (fun r521 u521_14 hf => ?_)
                    refine j_istore (pc' := 526) (lv' := [(6, .int r521), (5, .int r503), (0, .ref b), (1, .ref (pa 0)), (2, .ref d0), (3, .ref o0), (4, .int i)]) hX dL_law_524 (by decide) rfl rfl ?_
                    refine j_aload_n (pc' := 527) hX dL_law_526 rfl 4 rfl rfl ?_
                    refine j_callVRb (ci := 5) (nb := 14) (pc' := 530) (As := []) (rest := []) (stk := fun r527 => [.int r527]) (bs := (PcB g pa u503_13.1 ++ [(MdW g d0 d1 d2 d3 d4 d5 d6 u521_14)] ++ [(ALW g o0 1 (u503_13.2))])) (cs := ([(MdW g d0 d1 d2 d3 d4 d5 d6 u521_14)])) (rs := (List.map (fun i : Nat => List.getD (PcB g pa u503_13.1 ++ [(MdW g d0 d1 d2 d3 d4 d5 d6 u521_14)] ++ [(ALW g o0 1 (u503_13.2))]) i []) [0, 1, 2, 3, 4, 5, 6, 7, 8, 9, 10, 11, 13])) hX (fun l => met_X5_thrown l g d0 d1 d2 d3 d4 d5 d6 u521_14 _ hf) rfl gL_law_X5_thrown yoX5_thrown rfl ⟨Nat.le_of_ble_eq_true rfl, Nat.le_of_ble_eq_true rfl⟩ ⟨⟨hk3, hn18⟩, rfl, rfl⟩ 0 rfl rfl [0, 1, 2, 3, 4, 5, 6, 7, 8, 9, 10, 11, 13, 12] rfl rfl rfl (by decide) rfl (Nat.le_of_ble_eq_true rfl) rfl (fun _ => rfl) dL_law_527 rfl (fun r527 hf => ?_)
                    refine j_iload (pc' := 532) hX dL_law_530 1 rfl rfl ?_
                    refine j_icmp_eq (tgt := 537) (pc' := 535) hX dL_law_532 (by decide) rfl hf (fun hf => ?_) (fun hf => ?_)
                    · refine j_iload (pc' := 539) hX dL_law_537 1 rfl rfl ?_
                      refine j_if_ne (tgt := 554) (pc' := 542) hX dL_law_539 (by decide) rfl hf (fun hf => ?_) (fun hf => ?_)
                      · refine j_goto (tgt := 1399) hX dL_law_554 (by decide) ?_
                        refine j_iinc (pc' := 1402) (cst := 4) (v := (i + 4)) (lv' := [(4, .int (i + 4)), (6, .int r521), (5, .int r503), (0, .ref b), (1, .ref (pa 0)), (2, .ref d0), (3, .ref o0)]) hX dL_law_1399 (by decide) rfl 6 rfl (by decide) rfl rfl ?_
                        refine j_goto (tgt := 23) hX dL_law_1402 (by decide) ?_
                        refine J_sub (lv' := [(0, .ref b), (1, .ref (pa 0)), (2, .ref d0), (3, .ref o0), (4, .int (i + 4))]) [3, 4, 5, 6, 0] rfl ?_
                        exact ih (i + 4) u503_13.1 u521_14 u503_13.2 (k + 3) (n + 18) hf (by omega) (by omega)
                      · refine j_aload_n (pc' := 543) hX dL_law_542 rfl 5 rfl rfl ?_
                        refine j_iconst (pc' := 544) (v := 0) hX dL_law_543 (by decide) rfl ?_
                        refine j_lald (pc' := 545) hX 54 rfl dL_law_544 ⟨by unfold vp_in; decide, hf⟩ rfl (fun hf => ?_)
                        refine j_iload (pc' := 547) hX dL_law_545 0 rfl rfl ?_
                        refine j_i2l (pc' := 548) hX dL_law_547 rfl ?_
                        refine j_lcmp (pc' := 549) hX dL_law_548 rfl ?_
                        refine j_if_eq (tgt := 554) (pc' := 552) hX dL_law_549 (by decide) rfl hf (fun hf => ?_) (fun hf => ?_)
                        · refine j_goto (tgt := 1399) hX dL_law_554 (by decide) ?_
                          refine j_iinc (pc' := 1402) (cst := 4) (v := (i + 4)) (lv' := [(4, .int (i + 4)), (6, .int r521), (5, .int r503), (0, .ref b), (1, .ref (pa 0)), (2, .ref d0), (3, .ref o0)]) hX dL_law_1399 (by decide) rfl 6 rfl (by decide) rfl rfl ?_
                          refine j_goto (tgt := 23) hX dL_law_1402 (by decide) ?_
                          refine J_sub (lv' := [(0, .ref b), (1, .ref (pa 0)), (2, .ref d0), (3, .ref o0), (4, .int (i + 4))]) [3, 4, 5, 6, 0] rfl ?_
                          exact ih (i + 4) u503_13.1 u521_14 u503_13.2 (k + 3) (n + 18) hf (by omega) (by omega)
                        · refine j_iconst (pc' := 553) (v := 0) hX dL_law_552 (by decide) rfl ?_
                          exact False.elim hf
                    · refine j_iconst (pc' := 536) (v := 0) hX dL_law_535 (by decide) rfl ?_
                      exact False.elim hf
                  · replace hf := hf.2 hs6
                    by_cases hs7 : ((xs i.toNatClampNeg) &&& 31) = 7
                    · replace hf := hf.1 hs7
                      refine j_tswI (tgt := 557) (cst := 7) hX dL_law_39 hs7 (by decide) (by decide) rfl (by decide) ?_
                      refine j_aload_n (pc' := 558) hX dL_law_557 rfl 1 rfl rfl ?_
                      refine j_aload_n (pc' := 559) hX dL_law_558 rfl 0 rfl rfl ?_
                      refine j_iload (pc' := 561) hX dL_law_559 4 rfl rfl ?_
                      refine j_iconst (pc' := 562) (v := 1) hX dL_law_561 (by decide) rfl ?_
                      refine j_iadd (pc' := 563) hX dL_law_562 rfl ?_
                      refine j_sld (pc' := 564) hX hScr dL_law_563 hf rfl (fun hf => ?_)
                      refine j_aload_n (pc' := 565) hX dL_law_564 rfl 3 rfl rfl ?_
                      refine j_callSEb (nb := 14) (pc' := 568) (k' := k + 2) (n' := n + 12) (As := [.ref (pa 0), .int (xs (i + 1).toNatClampNeg), .ref o0]) (rest := []) (stk := fun r565 => [.int r565]) (bs := (PcB g pa vp ++ [(MdW g d0 d1 d2 d3 d4 d5 d6 vd)] ++ [(ALW g o0 1 vo)])) (cs := (PcB g pa vp ++ [(ALW g o0 1 vo)])) (rs := (List.map (fun i : Nat => List.getD (PcB g pa vp ++ [(MdW g d0 d1 d2 d3 d4 d5 d6 vd)] ++ [(ALW g o0 1 vo)]) i []) [12])) (ws' := fun u565_15 => ((PcB g pa u565_15.1 ++ [(MdW g d0 d1 d2 d3 d4 d5 d6 vd)] ++ [(ALW g o0 1 (u565_15.2))]).flatten)) (bs' := fun u565_15 => (PcB g pa u565_15.1 ++ [(MdW g d0 d1 d2 d3 d4 d5 d6 vd)] ++ [(ALW g o0 1 (u565_15.2))])) (d1 := fun u565_15 => (PcB g pa u565_15.1 ++ [(ALW g o0 1 (u565_15.2))])) hX hW hE (fun l => met_L_append l g pa o0 vp vo (xs (i + 1).toNatClampNeg) _ hf) rfl gL_law_L_append yoL_append rfl ⟨Nat.le_of_ble_eq_true rfl, Nat.le_of_ble_eq_true rfl⟩ ⟨Nat.le_refl _, Nat.le_refl _, hk2, hn12⟩ [12, 0, 1, 2, 3, 4, 5, 6, 7, 8, 9, 10, 11, 13] rfl rfl rfl (by decide) rfl (fun _ => rfl) (fun _ => rfl) (fun _ => rfl) (fun _ => rfl) (Nat.le_of_ble_eq_true rfl) rfl (fun _ => rfl) dL_law_565 rfl (fun r565 u565_15 hf => ?_)
                      refine j_istore (pc' := 570) (lv' := [(5, .int r565), (0, .ref b), (1, .ref (pa 0)), (2, .ref d0), (3, .ref o0), (4, .int i)]) hX dL_law_568 (by decide) rfl rfl ?_
                      refine j_aload_n (pc' := 571) hX dL_law_570 rfl 3 rfl rfl ?_
                      refine j_aload_n (pc' := 572) hX dL_law_571 rfl 1 rfl rfl ?_
                      refine j_iload (pc' := 574) hX dL_law_572 5 rfl rfl ?_
                      refine j_iconst (pc' := 575) (v := 1) hX dL_law_574 (by decide) rfl ?_
                      refine j_iadd (pc' := 576) hX dL_law_575 rfl ?_
                      refine j_sld (pc' := 577) hX hScr dL_law_576 hf rfl (fun hf => ?_)
                      refine j_callVMb (ci := 5) (nb := 14) (pc' := 580) (k' := k + 2) (n' := n + 12) (As := [.int (xs (i + 1).toNatClampNeg)]) (rest := []) (stk := fun r577 => [.int r577]) (bs := (PcB g pa u565_15.1 ++ [(MdW g d0 d1 d2 d3 d4 d5 d6 vd)] ++ [(ALW g o0 1 (u565_15.2))])) (cs := ([(MdW g d0 d1 d2 d3 d4 d5 d6 vd)])) (rs := (List.map (fun i : Nat => List.getD (PcB g pa u565_15.1 ++ [(MdW g d0 d1 d2 d3 d4 d5 d6 vd)] ++ [(ALW g o0 1 (u565_15.2))]) i []) [0, 1, 2, 3, 4, 5, 6, 7, 8, 9, 10, 11, 13])) (ws' := fun u577_16 => ((PcB g pa u565_15.1 ++ [(MdW g d0 d1 d2 d3 d4 d5 d6 u577_16)] ++ [(ALW g o0 1 (u565_15.2))]).flatten)) (bs' := fun u577_16 => (PcB g pa u565_15.1 ++ [(MdW g d0 d1 d2 d3 d4 d5 d6 u577_16)] ++ [(ALW g o0 1 (u565_15.2))])) (d1 := fun u577_16 => ([(MdW g d0 d1 d2 d3 d4 d5 d6 u577_16)])) hX hW (fun l => met_X5_append l g d0 d1 d2 d3 d4 d5 d6 vd (xs (i + 1).toNatClampNeg) _ hf) rfl gL_law_X5_append yoX5_append rfl ⟨Nat.le_of_ble_eq_true rfl, Nat.le_of_ble_eq_true rfl⟩ ⟨Nat.le_refl _, Nat.le_refl _, hk2, hn12⟩ 0 rfl rfl [0, 1, 2, 3, 4, 5, 6, 7, 8, 9, 10, 11, 13, 12] rfl rfl rfl (by decide) rfl (fun _ => rfl) (fun _ => rfl) (fun _ => rfl) (fun _ => rfl) (Nat.le_of_ble_eq_true rfl) rfl (fun _ => rfl) dL_law_577 rfl (fun r577 u577_16 hf => ?_)
                      refine j_istore (pc' := 582) (lv' := [(6, .int r577), (5, .int r565), (0, .ref b), (1, .ref (pa 0)), (2, .ref d0), (3, .ref o0), (4, .int i)]) hX dL_law_580 (by decide) rfl rfl ?_
                      refine j_aload_n (pc' := 583) hX dL_law_582 rfl 4 rfl rfl ?_
                      refine j_callVRb (ci := 5) (nb := 14) (pc' := 586) (As := []) (rest := []) (stk := fun r583 => [.int r583]) (bs := (PcB g pa u565_15.1 ++ [(MdW g d0 d1 d2 d3 d4 d5 d6 u577_16)] ++ [(ALW g o0 1 (u565_15.2))])) (cs := ([(MdW g d0 d1 d2 d3 d4 d5 d6 u577_16)])) (rs := (List.map (fun i : Nat => List.getD (PcB g pa u565_15.1 ++ [(MdW g d0 d1 d2 d3 d4 d5 d6 u577_16)] ++ [(ALW g o0 1 (u565_15.2))]) i []) [0, 1, 2, 3, 4, 5, 6, 7, 8, 9, 10, 11, 13])) hX (fun l => met_X5_thrown l g d0 d1 d2 d3 d4 d5 d6 u577_16 _ hf) rfl gL_law_X5_thrown yoX5_thrown rfl ⟨Nat.le_of_ble_eq_true rfl, Nat.le_of_ble_eq_true rfl⟩ ⟨⟨hk2, hn12⟩, rfl, rfl⟩ 0 rfl rfl [0, 1, 2, 3, 4, 5, 6, 7, 8, 9, 10, 11, 13, 12] rfl rfl rfl (by decide) rfl (Nat.le_of_ble_eq_true rfl) rfl (fun _ => rfl) dL_law_583 rfl (fun r583 hf => ?_)
                      refine j_iload (pc' := 588) hX dL_law_586 1 rfl rfl ?_
                      refine j_icmp_eq (tgt := 593) (pc' := 591) hX dL_law_588 (by decide) rfl hf (fun hf => ?_) (fun hf => ?_)
                      · refine j_iload (pc' := 595) hX dL_law_593 1 rfl rfl ?_
                        refine j_if_ne (tgt := 610) (pc' := 598) hX dL_law_595 (by decide) rfl hf (fun hf => ?_) (fun hf => ?_)
                        · refine j_goto (tgt := 1399) hX dL_law_610 (by decide) ?_
                          refine j_iinc (pc' := 1402) (cst := 4) (v := (i + 4)) (lv' := [(4, .int (i + 4)), (6, .int r577), (5, .int r565), (0, .ref b), (1, .ref (pa 0)), (2, .ref d0), (3, .ref o0)]) hX dL_law_1399 (by decide) rfl 6 rfl (by decide) rfl rfl ?_
                          refine j_goto (tgt := 23) hX dL_law_1402 (by decide) ?_
                          refine J_sub (lv' := [(0, .ref b), (1, .ref (pa 0)), (2, .ref d0), (3, .ref o0), (4, .int (i + 4))]) [3, 4, 5, 6, 0] rfl ?_
                          exact ih (i + 4) u565_15.1 u577_16 u565_15.2 (k + 2) (n + 12) hf (by omega) (by omega)
                        · refine j_aload_n (pc' := 599) hX dL_law_598 rfl 5 rfl rfl ?_
                          refine j_iconst (pc' := 600) (v := 0) hX dL_law_599 (by decide) rfl ?_
                          refine j_lald (pc' := 601) hX 54 rfl dL_law_600 ⟨by unfold vp_in; decide, hf⟩ rfl (fun hf => ?_)
                          refine j_iload (pc' := 603) hX dL_law_601 0 rfl rfl ?_
                          refine j_i2l (pc' := 604) hX dL_law_603 rfl ?_
                          refine j_lcmp (pc' := 605) hX dL_law_604 rfl ?_
                          refine j_if_eq (tgt := 610) (pc' := 608) hX dL_law_605 (by decide) rfl hf (fun hf => ?_) (fun hf => ?_)
                          · refine j_goto (tgt := 1399) hX dL_law_610 (by decide) ?_
                            refine j_iinc (pc' := 1402) (cst := 4) (v := (i + 4)) (lv' := [(4, .int (i + 4)), (6, .int r577), (5, .int r565), (0, .ref b), (1, .ref (pa 0)), (2, .ref d0), (3, .ref o0)]) hX dL_law_1399 (by decide) rfl 6 rfl (by decide) rfl rfl ?_
                            refine j_goto (tgt := 23) hX dL_law_1402 (by decide) ?_
                            refine J_sub (lv' := [(0, .ref b), (1, .ref (pa 0)), (2, .ref d0), (3, .ref o0), (4, .int (i + 4))]) [3, 4, 5, 6, 0] rfl ?_
                            exact ih (i + 4) u565_15.1 u577_16 u565_15.2 (k + 2) (n + 12) hf (by omega) (by omega)
                          · refine j_iconst (pc' := 609) (v := 0) hX dL_law_608 (by decide) rfl ?_
                            exact False.elim hf
                      · refine j_iconst (pc' := 592) (v := 0) hX dL_law_591 (by decide) rfl ?_
                        exact False.elim hf
                    · replace hf := hf.2 hs7
                      by_cases hs8 : ((xs i.toNatClampNeg) &&& 31) = 8
                      · replace hf := hf.1 hs8
                        refine j_tswI (tgt := 613) (cst := 8) hX dL_law_39 hs8 (by decide) (by decide) rfl (by decide) ?_
                        refine j_aload_n (pc' := 614) hX dL_law_613 rfl 1 rfl rfl ?_
                        refine j_callVMb (ci := 4) (nb := 14) (pc' := 617) (k' := k) (n' := n) (As := []) (rest := []) (stk := fun r614 => [.int r614]) (bs := (PcB g pa vp ++ [(MdW g d0 d1 d2 d3 d4 d5 d6 vd)] ++ [(ALW g o0 1 vo)])) (cs := (PcB g pa vp)) (rs := (List.map (fun i : Nat => List.getD (PcB g pa vp ++ [(MdW g d0 d1 d2 d3 d4 d5 d6 vd)] ++ [(ALW g o0 1 vo)]) i []) [12, 13])) (ws' := fun u614_17 => ((PcB g pa u614_17 ++ [(MdW g d0 d1 d2 d3 d4 d5 d6 vd)] ++ [(ALW g o0 1 vo)]).flatten)) (bs' := fun u614_17 => (PcB g pa u614_17 ++ [(MdW g d0 d1 d2 d3 d4 d5 d6 vd)] ++ [(ALW g o0 1 vo)])) (d1 := fun u614_17 => (PcB g pa u614_17)) hX hW (fun l => met_X4_clearBuffer l g pa vp _ hf) rfl gL_law_X4_clearBuffer yoX4_clearBuffer rfl ⟨Nat.le_of_ble_eq_true rfl, Nat.le_of_ble_eq_true rfl⟩ ⟨Nat.le_refl _, Nat.le_refl _, hk0, hn0⟩ 0 rfl rfl [12, 13, 0, 1, 2, 3, 4, 5, 6, 7, 8, 9, 10, 11] rfl rfl rfl (by decide) rfl (fun _ => rfl) (fun _ => rfl) (fun _ => rfl) (fun _ => rfl) (Nat.le_of_ble_eq_true rfl) rfl (fun _ => rfl) dL_law_614 rfl (fun r614 u614_17 hf => ?_)
                        refine j_aload_n (pc' := 618) hX dL_law_617 rfl 2 rfl rfl ?_
                        refine j_callVMb (ci := 5) (nb := 14) (pc' := 621) (k' := k) (n' := n) (As := []) (rest := [.int r614]) (stk := fun r618 => [.int r618, .int r614]) (bs := (PcB g pa u614_17 ++ [(MdW g d0 d1 d2 d3 d4 d5 d6 vd)] ++ [(ALW g o0 1 vo)])) (cs := ([(MdW g d0 d1 d2 d3 d4 d5 d6 vd)])) (rs := (List.map (fun i : Nat => List.getD (PcB g pa u614_17 ++ [(MdW g d0 d1 d2 d3 d4 d5 d6 vd)] ++ [(ALW g o0 1 vo)]) i []) [0, 1, 2, 3, 4, 5, 6, 7, 8, 9, 10, 11, 13])) (ws' := fun u618_18 => ((PcB g pa u614_17 ++ [(MdW g d0 d1 d2 d3 d4 d5 d6 u618_18)] ++ [(ALW g o0 1 vo)]).flatten)) (bs' := fun u618_18 => (PcB g pa u614_17 ++ [(MdW g d0 d1 d2 d3 d4 d5 d6 u618_18)] ++ [(ALW g o0 1 vo)])) (d1 := fun u618_18 => ([(MdW g d0 d1 d2 d3 d4 d5 d6 u618_18)])) hX hW (fun l => met_X5_clearBuffer l g d0 d1 d2 d3 d4 d5 d6 vd _ hf) rfl gL_law_X5_clearBuffer yoX5_clearBuffer rfl ⟨Nat.le_of_ble_eq_true rfl, Nat.le_of_ble_eq_true rfl⟩ ⟨Nat.le_refl _, Nat.le_refl _, hk0, hn0⟩ 0 rfl rfl [0, 1, 2, 3, 4, 5, 6, 7, 8, 9, 10, 11, 13, 12] rfl rfl rfl (by decide) rfl (fun _ => rfl) (fun _ => rfl) (fun _ => rfl) (fun _ => rfl) (Nat.le_of_ble_eq_true rfl) rfl (fun _ => rfl) dL_law_618 rfl (fun r618 u618_18 hf => ?_)
                        refine j_icmp_eq (tgt := 1399) (pc' := 624) hX dL_law_621 (by decide) rfl hf (fun hf => ?_) (fun hf => ?_)
                        · refine j_iinc (pc' := 1402) (cst := 4) (v := (i + 4)) (lv' := [(4, .int (i + 4)), (0, .ref b), (1, .ref (pa 0)), (2, .ref d0), (3, .ref o0)]) hX dL_law_1399 (by decide) rfl 4 rfl (by decide) rfl rfl ?_
                          refine j_goto (tgt := 23) hX dL_law_1402 (by decide) ?_
                          refine J_sub (lv' := [(0, .ref b), (1, .ref (pa 0)), (2, .ref d0), (3, .ref o0), (4, .int (i + 4))]) [1, 2, 3, 4, 0] rfl ?_
                          exact ih (i + 4) u614_17 u618_18 vo k n hf (by omega) (by omega)
                        · refine j_iconst (pc' := 625) (v := 0) hX dL_law_624 (by decide) rfl ?_
                          exact False.elim hf
                      · replace hf := hf.2 hs8
                        by_cases hs9 : ((xs i.toNatClampNeg) &&& 31) = 9
                        · replace hf := hf.1 hs9
                          refine j_tswI (tgt := 626) (cst := 9) hX dL_law_39 hs9 (by decide) (by decide) rfl (by decide) ?_
                          refine j_aload_n (pc' := 627) hX dL_law_626 rfl 1 rfl rfl ?_
                          refine j_callVRb (ci := 4) (nb := 14) (pc' := 630) (As := []) (rest := []) (stk := fun r627 => [.int r627]) (bs := (PcB g pa vp ++ [(MdW g d0 d1 d2 d3 d4 d5 d6 vd)] ++ [(ALW g o0 1 vo)])) (cs := (PcB g pa vp)) (rs := (List.map (fun i : Nat => List.getD (PcB g pa vp ++ [(MdW g d0 d1 d2 d3 d4 d5 d6 vd)] ++ [(ALW g o0 1 vo)]) i []) [12, 13])) hX (fun l => met_X4_firstError l g pa vp _ hf) rfl gL_law_X4_firstError yoX4_firstError rfl ⟨Nat.le_of_ble_eq_true rfl, Nat.le_of_ble_eq_true rfl⟩ ⟨⟨hk0, hn0⟩, rfl, rfl⟩ 0 rfl rfl [12, 13, 0, 1, 2, 3, 4, 5, 6, 7, 8, 9, 10, 11] rfl rfl rfl (by decide) rfl (Nat.le_of_ble_eq_true rfl) rfl (fun _ => rfl) dL_law_627 rfl (fun r627 hf => ?_)
                          refine j_aload_n (pc' := 631) hX dL_law_630 rfl 2 rfl rfl ?_
                          refine j_callVMb (ci := 5) (nb := 14) (pc' := 634) (k' := k) (n' := n) (As := []) (rest := [.int r627]) (stk := fun r631 => [.int r631, .int r627]) (bs := (PcB g pa vp ++ [(MdW g d0 d1 d2 d3 d4 d5 d6 vd)] ++ [(ALW g o0 1 vo)])) (cs := ([(MdW g d0 d1 d2 d3 d4 d5 d6 vd)])) (rs := (List.map (fun i : Nat => List.getD (PcB g pa vp ++ [(MdW g d0 d1 d2 d3 d4 d5 d6 vd)] ++ [(ALW g o0 1 vo)]) i []) [0, 1, 2, 3, 4, 5, 6, 7, 8, 9, 10, 11, 13])) (ws' := fun u631_19 => ((PcB g pa vp ++ [(MdW g d0 d1 d2 d3 d4 d5 d6 u631_19)] ++ [(ALW g o0 1 vo)]).flatten)) (bs' := fun u631_19 => (PcB g pa vp ++ [(MdW g d0 d1 d2 d3 d4 d5 d6 u631_19)] ++ [(ALW g o0 1 vo)])) (d1 := fun u631_19 => ([(MdW g d0 d1 d2 d3 d4 d5 d6 u631_19)])) hX hW (fun l => met_X5_firstError l g d0 d1 d2 d3 d4 d5 d6 vd _ hf) rfl gL_law_X5_firstError yoX5_firstError rfl ⟨Nat.le_of_ble_eq_true rfl, Nat.le_of_ble_eq_true rfl⟩ ⟨Nat.le_refl _, Nat.le_refl _, hk0, hn0⟩ 0 rfl rfl [0, 1, 2, 3, 4, 5, 6, 7, 8, 9, 10, 11, 13, 12] rfl rfl rfl (by decide) rfl (fun _ => rfl) (fun _ => rfl) (fun _ => rfl) (fun _ => rfl) (Nat.le_of_ble_eq_true rfl) rfl (fun _ => rfl) dL_law_631 rfl (fun r631 u631_19 hf => ?_)
                          refine j_icmp_eq (tgt := 1399) (pc' := 637) hX dL_law_634 (by decide) rfl hf (fun hf => ?_) (fun hf => ?_)
                          · refine j_iinc (pc' := 1402) (cst := 4) (v := (i + 4)) (lv' := [(4, .int (i + 4)), (0, .ref b), (1, .ref (pa 0)), (2, .ref d0), (3, .ref o0)]) hX dL_law_1399 (by decide) rfl 4 rfl (by decide) rfl rfl ?_
                            refine j_goto (tgt := 23) hX dL_law_1402 (by decide) ?_
                            refine J_sub (lv' := [(0, .ref b), (1, .ref (pa 0)), (2, .ref d0), (3, .ref o0), (4, .int (i + 4))]) [1, 2, 3, 4, 0] rfl ?_
                            exact ih (i + 4) vp u631_19 vo k n hf (by omega) (by omega)
                          · refine j_iconst (pc' := 638) (v := 0) hX dL_law_637 (by decide) rfl ?_
                            exact False.elim hf
                        · replace hf := hf.2 hs9
                          by_cases hs10 : ((xs i.toNatClampNeg) &&& 31) = 10
                          · replace hf := hf.1 hs10
                            refine j_tswI (tgt := 639) (cst := 10) hX dL_law_39 hs10 (by decide) (by decide) rfl (by decide) ?_
                            refine j_aload_n (pc' := 640) hX dL_law_639 rfl 1 rfl rfl ?_
                            refine j_aload_n (pc' := 641) hX dL_law_640 rfl 3 rfl rfl ?_
                            refine j_callSEb (nb := 14) (pc' := 644) (k' := k + 1) (n' := n + 6) (As := [.ref (pa 0), .ref o0]) (rest := []) (stk := fun r641 => [.int r641]) (bs := (PcB g pa vp ++ [(MdW g d0 d1 d2 d3 d4 d5 d6 vd)] ++ [(ALW g o0 1 vo)])) (cs := (PcB g pa vp ++ [(ALW g o0 1 vo)])) (rs := (List.map (fun i : Nat => List.getD (PcB g pa vp ++ [(MdW g d0 d1 d2 d3 d4 d5 d6 vd)] ++ [(ALW g o0 1 vo)]) i []) [12])) (ws' := fun u641_20 => ((PcB g pa u641_20.1 ++ [(MdW g d0 d1 d2 d3 d4 d5 d6 vd)] ++ [(ALW g o0 1 (u641_20.2))]).flatten)) (bs' := fun u641_20 => (PcB g pa u641_20.1 ++ [(MdW g d0 d1 d2 d3 d4 d5 d6 vd)] ++ [(ALW g o0 1 (u641_20.2))])) (d1 := fun u641_20 => (PcB g pa u641_20.1 ++ [(ALW g o0 1 (u641_20.2))])) hX hW hE (fun l => met_L_layAll l g pa o0 vp vo _ hf) rfl gL_law_L_layAll yoL_layAll rfl ⟨Nat.le_of_ble_eq_true rfl, Nat.le_of_ble_eq_true rfl⟩ ⟨Nat.le_refl _, Nat.le_refl _, hk1, hn6⟩ [12, 0, 1, 2, 3, 4, 5, 6, 7, 8, 9, 10, 11, 13] rfl rfl rfl (by decide) rfl (fun _ => rfl) (fun _ => rfl) (fun _ => rfl) (fun _ => rfl) (Nat.le_of_ble_eq_true rfl) rfl (fun _ => rfl) dL_law_641 rfl (fun r641 u641_20 hf => ?_)
                            refine j_istore (pc' := 646) (lv' := [(5, .int r641), (0, .ref b), (1, .ref (pa 0)), (2, .ref d0), (3, .ref o0), (4, .int i)]) hX dL_law_644 (by decide) rfl rfl ?_
                            refine j_aload_n (pc' := 647) hX dL_law_646 rfl 3 rfl rfl ?_
                            refine j_callVMb (ci := 5) (nb := 14) (pc' := 650) (k' := k + 1) (n' := n + 6) (As := []) (rest := []) (stk := fun r647 => [.int r647]) (bs := (PcB g pa u641_20.1 ++ [(MdW g d0 d1 d2 d3 d4 d5 d6 vd)] ++ [(ALW g o0 1 (u641_20.2))])) (cs := ([(MdW g d0 d1 d2 d3 d4 d5 d6 vd)])) (rs := (List.map (fun i : Nat => List.getD (PcB g pa u641_20.1 ++ [(MdW g d0 d1 d2 d3 d4 d5 d6 vd)] ++ [(ALW g o0 1 (u641_20.2))]) i []) [0, 1, 2, 3, 4, 5, 6, 7, 8, 9, 10, 11, 13])) (ws' := fun u647_21 => ((PcB g pa u641_20.1 ++ [(MdW g d0 d1 d2 d3 d4 d5 d6 u647_21)] ++ [(ALW g o0 1 (u641_20.2))]).flatten)) (bs' := fun u647_21 => (PcB g pa u641_20.1 ++ [(MdW g d0 d1 d2 d3 d4 d5 d6 u647_21)] ++ [(ALW g o0 1 (u641_20.2))])) (d1 := fun u647_21 => ([(MdW g d0 d1 d2 d3 d4 d5 d6 u647_21)])) hX hW (fun l => met_X5_layAll l g d0 d1 d2 d3 d4 d5 d6 vd _ hf) rfl gL_law_X5_layAll yoX5_layAll rfl ⟨Nat.le_of_ble_eq_true rfl, Nat.le_of_ble_eq_true rfl⟩ ⟨Nat.le_refl _, Nat.le_refl _, hk1, hn6⟩ 0 rfl rfl [0, 1, 2, 3, 4, 5, 6, 7, 8, 9, 10, 11, 13, 12] rfl rfl rfl (by decide) rfl (fun _ => rfl) (fun _ => rfl) (fun _ => rfl) (fun _ => rfl) (Nat.le_of_ble_eq_true rfl) rfl (fun _ => rfl) dL_law_647 rfl (fun r647 u647_21 hf => ?_)
                            refine j_istore (pc' := 652) (lv' := [(6, .int r647), (5, .int r641), (0, .ref b), (1, .ref (pa 0)), (2, .ref d0), (3, .ref o0), (4, .int i)]) hX dL_law_650 (by decide) rfl rfl ?_
                            refine j_aload_n (pc' := 653) hX dL_law_652 rfl 4 rfl rfl ?_
                            refine j_callVRb (ci := 5) (nb := 14) (pc' := 656) (As := []) (rest := []) (stk := fun r653 => [.int r653]) (bs := (PcB g pa u641_20.1 ++ [(MdW g d0 d1 d2 d3 d4 d5 d6 u647_21)] ++ [(ALW g o0 1 (u641_20.2))])) (cs := ([(MdW g d0 d1 d2 d3 d4 d5 d6 u647_21)])) (rs := (List.map (fun i : Nat => List.getD (PcB g pa u641_20.1 ++ [(MdW g d0 d1 d2 d3 d4 d5 d6 u647_21)] ++ [(ALW g o0 1 (u641_20.2))]) i []) [0, 1, 2, 3, 4, 5, 6, 7, 8, 9, 10, 11, 13])) hX (fun l => met_X5_thrown l g d0 d1 d2 d3 d4 d5 d6 u647_21 _ hf) rfl gL_law_X5_thrown yoX5_thrown rfl ⟨Nat.le_of_ble_eq_true rfl, Nat.le_of_ble_eq_true rfl⟩ ⟨⟨hk1, hn6⟩, rfl, rfl⟩ 0 rfl rfl [0, 1, 2, 3, 4, 5, 6, 7, 8, 9, 10, 11, 13, 12] rfl rfl rfl (by decide) rfl (Nat.le_of_ble_eq_true rfl) rfl (fun _ => rfl) dL_law_653 rfl (fun r653 hf => ?_)
                            refine j_iload (pc' := 658) hX dL_law_656 1 rfl rfl ?_
                            refine j_icmp_eq (tgt := 663) (pc' := 661) hX dL_law_658 (by decide) rfl hf (fun hf => ?_) (fun hf => ?_)
                            · refine j_iload (pc' := 665) hX dL_law_663 1 rfl rfl ?_
                              refine j_if_ne (tgt := 680) (pc' := 668) hX dL_law_665 (by decide) rfl hf (fun hf => ?_) (fun hf => ?_)
                              · refine j_goto (tgt := 1399) hX dL_law_680 (by decide) ?_
                                refine j_iinc (pc' := 1402) (cst := 4) (v := (i + 4)) (lv' := [(4, .int (i + 4)), (6, .int r647), (5, .int r641), (0, .ref b), (1, .ref (pa 0)), (2, .ref d0), (3, .ref o0)]) hX dL_law_1399 (by decide) rfl 6 rfl (by decide) rfl rfl ?_
                                refine j_goto (tgt := 23) hX dL_law_1402 (by decide) ?_
                                refine J_sub (lv' := [(0, .ref b), (1, .ref (pa 0)), (2, .ref d0), (3, .ref o0), (4, .int (i + 4))]) [3, 4, 5, 6, 0] rfl ?_
                                exact ih (i + 4) u641_20.1 u647_21 u641_20.2 (k + 1) (n + 6) hf (by omega) (by omega)
                              · refine j_aload_n (pc' := 669) hX dL_law_668 rfl 5 rfl rfl ?_
                                refine j_iconst (pc' := 670) (v := 0) hX dL_law_669 (by decide) rfl ?_
                                refine j_lald (pc' := 671) hX 54 rfl dL_law_670 ⟨by unfold vp_in; decide, hf⟩ rfl (fun hf => ?_)
                                refine j_iload (pc' := 673) hX dL_law_671 0 rfl rfl ?_
                                refine j_i2l (pc' := 674) hX dL_law_673 rfl ?_
                                refine j_lcmp (pc' := 675) hX dL_law_674 rfl ?_
                                refine j_if_eq (tgt := 680) (pc' := 678) hX dL_law_675 (by decide) rfl hf (fun hf => ?_) (fun hf => ?_)
                                · refine j_goto (tgt := 1399) hX dL_law_680 (by decide) ?_
                                  refine j_iinc (pc' := 1402) (cst := 4) (v := (i + 4)) (lv' := [(4, .int (i + 4)), (6, .int r647), (5, .int r641), (0, .ref b), (1, .ref (pa 0)), (2, .ref d0), (3, .ref o0)]) hX dL_law_1399 (by decide) rfl 6 rfl (by decide) rfl rfl ?_
                                  refine j_goto (tgt := 23) hX dL_law_1402 (by decide) ?_
                                  refine J_sub (lv' := [(0, .ref b), (1, .ref (pa 0)), (2, .ref d0), (3, .ref o0), (4, .int (i + 4))]) [3, 4, 5, 6, 0] rfl ?_
                                  exact ih (i + 4) u641_20.1 u647_21 u641_20.2 (k + 1) (n + 6) hf (by omega) (by omega)
                                · refine j_iconst (pc' := 679) (v := 0) hX dL_law_678 (by decide) rfl ?_
                                  exact False.elim hf
                            · refine j_iconst (pc' := 662) (v := 0) hX dL_law_661 (by decide) rfl ?_
                              exact False.elim hf
                          · replace hf := hf.2 hs10
                            by_cases hs11 : ((xs i.toNatClampNeg) &&& 31) = 11
                            · replace hf := hf.1 hs11
                              refine j_tswI (tgt := 683) (cst := 11) hX dL_law_39 hs11 (by decide) (by decide) rfl (by decide) ?_
                              refine j_aload_n (pc' := 684) hX dL_law_683 rfl 1 rfl rfl ?_
                              refine j_aload_n (pc' := 685) hX dL_law_684 rfl 3 rfl rfl ?_
                              refine j_callSEb (nb := 14) (pc' := 688) (k' := k + 1) (n' := n + 6) (As := [.ref (pa 0), .ref o0]) (rest := []) (stk := fun r685 => [.int r685]) (bs := (PcB g pa vp ++ [(MdW g d0 d1 d2 d3 d4 d5 d6 vd)] ++ [(ALW g o0 1 vo)])) (cs := (PcB g pa vp ++ [(ALW g o0 1 vo)])) (rs := (List.map (fun i : Nat => List.getD (PcB g pa vp ++ [(MdW g d0 d1 d2 d3 d4 d5 d6 vd)] ++ [(ALW g o0 1 vo)]) i []) [12])) (ws' := fun u685_22 => ((PcB g pa u685_22.1 ++ [(MdW g d0 d1 d2 d3 d4 d5 d6 vd)] ++ [(ALW g o0 1 (u685_22.2))]).flatten)) (bs' := fun u685_22 => (PcB g pa u685_22.1 ++ [(MdW g d0 d1 d2 d3 d4 d5 d6 vd)] ++ [(ALW g o0 1 (u685_22.2))])) (d1 := fun u685_22 => (PcB g pa u685_22.1 ++ [(ALW g o0 1 (u685_22.2))])) hX hW hE (fun l => met_L_undo l g pa o0 vp vo _ hf) rfl gL_law_L_undo yoL_undo rfl ⟨Nat.le_of_ble_eq_true rfl, Nat.le_of_ble_eq_true rfl⟩ ⟨Nat.le_refl _, Nat.le_refl _, hk1, hn6⟩ [12, 0, 1, 2, 3, 4, 5, 6, 7, 8, 9, 10, 11, 13] rfl rfl rfl (by decide) rfl (fun _ => rfl) (fun _ => rfl) (fun _ => rfl) (fun _ => rfl) (Nat.le_of_ble_eq_true rfl) rfl (fun _ => rfl) dL_law_685 rfl (fun r685 u685_22 hf => ?_)
                              refine j_istore (pc' := 690) (lv' := [(5, .int r685), (0, .ref b), (1, .ref (pa 0)), (2, .ref d0), (3, .ref o0), (4, .int i)]) hX dL_law_688 (by decide) rfl rfl ?_
                              refine j_aload_n (pc' := 691) hX dL_law_690 rfl 3 rfl rfl ?_
                              refine j_callVMb (ci := 5) (nb := 14) (pc' := 694) (k' := k + 1) (n' := n + 6) (As := []) (rest := []) (stk := fun r691 => [.int r691]) (bs := (PcB g pa u685_22.1 ++ [(MdW g d0 d1 d2 d3 d4 d5 d6 vd)] ++ [(ALW g o0 1 (u685_22.2))])) (cs := ([(MdW g d0 d1 d2 d3 d4 d5 d6 vd)])) (rs := (List.map (fun i : Nat => List.getD (PcB g pa u685_22.1 ++ [(MdW g d0 d1 d2 d3 d4 d5 d6 vd)] ++ [(ALW g o0 1 (u685_22.2))]) i []) [0, 1, 2, 3, 4, 5, 6, 7, 8, 9, 10, 11, 13])) (ws' := fun u691_23 => ((PcB g pa u685_22.1 ++ [(MdW g d0 d1 d2 d3 d4 d5 d6 u691_23)] ++ [(ALW g o0 1 (u685_22.2))]).flatten)) (bs' := fun u691_23 => (PcB g pa u685_22.1 ++ [(MdW g d0 d1 d2 d3 d4 d5 d6 u691_23)] ++ [(ALW g o0 1 (u685_22.2))])) (d1 := fun u691_23 => ([(MdW g d0 d1 d2 d3 d4 d5 d6 u691_23)])) hX hW (fun l => met_X5_undo l g d0 d1 d2 d3 d4 d5 d6 vd _ hf) rfl gL_law_X5_undo yoX5_undo rfl ⟨Nat.le_of_ble_eq_true rfl, Nat.le_of_ble_eq_true rfl⟩ ⟨Nat.le_refl _, Nat.le_refl _, hk1, hn6⟩ 0 rfl rfl [0, 1, 2, 3, 4, 5, 6, 7, 8, 9, 10, 11, 13, 12] rfl rfl rfl (by decide) rfl (fun _ => rfl) (fun _ => rfl) (fun _ => rfl) (fun _ => rfl) (Nat.le_of_ble_eq_true rfl) rfl (fun _ => rfl) dL_law_691 rfl (fun r691 u691_23 hf => ?_)
                              refine j_istore (pc' := 696) (lv' := [(6, .int r691), (5, .int r685), (0, .ref b), (1, .ref (pa 0)), (2, .ref d0), (3, .ref o0), (4, .int i)]) hX dL_law_694 (by decide) rfl rfl ?_
                              refine j_aload_n (pc' := 697) hX dL_law_696 rfl 4 rfl rfl ?_
                              refine j_callVRb (ci := 5) (nb := 14) (pc' := 700) (As := []) (rest := []) (stk := fun r697 => [.int r697]) (bs := (PcB g pa u685_22.1 ++ [(MdW g d0 d1 d2 d3 d4 d5 d6 u691_23)] ++ [(ALW g o0 1 (u685_22.2))])) (cs := ([(MdW g d0 d1 d2 d3 d4 d5 d6 u691_23)])) (rs := (List.map (fun i : Nat => List.getD (PcB g pa u685_22.1 ++ [(MdW g d0 d1 d2 d3 d4 d5 d6 u691_23)] ++ [(ALW g o0 1 (u685_22.2))]) i []) [0, 1, 2, 3, 4, 5, 6, 7, 8, 9, 10, 11, 13])) hX (fun l => met_X5_thrown l g d0 d1 d2 d3 d4 d5 d6 u691_23 _ hf) rfl gL_law_X5_thrown yoX5_thrown rfl ⟨Nat.le_of_ble_eq_true rfl, Nat.le_of_ble_eq_true rfl⟩ ⟨⟨hk1, hn6⟩, rfl, rfl⟩ 0 rfl rfl [0, 1, 2, 3, 4, 5, 6, 7, 8, 9, 10, 11, 13, 12] rfl rfl rfl (by decide) rfl (Nat.le_of_ble_eq_true rfl) rfl (fun _ => rfl) dL_law_697 rfl (fun r697 hf => ?_)
                              refine j_iload (pc' := 702) hX dL_law_700 1 rfl rfl ?_
                              refine j_icmp_eq (tgt := 707) (pc' := 705) hX dL_law_702 (by decide) rfl hf (fun hf => ?_) (fun hf => ?_)
                              · refine j_iload (pc' := 709) hX dL_law_707 1 rfl rfl ?_
                                refine j_if_ne (tgt := 724) (pc' := 712) hX dL_law_709 (by decide) rfl hf (fun hf => ?_) (fun hf => ?_)
                                · refine j_goto (tgt := 1399) hX dL_law_724 (by decide) ?_
                                  refine j_iinc (pc' := 1402) (cst := 4) (v := (i + 4)) (lv' := [(4, .int (i + 4)), (6, .int r691), (5, .int r685), (0, .ref b), (1, .ref (pa 0)), (2, .ref d0), (3, .ref o0)]) hX dL_law_1399 (by decide) rfl 6 rfl (by decide) rfl rfl ?_
                                  refine j_goto (tgt := 23) hX dL_law_1402 (by decide) ?_
                                  refine J_sub (lv' := [(0, .ref b), (1, .ref (pa 0)), (2, .ref d0), (3, .ref o0), (4, .int (i + 4))]) [3, 4, 5, 6, 0] rfl ?_
                                  exact ih (i + 4) u685_22.1 u691_23 u685_22.2 (k + 1) (n + 6) hf (by omega) (by omega)
                                · refine j_aload_n (pc' := 713) hX dL_law_712 rfl 5 rfl rfl ?_
                                  refine j_iconst (pc' := 714) (v := 0) hX dL_law_713 (by decide) rfl ?_
                                  refine j_lald (pc' := 715) hX 54 rfl dL_law_714 ⟨by unfold vp_in; decide, hf⟩ rfl (fun hf => ?_)
                                  refine j_iload (pc' := 717) hX dL_law_715 0 rfl rfl ?_
                                  refine j_i2l (pc' := 718) hX dL_law_717 rfl ?_
                                  refine j_lcmp (pc' := 719) hX dL_law_718 rfl ?_
                                  refine j_if_eq (tgt := 724) (pc' := 722) hX dL_law_719 (by decide) rfl hf (fun hf => ?_) (fun hf => ?_)
                                  · refine j_goto (tgt := 1399) hX dL_law_724 (by decide) ?_
                                    refine j_iinc (pc' := 1402) (cst := 4) (v := (i + 4)) (lv' := [(4, .int (i + 4)), (6, .int r691), (5, .int r685), (0, .ref b), (1, .ref (pa 0)), (2, .ref d0), (3, .ref o0)]) hX dL_law_1399 (by decide) rfl 6 rfl (by decide) rfl rfl ?_
                                    refine j_goto (tgt := 23) hX dL_law_1402 (by decide) ?_
                                    refine J_sub (lv' := [(0, .ref b), (1, .ref (pa 0)), (2, .ref d0), (3, .ref o0), (4, .int (i + 4))]) [3, 4, 5, 6, 0] rfl ?_
                                    exact ih (i + 4) u685_22.1 u691_23 u685_22.2 (k + 1) (n + 6) hf (by omega) (by omega)
                                  · refine j_iconst (pc' := 723) (v := 0) hX dL_law_722 (by decide) rfl ?_
                                    exact False.elim hf
                              · refine j_iconst (pc' := 706) (v := 0) hX dL_law_705 (by decide) rfl ?_
                                exact False.elim hf
                            · replace hf := hf.2 hs11
                              by_cases hs12 : ((xs i.toNatClampNeg) &&& 31) = 12
                              · replace hf := hf.1 hs12
                                refine j_tswI (tgt := 727) (cst := 12) hX dL_law_39 hs12 (by decide) (by decide) rfl (by decide) ?_
                                refine j_aload_n (pc' := 728) hX dL_law_727 rfl 1 rfl rfl ?_
                                refine j_aload_n (pc' := 729) hX dL_law_728 rfl 0 rfl rfl ?_
                                refine j_iload (pc' := 731) hX dL_law_729 4 rfl rfl ?_
                                refine j_iconst (pc' := 732) (v := 1) hX dL_law_731 (by decide) rfl ?_
                                refine j_iadd (pc' := 733) hX dL_law_732 rfl ?_
                                refine j_sld (pc' := 734) hX hScr dL_law_733 hf rfl (fun hf => ?_)
                                refine j_aload_n (pc' := 735) hX dL_law_734 rfl 0 rfl rfl ?_
                                refine j_iload (pc' := 737) hX dL_law_735 4 rfl rfl ?_
                                refine j_iconst (pc' := 738) (v := 2) hX dL_law_737 (by decide) rfl ?_
                                refine j_iadd (pc' := 739) hX dL_law_738 rfl ?_
                                refine j_sld (pc' := 740) hX hScr dL_law_739 hf rfl (fun hf => ?_)
                                refine j_aload_n (pc' := 741) hX dL_law_740 rfl 3 rfl rfl ?_
                                refine j_callSEb (nb := 14) (pc' := 744) (k' := k + 2) (n' := n + 12) (As := [.ref (pa 0), .int (xs (i + 1).toNatClampNeg), .int (xs (i + 2).toNatClampNeg), .ref o0]) (rest := []) (stk := fun r741 => [.int r741]) (bs := (PcB g pa vp ++ [(MdW g d0 d1 d2 d3 d4 d5 d6 vd)] ++ [(ALW g o0 1 vo)])) (cs := (PcB g pa vp ++ [(ALW g o0 1 vo)])) (rs := (List.map (fun i : Nat => List.getD (PcB g pa vp ++ [(MdW g d0 d1 d2 d3 d4 d5 d6 vd)] ++ [(ALW g o0 1 vo)]) i []) [12])) (ws' := fun u741_24 => ((PcB g pa u741_24.1 ++ [(MdW g d0 d1 d2 d3 d4 d5 d6 vd)] ++ [(ALW g o0 1 (u741_24.2))]).flatten)) (bs' := fun u741_24 => (PcB g pa u741_24.1 ++ [(MdW g d0 d1 d2 d3 d4 d5 d6 vd)] ++ [(ALW g o0 1 (u741_24.2))])) (d1 := fun u741_24 => (PcB g pa u741_24.1 ++ [(ALW g o0 1 (u741_24.2))])) hX hW hE (fun l => met_L_course l g pa o0 vp vo (xs (i + 1).toNatClampNeg) (xs (i + 2).toNatClampNeg) _ hf) rfl gL_law_L_course yoL_course rfl ⟨Nat.le_of_ble_eq_true rfl, Nat.le_of_ble_eq_true rfl⟩ ⟨Nat.le_refl _, Nat.le_refl _, hk2, hn12⟩ [12, 0, 1, 2, 3, 4, 5, 6, 7, 8, 9, 10, 11, 13] rfl rfl rfl (by decide) rfl (fun _ => rfl) (fun _ => rfl) (fun _ => rfl) (fun _ => rfl) (Nat.le_of_ble_eq_true rfl) rfl (fun _ => rfl) dL_law_741 rfl (fun r741 u741_24 hf => ?_)
                                refine j_istore (pc' := 746) (lv' := [(5, .int r741), (0, .ref b), (1, .ref (pa 0)), (2, .ref d0), (3, .ref o0), (4, .int i)]) hX dL_law_744 (by decide) rfl rfl ?_
                                refine j_aload_n (pc' := 747) hX dL_law_746 rfl 3 rfl rfl ?_
                                refine j_aload_n (pc' := 748) hX dL_law_747 rfl 1 rfl rfl ?_
                                refine j_iload (pc' := 750) hX dL_law_748 5 rfl rfl ?_
                                refine j_iconst (pc' := 751) (v := 1) hX dL_law_750 (by decide) rfl ?_
                                refine j_iadd (pc' := 752) hX dL_law_751 rfl ?_
                                refine j_sld (pc' := 753) hX hScr dL_law_752 hf rfl (fun hf => ?_)
                                refine j_aload_n (pc' := 754) hX dL_law_753 rfl 1 rfl rfl ?_
                                refine j_iload (pc' := 756) hX dL_law_754 5 rfl rfl ?_
                                refine j_iconst (pc' := 757) (v := 2) hX dL_law_756 (by decide) rfl ?_
                                refine j_iadd (pc' := 758) hX dL_law_757 rfl ?_
                                refine j_sld (pc' := 759) hX hScr dL_law_758 hf rfl (fun hf => ?_)
                                refine j_callVMb (ci := 5) (nb := 14) (pc' := 762) (k' := k + 2) (n' := n + 12) (As := [.int (xs (i + 1).toNatClampNeg), .int (xs (i + 2).toNatClampNeg)]) (rest := []) (stk := fun r759 => [.int r759]) (bs := (PcB g pa u741_24.1 ++ [(MdW g d0 d1 d2 d3 d4 d5 d6 vd)] ++ [(ALW g o0 1 (u741_24.2))])) (cs := ([(MdW g d0 d1 d2 d3 d4 d5 d6 vd)])) (rs := (List.map (fun i : Nat => List.getD (PcB g pa u741_24.1 ++ [(MdW g d0 d1 d2 d3 d4 d5 d6 vd)] ++ [(ALW g o0 1 (u741_24.2))]) i []) [0, 1, 2, 3, 4, 5, 6, 7, 8, 9, 10, 11, 13])) (ws' := fun u759_25 => ((PcB g pa u741_24.1 ++ [(MdW g d0 d1 d2 d3 d4 d5 d6 u759_25)] ++ [(ALW g o0 1 (u741_24.2))]).flatten)) (bs' := fun u759_25 => (PcB g pa u741_24.1 ++ [(MdW g d0 d1 d2 d3 d4 d5 d6 u759_25)] ++ [(ALW g o0 1 (u741_24.2))])) (d1 := fun u759_25 => ([(MdW g d0 d1 d2 d3 d4 d5 d6 u759_25)])) hX hW (fun l => met_X5_course l g d0 d1 d2 d3 d4 d5 d6 vd (xs (i + 1).toNatClampNeg) (xs (i + 2).toNatClampNeg) _ hf) rfl gL_law_X5_course yoX5_course rfl ⟨Nat.le_of_ble_eq_true rfl, Nat.le_of_ble_eq_true rfl⟩ ⟨Nat.le_refl _, Nat.le_refl _, hk2, hn12⟩ 0 rfl rfl [0, 1, 2, 3, 4, 5, 6, 7, 8, 9, 10, 11, 13, 12] rfl rfl rfl (by decide) rfl (fun _ => rfl) (fun _ => rfl) (fun _ => rfl) (fun _ => rfl) (Nat.le_of_ble_eq_true rfl) rfl (fun _ => rfl) dL_law_759 rfl (fun r759 u759_25 hf => ?_)
                                refine j_istore (pc' := 764) (lv' := [(6, .int r759), (5, .int r741), (0, .ref b), (1, .ref (pa 0)), (2, .ref d0), (3, .ref o0), (4, .int i)]) hX dL_law_762 (by decide) rfl rfl ?_
                                refine j_aload_n (pc' := 765) hX dL_law_764 rfl 4 rfl rfl ?_
                                refine j_callVRb (ci := 5) (nb := 14) (pc' := 768) (As := []) (rest := []) (stk := fun r765 => [.int r765]) (bs := (PcB g pa u741_24.1 ++ [(MdW g d0 d1 d2 d3 d4 d5 d6 u759_25)] ++ [(ALW g o0 1 (u741_24.2))])) (cs := ([(MdW g d0 d1 d2 d3 d4 d5 d6 u759_25)])) (rs := (List.map (fun i : Nat => List.getD (PcB g pa u741_24.1 ++ [(MdW g d0 d1 d2 d3 d4 d5 d6 u759_25)] ++ [(ALW g o0 1 (u741_24.2))]) i []) [0, 1, 2, 3, 4, 5, 6, 7, 8, 9, 10, 11, 13])) hX (fun l => met_X5_thrown l g d0 d1 d2 d3 d4 d5 d6 u759_25 _ hf) rfl gL_law_X5_thrown yoX5_thrown rfl ⟨Nat.le_of_ble_eq_true rfl, Nat.le_of_ble_eq_true rfl⟩ ⟨⟨hk2, hn12⟩, rfl, rfl⟩ 0 rfl rfl [0, 1, 2, 3, 4, 5, 6, 7, 8, 9, 10, 11, 13, 12] rfl rfl rfl (by decide) rfl (Nat.le_of_ble_eq_true rfl) rfl (fun _ => rfl) dL_law_765 rfl (fun r765 hf => ?_)
                                refine j_iload (pc' := 770) hX dL_law_768 1 rfl rfl ?_
                                refine j_icmp_eq (tgt := 775) (pc' := 773) hX dL_law_770 (by decide) rfl hf (fun hf => ?_) (fun hf => ?_)
                                · refine j_iload (pc' := 777) hX dL_law_775 1 rfl rfl ?_
                                  refine j_if_ne (tgt := 792) (pc' := 780) hX dL_law_777 (by decide) rfl hf (fun hf => ?_) (fun hf => ?_)
                                  · refine j_goto (tgt := 1399) hX dL_law_792 (by decide) ?_
                                    refine j_iinc (pc' := 1402) (cst := 4) (v := (i + 4)) (lv' := [(4, .int (i + 4)), (6, .int r759), (5, .int r741), (0, .ref b), (1, .ref (pa 0)), (2, .ref d0), (3, .ref o0)]) hX dL_law_1399 (by decide) rfl 6 rfl (by decide) rfl rfl ?_
                                    refine j_goto (tgt := 23) hX dL_law_1402 (by decide) ?_
                                    refine J_sub (lv' := [(0, .ref b), (1, .ref (pa 0)), (2, .ref d0), (3, .ref o0), (4, .int (i + 4))]) [3, 4, 5, 6, 0] rfl ?_
                                    exact ih (i + 4) u741_24.1 u759_25 u741_24.2 (k + 2) (n + 12) hf (by omega) (by omega)
                                  · refine j_aload_n (pc' := 781) hX dL_law_780 rfl 5 rfl rfl ?_
                                    refine j_iconst (pc' := 782) (v := 0) hX dL_law_781 (by decide) rfl ?_
                                    refine j_lald (pc' := 783) hX 54 rfl dL_law_782 ⟨by unfold vp_in; decide, hf⟩ rfl (fun hf => ?_)
                                    refine j_iload (pc' := 785) hX dL_law_783 0 rfl rfl ?_
                                    refine j_i2l (pc' := 786) hX dL_law_785 rfl ?_
                                    refine j_lcmp (pc' := 787) hX dL_law_786 rfl ?_
                                    refine j_if_eq (tgt := 792) (pc' := 790) hX dL_law_787 (by decide) rfl hf (fun hf => ?_) (fun hf => ?_)
                                    · refine j_goto (tgt := 1399) hX dL_law_792 (by decide) ?_
                                      refine j_iinc (pc' := 1402) (cst := 4) (v := (i + 4)) (lv' := [(4, .int (i + 4)), (6, .int r759), (5, .int r741), (0, .ref b), (1, .ref (pa 0)), (2, .ref d0), (3, .ref o0)]) hX dL_law_1399 (by decide) rfl 6 rfl (by decide) rfl rfl ?_
                                      refine j_goto (tgt := 23) hX dL_law_1402 (by decide) ?_
                                      refine J_sub (lv' := [(0, .ref b), (1, .ref (pa 0)), (2, .ref d0), (3, .ref o0), (4, .int (i + 4))]) [3, 4, 5, 6, 0] rfl ?_
                                      exact ih (i + 4) u741_24.1 u759_25 u741_24.2 (k + 2) (n + 12) hf (by omega) (by omega)
                                    · refine j_iconst (pc' := 791) (v := 0) hX dL_law_790 (by decide) rfl ?_
                                      exact False.elim hf
                                · refine j_iconst (pc' := 774) (v := 0) hX dL_law_773 (by decide) rfl ?_
                                  exact False.elim hf
                              · replace hf := hf.2 hs12
                                by_cases hs13 : ((xs i.toNatClampNeg) &&& 31) = 13
                                · replace hf := hf.1 hs13
                                  refine j_tswI (tgt := 795) (cst := 13) hX dL_law_39 hs13 (by decide) (by decide) rfl (by decide) ?_
                                  refine j_aload_n (pc' := 796) hX dL_law_795 rfl 1 rfl rfl ?_
                                  refine j_aload_n (pc' := 797) hX dL_law_796 rfl 0 rfl rfl ?_
                                  refine j_iload (pc' := 799) hX dL_law_797 4 rfl rfl ?_
                                  refine j_iconst (pc' := 800) (v := 1) hX dL_law_799 (by decide) rfl ?_
                                  refine j_iadd (pc' := 801) hX dL_law_800 rfl ?_
                                  refine j_sld (pc' := 802) hX hScr dL_law_801 hf rfl (fun hf => ?_)
                                  refine j_aload_n (pc' := 803) hX dL_law_802 rfl 0 rfl rfl ?_
                                  refine j_iload (pc' := 805) hX dL_law_803 4 rfl rfl ?_
                                  refine j_iconst (pc' := 806) (v := 2) hX dL_law_805 (by decide) rfl ?_
                                  refine j_iadd (pc' := 807) hX dL_law_806 rfl ?_
                                  refine j_sld (pc' := 808) hX hScr dL_law_807 hf rfl (fun hf => ?_)
                                  refine j_aload_n (pc' := 809) hX dL_law_808 rfl 0 rfl rfl ?_
                                  refine j_iload (pc' := 811) hX dL_law_809 4 rfl rfl ?_
                                  refine j_iconst (pc' := 812) (v := 3) hX dL_law_811 (by decide) rfl ?_
                                  refine j_iadd (pc' := 813) hX dL_law_812 rfl ?_
                                  refine j_sld (pc' := 814) hX hScr dL_law_813 hf rfl (fun hf => ?_)
                                  refine j_aload_n (pc' := 815) hX dL_law_814 rfl 3 rfl rfl ?_
                                  refine j_callSEb (nb := 14) (pc' := 818) (k' := k + 3) (n' := n + 18) (As := [.ref (pa 0), .int (xs (i + 1).toNatClampNeg), .int (xs (i + 2).toNatClampNeg), .int (xs (i + 3).toNatClampNeg), .ref o0]) (rest := []) (stk := fun r815 => [.int r815]) (bs := (PcB g pa vp ++ [(MdW g d0 d1 d2 d3 d4 d5 d6 vd)] ++ [(ALW g o0 1 vo)])) (cs := (PcB g pa vp ++ [(ALW g o0 1 vo)])) (rs := (List.map (fun i : Nat => List.getD (PcB g pa vp ++ [(MdW g d0 d1 d2 d3 d4 d5 d6 vd)] ++ [(ALW g o0 1 vo)]) i []) [12])) (ws' := fun u815_26 => ((PcB g pa u815_26.1 ++ [(MdW g d0 d1 d2 d3 d4 d5 d6 vd)] ++ [(ALW g o0 1 (u815_26.2))]).flatten)) (bs' := fun u815_26 => (PcB g pa u815_26.1 ++ [(MdW g d0 d1 d2 d3 d4 d5 d6 vd)] ++ [(ALW g o0 1 (u815_26.2))])) (d1 := fun u815_26 => (PcB g pa u815_26.1 ++ [(ALW g o0 1 (u815_26.2))])) hX hW hE (fun l => met_L_cell l g pa o0 vp vo (xs (i + 1).toNatClampNeg) (xs (i + 2).toNatClampNeg) (xs (i + 3).toNatClampNeg) _ hf) rfl gL_law_L_cell yoL_cell rfl ⟨Nat.le_of_ble_eq_true rfl, Nat.le_of_ble_eq_true rfl⟩ ⟨Nat.le_refl _, Nat.le_refl _, hk3, hn18⟩ [12, 0, 1, 2, 3, 4, 5, 6, 7, 8, 9, 10, 11, 13] rfl rfl rfl (by decide) rfl (fun _ => rfl) (fun _ => rfl) (fun _ => rfl) (fun _ => rfl) (Nat.le_of_ble_eq_true rfl) rfl (fun _ => rfl) dL_law_815 rfl (fun r815 u815_26 hf => ?_)
                                  refine j_istore (pc' := 820) (lv' := [(5, .int r815), (0, .ref b), (1, .ref (pa 0)), (2, .ref d0), (3, .ref o0), (4, .int i)]) hX dL_law_818 (by decide) rfl rfl ?_
                                  refine j_aload_n (pc' := 821) hX dL_law_820 rfl 3 rfl rfl ?_
                                  refine j_aload_n (pc' := 822) hX dL_law_821 rfl 1 rfl rfl ?_
                                  refine j_iload (pc' := 824) hX dL_law_822 5 rfl rfl ?_
                                  refine j_iconst (pc' := 825) (v := 1) hX dL_law_824 (by decide) rfl ?_
                                  refine j_iadd (pc' := 826) hX dL_law_825 rfl ?_
                                  refine j_sld (pc' := 827) hX hScr dL_law_826 hf rfl (fun hf => ?_)
                                  refine j_aload_n (pc' := 828) hX dL_law_827 rfl 1 rfl rfl ?_
                                  refine j_iload (pc' := 830) hX dL_law_828 5 rfl rfl ?_
                                  refine j_iconst (pc' := 831) (v := 2) hX dL_law_830 (by decide) rfl ?_
                                  refine j_iadd (pc' := 832) hX dL_law_831 rfl ?_
                                  refine j_sld (pc' := 833) hX hScr dL_law_832 hf rfl (fun hf => ?_)
                                  refine j_aload_n (pc' := 834) hX dL_law_833 rfl 1 rfl rfl ?_
                                  refine j_iload (pc' := 836) hX dL_law_834 5 rfl rfl ?_
                                  refine j_iconst (pc' := 837) (v := 3) hX dL_law_836 (by decide) rfl ?_
                                  refine j_iadd (pc' := 838) hX dL_law_837 rfl ?_
                                  refine j_sld (pc' := 839) hX hScr dL_law_838 hf rfl (fun hf => ?_)
                                  refine j_callVMb (ci := 5) (nb := 14) (pc' := 842) (k' := k + 3) (n' := n + 18) (As := [.int (xs (i + 1).toNatClampNeg), .int (xs (i + 2).toNatClampNeg), .int (xs (i + 3).toNatClampNeg)]) (rest := []) (stk := fun r839 => [.int r839]) (bs := (PcB g pa u815_26.1 ++ [(MdW g d0 d1 d2 d3 d4 d5 d6 vd)] ++ [(ALW g o0 1 (u815_26.2))])) (cs := ([(MdW g d0 d1 d2 d3 d4 d5 d6 vd)])) (rs := (List.map (fun i : Nat => List.getD (PcB g pa u815_26.1 ++ [(MdW g d0 d1 d2 d3 d4 d5 d6 vd)] ++ [(ALW g o0 1 (u815_26.2))]) i []) [0, 1, 2, 3, 4, 5, 6, 7, 8, 9, 10, 11, 13])) (ws' := fun u839_27 => ((PcB g pa u815_26.1 ++ [(MdW g d0 d1 d2 d3 d4 d5 d6 u839_27)] ++ [(ALW g o0 1 (u815_26.2))]).flatten)) (bs' := fun u839_27 => (PcB g pa u815_26.1 ++ [(MdW g d0 d1 d2 d3 d4 d5 d6 u839_27)] ++ [(ALW g o0 1 (u815_26.2))])) (d1 := fun u839_27 => ([(MdW g d0 d1 d2 d3 d4 d5 d6 u839_27)])) hX hW (fun l => met_X5_cell l g d0 d1 d2 d3 d4 d5 d6 vd (xs (i + 1).toNatClampNeg) (xs (i + 2).toNatClampNeg) (xs (i + 3).toNatClampNeg) _ hf) rfl gL_law_X5_cell yoX5_cell rfl ⟨Nat.le_of_ble_eq_true rfl, Nat.le_of_ble_eq_true rfl⟩ ⟨Nat.le_refl _, Nat.le_refl _, hk3, hn18⟩ 0 rfl rfl [0, 1, 2, 3, 4, 5, 6, 7, 8, 9, 10, 11, 13, 12] rfl rfl rfl (by decide) rfl (fun _ => rfl) (fun _ => rfl) (fun _ => rfl) (fun _ => rfl) (Nat.le_of_ble_eq_true rfl) rfl (fun _ => rfl) dL_law_839 rfl (fun r839 u839_27 hf => ?_)
                                  refine j_istore (pc' := 844) (lv' := [(6, .int r839), (5, .int r815), (0, .ref b), (1, .ref (pa 0)), (2, .ref d0), (3, .ref o0), (4, .int i)]) hX dL_law_842 (by decide) rfl rfl ?_
                                  refine j_aload_n (pc' := 845) hX dL_law_844 rfl 4 rfl rfl ?_
                                  refine j_callVRb (ci := 5) (nb := 14) (pc' := 848) (As := []) (rest := []) (stk := fun r845 => [.int r845]) (bs := (PcB g pa u815_26.1 ++ [(MdW g d0 d1 d2 d3 d4 d5 d6 u839_27)] ++ [(ALW g o0 1 (u815_26.2))])) (cs := ([(MdW g d0 d1 d2 d3 d4 d5 d6 u839_27)])) (rs := (List.map (fun i : Nat => List.getD (PcB g pa u815_26.1 ++ [(MdW g d0 d1 d2 d3 d4 d5 d6 u839_27)] ++ [(ALW g o0 1 (u815_26.2))]) i []) [0, 1, 2, 3, 4, 5, 6, 7, 8, 9, 10, 11, 13])) hX (fun l => met_X5_thrown l g d0 d1 d2 d3 d4 d5 d6 u839_27 _ hf) rfl gL_law_X5_thrown yoX5_thrown rfl ⟨Nat.le_of_ble_eq_true rfl, Nat.le_of_ble_eq_true rfl⟩ ⟨⟨hk3, hn18⟩, rfl, rfl⟩ 0 rfl rfl [0, 1, 2, 3, 4, 5, 6, 7, 8, 9, 10, 11, 13, 12] rfl rfl rfl (by decide) rfl (Nat.le_of_ble_eq_true rfl) rfl (fun _ => rfl) dL_law_845 rfl (fun r845 hf => ?_)
                                  refine j_iload (pc' := 850) hX dL_law_848 1 rfl rfl ?_
                                  refine j_icmp_eq (tgt := 855) (pc' := 853) hX dL_law_850 (by decide) rfl hf (fun hf => ?_) (fun hf => ?_)
                                  · refine j_iload (pc' := 857) hX dL_law_855 1 rfl rfl ?_
                                    refine j_if_ne (tgt := 872) (pc' := 860) hX dL_law_857 (by decide) rfl hf (fun hf => ?_) (fun hf => ?_)
                                    · refine j_goto (tgt := 1399) hX dL_law_872 (by decide) ?_
                                      refine j_iinc (pc' := 1402) (cst := 4) (v := (i + 4)) (lv' := [(4, .int (i + 4)), (6, .int r839), (5, .int r815), (0, .ref b), (1, .ref (pa 0)), (2, .ref d0), (3, .ref o0)]) hX dL_law_1399 (by decide) rfl 6 rfl (by decide) rfl rfl ?_
                                      refine j_goto (tgt := 23) hX dL_law_1402 (by decide) ?_
                                      refine J_sub (lv' := [(0, .ref b), (1, .ref (pa 0)), (2, .ref d0), (3, .ref o0), (4, .int (i + 4))]) [3, 4, 5, 6, 0] rfl ?_
                                      exact ih (i + 4) u815_26.1 u839_27 u815_26.2 (k + 3) (n + 18) hf (by omega) (by omega)
                                    · refine j_aload_n (pc' := 861) hX dL_law_860 rfl 5 rfl rfl ?_
                                      refine j_iconst (pc' := 862) (v := 0) hX dL_law_861 (by decide) rfl ?_
                                      refine j_lald (pc' := 863) hX 54 rfl dL_law_862 ⟨by unfold vp_in; decide, hf⟩ rfl (fun hf => ?_)
                                      refine j_iload (pc' := 865) hX dL_law_863 0 rfl rfl ?_
                                      refine j_i2l (pc' := 866) hX dL_law_865 rfl ?_
                                      refine j_lcmp (pc' := 867) hX dL_law_866 rfl ?_
                                      refine j_if_eq (tgt := 872) (pc' := 870) hX dL_law_867 (by decide) rfl hf (fun hf => ?_) (fun hf => ?_)
                                      · refine j_goto (tgt := 1399) hX dL_law_872 (by decide) ?_
                                        refine j_iinc (pc' := 1402) (cst := 4) (v := (i + 4)) (lv' := [(4, .int (i + 4)), (6, .int r839), (5, .int r815), (0, .ref b), (1, .ref (pa 0)), (2, .ref d0), (3, .ref o0)]) hX dL_law_1399 (by decide) rfl 6 rfl (by decide) rfl rfl ?_
                                        refine j_goto (tgt := 23) hX dL_law_1402 (by decide) ?_
                                        refine J_sub (lv' := [(0, .ref b), (1, .ref (pa 0)), (2, .ref d0), (3, .ref o0), (4, .int (i + 4))]) [3, 4, 5, 6, 0] rfl ?_
                                        exact ih (i + 4) u815_26.1 u839_27 u815_26.2 (k + 3) (n + 18) hf (by omega) (by omega)
                                      · refine j_iconst (pc' := 871) (v := 0) hX dL_law_870 (by decide) rfl ?_
                                        exact False.elim hf
                                  · refine j_iconst (pc' := 854) (v := 0) hX dL_law_853 (by decide) rfl ?_
                                    exact False.elim hf
                                · replace hf := hf.2 hs13
                                  by_cases hs14 : ((xs i.toNatClampNeg) &&& 31) = 14
                                  · replace hf := hf.1 hs14
                                    refine j_tswI (tgt := 875) (cst := 14) hX dL_law_39 hs14 (by decide) (by decide) rfl (by decide) ?_
                                    refine j_aload_n (pc' := 876) hX dL_law_875 rfl 1 rfl rfl ?_
                                    refine j_aload_n (pc' := 877) hX dL_law_876 rfl 0 rfl rfl ?_
                                    refine j_iload (pc' := 879) hX dL_law_877 4 rfl rfl ?_
                                    refine j_iconst (pc' := 880) (v := 1) hX dL_law_879 (by decide) rfl ?_
                                    refine j_iadd (pc' := 881) hX dL_law_880 rfl ?_
                                    refine j_sld (pc' := 882) hX hScr dL_law_881 hf rfl (fun hf => ?_)
                                    refine j_aload_n (pc' := 883) hX dL_law_882 rfl 0 rfl rfl ?_
                                    refine j_iload (pc' := 885) hX dL_law_883 4 rfl rfl ?_
                                    refine j_iconst (pc' := 886) (v := 2) hX dL_law_885 (by decide) rfl ?_
                                    refine j_iadd (pc' := 887) hX dL_law_886 rfl ?_
                                    refine j_sld (pc' := 888) hX hScr dL_law_887 hf rfl (fun hf => ?_)
                                    refine j_aload_n (pc' := 889) hX dL_law_888 rfl 0 rfl rfl ?_
                                    refine j_iload (pc' := 891) hX dL_law_889 4 rfl rfl ?_
                                    refine j_iconst (pc' := 892) (v := 3) hX dL_law_891 (by decide) rfl ?_
                                    refine j_iadd (pc' := 893) hX dL_law_892 rfl ?_
                                    refine j_sld (pc' := 894) hX hScr dL_law_893 hf rfl (fun hf => ?_)
                                    refine j_if_eq (tgt := 901) (pc' := 897) hX dL_law_894 (by decide) rfl hf (fun hf => ?_) (fun hf => ?_)
                                    · refine j_iconst (pc' := 902) (v := 0) hX dL_law_901 (by decide) rfl ?_
                                      refine j_aload_n (pc' := 903) hX dL_law_902 rfl 3 rfl rfl ?_
                                      refine j_callSEb (nb := 14) (pc' := 906) (k' := k + 2) (n' := n + 12) (As := [.ref (pa 0), .int (xs (i + 1).toNatClampNeg), .int (xs (i + 2).toNatClampNeg), .int 0, .ref o0]) (rest := []) (stk := fun r903 => [.int r903]) (bs := (PcB g pa vp ++ [(MdW g d0 d1 d2 d3 d4 d5 d6 vd)] ++ [(ALW g o0 1 vo)])) (cs := (PcB g pa vp ++ [(ALW g o0 1 vo)])) (rs := (List.map (fun i : Nat => List.getD (PcB g pa vp ++ [(MdW g d0 d1 d2 d3 d4 d5 d6 vd)] ++ [(ALW g o0 1 vo)]) i []) [12])) (ws' := fun u903_28 => ((PcB g pa u903_28.1 ++ [(MdW g d0 d1 d2 d3 d4 d5 d6 vd)] ++ [(ALW g o0 1 (u903_28.2))]).flatten)) (bs' := fun u903_28 => (PcB g pa u903_28.1 ++ [(MdW g d0 d1 d2 d3 d4 d5 d6 vd)] ++ [(ALW g o0 1 (u903_28.2))])) (d1 := fun u903_28 => (PcB g pa u903_28.1 ++ [(ALW g o0 1 (u903_28.2))])) hX hW hE (fun l => met_L_refusal l g pa o0 vp vo (xs (i + 1).toNatClampNeg) (xs (i + 2).toNatClampNeg) 0 _ hf) rfl gL_law_L_refusal yoL_refusal rfl ⟨Nat.le_of_ble_eq_true rfl, Nat.le_of_ble_eq_true rfl⟩ ⟨Nat.le_refl _, Nat.le_refl _, hk2, hn12⟩ [12, 0, 1, 2, 3, 4, 5, 6, 7, 8, 9, 10, 11, 13] rfl rfl rfl (by decide) rfl (fun _ => rfl) (fun _ => rfl) (fun _ => rfl) (fun _ => rfl) (Nat.le_of_ble_eq_true rfl) rfl (fun _ => rfl) dL_law_903 rfl (fun r903 u903_28 hf => ?_)
                                      refine j_istore (pc' := 908) (lv' := [(5, .int r903), (0, .ref b), (1, .ref (pa 0)), (2, .ref d0), (3, .ref o0), (4, .int i)]) hX dL_law_906 (by decide) rfl rfl ?_
                                      refine j_aload_n (pc' := 909) hX dL_law_908 rfl 3 rfl rfl ?_
                                      refine j_aload_n (pc' := 910) hX dL_law_909 rfl 1 rfl rfl ?_
                                      refine j_iload (pc' := 912) hX dL_law_910 5 rfl rfl ?_
                                      refine j_iconst (pc' := 913) (v := 1) hX dL_law_912 (by decide) rfl ?_
                                      refine j_iadd (pc' := 914) hX dL_law_913 rfl ?_
                                      refine j_sld (pc' := 915) hX hScr dL_law_914 hf rfl (fun hf => ?_)
                                      refine j_aload_n (pc' := 916) hX dL_law_915 rfl 1 rfl rfl ?_
                                      refine j_iload (pc' := 918) hX dL_law_916 5 rfl rfl ?_
                                      refine j_iconst (pc' := 919) (v := 2) hX dL_law_918 (by decide) rfl ?_
                                      refine j_iadd (pc' := 920) hX dL_law_919 rfl ?_
                                      refine j_sld (pc' := 921) hX hScr dL_law_920 hf rfl (fun hf => ?_)
                                      refine j_aload_n (pc' := 922) hX dL_law_921 rfl 1 rfl rfl ?_
                                      refine j_iload (pc' := 924) hX dL_law_922 5 rfl rfl ?_
                                      refine j_iconst (pc' := 925) (v := 3) hX dL_law_924 (by decide) rfl ?_
                                      refine j_iadd (pc' := 926) hX dL_law_925 rfl ?_
                                      refine j_sld (pc' := 927) hX hScr dL_law_926 hf rfl (fun hf => ?_)
                                      refine j_if_eq (tgt := 934) (pc' := 930) hX dL_law_927 (by decide) rfl hf (fun hf => ?_) (fun hf => ?_)
                                      · refine j_iconst (pc' := 935) (v := 0) hX dL_law_934 (by decide) rfl ?_
                                        refine j_callVMb (ci := 5) (nb := 14) (pc' := 938) (k' := k + 2) (n' := n + 12) (As := [.int (xs (i + 1).toNatClampNeg), .int (xs (i + 2).toNatClampNeg), .int 0]) (rest := []) (stk := fun r935 => [.int r935]) (bs := (PcB g pa u903_28.1 ++ [(MdW g d0 d1 d2 d3 d4 d5 d6 vd)] ++ [(ALW g o0 1 (u903_28.2))])) (cs := ([(MdW g d0 d1 d2 d3 d4 d5 d6 vd)])) (rs := (List.map (fun i : Nat => List.getD (PcB g pa u903_28.1 ++ [(MdW g d0 d1 d2 d3 d4 d5 d6 vd)] ++ [(ALW g o0 1 (u903_28.2))]) i []) [0, 1, 2, 3, 4, 5, 6, 7, 8, 9, 10, 11, 13])) (ws' := fun u935_29 => ((PcB g pa u903_28.1 ++ [(MdW g d0 d1 d2 d3 d4 d5 d6 u935_29)] ++ [(ALW g o0 1 (u903_28.2))]).flatten)) (bs' := fun u935_29 => (PcB g pa u903_28.1 ++ [(MdW g d0 d1 d2 d3 d4 d5 d6 u935_29)] ++ [(ALW g o0 1 (u903_28.2))])) (d1 := fun u935_29 => ([(MdW g d0 d1 d2 d3 d4 d5 d6 u935_29)])) hX hW (fun l => met_X5_refusal l g d0 d1 d2 d3 d4 d5 d6 vd (xs (i + 1).toNatClampNeg) (xs (i + 2).toNatClampNeg) 0 _ hf) rfl gL_law_X5_refusal yoX5_refusal rfl ⟨Nat.le_of_ble_eq_true rfl, Nat.le_of_ble_eq_true rfl⟩ ⟨Nat.le_refl _, Nat.le_refl _, hk2, hn12⟩ 0 rfl rfl [0, 1, 2, 3, 4, 5, 6, 7, 8, 9, 10, 11, 13, 12] rfl rfl rfl (by decide) rfl (fun _ => rfl) (fun _ => rfl) (fun _ => rfl) (fun _ => rfl) (Nat.le_of_ble_eq_true rfl) rfl (fun _ => rfl) dL_law_935 rfl (fun r935 u935_29 hf => ?_)
                                        refine j_istore (pc' := 940) (lv' := [(6, .int r935), (5, .int r903), (0, .ref b), (1, .ref (pa 0)), (2, .ref d0), (3, .ref o0), (4, .int i)]) hX dL_law_938 (by decide) rfl rfl ?_
                                        refine j_aload_n (pc' := 941) hX dL_law_940 rfl 4 rfl rfl ?_
                                        refine j_callVRb (ci := 5) (nb := 14) (pc' := 944) (As := []) (rest := []) (stk := fun r941 => [.int r941]) (bs := (PcB g pa u903_28.1 ++ [(MdW g d0 d1 d2 d3 d4 d5 d6 u935_29)] ++ [(ALW g o0 1 (u903_28.2))])) (cs := ([(MdW g d0 d1 d2 d3 d4 d5 d6 u935_29)])) (rs := (List.map (fun i : Nat => List.getD (PcB g pa u903_28.1 ++ [(MdW g d0 d1 d2 d3 d4 d5 d6 u935_29)] ++ [(ALW g o0 1 (u903_28.2))]) i []) [0, 1, 2, 3, 4, 5, 6, 7, 8, 9, 10, 11, 13])) hX (fun l => met_X5_thrown l g d0 d1 d2 d3 d4 d5 d6 u935_29 _ hf) rfl gL_law_X5_thrown yoX5_thrown rfl ⟨Nat.le_of_ble_eq_true rfl, Nat.le_of_ble_eq_true rfl⟩ ⟨⟨hk2, hn12⟩, rfl, rfl⟩ 0 rfl rfl [0, 1, 2, 3, 4, 5, 6, 7, 8, 9, 10, 11, 13, 12] rfl rfl rfl (by decide) rfl (Nat.le_of_ble_eq_true rfl) rfl (fun _ => rfl) dL_law_941 rfl (fun r941 hf => ?_)
                                        refine j_iload (pc' := 946) hX dL_law_944 1 rfl rfl ?_
                                        refine j_icmp_eq (tgt := 951) (pc' := 949) hX dL_law_946 (by decide) rfl hf (fun hf => ?_) (fun hf => ?_)
                                        · refine j_iload (pc' := 953) hX dL_law_951 1 rfl rfl ?_
                                          refine j_if_ne (tgt := 968) (pc' := 956) hX dL_law_953 (by decide) rfl hf (fun hf => ?_) (fun hf => ?_)
                                          · refine j_goto (tgt := 1399) hX dL_law_968 (by decide) ?_
                                            refine j_iinc (pc' := 1402) (cst := 4) (v := (i + 4)) (lv' := [(4, .int (i + 4)), (6, .int r935), (5, .int r903), (0, .ref b), (1, .ref (pa 0)), (2, .ref d0), (3, .ref o0)]) hX dL_law_1399 (by decide) rfl 6 rfl (by decide) rfl rfl ?_
                                            refine j_goto (tgt := 23) hX dL_law_1402 (by decide) ?_
                                            refine J_sub (lv' := [(0, .ref b), (1, .ref (pa 0)), (2, .ref d0), (3, .ref o0), (4, .int (i + 4))]) [3, 4, 5, 6, 0] rfl ?_
                                            exact ih (i + 4) u903_28.1 u935_29 u903_28.2 (k + 2) (n + 12) hf (by omega) (by omega)
                                          · refine j_aload_n (pc' := 957) hX dL_law_956 rfl 5 rfl rfl ?_
                                            refine j_iconst (pc' := 958) (v := 0) hX dL_law_957 (by decide) rfl ?_
                                            refine j_lald (pc' := 959) hX 54 rfl dL_law_958 ⟨by unfold vp_in; decide, hf⟩ rfl (fun hf => ?_)
                                            refine j_iload (pc' := 961) hX dL_law_959 0 rfl rfl ?_
                                            refine j_i2l (pc' := 962) hX dL_law_961 rfl ?_
                                            refine j_lcmp (pc' := 963) hX dL_law_962 rfl ?_
                                            refine j_if_eq (tgt := 968) (pc' := 966) hX dL_law_963 (by decide) rfl hf (fun hf => ?_) (fun hf => ?_)
                                            · refine j_goto (tgt := 1399) hX dL_law_968 (by decide) ?_
                                              refine j_iinc (pc' := 1402) (cst := 4) (v := (i + 4)) (lv' := [(4, .int (i + 4)), (6, .int r935), (5, .int r903), (0, .ref b), (1, .ref (pa 0)), (2, .ref d0), (3, .ref o0)]) hX dL_law_1399 (by decide) rfl 6 rfl (by decide) rfl rfl ?_
                                              refine j_goto (tgt := 23) hX dL_law_1402 (by decide) ?_
                                              refine J_sub (lv' := [(0, .ref b), (1, .ref (pa 0)), (2, .ref d0), (3, .ref o0), (4, .int (i + 4))]) [3, 4, 5, 6, 0] rfl ?_
                                              exact ih (i + 4) u903_28.1 u935_29 u903_28.2 (k + 2) (n + 12) hf (by omega) (by omega)
                                            · refine j_iconst (pc' := 967) (v := 0) hX dL_law_966 (by decide) rfl ?_
                                              exact False.elim hf
                                        · refine j_iconst (pc' := 950) (v := 0) hX dL_law_949 (by decide) rfl ?_
                                          exact False.elim hf
                                      · refine j_iconst (pc' := 931) (v := 1) hX dL_law_930 (by decide) rfl ?_
                                        refine j_goto (tgt := 935) hX dL_law_931 (by decide) ?_
                                        refine j_callVMb (ci := 5) (nb := 14) (pc' := 938) (k' := k + 2) (n' := n + 12) (As := [.int (xs (i + 1).toNatClampNeg), .int (xs (i + 2).toNatClampNeg), .int 1]) (rest := []) (stk := fun r935 => [.int r935]) (bs := (PcB g pa u903_28.1 ++ [(MdW g d0 d1 d2 d3 d4 d5 d6 vd)] ++ [(ALW g o0 1 (u903_28.2))])) (cs := ([(MdW g d0 d1 d2 d3 d4 d5 d6 vd)])) (rs := (List.map (fun i : Nat => List.getD (PcB g pa u903_28.1 ++ [(MdW g d0 d1 d2 d3 d4 d5 d6 vd)] ++ [(ALW g o0 1 (u903_28.2))]) i []) [0, 1, 2, 3, 4, 5, 6, 7, 8, 9, 10, 11, 13])) (ws' := fun u935_30 => ((PcB g pa u903_28.1 ++ [(MdW g d0 d1 d2 d3 d4 d5 d6 u935_30)] ++ [(ALW g o0 1 (u903_28.2))]).flatten)) (bs' := fun u935_30 => (PcB g pa u903_28.1 ++ [(MdW g d0 d1 d2 d3 d4 d5 d6 u935_30)] ++ [(ALW g o0 1 (u903_28.2))])) (d1 := fun u935_30 => ([(MdW g d0 d1 d2 d3 d4 d5 d6 u935_30)])) hX hW (fun l => met_X5_refusal l g d0 d1 d2 d3 d4 d5 d6 vd (xs (i + 1).toNatClampNeg) (xs (i + 2).toNatClampNeg) 1 _ hf) rfl gL_law_X5_refusal yoX5_refusal rfl ⟨Nat.le_of_ble_eq_true rfl, Nat.le_of_ble_eq_true rfl⟩ ⟨Nat.le_refl _, Nat.le_refl _, hk2, hn12⟩ 0 rfl rfl [0, 1, 2, 3, 4, 5, 6, 7, 8, 9, 10, 11, 13, 12] rfl rfl rfl (by decide) rfl (fun _ => rfl) (fun _ => rfl) (fun _ => rfl) (fun _ => rfl) (Nat.le_of_ble_eq_true rfl) rfl (fun _ => rfl) dL_law_935 rfl (fun r935 u935_30 hf => ?_)
                                        refine j_istore (pc' := 940) (lv' := [(6, .int r935), (5, .int r903), (0, .ref b), (1, .ref (pa 0)), (2, .ref d0), (3, .ref o0), (4, .int i)]) hX dL_law_938 (by decide) rfl rfl ?_
                                        refine j_aload_n (pc' := 941) hX dL_law_940 rfl 4 rfl rfl ?_
                                        refine j_callVRb (ci := 5) (nb := 14) (pc' := 944) (As := []) (rest := []) (stk := fun r941 => [.int r941]) (bs := (PcB g pa u903_28.1 ++ [(MdW g d0 d1 d2 d3 d4 d5 d6 u935_30)] ++ [(ALW g o0 1 (u903_28.2))])) (cs := ([(MdW g d0 d1 d2 d3 d4 d5 d6 u935_30)])) (rs := (List.map (fun i : Nat => List.getD (PcB g pa u903_28.1 ++ [(MdW g d0 d1 d2 d3 d4 d5 d6 u935_30)] ++ [(ALW g o0 1 (u903_28.2))]) i []) [0, 1, 2, 3, 4, 5, 6, 7, 8, 9, 10, 11, 13])) hX (fun l => met_X5_thrown l g d0 d1 d2 d3 d4 d5 d6 u935_30 _ hf) rfl gL_law_X5_thrown yoX5_thrown rfl ⟨Nat.le_of_ble_eq_true rfl, Nat.le_of_ble_eq_true rfl⟩ ⟨⟨hk2, hn12⟩, rfl, rfl⟩ 0 rfl rfl [0, 1, 2, 3, 4, 5, 6, 7, 8, 9, 10, 11, 13, 12] rfl rfl rfl (by decide) rfl (Nat.le_of_ble_eq_true rfl) rfl (fun _ => rfl) dL_law_941 rfl (fun r941 hf => ?_)
                                        refine j_iload (pc' := 946) hX dL_law_944 1 rfl rfl ?_
                                        refine j_icmp_eq (tgt := 951) (pc' := 949) hX dL_law_946 (by decide) rfl hf (fun hf => ?_) (fun hf => ?_)
                                        · refine j_iload (pc' := 953) hX dL_law_951 1 rfl rfl ?_
                                          refine j_if_ne (tgt := 968) (pc' := 956) hX dL_law_953 (by decide) rfl hf (fun hf => ?_) (fun hf => ?_)
                                          · refine j_goto (tgt := 1399) hX dL_law_968 (by decide) ?_
                                            refine j_iinc (pc' := 1402) (cst := 4) (v := (i + 4)) (lv' := [(4, .int (i + 4)), (6, .int r935), (5, .int r903), (0, .ref b), (1, .ref (pa 0)), (2, .ref d0), (3, .ref o0)]) hX dL_law_1399 (by decide) rfl 6 rfl (by decide) rfl rfl ?_
                                            refine j_goto (tgt := 23) hX dL_law_1402 (by decide) ?_
                                            refine J_sub (lv' := [(0, .ref b), (1, .ref (pa 0)), (2, .ref d0), (3, .ref o0), (4, .int (i + 4))]) [3, 4, 5, 6, 0] rfl ?_
                                            exact ih (i + 4) u903_28.1 u935_30 u903_28.2 (k + 2) (n + 12) hf (by omega) (by omega)
                                          · refine j_aload_n (pc' := 957) hX dL_law_956 rfl 5 rfl rfl ?_
                                            refine j_iconst (pc' := 958) (v := 0) hX dL_law_957 (by decide) rfl ?_
                                            refine j_lald (pc' := 959) hX 54 rfl dL_law_958 ⟨by unfold vp_in; decide, hf⟩ rfl (fun hf => ?_)
                                            refine j_iload (pc' := 961) hX dL_law_959 0 rfl rfl ?_
                                            refine j_i2l (pc' := 962) hX dL_law_961 rfl ?_
                                            refine j_lcmp (pc' := 963) hX dL_law_962 rfl ?_
                                            refine j_if_eq (tgt := 968) (pc' := 966) hX dL_law_963 (by decide) rfl hf (fun hf => ?_) (fun hf => ?_)
                                            · refine j_goto (tgt := 1399) hX dL_law_968 (by decide) ?_
                                              refine j_iinc (pc' := 1402) (cst := 4) (v := (i + 4)) (lv' := [(4, .int (i + 4)), (6, .int r935), (5, .int r903), (0, .ref b), (1, .ref (pa 0)), (2, .ref d0), (3, .ref o0)]) hX dL_law_1399 (by decide) rfl 6 rfl (by decide) rfl rfl ?_
                                              refine j_goto (tgt := 23) hX dL_law_1402 (by decide) ?_
                                              refine J_sub (lv' := [(0, .ref b), (1, .ref (pa 0)), (2, .ref d0), (3, .ref o0), (4, .int (i + 4))]) [3, 4, 5, 6, 0] rfl ?_
                                              exact ih (i + 4) u903_28.1 u935_30 u903_28.2 (k + 2) (n + 12) hf (by omega) (by omega)
                                            · refine j_iconst (pc' := 967) (v := 0) hX dL_law_966 (by decide) rfl ?_
                                              exact False.elim hf
                                        · refine j_iconst (pc' := 950) (v := 0) hX dL_law_949 (by decide) rfl ?_
                                          exact False.elim hf
                                    · refine j_iconst (pc' := 898) (v := 1) hX dL_law_897 (by decide) rfl ?_
                                      refine j_goto (tgt := 902) hX dL_law_898 (by decide) ?_
                                      refine j_aload_n (pc' := 903) hX dL_law_902 rfl 3 rfl rfl ?_
                                      refine j_callSEb (nb := 14) (pc' := 906) (k' := k + 2) (n' := n + 12) (As := [.ref (pa 0), .int (xs (i + 1).toNatClampNeg), .int (xs (i + 2).toNatClampNeg), .int 1, .ref o0]) (rest := []) (stk := fun r903 => [.int r903]) (bs := (PcB g pa vp ++ [(MdW g d0 d1 d2 d3 d4 d5 d6 vd)] ++ [(ALW g o0 1 vo)])) (cs := (PcB g pa vp ++ [(ALW g o0 1 vo)])) (rs := (List.map (fun i : Nat => List.getD (PcB g pa vp ++ [(MdW g d0 d1 d2 d3 d4 d5 d6 vd)] ++ [(ALW g o0 1 vo)]) i []) [12])) (ws' := fun u903_31 => ((PcB g pa u903_31.1 ++ [(MdW g d0 d1 d2 d3 d4 d5 d6 vd)] ++ [(ALW g o0 1 (u903_31.2))]).flatten)) (bs' := fun u903_31 => (PcB g pa u903_31.1 ++ [(MdW g d0 d1 d2 d3 d4 d5 d6 vd)] ++ [(ALW g o0 1 (u903_31.2))])) (d1 := fun u903_31 => (PcB g pa u903_31.1 ++ [(ALW g o0 1 (u903_31.2))])) hX hW hE (fun l => met_L_refusal l g pa o0 vp vo (xs (i + 1).toNatClampNeg) (xs (i + 2).toNatClampNeg) 1 _ hf) rfl gL_law_L_refusal yoL_refusal rfl ⟨Nat.le_of_ble_eq_true rfl, Nat.le_of_ble_eq_true rfl⟩ ⟨Nat.le_refl _, Nat.le_refl _, hk2, hn12⟩ [12, 0, 1, 2, 3, 4, 5, 6, 7, 8, 9, 10, 11, 13] rfl rfl rfl (by decide) rfl (fun _ => rfl) (fun _ => rfl) (fun _ => rfl) (fun _ => rfl) (Nat.le_of_ble_eq_true rfl) rfl (fun _ => rfl) dL_law_903 rfl (fun r903 u903_31 hf => ?_)
                                      refine j_istore (pc' := 908) (lv' := [(5, .int r903), (0, .ref b), (1, .ref (pa 0)), (2, .ref d0), (3, .ref o0), (4, .int i)]) hX dL_law_906 (by decide) rfl rfl ?_
                                      refine j_aload_n (pc' := 909) hX dL_law_908 rfl 3 rfl rfl ?_
                                      refine j_aload_n (pc' := 910) hX dL_law_909 rfl 1 rfl rfl ?_
                                      refine j_iload (pc' := 912) hX dL_law_910 5 rfl rfl ?_
                                      refine j_iconst (pc' := 913) (v := 1) hX dL_law_912 (by decide) rfl ?_
                                      refine j_iadd (pc' := 914) hX dL_law_913 rfl ?_
                                      refine j_sld (pc' := 915) hX hScr dL_law_914 hf rfl (fun hf => ?_)
                                      refine j_aload_n (pc' := 916) hX dL_law_915 rfl 1 rfl rfl ?_
                                      refine j_iload (pc' := 918) hX dL_law_916 5 rfl rfl ?_
                                      refine j_iconst (pc' := 919) (v := 2) hX dL_law_918 (by decide) rfl ?_
                                      refine j_iadd (pc' := 920) hX dL_law_919 rfl ?_
                                      refine j_sld (pc' := 921) hX hScr dL_law_920 hf rfl (fun hf => ?_)
                                      refine j_aload_n (pc' := 922) hX dL_law_921 rfl 1 rfl rfl ?_
                                      refine j_iload (pc' := 924) hX dL_law_922 5 rfl rfl ?_
                                      refine j_iconst (pc' := 925) (v := 3) hX dL_law_924 (by decide) rfl ?_
                                      refine j_iadd (pc' := 926) hX dL_law_925 rfl ?_
                                      refine j_sld (pc' := 927) hX hScr dL_law_926 hf rfl (fun hf => ?_)
                                      refine j_if_eq (tgt := 934) (pc' := 930) hX dL_law_927 (by decide) rfl hf (fun hf => ?_) (fun hf => ?_)
                                      · refine j_iconst (pc' := 935) (v := 0) hX dL_law_934 (by decide) rfl ?_
                                        refine j_callVMb (ci := 5) (nb := 14) (pc' := 938) (k' := k + 2) (n' := n + 12) (As := [.int (xs (i + 1).toNatClampNeg), .int (xs (i + 2).toNatClampNeg), .int 0]) (rest := []) (stk := fun r935 => [.int r935]) (bs := (PcB g pa u903_31.1 ++ [(MdW g d0 d1 d2 d3 d4 d5 d6 vd)] ++ [(ALW g o0 1 (u903_31.2))])) (cs := ([(MdW g d0 d1 d2 d3 d4 d5 d6 vd)])) (rs := (List.map (fun i : Nat => List.getD (PcB g pa u903_31.1 ++ [(MdW g d0 d1 d2 d3 d4 d5 d6 vd)] ++ [(ALW g o0 1 (u903_31.2))]) i []) [0, 1, 2, 3, 4, 5, 6, 7, 8, 9, 10, 11, 13])) (ws' := fun u935_32 => ((PcB g pa u903_31.1 ++ [(MdW g d0 d1 d2 d3 d4 d5 d6 u935_32)] ++ [(ALW g o0 1 (u903_31.2))]).flatten)) (bs' := fun u935_32 => (PcB g pa u903_31.1 ++ [(MdW g d0 d1 d2 d3 d4 d5 d6 u935_32)] ++ [(ALW g o0 1 (u903_31.2))])) (d1 := fun u935_32 => ([(MdW g d0 d1 d2 d3 d4 d5 d6 u935_32)])) hX hW (fun l => met_X5_refusal l g d0 d1 d2 d3 d4 d5 d6 vd (xs (i + 1).toNatClampNeg) (xs (i + 2).toNatClampNeg) 0 _ hf) rfl gL_law_X5_refusal yoX5_refusal rfl ⟨Nat.le_of_ble_eq_true rfl, Nat.le_of_ble_eq_true rfl⟩ ⟨Nat.le_refl _, Nat.le_refl _, hk2, hn12⟩ 0 rfl rfl [0, 1, 2, 3, 4, 5, 6, 7, 8, 9, 10, 11, 13, 12] rfl rfl rfl (by decide) rfl (fun _ => rfl) (fun _ => rfl) (fun _ => rfl) (fun _ => rfl) (Nat.le_of_ble_eq_true rfl) rfl (fun _ => rfl) dL_law_935 rfl (fun r935 u935_32 hf => ?_)
                                        refine j_istore (pc' := 940) (lv' := [(6, .int r935), (5, .int r903), (0, .ref b), (1, .ref (pa 0)), (2, .ref d0), (3, .ref o0), (4, .int i)]) hX dL_law_938 (by decide) rfl rfl ?_
                                        refine j_aload_n (pc' := 941) hX dL_law_940 rfl 4 rfl rfl ?_
                                        refine j_callVRb (ci := 5) (nb := 14) (pc' := 944) (As := []) (rest := []) (stk := fun r941 => [.int r941]) (bs := (PcB g pa u903_31.1 ++ [(MdW g d0 d1 d2 d3 d4 d5 d6 u935_32)] ++ [(ALW g o0 1 (u903_31.2))])) (cs := ([(MdW g d0 d1 d2 d3 d4 d5 d6 u935_32)])) (rs := (List.map (fun i : Nat => List.getD (PcB g pa u903_31.1 ++ [(MdW g d0 d1 d2 d3 d4 d5 d6 u935_32)] ++ [(ALW g o0 1 (u903_31.2))]) i []) [0, 1, 2, 3, 4, 5, 6, 7, 8, 9, 10, 11, 13])) hX (fun l => met_X5_thrown l g d0 d1 d2 d3 d4 d5 d6 u935_32 _ hf) rfl gL_law_X5_thrown yoX5_thrown rfl ⟨Nat.le_of_ble_eq_true rfl, Nat.le_of_ble_eq_true rfl⟩ ⟨⟨hk2, hn12⟩, rfl, rfl⟩ 0 rfl rfl [0, 1, 2, 3, 4, 5, 6, 7, 8, 9, 10, 11, 13, 12] rfl rfl rfl (by decide) rfl (Nat.le_of_ble_eq_true rfl) rfl (fun _ => rfl) dL_law_941 rfl (fun r941 hf => ?_)
                                        refine j_iload (pc' := 946) hX dL_law_944 1 rfl rfl ?_
                                        refine j_icmp_eq (tgt := 951) (pc' := 949) hX dL_law_946 (by decide) rfl hf (fun hf => ?_) (fun hf => ?_)
                                        · refine j_iload (pc' := 953) hX dL_law_951 1 rfl rfl ?_
                                          refine j_if_ne (tgt := 968) (pc' := 956) hX dL_law_953 (by decide) rfl hf (fun hf => ?_) (fun hf => ?_)
                                          · refine j_goto (tgt := 1399) hX dL_law_968 (by decide) ?_
                                            refine j_iinc (pc' := 1402) (cst := 4) (v := (i + 4)) (lv' := [(4, .int (i + 4)), (6, .int r935), (5, .int r903), (0, .ref b), (1, .ref (pa 0)), (2, .ref d0), (3, .ref o0)]) hX dL_law_1399 (by decide) rfl 6 rfl (by decide) rfl rfl ?_
                                            refine j_goto (tgt := 23) hX dL_law_1402 (by decide) ?_
                                            refine J_sub (lv' := [(0, .ref b), (1, .ref (pa 0)), (2, .ref d0), (3, .ref o0), (4, .int (i + 4))]) [3, 4, 5, 6, 0] rfl ?_
                                            exact ih (i + 4) u903_31.1 u935_32 u903_31.2 (k + 2) (n + 12) hf (by omega) (by omega)
                                          · refine j_aload_n (pc' := 957) hX dL_law_956 rfl 5 rfl rfl ?_
                                            refine j_iconst (pc' := 958) (v := 0) hX dL_law_957 (by decide) rfl ?_
                                            refine j_lald (pc' := 959) hX 54 rfl dL_law_958 ⟨by unfold vp_in; decide, hf⟩ rfl (fun hf => ?_)
                                            refine j_iload (pc' := 961) hX dL_law_959 0 rfl rfl ?_
                                            refine j_i2l (pc' := 962) hX dL_law_961 rfl ?_
                                            refine j_lcmp (pc' := 963) hX dL_law_962 rfl ?_
                                            refine j_if_eq (tgt := 968) (pc' := 966) hX dL_law_963 (by decide) rfl hf (fun hf => ?_) (fun hf => ?_)
                                            · refine j_goto (tgt := 1399) hX dL_law_968 (by decide) ?_
                                              refine j_iinc (pc' := 1402) (cst := 4) (v := (i + 4)) (lv' := [(4, .int (i + 4)), (6, .int r935), (5, .int r903), (0, .ref b), (1, .ref (pa 0)), (2, .ref d0), (3, .ref o0)]) hX dL_law_1399 (by decide) rfl 6 rfl (by decide) rfl rfl ?_
                                              refine j_goto (tgt := 23) hX dL_law_1402 (by decide) ?_
                                              refine J_sub (lv' := [(0, .ref b), (1, .ref (pa 0)), (2, .ref d0), (3, .ref o0), (4, .int (i + 4))]) [3, 4, 5, 6, 0] rfl ?_
                                              exact ih (i + 4) u903_31.1 u935_32 u903_31.2 (k + 2) (n + 12) hf (by omega) (by omega)
                                            · refine j_iconst (pc' := 967) (v := 0) hX dL_law_966 (by decide) rfl ?_
                                              exact False.elim hf
                                        · refine j_iconst (pc' := 950) (v := 0) hX dL_law_949 (by decide) rfl ?_
                                          exact False.elim hf
                                      · refine j_iconst (pc' := 931) (v := 1) hX dL_law_930 (by decide) rfl ?_
                                        refine j_goto (tgt := 935) hX dL_law_931 (by decide) ?_
                                        refine j_callVMb (ci := 5) (nb := 14) (pc' := 938) (k' := k + 2) (n' := n + 12) (As := [.int (xs (i + 1).toNatClampNeg), .int (xs (i + 2).toNatClampNeg), .int 1]) (rest := []) (stk := fun r935 => [.int r935]) (bs := (PcB g pa u903_31.1 ++ [(MdW g d0 d1 d2 d3 d4 d5 d6 vd)] ++ [(ALW g o0 1 (u903_31.2))])) (cs := ([(MdW g d0 d1 d2 d3 d4 d5 d6 vd)])) (rs := (List.map (fun i : Nat => List.getD (PcB g pa u903_31.1 ++ [(MdW g d0 d1 d2 d3 d4 d5 d6 vd)] ++ [(ALW g o0 1 (u903_31.2))]) i []) [0, 1, 2, 3, 4, 5, 6, 7, 8, 9, 10, 11, 13])) (ws' := fun u935_33 => ((PcB g pa u903_31.1 ++ [(MdW g d0 d1 d2 d3 d4 d5 d6 u935_33)] ++ [(ALW g o0 1 (u903_31.2))]).flatten)) (bs' := fun u935_33 => (PcB g pa u903_31.1 ++ [(MdW g d0 d1 d2 d3 d4 d5 d6 u935_33)] ++ [(ALW g o0 1 (u903_31.2))])) (d1 := fun u935_33 => ([(MdW g d0 d1 d2 d3 d4 d5 d6 u935_33)])) hX hW (fun l => met_X5_refusal l g d0 d1 d2 d3 d4 d5 d6 vd (xs (i + 1).toNatClampNeg) (xs (i + 2).toNatClampNeg) 1 _ hf) rfl gL_law_X5_refusal yoX5_refusal rfl ⟨Nat.le_of_ble_eq_true rfl, Nat.le_of_ble_eq_true rfl⟩ ⟨Nat.le_refl _, Nat.le_refl _, hk2, hn12⟩ 0 rfl rfl [0, 1, 2, 3, 4, 5, 6, 7, 8, 9, 10, 11, 13, 12] rfl rfl rfl (by decide) rfl (fun _ => rfl) (fun _ => rfl) (fun _ => rfl) (fun _ => rfl) (Nat.le_of_ble_eq_true rfl) rfl (fun _ => rfl) dL_law_935 rfl (fun r935 u935_33 hf => ?_)
                                        refine j_istore (pc' := 940) (lv' := [(6, .int r935), (5, .int r903), (0, .ref b), (1, .ref (pa 0)), (2, .ref d0), (3, .ref o0), (4, .int i)]) hX dL_law_938 (by decide) rfl rfl ?_
                                        refine j_aload_n (pc' := 941) hX dL_law_940 rfl 4 rfl rfl ?_
                                        refine j_callVRb (ci := 5) (nb := 14) (pc' := 944) (As := []) (rest := []) (stk := fun r941 => [.int r941]) (bs := (PcB g pa u903_31.1 ++ [(MdW g d0 d1 d2 d3 d4 d5 d6 u935_33)] ++ [(ALW g o0 1 (u903_31.2))])) (cs := ([(MdW g d0 d1 d2 d3 d4 d5 d6 u935_33)])) (rs := (List.map (fun i : Nat => List.getD (PcB g pa u903_31.1 ++ [(MdW g d0 d1 d2 d3 d4 d5 d6 u935_33)] ++ [(ALW g o0 1 (u903_31.2))]) i []) [0, 1, 2, 3, 4, 5, 6, 7, 8, 9, 10, 11, 13])) hX (fun l => met_X5_thrown l g d0 d1 d2 d3 d4 d5 d6 u935_33 _ hf) rfl gL_law_X5_thrown yoX5_thrown rfl ⟨Nat.le_of_ble_eq_true rfl, Nat.le_of_ble_eq_true rfl⟩ ⟨⟨hk2, hn12⟩, rfl, rfl⟩ 0 rfl rfl [0, 1, 2, 3, 4, 5, 6, 7, 8, 9, 10, 11, 13, 12] rfl rfl rfl (by decide) rfl (Nat.le_of_ble_eq_true rfl) rfl (fun _ => rfl) dL_law_941 rfl (fun r941 hf => ?_)
                                        refine j_iload (pc' := 946) hX dL_law_944 1 rfl rfl ?_
                                        refine j_icmp_eq (tgt := 951) (pc' := 949) hX dL_law_946 (by decide) rfl hf (fun hf => ?_) (fun hf => ?_)
                                        · refine j_iload (pc' := 953) hX dL_law_951 1 rfl rfl ?_
                                          refine j_if_ne (tgt := 968) (pc' := 956) hX dL_law_953 (by decide) rfl hf (fun hf => ?_) (fun hf => ?_)
                                          · refine j_goto (tgt := 1399) hX dL_law_968 (by decide) ?_
                                            refine j_iinc (pc' := 1402) (cst := 4) (v := (i + 4)) (lv' := [(4, .int (i + 4)), (6, .int r935), (5, .int r903), (0, .ref b), (1, .ref (pa 0)), (2, .ref d0), (3, .ref o0)]) hX dL_law_1399 (by decide) rfl 6 rfl (by decide) rfl rfl ?_
                                            refine j_goto (tgt := 23) hX dL_law_1402 (by decide) ?_
                                            refine J_sub (lv' := [(0, .ref b), (1, .ref (pa 0)), (2, .ref d0), (3, .ref o0), (4, .int (i + 4))]) [3, 4, 5, 6, 0] rfl ?_
                                            exact ih (i + 4) u903_31.1 u935_33 u903_31.2 (k + 2) (n + 12) hf (by omega) (by omega)
                                          · refine j_aload_n (pc' := 957) hX dL_law_956 rfl 5 rfl rfl ?_
                                            refine j_iconst (pc' := 958) (v := 0) hX dL_law_957 (by decide) rfl ?_
                                            refine j_lald (pc' := 959) hX 54 rfl dL_law_958 ⟨by unfold vp_in; decide, hf⟩ rfl (fun hf => ?_)
                                            refine j_iload (pc' := 961) hX dL_law_959 0 rfl rfl ?_
                                            refine j_i2l (pc' := 962) hX dL_law_961 rfl ?_
                                            refine j_lcmp (pc' := 963) hX dL_law_962 rfl ?_
                                            refine j_if_eq (tgt := 968) (pc' := 966) hX dL_law_963 (by decide) rfl hf (fun hf => ?_) (fun hf => ?_)
                                            · refine j_goto (tgt := 1399) hX dL_law_968 (by decide) ?_
                                              refine j_iinc (pc' := 1402) (cst := 4) (v := (i + 4)) (lv' := [(4, .int (i + 4)), (6, .int r935), (5, .int r903), (0, .ref b), (1, .ref (pa 0)), (2, .ref d0), (3, .ref o0)]) hX dL_law_1399 (by decide) rfl 6 rfl (by decide) rfl rfl ?_
                                              refine j_goto (tgt := 23) hX dL_law_1402 (by decide) ?_
                                              refine J_sub (lv' := [(0, .ref b), (1, .ref (pa 0)), (2, .ref d0), (3, .ref o0), (4, .int (i + 4))]) [3, 4, 5, 6, 0] rfl ?_
                                              exact ih (i + 4) u903_31.1 u935_33 u903_31.2 (k + 2) (n + 12) hf (by omega) (by omega)
                                            · refine j_iconst (pc' := 967) (v := 0) hX dL_law_966 (by decide) rfl ?_
                                              exact False.elim hf
                                        · refine j_iconst (pc' := 950) (v := 0) hX dL_law_949 (by decide) rfl ?_
                                          exact False.elim hf
                                  · replace hf := hf.2 hs14
                                    by_cases hs15 : ((xs i.toNatClampNeg) &&& 31) = 15
                                    · replace hf := hf.1 hs15
                                      refine j_tswI (tgt := 971) (cst := 15) hX dL_law_39 hs15 (by decide) (by decide) rfl (by decide) ?_
                                      refine j_aload_n (pc' := 972) hX dL_law_971 rfl 1 rfl rfl ?_
                                      refine j_aload_n (pc' := 973) hX dL_law_972 rfl 0 rfl rfl ?_
                                      refine j_iload (pc' := 975) hX dL_law_973 4 rfl rfl ?_
                                      refine j_iconst (pc' := 976) (v := 1) hX dL_law_975 (by decide) rfl ?_
                                      refine j_iadd (pc' := 977) hX dL_law_976 rfl ?_
                                      refine j_sld (pc' := 978) hX hScr dL_law_977 hf rfl (fun hf => ?_)
                                      refine j_aload_n (pc' := 979) hX dL_law_978 rfl 3 rfl rfl ?_
                                      refine j_callSEb (nb := 14) (pc' := 982) (k' := k + 1) (n' := n + 6) (As := [.ref (pa 0), .int (xs (i + 1).toNatClampNeg), .ref o0]) (rest := []) (stk := fun r979 => [.int r979]) (bs := (PcB g pa vp ++ [(MdW g d0 d1 d2 d3 d4 d5 d6 vd)] ++ [(ALW g o0 1 vo)])) (cs := (PcB g pa vp ++ [(ALW g o0 1 vo)])) (rs := (List.map (fun i : Nat => List.getD (PcB g pa vp ++ [(MdW g d0 d1 d2 d3 d4 d5 d6 vd)] ++ [(ALW g o0 1 vo)]) i []) [12])) (ws' := fun u979_34 => ((PcB g pa u979_34.1 ++ [(MdW g d0 d1 d2 d3 d4 d5 d6 vd)] ++ [(ALW g o0 1 (u979_34.2))]).flatten)) (bs' := fun u979_34 => (PcB g pa u979_34.1 ++ [(MdW g d0 d1 d2 d3 d4 d5 d6 vd)] ++ [(ALW g o0 1 (u979_34.2))])) (d1 := fun u979_34 => (PcB g pa u979_34.1 ++ [(ALW g o0 1 (u979_34.2))])) hX hW hE (fun l => met_L_stockOf l g pa o0 vp vo (xs (i + 1).toNatClampNeg) _ hf) rfl gL_law_L_stockOf yoL_stockOf rfl ⟨Nat.le_of_ble_eq_true rfl, Nat.le_of_ble_eq_true rfl⟩ ⟨Nat.le_refl _, Nat.le_refl _, hk1, hn6⟩ [12, 0, 1, 2, 3, 4, 5, 6, 7, 8, 9, 10, 11, 13] rfl rfl rfl (by decide) rfl (fun _ => rfl) (fun _ => rfl) (fun _ => rfl) (fun _ => rfl) (Nat.le_of_ble_eq_true rfl) rfl (fun _ => rfl) dL_law_979 rfl (fun r979 u979_34 hf => ?_)
                                      refine j_istore (pc' := 984) (lv' := [(5, .int r979), (0, .ref b), (1, .ref (pa 0)), (2, .ref d0), (3, .ref o0), (4, .int i)]) hX dL_law_982 (by decide) rfl rfl ?_
                                      refine j_aload_n (pc' := 985) hX dL_law_984 rfl 3 rfl rfl ?_
                                      refine j_aload_n (pc' := 986) hX dL_law_985 rfl 1 rfl rfl ?_
                                      refine j_iload (pc' := 988) hX dL_law_986 5 rfl rfl ?_
                                      refine j_iconst (pc' := 989) (v := 1) hX dL_law_988 (by decide) rfl ?_
                                      refine j_iadd (pc' := 990) hX dL_law_989 rfl ?_
                                      refine j_sld (pc' := 991) hX hScr dL_law_990 hf rfl (fun hf => ?_)
                                      refine j_callVMb (ci := 5) (nb := 14) (pc' := 994) (k' := k + 1) (n' := n + 6) (As := [.int (xs (i + 1).toNatClampNeg)]) (rest := []) (stk := fun r991 => [.int r991]) (bs := (PcB g pa u979_34.1 ++ [(MdW g d0 d1 d2 d3 d4 d5 d6 vd)] ++ [(ALW g o0 1 (u979_34.2))])) (cs := ([(MdW g d0 d1 d2 d3 d4 d5 d6 vd)])) (rs := (List.map (fun i : Nat => List.getD (PcB g pa u979_34.1 ++ [(MdW g d0 d1 d2 d3 d4 d5 d6 vd)] ++ [(ALW g o0 1 (u979_34.2))]) i []) [0, 1, 2, 3, 4, 5, 6, 7, 8, 9, 10, 11, 13])) (ws' := fun u991_35 => ((PcB g pa u979_34.1 ++ [(MdW g d0 d1 d2 d3 d4 d5 d6 u991_35)] ++ [(ALW g o0 1 (u979_34.2))]).flatten)) (bs' := fun u991_35 => (PcB g pa u979_34.1 ++ [(MdW g d0 d1 d2 d3 d4 d5 d6 u991_35)] ++ [(ALW g o0 1 (u979_34.2))])) (d1 := fun u991_35 => ([(MdW g d0 d1 d2 d3 d4 d5 d6 u991_35)])) hX hW (fun l => met_X5_stockOf l g d0 d1 d2 d3 d4 d5 d6 vd (xs (i + 1).toNatClampNeg) _ hf) rfl gL_law_X5_stockOf yoX5_stockOf rfl ⟨Nat.le_of_ble_eq_true rfl, Nat.le_of_ble_eq_true rfl⟩ ⟨Nat.le_refl _, Nat.le_refl _, hk1, hn6⟩ 0 rfl rfl [0, 1, 2, 3, 4, 5, 6, 7, 8, 9, 10, 11, 13, 12] rfl rfl rfl (by decide) rfl (fun _ => rfl) (fun _ => rfl) (fun _ => rfl) (fun _ => rfl) (Nat.le_of_ble_eq_true rfl) rfl (fun _ => rfl) dL_law_991 rfl (fun r991 u991_35 hf => ?_)
                                      refine j_istore (pc' := 996) (lv' := [(6, .int r991), (5, .int r979), (0, .ref b), (1, .ref (pa 0)), (2, .ref d0), (3, .ref o0), (4, .int i)]) hX dL_law_994 (by decide) rfl rfl ?_
                                      refine j_aload_n (pc' := 997) hX dL_law_996 rfl 4 rfl rfl ?_
                                      refine j_callVRb (ci := 5) (nb := 14) (pc' := 1000) (As := []) (rest := []) (stk := fun r997 => [.int r997]) (bs := (PcB g pa u979_34.1 ++ [(MdW g d0 d1 d2 d3 d4 d5 d6 u991_35)] ++ [(ALW g o0 1 (u979_34.2))])) (cs := ([(MdW g d0 d1 d2 d3 d4 d5 d6 u991_35)])) (rs := (List.map (fun i : Nat => List.getD (PcB g pa u979_34.1 ++ [(MdW g d0 d1 d2 d3 d4 d5 d6 u991_35)] ++ [(ALW g o0 1 (u979_34.2))]) i []) [0, 1, 2, 3, 4, 5, 6, 7, 8, 9, 10, 11, 13])) hX (fun l => met_X5_thrown l g d0 d1 d2 d3 d4 d5 d6 u991_35 _ hf) rfl gL_law_X5_thrown yoX5_thrown rfl ⟨Nat.le_of_ble_eq_true rfl, Nat.le_of_ble_eq_true rfl⟩ ⟨⟨hk1, hn6⟩, rfl, rfl⟩ 0 rfl rfl [0, 1, 2, 3, 4, 5, 6, 7, 8, 9, 10, 11, 13, 12] rfl rfl rfl (by decide) rfl (Nat.le_of_ble_eq_true rfl) rfl (fun _ => rfl) dL_law_997 rfl (fun r997 hf => ?_)
                                      refine j_iload (pc' := 1002) hX dL_law_1000 1 rfl rfl ?_
                                      refine j_icmp_eq (tgt := 1007) (pc' := 1005) hX dL_law_1002 (by decide) rfl hf (fun hf => ?_) (fun hf => ?_)
                                      · refine j_iload (pc' := 1009) hX dL_law_1007 1 rfl rfl ?_
                                        refine j_if_ne (tgt := 1024) (pc' := 1012) hX dL_law_1009 (by decide) rfl hf (fun hf => ?_) (fun hf => ?_)
                                        · refine j_goto (tgt := 1399) hX dL_law_1024 (by decide) ?_
                                          refine j_iinc (pc' := 1402) (cst := 4) (v := (i + 4)) (lv' := [(4, .int (i + 4)), (6, .int r991), (5, .int r979), (0, .ref b), (1, .ref (pa 0)), (2, .ref d0), (3, .ref o0)]) hX dL_law_1399 (by decide) rfl 6 rfl (by decide) rfl rfl ?_
                                          refine j_goto (tgt := 23) hX dL_law_1402 (by decide) ?_
                                          refine J_sub (lv' := [(0, .ref b), (1, .ref (pa 0)), (2, .ref d0), (3, .ref o0), (4, .int (i + 4))]) [3, 4, 5, 6, 0] rfl ?_
                                          exact ih (i + 4) u979_34.1 u991_35 u979_34.2 (k + 1) (n + 6) hf (by omega) (by omega)
                                        · refine j_aload_n (pc' := 1013) hX dL_law_1012 rfl 5 rfl rfl ?_
                                          refine j_iconst (pc' := 1014) (v := 0) hX dL_law_1013 (by decide) rfl ?_
                                          refine j_lald (pc' := 1015) hX 54 rfl dL_law_1014 ⟨by unfold vp_in; decide, hf⟩ rfl (fun hf => ?_)
                                          refine j_iload (pc' := 1017) hX dL_law_1015 0 rfl rfl ?_
                                          refine j_i2l (pc' := 1018) hX dL_law_1017 rfl ?_
                                          refine j_lcmp (pc' := 1019) hX dL_law_1018 rfl ?_
                                          refine j_if_eq (tgt := 1024) (pc' := 1022) hX dL_law_1019 (by decide) rfl hf (fun hf => ?_) (fun hf => ?_)
                                          · refine j_goto (tgt := 1399) hX dL_law_1024 (by decide) ?_
                                            refine j_iinc (pc' := 1402) (cst := 4) (v := (i + 4)) (lv' := [(4, .int (i + 4)), (6, .int r991), (5, .int r979), (0, .ref b), (1, .ref (pa 0)), (2, .ref d0), (3, .ref o0)]) hX dL_law_1399 (by decide) rfl 6 rfl (by decide) rfl rfl ?_
                                            refine j_goto (tgt := 23) hX dL_law_1402 (by decide) ?_
                                            refine J_sub (lv' := [(0, .ref b), (1, .ref (pa 0)), (2, .ref d0), (3, .ref o0), (4, .int (i + 4))]) [3, 4, 5, 6, 0] rfl ?_
                                            exact ih (i + 4) u979_34.1 u991_35 u979_34.2 (k + 1) (n + 6) hf (by omega) (by omega)
                                          · refine j_iconst (pc' := 1023) (v := 0) hX dL_law_1022 (by decide) rfl ?_
                                            exact False.elim hf
                                      · refine j_iconst (pc' := 1006) (v := 0) hX dL_law_1005 (by decide) rfl ?_
                                        exact False.elim hf
                                    · replace hf := hf.2 hs15
                                      by_cases hs16 : ((xs i.toNatClampNeg) &&& 31) = 16
                                      · replace hf := hf.1 hs16
                                        refine j_tswI (tgt := 1027) (cst := 16) hX dL_law_39 hs16 (by decide) (by decide) rfl (by decide) ?_
                                        refine j_aload_n (pc' := 1028) hX dL_law_1027 rfl 1 rfl rfl ?_
                                        refine j_aload_n (pc' := 1029) hX dL_law_1028 rfl 0 rfl rfl ?_
                                        refine j_iload (pc' := 1031) hX dL_law_1029 4 rfl rfl ?_
                                        refine j_iconst (pc' := 1032) (v := 1) hX dL_law_1031 (by decide) rfl ?_
                                        refine j_iadd (pc' := 1033) hX dL_law_1032 rfl ?_
                                        refine j_sld (pc' := 1034) hX hScr dL_law_1033 hf rfl (fun hf => ?_)
                                        refine j_aload_n (pc' := 1035) hX dL_law_1034 rfl 3 rfl rfl ?_
                                        refine j_callSEb (nb := 14) (pc' := 1038) (k' := k + 1) (n' := n + 6) (As := [.ref (pa 0), .int (xs (i + 1).toNatClampNeg), .ref o0]) (rest := []) (stk := fun r1035 => [.int r1035]) (bs := (PcB g pa vp ++ [(MdW g d0 d1 d2 d3 d4 d5 d6 vd)] ++ [(ALW g o0 1 vo)])) (cs := (PcB g pa vp ++ [(ALW g o0 1 vo)])) (rs := (List.map (fun i : Nat => List.getD (PcB g pa vp ++ [(MdW g d0 d1 d2 d3 d4 d5 d6 vd)] ++ [(ALW g o0 1 vo)]) i []) [12])) (ws' := fun u1035_36 => ((PcB g pa u1035_36.1 ++ [(MdW g d0 d1 d2 d3 d4 d5 d6 vd)] ++ [(ALW g o0 1 (u1035_36.2))]).flatten)) (bs' := fun u1035_36 => (PcB g pa u1035_36.1 ++ [(MdW g d0 d1 d2 d3 d4 d5 d6 vd)] ++ [(ALW g o0 1 (u1035_36.2))])) (d1 := fun u1035_36 => (PcB g pa u1035_36.1 ++ [(ALW g o0 1 (u1035_36.2))])) hX hW hE (fun l => met_L_count l g pa o0 vp vo (xs (i + 1).toNatClampNeg) _ hf) rfl gL_law_L_count yoL_count rfl ⟨Nat.le_of_ble_eq_true rfl, Nat.le_of_ble_eq_true rfl⟩ ⟨Nat.le_refl _, Nat.le_refl _, hk1, hn6⟩ [12, 0, 1, 2, 3, 4, 5, 6, 7, 8, 9, 10, 11, 13] rfl rfl rfl (by decide) rfl (fun _ => rfl) (fun _ => rfl) (fun _ => rfl) (fun _ => rfl) (Nat.le_of_ble_eq_true rfl) rfl (fun _ => rfl) dL_law_1035 rfl (fun r1035 u1035_36 hf => ?_)
                                        refine j_istore (pc' := 1040) (lv' := [(5, .int r1035), (0, .ref b), (1, .ref (pa 0)), (2, .ref d0), (3, .ref o0), (4, .int i)]) hX dL_law_1038 (by decide) rfl rfl ?_
                                        refine j_aload_n (pc' := 1041) hX dL_law_1040 rfl 3 rfl rfl ?_
                                        refine j_aload_n (pc' := 1042) hX dL_law_1041 rfl 1 rfl rfl ?_
                                        refine j_iload (pc' := 1044) hX dL_law_1042 5 rfl rfl ?_
                                        refine j_iconst (pc' := 1045) (v := 1) hX dL_law_1044 (by decide) rfl ?_
                                        refine j_iadd (pc' := 1046) hX dL_law_1045 rfl ?_
                                        refine j_sld (pc' := 1047) hX hScr dL_law_1046 hf rfl (fun hf => ?_)
                                        refine j_callVMb (ci := 5) (nb := 14) (pc' := 1050) (k' := k + 1) (n' := n + 6) (As := [.int (xs (i + 1).toNatClampNeg)]) (rest := []) (stk := fun r1047 => [.int r1047]) (bs := (PcB g pa u1035_36.1 ++ [(MdW g d0 d1 d2 d3 d4 d5 d6 vd)] ++ [(ALW g o0 1 (u1035_36.2))])) (cs := ([(MdW g d0 d1 d2 d3 d4 d5 d6 vd)])) (rs := (List.map (fun i : Nat => List.getD (PcB g pa u1035_36.1 ++ [(MdW g d0 d1 d2 d3 d4 d5 d6 vd)] ++ [(ALW g o0 1 (u1035_36.2))]) i []) [0, 1, 2, 3, 4, 5, 6, 7, 8, 9, 10, 11, 13])) (ws' := fun u1047_37 => ((PcB g pa u1035_36.1 ++ [(MdW g d0 d1 d2 d3 d4 d5 d6 u1047_37)] ++ [(ALW g o0 1 (u1035_36.2))]).flatten)) (bs' := fun u1047_37 => (PcB g pa u1035_36.1 ++ [(MdW g d0 d1 d2 d3 d4 d5 d6 u1047_37)] ++ [(ALW g o0 1 (u1035_36.2))])) (d1 := fun u1047_37 => ([(MdW g d0 d1 d2 d3 d4 d5 d6 u1047_37)])) hX hW (fun l => met_X5_count l g d0 d1 d2 d3 d4 d5 d6 vd (xs (i + 1).toNatClampNeg) _ hf) rfl gL_law_X5_count yoX5_count rfl ⟨Nat.le_of_ble_eq_true rfl, Nat.le_of_ble_eq_true rfl⟩ ⟨Nat.le_refl _, Nat.le_refl _, hk1, hn6⟩ 0 rfl rfl [0, 1, 2, 3, 4, 5, 6, 7, 8, 9, 10, 11, 13, 12] rfl rfl rfl (by decide) rfl (fun _ => rfl) (fun _ => rfl) (fun _ => rfl) (fun _ => rfl) (Nat.le_of_ble_eq_true rfl) rfl (fun _ => rfl) dL_law_1047 rfl (fun r1047 u1047_37 hf => ?_)
                                        refine j_istore (pc' := 1052) (lv' := [(6, .int r1047), (5, .int r1035), (0, .ref b), (1, .ref (pa 0)), (2, .ref d0), (3, .ref o0), (4, .int i)]) hX dL_law_1050 (by decide) rfl rfl ?_
                                        refine j_aload_n (pc' := 1053) hX dL_law_1052 rfl 4 rfl rfl ?_
                                        refine j_callVRb (ci := 5) (nb := 14) (pc' := 1056) (As := []) (rest := []) (stk := fun r1053 => [.int r1053]) (bs := (PcB g pa u1035_36.1 ++ [(MdW g d0 d1 d2 d3 d4 d5 d6 u1047_37)] ++ [(ALW g o0 1 (u1035_36.2))])) (cs := ([(MdW g d0 d1 d2 d3 d4 d5 d6 u1047_37)])) (rs := (List.map (fun i : Nat => List.getD (PcB g pa u1035_36.1 ++ [(MdW g d0 d1 d2 d3 d4 d5 d6 u1047_37)] ++ [(ALW g o0 1 (u1035_36.2))]) i []) [0, 1, 2, 3, 4, 5, 6, 7, 8, 9, 10, 11, 13])) hX (fun l => met_X5_thrown l g d0 d1 d2 d3 d4 d5 d6 u1047_37 _ hf) rfl gL_law_X5_thrown yoX5_thrown rfl ⟨Nat.le_of_ble_eq_true rfl, Nat.le_of_ble_eq_true rfl⟩ ⟨⟨hk1, hn6⟩, rfl, rfl⟩ 0 rfl rfl [0, 1, 2, 3, 4, 5, 6, 7, 8, 9, 10, 11, 13, 12] rfl rfl rfl (by decide) rfl (Nat.le_of_ble_eq_true rfl) rfl (fun _ => rfl) dL_law_1053 rfl (fun r1053 hf => ?_)
                                        refine j_iload (pc' := 1058) hX dL_law_1056 1 rfl rfl ?_
                                        refine j_icmp_eq (tgt := 1063) (pc' := 1061) hX dL_law_1058 (by decide) rfl hf (fun hf => ?_) (fun hf => ?_)
                                        · refine j_iload (pc' := 1065) hX dL_law_1063 1 rfl rfl ?_
                                          refine j_if_ne (tgt := 1080) (pc' := 1068) hX dL_law_1065 (by decide) rfl hf (fun hf => ?_) (fun hf => ?_)
                                          · refine j_goto (tgt := 1399) hX dL_law_1080 (by decide) ?_
                                            refine j_iinc (pc' := 1402) (cst := 4) (v := (i + 4)) (lv' := [(4, .int (i + 4)), (6, .int r1047), (5, .int r1035), (0, .ref b), (1, .ref (pa 0)), (2, .ref d0), (3, .ref o0)]) hX dL_law_1399 (by decide) rfl 6 rfl (by decide) rfl rfl ?_
                                            refine j_goto (tgt := 23) hX dL_law_1402 (by decide) ?_
                                            refine J_sub (lv' := [(0, .ref b), (1, .ref (pa 0)), (2, .ref d0), (3, .ref o0), (4, .int (i + 4))]) [3, 4, 5, 6, 0] rfl ?_
                                            exact ih (i + 4) u1035_36.1 u1047_37 u1035_36.2 (k + 1) (n + 6) hf (by omega) (by omega)
                                          · refine j_aload_n (pc' := 1069) hX dL_law_1068 rfl 5 rfl rfl ?_
                                            refine j_iconst (pc' := 1070) (v := 0) hX dL_law_1069 (by decide) rfl ?_
                                            refine j_lald (pc' := 1071) hX 54 rfl dL_law_1070 ⟨by unfold vp_in; decide, hf⟩ rfl (fun hf => ?_)
                                            refine j_iload (pc' := 1073) hX dL_law_1071 0 rfl rfl ?_
                                            refine j_i2l (pc' := 1074) hX dL_law_1073 rfl ?_
                                            refine j_lcmp (pc' := 1075) hX dL_law_1074 rfl ?_
                                            refine j_if_eq (tgt := 1080) (pc' := 1078) hX dL_law_1075 (by decide) rfl hf (fun hf => ?_) (fun hf => ?_)
                                            · refine j_goto (tgt := 1399) hX dL_law_1080 (by decide) ?_
                                              refine j_iinc (pc' := 1402) (cst := 4) (v := (i + 4)) (lv' := [(4, .int (i + 4)), (6, .int r1047), (5, .int r1035), (0, .ref b), (1, .ref (pa 0)), (2, .ref d0), (3, .ref o0)]) hX dL_law_1399 (by decide) rfl 6 rfl (by decide) rfl rfl ?_
                                              refine j_goto (tgt := 23) hX dL_law_1402 (by decide) ?_
                                              refine J_sub (lv' := [(0, .ref b), (1, .ref (pa 0)), (2, .ref d0), (3, .ref o0), (4, .int (i + 4))]) [3, 4, 5, 6, 0] rfl ?_
                                              exact ih (i + 4) u1035_36.1 u1047_37 u1035_36.2 (k + 1) (n + 6) hf (by omega) (by omega)
                                            · refine j_iconst (pc' := 1079) (v := 0) hX dL_law_1078 (by decide) rfl ?_
                                              exact False.elim hf
                                        · refine j_iconst (pc' := 1062) (v := 0) hX dL_law_1061 (by decide) rfl ?_
                                          exact False.elim hf
                                      · replace hf := hf.2 hs16
                                        by_cases hs17 : ((xs i.toNatClampNeg) &&& 31) = 17
                                        · replace hf := hf.1 hs17
                                          refine j_tswI (tgt := 1083) (cst := 17) hX dL_law_39 hs17 (by decide) (by decide) rfl (by decide) ?_
                                          refine j_aload_n (pc' := 1084) hX dL_law_1083 rfl 1 rfl rfl ?_
                                          refine j_aload_n (pc' := 1085) hX dL_law_1084 rfl 0 rfl rfl ?_
                                          refine j_iload (pc' := 1087) hX dL_law_1085 4 rfl rfl ?_
                                          refine j_iconst (pc' := 1088) (v := 1) hX dL_law_1087 (by decide) rfl ?_
                                          refine j_iadd (pc' := 1089) hX dL_law_1088 rfl ?_
                                          refine j_sld (pc' := 1090) hX hScr dL_law_1089 hf rfl (fun hf => ?_)
                                          refine j_aload_n (pc' := 1091) hX dL_law_1090 rfl 3 rfl rfl ?_
                                          refine j_callSEb (nb := 14) (pc' := 1094) (k' := k + 1) (n' := n + 6) (As := [.ref (pa 0), .int (xs (i + 1).toNatClampNeg), .ref o0]) (rest := []) (stk := fun r1091 => [.int r1091]) (bs := (PcB g pa vp ++ [(MdW g d0 d1 d2 d3 d4 d5 d6 vd)] ++ [(ALW g o0 1 vo)])) (cs := (PcB g pa vp ++ [(ALW g o0 1 vo)])) (rs := (List.map (fun i : Nat => List.getD (PcB g pa vp ++ [(MdW g d0 d1 d2 d3 d4 d5 d6 vd)] ++ [(ALW g o0 1 vo)]) i []) [12])) (ws' := fun u1091_38 => ((PcB g pa u1091_38.1 ++ [(MdW g d0 d1 d2 d3 d4 d5 d6 vd)] ++ [(ALW g o0 1 (u1091_38.2))]).flatten)) (bs' := fun u1091_38 => (PcB g pa u1091_38.1 ++ [(MdW g d0 d1 d2 d3 d4 d5 d6 vd)] ++ [(ALW g o0 1 (u1091_38.2))])) (d1 := fun u1091_38 => (PcB g pa u1091_38.1 ++ [(ALW g o0 1 (u1091_38.2))])) hX hW hE (fun l => met_L_setting l g pa o0 vp vo (xs (i + 1).toNatClampNeg) _ hf) rfl gL_law_L_setting yoL_setting rfl ⟨Nat.le_of_ble_eq_true rfl, Nat.le_of_ble_eq_true rfl⟩ ⟨Nat.le_refl _, Nat.le_refl _, hk1, hn6⟩ [12, 0, 1, 2, 3, 4, 5, 6, 7, 8, 9, 10, 11, 13] rfl rfl rfl (by decide) rfl (fun _ => rfl) (fun _ => rfl) (fun _ => rfl) (fun _ => rfl) (Nat.le_of_ble_eq_true rfl) rfl (fun _ => rfl) dL_law_1091 rfl (fun r1091 u1091_38 hf => ?_)
                                          refine j_istore (pc' := 1096) (lv' := [(5, .int r1091), (0, .ref b), (1, .ref (pa 0)), (2, .ref d0), (3, .ref o0), (4, .int i)]) hX dL_law_1094 (by decide) rfl rfl ?_
                                          refine j_aload_n (pc' := 1097) hX dL_law_1096 rfl 3 rfl rfl ?_
                                          refine j_aload_n (pc' := 1098) hX dL_law_1097 rfl 1 rfl rfl ?_
                                          refine j_iload (pc' := 1100) hX dL_law_1098 5 rfl rfl ?_
                                          refine j_iconst (pc' := 1101) (v := 1) hX dL_law_1100 (by decide) rfl ?_
                                          refine j_iadd (pc' := 1102) hX dL_law_1101 rfl ?_
                                          refine j_sld (pc' := 1103) hX hScr dL_law_1102 hf rfl (fun hf => ?_)
                                          refine j_callVMb (ci := 5) (nb := 14) (pc' := 1106) (k' := k + 1) (n' := n + 6) (As := [.int (xs (i + 1).toNatClampNeg)]) (rest := []) (stk := fun r1103 => [.int r1103]) (bs := (PcB g pa u1091_38.1 ++ [(MdW g d0 d1 d2 d3 d4 d5 d6 vd)] ++ [(ALW g o0 1 (u1091_38.2))])) (cs := ([(MdW g d0 d1 d2 d3 d4 d5 d6 vd)])) (rs := (List.map (fun i : Nat => List.getD (PcB g pa u1091_38.1 ++ [(MdW g d0 d1 d2 d3 d4 d5 d6 vd)] ++ [(ALW g o0 1 (u1091_38.2))]) i []) [0, 1, 2, 3, 4, 5, 6, 7, 8, 9, 10, 11, 13])) (ws' := fun u1103_39 => ((PcB g pa u1091_38.1 ++ [(MdW g d0 d1 d2 d3 d4 d5 d6 u1103_39)] ++ [(ALW g o0 1 (u1091_38.2))]).flatten)) (bs' := fun u1103_39 => (PcB g pa u1091_38.1 ++ [(MdW g d0 d1 d2 d3 d4 d5 d6 u1103_39)] ++ [(ALW g o0 1 (u1091_38.2))])) (d1 := fun u1103_39 => ([(MdW g d0 d1 d2 d3 d4 d5 d6 u1103_39)])) hX hW (fun l => met_X5_setting l g d0 d1 d2 d3 d4 d5 d6 vd (xs (i + 1).toNatClampNeg) _ hf) rfl gL_law_X5_setting yoX5_setting rfl ⟨Nat.le_of_ble_eq_true rfl, Nat.le_of_ble_eq_true rfl⟩ ⟨Nat.le_refl _, Nat.le_refl _, hk1, hn6⟩ 0 rfl rfl [0, 1, 2, 3, 4, 5, 6, 7, 8, 9, 10, 11, 13, 12] rfl rfl rfl (by decide) rfl (fun _ => rfl) (fun _ => rfl) (fun _ => rfl) (fun _ => rfl) (Nat.le_of_ble_eq_true rfl) rfl (fun _ => rfl) dL_law_1103 rfl (fun r1103 u1103_39 hf => ?_)
                                          refine j_istore (pc' := 1108) (lv' := [(6, .int r1103), (5, .int r1091), (0, .ref b), (1, .ref (pa 0)), (2, .ref d0), (3, .ref o0), (4, .int i)]) hX dL_law_1106 (by decide) rfl rfl ?_
                                          refine j_aload_n (pc' := 1109) hX dL_law_1108 rfl 4 rfl rfl ?_
                                          refine j_callVRb (ci := 5) (nb := 14) (pc' := 1112) (As := []) (rest := []) (stk := fun r1109 => [.int r1109]) (bs := (PcB g pa u1091_38.1 ++ [(MdW g d0 d1 d2 d3 d4 d5 d6 u1103_39)] ++ [(ALW g o0 1 (u1091_38.2))])) (cs := ([(MdW g d0 d1 d2 d3 d4 d5 d6 u1103_39)])) (rs := (List.map (fun i : Nat => List.getD (PcB g pa u1091_38.1 ++ [(MdW g d0 d1 d2 d3 d4 d5 d6 u1103_39)] ++ [(ALW g o0 1 (u1091_38.2))]) i []) [0, 1, 2, 3, 4, 5, 6, 7, 8, 9, 10, 11, 13])) hX (fun l => met_X5_thrown l g d0 d1 d2 d3 d4 d5 d6 u1103_39 _ hf) rfl gL_law_X5_thrown yoX5_thrown rfl ⟨Nat.le_of_ble_eq_true rfl, Nat.le_of_ble_eq_true rfl⟩ ⟨⟨hk1, hn6⟩, rfl, rfl⟩ 0 rfl rfl [0, 1, 2, 3, 4, 5, 6, 7, 8, 9, 10, 11, 13, 12] rfl rfl rfl (by decide) rfl (Nat.le_of_ble_eq_true rfl) rfl (fun _ => rfl) dL_law_1109 rfl (fun r1109 hf => ?_)
                                          refine j_iload (pc' := 1114) hX dL_law_1112 1 rfl rfl ?_
                                          refine j_icmp_eq (tgt := 1119) (pc' := 1117) hX dL_law_1114 (by decide) rfl hf (fun hf => ?_) (fun hf => ?_)
                                          · refine j_iload (pc' := 1121) hX dL_law_1119 1 rfl rfl ?_
                                            refine j_if_ne (tgt := 1136) (pc' := 1124) hX dL_law_1121 (by decide) rfl hf (fun hf => ?_) (fun hf => ?_)
                                            · refine j_goto (tgt := 1399) hX dL_law_1136 (by decide) ?_
                                              refine j_iinc (pc' := 1402) (cst := 4) (v := (i + 4)) (lv' := [(4, .int (i + 4)), (6, .int r1103), (5, .int r1091), (0, .ref b), (1, .ref (pa 0)), (2, .ref d0), (3, .ref o0)]) hX dL_law_1399 (by decide) rfl 6 rfl (by decide) rfl rfl ?_
                                              refine j_goto (tgt := 23) hX dL_law_1402 (by decide) ?_
                                              refine J_sub (lv' := [(0, .ref b), (1, .ref (pa 0)), (2, .ref d0), (3, .ref o0), (4, .int (i + 4))]) [3, 4, 5, 6, 0] rfl ?_
                                              exact ih (i + 4) u1091_38.1 u1103_39 u1091_38.2 (k + 1) (n + 6) hf (by omega) (by omega)
                                            · refine j_aload_n (pc' := 1125) hX dL_law_1124 rfl 5 rfl rfl ?_
                                              refine j_iconst (pc' := 1126) (v := 0) hX dL_law_1125 (by decide) rfl ?_
                                              refine j_lald (pc' := 1127) hX 54 rfl dL_law_1126 ⟨by unfold vp_in; decide, hf⟩ rfl (fun hf => ?_)
                                              refine j_iload (pc' := 1129) hX dL_law_1127 0 rfl rfl ?_
                                              refine j_i2l (pc' := 1130) hX dL_law_1129 rfl ?_
                                              refine j_lcmp (pc' := 1131) hX dL_law_1130 rfl ?_
                                              refine j_if_eq (tgt := 1136) (pc' := 1134) hX dL_law_1131 (by decide) rfl hf (fun hf => ?_) (fun hf => ?_)
                                              · refine j_goto (tgt := 1399) hX dL_law_1136 (by decide) ?_
                                                refine j_iinc (pc' := 1402) (cst := 4) (v := (i + 4)) (lv' := [(4, .int (i + 4)), (6, .int r1103), (5, .int r1091), (0, .ref b), (1, .ref (pa 0)), (2, .ref d0), (3, .ref o0)]) hX dL_law_1399 (by decide) rfl 6 rfl (by decide) rfl rfl ?_
                                                refine j_goto (tgt := 23) hX dL_law_1402 (by decide) ?_
                                                refine J_sub (lv' := [(0, .ref b), (1, .ref (pa 0)), (2, .ref d0), (3, .ref o0), (4, .int (i + 4))]) [3, 4, 5, 6, 0] rfl ?_
                                                exact ih (i + 4) u1091_38.1 u1103_39 u1091_38.2 (k + 1) (n + 6) hf (by omega) (by omega)
                                              · refine j_iconst (pc' := 1135) (v := 0) hX dL_law_1134 (by decide) rfl ?_
                                                exact False.elim hf
                                          · refine j_iconst (pc' := 1118) (v := 0) hX dL_law_1117 (by decide) rfl ?_
                                            exact False.elim hf
                                        · replace hf := hf.2 hs17
                                          by_cases hs18 : ((xs i.toNatClampNeg) &&& 31) = 18
                                          · replace hf := hf.1 hs18
                                            refine j_tswI (tgt := 1139) (cst := 18) hX dL_law_39 hs18 (by decide) (by decide) rfl (by decide) ?_
                                            refine j_aload_n (pc' := 1140) hX dL_law_1139 rfl 1 rfl rfl ?_
                                            refine j_aload_n (pc' := 1141) hX dL_law_1140 rfl 0 rfl rfl ?_
                                            refine j_iload (pc' := 1143) hX dL_law_1141 4 rfl rfl ?_
                                            refine j_iconst (pc' := 1144) (v := 1) hX dL_law_1143 (by decide) rfl ?_
                                            refine j_iadd (pc' := 1145) hX dL_law_1144 rfl ?_
                                            refine j_sld (pc' := 1146) hX hScr dL_law_1145 hf rfl (fun hf => ?_)
                                            refine j_aload_n (pc' := 1147) hX dL_law_1146 rfl 3 rfl rfl ?_
                                            refine j_callSEb (nb := 14) (pc' := 1150) (k' := k + 1) (n' := n + 6) (As := [.ref (pa 0), .int (xs (i + 1).toNatClampNeg), .ref o0]) (rest := []) (stk := fun r1147 => [.int r1147]) (bs := (PcB g pa vp ++ [(MdW g d0 d1 d2 d3 d4 d5 d6 vd)] ++ [(ALW g o0 1 vo)])) (cs := (PcB g pa vp ++ [(ALW g o0 1 vo)])) (rs := (List.map (fun i : Nat => List.getD (PcB g pa vp ++ [(MdW g d0 d1 d2 d3 d4 d5 d6 vd)] ++ [(ALW g o0 1 vo)]) i []) [12])) (ws' := fun u1147_40 => ((PcB g pa u1147_40.1 ++ [(MdW g d0 d1 d2 d3 d4 d5 d6 vd)] ++ [(ALW g o0 1 (u1147_40.2))]).flatten)) (bs' := fun u1147_40 => (PcB g pa u1147_40.1 ++ [(MdW g d0 d1 d2 d3 d4 d5 d6 vd)] ++ [(ALW g o0 1 (u1147_40.2))])) (d1 := fun u1147_40 => (PcB g pa u1147_40.1 ++ [(ALW g o0 1 (u1147_40.2))])) hX hW hE (fun l => met_L_fewest l g pa o0 vp vo (xs (i + 1).toNatClampNeg) _ hf) rfl gL_law_L_fewest yoL_fewest rfl ⟨Nat.le_of_ble_eq_true rfl, Nat.le_of_ble_eq_true rfl⟩ ⟨Nat.le_refl _, Nat.le_refl _, hk1, hn6⟩ [12, 0, 1, 2, 3, 4, 5, 6, 7, 8, 9, 10, 11, 13] rfl rfl rfl (by decide) rfl (fun _ => rfl) (fun _ => rfl) (fun _ => rfl) (fun _ => rfl) (Nat.le_of_ble_eq_true rfl) rfl (fun _ => rfl) dL_law_1147 rfl (fun r1147 u1147_40 hf => ?_)
                                            refine j_istore (pc' := 1152) (lv' := [(5, .int r1147), (0, .ref b), (1, .ref (pa 0)), (2, .ref d0), (3, .ref o0), (4, .int i)]) hX dL_law_1150 (by decide) rfl rfl ?_
                                            refine j_aload_n (pc' := 1153) hX dL_law_1152 rfl 3 rfl rfl ?_
                                            refine j_aload_n (pc' := 1154) hX dL_law_1153 rfl 1 rfl rfl ?_
                                            refine j_iload (pc' := 1156) hX dL_law_1154 5 rfl rfl ?_
                                            refine j_iconst (pc' := 1157) (v := 1) hX dL_law_1156 (by decide) rfl ?_
                                            refine j_iadd (pc' := 1158) hX dL_law_1157 rfl ?_
                                            refine j_sld (pc' := 1159) hX hScr dL_law_1158 hf rfl (fun hf => ?_)
                                            refine j_callVMb (ci := 5) (nb := 14) (pc' := 1162) (k' := k + 1) (n' := n + 6) (As := [.int (xs (i + 1).toNatClampNeg)]) (rest := []) (stk := fun r1159 => [.int r1159]) (bs := (PcB g pa u1147_40.1 ++ [(MdW g d0 d1 d2 d3 d4 d5 d6 vd)] ++ [(ALW g o0 1 (u1147_40.2))])) (cs := ([(MdW g d0 d1 d2 d3 d4 d5 d6 vd)])) (rs := (List.map (fun i : Nat => List.getD (PcB g pa u1147_40.1 ++ [(MdW g d0 d1 d2 d3 d4 d5 d6 vd)] ++ [(ALW g o0 1 (u1147_40.2))]) i []) [0, 1, 2, 3, 4, 5, 6, 7, 8, 9, 10, 11, 13])) (ws' := fun u1159_41 => ((PcB g pa u1147_40.1 ++ [(MdW g d0 d1 d2 d3 d4 d5 d6 u1159_41)] ++ [(ALW g o0 1 (u1147_40.2))]).flatten)) (bs' := fun u1159_41 => (PcB g pa u1147_40.1 ++ [(MdW g d0 d1 d2 d3 d4 d5 d6 u1159_41)] ++ [(ALW g o0 1 (u1147_40.2))])) (d1 := fun u1159_41 => ([(MdW g d0 d1 d2 d3 d4 d5 d6 u1159_41)])) hX hW (fun l => met_X5_fewest l g d0 d1 d2 d3 d4 d5 d6 vd (xs (i + 1).toNatClampNeg) _ hf) rfl gL_law_X5_fewest yoX5_fewest rfl ⟨Nat.le_of_ble_eq_true rfl, Nat.le_of_ble_eq_true rfl⟩ ⟨Nat.le_refl _, Nat.le_refl _, hk1, hn6⟩ 0 rfl rfl [0, 1, 2, 3, 4, 5, 6, 7, 8, 9, 10, 11, 13, 12] rfl rfl rfl (by decide) rfl (fun _ => rfl) (fun _ => rfl) (fun _ => rfl) (fun _ => rfl) (Nat.le_of_ble_eq_true rfl) rfl (fun _ => rfl) dL_law_1159 rfl (fun r1159 u1159_41 hf => ?_)
                                            refine j_istore (pc' := 1164) (lv' := [(6, .int r1159), (5, .int r1147), (0, .ref b), (1, .ref (pa 0)), (2, .ref d0), (3, .ref o0), (4, .int i)]) hX dL_law_1162 (by decide) rfl rfl ?_
                                            refine j_aload_n (pc' := 1165) hX dL_law_1164 rfl 4 rfl rfl ?_
                                            refine j_callVRb (ci := 5) (nb := 14) (pc' := 1168) (As := []) (rest := []) (stk := fun r1165 => [.int r1165]) (bs := (PcB g pa u1147_40.1 ++ [(MdW g d0 d1 d2 d3 d4 d5 d6 u1159_41)] ++ [(ALW g o0 1 (u1147_40.2))])) (cs := ([(MdW g d0 d1 d2 d3 d4 d5 d6 u1159_41)])) (rs := (List.map (fun i : Nat => List.getD (PcB g pa u1147_40.1 ++ [(MdW g d0 d1 d2 d3 d4 d5 d6 u1159_41)] ++ [(ALW g o0 1 (u1147_40.2))]) i []) [0, 1, 2, 3, 4, 5, 6, 7, 8, 9, 10, 11, 13])) hX (fun l => met_X5_thrown l g d0 d1 d2 d3 d4 d5 d6 u1159_41 _ hf) rfl gL_law_X5_thrown yoX5_thrown rfl ⟨Nat.le_of_ble_eq_true rfl, Nat.le_of_ble_eq_true rfl⟩ ⟨⟨hk1, hn6⟩, rfl, rfl⟩ 0 rfl rfl [0, 1, 2, 3, 4, 5, 6, 7, 8, 9, 10, 11, 13, 12] rfl rfl rfl (by decide) rfl (Nat.le_of_ble_eq_true rfl) rfl (fun _ => rfl) dL_law_1165 rfl (fun r1165 hf => ?_)
                                            refine j_iload (pc' := 1170) hX dL_law_1168 1 rfl rfl ?_
                                            refine j_icmp_eq (tgt := 1175) (pc' := 1173) hX dL_law_1170 (by decide) rfl hf (fun hf => ?_) (fun hf => ?_)
                                            · refine j_iload (pc' := 1177) hX dL_law_1175 1 rfl rfl ?_
                                              refine j_if_ne (tgt := 1192) (pc' := 1180) hX dL_law_1177 (by decide) rfl hf (fun hf => ?_) (fun hf => ?_)
                                              · refine j_goto (tgt := 1399) hX dL_law_1192 (by decide) ?_
                                                refine j_iinc (pc' := 1402) (cst := 4) (v := (i + 4)) (lv' := [(4, .int (i + 4)), (6, .int r1159), (5, .int r1147), (0, .ref b), (1, .ref (pa 0)), (2, .ref d0), (3, .ref o0)]) hX dL_law_1399 (by decide) rfl 6 rfl (by decide) rfl rfl ?_
                                                refine j_goto (tgt := 23) hX dL_law_1402 (by decide) ?_
                                                refine J_sub (lv' := [(0, .ref b), (1, .ref (pa 0)), (2, .ref d0), (3, .ref o0), (4, .int (i + 4))]) [3, 4, 5, 6, 0] rfl ?_
                                                exact ih (i + 4) u1147_40.1 u1159_41 u1147_40.2 (k + 1) (n + 6) hf (by omega) (by omega)
                                              · refine j_aload_n (pc' := 1181) hX dL_law_1180 rfl 5 rfl rfl ?_
                                                refine j_iconst (pc' := 1182) (v := 0) hX dL_law_1181 (by decide) rfl ?_
                                                refine j_lald (pc' := 1183) hX 54 rfl dL_law_1182 ⟨by unfold vp_in; decide, hf⟩ rfl (fun hf => ?_)
                                                refine j_iload (pc' := 1185) hX dL_law_1183 0 rfl rfl ?_
                                                refine j_i2l (pc' := 1186) hX dL_law_1185 rfl ?_
                                                refine j_lcmp (pc' := 1187) hX dL_law_1186 rfl ?_
                                                refine j_if_eq (tgt := 1192) (pc' := 1190) hX dL_law_1187 (by decide) rfl hf (fun hf => ?_) (fun hf => ?_)
                                                · refine j_goto (tgt := 1399) hX dL_law_1192 (by decide) ?_
                                                  refine j_iinc (pc' := 1402) (cst := 4) (v := (i + 4)) (lv' := [(4, .int (i + 4)), (6, .int r1159), (5, .int r1147), (0, .ref b), (1, .ref (pa 0)), (2, .ref d0), (3, .ref o0)]) hX dL_law_1399 (by decide) rfl 6 rfl (by decide) rfl rfl ?_
                                                  refine j_goto (tgt := 23) hX dL_law_1402 (by decide) ?_
                                                  refine J_sub (lv' := [(0, .ref b), (1, .ref (pa 0)), (2, .ref d0), (3, .ref o0), (4, .int (i + 4))]) [3, 4, 5, 6, 0] rfl ?_
                                                  exact ih (i + 4) u1147_40.1 u1159_41 u1147_40.2 (k + 1) (n + 6) hf (by omega) (by omega)
                                                · refine j_iconst (pc' := 1191) (v := 0) hX dL_law_1190 (by decide) rfl ?_
                                                  exact False.elim hf
                                            · refine j_iconst (pc' := 1174) (v := 0) hX dL_law_1173 (by decide) rfl ?_
                                              exact False.elim hf
                                          · replace hf := hf.2 hs18
                                            by_cases hs19 : ((xs i.toNatClampNeg) &&& 31) = 19
                                            · replace hf := hf.1 hs19
                                              refine j_tswI (tgt := 1195) (cst := 19) hX dL_law_39 hs19 (by decide) (by decide) rfl (by decide) ?_
                                              refine j_aload_n (pc' := 1196) hX dL_law_1195 rfl 1 rfl rfl ?_
                                              refine j_aload_n (pc' := 1197) hX dL_law_1196 rfl 0 rfl rfl ?_
                                              refine j_iload (pc' := 1199) hX dL_law_1197 4 rfl rfl ?_
                                              refine j_iconst (pc' := 1200) (v := 1) hX dL_law_1199 (by decide) rfl ?_
                                              refine j_iadd (pc' := 1201) hX dL_law_1200 rfl ?_
                                              refine j_sld (pc' := 1202) hX hScr dL_law_1201 hf rfl (fun hf => ?_)
                                              refine j_aload_n (pc' := 1203) hX dL_law_1202 rfl 3 rfl rfl ?_
                                              refine j_callSEb (nb := 14) (pc' := 1206) (k' := k + 1) (n' := n + 6) (As := [.ref (pa 0), .int (xs (i + 1).toNatClampNeg), .ref o0]) (rest := []) (stk := fun r1203 => [.int r1203]) (bs := (PcB g pa vp ++ [(MdW g d0 d1 d2 d3 d4 d5 d6 vd)] ++ [(ALW g o0 1 vo)])) (cs := (PcB g pa vp ++ [(ALW g o0 1 vo)])) (rs := (List.map (fun i : Nat => List.getD (PcB g pa vp ++ [(MdW g d0 d1 d2 d3 d4 d5 d6 vd)] ++ [(ALW g o0 1 vo)]) i []) [12])) (ws' := fun u1203_42 => ((PcB g pa u1203_42.1 ++ [(MdW g d0 d1 d2 d3 d4 d5 d6 vd)] ++ [(ALW g o0 1 (u1203_42.2))]).flatten)) (bs' := fun u1203_42 => (PcB g pa u1203_42.1 ++ [(MdW g d0 d1 d2 d3 d4 d5 d6 vd)] ++ [(ALW g o0 1 (u1203_42.2))])) (d1 := fun u1203_42 => (PcB g pa u1203_42.1 ++ [(ALW g o0 1 (u1203_42.2))])) hX hW hE (fun l => met_L_nextSize l g pa o0 vp vo (xs (i + 1).toNatClampNeg) _ hf) rfl gL_law_L_nextSize yoL_nextSize rfl ⟨Nat.le_of_ble_eq_true rfl, Nat.le_of_ble_eq_true rfl⟩ ⟨Nat.le_refl _, Nat.le_refl _, hk1, hn6⟩ [12, 0, 1, 2, 3, 4, 5, 6, 7, 8, 9, 10, 11, 13] rfl rfl rfl (by decide) rfl (fun _ => rfl) (fun _ => rfl) (fun _ => rfl) (fun _ => rfl) (Nat.le_of_ble_eq_true rfl) rfl (fun _ => rfl) dL_law_1203 rfl (fun r1203 u1203_42 hf => ?_)
                                              refine j_istore (pc' := 1208) (lv' := [(5, .int r1203), (0, .ref b), (1, .ref (pa 0)), (2, .ref d0), (3, .ref o0), (4, .int i)]) hX dL_law_1206 (by decide) rfl rfl ?_
                                              refine j_aload_n (pc' := 1209) hX dL_law_1208 rfl 3 rfl rfl ?_
                                              refine j_aload_n (pc' := 1210) hX dL_law_1209 rfl 1 rfl rfl ?_
                                              refine j_iload (pc' := 1212) hX dL_law_1210 5 rfl rfl ?_
                                              refine j_iconst (pc' := 1213) (v := 1) hX dL_law_1212 (by decide) rfl ?_
                                              refine j_iadd (pc' := 1214) hX dL_law_1213 rfl ?_
                                              refine j_sld (pc' := 1215) hX hScr dL_law_1214 hf rfl (fun hf => ?_)
                                              refine j_callVMb (ci := 5) (nb := 14) (pc' := 1218) (k' := k + 1) (n' := n + 6) (As := [.int (xs (i + 1).toNatClampNeg)]) (rest := []) (stk := fun r1215 => [.int r1215]) (bs := (PcB g pa u1203_42.1 ++ [(MdW g d0 d1 d2 d3 d4 d5 d6 vd)] ++ [(ALW g o0 1 (u1203_42.2))])) (cs := ([(MdW g d0 d1 d2 d3 d4 d5 d6 vd)])) (rs := (List.map (fun i : Nat => List.getD (PcB g pa u1203_42.1 ++ [(MdW g d0 d1 d2 d3 d4 d5 d6 vd)] ++ [(ALW g o0 1 (u1203_42.2))]) i []) [0, 1, 2, 3, 4, 5, 6, 7, 8, 9, 10, 11, 13])) (ws' := fun u1215_43 => ((PcB g pa u1203_42.1 ++ [(MdW g d0 d1 d2 d3 d4 d5 d6 u1215_43)] ++ [(ALW g o0 1 (u1203_42.2))]).flatten)) (bs' := fun u1215_43 => (PcB g pa u1203_42.1 ++ [(MdW g d0 d1 d2 d3 d4 d5 d6 u1215_43)] ++ [(ALW g o0 1 (u1203_42.2))])) (d1 := fun u1215_43 => ([(MdW g d0 d1 d2 d3 d4 d5 d6 u1215_43)])) hX hW (fun l => met_X5_nextSize l g d0 d1 d2 d3 d4 d5 d6 vd (xs (i + 1).toNatClampNeg) _ hf) rfl gL_law_X5_nextSize yoX5_nextSize rfl ⟨Nat.le_of_ble_eq_true rfl, Nat.le_of_ble_eq_true rfl⟩ ⟨Nat.le_refl _, Nat.le_refl _, hk1, hn6⟩ 0 rfl rfl [0, 1, 2, 3, 4, 5, 6, 7, 8, 9, 10, 11, 13, 12] rfl rfl rfl (by decide) rfl (fun _ => rfl) (fun _ => rfl) (fun _ => rfl) (fun _ => rfl) (Nat.le_of_ble_eq_true rfl) rfl (fun _ => rfl) dL_law_1215 rfl (fun r1215 u1215_43 hf => ?_)
                                              refine j_istore (pc' := 1220) (lv' := [(6, .int r1215), (5, .int r1203), (0, .ref b), (1, .ref (pa 0)), (2, .ref d0), (3, .ref o0), (4, .int i)]) hX dL_law_1218 (by decide) rfl rfl ?_
                                              refine j_aload_n (pc' := 1221) hX dL_law_1220 rfl 4 rfl rfl ?_
                                              refine j_callVRb (ci := 5) (nb := 14) (pc' := 1224) (As := []) (rest := []) (stk := fun r1221 => [.int r1221]) (bs := (PcB g pa u1203_42.1 ++ [(MdW g d0 d1 d2 d3 d4 d5 d6 u1215_43)] ++ [(ALW g o0 1 (u1203_42.2))])) (cs := ([(MdW g d0 d1 d2 d3 d4 d5 d6 u1215_43)])) (rs := (List.map (fun i : Nat => List.getD (PcB g pa u1203_42.1 ++ [(MdW g d0 d1 d2 d3 d4 d5 d6 u1215_43)] ++ [(ALW g o0 1 (u1203_42.2))]) i []) [0, 1, 2, 3, 4, 5, 6, 7, 8, 9, 10, 11, 13])) hX (fun l => met_X5_thrown l g d0 d1 d2 d3 d4 d5 d6 u1215_43 _ hf) rfl gL_law_X5_thrown yoX5_thrown rfl ⟨Nat.le_of_ble_eq_true rfl, Nat.le_of_ble_eq_true rfl⟩ ⟨⟨hk1, hn6⟩, rfl, rfl⟩ 0 rfl rfl [0, 1, 2, 3, 4, 5, 6, 7, 8, 9, 10, 11, 13, 12] rfl rfl rfl (by decide) rfl (Nat.le_of_ble_eq_true rfl) rfl (fun _ => rfl) dL_law_1221 rfl (fun r1221 hf => ?_)
                                              refine j_iload (pc' := 1226) hX dL_law_1224 1 rfl rfl ?_
                                              refine j_icmp_eq (tgt := 1231) (pc' := 1229) hX dL_law_1226 (by decide) rfl hf (fun hf => ?_) (fun hf => ?_)
                                              · refine j_iload (pc' := 1233) hX dL_law_1231 1 rfl rfl ?_
                                                refine j_if_ne (tgt := 1248) (pc' := 1236) hX dL_law_1233 (by decide) rfl hf (fun hf => ?_) (fun hf => ?_)
                                                · refine j_goto (tgt := 1399) hX dL_law_1248 (by decide) ?_
                                                  refine j_iinc (pc' := 1402) (cst := 4) (v := (i + 4)) (lv' := [(4, .int (i + 4)), (6, .int r1215), (5, .int r1203), (0, .ref b), (1, .ref (pa 0)), (2, .ref d0), (3, .ref o0)]) hX dL_law_1399 (by decide) rfl 6 rfl (by decide) rfl rfl ?_
                                                  refine j_goto (tgt := 23) hX dL_law_1402 (by decide) ?_
                                                  refine J_sub (lv' := [(0, .ref b), (1, .ref (pa 0)), (2, .ref d0), (3, .ref o0), (4, .int (i + 4))]) [3, 4, 5, 6, 0] rfl ?_
                                                  exact ih (i + 4) u1203_42.1 u1215_43 u1203_42.2 (k + 1) (n + 6) hf (by omega) (by omega)
                                                · refine j_aload_n (pc' := 1237) hX dL_law_1236 rfl 5 rfl rfl ?_
                                                  refine j_iconst (pc' := 1238) (v := 0) hX dL_law_1237 (by decide) rfl ?_
                                                  refine j_lald (pc' := 1239) hX 54 rfl dL_law_1238 ⟨by unfold vp_in; decide, hf⟩ rfl (fun hf => ?_)
                                                  refine j_iload (pc' := 1241) hX dL_law_1239 0 rfl rfl ?_
                                                  refine j_i2l (pc' := 1242) hX dL_law_1241 rfl ?_
                                                  refine j_lcmp (pc' := 1243) hX dL_law_1242 rfl ?_
                                                  refine j_if_eq (tgt := 1248) (pc' := 1246) hX dL_law_1243 (by decide) rfl hf (fun hf => ?_) (fun hf => ?_)
                                                  · refine j_goto (tgt := 1399) hX dL_law_1248 (by decide) ?_
                                                    refine j_iinc (pc' := 1402) (cst := 4) (v := (i + 4)) (lv' := [(4, .int (i + 4)), (6, .int r1215), (5, .int r1203), (0, .ref b), (1, .ref (pa 0)), (2, .ref d0), (3, .ref o0)]) hX dL_law_1399 (by decide) rfl 6 rfl (by decide) rfl rfl ?_
                                                    refine j_goto (tgt := 23) hX dL_law_1402 (by decide) ?_
                                                    refine J_sub (lv' := [(0, .ref b), (1, .ref (pa 0)), (2, .ref d0), (3, .ref o0), (4, .int (i + 4))]) [3, 4, 5, 6, 0] rfl ?_
                                                    exact ih (i + 4) u1203_42.1 u1215_43 u1203_42.2 (k + 1) (n + 6) hf (by omega) (by omega)
                                                  · refine j_iconst (pc' := 1247) (v := 0) hX dL_law_1246 (by decide) rfl ?_
                                                    exact False.elim hf
                                              · refine j_iconst (pc' := 1230) (v := 0) hX dL_law_1229 (by decide) rfl ?_
                                                exact False.elim hf
                                            · replace hf := hf.2 hs19
                                              by_cases hs20 : ((xs i.toNatClampNeg) &&& 31) = 20
                                              · replace hf := hf.1 hs20
                                                refine j_tswI (tgt := 1251) (cst := 20) hX dL_law_39 hs20 (by decide) (by decide) rfl (by decide) ?_
                                                refine j_aload_n (pc' := 1252) hX dL_law_1251 rfl 1 rfl rfl ?_
                                                refine j_aload_n (pc' := 1253) hX dL_law_1252 rfl 0 rfl rfl ?_
                                                refine j_iload (pc' := 1255) hX dL_law_1253 4 rfl rfl ?_
                                                refine j_iconst (pc' := 1256) (v := 1) hX dL_law_1255 (by decide) rfl ?_
                                                refine j_iadd (pc' := 1257) hX dL_law_1256 rfl ?_
                                                refine j_sld (pc' := 1258) hX hScr dL_law_1257 hf rfl (fun hf => ?_)
                                                refine j_aload_n (pc' := 1259) hX dL_law_1258 rfl 0 rfl rfl ?_
                                                refine j_iload (pc' := 1261) hX dL_law_1259 4 rfl rfl ?_
                                                refine j_iconst (pc' := 1262) (v := 2) hX dL_law_1261 (by decide) rfl ?_
                                                refine j_iadd (pc' := 1263) hX dL_law_1262 rfl ?_
                                                refine j_sld (pc' := 1264) hX hScr dL_law_1263 hf rfl (fun hf => ?_)
                                                refine j_aload_n (pc' := 1265) hX dL_law_1264 rfl 0 rfl rfl ?_
                                                refine j_iload (pc' := 1267) hX dL_law_1265 4 rfl rfl ?_
                                                refine j_iconst (pc' := 1268) (v := 3) hX dL_law_1267 (by decide) rfl ?_
                                                refine j_iadd (pc' := 1269) hX dL_law_1268 rfl ?_
                                                refine j_sld (pc' := 1270) hX hScr dL_law_1269 hf rfl (fun hf => ?_)
                                                refine j_aload_n (pc' := 1271) hX dL_law_1270 rfl 3 rfl rfl ?_
                                                refine j_callSEb (nb := 14) (pc' := 1274) (k' := k + 3) (n' := n + 18) (As := [.ref (pa 0), .int (xs (i + 1).toNatClampNeg), .int (xs (i + 2).toNatClampNeg), .int (xs (i + 3).toNatClampNeg), .ref o0]) (rest := []) (stk := fun r1271 => [.int r1271]) (bs := (PcB g pa vp ++ [(MdW g d0 d1 d2 d3 d4 d5 d6 vd)] ++ [(ALW g o0 1 vo)])) (cs := (PcB g pa vp ++ [(ALW g o0 1 vo)])) (rs := (List.map (fun i : Nat => List.getD (PcB g pa vp ++ [(MdW g d0 d1 d2 d3 d4 d5 d6 vd)] ++ [(ALW g o0 1 vo)]) i []) [12])) (ws' := fun u1271_44 => ((PcB g pa u1271_44.1 ++ [(MdW g d0 d1 d2 d3 d4 d5 d6 vd)] ++ [(ALW g o0 1 (u1271_44.2))]).flatten)) (bs' := fun u1271_44 => (PcB g pa u1271_44.1 ++ [(MdW g d0 d1 d2 d3 d4 d5 d6 vd)] ++ [(ALW g o0 1 (u1271_44.2))])) (d1 := fun u1271_44 => (PcB g pa u1271_44.1 ++ [(ALW g o0 1 (u1271_44.2))])) hX hW hE (fun l => met_L_ifFilled l g pa o0 vp vo (xs (i + 1).toNatClampNeg) (xs (i + 2).toNatClampNeg) (xs (i + 3).toNatClampNeg) _ hf) rfl gL_law_L_ifFilled yoL_ifFilled rfl ⟨Nat.le_of_ble_eq_true rfl, Nat.le_of_ble_eq_true rfl⟩ ⟨Nat.le_refl _, Nat.le_refl _, hk3, hn18⟩ [12, 0, 1, 2, 3, 4, 5, 6, 7, 8, 9, 10, 11, 13] rfl rfl rfl (by decide) rfl (fun _ => rfl) (fun _ => rfl) (fun _ => rfl) (fun _ => rfl) (Nat.le_of_ble_eq_true rfl) rfl (fun _ => rfl) dL_law_1271 rfl (fun r1271 u1271_44 hf => ?_)
                                                refine j_istore (pc' := 1276) (lv' := [(5, .int r1271), (0, .ref b), (1, .ref (pa 0)), (2, .ref d0), (3, .ref o0), (4, .int i)]) hX dL_law_1274 (by decide) rfl rfl ?_
                                                refine j_aload_n (pc' := 1277) hX dL_law_1276 rfl 3 rfl rfl ?_
                                                refine j_aload_n (pc' := 1278) hX dL_law_1277 rfl 1 rfl rfl ?_
                                                refine j_iload (pc' := 1280) hX dL_law_1278 5 rfl rfl ?_
                                                refine j_iconst (pc' := 1281) (v := 1) hX dL_law_1280 (by decide) rfl ?_
                                                refine j_iadd (pc' := 1282) hX dL_law_1281 rfl ?_
                                                refine j_sld (pc' := 1283) hX hScr dL_law_1282 hf rfl (fun hf => ?_)
                                                refine j_aload_n (pc' := 1284) hX dL_law_1283 rfl 1 rfl rfl ?_
                                                refine j_iload (pc' := 1286) hX dL_law_1284 5 rfl rfl ?_
                                                refine j_iconst (pc' := 1287) (v := 2) hX dL_law_1286 (by decide) rfl ?_
                                                refine j_iadd (pc' := 1288) hX dL_law_1287 rfl ?_
                                                refine j_sld (pc' := 1289) hX hScr dL_law_1288 hf rfl (fun hf => ?_)
                                                refine j_aload_n (pc' := 1290) hX dL_law_1289 rfl 1 rfl rfl ?_
                                                refine j_iload (pc' := 1292) hX dL_law_1290 5 rfl rfl ?_
                                                refine j_iconst (pc' := 1293) (v := 3) hX dL_law_1292 (by decide) rfl ?_
                                                refine j_iadd (pc' := 1294) hX dL_law_1293 rfl ?_
                                                refine j_sld (pc' := 1295) hX hScr dL_law_1294 hf rfl (fun hf => ?_)
                                                refine j_callVMb (ci := 5) (nb := 14) (pc' := 1298) (k' := k + 3) (n' := n + 18) (As := [.int (xs (i + 1).toNatClampNeg), .int (xs (i + 2).toNatClampNeg), .int (xs (i + 3).toNatClampNeg)]) (rest := []) (stk := fun r1295 => [.int r1295]) (bs := (PcB g pa u1271_44.1 ++ [(MdW g d0 d1 d2 d3 d4 d5 d6 vd)] ++ [(ALW g o0 1 (u1271_44.2))])) (cs := ([(MdW g d0 d1 d2 d3 d4 d5 d6 vd)])) (rs := (List.map (fun i : Nat => List.getD (PcB g pa u1271_44.1 ++ [(MdW g d0 d1 d2 d3 d4 d5 d6 vd)] ++ [(ALW g o0 1 (u1271_44.2))]) i []) [0, 1, 2, 3, 4, 5, 6, 7, 8, 9, 10, 11, 13])) (ws' := fun u1295_45 => ((PcB g pa u1271_44.1 ++ [(MdW g d0 d1 d2 d3 d4 d5 d6 u1295_45)] ++ [(ALW g o0 1 (u1271_44.2))]).flatten)) (bs' := fun u1295_45 => (PcB g pa u1271_44.1 ++ [(MdW g d0 d1 d2 d3 d4 d5 d6 u1295_45)] ++ [(ALW g o0 1 (u1271_44.2))])) (d1 := fun u1295_45 => ([(MdW g d0 d1 d2 d3 d4 d5 d6 u1295_45)])) hX hW (fun l => met_X5_ifFilled l g d0 d1 d2 d3 d4 d5 d6 vd (xs (i + 1).toNatClampNeg) (xs (i + 2).toNatClampNeg) (xs (i + 3).toNatClampNeg) _ hf) rfl gL_law_X5_ifFilled yoX5_ifFilled rfl ⟨Nat.le_of_ble_eq_true rfl, Nat.le_of_ble_eq_true rfl⟩ ⟨Nat.le_refl _, Nat.le_refl _, hk3, hn18⟩ 0 rfl rfl [0, 1, 2, 3, 4, 5, 6, 7, 8, 9, 10, 11, 13, 12] rfl rfl rfl (by decide) rfl (fun _ => rfl) (fun _ => rfl) (fun _ => rfl) (fun _ => rfl) (Nat.le_of_ble_eq_true rfl) rfl (fun _ => rfl) dL_law_1295 rfl (fun r1295 u1295_45 hf => ?_)
                                                refine j_istore (pc' := 1300) (lv' := [(6, .int r1295), (5, .int r1271), (0, .ref b), (1, .ref (pa 0)), (2, .ref d0), (3, .ref o0), (4, .int i)]) hX dL_law_1298 (by decide) rfl rfl ?_
                                                refine j_aload_n (pc' := 1301) hX dL_law_1300 rfl 4 rfl rfl ?_
                                                refine j_callVRb (ci := 5) (nb := 14) (pc' := 1304) (As := []) (rest := []) (stk := fun r1301 => [.int r1301]) (bs := (PcB g pa u1271_44.1 ++ [(MdW g d0 d1 d2 d3 d4 d5 d6 u1295_45)] ++ [(ALW g o0 1 (u1271_44.2))])) (cs := ([(MdW g d0 d1 d2 d3 d4 d5 d6 u1295_45)])) (rs := (List.map (fun i : Nat => List.getD (PcB g pa u1271_44.1 ++ [(MdW g d0 d1 d2 d3 d4 d5 d6 u1295_45)] ++ [(ALW g o0 1 (u1271_44.2))]) i []) [0, 1, 2, 3, 4, 5, 6, 7, 8, 9, 10, 11, 13])) hX (fun l => met_X5_thrown l g d0 d1 d2 d3 d4 d5 d6 u1295_45 _ hf) rfl gL_law_X5_thrown yoX5_thrown rfl ⟨Nat.le_of_ble_eq_true rfl, Nat.le_of_ble_eq_true rfl⟩ ⟨⟨hk3, hn18⟩, rfl, rfl⟩ 0 rfl rfl [0, 1, 2, 3, 4, 5, 6, 7, 8, 9, 10, 11, 13, 12] rfl rfl rfl (by decide) rfl (Nat.le_of_ble_eq_true rfl) rfl (fun _ => rfl) dL_law_1301 rfl (fun r1301 hf => ?_)
                                                refine j_iload (pc' := 1306) hX dL_law_1304 1 rfl rfl ?_
                                                refine j_icmp_eq (tgt := 1311) (pc' := 1309) hX dL_law_1306 (by decide) rfl hf (fun hf => ?_) (fun hf => ?_)
                                                · refine j_iload (pc' := 1313) hX dL_law_1311 1 rfl rfl ?_
                                                  refine j_if_ne (tgt := 1328) (pc' := 1316) hX dL_law_1313 (by decide) rfl hf (fun hf => ?_) (fun hf => ?_)
                                                  · refine j_goto (tgt := 1399) hX dL_law_1328 (by decide) ?_
                                                    refine j_iinc (pc' := 1402) (cst := 4) (v := (i + 4)) (lv' := [(4, .int (i + 4)), (6, .int r1295), (5, .int r1271), (0, .ref b), (1, .ref (pa 0)), (2, .ref d0), (3, .ref o0)]) hX dL_law_1399 (by decide) rfl 6 rfl (by decide) rfl rfl ?_
                                                    refine j_goto (tgt := 23) hX dL_law_1402 (by decide) ?_
                                                    refine J_sub (lv' := [(0, .ref b), (1, .ref (pa 0)), (2, .ref d0), (3, .ref o0), (4, .int (i + 4))]) [3, 4, 5, 6, 0] rfl ?_
                                                    exact ih (i + 4) u1271_44.1 u1295_45 u1271_44.2 (k + 3) (n + 18) hf (by omega) (by omega)
                                                  · refine j_aload_n (pc' := 1317) hX dL_law_1316 rfl 5 rfl rfl ?_
                                                    refine j_iconst (pc' := 1318) (v := 0) hX dL_law_1317 (by decide) rfl ?_
                                                    refine j_lald (pc' := 1319) hX 54 rfl dL_law_1318 ⟨by unfold vp_in; decide, hf⟩ rfl (fun hf => ?_)
                                                    refine j_iload (pc' := 1321) hX dL_law_1319 0 rfl rfl ?_
                                                    refine j_i2l (pc' := 1322) hX dL_law_1321 rfl ?_
                                                    refine j_lcmp (pc' := 1323) hX dL_law_1322 rfl ?_
                                                    refine j_if_eq (tgt := 1328) (pc' := 1326) hX dL_law_1323 (by decide) rfl hf (fun hf => ?_) (fun hf => ?_)
                                                    · refine j_goto (tgt := 1399) hX dL_law_1328 (by decide) ?_
                                                      refine j_iinc (pc' := 1402) (cst := 4) (v := (i + 4)) (lv' := [(4, .int (i + 4)), (6, .int r1295), (5, .int r1271), (0, .ref b), (1, .ref (pa 0)), (2, .ref d0), (3, .ref o0)]) hX dL_law_1399 (by decide) rfl 6 rfl (by decide) rfl rfl ?_
                                                      refine j_goto (tgt := 23) hX dL_law_1402 (by decide) ?_
                                                      refine J_sub (lv' := [(0, .ref b), (1, .ref (pa 0)), (2, .ref d0), (3, .ref o0), (4, .int (i + 4))]) [3, 4, 5, 6, 0] rfl ?_
                                                      exact ih (i + 4) u1271_44.1 u1295_45 u1271_44.2 (k + 3) (n + 18) hf (by omega) (by omega)
                                                    · refine j_iconst (pc' := 1327) (v := 0) hX dL_law_1326 (by decide) rfl ?_
                                                      exact False.elim hf
                                                · refine j_iconst (pc' := 1310) (v := 0) hX dL_law_1309 (by decide) rfl ?_
                                                  exact False.elim hf
                                              · replace hf := hf.2 hs20
                                                by_cases hs21 : ((xs i.toNatClampNeg) &&& 31) = 21
                                                · replace hf := hf.1 hs21
                                                  refine j_tswI (tgt := 1331) (cst := 21) hX dL_law_39 hs21 (by decide) (by decide) rfl (by decide) ?_
                                                  refine j_aload_n (pc' := 1332) hX dL_law_1331 rfl 1 rfl rfl ?_
                                                  refine j_callVMb (ci := 4) (nb := 14) (pc' := 1335) (k' := k) (n' := n) (As := []) (rest := []) (stk := fun r1332 => [.int r1332]) (bs := (PcB g pa vp ++ [(MdW g d0 d1 d2 d3 d4 d5 d6 vd)] ++ [(ALW g o0 1 vo)])) (cs := (PcB g pa vp)) (rs := (List.map (fun i : Nat => List.getD (PcB g pa vp ++ [(MdW g d0 d1 d2 d3 d4 d5 d6 vd)] ++ [(ALW g o0 1 vo)]) i []) [12, 13])) (ws' := fun u1332_46 => ((PcB g pa u1332_46 ++ [(MdW g d0 d1 d2 d3 d4 d5 d6 vd)] ++ [(ALW g o0 1 vo)]).flatten)) (bs' := fun u1332_46 => (PcB g pa u1332_46 ++ [(MdW g d0 d1 d2 d3 d4 d5 d6 vd)] ++ [(ALW g o0 1 vo)])) (d1 := fun u1332_46 => (PcB g pa u1332_46)) hX hW (fun l => met_X4_bestRule l g pa vp _ hf) rfl gL_law_X4_bestRule yoX4_bestRule rfl ⟨Nat.le_of_ble_eq_true rfl, Nat.le_of_ble_eq_true rfl⟩ ⟨Nat.le_refl _, Nat.le_refl _, hk0, hn0⟩ 0 rfl rfl [12, 13, 0, 1, 2, 3, 4, 5, 6, 7, 8, 9, 10, 11] rfl rfl rfl (by decide) rfl (fun _ => rfl) (fun _ => rfl) (fun _ => rfl) (fun _ => rfl) (Nat.le_of_ble_eq_true rfl) rfl (fun _ => rfl) dL_law_1332 rfl (fun r1332 u1332_46 hf => ?_)
                                                  refine j_aload_n (pc' := 1336) hX dL_law_1335 rfl 2 rfl rfl ?_
                                                  refine j_callVMb (ci := 5) (nb := 14) (pc' := 1339) (k' := k) (n' := n) (As := []) (rest := [.int r1332]) (stk := fun r1336 => [.int r1336, .int r1332]) (bs := (PcB g pa u1332_46 ++ [(MdW g d0 d1 d2 d3 d4 d5 d6 vd)] ++ [(ALW g o0 1 vo)])) (cs := ([(MdW g d0 d1 d2 d3 d4 d5 d6 vd)])) (rs := (List.map (fun i : Nat => List.getD (PcB g pa u1332_46 ++ [(MdW g d0 d1 d2 d3 d4 d5 d6 vd)] ++ [(ALW g o0 1 vo)]) i []) [0, 1, 2, 3, 4, 5, 6, 7, 8, 9, 10, 11, 13])) (ws' := fun u1336_47 => ((PcB g pa u1332_46 ++ [(MdW g d0 d1 d2 d3 d4 d5 d6 u1336_47)] ++ [(ALW g o0 1 vo)]).flatten)) (bs' := fun u1336_47 => (PcB g pa u1332_46 ++ [(MdW g d0 d1 d2 d3 d4 d5 d6 u1336_47)] ++ [(ALW g o0 1 vo)])) (d1 := fun u1336_47 => ([(MdW g d0 d1 d2 d3 d4 d5 d6 u1336_47)])) hX hW (fun l => met_X5_bestRule l g d0 d1 d2 d3 d4 d5 d6 vd _ hf) rfl gL_law_X5_bestRule yoX5_bestRule rfl ⟨Nat.le_of_ble_eq_true rfl, Nat.le_of_ble_eq_true rfl⟩ ⟨Nat.le_refl _, Nat.le_refl _, hk0, hn0⟩ 0 rfl rfl [0, 1, 2, 3, 4, 5, 6, 7, 8, 9, 10, 11, 13, 12] rfl rfl rfl (by decide) rfl (fun _ => rfl) (fun _ => rfl) (fun _ => rfl) (fun _ => rfl) (Nat.le_of_ble_eq_true rfl) rfl (fun _ => rfl) dL_law_1336 rfl (fun r1336 u1336_47 hf => ?_)
                                                  refine j_icmp_eq (tgt := 1399) (pc' := 1342) hX dL_law_1339 (by decide) rfl hf (fun hf => ?_) (fun hf => ?_)
                                                  · refine j_iinc (pc' := 1402) (cst := 4) (v := (i + 4)) (lv' := [(4, .int (i + 4)), (0, .ref b), (1, .ref (pa 0)), (2, .ref d0), (3, .ref o0)]) hX dL_law_1399 (by decide) rfl 4 rfl (by decide) rfl rfl ?_
                                                    refine j_goto (tgt := 23) hX dL_law_1402 (by decide) ?_
                                                    refine J_sub (lv' := [(0, .ref b), (1, .ref (pa 0)), (2, .ref d0), (3, .ref o0), (4, .int (i + 4))]) [1, 2, 3, 4, 0] rfl ?_
                                                    exact ih (i + 4) u1332_46 u1336_47 vo k n hf (by omega) (by omega)
                                                  · refine j_iconst (pc' := 1343) (v := 0) hX dL_law_1342 (by decide) rfl ?_
                                                    exact False.elim hf
                                                · replace hf := hf.2 hs21
                                                  by_cases hs22 : ((xs i.toNatClampNeg) &&& 31) = 22
                                                  · replace hf := hf.1 hs22
                                                    refine j_tswI (tgt := 1344) (cst := 22) hX dL_law_39 hs22 (by decide) (by decide) rfl (by decide) ?_
                                                    refine j_aload_n (pc' := 1345) hX dL_law_1344 rfl 1 rfl rfl ?_
                                                    refine j_callVRb (ci := 4) (nb := 14) (pc' := 1348) (As := []) (rest := []) (stk := fun r1345 => [.double r1345]) (bs := (PcB g pa vp ++ [(MdW g d0 d1 d2 d3 d4 d5 d6 vd)] ++ [(ALW g o0 1 vo)])) (cs := (PcB g pa vp)) (rs := (List.map (fun i : Nat => List.getD (PcB g pa vp ++ [(MdW g d0 d1 d2 d3 d4 d5 d6 vd)] ++ [(ALW g o0 1 vo)]) i []) [12, 13])) hX (fun l => met_X4_share l g pa vp _ hf) rfl gL_law_X4_share yoX4_share rfl ⟨Nat.le_of_ble_eq_true rfl, Nat.le_of_ble_eq_true rfl⟩ ⟨⟨hk0, hn0⟩, rfl, rfl⟩ 0 rfl rfl [12, 13, 0, 1, 2, 3, 4, 5, 6, 7, 8, 9, 10, 11] rfl rfl rfl (by decide) rfl (Nat.le_of_ble_eq_true rfl) rfl (fun _ => rfl) dL_law_1345 rfl (fun r1345 hf => ?_)
                                                    refine j_dstore (pc' := 1350) (lv' := [(5, .double r1345), (0, .ref b), (1, .ref (pa 0)), (2, .ref d0), (3, .ref o0), (4, .int i)]) hX dL_law_1348 (by decide) rfl rfl ?_
                                                    refine j_aload_n (pc' := 1351) hX dL_law_1350 rfl 3 rfl rfl ?_
                                                    refine j_callVMb (ci := 5) (nb := 14) (pc' := 1354) (k' := k) (n' := n) (As := []) (rest := []) (stk := fun r1351 => [.double r1351]) (bs := (PcB g pa vp ++ [(MdW g d0 d1 d2 d3 d4 d5 d6 vd)] ++ [(ALW g o0 1 vo)])) (cs := ([(MdW g d0 d1 d2 d3 d4 d5 d6 vd)])) (rs := (List.map (fun i : Nat => List.getD (PcB g pa vp ++ [(MdW g d0 d1 d2 d3 d4 d5 d6 vd)] ++ [(ALW g o0 1 vo)]) i []) [0, 1, 2, 3, 4, 5, 6, 7, 8, 9, 10, 11, 13])) (ws' := fun u1351_48 => ((PcB g pa vp ++ [(MdW g d0 d1 d2 d3 d4 d5 d6 u1351_48)] ++ [(ALW g o0 1 vo)]).flatten)) (bs' := fun u1351_48 => (PcB g pa vp ++ [(MdW g d0 d1 d2 d3 d4 d5 d6 u1351_48)] ++ [(ALW g o0 1 vo)])) (d1 := fun u1351_48 => ([(MdW g d0 d1 d2 d3 d4 d5 d6 u1351_48)])) hX hW (fun l => met_X5_share l g d0 d1 d2 d3 d4 d5 d6 vd _ hf) rfl gL_law_X5_share yoX5_share rfl ⟨Nat.le_of_ble_eq_true rfl, Nat.le_of_ble_eq_true rfl⟩ ⟨Nat.le_refl _, Nat.le_refl _, hk0, hn0⟩ 0 rfl rfl [0, 1, 2, 3, 4, 5, 6, 7, 8, 9, 10, 11, 13, 12] rfl rfl rfl (by decide) rfl (fun _ => rfl) (fun _ => rfl) (fun _ => rfl) (fun _ => rfl) (Nat.le_of_ble_eq_true rfl) rfl (fun _ => rfl) dL_law_1351 rfl (fun r1351 u1351_48 hf => ?_)
                                                    refine j_dstore (pc' := 1356) (lv' := [(7, .double r1351), (5, .double r1345), (0, .ref b), (1, .ref (pa 0)), (2, .ref d0), (3, .ref o0), (4, .int i)]) hX dL_law_1354 (by decide) rfl rfl ?_
                                                    refine j_dload (pc' := 1358) hX dL_law_1356 1 rfl rfl ?_
                                                    refine j_dload (pc' := 1360) hX dL_law_1358 0 rfl rfl ?_
                                                    refine j_dcmp (pc' := 1361) hX dL_law_1360 rfl ?_
                                                    refine j_if_eq (tgt := 1382) (pc' := 1364) hX dL_law_1361 (by decide) rfl hf (fun hf => ?_) (fun hf => ?_)
                                                    · refine j_goto (tgt := 1399) hX dL_law_1382 (by decide) ?_
                                                      refine j_iinc (pc' := 1402) (cst := 4) (v := (i + 4)) (lv' := [(4, .int (i + 4)), (7, .double r1351), (5, .double r1345), (0, .ref b), (1, .ref (pa 0)), (2, .ref d0), (3, .ref o0)]) hX dL_law_1399 (by decide) rfl 6 rfl (by decide) rfl rfl ?_
                                                      refine j_goto (tgt := 23) hX dL_law_1402 (by decide) ?_
                                                      refine J_sub (lv' := [(0, .ref b), (1, .ref (pa 0)), (2, .ref d0), (3, .ref o0), (4, .int (i + 4))]) [3, 4, 5, 6, 0] rfl ?_
                                                      exact ih (i + 4) vp u1351_48 vo k n hf (by omega) (by omega)
                                                    · refine j_dload (pc' := 1366) hX dL_law_1364 1 rfl rfl ?_
                                                      refine j_dload (pc' := 1368) hX dL_law_1366 1 rfl rfl ?_
                                                      refine j_dcmp (pc' := 1369) hX dL_law_1368 rfl ?_
                                                      refine j_if_eq (tgt := 1380) (pc' := 1372) hX dL_law_1369 (by decide) rfl hf (fun hf => ?_) (fun hf => ?_)
                                                      · refine j_iconst (pc' := 1381) (v := 0) hX dL_law_1380 (by decide) rfl ?_
                                                        exact False.elim hf
                                                      · refine j_dload (pc' := 1374) hX dL_law_1372 0 rfl rfl ?_
                                                        refine j_dload (pc' := 1376) hX dL_law_1374 0 rfl rfl ?_
                                                        refine j_dcmp (pc' := 1377) hX dL_law_1376 rfl ?_
                                                        refine j_if_ne (tgt := 1382) (pc' := 1380) hX dL_law_1377 (by decide) rfl hf (fun hf => ?_) (fun hf => ?_)
                                                        · refine j_goto (tgt := 1399) hX dL_law_1382 (by decide) ?_
                                                          refine j_iinc (pc' := 1402) (cst := 4) (v := (i + 4)) (lv' := [(4, .int (i + 4)), (7, .double r1351), (5, .double r1345), (0, .ref b), (1, .ref (pa 0)), (2, .ref d0), (3, .ref o0)]) hX dL_law_1399 (by decide) rfl 6 rfl (by decide) rfl rfl ?_
                                                          refine j_goto (tgt := 23) hX dL_law_1402 (by decide) ?_
                                                          refine J_sub (lv' := [(0, .ref b), (1, .ref (pa 0)), (2, .ref d0), (3, .ref o0), (4, .int (i + 4))]) [3, 4, 5, 6, 0] rfl ?_
                                                          exact ih (i + 4) vp u1351_48 vo k n hf (by omega) (by omega)
                                                        · refine j_iconst (pc' := 1381) (v := 0) hX dL_law_1380 (by decide) rfl ?_
                                                          exact False.elim hf
                                                  · replace hf := hf.2 hs22
                                                    by_cases hs23 : ((xs i.toNatClampNeg) &&& 31) = 23
                                                    · replace hf := hf.1 hs23
                                                      refine j_tswI (tgt := 1385) (cst := 23) hX dL_law_39 hs23 (by decide) (by decide) rfl (by decide) ?_
                                                      refine j_aload_n (pc' := 1386) hX dL_law_1385 rfl 1 rfl rfl ?_
                                                      refine j_callVMb (ci := 4) (nb := 14) (pc' := 1389) (k' := k) (n' := n) (As := []) (rest := []) (stk := fun r1386 => [.long r1386]) (bs := (PcB g pa vp ++ [(MdW g d0 d1 d2 d3 d4 d5 d6 vd)] ++ [(ALW g o0 1 vo)])) (cs := (PcB g pa vp)) (rs := (List.map (fun i : Nat => List.getD (PcB g pa vp ++ [(MdW g d0 d1 d2 d3 d4 d5 d6 vd)] ++ [(ALW g o0 1 vo)]) i []) [12, 13])) (ws' := fun u1386_49 => ((PcB g pa u1386_49 ++ [(MdW g d0 d1 d2 d3 d4 d5 d6 vd)] ++ [(ALW g o0 1 vo)]).flatten)) (bs' := fun u1386_49 => (PcB g pa u1386_49 ++ [(MdW g d0 d1 d2 d3 d4 d5 d6 vd)] ++ [(ALW g o0 1 vo)])) (d1 := fun u1386_49 => (PcB g pa u1386_49)) hX hW (fun l => met_X4_digest l g pa vp _ hf) rfl gL_law_X4_digest yoX4_digest rfl ⟨Nat.le_of_ble_eq_true rfl, Nat.le_of_ble_eq_true rfl⟩ ⟨Nat.le_refl _, Nat.le_refl _, hk0, hn0⟩ 0 rfl rfl [12, 13, 0, 1, 2, 3, 4, 5, 6, 7, 8, 9, 10, 11] rfl rfl rfl (by decide) rfl (fun _ => rfl) (fun _ => rfl) (fun _ => rfl) (fun _ => rfl) (Nat.le_of_ble_eq_true rfl) rfl (fun _ => rfl) dL_law_1386 rfl (fun r1386 u1386_49 hf => ?_)
                                                      refine j_aload_n (pc' := 1390) hX dL_law_1389 rfl 2 rfl rfl ?_
                                                      refine j_callVMb (ci := 5) (nb := 14) (pc' := 1393) (k' := k) (n' := n) (As := []) (rest := [.long r1386]) (stk := fun r1390 => [.long r1390, .long r1386]) (bs := (PcB g pa u1386_49 ++ [(MdW g d0 d1 d2 d3 d4 d5 d6 vd)] ++ [(ALW g o0 1 vo)])) (cs := ([(MdW g d0 d1 d2 d3 d4 d5 d6 vd)])) (rs := (List.map (fun i : Nat => List.getD (PcB g pa u1386_49 ++ [(MdW g d0 d1 d2 d3 d4 d5 d6 vd)] ++ [(ALW g o0 1 vo)]) i []) [0, 1, 2, 3, 4, 5, 6, 7, 8, 9, 10, 11, 13])) (ws' := fun u1390_50 => ((PcB g pa u1386_49 ++ [(MdW g d0 d1 d2 d3 d4 d5 d6 u1390_50)] ++ [(ALW g o0 1 vo)]).flatten)) (bs' := fun u1390_50 => (PcB g pa u1386_49 ++ [(MdW g d0 d1 d2 d3 d4 d5 d6 u1390_50)] ++ [(ALW g o0 1 vo)])) (d1 := fun u1390_50 => ([(MdW g d0 d1 d2 d3 d4 d5 d6 u1390_50)])) hX hW (fun l => met_X5_digest l g d0 d1 d2 d3 d4 d5 d6 vd _ hf) rfl gL_law_X5_digest yoX5_digest rfl ⟨Nat.le_of_ble_eq_true rfl, Nat.le_of_ble_eq_true rfl⟩ ⟨Nat.le_refl _, Nat.le_refl _, hk0, hn0⟩ 0 rfl rfl [0, 1, 2, 3, 4, 5, 6, 7, 8, 9, 10, 11, 13, 12] rfl rfl rfl (by decide) rfl (fun _ => rfl) (fun _ => rfl) (fun _ => rfl) (fun _ => rfl) (Nat.le_of_ble_eq_true rfl) rfl (fun _ => rfl) dL_law_1390 rfl (fun r1390 u1390_50 hf => ?_)
                                                      refine j_lcmp (pc' := 1394) hX dL_law_1393 rfl ?_
                                                      refine j_if_eq (tgt := 1399) (pc' := 1397) hX dL_law_1394 (by decide) rfl hf (fun hf => ?_) (fun hf => ?_)
                                                      · refine j_iinc (pc' := 1402) (cst := 4) (v := (i + 4)) (lv' := [(4, .int (i + 4)), (0, .ref b), (1, .ref (pa 0)), (2, .ref d0), (3, .ref o0)]) hX dL_law_1399 (by decide) rfl 4 rfl (by decide) rfl rfl ?_
                                                        refine j_goto (tgt := 23) hX dL_law_1402 (by decide) ?_
                                                        refine J_sub (lv' := [(0, .ref b), (1, .ref (pa 0)), (2, .ref d0), (3, .ref o0), (4, .int (i + 4))]) [1, 2, 3, 4, 0] rfl ?_
                                                        exact ih (i + 4) u1386_49 u1390_50 vo k n hf (by omega) (by omega)
                                                      · refine j_iconst (pc' := 1398) (v := 0) hX dL_law_1397 (by decide) rfl ?_
                                                        exact False.elim hf
                                                    · replace hf := hf.2 hs23
                                                      have ho : ((xs i.toNatClampNeg) &&& 31).toInt < 0 ∨ 23 < ((xs i.toNatClampNeg) &&& 31).toInt := by
                                                        have hq0 := lv_neT (a := 0) hs0 (by decide)
                                                        have hq1 := lv_neT (a := 1) hs1 (by decide)
                                                        have hq2 := lv_neT (a := 2) hs2 (by decide)
                                                        have hq3 := lv_neT (a := 3) hs3 (by decide)
                                                        have hq4 := lv_neT (a := 4) hs4 (by decide)
                                                        have hq5 := lv_neT (a := 5) hs5 (by decide)
                                                        have hq6 := lv_neT (a := 6) hs6 (by decide)
                                                        have hq7 := lv_neT (a := 7) hs7 (by decide)
                                                        have hq8 := lv_neT (a := 8) hs8 (by decide)
                                                        have hq9 := lv_neT (a := 9) hs9 (by decide)
                                                        have hq10 := lv_neT (a := 10) hs10 (by decide)
                                                        have hq11 := lv_neT (a := 11) hs11 (by decide)
                                                        have hq12 := lv_neT (a := 12) hs12 (by decide)
                                                        have hq13 := lv_neT (a := 13) hs13 (by decide)
                                                        have hq14 := lv_neT (a := 14) hs14 (by decide)
                                                        have hq15 := lv_neT (a := 15) hs15 (by decide)
                                                        have hq16 := lv_neT (a := 16) hs16 (by decide)
                                                        have hq17 := lv_neT (a := 17) hs17 (by decide)
                                                        have hq18 := lv_neT (a := 18) hs18 (by decide)
                                                        have hq19 := lv_neT (a := 19) hs19 (by decide)
                                                        have hq20 := lv_neT (a := 20) hs20 (by decide)
                                                        have hq21 := lv_neT (a := 21) hs21 (by decide)
                                                        have hq22 := lv_neT (a := 22) hs22 (by decide)
                                                        have hq23 := lv_neT (a := 23) hs23 (by decide)
                                                        omega
                                                      refine j_tswO (tgt := 1399) hX dL_law_39 ho (by decide) ?_
                                                      refine j_iinc (pc' := 1402) (cst := 4) (v := (i + 4)) (lv' := [(4, .int (i + 4)), (0, .ref b), (1, .ref (pa 0)), (2, .ref d0), (3, .ref o0)]) hX dL_law_1399 (by decide) rfl 4 rfl (by decide) rfl rfl ?_
                                                      refine j_goto (tgt := 23) hX dL_law_1402 (by decide) ?_
                                                      refine J_sub (lv' := [(0, .ref b), (1, .ref (pa 0)), (2, .ref d0), (3, .ref o0), (4, .int (i + 4))]) [1, 2, 3, 4, 0] rfl ?_
                                                      exact ih (i + 4) vp vd vo k n hf (by omega) (by omega)
