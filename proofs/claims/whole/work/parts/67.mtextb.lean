/-! THE TEXT: a part, a text; the first fault and the laying of the reference. -/
theorem X5_isPart_ok {vd : Md} {n : Nat} {ch : Nat → Nat} (hX : RepX vd.2.2.2.1 vd.2.2.2.2.2.2.2.1 n ch) (hn : n ≤ 60) (hch : ∀ i, i < n → 33 ≤ ch i ∧ ch i ≤ 126) {E : Nat} {C : Bool} {TT : List Tok} {f : Nat → Int32} {i c : Nat} {T : List Tok} {q : Int32} (hI : TI ch n E C TT i 59 c T) (hL : RepL f T) {post : Int32 → Md → Prop} (kf : C = false → ∀ t, post (zz 0) (tdW vd f (zz E) (zz (bB (decide (E < n)))) t)) (kt : ∀ f j b c T, TI ch n E C TT j b c T → RepL f T → i < j → tEnd b = true → ¬ (j < n ∧ tZ (ch j) = true) → ¬ (tZ b = true ∧ j < n ∧ ch j = 33) → post 1 (tdW vd f (zz j) q (zz T.length))) : wp_X5_isPart (tdW vd f (zz i) q (zz T.length)) post := by
  have hin := hI.1
  unfold wp_X5_isPart
  refine X5_isAt_ok (vd := tdW vd f (zz i) q (zz T.length)) (i := i) (lo := 97) (up := 102) (td_X hX) hn hch rfl hin (by omega) (by omega) (fun h1 => wF (by decide) ?_) (fun h0 => wT rfl ?_)
  · have hc : tC (ch i) = true := tC_y (by omega)
    have hm : tMay 59 (ch i) = true := hc
    obtain ⟨s1, s2⟩ := hI.step h1.1 hm
    have s3 := hI.2.2.2.1
    rw [tTok_c h1.1 hc] at s3
    have hI2 : TI ch n E C TT (i + 1) (ch i) (ch i - 97) T := ⟨by omega, s1, s2, s3, by have := hI.2.2.2.2.1; omega, by omega⟩
    have ia : vp_in (zz i) 60 := by rw [z_in (by omega)]; omega
    have ea : zz i + 1 = zz (i + 1 : Nat) := by rw [zl_1, z_add]; rfl
    refine ⟨ia, let_md ?_⟩
    have e2 : md_at (tdW vd f (zz i) q (zz T.length)) ((tdW vd f (zz i) q (zz T.length)).2.2.2.2.2.2.2.2.2.1 + 1) = tdW vd f (zz (i + 1 : Nat)) q (zz T.length) := by rw [← ea]; rfl
    rw [e2]
    refine X5_isAt_ok (vd := tdW vd f (zz (i + 1 : Nat)) q (zz T.length)) (i := i + 1) (lo := 49) (up := 54) (td_X hX) hn hch rfl (by omega) (by omega) (by omega) (fun h2 => wF (by decide) ⟨n - i + 1, ?_⟩) (fun h2 => wT rfl ?_)
    · have hz : tZ (ch (i + 1)) = true := tZ_y (by omega)
      have hcc : ((tdW vd f (zz i) q (zz T.length)).2.2.2.1 (tdW vd f (zz i) q (zz T.length)).2.2.2.2.2.2.2.2.2.1.toNatClampNeg) - 97 = zz (ch i - 97 : Nat) := by
        show vd.2.2.2.1 (zz i).toNatClampNeg - 97 = _
        rw [z_nat (by omega), Int.toNat_natCast, hX.2 i h1.1, zl_97, z_sub]
        refine congrArg zz ?_
        omega
      exact X5_isPart_L_ok hX hn hch (i0 := i) hcc (fun f j b T => kt f j b _ T) (j := i + 1) (b := ch i) (T := T) (by omega) rfl rfl hI2 hL (by omega) (.inr ⟨hc, h2.1, hz⟩)
    · have bad : E = i + 1 ∧ C = false := by
        by_cases h3 : i + 1 < n
        · refine hI2.bad h3 ?_
          unfold tMay
          rw [if_neg (by omega), if_pos hc]
          exact tZ_n (by omega)
        · have h4 := hI2.fin h3
          refine ⟨by omega, ?_⟩
          rw [h4.2.2.1]
          unfold tEnd
          rw [tZ_n (by omega), if_neg (by decide)]
          exact decide_eq_false (by omega)
      have k := kf bad.2 (zz T.length)
      rw [bad.1] at k
      exact X5_stops_ok hX hn (i := i + 1) (by omega) ⟨nb_ok (b := false), k⟩
  · have bad : E = i ∧ C = false := by
      by_cases h3 : i < n
      · exact hI.bad h3 (tC_n (by omega))
      · have h4 := hI.fin h3
        refine ⟨by omega, ?_⟩
        rw [h4.2.2.1]
        decide
    have k := kf bad.2 (zz T.length)
    rw [bad.1] at k
    exact X5_stops_ok hX hn (i := i) (by omega) ⟨nb_ok (b := false), k⟩
theorem X5_isText_L_ok {vd : Md} {n : Nat} {ch : Nat → Nat} (hX : RepX vd.2.2.2.1 vd.2.2.2.2.2.2.2.1 n ch) (hn : n ≤ 60) (hch : ∀ i, i < n → 33 ≤ ch i ∧ ch i ≤ 126) {E : Nat} {C : Bool} {TT : List Tok} {q : Int32} {K28 K60 : Md → Prop} (kf : C = false → ∀ f t, K28 (tdW vd f (zz E) (zz (bB (decide (E < n)))) t)) (kt : ∀ f j b c T, TI ch n E C TT j b c T → RepL f T → tEnd b = true → ¬ (j < n ∧ (tZ (ch j) = true ∨ ch j = 59)) → ¬ (tZ b = true ∧ j < n ∧ ch j = 33) → K60 (tdW vd f (zz j) q (zz T.length))) {N : Nat} : ∀ {f : Nat → Int32} {i c : Nat} {T : List Tok}, n + 2 ≤ i + N → TI ch n E C TT i 59 c T → RepL f T → wp_X5_isText_L17 K28 K60 N 1 (tdW vd f (zz i) q (zz T.length)) := by
  induction N with
  | zero =>
    intro f i c T hN hI hL
    have := hI.1
    omega
  | succ N ih =>
    intro f i c T hN hI hL
    unfold wp_X5_isText_L17
    refine wF (by decide) (X5_isPart_ok hX hn hch hI hL (fun h t => wT rfl (kf h f t)) (fun f1 j b c1 T1 hI1 hL1 hj he hz h33 => wF (by decide) ?_))
    have hjn := hI1.1
    refine X5_isAt_ok (vd := tdW vd f1 (zz j) q (zz T1.length)) (i := j) (lo := 59) (up := 59) (td_X hX) hn hch rfl hjn (by omega) (by omega) (fun h1 => wF (by decide) (let_md ?_)) (fun h0 => wT rfl (let_md ?_))
    · have e59 : ch j = 59 := by omega
      have hb : ¬ b = 59 := fun h => by subst h; exact absurd he (by decide)
      have hcb : tC b = false := tC_n (fun h => by
        unfold tEnd at he
        rw [tZ_n (by omega), if_neg (by decide)] at he
        have := of_decide_eq_true he
        omega)
      have hm : tMay b (ch j) = true := by
        rw [e59]
        unfold tMay
        rw [if_neg hb, hcb, if_neg (by decide), if_neg (by decide), if_pos rfl]
      obtain ⟨s1, s2⟩ := hI1.step h1.1 hm
      have s3 := hI1.2.2.2.1
      rw [tTok_o h1.1 (by rw [e59]; decide) (by rw [e59]; decide)] at s3
      rw [e59] at s1 s2
      have hI2 : TI ch n E C TT (j + 1) 59 c1 T1 := ⟨by omega, s1, s2, s3, by have := hI1.2.2.2.2.1; omega, by omega⟩
      have e2 : md_at (tdW vd f1 (zz j) q (zz T1.length)) ((tdW vd f1 (zz j) q (zz T1.length)).2.2.2.2.2.2.2.2.2.1 + 1) = tdW vd f1 (zz (j + 1 : Nat)) q (zz T1.length) := by
        have ea : zz j + 1 = zz (j + 1 : Nat) := by rw [zl_1, z_add]; rfl
        rw [← ea]
        rfl
      rw [e2]
      exact ih (i := j + 1) (by omega) hI2 hL1
    · have e2 : md_at (tdW vd f1 (zz j) q (zz T1.length)) ((tdW vd f1 (zz j) q (zz T1.length)).2.2.2.2.2.2.2.2.2.1 + 0) = tdW vd f1 (zz j) q (zz T1.length) := by
        have ea : zz j + 0 = zz j := by rw [zl_0, z_add, Int.add_zero]
        show tdW vd f1 (zz j + 0) q (zz T1.length) = _
        rw [ea]
      rw [e2]
      cases N with
      | zero =>
        have := hI.1
        omega
      | succ N =>
        unfold wp_X5_isText_L17
        exact wT rfl (kt f1 j b c1 T1 hI1 hL1 he (fun h => by
          rcases h.2 with h2 | h2
          · exact hz ⟨h.1, h2⟩
          · exact h0 (by omega)) h33)
def tE (S : SS) : Nat := tErr S.2.2.2 S.2.2.1 0 59
def tCm (S : SS) : Bool := tCmp S.2.2.2 S.2.2.1 0 59
def tTT (S : SS) : List Tok := tTok S.2.2.2 S.2.2.1 0 0
theorem X5_isText_ok {vd : Md} {S : SS} (hX : RepX vd.2.2.2.1 vd.2.2.2.2.2.2.2.1 S.2.2.1 S.2.2.2) (hW : WfS S) {post : Int32 → Md → Prop} (kf : tCm S = false → ∀ f t, post 0 (tdW vd f (zz (tE S)) (zz (bB (decide (tE S < S.2.2.1)))) t)) (kt : tCm S = true → ∀ f a q, tE S = S.2.2.1 → RepL f (tTT S) → post 1 (tdW vd f a q (zz (tTT S).length))) : wp_X5_isText vd post := by
  have hn := hW.2.2.2.1
  unfold wp_X5_isText
  refine let_md (let_md (let_md ⟨S.2.2.1 + 2, ?_⟩))
  show wp_X5_isText_L17 _ _ _ 1 (tdW vd vd.2.2.2.2.1 (zz (0 : Nat)) 0 (zz (([] : List Tok).length : Nat)))
  refine X5_isText_L_ok hX hn hW.2.2.2.2 (E := tE S) (C := tCm S) (TT := tTT S) (fun h f t => kf h f t) (fun f j b c T hI hL he hz h33 => ?_) (i := 0) (c := 0) (T := []) (by omega) ⟨Nat.zero_le _, rfl, rfl, rfl, Nat.zero_le _, by omega⟩ (fun k x h => by rw [List.getElem?_nil] at h; cases h)
  have hjn := hI.1
  have hb : ¬ b = 59 := fun h => by subst h; exact absurd he (by decide)
  have hcb : tC b = false := tC_n (fun h => by
    unfold tEnd at he
    rw [tZ_n (by omega), if_neg (by decide)] at he
    have := of_decide_eq_true he
    omega)
  show ((vd.2.2.2.2.2.2.2.1 ≤ zz j → ∀ vd_9 : Md, vd_9 = tdW vd f (zz j) 0 (zz T.length) → ((vd_9.2.2.2.2.2.2.2.2.2.1 = vd_9.2.2.2.2.2.2.2.1 → post 1 vd_9) ∧ (¬ vd_9.2.2.2.2.2.2.2.2.2.1 = vd_9.2.2.2.2.2.2.2.1 → post 0 vd_9))) ∧ (¬ vd.2.2.2.2.2.2.2.1 ≤ zz j → ∀ vd_9 : Md, vd_9 = tdW vd f (zz j) 1 (zz T.length) → ((vd_9.2.2.2.2.2.2.2.2.2.1 = vd_9.2.2.2.2.2.2.2.1 → post 1 vd_9) ∧ (¬ vd_9.2.2.2.2.2.2.2.2.2.1 = vd_9.2.2.2.2.2.2.2.1 → post 0 vd_9))))
  rw [hX.1, z_le (by omega)]
  refine wB rfl (fun h => let_md ?_) (fun h => let_md ?_)
  · have h4 := hI.fin (by omega)
    show ((zz j = vd.2.2.2.2.2.2.2.1 → post 1 (tdW vd f (zz j) 0 (zz T.length))) ∧ (¬ zz j = vd.2.2.2.2.2.2.2.1 → post 0 (tdW vd f (zz j) 0 (zz T.length))))
    rw [hX.1]
    refine wT (by rw [h4.1]) ?_
    rw [h4.2.2.2]
    refine kt (h4.2.2.1.trans he) f _ _ h4.2.1 ?_
    have h5 := hL
    rw [h4.2.2.2] at h5
    exact h5
  · have hjl : j < S.2.2.1 := by omega
    have bad := hI.bad hjl (by
      unfold tMay
      rw [if_neg hb, hcb, if_neg (by decide), if_neg (fun h1 => hz ⟨hjl, .inl h1⟩), if_neg (fun h1 => hz ⟨hjl, .inr h1⟩)]
      by_cases h6 : S.2.2.2 j = 33
      · rw [if_pos h6]
        cases h7 : tZ b
        · rfl
        · exact absurd ⟨h7, hjl, h6⟩ h33
      · rw [if_neg h6])
    show ((zz j = vd.2.2.2.2.2.2.2.1 → post 1 (tdW vd f (zz j) 1 (zz T.length))) ∧ (¬ zz j = vd.2.2.2.2.2.2.2.1 → post 0 (tdW vd f (zz j) 1 (zz T.length))))
    rw [hX.1, z_eq (by omega)]
    refine wF (by omega) ?_
    have k := kf bad.2 f (zz T.length)
    rw [bad.1, decide_eq_true hjl] at k
    exact k
theorem tCm_E {S : SS} (h : tCm S = true) : tE S = S.2.2.1 := by
  unfold tCm at h
  rw [tCmp_eq, Bool.and_eq_true] at h
  have := of_decide_eq_true h.1
  unfold tE
  omega
theorem X5_firstError_ok {vd : Md} {S : SS} (hM : InvM vd S) (hW : WfS S) {post : Int32 → Md → Prop} (k : ∀ vd1, InvM vd1 S → post (o_ferr S).2.1 vd1) : wp_X5_firstError vd post := by
  have hn := hW.2.2.2.1
  unfold wp_X5_firstError
  refine let_md (X5_isText_ok (vd := md_thrown vd 0) (S := S) hM.2.2 hW (fun h f t => wT rfl ?_) (fun h f a q hE hL => wF (by decide) ?_))
  · have hl := tErr_le (ch := S.2.2.2) (k := S.2.2.1) (i := 0) (b := 59)
    have e : tE S = tErr S.2.2.2 S.2.2.1 0 59 := rfl
    show ((zz (bB (decide (tE S < S.2.2.1))) = 0 → post vd.2.2.2.2.2.2.2.1 _) ∧ (¬ zz (bB (decide (tE S < S.2.2.1))) = 0 → post (zz (tE S)) _))
    by_cases h1 : tE S < S.2.2.1
    · rw [decide_eq_true h1]
      exact wF (by decide) (k _ hM)
    · rw [decide_eq_false h1, hM.2.2.1, show S.2.2.1 = tE S by omega]
      exact wT rfl (k _ hM)
  · show post vd.2.2.2.2.2.2.2.1 _
    rw [hM.2.2.1, ← hE]
    exact k _ hM
theorem tTok_ok {ch : Nat → Nat} {k : Nat} : ∀ {i c : Nat}, c < 6 → ∀ x, x ∈ tTok ch k i c → x.1 < 6 ∧ 1 ≤ x.2.1 ∧ x.2.1 ≤ 6 := by
  induction k with
  | zero => exact fun {i c} _ x hx => absurd hx List.not_mem_nil
  | succ k ih =>
    intro i c hc x hx
    unfold tTok at hx
    by_cases h : tC (ch i) = true
    · rw [if_pos h] at hx
      have := tC_t h
      exact ih (by omega) x hx
    · rw [if_neg h] at hx
      by_cases h1 : tZ (ch i) = true
      · rw [if_pos h1] at hx
        rcases List.mem_cons.mp hx with h2 | h2
        · have := tZ_t h1
          subst h2
          exact ⟨hc, by show 1 ≤ ch i - 48; omega, by show ch i - 48 ≤ 6; omega⟩
        · exact ih hc x h2
      · rw [if_neg h1] at hx
        exact ih hc x hx
theorem tTok_len {ch : Nat → Nat} {k : Nat} : ∀ {i c : Nat}, (tTok ch k i c).length ≤ k := by
  induction k with
  | zero => exact fun {i c} => Nat.le_refl _
  | succ k ih =>
    intro i c
    unfold tTok
    split
    · exact Nat.le_trans ih (by omega)
    split
    · rw [List.length_cons]; exact Nat.succ_le_succ ih
    · exact Nat.le_trans ih (by omega)
theorem aLA_len {l : List Tok} : ∀ {A : Ab}, (aLA l A).1 ≤ l.length := by
  induction l with
  | nil => exact fun {A} => Nat.le_refl _
  | cons t l ih =>
    intro A
    unfold aLA
    split
    · rw [List.length_cons]; exact Nat.succ_le_succ ih
    · exact Nat.zero_le _
theorem Wf.la {l : List Tok} (hl : ∀ x, x ∈ l → x.1 < 6 ∧ 1 ≤ x.2.1 ∧ x.2.1 ≤ 6) : ∀ {A : Ab}, Wf A → Wf (aLA l A).2 := by
  induction l with
  | nil => exact fun {A} h => h
  | cons t l ih =>
    intro A h
    unfold aLA
    have ht := hl t List.mem_cons_self
    split
    · rename_i h0
      exact ih (fun x hx => hl x (List.mem_cons_of_mem _ hx)) (h.put ht.1 ht.2 h0)
    · exact h
theorem W_layAll {S : SS} (hW : WfS S) : WfS (o_layAll S).2.2 := by
  unfold o_layAll
  split
  · have h := sS_ok hW (hW.1.la (l := tTok S.2.2.2 S.2.2.1 0 0) (tTok_ok (by omega)))
    exact ⟨h.1, h.2.1, h.2.2.1, Nat.zero_le _, fun i hi => absurd hi (Nat.not_lt_zero _)⟩
  · exact hW
theorem X5_layAll_L_ok {vd : Md} {TT : List Tok} (hL : RepL vd.2.2.2.2.1 TT) (hok : ∀ x, x ∈ TT → x.1 < 6 ∧ 1 ≤ x.2.1 ∧ x.2.1 ≤ 6) (hlen : TT.length ≤ 60) (ht : vd.2.2.2.2.2.2.2.2.2.2.2 = zz TT.length) {K : Int32 → Md → Prop} {d : Nat} : ∀ {m : Nat} {x : Int} {v : Nat → Int32} {A : Ab}, x = m → m + d = TT.length → RepM v A → Wf A → (∀ v1, RepM v1 (aLA (TT.drop m) A).2 → K (zz (m + (aLA (TT.drop m) A).1 : Nat)) (nowW vd v1)) → wp_X5_layAll_L29 K (d + 1) (zz x) (nowW vd v) := by
  induction d with
  | zero =>
    intro m x v A hx hm hR hWA k
    subst hx
    unfold wp_X5_layAll_L29
    have en : (nowW vd v).2 = vd.2 := rfl
    rw [en, ht, z_le (by omega)]
    rw [List.drop_eq_nil_of_le (by omega)] at k
    exact wT (by omega) (k v hR)
  | succ d ih =>
    intro m x v A hx hm hR hWA k
    subst hx
    have hml : m < TT.length := by omega
    rw [List.drop_eq_getElem_cons hml] at k
    have hme := hok _ (List.getElem_mem hml)
    have hl3 := hL m TT[m] (List.getElem?_eq_getElem hml)
    generalize TT[m] = tk at k hme hl3
    obtain ⟨c, s, fl⟩ := tk
    replace hl3 : vd.2.2.2.2.1 (3 * m) = zz c ∧ vd.2.2.2.2.1 (3 * m + 1) = zz s ∧ vd.2.2.2.2.1 (3 * m + 2) = zz (bB fl) := hl3
    replace hme : c < 6 ∧ 1 ≤ s ∧ s ≤ 6 := hme
    replace k : ∀ v1, RepM v1 (if aRea A c s fl = 0 then ((aLA (TT.drop (m + 1)) (aPut A c s fl)).1 + 1, (aLA (TT.drop (m + 1)) (aPut A c s fl)).2) else (0, A)).2 → K (zz (m + (if aRea A c s fl = 0 then ((aLA (TT.drop (m + 1)) (aPut A c s fl)).1 + 1, (aLA (TT.drop (m + 1)) (aPut A c s fl)).2) else (0, A)).1 : Nat)) (nowW vd v1) := k
    have e0 : (3 * zz m).toNatClampNeg = 3 * m := by rw [zl_3, z_mul, z_nat (by omega)]; omega
    have e1 : (3 * zz m + 1).toNatClampNeg = 3 * m + 1 := by rw [zl_3, z_mul, zl_1, z_add, z_nat (by omega)]; omega
    have e2 : (3 * zz m + 2).toNatClampNeg = 3 * m + 2 := by rw [zl_3, z_mul, zl_2, z_add, z_nat (by omega)]; omega
    have i0 : vp_in (3 * zz m) 180 := by rw [zl_3, z_mul, z_in (by omega)]; omega
    have i1 : vp_in (3 * zz m + 1) 180 := by rw [zl_3, z_mul, zl_1, z_add, z_in (by omega)]; omega
    have i2 : vp_in (3 * zz m + 2) 180 := by rw [zl_3, z_mul, zl_2, z_add, z_in (by omega)]; omega
    have h4 := aRea_4 (A := A) (c := c) (s := s) (f := fl)
    have go : aRea A c s fl = 0 → ∀ u, RepM u (aPut A c s fl) → wp_X5_layAll_L29 K (d + 1) (zz m + 1) (md_now (nowW vd v) u) := fun h0 u hu => by
      rw [if_pos h0] at k
      rw [nw_nw, zl_1, z_add]
      refine ih (m := m + 1) (by omega) (by omega) hu (hWA.put hme.1 hme.2 h0) (fun v2 h2 => ?_)
      have k2 : K (zz (m + ((aLA (TT.drop (m + 1)) (aPut A c s fl)).1 + 1) : Nat)) (nowW vd v2) := k v2 h2
      rw [show m + ((aLA (TT.drop (m + 1)) (aPut A c s fl)).1 + 1) = m + 1 + (aLA (TT.drop (m + 1)) (aPut A c s fl)).1 by omega] at k2
      exact k2
    have no : ¬ aRea A c s fl = 0 → K (zz m) (nowW vd v) := fun h0 => by
      rw [if_neg h0] at k
      exact k v hR
    clear ih k
    unfold wp_X5_layAll_L29
    have en : (nowW vd v).2 = vd.2 := rfl
    rw [en, ht, e0, e1, e2, hl3.1, hl3.2.1, hl3.2.2, z_le (by omega)]
    refine wF (by omega) ⟨i0, i1, i2, ?_⟩
    cases fl
    · refine wF (by decide) (X5_refused_ok (f := false) (l := 0) hR hWA hme.1 hme.2 rfl rfl rfl ?_)
      rw [show (0 : Int32) = zz 0 from rfl, z_eq (by omega)]
      refine wB rfl (fun h => ⟨i0, i1, i2, wF (by decide) ?_⟩) (fun h => no (by omega))
      exact X5_lays_ok (f := false) (l := 0) hR hWA hme.1 hme.2 rfl rfl rfl (by omega) (fun u hu => go (by omega) u hu)
    · refine wT rfl (X5_refused_ok (f := true) (l := 1) hR hWA hme.1 hme.2 rfl rfl rfl ?_)
      rw [show (0 : Int32) = zz 0 from rfl, z_eq (by omega)]
      refine wB rfl (fun h => ⟨i0, i1, i2, wT rfl ?_⟩) (fun h => no (by omega))
      exact X5_lays_ok (f := true) (l := 1) hR hWA hme.1 hme.2 rfl rfl rfl (by omega) (fun u hu => go (by omega) u hu)
theorem X5_layAll_ok {vd : Md} {S : SS} (hM : InvM vd S) (hW : WfS S) {post : Int32 → Md → Prop} (k : ∀ r vd1, InvM vd1 (o_layAll S).2.2 → thr vd1 = zz (o_layAll S).1 → ((o_layAll S).1 = 0 → r = (o_layAll S).2.1) → post r vd1) : wp_X5_layAll vd post := by
  unfold wp_X5_layAll
  refine let_md (X5_isText_ok (vd := md_thrown vd 0) (S := S) hM.2.2 hW (fun h f t => wT rfl ?_) (fun h f a q hE hL => wF (by decide) ?_))
  · have e : o_layAll S = (1, 0, S) := by
      unfold o_layAll
      exact if_neg (fun h1 => by rw [show tCmp S.2.2.2 S.2.2.1 0 59 = false from h] at h1; cases h1)
    rw [e] at k
    unfold wp_X5_fails
    exact let_md (k _ _ hM rfl nz)
  · have e : o_layAll S = (0, zz ((aLA (tTT S) S.1).1 : Nat), ((aLA (tTT S) S.1).2, sav S.1 S.2.1, 0, S.2.2.2)) := by
      unfold o_layAll
      exact if_pos h
    rw [e] at k
    refine X5_saves_ok (vd := tdW (md_thrown vd 0) f a q (zz (tTT S).length)) hM.1 hW.1 hM.2.1 hW.2.1 (fun f1 x h2 => let_md ⟨(tTT S).length + 1, ?_⟩)
    have hl : (tTT S).length ≤ S.2.2.1 := tTok_len
    have hn := hW.2.2.2.1
    refine X5_layAll_L_ok (vd := md_typed (pastW (tdW (md_thrown vd 0) f a q (zz (tTT S).length)) f1 x) 0) (TT := tTT S) hL (tTok_ok (by omega)) (by omega) rfl (m := 0) (x := 0) (v := vd.1) (A := S.1) rfl (by omega) hM.1 hW.1 (fun v1 h1 => ?_)
    rw [List.drop_zero] at h1 ⊢
    rw [Nat.zero_add]
    exact k _ _ ⟨h1, h2, rfl, fun i hi => absurd hi (Nat.not_lt_zero _)⟩ rfl (fun _ => rfl)
