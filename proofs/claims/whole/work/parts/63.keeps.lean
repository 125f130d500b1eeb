/-! Every call keeps what the state must be. -/
theorem sS_ok {S : SS} (hW : WfS S) {B : Ab} (hB : Wf B) : WfS (sS S B) := by
  refine ⟨hB, fun C hC => ?_, ?_, hW.2.2.2⟩
  · have h1 : C ∈ (S.1 :: S.2.1).take 6 := hC
    have h2 := List.mem_of_mem_take h1
    rcases List.mem_cons.mp h2 with h | h
    · rw [h]; exact hW.1
    · exact hW.2.1 C h
  · show (sav S.1 S.2.1).length ≤ 6
    rw [sav_len hW.2.2.1]
    split <;> have := hW.2.2.1 <;> omega
theorem W_stock {S : SS} (hW : WfS S) {a b : Int} : WfS (o_stock S a b).2.2 := by
  unfold o_stock
  split
  · rename_i h; exact sS_ok hW (hW.1.stk (by omega))
  · exact hW
theorem W_lay {f : Bool} {S : SS} (hW : WfS S) {a b : Int} : WfS (o_lay f S a b).2.2 := by
  unfold o_lay
  split
  · exact hW
  split
  · exact hW
  split
  · exact hW
  · rename_i h h1 h2
    exact sS_ok hW (hW.1.put (by omega) (by omega) (by omega))
theorem W_takeUp {S : SS} (hW : WfS S) {a b : Int} : WfS (o_takeUp S a b).2.2 := by
  unfold o_takeUp
  split
  · exact hW
  split
  · exact hW
  · exact sS_ok hW (hW.1.take (by omega))
theorem W_fill {S : SS} (hW : WfS S) {a : Int} : WfS (o_fill S a).2.2 := by
  unfold o_fill
  split
  · exact hW
  · exact sS_ok hW (hW.1.fills (by omega))
theorem W_fillAll {S : SS} (hW : WfS S) : WfS (o_fillAll S).2.2 := sS_ok hW hW.1.fa
theorem W_append {S : SS} (hW : WfS S) {a : Int} : WfS (o_append S a).2.2 := by
  unfold o_append
  split
  · exact hW
  split
  · exact hW
  · rename_i h h1
    have hn := hW.2.2.2.1
    refine ⟨hW.1, hW.2.1, hW.2.2.1, by show S.2.2.1 + 1 ≤ 60; omega, fun i hi => ?_⟩
    have hi' : i < S.2.2.1 + 1 := hi
    show 33 ≤ upN S.2.2.2 S.2.2.1 a.toNat i ∧ upN S.2.2.2 S.2.2.1 a.toNat i ≤ 126
    by_cases e : i = S.2.2.1
    · rw [upN_eq e]; omega
    · rw [upN_ne e]; exact hW.2.2.2.2 i (by omega)
theorem W_clear {S : SS} (hW : WfS S) : WfS (o_clear S).2.2 := ⟨hW.1, hW.2.1, hW.2.2.1, Nat.zero_le _, fun i hi => absurd hi (Nat.not_lt_zero _)⟩
theorem W_undo {S : SS} (hW : WfS S) : WfS (o_undo S).2.2 := by
  obtain ⟨A, H, n, ch⟩ := S
  cases H with
  | nil => exact hW
  | cons B H => exact ⟨hW.2.1 B List.mem_cons_self, fun C hC => hW.2.1 C (List.mem_cons_of_mem _ hC), (by have h : (B :: H).length ≤ 6 := hW.2.2.1; show H.length ≤ 6; rw [List.length_cons] at h; omega), hW.2.2.2⟩
theorem W_set {S : SS} (hW : WfS S) {a b : Int} : WfS (o_set S a b).2.2 := by
  unfold o_set
  by_cases h : 0 ≤ a ∧ a ≤ 2
  · rw [if_neg (fun h2 => h2 h)]
    by_cases h1 : (if a = 0 then 24 ≤ b ∧ b ≤ 60 else if a = 1 then 0 ≤ b ∧ b ≤ 2 else 0 ≤ b ∧ b ≤ 1)
    · rw [if_neg (fun h2 => h2 h1)]
      by_cases h2 : a = 0 ∧ aAll S.1 ≠ 0
      · rw [if_pos h2]; exact hW
      · rw [if_neg h2]
        rcases (show a = 0 ∨ a = 1 ∨ a = 2 by omega) with rfl | rfl | rfl
        · rw [if_pos rfl] at h1
          exact sS_ok hW (hW.1.chg (fun _ => ⟨by omega, by omega, by omega⟩) (fun h => absurd h (by decide)) (fun h => absurd h (by decide)) (by decide))
        · rw [if_neg (by decide), if_pos rfl] at h1
          exact sS_ok hW (hW.1.chg (fun h => absurd h (by decide)) (fun _ => by omega) (fun h => absurd h (by decide)) (by decide))
        · rw [if_neg (by decide), if_neg (by decide)] at h1
          exact sS_ok hW (hW.1.chg (fun h => absurd h (by decide)) (fun h => absurd h (by decide)) (fun _ => by omega) (by decide))
    · rw [if_pos h1]; exact hW
  · rw [if_pos h]; exact hW
