theorem op_change {n : Nat} {S M : BS} (hn : n < 512) (h : RI n S M) (a1 a2 a3 a4 : Int32) : (F_A_change S a1 a2 a3 a4).1 = (F_M_change M a1 a2 a3 a4).1 ∧ (IV (F_A_change S a1 a2 a3 a4).2 → IVM (F_M_change M a1 a2 a3 a4).2 → RI (n + 1) (F_A_change S a1 a2 a3 a4).2 (F_M_change M a1 a2 a3 a4).2) := by
  unfold F_A_change F_M_change
  by_cases c0 : a1 = 0
  · rw [if_pos c0, if_pos c0, c0]; exact op_close h a2 a3 a4
  rw [if_neg c0, if_neg c0]
  by_cases c1 : a1 = 1
  · rw [if_pos c1, if_pos c1, c1]; exact op_split h a2 a3 a4
  rw [if_neg c1, if_neg c1]
  by_cases c2 : a1 = 2
  · rw [if_pos c2, if_pos c2]; exact op_join hn h a2 a3 a4
  rw [if_neg c2, if_neg c2]
  by_cases c3 : a1 = 3
  · rw [if_pos c3, if_pos c3, c3]; exact op_renumber hn h a2 a3 a4
  rw [if_neg c3, if_neg c3]
  by_cases c4 : a1 = 4
  · rw [if_pos c4, if_pos c4, c4]; exact op_remove h a2 a3 a4
  rw [if_neg c4, if_neg c4]
  exact ⟨rfl, fun _ _ => h.up⟩
theorem ops_ok : OpsOK RI := fun _ _ _ hk h => ⟨RI.base hk h, h.up, op_place h, op_street h, op_find h, op_range h, op_point hk h, op_change hk h, op_alias h, op_at h, op_near h, op_order h, op_holes h, op_where h, op_count h⟩
