theorem upd_eq {f g : Nat → Int32} {i j : Nat} {v w : Int32} (h : f = g) (hi : i = j) (hv : v = w) : upd f i v = upd g j w := by rw [h, hi, hv]
theorem op_place {n : Nat} {S M : BS} (h : RI n S M) (a1 a2 : Int32) : (F_A_place S a1 a2).1 = (F_M_place M a1 a2).1 ∧ (IV (F_A_place S a1 a2).2 → IVM (F_M_place M a1 a2).2 → RI (n + 1) (F_A_place S a1 a2).2 (F_M_place M a1 a2).2) := by
  have hu := h.up
  obtain ⟨⟨hI, hIM⟩, ⟨⟨e22, e23, e24, e25, e27⟩, e0, e12, er⟩, hrest⟩ := h
  have b := ivM_20 hIM
  unfold F_A_place F_M_place f_A_isName
  rw [pw_eq e22 e0]
  by_cases c1 : f_M_in a1 1 99999 = 0
  · rw [if_pos (show f_A_isWithin a1 1 99999 = 0 from c1), if_pos c1]
    exact ⟨rfl, fun _ _ => hu⟩
  · rw [if_neg (show ¬ f_A_isWithin a1 1 99999 = 0 from c1), if_neg c1]
    by_cases c2 : f_M_in a2 0 9999 = 0
    · rw [if_pos (show f_A_isWithin a2 0 9999 = 0 from c2), if_pos c2]
      exact ⟨rfl, fun _ _ => hu⟩
    · rw [if_neg (show ¬ f_A_isWithin a2 0 9999 = 0 from c2), if_neg c2]
      have nn := neg_iff (pw_neg hIM a1)
      by_cases c3 : f_M_placeWith M a1 = -1
      · rw [if_pos c3, if_pos (nn.mpr c3)]
        have ff := full_iff (x := M 20 0) (n := 16) (m := 16) (by decide) b.2
        unfold f_P_isFull
        rw [e22]
        by_cases c4 : M 20 0 = 16
        · rw [if_pos c4, if_neg (fun q => ff.mp q c4), if_neg (by decide)]
          exact ⟨rfl, fun _ _ => hu⟩
        · rw [if_neg c4, if_pos (ff.mpr c4), if_pos rfl]
          refine ⟨?_, fun q1 q2 => ⟨⟨q1, q2⟩, ⟨⟨?_, e23, e24, e25, e27⟩, ?_, e12, er⟩, hu.2.2⟩⟩
          · show (S 22 0 + 1) - 1 = (M 20 0 + 1) - 1
            rw [e22]
          · show S 22 0 + 1 = M 20 0 + 1
            rw [e22]
          · exact upd_eq e0 (by rw [e22]) rfl
      · rw [if_neg c3, if_neg (fun q => c3 (nn.mp q))]
        exact ⟨rfl, fun _ _ => hu⟩
