theorem fb_M_in {a b d : Int32} (c : ¬ f_M_in a b d = 0) : b.toInt ≤ a.toInt ∧ a.toInt ≤ d.toInt := by
  unfold f_M_in at c
  by_cases h1 : a < b
  · rw [if_pos h1] at c
    exact absurd rfl c
  · by_cases h2 : d < a
    · rw [if_neg h1, if_pos h2] at c
      exact absurd rfl c
    · have t1 := mt Int32.lt_iff_toInt_lt.mpr h1
      have t2 := mt Int32.lt_iff_toInt_lt.mpr h2
      omega
theorem z01_M_in {a b d : Int32} : 0 ≤ (f_M_in a b d).toInt ∧ (f_M_in a b d).toInt ≤ 1 := by
  unfold f_M_in
  split
  · decide
  · split <;> decide
theorem fb_M_isStreet {S : BS} (hI : IVM S) {a : Int32} (c : ¬ f_M_isStreet S a = 0) : 0 ≤ a.toInt ∧ a.toInt < (S 21 0).toInt ∧ (S 21 0).toInt ≤ 32 := by
  have z : ((0) : Int32).toInt = 0 := by decide
  have z1 : ((1) : Int32).toInt = 1 := by decide
  have b := ivM_21 hI
  have e := i32_sub (x := S 21 0) (y := 1) (by omega) (by omega)
  have t := fb_M_in (show ¬ f_M_in a 0 (S 21 0 - 1) = 0 from c)
  omega
theorem fb_M_isRange {S : BS} (hI : IVM S) {a : Int32} (c : ¬ f_M_isRange S a = 0) : 0 ≤ a.toInt ∧ a.toInt < (S 22 0).toInt ∧ (S 22 0).toInt ≤ 80 := by
  have z : ((0) : Int32).toInt = 0 := by decide
  have z1 : ((1) : Int32).toInt = 1 := by decide
  have b := ivM_22 hI
  have e := i32_sub (x := S 22 0) (y := 1) (by omega) (by omega)
  have t := fb_M_in (show ¬ f_M_in a 0 (S 22 0 - 1) = 0 from c)
  omega
theorem fb_M_isPoint {S : BS} (hI : IVM S) {a : Int32} (c : ¬ f_M_isPoint S a = 0) : 0 ≤ a.toInt ∧ a.toInt < (S 23 0).toInt ∧ (S 23 0).toInt ≤ 120 := by
  have z : ((0) : Int32).toInt = 0 := by decide
  have z1 : ((1) : Int32).toInt = 1 := by decide
  have b := ivM_23 hI
  have e := i32_sub (x := S 23 0) (y := 1) (by omega) (by omega)
  have t := fb_M_in (show ¬ f_M_in a 0 (S 23 0 - 1) = 0 from c)
  omega
theorem fb_M_has {S : BS} (hI : IVM S) {a1 a2 : Int32} (c : ¬ f_M_has S a1 a2 = 0) : 0 ≤ a2.toInt ∧ a2.toInt ≤ 999 := by
  have b1 := ivM_7 hI a1.toNatClampNeg
  have b2 := ivM_8 hI a1.toNatClampNeg
  unfold f_M_has at c
  by_cases h1 : a2 < S 7 a1.toNatClampNeg
  · rw [if_pos h1] at c
    exact absurd rfl c
  · by_cases h2 : S 8 a1.toNatClampNeg < a2
    · rw [if_neg h1, if_pos h2] at c
      exact absurd rfl c
    · have t1 := mt Int32.lt_iff_toInt_lt.mpr h1
      have t2 := mt Int32.lt_iff_toInt_lt.mpr h2
      omega
theorem fc_M_lowest {S : BS} (hI : IVM S) (a : Int32) : 0 ≤ (f_M_lowest S a).toInt ∧ (f_M_lowest S a).toInt ≤ 1000 := by
  have b1 := ivM_7 hI a.toNatClampNeg
  have k := i32_inc (x := S 7 a.toNatClampNeg) (by omega) (by omega)
  unfold f_M_lowest
  split <;> omega
theorem fc_M_highest {S : BS} (hI : IVM S) (a : Int32) : -1 ≤ (f_M_highest S a).toInt ∧ (f_M_highest S a).toInt ≤ 999 := by
  have z1 : ((1) : Int32).toInt = 1 := by decide
  have b1 := ivM_8 hI a.toNatClampNeg
  have k := i32_sub (x := S 8 a.toNatClampNeg) (y := 1) (by omega) (by omega)
  unfold f_M_highest
  split <;> omega
theorem fc_M_houseOf {S : BS} (hI : IVM S) (a : Int32) : 0 ≤ (f_M_houseOf S a).toInt ∧ (f_M_houseOf S a).toInt ≤ 999 := ivM_15 hI _
theorem fc_M_stayOf_l {S : BS} {a1 : Int32} : ∀ (n : Nat) (x : Int32), (∃ j : Nat, (j : Int) ≤ x.toInt ∧ S 13 j = a1) → x.toInt < 5000 → x.toInt < n → 0 ≤ (l_M_stayOf_7 S a1 n x).toInt ∧ (l_M_stayOf_7 S a1 n x).toInt ≤ x.toInt ∧ S 13 (l_M_stayOf_7 S a1 n x).toNatClampNeg = a1 := by
  intro n
  induction n with
  | zero =>
    intro x ⟨j, h1, _⟩ _ h3
    exact absurd h3 (by omega)
  | succ n ih =>
    intro x ⟨j, h1, h2⟩ h3 h4
    have e := cl_int (x := x) (by omega)
    rw [l_M_stayOf_7]
    by_cases h : S 13 x.toNatClampNeg = a1
    · rw [if_pos h]
      exact ⟨by omega, by omega, h⟩
    · rw [if_neg h]
      have z : ((-1) : Int32).toInt = -1 := by decide
      have d := i32_add (x := x) (y := -1) (by omega) (by omega)
      have hj : (j : Int) ≤ (x + (-1)).toInt := by
        rcases Nat.lt_or_ge j x.toNatClampNeg with q | q
        · omega
        · exact absurd (show S 13 x.toNatClampNeg = a1 by rw [← show j = x.toNatClampNeg by omega]; exact h2) h
      have r := ih (x + (-1)) ⟨j, hj, h2⟩ (by omega) (by omega)
      exact ⟨r.1, by omega, r.2.2⟩
theorem fc_M_stayOf {S : BS} (hI : IVM S) {a1 : Int32} (h : HSM S a1) : 0 ≤ (f_M_stayOf S a1).toInt ∧ (f_M_stayOf S a1).toInt ≤ 4999 := by
  obtain ⟨j, h1, h2⟩ := h
  have b := ivM_24 hI
  have z1 : ((1) : Int32).toInt = 1 := by decide
  have k := i32_sub (x := S 24 0) (y := 1) (by omega) (by omega)
  have r := fc_M_stayOf_l 6000 (S 24 0 - 1) ⟨j, by omega, h2⟩ (by omega) (by omega)
  have r2 : 0 ≤ (f_M_stayOf S a1).toInt ∧ (f_M_stayOf S a1).toInt ≤ (S 24 0 - 1).toInt := ⟨r.1, r.2.1⟩
  omega
theorem as_stay {S : BS} {a1 a2 a3 : Int32} (h0 : 0 ≤ (S 24 0).toInt) (h1 : (S 24 0).toInt ≤ 4999) (h : ASM S) : ASM (F_M_stay S a1 a2 a3) := by
  intro p hp hq
  obtain ⟨j, hj, e⟩ := h p hp hq
  have k := i32_inc (x := S 24 0) h0 (by omega)
  have c := cl_int h0
  refine ⟨j, by show (j : Int) < (S 24 0 + 1).toInt; omega, ?_⟩
  show upd (S 13) (S 24 0).toNatClampNeg a1 j = p
  unfold upd
  rw [if_neg (by omega)]
  exact e
