theorem i32_p0 (x : Int32) : x + 0 = x := Int32.add_zero x
theorem tail80 {S : BS} {nr : Int} (hz : ∀ j : Nat, nr ≤ (j : Int) → S 10 j = 0) : ∀ (n : Nat) (x1 x2 : Int32), 0 ≤ x2.toInt → x2.toInt ≤ 1000 → nr ≤ x2.toInt → 80 - x2.toInt < (n : Int) → 1 ≤ n → l_A_howManyTrue_10_4 S n x1 x2 = x1 := by
  intro n
  induction n with
  | zero => intro x1 x2 _ _ _ _ h; exact absurd h (by omega)
  | succ n ih =>
    intro x1 x2 h0 h1 h2 h3 _
    have z80 : ((80) : Int32).toInt = 80 := by decide
    rw [l_A_howManyTrue_10_4]
    by_cases c : (80 : Int32) ≤ x2
    · rw [if_pos c]
    · have t := mt Int32.le_iff_toInt_le.mpr c
      have e := cl_int h0
      have k := i32_inc (x := x2) h0 (by omega)
      rw [if_neg c, if_pos (hz x2.toNatClampNeg (by omega))]
      exact ih x1 (x2 + 1) (by omega) (by omega) (by omega) (by omega) (by omega)
theorem tail120 {S : BS} {nr : Int} (hz : ∀ j : Nat, nr ≤ (j : Int) → S 15 j = 0) : ∀ (n : Nat) (x1 x2 : Int32), 0 ≤ x2.toInt → x2.toInt ≤ 1000 → nr ≤ x2.toInt → 120 - x2.toInt < (n : Int) → 1 ≤ n → l_A_howManyTrue_15_4 S n x1 x2 = x1 := by
  intro n
  induction n with
  | zero => intro x1 x2 _ _ _ _ h; exact absurd h (by omega)
  | succ n ih =>
    intro x1 x2 h0 h1 h2 h3 _
    have z80 : ((120) : Int32).toInt = 120 := by decide
    rw [l_A_howManyTrue_15_4]
    by_cases c : (120 : Int32) ≤ x2
    · rw [if_pos c]
    · have t := mt Int32.le_iff_toInt_le.mpr c
      have e := cl_int h0
      have k := i32_inc (x := x2) h0 (by omega)
      rw [if_neg c, if_pos (hz x2.toNatClampNeg (by omega))]
      exact ih x1 (x2 + 1) (by omega) (by omega) (by omega) (by omega) (by omega)
theorem cnt_r {S M : BS} (hIM : IVM M) (e : S 10 = M 9) (hz : ∀ j : Nat, (M 22 0).toInt ≤ (j : Int) → S 10 j = 0) (a : Int32) : f_A_howManyTrue_10 S = l_M_count_48 M a 600 0 0 := by
  have b := ivM_22 hIM
  have key : ∀ (n : Nat) (x1 x2 : Int32), 0 ≤ x2.toInt → x2.toInt ≤ 1000 → 80 - x2.toInt < (n : Int) → 1 ≤ n → l_A_howManyTrue_10_4 S n x1 x2 = l_M_count_48 M a n x1 x2 := by
    intro n
    induction n with
    | zero => intro x1 x2 _ _ _ h; exact absurd h (by omega)
    | succ n ih =>
      intro x1 x2 h0 h1 h3 h4
      by_cases c : M 22 0 ≤ x2
      · rw [tail80 hz (n + 1) x1 x2 h0 h1 (Int32.le_iff_toInt_le.mp c) h3 h4, l_M_count_48, if_pos c]
      · have t := mt Int32.le_iff_toInt_le.mpr c
        have z80 : ((80) : Int32).toInt = 80 := by decide
        have k := i32_inc (x := x2) h0 (by omega)
        rw [l_A_howManyTrue_10_4, l_M_count_48, if_neg c, if_neg (fun q => by have := Int32.le_iff_toInt_le.mp q; omega), e, i32_p0, ih _ (x2 + 1) (by omega) (by omega) (by omega) (by omega), ih _ (x2 + 1) (by omega) (by omega) (by omega) (by omega)]
  exact key 600 0 0 (by decide) (by decide) (by decide) (by decide)
theorem cnt_p {S M : BS} (hIM : IVM M) (e : S 15 = M 12) (hz : ∀ j : Nat, (M 23 0).toInt ≤ (j : Int) → S 15 j = 0) (a : Int32) : f_A_howManyTrue_15 S = l_M_count_83 M a 600 0 0 := by
  have b := ivM_23 hIM
  have key : ∀ (n : Nat) (x1 x2 : Int32), 0 ≤ x2.toInt → x2.toInt ≤ 1000 → 120 - x2.toInt < (n : Int) → 1 ≤ n → l_A_howManyTrue_15_4 S n x1 x2 = l_M_count_83 M a n x1 x2 := by
    intro n
    induction n with
    | zero => intro x1 x2 _ _ _ h; exact absurd h (by omega)
    | succ n ih =>
      intro x1 x2 h0 h1 h3 h4
      by_cases c : M 23 0 ≤ x2
      · rw [tail120 hz (n + 1) x1 x2 h0 h1 (Int32.le_iff_toInt_le.mp c) h3 h4, l_M_count_83, if_pos c]
      · have t := mt Int32.le_iff_toInt_le.mpr c
        have z80 : ((120) : Int32).toInt = 120 := by decide
        have k := i32_inc (x := x2) h0 (by omega)
        rw [l_A_howManyTrue_15_4, l_M_count_83, if_neg c, if_neg (fun q => by have := Int32.le_iff_toInt_le.mp q; omega), e, i32_p0, ih _ (x2 + 1) (by omega) (by omega) (by omega) (by omega), ih _ (x2 + 1) (by omega) (by omega) (by omega) (by omega)]
  exact key 600 0 0 (by decide) (by decide) (by decide) (by decide)
theorem op_count {n : Nat} {S M : BS} (h : RI n S M) (a1 : Int32) : f_A_count S a1 = f_M_count M a1 ∧ (IV S → IVM M → RI (n + 1) S M) := by
  refine ⟨?_, fun _ _ => h.up⟩
  obtain ⟨⟨hI, hIM⟩, ⟨⟨e22, e23, e24, e25, e27⟩, e0, -, e5, e6, e7, e10, e11, e13, e15⟩, hS, hR, hP, -⟩ := h
  unfold f_A_count f_M_count
  rw [cnt_r hIM e10 hR.2.2.1 a1, cnt_p hIM e15 hP.2.1 a1, e22, e23, e27]
