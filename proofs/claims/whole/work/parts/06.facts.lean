theorem fb_T_has {S : BS} (hI : IV S) {a : Int32} (c : ¬ f_T_has S a = 0) : 0 ≤ a.toInt ∧ a.toInt < (S 23 0).toInt ∧ (S 23 0).toInt ≤ 32 := by
  have z : ((0) : Int32).toInt = 0 := by decide
  have b := iv_23 hI
  unfold f_T_has at c
  by_cases h1 : a < 0
  · rw [if_pos h1] at c
    exact absurd rfl c
  · by_cases h2 : S 23 0 ≤ a
    · rw [if_neg h1, if_pos h2] at c
      exact absurd rfl c
    · have t1 := mt Int32.lt_iff_toInt_lt.mpr h1
      have t2 := mt Int32.le_iff_toInt_le.mpr h2
      omega
theorem fb_R_has {S : BS} (hI : IV S) {a : Int32} (c : ¬ f_R_has S a = 0) : 0 ≤ a.toInt ∧ a.toInt < (S 24 0).toInt ∧ (S 24 0).toInt ≤ 80 := by
  have z : ((0) : Int32).toInt = 0 := by decide
  have b := iv_24 hI
  unfold f_R_has at c
  by_cases h1 : a < 0
  · rw [if_pos h1] at c
    exact absurd rfl c
  · by_cases h2 : S 24 0 ≤ a
    · rw [if_neg h1, if_pos h2] at c
      exact absurd rfl c
    · have t1 := mt Int32.lt_iff_toInt_lt.mpr h1
      have t2 := mt Int32.le_iff_toInt_le.mpr h2
      omega
theorem fb_Q_has {S : BS} (hI : IV S) {a : Int32} (c : ¬ f_Q_has S a = 0) : 0 ≤ a.toInt ∧ a.toInt < (S 25 0).toInt ∧ (S 25 0).toInt ≤ 120 := by
  have z : ((0) : Int32).toInt = 0 := by decide
  have b := iv_25 hI
  unfold f_Q_has at c
  by_cases h1 : a < 0
  · rw [if_pos h1] at c
    exact absurd rfl c
  · by_cases h2 : S 25 0 ≤ a
    · rw [if_neg h1, if_pos h2] at c
      exact absurd rfl c
    · have t1 := mt Int32.lt_iff_toInt_lt.mpr h1
      have t2 := mt Int32.le_iff_toInt_le.mpr h2
      omega
theorem fb_P_isFull {S : BS} (hI : IV S) (c : f_P_isFull S = 0) : 0 ≤ (S 22 0).toInt ∧ (S 22 0).toInt < 16 := by
  have z : ((16) : Int32).toInt = 16 := by decide
  have b := iv_22 hI
  unfold f_P_isFull at c
  by_cases h1 : S 22 0 < 16
  · have t1 := Int32.lt_iff_toInt_lt.mp h1
    omega
  · rw [if_neg h1] at c
    exact absurd c (by decide)
theorem fb_T_isFull {S : BS} (hI : IV S) (c : f_T_isFull S = 0) : 0 ≤ (S 23 0).toInt ∧ (S 23 0).toInt < 32 := by
  have z : ((32) : Int32).toInt = 32 := by decide
  have b := iv_23 hI
  unfold f_T_isFull at c
  by_cases h1 : S 23 0 < 32
  · have t1 := Int32.lt_iff_toInt_lt.mp h1
    omega
  · rw [if_neg h1] at c
    exact absurd c (by decide)
theorem fb_Q_isFull {S : BS} (hI : IV S) (c : f_Q_isFull S = 0) : 0 ≤ (S 25 0).toInt ∧ (S 25 0).toInt < 120 := by
  have z : ((120) : Int32).toInt = 120 := by decide
  have b := iv_25 hI
  unfold f_Q_isFull at c
  by_cases h1 : S 25 0 < 120
  · have t1 := Int32.lt_iff_toInt_lt.mp h1
    omega
  · rw [if_neg h1] at c
    exact absurd c (by decide)
theorem fb_Y_isFull {S : BS} (hI : IV S) (c : f_Y_isFull S = 0) : 0 ≤ (S 26 0).toInt ∧ (S 26 0).toInt < 512 := by
  have z : ((512) : Int32).toInt = 512 := by decide
  have b := iv_26 hI
  unfold f_Y_isFull at c
  by_cases h1 : S 26 0 < 512
  · have t1 := Int32.lt_iff_toInt_lt.mp h1
    omega
  · rw [if_neg h1] at c
    exact absurd c (by decide)
theorem fb_R_hasRoomFor_1 {S : BS} (hI : IV S) (c : ¬ f_R_hasRoomFor S 1 = 0) : 0 ≤ (S 24 0).toInt ∧ (S 24 0).toInt + 1 ≤ 80 := by
  have z : ((80) : Int32).toInt = 80 := by decide
  have z1 : ((1) : Int32).toInt = 1 := by decide
  have b := iv_24 hI
  have k := i32_add (x := S 24 0) (y := 1) (by omega) (by omega)
  unfold f_R_hasRoomFor at c
  by_cases h1 : 80 < (S 24 0) + 1
  · rw [if_pos h1] at c
    exact absurd rfl c
  · have t1 := mt Int32.lt_iff_toInt_lt.mpr h1
    omega
theorem fb_R_hasRoomFor_2 {S : BS} (hI : IV S) (c : ¬ f_R_hasRoomFor S 2 = 0) : 0 ≤ (S 24 0).toInt ∧ (S 24 0).toInt + 2 ≤ 80 := by
  have z : ((80) : Int32).toInt = 80 := by decide
  have z1 : ((2) : Int32).toInt = 2 := by decide
  have b := iv_24 hI
  have k := i32_add (x := S 24 0) (y := 2) (by omega) (by omega)
  unfold f_R_hasRoomFor at c
  by_cases h1 : 80 < (S 24 0) + 2
  · rw [if_pos h1] at c
    exact absurd rfl c
  · have t1 := mt Int32.lt_iff_toInt_lt.mpr h1
    omega
theorem fb_A_isWithin {a b d : Int32} (c : ¬ f_A_isWithin a b d = 0) : b.toInt ≤ a.toInt ∧ a.toInt ≤ d.toInt := by
  unfold f_A_isWithin at c
  by_cases h1 : a < b
  · rw [if_pos h1] at c
    exact absurd rfl c
  · by_cases h2 : d < a
    · rw [if_neg h1, if_pos h2] at c
      exact absurd rfl c
    · have t1 := mt Int32.lt_iff_toInt_lt.mpr h1
      have t2 := mt Int32.lt_iff_toInt_lt.mpr h2
      omega
theorem fb_A_isHouse {S : BS} (_ : IV S) {a : Int32} (c : ¬ f_A_isHouse a = 0) : 1 ≤ a.toInt ∧ a.toInt ≤ 999 := by
  have z1 : ((1) : Int32).toInt = 1 := by decide
  have z2 : ((999) : Int32).toInt = 999 := by decide
  have k := fb_A_isWithin (show ¬ f_A_isWithin a 1 999 = 0 from c)
  omega
theorem fb_R_holds {S : BS} (hI : IV S) {a1 a2 : Int32} (c : ¬ f_R_holds S a1 a2 = 0) : 0 ≤ a2.toInt ∧ a2.toInt ≤ 999 := by
  unfold f_R_holds at c
  by_cases h1 : f_A_isWithin a2 (S 8 a1.toNatClampNeg) (S 9 a1.toNatClampNeg) = 0
  · rw [if_pos h1] at c
    exact absurd rfl c
  · have k := fb_A_isWithin h1
    have b1 := iv_8 hI a1.toNatClampNeg
    have b2 := iv_9 hI a1.toNatClampNeg
    omega
theorem z01_A_isWithin {a b d : Int32} : 0 ≤ (f_A_isWithin a b d).toInt ∧ (f_A_isWithin a b d).toInt ≤ 1 := by
  unfold f_A_isWithin
  split
  · decide
  · split <;> decide
theorem z01_A_isOdd {a : Int32} : 0 ≤ (f_A_isOdd a).toInt ∧ (f_A_isOdd a).toInt ≤ 1 := by
  unfold f_A_isOdd
  split <;> decide
theorem fc_A_houseNow {S : BS} (hI : IV S) (a : Int32) : 0 ≤ (f_A_houseNow S a).toInt ∧ (f_A_houseNow S a).toInt ≤ 999 := iv_17 hI _
theorem fc_A_lowestOf {a1 a2 : Int32} (h : 0 ≤ a2.toInt ∧ a2.toInt ≤ 999) : 0 ≤ (f_A_lowestOf a1 a2).toInt ∧ (f_A_lowestOf a1 a2).toInt ≤ 1000 := by
  have k := i32_inc (x := a2) (by omega) (by omega)
  unfold f_A_lowestOf
  split <;> omega
theorem fc_A_highestOf {a1 a2 : Int32} (h : 0 ≤ a2.toInt ∧ a2.toInt ≤ 999) : -1 ≤ (f_A_highestOf a1 a2).toInt ∧ (f_A_highestOf a1 a2).toInt ≤ 999 := by
  have z1 : ((1) : Int32).toInt = 1 := by decide
  have k := i32_sub (x := a2) (y := 1) (by omega) (by omega)
  unfold f_A_highestOf
  split <;> omega
theorem fc_R_add (S : BS) (a1 a2 a3 a4 : Int32) : (F_R_add S a1 a2 a3 a4).1 = S 24 0 := i32_as _ _
theorem fc_Q_add (S : BS) (a1 a2 a3 : Int32) : (F_Q_add S a1 a2 a3).1 = S 25 0 := i32_as _ _
theorem fc_Y_begin (S : BS) (a1 a2 a3 : Int32) : (F_Y_begin S a1 a2 a3).1 = S 26 0 := i32_as _ _
theorem cl_inj {x y : Int32} (hx : 0 ≤ x.toInt) (hy : 0 ≤ y.toInt) (e : x.toNatClampNeg = y.toNatClampNeg) : x = y := by
  apply Int32.toInt_inj.mp
  have e2 : x.toInt.toNat = y.toInt.toNat := e
  omega
theorem fc_R_keep9 (S : BS) (a1 a2 a3 a4 i : Int32) (h0 : 0 ≤ i.toInt) (h1 : i.toInt < (S 24 0).toInt) : (F_R_add S a1 a2 a3 a4).2 9 i.toNatClampNeg = S 9 i.toNatClampNeg := by
  show upd (S 9) (S 24 0).toNatClampNeg (f_A_highestOf a2 a4) i.toNatClampNeg = _
  unfold upd
  split
  · rename_i e
    have := cl_inj h0 (by omega) e
    rw [this] at h1
    omega
  · rfl
theorem fc_Y_ofPointOn_l {S : BS} (hI : IV S) {a1 a2 : Int32} : ∀ (n : Nat) (x : Int32), 0 ≤ x.toInt → -1 ≤ (l_Y_ofPointOn_2 S a1 a2 n x).toInt ∧ (l_Y_ofPointOn_2 S a1 a2 n x).toInt ≤ 511 := by
  intro n
  induction n with
  | zero => intro x _; rw [l_Y_ofPointOn_2]; exact (by decide)
  | succ n ih =>
    intro x h0
    have b := iv_26 hI
    rw [l_Y_ofPointOn_2]
    by_cases h1 : S 26 0 ≤ x
    · rw [if_pos h1]; exact (by decide)
    · have t1 := mt Int32.le_iff_toInt_le.mpr h1
      have k := i32_inc (x := x) h0 (by omega)
      have r := ih (x + 1) (by omega)
      rw [if_neg h1]
      split
      · split
        · exact r
        · omega
      · exact r
theorem fc_Y_ofPointOn {S : BS} {a1 a2 : Int32} (hI : IV S) : -1 ≤ (f_Y_ofPointOn S a1 a2).toInt ∧ (f_Y_ofPointOn S a1 a2).toInt ≤ 511 := fc_Y_ofPointOn_l hI 600 0 (by decide)
