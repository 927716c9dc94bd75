def dis (h a : Int) : Int := if a ≤ h then h - a else a - h
def rnk (h e a : Int) : Int := (dis h a * 1000 + h) * 26 + e
def rk32 (M : BS) (a x : Int32) : Int32 := if a ≤ f_M_houseOf M x then (((((f_M_houseOf M x) - a) * 1000) + (f_M_houseOf M x)) * 26) + (M 11 x.toNatClampNeg) else ((((a - (f_M_houseOf M x)) * 1000) + (f_M_houseOf M x)) * 26) + (M 11 x.toNatClampNeg)
theorem rk32_aux {d h e : Int32} (hd : 0 ≤ d.toInt ∧ d.toInt ≤ 1000) (hh : 0 ≤ h.toInt ∧ h.toInt ≤ 999) (he : 0 ≤ e.toInt ∧ e.toInt ≤ 25) : ((((d * 1000) + h) * 26) + e).toInt = (d.toInt * 1000 + h.toInt) * 26 + e.toInt := by
  have z26 : ((26) : Int32).toInt = 26 := by decide
  have z1k : ((1000) : Int32).toInt = 1000 := by decide
  have m1 := i32_mul (x := d) (y := 1000) (by rw [z1k]; omega) (by rw [z1k]; omega)
  rw [z1k] at m1
  have s1 := i32_add (x := d * 1000) (y := h) (by omega) (by omega)
  have m2 := i32_mul (x := d * 1000 + h) (y := 26) (by rw [z26]; omega) (by rw [z26]; omega)
  rw [z26] at m2
  rw [i32_add (by omega) (by omega), m2, s1, m1]
theorem rk32_int {M : BS} (hIM : IVM M) {a x : Int32} (ha : 1 ≤ a.toInt ∧ a.toInt ≤ 999) (he : 0 ≤ (M 11 x.toNatClampNeg).toInt ∧ (M 11 x.toNatClampNeg).toInt ≤ 25) : (rk32 M a x).toInt = rnk (f_M_houseOf M x).toInt (M 11 x.toNatClampNeg).toInt a.toInt := by
  have b := fc_M_houseOf hIM x
  unfold rk32 rnk dis
  by_cases c : a ≤ f_M_houseOf M x
  · have t := Int32.le_iff_toInt_le.mp c
    have s := i32_sub (x := f_M_houseOf M x) (y := a) (by omega) (by omega)
    rw [if_pos c, if_pos t, rk32_aux (by omega) b he, s]
  · have t := mt Int32.le_iff_toInt_le.mpr c
    have s := i32_sub (x := a) (y := f_M_houseOf M x) (by omega) (by omega)
    rw [if_neg c, if_neg t, rk32_aux (by omega) b he, s]
theorem abs_int {h a : Int32} (hh : 0 ≤ h.toInt ∧ h.toInt ≤ 999) (ha : 1 ≤ a.toInt ∧ a.toInt ≤ 999) : (if 0 ≤ h - a then h - a else 0 - (h - a)).toInt = dis h.toInt a.toInt := by
  have s := i32_sub (x := h) (y := a) (by omega) (by omega)
  have s2 := i32_sub (x := 0) (y := h - a) (by rw [s, z0]; omega) (by rw [s, z0]; omega)
  unfold dis
  by_cases c : 0 ≤ h - a
  · have t := i32_0le.mp c
    rw [if_pos c, if_pos (by omega), s]
  · have t := mt i32_0le.mpr c
    rw [if_neg c, if_neg (by omega), s2, s, z0]
    omega
theorem near_iff {S M : BS} (hIM : IVM M) (e13 : S 13 = M 11) (hx : ∀ j, 0 ≤ (M 11 j).toInt ∧ (M 11 j).toInt ≤ 25) {p q a : Int32} (ha : 1 ≤ a.toInt ∧ a.toInt ≤ 999) (hp : f_A_houseNow S p = f_M_houseOf M p) (hq : f_A_houseNow S q = f_M_houseOf M q) : f_A_isNearer S p q a = 0 ↔ rk32 M a q ≤ rk32 M a p := by
  have b1 := fc_M_houseOf hIM p
  have b2 := fc_M_houseOf hIM q
  have x1 := hx p.toNatClampNeg
  have x2 := hx q.toNatClampNeg
  rw [Int32.le_iff_toInt_le, rk32_int hIM ha x1, rk32_int hIM ha x2]
  have d1 := abs_int b1 ha
  have d2 := abs_int b2 ha
  have n1 : 0 ≤ dis (f_M_houseOf M p).toInt a.toInt ∧ dis (f_M_houseOf M p).toInt a.toInt ≤ 999 := by unfold dis; split <;> omega
  have n2 : 0 ≤ dis (f_M_houseOf M q).toInt a.toInt ∧ dis (f_M_houseOf M q).toInt a.toInt ≤ 999 := by unfold dis; split <;> omega
  unfold f_A_isNearer rnk
  rw [hp, hq, e13]
  generalize (if 0 ≤ f_M_houseOf M p - a then f_M_houseOf M p - a else 0 - (f_M_houseOf M p - a)) = y1 at d1 ⊢
  generalize (if 0 ≤ f_M_houseOf M q - a then f_M_houseOf M q - a else 0 - (f_M_houseOf M q - a)) = y2 at d2 ⊢
  by_cases c1 : y1 = y2
  · rw [if_pos c1]
    have w1 := congrArg Int32.toInt c1
    by_cases c2 : f_M_houseOf M p = f_M_houseOf M q
    · rw [if_pos c2]
      have w2 := congrArg Int32.toInt c2
      by_cases c3 : M 11 q.toNatClampNeg ≤ M 11 p.toNatClampNeg
      · rw [if_pos c3]
        have := Int32.le_iff_toInt_le.mp c3
        exact ⟨fun _ => by omega, fun _ => rfl⟩
      · rw [if_neg c3]
        have := mt Int32.le_iff_toInt_le.mpr c3
        exact ⟨fun w => absurd w (by decide), fun w => by omega⟩
    · rw [if_neg c2]
      have w2 := mt Int32.toInt_inj.mp c2
      by_cases c3 : f_M_houseOf M q ≤ f_M_houseOf M p
      · rw [if_pos c3]
        have := Int32.le_iff_toInt_le.mp c3
        exact ⟨fun _ => by omega, fun _ => rfl⟩
      · rw [if_neg c3]
        have := mt Int32.le_iff_toInt_le.mpr c3
        exact ⟨fun w => absurd w (by decide), fun w => by omega⟩
  · rw [if_neg c1]
    have w1 := mt Int32.toInt_inj.mp c1
    by_cases c3 : y2 ≤ y1
    · rw [if_pos c3]
      have := Int32.le_iff_toInt_le.mp c3
      exact ⟨fun _ => by omega, fun _ => rfl⟩
    · rw [if_neg c3]
      have := mt Int32.le_iff_toInt_le.mpr c3
      exact ⟨fun w => absurd w (by decide), fun w => by omega⟩
theorem near_step (M : BS) (a1 a2 : Int32) (n : Nat) (x4 x5 x6 : Int32) : l_M_near_45 M a1 a2 (n + 1) x4 x5 x6 = (if M 23 0 ≤ x6 then x4 else (if M 12 x6.toNatClampNeg = 0 then (l_M_near_45 M a1 a2 n x4 x5 (x6 + 1)) else (if M 5 (M 10 x6.toNatClampNeg).toNatClampNeg = f_M_meant M a1 (M 19 0) then (if x5 ≤ rk32 M a2 x6 then l_M_near_45 M a1 a2 n x4 x5 (x6 + 1) else l_M_near_45 M a1 a2 n x6 (rk32 M a2 x6) (x6 + 1)) else l_M_near_45 M a1 a2 n x4 x5 (x6 + 1)))) := by
  rw [l_M_near_45]
  unfold rk32
  by_cases c : a2 ≤ f_M_houseOf M x6
  · simp only [if_pos c]
    split
    · rfl
    · split
      · rfl
      · split
        · split
          · rfl
          · rfl
        · rfl
  · simp only [if_neg c]
    split
    · rfl
    · split
      · rfl
      · split
        · split
          · rfl
          · rfl
        · rfl
theorem op_near {n : Nat} {S M : BS} (h : RI n S M) (a1 a2 : Int32) : f_A_near S a1 a2 = f_M_near M a1 a2 ∧ (IV S → IVM M → RI (n + 1) S M) := by
  refine ⟨?_, fun _ _ => h.up⟩
  have he := fun {p : Int32} => house_eq h (p := p)
  obtain ⟨⟨hI, hIM⟩, ⟨⟨e22, e23, e24, e25, e27⟩, e0, e12, e5, e6, e7, e10, e11, e13, e15⟩, hS, hR, hP, -⟩ := h
  have b := ivM_23 hIM
  unfold f_A_near f_M_near f_A_isHouse
  rw [hasT hIM e23]
  by_cases c1 : f_M_isStreet M a1 = 0
  · rw [if_pos c1, if_pos c1]
  rw [if_neg c1, if_neg c1]
  have t1 := fb_M_isStreet hIM c1
  by_cases c2 : f_M_in a2 1 999 = 0
  · rw [if_pos c2, if_pos (show f_A_isWithin a2 1 999 = 0 from c2)]
  rw [if_neg c2, if_neg (show ¬ f_A_isWithin a2 1 999 = 0 from c2)]
  have t2 := fb_M_in c2
  rw [show ((1) : Int32).toInt = 1 by decide, show ((999) : Int32).toInt = 999 by decide] at t2
  have hx : ∀ j, 0 ≤ (M 11 j).toInt ∧ (M 11 j).toInt ≤ 25 := fun j => by rw [← e13]; exact hP.1 j
  have zb : ((1000000000) : Int32).toInt = 1000000000 := by decide
  have em := mean_eq (d := S 27 0) hIM e23 e5 hS t1.1 t1.2.1
  have key : ∀ (n : Nat) (x4 x5 z : Int32), 0 ≤ z.toInt → ((x4 = -1 ∧ x5 = 1000000000) ∨ (0 ≤ x4.toInt ∧ x4.toInt < (M 23 0).toInt ∧ x5 = rk32 M a2 x4)) → l_A_near_43 S a1 a2 n x4 z = l_M_near_45 M a1 a2 n x4 x5 z := by
    intro n
    induction n with
    | zero => intro x4 x5 z _ _; rfl
    | succ n ih =>
      intro x4 x5 z h0 hv
      rw [l_A_near_43, near_step, e25, em, e27]
      by_cases c : M 23 0 ≤ z
      · rw [if_pos c, if_pos c]
      · have t := mt Int32.le_iff_toInt_le.mpr c
        have k := i32_inc (x := z) h0 (by omega)
        rw [if_neg c, if_neg c]
        have lv := liveA (S := S) (p := z) (a := f_M_meant M a1 (M 19 0))
        rw [e15, e6, e11] at lv
        by_cases d1 : M 12 z.toNatClampNeg = 0
        · rw [if_pos d1, if_pos (lv.mpr (Or.inl d1))]; exact ih _ _ _ (by omega) hv
        · rw [if_neg d1]
          by_cases d2 : M 5 (M 10 z.toNatClampNeg).toNatClampNeg = f_M_meant M a1 (M 19 0)
          · rw [if_pos d2, if_neg (fun q => (lv.mp q).elim d1 (fun w => w d2))]
            have rz := rk32_int (a := a2) (x := z) hIM t2 (hx _)
            rcases hv with ⟨v1, v2⟩ | ⟨v1, v2, v3⟩
            · rw [if_pos v1, if_neg (fun q => by
                have q := Int32.le_iff_toInt_le.mp q
                have bz := fc_M_houseOf hIM z
                have ez := hx z.toNatClampNeg
                rw [v2, zb, rz] at q
                unfold rnk dis at q
                split at q <;> omega)]
              exact ih _ _ _ (by omega) (Or.inr ⟨h0, by omega, rfl⟩)
            · rw [if_neg (fun q => by rw [q] at v1; exact absurd v1 (by decide)), v3]
              have ni := near_iff (S := S) hIM e13 hx t2 (he h0 (by omega)) (he v1 v2)
              by_cases d3 : rk32 M a2 x4 ≤ rk32 M a2 z
              · rw [if_pos d3, if_pos (ni.mpr d3)]; exact ih _ _ _ (by omega) (Or.inr ⟨v1, v2, rfl⟩)
              · rw [if_neg d3, if_neg (fun q => d3 (ni.mp q))]; exact ih _ _ _ (by omega) (Or.inr ⟨h0, by omega, rfl⟩)
          · rw [if_neg d2, if_pos (lv.mpr (Or.inr d2))]; exact ih _ _ _ (by omega) hv
  exact key 600 (-1) 1000000000 0 (by decide) (Or.inl ⟨rfl, rfl⟩)
