theorem holdsY {S : BS} {s d : Int32} : ¬ f_Y_holdsOn S s d = 0 ↔ hM (S 18) (S 19) s.toNatClampNeg d := by
  unfold f_Y_holdsOn hM
  by_cases c1 : d < S 18 s.toNatClampNeg
  · rw [if_pos c1]
    have := Int32.lt_iff_toInt_lt.mp c1
    exact ⟨fun q => absurd rfl q, fun q => by omega⟩
  · have t1 := mt Int32.lt_iff_toInt_lt.mpr c1
    rw [if_neg c1]
    by_cases c2 : S 19 s.toNatClampNeg ≤ d
    · rw [if_pos c2]
      have := Int32.le_iff_toInt_le.mp c2
      exact ⟨fun q => absurd rfl q, fun q => by omega⟩
    · have t2 := mt Int32.le_iff_toInt_le.mpr c2
      rw [if_neg c2]
      exact ⟨fun _ => ⟨by omega, by omega⟩, fun _ => by decide⟩
/-- the book's stay of a point on a day -/
theorem op_spec {S : BS} (hI : IV S) {p d : Int32} : ∀ (n : Nat) (x : Int32), 0 ≤ x.toInt → (S 26 0).toInt - x.toInt < (n : Int) → 1 ≤ n →
    (l_Y_ofPointOn_2 S p d n x = -1 ∧ ∀ s : Nat, x.toInt ≤ (s : Int) → (s : Int) < (S 26 0).toInt → S 16 s = p → ¬ hM (S 18) (S 19) s d) ∨
    (0 ≤ (l_Y_ofPointOn_2 S p d n x).toInt ∧ (l_Y_ofPointOn_2 S p d n x).toInt < (S 26 0).toInt ∧ S 16 (l_Y_ofPointOn_2 S p d n x).toNatClampNeg = p ∧ hM (S 18) (S 19) (l_Y_ofPointOn_2 S p d n x).toNatClampNeg d) := by
  have b := iv_26 hI
  intro n
  induction n with
  | zero => intro x _ _ h; exact absurd h (by omega)
  | succ n ih =>
    intro x h0 h1 h2
    rw [l_Y_ofPointOn_2]
    by_cases c : S 26 0 ≤ x
    · rw [if_pos c]
      have := Int32.le_iff_toInt_le.mp c
      exact Or.inl ⟨rfl, fun r q1 q2 => by omega⟩
    · have t := mt Int32.le_iff_toInt_le.mpr c
      have k := i32_inc (x := x) h0 (by omega)
      have e := cl_int h0
      rw [if_neg c]
      have r1 := ih (x + 1) (by omega) (by omega) (by omega)
      have step : ¬ (S 16 x.toNatClampNeg = p ∧ hM (S 18) (S 19) x.toNatClampNeg d) → ((l_Y_ofPointOn_2 S p d n (x + 1) = -1 ∧ ∀ s : Nat, x.toInt ≤ (s : Int) → (s : Int) < (S 26 0).toInt → S 16 s = p → ¬ hM (S 18) (S 19) s d) ∨
    (0 ≤ (l_Y_ofPointOn_2 S p d n (x + 1)).toInt ∧ (l_Y_ofPointOn_2 S p d n (x + 1)).toInt < (S 26 0).toInt ∧ S 16 (l_Y_ofPointOn_2 S p d n (x + 1)).toNatClampNeg = p ∧ hM (S 18) (S 19) (l_Y_ofPointOn_2 S p d n (x + 1)).toNatClampNeg d)) := by
        intro w
        rcases r1 with ⟨q1, q2⟩ | q
        · refine Or.inl ⟨q1, fun s p1 p2 p3 p4 => ?_⟩
          by_cases es : s = x.toNatClampNeg
          · subst es; exact w ⟨p3, p4⟩
          · exact q2 s (by omega) p2 p3 p4
        · exact Or.inr q
      have hh := holdsY (S := S) (s := x) (d := d)
      by_cases c2 : S 16 x.toNatClampNeg = p
      · rw [if_pos c2]
        by_cases c3 : f_Y_holdsOn S x d = 0
        · rw [if_pos c3]; exact step (fun q => hh.mpr q.2 c3)
        · rw [if_neg c3]; exact Or.inr ⟨h0, by omega, c2, hh.mp c3⟩
      · rw [if_neg c2]; exact step (fun q => c2 q.1)
/-- the reference's -/
theorem wh_spec {M : BS} (hI : IVM M) {p w d : Int32} : ∀ (n : Nat) (x : Int32), 0 ≤ x.toInt → (M 24 0).toInt - x.toInt < (n : Int) → 1 ≤ n →
    (l_M_where_62 M p w d n x = -1 ∧ ∀ k : Nat, x.toInt ≤ (k : Int) → (k : Int) < (M 24 0).toInt → M 13 k = p → ¬ hM (M 16) (M 17) k d) ∨
    (∃ k : Nat, (k : Int) < (M 24 0).toInt ∧ M 13 k = p ∧ hM (M 16) (M 17) k d ∧ l_M_where_62 M p w d n x = if w = 0 then M 14 k else M 15 k) := by
  have b := ivM_24 hI
  intro n
  induction n with
  | zero => intro x _ _ h; exact absurd h (by omega)
  | succ n ih =>
    intro x h0 h1 h2
    rw [l_M_where_62]
    by_cases c : M 24 0 ≤ x
    · rw [if_pos c]
      have := Int32.le_iff_toInt_le.mp c
      exact Or.inl ⟨rfl, fun r q1 q2 => by omega⟩
    · have t := mt Int32.le_iff_toInt_le.mpr c
      have k := i32_inc (x := x) h0 (by omega)
      have e := cl_int h0
      rw [if_neg c]
      have r1 := ih (x + 1) (by omega) (by omega) (by omega)
      have step : ¬ (M 13 x.toNatClampNeg = p ∧ hM (M 16) (M 17) x.toNatClampNeg d) → ((l_M_where_62 M p w d n (x + 1) = -1 ∧ ∀ k : Nat, x.toInt ≤ (k : Int) → (k : Int) < (M 24 0).toInt → M 13 k = p → ¬ hM (M 16) (M 17) k d) ∨
    (∃ k : Nat, (k : Int) < (M 24 0).toInt ∧ M 13 k = p ∧ hM (M 16) (M 17) k d ∧ l_M_where_62 M p w d n (x + 1) = if w = 0 then M 14 k else M 15 k)) := by
        intro w
        rcases r1 with ⟨q1, q2⟩ | q
        · refine Or.inl ⟨q1, fun s p1 p2 p3 p4 => ?_⟩
          by_cases es : s = x.toNatClampNeg
          · subst es; exact w ⟨p3, p4⟩
          · exact q2 s (by omega) p2 p3 p4
        · exact Or.inr q
      by_cases c2 : M 13 x.toNatClampNeg = p
      · rw [if_pos c2]
        by_cases c3 : d < M 16 x.toNatClampNeg
        · rw [if_pos c3]
          have := Int32.lt_iff_toInt_lt.mp c3
          exact step (fun q => by have := q.2.1; omega)
        · rw [if_neg c3]
          have t3 := mt Int32.lt_iff_toInt_lt.mpr c3
          by_cases c4 : M 17 x.toNatClampNeg ≤ d
          · rw [if_pos c4]
            have := Int32.le_iff_toInt_le.mp c4
            exact step (fun q => by have := q.2.2; omega)
          · rw [if_neg c4]
            have t4 := mt Int32.le_iff_toInt_le.mpr c4
            exact Or.inr ⟨x.toNatClampNeg, by omega, c2, ⟨by omega, by omega⟩, rfl⟩
      · rw [if_neg c2]; exact step (fun q => c2 q.1)
theorem op_where {n : Nat} {S M : BS} (h : RI n S M) (a1 a2 a3 : Int32) : f_A_where S a1 a2 a3 = f_M_where M a1 a2 a3 ∧ (IV S → IVM M → RI (n + 1) S M) := by
  refine ⟨?_, fun _ _ => h.up⟩
  obtain ⟨⟨hI, hIM⟩, ⟨⟨e22, e23, e24, e25, e27⟩, e0, e12, e5, e6, e7, e10, e11, e13, e15⟩, hS, hR, hP, hY1, hY2, hY3, ⟨hF, hB, -, -, hU⟩, -⟩ := h
  have b24 := ivM_24 hIM
  have b26 := iv_26 hI
  unfold f_A_where f_M_where f_A_isDay
  rw [hasQ hIM e25, e13, e11]
  by_cases c1 : f_M_isPoint M a1 = 0
  · rw [if_pos c1, if_pos c1]
  rw [if_neg c1, if_neg c1]
  have t1 := fb_M_isPoint hIM c1
  by_cases c2 : f_M_in a2 0 3 = 0
  · rw [if_pos c2, if_pos (show f_A_isWithin a2 0 3 = 0 from c2)]
  rw [if_neg c2, if_neg (show ¬ f_A_isWithin a2 0 3 = 0 from c2)]
  have t2 := fb_M_in c2
  by_cases c3 : f_M_in a3 0 1000000 = 0
  · rw [if_pos c3, if_pos (show f_A_isWithin a3 0 1000000 = 0 from c3)]
  rw [if_neg c3, if_neg (show ¬ f_A_isWithin a3 0 1000000 = 0 from c3)]
  have t3 := fb_M_in c3
  rw [show ((1000000) : Int32).toInt = 1000000 by decide, z0] at t3
  rw [show ((3) : Int32).toInt = 3 by decide, z0] at t2
  have i2 : a2 = 2 ↔ a2.toInt = 2 := by rw [← Int32.toInt_inj]; exact Iff.rfl
  have i3 : a2 = 3 ↔ a2.toInt = 3 := by rw [← Int32.toInt_inj]; exact Iff.rfl
  have i1 : a2 = 1 ↔ a2.toInt = 1 := by rw [← Int32.toInt_inj]; exact Iff.rfl
  have i0 : a2 = 0 ↔ a2.toInt = 0 := by rw [← Int32.toInt_inj]; exact Iff.rfl
  have il : a2 ≤ 1 ↔ a2.toInt ≤ 1 := by rw [Int32.le_iff_toInt_le]; exact Iff.rfl
  by_cases c4 : a2 = 2
  · rw [if_pos c4, if_neg (fun q => by have := il.mp q; have := i2.mp c4; omega), if_pos c4]
  rw [if_neg c4]
  by_cases c5 : a2 = 3
  · rw [if_pos c5, if_neg (fun q => by have := il.mp q; have := i3.mp c5; omega), if_neg c4]
  rw [if_neg c5, if_pos (show a2 ≤ 1 from il.mpr (by have := mt i2.mpr c4; have := mt i3.mpr c5; omega))]
  have A := op_spec (S := S) (p := a1) (d := a3) hI 600 0 (by decide) (by rw [z0]; omega) (by omega)
  have B := wh_spec (M := M) (p := a1) (w := a2) (d := a3) hIM 6000 0 (by decide) (by rw [z0]; omega) (by omega)
  have el : f_Y_ofPointOn S a1 a3 = l_Y_ofPointOn_2 S a1 a3 600 0 := rfl
  rw [el]
  rcases B with ⟨B1, B2⟩ | ⟨k, k1, k2, k3, k4⟩
  · rw [B1]
    rcases A with ⟨A1, A2⟩ | ⟨A0, A1, A2, A3⟩
    · rw [A1, if_pos rfl]
    · have e := cl_int A0
      obtain ⟨j, j1, j2, -, j4⟩ := hB (l_Y_ofPointOn_2 S a1 a3 600 0).toNatClampNeg (by omega) a3 A3 t3.2
      exact absurd j4 (B2 j (by rw [z0]; omega) j1 (by rw [j2, A2]))
  · rw [k4]
    obtain ⟨s, s1, s2, s3, s4⟩ := hF k k1 a3 k3 t3.2
    rcases A with ⟨A1, A2⟩ | ⟨A0, A1, A2, A3⟩
    · exact absurd s4 (A2 s (by rw [z0]; omega) s1 (by rw [s2, k2]))
    · rw [if_neg (fun q => by rw [q] at A0; exact absurd A0 (by decide))]
      have e := cl_int A0
      by_cases c6 : a2 = 1
      · rw [if_pos c6, if_neg (fun q => by have := i0.mp q; have := i1.mp c6; omega), ← s3]
        exact hU _ s (by omega) s1 a3 A3 s4 (by rw [A2, s2, k2])
      · rw [if_neg c6, if_pos (i0.mpr (by have := mt i1.mpr c6; have := mt i2.mpr c4; have := mt i3.mpr c5; omega))]
        have x := hY2 k k1
        have y := (hY1 a1 t1.1 t1.2.1).1.2.2
        rw [mean_eq hIM e23 e5 hS (iv_12 hI _).1 y, meant_MT, ← k2, ← x.2.2.2.2.1 a3 k3.1]
        exact x.2.2.2.2.2.1 a3 k3
