theorem st_last {M : BS} (hI : IVM M) {p : Int32} {k : Nat} (hk : Lst (M 13) (M 24 0) p k) : f_M_stayOf M p = nI k := by
  have b := ivM_24 hI
  have z1 : ((1) : Int32).toInt = 1 := by decide
  have e0 := i32_sub (x := M 24 0) (y := 1) (by have := hk.1; omega) (by omega)
  have key : ∀ (n : Nat) (x : Int32), (k : Int) ≤ x.toInt → x.toInt < (M 24 0).toInt → x.toInt < (n : Int) → l_M_stayOf_7 M p n x = nI k := by
    intro n
    induction n with
    | zero => intro x h1 _ h3; exact absurd h3 (by omega)
    | succ n ih =>
      intro x h1 h2 h3
      have e := cl_int (x := x) (by omega)
      rw [l_M_stayOf_7]
      by_cases c : M 13 x.toNatClampNeg = p
      · rw [if_pos c]
        rcases Nat.lt_or_ge k x.toNatClampNeg with q | q
        · exact absurd c (hk.2.2 _ q (by omega))
        · have ek : k = x.toNatClampNeg := by omega
          rw [ek, nI_cl (by omega)]
      · rw [if_neg c]
        have d := i32_dec (x := x) (by omega) (by omega)
        refine ih (x + (-1)) ?_ (by omega) (by omega)
        rcases Nat.lt_or_ge k x.toNatClampNeg with q | q
        · omega
        · have ek : k = x.toNatClampNeg := by omega
          rw [← ek] at c
          exact absurd hk.2.1 c
  have := hk.1
  exact key 6000 (M 24 0 - 1) (by omega) (by omega) (by omega)
theorem house_last {M : BS} (hI : IVM M) {p : Int32} {k : Nat} (hk : Lst (M 13) (M 24 0) p k) : f_M_houseOf M p = M 15 k := by
  have b := ivM_24 hI
  have := hk.1
  unfold f_M_houseOf
  rw [st_last hI hk, nI_clamp (by omega)]
theorem house_eq {n : Nat} {S M : BS} (h : RI n S M) {p : Int32} (h0 : 0 ≤ p.toInt) (h1 : p.toInt < (M 23 0).toInt) : f_A_houseNow S p = f_M_houseOf M p := by
  obtain ⟨⟨hI, hIM⟩, hA, hS, hR, hP, hY1, -⟩ := h
  obtain ⟨-, k, k1, k2, -⟩ := hY1 p h0 h1
  rw [house_last hIM k1, k2]
  rfl
/-- a live point with a house and an extra in a range: both sides -/
theorem tk_eq {n : Nat} {S M : BS} (h : RI n S M) (r x y : Int32) : f_A_isTaken S r x y = 0 ↔ f_M_pointWith M r x y < 0 := by
  have hI := h.1.1
  have hIM := h.1.2
  have b := ivM_23 hIM
  obtain ⟨⟨e22, e23, e24, e25, e27⟩, e0, e12, e5, e6, e7, e10, e11, e13, e15⟩ := h.2.1
  have key : ∀ (n : Nat) (z : Int32), 0 ≤ z.toInt → (M 23 0).toInt - z.toInt < (n : Int) → 1 ≤ n → (l_A_isTaken_3 S r x y n z = 0 ↔ l_M_pointWith_3 M r x y n z < 0) := by
    intro n
    induction n with
    | zero => intro z _ _ h; exact absurd h (by omega)
    | succ n ih =>
      intro z h0 h1 h2
      rw [l_A_isTaken_3, l_M_pointWith_3, e25, e15, e11, e13]
      by_cases c : M 23 0 ≤ z
      · rw [if_pos c, if_pos c]; exact ⟨fun _ => by decide, fun _ => rfl⟩
      · have t := mt Int32.le_iff_toInt_le.mpr c
        have k := i32_inc (x := z) h0 (by omega)
        have r1 := ih (z + 1) (by omega) (by omega) (by omega)
        rw [if_neg c, if_neg c]
        by_cases c1 : M 12 z.toNatClampNeg = 0
        · rw [if_pos c1, if_pos c1]; exact r1
        · rw [if_neg c1, if_neg c1]
          by_cases c2 : M 10 z.toNatClampNeg = r
          · rw [if_pos c2, if_pos c2]
            by_cases c3 : M 11 z.toNatClampNeg = y
            · rw [if_pos c3, if_pos c3, house_eq h h0 (by omega)]
              by_cases c4 : f_M_houseOf M z = x
              · rw [if_pos c4, if_pos c4]
                exact ⟨fun q => absurd q (by decide), fun q => by have := i32_lt0.mp q; omega⟩
              · rw [if_neg c4, if_neg c4]; exact r1
            · rw [if_neg c3, if_neg c3]; exact r1
          · rw [if_neg c2, if_neg c2]; exact r1
  exact key 600 0 (by decide) (by rw [z0]; omega) (by omega)
/-- no live point there -/
theorem tk_spec {M : BS} (hIM : IVM M) {r x y : Int32} (h : f_M_pointWith M r x y < 0) : ∀ p : Int32, 0 ≤ p.toInt → p.toInt < (M 23 0).toInt → ¬ M 12 p.toNatClampNeg = 0 → M 10 p.toNatClampNeg = r → M 11 p.toNatClampNeg = y → f_M_houseOf M p ≠ x := by
  have b := ivM_23 hIM
  have key : ∀ (n : Nat) (z : Int32), 0 ≤ z.toInt → (M 23 0).toInt - z.toInt < (n : Int) → 1 ≤ n → l_M_pointWith_3 M r x y n z < 0 → ∀ p : Int32, z.toInt ≤ p.toInt → p.toInt < (M 23 0).toInt → ¬ M 12 p.toNatClampNeg = 0 → M 10 p.toNatClampNeg = r → M 11 p.toNatClampNeg = y → f_M_houseOf M p ≠ x := by
    intro n
    induction n with
    | zero => intro z _ _ h; exact absurd h (by omega)
    | succ n ih =>
      intro z h0 h1 h2 hl
      rw [l_M_pointWith_3] at hl
      by_cases c : M 23 0 ≤ z
      · have := Int32.le_iff_toInt_le.mp c
        intro p p1 p2; omega
      · have t := mt Int32.le_iff_toInt_le.mpr c
        have k := i32_inc (x := z) h0 (by omega)
        rw [if_neg c] at hl
        intro p p1 p2 p3 p4 p5 p6
        have go : l_M_pointWith_3 M r x y n (z + 1) < 0 → z ≠ p → False := by
          intro w q
          refine ih (z + 1) (by omega) (by omega) (by omega) w p ?_ p2 p3 p4 p5 p6
          rcases Int.lt_or_eq_of_le p1 with e | e
          · omega
          · exact absurd (Int32.toInt_inj.mp e) q
        by_cases c1 : M 12 z.toNatClampNeg = 0
        · rw [if_pos c1] at hl
          exact go hl (fun q => p3 (by rw [← q]; exact c1))
        · rw [if_neg c1] at hl
          by_cases c2 : M 10 z.toNatClampNeg = r
          · rw [if_pos c2] at hl
            by_cases c3 : M 11 z.toNatClampNeg = y
            · rw [if_pos c3] at hl
              by_cases c4 : f_M_houseOf M z = x
              · rw [if_pos c4] at hl
                have := i32_lt0.mp hl
                omega
              · rw [if_neg c4] at hl
                exact go hl (fun q => c4 (by rw [q]; exact p6))
            · rw [if_neg c3] at hl
              exact go hl (fun q => c3 (by rw [q]; exact p5))
          · rw [if_neg c2] at hl
            exact go hl (fun q => c2 (by rw [q]; exact p4))
  intro p h0 h1
  exact key 600 0 (by decide) (by rw [z0]; omega) (by omega) h p (by rw [z0]; exact h0) h1
