/-! PURE PART: both sides' functions, held against each other -/
theorem in_eq (a b d : Int32) : f_A_isWithin a b d = f_M_in a b d := rfl
theorem pw_eq {S M : BS} (h1 : S 22 0 = M 20 0) (h2 : S 0 = M 0) (a : Int32) : f_P_withCode S a = f_M_placeWith M a := by
  have key : ∀ (n : Nat) (x : Int32), l_P_withCode_2 S a n x = l_M_placeWith_2 M a n x := by
    intro n
    induction n with
    | zero => intro x; rfl
    | succ n ih => intro x; rw [l_P_withCode_2, l_M_placeWith_2, h1, h2, ih]
  exact key 600 0
theorem sw_eq {S M : BS} (h1 : S 23 0 = M 21 0) (h2 : S 1 = M 1) (h3 : S 2 = M 2) (a b : Int32) : f_T_named S a b = f_M_streetWith M a b := by
  have key : ∀ (n : Nat) (x : Int32), l_T_named_2 S a b n x = l_M_streetWith_2 M a b n x := by
    intro n
    induction n with
    | zero => intro x; rfl
    | succ n ih => intro x; rw [l_T_named_2, l_M_streetWith_2, h1, h2, h3, ih]
  exact key 600 0
theorem i32_lt0 {x : Int32} : x < 0 ↔ x.toInt < 0 := by
  have z : ((0) : Int32).toInt = 0 := by decide
  rw [Int32.lt_iff_toInt_lt, z]
theorem i32_0le {x : Int32} : 0 ≤ x ↔ 0 ≤ x.toInt := by
  have z : ((0) : Int32).toInt = 0 := by decide
  rw [Int32.le_iff_toInt_le, z]
theorem i32_m1 : ((-1) : Int32).toInt = -1 := by decide
theorem pw_neg {M : BS} (hI : IVM M) (a : Int32) : f_M_placeWith M a = -1 ∨ 0 ≤ (f_M_placeWith M a).toInt := by
  have b := ivM_20 hI
  have key : ∀ (n : Nat) (x : Int32), 0 ≤ x.toInt → l_M_placeWith_2 M a n x = -1 ∨ 0 ≤ (l_M_placeWith_2 M a n x).toInt := by
    intro n
    induction n with
    | zero => intro x _; first | (rw [l_M_placeWith_2]; exact Or.inr (by decide)) | (rw [l_M_streetWith_2]; exact Or.inr (by decide))
    | succ n ih =>
      intro x hx
      rw [l_M_placeWith_2]
      by_cases h1 : M 20 0 ≤ x
      · rw [if_pos h1]; exact Or.inl rfl
      · rw [if_neg h1]
        have t1 := mt Int32.le_iff_toInt_le.mpr h1
        have k := i32_inc (x := x) hx (by omega)
        split
        · exact Or.inr hx
        · exact ih (x + 1) (by omega)
  exact key 600 0 (by decide)
theorem sw_neg {M : BS} (hI : IVM M) (a b : Int32) : f_M_streetWith M a b = -1 ∨ 0 ≤ (f_M_streetWith M a b).toInt := by
  have bb := ivM_21 hI
  have key : ∀ (n : Nat) (x : Int32), 0 ≤ x.toInt → l_M_streetWith_2 M a b n x = -1 ∨ 0 ≤ (l_M_streetWith_2 M a b n x).toInt := by
    intro n
    induction n with
    | zero => intro x _; first | (rw [l_M_placeWith_2]; exact Or.inr (by decide)) | (rw [l_M_streetWith_2]; exact Or.inr (by decide))
    | succ n ih =>
      intro x hx
      rw [l_M_streetWith_2]
      by_cases h1 : M 21 0 ≤ x
      · rw [if_pos h1]; exact Or.inl rfl
      · rw [if_neg h1]
        have t1 := mt Int32.le_iff_toInt_le.mpr h1
        have k := i32_inc (x := x) hx (by omega)
        split
        · split
          · exact Or.inr hx
          · exact ih (x + 1) (by omega)
        · exact ih (x + 1) (by omega)
  exact key 600 0 (by decide)
/-- an answer that is a place or -1: both tests of it -/
theorem neg_iff {x : Int32} (h : x = -1 ∨ 0 ≤ x.toInt) : x < 0 ↔ x = -1 := by
  constructor
  · intro q
    have := i32_lt0.mp q
    rcases h with h | h
    · exact h
    · omega
  · intro q
    rw [q]
    decide
theorem full_iff {x : Int32} {n : Int32} {m : Int} (hn : n.toInt = m) (h : x.toInt ≤ m) : x < n ↔ ¬ x = n := by
  rw [Int32.lt_iff_toInt_lt, hn]
  constructor
  · intro q e
    rw [e, hn] at q
    omega
  · intro q
    rcases Int.lt_or_eq_of_le h with r | r
    · exact r
    · exact absurd (Int32.toInt_inj.mp (r.trans hn.symm)) q
/-- has (0 .. size - 1) of both sides -/
theorem has_in {a z : Int32} (h0 : 0 ≤ z.toInt) (h1 : z.toInt ≤ 5000) : (if a < 0 then (0 : Int32) else (if z ≤ a then 0 else 1)) = f_M_in a 0 (z - 1) := by
  have z1 : ((1) : Int32).toInt = 1 := by decide
  have e := i32_sub (x := z) (y := 1) (by omega) (by omega)
  unfold f_M_in
  by_cases q : a < 0
  · rw [if_pos q, if_pos q]
  · rw [if_neg q, if_neg q]
    have i1 : z ≤ a ↔ z - 1 < a := by
      rw [Int32.le_iff_toInt_le, Int32.lt_iff_toInt_lt]
      omega
    by_cases r : z ≤ a
    · rw [if_pos r, if_pos (i1.mp r)]
    · rw [if_neg r, if_neg (fun w => r (i1.mpr w))]
theorem hasT {S M : BS} (hI : IVM M) (h : S 23 0 = M 21 0) (a : Int32) : f_T_has S a = f_M_isStreet M a := by
  have b := ivM_21 hI
  show (if a < 0 then (0 : Int32) else (if S 23 0 ≤ a then 0 else 1)) = f_M_in a 0 (M 21 0 - 1)
  rw [h]
  exact has_in (by omega) (by omega)
theorem hasR {S M : BS} (hI : IVM M) (h : S 24 0 = M 22 0) (a : Int32) : f_R_has S a = f_M_isRange M a := by
  have b := ivM_22 hI
  show (if a < 0 then (0 : Int32) else (if S 24 0 ≤ a then 0 else 1)) = f_M_in a 0 (M 22 0 - 1)
  rw [h]
  exact has_in (by omega) (by omega)
theorem hasQ {S M : BS} (hI : IVM M) (h : S 25 0 = M 23 0) (a : Int32) : f_Q_has S a = f_M_isPoint M a := by
  have b := ivM_23 hI
  show (if a < 0 then (0 : Int32) else (if S 25 0 ≤ a then 0 else 1)) = f_M_in a 0 (M 23 0 - 1)
  rw [h]
  exact has_in (by omega) (by omega)
theorem hasP {S M : BS} (hI : IVM M) (h : S 22 0 = M 20 0) (a : Int32) : f_P_has S a = f_M_in a 0 (M 20 0 - 1) := by
  have b := ivM_20 hI
  show (if a < 0 then (0 : Int32) else (if S 22 0 ≤ a then 0 else 1)) = f_M_in a 0 (M 20 0 - 1)
  rw [h]
  exact has_in (by omega) (by omega)
/-- what both sides hold alike -/
def GA (S M : BS) : Prop := (S 22 0 = M 20 0 ∧ S 23 0 = M 21 0 ∧ S 24 0 = M 22 0 ∧ S 25 0 = M 23 0 ∧ S 27 0 = M 19 0) ∧ S 0 = M 0 ∧ (S 1 = M 1 ∧ S 2 = M 2) ∧ S 5 = M 4 ∧ S 6 = M 5 ∧ S 7 = M 6 ∧ S 10 = M 9 ∧ S 11 = M 10 ∧ S 13 = M 11 ∧ S 15 = M 12
theorem find_eq {S M : BS} (hI : IVM M) (hA : GA S M) (a1 a2 : Int32) : f_A_find S a1 a2 = f_M_find M a1 a2 := by
  obtain ⟨⟨h22, h23, -⟩, h0, ⟨h1, h2⟩, -⟩ := hA
  unfold f_A_find f_M_find
  rw [pw_eq h22 h0, sw_eq h23 h1 h2]
  rcases pw_neg hI a1 with e | e
  · rw [if_pos e, if_neg (by rw [e]; decide)]
  · rw [if_neg (fun q => by rw [q] at e; exact absurd e (by decide)), if_pos (i32_0le.mpr e)]
