/-- a live point of a range with a house: the reference's test -/
def q_PW (M : BS) (r h p : Int32) : Prop := ¬ M 12 p.toNatClampNeg = 0 ∧ M 10 p.toNatClampNeg = r ∧ f_M_houseOf M p = h
theorem h98 {M : BS} (hIM : IVM M) {a1 x3 x4 x5 A B : Int32} : ∀ (n : Nat) (x7 : Int32), 0 ≤ x7.toInt → (M 23 0).toInt - x7.toInt < (n : Int) → 1 ≤ n →
    l_M_holes_98 M a1 x3 x4 x5 (fun x6 _ => if x6 = 0 then A else B) n 1 x7 = B ∧
    (((∀ p : Int32, x7.toInt ≤ p.toInt → p.toInt < (M 23 0).toInt → ¬ q_PW M x4 x5 p) ∧ l_M_holes_98 M a1 x3 x4 x5 (fun x6 _ => if x6 = 0 then A else B) n 0 x7 = A) ∨
    ((∃ p : Int32, 0 ≤ p.toInt ∧ p.toInt < (M 23 0).toInt ∧ q_PW M x4 x5 p) ∧ l_M_holes_98 M a1 x3 x4 x5 (fun x6 _ => if x6 = 0 then A else B) n 0 x7 = B)) := by
  have b := ivM_23 hIM
  intro n
  induction n with
  | zero => intro x7 _ _ h; exact absurd h (by omega)
  | succ n ih =>
    intro x7 h0 h1 h2
    have k1 : (fun (x6 : Int32) (_ : Int32) => if x6 = 0 then A else B) 1 x7 = B := by
      show (if (1 : Int32) = 0 then A else B) = B
      rw [if_neg (by decide)]
    rw [l_M_holes_98, l_M_holes_98]
    by_cases c : M 23 0 ≤ x7
    · rw [if_pos c, if_pos c]
      have t := Int32.le_iff_toInt_le.mp c
      refine ⟨k1, Or.inl ⟨fun p p1 p2 => by omega, ?_⟩⟩
      show (if (0 : Int32) = 0 then A else B) = A
      rw [if_pos rfl]
    have t := mt Int32.le_iff_toInt_le.mpr c
    have k := i32_inc (x := x7) h0 (by omega)
    rw [if_neg c, if_neg c, if_neg (show ¬ (1 : Int32) = 0 by decide), if_pos (show (0 : Int32) = 0 from rfl)]
    refine ⟨k1, ?_⟩
    obtain ⟨i1, i2⟩ := ih (x7 + 1) (by omega) (by omega) (by omega)
    have skip : ¬ q_PW M x4 x5 x7 → (((∀ p : Int32, x7.toInt ≤ p.toInt → p.toInt < (M 23 0).toInt → ¬ q_PW M x4 x5 p) ∧ l_M_holes_98 M a1 x3 x4 x5 (fun x6 _ => if x6 = 0 then A else B) n 0 (x7 + 1) = A) ∨
        ((∃ p : Int32, 0 ≤ p.toInt ∧ p.toInt < (M 23 0).toInt ∧ q_PW M x4 x5 p) ∧ l_M_holes_98 M a1 x3 x4 x5 (fun x6 _ => if x6 = 0 then A else B) n 0 (x7 + 1) = B)) := by
      intro w
      rcases i2 with ⟨q1, q2⟩ | q
      · refine Or.inl ⟨fun p p1 p2 p3 => ?_, q2⟩
        rcases Int.lt_or_eq_of_le p1 with e | e
        · exact q1 p (by omega) p2 p3
        · rw [← Int32.toInt_inj.mp e] at p3; exact w p3
      · exact Or.inr q
    by_cases c1 : M 12 x7.toNatClampNeg = 0
    · rw [if_pos c1]; exact skip (fun q => q.1 c1)
    rw [if_neg c1]
    by_cases c2 : M 10 x7.toNatClampNeg = x4
    rotate_left
    · rw [if_neg c2]; exact skip (fun q => c2 q.2.1)
    rw [if_pos c2]
    by_cases c3 : f_M_houseOf M x7 = x5
    rotate_left
    · rw [if_neg c3]; exact skip (fun q => c3 q.2.2)
    rw [if_pos c3, i1]
    exact Or.inr ⟨⟨x7, h0, by omega, c1, c2, c3⟩, rfl⟩
theorem h44 {M : BS} (hIM : IVM M) {a1 x4 : Int32} {k : Int32 → Int32 → Int32} {g : Nat → Bool} {c0 : Int} (hc0 : 0 ≤ c0) (hc1 : c0 ≤ 90000) (hl : ¬ M 9 x4.toNatClampNeg = 0) (hX : M 5 x4.toNatClampNeg = f_M_meant M a1 (M 19 0))
    (hg : ∀ x5 : Int32, 0 ≤ x5.toInt → x5.toInt ≤ 999 → (g x5.toNatClampNeg = true ↔ (¬ f_M_has M x4 x5 = 0 ∧ ∀ p : Int32, 0 ≤ p.toInt → p.toInt < (M 23 0).toInt → ¬ q_PW M x4 x5 p))) (hstop : ∀ y : Nat, (M 8 x4.toNatClampNeg).toInt < (y : Int) → g y = false) :
    ∀ (n : Nat) (x3 x5 : Int32), 0 ≤ x5.toInt → x5.toInt ≤ 1000 → (M 8 x4.toNatClampNeg).toInt - x5.toInt + 1 < (n : Int) → 1 ≤ n → x3.toInt = c0 + ((ct g x5.toNatClampNeg : Nat) : Int) → ∃ y z : Int32, l_M_holes_44 M a1 x4 k n x3 x5 = k y z ∧ y.toInt = c0 + ((ct g 1000 : Nat) : Int) := by
  have b23 := ivM_23 hIM
  have b8 := ivM_8 hIM x4.toNatClampNeg
  intro n
  induction n with
  | zero => intro x3 x5 _ _ _ h; exact absurd h (by omega)
  | succ n ih =>
    intro x3 x5 h0 h3 h1 h2 hx
    have ex := cl_int h0
    rw [l_M_holes_44, if_neg hl, if_pos hX]
    by_cases c : M 8 x4.toNatClampNeg < x5
    · rw [if_pos c]
      have t := Int32.lt_iff_toInt_lt.mp c
      refine ⟨x3, x5, rfl, ?_⟩
      rw [ct_stop (a := x5.toNatClampNeg) (fun y hy => hstop y (by omega)) 1000 (by omega)]
      exact hx
    have t := mt Int32.lt_iff_toInt_lt.mpr c
    have kk := i32_inc (x := x5) h0 (by omega)
    have kc := cl_inc (x := x5) h0 (by omega)
    rw [if_neg c]
    have hgx := hg x5 h0 (by omega)
    have cb := ct_le g x5.toNatClampNeg
    have no : g x5.toNatClampNeg = false → ∃ y z : Int32, l_M_holes_44 M a1 x4 k n (x3 + 0) (x5 + 1) = k y z ∧ y.toInt = c0 + ((ct g 1000 : Nat) : Int) := by
      intro w
      refine ih (x3 + 0) (x5 + 1) (by omega) (by omega) (by omega) (by omega) ?_
      rw [i32_p0, kc, ct, w]
      exact hx
    by_cases c2 : f_M_has M x4 x5 = 0
    · rw [if_pos c2, (h98 hIM (A := l_M_holes_44 M a1 x4 k n (x3 + 1) (x5 + 1)) (B := l_M_holes_44 M a1 x4 k n (x3 + 0) (x5 + 1)) 600 0 (by decide) (by rw [z0]; omega) (by omega)).1]
      refine no ?_
      cases q : g x5.toNatClampNeg with
      | false => rfl
      | true => exact absurd c2 (hgx.mp q).1
    · rw [if_neg c2]
      rcases (h98 hIM (a1 := a1) (x3 := x3) (x4 := x4) (x5 := x5) (A := l_M_holes_44 M a1 x4 k n (x3 + 1) (x5 + 1)) (B := l_M_holes_44 M a1 x4 k n (x3 + 0) (x5 + 1)) 600 0 (by decide) (by rw [z0]; omega) (by omega)).2 with ⟨q1, q2⟩ | ⟨⟨p, p0, p1, p2⟩, q2⟩
      · rw [q2]
        have w : g x5.toNatClampNeg = true := hgx.mpr ⟨c2, fun p p0 p1 => q1 p (by rw [z0]; exact p0) p1⟩
        have kx := i32_inc (x := x3) (by omega) (by omega)
        refine ih (x3 + 1) (x5 + 1) (by omega) (by omega) (by omega) (by omega) ?_
        rw [kx, kc, ct, w]
        show x3.toInt + 1 = c0 + ((ct g x5.toNatClampNeg + 1 : Nat) : Int)
        omega
      · rw [q2]
        refine no ?_
        cases q : g x5.toNatClampNeg with
        | false => rfl
        | true => exact absurd p2 ((hgx.mp q).2 p p0 p1)
theorem h44s {M : BS} {a1 x4 : Int32} {k : Int32 → Int32 → Int32} (n : Nat) (x3 x5 : Int32) (h : M 9 x4.toNatClampNeg = 0 ∨ ¬ M 5 x4.toNatClampNeg = f_M_meant M a1 (M 19 0)) : l_M_holes_44 M a1 x4 k (n + 1) x3 x5 = k x3 x5 := by
  rw [l_M_holes_44]
  by_cases c : M 9 x4.toNatClampNeg = 0
  · rw [if_pos c]
  · rw [if_neg c, if_neg (h.resolve_left c)]
theorem holes_ref {n0 : Nat} {S M : BS} (h : RI n0 S M) (a1 : Int32) : (l_M_holes_26 M a1 600 0 0).toInt = ((q_sm (gapN S M (f_M_meant M a1 (M 19 0)) (M 23 0).toNatClampNeg) (M 22 0).toNatClampNeg : Nat) : Int) := by
  have he := fun {p : Int32} => house_eq h (p := p)
  obtain ⟨⟨hI, hIM⟩, ⟨⟨e22, e23, e24, e25, e27⟩, e0, e12, e5, e6, e7, e10, e11, e13, e15⟩, hS, hR, hP, -⟩ := h
  have b := ivM_22 hIM
  have b23 := ivM_23 hIM
  have c23 := cl_int b23.1
  have key : ∀ (n : Nat) (x3 x4 : Int32), 0 ≤ x4.toInt → x4.toInt ≤ (M 22 0).toInt → (M 22 0).toInt - x4.toInt < (n : Int) → 1 ≤ n → x3.toInt = ((q_sm (gapN S M (f_M_meant M a1 (M 19 0)) (M 23 0).toNatClampNeg) x4.toNatClampNeg : Nat) : Int) → (l_M_holes_26 M a1 n x3 x4).toInt = ((q_sm (gapN S M (f_M_meant M a1 (M 19 0)) (M 23 0).toNatClampNeg) (M 22 0).toNatClampNeg : Nat) : Int) := by
    intro n
    induction n with
    | zero => intro x3 x4 _ _ _ h; exact absurd h (by omega)
    | succ n ih =>
      intro x3 x4 h0 h3 h1 h2 hx
      rw [l_M_holes_26]
      have ex := cl_int h0
      by_cases c0 : M 22 0 ≤ x4
      · rw [if_pos c0]
        have t := Int32.le_iff_toInt_le.mp c0
        have e : x4 = M 22 0 := Int32.toInt_inj.mp (by omega)
        rw [← e]; exact hx
      have t := mt Int32.le_iff_toInt_le.mpr c0
      have k := i32_inc (x := x4) h0 (by omega)
      have kc := cl_inc (x := x4) h0 (by omega)
      rw [if_neg c0]
      have sb := sm_le (gapN_le S M (f_M_meant M a1 (M 19 0)) (M 23 0).toNatClampNeg) x4.toNatClampNeg
      have st : q_sm (gapN S M (f_M_meant M a1 (M 19 0)) (M 23 0).toNatClampNeg) (x4 + 1).toNatClampNeg = q_sm (gapN S M (f_M_meant M a1 (M 19 0)) (M 23 0).toNatClampNeg) x4.toNatClampNeg + gapN S M (f_M_meant M a1 (M 19 0)) (M 23 0).toNatClampNeg x4.toNatClampNeg := by rw [kc]; rfl
      have i9 := i32_01 (iv_10 hI x4.toNatClampNeg)
      by_cases c1 : M 9 x4.toNatClampNeg = 0 ∨ ¬ M 5 x4.toNatClampNeg = f_M_meant M a1 (M 19 0)
      · have e : l_M_holes_44 M a1 x4 (fun x3 x5 => (l_M_holes_26 M a1 n x3 (x4 + 1))) 6000 x3 (M 7 x4.toNatClampNeg) = l_M_holes_26 M a1 n x3 (x4 + 1) := h44s 5999 x3 (M 7 x4.toNatClampNeg) c1
        rw [e]
        refine ih x3 (x4 + 1) (by omega) (by omega) (by omega) (by omega) ?_
        rw [st, show gapN S M (f_M_meant M a1 (M 19 0)) (M 23 0).toNatClampNeg x4.toNatClampNeg = 0 by
          unfold gapN
          rw [if_neg]
          rintro ⟨q1, q2⟩
          rw [e10] at q1
          rw [e6] at q2
          rcases c1 with w | w
          · rw [w] at q1; exact absurd q1 (by decide)
          · exact w q2]
        exact hx
      have d1 : ¬ M 9 x4.toNatClampNeg = 0 := fun q => c1 (Or.inl q)
      have d2 : M 5 x4.toNatClampNeg = f_M_meant M a1 (M 19 0) := Classical.byContradiction (fun q => c1 (Or.inr q))
      have r2 := hR.2.1 x4.toNatClampNeg (by omega)
      have hsd := hR.1.2 x4.toNatClampNeg
      have v8 := ivM_8 hIM x4.toNatClampNeg
      have hm := fun x5 : Int32 => hasM_iff (r := x4) (h := x5) hIM (by rw [← e7]; exact hsd.1)
      have gf : ∀ y : Nat, (inR (S 7 x4.toNatClampNeg).toInt (M 7 x4.toNatClampNeg).toInt (M 8 x4.toNatClampNeg).toInt y → False) → q_gB S M (M 23 0).toNatClampNeg x4.toNatClampNeg y = false := by
        intro y w
        cases q : q_gB S M (M 23 0).toNatClampNeg x4.toNatClampNeg y with
        | false => rfl
        | true =>
          unfold q_gB at q
          rw [Bool.and_eq_true] at q
          exact (w (inB_iff.mp q.1)).elim
      obtain ⟨y, z, e, hy⟩ := h44 hIM (a1 := a1) (x4 := x4) (k := fun x3 x5 => (l_M_holes_26 M a1 n x3 (x4 + 1))) (g := q_gB S M (M 23 0).toNatClampNeg x4.toNatClampNeg) (c0 := x3.toInt) (by omega) (by omega) d1 d2 (fun x5 g0 g1 => by
          have e5' := cl_int g0
          unfold q_gB
          rw [Bool.and_eq_true, inB_iff, hm x5, ← e7, e5']
          have tk : q_tkB S (M 23 0).toNatClampNeg x4.toNatClampNeg x5.toNatClampNeg = true ↔ ∃ p : Int32, 0 ≤ p.toInt ∧ p.toInt < (M 23 0).toInt ∧ q_PW M x4 x5 p := by
            rw [tk_iff]
            constructor
            · rintro ⟨j, j1, j2, j3, j4⟩
              have w1 : (nI j).toInt = j := nI_toInt (by omega)
              have w2 : (nI j).toNatClampNeg = j := nI_clamp (by omega)
              refine ⟨nI j, by omega, by omega, ?_, ?_, ?_⟩
              · rw [w2, ← e15, j2]; decide
              · rw [w2, ← e11]; exact cl_inj (iv_11 hI j).1 h0 j3
              · rw [← he (p := nI j) (by omega) (by omega)]
                show S 17 (S 14 (nI j).toNatClampNeg).toNatClampNeg = x5
                rw [w2]
                exact cl_inj (iv_17 hI _).1 g0 j4
            · rintro ⟨p, p0, p1, p2, p3, p4⟩
              have ep := cl_int p0
              refine ⟨p.toNatClampNeg, by omega, ?_, ?_, ?_⟩
              · exact (i32_01 (iv_15 hI p.toNatClampNeg)).resolve_left (by rw [e15]; exact p2)
              · rw [e11, p3]
              · have p5 := he p0 p1
                rw [p4] at p5
                show (S 17 (S 14 p.toNatClampNeg).toNatClampNeg).toNatClampNeg = x5.toNatClampNeg
                rw [show S 17 (S 14 p.toNatClampNeg).toNatClampNeg = x5 from p5]
          refine and_congr Iff.rfl ?_
          constructor
          · intro w p p0 p1 p2
            rw [tk.mpr ⟨p, p0, p1, p2⟩] at w
            exact absurd w (by decide)
          · intro w
            cases q : q_tkB S (M 23 0).toNatClampNeg x4.toNatClampNeg x5.toNatClampNeg with
            | false => rfl
            | true =>
              obtain ⟨p, p0, p1, p2⟩ := tk.mp q
              exact absurd p2 (w p p0 p1)) (fun y hy => gf y (fun q => by have := q.2.1; omega)) 6000 x3 (M 7 x4.toNatClampNeg) (by omega) (by omega) (by omega) (by omega) (by
          rw [ct_zero (g := q_gB S M (M 23 0).toNatClampNeg x4.toNatClampNeg) (M 7 x4.toNatClampNeg).toNatClampNeg (fun y hy => gf y (fun q => by
            have := q.1
            have := cl_int (x := M 7 x4.toNatClampNeg) (by omega)
            omega))]
          omega)
      rw [e]
      show (l_M_holes_26 M a1 n y (x4 + 1)).toInt = _
      refine ih y (x4 + 1) (by omega) (by omega) (by omega) (by omega) ?_
      rw [st, hy, show gapN S M (f_M_meant M a1 (M 19 0)) (M 23 0).toNatClampNeg x4.toNatClampNeg = ct (q_gB S M (M 23 0).toNatClampNeg x4.toNatClampNeg) 1000 by
        unfold gapN
        rw [if_pos]
        exact ⟨i9.resolve_left (by rw [e10]; exact d1), by rw [e6]; exact d2⟩]
      omega
  exact key 600 0 0 (by decide) (by rw [z0]; omega) (by rw [z0]; omega) (by omega) (by rw [z0, zc0]; rfl)
theorem sum_eq {n0 : Nat} {S M : BS} (h : RI n0 S M) (X : Int32) : ∀ x : Nat, (x : Int) ≤ (M 22 0).toInt → q_sm (lenN S M X) x = q_sm (gapN S M X (M 23 0).toNatClampNeg) x + ct (q_trB S X (M 23 0).toNatClampNeg x) 1000 := by
  obtain ⟨⟨hI, hIM⟩, ⟨⟨e22, e23, e24, e25, e27⟩, e0, e12, e5, e6, e7, e10, e11, e13, e15⟩, hS, hR, hP, hY1, -⟩ := h
  have b23 := ivM_23 hIM
  have c23 := cl_int b23.1
  have inn : ∀ j : Nat, j < (M 23 0).toNatClampNeg → S 15 j = 1 → ((S 11 j).toNatClampNeg : Int) < (M 22 0).toInt ∧ S 10 (S 11 j).toNatClampNeg = 1 ∧ inR (S 7 (S 11 j).toNatClampNeg).toInt (M 7 (S 11 j).toNatClampNeg).toInt (M 8 (S 11 j).toNatClampNeg).toInt ((q_hsN S j : Nat) : Int) := by
    intro j hj hl
    have w1 : (nI j).toInt = j := nI_toInt (by omega)
    have w2 : (nI j).toNatClampNeg = j := nI_clamp (by omega)
    obtain ⟨-, k, -, k2, k3, -⟩ := hY1 (nI j) (by omega) (by omega)
    rw [w2] at k2 k3
    obtain ⟨-, -, -, -, z5⟩ := k3 hl
    rw [k2] at z5
    have x1 := hP.2.2.1 j (by omega)
    have x2 := cl_int (iv_11 hI j).1
    have x3 := cl_int (iv_17 hI (S 14 j).toNatClampNeg).1
    refine ⟨by omega, hP.2.2.2 j (by omega) hl, ?_⟩
    show inR _ _ _ (((S 17 (S 14 j).toNatClampNeg).toNatClampNeg : Nat) : Int)
    rw [x3]
    exact z5
  intro x
  induction x with
  | zero =>
    intro _
    rw [ct_zero 1000 (fun y _ => ?_)]
    · rfl
    · cases q : q_trB S X (M 23 0).toNatClampNeg 0 y with
      | false => rfl
      | true =>
        obtain ⟨j, -, -, -, j4, -⟩ := tr_iff.mp q
        exact absurd j4 (Nat.not_lt_zero _)
  | succ x ih =>
    intro hx
    have i := ih (by omega)
    rw [q_sm, q_sm, i]
    by_cases c : S 10 x = 1 ∧ S 6 x = X
    · have e1 : lenN S M X x = ct (fun h : Nat => q_inB (S 7 x).toInt (M 7 x).toInt (M 8 x).toInt h) 1000 := by unfold lenN; rw [if_pos c]
      have e2 : gapN S M X (M 23 0).toNatClampNeg x = ct (q_gB S M (M 23 0).toNatClampNeg x) 1000 := by unfold gapN; rw [if_pos c]
      have s1 := ct_or (p := q_gB S M (M 23 0).toNatClampNeg x) (q := q_tkB S (M 23 0).toNatClampNeg x) (r := fun h : Nat => q_inB (S 7 x).toInt (M 7 x).toInt (M 8 x).toInt h) (fun y => bool_ext (by
          rw [Bool.or_eq_true]
          unfold q_gB
          rw [Bool.and_eq_true]
          constructor
          · intro q
            cases w : q_tkB S (M 23 0).toNatClampNeg x y with
            | false => exact Or.inl ⟨q, rfl⟩
            | true => exact Or.inr rfl
          · rintro (q | q)
            · exact q.1
            · obtain ⟨j, j1, j2, j3, j4⟩ := tk_iff.mp q
              have v := (inn j j1 j2).2.2
              rw [j3, j4] at v
              exact inB_iff.mpr v)) (fun y q => by
          obtain ⟨q1, q2⟩ := q
          unfold q_gB at q1
          rw [Bool.and_eq_true, q2] at q1
          exact absurd q1.2 (by decide)) 1000
      have s2 := ct_or (p := q_trB S X (M 23 0).toNatClampNeg x) (q := q_tkB S (M 23 0).toNatClampNeg x) (r := q_trB S X (M 23 0).toNatClampNeg (x + 1)) (fun y => bool_ext (by
          rw [Bool.or_eq_true, tr_iff, tr_iff, tk_iff]
          constructor
          · rintro ⟨j, j1, j2, j3, j4, j5⟩
            by_cases w : (S 11 j).toNatClampNeg = x
            · exact Or.inr ⟨j, j1, j2, w, j5⟩
            · exact Or.inl ⟨j, j1, j2, j3, by omega, j5⟩
          · rintro (⟨j, j1, j2, j3, j4, j5⟩ | ⟨j, j1, j2, j3, j4⟩)
            · exact ⟨j, j1, j2, j3, by omega, j5⟩
            · exact ⟨j, j1, j2, by rw [j3]; exact c.2, by omega, j4⟩)) (fun y q => by
          obtain ⟨j, j1, j2, j3, j4, j5⟩ := tr_iff.mp q.1
          obtain ⟨i, i1, i2, i3, i4⟩ := tk_iff.mp q.2
          obtain ⟨u1, u2, u3⟩ := inn j j1 j2
          obtain ⟨v1, v2, v3⟩ := inn i i1 i2
          rw [j5] at u3
          rw [i3, i4] at v3
          exact hR.2.2.2.1 (S 11 j).toNatClampNeg x u1 (by omega) (by omega) u2 c.1 (by rw [j3]; exact c.2.symm) y u3 v3) 1000
      rw [e1, e2, s1, s2]
      omega
    · have e1 : lenN S M X x = 0 := by unfold lenN; rw [if_neg c]
      have e2 : gapN S M X (M 23 0).toNatClampNeg x = 0 := by unfold gapN; rw [if_neg c]
      have e3 : q_trB S X (M 23 0).toNatClampNeg (x + 1) = q_trB S X (M 23 0).toNatClampNeg x := funext (fun y => bool_ext (by
        rw [tr_iff, tr_iff]
        constructor
        · rintro ⟨j, j1, j2, j3, j4, j5⟩
          refine ⟨j, j1, j2, j3, ?_, j5⟩
          by_cases w : (S 11 j).toNatClampNeg = x
          · rw [w] at j3
            have u := (inn j j1 j2).2.1
            rw [w] at u
            exact absurd ⟨u, j3⟩ c
          · omega
        · rintro ⟨j, j1, j2, j3, j4, j5⟩; exact ⟨j, j1, j2, j3, by omega, j5⟩))
      rw [e1, e2, e3]
      omega
theorem op_holes {n : Nat} {S M : BS} (h : RI n S M) (a1 : Int32) : (F_A_holes S a1).1 = f_M_holes M a1 ∧ (IV (F_A_holes S a1).2 → IVM M → RI (n + 1) (F_A_holes S a1).2 M) := by
  have hu := h.up
  have hr := holes_ref h a1
  have hsum := sum_eq h (f_M_meant M a1 (M 19 0)) (M 22 0).toNatClampNeg (by have := cl_int (ivM_22 h.1.2).1; omega)
  obtain ⟨⟨hI, hIM⟩, ⟨⟨e22, e23, e24, e25, e27⟩, e0, e12, e5, e6, e7, e10, e11, e13, e15⟩, hS, hR, hP, hY1, hY2, hY3, hY4, hY5, hN, hT, hd0, hd1⟩ := h
  have b22 := ivM_22 hIM
  have b25 := iv_25 hI
  unfold F_A_holes f_M_holes
  rw [hasT hIM e23]
  by_cases c1 : f_M_isStreet M a1 = 0
  · rw [if_pos c1, if_pos c1]; exact ⟨rfl, fun _ _ => hu⟩
  rw [if_neg c1, if_neg c1]
  have t1 := fb_M_isStreet hIM c1
  rw [mean_eq hIM e23 e5 hS t1.1 t1.2.1, e27]
  obtain ⟨c, l1, l2⟩ := hw4 (X := f_M_meant M a1 (M 19 0)) hI hT.1 600 S 0 0 (by decide) (by rw [z0]; omega) (by rw [z0]; omega) (by omega) (fun _ _ => rfl) (fun h => by rw [hT.1 h, zc0]; rfl) (by rw [z0, zc0, ct_zero (g := q_tsB S (f_M_meant M a1 (M 19 0)) 0) 1000 (fun y _ => rfl)]; rfl)
  have l1 : F_A_housesWithPoint S (f_M_meant M a1 (M 19 0)) = (c, S) := l1
  rw [l1]
  refine ⟨?_, fun _ _ => hu⟩
  show f_R_housesOf S (f_M_meant M a1 (M 19 0)) - c = l_M_holes_26 M a1 600 0 0
  have hh := houses_eq (X := f_M_meant M a1 (M 19 0)) hI hIM e24 hR
  have same : q_trB S (f_M_meant M a1 (M 19 0)) (M 23 0).toNatClampNeg (M 22 0).toNatClampNeg = q_tsB S (f_M_meant M a1 (M 19 0)) (S 25 0).toNatClampNeg := funext (fun y => bool_ext (by
    rw [tr_iff, ts_iff, e25]
    have c22 := cl_int b22.1
    have c23 := cl_int (ivM_23 hIM).1
    constructor
    · rintro ⟨j, j1, j2, j3, j4, j5⟩; exact ⟨j, j1, j2, j3, j5⟩
    · rintro ⟨j, j1, j2, j3, j5⟩
      have x1 := hP.2.2.1 j (by omega)
      have x2 := cl_int (iv_11 hI j).1
      exact ⟨j, j1, j2, j3, by omega, j5⟩))
  rw [same] at hsum
  have sb := sm_le (lenN_le S M (f_M_meant M a1 (M 19 0))) (M 22 0).toNatClampNeg
  have c22 := cl_int b22.1
  apply Int32.toInt_inj.mp
  rw [hr, i32_sub (by omega) (by omega)]
  omega
