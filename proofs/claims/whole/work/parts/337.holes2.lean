theorem zc0 : ((0) : Int32).toNatClampNeg = 0 := by decide
/-- the house of a point, its latest -/
def q_hsN (S : BS) (j : Nat) : Nat := (S 17 (S 14 j).toNatClampNeg).toNatClampNeg
/-- a house has a live point of a range; of a street, among the first points; of a street, of the first ranges -/
def q_tkB (S : BS) (np r h : Nat) : Bool := q_exB (fun j => decide (S 15 j = 1) && decide ((S 11 j).toNatClampNeg = r) && decide (q_hsN S j = h)) np
def q_tsB (S : BS) (X : Int32) (x h : Nat) : Bool := q_exB (fun j => decide (S 15 j = 1) && decide (S 6 (S 11 j).toNatClampNeg = X) && decide (q_hsN S j = h)) x
def q_trB (S : BS) (X : Int32) (np x h : Nat) : Bool := q_exB (fun j => decide (S 15 j = 1) && decide (S 6 (S 11 j).toNatClampNeg = X) && decide ((S 11 j).toNatClampNeg < x) && decide (q_hsN S j = h)) np
theorem tk_iff {S : BS} {np r h : Nat} : q_tkB S np r h = true ↔ ∃ j, j < np ∧ S 15 j = 1 ∧ (S 11 j).toNatClampNeg = r ∧ q_hsN S j = h := by
  unfold q_tkB
  rw [exB_iff]
  simp only [Bool.and_eq_true, decide_eq_true_eq, and_assoc]
theorem ts_iff {S : BS} {X : Int32} {x h : Nat} : q_tsB S X x h = true ↔ ∃ j, j < x ∧ S 15 j = 1 ∧ S 6 (S 11 j).toNatClampNeg = X ∧ q_hsN S j = h := by
  unfold q_tsB
  rw [exB_iff]
  simp only [Bool.and_eq_true, decide_eq_true_eq, and_assoc]
theorem tr_iff {S : BS} {X : Int32} {np x h : Nat} : q_trB S X np x h = true ↔ ∃ j, j < np ∧ S 15 j = 1 ∧ S 6 (S 11 j).toNatClampNeg = X ∧ (S 11 j).toNatClampNeg < x ∧ q_hsN S j = h := by
  unfold q_trB
  rw [exB_iff]
  simp only [Bool.and_eq_true, decide_eq_true_eq, and_assoc]
/-- the book's marks go -/
theorem hw59 {S : BS} (hI : IV S) {X : Int32} (hz : ∀ j, S 21 j = 0) : ∀ (n : Nat) (Z : BS) (c x : Int32), 0 ≤ x.toInt → (S 25 0).toInt - x.toInt < (n : Int) → 1 ≤ n → (∀ a, a ≠ 21 → Z a = S a) → (∀ h, Z 21 h = 0 ∨ ∃ j : Nat, x.toInt ≤ (j : Int) ∧ (j : Int) < (S 25 0).toInt ∧ q_hsN S j = h) →
    l_A_housesWithPoint_59 X n Z c x = (c, S) := by
  have b := iv_25 hI
  intro n
  induction n with
  | zero => intro Z c x _ _ h; exact absurd h (by omega)
  | succ n ih =>
    intro Z c x h0 h1 h2 fA hm
    rw [l_A_housesWithPoint_59, fA 25 (by decide)]
    by_cases c0 : S 25 0 ≤ x
    · rw [if_pos c0]
      have t := Int32.le_iff_toInt_le.mp c0
      have e : Z = S := by
        funext a
        by_cases ca : a = 21
        · rw [ca]
          funext h
          rw [hz h]
          rcases hm h with q | ⟨j, j1, j2, -⟩
          · exact q
          · omega
        · exact fA a ca
      rw [e]
    have t := mt Int32.le_iff_toInt_le.mpr c0
    have k := i32_inc (x := x) h0 (by omega)
    have ex := cl_int h0
    rw [if_neg c0]
    have eh : (f_A_houseNow Z x).toNatClampNeg = q_hsN S x.toNatClampNeg := by
      show (Z 17 (Z 14 x.toNatClampNeg).toNatClampNeg).toNatClampNeg = (S 17 (S 14 x.toNatClampNeg).toNatClampNeg).toNatClampNeg
      rw [fA 17 (by decide), fA 14 (by decide)]
    rw [eh]
    refine ih _ c (x + 1) (by omega) (by omega) (by omega) (fun a ha => by rw [upS_ne ha]; exact fA a ha) (fun h => ?_)
    show upd (Z 21) (q_hsN S x.toNatClampNeg) 0 h = 0 ∨ _
    by_cases ch : h = q_hsN S x.toNatClampNeg
    · rw [ch, upd_at]; exact Or.inl rfl
    · rw [upd_ne ch]
      rcases hm h with q | ⟨j, j1, j2, j3⟩
      · exact Or.inl q
      · refine Or.inr ⟨j, ?_, j2, j3⟩
        by_cases cj : j = x.toNatClampNeg
        · rw [cj] at j3; exact absurd j3.symm ch
        · omega
/-- the book's houses with a point -/
theorem hw4 {S : BS} (hI : IV S) {X : Int32} (hz : ∀ j, S 21 j = 0) : ∀ (n : Nat) (Z : BS) (c x : Int32), 0 ≤ x.toInt → x.toInt ≤ (S 25 0).toInt → (S 25 0).toInt - x.toInt < (n : Int) → 1 ≤ n → (∀ a, a ≠ 21 → Z a = S a) → (∀ h, Z 21 h = if q_tsB S X x.toNatClampNeg h = true then 1 else 0) → c.toInt = ((ct (q_tsB S X x.toNatClampNeg) 1000 : Nat) : Int) →
    ∃ c2 : Int32, l_A_housesWithPoint_4 X n Z c x = (c2, S) ∧ c2.toInt = ((ct (q_tsB S X (S 25 0).toNatClampNeg) 1000 : Nat) : Int) := by
  have b := iv_25 hI
  intro n
  induction n with
  | zero => intro Z c x _ _ _ h; exact absurd h (by omega)
  | succ n ih =>
    intro Z c x h0 h3 h1 h2 fA hm hc
    rw [l_A_housesWithPoint_4, fA 25 (by decide)]
    have ex := cl_int h0
    by_cases c0 : S 25 0 ≤ x
    · rw [if_pos c0]
      have t := Int32.le_iff_toInt_le.mp c0
      have e : x = S 25 0 := Int32.toInt_inj.mp (by omega)
      rw [hw59 hI hz 600 Z c 0 (by decide) (by rw [z0]; omega) (by omega) fA (fun h => ?_)]
      · exact ⟨c, rfl, by rw [← e]; exact hc⟩
      · rw [hm h]
        by_cases q : q_tsB S X x.toNatClampNeg h = true
        · obtain ⟨j, j1, -, -, j4⟩ := ts_iff.mp q
          exact Or.inr ⟨j, by rw [z0]; omega, by omega, j4⟩
        · rw [if_neg q]; exact Or.inl rfl
    have t := mt Int32.le_iff_toInt_le.mpr c0
    have k := i32_inc (x := x) h0 (by omega)
    have kc := cl_inc (x := x) h0 (by omega)
    rw [if_neg c0]
    have hl := liveA (S := Z) (p := x) (a := X)
    rw [fA 15 (by decide), fA 6 (by decide), fA 11 (by decide)] at hl
    have eh : (f_A_houseNow Z x).toNatClampNeg = q_hsN S x.toNatClampNeg := by
      show (Z 17 (Z 14 x.toNatClampNeg).toNatClampNeg).toNatClampNeg = (S 17 (S 14 x.toNatClampNeg).toNatClampNeg).toNatClampNeg
      rw [fA 17 (by decide), fA 14 (by decide)]
    have i15 := i32_01 (iv_15 hI x.toNatClampNeg)
    have skip : (∀ h, q_tsB S X (x.toNatClampNeg + 1) h = q_tsB S X x.toNatClampNeg h) → ∃ c2 : Int32, l_A_housesWithPoint_4 X n Z c (x + 1) = (c2, S) ∧ c2.toInt = ((ct (q_tsB S X (S 25 0).toNatClampNeg) 1000 : Nat) : Int) := by
      intro w
      have w2 : q_tsB S X (x.toNatClampNeg + 1) = q_tsB S X x.toNatClampNeg := funext w
      refine ih Z c (x + 1) (by omega) (by omega) (by omega) (by omega) fA (fun h => ?_) ?_
      · rw [kc, w2]; exact hm h
      · rw [kc, w2]; exact hc
    by_cases c1 : f_A_isLiveOf Z x X = 0
    · rw [if_pos c1]
      have w := hl.mp c1
      refine skip (fun h => bool_ext ?_)
      rw [ts_iff, ts_iff]
      constructor
      · rintro ⟨j, j1, j2, j3, j4⟩
        refine ⟨j, ?_, j2, j3, j4⟩
        by_cases cj : j = x.toNatClampNeg
        · rw [cj] at j2 j3
          rcases w with w | w
          · rw [w] at j2; exact absurd j2 (by decide)
          · exact absurd j3 w
        · omega
      · rintro ⟨j, j1, j2⟩; exact ⟨j, by omega, j2⟩
    rw [if_neg c1, eh, hm]
    have lv : S 15 x.toNatClampNeg = 1 ∧ S 6 (S 11 x.toNatClampNeg).toNatClampNeg = X := by
      refine ⟨i15.resolve_left (fun q => c1 (hl.mpr (Or.inl q))), Classical.byContradiction (fun q => c1 (hl.mpr (Or.inr q)))⟩
    have new : ∀ h, q_tsB S X (x.toNatClampNeg + 1) h = true ↔ (q_tsB S X x.toNatClampNeg h = true ∨ h = q_hsN S x.toNatClampNeg) := by
      intro h
      rw [ts_iff, ts_iff]
      constructor
      · rintro ⟨j, j1, j2, j3, j4⟩
        by_cases cj : j = x.toNatClampNeg
        · rw [cj] at j4; exact Or.inr j4.symm
        · exact Or.inl ⟨j, by omega, j2, j3, j4⟩
      · rintro (⟨j, j1, j2⟩ | q)
        · exact ⟨j, by omega, j2⟩
        · exact ⟨x.toNatClampNeg, by omega, lv.1, lv.2, q.symm⟩
    by_cases c2 : q_tsB S X x.toNatClampNeg (q_hsN S x.toNatClampNeg) = true
    · rw [if_pos c2, if_neg (show ¬ (1 : Int32) = 0 by decide)]
      refine skip (fun h => bool_ext ?_)
      rw [new]
      constructor
      · rintro (q | q)
        · exact q
        · rw [q]; exact c2
      · exact fun q => Or.inl q
    · rw [if_neg c2, if_pos rfl]
      have hlt : q_hsN S x.toNatClampNeg < 1000 := by
        have := iv_17 hI (S 14 x.toNatClampNeg).toNatClampNeg
        have e := cl_int this.1
        show (S 17 (S 14 x.toNatClampNeg).toNatClampNeg).toNatClampNeg < 1000
        omega
      have one := ct_one (p := q_tsB S X x.toNatClampNeg) (q := q_tsB S X (x.toNatClampNeg + 1)) (z := q_hsN S x.toNatClampNeg) (by cases q : q_tsB S X x.toNatClampNeg (q_hsN S x.toNatClampNeg) with
        | false => rfl
        | true => exact absurd q c2) ((new _).mpr (Or.inr rfl)) (fun y hy => bool_ext (by
          rw [new]
          exact ⟨fun q => q.resolve_right hy, fun q => Or.inl q⟩)) 1000 hlt
      have cb := ct_le (q_tsB S X x.toNatClampNeg) 1000
      have kcc := i32_inc (x := c) (by omega) (by omega)
      refine ih _ (c + 1) (x + 1) (by omega) (by omega) (by omega) (by omega) (fun a ha => by rw [upS_ne ha]; exact fA a ha) (fun h => ?_) ?_
      · rw [kc]
        show upd (Z 21) (q_hsN S x.toNatClampNeg) 1 h = _
        by_cases ch : h = q_hsN S x.toNatClampNeg
        · rw [ch, upd_at, if_pos ((new _).mpr (Or.inr rfl))]
        · rw [upd_ne ch, hm h]
          by_cases q : q_tsB S X x.toNatClampNeg h = true
          · rw [if_pos q, if_pos ((new h).mpr (Or.inl q))]
          · rw [if_neg q, if_neg (fun w => ((new h).mp w).elim q ch)]
      · rw [kc, kcc, one]
        omega
/-- houses of a live range of a street -/
def lenN (S M : BS) (X : Int32) (r : Nat) : Nat := if S 10 r = 1 ∧ S 6 r = X then ct (fun h : Nat => q_inB (S 7 r).toInt (M 7 r).toInt (M 8 r).toInt h) 1000 else 0
def q_gB (S M : BS) (np r h : Nat) : Bool := q_inB (S 7 r).toInt (M 7 r).toInt (M 8 r).toInt h && !q_tkB S np r h
def gapN (S M : BS) (X : Int32) (np r : Nat) : Nat := if S 10 r = 1 ∧ S 6 r = X then ct (q_gB S M np r) 1000 else 0
theorem lenN_le (S M : BS) (X : Int32) (r : Nat) : lenN S M X r ≤ 1000 := by
  unfold lenN
  split
  · exact ct_le _ _
  · omega
theorem gapN_le (S M : BS) (X : Int32) (np r : Nat) : gapN S M X np r ≤ 1000 := by
  unfold gapN
  split
  · exact ct_le _ _
  · omega
theorem houses_eq {S M : BS} (hI : IV S) (hIM : IVM M) (e24 : S 24 0 = M 22 0) {g3 : Nat → Int32} {ns : Int32} (hR : GR (S 6) (S 7) (S 8) (S 9) (S 10) (M 7) (M 8) g3 (M 22 0) ns) {X : Int32} : (f_R_housesOf S X).toInt = ((q_sm (lenN S M X) (M 22 0).toNatClampNeg : Nat) : Int) := by
  have b := ivM_22 hIM
  have key : ∀ (n : Nat) (x2 x3 : Int32), 0 ≤ x3.toInt → x3.toInt ≤ (M 22 0).toInt → (M 22 0).toInt - x3.toInt < (n : Int) → 1 ≤ n → x2.toInt = ((q_sm (lenN S M X) x3.toNatClampNeg : Nat) : Int) → (l_R_housesOf_4 S X n x2 x3).toInt = ((q_sm (lenN S M X) (M 22 0).toNatClampNeg : Nat) : Int) := by
    intro n
    induction n with
    | zero => intro x2 x3 _ _ _ h; exact absurd h (by omega)
    | succ n ih =>
      intro x2 x3 h0 h3 h1 h2 hx
      rw [l_R_housesOf_4, e24]
      have ex := cl_int h0
      by_cases c0 : M 22 0 ≤ x3
      · rw [if_pos c0]
        have t := Int32.le_iff_toInt_le.mp c0
        have e : x3 = M 22 0 := Int32.toInt_inj.mp (by omega)
        rw [← e]; exact hx
      have t := mt Int32.le_iff_toInt_le.mpr c0
      have k := i32_inc (x := x3) h0 (by omega)
      have kc := cl_inc (x := x3) h0 (by omega)
      rw [if_neg c0]
      have lv := liveR (r := x3) (a := X) hI
      have sb := sm_le (lenN_le S M X) x3.toNatClampNeg
      have st : q_sm (lenN S M X) (x3 + 1).toNatClampNeg = q_sm (lenN S M X) x3.toNatClampNeg + lenN S M X x3.toNatClampNeg := by rw [kc]; rfl
      by_cases c1 : f_R_isLiveOf S x3 X = 0
      · rw [if_pos c1]
        refine ih x2 (x3 + 1) (by omega) (by omega) (by omega) (by omega) ?_
        rw [st, show lenN S M X x3.toNatClampNeg = 0 by unfold lenN; rw [if_neg (lv.mp c1)]]
        exact hx
      rw [if_neg c1]
      have hl : S 10 x3.toNatClampNeg = 1 ∧ S 6 x3.toNatClampNeg = X := Classical.byContradiction (fun q => c1 (lv.mpr q))
      have r2 := hR.2.1 x3.toNatClampNeg (by omega)
      have r1 := hR.1.1 x3.toNatClampNeg
      have le := len_eq (s := S 7 x3.toNatClampNeg) (lo := M 7 x3.toNatClampNeg) (hi := M 8 x3.toNatClampNeg) (a := S 8 x3.toNatClampNeg) (b := S 9 x3.toNatClampNeg) (hR.1.2 x3.toNatClampNeg) r2.1 r2.2 (ivM_8 hIM _).2 r1.1 r1.2
      have el : lenN S M X x3.toNatClampNeg = ct (fun h : Nat => q_inB (S 7 x3.toNatClampNeg).toInt (M 7 x3.toNatClampNeg).toInt (M 8 x3.toNatClampNeg).toInt h) 1000 := by unfold lenN; rw [if_pos hl]
      have lb := lenN_le S M X x3.toNatClampNeg
      rw [← el] at le
      have go : ∀ v : Int32, v.toInt = ((lenN S M X x3.toNatClampNeg : Nat) : Int) → (l_R_housesOf_4 S X n (x2 + v) (x3 + 1)).toInt = ((q_sm (lenN S M X) (M 22 0).toNatClampNeg : Nat) : Int) := by
        intro v hv
        have ka := i32_add (x := x2) (y := v) (by omega) (by omega)
        refine ih (x2 + v) (x3 + 1) (by omega) (by omega) (by omega) (by omega) ?_
        rw [st, ka]
        omega
      by_cases c2 : S 7 x3.toNatClampNeg = 0
      · rw [if_pos c2]
        rw [if_pos c2] at le
        exact go _ le
      · rw [if_neg c2]
        rw [if_neg c2] at le
        exact go _ le
  exact key 600 0 0 (by decide) (by rw [z0]; omega) (by rw [z0]; omega) (by omega) (by rw [z0, zc0]; rfl)
