theorem i32_mul {x y : Int32} (h1 : -2000000000 ≤ x.toInt * y.toInt) (h2 : x.toInt * y.toInt ≤ 2000000000) : (x * y).toInt = x.toInt * y.toInt := by
  rw [Int32.toInt_mul]
  exact i32_bm h1 h2
theorem oddA {h : Int32} (h0 : 0 ≤ h.toInt) : (f_A_isOdd h = 0 ↔ ¬ h.toInt % 2 = 1) ∧ (f_A_isOdd h = 1 ↔ h.toInt % 2 = 1) := by
  have o := and1 h0
  unfold f_A_isOdd
  by_cases c : h &&& 1 = 1
  · rw [if_pos c]
    exact ⟨⟨fun q => absurd q (by decide), fun q => absurd (o.mp c) q⟩, ⟨fun _ => o.mp c, fun _ => rfl⟩⟩
  · rw [if_neg c]
    exact ⟨⟨fun _ q => c (o.mpr q), fun _ => rfl⟩, ⟨fun q => absurd q (by decide), fun q => absurd (o.mpr q) c⟩⟩
def rnd (h e : Int) : Int := if h % 2 = 1 then h * 26 + e else (3000 - h) * 26 + e
theorem round_int {M : BS} (hIM : IVM M) {p : Int32} (he : 0 ≤ (M 11 p.toNatClampNeg).toInt ∧ (M 11 p.toNatClampNeg).toInt ≤ 25) : (f_M_onRound M p).toInt = rnd (f_M_houseOf M p).toInt (M 11 p.toNatClampNeg).toInt := by
  have b := fc_M_houseOf hIM p
  have z26 : ((26) : Int32).toInt = 26 := by decide
  have z3 : ((3000) : Int32).toInt = 3000 := by decide
  have e := cl_int b.1
  have key : ((f_M_houseOf M p) - (f_M_houseOf M p) / 2 * 2 = 1) ↔ (f_M_houseOf M p).toInt % 2 = 1 := by
    rw [rem2 b.1, show (1 : Int32) = nI 1 from rfl, nI_eq (by omega) (by omega)]
    omega
  unfold f_M_onRound rnd
  by_cases c : (f_M_houseOf M p) - (f_M_houseOf M p) / 2 * 2 = 1
  · rw [if_pos c, if_pos (key.mp c)]
    have m := i32_mul (x := f_M_houseOf M p) (y := 26) (by rw [z26]; omega) (by rw [z26]; omega)
    rw [i32_add (by rw [m, z26]; omega) (by rw [m, z26]; omega), m, z26]
  · rw [if_neg c, if_neg (mt key.mpr c)]
    have s := i32_sub (x := 3000) (y := f_M_houseOf M p) (by omega) (by omega)
    have m := i32_mul (x := 3000 - f_M_houseOf M p) (y := 26) (by rw [s, z26]; omega) (by rw [s, z26]; omega)
    rw [i32_add (by rw [m, s, z26]; omega) (by rw [m, s, z26]; omega), m, s, z26, z3]
theorem early_iff {S M : BS} (hIM : IVM M) (e13 : S 13 = M 11) (hx : ∀ j, 0 ≤ (M 11 j).toInt ∧ (M 11 j).toInt ≤ 25) {p q : Int32} (hp : f_A_houseNow S p = f_M_houseOf M p) (hq : f_A_houseNow S q = f_M_houseOf M q) : f_A_isEarlierOnRound S p q = 0 ↔ f_M_onRound M q ≤ f_M_onRound M p := by
  have b1 := fc_M_houseOf hIM p
  have b2 := fc_M_houseOf hIM q
  have x1 := hx p.toNatClampNeg
  have x2 := hx q.toNatClampNeg
  obtain ⟨o1, o2⟩ := oddA b1.1
  obtain ⟨o3, o4⟩ := oddA b2.1
  rw [Int32.le_iff_toInt_le, round_int hIM x1, round_int hIM x2]
  unfold f_A_isEarlierOnRound rnd
  rw [hp, hq, e13]
  by_cases c1 : f_M_houseOf M p = f_M_houseOf M q
  · rw [if_pos c1]
    have := congrArg Int32.toInt c1
    by_cases c2 : M 11 q.toNatClampNeg ≤ M 11 p.toNatClampNeg
    · rw [if_pos c2]
      have := Int32.le_iff_toInt_le.mp c2
      refine ⟨fun _ => ?_, fun _ => rfl⟩
      split <;> split <;> omega
    · rw [if_neg c2]
      have := mt Int32.le_iff_toInt_le.mpr c2
      refine ⟨fun w => absurd w (by decide), fun w => ?_⟩
      split at w <;> split at w <;> omega
  · rw [if_neg c1]
    have n1 := mt Int32.toInt_inj.mp c1
    by_cases c2 : f_A_isOdd (f_M_houseOf M p) = f_A_isOdd (f_M_houseOf M q)
    · rw [if_pos c2]
      by_cases c3 : f_A_isOdd (f_M_houseOf M p) = 0
      · rw [if_pos c3]
        have k1 := o1.mp c3
        have k2 := o3.mp (by rw [← c2]; exact c3)
        rw [if_neg k1, if_neg k2]
        by_cases c4 : f_M_houseOf M p ≤ f_M_houseOf M q
        · rw [if_pos c4]
          have := Int32.le_iff_toInt_le.mp c4
          exact ⟨fun _ => by omega, fun _ => rfl⟩
        · rw [if_neg c4]
          have := mt Int32.le_iff_toInt_le.mpr c4
          exact ⟨fun w => absurd w (by decide), fun w => by omega⟩
      · rw [if_neg c3]
        have k1 : (f_M_houseOf M p).toInt % 2 = 1 := by
          by_cases w : (f_M_houseOf M p).toInt % 2 = 1
          · exact w
          · exact absurd (o1.mpr w) c3
        have k2 : (f_M_houseOf M q).toInt % 2 = 1 := o4.mp (by rw [← c2]; exact o2.mpr k1)
        rw [if_pos k1, if_pos k2]
        by_cases c4 : f_M_houseOf M q ≤ f_M_houseOf M p
        · rw [if_pos c4]
          have := Int32.le_iff_toInt_le.mp c4
          exact ⟨fun _ => by omega, fun _ => rfl⟩
        · rw [if_neg c4]
          have := mt Int32.le_iff_toInt_le.mpr c4
          exact ⟨fun w => absurd w (by decide), fun w => by omega⟩
    · rw [if_neg c2]
      by_cases k1 : (f_M_houseOf M p).toInt % 2 = 1
      · have k2 : ¬ (f_M_houseOf M q).toInt % 2 = 1 := fun w => c2 (by rw [o2.mpr k1, o4.mpr w])
        rw [if_pos k1, if_neg k2, o2.mpr k1]
        exact ⟨fun w => absurd w (by decide), fun w => by omega⟩
      · have k2 : (f_M_houseOf M q).toInt % 2 = 1 := by
          by_cases w : (f_M_houseOf M q).toInt % 2 = 1
          · exact w
          · exact absurd (by rw [o1.mpr k1, o3.mpr w]) c2
        rw [if_neg k1, if_pos k2, o1.mpr k1]
        exact ⟨fun _ => by omega, fun _ => rfl⟩
theorem liveA {S : BS} {p a : Int32} : f_A_isLiveOf S p a = 0 ↔ (S 15 p.toNatClampNeg = 0 ∨ ¬ S 6 (S 11 p.toNatClampNeg).toNatClampNeg = a) := by
  unfold f_A_isLiveOf
  by_cases c : S 15 p.toNatClampNeg = 0
  · rw [if_pos c]; exact ⟨fun _ => Or.inl c, fun _ => rfl⟩
  · rw [if_neg c]
    by_cases d : S 6 (S 11 p.toNatClampNeg).toNatClampNeg = a
    · rw [if_pos d]; exact ⟨fun q => absurd q (by decide), fun q => absurd d (q.resolve_left c)⟩
    · rw [if_neg d]; exact ⟨fun _ => Or.inr d, fun _ => rfl⟩
theorem op_order {n : Nat} {S M : BS} (h : RI n S M) (a1 : Int32) : f_A_order S a1 = f_M_order M a1 ∧ (IV S → IVM M → RI (n + 1) S M) := by
  refine ⟨?_, fun _ _ => h.up⟩
  have he := fun {p : Int32} => house_eq h (p := p)
  obtain ⟨⟨hI, hIM⟩, ⟨⟨e22, e23, e24, e25, e27⟩, e0, e12, e5, e6, e7, e10, e11, e13, e15⟩, hS, hR, hP, -⟩ := h
  have b := ivM_23 hIM
  unfold f_A_order f_M_order
  rw [hasQ hIM e25, e15]
  by_cases c1 : f_M_isPoint M a1 = 0
  · rw [if_pos c1, if_pos c1]
  rw [if_neg c1, if_neg c1]
  have t1 := fb_M_isPoint hIM c1
  by_cases c2 : M 12 a1.toNatClampNeg = 0
  · rw [if_pos c2, if_pos c2]
  rw [if_neg c2, if_neg c2]
  have hx : ∀ j, 0 ≤ (M 11 j).toInt ∧ (M 11 j).toInt ≤ 25 := fun j => by rw [← e13]; exact hP.1 j
  have key : ∀ (n : Nat) (x z : Int32), 0 ≤ z.toInt → l_A_order_52 S a1 n x z = l_M_order_27 M a1 n x z := by
    intro n
    induction n with
    | zero => intro x z _; rfl
    | succ n ih =>
      intro x z h0
      rw [l_A_order_52, l_M_order_27, e25, i32_p0]
      by_cases c : M 23 0 ≤ z
      · rw [if_pos c, if_pos c]
      · have t := mt Int32.le_iff_toInt_le.mpr c
        have k := i32_inc (x := z) h0 (by omega)
        have r1 := fun x => ih x (z + 1) (by omega)
        rw [if_neg c, if_neg c, r1, r1]
        have lv := liveA (S := S) (p := z) (a := S 6 (S 11 a1.toNatClampNeg).toNatClampNeg)
        rw [e15, e6, e11] at lv
        rw [e6, e11]
        by_cases d1 : M 12 z.toNatClampNeg = 0
        · rw [if_pos d1, if_pos (lv.mpr (Or.inl d1))]
        · rw [if_neg d1]
          by_cases d2 : M 5 (M 10 z.toNatClampNeg).toNatClampNeg = M 5 (M 10 a1.toNatClampNeg).toNatClampNeg
          · rw [if_pos d2, if_neg (fun q => (lv.mp q).elim d1 (fun w => w d2))]
            have ei := early_iff (S := S) hIM e13 hx (he h0 (by omega)) (he t1.1 t1.2.1)
            by_cases d3 : f_M_onRound M a1 ≤ f_M_onRound M z
            · rw [if_pos d3, if_pos (ei.mpr d3)]
            · rw [if_neg d3, if_neg (fun q => d3 (ei.mp q))]
          · rw [if_neg d2, if_pos (lv.mpr (Or.inr d2))]
  exact key 600 0 0 (by decide)
