/-- the streets of ranges after a street has gone into another one -/
def t6N (S : BS) (a b : Int32) (j : Nat) : Int32 := if S 10 j = 1 ∧ S 6 j = a then b else S 6 j
theorem move_eq {S : BS} (hI : IV S) {a b : Int32} (hz : ∀ j : Nat, (S 24 0).toInt ≤ (j : Int) → S 10 j = 0) : (∀ k, k ≠ 6 → F_R_moveLive S a b k = S k) ∧ F_R_moveLive S a b 6 = t6N S a b := by
  have bb := iv_24 hI
  have key : ∀ (n : Nat) (Z : BS) (x : Int32), 0 ≤ x.toInt → x.toInt ≤ (S 24 0).toInt → (S 24 0).toInt - x.toInt < (n : Int) → 1 ≤ n → (∀ k, k ≠ 6 → Z k = S k) → (∀ j : Nat, Z 6 j = if (j : Int) < x.toInt then t6N S a b j else S 6 j) → (∀ k, k ≠ 6 → l_R_moveLive_2 a b n Z x k = S k) ∧ l_R_moveLive_2 a b n Z x 6 = t6N S a b := by
    intro n
    induction n with
    | zero => intro Z x _ _ _ h; exact absurd h (by omega)
    | succ n ih =>
      intro Z x h0 h3 h1 h2 fA f6
      rw [l_R_moveLive_2, fA 24 (by decide)]
      have ex := cl_int h0
      by_cases c : S 24 0 ≤ x
      · rw [if_pos c]
        have t := Int32.le_iff_toInt_le.mp c
        refine ⟨fA, funext (fun j => ?_)⟩
        rw [f6 j]
        by_cases cj : (j : Int) < x.toInt
        · rw [if_pos cj]
        · rw [if_neg cj]
          unfold t6N
          rw [if_neg (fun w => by rw [hz j (by omega)] at w; exact absurd w.1 (by decide))]
      have t := mt Int32.le_iff_toInt_le.mpr c
      have k := i32_inc (x := x) h0 (by omega)
      rw [if_neg c]
      have z6 : Z 6 x.toNatClampNeg = S 6 x.toNatClampNeg := by rw [f6, if_neg (by omega)]
      have lv : f_R_isLiveOf Z x a = 0 ↔ ¬ (S 10 x.toNatClampNeg = 1 ∧ S 6 x.toNatClampNeg = a) := by
        have e : f_R_isLiveOf Z x a = f_R_isLiveOf S x a := by
          unfold f_R_isLiveOf
          rw [fA 10 (by decide), z6]
        rw [e]; exact liveR hI
      by_cases c1 : f_R_isLiveOf Z x a = 0
      · rw [if_pos c1]
        refine ih Z (x + 1) (by omega) (by omega) (by omega) (by omega) fA (fun j => ?_)
        by_cases cj : j = x.toNatClampNeg
        · rw [cj, z6, if_pos (by omega)]
          unfold t6N
          rw [if_neg (lv.mp c1)]
        · rw [f6 j]
          by_cases cl : (j : Int) < x.toInt
          · rw [if_pos cl, if_pos (by omega)]
          · rw [if_neg cl, if_neg (by omega)]
      · rw [if_neg c1]
        have l := Classical.byContradiction (fun q => c1 (lv.mpr q))
        refine ih _ (x + 1) (by omega) (by omega) (by omega) (by omega) (fun k hk => by rw [upS_ne hk]; exact fA k hk) (fun j => ?_)
        show upd (Z 6) x.toNatClampNeg b j = _
        by_cases cj : j = x.toNatClampNeg
        · rw [cj, upd_at, if_pos (by omega)]
          unfold t6N
          rw [if_pos l]
        · rw [upd_ne cj, f6 j]
          by_cases cl : (j : Int) < x.toInt
          · rw [if_pos cl, if_pos (by omega)]
          · rw [if_neg cl, if_neg (by omega)]
  exact key 600 S 0 (by decide) (by rw [z0]; omega) (by rw [z0]; omega) (by omega) (fun _ _ => rfl) (fun j => by rw [if_neg (by rw [z0]; omega)])
/-- a live point of a street -/
def q_jB (S : BS) (a : Int32) (j : Nat) : Bool := decide (S 15 j = 1) && decide (S 6 (S 11 j).toNatClampNeg = a)
theorem jB_iff {S : BS} {a : Int32} {j : Nat} : q_jB S a j = true ↔ (S 15 j = 1 ∧ S 6 (S 11 j).toNatClampNeg = a) := by
  unfold q_jB
  simp only [Bool.and_eq_true, decide_eq_true_eq]
theorem many_eq {S : BS} (hI : IV S) {a : Int32} : (f_A_howManyLiveOf S a).toInt = ((ct (q_jB S a) (S 25 0).toNatClampNeg : Nat) : Int) := by
  have bb := iv_25 hI
  have key : ∀ (n : Nat) (x2 x3 : Int32), 0 ≤ x3.toInt → x3.toInt ≤ (S 25 0).toInt → (S 25 0).toInt - x3.toInt < (n : Int) → 1 ≤ n → x2.toInt = ((ct (q_jB S a) x3.toNatClampNeg : Nat) : Int) → (l_A_howManyLiveOf_4 S a n x2 x3).toInt = ((ct (q_jB S a) (S 25 0).toNatClampNeg : Nat) : Int) := by
    intro n
    induction n with
    | zero => intro x2 x3 _ _ _ h; exact absurd h (by omega)
    | succ n ih =>
      intro x2 x3 h0 h3 h1 h2 hx
      rw [l_A_howManyLiveOf_4]
      have ex := cl_int h0
      by_cases c : S 25 0 ≤ x3
      · rw [if_pos c]
        have t := Int32.le_iff_toInt_le.mp c
        have e : x3 = S 25 0 := Int32.toInt_inj.mp (by omega)
        rw [← e]; exact hx
      have t := mt Int32.le_iff_toInt_le.mpr c
      have k := i32_inc (x := x3) h0 (by omega)
      have kc := cl_inc (x := x3) h0 (by omega)
      rw [if_neg c]
      have hl := liveA (S := S) (p := x3) (a := a)
      have cb := ct_le (q_jB S a) x3.toNatClampNeg
      by_cases c1 : f_A_isLiveOf S x3 a = 0
      · rw [if_pos c1]
        refine ih x2 (x3 + 1) (by omega) (by omega) (by omega) (by omega) ?_
        rw [kc, ct]
        have e : q_jB S a x3.toNatClampNeg = false := by
          cases q : q_jB S a x3.toNatClampNeg with
          | false => rfl
          | true =>
            have q := jB_iff.mp q
            rcases hl.mp c1 with w | w
            · rw [w] at q; exact absurd q.1 (by decide)
            · exact absurd q.2 w
        rw [e]; exact hx
      · rw [if_neg c1]
        have kx := i32_inc (x := x2) (by omega) (by omega)
        refine ih (x2 + 1) (x3 + 1) (by omega) (by omega) (by omega) (by omega) ?_
        rw [kc, ct, kx]
        have e : q_jB S a x3.toNatClampNeg = true := jB_iff.mpr ⟨(i32_01 (iv_15 hI x3.toNatClampNeg)).resolve_left (fun q => c1 (hl.mpr (Or.inl q))), Classical.byContradiction (fun q => c1 (hl.mpr (Or.inr q)))⟩
        rw [e]
        show x2.toInt + 1 = ((ct (q_jB S a) x3.toNatClampNeg + 1 : Nat) : Int)
        omega
  exact key 600 0 0 (by decide) (by rw [z0]; omega) (by rw [z0]; omega) (by omega) (by rw [z0, zc0]; rfl)
/-- the points that have moved -/
def q_dB (S : BS) (a : Int32) (x4 x5 j : Nat) : Bool := q_jB S a j && (decide ((S 11 j).toNatClampNeg < x4) || (decide ((S 11 j).toNatClampNeg = x4) && decide (j < x5)))
theorem dB_iff {S : BS} {a : Int32} {x4 x5 j : Nat} : q_dB S a x4 x5 j = true ↔ ((S 15 j = 1 ∧ S 6 (S 11 j).toNatClampNeg = a) ∧ ((S 11 j).toNatClampNeg < x4 ∨ ((S 11 j).toNatClampNeg = x4 ∧ j < x5))) := by
  unfold q_dB
  rw [Bool.and_eq_true, jB_iff]
  simp only [Bool.and_eq_true, Bool.or_eq_true, decide_eq_true_eq]
def q_JI (S M : BS) (a b d : Int32) (Z : BS) (c : Int32) (x4 x5 y : Nat) : Prop :=
  (∀ k, k ≠ 3 → k ≠ 4 → k ≠ 5 → (k < 13 ∨ 19 < k) → k ≠ 24 → Z k = M k) ∧ (Z 3 = upd (M 3) a.toNatClampNeg b ∧ Z 4 = upd (M 4) a.toNatClampNeg d ∧ Z 19 0 = d) ∧ (∀ j : Nat, Z 5 j = if j < y then t6N S a b j else S 6 j) ∧
  ((Z 24 0).toInt = (M 24 0).toInt + ((ct (q_dB S a x4 x5) 120 : Nat) : Int) ∧ c.toInt = ((ct (q_dB S a x4 x5) 120 : Nat) : Int)) ∧
  q_JK (S 6) (S 11) (S 12) (S 13) (S 14) (S 15) (S 16) (S 17) (S 18) (S 19) (S 20) (Z 3) (Z 4) (Z 13) (Z 14) (Z 15) (Z 16) (Z 17) (Z 18) (M 21 0) (M 23 0) (S 26 0) (Z 24 0) d b (fun j => q_dB S a x4 x5 j = true) ∧ (∀ j, Z 18 j = 0 ∨ Z 18 j = 1)
theorem q_JI.same {S M : BS} {a b d : Int32} {Z : BS} {c : Int32} {x4 x5 y u4 u5 : Nat} (h : q_JI S M a b d Z c x4 x5 y) (e : ∀ j, q_dB S a u4 u5 j = q_dB S a x4 x5 j) : q_JI S M a b d Z c u4 u5 y := by
  have e : q_dB S a u4 u5 = q_dB S a x4 x5 := funext e
  unfold q_JI
  rw [e]
  exact h
theorem join_in {S M : BS} (hI : IV S) (hIM : IVM M) (e11 : S 11 = M 10) (e15 : S 15 = M 12) {a b d x4 : Int32} (hk24 : (M 24 0).toInt ≤ 4880) (hd0 : 0 ≤ d.toInt) (hd1 : d.toInt ≤ 1000000) (hb1 : b.toInt < (M 21 0).toInt) (h40 : 0 ≤ x4.toInt) (h4 : S 6 x4.toNatClampNeg = a) (hz : ∀ j : Nat, (M 23 0).toInt ≤ (j : Int) → S 15 j = 0)
    (hmt : ∀ p : Int32, 0 ≤ p.toInt → p.toInt < (M 23 0).toInt → S 15 p.toNatClampNeg = 1 → S 6 (S 11 p.toNatClampNeg).toNatClampNeg = a → ∀ e : Int32, d.toInt ≤ e.toInt → MT (upd (M 3) a.toNatClampNeg b) (upd (M 4) a.toNatClampNeg d) e b = MT (upd (M 3) a.toNatClampNeg b) (upd (M 4) a.toNatClampNeg d) e (S 12 p.toNatClampNeg))
    (hbk : ∀ p : Int32, 0 ≤ p.toInt → p.toInt < (M 23 0).toInt → S 15 p.toNatClampNeg = 1 → (((S 14 p.toNatClampNeg).toNatClampNeg : Nat) : Int) < (S 26 0).toInt ∧ S 16 (S 14 p.toNatClampNeg).toNatClampNeg = p ∧ (S 18 (S 14 p.toNatClampNeg).toNatClampNeg).toInt ≤ d.toInt ∧ S 19 (S 14 p.toNatClampNeg).toNatClampNeg = 1000001) (k : BS → Int32 → Int32 → Int32 × BS) :
    ∀ (n : Nat) (Z : BS) (c x5 : Int32), 0 ≤ x5.toInt → x5.toInt ≤ (M 23 0).toInt → (M 23 0).toInt - x5.toInt < (n : Int) → 1 ≤ n → q_JI S M a b d Z c x4.toNatClampNeg x5.toNatClampNeg (x4.toNatClampNeg + 1) →
    ∃ (Z2 : BS) (c2 z : Int32), l_M_join_63 a b x4 k n Z c x5 = k Z2 c2 z ∧ q_JI S M a b d Z2 c2 x4.toNatClampNeg (M 23 0).toNatClampNeg (x4.toNatClampNeg + 1) := by
  have b23 := ivM_23 hIM
  intro n
  induction n with
  | zero => intro Z c x5 _ _ _ h; exact absurd h (by omega)
  | succ n ih =>
    intro Z c x5 h0 h3 h1 h2 hJ
    have hJ0 := hJ
    obtain ⟨fM, ⟨f3, f4, f19⟩, f5, ⟨f24, fc⟩, hK, f18⟩ := hJ
    have y23 : Z 23 = M 23 := fM 23 (by decide) (by decide) (by decide) (Or.inr (by decide)) (by decide)
    have y12 : Z 12 = S 15 := by rw [fM 12 (by decide) (by decide) (by decide) (Or.inl (by decide)) (by decide)]; exact e15.symm
    have y10 : Z 10 = S 11 := by rw [fM 10 (by decide) (by decide) (by decide) (Or.inl (by decide)) (by decide)]; exact e11.symm
    rw [l_M_join_63, y23, y12, y10]
    have ex := cl_int h0
    by_cases c0 : M 23 0 ≤ x5
    · rw [if_pos c0]
      have t := Int32.le_iff_toInt_le.mp c0
      have e : x5 = M 23 0 := Int32.toInt_inj.mp (by omega)
      rw [e] at hJ0
      exact ⟨Z, c, x5, rfl, hJ0⟩
    have t := mt Int32.le_iff_toInt_le.mpr c0
    have kk := i32_inc (x := x5) h0 (by omega)
    have kc := cl_inc (x := x5) h0 (by omega)
    rw [if_neg c0]
    have skip : ¬ (S 15 x5.toNatClampNeg = 1 ∧ S 11 x5.toNatClampNeg = x4) → ∃ (Z2 : BS) (c2 z : Int32), l_M_join_63 a b x4 k n Z c (x5 + 1) = k Z2 c2 z ∧ q_JI S M a b d Z2 c2 x4.toNatClampNeg (M 23 0).toNatClampNeg (x4.toNatClampNeg + 1) := by
      intro w
      refine ih Z c (x5 + 1) (by omega) (by omega) (by omega) (by omega) (hJ0.same (fun j => bool_ext ?_))
      rw [dB_iff, dB_iff, kc]
      constructor
      · rintro ⟨q1, q2⟩
        refine ⟨q1, ?_⟩
        rcases q2 with q2 | ⟨q2, q3⟩
        · exact Or.inl q2
        · refine Or.inr ⟨q2, ?_⟩
          by_cases cj : j = x5.toNatClampNeg
          · rw [cj] at q1 q2
            exact absurd ⟨q1.1, cl_inj (iv_11 hI _).1 h40 q2⟩ w
          · omega
      · rintro ⟨q1, q2⟩
        refine ⟨q1, ?_⟩
        rcases q2 with q2 | ⟨q2, q3⟩
        · exact Or.inl q2
        · exact Or.inr ⟨q2, by omega⟩
    by_cases c1 : S 15 x5.toNatClampNeg = 0
    · rw [if_pos c1]; exact skip (fun w => by rw [c1] at w; exact absurd w.1 (by decide))
    rw [if_neg c1]
    by_cases c2 : S 11 x5.toNatClampNeg = x4
    rotate_left
    · rw [if_neg c2]; exact skip (fun w => c2 w.2)
    rw [if_pos c2]
    have hl := (i32_01 (iv_15 hI x5.toNatClampNeg)).resolve_left c1
    have h6 : S 6 (S 11 x5.toNatClampNeg).toNatClampNeg = a := by rw [c2]; exact h4
    obtain ⟨κ, k1, k2, k3, -⟩ := hK.1 x5 h0 (by omega)
    obtain ⟨w1, -, -⟩ := k3 hl
    have cb := ct_le (q_dB S a x4.toNatClampNeg x5.toNatClampNeg) 120
    have b24 : (Z 24 0).toInt ≤ 5000 := by omega
    have n24 : 0 ≤ (Z 24 0).toInt := by have := (ivM_24 hIM).1; omega
    have m18 : Z 18 κ = 0 := (f18 κ).resolve_right (fun q => by
      have := ((hK.2.1 κ k1.1).2.2.2.2.2.2 q).2
      rw [w1, show ((1000000000) : Int32).toInt = 1000000000 by decide] at this
      omega)
    have eh : f_M_houseOf Z x5 = Z 15 κ := by
      unfold f_M_houseOf
      rw [stc b24 k1]
    rw [endStay_eq b24 k1, eh, f19]
    have nob : q_dB S a x4.toNatClampNeg x5.toNatClampNeg x5.toNatClampNeg = false := by
      cases q : q_dB S a x4.toNatClampNeg x5.toNatClampNeg x5.toNatClampNeg with
      | false => rfl
      | true =>
        have q := (dB_iff.mp q).2
        rw [c2] at q
        omega
    have new : ∀ j, q_dB S a x4.toNatClampNeg (x5 + 1).toNatClampNeg j = true ↔ (q_dB S a x4.toNatClampNeg x5.toNatClampNeg j = true ∨ j = x5.toNatClampNeg) := by
      intro j
      rw [dB_iff, dB_iff, kc]
      constructor
      · rintro ⟨q1, q2⟩
        by_cases cj : j = x5.toNatClampNeg
        · exact Or.inr cj
        · refine Or.inl ⟨q1, ?_⟩
          rcases q2 with q2 | ⟨q2, q3⟩
          · exact Or.inl q2
          · exact Or.inr ⟨q2, by omega⟩
      · rintro (⟨q1, q2⟩ | q)
        · refine ⟨q1, ?_⟩
          rcases q2 with q2 | ⟨q2, q3⟩
          · exact Or.inl q2
          · exact Or.inr ⟨q2, by omega⟩
        · rw [q]
          exact ⟨⟨hl, h6⟩, Or.inr ⟨by rw [c2], by omega⟩⟩
    have one := ct_one (p := q_dB S a x4.toNatClampNeg x5.toNatClampNeg) (q := q_dB S a x4.toNatClampNeg (x5 + 1).toNatClampNeg) (z := x5.toNatClampNeg) nob ((new _).mpr (Or.inr rfl)) (fun y hy => bool_ext (by
      rw [new]
      exact ⟨fun q => q.resolve_right hy, fun q => Or.inl q⟩)) 120 (by omega)
    have k24 := i32_inc (x := Z 24 0) n24 (by omega)
    have kcc := i32_inc (x := c) (by omega) (by omega)
    obtain ⟨g1, g2, g3, g4⟩ := hbk x5 h0 (by omega) hl
    have MV := jk_move (p := x5) (κ := κ) (nk2 := Z 24 0 + 1) (D2 := fun j => q_dB S a x4.toNatClampNeg (x5 + 1).toNatClampNeg j = true) hK n24 k24 h0 (by omega) hl k1 w1 m18 k2 hd1 hd0 new hb1 (fun e he => by rw [f3, f4]; exact hmt x5 h0 (by omega) hl h6 e he) g1 g2 g3 g4
    have es : F_M_stay (upS 18 κ 0 (upS 17 κ d Z)) x5 b (Z 15 κ) = upS 24 0 (Z 24 0 + 1) (upS 18 (Z 24 0).toNatClampNeg 0 (upS 17 (Z 24 0).toNatClampNeg 1000000000 (upS 16 (Z 24 0).toNatClampNeg d (upS 15 (Z 24 0).toNatClampNeg (Z 15 κ) (upS 14 (Z 24 0).toNatClampNeg b (upS 13 (Z 24 0).toNatClampNeg x5 (upS 18 κ 0 (upS 17 κ d Z)))))))) := by
      show upS 24 0 (Z 24 0 + 1) (upS 18 (Z 24 0).toNatClampNeg 0 (upS 17 (Z 24 0).toNatClampNeg 1000000000 (upS 16 (Z 24 0).toNatClampNeg (Z 19 0) (upS 15 (Z 24 0).toNatClampNeg (Z 15 κ) (upS 14 (Z 24 0).toNatClampNeg b (upS 13 (Z 24 0).toNatClampNeg x5 (upS 18 κ 0 (upS 17 κ d Z)))))))) = _
      rw [f19]
    rw [es]
    refine ih (upS 24 0 (Z 24 0 + 1) (upS 18 (Z 24 0).toNatClampNeg 0 (upS 17 (Z 24 0).toNatClampNeg 1000000000 (upS 16 (Z 24 0).toNatClampNeg d (upS 15 (Z 24 0).toNatClampNeg (Z 15 κ) (upS 14 (Z 24 0).toNatClampNeg b (upS 13 (Z 24 0).toNatClampNeg x5 (upS 18 κ 0 (upS 17 κ d Z))))))))) (c + 1) (x5 + 1) (by omega) (by omega) (by omega) (by omega) ⟨fun q a1 a2 a3 a4 a5 => ?_, ⟨f3, f4, f19⟩, f5, ⟨?_, ?_⟩, MV, fun j => ?_⟩
    · rw [upS_ne a5, upS_ne (by omega), upS_ne (by omega), upS_ne (by omega), upS_ne (by omega), upS_ne (by omega), upS_ne (by omega), upS_ne (by omega), upS_ne (by omega)]
      exact fM q a1 a2 a3 a4 a5
    · show (Z 24 0 + 1).toInt = _
      rw [k24, one, f24]
      omega
    · rw [kcc, one, fc]
      omega
    · show upd (upd (Z 18) κ 0) (Z 24 0).toNatClampNeg 0 j = 0 ∨ upd (upd (Z 18) κ 0) (Z 24 0).toNatClampNeg 0 j = 1
      by_cases cj : j = (Z 24 0).toNatClampNeg
      · rw [cj, upd_at]; exact Or.inl rfl
      · rw [upd_ne cj]
        by_cases ck : j = κ
        · rw [ck, upd_at]; exact Or.inl rfl
        · rw [upd_ne ck]; exact f18 j
theorem join_out {S M : BS} (hI : IV S) (hIM : IVM M) (e6 : S 6 = M 5) (e10 : S 10 = M 9) (e11 : S 11 = M 10) (e15 : S 15 = M 12) {a b d : Int32} (hP : GP (S 10) (S 11) (S 13) (S 15) (M 23 0) (M 22 0)) (hk24 : (M 24 0).toInt ≤ 4880) (hd0 : 0 ≤ d.toInt) (hd1 : d.toInt ≤ 1000000) (hb1 : b.toInt < (M 21 0).toInt)
    (hmt : ∀ p : Int32, 0 ≤ p.toInt → p.toInt < (M 23 0).toInt → S 15 p.toNatClampNeg = 1 → S 6 (S 11 p.toNatClampNeg).toNatClampNeg = a → ∀ e : Int32, d.toInt ≤ e.toInt → MT (upd (M 3) a.toNatClampNeg b) (upd (M 4) a.toNatClampNeg d) e b = MT (upd (M 3) a.toNatClampNeg b) (upd (M 4) a.toNatClampNeg d) e (S 12 p.toNatClampNeg))
    (hbk : ∀ p : Int32, 0 ≤ p.toInt → p.toInt < (M 23 0).toInt → S 15 p.toNatClampNeg = 1 → (((S 14 p.toNatClampNeg).toNatClampNeg : Nat) : Int) < (S 26 0).toInt ∧ S 16 (S 14 p.toNatClampNeg).toNatClampNeg = p ∧ (S 18 (S 14 p.toNatClampNeg).toNatClampNeg).toInt ≤ d.toInt ∧ S 19 (S 14 p.toNatClampNeg).toNatClampNeg = 1000001) :
    ∀ (n : Nat) (Z : BS) (c x4 : Int32), 0 ≤ x4.toInt → x4.toInt ≤ (M 22 0).toInt → (M 22 0).toInt - x4.toInt < (n : Int) → 1 ≤ n → q_JI S M a b d Z c x4.toNatClampNeg 0 x4.toNatClampNeg →
    ∃ (Z2 : BS) (c2 : Int32), l_M_join_22 a b n Z c x4 = (c2, Z2) ∧ q_JI S M a b d Z2 c2 (M 22 0).toNatClampNeg 0 (M 22 0).toNatClampNeg := by
  have b22 := ivM_22 hIM
  have b23 := ivM_23 hIM
  have c23 := cl_int b23.1
  intro n
  induction n with
  | zero => intro Z c x4 _ _ _ h; exact absurd h (by omega)
  | succ n ih =>
    intro Z c x4 h0 h3 h1 h2 hJ
    have hJ0 := hJ
    obtain ⟨fM, ⟨f3, f4, f19⟩, f5, ⟨f24, fc⟩, hK, f18⟩ := hJ
    have y22 : Z 22 = M 22 := fM 22 (by decide) (by decide) (by decide) (Or.inr (by decide)) (by decide)
    have y9 : Z 9 = S 10 := by rw [fM 9 (by decide) (by decide) (by decide) (Or.inl (by decide)) (by decide)]; exact e10.symm
    have z5 : Z 5 x4.toNatClampNeg = S 6 x4.toNatClampNeg := by rw [f5, if_neg (by omega)]
    rw [l_M_join_22, y22, y9, z5]
    have ex := cl_int h0
    by_cases c0 : M 22 0 ≤ x4
    · rw [if_pos c0]
      have t := Int32.le_iff_toInt_le.mp c0
      have e : x4 = M 22 0 := Int32.toInt_inj.mp (by omega)
      rw [e] at hJ0
      exact ⟨Z, c, rfl, hJ0⟩
    have t := mt Int32.le_iff_toInt_le.mpr c0
    have kk := i32_inc (x := x4) h0 (by omega)
    have kc := cl_inc (x := x4) h0 (by omega)
    rw [if_neg c0]
    have up5 : ∀ (Z2 : BS), (∀ j : Nat, j ≠ x4.toNatClampNeg → Z2 5 j = Z 5 j) → Z2 5 x4.toNatClampNeg = t6N S a b x4.toNatClampNeg → ∀ j : Nat, Z2 5 j = if j < x4.toNatClampNeg + 1 then t6N S a b j else S 6 j := by
      intro Z2 w1 w2 j
      by_cases cj : j = x4.toNatClampNeg
      · rw [cj, w2, if_pos (by omega)]
      · rw [w1 j cj, f5 j]
        by_cases cl : j < x4.toNatClampNeg
        · rw [if_pos cl, if_pos (by omega)]
        · rw [if_neg cl, if_neg (by omega)]
    have skip : ¬ (S 10 x4.toNatClampNeg = 1 ∧ S 6 x4.toNatClampNeg = a) → ∃ (Z2 : BS) (c2 : Int32), l_M_join_22 a b n Z c (x4 + 1) = (c2, Z2) ∧ q_JI S M a b d Z2 c2 (M 22 0).toNatClampNeg 0 (M 22 0).toNatClampNeg := by
      intro w
      have e : ∀ j, q_dB S a (x4 + 1).toNatClampNeg 0 j = q_dB S a x4.toNatClampNeg 0 j := fun j => bool_ext (by
        rw [dB_iff, dB_iff, kc]
        constructor
        · rintro ⟨q1, q2⟩
          refine ⟨q1, Or.inl ?_⟩
          by_cases cx : (S 11 j).toNatClampNeg = x4.toNatClampNeg
          · exfalso
            rw [cx] at q1
            have hj : (j : Int) < (M 23 0).toInt := Classical.byContradiction (fun v => by
              have := hP.2.1 j (by omega)
              rw [this] at q1
              exact absurd q1.1 (by decide))
            have := hP.2.2.2 j hj q1.1
            rw [cx] at this
            exact w ⟨this, q1.2⟩
          · omega
        · rintro ⟨q1, q2⟩
          exact ⟨q1, Or.inl (by omega)⟩)
      refine ih Z c (x4 + 1) (by omega) (by omega) (by omega) (by omega) ?_
      have J2 := hJ0.same e
      refine ⟨J2.1, J2.2.1, ?_, J2.2.2.2⟩
      rw [kc]
      refine up5 Z (fun _ _ => rfl) ?_
      rw [z5]
      unfold t6N
      rw [if_neg w]
    by_cases c1 : S 10 x4.toNatClampNeg = 0
    · rw [if_pos c1]; exact skip (fun w => by rw [c1] at w; exact absurd w.1 (by decide))
    rw [if_neg c1]
    by_cases c2 : S 6 x4.toNatClampNeg = a
    rotate_left
    · rw [if_neg c2]; exact skip (fun w => c2 w.2)
    rw [if_pos c2]
    have hl := (i32_01 (iv_10 hI x4.toNatClampNeg)).resolve_left c1
    obtain ⟨Z2, c2', z, e, J2⟩ := join_in hI hIM e11 e15 (x4 := x4) hk24 hd0 hd1 hb1 h0 c2 hP.2.1 hmt hbk (fun Z x3 x5 => (l_M_join_22 a b n Z x3 (x4 + 1))) 600 (upS 5 x4.toNatClampNeg b Z) c 0 (by decide) (by rw [z0]; omega) (by rw [z0]; omega) (by omega) (by
      rw [zc0]
      refine ⟨fun q a1 a2 a3 a4 a5 => by rw [upS_ne a3]; exact fM q a1 a2 a3 a4 a5, ⟨f3, f4, f19⟩, ?_, ⟨f24, fc⟩, hK, f18⟩
      refine up5 _ (fun j hj => ?_) ?_
      · show upd (Z 5) x4.toNatClampNeg b j = Z 5 j
        rw [upd_ne hj]
      · show upd (Z 5) x4.toNatClampNeg b x4.toNatClampNeg = _
        rw [upd_at]
        unfold t6N
        rw [if_pos ⟨hl, c2⟩])
    rw [e]
    show ∃ (Z3 : BS) (c3 : Int32), l_M_join_22 a b n Z2 c2' (x4 + 1) = (c3, Z3) ∧ _
    refine ih Z2 c2' (x4 + 1) (by omega) (by omega) (by omega) (by omega) ?_
    rw [kc]
    refine J2.same (fun j => bool_ext ?_)
    rw [dB_iff, dB_iff]
    constructor
    · rintro ⟨q1, q2⟩
      refine ⟨q1, ?_⟩
      by_cases cx : (S 11 j).toNatClampNeg = x4.toNatClampNeg
      · have hj : (j : Int) < (M 23 0).toInt := Classical.byContradiction (fun v => by
          have := hP.2.1 j (by omega)
          rw [this] at q1
          exact absurd q1.1 (by decide))
        exact Or.inr ⟨cx, by omega⟩
      · exact Or.inl (by omega)
    · rintro ⟨q1, q2⟩
      exact ⟨q1, Or.inl (by omega)⟩
