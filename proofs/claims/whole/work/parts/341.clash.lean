/-- the least live range of a street over some houses: whether there is any -/
theorem lo_iff {S : BS} (hI : IV S) {a s lo hi : Int32} : f_R_leastOver S a s lo hi = -1 ↔ ∀ r : Int32, 0 ≤ r.toInt → r.toInt < (S 24 0).toInt → S 10 r.toNatClampNeg = 1 → S 6 r.toNatClampNeg = a → f_R_isOver S r s lo hi = 0 := by
  have b := iv_24 hI
  have key : ∀ (n : Nat) (x : Int32), 0 ≤ x.toInt → (S 24 0).toInt - x.toInt < (n : Int) → 1 ≤ n → (l_R_leastOver_3 S a s lo hi n x = -1 ↔ ∀ r : Int32, x.toInt ≤ r.toInt → r.toInt < (S 24 0).toInt → S 10 r.toNatClampNeg = 1 → S 6 r.toNatClampNeg = a → f_R_isOver S r s lo hi = 0) := by
    intro n
    induction n with
    | zero => intro x _ _ h; exact absurd h (by omega)
    | succ n ih =>
      intro x h0 h1 h2
      rw [l_R_leastOver_3]
      by_cases c : S 24 0 ≤ x
      · rw [if_pos c]
        have := Int32.le_iff_toInt_le.mp c
        exact ⟨fun _ r q1 q2 => by omega, fun _ => rfl⟩
      have t := mt Int32.le_iff_toInt_le.mpr c
      have k := i32_inc (x := x) h0 (by omega)
      rw [if_neg c]
      have r1 := ih (x + 1) (by omega) (by omega) (by omega)
      have step : (S 10 x.toNatClampNeg = 1 → S 6 x.toNatClampNeg = a → f_R_isOver S x s lo hi = 0) → (l_R_leastOver_3 S a s lo hi n (x + 1) = -1 ↔ ∀ r : Int32, x.toInt ≤ r.toInt → r.toInt < (S 24 0).toInt → S 10 r.toNatClampNeg = 1 → S 6 r.toNatClampNeg = a → f_R_isOver S r s lo hi = 0) := by
        intro w
        rw [r1]
        constructor
        · intro q r p1 p2
          rcases Int.lt_or_eq_of_le p1 with e | e
          · exact q r (by omega) p2
          · rw [← Int32.toInt_inj.mp e]; exact w
        · intro q r p1 p2
          exact q r (by omega) p2
      have lv := liveR (r := x) (a := a) hI
      by_cases c2 : f_R_isLiveOf S x a = 0
      · rw [if_pos c2]; exact step (fun q1 q2 => absurd ⟨q1, q2⟩ (lv.mp c2))
      · rw [if_neg c2]
        by_cases c3 : f_R_isOver S x s lo hi = 0
        · rw [if_pos c3]; exact step (fun _ _ => c3)
        · rw [if_neg c3]
          have l := Classical.byContradiction (fun q => c2 (lv.mpr q))
          constructor
          · intro q; rw [q] at h0; exact absurd h0 (by decide)
          · intro q; exact absurd (q x (Int.le_refl _) (by omega) l.1 l.2) c3
  have := key 600 0 (by decide) (by rw [z0]; omega) (by omega)
  rw [z0] at this
  exact this
/-- two live ranges, one of each street, share a house -/
def q_CO (M : BS) (a b x3 x4 : Int32) : Prop := ¬ M 9 x3.toNatClampNeg = 0 ∧ ¬ M 9 x4.toNatClampNeg = 0 ∧ M 5 x3.toNatClampNeg = b ∧ M 5 x4.toNatClampNeg = a ∧ ¬ f_M_isOver M x3 (M 6 x4.toNatClampNeg) (M 7 x4.toNatClampNeg) (M 8 x4.toNatClampNeg) = 0
theorem cl13 {M : BS} (hIM : IVM M) {a b x3 K : Int32} : ∀ (n : Nat) (x : Int32), 0 ≤ x.toInt → (M 22 0).toInt - x.toInt < (n : Int) → 1 ≤ n →
    ((∃ y : Int32, 0 ≤ y.toInt ∧ y.toInt < (M 22 0).toInt ∧ q_CO M a b x3 y) ∧ l_M_clash_13 M a b x3 (fun _ => K) n x = x3) ∨
    ((∀ y : Int32, x.toInt ≤ y.toInt → y.toInt < (M 22 0).toInt → ¬ q_CO M a b x3 y) ∧ l_M_clash_13 M a b x3 (fun _ => K) n x = K) := by
  have bb := ivM_22 hIM
  intro n
  induction n with
  | zero => intro x _ _ h; exact absurd h (by omega)
  | succ n ih =>
    intro x h0 h1 h2
    rw [l_M_clash_13]
    by_cases c : M 22 0 ≤ x
    · rw [if_pos c]
      have := Int32.le_iff_toInt_le.mp c
      exact Or.inr ⟨fun y q1 q2 => by omega, rfl⟩
    have t := mt Int32.le_iff_toInt_le.mpr c
    have k := i32_inc (x := x) h0 (by omega)
    rw [if_neg c]
    have skip : ¬ q_CO M a b x3 x → (((∃ y : Int32, 0 ≤ y.toInt ∧ y.toInt < (M 22 0).toInt ∧ q_CO M a b x3 y) ∧ l_M_clash_13 M a b x3 (fun _ => K) n (x + 1) = x3) ∨
        ((∀ y : Int32, x.toInt ≤ y.toInt → y.toInt < (M 22 0).toInt → ¬ q_CO M a b x3 y) ∧ l_M_clash_13 M a b x3 (fun _ => K) n (x + 1) = K)) := by
      intro w
      rcases ih (x + 1) (by omega) (by omega) (by omega) with q | ⟨q1, q2⟩
      · exact Or.inl q
      · refine Or.inr ⟨fun y p1 p2 p3 => ?_, q2⟩
        rcases Int.lt_or_eq_of_le p1 with e | e
        · exact q1 y (by omega) p2 p3
        · rw [← Int32.toInt_inj.mp e] at p3; exact w p3
    by_cases c1 : M 9 x3.toNatClampNeg = 0
    · rw [if_pos c1]; exact skip (fun q => q.1 c1)
    rw [if_neg c1]
    by_cases c2 : M 9 x.toNatClampNeg = 0
    · rw [if_pos c2]; exact skip (fun q => q.2.1 c2)
    rw [if_neg c2]
    by_cases c3 : M 5 x3.toNatClampNeg = b
    rotate_left
    · rw [if_neg c3]; exact skip (fun q => c3 q.2.2.1)
    rw [if_pos c3]
    by_cases c4 : M 5 x.toNatClampNeg = a
    rotate_left
    · rw [if_neg c4]; exact skip (fun q => c4 q.2.2.2.1)
    rw [if_pos c4]
    by_cases c5 : f_M_isOver M x3 (M 6 x.toNatClampNeg) (M 7 x.toNatClampNeg) (M 8 x.toNatClampNeg) = 0
    · rw [if_pos c5]; exact skip (fun q => q.2.2.2.2 c5)
    · rw [if_neg c5]; exact Or.inl ⟨⟨x, h0, by omega, c1, c2, c3, c4, c5⟩, rfl⟩
/-- a range of the one street against all of the other -/
theorem clash_at {n0 : Nat} {S M : BS} (h : RI n0 S M) {a x3 : Int32} (h0 : 0 ≤ x3.toInt) (h1 : x3.toInt < (M 22 0).toInt) : (∀ y : Int32, 0 ≤ y.toInt → y.toInt < (M 22 0).toInt → S 10 y.toNatClampNeg = 1 → S 6 y.toNatClampNeg = a → (f_R_isOver S y (S 7 x3.toNatClampNeg) (S 8 x3.toNatClampNeg) (S 9 x3.toNatClampNeg) = 0 ↔ f_M_isOver M x3 (M 6 y.toNatClampNeg) (M 7 y.toNatClampNeg) (M 8 y.toNatClampNeg) = 0)) ∧
    (∀ y : Int32, 0 ≤ y.toInt → y.toInt < (M 22 0).toInt → (¬ f_M_isOver M x3 (M 6 y.toNatClampNeg) (M 7 y.toNatClampNeg) (M 8 y.toNatClampNeg) = 0 ↔ ∃ x : Int, inR (S 7 y.toNatClampNeg).toInt (M 7 y.toNatClampNeg).toInt (M 8 y.toNatClampNeg).toInt x ∧ inR (S 7 x3.toNatClampNeg).toInt (M 7 x3.toNatClampNeg).toInt (M 8 x3.toNatClampNeg).toInt x)) := by
  obtain ⟨⟨hI, hIM⟩, ⟨⟨e22, e23, e24, e25, e27⟩, e0, e12, e5, e6, e7, e10, e11, e13, e15⟩, hS, hR, -⟩ := h
  have ex := cl_int h0
  have hsx := hR.1.2 x3.toNatClampNeg
  have r2x := hR.2.1 x3.toNatClampNeg (by omega)
  obtain ⟨g8, g9⟩ := hR.1.1 x3.toNatClampNeg
  have v7 := ivM_7 hIM x3.toNatClampNeg
  have v8 := ivM_8 hIM x3.toNatClampNeg
  have w8 := lowA (s := S 7 x3.toNatClampNeg) (x := M 7 x3.toNatClampNeg) hsx.1 (by omega) (by omega)
  have w9 := highA (s := S 7 x3.toNatClampNeg) (x := M 8 x3.toNatClampNeg) hsx.1 (by omega) (by omega)
  rw [← g8] at w8
  rw [← g9] at w9
  have n8 := iv_8 hI x3.toNatClampNeg
  have n9 : 0 ≤ (S 9 x3.toNatClampNeg).toInt ∧ (S 9 x3.toNatClampNeg).toInt ≤ 1000 := by
    rw [w9]; unfold hg; split <;> omega
  have M2 : ∀ y : Int32, 0 ≤ y.toInt → y.toInt < (M 22 0).toInt → (¬ f_M_isOver M x3 (M 6 y.toNatClampNeg) (M 7 y.toNatClampNeg) (M 8 y.toNatClampNeg) = 0 ↔ ∃ x : Int, inR (S 7 y.toNatClampNeg).toInt (M 7 y.toNatClampNeg).toInt (M 8 y.toNatClampNeg).toInt x ∧ inR (S 7 x3.toNatClampNeg).toInt (M 7 x3.toNatClampNeg).toInt (M 8 x3.toNatClampNeg).toInt x) := by
    intro y y0 y1
    have hsy := hR.1.2 y.toNatClampNeg
    have o := overM_iff (r := x3) (s := M 6 y.toNatClampNeg) (lo := M 7 y.toNatClampNeg) (hi := M 8 y.toNatClampNeg) hIM (by rw [← e7]; exact hsy.1) (by rw [← e7]; exact hsx.1) (ivM_7 hIM _).1 (ivM_7 hIM _).2 (ivM_8 hIM _).2
    rw [o, ← e7]
  refine ⟨fun y y0 y1 _ _ => ?_, M2⟩
  have ey := cl_int y0
  have r2y := hR.2.1 y.toNatClampNeg (by omega)
  have o := overA_iff (r := y) (s := S 7 x3.toNatClampNeg) (lo := S 8 x3.toNatClampNeg) (hi := S 9 x3.toNatClampNeg) hIM e7 hR.1 hsx.1 hsx.2 n8 n9 (by omega)
  have m := M2 y y0 y1
  have e : (∃ h, inR (S 7 x3.toNatClampNeg).toInt (S 8 x3.toNatClampNeg).toInt (S 9 x3.toNatClampNeg).toInt h ∧ inR (M 6 y.toNatClampNeg).toInt (M 7 y.toNatClampNeg).toInt (M 8 y.toNatClampNeg).toInt h) ↔ ∃ x : Int, inR (S 7 y.toNatClampNeg).toInt (M 7 y.toNatClampNeg).toInt (M 8 y.toNatClampNeg).toInt x ∧ inR (S 7 x3.toNatClampNeg).toInt (M 7 x3.toNatClampNeg).toInt (M 8 x3.toNatClampNeg).toInt x := by
    rw [← e7]
    constructor
    · rintro ⟨x, p1, p2⟩
      refine ⟨x, p2, (inR_lw hsx.1 hsx.2).mpr ?_⟩
      rw [← w8, ← w9]; exact p1
    · rintro ⟨x, p1, p2⟩
      refine ⟨x, ?_, p1⟩
      have := (inR_lw hsx.1 hsx.2).mp p2
      rw [← w8, ← w9] at this
      exact this
  exact Decidable.not_iff_not.mp (o.trans (e.trans m.symm))
theorem clash_eq {n0 : Nat} {S M : BS} (h : RI n0 S M) (a b : Int32) : f_R_leastOverAnyOf S a b = f_M_clash M a b ∧ (f_M_clash M a b = -1 ∨ 0 ≤ (f_M_clash M a b).toInt) ∧
    (f_M_clash M a b = -1 → ∀ i j : Nat, (i : Int) < (M 22 0).toInt → (j : Int) < (M 22 0).toInt → S 10 i = 1 → S 10 j = 1 → S 6 i = b → S 6 j = a → ∀ x : Int, inR (S 7 i).toInt (M 7 i).toInt (M 8 i).toInt x → ¬ inR (S 7 j).toInt (M 7 j).toInt (M 8 j).toInt x) := by
  have ca := fun {x3 : Int32} => clash_at h (a := a) (x3 := x3)
  obtain ⟨⟨hI, hIM⟩, ⟨⟨e22, e23, e24, e25, e27⟩, e0, e12, e5, e6, e7, e10, e11, e13, e15⟩, hS, hR, -⟩ := h
  have b22 := ivM_22 hIM
  have key : ∀ (n : Nat) (x : Int32), 0 ≤ x.toInt → (M 22 0).toInt - x.toInt < (n : Int) → 1 ≤ n → l_R_leastOverAnyOf_2 S a b n x = l_M_clash_2 M a b n x ∧ (l_M_clash_2 M a b n x = -1 ∨ 0 ≤ (l_M_clash_2 M a b n x).toInt) ∧
      (l_M_clash_2 M a b n x = -1 → ∀ x3 y : Int32, x.toInt ≤ x3.toInt → x3.toInt < (M 22 0).toInt → 0 ≤ y.toInt → y.toInt < (M 22 0).toInt → ¬ q_CO M a b x3 y) := by
    intro n
    induction n with
    | zero => intro x _ _ h; exact absurd h (by omega)
    | succ n ih =>
      intro x h0 h1 h2
      rw [l_R_leastOverAnyOf_2, l_M_clash_2, e24]
      by_cases c : M 22 0 ≤ x
      · rw [if_pos c, if_pos c]
        have := Int32.le_iff_toInt_le.mp c
        exact ⟨rfl, Or.inl rfl, fun _ x3 y q1 q2 => by omega⟩
      have t := mt Int32.le_iff_toInt_le.mpr c
      have k := i32_inc (x := x) h0 (by omega)
      rw [if_neg c, if_neg c]
      obtain ⟨i1, i2, i3⟩ := ih (x + 1) (by omega) (by omega) (by omega)
      have lv := liveR (r := x) (a := b) hI
      have lo := lo_iff (a := a) (s := S 7 x.toNatClampNeg) (lo := S 8 x.toNatClampNeg) (hi := S 9 x.toNatClampNeg) hI
      rw [e24] at lo
      obtain ⟨ov, -⟩ := ca h0 (by omega)
      have i10 := i32_01 (iv_10 hI x.toNatClampNeg)
      rcases cl13 hIM (a := a) (b := b) (x3 := x) (K := l_M_clash_2 M a b n (x + 1)) 600 0 (by decide) (by rw [z0]; omega) (by omega) with ⟨⟨y, y0, y1, y2, y3, y4, y5, y6⟩, q⟩ | ⟨q1, q2⟩
      · rw [q]
        have l1 : S 10 x.toNatClampNeg = 1 := i10.resolve_left (by rw [e10]; exact y2)
        rw [if_neg (fun w => lv.mp w ⟨l1, by rw [e6]; exact y4⟩), if_neg (fun w => y6 ((ov y y0 y1 ((i32_01 (iv_10 hI y.toNatClampNeg)).resolve_left (by rw [e10]; exact y3)) (by rw [e6]; exact y5)).mp (lo.mp w y y0 y1 ((i32_01 (iv_10 hI y.toNatClampNeg)).resolve_left (by rw [e10]; exact y3)) (by rw [e6]; exact y5))))]
        exact ⟨rfl, Or.inr h0, fun w => by rw [w] at h0; exact absurd h0 (by decide)⟩
      · rw [q2]
        rw [z0] at q1
        have g3 : l_M_clash_2 M a b n (x + 1) = -1 → ∀ x3 y : Int32, x.toInt ≤ x3.toInt → x3.toInt < (M 22 0).toInt → 0 ≤ y.toInt → y.toInt < (M 22 0).toInt → ¬ q_CO M a b x3 y := by
          intro w x3 y p1 p2 p3 p4 p5
          rcases Int.lt_or_eq_of_le p1 with e | e
          · exact i3 w x3 y (by omega) p2 p3 p4 p5
          · rw [← Int32.toInt_inj.mp e] at p5; exact q1 y p3 p4 p5
        refine ⟨?_, i2, g3⟩
        by_cases c2 : f_R_isLiveOf S x b = 0
        · rw [if_pos c2]; exact i1
        rw [if_neg c2]
        have l := Classical.byContradiction (fun q => c2 (lv.mpr q))
        rw [if_pos (lo.mpr (fun r r0 r1 r2 r3 => (ov r r0 r1 r2 r3).mpr (Classical.byContradiction (fun w => q1 r r0 r1 ⟨by rw [← e10, l.1]; decide, by rw [← e10, r2]; decide, by rw [← e6]; exact l.2, by rw [← e6]; exact r3, w⟩))))]
        exact i1
  obtain ⟨k1, k2, k3⟩ := key 600 0 (by decide) (by rw [z0]; omega) (by omega)
  refine ⟨k1, k2, fun w i j hi hj li lj si sj x hx hy => ?_⟩
  have w1 : (nI i).toInt = i := nI_toInt (by omega)
  have w2 : (nI i).toNatClampNeg = i := nI_clamp (by omega)
  have w3 : (nI j).toInt = j := nI_toInt (by omega)
  have w4 : (nI j).toNatClampNeg = j := nI_clamp (by omega)
  refine k3 w (nI i) (nI j) (by rw [z0]; omega) (by omega) (by omega) (by omega) ⟨by rw [w2, ← e10, li]; decide, by rw [w4, ← e10, lj]; decide, by rw [w2, ← e6]; exact si, by rw [w4, ← e6]; exact sj, ?_⟩
  refine ((ca (x3 := nI i) (by omega) (by omega)).2 (nI j) (by omega) (by omega)).mpr ⟨x, ?_, ?_⟩
  · rw [w4]; exact hy
  · rw [w2]; exact hx
