theorem upS_ne {k i a : Nat} {v : Int32} {S : BS} (h : a ≠ k) : upS k i v S a = S a := by
  have e : Nat.beq a k = false := by
    cases q : Nat.beq a k with
    | false => rfl
    | true => exact absurd (Nat.eq_of_beq_eq_true q) h
  unfold upS
  rw [e]
  rfl
/-- a range ends: the loop over its points -/
def q_CI (S M : BS) (d r : Int32) (Z Y : BS) (x : Int32) : Prop :=
  (∀ a, a ≠ 15 → a ≠ 19 → Z a = S a) ∧ (∀ a, a ≠ 9 → a ≠ 12 → a ≠ 17 → a ≠ 19 → Y a = M a) ∧ (Y 19 0 = d ∧ Y 9 = upd (M 9) r.toNatClampNeg 0 ∧ Z 15 = Y 12) ∧ (∀ j, Z 15 j = 0 ∨ Z 15 j = S 15 j) ∧ (∀ j : Nat, (j : Int) < x.toInt → Z 15 j = 1 → S 11 j ≠ r) ∧
  GY1 (S 6) (S 7) (S 11) (S 12) (S 14) (Z 15) (S 16) (S 17) (Z 19) (M 3) (M 4) (M 7) (M 8) (M 13) (M 14) (M 15) (Y 17) (M 21 0) (M 23 0) (S 26 0) (M 24 0) d ∧
  GY2 (S 12) (M 3) (M 4) (M 13) (M 14) (M 16) (Y 17) (M 18) (M 21 0) (M 23 0) (M 24 0) d ∧ GY3 (S 14) (S 16) (S 18) (Z 19) (S 20) (M 23 0) (S 26 0) d ∧
  GY4 (S 16) (S 17) (S 18) (Z 19) (S 20) (M 13) (M 15) (M 16) (Y 17) (M 18) (S 26 0) (M 24 0) ∧ GY5 (S 13) (M 13) (M 14) (M 15) (M 16) (Y 17) (M 24 0)
theorem close_loop {S M : BS} {d r : Int32} (hI : IV S) (hIM : IVM M) (e25 : S 25 0 = M 23 0) (e11 : S 11 = M 10) (hd1 : d.toInt ≤ 1000000) : ∀ (n : Nat) (Z Y : BS) (c x : Int32), 0 ≤ x.toInt → (M 23 0).toInt - x.toInt < (n : Int) → 1 ≤ n → q_CI S M d r Z Y x →
    ∃ (Z2 Y2 : BS) (c2 : Int32), l_A_close_45 r d n Z c x = (c2, upS 27 0 d (upS 10 r.toNatClampNeg 0 Z2)) ∧ l_M_close_11 r n Y c x = (c2, Y2) ∧ q_CI S M d r Z2 Y2 (M 23 0) := by
  have b23 := ivM_23 hIM
  have b24 := ivM_24 hIM
  intro n
  induction n with
  | zero => intro Z Y c x _ _ h; exact absurd h (by omega)
  | succ n ih =>
    intro Z Y c x h0 h1 h2 hC
    have hC0 := hC
    obtain ⟨fA, fM, ⟨f19, f9, f12⟩, f15, fr, g1, g2, g3, g4, g5⟩ := hC
    have z25 : Z 25 0 = M 23 0 := by rw [fA 25 (by decide) (by decide)]; exact e25
    have z23 : Y 23 0 = M 23 0 := by rw [fM 23 (by decide) (by decide) (by decide) (by decide)]
    have z11 : Z 11 = S 11 := fA 11 (by decide) (by decide)
    have z14 : Z 14 = S 14 := fA 14 (by decide) (by decide)
    have y10 : Y 10 = S 11 := by rw [fM 10 (by decide) (by decide) (by decide) (by decide)]; exact e11.symm
    have y13 : Y 13 = M 13 := fM 13 (by decide) (by decide) (by decide) (by decide)
    have y24 : Y 24 = M 24 := fM 24 (by decide) (by decide) (by decide) (by decide)
    have y18 : Y 18 = M 18 := fM 18 (by decide) (by decide) (by decide) (by decide)
    rw [l_A_close_45, l_M_close_11, z25, z23, z11, y10, ← f12]
    by_cases c0 : M 23 0 ≤ x
    · rw [if_pos c0, if_pos c0]
      refine ⟨Z, Y, c, rfl, rfl, fA, fM, ⟨f19, f9, f12⟩, f15, fun j hj => fr j ?_, g1, g2, g3, g4, g5⟩
      have := Int32.le_iff_toInt_le.mp c0
      omega
    have t := mt Int32.le_iff_toInt_le.mpr c0
    have k := i32_inc (x := x) h0 (by omega)
    have ex := cl_int h0
    rw [if_neg c0, if_neg c0]
    have skip : ¬ (Z 15 x.toNatClampNeg = 1 ∧ S 11 x.toNatClampNeg = r) → q_CI S M d r Z Y (x + 1) := by
      intro w
      refine ⟨fA, fM, ⟨f19, f9, f12⟩, f15, fun j hj q e => ?_, g1, g2, g3, g4, g5⟩
      by_cases cj : j = x.toNatClampNeg
      · rw [cj] at q e; exact w ⟨q, e⟩
      · exact fr j (by omega) q e
    by_cases c1 : Z 15 x.toNatClampNeg = 0
    · rw [if_pos c1, if_pos c1]
      exact ih Z Y c (x + 1) (by omega) (by omega) (by omega) (skip (fun w => by rw [c1] at w; exact absurd w.1 (by decide)))
    rw [if_neg c1, if_neg c1]
    by_cases c2 : S 11 x.toNatClampNeg = r
    rotate_left
    · rw [if_neg c2, if_neg c2]
      exact ih Z Y c (x + 1) (by omega) (by omega) (by omega) (skip (fun w => c2 w.2))
    rw [if_pos c2, if_pos c2]
    have i15 : ∀ j, Z 15 j = 0 ∨ Z 15 j = 1 := fun j => by
      rcases f15 j with q | q
      · exact Or.inl q
      · rw [q]; exact i32_01 (iv_15 hI j)
    have hl : Z 15 x.toNatClampNeg = 1 := (i15 x.toNatClampNeg).resolve_left c1
    obtain ⟨⟨x1, x2, x3⟩, κ, k1, k2, k3, -⟩ := g1 x h0 (by omega)
    obtain ⟨z1, z2, z3, z4, z5⟩ := k3 hl
    have m18k : M 18 κ = 0 := open_18 g2 k1.1 z1 hd1 (i32_01 (ivM_18 hIM κ))
    have ei := cl_int (iv_14 hI x.toNatClampNeg).1
    have hσ : (((S 14 x.toNatClampNeg).toNatClampNeg : Nat) : Int) < (S 26 0).toInt := by omega
    have E4 := (end_GY4 g2 g3 g4 k1 hσ x2 rfl k2 z1 z2 (Int.le_refl _) hd1).1
    have E1 := end_GY1 g1 h0 k1 x2 (Int.le_refl _) (fun j => (iv_12 hI j).1) (fun _ _ _ => rfl)
    have E2 := end_GY2 (n18 := M 18) g2 z1 (Int.le_refl _) hd1 (fun _ _ => rfl)
    have E3 := end_GY3 (t20 := S 20) g3 hσ (Int.le_refl _) (fun _ _ => rfl)
    have E5 := end_GY5 (d0 := d) g5 z1 hd1
    rw [endStay_eq (M := upS 12 x.toNatClampNeg 0 Y) (k := κ) (by show (Y 24 0).toInt ≤ 5000; rw [y24]; exact b24.2) (by show Lst (Y 13) (Y 24 0) x κ; rw [y13, y24]; exact k1)]
    have eA : F_A_end Z x d = upS 15 x.toNatClampNeg 0 (upS 19 (S 14 x.toNatClampNeg).toNatClampNeg d Z) := by
      show upS 15 x.toNatClampNeg 0 (upS 19 (Z 14 x.toNatClampNeg).toNatClampNeg d Z) = _
      rw [z14]
    rw [eA]
    refine ih (upS 15 x.toNatClampNeg 0 (upS 19 (S 14 x.toNatClampNeg).toNatClampNeg d Z)) (upS 18 κ 0 (upS 17 κ ((upS 12 x.toNatClampNeg 0 Y) 19 0) (upS 12 x.toNatClampNeg 0 Y))) (c + 1) (x + 1) (by omega) (by omega) (by omega) ⟨fun a a1 a2 => ?_, fun a a1 a2 a3 a4 => ?_, ⟨?_, ?_, ?_⟩, fun j => ?_, fun j hj q e => ?_, ?_, ?_, ?_, ?_, ?_⟩
    · rw [upS_ne a1, upS_ne a2]; exact fA a a1 a2
    · by_cases c8 : a = 18
      · rw [c8]
        show upd (Y 18) κ 0 = M 18
        rw [y18]; exact upd_id m18k
      · rw [upS_ne c8, upS_ne a3, upS_ne a2]; exact fM a a1 a2 a3 a4
    · exact f19
    · exact f9
    · show upd (Z 15) x.toNatClampNeg 0 = upd (Y 12) x.toNatClampNeg 0
      rw [f12]
    · show upd (Z 15) x.toNatClampNeg 0 j = 0 ∨ upd (Z 15) x.toNatClampNeg 0 j = S 15 j
      by_cases cj : j = x.toNatClampNeg
      · rw [cj, upd_at]; exact Or.inl rfl
      · rw [upd_ne cj]; exact f15 j
    · have q : upd (Z 15) x.toNatClampNeg 0 j = 1 := q
      by_cases cj : j = x.toNatClampNeg
      · rw [cj, upd_at] at q; exact absurd q (by decide)
      · rw [upd_ne cj] at q; exact fr j (by omega) q e
    · have f19 : (upS 12 x.toNatClampNeg 0 Y) 19 0 = d := f19
      show GY1 (S 6) (S 7) (S 11) (S 12) (S 14) (upd (Z 15) x.toNatClampNeg 0) (S 16) (S 17) (upd (Z 19) (S 14 x.toNatClampNeg).toNatClampNeg d) (M 3) (M 4) (M 7) (M 8) (M 13) (M 14) (M 15) (upd (Y 17) κ ((upS 12 x.toNatClampNeg 0 Y) 19 0)) (M 21 0) (M 23 0) (S 26 0) (M 24 0) d
      rw [f19]; exact E1
    · have f19 : (upS 12 x.toNatClampNeg 0 Y) 19 0 = d := f19
      show GY2 (S 12) (M 3) (M 4) (M 13) (M 14) (M 16) (upd (Y 17) κ ((upS 12 x.toNatClampNeg 0 Y) 19 0)) (M 18) (M 21 0) (M 23 0) (M 24 0) d
      rw [f19]; exact E2
    · exact E3
    · have f19 : (upS 12 x.toNatClampNeg 0 Y) 19 0 = d := f19
      show GY4 (S 16) (S 17) (S 18) (upd (Z 19) (S 14 x.toNatClampNeg).toNatClampNeg d) (S 20) (M 13) (M 15) (M 16) (upd (Y 17) κ ((upS 12 x.toNatClampNeg 0 Y) 19 0)) (M 18) (S 26 0) (M 24 0)
      rw [f19]; exact E4
    · have f19 : (upS 12 x.toNatClampNeg 0 Y) 19 0 = d := f19
      show GY5 (S 13) (M 13) (M 14) (M 15) (M 16) (upd (Y 17) κ ((upS 12 x.toNatClampNeg 0 Y) 19 0)) (M 24 0)
      rw [f19]; exact E5
theorem GR.kill {s6 s7 s8 s9 s10 m7 m8 g3 : Nat → Int32} {nr ns : Int32} (h : GR s6 s7 s8 s9 s10 m7 m8 g3 nr ns) (i : Nat) : GR s6 s7 s8 s9 (upd s10 i 0) m7 m8 g3 nr ns := by
  obtain ⟨r1, r2, r3, r4, r5⟩ := h
  have u : ∀ j, upd s10 i 0 j = 1 → s10 j = 1 := fun j q => by
    by_cases c : j = i
    · rw [c, upd_at] at q; exact absurd q (by decide)
    · rw [upd_ne c] at q; exact q
  refine ⟨r1, r2, fun j hj => ?_, fun i j hi hj hij li lj => r4 i j hi hj hij (u i li) (u j lj), fun j hj hl => r5 j hj (u j hl)⟩
  by_cases c : j = i
  · rw [c, upd_at]
  · rw [upd_ne c]; exact r3 j hj
theorem op_close {n : Nat} {S M : BS} (h : RI n S M) (a1 a2 a3 : Int32) : (F_A_close S a1 a3).1 = (F_M_changeRange M 0 a1 a2 a3).1 ∧ (IV (F_A_close S a1 a3).2 → IVM (F_M_changeRange M 0 a1 a2 a3).2 → RI (n + 1) (F_A_close S a1 a3).2 (F_M_changeRange M 0 a1 a2 a3).2) := by
  have hu := h.up
  obtain ⟨⟨hI, hIM⟩, ⟨⟨e22, e23, e24, e25, e27⟩, e0, e12, e5, e6, e7, e10, e11, e13, e15⟩, hS, hR, hP, hY1, hY2, hY3, hY4, hY5, hN, hT, hd0, hd1⟩ := h
  have b21 := ivM_21 hIM
  have b23 := ivM_23 hIM
  obtain ⟨y1, y2, y3, y4, -, -⟩ := hu.2.2.2.2.2.2.2.2
  unfold F_A_close F_M_changeRange f_A_isTodayOrLater f_M_isDay
  simp only [if_neg (show ¬ (0 : Int32) = 1 by decide), if_pos (show (0 : Int32) = 0 from rfl)]
  rw [hasR hIM e24, e27, e10]
  by_cases c1 : f_M_isRange M a1 = 0
  · rw [if_pos c1, if_pos c1]; exact ⟨rfl, fun _ _ => hu⟩
  rw [if_neg c1, if_neg c1]
  have t1 := fb_M_isRange hIM c1
  by_cases c5 : f_M_in a3 (M 19 0) 1000000 = 0
  · rw [if_pos c5, if_pos (show f_A_isWithin a3 (M 19 0) 1000000 = 0 from c5)]; exact ⟨rfl, fun _ _ => hu⟩
  rw [if_neg c5, if_neg (show ¬ f_A_isWithin a3 (M 19 0) 1000000 = 0 from c5)]
  have t5 := fb_M_in c5
  rw [show ((1000000) : Int32).toInt = 1000000 by decide] at t5
  by_cases c6 : M 9 a1.toNatClampNeg = 0
  · rw [if_pos c6, if_pos c6]; exact ⟨rfl, fun _ _ => hu⟩
  rw [if_neg c6, if_neg c6]
  obtain ⟨rk, hr, hb, -⟩ := hS.rank b21.2
  have hC : q_CI S M a3 a1 S (upS 9 a1.toNatClampNeg 0 (upS 19 0 a3 M)) 0 := by
    refine ⟨fun _ _ _ => rfl, fun a a1 a2 a3 a4 => ?_, ⟨rfl, rfl, e15⟩, fun j => Or.inr rfl, fun j hj => ?_, hY1.day t5.1 (fun j => (iv_12 hI j).1) (fun x => MT_late hr hb hS.late t5.1 x), hY2.day t5.1, hY3.day t5.1, hY4, hY5⟩
    · rw [upS_ne a1, upS_ne a4]
    · rw [z0] at hj; omega
  obtain ⟨Z, Y, c, l1, l2, fA, fM, ⟨f19, f9, f12⟩, f15, fr, g1, g2, g3, g4, g5⟩ := close_loop (d := a3) (r := a1) hI hIM e25 e11 t5.2 600 S (upS 9 a1.toNatClampNeg 0 (upS 19 0 a3 M)) 0 0 (by decide) (by rw [z0]; omega) (by omega) hC
  have l2 : F_M_close (upS 19 0 a3 M) a1 = (c, Y) := l2
  rw [l1, l2]
  refine ⟨rfl, fun q1 q2 => ?_⟩
  show RI (n + 1) (upS 27 0 a3 (upS 10 a1.toNatClampNeg 0 Z)) Y
  have A : ∀ a, a ≠ 15 ∧ a ≠ 19 → Z a = S a := fun a q => fA a q.1 q.2
  have B : ∀ a, a ≠ 9 ∧ a ≠ 12 ∧ a ≠ 17 ∧ a ≠ 19 → Y a = M a := fun a q => fM a q.1 q.2.1 q.2.2.1 q.2.2.2
  have a0 := A 0 (by decide)
  have a01 := A 1 (by decide)
  have a02 := A 2 (by decide)
  have a3' := A 3 (by decide)
  have a4 := A 4 (by decide)
  have a5 := A 5 (by decide)
  have a6 := A 6 (by decide)
  have a7 := A 7 (by decide)
  have a8 := A 8 (by decide)
  have a9 := A 9 (by decide)
  have a10 := A 10 (by decide)
  have a11 := A 11 (by decide)
  have a12 := A 12 (by decide)
  have a13 := A 13 (by decide)
  have a14 := A 14 (by decide)
  have a16 := A 16 (by decide)
  have a17 := A 17 (by decide)
  have a18 := A 18 (by decide)
  have a20 := A 20 (by decide)
  have a21 := A 21 (by decide)
  have a22 := A 22 (by decide)
  have a23 := A 23 (by decide)
  have a24 := A 24 (by decide)
  have a25 := A 25 (by decide)
  have a26 := A 26 (by decide)
  have m0 := B 0 (by decide)
  have m1 := B 1 (by decide)
  have m2 := B 2 (by decide)
  have m3 := B 3 (by decide)
  have m4 := B 4 (by decide)
  have m5 := B 5 (by decide)
  have m6 := B 6 (by decide)
  have m7 := B 7 (by decide)
  have m8 := B 8 (by decide)
  have m10 := B 10 (by decide)
  have m11 := B 11 (by decide)
  have m13 := B 13 (by decide)
  have m14 := B 14 (by decide)
  have m15 := B 15 (by decide)
  have m16 := B 16 (by decide)
  have m18 := B 18 (by decide)
  have m20 := B 20 (by decide)
  have m21 := B 21 (by decide)
  have m22 := B 22 (by decide)
  have m23 := B 23 (by decide)
  have m24 := B 24 (by decide)
  refine ⟨⟨q1, q2⟩, ⟨⟨?_, ?_, ?_, ?_, ?_⟩, ?_, ⟨?_, ?_⟩, ?_, ?_, ?_, ?_, ?_, ?_, f12⟩, ?_, ?_, ?_, ?_, ?_, ?_, ?_, ?_, ?_, ⟨fun j => ?_, fun j => ?_⟩, ?_, ?_⟩
  · show Z 22 0 = Y 20 0
    rw [a22, m20]; exact e22
  · show Z 23 0 = Y 21 0
    rw [a23, m21]; exact e23
  · show Z 24 0 = Y 22 0
    rw [a24, m22]; exact e24
  · show Z 25 0 = Y 23 0
    rw [a25, m23]; exact e25
  · exact f19.symm
  · show Z 0 = Y 0
    rw [a0, m0]; exact e0
  · show Z 1 = Y 1
    rw [a01, m1]; exact e12.1
  · show Z 2 = Y 2
    rw [a02, m2]; exact e12.2
  · show Z 5 = Y 4
    rw [a5, m4]; exact e5
  · show Z 6 = Y 5
    rw [a6, m5]; exact e6
  · show Z 7 = Y 6
    rw [a7, m6]; exact e7
  · show upd (Z 10) a1.toNatClampNeg 0 = Y 9
    rw [f9, a10]; exact upd_eq e10 rfl rfl
  · show Z 11 = Y 10
    rw [a11, m10]; exact e11
  · show Z 13 = Y 11
    rw [a13, m11]; exact e13
  · show GS (Z 3) (Z 4) (Y 3) (Y 4) (Y 21 0) (Y 19 0)
    rw [a3', a4, m3, m4, m21, f19]; exact hS.day t5.1
  · show GR (Z 6) (Z 7) (Z 8) (Z 9) (upd (Z 10) a1.toNatClampNeg 0) (Y 7) (Y 8) (Z 3) (Y 22 0) (Y 21 0)
    rw [a6, a7, a8, a9, a10, m7, m8, a3', m22, m21]; exact hR.kill _
  · show GP (upd (Z 10) a1.toNatClampNeg 0) (Z 11) (Z 13) (Z 15) (Y 23 0) (Y 22 0)
    rw [a10, a11, a13, m23, m22]
    obtain ⟨p1, p2, p3, p4⟩ := hP
    refine ⟨p1, fun j hj => ?_, p3, fun j hj w => ?_⟩
    · rcases f15 j with q | q
      · exact q
      · rw [q]; exact p2 j hj
    · have w1 : S 15 j = 1 := by
        rcases f15 j with q | q
        · rw [q] at w; exact absurd w (by decide)
        · rw [← q]; exact w
      rw [upd_ne (cl_ne (iv_11 hI j).1 t1.1 (fr j hj w))]
      exact p4 j hj w1
  · show GY1 (Z 6) (Z 7) (Z 11) (Z 12) (Z 14) (Z 15) (Z 16) (Z 17) (Z 19) (Y 3) (Y 4) (Y 7) (Y 8) (Y 13) (Y 14) (Y 15) (Y 17) (Y 21 0) (Y 23 0) (Z 26 0) (Y 24 0) (Y 19 0)
    rw [a6, a7, a11, a12, a14, a16, a17, m3, m4, m7, m8, m13, m14, m15, m21, m23, a26, m24, f19]; exact g1
  · show GY2 (Z 12) (Y 3) (Y 4) (Y 13) (Y 14) (Y 16) (Y 17) (Y 18) (Y 21 0) (Y 23 0) (Y 24 0) (Y 19 0)
    rw [a12, m3, m4, m13, m14, m16, m18, m21, m23, m24, f19]; exact g2
  · show GY3 (Z 14) (Z 16) (Z 18) (Z 19) (Z 20) (Y 23 0) (Z 26 0) (Y 19 0)
    rw [a14, a16, a18, a20, m23, a26, f19]; exact g3
  · show GY4 (Z 16) (Z 17) (Z 18) (Z 19) (Z 20) (Y 13) (Y 15) (Y 16) (Y 17) (Y 18) (Z 26 0) (Y 24 0)
    rw [a16, a17, a18, a20, m13, m15, m16, m18, a26, m24]; exact g4
  · show GY5 (Z 13) (Y 13) (Y 14) (Y 15) (Y 16) (Y 17) (Y 24 0)
    rw [a13, m13, m14, m15, m16, m24]; exact g5
  · show GN (Z 3) (Z 26 0) (Y 24 0) (n + 1)
    rw [a3', a26, m24]; exact y3
  · show Z 21 j = 0
    rw [a21]; exact hT.1 j
  · show 0 ≤ (Y 16 j).toInt
    rw [m16]; exact hT.2 j
  · show 0 ≤ (Y 19 0).toInt
    rw [f19]; omega
  · show (Y 19 0).toInt ≤ 1000000
    rw [f19]; exact t5.2
