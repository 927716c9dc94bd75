theorem GR.move {s6 s7 s8 s9 s10 m7 m8 g3 t6 : Nat → Int32} {nr ns a b : Int32} (h : GR s6 s7 s8 s9 s10 m7 m8 g3 nr ns) (hab : a ≠ b) (ha0 : 0 ≤ a.toInt) (hb0 : 0 ≤ b.toInt) (hb1 : b.toInt < ns.toInt) (hgb : g3 b.toNatClampNeg = 0) (i6 : ∀ j, 0 ≤ (s6 j).toInt) (ht : ∀ j : Nat, s10 j = 1 → t6 j = if s6 j = a then b else s6 j)
    (no : ∀ i j : Nat, (i : Int) < nr.toInt → (j : Int) < nr.toInt → s10 i = 1 → s10 j = 1 → s6 i = b → s6 j = a → ∀ x : Int, inR (s7 i).toInt (m7 i).toInt (m8 i).toInt x → ¬ inR (s7 j).toInt (m7 j).toInt (m8 j).toInt x) : GR t6 s7 s8 s9 s10 m7 m8 (upd g3 a.toNatClampNeg 1) nr ns := by
  obtain ⟨r1, r2, r3, r4, r5⟩ := h
  refine ⟨r1, r2, r3, fun i j hi hj hij li lj hs x hx hy => ?_, fun j hj hl => ?_⟩
  · rw [ht i li, ht j lj] at hs
    by_cases ci : s6 i = a
    · by_cases cj : s6 j = a
      · exact r4 i j hi hj hij li lj (ci.trans cj.symm) x hx hy
      · rw [if_pos ci, if_neg cj] at hs
        exact no j i hj hi lj li hs.symm ci x hy hx
    · by_cases cj : s6 j = a
      · rw [if_neg ci, if_pos cj] at hs
        exact no i j hi hj li lj hs cj x hx hy
      · rw [if_neg ci, if_neg cj] at hs
        exact r4 i j hi hj hij li lj hs x hx hy
  · rw [ht j hl]
    by_cases c : s6 j = a
    · rw [if_pos c, upd_ne (cl_ne hb0 ha0 (fun q => hab q.symm))]; exact ⟨hb1, hgb⟩
    · rw [if_neg c, upd_ne (cl_ne (i6 j) ha0 c)]; exact r5 j hj hl
theorem op_join {n : Nat} {S M : BS} (hn : n < 512) (h : RI n S M) (a1 a2 a3 : Int32) : (F_A_join S a1 a2 a3).1 = (F_M_changeStreets M a1 a2 a3).1 ∧ (IV (F_A_join S a1 a2 a3).2 → IVM (F_M_changeStreets M a1 a2 a3).2 → RI (n + 1) (F_A_join S a1 a2 a3).2 (F_M_changeStreets M a1 a2 a3).2) := by
  have hu := h.up
  have hk24 := (h.base hn).2.2.2.2.2
  obtain ⟨ce, cn1, cno⟩ := clash_eq h a1 a2
  obtain ⟨⟨hI, hIM⟩, ⟨⟨e22, e23, e24, e25, e27⟩, e0, e12, e5, e6, e7, e10, e11, e13, e15⟩, hS, hR, hP, hY1, hY2, hY3, hY4, hY5, hN, hT, hd0, hd1⟩ := h
  have b21 := ivM_21 hIM
  have b22 := ivM_22 hIM
  have b23 := ivM_23 hIM
  have b24 := ivM_24 hIM
  unfold F_A_join F_M_changeStreets f_A_isTodayOrLater f_M_isDay f_T_isGone
  rw [hasT hIM e23, hasT hIM e23, e27, ce]
  by_cases c1 : f_M_isStreet M a1 = 0
  · rw [if_pos c1, if_pos c1]; exact ⟨rfl, fun _ _ => hu⟩
  rw [if_neg c1, if_neg c1]
  have t1 := fb_M_isStreet hIM c1
  by_cases c2 : f_M_isStreet M a2 = 0
  · rw [if_pos c2, if_pos c2]; exact ⟨rfl, fun _ _ => hu⟩
  rw [if_neg c2, if_neg c2]
  have t2 := fb_M_isStreet hIM c2
  by_cases c5 : f_M_in a3 (M 19 0) 1000000 = 0
  · rw [if_pos c5, if_pos (show f_A_isWithin a3 (M 19 0) 1000000 = 0 from c5)]; exact ⟨rfl, fun _ _ => hu⟩
  rw [if_neg c5, if_neg (show ¬ f_A_isWithin a3 (M 19 0) 1000000 = 0 from c5)]
  have t5 := fb_M_in c5
  rw [show ((1000000) : Int32).toInt = 1000000 by decide] at t5
  by_cases c3 : a1 = a2
  · rw [if_pos c3, if_pos c3]; exact ⟨rfl, fun _ _ => hu⟩
  rw [if_neg c3, if_neg c3]
  have ea := cl_int t1.1
  have eb := cl_int t2.1
  rcases hS.1 a1.toNatClampNeg (by omega) with ⟨g1, g2⟩ | ⟨g1, -, g2, -⟩
  rotate_left
  · rw [if_neg (show ¬ S 3 a1.toNatClampNeg = 0 by rw [g1]; decide), if_pos (i32_0le.mpr g2)]; exact ⟨rfl, fun _ _ => hu⟩
  rw [if_pos g1, if_neg (show ¬ 0 ≤ M 3 a1.toNatClampNeg by rw [g2]; decide)]
  rcases hS.1 a2.toNatClampNeg (by omega) with ⟨g3, g4⟩ | ⟨g3, -, g4, -⟩
  rotate_left
  · rw [if_neg (show ¬ S 3 a2.toNatClampNeg = 0 by rw [g3]; decide), if_neg (show ¬ M 3 a2.toNatClampNeg < 0 from fun q => by have := i32_lt0.mp q; omega)]; exact ⟨rfl, fun _ _ => hu⟩
  rw [if_pos g3, if_pos (show M 3 a2.toNatClampNeg < 0 by rw [g4]; decide)]
  have nn := neg_iff cn1
  by_cases c6 : f_M_clash M a1 a2 = -1
  rotate_left
  · rw [if_neg c6, if_neg (fun q => c6 (nn.mp q))]; exact ⟨rfl, fun _ _ => hu⟩
  rw [if_pos c6, if_pos (nn.mpr c6)]
  have no := cno c6
  -- the graph of streets
  obtain ⟨rk, hr, hb, -⟩ := hS.rank b21.2
  have late := fun d (hd : (M 19 0).toInt ≤ d.toInt) => MT_late (d := d) hr hb hS.late hd
  have rb : ∀ e : Int32, MT (M 3) (M 4) e a2 = a2 := fun e => (root_at hS t2.1 t2.2.1 g3).2
  have hroot : (M 3 a1.toNatClampNeg).toInt < 0 := by rw [g2]; decide
  obtain ⟨E0, E1, E2⟩ := edge (m4 := M 4) (d0 := a3) hr hb b21.2 t1.1 t1.2.1 t2.1 t2.2.1 hroot (fun j hj h => by have := hS.late j hj h; omega) (by rw [rb]; exact fun q => c3 q.symm)
  have i12 : ∀ j, 0 ≤ (S 12 j).toInt := fun j => (iv_12 hI j).1
  have i13 : ∀ j, 0 ≤ (M 13 j).toInt := fun j => (ivM_13 hIM j).1
  have i14 : ∀ j, 0 ≤ (M 14 j).toInt := fun j => (ivM_14 hIM j).1
  have i15 : ∀ j, S 15 j = 0 ∨ S 15 j = 1 := fun j => i32_01 (iv_15 hI j)
  have i11 : ∀ j, 0 ≤ (S 11 j).toInt := fun j => (iv_11 hI j).1
  have ht : ∀ j : Nat, S 10 j = 1 → t6N S a1 a2 j = if S 6 j = a1 then a2 else S 6 j := by
    intro j hj
    unfold t6N
    by_cases c : S 6 j = a1
    · rw [if_pos ⟨hj, c⟩, if_pos c]
    · rw [if_neg (fun w => c w.2), if_neg c]
  have mt1 : ∀ p : Int32, 0 ≤ p.toInt → p.toInt < (M 23 0).toInt → S 15 p.toNatClampNeg = 1 → ∀ e : Int32, a3.toInt ≤ e.toInt → MT (upd (M 3) a1.toNatClampNeg a2) (upd (M 4) a1.toNatClampNeg a3) e (S 12 p.toNatClampNeg) = if S 6 (S 11 p.toNatClampNeg).toNatClampNeg = a1 then a2 else S 6 (S 11 p.toNatClampNeg).toNatClampNeg := by
    intro p p0 p1 pl e he
    obtain ⟨⟨-, -, x3⟩, k, -, -, k3, -⟩ := hY1 p p0 p1
    obtain ⟨-, -, -, z4, -⟩ := k3 pl
    rw [E2 e _ (i12 _) x3 he, late e (by omega) _ (i12 _) x3, z4, rb]
  have hmt : ∀ p : Int32, 0 ≤ p.toInt → p.toInt < (M 23 0).toInt → S 15 p.toNatClampNeg = 1 → S 6 (S 11 p.toNatClampNeg).toNatClampNeg = a1 → ∀ e : Int32, a3.toInt ≤ e.toInt → MT (upd (M 3) a1.toNatClampNeg a2) (upd (M 4) a1.toNatClampNeg a3) e a2 = MT (upd (M 3) a1.toNatClampNeg a2) (upd (M 4) a1.toNatClampNeg a3) e (S 12 p.toNatClampNeg) := by
    intro p p0 p1 pl pa e he
    rw [mt1 p p0 p1 pl e he, if_pos pa, E2 e _ t2.1 t2.2.1 he, rb, if_neg (fun q => c3 q.symm)]
  have hbk : ∀ p : Int32, 0 ≤ p.toInt → p.toInt < (M 23 0).toInt → S 15 p.toNatClampNeg = 1 → (((S 14 p.toNatClampNeg).toNatClampNeg : Nat) : Int) < (S 26 0).toInt ∧ S 16 (S 14 p.toNatClampNeg).toNatClampNeg = p ∧ (S 18 (S 14 p.toNatClampNeg).toNatClampNeg).toInt ≤ a3.toInt ∧ S 19 (S 14 p.toNatClampNeg).toNatClampNeg = 1000001 := by
    intro p p0 p1 pl
    obtain ⟨⟨x1, x2, x3⟩, k, -, -, k3, -⟩ := hY1 p p0 p1
    obtain ⟨-, z2, -, -, -⟩ := k3 pl
    have e := cl_int (iv_14 hI p.toNatClampNeg).1
    have y := (hY3.1 (S 14 p.toNatClampNeg).toNatClampNeg (by omega)).2.1
    exact ⟨by omega, x2, by omega, z2⟩
  have d00 : ∀ j, q_dB S a1 0 0 j = false := by
    intro j
    cases q : q_dB S a1 0 0 j with
    | false => rfl
    | true =>
      have q := (dB_iff.mp q).2
      omega
  have J0 : q_JI S M a1 a2 a3 (upS 4 a1.toNatClampNeg a3 (upS 3 a1.toNatClampNeg a2 (upS 19 0 a3 M))) 0 0 0 0 := by
    refine ⟨fun k k1 k2 k3 k4 k5 => ?_, ⟨rfl, rfl, rfl⟩, fun j => ?_, ⟨?_, ?_⟩, ?_, fun j => i32_01 (ivM_18 hIM j)⟩
    · rw [upS_ne k2, upS_ne k1, upS_ne (by omega)]
    · rw [if_neg (Nat.not_lt_zero _), e6]; rfl
    · rw [ct_zero 120 (fun y _ => d00 y)]
      show (M 24 0).toInt = (M 24 0).toInt + ((0 : Nat) : Int)
      omega
    · rw [ct_zero 120 (fun y _ => d00 y)]; exact z0
    · exact jk_start hY1 hY2 hY4 hY5 t5.1 i12 i13 i14 hT.2 E1 E2 _ (fun j w => by rw [d00 j] at w; exact absurd w (by decide))
  obtain ⟨Y, c, l2, fM, ⟨f3, f4, f19⟩, f5, ⟨f24, fc⟩, hK, f18⟩ := join_out hI hIM e6 e10 e11 e15 hP hk24 (by omega) t5.2 t2.2.1 hmt hbk 600 (upS 4 a1.toNatClampNeg a3 (upS 3 a1.toNatClampNeg a2 (upS 19 0 a3 M))) 0 0 (by decide) (by rw [z0]; omega) (by rw [z0]; omega) (by omega) (by rw [zc0]; exact J0)
  have l2 : F_M_join (upS 19 0 a3 M) a1 a2 = (c, Y) := l2
  rw [l2]
  obtain ⟨fA, f6⟩ := move_eq (a := a1) (b := a2) hI (fun j hj => hR.2.2.1 j (by rw [← e24]; exact hj))
  have many := many_eq (a := a1) hI
  have c22 := cl_int b22.1
  have c23 := cl_int b23.1
  have dj : ∀ j, q_dB S a1 (M 22 0).toNatClampNeg 0 j = q_jB S a1 j := fun j => bool_ext (by
    rw [dB_iff, jB_iff]
    constructor
    · exact fun q => q.1
    · intro q
      refine ⟨q, Or.inl ?_⟩
      have hj : (j : Int) < (M 23 0).toInt := Classical.byContradiction (fun v => by
        have := hP.2.1 j (by omega)
        rw [this] at q
        exact absurd q.1 (by decide))
      have x1 := hP.2.2.1 j hj
      have x2 := cl_int (i11 j)
      omega)
  have djf : q_dB S a1 (M 22 0).toNatClampNeg 0 = q_jB S a1 := funext dj
  have cj : ct (q_jB S a1) 120 = ct (q_jB S a1) (M 23 0).toNatClampNeg := ct_stop (fun y hy => by
    cases q : q_jB S a1 y with
    | false => rfl
    | true =>
      have q := jB_iff.mp q
      have := hP.2.1 y (by omega)
      rw [this] at q
      exact absurd q.1 (by decide)) 120 (by omega)
  rw [djf] at f24 fc hK
  refine ⟨?_, fun q1 q2 => ?_⟩
  · show f_A_howManyLiveOf S a1 = c
    apply Int32.toInt_inj.mp
    rw [many, fc, cj, e25]
  have hR2 := hR.move (t6 := t6N S a1 a2) c3 t1.1 t2.1 t2.2.1 g3 (fun j => (iv_6 hI j).1) ht no
  obtain ⟨Y1, Y2, Y5⟩ := jk_end (t6 := t6N S a1 a2) (a := a1) hK hY1 hY2 hY5 hP hR2 t5.1 t5.2 i11 i15 (fun j hj hl => by
      show q_jB S a1 j = true ↔ _
      rw [jB_iff]
      exact ⟨fun q => q.2, fun q => ⟨hl, q⟩⟩) ht (fun j e hj hl => by
      rw [f3, f4]
      refine MT_stop (Or.inl ?_)
      have g := hR.2.2.2.2 j hj hl
      rw [ht j hl]
      by_cases c : S 6 j = a1
      · rw [if_pos c, upd_ne (cl_ne t2.1 t1.1 (fun q => c3 q.symm)), g4]; decide
      · rw [if_neg c, upd_ne (cl_ne (iv_6 hI j).1 t1.1 c)]
        exact (root_at (d := e) hS (iv_6 hI j).1 g.1 g.2).1) (fun p p0 p1 pl => by
      rw [f3, f4, mt1 p p0 p1 pl a3 (Int.le_refl _), ht]
      have e := cl_int p0
      exact hP.2.2.2 p.toNatClampNeg (by omega) pl)
  show RI (n + 1) (upS 27 0 a3 (upS 5 a1.toNatClampNeg a3 (upS 4 a1.toNatClampNeg a2 (upS 3 a1.toNatClampNeg 1 (F_R_moveLive S a1 a2))))) Y
  obtain ⟨Z, hZ⟩ : ∃ Z, Z = F_R_moveLive S a1 a2 := ⟨_, rfl⟩
  rw [← hZ] at fA f6 q1 ⊢
  have A : ∀ k, k ≠ 6 → Z k = S k := fA
  have B : ∀ k, (k ≠ 3 ∧ k ≠ 4 ∧ k ≠ 5) ∧ (k < 13 ∨ 19 < k) ∧ k ≠ 24 → Y k = M k := fun k q => fM k q.1.1 q.1.2.1 q.1.2.2 q.2.1 q.2.2
  have s0 := A 0 (by decide)
  have s1 := A 1 (by decide)
  have s2 := A 2 (by decide)
  have s3 := A 3 (by decide)
  have s4 := A 4 (by decide)
  have s5 := A 5 (by decide)
  have s7 := A 7 (by decide)
  have s8 := A 8 (by decide)
  have s9 := A 9 (by decide)
  have s10 := A 10 (by decide)
  have s11 := A 11 (by decide)
  have s12 := A 12 (by decide)
  have s13 := A 13 (by decide)
  have s14 := A 14 (by decide)
  have s15 := A 15 (by decide)
  have s16 := A 16 (by decide)
  have s17 := A 17 (by decide)
  have s18 := A 18 (by decide)
  have s19 := A 19 (by decide)
  have s20 := A 20 (by decide)
  have s21 := A 21 (by decide)
  have s22 := A 22 (by decide)
  have s23 := A 23 (by decide)
  have s24 := A 24 (by decide)
  have s25 := A 25 (by decide)
  have s26 := A 26 (by decide)
  have m0 := B 0 (by decide)
  have m1 := B 1 (by decide)
  have m2 := B 2 (by decide)
  have m6 := B 6 (by decide)
  have m7 := B 7 (by decide)
  have m8 := B 8 (by decide)
  have m9 := B 9 (by decide)
  have m10 := B 10 (by decide)
  have m11 := B 11 (by decide)
  have m12 := B 12 (by decide)
  have m20 := B 20 (by decide)
  have m21 := B 21 (by decide)
  have m22 := B 22 (by decide)
  have m23 := B 23 (by decide)
  have f5e : Y 5 = t6N S a1 a2 := funext (fun j => by
    rw [f5 j]
    by_cases cl : j < (M 22 0).toNatClampNeg
    · rw [if_pos cl]
    · rw [if_neg cl]
      unfold t6N
      rw [if_neg (fun w => by rw [hR.2.2.1 j (by omega)] at w; exact absurd w.1 (by decide))])
  refine ⟨⟨q1, q2⟩, ⟨⟨?_, ?_, ?_, ?_, ?_⟩, ?_, ⟨?_, ?_⟩, ?_, ?_, ?_, ?_, ?_, ?_, ?_⟩, ?_, ?_, ?_, ?_, ?_, ?_, ?_, ?_, ?_, ⟨fun j => ?_, fun j => ?_⟩, ?_, ?_⟩
  · show Z 22 0 = Y 20 0
    rw [s22, m20]; exact e22
  · show Z 23 0 = Y 21 0
    rw [s23, m21]; exact e23
  · show Z 24 0 = Y 22 0
    rw [s24, m22]; exact e24
  · show Z 25 0 = Y 23 0
    rw [s25, m23]; exact e25
  · exact f19.symm
  · show Z 0 = Y 0
    rw [s0, m0]; exact e0
  · show Z 1 = Y 1
    rw [s1, m1]; exact e12.1
  · show Z 2 = Y 2
    rw [s2, m2]; exact e12.2
  · show upd (Z 5) a1.toNatClampNeg a3 = Y 4
    rw [s5, f4, e5]
  · show Z 6 = Y 5
    rw [f6, f5e]
  · show Z 7 = Y 6
    rw [s7, m6]; exact e7
  · show Z 10 = Y 9
    rw [s10, m9]; exact e10
  · show Z 11 = Y 10
    rw [s11, m10]; exact e11
  · show Z 13 = Y 11
    rw [s13, m11]; exact e13
  · show Z 15 = Y 12
    rw [s15, m12]; exact e15
  · show GS (upd (Z 3) a1.toNatClampNeg 1) (upd (Z 4) a1.toNatClampNeg a2) (Y 3) (Y 4) (Y 21 0) (Y 19 0)
    rw [s3, s4, f3, f4, m21, f19]
    refine ⟨fun j hj => ?_, fun j hj => ?_, E0⟩
    · by_cases c : j = a1.toNatClampNeg
      · rw [c, upd_at, upd_at, upd_at, upd_at]; exact Or.inr ⟨rfl, rfl, t2.1, Int.le_refl _⟩
      · rw [upd_ne c, upd_ne c, upd_ne c, upd_ne c]
        exact (hS.day t5.1).1 j hj
    · rw [upd_ne (by omega), upd_ne (by omega)]
      exact hS.2.1 j hj
  · show GR (Z 6) (Z 7) (Z 8) (Z 9) (Z 10) (Y 7) (Y 8) (upd (Z 3) a1.toNatClampNeg 1) (Y 22 0) (Y 21 0)
    rw [f6, s7, s8, s9, s10, m7, m8, s3, m22, m21]; exact hR2
  · show GP (Z 10) (Z 11) (Z 13) (Z 15) (Y 23 0) (Y 22 0)
    rw [s10, s11, s13, s15, m23, m22]; exact hP
  · show GY1 (Z 6) (Z 7) (Z 11) (Z 12) (Z 14) (Z 15) (Z 16) (Z 17) (Z 19) (Y 3) (Y 4) (Y 7) (Y 8) (Y 13) (Y 14) (Y 15) (Y 17) (Y 21 0) (Y 23 0) (Z 26 0) (Y 24 0) (Y 19 0)
    rw [f6, s7, s11, s12, s14, s15, s16, s17, s19, m7, m8, m21, m23, s26, f19]; exact Y1
  · show GY2 (Z 12) (Y 3) (Y 4) (Y 13) (Y 14) (Y 16) (Y 17) (Y 18) (Y 21 0) (Y 23 0) (Y 24 0) (Y 19 0)
    rw [s12, m21, m23, f19]; exact Y2
  · show GY3 (Z 14) (Z 16) (Z 18) (Z 19) (Z 20) (Y 23 0) (Z 26 0) (Y 19 0)
    rw [s14, s16, s18, s19, s20, m23, s26, f19]; exact hY3.day t5.1
  · show GY4 (Z 16) (Z 17) (Z 18) (Z 19) (Z 20) (Y 13) (Y 15) (Y 16) (Y 17) (Y 18) (Z 26 0) (Y 24 0)
    rw [s16, s17, s18, s19, s20, s26]; exact hK.2.2.1
  · show GY5 (Z 13) (Y 13) (Y 14) (Y 15) (Y 16) (Y 17) (Y 24 0)
    rw [s13]; exact Y5
  · show GN (upd (Z 3) a1.toNatClampNeg 1) (Z 26 0) (Y 24 0) (n + 1)
    rw [s3, s26]
    have x := cn_lt2 (f := S 3) (g := upd (S 3) a1.toNatClampNeg 1) (q := fun x => decide (x = 1)) (fun j hj => by
      by_cases c : j = a1.toNatClampNeg
      · rw [c, upd_at]; rfl
      · rw [upd_ne c]; exact hj) (z := a1.toNatClampNeg) (by rw [g1]; rfl) (by rw [upd_at]; rfl) 32 (by omega)
    have y := ct_le (q_jB S a1) 120
    obtain ⟨n1, n2⟩ := hN
    unfold GN
    exact ⟨by omega, by omega⟩
  · show Z 21 j = 0
    rw [s21]; exact hT.1 j
  · exact hK.2.2.2.2.2 j
  · show 0 ≤ (Y 19 0).toInt
    rw [f19]; omega
  · show (Y 19 0).toInt ≤ 1000000
    rw [f19]; exact t5.2
