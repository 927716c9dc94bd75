theorem rg_loop {S M : BS} (hI : IV S) (e24 : S 24 0 = M 22 0) (e10 : S 10 = M 9) (e6 : S 6 = M 5) {a s lo hi d : Int32} (hov : ∀ r : Int32, 0 ≤ r.toInt → r.toInt < (M 22 0).toInt → (f_R_isOver S r s lo hi = 0 ↔ f_M_isOver M r s lo hi = 0)) : ∀ (n : Nat) (x : Int32), 0 ≤ x.toInt → (M 22 0).toInt - x.toInt < (n : Int) → 1 ≤ n →
    l_M_range_114 M a s lo hi d n x = if l_R_leastOver_3 S a s lo hi n x = -1 then ((F_M_addRange M a s lo hi) 22 0 - 1, upS 19 0 d (F_M_addRange M a s lo hi)) else ((-200) - l_R_leastOver_3 S a s lo hi n x, M) := by
  have b := iv_24 hI
  rw [e24] at b
  intro n
  induction n with
  | zero => intro x _ _ h; exact absurd h (by omega)
  | succ n ih =>
    intro x h0 h1 h2
    rw [l_M_range_114, l_R_leastOver_3, e24]
    by_cases c : M 22 0 ≤ x
    · rw [if_pos c, if_pos c, if_pos rfl]
    · have t := mt Int32.le_iff_toInt_le.mpr c
      have k := i32_inc (x := x) h0 (by omega)
      have r1 := ih (x + 1) (by omega) (by omega) (by omega)
      rw [if_neg c, if_neg c]
      have lv := liveR (r := x) (a := a) hI
      rw [e10, e6] at lv
      have bz := i32_01 (iv_10 hI x.toNatClampNeg)
      rw [e10] at bz
      by_cases c1 : M 9 x.toNatClampNeg = 0
      · rw [if_pos c1, if_pos (lv.mpr (fun q => by rw [c1] at q; exact absurd q.1 (by decide)))]
        exact r1
      · rw [if_neg c1]
        by_cases c2 : M 5 x.toNatClampNeg = a
        · rw [if_pos c2, if_neg (fun q => lv.mp q ⟨bz.resolve_left c1, c2⟩)]
          have ho := hov x h0 (by omega)
          by_cases c3 : f_M_isOver M x s lo hi = 0
          · rw [if_pos c3, if_pos (ho.mpr c3)]
            exact r1
          · rw [if_neg c3, if_neg (fun q => c3 (ho.mp q)), if_neg (fun q => by rw [q] at h0; exact absurd h0 (by decide))]
        · rw [if_neg c2, if_pos (lv.mpr (fun q => c2 q.2))]
          exact r1
theorem empty_iff {s a b : Int32} (hs : 0 ≤ s.toInt ∧ s.toInt ≤ 2) (ha : 1 ≤ a.toInt ∧ a.toInt ≤ 999) (hb : 1 ≤ b.toInt ∧ b.toInt ≤ 999) : f_A_highestOf s b < f_A_lowestOf s a ↔ (b < a ∨ (a = b ∧ f_M_isOfSide s a = 0)) := by
  rw [Int32.lt_iff_toInt_lt, Int32.lt_iff_toInt_lt, lowA hs.1 (by omega) (by omega), highA hs.1 (by omega) (by omega), osM hs.1 (by omega), ← Int32.toInt_inj]
  unfold OS lw hg
  constructor
  · intro q
    split at q
    · split at q
      · exact Or.inl q
      · rcases Int.lt_or_eq_of_le (show b.toInt ≤ a.toInt by omega) with e | e
        · exact Or.inl e
        · refine Or.inr ⟨e.symm, fun w => ?_⟩
          omega
    · split at q
      · omega
      · omega
  · rintro (q | ⟨q1, q2⟩)
    · split <;> split <;> omega
    · rw [← q1]
      rw [if_neg q2, if_neg q2]
      omega
theorem op_range {n : Nat} {S M : BS} (h : RI n S M) (a1 a2 a3 a4 a5 : Int32) : (F_A_range S a1 a2 a3 a4 a5).1 = (F_M_range M a1 a2 a3 a4 a5).1 ∧ (IV (F_A_range S a1 a2 a3 a4 a5).2 → IVM (F_M_range M a1 a2 a3 a4 a5).2 → RI (n + 1) (F_A_range S a1 a2 a3 a4 a5).2 (F_M_range M a1 a2 a3 a4 a5).2) := by
  have hu := h.up
  obtain ⟨⟨hI, hIM⟩, ⟨⟨e22, e23, e24, e25, e27⟩, e0, e12, e5, e6, e7, e10, e11, e13, e15⟩, hS, hR, hP, hY1, hY2, hY3, hY4, hY5, hN, hT, hd0, hd1⟩ := h
  have b21 := ivM_21 hIM
  have b22 := ivM_22 hIM
  obtain ⟨y1, y2, y3, y4, -, -⟩ := hu.2.2.2.2.2.2.2.2
  unfold F_A_range F_M_range f_A_isHouse f_A_isTodayOrLater f_M_isDay f_T_isGone
  rw [hasT hIM e23, e27]
  by_cases c1 : f_M_isStreet M a1 = 0
  · rw [if_pos c1, if_pos c1]; exact ⟨rfl, fun _ _ => hu⟩
  rw [if_neg c1, if_neg c1]
  have t1 := fb_M_isStreet hIM c1
  by_cases c2 : f_M_in a2 0 2 = 0
  · rw [if_pos (show f_A_isWithin a2 0 2 = 0 from c2), if_pos c2]; exact ⟨rfl, fun _ _ => hu⟩
  rw [if_neg (show ¬ f_A_isWithin a2 0 2 = 0 from c2), if_neg c2]
  have t2 := fb_M_in c2
  by_cases c3 : f_M_in a3 1 999 = 0
  · rw [if_pos (show f_A_isWithin a3 1 999 = 0 from c3), if_pos c3]; exact ⟨rfl, fun _ _ => hu⟩
  rw [if_neg (show ¬ f_A_isWithin a3 1 999 = 0 from c3), if_neg c3]
  have t3 := fb_M_in c3
  by_cases c4 : f_M_in a4 1 999 = 0
  · rw [if_pos (show f_A_isWithin a4 1 999 = 0 from c4), if_pos c4]; exact ⟨rfl, fun _ _ => hu⟩
  rw [if_neg (show ¬ f_A_isWithin a4 1 999 = 0 from c4), if_neg c4]
  have t4 := fb_M_in c4
  rw [show ((0) : Int32).toInt = 0 by decide, show ((2) : Int32).toInt = 2 by decide] at t2
  rw [show ((1) : Int32).toInt = 1 by decide, show ((999) : Int32).toInt = 999 by decide] at t3 t4
  have em := empty_iff (s := a2) (a := a3) (b := a4) t2 t3 t4
  by_cases c5 : f_M_in a5 (M 19 0) 1000000 = 0
  · rw [if_pos c5]
    by_cases c6 : f_A_highestOf a2 a4 < f_A_lowestOf a2 a3
    · rw [if_pos c6]; exact ⟨rfl, fun _ _ => hu⟩
    · rw [if_neg c6, if_pos (show f_A_isWithin a5 (M 19 0) 1000000 = 0 from c5)]; exact ⟨rfl, fun _ _ => hu⟩
  rw [if_neg c5, if_neg (show ¬ f_A_isWithin a5 (M 19 0) 1000000 = 0 from c5)]
  have t5 := fb_M_in c5
  rw [show ((1000000) : Int32).toInt = 1000000 by decide] at t5
  by_cases c6 : f_A_highestOf a2 a4 < f_A_lowestOf a2 a3
  · rw [if_pos c6]
    rcases em.mp c6 with q | ⟨q1, q2⟩
    · rw [if_pos q]; exact ⟨rfl, fun _ _ => hu⟩
    · by_cases q : a4 < a3
      · rw [if_pos q]; exact ⟨rfl, fun _ _ => hu⟩
      · rw [if_neg q, if_pos q1, if_pos q2]; exact ⟨rfl, fun _ _ => hu⟩
  rw [if_neg c6]
  have c7 : ¬ a4 < a3 := fun q => c6 (em.mpr (Or.inl q))
  have t7 := mt Int32.lt_iff_toInt_lt.mpr c7
  have hrest : (if a3 = a4 then (if f_M_isOfSide a2 a3 = 0 then (((-12) : Int32), M) else (if M 3 a1.toNatClampNeg < 0 then (if M 22 0 = 80 then ((-14), M) else (l_M_range_114 M a1 a2 a3 a4 a5 600 0)) else ((-13), M))) else (if M 3 a1.toNatClampNeg < 0 then (if M 22 0 = 80 then ((-14), M) else (l_M_range_114 M a1 a2 a3 a4 a5 600 0)) else ((-13), M))) = (if M 3 a1.toNatClampNeg < 0 then (if M 22 0 = 80 then ((-14), M) else (l_M_range_114 M a1 a2 a3 a4 a5 600 0)) else ((-13), M)) := by
    by_cases q : a3 = a4
    · rw [if_pos q, if_neg (fun w => c6 (em.mpr (Or.inr ⟨q, w⟩)))]
    · rw [if_neg q]
  rw [if_neg c7, hrest]
  have ea := cl_int t1.1
  rcases hS.1 a1.toNatClampNeg (by omega) with ⟨g1, g2⟩ | ⟨g1, -, g2, -⟩
  · rw [if_pos g1, if_pos (show M 3 a1.toNatClampNeg < 0 by rw [g2]; decide)]
    have z80 : ((80) : Int32).toInt = 80 := by decide
    have k := i32_inc (x := M 22 0) b22.1 (by omega)
    unfold f_R_hasRoomFor
    rw [e24]
    by_cases c8 : M 22 0 = 80
    · rw [if_pos c8, if_pos (show (80 : Int32) < M 22 0 + 1 by rw [c8]; decide), if_pos rfl]; exact ⟨rfl, fun _ _ => hu⟩
    have t8 : (M 22 0).toInt < 80 := by
      rcases Int.lt_or_eq_of_le b22.2 with q | q
      · exact q
      · exact absurd (Int32.toInt_inj.mp (q.trans z80.symm)) c8
    rw [if_neg c8, if_neg (show ¬ (80 : Int32) < M 22 0 + 1 from fun q => by have := Int32.lt_iff_toInt_lt.mp q; omega), if_neg (show ¬ (1 : Int32) = 0 by decide)]
    have hov : ∀ r : Int32, 0 ≤ r.toInt → r.toInt < (M 22 0).toInt → (f_R_isOver S r a2 a3 a4 = 0 ↔ f_M_isOver M r a2 a3 a4 = 0) := by
      intro r r0 r1
      have er := cl_int r0
      have g := hR.2.1 r.toNatClampNeg (by omega)
      have hs6 := hR.1.2 r.toNatClampNeg
      rw [e7] at hs6
      have x1 := overA_iff (r := r) (s := a2) (lo := a3) (hi := a4) hIM e7 hR.1 t2.1 t2.2 (by omega) (by omega) (by omega)
      have x2 := overM_iff (r := r) (s := a2) (lo := a3) (hi := a4) hIM t2.1 hs6.1 (by omega) (by omega) (by omega)
      exact Decidable.not_iff_not.mp (x1.trans x2.symm)
    have lp := rg_loop (S := S) (M := M) (a := a1) (d := a5) hI e24 e10 e6 hov 600 0 (by decide) (by rw [show ((0) : Int32).toInt = 0 by decide]; omega) (by omega)
    have sp := lo_spec (S := S) (a := a1) (s := a2) (lo := a3) (hi := a4) hI 600 0 (by decide) (by rw [show ((0) : Int32).toInt = 0 by decide, e24]; omega) (by omega)
    have el : f_R_leastOver S a1 a2 a3 a4 = l_R_leastOver_3 S a1 a2 a3 a4 600 0 := rfl
    rw [lp, el]
    by_cases c9 : l_R_leastOver_3 S a1 a2 a3 a4 600 0 = -1
    · rw [if_pos c9, if_pos c9]
      have en := cl_int b22.1
      have free : ∀ r : Nat, (r : Int) < (M 22 0).toInt → S 10 r = 1 → S 6 r = a1 → ∀ x : Int, inR a2.toInt a3.toInt a4.toInt x → ¬ inR (S 7 r).toInt (M 7 r).toInt (M 8 r).toInt x := by
        intro r hr hl hs x hx hy
        rcases sp with ⟨-, q⟩ | ⟨q, -⟩
        · have e1 : (nI r).toInt = r := nI_toInt (by omega)
          have e2 : (nI r).toNatClampNeg = r := nI_clamp (by omega)
          have w := q (nI r) (by rw [show ((0) : Int32).toInt = 0 by decide]; omega) (by rw [e24]; omega) (by rw [e2]; exact hl) (by rw [e2]; exact hs)
          have g := hR.2.1 r hr
          have x1 := overA_iff (r := nI r) (s := a2) (lo := a3) (hi := a4) hIM e7 hR.1 t2.1 t2.2 (by omega) (by omega) (by rw [e2]; omega)
          rw [e2, ← e7] at x1
          exact x1.mpr ⟨x, hx, hy⟩ w
        · rw [c9, i32_m1, show ((0) : Int32).toInt = 0 by decide] at q; omega
      refine ⟨?_, fun q1 q2 => ?_⟩
      · show (S 24 0 + 1) - 1 = (M 22 0 + 1) - 1
        rw [e24]
      · obtain ⟨rk, hr, hb, -⟩ := hS.rank b21.2
        have i12 : ∀ j, 0 ≤ (S 12 j).toInt := fun j => (iv_12 hI j).1
        have i11 : ∀ j, 0 ≤ (S 11 j).toInt := fun j => (iv_11 hI j).1
        have i24 : (S 24 0).toNatClampNeg = (M 22 0).toNatClampNeg := by rw [e24]
        refine ⟨⟨q1, q2⟩, ⟨⟨e22, e23, ?_, e25, rfl⟩, e0, e12, e5, ?_, ?_, ?_, e11, e13, e15⟩, hS.day t5.1, ?_, ?_, ?_, hY2.day t5.1, hY3.day t5.1, y1, y2, y3, y4, ?_, t5.2⟩
        · show S 24 0 + 1 = M 22 0 + 1
          rw [e24]
        · exact upd_eq e6 i24 rfl
        · exact upd_eq e7 i24 rfl
        · exact upd_eq e10 i24 rfl
        · obtain ⟨⟨r1, r1b⟩, r2, r3, r4, r5⟩ := hR
          show GR (upd (S 6) (S 24 0).toNatClampNeg a1) (upd (S 7) (S 24 0).toNatClampNeg a2) (upd (S 8) (S 24 0).toNatClampNeg (f_A_lowestOf a2 a3)) (upd (S 9) (S 24 0).toNatClampNeg (f_A_highestOf a2 a4)) (upd (S 10) (S 24 0).toNatClampNeg 1) (upd (M 7) (M 22 0).toNatClampNeg a3) (upd (M 8) (M 22 0).toNatClampNeg a4) (S 3) (M 22 0 + 1) (M 21 0)
          rw [i24]
          refine ⟨⟨fun j => ?_, fun j => ?_⟩, fun j hj => ?_, fun j hj => ?_, fun i j hi hj hij li lj hs x hx hy => ?_, fun j hj hl => ?_⟩
          · by_cases c : j = (M 22 0).toNatClampNeg
            · rw [c, upd_at, upd_at, upd_at, upd_at, upd_at]; exact ⟨rfl, rfl⟩
            · rw [upd_ne c, upd_ne c, upd_ne c, upd_ne c, upd_ne c]; exact r1 j
          · by_cases c : j = (M 22 0).toNatClampNeg
            · rw [c, upd_at]; exact t2
            · rw [upd_ne c]; exact r1b j
          · by_cases c : j = (M 22 0).toNatClampNeg
            · rw [c, upd_at, upd_at]; exact ⟨t3.1, by omega⟩
            · rw [upd_ne c, upd_ne c]; exact r2 j (by omega)
          · rw [upd_ne (by omega)]; exact r3 j (by omega)
          · by_cases c : i = (M 22 0).toNatClampNeg
            · have d : ¬ j = (M 22 0).toNatClampNeg := fun q => hij (c.trans q.symm)
              rw [c, upd_at, upd_at, upd_at] at hx
              rw [upd_ne d, upd_ne d, upd_ne d] at hy
              rw [upd_ne d] at lj
              rw [c, upd_at, upd_ne d] at hs
              exact free j (by omega) lj hs.symm x hx hy
            · by_cases d : j = (M 22 0).toNatClampNeg
              · rw [d, upd_at, upd_at, upd_at] at hy
                rw [upd_ne c, upd_ne c, upd_ne c] at hx
                rw [upd_ne c] at li
                rw [d, upd_at, upd_ne c] at hs
                exact free i (by omega) li hs x hy hx
              · rw [upd_ne c, upd_ne c, upd_ne c] at hx
                rw [upd_ne d, upd_ne d, upd_ne d] at hy
                rw [upd_ne c] at li
                rw [upd_ne d] at lj
                rw [upd_ne c, upd_ne d] at hs
                exact r4 i j (by omega) (by omega) hij li lj hs x hx hy
          · by_cases c : j = (M 22 0).toNatClampNeg
            · rw [c, upd_at]; exact ⟨t1.2.1, g1⟩
            · rw [upd_ne c] at hl ⊢; exact r5 j (by omega) hl
        · obtain ⟨p1, p2, p3, p4⟩ := hP
          refine ⟨p1, p2, fun j hj => ?_, fun j hj hl => ?_⟩
          · have := p3 j hj
            show (S 11 j).toInt < (M 22 0 + 1).toInt
            omega
          · show upd (S 10) (S 24 0).toNatClampNeg 1 (S 11 j).toNatClampNeg = 1
            have x1 := p3 j hj
            have x2 := cl_int (i11 j)
            rw [i24, upd_ne (by omega)]
            exact p4 j hj hl
        · refine (GY1.rng (nr := M 22 0) (hY1.day t5.1 i12 (fun x => MT_late hr hb hS.late t5.1 x)) i11 hP.2.2.1 (fun j hj => ?_))
          have c : ¬ j = (M 22 0).toNatClampNeg := by omega
          show upd (S 6) (S 24 0).toNatClampNeg a1 j = S 6 j ∧ upd (S 7) (S 24 0).toNatClampNeg a2 j = S 7 j ∧ upd (M 7) (M 22 0).toNatClampNeg a3 j = M 7 j ∧ upd (M 8) (M 22 0).toNatClampNeg a4 j = M 8 j
          rw [i24]
          exact ⟨upd_ne c, upd_ne c, upd_ne c, upd_ne c⟩
        · show 0 ≤ a5.toInt
          omega
    · rw [if_neg c9, if_neg c9]; exact ⟨rfl, fun _ _ => hu⟩
  · rw [if_neg (show ¬ S 3 a1.toNatClampNeg = 0 by rw [g1]; decide), if_neg (show ¬ M 3 a1.toNatClampNeg < 0 from fun q => by have := i32_lt0.mp q; omega)]; exact ⟨rfl, fun _ _ => hu⟩
