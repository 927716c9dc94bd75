theorem point_A (S : BS) (a1 a2 a3 : Int32) : upS 14 (((F_Q_add S a1 (S 6 a1.toNatClampNeg) a3).1).toNatClampNeg) ((F_Y_begin ((F_Q_add S a1 (S 6 a1.toNatClampNeg) a3).2) ((F_Q_add S a1 (S 6 a1.toNatClampNeg) a3).1) a2 (S 27 0)).1) ((F_Y_begin ((F_Q_add S a1 (S 6 a1.toNatClampNeg) a3).2) ((F_Q_add S a1 (S 6 a1.toNatClampNeg) a3).1) a2 (S 27 0)).2) =
    upS 14 (S 25 0).toNatClampNeg (S 26 0) (upS 26 0 (S 26 0 + 1) (upS 19 (S 26 0).toNatClampNeg 1000001 (upS 18 (S 26 0).toNatClampNeg (S 27 0) (upS 17 (S 26 0).toNatClampNeg a2 (upS 16 (S 26 0).toNatClampNeg (S 25 0) (upS 25 0 (S 25 0 + 1) (upS 15 (S 25 0).toNatClampNeg 1 (upS 13 (S 25 0).toNatClampNeg a3 (upS 12 (S 25 0).toNatClampNeg (S 6 a1.toNatClampNeg) (upS 11 (S 25 0).toNatClampNeg a1 S)))))))))) := by
  have e1 : (F_Q_add S a1 (S 6 a1.toNatClampNeg) a3).1 = S 25 0 := i32_as (S 25 0) 1
  rw [e1]
  have e2 : (F_Y_begin ((F_Q_add S a1 (S 6 a1.toNatClampNeg) a3).2) (S 25 0) a2 (S 27 0)).1 = S 26 0 := i32_as (S 26 0) 1
  rw [e2]
  rfl
theorem yfull {n : Nat} {S : BS} (hn : n < 512) (h : (S 26 0).toInt ≤ (n : Int)) : f_Y_isFull S = 0 := by
  unfold f_Y_isFull
  rw [if_pos (Int32.lt_iff_toInt_lt.mpr (by rw [show ((512) : Int32).toInt = 512 by decide]; omega))]
theorem op_point {n : Nat} {S M : BS} (hn : n < 512) (h : RI n S M) (a1 a2 a3 : Int32) : (F_A_point S a1 a2 a3).1 = (F_M_point M a1 a2 a3).1 ∧ (IV (F_A_point S a1 a2 a3).2 → IVM (F_M_point M a1 a2 a3).2 → RI (n + 1) (F_A_point S a1 a2 a3).2 (F_M_point M a1 a2 a3).2) := by
  have hu := h.up
  have hk := tk_eq h a1 a2 a3
  have he := fun {p : Int32} => house_eq h (p := p)
  obtain ⟨⟨hI, hIM⟩, ⟨⟨e22, e23, e24, e25, e27⟩, e0, e12, e5, e6, e7, e10, e11, e13, e15⟩, hS, hR, hP, hY1, hY2, hY3, hY4, hY5, hN, hT, hd0, hd1⟩ := h
  have b21 := ivM_21 hIM
  have b22 := ivM_22 hIM
  have b23 := ivM_23 hIM
  have b24 := ivM_24 hIM
  have b26 := iv_26 hI
  have hh := holds_iff (r := a1) (h := a2) hIM e7 hR.1
  have hs6 := hR.1.2 a1.toNatClampNeg
  have hm := hasM_iff (r := a1) (h := a2) hIM (by rw [← e7]; exact hs6.1)
  unfold F_A_point F_M_point f_A_isExtra
  rw [hasR hIM e24, e10]
  by_cases c1 : f_M_isRange M a1 = 0
  · rw [if_pos c1, if_pos c1]; exact ⟨rfl, fun _ _ => hu⟩
  rw [if_neg c1, if_neg c1]
  have t1 := fb_M_isRange hIM c1
  by_cases c2 : f_M_has M a1 a2 = 0
  · rw [if_pos c2, if_pos (show f_R_holds S a1 a2 = 0 from Classical.byContradiction (fun q => hm.mpr (hh.mp q) c2))]; exact ⟨rfl, fun _ _ => hu⟩
  rw [if_neg c2, if_neg (show ¬ f_R_holds S a1 a2 = 0 from hh.mpr (hm.mp c2))]
  have hin := hm.mp c2
  rw [← e7] at hin
  by_cases c3 : f_M_in a3 0 25 = 0
  · rw [if_pos c3, if_pos (show f_A_isWithin a3 0 25 = 0 from c3)]; exact ⟨rfl, fun _ _ => hu⟩
  rw [if_neg c3, if_neg (show ¬ f_A_isWithin a3 0 25 = 0 from c3)]
  have t3 := fb_M_in c3
  rw [z0, show ((25) : Int32).toInt = 25 by decide] at t3
  by_cases c4 : M 9 a1.toNatClampNeg = 0
  · rw [if_pos c4, if_pos c4]; exact ⟨rfl, fun _ _ => hu⟩
  rw [if_neg c4, if_neg c4]
  have hl : S 10 a1.toNatClampNeg = 1 := (i32_01 (iv_10 hI a1.toNatClampNeg)).resolve_left (by rw [e10]; exact c4)
  by_cases c5 : f_M_pointWith M a1 a2 a3 < 0
  rotate_left
  · rw [if_neg c5, if_neg (fun q => c5 (hk.mp q))]; exact ⟨rfl, fun _ _ => hu⟩
  rw [if_pos c5, if_pos (hk.mpr c5)]
  have ff := full_iff (x := M 23 0) (n := 120) (m := 120) (by decide) b23.2
  unfold f_Q_isFull
  rw [e25]
  by_cases c6 : M 23 0 = 120
  · rw [if_pos c6, if_neg (fun q => ff.mp q c6), if_neg (by decide)]; exact ⟨rfl, fun _ _ => hu⟩
  rw [if_neg c6, if_pos (ff.mpr c6), if_pos rfl, yfull hn hN.1, if_pos rfl, point_A, i32_as, e25, e27]
  have t6 := Int32.lt_iff_toInt_lt.mp (ff.mpr c6)
  rw [show ((120) : Int32).toInt = 120 by decide] at t6
  have k23 := i32_inc (x := M 23 0) b23.1 (by omega)
  have k24 := i32_inc (x := M 24 0) b24.1 (by omega)
  have k26 := i32_inc (x := S 26 0) b26.1 (by omega)
  have c23 := cl_int b23.1
  have ea := cl_int t1.1
  refine ⟨?_, fun q1 q2 => ?_⟩
  · show S 25 0 + 1 - 1 = M 23 0
    rw [i32_as, e25]
  have i13 : ∀ j, 0 ≤ (M 13 j).toInt := fun j => (ivM_13 hIM j).1
  have r5 := hR.2.2.2.2 a1.toNatClampNeg (by omega) hl
  have i6 := (iv_6 hI a1.toNatClampNeg).1
  have a11 : upd (S 11) (M 23 0).toNatClampNeg a1 (M 23 0).toNatClampNeg = a1 := upd_at
  have a12 : upd (S 12) (M 23 0).toNatClampNeg (S 6 a1.toNatClampNeg) (M 23 0).toNatClampNeg = S 6 a1.toNatClampNeg := upd_at
  have e65 : M 5 a1.toNatClampNeg = S 6 a1.toNatClampNeg := by rw [e6]
  have u : ∀ (f : Nat → Int32) (v : Int32) (j : Nat), (j : Int) < (M 23 0).toInt → upd f (M 23 0).toNatClampNeg v j = f j := fun f v j hj => upd_ne (by omega)
  have hend : ∀ j : Nat, (j : Int) < (M 24 0).toInt → M 13 j = M 23 0 → (M 17 j).toInt ≤ (M 19 0).toInt := fun j hj e => by
    have := (hY2 j hj).1
    rw [e] at this
    omega
  have hend2 : ∀ s : Nat, (s : Int) < (S 26 0).toInt → S 16 s = M 23 0 → (S 19 s).toInt ≤ (M 19 0).toInt := fun j hj e => by
    have := (hY3.1 j hj).1
    rw [e] at this
    omega
  have Y1 := beg_GY1 (t11 := upd (S 11) (M 23 0).toNatClampNeg a1) (t12 := upd (S 12) (M 23 0).toNatClampNeg (S 6 a1.toNatClampNeg)) (t15 := upd (S 15) (M 23 0).toNatClampNeg 1) (np2 := M 23 0 + 1) (ny2 := S 26 0 + 1) (nk2 := M 24 0 + 1) (p := M 23 0) (st := M 5 a1.toNatClampNeg) (x := a2) hY1 b23.1 (fun q h0 h1 h2 => by
      have := mt Int32.toInt_inj.mp h2
      omega) b26.1 k26 b24.1 k24 (fun j => (iv_14 hI j).1) (u _ _) (u _ _) (fun j hj => upd_ne hj) upd_at (by rw [a11]; exact e65) (by rw [a12]; exact r5.1) (by rw [a11, a12]; exact (root_at hS i6 r5.1 r5.2).2) (by rw [a11]; exact hin)
  have Y2 := beg_GY2 (t12 := upd (S 12) (M 23 0).toNatClampNeg (S 6 a1.toNatClampNeg)) (np2 := M 23 0 + 1) (nk2 := M 24 0 + 1) (p := M 23 0) (st := M 5 a1.toNatClampNeg) hY2 i13 (by omega) (by omega) b24.1 k24 (u _ _) (by rw [e65]; exact r5.1) (fun d _ => by rw [a12, e65]; exact ⟨(root_at hS i6 r5.1 r5.2).2, (root_at hS i6 r5.1 r5.2).2⟩) hend
  have Y3 := beg_GY3 (np2 := M 23 0 + 1) (ny2 := S 26 0 + 1) (p := M 23 0) hY3 (fun j => (iv_16 hI j).1) b23.1 (by omega) (by omega) b26.1 k26 hend2
  have c26 := cl_int b26.1
  have Y4 := beg_GY4 (ny2 := S 26 0 + 1) (nk2 := M 24 0 + 1) (p := M 23 0) (x := a2) (day := M 19 0) hY4 (hY3.2 _ (by omega)) b26.1 k26 b24.1 k24 hend2
  have sp := tk_spec hIM c5
  have fr := free_at (r := a1) (x := a2) (y := a3) hR hP hY1 hY2 (fun j => (iv_11 hI j).1) i13 (fun j => i32_01 (iv_15 hI j)) t1.1 t1.2.1 hl hin (fun q g0 g1 g2 g3 g4 g5 => sp q g0 g1 (by rw [← e15, g2]; decide) (by rw [← e11]; exact g3) (by rw [← e13]; exact g4) (by rw [← he g0 g1]; exact g5))
  have Y5 := beg_GY5 (t13 := upd (S 13) (M 23 0).toNatClampNeg a3) (np := M 23 0) (nk2 := M 24 0 + 1) (p := M 23 0) (st := M 5 a1.toNatClampNeg) (x := a2) (day := M 19 0) hY5 i13 (fun k hk => (hY2 k hk).1) (u _ _) b24.1 k24 (fun j j1 j2 j3 j4 j5 => fr j j1 j2 (by rw [j3]; exact e65) j4 (by rw [j5]; exact upd_at))
  show RI (n + 1) (upS 14 (M 23 0).toNatClampNeg (S 26 0) (upS 26 0 (S 26 0 + 1) (upS 19 (S 26 0).toNatClampNeg 1000001 (upS 18 (S 26 0).toNatClampNeg (M 19 0) (upS 17 (S 26 0).toNatClampNeg a2 (upS 16 (S 26 0).toNatClampNeg (M 23 0) (upS 25 0 (M 23 0 + 1) (upS 15 (M 23 0).toNatClampNeg 1 (upS 13 (M 23 0).toNatClampNeg a3 (upS 12 (M 23 0).toNatClampNeg (S 6 a1.toNatClampNeg) (upS 11 (M 23 0).toNatClampNeg a1 S)))))))))))
    (upS 24 0 (M 24 0 + 1) (upS 18 (M 24 0).toNatClampNeg 0 (upS 17 (M 24 0).toNatClampNeg 1000000000 (upS 16 (M 24 0).toNatClampNeg (M 19 0) (upS 15 (M 24 0).toNatClampNeg a2 (upS 14 (M 24 0).toNatClampNeg (M 5 a1.toNatClampNeg) (upS 13 (M 24 0).toNatClampNeg (M 23 0) (upS 23 0 (M 23 0 + 1) (upS 12 (M 23 0).toNatClampNeg 1 (upS 11 (M 23 0).toNatClampNeg a3 (upS 10 (M 23 0).toNatClampNeg a1 M)))))))))))
  refine ⟨⟨q1, q2⟩, ⟨⟨e22, e23, e24, rfl, e27⟩, e0, e12, e5, e6, e7, e10, upd_eq e11 rfl rfl, upd_eq e13 rfl rfl, upd_eq e15 rfl rfl⟩, hS, hR, ?_, Y1, Y2, Y3, Y4, Y5, ?_, ⟨hT.1, fun j => ?_⟩, hd0, hd1⟩
  · obtain ⟨p1, p2, p3, p4⟩ := hP
    show GP (S 10) (upd (S 11) (M 23 0).toNatClampNeg a1) (upd (S 13) (M 23 0).toNatClampNeg a3) (upd (S 15) (M 23 0).toNatClampNeg 1) (M 23 0 + 1) (M 22 0)
    refine ⟨fun j => ?_, fun j hj => ?_, fun j hj => ?_, fun j hj w => ?_⟩
    · by_cases c : j = (M 23 0).toNatClampNeg
      · rw [c, upd_at]; exact t3
      · rw [upd_ne c]; exact p1 j
    · rw [upd_ne (by omega)]; exact p2 j (by omega)
    · by_cases c : j = (M 23 0).toNatClampNeg
      · rw [c, upd_at]; exact t1.2.1
      · rw [upd_ne c]; exact p3 j (by omega)
    · by_cases c : j = (M 23 0).toNatClampNeg
      · rw [c, upd_at]; exact hl
      · rw [upd_ne c] at w
        rw [upd_ne c]; exact p4 j (by omega) w
  · obtain ⟨n1, n2⟩ := hN
    show (S 26 0 + 1).toInt ≤ ((n + 1 : Nat) : Int) ∧ (M 24 0 + 1).toInt ≤ ((n + 1 : Nat) : Int) + 120 * ((cn (S 3) (fun x => decide (x = 1)) 32 : Nat) : Int)
    omega
  · show 0 ≤ (upd (M 16) (M 24 0).toNatClampNeg (M 19 0) j).toInt
    by_cases c : j = (M 24 0).toNatClampNeg
    · rw [c, upd_at]; exact hd0
    · rw [upd_ne c]; exact hT.2 j
