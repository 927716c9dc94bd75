theorem renumber_A (S : BS) (a1 a2 a3 : Int32) : upS 27 0 a3 (upS 14 a1.toNatClampNeg ((F_Y_begin (upS 20 ((S 14 a1.toNatClampNeg).toNatClampNeg) 1 (F_Y_end S (S 14 a1.toNatClampNeg) a3)) a1 a2 a3).1) ((F_Y_begin (upS 20 ((S 14 a1.toNatClampNeg).toNatClampNeg) 1 (F_Y_end S (S 14 a1.toNatClampNeg) a3)) a1 a2 a3).2)) =
    upS 27 0 a3 (upS 14 a1.toNatClampNeg (S 26 0) (upS 26 0 (S 26 0 + 1) (upS 19 (S 26 0).toNatClampNeg 1000001 (upS 18 (S 26 0).toNatClampNeg a3 (upS 17 (S 26 0).toNatClampNeg a2 (upS 16 (S 26 0).toNatClampNeg a1 (upS 20 (S 14 a1.toNatClampNeg).toNatClampNeg 1 (upS 19 (S 14 a1.toNatClampNeg).toNatClampNeg a3 S)))))))) := by
  have e2 : (F_Y_begin (upS 20 ((S 14 a1.toNatClampNeg).toNatClampNeg) 1 (F_Y_end S (S 14 a1.toNatClampNeg) a3)) a1 a2 a3).1 = S 26 0 := i32_as (S 26 0) 1
  rw [e2]
  rfl
theorem op_renumber {n : Nat} {S M : BS} (hn : n < 512) (h : RI n S M) (a1 a2 a3 : Int32) : (F_A_renumber S a1 a2 a3).1 = (F_M_changePoint M 3 a1 a2 a3).1 ∧ (IV (F_A_renumber S a1 a2 a3).2 → IVM (F_M_changePoint M 3 a1 a2 a3).2 → RI (n + 1) (F_A_renumber S a1 a2 a3).2 (F_M_changePoint M 3 a1 a2 a3).2) := by
  have hu := h.up
  have hk := tk_eq h (S 11 a1.toNatClampNeg) a2 (S 13 a1.toNatClampNeg)
  have he := fun {p : Int32} => house_eq h (p := p)
  obtain ⟨⟨hI, hIM⟩, ⟨⟨e22, e23, e24, e25, e27⟩, e0, e12, e5, e6, e7, e10, e11, e13, e15⟩, hS, hR, hP, hY1, hY2, hY3, hY4, hY5, hN, hT, hd0, hd1⟩ := h
  have b21 := ivM_21 hIM
  have b22 := ivM_22 hIM
  have b23 := ivM_23 hIM
  have b24 := ivM_24 hIM
  have b26 := iv_26 hI
  have hh := holds_iff (r := S 11 a1.toNatClampNeg) (h := a2) hIM e7 hR.1
  have hs6 := hR.1.2 (S 11 a1.toNatClampNeg).toNatClampNeg
  have hm := hasM_iff (r := S 11 a1.toNatClampNeg) (h := a2) hIM (by rw [← e7]; exact hs6.1)
  unfold F_A_renumber F_M_changePoint f_A_isTodayOrLater f_M_isDay
  simp only [if_pos (show (3 : Int32) = 3 from rfl)]
  rw [hasQ hIM e25, e27, e15, ← e11, ← e13]
  by_cases c1 : f_M_isPoint M a1 = 0
  · rw [if_pos c1, if_pos c1]; exact ⟨rfl, fun _ _ => hu⟩
  rw [if_neg c1, if_neg c1]
  have t1 := fb_M_isPoint hIM c1
  by_cases c5 : f_M_in a3 (M 19 0) 1000000 = 0
  · rw [if_pos c5, if_pos (show f_A_isWithin a3 (M 19 0) 1000000 = 0 from c5)]; exact ⟨rfl, fun _ _ => hu⟩
  rw [if_neg c5, if_neg (show ¬ f_A_isWithin a3 (M 19 0) 1000000 = 0 from c5)]
  have t5 := fb_M_in c5
  rw [show ((1000000) : Int32).toInt = 1000000 by decide] at t5
  by_cases c2 : f_M_has M (S 11 a1.toNatClampNeg) a2 = 0
  · rw [if_pos c2, if_pos (show f_R_holds S (S 11 a1.toNatClampNeg) a2 = 0 from Classical.byContradiction (fun q => hm.mpr (hh.mp q) c2))]; exact ⟨rfl, fun _ _ => hu⟩
  rw [if_neg c2, if_neg (show ¬ f_R_holds S (S 11 a1.toNatClampNeg) a2 = 0 from hh.mpr (hm.mp c2))]
  have hin := hm.mp c2
  rw [← e7] at hin
  by_cases c6 : M 12 a1.toNatClampNeg = 0
  · rw [if_pos c6, if_pos c6]; exact ⟨rfl, fun _ _ => hu⟩
  rw [if_neg c6, if_neg c6]
  have hl : S 15 a1.toNatClampNeg = 1 := (i32_01 (iv_15 hI a1.toNatClampNeg)).resolve_left (by rw [e15]; exact c6)
  by_cases c7 : f_M_pointWith M (S 11 a1.toNatClampNeg) a2 (S 13 a1.toNatClampNeg) < 0
  rotate_left
  · rw [if_neg c7, if_neg (fun q => c7 (hk.mp q))]; exact ⟨rfl, fun _ _ => hu⟩
  rw [if_pos c7, if_pos (hk.mpr c7), yfull hn hN.1, if_pos rfl, renumber_A]
  obtain ⟨⟨x1, x2, x3⟩, k, k1, k2, k3, -⟩ := hY1 a1 t1.1 t1.2.1
  obtain ⟨z1, z2, z3, z4, z5⟩ := k3 hl
  rw [endStay_eq (M := upS 19 0 a3 M) (k := k) b24.2 k1]
  refine ⟨rfl, fun q1 q2 => ?_⟩
  have k24 := i32_inc (x := M 24 0) b24.1 (by omega)
  have k26 := i32_inc (x := S 26 0) b26.1 (by omega)
  have c26 := cl_int b26.1
  have ea := cl_int t1.1
  have e11i := cl_int (iv_11 hI a1.toNatClampNeg).1
  obtain ⟨rk, hr, hb, -⟩ := hS.rank b21.2
  have late := fun d (hd : (M 19 0).toInt ≤ d.toInt) => MT_late (d := d) hr hb hS.late hd
  have ei := cl_int (iv_14 hI a1.toNatClampNeg).1
  have hσ : (((S 14 a1.toNatClampNeg).toNatClampNeg : Nat) : Int) < (S 26 0).toInt := by omega
  have E4 := (end_GY4 hY2 hY3 hY4 k1 hσ x2 rfl k2 z1 z2 t5.1 t5.2).2
  have E1 := end_GY1 hY1 t1.1 k1 x2 t5.1 (fun j => (iv_12 hI j).1) (fun x => late a3 t5.1 x)
  have E2 := end_GY2 (n18 := upd (M 18) k 1) hY2 z1 t5.1 t5.2 (fun j hj => upd_ne hj)
  have E3 := end_GY3 (t20 := upd (S 20) (S 14 a1.toNatClampNeg).toNatClampNeg 1) hY3 hσ t5.1 (fun j hj => upd_ne hj)
  have E5 := end_GY5 (d0 := a3) hY5 z1 t5.2
  have i13 : ∀ j, 0 ≤ (M 13 j).toInt := fun j => (ivM_13 hIM j).1
  have w1 := hP.2.2.1 a1.toNatClampNeg (by omega)
  have w2 := hP.2.2.2 a1.toNatClampNeg (by omega) hl
  have r5 := hR.2.2.2.2 (S 11 a1.toNatClampNeg).toNatClampNeg (by omega) w2
  have i6 := (iv_6 hI (S 11 a1.toNatClampNeg).toNatClampNeg).1
  have e65 : M 5 (S 11 a1.toNatClampNeg).toNatClampNeg = S 6 (S 11 a1.toNatClampNeg).toNatClampNeg := by rw [e6]
  have hend : ∀ j : Nat, (j : Int) < (M 24 0).toInt → M 13 j = a1 → (upd (M 17) k a3 j).toInt ≤ a3.toInt := fun j hj e => by
    by_cases c : j = k
    · rw [c, upd_at]; exact Int.le_refl _
    · exact (E2 j hj).2.2.1 (fun l => c (lst_uniq (by rw [e] at l; exact l) k1))
  have hend2 : ∀ s : Nat, (s : Int) < (S 26 0).toInt → S 16 s = a1 → (upd (S 19) (S 14 a1.toNatClampNeg).toNatClampNeg a3 s).toInt ≤ a3.toInt := fun s hs e => by
    by_cases c : s = (S 14 a1.toNatClampNeg).toNatClampNeg
    · rw [c, upd_at]; exact Int.le_refl _
    · exact (E3.1 s hs).2.2 (fun l => c (by rw [e] at l; exact l.symm))
  have sp := tk_spec hIM c7
  have fr := free_at (r := S 11 a1.toNatClampNeg) (x := a2) (y := S 13 a1.toNatClampNeg) hR hP hY1 hY2 (fun j => (iv_11 hI j).1) i13 (fun j => i32_01 (iv_15 hI j)) (iv_11 hI a1.toNatClampNeg).1 w1 w2 hin (fun q g0 g1 g2 g3 g4 g5 => sp q g0 g1 (by rw [← e15, g2]; decide) (by rw [← e11]; exact g3) (by rw [← e13]; exact g4) (by rw [← he g0 g1]; exact g5))
  have Y1 := beg_GY1 (t11 := S 11) (t12 := S 12) (t15 := S 15) (np2 := M 23 0) (ny2 := S 26 0 + 1) (nk2 := M 24 0 + 1) (p := a1) (st := M 5 (S 11 a1.toNatClampNeg).toNatClampNeg) (x := a2) E1 t1.1 (fun q _ h1 _ => h1) b26.1 k26 b24.1 k24 (fun j => (iv_14 hI j).1) (fun _ _ => rfl) (fun _ _ => rfl) (fun j hj => (upd_ne hj).symm) hl e65 x3 ((late a3 t5.1 _ (iv_12 hI _).1 x3).trans z4) hin
  have Y2 := beg_GY2 (t12 := S 12) (np2 := M 23 0) (nk2 := M 24 0 + 1) (p := a1) (st := M 5 (S 11 a1.toNatClampNeg).toNatClampNeg) E2 i13 t1.2.1 (Int.le_refl _) b24.1 k24 (fun _ _ => rfl) (by rw [e65]; exact r5.1) (fun d hd => by rw [e65]; exact ⟨(root_at hS i6 r5.1 r5.2).2, (late d (by omega) _ (iv_12 hI _).1 x3).trans z4⟩) hend
  have Y3 := beg_GY3 (np2 := M 23 0) (ny2 := S 26 0 + 1) (p := a1) E3 (fun j => (iv_16 hI j).1) t1.1 t1.2.1 (Int.le_refl _) b26.1 k26 hend2
  have Y4 := beg_GY4 (ny2 := S 26 0 + 1) (nk2 := M 24 0 + 1) (p := a1) (x := a2) (day := a3) E4 (E3.2 _ (by omega)) b26.1 k26 b24.1 k24 hend2
  have Y5 := beg_GY5 (t13 := S 13) (np := M 23 0) (nk2 := M 24 0 + 1) (p := a1) (st := M 5 (S 11 a1.toNatClampNeg).toNatClampNeg) (x := a2) (day := a3) E5 i13 (fun k hk => (hY2 k hk).1) (fun _ _ => rfl) b24.1 k24 (fun j j1 j2 j3 j4 j5 => by
    by_cases c : j = k
    · rw [c, upd_at] at j2; omega
    · rw [upd_ne c] at j2
      exact fr j j1 (by omega) (by rw [j3]; exact e65) j4 j5)
  show RI (n + 1) (upS 27 0 a3 (upS 14 a1.toNatClampNeg (S 26 0) (upS 26 0 (S 26 0 + 1) (upS 19 (S 26 0).toNatClampNeg 1000001 (upS 18 (S 26 0).toNatClampNeg a3 (upS 17 (S 26 0).toNatClampNeg a2 (upS 16 (S 26 0).toNatClampNeg a1 (upS 20 (S 14 a1.toNatClampNeg).toNatClampNeg 1 (upS 19 (S 14 a1.toNatClampNeg).toNatClampNeg a3 S)))))))))
    (upS 24 0 (M 24 0 + 1) (upS 18 (M 24 0).toNatClampNeg 0 (upS 17 (M 24 0).toNatClampNeg 1000000000 (upS 16 (M 24 0).toNatClampNeg a3 (upS 15 (M 24 0).toNatClampNeg a2 (upS 14 (M 24 0).toNatClampNeg (M 5 (S 11 a1.toNatClampNeg).toNatClampNeg) (upS 13 (M 24 0).toNatClampNeg a1 (upS 18 k 1 (upS 17 k a3 (upS 19 0 a3 M))))))))))
  refine ⟨⟨q1, q2⟩, ⟨⟨e22, e23, e24, e25, rfl⟩, e0, e12, e5, e6, e7, e10, e11, e13, e15⟩, hS.day t5.1, hR, hP, Y1, Y2, Y3, Y4, Y5, ?_, ⟨hT.1, fun j => ?_⟩, ?_, t5.2⟩
  · obtain ⟨n1, n2⟩ := hN
    show (S 26 0 + 1).toInt ≤ ((n + 1 : Nat) : Int) ∧ (M 24 0 + 1).toInt ≤ ((n + 1 : Nat) : Int) + 120 * ((cn (S 3) (fun x => decide (x = 1)) 32 : Nat) : Int)
    omega
  · show 0 ≤ (upd (M 16) (M 24 0).toNatClampNeg a3 j).toInt
    by_cases c : j = (M 24 0).toNatClampNeg
    · rw [c, upd_at]; omega
    · rw [upd_ne c]; exact hT.2 j
  · show 0 ≤ a3.toInt
    omega
