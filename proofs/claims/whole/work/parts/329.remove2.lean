theorem upd_id {f : Nat → Int32} {i : Nat} {v : Int32} (h : f i = v) : upd f i v = f := by
  funext j
  by_cases c : j = i
  · rw [c, upd_at, h]
  · rw [upd_ne c]
theorem upd_upd {f : Nat → Int32} {i : Nat} {v w : Int32} : upd (upd f i v) i w = upd f i w := by
  funext j
  by_cases c : j = i
  · rw [c, upd_at, upd_at]
  · rw [upd_ne c, upd_ne c, upd_ne c]
theorem st_last2 {M : BS} (b : (M 24 0).toInt ≤ 5000) {p : Int32} {k : Nat} (hk : Lst (M 13) (M 24 0) p k) : f_M_stayOf M p = nI k := by
  have z1 : ((1) : Int32).toInt = 1 := by decide
  have e0 := i32_sub (x := M 24 0) (y := 1) (by have := hk.1; omega) (by omega)
  have key : ∀ (n : Nat) (x : Int32), (k : Int) ≤ x.toInt → x.toInt < (M 24 0).toInt → x.toInt < (n : Int) → l_M_stayOf_7 M p n x = nI k := by
    intro n
    induction n with
    | zero => intro x h1 _ h3; exact absurd h3 (by omega)
    | succ n ih =>
      intro x h1 h2 h3
      have e := cl_int (x := x) (by omega)
      rw [l_M_stayOf_7]
      by_cases c : M 13 x.toNatClampNeg = p
      · rw [if_pos c]
        rcases Nat.lt_or_ge k x.toNatClampNeg with q | q
        · exact absurd c (hk.2.2 _ q (by omega))
        · have ek : k = x.toNatClampNeg := by omega
          rw [ek, nI_cl (by omega)]
      · rw [if_neg c]
        have d := i32_dec (x := x) (by omega) (by omega)
        refine ih (x + (-1)) ?_ (by omega) (by omega)
        rcases Nat.lt_or_ge k x.toNatClampNeg with q | q
        · omega
        · have ek : k = x.toNatClampNeg := by omega
          rw [← ek] at c
          exact absurd hk.2.1 c
  have := hk.1
  exact key 6000 (M 24 0 - 1) (by omega) (by omega) (by omega)
theorem stc {M : BS} (b : (M 24 0).toInt ≤ 5000) {p : Int32} {k : Nat} (hk : Lst (M 13) (M 24 0) p k) : (f_M_stayOf M p).toNatClampNeg = k := by
  have := hk.1
  rw [st_last2 b hk, nI_clamp (by omega)]
theorem endStay_eq {M : BS} (b : (M 24 0).toInt ≤ 5000) {p v : Int32} {k : Nat} (hk : Lst (M 13) (M 24 0) p k) : F_M_endStay M p v = upS 18 k v (upS 17 k (M 19 0) M) := by
  unfold F_M_endStay
  rw [stc b hk]
/-- the latest stay of a live point has not been left -/
theorem open_18 {s12 m3 m4 m13 m14 m16 m17 m18 : Nat → Int32} {ns np nk day : Int32} {k : Nat} (h : GY2 s12 m3 m4 m13 m14 m16 m17 m18 ns np nk day) (hk : (k : Int) < nk.toInt) (hm : m17 k = 1000000000) (hd : day.toInt ≤ 1000000) (hb : m18 k = 0 ∨ m18 k = 1) : m18 k = 0 :=
  hb.resolve_right (fun q => by
    have := ((h k hk).2.2.2.2.2.2 q).2
    rw [hm, show ((1000000000) : Int32).toInt = 1000000000 by decide] at this
    omega)
theorem GP.dead {s10 s11 s13 s15 : Nat → Int32} {np nr : Int32} (h : GP s10 s11 s13 s15 np nr) (i : Nat) : GP s10 s11 s13 (upd s15 i 0) np nr := by
  obtain ⟨p1, p2, p3, p4⟩ := h
  refine ⟨p1, fun j hj => ?_, p3, fun j hj w => ?_⟩
  · by_cases c : j = i
    · rw [c, upd_at]
    · rw [upd_ne c]; exact p2 j hj
  · by_cases c : j = i
    · rw [c, upd_at] at w; exact absurd w (by decide)
    · rw [upd_ne c] at w; exact p4 j hj w
theorem op_remove {n : Nat} {S M : BS} (h : RI n S M) (a1 a2 a3 : Int32) : (F_A_remove S a1 a3).1 = (F_M_changePoint M 4 a1 a2 a3).1 ∧ (IV (F_A_remove S a1 a3).2 → IVM (F_M_changePoint M 4 a1 a2 a3).2 → RI (n + 1) (F_A_remove S a1 a3).2 (F_M_changePoint M 4 a1 a2 a3).2) := by
  have hu := h.up
  obtain ⟨⟨hI, hIM⟩, ⟨⟨e22, e23, e24, e25, e27⟩, e0, e12, e5, e6, e7, e10, e11, e13, e15⟩, hS, hR, hP, hY1, hY2, hY3, hY4, hY5, hN, hT, hd0, hd1⟩ := h
  have b21 := ivM_21 hIM
  have b24 := ivM_24 hIM
  obtain ⟨y1, y2, y3, y4, -, -⟩ := hu.2.2.2.2.2.2.2.2
  unfold F_A_remove F_M_changePoint f_A_isTodayOrLater f_M_isDay
  simp only [if_neg (show ¬ (4 : Int32) = 3 by decide)]
  rw [hasQ hIM e25, e27, e15]
  by_cases c1 : f_M_isPoint M a1 = 0
  · rw [if_pos c1, if_pos c1]; exact ⟨rfl, fun _ _ => hu⟩
  rw [if_neg c1, if_neg c1]
  have t1 := fb_M_isPoint hIM c1
  by_cases c5 : f_M_in a3 (M 19 0) 1000000 = 0
  · rw [if_pos c5, if_pos (show f_A_isWithin a3 (M 19 0) 1000000 = 0 from c5)]; exact ⟨rfl, fun _ _ => hu⟩
  rw [if_neg c5, if_neg (show ¬ f_A_isWithin a3 (M 19 0) 1000000 = 0 from c5)]
  have t5 := fb_M_in c5
  rw [show ((1000000) : Int32).toInt = 1000000 by decide] at t5
  by_cases c6 : M 12 a1.toNatClampNeg = 0
  · rw [if_pos c6, if_pos c6]; exact ⟨rfl, fun _ _ => hu⟩
  rw [if_neg c6, if_neg c6]
  have hl : S 15 a1.toNatClampNeg = 1 := (i32_01 (iv_15 hI a1.toNatClampNeg)).resolve_left (by rw [e15]; exact c6)
  obtain ⟨⟨x1, x2, x3⟩, k, k1, k2, k3, -⟩ := hY1 a1 t1.1 t1.2.1
  obtain ⟨z1, z2, z3, z4, z5⟩ := k3 hl
  have m18k : M 18 k = 0 := open_18 hY2 k1.1 z1 hd1 (i32_01 (ivM_18 hIM k))
  rw [endStay_eq (M := upS 19 0 a3 M) (k := k) b24.2 k1]
  refine ⟨rfl, fun q1 q2 => ?_⟩
  obtain ⟨rk, hr, hb, -⟩ := hS.rank b21.2
  have ei := cl_int (iv_14 hI a1.toNatClampNeg).1
  have Y4 := (end_GY4 hY2 hY3 hY4 k1 (show (((S 14 a1.toNatClampNeg).toNatClampNeg : Nat) : Int) < (S 26 0).toInt by omega) x2 rfl k2 z1 z2 t5.1 t5.2).1
  have Y1 := end_GY1 hY1 t1.1 k1 x2 t5.1 (fun j => (iv_12 hI j).1) (fun x => MT_late hr hb hS.late t5.1 x)
  have Y2 := end_GY2 (n18 := M 18) hY2 z1 t5.1 t5.2 (fun _ _ => rfl)
  have Y3 := end_GY3 (t20 := S 20) hY3 (show (((S 14 a1.toNatClampNeg).toNatClampNeg : Nat) : Int) < (S 26 0).toInt by omega) t5.1 (fun _ _ => rfl)
  have Y5 := end_GY5 (d0 := a3) hY5 z1 t5.2
  have m18e : upd (M 18) k 0 = M 18 := upd_id m18k
  show RI (n + 1) (upS 27 0 a3 (upS 15 a1.toNatClampNeg 0 (upS 19 (S 14 a1.toNatClampNeg).toNatClampNeg a3 S))) (upS 12 a1.toNatClampNeg 0 (upS 18 k 0 (upS 17 k a3 (upS 19 0 a3 M))))
  refine ⟨⟨q1, q2⟩, ⟨⟨e22, e23, e24, e25, rfl⟩, e0, e12, e5, e6, e7, e10, e11, e13, upd_eq e15 rfl rfl⟩, hS.day t5.1, hR, GP.dead hP a1.toNatClampNeg, Y1, ?_, Y3, ?_, Y5, y3, y4, ?_, t5.2⟩
  · show GY2 (S 12) (M 3) (M 4) (M 13) (M 14) (M 16) (upd (M 17) k a3) (upd (M 18) k 0) (M 21 0) (M 23 0) (M 24 0) a3
    rw [m18e]; exact Y2
  · show GY4 (S 16) (S 17) (S 18) (upd (S 19) (S 14 a1.toNatClampNeg).toNatClampNeg a3) (S 20) (M 13) (M 15) (M 16) (upd (M 17) k a3) (upd (M 18) k 0) (S 26 0) (M 24 0)
    rw [m18e]; exact Y4
  · show 0 ≤ a3.toInt
    omega
