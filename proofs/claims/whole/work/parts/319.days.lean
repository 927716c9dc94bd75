theorem GS.late {g3 g4 m3 m4 : Nat → Int32} {ns day : Int32} (h : GS g3 g4 m3 m4 ns day) : ∀ j : Nat, (j : Int) < ns.toInt → 0 ≤ (m3 j).toInt → (m4 j).toInt ≤ day.toInt := by
  intro j hj h0
  rcases h.1 j hj with ⟨-, q⟩ | ⟨-, -, -, q⟩
  · rw [q] at h0; exact absurd h0 (by decide)
  · exact q
theorem MT_late {m3 m4 : Nat → Int32} {ns day d : Int32} {rk : Nat → Nat} (hr : Rk m3 ns rk) (hb : ∀ j : Nat, (j : Int) < ns.toInt → rk j < 599) (hl : ∀ j : Nat, (j : Int) < ns.toInt → 0 ≤ (m3 j).toInt → (m4 j).toInt ≤ day.toInt) (hd : day.toInt ≤ d.toInt) : ∀ x : Int32, 0 ≤ x.toInt → x.toInt < ns.toInt → MT m3 m4 d x = MT m3 m4 day x := by
  intro x h0 h1
  rw [← MT_comp (d := day) (d2 := d) hr hb hd x h0 h1]
  obtain ⟨r0, r1, r2⟩ := MT_end (m4 := m4) (d := day) hr hb x h0 h1
  refine MT_stop (Or.inl ?_)
  rcases r2 with q | q
  · exact q
  · by_cases w : (m3 (MT m3 m4 day x).toNatClampNeg).toInt < 0
    · exact w
    · have e := cl_int r0
      have := hl (MT m3 m4 day x).toNatClampNeg (by omega) (by omega)
      omega
theorem GS.day {g3 g4 m3 m4 : Nat → Int32} {ns day day2 : Int32} (h : GS g3 g4 m3 m4 ns day) (hd : day.toInt ≤ day2.toInt) : GS g3 g4 m3 m4 ns day2 := by
  refine ⟨fun j hj => ?_, h.2⟩
  rcases h.1 j hj with q | ⟨q1, q2, q3, q4⟩
  · exact Or.inl q
  · exact Or.inr ⟨q1, q2, q3, by omega⟩
theorem GY1.day {s6 s7 s11 s12 s14 s15 s16 s17 s19 m3 m4 m7 m8 m13 m14 m15 m17 : Nat → Int32} {ns np ny nk day day2 : Int32} (h : GY1 s6 s7 s11 s12 s14 s15 s16 s17 s19 m3 m4 m7 m8 m13 m14 m15 m17 ns np ny nk day) (hd : day.toInt ≤ day2.toInt) (h0 : ∀ j, 0 ≤ (s12 j).toInt) (he : ∀ x : Int32, 0 ≤ x.toInt → x.toInt < ns.toInt → MT m3 m4 day2 x = MT m3 m4 day x) : GY1 s6 s7 s11 s12 s14 s15 s16 s17 s19 m3 m4 m7 m8 m13 m14 m15 m17 ns np ny nk day2 := by
  intro p hp hp2
  obtain ⟨⟨a1, a2, a3⟩, k, k1, k2, k3, k4⟩ := h p hp hp2
  refine ⟨⟨a1, a2, a3⟩, k, k1, k2, fun hl => ?_, fun hl => ?_⟩
  · obtain ⟨b1, b2, b3, b4, b5⟩ := k3 hl
    exact ⟨b1, b2, b3, by rw [he _ (h0 _) a3]; exact b4, b5⟩
  · have := k4 hl
    exact ⟨by omega, by omega⟩
theorem GY2.day {s12 m3 m4 m13 m14 m16 m17 m18 : Nat → Int32} {ns np nk day day2 : Int32} (h : GY2 s12 m3 m4 m13 m14 m16 m17 m18 ns np nk day) (hd : day.toInt ≤ day2.toInt) : GY2 s12 m3 m4 m13 m14 m16 m17 m18 ns np nk day2 := by
  intro k hk
  obtain ⟨a1, a2, a3, a4, a5, a6, a7⟩ := h k hk
  exact ⟨a1, by omega, fun q => by have := a3 q; omega, a4, a5, a6, fun q => by have := a7 q; exact ⟨this.1, by omega⟩⟩
theorem GY3.day {s14 s16 s18 s19 s20 : Nat → Int32} {np ny day day2 : Int32} (h : GY3 s14 s16 s18 s19 s20 np ny day) (hd : day.toInt ≤ day2.toInt) : GY3 s14 s16 s18 s19 s20 np ny day2 := by
  refine ⟨fun s hs => ?_, h.2⟩
  obtain ⟨a1, a2, a3⟩ := h.1 s hs
  exact ⟨a1, by omega, fun q => by have := a3 q; omega⟩
/-- other ranges than those that points have may change -/
theorem GY1.rng {s6 s7 s11 s12 s14 s15 s16 s17 s19 m3 m4 m7 m8 m13 m14 m15 m17 t6 t7 n7 n8 : Nat → Int32} {ns np ny nk day nr : Int32} (h : GY1 s6 s7 s11 s12 s14 s15 s16 s17 s19 m3 m4 m7 m8 m13 m14 m15 m17 ns np ny nk day) (h11 : ∀ j, 0 ≤ (s11 j).toInt) (hp : ∀ j : Nat, (j : Int) < np.toInt → (s11 j).toInt < nr.toInt) (he : ∀ j : Nat, (j : Int) < nr.toInt → t6 j = s6 j ∧ t7 j = s7 j ∧ n7 j = m7 j ∧ n8 j = m8 j) : GY1 t6 t7 s11 s12 s14 s15 s16 s17 s19 m3 m4 n7 n8 m13 m14 m15 m17 ns np ny nk day := by
  intro p hp1 hp2
  obtain ⟨a, k, k1, k2, k3, k4⟩ := h p hp1 hp2
  have e := cl_int hp1
  have e2 := cl_int (h11 p.toNatClampNeg)
  obtain ⟨x1, x2, x3, x4⟩ := he (s11 p.toNatClampNeg).toNatClampNeg (by have := hp p.toNatClampNeg (by omega); omega)
  refine ⟨a, k, k1, k2, fun hl => ?_, k4⟩
  rw [x1, x2, x3, x4]
  exact k3 hl
theorem liveR {S : BS} (hI : IV S) {r a : Int32} : f_R_isLiveOf S r a = 0 ↔ ¬ (S 10 r.toNatClampNeg = 1 ∧ S 6 r.toNatClampNeg = a) := by
  unfold f_R_isLiveOf
  have b := i32_01 (iv_10 hI r.toNatClampNeg)
  by_cases c : S 10 r.toNatClampNeg = 0
  · rw [if_pos c]
    exact ⟨fun _ q => by rw [c] at q; exact absurd q.1 (by decide), fun _ => rfl⟩
  · rw [if_neg c]
    have c1 := b.resolve_left c
    by_cases d : S 6 r.toNatClampNeg = a
    · rw [if_pos d]
      exact ⟨fun q => absurd q (by decide), fun q => absurd ⟨c1, d⟩ q⟩
    · rw [if_neg d]
      exact ⟨fun _ q => d q.2, fun _ => rfl⟩
/-- the least live range of a street over some houses -/
theorem lo_spec {S : BS} (hI : IV S) {a s lo hi : Int32} : ∀ (n : Nat) (x : Int32), 0 ≤ x.toInt → (S 24 0).toInt - x.toInt < (n : Int) → 1 ≤ n →
    (l_R_leastOver_3 S a s lo hi n x = -1 ∧ ∀ r : Int32, x.toInt ≤ r.toInt → r.toInt < (S 24 0).toInt → S 10 r.toNatClampNeg = 1 → S 6 r.toNatClampNeg = a → f_R_isOver S r s lo hi = 0) ∨
    (x.toInt ≤ (l_R_leastOver_3 S a s lo hi n x).toInt ∧ (l_R_leastOver_3 S a s lo hi n x).toInt < (S 24 0).toInt) := by
  have b := iv_24 hI
  intro n
  induction n with
  | zero => intro x _ _ h; exact absurd h (by omega)
  | succ n ih =>
    intro x h0 h1 h2
    rw [l_R_leastOver_3]
    by_cases c : S 24 0 ≤ x
    · rw [if_pos c]
      have := Int32.le_iff_toInt_le.mp c
      exact Or.inl ⟨rfl, fun r q1 q2 => by omega⟩
    · have t := mt Int32.le_iff_toInt_le.mpr c
      have k := i32_inc (x := x) h0 (by omega)
      have r1 := ih (x + 1) (by omega) (by omega) (by omega)
      rw [if_neg c]
      have step : (¬ (S 10 x.toNatClampNeg = 1 ∧ S 6 x.toNatClampNeg = a) ∨ f_R_isOver S x s lo hi = 0) → ((l_R_leastOver_3 S a s lo hi n (x + 1) = -1 ∧ ∀ r : Int32, x.toInt ≤ r.toInt → r.toInt < (S 24 0).toInt → S 10 r.toNatClampNeg = 1 → S 6 r.toNatClampNeg = a → f_R_isOver S r s lo hi = 0) ∨
    (x.toInt ≤ (l_R_leastOver_3 S a s lo hi n (x + 1)).toInt ∧ (l_R_leastOver_3 S a s lo hi n (x + 1)).toInt < (S 24 0).toInt)) := by
        intro w
        rcases r1 with ⟨q1, q2⟩ | ⟨q1, q2⟩
        · refine Or.inl ⟨q1, fun r p1 p2 p3 p4 => ?_⟩
          rcases Int.lt_or_eq_of_le p1 with e | e
          · exact q2 r (by omega) p2 p3 p4
          · have e := Int32.toInt_inj.mp e
            subst e
            rcases w with w | w
            · exact absurd ⟨p3, p4⟩ w
            · exact w
        · exact Or.inr ⟨by omega, q2⟩
      by_cases c2 : f_R_isLiveOf S x a = 0
      · rw [if_pos c2]; exact step (Or.inl ((liveR hI).mp c2))
      · rw [if_neg c2]
        by_cases c3 : f_R_isOver S x s lo hi = 0
        · rw [if_pos c3]; exact step (Or.inr c3)
        · rw [if_neg c3]; exact Or.inr ⟨Int.le_refl _, by omega⟩
