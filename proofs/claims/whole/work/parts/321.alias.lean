theorem cn_mono2 {f g : Nat → Int32} {q : Int32 → Bool} (h : ∀ j, q (f j) = true → q (g j) = true) : ∀ n, cn f q n ≤ cn g q n
  | 0 => Nat.le_refl 0
  | n + 1 => by
    have h1 := cn_mono2 h n
    rw [cn, cn]
    cases e : q (f n)
    · cases q (g n) <;> simp <;> omega
    · rw [h _ e]; simp; omega
theorem cn_lt2 {f g : Nat → Int32} {q : Int32 → Bool} (h : ∀ j, q (f j) = true → q (g j) = true) {z : Nat} (h1 : q (f z) = false) (h2 : q (g z) = true) : ∀ n, z < n → cn f q n + 1 ≤ cn g q n
  | 0, hz => absurd hz (Nat.not_lt_zero _)
  | n + 1, hz => by
    rw [cn, cn]
    rcases Nat.lt_or_ge z n with r | r
    · have k := cn_lt2 h h1 h2 n r
      cases e : q (f n)
      · cases q (g n) <;> simp <;> omega
      · rw [h _ e]; simp; omega
    · have e : z = n := by omega
      subst e
      have k := cn_mono2 h z
      rw [h1, h2]
      simp
      omega
theorem any_spec {S : BS} (hI : IV S) {a : Int32} : ∀ (n : Nat) (x : Int32), 0 ≤ x.toInt → (S 24 0).toInt - x.toInt < (n : Int) → 1 ≤ n → (l_R_anyLiveOf_2 S a n x = 0 ↔ ∀ r : Int32, x.toInt ≤ r.toInt → r.toInt < (S 24 0).toInt → ¬ (S 10 r.toNatClampNeg = 1 ∧ S 6 r.toNatClampNeg = a)) := by
  have b := iv_24 hI
  intro n
  induction n with
  | zero => intro x _ _ h; exact absurd h (by omega)
  | succ n ih =>
    intro x h0 h1 h2
    rw [l_R_anyLiveOf_2]
    by_cases c : S 24 0 ≤ x
    · rw [if_pos c]
      have := Int32.le_iff_toInt_le.mp c
      exact ⟨fun _ r q1 q2 => by omega, fun _ => rfl⟩
    · have t := mt Int32.le_iff_toInt_le.mpr c
      have k := i32_inc (x := x) h0 (by omega)
      rw [if_neg c]
      by_cases c2 : f_R_isLiveOf S x a = 0
      · rw [if_pos c2, ih (x + 1) (by omega) (by omega) (by omega)]
        constructor
        · intro q r p1 p2
          rcases Int.lt_or_eq_of_le p1 with e | e
          · exact q r (by omega) p2
          · have e := Int32.toInt_inj.mp e
            subst e
            exact (liveR hI).mp c2
        · intro q r p1 p2
          exact q r (by omega) p2
      · rw [if_neg c2]
        constructor
        · intro q; exact absurd q (by decide)
        · intro q; exact absurd ((liveR hI).mpr (q x (Int.le_refl _) (by omega))) c2
theorem al_loop {S M : BS} (hI : IV S) (e24 : S 24 0 = M 22 0) (e10 : S 10 = M 9) (e6 : S 6 = M 5) {a1 a2 a3 : Int32} : ∀ (n : Nat) (x : Int32), 0 ≤ x.toInt → (M 22 0).toInt - x.toInt < (n : Int) → 1 ≤ n →
    l_M_alias_49 M a1 a2 a3 n 1 x = ((-13), M) ∧ l_M_alias_49 M a1 a2 a3 n 0 x = if l_R_anyLiveOf_2 S a1 n x = 0 then (if f_M_meant M a2 a3 = a1 then (0, M) else (1, upS 19 0 a3 (upS 4 a1.toNatClampNeg a3 (upS 3 a1.toNatClampNeg a2 M)))) else ((-13), M) := by
  have b := iv_24 hI
  rw [e24] at b
  intro n
  induction n with
  | zero => intro x _ _ h; exact absurd h (by omega)
  | succ n ih =>
    intro x h0 h1 h2
    rw [l_M_alias_49, l_M_alias_49, l_R_anyLiveOf_2, e24]
    by_cases c : M 22 0 ≤ x
    · rw [if_pos c, if_pos c, if_pos c, if_neg (show ¬ (1 : Int32) = 0 by decide), if_pos rfl]
      exact ⟨rfl, rfl⟩
    · have t := mt Int32.le_iff_toInt_le.mpr c
      have k := i32_inc (x := x) h0 (by omega)
      obtain ⟨r1, r2⟩ := ih (x + 1) (by omega) (by omega) (by omega)
      rw [if_neg c, if_neg c, if_neg c, if_neg (show ¬ (1 : Int32) = 0 by decide), if_pos rfl, r1, r2]
      refine ⟨rfl, ?_⟩
      have lv := liveR (r := x) (a := a1) hI
      rw [e10, e6] at lv
      have bz := i32_01 (iv_10 hI x.toNatClampNeg)
      rw [e10] at bz
      by_cases c1 : M 9 x.toNatClampNeg = 0
      · rw [if_pos c1, if_pos (lv.mpr (fun q => by rw [c1] at q; exact absurd q.1 (by decide)))]
      · rw [if_neg c1]
        by_cases c2 : M 5 x.toNatClampNeg = a1
        · rw [if_pos c2, if_neg (fun q => lv.mp q ⟨bz.resolve_left c1, c2⟩), if_neg (show ¬ (1 : Int32) = 0 by decide)]
        · rw [if_neg c2, if_pos (lv.mpr (fun q => c2 q.2))]
theorem lst_uniq {m13 : Nat → Int32} {nk p : Int32} {i j : Nat} (h1 : Lst m13 nk p i) (h2 : Lst m13 nk p j) : i = j := by
  rcases Nat.lt_trichotomy i j with q | q | q
  · exact absurd h2.2.1 (h1.2.2 j q h2.1)
  · exact q
  · exact absurd h1.2.1 (h2.2.2 i q h1.1)
/-- a stay that holds later than the day is the latest one of a live point -/
theorem open_live {s6 s7 s11 s12 s14 s15 s16 s17 s19 m3 m4 m7 m8 m13 m14 m15 m16 m17 m18 : Nat → Int32} {ns np ny nk day : Int32} (h1 : GY1 s6 s7 s11 s12 s14 s15 s16 s17 s19 m3 m4 m7 m8 m13 m14 m15 m17 ns np ny nk day) (h2 : GY2 s12 m3 m4 m13 m14 m16 m17 m18 ns np nk day) (i13 : ∀ j, 0 ≤ (m13 j).toInt) (i15 : ∀ j, s15 j = 0 ∨ s15 j = 1) {k : Nat} (hk : (k : Int) < nk.toInt) (ho : day.toInt < (m17 k).toInt) : Lst m13 nk (m13 k) k ∧ s15 (m13 k).toNatClampNeg = 1 := by
  have hl : Lst m13 nk (m13 k) k := by
    refine Classical.byContradiction (fun q => ?_)
    have := (h2 k hk).2.2.1 q
    omega
  refine ⟨hl, (i15 _).resolve_left (fun q => ?_)⟩
  obtain ⟨-, j, j1, -, -, j4⟩ := h1 (m13 k) (i13 k) (h2 k hk).1
  have e := lst_uniq hl j1
  subst e
  have := (j4 q).1
  omega
/-- a street that has no live ranges goes into another one: stays and points -/
theorem alias_GY {s6 s7 s10 s11 s12 s13 s14 s15 s16 s17 s19 m3 m4 m7 m8 m13 m14 m15 m16 m17 m18 : Nat → Int32} {ns np nr ny nk day a b d0 : Int32} {rk : Nat → Nat} (hr : Rk m3 ns rk) (hb : ∀ j : Nat, (j : Int) < ns.toInt → rk j < 599) (hn : ns.toInt ≤ 32) (ha0 : 0 ≤ a.toInt) (ha1 : a.toInt < ns.toInt) (hb0 : 0 ≤ b.toInt) (hb1 : b.toInt < ns.toInt) (hroot : (m3 a.toNatClampNeg).toInt < 0)
    (hday : ∀ j : Nat, (j : Int) < ns.toInt → 0 ≤ (m3 j).toInt → (m4 j).toInt ≤ day.toInt) (hd : day.toInt ≤ d0.toInt) (hne : MT m3 m4 d0 b ≠ a) (hP : GP s10 s11 s13 s15 np nr) (i11 : ∀ j, 0 ≤ (s11 j).toInt) (i12 : ∀ j, 0 ≤ (s12 j).toInt) (i13 : ∀ j, 0 ≤ (m13 j).toInt) (i14 : ∀ j, 0 ≤ (m14 j).toInt) (i15 : ∀ j, s15 j = 0 ∨ s15 j = 1)
    (hno : ∀ r : Nat, (r : Int) < nr.toInt → s10 r = 1 → s6 r ≠ a)
    (h1 : GY1 s6 s7 s11 s12 s14 s15 s16 s17 s19 m3 m4 m7 m8 m13 m14 m15 m17 ns np ny nk day) (h2 : GY2 s12 m3 m4 m13 m14 m16 m17 m18 ns np nk day) :
    GY1 s6 s7 s11 s12 s14 s15 s16 s17 s19 (upd m3 a.toNatClampNeg b) (upd m4 a.toNatClampNeg d0) m7 m8 m13 m14 m15 m17 ns np ny nk d0 ∧ GY2 s12 (upd m3 a.toNatClampNeg b) (upd m4 a.toNatClampNeg d0) m13 m14 m16 m17 m18 ns np nk d0 := by
  obtain ⟨-, E1, E2⟩ := edge hr hb hn ha0 ha1 hb0 hb1 hroot (fun j hj h => by have := hday j hj h; omega) hne
  have live : ∀ p : Int32, 0 ≤ p.toInt → p.toInt < np.toInt → s15 p.toNatClampNeg = 1 → s6 (s11 p.toNatClampNeg).toNatClampNeg ≠ a := by
    intro p h0 h1 hl
    have e := cl_int h0
    have e2 := cl_int (i11 p.toNatClampNeg)
    have x := hP.2.2.1 p.toNatClampNeg (by omega)
    exact hno _ (by omega) (hP.2.2.2 p.toNatClampNeg (by omega) hl)
  have late := MT_late (d := d0) hr hb hday hd
  refine ⟨fun p hp0 hp1 => ?_, fun k hk => ?_⟩
  · obtain ⟨⟨x1, x2, x3⟩, k, k1, k2, k3, k4⟩ := h1 p hp0 hp1
    refine ⟨⟨x1, x2, x3⟩, k, k1, k2, fun hl => ?_, fun hl => by have := k4 hl; exact ⟨by omega, by omega⟩⟩
    obtain ⟨b1, b2, b3, b4, b5⟩ := k3 hl
    refine ⟨b1, b2, b3, ?_, b5⟩
    rw [E2 d0 _ (i12 _) x3 (Int.le_refl _), late _ (i12 _) x3, b4, if_neg (live p hp0 hp1 hl)]
  · obtain ⟨x1, x2, x3, x4, x5, x6, x7⟩ := h2 k hk
    have y12 := (h1 (m13 k) (i13 k) x1).1.2.2
    refine ⟨x1, by omega, fun q => by have := x3 q; omega, x4, fun d hm => ?_, fun d hm => ?_, fun q => by have := x7 q; exact ⟨this.1, by omega⟩⟩
    · by_cases c : d.toInt < d0.toInt
      · rw [E1 d _ (i14 k) x4 c, E1 d _ (i12 _) y12 c]; exact x5 d hm
      · rw [E2 d _ (i14 k) x4 (by omega), E2 d _ (i12 _) y12 (by omega), x5 d hm]
    · by_cases c : d.toInt < d0.toInt
      · rw [E1 d _ (i14 k) x4 c]; exact x6 d hm
      · obtain ⟨o1, o2⟩ := open_live h1 h2 i13 i15 hk (by have := hm.2; omega)
        obtain ⟨-, j, j1, -, j3, -⟩ := h1 (m13 k) (i13 k) x1
        have e := lst_uniq o1 j1
        subst e
        rw [E2 d _ (i14 k) x4 (by omega), x6 d hm, if_neg]
        rw [(j3 o2).2.2.1]
        exact live _ (i13 k) x1 o2
theorem op_alias {n : Nat} {S M : BS} (h : RI n S M) (a1 a2 a3 : Int32) : (F_A_alias S a1 a2 a3).1 = (F_M_alias M a1 a2 a3).1 ∧ (IV (F_A_alias S a1 a2 a3).2 → IVM (F_M_alias M a1 a2 a3).2 → RI (n + 1) (F_A_alias S a1 a2 a3).2 (F_M_alias M a1 a2 a3).2) := by
  have hu := h.up
  obtain ⟨⟨hI, hIM⟩, ⟨⟨e22, e23, e24, e25, e27⟩, e0, e12, e5, e6, e7, e10, e11, e13, e15⟩, hS, hR, hP, hY1, hY2, hY3, hY4, hY5, hN, hT, hd0, hd1⟩ := h
  have b21 := ivM_21 hIM
  have b22 := ivM_22 hIM
  obtain ⟨y1, y2, y3, y4, -, -⟩ := hu.2.2.2.2.2.2.2.2
  unfold F_A_alias F_M_alias f_A_isTodayOrLater f_M_isDay f_T_isGone
  rw [hasT hIM e23, hasT hIM e23, e27]
  by_cases c1 : f_M_isStreet M a1 = 0
  · rw [if_pos c1, if_pos c1]; exact ⟨rfl, fun _ _ => hu⟩
  rw [if_neg c1, if_neg c1]
  have t1 := fb_M_isStreet hIM c1
  by_cases c2 : f_M_isStreet M a2 = 0
  · rw [if_pos c2, if_pos c2]; exact ⟨rfl, fun _ _ => hu⟩
  rw [if_neg c2, if_neg c2]
  have t2 := fb_M_isStreet hIM c2
  by_cases c5 : f_M_in a3 (M 19 0) 1000000 = 0
  · rw [if_pos c5, if_pos (show f_A_isWithin a3 (M 19 0) 1000000 = 0 from c5)]; exact ⟨rfl, fun _ _ => hu⟩
  rw [if_neg c5, if_neg (show ¬ f_A_isWithin a3 (M 19 0) 1000000 = 0 from c5)]
  have t5 := fb_M_in c5
  rw [show ((1000000) : Int32).toInt = 1000000 by decide] at t5
  have ea := cl_int t1.1
  obtain ⟨L1, L0⟩ := al_loop (S := S) (M := M) (a1 := a1) (a2 := a2) (a3 := a3) hI e24 e10 e6 600 0 (by decide) (by rw [z0]; omega) (by omega)
  rcases hS.1 a1.toNatClampNeg (by omega) with ⟨g1, g2⟩ | ⟨g1, -, g2, -⟩
  · rw [if_pos g1, if_pos (show M 3 a1.toNatClampNeg < 0 by rw [g2]; decide), L0]
    have el : f_R_anyLiveOf S a1 = l_R_anyLiveOf_2 S a1 600 0 := rfl
    rw [el, mean_eq hIM e23 e5 hS t2.1 t2.2.1]
    have sp := any_spec (S := S) (a := a1) hI 600 0 (by decide) (by rw [z0, e24]; omega) (by omega)
    by_cases c6 : l_R_anyLiveOf_2 S a1 600 0 = 0
    · rw [if_pos c6, if_pos c6]
      by_cases c7 : f_M_meant M a2 a3 = a1
      · rw [if_pos c7, if_pos c7]; exact ⟨rfl, fun _ _ => hu⟩
      rw [if_neg c7, if_neg c7]
      refine ⟨rfl, fun q1 q2 => ?_⟩
      have hno : ∀ r : Nat, (r : Int) < (M 22 0).toInt → S 10 r = 1 → S 6 r ≠ a1 := by
        intro r hr hl hs
        have e1 : (nI r).toInt = r := nI_toInt (by omega)
        have e2 : (nI r).toNatClampNeg = r := nI_clamp (by omega)
        exact sp.mp c6 (nI r) (by rw [z0]; omega) (by rw [e24]; omega) (by rw [e2]; exact ⟨hl, hs⟩)
      rw [meant_MT] at c7
      obtain ⟨rk, hr, hb, -⟩ := hS.rank b21.2
      have hroot : (M 3 a1.toNatClampNeg).toInt < 0 := by rw [g2]; decide
      obtain ⟨E0, -, -⟩ := edge (m4 := M 4) (d0 := a3) hr hb b21.2 t1.1 t1.2.1 t2.1 t2.2.1 hroot (fun j hj h => by have := hS.late j hj h; omega) c7
      obtain ⟨Y1, Y2⟩ := alias_GY (d0 := a3) hr hb b21.2 t1.1 t1.2.1 t2.1 t2.2.1 hroot hS.late t5.1 c7 hP (fun j => (iv_11 hI j).1) (fun j => (iv_12 hI j).1) (fun j => (ivM_13 hIM j).1) (fun j => (ivM_14 hIM j).1) (fun j => i32_01 (iv_15 hI j)) hno hY1 hY2
      refine ⟨⟨q1, q2⟩, ⟨⟨e22, e23, e24, e25, rfl⟩, e0, e12, upd_eq e5 rfl rfl, e6, e7, e10, e11, e13, e15⟩, ⟨fun j hj => ?_, fun j hj => ?_, E0⟩, ?_, hP, Y1, Y2, hY3.day t5.1, y1, y2, ?_, y4, ?_, t5.2⟩
      · show (upd (S 3) a1.toNatClampNeg 1 j = 0 ∧ upd (M 3) a1.toNatClampNeg a2 j = -1) ∨ (upd (S 3) a1.toNatClampNeg 1 j = 1 ∧ upd (M 3) a1.toNatClampNeg a2 j = upd (S 4) a1.toNatClampNeg a2 j ∧ 0 ≤ (upd (M 3) a1.toNatClampNeg a2 j).toInt ∧ (upd (M 4) a1.toNatClampNeg a3 j).toInt ≤ a3.toInt)
        by_cases c : j = a1.toNatClampNeg
        · rw [c, upd_at, upd_at, upd_at, upd_at]; exact Or.inr ⟨rfl, rfl, t2.1, Int.le_refl _⟩
        · rw [upd_ne c, upd_ne c, upd_ne c, upd_ne c]
          exact (hS.day t5.1).1 j hj
      · show upd (S 3) a1.toNatClampNeg 1 j = 0 ∧ upd (M 3) a1.toNatClampNeg a2 j = 0
        have hj : (M 21 0).toInt ≤ (j : Int) := hj
        rw [upd_ne (by omega), upd_ne (by omega)]
        exact hS.2.1 j hj
      · obtain ⟨r1, r2, r3, r4, r5⟩ := hR
        refine ⟨r1, r2, r3, r4, fun j hj hl => ?_⟩
        obtain ⟨x1, x2⟩ := r5 j hj hl
        refine ⟨x1, ?_⟩
        show upd (S 3) a1.toNatClampNeg 1 (S 6 j).toNatClampNeg = 0
        rw [upd_ne (cl_ne (iv_6 hI j).1 t1.1 (hno j hj hl))]
        exact x2
      · refine ⟨y3.1, Int.le_trans y3.2 ?_⟩
        have := cn_mono2 (f := S 3) (g := upd (S 3) a1.toNatClampNeg 1) (q := fun x => decide (x = 1)) (fun j hj => by
          by_cases c : j = a1.toNatClampNeg
          · rw [c, upd_at]; rfl
          · rw [upd_ne c]; exact hj) 32
        show _ ≤ ((n + 1 : Nat) : Int) + 120 * ((cn (upd (S 3) a1.toNatClampNeg 1) (fun x => decide (x = 1)) 32 : Nat) : Int)
        omega
      · show 0 ≤ a3.toInt
        omega
    · rw [if_neg c6, if_neg c6]; exact ⟨rfl, fun _ _ => hu⟩
  · rw [if_neg (show ¬ S 3 a1.toNatClampNeg = 0 by rw [g1]; decide), if_neg (show ¬ M 3 a1.toNatClampNeg < 0 from fun q => by have := i32_lt0.mp q; omega), L1]; exact ⟨rfl, fun _ _ => hu⟩
