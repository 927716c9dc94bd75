/-- as a street goes into another one: the stays, midway (D: the points that have moved) -/
def q_JK (s6 s11 s12 s13 s14 s15 s16 s17 s18 s19 s20 m3 m4 m13 m14 m15 m16 m17 m18 : Nat → Int32) (ns np ny nk d b : Int32) (D : Nat → Prop) : Prop :=
  (∀ p : Int32, 0 ≤ p.toInt → p.toInt < np.toInt → ∃ k : Nat, Lst m13 nk p k ∧ m15 k = s17 (s14 p.toNatClampNeg).toNatClampNeg ∧ (s15 p.toNatClampNeg = 1 → m17 k = 1000000000 ∧ (D p.toNatClampNeg → m14 k = b) ∧ (¬ D p.toNatClampNeg → m14 k = s6 (s11 p.toNatClampNeg).toNatClampNeg)) ∧ (s15 p.toNatClampNeg = 0 → (m17 k).toInt ≤ d.toInt)) ∧
  (∀ k : Nat, (k : Int) < nk.toInt → (m13 k).toInt < np.toInt ∧ (m16 k).toInt ≤ d.toInt ∧ (¬ Lst m13 nk (m13 k) k → (m17 k).toInt ≤ d.toInt) ∧ (m14 k).toInt < ns.toInt ∧ (∀ e : Int32, (m16 k).toInt ≤ e.toInt → MT m3 m4 e (m14 k) = MT m3 m4 e (s12 (m13 k).toNatClampNeg)) ∧ (∀ e : Int32, e.toInt < d.toInt → hM m16 m17 k e → MT m3 m4 e (m14 k) = m14 k) ∧ (m18 k = 1 → (m16 k).toInt ≤ (m17 k).toInt ∧ (m17 k).toInt ≤ d.toInt)) ∧
  GY4 s16 s17 s18 s19 s20 m13 m15 m16 m17 m18 ny nk ∧
  (∀ k j : Nat, (k : Int) < nk.toInt → (j : Int) < nk.toInt → ∀ e : Int32, e.toInt < d.toInt → hM m16 m17 k e → hM m16 m17 j e → m14 k = m14 j → m15 k = m15 j → s13 (m13 k).toNatClampNeg = s13 (m13 j).toNatClampNeg → m13 k = m13 j) ∧
  (∀ j, 0 ≤ (m13 j).toInt) ∧ (∀ j, 0 ≤ (m16 j).toInt)
theorem jk_start {s6 s7 s11 s12 s13 s14 s15 s16 s17 s18 s19 s20 m3 m4 m7 m8 m13 m14 m15 m16 m17 m18 n3 n4 : Nat → Int32} {ns np ny nk day d b : Int32} (h1 : GY1 s6 s7 s11 s12 s14 s15 s16 s17 s19 m3 m4 m7 m8 m13 m14 m15 m17 ns np ny nk day) (h2 : GY2 s12 m3 m4 m13 m14 m16 m17 m18 ns np nk day) (h4 : GY4 s16 s17 s18 s19 s20 m13 m15 m16 m17 m18 ny nk) (h5 : GY5 s13 m13 m14 m15 m16 m17 nk)
    (hd : day.toInt ≤ d.toInt) (i12 : ∀ j, 0 ≤ (s12 j).toInt) (i13 : ∀ j, 0 ≤ (m13 j).toInt) (i14 : ∀ j, 0 ≤ (m14 j).toInt) (i16 : ∀ j, 0 ≤ (m16 j).toInt) {a : Int32}
    (E1 : ∀ e x : Int32, 0 ≤ x.toInt → x.toInt < ns.toInt → e.toInt < d.toInt → MT n3 n4 e x = MT m3 m4 e x)
    (E2 : ∀ e x : Int32, 0 ≤ x.toInt → x.toInt < ns.toInt → d.toInt ≤ e.toInt → MT n3 n4 e x = if MT m3 m4 e x = a then MT m3 m4 d b else MT m3 m4 e x) (D : Nat → Prop) (hD : ∀ j, ¬ D j) :
    q_JK s6 s11 s12 s13 s14 s15 s16 s17 s18 s19 s20 n3 n4 m13 m14 m15 m16 m17 m18 ns np ny nk d b D := by
  refine ⟨fun p p0 p1 => ?_, fun k hk => ?_, h4, fun k j hk hj e _ => h5 k j hk hj e, i13, i16⟩
  · obtain ⟨-, k, k1, k2, k3, k4⟩ := h1 p p0 p1
    exact ⟨k, k1, k2, fun hl => ⟨(k3 hl).1, fun q => absurd q (hD _), fun _ => (k3 hl).2.2.1⟩, fun hl => by have := (k4 hl).1; omega⟩
  · obtain ⟨x1, x2, x3, x4, x5, x6, x7⟩ := h2 k hk
    have y12 := (h1 (m13 k) (i13 k) x1).1.2.2
    refine ⟨x1, by omega, fun q => by have := x3 q; omega, x4, fun e he => ?_, fun e he hm => ?_, fun q => by have := x7 q; exact ⟨this.1, by omega⟩⟩
    · by_cases c : e.toInt < d.toInt
      · rw [E1 e _ (i14 k) x4 c, E1 e _ (i12 _) y12 c]; exact x5 e he
      · rw [E2 e _ (i14 k) x4 (by omega), E2 e _ (i12 _) y12 (by omega), x5 e he]
    · rw [E1 e _ (i14 k) x4 he]; exact x6 e hm
/-- one point moves -/
theorem jk_move {s6 s11 s12 s13 s14 s15 s16 s17 s18 s19 s20 m3 m4 m13 m14 m15 m16 m17 m18 : Nat → Int32} {ns np ny nk nk2 d b p : Int32} {D D2 : Nat → Prop} {κ : Nat} (h : q_JK s6 s11 s12 s13 s14 s15 s16 s17 s18 s19 s20 m3 m4 m13 m14 m15 m16 m17 m18 ns np ny nk d b D)
    (hnk0 : 0 ≤ nk.toInt) (hnk : nk2.toInt = nk.toInt + 1) (hp0 : 0 ≤ p.toInt) (hp1 : p.toInt < np.toInt) (hl : s15 p.toNatClampNeg = 1) (hk : Lst m13 nk p κ) (hm17 : m17 κ = 1000000000) (hm18 : m18 κ = 0) (h15 : m15 κ = s17 (s14 p.toNatClampNeg).toNatClampNeg) (hd1 : d.toInt ≤ 1000000) (hd0 : 0 ≤ d.toInt)
    (hD : ∀ j, D2 j ↔ (D j ∨ j = p.toNatClampNeg)) (hb1 : b.toInt < ns.toInt) (hmt : ∀ e : Int32, d.toInt ≤ e.toInt → MT m3 m4 e b = MT m3 m4 e (s12 p.toNatClampNeg))
    (b1 : (((s14 p.toNatClampNeg).toNatClampNeg : Nat) : Int) < ny.toInt) (b2 : s16 (s14 p.toNatClampNeg).toNatClampNeg = p) (b3 : (s18 (s14 p.toNatClampNeg).toNatClampNeg).toInt ≤ d.toInt) (b4 : s19 (s14 p.toNatClampNeg).toNatClampNeg = 1000001) :
    q_JK s6 s11 s12 s13 s14 s15 s16 s17 s18 s19 s20 m3 m4 (upd m13 nk.toNatClampNeg p) (upd m14 nk.toNatClampNeg b) (upd m15 nk.toNatClampNeg (m15 κ)) (upd m16 nk.toNatClampNeg d) (upd (upd m17 κ d) nk.toNatClampNeg 1000000000) (upd (upd m18 κ 0) nk.toNatClampNeg 0) ns np ny nk2 d b D2 := by
  obtain ⟨hP, hK, ⟨hF, hB, hV1, hV2, hU⟩, h5, i13, i16⟩ := h
  have ek := cl_int hnk0
  have zf : ((1000000000) : Int32).toInt = 1000000000 := by decide
  have zn : ((1000001) : Int32).toInt = 1000001 := by decide
  have hκ := hk.1
  have κn : κ ≠ nk.toNatClampNeg := by omega
  have mk : (m17 κ).toInt = 1000000000 := by rw [hm17, zf]
  have lN : Lst (upd m13 nk.toNatClampNeg p) nk2 p nk.toNatClampNeg := ⟨by omega, upd_at, fun j h1 h2 => by omega⟩
  -- an old stay, after
  have ho : ∀ j : Nat, j ≠ nk.toNatClampNeg → ∀ e : Int32, hM (upd m16 nk.toNatClampNeg d) (upd (upd m17 κ d) nk.toNatClampNeg 1000000000) j e → hM m16 m17 j e ∧ (j = κ → e.toInt < d.toInt) := by
    intro j c e q
    unfold hM at q ⊢
    rw [upd_ne c, upd_ne c] at q
    by_cases cj : j = κ
    · rw [cj, upd_at] at q
      rw [cj]
      exact ⟨⟨q.1, by omega⟩, fun _ => q.2⟩
    · rw [upd_ne cj] at q
      exact ⟨q, fun w => absurd w cj⟩
  have ho2 : ∀ j : Nat, j ≠ nk.toNatClampNeg → ∀ e : Int32, hM m16 m17 j e → (j = κ → e.toInt < d.toInt) → hM (upd m16 nk.toNatClampNeg d) (upd (upd m17 κ d) nk.toNatClampNeg 1000000000) j e := by
    intro j c e q w
    unfold hM at q ⊢
    rw [upd_ne c, upd_ne c]
    by_cases cj : j = κ
    · rw [cj, upd_at]
      rw [cj] at q
      exact ⟨q.1, w cj⟩
    · rw [upd_ne cj]; exact q
  refine ⟨fun q q0 q1 => ?_, fun j hj => ?_, ⟨fun j hj e he hd => ?_, fun s hs e he hd => ?_, fun s hs q => ?_, fun j hj q => ?_, hU⟩, fun k j hk' hj e he q1 q2 e1 e2 e3 => ?_, fun j => ?_, fun j => ?_⟩
  · by_cases c : q = p
    · rw [c]
      exact ⟨nk.toNatClampNeg, lN, by rw [upd_at]; exact h15, fun _ => ⟨upd_at, fun _ => upd_at, fun w => absurd ((hD _).mpr (Or.inr rfl)) w⟩, fun w => by rw [hl] at w; exact absurd w (by decide)⟩
    · obtain ⟨k, k1, k2, k3, k4⟩ := hP q q0 q1
      have hk1 := k1.1
      have kn : k ≠ nk.toNatClampNeg := by omega
      have kκ : k ≠ κ := fun w => c (by rw [← k1.2.1, w, hk.2.1])
      have cq : q.toNatClampNeg ≠ p.toNatClampNeg := cl_ne q0 hp0 c
      refine ⟨k, ⟨by omega, by rw [upd_ne kn]; exact k1.2.1, fun j h1 h2 => ?_⟩, by rw [upd_ne kn]; exact k2, fun w => ?_, fun w => ?_⟩
      · by_cases e : j = nk.toNatClampNeg
        · rw [e, upd_at]; exact fun w => c w.symm
        · rw [upd_ne e]; exact k1.2.2 j h1 (by omega)
      · rw [upd_ne kn, upd_ne kκ, upd_ne kn]
        obtain ⟨x1, x2, x3⟩ := k3 w
        exact ⟨x1, fun v => x2 (((hD _).mp v).resolve_right cq), fun v => x3 (fun u => v ((hD _).mpr (Or.inl u)))⟩
      · rw [upd_ne kn, upd_ne kκ]; exact k4 w
  · by_cases c : j = nk.toNatClampNeg
    · rw [c]
      refine ⟨by rw [upd_at]; exact hp1, by rw [upd_at]; exact Int.le_refl _, fun w => absurd (by rw [upd_at]; exact lN) w, by rw [upd_at]; exact hb1, fun e he => ?_, fun e he q => ?_, fun w => ?_⟩
      · rw [upd_at] at he
        rw [upd_at, upd_at]
        exact hmt e he
      · have q := (hM_at.mp q).1
        omega
      · rw [upd_at] at w; exact absurd w (by decide)
    · have hj2 : (j : Int) < nk.toInt := by omega
      obtain ⟨a1, a2, a3, a4, a5, a6, a7⟩ := hK j hj2
      refine ⟨by rw [upd_ne c]; exact a1, by rw [upd_ne c]; exact a2, fun w => ?_, by rw [upd_ne c]; exact a4, fun e he => ?_, fun e he q => ?_, fun w => ?_⟩
      · rw [upd_ne c]
        by_cases cj : j = κ
        · rw [cj, upd_at]; exact Int.le_refl _
        · rw [upd_ne cj]
          rw [upd_ne c] at w
          refine a3 (fun l => w ⟨by omega, by rw [upd_ne c], fun i g1 g2 => ?_⟩)
          by_cases ei : i = nk.toNatClampNeg
          · rw [ei, upd_at]
            intro v
            rw [← v] at l
            exact cj (lst_uniq l hk)
          · rw [upd_ne ei]; exact l.2.2 i g1 (by omega)
      · rw [upd_ne c] at he
        rw [upd_ne c, upd_ne c]; exact a5 e he
      · rw [upd_ne c]; exact a6 e he (ho j c e q).1
      · rw [upd_ne c] at w
        have cj : j ≠ κ := fun v => by rw [v, upd_at] at w; exact absurd w (by decide)
        rw [upd_ne cj] at w
        rw [upd_ne c, upd_ne c, upd_ne cj]; exact a7 w
  · by_cases c : j = nk.toNatClampNeg
    · rw [c] at he ⊢
      have q := hM_at.mp he
      refine ⟨(s14 p.toNatClampNeg).toNatClampNeg, b1, by rw [upd_at]; exact b2, by rw [upd_at]; exact h15.symm, ?_⟩
      unfold hM
      rw [b4, zn]
      exact ⟨by omega, by omega⟩
    · obtain ⟨s, x1, x2, x3, x4⟩ := hF j (by omega) e (ho j c e he).1 hd
      exact ⟨s, x1, by rw [upd_ne c]; exact x2, by rw [upd_ne c]; exact x3, x4⟩
  · obtain ⟨j, x1, x2, x3, x4⟩ := hB s hs e he hd
    have cn : j ≠ nk.toNatClampNeg := by omega
    by_cases c : j = κ ∧ ¬ e.toInt < d.toInt
    · rw [c.1] at x2 x3
      refine ⟨nk.toNatClampNeg, by omega, by rw [upd_at, ← x2]; exact hk.2.1.symm, by rw [upd_at]; exact x3, hM_at.mpr ⟨by omega, by omega⟩⟩
    · refine ⟨j, by omega, by rw [upd_ne cn]; exact x2, by rw [upd_ne cn]; exact x3, ho2 j cn e x4 (fun w => Classical.byContradiction (fun v => c ⟨w, v⟩))⟩
  · obtain ⟨j, x1, x2, x3, x4, x5⟩ := hV1 s hs q
    have cn : j ≠ nk.toNatClampNeg := by omega
    have cj : j ≠ κ := fun v => by rw [v, hm18] at x2; exact absurd x2 (by decide)
    exact ⟨j, by omega, by rw [upd_ne cn, upd_ne cj]; exact x2, by rw [upd_ne cn]; exact x3, by rw [upd_ne cn]; exact x4, by rw [upd_ne cn, upd_ne cj]; exact x5⟩
  · have cn : j ≠ nk.toNatClampNeg := fun v => by rw [v, upd_at] at q; exact absurd q (by decide)
    rw [upd_ne cn] at q
    have cj : j ≠ κ := fun v => by rw [v, upd_at] at q; exact absurd q (by decide)
    rw [upd_ne cj] at q
    obtain ⟨s, x1, x2, x3, x4, x5⟩ := hV2 j (by omega) q
    exact ⟨s, x1, x2, by rw [upd_ne cn]; exact x3, by rw [upd_ne cn]; exact x4, by rw [upd_ne cn, upd_ne cj]; exact x5⟩
  · have c1 : k ≠ nk.toNatClampNeg := fun v => by rw [v] at q1; have := (hM_at.mp q1).1; omega
    have c2 : j ≠ nk.toNatClampNeg := fun v => by rw [v] at q2; have := (hM_at.mp q2).1; omega
    rw [upd_ne c1, upd_ne c2] at e1
    rw [upd_ne c1, upd_ne c2] at e2
    rw [upd_ne c1, upd_ne c2] at e3
    rw [upd_ne c1, upd_ne c2]
    exact h5 k j (by omega) (by omega) e he (ho k c1 e q1).1 (ho j c2 e q2).1 e1 e2 e3
  · by_cases c : j = nk.toNatClampNeg
    · rw [c, upd_at]; exact hp0
    · rw [upd_ne c]; exact i13 j
  · by_cases c : j = nk.toNatClampNeg
    · rw [c, upd_at]; exact hd0
    · rw [upd_ne c]; exact i16 j
/-- all have moved -/
theorem jk_end {s6 s7 s8 s9 s10 s11 s12 s13 s14 s15 s16 s17 s18 s19 s20 m3 m4 m7 m8 m13 m14 m15 m17 n3 n4 n13 n14 n15 n16 n17 n18 t6 g3 m16 m18 : Nat → Int32} {ns np nr ny nk nk2 day d b a : Int32} {D : Nat → Prop} (h : q_JK s6 s11 s12 s13 s14 s15 s16 s17 s18 s19 s20 n3 n4 n13 n14 n15 n16 n17 n18 ns np ny nk2 d b D)
    (h1 : GY1 s6 s7 s11 s12 s14 s15 s16 s17 s19 m3 m4 m7 m8 m13 m14 m15 m17 ns np ny nk day) (h2 : GY2 s12 m3 m4 m13 m14 m16 m17 m18 ns np nk day) (h5 : GY5 s13 m13 m14 m15 m16 m17 nk) (hP : GP s10 s11 s13 s15 np nr) (hR : GR t6 s7 s8 s9 s10 m7 m8 g3 nr ns) (hd : day.toInt ≤ d.toInt) (hd1 : d.toInt ≤ 1000000)
    (i11 : ∀ j, 0 ≤ (s11 j).toInt) (i15 : ∀ j, s15 j = 0 ∨ s15 j = 1) (hD : ∀ j : Nat, (j : Int) < np.toInt → s15 j = 1 → (D j ↔ s6 (s11 j).toNatClampNeg = a)) (ht : ∀ j : Nat, s10 j = 1 → t6 j = if s6 j = a then b else s6 j)
    (hroot : ∀ (j : Nat) (e : Int32), (j : Int) < nr.toInt → s10 j = 1 → MT n3 n4 e (t6 j) = t6 j) (hmt : ∀ p : Int32, 0 ≤ p.toInt → p.toInt < np.toInt → s15 p.toNatClampNeg = 1 → MT n3 n4 d (s12 p.toNatClampNeg) = t6 (s11 p.toNatClampNeg).toNatClampNeg) :
    GY1 t6 s7 s11 s12 s14 s15 s16 s17 s19 n3 n4 m7 m8 n13 n14 n15 n17 ns np ny nk2 d ∧ GY2 s12 n3 n4 n13 n14 n16 n17 n18 ns np nk2 d ∧ GY5 s13 n13 n14 n15 n16 n17 nk2 := by
  obtain ⟨hp, hK, -, h5p, i13, -⟩ := h
  have zf : ((1000000000) : Int32).toInt = 1000000000 := by decide
  have rng : ∀ p : Int32, 0 ≤ p.toInt → p.toInt < np.toInt → s15 p.toNatClampNeg = 1 → (((s11 p.toNatClampNeg).toNatClampNeg : Nat) : Int) < nr.toInt ∧ s10 (s11 p.toNatClampNeg).toNatClampNeg = 1 := by
    intro p p0 p1 pl
    have e := cl_int p0
    have e2 := cl_int (i11 p.toNatClampNeg)
    have x := hP.2.2.1 p.toNatClampNeg (by omega)
    exact ⟨by omega, hP.2.2.2 p.toNatClampNeg (by omega) pl⟩
  -- a live point's street
  have str : ∀ p : Int32, 0 ≤ p.toInt → p.toInt < np.toInt → s15 p.toNatClampNeg = 1 → ∀ v : Int32, (D p.toNatClampNeg → v = b) → (¬ D p.toNatClampNeg → v = s6 (s11 p.toNatClampNeg).toNatClampNeg) → v = t6 (s11 p.toNatClampNeg).toNatClampNeg := by
    intro p p0 p1 pl v x1 x2
    have e := cl_int p0
    have hd := hD p.toNatClampNeg (by omega) pl
    rw [ht _ (rng p p0 p1 pl).2]
    by_cases c : s6 (s11 p.toNatClampNeg).toNatClampNeg = a
    · rw [if_pos c]; exact x1 (hd.mpr c)
    · rw [if_neg c]; exact x2 (fun w => c (hd.mp w))
  have Y1 : GY1 t6 s7 s11 s12 s14 s15 s16 s17 s19 n3 n4 m7 m8 n13 n14 n15 n17 ns np ny nk2 d := by
    intro p p0 p1
    obtain ⟨x, k, k1, k2, k3, k4⟩ := h1 p p0 p1
    obtain ⟨j, j1, j2, j3, j4⟩ := hp p p0 p1
    refine ⟨x, j, j1, j2, fun hl => ?_, fun hl => ⟨j4 hl, by have := (k4 hl).2; omega⟩⟩
    obtain ⟨z1, z2, z3, z4, z5⟩ := k3 hl
    obtain ⟨w1, w2, w3⟩ := j3 hl
    rw [k2] at z5
    exact ⟨w1, z2, str p p0 p1 hl _ w2 w3, hmt p p0 p1 hl, by rw [j2]; exact z5⟩
  -- what holds later is the latest of a live point
  have late : ∀ k : Nat, (k : Int) < nk2.toInt → d.toInt < (n17 k).toInt → s15 (n13 k).toNatClampNeg = 1 ∧ n14 k = t6 (s11 (n13 k).toNatClampNeg).toNatClampNeg ∧ n15 k = s17 (s14 (n13 k).toNatClampNeg).toNatClampNeg := by
    intro k hk ho
    have x := hK k hk
    have hl : Lst n13 nk2 (n13 k) k := by
      refine Classical.byContradiction (fun q => ?_)
      have := x.2.2.1 q
      omega
    obtain ⟨-, j, j1, j2, j3, j4⟩ := Y1 (n13 k) (i13 k) x.1
    have e := lst_uniq hl j1
    subst e
    have lv : s15 (n13 k).toNatClampNeg = 1 := (i15 _).resolve_left (fun q => by have := (j4 q).1; omega)
    exact ⟨lv, (j3 lv).2.2.1, j2⟩
  refine ⟨Y1, fun k hk => ?_, fun k j hk hj e q1 q2 e1 e2 e3 => ?_⟩
  · obtain ⟨x1, x2, x3, x4, x5, x6, x7⟩ := hK k hk
    refine ⟨x1, x2, x3, x4, x5, fun e q => ?_, x7⟩
    by_cases c : e.toInt < d.toInt
    · exact x6 e c q
    · obtain ⟨l1, l2, l3⟩ := late k hk (by have := q.2; omega)
      rw [l2]
      have r := rng (n13 k) (i13 k) x1 l1
      exact hroot _ e r.1 r.2
  · by_cases c : e.toInt < d.toInt
    · exact h5p k j hk hj e c q1 q2 e1 e2 e3
    · have x := (hK k hk).1
      have y := (hK j hj).1
      obtain ⟨l1, l2, l3⟩ := late k hk (by have := q1.2; omega)
      obtain ⟨r1, r2, r3⟩ := late j hj (by have := q2.2; omega)
      have g1 := rng (n13 k) (i13 k) x l1
      have g2 := rng (n13 j) (i13 j) y r1
      obtain ⟨-, k0, u1, u2, u3, -⟩ := h1 (n13 k) (i13 k) x
      obtain ⟨-, j0, v1, v2, v3, -⟩ := h1 (n13 j) (i13 j) y
      obtain ⟨a1, -, a3, -, a5⟩ := u3 l1
      obtain ⟨c1, -, c3, -, c5⟩ := v3 r1
      have hh : m15 k0 = m15 j0 := by rw [u2, v2, ← l3, ← r3]; exact e2
      have same : (s11 (n13 k).toNatClampNeg).toNatClampNeg = (s11 (n13 j).toNatClampNeg).toNatClampNeg := by
        refine Classical.byContradiction (fun q => ?_)
        refine hR.2.2.2.1 _ _ g1.1 g2.1 q g1.2 g2.2 (by rw [← l2, ← r2]; exact e1) _ a5 ?_
        rw [hh]
        exact c5
      have w := h5 k0 j0 u1.1 v1.1 day ⟨(h2 k0 u1.1).2.1, by rw [a1, zf]; omega⟩ ⟨(h2 j0 v1.1).2.1, by rw [c1, zf]; omega⟩ (by rw [a3, c3, same]) hh (by rw [u1.2.1, v1.2.1]; exact e3)
      rw [u1.2.1, v1.2.1] at w
      exact w
