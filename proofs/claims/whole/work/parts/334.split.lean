theorem holds_raw {Z : BS} {r h s lo hi : Int32} (hs : 0 ≤ s.toInt ∧ s.toInt ≤ 2) (b1 : 0 ≤ lo.toInt ∧ lo.toInt ≤ 1000) (b2 : 0 ≤ hi.toInt ∧ hi.toInt ≤ 1000) (z7 : Z 7 r.toNatClampNeg = s) (z8 : Z 8 r.toNatClampNeg = f_A_lowestOf s lo) (z9 : Z 9 r.toNatClampNeg = f_A_highestOf s hi) : ¬ f_R_holds Z r h = 0 ↔ inR s.toInt lo.toInt hi.toInt h.toInt := by
  have k8 := lowA (s := s) (x := lo) hs.1 (by omega) (by omega)
  have k9 := highA (s := s) (x := hi) hs.1 (by omega) (by omega)
  obtain ⟨l1, -, -⟩ := lw_os (s := s.toInt) (x := lo.toInt) hs.1 hs.2
  rw [inR_lw hs.1 hs.2, ← k8, ← k9, ← z8, ← z9]
  rw [← z8] at k8
  unfold f_R_holds f_A_isWithin
  rw [z7]
  by_cases c1 : h < Z 8 r.toNatClampNeg
  · rw [if_pos c1, if_pos rfl]
    have := Int32.lt_iff_toInt_lt.mp c1
    constructor
    · intro q; exact absurd rfl q
    · intro q; omega
  · rw [if_neg c1]
    have t1 := mt Int32.lt_iff_toInt_lt.mpr c1
    by_cases c2 : Z 9 r.toNatClampNeg < h
    · rw [if_pos c2, if_pos rfl]
      have := Int32.lt_iff_toInt_lt.mp c2
      constructor
      · intro q; exact absurd rfl q
      · intro q; omega
    · rw [if_neg c2, if_neg (by decide)]
      have t2 := mt Int32.lt_iff_toInt_lt.mpr c2
      have o := osA hs.1 (h := h) (by omega)
      by_cases c3 : f_A_isOfSide s h = 0
      · rw [if_pos c3]
        constructor
        · intro q; exact absurd rfl q
        · intro q; exact absurd q.2.2 (o.mp c3)
      · rw [if_neg c3]
        constructor
        · intro _
          refine ⟨by omega, by omega, ?_⟩
          by_cases w : OS s.toInt h.toInt
          · exact w
          · exact absurd (o.mpr w) c3
        · intro _; decide
theorem low_eq {S M : BS} (hIM : IVM M) (e7 : S 7 = M 6) (hR : GR1 (S 7) (S 8) (S 9) (M 7) (M 8)) (r : Int32) : f_M_lowest M r = S 8 r.toNatClampNeg ∧ f_M_highest M r = S 9 r.toNatClampNeg := by
  obtain ⟨e8, e9⟩ := hR.1 r.toNatClampNeg
  have hs := hR.2 r.toNatClampNeg
  rw [e8, e9]
  unfold f_M_lowest f_M_highest f_A_lowestOf f_A_highestOf
  rw [← e7, os_eq hs.1 (ivM_7 hIM _).1, os_eq hs.1 (ivM_8 hIM _).1]
  exact ⟨rfl, rfl⟩
theorem upd_comm {f : Nat → Int32} {i j : Nat} {v w : Int32} (h : i ≠ j) : upd (upd f i v) j w = upd (upd f j w) i v := by
  funext a
  by_cases c : a = i
  · rw [c, upd_ne h, upd_at, upd_at]
  · by_cases d : a = j
    · rw [d, upd_at, upd_ne (fun q => h q.symm), upd_at]
    · rw [upd_ne d, upd_ne c, upd_ne c, upd_ne d]
/-- a range more -/
theorem GR.add {s6 s7 s8 s9 s10 m7 m8 g3 : Nat → Int32} {nr ns nr2 st sd lo hi : Int32} (h : GR s6 s7 s8 s9 s10 m7 m8 g3 nr ns) (hn0 : 0 ≤ nr.toInt) (hn : nr2.toInt = nr.toInt + 1) (t2 : 0 ≤ sd.toInt ∧ sd.toInt ≤ 2) (t3 : 1 ≤ lo.toInt) (t4 : lo.toInt ≤ hi.toInt) (t1 : st.toInt < ns.toInt) (g1 : g3 st.toNatClampNeg = 0)
    (free : ∀ r : Nat, (r : Int) < nr.toInt → s10 r = 1 → s6 r = st → ∀ x : Int, inR sd.toInt lo.toInt hi.toInt x → ¬ inR (s7 r).toInt (m7 r).toInt (m8 r).toInt x) :
    GR (upd s6 nr.toNatClampNeg st) (upd s7 nr.toNatClampNeg sd) (upd s8 nr.toNatClampNeg (f_A_lowestOf sd lo)) (upd s9 nr.toNatClampNeg (f_A_highestOf sd hi)) (upd s10 nr.toNatClampNeg 1) (upd m7 nr.toNatClampNeg lo) (upd m8 nr.toNatClampNeg hi) g3 nr2 ns := by
  obtain ⟨⟨r1, r1b⟩, r2, r3, r4, r5⟩ := h
  have en := cl_int hn0
  refine ⟨⟨fun j => ?_, fun j => ?_⟩, fun j hj => ?_, fun j hj => ?_, fun i j hi hj hij li lj hs x hx hy => ?_, fun j hj hl => ?_⟩
  · by_cases c : j = nr.toNatClampNeg
    · rw [c, upd_at, upd_at, upd_at, upd_at, upd_at]; exact ⟨rfl, rfl⟩
    · rw [upd_ne c, upd_ne c, upd_ne c, upd_ne c, upd_ne c]; exact r1 j
  · by_cases c : j = nr.toNatClampNeg
    · rw [c, upd_at]; exact t2
    · rw [upd_ne c]; exact r1b j
  · by_cases c : j = nr.toNatClampNeg
    · rw [c, upd_at, upd_at]; exact ⟨t3, t4⟩
    · rw [upd_ne c, upd_ne c]; exact r2 j (by omega)
  · rw [upd_ne (by omega)]; exact r3 j (by omega)
  · by_cases c : i = nr.toNatClampNeg
    · have d : ¬ j = nr.toNatClampNeg := fun q => hij (c.trans q.symm)
      rw [c, upd_at, upd_at, upd_at] at hx
      rw [upd_ne d, upd_ne d, upd_ne d] at hy
      rw [upd_ne d] at lj
      rw [c, upd_at, upd_ne d] at hs
      exact free j (by omega) lj hs.symm x hx hy
    · by_cases d : j = nr.toNatClampNeg
      · rw [d, upd_at, upd_at, upd_at] at hy
        rw [upd_ne c, upd_ne c, upd_ne c] at hx
        rw [upd_ne c] at li
        rw [d, upd_at, upd_ne c] at hs
        exact free i (by omega) li hs x hy hx
      · rw [upd_ne c, upd_ne c, upd_ne c] at hx
        rw [upd_ne d, upd_ne d, upd_ne d] at hy
        rw [upd_ne c] at li
        rw [upd_ne d] at lj
        rw [upd_ne c, upd_ne d] at hs
        exact r4 i j (by omega) (by omega) hij li lj hs x hx hy
  · by_cases c : j = nr.toNatClampNeg
    · rw [c, upd_at]; exact ⟨t1, g1⟩
    · rw [upd_ne c] at hl ⊢; exact r5 j (by omega) hl
theorem GY1.rg {s6 s7 s11 s12 s14 s15 s16 s17 s19 m3 m4 m7 m8 m13 m14 m15 m17 t6 t7 t11 n7 n8 : Nat → Int32} {ns np ny nk day : Int32} (h : GY1 s6 s7 s11 s12 s14 s15 s16 s17 s19 m3 m4 m7 m8 m13 m14 m15 m17 ns np ny nk day)
    (he : ∀ p : Int32, 0 ≤ p.toInt → p.toInt < np.toInt → s15 p.toNatClampNeg = 1 → t6 (t11 p.toNatClampNeg).toNatClampNeg = s6 (s11 p.toNatClampNeg).toNatClampNeg ∧ (inR (s7 (s11 p.toNatClampNeg).toNatClampNeg).toInt (m7 (s11 p.toNatClampNeg).toNatClampNeg).toInt (m8 (s11 p.toNatClampNeg).toNatClampNeg).toInt (s17 (s14 p.toNatClampNeg).toNatClampNeg).toInt → inR (t7 (t11 p.toNatClampNeg).toNatClampNeg).toInt (n7 (t11 p.toNatClampNeg).toNatClampNeg).toInt (n8 (t11 p.toNatClampNeg).toNatClampNeg).toInt (s17 (s14 p.toNatClampNeg).toNatClampNeg).toInt)) :
    GY1 t6 t7 t11 s12 s14 s15 s16 s17 s19 m3 m4 n7 n8 m13 m14 m15 m17 ns np ny nk day := by
  intro p h0 h1
  obtain ⟨a, k, k1, k2, k3, k4⟩ := h p h0 h1
  refine ⟨a, k, k1, k2, fun hl => ?_, k4⟩
  obtain ⟨b1, b2, b3, b4, b5⟩ := k3 hl
  obtain ⟨x1, x2⟩ := he p h0 h1 hl
  rw [k2] at b5
  exact ⟨b1, b2, by rw [x1]; exact b3, by rw [x1]; exact b4, by rw [k2]; exact x2 b5⟩
/-- where a point goes as its range is split -/
def q_NR (S : BS) (r a2 nr : Int32) (j : Nat) : Int32 := if S 15 j = 1 ∧ S 11 j = r then (if a2 ≤ S 17 (S 14 j).toNatClampNeg then nr + 1 else nr) else S 11 j
def q_SI (S A B : BS) (r a2 nr : Int32) (Z Y : BS) (x : Int32) : Prop := (∀ a, a ≠ 11 → Z a = A a) ∧ (∀ a, a ≠ 10 → Y a = B a) ∧ Z 11 = Y 10 ∧ ∀ j : Nat, Z 11 j = if (j : Int) < x.toInt then q_NR S r a2 nr j else S 11 j
theorem split_loop {S M A B : BS} {r a2 nr hi : Int32} (hA25 : A 25 0 = M 23 0) (hB23 : B 23 0 = M 23 0) (hA15 : A 15 = S 15) (hB12 : B 12 = S 15) (hA14 : A 14 = S 14) (hA17 : A 17 = S 17) (hB13 : B 13 = M 13) (hB24 : B 24 0 = M 24 0) (hB15 : B 15 = M 15) (hB22 : B 22 0 = nr + 1 + 1)
    (b23 : (M 23 0).toInt ≤ 120) (b24 : (M 24 0).toInt ≤ 5000) (i15 : ∀ j, S 15 j = 0 ∨ S 15 j = 1) (hY : ∀ p : Int32, 0 ≤ p.toInt → p.toInt < (M 23 0).toInt → ∃ k : Nat, Lst (M 13) (M 24 0) p k ∧ M 15 k = S 17 (S 14 p.toNatClampNeg).toNatClampNeg)
    (hH : ∀ p : Int32, 0 ≤ p.toInt → p.toInt < (M 23 0).toInt → S 15 p.toNatClampNeg = 1 → S 11 p.toNatClampNeg = r → ∀ Z : BS, (∀ a, a ≠ 11 → Z a = A a) → (f_R_holds Z nr (S 17 (S 14 p.toNatClampNeg).toNatClampNeg) = 0 ↔ a2 ≤ S 17 (S 14 p.toNatClampNeg).toNatClampNeg)) (hnr : nr + 1 + 1 - 2 = nr) :
    ∀ (n : Nat) (Z Y : BS) (c x : Int32), 0 ≤ x.toInt → x.toInt ≤ (M 23 0).toInt → (M 23 0).toInt - x.toInt < (n : Int) → 1 ≤ n → q_SI S A B r a2 nr Z Y x →
    ∃ (Z2 Y2 : BS) (c2 : Int32), l_A_giveToParts_6 r nr (nr + 1) n Z c x = (c2, Z2) ∧ l_M_split_62 r a2 n Y c hi x = (c2, Y2) ∧ q_SI S A B r a2 nr Z2 Y2 (M 23 0) := by
  intro n
  induction n with
  | zero => intro Z Y c x _ _ _ h; exact absurd h (by omega)
  | succ n ih =>
    intro Z Y c x h0 h3 h1 h2 hC
    obtain ⟨fA, fM, f10, f11⟩ := hC
    have z25 : Z 25 0 = M 23 0 := by rw [fA 25 (by decide)]; exact hA25
    have y23 : Y 23 0 = M 23 0 := by rw [fM 23 (by decide)]; exact hB23
    have z15 : Z 15 = S 15 := by rw [fA 15 (by decide)]; exact hA15
    have y12 : Y 12 = S 15 := by rw [fM 12 (by decide)]; exact hB12
    have z14 : Z 14 = S 14 := by rw [fA 14 (by decide)]; exact hA14
    have z17 : Z 17 = S 17 := by rw [fA 17 (by decide)]; exact hA17
    have y13 : Y 13 = M 13 := by rw [fM 13 (by decide)]; exact hB13
    have y24 : Y 24 0 = M 24 0 := by rw [fM 24 (by decide)]; exact hB24
    have y15 : Y 15 = M 15 := by rw [fM 15 (by decide)]; exact hB15
    have y22 : Y 22 0 = nr + 1 + 1 := by rw [fM 22 (by decide)]; exact hB22
    have ex := cl_int h0
    have hx : Z 11 x.toNatClampNeg = S 11 x.toNatClampNeg := by rw [f11, if_neg (by omega)]
    rw [l_A_giveToParts_6, l_M_split_62, z25, y23, z15, y12, ← f10, hx]
    by_cases c0 : M 23 0 ≤ x
    · rw [if_pos c0, if_pos c0]
      have t0 := Int32.le_iff_toInt_le.mp c0
      refine ⟨Z, Y, c, rfl, rfl, fA, fM, f10, fun j => ?_⟩
      rw [f11 j, show x.toInt = (M 23 0).toInt by omega]
    have t := mt Int32.le_iff_toInt_le.mpr c0
    have k := i32_inc (x := x) h0 (by omega)
    rw [if_neg c0, if_neg c0]
    have skip : ¬ (S 15 x.toNatClampNeg = 1 ∧ S 11 x.toNatClampNeg = r) → q_SI S A B r a2 nr Z Y (x + 1) := by
      intro w
      refine ⟨fA, fM, f10, fun j => ?_⟩
      by_cases cj : j = x.toNatClampNeg
      · rw [cj, hx, if_pos (by omega)]
        unfold q_NR
        rw [if_neg w]
      · rw [f11 j]
        by_cases cl : (j : Int) < x.toInt
        · rw [if_pos cl, if_pos (by omega)]
        · rw [if_neg cl, if_neg (by omega)]
    by_cases c1 : S 15 x.toNatClampNeg = 0
    · rw [if_pos c1, if_pos c1]
      exact ih Z Y c (x + 1) (by omega) (by omega) (by omega) (by omega) (skip (fun w => by rw [c1] at w; exact absurd w.1 (by decide)))
    rw [if_neg c1, if_neg c1]
    by_cases c2 : S 11 x.toNatClampNeg = r
    rotate_left
    · rw [if_neg c2, if_neg c2]
      exact ih Z Y c (x + 1) (by omega) (by omega) (by omega) (by omega) (skip (fun w => c2 w.2))
    have hl := (i15 x.toNatClampNeg).resolve_left c1
    obtain ⟨κ, k1, k2⟩ := hY x h0 (by omega)
    have eh : f_A_houseNow Z x = S 17 (S 14 x.toNatClampNeg).toNatClampNeg := by
      show Z 17 (Z 14 x.toNatClampNeg).toNatClampNeg = _
      rw [z17, z14]
    have em : f_M_houseOf Y x = S 17 (S 14 x.toNatClampNeg).toNatClampNeg := by
      unfold f_M_houseOf
      rw [stc (M := Y) (by rw [y24]; exact b24) (by rw [y13, y24]; exact k1), y15]
      exact k2
    have hh := hH x h0 (by omega) hl c2 Z fA
    have go : ∀ v : Int32, v = q_NR S r a2 nr x.toNatClampNeg → q_SI S A B r a2 nr (upS 11 x.toNatClampNeg v Z) (upS 10 x.toNatClampNeg v Y) (x + 1) := by
      intro v hv
      refine ⟨fun a ha => by rw [upS_ne ha]; exact fA a ha, fun a ha => by rw [upS_ne ha]; exact fM a ha, ?_, fun j => ?_⟩
      · show upd (Z 11) x.toNatClampNeg v = upd (Y 10) x.toNatClampNeg v
        rw [f10]
      · show upd (Z 11) x.toNatClampNeg v j = _
        by_cases cj : j = x.toNatClampNeg
        · rw [cj, upd_at, if_pos (by omega)]; exact hv
        · rw [upd_ne cj, f11 j]
          by_cases cl : (j : Int) < x.toInt
          · rw [if_pos cl, if_pos (by omega)]
          · rw [if_neg cl, if_neg (by omega)]
    rw [if_pos c2, if_pos c2, eh, em, y22]
    by_cases c3 : a2 ≤ S 17 (S 14 x.toNatClampNeg).toNatClampNeg
    · rw [if_pos c3, if_pos (hh.mpr c3), i32_as]
      refine ih _ _ (c + 1) (x + 1) (by omega) (by omega) (by omega) (by omega) (go _ ?_)
      unfold q_NR
      rw [if_pos ⟨hl, c2⟩, if_pos c3]
    · rw [if_neg c3, if_neg (fun q => c3 (hh.mp q)), hnr]
      refine ih _ _ (c + 1) (x + 1) (by omega) (by omega) (by omega) (by omega) (go _ ?_)
      unfold q_NR
      rw [if_pos ⟨hl, c2⟩, if_neg c3]
theorem split_A (S : BS) (a1 a2 a3 : Int32) (hne : a1.toNatClampNeg ≠ (S 24 0).toNatClampNeg) : F_A_giveToParts (upS 27 0 a3 (upS 10 a1.toNatClampNeg 0 ((F_R_add ((F_R_add S (S 6 a1.toNatClampNeg) (S 7 a1.toNatClampNeg) (S 8 a1.toNatClampNeg) (a2 - 1)).2) (S 6 a1.toNatClampNeg) (S 7 a1.toNatClampNeg) a2 (((F_R_add S (S 6 a1.toNatClampNeg) (S 7 a1.toNatClampNeg) (S 8 a1.toNatClampNeg) (a2 - 1)).2) 9 a1.toNatClampNeg)).2))) a1 ((F_R_add S (S 6 a1.toNatClampNeg) (S 7 a1.toNatClampNeg) (S 8 a1.toNatClampNeg) (a2 - 1)).1) ((F_R_add ((F_R_add S (S 6 a1.toNatClampNeg) (S 7 a1.toNatClampNeg) (S 8 a1.toNatClampNeg) (a2 - 1)).2) (S 6 a1.toNatClampNeg) (S 7 a1.toNatClampNeg) a2 (((F_R_add S (S 6 a1.toNatClampNeg) (S 7 a1.toNatClampNeg) (S 8 a1.toNatClampNeg) (a2 - 1)).2) 9 a1.toNatClampNeg)).1) = l_A_giveToParts_6 a1 (S 24 0) (S 24 0 + 1) 600 (upS 27 0 a3 (upS 10 a1.toNatClampNeg 0 (upS 24 0 (S 24 0 + 1 + 1) (upS 10 (S 24 0 + 1).toNatClampNeg 1 (upS 9 (S 24 0 + 1).toNatClampNeg (f_A_highestOf (S 7 a1.toNatClampNeg) (S 9 a1.toNatClampNeg)) (upS 8 (S 24 0 + 1).toNatClampNeg (f_A_lowestOf (S 7 a1.toNatClampNeg) a2) (upS 7 (S 24 0 + 1).toNatClampNeg (S 7 a1.toNatClampNeg) (upS 6 (S 24 0 + 1).toNatClampNeg (S 6 a1.toNatClampNeg) (upS 24 0 (S 24 0 + 1) (upS 10 (S 24 0).toNatClampNeg 1 (upS 9 (S 24 0).toNatClampNeg (f_A_highestOf (S 7 a1.toNatClampNeg) (a2 - 1)) (upS 8 (S 24 0).toNatClampNeg (f_A_lowestOf (S 7 a1.toNatClampNeg) (S 8 a1.toNatClampNeg)) (upS 7 (S 24 0).toNatClampNeg (S 7 a1.toNatClampNeg) (upS 6 (S 24 0).toNatClampNeg (S 6 a1.toNatClampNeg) S)))))))))))))) 0 0 := by
  have e1 : (F_R_add S (S 6 a1.toNatClampNeg) (S 7 a1.toNatClampNeg) (S 8 a1.toNatClampNeg) (a2 - 1)).1 = S 24 0 := i32_as (S 24 0) 1
  have e9 : ((F_R_add S (S 6 a1.toNatClampNeg) (S 7 a1.toNatClampNeg) (S 8 a1.toNatClampNeg) (a2 - 1)).2) 9 a1.toNatClampNeg = S 9 a1.toNatClampNeg := upd_ne (f := S 9) (i := (S 24 0).toNatClampNeg) (v := f_A_highestOf (S 7 a1.toNatClampNeg) (a2 - 1)) hne
  rw [e1, e9]
  have e2 : (F_R_add ((F_R_add S (S 6 a1.toNatClampNeg) (S 7 a1.toNatClampNeg) (S 8 a1.toNatClampNeg) (a2 - 1)).2) (S 6 a1.toNatClampNeg) (S 7 a1.toNatClampNeg) a2 (S 9 a1.toNatClampNeg)).1 = S 24 0 + 1 := i32_as (S 24 0 + 1) 1
  rw [e2]
  rfl
theorem split_M (M : BS) (a1 a2 a3 : Int32) (hne : a1.toNatClampNeg ≠ (M 22 0).toNatClampNeg) : F_M_split (upS 19 0 a3 M) a1 a2 = l_M_split_62 a1 a2 600 (upS 22 0 (M 22 0 + 1 + 1) (upS 9 (M 22 0 + 1).toNatClampNeg 1 (upS 8 (M 22 0 + 1).toNatClampNeg (f_M_highest M a1) (upS 7 (M 22 0 + 1).toNatClampNeg a2 (upS 6 (M 22 0 + 1).toNatClampNeg (M 6 a1.toNatClampNeg) (upS 5 (M 22 0 + 1).toNatClampNeg (M 5 a1.toNatClampNeg) (upS 22 0 (M 22 0 + 1) (upS 9 (M 22 0).toNatClampNeg 1 (upS 8 (M 22 0).toNatClampNeg (a2 - 1) (upS 7 (M 22 0).toNatClampNeg (f_M_lowest M a1) (upS 6 (M 22 0).toNatClampNeg (M 6 a1.toNatClampNeg) (upS 5 (M 22 0).toNatClampNeg (M 5 a1.toNatClampNeg) (upS 9 a1.toNatClampNeg 0 (upS 19 0 a3 M)))))))))))))) 0 (f_M_highest M a1) 0 := by
  have e5 : (F_M_addRange (upS 9 a1.toNatClampNeg 0 (upS 19 0 a3 M)) ((upS 19 0 a3 M) 5 a1.toNatClampNeg) ((upS 19 0 a3 M) 6 a1.toNatClampNeg) (f_M_lowest (upS 9 a1.toNatClampNeg 0 (upS 19 0 a3 M)) a1) (a2 - 1)) 5 a1.toNatClampNeg = M 5 a1.toNatClampNeg := upd_ne (f := M 5) (i := (M 22 0).toNatClampNeg) (v := M 5 a1.toNatClampNeg) hne
  have e6 : (F_M_addRange (upS 9 a1.toNatClampNeg 0 (upS 19 0 a3 M)) ((upS 19 0 a3 M) 5 a1.toNatClampNeg) ((upS 19 0 a3 M) 6 a1.toNatClampNeg) (f_M_lowest (upS 9 a1.toNatClampNeg 0 (upS 19 0 a3 M)) a1) (a2 - 1)) 6 a1.toNatClampNeg = M 6 a1.toNatClampNeg := upd_ne (f := M 6) (i := (M 22 0).toNatClampNeg) (v := M 6 a1.toNatClampNeg) hne
  unfold F_M_split
  rw [e5, e6]
  rfl
theorem op_split {n : Nat} {S M : BS} (h : RI n S M) (a1 a2 a3 : Int32) : (F_A_split S a1 a2 a3).1 = (F_M_changeRange M 1 a1 a2 a3).1 ∧ (IV (F_A_split S a1 a2 a3).2 → IVM (F_M_changeRange M 1 a1 a2 a3).2 → RI (n + 1) (F_A_split S a1 a2 a3).2 (F_M_changeRange M 1 a1 a2 a3).2) := by
  have hu := h.up
  obtain ⟨⟨hI, hIM⟩, ⟨⟨e22, e23, e24, e25, e27⟩, e0, e12, e5, e6, e7, e10, e11, e13, e15⟩, hS, hR, hP, hY1, hY2, hY3, hY4, hY5, hN, hT, hd0, hd1⟩ := h
  have b21 := ivM_21 hIM
  have b22 := ivM_22 hIM
  have b23 := ivM_23 hIM
  have b24 := ivM_24 hIM
  obtain ⟨y1, y2, y3, y4, -, -⟩ := hu.2.2.2.2.2.2.2.2
  obtain ⟨eL, eH⟩ := low_eq hIM e7 hR.1 a1
  unfold F_A_split F_M_changeRange f_A_isTodayOrLater f_M_isDay
  simp only [if_neg (show ¬ (1 : Int32) = 0 by decide), if_pos (show (1 : Int32) = 1 from rfl)]
  rw [hasR hIM e24, e27, eL, eH, ← e10]
  by_cases c1 : f_M_isRange M a1 = 0
  · rw [if_pos c1, if_pos c1]; exact ⟨rfl, fun _ _ => hu⟩
  rw [if_neg c1, if_neg c1]
  have t1 := fb_M_isRange hIM c1
  by_cases c5 : f_M_in a3 (M 19 0) 1000000 = 0
  · rw [if_pos c5, if_pos (show f_A_isWithin a3 (M 19 0) 1000000 = 0 from c5)]; exact ⟨rfl, fun _ _ => hu⟩
  rw [if_neg c5, if_neg (show ¬ f_A_isWithin a3 (M 19 0) 1000000 = 0 from c5)]
  have t5 := fb_M_in c5
  rw [show ((1000000) : Int32).toInt = 1000000 by decide] at t5
  by_cases c2 : a2 ≤ S 8 a1.toNatClampNeg
  · rw [if_pos c2, if_pos c2]; exact ⟨rfl, fun _ _ => hu⟩
  rw [if_neg c2, if_neg c2]
  by_cases c3 : a2 ≤ S 9 a1.toNatClampNeg
  rotate_left
  · rw [if_neg c3, if_neg c3]; exact ⟨rfl, fun _ _ => hu⟩
  rw [if_pos c3, if_pos c3]
  by_cases c6 : S 10 a1.toNatClampNeg = 0
  · rw [if_pos c6, if_pos c6]; exact ⟨rfl, fun _ _ => hu⟩
  rw [if_neg c6, if_neg c6]
  have hl : S 10 a1.toNatClampNeg = 1 := (i32_01 (iv_10 hI a1.toNatClampNeg)).resolve_left c6
  have z2 : ((2) : Int32).toInt = 2 := by decide
  have z1 : ((1) : Int32).toInt = 1 := by decide
  have z80 : ((80) : Int32).toInt = 80 := by decide
  have k2 := i32_add (x := M 22 0) (y := 2) (by omega) (by omega)
  have rm : M 22 0 + 2 ≤ 80 ↔ ¬ (80 : Int32) < M 22 0 + 2 := by
    rw [Int32.le_iff_toInt_le, Int32.lt_iff_toInt_lt]
    omega
  unfold f_R_hasRoomFor
  rw [e24]
  by_cases c7 : (80 : Int32) < M 22 0 + 2
  · rw [if_pos c7, if_pos rfl, if_neg (fun q => rm.mp q c7)]; exact ⟨rfl, fun _ _ => hu⟩
  rw [if_neg c7, if_neg (show ¬ (1 : Int32) = 0 by decide), if_pos (rm.mpr c7)]
  have t7 := Int32.le_iff_toInt_le.mp (rm.mpr c7)
  rw [k2, z80, z2] at t7
  have ea := cl_int t1.1
  have en := cl_int b22.1
  have hne : a1.toNatClampNeg ≠ (M 22 0).toNatClampNeg := by omega
  rw [split_A S a1 a2 a3 (by rw [e24]; exact hne), split_M M a1 a2 a3 hne, eL, eH, ← e7, ← e6, e24]
  have k22 := i32_inc (x := M 22 0) b22.1 (by omega)
  have k22b := i32_inc (x := M 22 0 + 1) (by omega) (by omega)
  have en1 := cl_int (x := M 22 0 + 1) (by omega)
  have hne1 : a1.toNatClampNeg ≠ (M 22 0 + 1).toNatClampNeg := by omega
  have hNN : (M 22 0).toNatClampNeg ≠ (M 22 0 + 1).toNatClampNeg := by omega
  have u2 := Int32.le_iff_toInt_le.mp c3
  have u1 := mt Int32.le_iff_toInt_le.mpr c2
  have g8 := iv_8 hI a1.toNatClampNeg
  have g9 := iv_9 hI a1.toNatClampNeg
  have ks := i32_sub (x := a2) (y := 1) (by omega) (by omega)
  rw [z1] at ks
  have hsd := hR.1.2 a1.toNatClampNeg
  have hr2 := hR.2.1 a1.toNatClampNeg (by omega)
  obtain ⟨g81, g91⟩ := hR.1.1 a1.toNatClampNeg
  have v7 := ivM_7 hIM a1.toNatClampNeg
  have v8 := ivM_8 hIM a1.toNatClampNeg
  have w8 := lowA (s := S 7 a1.toNatClampNeg) (x := M 7 a1.toNatClampNeg) hsd.1 (by omega) (by omega)
  have w9 := highA (s := S 7 a1.toNatClampNeg) (x := M 8 a1.toNatClampNeg) hsd.1 (by omega) (by omega)
  rw [← g81] at w8
  rw [← g91] at w9
  obtain ⟨l1, l2, l3⟩ := lw_os (s := (S 7 a1.toNatClampNeg).toInt) (x := (M 7 a1.toNatClampNeg).toInt) hsd.1 hsd.2
  obtain ⟨l4, l5, l6⟩ := hg_os (s := (S 7 a1.toNatClampNeg).toInt) (x := (M 8 a1.toNatClampNeg).toInt) hsd.1 hsd.2
  rw [← w8] at l1 l2 l3
  rw [← w9] at l4 l5 l6
  -- a house of the old one: by number
  have old : ∀ x : Int, inR (S 7 a1.toNatClampNeg).toInt (M 7 a1.toNatClampNeg).toInt (M 8 a1.toNatClampNeg).toInt x ↔ ((S 8 a1.toNatClampNeg).toInt ≤ x ∧ x ≤ (S 9 a1.toNatClampNeg).toInt ∧ OS (S 7 a1.toNatClampNeg).toInt x) := fun x => by
    rw [w8, w9]; exact inR_lw hsd.1 hsd.2
  have lowin : ∀ x : Int, inR (S 7 a1.toNatClampNeg).toInt (S 8 a1.toNatClampNeg).toInt (a2 - 1).toInt x ↔ (inR (S 7 a1.toNatClampNeg).toInt (M 7 a1.toNatClampNeg).toInt (M 8 a1.toNatClampNeg).toInt x ∧ x < a2.toInt) := fun x => by
    rw [old, ks]
    unfold inR
    constructor
    · rintro ⟨q1, q2, q3⟩; exact ⟨⟨q1, by omega, q3⟩, by omega⟩
    · rintro ⟨⟨q1, q2, q3⟩, q4⟩; exact ⟨q1, by omega, q3⟩
  have highin : ∀ x : Int, inR (S 7 a1.toNatClampNeg).toInt a2.toInt (S 9 a1.toNatClampNeg).toInt x ↔ (inR (S 7 a1.toNatClampNeg).toInt (M 7 a1.toNatClampNeg).toInt (M 8 a1.toNatClampNeg).toInt x ∧ a2.toInt ≤ x) := fun x => by
    rw [old]
    unfold inR
    constructor
    · rintro ⟨q1, q2, q3⟩; exact ⟨⟨by omega, by omega, q3⟩, by omega⟩
    · rintro ⟨⟨q1, q2, q3⟩, q4⟩; exact ⟨by omega, by omega, q3⟩
  have hnr : M 22 0 + 1 + 1 - 2 = M 22 0 := by
    apply Int32.toInt_inj.mp
    rw [i32_sub (by omega) (by omega)]
    omega
  have hH : ∀ p : Int32, 0 ≤ p.toInt → p.toInt < (M 23 0).toInt → S 15 p.toNatClampNeg = 1 → S 11 p.toNatClampNeg = a1 → ∀ Z : BS, (∀ a, a ≠ 11 → Z a = (upS 27 0 a3 (upS 10 a1.toNatClampNeg 0 (upS 24 0 (M 22 0 + 1 + 1) (upS 10 (M 22 0 + 1).toNatClampNeg 1 (upS 9 (M 22 0 + 1).toNatClampNeg (f_A_highestOf (S 7 a1.toNatClampNeg) (S 9 a1.toNatClampNeg)) (upS 8 (M 22 0 + 1).toNatClampNeg (f_A_lowestOf (S 7 a1.toNatClampNeg) a2) (upS 7 (M 22 0 + 1).toNatClampNeg (S 7 a1.toNatClampNeg) (upS 6 (M 22 0 + 1).toNatClampNeg (S 6 a1.toNatClampNeg) (upS 24 0 (M 22 0 + 1) (upS 10 (M 22 0).toNatClampNeg 1 (upS 9 (M 22 0).toNatClampNeg (f_A_highestOf (S 7 a1.toNatClampNeg) (a2 - 1)) (upS 8 (M 22 0).toNatClampNeg (f_A_lowestOf (S 7 a1.toNatClampNeg) (S 8 a1.toNatClampNeg)) (upS 7 (M 22 0).toNatClampNeg (S 7 a1.toNatClampNeg) (upS 6 (M 22 0).toNatClampNeg (S 6 a1.toNatClampNeg) S)))))))))))))) a) → (f_R_holds Z (M 22 0) (S 17 (S 14 p.toNatClampNeg).toNatClampNeg) = 0 ↔ a2 ≤ S 17 (S 14 p.toNatClampNeg).toNatClampNeg) := by
    intro p p0 p1 pl pr Z fA
    obtain ⟨-, k, -, k2, k3, -⟩ := hY1 p p0 p1
    obtain ⟨-, -, -, -, z5⟩ := k3 pl
    rw [pr, k2] at z5
    have z7 : Z 7 (M 22 0).toNatClampNeg = S 7 a1.toNatClampNeg := by
      rw [fA 7 (by decide)]
      show upd (upd (S 7) (M 22 0).toNatClampNeg (S 7 a1.toNatClampNeg)) (M 22 0 + 1).toNatClampNeg (S 7 a1.toNatClampNeg) (M 22 0).toNatClampNeg = _
      rw [upd_ne hNN, upd_at]
    have z8 : Z 8 (M 22 0).toNatClampNeg = f_A_lowestOf (S 7 a1.toNatClampNeg) (S 8 a1.toNatClampNeg) := by
      rw [fA 8 (by decide)]
      show upd (upd (S 8) (M 22 0).toNatClampNeg (f_A_lowestOf (S 7 a1.toNatClampNeg) (S 8 a1.toNatClampNeg))) (M 22 0 + 1).toNatClampNeg (f_A_lowestOf (S 7 a1.toNatClampNeg) a2) (M 22 0).toNatClampNeg = _
      rw [upd_ne hNN, upd_at]
    have z9 : Z 9 (M 22 0).toNatClampNeg = f_A_highestOf (S 7 a1.toNatClampNeg) (a2 - 1) := by
      rw [fA 9 (by decide)]
      show upd (upd (S 9) (M 22 0).toNatClampNeg (f_A_highestOf (S 7 a1.toNatClampNeg) (a2 - 1))) (M 22 0 + 1).toNatClampNeg (f_A_highestOf (S 7 a1.toNatClampNeg) (S 9 a1.toNatClampNeg)) (M 22 0).toNatClampNeg = _
      rw [upd_ne hNN, upd_at]
    have hh := holds_raw (Z := Z) (r := M 22 0) (h := S 17 (S 14 p.toNatClampNeg).toNatClampNeg) hsd (by omega) (by omega) z7 z8 z9
    rw [lowin] at hh
    rw [Int32.le_iff_toInt_le]
    constructor
    · intro q
      refine Classical.byContradiction (fun w => ?_)
      exact hh.mpr ⟨z5, by omega⟩ q
    · intro q
      refine Classical.byContradiction (fun w => ?_)
      have := (hh.mp w).2
      omega
  obtain ⟨Z, Y, c, L1, L2, fA, fM, f10, f11⟩ := split_loop (S := S) (M := M) (A := (upS 27 0 a3 (upS 10 a1.toNatClampNeg 0 (upS 24 0 (M 22 0 + 1 + 1) (upS 10 (M 22 0 + 1).toNatClampNeg 1 (upS 9 (M 22 0 + 1).toNatClampNeg (f_A_highestOf (S 7 a1.toNatClampNeg) (S 9 a1.toNatClampNeg)) (upS 8 (M 22 0 + 1).toNatClampNeg (f_A_lowestOf (S 7 a1.toNatClampNeg) a2) (upS 7 (M 22 0 + 1).toNatClampNeg (S 7 a1.toNatClampNeg) (upS 6 (M 22 0 + 1).toNatClampNeg (S 6 a1.toNatClampNeg) (upS 24 0 (M 22 0 + 1) (upS 10 (M 22 0).toNatClampNeg 1 (upS 9 (M 22 0).toNatClampNeg (f_A_highestOf (S 7 a1.toNatClampNeg) (a2 - 1)) (upS 8 (M 22 0).toNatClampNeg (f_A_lowestOf (S 7 a1.toNatClampNeg) (S 8 a1.toNatClampNeg)) (upS 7 (M 22 0).toNatClampNeg (S 7 a1.toNatClampNeg) (upS 6 (M 22 0).toNatClampNeg (S 6 a1.toNatClampNeg) S))))))))))))))) (B := (upS 22 0 (M 22 0 + 1 + 1) (upS 9 (M 22 0 + 1).toNatClampNeg 1 (upS 8 (M 22 0 + 1).toNatClampNeg (S 9 a1.toNatClampNeg) (upS 7 (M 22 0 + 1).toNatClampNeg a2 (upS 6 (M 22 0 + 1).toNatClampNeg (S 7 a1.toNatClampNeg) (upS 5 (M 22 0 + 1).toNatClampNeg (S 6 a1.toNatClampNeg) (upS 22 0 (M 22 0 + 1) (upS 9 (M 22 0).toNatClampNeg 1 (upS 8 (M 22 0).toNatClampNeg (a2 - 1) (upS 7 (M 22 0).toNatClampNeg (S 8 a1.toNatClampNeg) (upS 6 (M 22 0).toNatClampNeg (S 7 a1.toNatClampNeg) (upS 5 (M 22 0).toNatClampNeg (S 6 a1.toNatClampNeg) (upS 9 a1.toNatClampNeg 0 (upS 19 0 a3 M))))))))))))))) (r := a1) (a2 := a2) (nr := M 22 0) (hi := S 9 a1.toNatClampNeg) e25 rfl rfl e15.symm rfl rfl rfl rfl rfl rfl b23.2 b24.2 (fun j => i32_01 (iv_15 hI j)) (fun p p0 p1 => by
      obtain ⟨-, k, k1, k2, -⟩ := hY1 p p0 p1
      exact ⟨k, k1, k2⟩) hH hnr 600 (upS 27 0 a3 (upS 10 a1.toNatClampNeg 0 (upS 24 0 (M 22 0 + 1 + 1) (upS 10 (M 22 0 + 1).toNatClampNeg 1 (upS 9 (M 22 0 + 1).toNatClampNeg (f_A_highestOf (S 7 a1.toNatClampNeg) (S 9 a1.toNatClampNeg)) (upS 8 (M 22 0 + 1).toNatClampNeg (f_A_lowestOf (S 7 a1.toNatClampNeg) a2) (upS 7 (M 22 0 + 1).toNatClampNeg (S 7 a1.toNatClampNeg) (upS 6 (M 22 0 + 1).toNatClampNeg (S 6 a1.toNatClampNeg) (upS 24 0 (M 22 0 + 1) (upS 10 (M 22 0).toNatClampNeg 1 (upS 9 (M 22 0).toNatClampNeg (f_A_highestOf (S 7 a1.toNatClampNeg) (a2 - 1)) (upS 8 (M 22 0).toNatClampNeg (f_A_lowestOf (S 7 a1.toNatClampNeg) (S 8 a1.toNatClampNeg)) (upS 7 (M 22 0).toNatClampNeg (S 7 a1.toNatClampNeg) (upS 6 (M 22 0).toNatClampNeg (S 6 a1.toNatClampNeg) S)))))))))))))) (upS 22 0 (M 22 0 + 1 + 1) (upS 9 (M 22 0 + 1).toNatClampNeg 1 (upS 8 (M 22 0 + 1).toNatClampNeg (S 9 a1.toNatClampNeg) (upS 7 (M 22 0 + 1).toNatClampNeg a2 (upS 6 (M 22 0 + 1).toNatClampNeg (S 7 a1.toNatClampNeg) (upS 5 (M 22 0 + 1).toNatClampNeg (S 6 a1.toNatClampNeg) (upS 22 0 (M 22 0 + 1) (upS 9 (M 22 0).toNatClampNeg 1 (upS 8 (M 22 0).toNatClampNeg (a2 - 1) (upS 7 (M 22 0).toNatClampNeg (S 8 a1.toNatClampNeg) (upS 6 (M 22 0).toNatClampNeg (S 7 a1.toNatClampNeg) (upS 5 (M 22 0).toNatClampNeg (S 6 a1.toNatClampNeg) (upS 9 a1.toNatClampNeg 0 (upS 19 0 a3 M)))))))))))))) 0 0 (by decide) (by rw [z0]; omega) (by rw [z0]; omega) (by omega) ⟨fun _ _ => rfl, fun _ _ => rfl, e11, fun j => by rw [if_neg (by rw [z0]; omega)]; rfl⟩
  rw [L1, L2]
  refine ⟨rfl, fun q1 q2 => ?_⟩
  show RI (n + 1) Z Y
  obtain ⟨rk, hr, hb, -⟩ := hS.rank b21.2
  have i11 : ∀ j, 0 ≤ (S 11 j).toInt := fun j => (iv_11 hI j).1
  have r5 := hR.2.2.2.2 a1.toNatClampNeg (by omega) hl
  have K := hR.kill a1.toNatClampNeg
  have lv : ∀ j : Nat, upd (S 10) a1.toNatClampNeg 0 j = 1 → j ≠ a1.toNatClampNeg ∧ S 10 j = 1 := fun j q => by
    by_cases c : j = a1.toNatClampNeg
    · rw [c, upd_at] at q; exact absurd q (by decide)
    · rw [upd_ne c] at q; exact ⟨c, q⟩
  have K1 := K.add (nr2 := M 22 0 + 1) (st := S 6 a1.toNatClampNeg) (sd := S 7 a1.toNatClampNeg) (lo := S 8 a1.toNatClampNeg) (hi := a2 - 1) b22.1 k22 hsd (by omega) (by omega) r5.1 r5.2 (fun r hr hq hs x hx hy => by
    obtain ⟨c, q⟩ := lv r hq
    exact hR.2.2.2.1 r a1.toNatClampNeg hr (by omega) c q hl hs x hy ((lowin x).mp hx).1)
  have K2 := K1.add (nr2 := M 22 0 + 1 + 1) (st := S 6 a1.toNatClampNeg) (sd := S 7 a1.toNatClampNeg) (lo := a2) (hi := S 9 a1.toNatClampNeg) (by omega) k22b hsd (by omega) (by omega) r5.1 r5.2 (fun r hr hq hs x hx hy => by
    by_cases c : r = (M 22 0).toNatClampNeg
    · rw [c, upd_at, upd_at, upd_at] at hy
      have := ((lowin x).mp hy).2
      have := ((highin x).mp hx).2
      omega
    · rw [upd_ne c] at hq hs
      rw [upd_ne c, upd_ne c, upd_ne c] at hy
      obtain ⟨c2, q⟩ := lv r hq
      exact hR.2.2.2.1 r a1.toNatClampNeg (by omega) (by omega) c2 q hl hs x hy ((highin x).mp hx).1)
  have e10' : upd (upd (upd (S 10) (M 22 0).toNatClampNeg 1) (M 22 0 + 1).toNatClampNeg 1) a1.toNatClampNeg 0 = upd (upd (upd (S 10) a1.toNatClampNeg 0) (M 22 0).toNatClampNeg 1) (M 22 0 + 1).toNatClampNeg 1 := by
    rw [upd_comm (i := (M 22 0 + 1).toNatClampNeg) (j := a1.toNatClampNeg) (fun q => hne1 q.symm), upd_comm (i := (M 22 0).toNatClampNeg) (j := a1.toNatClampNeg) (fun q => hne q.symm)]
  -- a point's new range
  have T : ∀ j : Nat, (j : Int) < (M 23 0).toInt → S 15 j = 1 → (S 11 j ≠ a1 ∧ Z 11 j = S 11 j) ∨ (S 11 j = a1 ∧ a2 ≤ S 17 (S 14 j).toNatClampNeg ∧ Z 11 j = M 22 0 + 1) ∨ (S 11 j = a1 ∧ ¬ a2 ≤ S 17 (S 14 j).toNatClampNeg ∧ Z 11 j = M 22 0) := by
    intro j hj hlj
    have e := f11 j
    rw [if_pos hj] at e
    unfold q_NR at e
    by_cases c : S 11 j = a1
    · rw [if_pos ⟨hlj, c⟩] at e
      by_cases d : a2 ≤ S 17 (S 14 j).toNatClampNeg
      · rw [if_pos d] at e; exact Or.inr (Or.inl ⟨c, d, e⟩)
      · rw [if_neg d] at e; exact Or.inr (Or.inr ⟨c, d, e⟩)
    · rw [if_neg (fun w => c w.2)] at e
      exact Or.inl ⟨c, e⟩
  have T2 : ∀ j : Nat, Z 11 j = S 11 j ∨ Z 11 j = M 22 0 + 1 ∨ Z 11 j = M 22 0 := by
    intro j
    have e := f11 j
    unfold q_NR at e
    split at e
    · split at e
      · split at e
        · exact Or.inr (Or.inl e)
        · exact Or.inr (Or.inr e)
      · exact Or.inl e
    · exact Or.inl e
  have old2 : ∀ (f : Nat → Int32) (v w : Int32) (j : Nat), (j : Int) < (M 23 0).toInt → upd (upd f (M 22 0).toNatClampNeg v) (M 22 0 + 1).toNatClampNeg w (S 11 j).toNatClampNeg = f (S 11 j).toNatClampNeg := fun f v w j hj => by
    have x1 := hP.2.2.1 j hj
    have x2 := cl_int (i11 j)
    rw [upd_ne (by omega), upd_ne (by omega)]
  have A : ∀ a, a ≠ 11 → Z a = (upS 27 0 a3 (upS 10 a1.toNatClampNeg 0 (upS 24 0 (M 22 0 + 1 + 1) (upS 10 (M 22 0 + 1).toNatClampNeg 1 (upS 9 (M 22 0 + 1).toNatClampNeg (f_A_highestOf (S 7 a1.toNatClampNeg) (S 9 a1.toNatClampNeg)) (upS 8 (M 22 0 + 1).toNatClampNeg (f_A_lowestOf (S 7 a1.toNatClampNeg) a2) (upS 7 (M 22 0 + 1).toNatClampNeg (S 7 a1.toNatClampNeg) (upS 6 (M 22 0 + 1).toNatClampNeg (S 6 a1.toNatClampNeg) (upS 24 0 (M 22 0 + 1) (upS 10 (M 22 0).toNatClampNeg 1 (upS 9 (M 22 0).toNatClampNeg (f_A_highestOf (S 7 a1.toNatClampNeg) (a2 - 1)) (upS 8 (M 22 0).toNatClampNeg (f_A_lowestOf (S 7 a1.toNatClampNeg) (S 8 a1.toNatClampNeg)) (upS 7 (M 22 0).toNatClampNeg (S 7 a1.toNatClampNeg) (upS 6 (M 22 0).toNatClampNeg (S 6 a1.toNatClampNeg) S)))))))))))))) a := fA
  have B : ∀ a, a ≠ 10 → Y a = (upS 22 0 (M 22 0 + 1 + 1) (upS 9 (M 22 0 + 1).toNatClampNeg 1 (upS 8 (M 22 0 + 1).toNatClampNeg (S 9 a1.toNatClampNeg) (upS 7 (M 22 0 + 1).toNatClampNeg a2 (upS 6 (M 22 0 + 1).toNatClampNeg (S 7 a1.toNatClampNeg) (upS 5 (M 22 0 + 1).toNatClampNeg (S 6 a1.toNatClampNeg) (upS 22 0 (M 22 0 + 1) (upS 9 (M 22 0).toNatClampNeg 1 (upS 8 (M 22 0).toNatClampNeg (a2 - 1) (upS 7 (M 22 0).toNatClampNeg (S 8 a1.toNatClampNeg) (upS 6 (M 22 0).toNatClampNeg (S 7 a1.toNatClampNeg) (upS 5 (M 22 0).toNatClampNeg (S 6 a1.toNatClampNeg) (upS 9 a1.toNatClampNeg 0 (upS 19 0 a3 M)))))))))))))) a := fM
  have z6 : Z 6 = upd (upd (S 6) (M 22 0).toNatClampNeg (S 6 a1.toNatClampNeg)) (M 22 0 + 1).toNatClampNeg (S 6 a1.toNatClampNeg) := A 6 (by decide)
  have z7 : Z 7 = upd (upd (S 7) (M 22 0).toNatClampNeg (S 7 a1.toNatClampNeg)) (M 22 0 + 1).toNatClampNeg (S 7 a1.toNatClampNeg) := A 7 (by decide)
  have z8 : Z 8 = upd (upd (S 8) (M 22 0).toNatClampNeg (f_A_lowestOf (S 7 a1.toNatClampNeg) (S 8 a1.toNatClampNeg))) (M 22 0 + 1).toNatClampNeg (f_A_lowestOf (S 7 a1.toNatClampNeg) a2) := A 8 (by decide)
  have z9 : Z 9 = upd (upd (S 9) (M 22 0).toNatClampNeg (f_A_highestOf (S 7 a1.toNatClampNeg) (a2 - 1))) (M 22 0 + 1).toNatClampNeg (f_A_highestOf (S 7 a1.toNatClampNeg) (S 9 a1.toNatClampNeg)) := A 9 (by decide)
  have z10 : Z 10 = upd (upd (upd (S 10) a1.toNatClampNeg 0) (M 22 0).toNatClampNeg 1) (M 22 0 + 1).toNatClampNeg 1 := (A 10 (by decide)).trans e10'
  have y5' : Y 5 = upd (upd (M 5) (M 22 0).toNatClampNeg (S 6 a1.toNatClampNeg)) (M 22 0 + 1).toNatClampNeg (S 6 a1.toNatClampNeg) := B 5 (by decide)
  have y6' : Y 6 = upd (upd (M 6) (M 22 0).toNatClampNeg (S 7 a1.toNatClampNeg)) (M 22 0 + 1).toNatClampNeg (S 7 a1.toNatClampNeg) := B 6 (by decide)
  have y7' : Y 7 = upd (upd (M 7) (M 22 0).toNatClampNeg (S 8 a1.toNatClampNeg)) (M 22 0 + 1).toNatClampNeg a2 := B 7 (by decide)
  have y8' : Y 8 = upd (upd (M 8) (M 22 0).toNatClampNeg (a2 - 1)) (M 22 0 + 1).toNatClampNeg (S 9 a1.toNatClampNeg) := B 8 (by decide)
  have y9' : Y 9 = upd (upd (upd (M 9) a1.toNatClampNeg 0) (M 22 0).toNatClampNeg 1) (M 22 0 + 1).toNatClampNeg 1 := B 9 (by decide)
  have z24 : Z 24 0 = M 22 0 + 1 + 1 := congrFun (A 24 (by decide)) 0
  have y22 : Y 22 0 = M 22 0 + 1 + 1 := congrFun (B 22 (by decide)) 0
  have z27 : Z 27 0 = a3 := congrFun (A 27 (by decide)) 0
  have y19 : Y 19 0 = a3 := congrFun (B 19 (by decide)) 0
  have a0 : Z 0 = S 0 := A 0 (by decide)
  have a01 : Z 1 = S 1 := A 1 (by decide)
  have a02 : Z 2 = S 2 := A 2 (by decide)
  have a3' : Z 3 = S 3 := A 3 (by decide)
  have a4 : Z 4 = S 4 := A 4 (by decide)
  have a5 : Z 5 = S 5 := A 5 (by decide)
  have a12 : Z 12 = S 12 := A 12 (by decide)
  have a13 : Z 13 = S 13 := A 13 (by decide)
  have a14 : Z 14 = S 14 := A 14 (by decide)
  have a15 : Z 15 = S 15 := A 15 (by decide)
  have a16 : Z 16 = S 16 := A 16 (by decide)
  have a17 : Z 17 = S 17 := A 17 (by decide)
  have a18 : Z 18 = S 18 := A 18 (by decide)
  have a19 : Z 19 = S 19 := A 19 (by decide)
  have a20 : Z 20 = S 20 := A 20 (by decide)
  have a21 : Z 21 = S 21 := A 21 (by decide)
  have a22 : Z 22 = S 22 := A 22 (by decide)
  have a23 : Z 23 = S 23 := A 23 (by decide)
  have a25 : Z 25 = S 25 := A 25 (by decide)
  have a26 : Z 26 = S 26 := A 26 (by decide)
  have m0 : Y 0 = M 0 := B 0 (by decide)
  have m1 : Y 1 = M 1 := B 1 (by decide)
  have m2 : Y 2 = M 2 := B 2 (by decide)
  have m3 : Y 3 = M 3 := B 3 (by decide)
  have m4 : Y 4 = M 4 := B 4 (by decide)
  have m11 : Y 11 = M 11 := B 11 (by decide)
  have m12 : Y 12 = M 12 := B 12 (by decide)
  have m13 : Y 13 = M 13 := B 13 (by decide)
  have m14 : Y 14 = M 14 := B 14 (by decide)
  have m15 : Y 15 = M 15 := B 15 (by decide)
  have m16 : Y 16 = M 16 := B 16 (by decide)
  have m17 : Y 17 = M 17 := B 17 (by decide)
  have m18 : Y 18 = M 18 := B 18 (by decide)
  have m20 : Y 20 = M 20 := B 20 (by decide)
  have m21 : Y 21 = M 21 := B 21 (by decide)
  have m23 : Y 23 = M 23 := B 23 (by decide)
  have m24 : Y 24 = M 24 := B 24 (by decide)
  refine ⟨⟨q1, q2⟩, ⟨⟨?_, ?_, ?_, ?_, ?_⟩, ?_, ⟨?_, ?_⟩, ?_, ?_, ?_, ?_, f10, ?_, ?_⟩, ?_, ?_, ?_, ?_, ?_, ?_, ?_, ?_, ?_, ⟨fun j => ?_, fun j => ?_⟩, ?_, ?_⟩
  · rw [a22, m20]; exact e22
  · rw [a23, m21]; exact e23
  · rw [z24, y22]
  · rw [a25, m23]; exact e25
  · rw [z27, y19]
  · rw [a0, m0]; exact e0
  · rw [a01, m1]; exact e12.1
  · rw [a02, m2]; exact e12.2
  · rw [a5, m4]; exact e5
  · rw [z6, y5', e6]
  · rw [z7, y6', e7]
  · rw [z10, y9', e10]
  · rw [a13, m11]; exact e13
  · rw [a15, m12]; exact e15
  · rw [a3', a4, m3, m4, m21, y19]; exact hS.day t5.1
  · rw [z6, z7, z8, z9, z10, y7', y8', a3', y22, m21]; exact K2
  · rw [z10, a13, a15, m23, y22]
    obtain ⟨p1, p2, p3, p4⟩ := hP
    refine ⟨p1, p2, fun j hj => ?_, fun j hj w => ?_⟩
    · have := p3 j hj
      rcases T2 j with q | q | q
      · rw [q]; omega
      · rw [q]; omega
      · rw [q]; omega
    · rcases T j hj w with ⟨q1, q2⟩ | ⟨q1, -, q2⟩ | ⟨q1, -, q2⟩
      · rw [q2, old2 _ _ _ j hj, upd_ne (cl_ne (i11 j) t1.1 q1)]; exact p4 j hj w
      · rw [q2, upd_at]
      · rw [q2, upd_ne hNN, upd_at]
  · rw [z6, z7, a12, a14, a15, a16, a17, a19, m3, m4, y7', y8', m13, m14, m15, m17, m21, m23, a26, m24, y19]
    refine GY1.rg (hY1.day t5.1 (fun j => (iv_12 hI j).1) (fun x => MT_late hr hb hS.late t5.1 x)) (fun p p0 p1 pl => ?_)
    have ep := cl_int p0
    rcases T p.toNatClampNeg (by omega) pl with ⟨w1, w2⟩ | ⟨w1, w2, w3⟩ | ⟨w1, w2, w3⟩
    · rw [w2, old2 _ _ _ p.toNatClampNeg (by omega), old2 _ _ _ p.toNatClampNeg (by omega), old2 _ _ _ p.toNatClampNeg (by omega), old2 _ _ _ p.toNatClampNeg (by omega)]
      exact ⟨rfl, fun q => q⟩
    · rw [w3, w1, upd_at, upd_at, upd_at, upd_at]
      exact ⟨rfl, fun q => (highin _).mpr ⟨q, Int32.le_iff_toInt_le.mp w2⟩⟩
    · rw [w3, w1, upd_ne hNN, upd_at, upd_ne hNN, upd_at, upd_ne hNN, upd_at, upd_ne hNN, upd_at]
      exact ⟨rfl, fun q => (lowin _).mpr ⟨q, by have := mt Int32.le_iff_toInt_le.mpr w2; omega⟩⟩
  · rw [a12, m3, m4, m13, m14, m16, m17, m18, m21, m23, m24, y19]; exact hY2.day t5.1
  · rw [a14, a16, a18, a19, a20, m23, a26, y19]; exact hY3.day t5.1
  · rw [a16, a17, a18, a19, a20, m13, m15, m16, m17, m18, a26, m24]; exact hY4
  · rw [a13, m13, m14, m15, m16, m17, m24]; exact hY5
  · rw [a3', a26, m24]; exact y3
  · rw [a21]; exact hT.1 j
  · rw [m16]; exact hT.2 j
  · rw [y19]; omega
  · rw [y19]; exact t5.2
