/-- a stay begins, both sides -/
theorem beg_GY1 {s6 s7 s11 s12 s14 s15 s16 s17 s19 m3 m4 m7 m8 m13 m14 m15 m17 t11 t12 t15 : Nat → Int32} {ns np ny nk day np2 ny2 nk2 p st x : Int32} (h : GY1 s6 s7 s11 s12 s14 s15 s16 s17 s19 m3 m4 m7 m8 m13 m14 m15 m17 ns np ny nk day)
    (hp0 : 0 ≤ p.toInt) (hnp : ∀ q : Int32, 0 ≤ q.toInt → q.toInt < np2.toInt → q ≠ p → q.toInt < np.toInt) (hny0 : 0 ≤ ny.toInt) (hny : ny2.toInt = ny.toInt + 1) (hnk0 : 0 ≤ nk.toInt) (hnk : nk2.toInt = nk.toInt + 1) (i14 : ∀ j, 0 ≤ (s14 j).toInt)
    (h11 : ∀ j : Nat, (j : Int) < np.toInt → t11 j = s11 j) (h12 : ∀ j : Nat, (j : Int) < np.toInt → t12 j = s12 j) (h15 : ∀ j : Nat, j ≠ p.toNatClampNeg → t15 j = s15 j) (h15p : t15 p.toNatClampNeg = 1)
    (hst : st = s6 (t11 p.toNatClampNeg).toNatClampNeg) (hns : (t12 p.toNatClampNeg).toInt < ns.toInt) (hmt : MT m3 m4 day (t12 p.toNatClampNeg) = s6 (t11 p.toNatClampNeg).toNatClampNeg) (hin : inR (s7 (t11 p.toNatClampNeg).toNatClampNeg).toInt (m7 (t11 p.toNatClampNeg).toNatClampNeg).toInt (m8 (t11 p.toNatClampNeg).toNatClampNeg).toInt x.toInt) :
    GY1 s6 s7 t11 t12 (upd s14 p.toNatClampNeg ny) t15 (upd s16 ny.toNatClampNeg p) (upd s17 ny.toNatClampNeg x) (upd s19 ny.toNatClampNeg 1000001) m3 m4 m7 m8 (upd m13 nk.toNatClampNeg p) (upd m14 nk.toNatClampNeg st) (upd m15 nk.toNatClampNeg x) (upd m17 nk.toNatClampNeg 1000000000) ns np2 ny2 nk2 day := by
  have en := cl_int hny0
  have ek := cl_int hnk0
  have lN : Lst (upd m13 nk.toNatClampNeg p) nk2 p nk.toNatClampNeg := ⟨by omega, upd_at, fun j h1 h2 => by omega⟩
  intro q hq0 hq1
  by_cases c : q = p
  · have a14 : upd s14 p.toNatClampNeg ny p.toNatClampNeg = ny := upd_at
    have a16 : upd s16 ny.toNatClampNeg p ny.toNatClampNeg = p := upd_at
    have a17 : upd s17 ny.toNatClampNeg x ny.toNatClampNeg = x := upd_at
    have a19 : upd s19 ny.toNatClampNeg 1000001 ny.toNatClampNeg = 1000001 := upd_at
    rw [c, a14, a16, a17, a19]
    exact ⟨⟨by omega, rfl, hns⟩, nk.toNatClampNeg, lN, upd_at, fun _ => ⟨upd_at, rfl, by rw [upd_at]; exact hst, hmt, by rw [upd_at]; exact hin⟩, fun w => absurd (h15p.symm.trans w) (by decide)⟩
  · have hq := hnp q hq0 hq1 c
    have eq0 := cl_int hq0
    have cq : q.toNatClampNeg ≠ p.toNatClampNeg := cl_ne hq0 hp0 c
    obtain ⟨⟨a1, a2, a3⟩, k, k1, k2, k3, k4⟩ := h q hq0 hq
    have es := cl_int (i14 q.toNatClampNeg)
    have n14 : (s14 q.toNatClampNeg).toNatClampNeg ≠ ny.toNatClampNeg := by omega
    have b14 : upd s14 p.toNatClampNeg ny q.toNatClampNeg = s14 q.toNatClampNeg := upd_ne cq
    have b16 : upd s16 ny.toNatClampNeg p (s14 q.toNatClampNeg).toNatClampNeg = s16 (s14 q.toNatClampNeg).toNatClampNeg := upd_ne n14
    have b17 : upd s17 ny.toNatClampNeg x (s14 q.toNatClampNeg).toNatClampNeg = s17 (s14 q.toNatClampNeg).toNatClampNeg := upd_ne n14
    have b19 : upd s19 ny.toNatClampNeg 1000001 (s14 q.toNatClampNeg).toNatClampNeg = s19 (s14 q.toNatClampNeg).toNatClampNeg := upd_ne n14
    have hk := k1.1
    have kn : k ≠ nk.toNatClampNeg := by omega
    have lq : Lst (upd m13 nk.toNatClampNeg p) nk2 q k := ⟨by omega, by rw [upd_ne kn]; exact k1.2.1, fun j h1 h2 => by
      by_cases e : j = nk.toNatClampNeg
      · rw [e, upd_at]; exact fun w => c w.symm
      · rw [upd_ne e]; exact k1.2.2 j h1 (by omega)⟩
    rw [b14, b16, b17, b19, h11 q.toNatClampNeg (by omega), h12 q.toNatClampNeg (by omega), h15 _ cq]
    exact ⟨⟨by omega, a2, a3⟩, k, lq, by rw [upd_ne kn]; exact k2, by rw [upd_ne kn, upd_ne kn, upd_ne kn]; exact k3, by rw [upd_ne kn]; exact k4⟩
theorem beg_GY2 {s12 t12 m3 m4 m13 m14 m16 m17 m18 : Nat → Int32} {ns np nk day np2 nk2 p st : Int32} (h : GY2 s12 m3 m4 m13 m14 m16 m17 m18 ns np nk day) (i13 : ∀ j, 0 ≤ (m13 j).toInt) (hp1 : p.toInt < np2.toInt) (hnp : np.toInt ≤ np2.toInt) (hnk0 : 0 ≤ nk.toInt) (hnk : nk2.toInt = nk.toInt + 1)
    (h12 : ∀ j : Nat, (j : Int) < np.toInt → t12 j = s12 j) (hst : st.toInt < ns.toInt) (hmt : ∀ d : Int32, day.toInt ≤ d.toInt → MT m3 m4 d st = st ∧ MT m3 m4 d (t12 p.toNatClampNeg) = st) (hend : ∀ j : Nat, (j : Int) < nk.toInt → m13 j = p → (m17 j).toInt ≤ day.toInt) :
    GY2 t12 m3 m4 (upd m13 nk.toNatClampNeg p) (upd m14 nk.toNatClampNeg st) (upd m16 nk.toNatClampNeg day) (upd m17 nk.toNatClampNeg 1000000000) (upd m18 nk.toNatClampNeg 0) ns np2 nk2 day := by
  have ek := cl_int hnk0
  have lN : Lst (upd m13 nk.toNatClampNeg p) nk2 p nk.toNatClampNeg := ⟨by omega, upd_at, fun j h1 h2 => by omega⟩
  intro j hj
  by_cases c : j = nk.toNatClampNeg
  · rw [c]
    refine ⟨by rw [upd_at]; exact hp1, by rw [upd_at]; exact Int.le_refl _, fun w => absurd (by rw [upd_at]; exact lN) w, by rw [upd_at]; exact hst, fun d hd => ?_, fun d hd => ?_, fun w => ?_⟩
    · rw [upd_at] at hd
      rw [upd_at, upd_at]
      exact (hmt d hd).1.trans (hmt d hd).2.symm
    · have q : (upd m16 nk.toNatClampNeg day nk.toNatClampNeg).toInt ≤ d.toInt := hd.1
      rw [upd_at] at q
      rw [upd_at]
      exact (hmt d q).1
    · rw [upd_at] at w
      exact absurd w (by decide)
  · have hj2 : (j : Int) < nk.toInt := by omega
    obtain ⟨a1, a2, a3, a4, a5, a6, a7⟩ := h j hj2
    have e12 := h12 (m13 j).toNatClampNeg (by have := cl_int (i13 j); omega)
    unfold hM
    rw [upd_ne c, upd_ne c, upd_ne c, upd_ne c, upd_ne c, e12]
    refine ⟨by omega, a2, fun w => ?_, a4, a5, a6, a7⟩
    by_cases e : m13 j = p
    · exact hend j hj2 e
    · refine a3 (fun l => w ⟨by omega, by rw [upd_ne c], fun i h1 h2 => ?_⟩)
      by_cases ei : i = nk.toNatClampNeg
      · rw [ei, upd_at]; exact fun q => e q.symm
      · rw [upd_ne ei]; exact l.2.2 i h1 (by omega)
theorem beg_GY3 {s14 s16 s18 s19 s20 : Nat → Int32} {np ny day np2 ny2 p : Int32} (h : GY3 s14 s16 s18 s19 s20 np ny day) (i16 : ∀ j, 0 ≤ (s16 j).toInt) (hp0 : 0 ≤ p.toInt) (hp1 : p.toInt < np2.toInt) (hnp : np.toInt ≤ np2.toInt) (hny0 : 0 ≤ ny.toInt) (hny : ny2.toInt = ny.toInt + 1)
    (hend : ∀ s : Nat, (s : Int) < ny.toInt → s16 s = p → (s19 s).toInt ≤ day.toInt) : GY3 (upd s14 p.toNatClampNeg ny) (upd s16 ny.toNatClampNeg p) (upd s18 ny.toNatClampNeg day) (upd s19 ny.toNatClampNeg 1000001) s20 np2 ny2 day := by
  have en := cl_int hny0
  refine ⟨fun s hs => ?_, fun s hs => h.2 s (by omega)⟩
  by_cases c : s = ny.toNatClampNeg
  · rw [c]
    refine ⟨by rw [upd_at]; exact hp1, by rw [upd_at]; exact Int.le_refl _, fun w => absurd ?_ w⟩
    rw [upd_at, upd_at]
  · obtain ⟨a1, a2, a3⟩ := h.1 s (by omega)
    rw [upd_ne c, upd_ne c, upd_ne c]
    refine ⟨by omega, a2, fun w => ?_⟩
    by_cases e : s16 s = p
    · exact hend s (by omega) e
    · rw [upd_ne (cl_ne (i16 s) hp0 e)] at w
      exact a3 w
theorem hM_ne {f g : Nat → Int32} {i k : Nat} {u v d : Int32} (c : k ≠ i) : hM (upd f i u) (upd g i v) k d ↔ hM f g k d := by
  unfold hM
  rw [upd_ne c, upd_ne c]
theorem hM_at {f g : Nat → Int32} {i : Nat} {u v d : Int32} : hM (upd f i u) (upd g i v) i d ↔ (u.toInt ≤ d.toInt ∧ d.toInt < v.toInt) := by
  unfold hM
  rw [upd_at, upd_at]
theorem beg_GY4 {s16 s17 s18 s19 s20 m13 m15 m16 m17 m18 : Nat → Int32} {ny nk day ny2 nk2 p x : Int32} (h : GY4 s16 s17 s18 s19 s20 m13 m15 m16 m17 m18 ny nk) (h20 : s20 ny.toNatClampNeg = 0) (hny0 : 0 ≤ ny.toInt) (hny : ny2.toInt = ny.toInt + 1) (hnk0 : 0 ≤ nk.toInt) (hnk : nk2.toInt = nk.toInt + 1)
    (hend : ∀ s : Nat, (s : Int) < ny.toInt → s16 s = p → (s19 s).toInt ≤ day.toInt) : GY4 (upd s16 ny.toNatClampNeg p) (upd s17 ny.toNatClampNeg x) (upd s18 ny.toNatClampNeg day) (upd s19 ny.toNatClampNeg 1000001) s20 (upd m13 nk.toNatClampNeg p) (upd m15 nk.toNatClampNeg x) (upd m16 nk.toNatClampNeg day) (upd m17 nk.toNatClampNeg 1000000000) (upd m18 nk.toNatClampNeg 0) ny2 nk2 := by
  obtain ⟨hF, hB, hV1, hV2, hU⟩ := h
  have en := cl_int hny0
  have ek := cl_int hnk0
  have zf : ((1000000000) : Int32).toInt = 1000000000 := by decide
  have zn : ((1000001) : Int32).toInt = 1000001 := by decide
  refine ⟨fun k hk d q hd => ?_, fun s hs d q hd => ?_, fun s hs q => ?_, fun k hk q => ?_, fun s t hs ht d q1 q2 e => ?_⟩
  · by_cases c : k = nk.toNatClampNeg
    · rw [c] at q ⊢
      have q := hM_at.mp q
      exact ⟨ny.toNatClampNeg, by omega, by rw [upd_at, upd_at], by rw [upd_at, upd_at], hM_at.mpr ⟨q.1, by omega⟩⟩
    · obtain ⟨s, x1, x2, x3, x4⟩ := hF k (by omega) d ((hM_ne c).mp q) hd
      have cs : s ≠ ny.toNatClampNeg := by omega
      exact ⟨s, by omega, by rw [upd_ne cs, upd_ne c]; exact x2, by rw [upd_ne cs, upd_ne c]; exact x3, (hM_ne cs).mpr x4⟩
  · by_cases c : s = ny.toNatClampNeg
    · rw [c] at q ⊢
      have q := hM_at.mp q
      exact ⟨nk.toNatClampNeg, by omega, by rw [upd_at, upd_at], by rw [upd_at, upd_at], hM_at.mpr ⟨q.1, by omega⟩⟩
    · obtain ⟨k, x1, x2, x3, x4⟩ := hB s (by omega) d ((hM_ne c).mp q) hd
      have ck : k ≠ nk.toNatClampNeg := by omega
      exact ⟨k, by omega, by rw [upd_ne ck, upd_ne c]; exact x2, by rw [upd_ne ck, upd_ne c]; exact x3, (hM_ne ck).mpr x4⟩
  · have c : s ≠ ny.toNatClampNeg := fun w => by rw [w, h20] at q; exact absurd q (by decide)
    obtain ⟨k, x1, x2, x3, x4, x5⟩ := hV1 s (by omega) q
    have ck : k ≠ nk.toNatClampNeg := by omega
    exact ⟨k, by omega, by rw [upd_ne ck]; exact x2, by rw [upd_ne ck, upd_ne c]; exact x3, by rw [upd_ne ck, upd_ne c]; exact x4, by rw [upd_ne ck, upd_ne c]; exact x5⟩
  · have c : k ≠ nk.toNatClampNeg := fun w => by rw [w, upd_at] at q; exact absurd q (by decide)
    rw [upd_ne c] at q
    obtain ⟨s, x1, x2, x3, x4, x5⟩ := hV2 k (by omega) q
    have cs : s ≠ ny.toNatClampNeg := by omega
    exact ⟨s, by omega, x2, by rw [upd_ne cs, upd_ne c]; exact x3, by rw [upd_ne cs, upd_ne c]; exact x4, by rw [upd_ne cs, upd_ne c]; exact x5⟩
  · by_cases c1 : s = ny.toNatClampNeg
    · by_cases c2 : t = ny.toNatClampNeg
      · rw [c1, c2]
      · exfalso
        rw [c1] at q1 e
        rw [upd_at, upd_ne c2] at e
        have w1 := hM_at.mp q1
        have w2 := ((hM_ne c2).mp q2).2
        have := hend t (by omega) e.symm
        omega
    · by_cases c2 : t = ny.toNatClampNeg
      · exfalso
        rw [c2] at q2 e
        rw [upd_at, upd_ne c1] at e
        have w1 := hM_at.mp q2
        have w2 := ((hM_ne c1).mp q1).2
        have := hend s (by omega) e
        omega
      · rw [upd_ne c1, upd_ne c2] at e
        rw [upd_ne c1, upd_ne c2]
        exact hU s t (by omega) (by omega) d ((hM_ne c1).mp q1) ((hM_ne c2).mp q2) e
theorem beg_GY5 {s13 t13 m13 m14 m15 m16 m17 : Nat → Int32} {np nk day nk2 p st x : Int32} (h : GY5 s13 m13 m14 m15 m16 m17 nk) (i13 : ∀ j, 0 ≤ (m13 j).toInt) (h13n : ∀ k : Nat, (k : Int) < nk.toInt → (m13 k).toInt < np.toInt) (h13 : ∀ j : Nat, (j : Int) < np.toInt → t13 j = s13 j) (hnk0 : 0 ≤ nk.toInt) (hnk : nk2.toInt = nk.toInt + 1)
    (hfree : ∀ j : Nat, (j : Int) < nk.toInt → day.toInt < (m17 j).toInt → m14 j = st → m15 j = x → s13 (m13 j).toNatClampNeg = t13 p.toNatClampNeg → False) : GY5 t13 (upd m13 nk.toNatClampNeg p) (upd m14 nk.toNatClampNeg st) (upd m15 nk.toNatClampNeg x) (upd m16 nk.toNatClampNeg day) (upd m17 nk.toNatClampNeg 1000000000) nk2 := by
  have ek := cl_int hnk0
  have t : ∀ k : Nat, (k : Int) < nk.toInt → t13 (m13 k).toNatClampNeg = s13 (m13 k).toNatClampNeg := fun k hk => h13 _ (by have := h13n k hk; have := cl_int (i13 k); omega)
  have one : ∀ j : Nat, j ≠ nk.toNatClampNeg → (j : Int) < nk2.toInt → ∀ d : Int32, hM (upd m16 nk.toNatClampNeg day) (upd m17 nk.toNatClampNeg 1000000000) nk.toNatClampNeg d → hM (upd m16 nk.toNatClampNeg day) (upd m17 nk.toNatClampNeg 1000000000) j d → st = m14 j → x = m15 j → t13 p.toNatClampNeg = t13 (m13 j).toNatClampNeg → False := by
    intro j c hj d q1 q2 e1 e2 e3
    have q1 := hM_at.mp q1
    have q2 := ((hM_ne c).mp q2).2
    rw [t j (by omega)] at e3
    exact hfree j (by omega) (by omega) e1.symm e2.symm e3.symm
  intro k j hk hj d q1 q2 e1 e2 e3
  by_cases c1 : k = nk.toNatClampNeg
  · by_cases c2 : j = nk.toNatClampNeg
    · rw [c1, c2]
    · exfalso
      rw [c1] at q1 e1 e2 e3
      rw [upd_at, upd_ne c2] at e1
      rw [upd_at, upd_ne c2] at e2
      rw [upd_at, upd_ne c2] at e3
      exact one j c2 hj d q1 q2 e1 e2 e3
  · by_cases c2 : j = nk.toNatClampNeg
    · exfalso
      rw [c2] at q2 e1 e2 e3
      rw [upd_at, upd_ne c1] at e1
      rw [upd_at, upd_ne c1] at e2
      rw [upd_at, upd_ne c1] at e3
      exact one k c1 hk d q2 q1 e1.symm e2.symm e3.symm
    · rw [upd_ne c1, upd_ne c2] at e1
      rw [upd_ne c1, upd_ne c2] at e2
      rw [upd_ne c1, upd_ne c2, t k (by omega), t j (by omega)] at e3
      rw [upd_ne c1, upd_ne c2]
      exact h k j (by omega) (by omega) d ((hM_ne c1).mp q1) ((hM_ne c2).mp q2) e1 e2 e3
/-- no other point lies there -/
theorem free_at {s6 s7 s8 s9 s10 s11 s12 s13 s14 s15 s16 s17 s19 m3 m4 m7 m8 m13 m14 m15 m16 m17 m18 g3 : Nat → Int32} {ns np nr ny nk day r x y : Int32} (hR : GR s6 s7 s8 s9 s10 m7 m8 g3 nr ns) (hP : GP s10 s11 s13 s15 np nr) (h1 : GY1 s6 s7 s11 s12 s14 s15 s16 s17 s19 m3 m4 m7 m8 m13 m14 m15 m17 ns np ny nk day) (h2 : GY2 s12 m3 m4 m13 m14 m16 m17 m18 ns np nk day)
    (i11 : ∀ j, 0 ≤ (s11 j).toInt) (i13 : ∀ j, 0 ≤ (m13 j).toInt) (i15 : ∀ j, s15 j = 0 ∨ s15 j = 1) (hr0 : 0 ≤ r.toInt) (hr1 : r.toInt < nr.toInt) (hrl : s10 r.toNatClampNeg = 1) (hin : inR (s7 r.toNatClampNeg).toInt (m7 r.toNatClampNeg).toInt (m8 r.toNatClampNeg).toInt x.toInt)
    (hno : ∀ q : Int32, 0 ≤ q.toInt → q.toInt < np.toInt → s15 q.toNatClampNeg = 1 → s11 q.toNatClampNeg = r → s13 q.toNatClampNeg = y → s17 (s14 q.toNatClampNeg).toNatClampNeg ≠ x) : ∀ j : Nat, (j : Int) < nk.toInt → day.toInt < (m17 j).toInt → m14 j = s6 r.toNatClampNeg → m15 j = x → s13 (m13 j).toNatClampNeg = y → False := by
  intro j hj ho e1 e2 e3
  obtain ⟨o1, o2⟩ := open_live h1 h2 i13 i15 hj ho
  obtain ⟨-, k, k1, k2, k3, -⟩ := h1 (m13 j) (i13 j) (h2 j hj).1
  have e := lst_uniq o1 k1
  subst e
  obtain ⟨-, -, z3, -, z5⟩ := k3 o2
  have ej := cl_int (i13 j)
  have hj2 := (h2 j hj).1
  have er := cl_int hr0
  have e11 := cl_int (i11 (m13 j).toNatClampNeg)
  have w1 := hP.2.2.1 (m13 j).toNatClampNeg (by omega)
  have w2 := hP.2.2.2 (m13 j).toNatClampNeg (by omega) o2
  have er : s11 (m13 j).toNatClampNeg = r := by
    refine Classical.byContradiction (fun c => ?_)
    refine hR.2.2.2.1 (s11 (m13 j).toNatClampNeg).toNatClampNeg r.toNatClampNeg (by omega) (by omega) (cl_ne (i11 _) hr0 c) w2 hrl (by rw [← z3, e1]) x.toInt ?_ hin
    rw [← e2]
    exact z5
  exact hno (m13 j) (i13 j) hj2 o2 er e3 (by rw [← k2]; exact e2)
/-- a street with a live part goes nowhere -/
theorem root_at {g3 g4 m3 m4 : Nat → Int32} {ns day st d : Int32} (hS : GS g3 g4 m3 m4 ns day) (h0 : 0 ≤ st.toInt) (h1 : st.toInt < ns.toInt) (hg : g3 st.toNatClampNeg = 0) : (m3 st.toNatClampNeg).toInt < 0 ∧ MT m3 m4 d st = st := by
  have e := cl_int h0
  have r : (m3 st.toNatClampNeg).toInt < 0 := by
    rcases hS.1 st.toNatClampNeg (by omega) with ⟨-, q⟩ | ⟨q, -⟩
    · rw [q]; decide
    · rw [hg] at q; exact absurd q (by decide)
  exact ⟨r, MT_stop (Or.inl r)⟩
