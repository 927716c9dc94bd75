/-- a live point ends: points' own rows -/
theorem end_GY1 {s6 s7 s11 s12 s14 s15 s16 s17 s19 m3 m4 m7 m8 m13 m14 m15 m17 : Nat → Int32} {ns np ny nk day d0 p : Int32} {k : Nat} (h : GY1 s6 s7 s11 s12 s14 s15 s16 s17 s19 m3 m4 m7 m8 m13 m14 m15 m17 ns np ny nk day) (hp0 : 0 ≤ p.toInt) (hk : Lst m13 nk p k) (h16 : s16 (s14 p.toNatClampNeg).toNatClampNeg = p) (hd : day.toInt ≤ d0.toInt) (h12 : ∀ j, 0 ≤ (s12 j).toInt) (he : ∀ x : Int32, 0 ≤ x.toInt → x.toInt < ns.toInt → MT m3 m4 d0 x = MT m3 m4 day x) : GY1 s6 s7 s11 s12 s14 (upd s15 p.toNatClampNeg 0) s16 s17 (upd s19 (s14 p.toNatClampNeg).toNatClampNeg d0) m3 m4 m7 m8 m13 m14 m15 (upd m17 k d0) ns np ny nk d0 := by
  intro q hq0 hq1
  obtain ⟨⟨a1, a2, a3⟩, j, j1, j2, j3, j4⟩ := h q hq0 hq1
  refine ⟨⟨a1, a2, a3⟩, j, j1, j2, ?_⟩
  by_cases c : q = p
  · subst c
    have e := lst_uniq j1 hk
    subst e
    rw [upd_at, upd_at, upd_at]
    exact ⟨fun w => absurd w (by decide), fun _ => ⟨Int.le_refl _, Int.le_refl _⟩⟩
  · have c1 : q.toNatClampNeg ≠ p.toNatClampNeg := cl_ne hq0 hp0 c
    have c2 : (s14 q.toNatClampNeg).toNatClampNeg ≠ (s14 p.toNatClampNeg).toNatClampNeg := fun w => c (by rw [← a2, w, h16])
    have c3 : j ≠ k := fun w => c (by rw [← j1.2.1, w, hk.2.1])
    rw [upd_ne c1, upd_ne c2, upd_ne c3]
    refine ⟨fun hl => ?_, fun hl => by have := j4 hl; exact ⟨by omega, by omega⟩⟩
    obtain ⟨b1, b2, b3, b4, b5⟩ := j3 hl
    exact ⟨b1, b2, b3, by rw [he _ (h12 _) a3]; exact b4, b5⟩
