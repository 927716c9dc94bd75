/-- the latest stay of a live point ends: the stays of both sides -/
theorem end_GY4 {s12 s14 s16 s17 s18 s19 s20 m3 m4 m13 m14 m15 m16 m17 m18 : Nat → Int32} {ns np ny nk day d0 p : Int32} {k σ : Nat} (hY2 : GY2 s12 m3 m4 m13 m14 m16 m17 m18 ns np nk day) (hY3 : GY3 s14 s16 s18 s19 s20 np ny day) (h : GY4 s16 s17 s18 s19 s20 m13 m15 m16 m17 m18 ny nk)
    (hk : Lst m13 nk p k) (hσ : (σ : Int) < ny.toInt) (h16 : s16 σ = p) (h14 : (s14 p.toNatClampNeg).toNatClampNeg = σ) (h17 : m15 k = s17 σ) (hm : m17 k = 1000000000) (hs : s19 σ = 1000001) (hd : day.toInt ≤ d0.toInt) (hd1 : d0.toInt ≤ 1000000) :
    GY4 s16 s17 s18 (upd s19 σ d0) s20 m13 m15 m16 (upd m17 k d0) m18 ny nk ∧ GY4 s16 s17 s18 (upd s19 σ d0) (upd s20 σ 1) m13 m15 m16 (upd m17 k d0) (upd m18 k 1) ny nk := by
  obtain ⟨hF, hB, hV1, hV2, hU⟩ := h
  have zf : ((1000000000) : Int32).toInt = 1000000000 := by decide
  have zn : ((1000001) : Int32).toInt = 1000001 := by decide
  have mk : (m17 k).toInt = 1000000000 := by rw [hm, zf]
  have sk : (s19 σ).toInt = 1000001 := by rw [hs, zn]
  -- a stay of the reference, shortened
  have m1 : ∀ j d, hM m16 (upd m17 k d0) j d → hM m16 m17 j d ∧ (j = k → d.toInt < d0.toInt) := by
    intro j d q
    by_cases c : j = k
    · unfold hM at q ⊢
      rw [c, upd_at] at q
      rw [c]
      exact ⟨⟨q.1, by omega⟩, fun _ => q.2⟩
    · unfold hM at q ⊢
      rw [upd_ne c] at q
      exact ⟨q, fun e => absurd e c⟩
  have m2 : ∀ j d, hM m16 m17 j d → (j = k → d.toInt < d0.toInt) → hM m16 (upd m17 k d0) j d := by
    intro j d q w
    unfold hM at q ⊢
    by_cases c : j = k
    · rw [c, upd_at]; rw [c] at q; exact ⟨q.1, w c⟩
    · rw [upd_ne c]; exact q
  have s1 : ∀ j d, hM s18 (upd s19 σ d0) j d → hM s18 s19 j d ∧ (j = σ → d.toInt < d0.toInt) := by
    intro j d q
    by_cases c : j = σ
    · unfold hM at q ⊢
      rw [c, upd_at] at q
      rw [c]
      exact ⟨⟨q.1, by omega⟩, fun _ => q.2⟩
    · unfold hM at q ⊢
      rw [upd_ne c] at q
      exact ⟨q, fun e => absurd e c⟩
  have s2 : ∀ j d, hM s18 s19 j d → (j = σ → d.toInt < d0.toInt) → hM s18 (upd s19 σ d0) j d := by
    intro j d q w
    unfold hM at q ⊢
    by_cases c : j = σ
    · rw [c, upd_at]; rw [c] at q; exact ⟨q.1, w c⟩
    · rw [upd_ne c]; exact q
  have F : ∀ j : Nat, (j : Int) < nk.toInt → ∀ d : Int32, hM m16 (upd m17 k d0) j d → d.toInt ≤ 1000000 → ∃ s : Nat, (s : Int) < ny.toInt ∧ s16 s = m13 j ∧ s17 s = m15 j ∧ hM s18 (upd s19 σ d0) s d := by
    intro j hj d q hd2
    obtain ⟨q1, q2⟩ := m1 j d q
    obtain ⟨s, x1, x2, x3, x4⟩ := hF j hj d q1 hd2
    refine ⟨s, x1, x2, x3, s2 s d x4 (fun e => ?_)⟩
    by_cases c : j = k
    · exact q2 c
    · have hn : ¬ Lst m13 nk (m13 j) j := by
        intro w
        rw [← x2, e, h16] at w
        exact c (lst_uniq w hk)
      have := (hY2 j hj).2.2.1 hn
      have := q1.2
      omega
  have B : ∀ s : Nat, (s : Int) < ny.toInt → ∀ d : Int32, hM s18 (upd s19 σ d0) s d → d.toInt ≤ 1000000 → ∃ j : Nat, (j : Int) < nk.toInt ∧ m13 j = s16 s ∧ m15 j = s17 s ∧ hM m16 (upd m17 k d0) j d := by
    intro s hs' d q hd2
    obtain ⟨q1, q2⟩ := s1 s d q
    obtain ⟨j, x1, x2, x3, x4⟩ := hB s hs' d q1 hd2
    refine ⟨j, x1, x2, x3, m2 j d x4 (fun e => ?_)⟩
    by_cases c : s = σ
    · exact q2 c
    · have e16 : s16 s = p := by rw [← x2, e]; exact hk.2.1
      have := (hY3.1 s hs').2.2 (by rw [e16, h14]; exact fun w => c w.symm)
      have := q1.2
      omega
  have nV : ∀ j : Nat, (j : Int) < nk.toInt → m18 j = 1 → j ≠ k := by
    intro j hj q e
    have := ((hY2 j hj).2.2.2.2.2.2 q).2
    rw [e] at this
    omega
  have nS : ∀ s : Nat, (s : Int) < ny.toInt → s20 s = 1 → s ≠ σ := by
    intro s hs' q e
    obtain ⟨j, x1, x2, -, -, x5⟩ := hV1 s hs' q
    have := ((hY2 j x1).2.2.2.2.2.2 x2).2
    rw [x5, e] at this
    omega
  have U : ∀ s t : Nat, (s : Int) < ny.toInt → (t : Int) < ny.toInt → ∀ d : Int32, hM s18 (upd s19 σ d0) s d → hM s18 (upd s19 σ d0) t d → s16 s = s16 t → s17 s = s17 t := fun s t a b d x y => hU s t a b d (s1 s d x).1 (s1 t d y).1
  have V1 : ∀ s : Nat, (s : Int) < ny.toInt → s20 s = 1 → ∃ j : Nat, (j : Int) < nk.toInt ∧ m18 j = 1 ∧ m13 j = s16 s ∧ m15 j = s17 s ∧ upd m17 k d0 j = upd s19 σ d0 s ∧ j ≠ k := by
    intro s a q
    obtain ⟨j, x1, x2, x3, x4, x5⟩ := hV1 s a q
    have c := nV j x1 x2
    exact ⟨j, x1, x2, x3, x4, by rw [upd_ne c, upd_ne (nS s a q)]; exact x5, c⟩
  have V2 : ∀ j : Nat, (j : Int) < nk.toInt → m18 j = 1 → ∃ s : Nat, (s : Int) < ny.toInt ∧ s20 s = 1 ∧ s16 s = m13 j ∧ s17 s = m15 j ∧ upd s19 σ d0 s = upd m17 k d0 j ∧ s ≠ σ := by
    intro j a q
    obtain ⟨s, x1, x2, x3, x4, x5⟩ := hV2 j a q
    have c := nS s x1 x2
    exact ⟨s, x1, x2, x3, x4, by rw [upd_ne c, upd_ne (nV j a q)]; exact x5, c⟩
  refine ⟨⟨F, B, fun s a q => ?_, fun j a q => ?_, U⟩, ⟨F, B, fun s a q => ?_, fun j a q => ?_, U⟩⟩
  · obtain ⟨j, x1, x2, x3, x4, x5, -⟩ := V1 s a q
    exact ⟨j, x1, x2, x3, x4, x5⟩
  · obtain ⟨s, x1, x2, x3, x4, x5, -⟩ := V2 j a q
    exact ⟨s, x1, x2, x3, x4, x5⟩
  · by_cases c : s = σ
    · rw [c, h16, upd_at]
      exact ⟨k, hk.1, upd_at, hk.2.1, h17, upd_at⟩
    · rw [upd_ne c] at q
      obtain ⟨j, x1, x2, x3, x4, x5, x6⟩ := V1 s a q
      exact ⟨j, x1, by rw [upd_ne x6]; exact x2, x3, x4, x5⟩
  · by_cases c : j = k
    · rw [c, upd_at]
      exact ⟨σ, hσ, upd_at, by rw [h16]; exact hk.2.1.symm, h17.symm, upd_at⟩
    · rw [upd_ne c] at q
      obtain ⟨s, x1, x2, x3, x4, x5, x6⟩ := V2 j a q
      exact ⟨s, x1, by rw [upd_ne x6]; exact x2, x3, x4, x5⟩
