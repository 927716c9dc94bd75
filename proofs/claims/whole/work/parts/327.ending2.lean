theorem end_GY2 {s12 m3 m4 m13 m14 m16 m17 m18 n18 : Nat → Int32} {ns np nk day d0 : Int32} {k : Nat} (h : GY2 s12 m3 m4 m13 m14 m16 m17 m18 ns np nk day) (hm : m17 k = 1000000000) (hd : day.toInt ≤ d0.toInt) (hd1 : d0.toInt ≤ 1000000) (hn : ∀ j, j ≠ k → n18 j = m18 j) : GY2 s12 m3 m4 m13 m14 m16 (upd m17 k d0) n18 ns np nk d0 := by
  have mk : (m17 k).toInt = 1000000000 := by rw [hm]; decide
  intro j hj
  obtain ⟨a1, a2, a3, a4, a5, a6, a7⟩ := h j hj
  refine ⟨a1, by omega, fun q => ?_, a4, a5, fun d q => a6 d ?_, fun q => ?_⟩
  · by_cases c : j = k
    · rw [c, upd_at]; exact Int.le_refl _
    · rw [upd_ne c]; have := a3 q; omega
  · unfold hM at q ⊢
    by_cases c : j = k
    · rw [c, upd_at] at q; rw [c]; exact ⟨q.1, by omega⟩
    · rw [upd_ne c] at q; exact q
  · by_cases c : j = k
    · rw [c, upd_at]; rw [c] at a2; exact ⟨by omega, Int.le_refl _⟩
    · rw [upd_ne c]
      rw [hn j c] at q
      have := a7 q
      exact ⟨this.1, by omega⟩
theorem end_GY3 {s14 s16 s18 s19 s20 t20 : Nat → Int32} {np ny day d0 : Int32} {σ : Nat} (h : GY3 s14 s16 s18 s19 s20 np ny day) (hσ : (σ : Int) < ny.toInt) (hd : day.toInt ≤ d0.toInt) (ht : ∀ j, j ≠ σ → t20 j = s20 j) : GY3 s14 s16 s18 (upd s19 σ d0) t20 np ny d0 := by
  refine ⟨fun s hs => ?_, fun s hs => ?_⟩
  · obtain ⟨a1, a2, a3⟩ := h.1 s hs
    refine ⟨a1, by omega, fun q => ?_⟩
    by_cases c : s = σ
    · rw [c, upd_at]; exact Int.le_refl _
    · rw [upd_ne c]; have := a3 q; omega
  · rw [ht s (by omega)]; exact h.2 s hs
theorem end_GY5 {s13 m13 m14 m15 m16 m17 : Nat → Int32} {nk d0 : Int32} {k : Nat} (h : GY5 s13 m13 m14 m15 m16 m17 nk) (hm : m17 k = 1000000000) (hd1 : d0.toInt ≤ 1000000) : GY5 s13 m13 m14 m15 m16 (upd m17 k d0) nk := by
  have mk : (m17 k).toInt = 1000000000 := by rw [hm]; decide
  have m1 : ∀ j d, hM m16 (upd m17 k d0) j d → hM m16 m17 j d := by
    intro j d q
    unfold hM at q ⊢
    by_cases c : j = k
    · rw [c, upd_at] at q; rw [c]; exact ⟨q.1, by omega⟩
    · rw [upd_ne c] at q; exact q
  intro i j hi hj d a b
  exact h i j hi hj d (m1 i d a) (m1 j d b)
