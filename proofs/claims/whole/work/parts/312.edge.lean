theorem nI_cl {y : Int32} (h : 0 ≤ y.toInt) : nI y.toNatClampNeg = y := by
  apply Int32.toInt_inj.mp
  have e := cl_int h
  have b := y.toInt_lt
  rw [nI_toInt (by omega)]
  exact e
theorem cl_ne {x y : Int32} (hx : 0 ≤ x.toInt) (hy : 0 ≤ y.toInt) (h : x ≠ y) : x.toNatClampNeg ≠ y.toNatClampNeg := fun e => h (cl_inj hx hy e)
theorem upd_at {f : Nat → Int32} {i : Nat} {v : Int32} : upd f i v i = v := by simp [upd]
theorem upd_ne {f : Nat → Int32} {i j : Nat} {v : Int32} (h : j ≠ i) : upd f i v j = f j := by simp [upd, h]
/-- a street more that goes into another one -/
theorem edge {m3 m4 : Nat → Int32} {ns a b d0 : Int32} {rk : Nat → Nat} (hr : Rk m3 ns rk) (hbd : ∀ j : Nat, (j : Int) < ns.toInt → rk j < 599) (hn : ns.toInt ≤ 32) (ha0 : 0 ≤ a.toInt) (ha1 : a.toInt < ns.toInt) (hb0 : 0 ≤ b.toInt) (hb1 : b.toInt < ns.toInt) (hroot : (m3 a.toNatClampNeg).toInt < 0)
    (hday : ∀ j : Nat, (j : Int) < ns.toInt → 0 ≤ (m3 j).toInt → (m4 j).toInt ≤ d0.toInt) (hne : MT m3 m4 d0 b ≠ a) :
    (∃ rk2 : Nat → Nat, Rk (upd m3 a.toNatClampNeg b) ns rk2) ∧
    (∀ d x : Int32, 0 ≤ x.toInt → x.toInt < ns.toInt → d.toInt < d0.toInt → MT (upd m3 a.toNatClampNeg b) (upd m4 a.toNatClampNeg d0) d x = MT m3 m4 d x) ∧
    (∀ d x : Int32, 0 ≤ x.toInt → x.toInt < ns.toInt → d0.toInt ≤ d.toInt → MT (upd m3 a.toNatClampNeg b) (upd m4 a.toNatClampNeg d0) d x = if MT m3 m4 d x = a then MT m3 m4 d0 b else MT m3 m4 d x) := by
  have ea := cl_int ha0
  have hga : ∀ {x : Int32}, 0 ≤ x.toInt → 0 ≤ (m3 x.toNatClampNeg).toInt → x.toNatClampNeg ≠ a.toNatClampNeg := by
    intro x hx h e
    rw [e] at h
    omega
  -- the new rank
  have hrk : ∃ rk2 : Nat → Nat, Rk (upd m3 a.toNatClampNeg b) ns rk2 := by
    refine ⟨fun j => if MT m3 m4 d0 (nI j) = a then rk j + (rk b.toNatClampNeg + 1) else rk j, fun j hj h0 => ?_⟩
    by_cases c : j = a.toNatClampNeg
    · subst c
      rw [upd_at] at h0 ⊢
      refine ⟨hb1, ?_⟩
      show (if MT m3 m4 d0 (nI b.toNatClampNeg) = a then _ else _) < (if MT m3 m4 d0 (nI a.toNatClampNeg) = a then _ else _)
      rw [nI_cl hb0, nI_cl ha0, if_neg hne, if_pos (MT_stop (Or.inl hroot))]
      omega
    · rw [upd_ne c] at h0 ⊢
      obtain ⟨k1, k2⟩ := hr j hj h0
      refine ⟨k1, ?_⟩
      have ej : (nI j).toInt = j := nI_toInt (by omega)
      have ec : (nI j).toNatClampNeg = j := nI_clamp (by omega)
      have hd := hday j hj h0
      have hg := MT_go (m4 := m4) (d := d0) (x := nI j) hr hbd (by omega) (by omega) (by rw [ec]; exact h0) (by rw [ec]; exact hd)
      rw [ec] at hg
      show (if MT m3 m4 d0 (nI (m3 j).toNatClampNeg) = a then _ else _) < (if MT m3 m4 d0 (nI j) = a then _ else _)
      rw [nI_cl h0, hg]
      split <;> omega
  obtain ⟨rk2, hr2⟩ := hrk
  obtain ⟨rk3, hr3, hs3⟩ := rk_norm hr2
  have hb3 : ∀ j : Nat, (j : Int) < ns.toInt → rk3 j < 599 := fun j hj => by have := hs3 j hj; omega
  have same : ∀ (d x : Int32), 0 ≤ x.toInt → x.toInt < ns.toInt → 0 ≤ (m3 x.toNatClampNeg).toInt → (m4 x.toNatClampNeg).toInt ≤ d.toInt → MT (upd m3 a.toNatClampNeg b) (upd m4 a.toNatClampNeg d0) d x = MT (upd m3 a.toNatClampNeg b) (upd m4 a.toNatClampNeg d0) d (m3 x.toNatClampNeg) := by
    intro d x h0 h1 h2 h3
    have c := hga h0 h2
    have h := MT_go (m3 := upd m3 a.toNatClampNeg b) (m4 := upd m4 a.toNatClampNeg d0) (d := d) hr3 hb3 h0 h1 (by rw [upd_ne c]; exact h2) (by rw [upd_ne c]; exact h3)
    rw [upd_ne c] at h
    exact h
  have stop : ∀ (d x : Int32), 0 ≤ x.toInt → x ≠ a → ((m3 x.toNatClampNeg).toInt < 0 ∨ d.toInt < (m4 x.toNatClampNeg).toInt) → MT (upd m3 a.toNatClampNeg b) (upd m4 a.toNatClampNeg d0) d x = x := by
    intro d x h0 hxa h
    have c := cl_ne h0 ha0 hxa
    exact MT_stop (by rw [upd_ne c, upd_ne c]; exact h)
  refine ⟨⟨rk2, hr2⟩, fun d x h0 h1 hd => ?_, fun d x h0 h1 hd => ?_⟩
  · refine MT_ind (m4 := m4) (d := d) hr (fun x => MT (upd m3 a.toNatClampNeg b) (upd m4 a.toNatClampNeg d0) d x = MT m3 m4 d x) ?_ ?_ x h0 h1
    · intro x h0 h1 h
      rw [MT_stop h]
      by_cases c : x = a
      · exact MT_stop (Or.inr (by rw [c, upd_at]; exact hd))
      · exact stop d x h0 c h
    · intro x h0 h1 h2 h3 h4 h
      rw [same d x h0 h1 h2 h4, MT_go hr hbd h0 h1 h2 h4]
      exact h
  · -- b's own way doesn't come to a
    have r := MT_end (m4 := m4) (d := d0) hr hbd b hb0 hb1
    have hrb : (m3 (MT m3 m4 d0 b).toNatClampNeg).toInt < 0 := by
      rcases r.2.2 with q | q
      · exact q
      · by_cases w : (m3 (MT m3 m4 d0 b).toNatClampNeg).toInt < 0
        · exact w
        · have e := cl_int r.1
          have := hday (MT m3 m4 d0 b).toNatClampNeg (by omega) (by omega)
          omega
    have hdb : MT m3 m4 d b = MT m3 m4 d0 b := by
      rw [← MT_comp (d := d0) (d2 := d) hr hbd hd b hb0 hb1]
      exact MT_stop (Or.inl hrb)
    have e2 : ∀ x : Int32, 0 ≤ x.toInt → x.toInt < ns.toInt → MT m3 m4 d x ≠ a → MT (upd m3 a.toNatClampNeg b) (upd m4 a.toNatClampNeg d0) d x = MT m3 m4 d x := by
      refine MT_ind (m4 := m4) (d := d) hr (fun x => MT m3 m4 d x ≠ a → MT (upd m3 a.toNatClampNeg b) (upd m4 a.toNatClampNeg d0) d x = MT m3 m4 d x) ?_ ?_
      · intro x h0 h1 h hx
        rw [MT_stop h] at hx ⊢
        exact stop d x h0 hx h
      · intro x h0 h1 h2 h3 h4 h hx
        rw [MT_go hr hbd h0 h1 h2 h4] at hx ⊢
        rw [same d x h0 h1 h2 h4]
        exact h hx
    refine MT_ind (m4 := m4) (d := d) hr (fun x => MT (upd m3 a.toNatClampNeg b) (upd m4 a.toNatClampNeg d0) d x = if MT m3 m4 d x = a then MT m3 m4 d0 b else MT m3 m4 d x) ?_ ?_ x h0 h1
    · intro x h0 h1 h
      by_cases c : x = a
      · subst c
        rw [MT_stop h, if_pos rfl]
        have hg := MT_go (m3 := upd m3 x.toNatClampNeg b) (m4 := upd m4 x.toNatClampNeg d0) (d := d) hr3 hb3 h0 h1 (by rw [upd_at]; exact hb0) (by rw [upd_at]; exact hd)
        rw [upd_at] at hg
        rw [hg, e2 b hb0 hb1 (by rw [hdb]; exact hne), hdb]
      · rw [MT_stop h, if_neg c]
        exact stop d x h0 c h
    · intro x h0 h1 h2 h3 h4 h
      rw [same d x h0 h1 h2 h4, MT_go hr hbd h0 h1 h2 h4]
      exact h
