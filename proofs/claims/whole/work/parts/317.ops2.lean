theorem op_find {n : Nat} {S M : BS} (h : RI n S M) (a1 a2 : Int32) : f_A_find S a1 a2 = f_M_find M a1 a2 ∧ (IV S → IVM M → RI (n + 1) S M) := ⟨find_eq h.1.2 h.2.1 a1 a2, fun _ _ => h.up⟩
theorem GY1.mt {s6 s7 s11 s12 s14 s15 s16 s17 s19 m3 m4 m7 m8 m13 m14 m15 m17 n3 n4 : Nat → Int32} {ns np ny nk day ns2 : Int32} (h : GY1 s6 s7 s11 s12 s14 s15 s16 s17 s19 m3 m4 m7 m8 m13 m14 m15 m17 ns np ny nk day) (hn : ns.toInt ≤ ns2.toInt) (h0 : ∀ j, 0 ≤ (s12 j).toInt) (he : ∀ x : Int32, 0 ≤ x.toInt → x.toInt < ns.toInt → MT n3 n4 day x = MT m3 m4 day x) : GY1 s6 s7 s11 s12 s14 s15 s16 s17 s19 n3 n4 m7 m8 m13 m14 m15 m17 ns2 np ny nk day := by
  intro p hp hp2
  obtain ⟨⟨a1, a2, a3⟩, k, k1, k2, k3, k4⟩ := h p hp hp2
  refine ⟨⟨a1, a2, by omega⟩, k, k1, k2, fun hl => ?_, k4⟩
  obtain ⟨b1, b2, b3, b4, b5⟩ := k3 hl
  exact ⟨b1, b2, b3, by rw [he _ (h0 _) a3]; exact b4, b5⟩
theorem GY2.mt {s12 m3 m4 m13 m14 m16 m17 m18 n3 n4 : Nat → Int32} {ns np nk day ns2 : Int32} (h : GY2 s12 m3 m4 m13 m14 m16 m17 m18 ns np nk day) (hn : ns.toInt ≤ ns2.toInt) (h0 : ∀ j, 0 ≤ (s12 j).toInt) (h1 : ∀ j, 0 ≤ (m14 j).toInt) (h2 : ∀ k : Nat, (k : Int) < nk.toInt → (s12 (m13 k).toNatClampNeg).toInt < ns.toInt) (he : ∀ d x : Int32, 0 ≤ x.toInt → x.toInt < ns.toInt → MT n3 n4 d x = MT m3 m4 d x) : GY2 s12 n3 n4 m13 m14 m16 m17 m18 ns2 np nk day := by
  intro k hk
  obtain ⟨a1, a2, a3, a4, a5, a6, a7⟩ := h k hk
  refine ⟨a1, a2, a3, by omega, fun d hd => ?_, fun d hd => ?_, a7⟩
  · rw [he d _ (h1 k) a4, he d _ (h0 _) (h2 k hk)]; exact a5 d hd
  · rw [he d _ (h1 k) a4]; exact a6 d hd
/-- a street more -/
theorem street_MT {m3 m4 : Nat → Int32} {ns d : Int32} {rk : Nat → Nat} (hr : Rk m3 ns rk) (hb : ∀ j : Nat, (j : Int) < ns.toInt → rk j < 599) (hn0 : 0 ≤ ns.toInt) : ∀ x : Int32, 0 ≤ x.toInt → x.toInt < ns.toInt → MT (upd m3 ns.toNatClampNeg (-1)) m4 d x = MT m3 m4 d x := by
  have en := cl_int hn0
  have ne : ∀ x : Int32, 0 ≤ x.toInt → x.toInt < ns.toInt → x.toNatClampNeg ≠ ns.toNatClampNeg := fun x h0 h1 => by have := cl_int h0; omega
  have hr2 : Rk (upd m3 ns.toNatClampNeg (-1)) ns rk := by
    intro j hj h0
    rw [upd_ne (by omega)] at h0 ⊢
    exact hr j hj h0
  refine MT_ind (m4 := m4) (d := d) hr (fun x => MT (upd m3 ns.toNatClampNeg (-1)) m4 d x = MT m3 m4 d x) ?_ ?_
  · intro x h0 h1 h
    rw [MT_stop h]
    exact MT_stop (by rw [upd_ne (ne x h0 h1)]; exact h)
  · intro x h0 h1 h2 h3 h4 h
    rw [MT_go hr hb h0 h1 h2 h4, MT_go (m3 := upd m3 ns.toNatClampNeg (-1)) hr2 hb h0 h1 (by rw [upd_ne (ne x h0 h1)]; exact h2) h4, upd_ne (ne x h0 h1)]
    exact h
theorem op_street {n : Nat} {S M : BS} (h : RI n S M) (a1 a2 : Int32) : (F_A_street S a1 a2).1 = (F_M_street M a1 a2).1 ∧ (IV (F_A_street S a1 a2).2 → IVM (F_M_street M a1 a2).2 → RI (n + 1) (F_A_street S a1 a2).2 (F_M_street M a1 a2).2) := by
  have hu := h.up
  obtain ⟨⟨hI, hIM⟩, ⟨⟨e22, e23, e24, e25, e27⟩, e0, ⟨e1, e2⟩, er⟩, hS, hR, hP, hY1, hY2, hY3, hrest⟩ := h
  have b := ivM_21 hIM
  unfold F_A_street F_M_street f_A_isName
  rw [sw_eq e23 e1 e2, hasP hIM e22]
  by_cases c0 : f_M_in a1 0 (M 20 0 - 1) = 0
  · rw [if_pos c0, if_pos c0]
    exact ⟨rfl, fun _ _ => hu⟩
  · rw [if_neg c0, if_neg c0]
    by_cases c2 : f_M_in a2 0 9999 = 0
    · rw [if_pos (show f_A_isWithin a2 0 9999 = 0 from c2), if_pos c2]
      exact ⟨rfl, fun _ _ => hu⟩
    · rw [if_neg (show ¬ f_A_isWithin a2 0 9999 = 0 from c2), if_neg c2]
      have nn := neg_iff (sw_neg hIM a1 a2)
      by_cases c3 : f_M_streetWith M a1 a2 = -1
      · rw [if_pos c3, if_pos (nn.mpr c3)]
        have ff := full_iff (x := M 21 0) (n := 32) (m := 32) (by decide) b.2
        unfold f_T_isFull
        rw [e23]
        by_cases c4 : M 21 0 = 32
        · rw [if_pos c4, if_neg (fun q => ff.mp q c4), if_neg (by decide)]
          exact ⟨rfl, fun _ _ => hu⟩
        · rw [if_neg c4, if_pos (ff.mpr c4), if_pos rfl]
          have t4 := Int32.lt_iff_toInt_lt.mp (ff.mpr c4)
          have z32 : ((32) : Int32).toInt = 32 := by decide
          have k := i32_inc (x := M 21 0) b.1 (by omega)
          have en := cl_int b.1
          obtain ⟨rk, hr, hb, -⟩ := hS.rank b.2
          have mt2 : ∀ d x : Int32, 0 ≤ x.toInt → x.toInt < (M 21 0).toInt → MT (upd (M 3) (M 21 0).toNatClampNeg (-1)) (M 4) d x = MT (M 3) (M 4) d x := fun d => street_MT hr hb b.1
          have i12 : ∀ j, 0 ≤ (S 12 j).toInt := fun j => (iv_12 hI j).1
          have i14 : ∀ j, 0 ≤ (M 14 j).toInt := fun j => (ivM_14 hIM j).1
          have y12 : ∀ k : Nat, (k : Int) < (M 24 0).toInt → (S 12 (M 13 k).toNatClampNeg).toInt < (M 21 0).toInt := fun k hk => (hY1 (M 13 k) (ivM_13 hIM k).1 (hY2 k hk).1).1.2.2
          refine ⟨?_, fun q1 q2 => ⟨⟨q1, q2⟩, ⟨⟨e22, ?_, e24, e25, e27⟩, e0, ⟨?_, ?_⟩, er⟩, ?_, ?_, hP, GY1.mt hY1 (by show _ ≤ (M 21 0 + 1).toInt; omega) i12 (fun x => mt2 _ x), GY2.mt hY2 (by show _ ≤ (M 21 0 + 1).toInt; omega) i12 i14 y12 mt2, hY3, hu.2.2.2.2.2.2.2.2⟩⟩
          · show (S 23 0 + 1) - 1 = (M 21 0 + 1) - 1
            rw [e23]
          · show S 23 0 + 1 = M 21 0 + 1
            rw [e23]
          · exact upd_eq e1 (by rw [e23]) rfl
          · exact upd_eq e2 (by rw [e23]) rfl
          · refine ⟨fun j hj => ?_, fun j hj => ?_, rk, fun j hj h0 => ?_⟩
            · have hj : (j : Int) < (M 21 0 + 1).toInt := hj
              show (S 3 j = 0 ∧ upd (M 3) (M 21 0).toNatClampNeg (-1) j = -1) ∨ (S 3 j = 1 ∧ upd (M 3) (M 21 0).toNatClampNeg (-1) j = S 4 j ∧ 0 ≤ (upd (M 3) (M 21 0).toNatClampNeg (-1) j).toInt ∧ (M 4 j).toInt ≤ (M 19 0).toInt)
              by_cases c : j = (M 21 0).toNatClampNeg
              · rw [c, upd_at]
                exact Or.inl ⟨(hS.2.1 _ (by omega)).1, rfl⟩
              · rw [upd_ne c]
                exact hS.1 j (by omega)
            · have hj : (M 21 0 + 1).toInt ≤ (j : Int) := hj
              show S 3 j = 0 ∧ upd (M 3) (M 21 0).toNatClampNeg (-1) j = 0
              rw [upd_ne (by omega)]
              exact hS.2.1 j (by omega)
            · have hj : (j : Int) < (M 21 0 + 1).toInt := hj
              have h0 : 0 ≤ (upd (M 3) (M 21 0).toNatClampNeg (-1) j).toInt := h0
              show (upd (M 3) (M 21 0).toNatClampNeg (-1) j).toInt < (M 21 0 + 1).toInt ∧ rk (upd (M 3) (M 21 0).toNatClampNeg (-1) j).toNatClampNeg < rk j
              by_cases c : j = (M 21 0).toNatClampNeg
              · rw [c, upd_at] at h0
                exact absurd h0 (by decide)
              · rw [upd_ne c] at h0 ⊢
                obtain ⟨x1, x2⟩ := hr j (by omega) h0
                exact ⟨by omega, x2⟩
          · obtain ⟨r1, r2, r3, r4, r5⟩ := hR
            refine ⟨r1, r2, r3, r4, fun j hj hl => ?_⟩
            obtain ⟨x1, x2⟩ := r5 j hj hl
            exact ⟨by show (S 6 j).toInt < (M 21 0 + 1).toInt; omega, x2⟩
      · rw [if_neg c3, if_neg (fun q => c3 (nn.mp q))]
        exact ⟨rfl, fun _ _ => hu⟩
