theorem overM_iff {M : BS} (hI : IVM M) {r s lo hi : Int32} (hs : 0 ≤ s.toInt) (hr : 0 ≤ (M 6 r.toNatClampNeg).toInt) (hlo : 0 ≤ lo.toInt) (hlo2 : lo.toInt ≤ 999) (hhi : hi.toInt ≤ 999) : ¬ f_M_isOver M r s lo hi = 0 ↔ ∃ h, inR s.toInt lo.toInt hi.toInt h ∧ inR (M 6 r.toNatClampNeg).toInt (M 7 r.toNatClampNeg).toInt (M 8 r.toNatClampNeg).toInt h := by
  have b7 := ivM_7 hI r.toNatClampNeg
  have key : ∀ (n : Nat) (x : Int32), 0 ≤ x.toInt → x.toInt ≤ 1000 → hi.toInt - x.toInt + 1 < (n : Int) → 1 ≤ n → (¬ l_M_isOver_3 M r s lo hi n x = 0 ↔ ∃ h, inR s.toInt x.toInt hi.toInt h ∧ inR (M 6 r.toNatClampNeg).toInt (M 7 r.toNatClampNeg).toInt (M 8 r.toNatClampNeg).toInt h) := by
    intro n
    induction n with
    | zero => intro x _ _ _ h; exact absurd h (by omega)
    | succ n ih =>
      intro x h0 hx h1 h2
      rw [l_M_isOver_3]
      by_cases c1 : hi < x
      · rw [if_pos c1]
        have := Int32.lt_iff_toInt_lt.mp c1
        constructor
        · intro q; exact absurd rfl q
        · rintro ⟨h, ⟨q1, q2, q3⟩, -⟩; omega
      · rw [if_neg c1]
        have t1 := mt Int32.lt_iff_toInt_lt.mpr c1
        have k := i32_inc (x := x) h0 (by omega)
        have o := osM hs h0
        have hm := hasM_iff hI (r := r) (h := x) hr
        have r1 := ih (x + 1) (by omega) (by omega) (by omega) (by omega)
        have step : ¬ (OS s.toInt x.toInt ∧ inR (M 6 r.toNatClampNeg).toInt (M 7 r.toNatClampNeg).toInt (M 8 r.toNatClampNeg).toInt x.toInt) → ((∃ h, inR s.toInt (x + 1).toInt hi.toInt h ∧ inR (M 6 r.toNatClampNeg).toInt (M 7 r.toNatClampNeg).toInt (M 8 r.toNatClampNeg).toInt h) ↔ ∃ h, inR s.toInt x.toInt hi.toInt h ∧ inR (M 6 r.toNatClampNeg).toInt (M 7 r.toNatClampNeg).toInt (M 8 r.toNatClampNeg).toInt h) := by
          intro w
          constructor
          · rintro ⟨h, ⟨q1, q2, q3⟩, q4⟩; exact ⟨h, ⟨by omega, q2, q3⟩, q4⟩
          · rintro ⟨h, ⟨q1, q2, q3⟩, q4⟩
            refine ⟨h, ⟨?_, q2, q3⟩, q4⟩
            rcases Int.lt_or_eq_of_le q1 with e | e
            · omega
            · exact absurd ⟨by rw [e]; exact q3, by rw [e]; exact q4⟩ w
        by_cases c2 : f_M_isOfSide s x = 0
        · rw [if_pos c2, r1, step (fun w => o.mp c2 w.1)]
        · rw [if_neg c2]
          have os : OS s.toInt x.toInt := by
            by_cases w : OS s.toInt x.toInt
            · exact w
            · exact absurd (o.mpr w) c2
          by_cases c3 : f_M_has M r x = 0
          · rw [if_pos c3, r1, step (fun w => hm.mpr w.2 c3)]
          · rw [if_neg c3]
            constructor
            · intro _; exact ⟨x.toInt, ⟨Int.le_refl _, by omega, os⟩, hm.mp c3⟩
            · intro _; decide
  exact key 6000 lo hlo (by omega) (by omega) (by omega)
/-- the test by numbers -/
theorem ovA {c x y : Int32} (hc : 0 ≤ c.toInt) (hx : 0 ≤ x.toInt ∧ x.toInt ≤ 2000) (hy : 0 ≤ y.toInt ∧ y.toInt ≤ 2000) : ¬ (if f_A_highestOf c y < f_A_lowestOf c x then (0 : Int32) else 1) = 0 ↔ lw c.toInt x.toInt ≤ hg c.toInt y.toInt := by
  have k1 := lowA hc hx.1 hx.2
  have k2 := highA hc hy.1 hy.2
  by_cases q : f_A_highestOf c y < f_A_lowestOf c x
  · rw [if_pos q]
    have := Int32.lt_iff_toInt_lt.mp q
    constructor
    · intro w; exact absurd rfl w
    · intro w; omega
  · rw [if_neg q]
    have := mt Int32.lt_iff_toInt_lt.mpr q
    constructor
    · intro _; omega
    · intro _; decide
theorem mx_int {a b : Int32} : (if a < b then b else a).toInt = if a.toInt < b.toInt then b.toInt else a.toInt := by
  by_cases q : a < b
  · rw [if_pos q, if_pos (Int32.lt_iff_toInt_lt.mp q)]
  · rw [if_neg q, if_neg (mt Int32.lt_iff_toInt_lt.mpr q)]
theorem mn_int {a b : Int32} : (if b < a then b else a).toInt = if b.toInt < a.toInt then b.toInt else a.toInt := by
  by_cases q : b < a
  · rw [if_pos q, if_pos (Int32.lt_iff_toInt_lt.mp q)]
  · rw [if_neg q, if_neg (mt Int32.lt_iff_toInt_lt.mpr q)]
theorem overA_iff {S M : BS} (hI : IVM M) (h7 : S 7 = M 6) (hR : GR1 (S 7) (S 8) (S 9) (M 7) (M 8)) {r s lo hi : Int32} (hs : 0 ≤ s.toInt) (hs2 : s.toInt ≤ 2) (hlo : 0 ≤ lo.toInt ∧ lo.toInt ≤ 1000) (hhi : 0 ≤ hi.toInt ∧ hi.toInt ≤ 1000) (h8 : 1 ≤ (M 8 r.toNatClampNeg).toInt) : ¬ f_R_isOver S r s lo hi = 0 ↔ ∃ h, inR s.toInt lo.toInt hi.toInt h ∧ inR (M 6 r.toNatClampNeg).toInt (M 7 r.toNatClampNeg).toInt (M 8 r.toNatClampNeg).toInt h := by
  have b1 := ivM_7 hI r.toNatClampNeg
  have b2 := ivM_8 hI r.toNatClampNeg
  obtain ⟨e8, e9⟩ := hR.1 r.toNatClampNeg
  have ht := hR.2 r.toNatClampNeg
  rw [h7] at e8 e9 ht
  have k8 := lowA (s := M 6 r.toNatClampNeg) (x := M 7 r.toNatClampNeg) ht.1 (by omega) (by omega)
  have k9 := highA (s := M 6 r.toNatClampNeg) (x := M 8 r.toNatClampNeg) ht.1 (by omega) (by omega)
  rw [← e8] at k8
  rw [← e9] at k9
  have n8 : 0 ≤ (S 8 r.toNatClampNeg).toInt ∧ (S 8 r.toNatClampNeg).toInt ≤ 1000 := by rw [k8]; unfold lw; split <;> omega
  have n9 : 0 ≤ (S 9 r.toNatClampNeg).toInt ∧ (S 9 r.toNatClampNeg).toInt ≤ 1000 := by rw [k9]; unfold hg; split <;> omega
  have hx : 0 ≤ (if lo < S 8 r.toNatClampNeg then S 8 r.toNatClampNeg else lo).toInt ∧ (if lo < S 8 r.toNatClampNeg then S 8 r.toNatClampNeg else lo).toInt ≤ 2000 := by split <;> omega
  have hy : 0 ≤ (if S 9 r.toNatClampNeg < hi then S 9 r.toNatClampNeg else hi).toInt ∧ (if S 9 r.toNatClampNeg < hi then S 9 r.toNatClampNeg else hi).toInt ≤ 2000 := by split <;> omega
  have z : ∀ x : Int32, x = 0 ↔ x.toInt = 0 := fun x => by rw [← Int32.toInt_inj]; exact Iff.rfl
  rw [ov_iff hs hs2 ht.1 ht.2, ← k8, ← k9, ← mx_int, ← mn_int]
  unfold f_R_isOver
  rw [h7]
  by_cases c1 : s = 0
  · have i1 := (z s).mp c1
    rw [if_pos c1, if_pos c1, ovA ht.1 hx hy, if_pos i1]
    constructor
    · intro q; exact ⟨fun w => w.1 i1, q⟩
    · intro q; exact q.2
  · have i1 : ¬ s.toInt = 0 := fun q => c1 ((z s).mpr q)
    by_cases c2 : M 6 r.toNatClampNeg = 0
    · have i2 := (z _).mp c2
      rw [if_neg c1, if_pos c2, if_neg c1, ovA hs hx hy, if_neg i1]
      constructor
      · intro q; exact ⟨fun w => w.2.1 i2, q⟩
      · intro q; exact q.2
    · have i2 : ¬ (M 6 r.toNatClampNeg).toInt = 0 := fun q => c2 ((z _).mpr q)
      by_cases c3 : s = M 6 r.toNatClampNeg
      · rw [if_neg c1, if_neg c2, if_pos c3, if_neg c1, ovA hs hx hy, if_neg i1]
        constructor
        · intro q; exact ⟨fun w => w.2.2 (by rw [c3]), q⟩
        · intro q; exact q.2
      · rw [if_neg c1, if_neg c2, if_neg c3]
        constructor
        · intro q; exact absurd rfl q
        · intro q; exact absurd ⟨i1, i2, fun w => c3 (Int32.toInt_inj.mp w)⟩ q.1
