/-- a house is of a side -/
def OS (s h : Int) : Prop := s = 0 ∨ h % 2 = s % 2
/-- a house is in a range -/
def inR (s lo hi h : Int) : Prop := lo ≤ h ∧ h ≤ hi ∧ OS s h
theorem and1 {h : Int32} (h0 : 0 ≤ h.toInt) : (h &&& 1 = 1) ↔ h.toInt % 2 = 1 := by
  have b := h.toInt_lt
  have e := cl_int h0
  have k : h &&& 1 = nI (h.toNatClampNeg % 2) := by
    rw [← nI_cl h0, nI_cl h0]
    have := pk_andN (n := h.toNatClampNeg) (by omega) (m := 1) 1 (by decide)
    rw [nI_cl h0] at this
    exact this
  rw [k, show (1 : Int32) = nI 1 from rfl, nI_eq (by omega) (by omega)]
  omega
theorem rem2 {h : Int32} (h0 : 0 ≤ h.toInt) : h - h / 2 * 2 = nI (h.toNatClampNeg % 2) := by
  have b := h.toInt_lt
  have e := cl_int h0
  have := pk_rem (a := h.toNatClampNeg) (d := 2) (by omega) (by omega) (by omega)
  rw [nI_cl h0] at this
  exact this
theorem osA {s h : Int32} (hs : 0 ≤ s.toInt) (h0 : 0 ≤ h.toInt) : f_A_isOfSide s h = 0 ↔ ¬ OS s.toInt h.toInt := by
  have z : s = 0 ↔ s.toInt = 0 := by
    rw [← Int32.toInt_inj]
    exact Iff.rfl
  unfold f_A_isOfSide OS
  by_cases c : s = 0
  · rw [if_pos c]
    have := z.mp c
    constructor
    · intro q; exact absurd q (by decide)
    · intro q; exact absurd (Or.inl this) q
  · rw [if_neg c]
    have c2 : ¬ s.toInt = 0 := fun q => c (z.mpr q)
    have o1 := and1 h0
    have o2 := and1 hs
    unfold f_A_isOdd
    by_cases q1 : h &&& 1 = 1
    · by_cases q2 : s &&& 1 = 1
      · rw [if_pos q1, if_pos q2, if_pos rfl]
        have := o1.mp q1
        have := o2.mp q2
        constructor
        · intro q; exact absurd q (by decide)
        · intro q; exact absurd (Or.inr (by omega)) q
      · rw [if_pos q1, if_neg q2, if_neg (by decide)]
        have := o1.mp q1
        have := mt o2.mpr q2
        constructor
        · intro _ q; omega
        · intro _; rfl
    · by_cases q2 : s &&& 1 = 1
      · rw [if_neg q1, if_pos q2, if_neg (by decide)]
        have := mt o1.mpr q1
        have := o2.mp q2
        constructor
        · intro _ q; omega
        · intro _; rfl
      · rw [if_neg q1, if_neg q2, if_pos rfl]
        have := mt o1.mpr q1
        have := mt o2.mpr q2
        constructor
        · intro q; exact absurd q (by decide)
        · intro q; exact absurd (Or.inr (by omega)) q
theorem osM {s h : Int32} (hs : 0 ≤ s.toInt) (h0 : 0 ≤ h.toInt) : f_M_isOfSide s h = 0 ↔ ¬ OS s.toInt h.toInt := by
  have z : s = 0 ↔ s.toInt = 0 := by
    rw [← Int32.toInt_inj]
    exact Iff.rfl
  have b1 := h.toInt_lt
  have b2 := s.toInt_lt
  have e1 := cl_int h0
  have e2 := cl_int hs
  unfold f_M_isOfSide OS
  by_cases c : s = 0
  · rw [if_pos c]
    have := z.mp c
    constructor
    · intro q; exact absurd q (by decide)
    · intro q; exact absurd (Or.inl this) q
  · rw [if_neg c, rem2 h0, rem2 hs]
    have key : nI (h.toNatClampNeg % 2) = nI (s.toNatClampNeg % 2) ↔ h.toNatClampNeg % 2 = s.toNatClampNeg % 2 := nI_eq (by omega) (by omega)
    have c2 : ¬ s.toInt = 0 := fun q => c (z.mpr q)
    by_cases q : h.toNatClampNeg % 2 = s.toNatClampNeg % 2
    · rw [if_pos (key.mpr q)]
      constructor
      · intro q; exact absurd q (by decide)
      · intro w; exact absurd (Or.inr (by omega)) w
    · rw [if_neg (fun w => q (key.mp w))]
      constructor
      · intro _ w; omega
      · intro _; rfl
theorem os_eq {s h : Int32} (hs : 0 ≤ s.toInt) (h0 : 0 ≤ h.toInt) : f_A_isOfSide s h = f_M_isOfSide s h := by
  have a := osA hs h0
  have b := osM hs h0
  have a1 : f_A_isOfSide s h = 0 ∨ f_A_isOfSide s h = 1 := by
    unfold f_A_isOfSide
    split
    · exact Or.inr rfl
    · split
      · exact Or.inr rfl
      · exact Or.inl rfl
  have b1 : f_M_isOfSide s h = 0 ∨ f_M_isOfSide s h = 1 := by
    unfold f_M_isOfSide
    split
    · exact Or.inr rfl
    · split
      · exact Or.inr rfl
      · exact Or.inl rfl
  rcases a1 with q | q
  · rw [q, b.mpr (a.mp q)]
  · rcases b1 with w | w
    · rw [a.mpr (b.mp w), w]
    · rw [q, w]
def lw (s x : Int) : Int := if s = 0 ∨ x % 2 = s % 2 then x else x + 1
def hg (s x : Int) : Int := if s = 0 ∨ x % 2 = s % 2 then x else x - 1
theorem lowA {s x : Int32} (hs : 0 ≤ s.toInt) (h0 : 0 ≤ x.toInt) (h1 : x.toInt ≤ 2000) : (f_A_lowestOf s x).toInt = lw s.toInt x.toInt := by
  have k := i32_inc (x := x) h0 (by omega)
  have o := osA hs h0
  unfold f_A_lowestOf lw
  by_cases c : f_A_isOfSide s x = 0
  · rw [if_pos c, if_neg (show ¬ (s.toInt = 0 ∨ x.toInt % 2 = s.toInt % 2) from o.mp c)]; exact k
  · rw [if_neg c]
    by_cases q : s.toInt = 0 ∨ x.toInt % 2 = s.toInt % 2
    · rw [if_pos q]
    · exact absurd (o.mpr q) c
theorem highA {s x : Int32} (hs : 0 ≤ s.toInt) (h0 : 0 ≤ x.toInt) (h1 : x.toInt ≤ 2000) : (f_A_highestOf s x).toInt = hg s.toInt x.toInt := by
  have z1 : ((1) : Int32).toInt = 1 := by decide
  have k := i32_sub (x := x) (y := 1) (by omega) (by omega)
  have o := osA hs h0
  unfold f_A_highestOf hg
  by_cases c : f_A_isOfSide s x = 0
  · rw [if_pos c, if_neg (show ¬ (s.toInt = 0 ∨ x.toInt % 2 = s.toInt % 2) from o.mp c), k, z1]
  · rw [if_neg c]
    by_cases q : s.toInt = 0 ∨ x.toInt % 2 = s.toInt % 2
    · rw [if_pos q]
    · exact absurd (o.mpr q) c
theorem lw_os {s x : Int} (h0 : 0 ≤ s) (h1 : s ≤ 2) : x ≤ lw s x ∧ OS s (lw s x) ∧ ∀ h, x ≤ h → OS s h → lw s x ≤ h := by
  unfold lw OS
  split
  · exact ⟨Int.le_refl _, by assumption, fun h q _ => q⟩
  · exact ⟨by omega, Or.inr (by omega), fun h q w => by omega⟩
theorem hg_os {s x : Int} (h0 : 0 ≤ s) (h1 : s ≤ 2) : hg s x ≤ x ∧ OS s (hg s x) ∧ ∀ h, h ≤ x → OS s h → h ≤ hg s x := by
  unfold hg OS
  split
  · exact ⟨Int.le_refl _, by assumption, fun h q _ => q⟩
  · exact ⟨by omega, Or.inr (by omega), fun h q w => by omega⟩
/-- two ranges share a house: by numbers -/
theorem ov_iff {s t a b p q : Int} (hs : 0 ≤ s) (hs2 : s ≤ 2) (ht : 0 ≤ t) (ht2 : t ≤ 2) :
    (∃ h, inR s a b h ∧ inR t p q h) ↔ (¬ (s ≠ 0 ∧ t ≠ 0 ∧ s ≠ t) ∧ lw (if s = 0 then t else s) (if a < lw t p then lw t p else a) ≤ hg (if s = 0 then t else s) (if hg t q < b then hg t q else b)) := by
  obtain ⟨c, hc⟩ : ∃ c, c = (if s = 0 then t else s) := ⟨_, rfl⟩
  obtain ⟨L, eL⟩ : ∃ L, L = (if a < lw t p then lw t p else a) := ⟨_, rfl⟩
  obtain ⟨U, eU⟩ : ∃ U, U = (if hg t q < b then hg t q else b) := ⟨_, rfl⟩
  rw [← hc, ← eL, ← eU]
  have hc0 : 0 ≤ c ∧ c ≤ 2 := by rw [hc]; split <;> omega
  obtain ⟨l1, l2, l3⟩ := lw_os (s := t) (x := p) ht ht2
  obtain ⟨u1, u2, u3⟩ := hg_os (s := t) (x := q) ht ht2
  obtain ⟨m1, m2, m3⟩ := lw_os (s := c) (x := L) hc0.1 hc0.2
  obtain ⟨v1, v2, v3⟩ := hg_os (s := c) (x := U) hc0.1 hc0.2
  have hL : a ≤ L ∧ lw t p ≤ L ∧ (L = a ∨ L = lw t p) := by rw [eL]; split <;> omega
  have hU : U ≤ b ∧ U ≤ hg t q ∧ (U = b ∨ U = hg t q) := by rw [eU]; split <;> omega
  constructor
  · rintro ⟨h, ⟨a1, a2, a3⟩, ⟨b1, b2, b3⟩⟩
    have k1 := l3 h b1 b3
    have k2 := u3 h b2 b3
    have oc : OS c h := by rw [hc]; split; exact b3; exact a3
    refine ⟨fun w => ?_, Int.le_trans (m3 h (by omega) oc) (v3 h (by omega) oc)⟩
    unfold OS at a3 b3
    omega
  · rintro ⟨w, h⟩
    have os : OS s (lw c L) := by
      by_cases q1 : s = 0
      · exact Or.inl q1
      · rw [hc, if_neg q1] at m2 ⊢; exact m2
    have ot : OS t (lw c L) := by
      by_cases q1 : s = 0
      · rw [hc, if_pos q1] at m2 ⊢; exact m2
      · by_cases q2 : t = 0
        · exact Or.inl q2
        · have e : s = t := by omega
          rw [← e]
          exact os
    exact ⟨lw c L, ⟨by omega, by omega, os⟩, ⟨by omega, by omega, ot⟩⟩
theorem inR_lw {s lo hi h : Int} (hs : 0 ≤ s) (hs2 : s ≤ 2) : inR s lo hi h ↔ (lw s lo ≤ h ∧ h ≤ hg s hi ∧ OS s h) := by
  obtain ⟨l1, l2, l3⟩ := lw_os (s := s) (x := lo) hs hs2
  obtain ⟨u1, u2, u3⟩ := hg_os (s := s) (x := hi) hs hs2
  unfold inR
  constructor
  · rintro ⟨a, b, c⟩; exact ⟨l3 h a c, u3 h b c, c⟩
  · rintro ⟨a, b, c⟩; exact ⟨by omega, by omega, c⟩
/-- ranges, both sides: the first and last house -/
def GR1 (s7 s8 s9 m7 m8 : Nat → Int32) : Prop := (∀ j, s8 j = f_A_lowestOf (s7 j) (m7 j) ∧ s9 j = f_A_highestOf (s7 j) (m8 j)) ∧ ∀ j, 0 ≤ (s7 j).toInt ∧ (s7 j).toInt ≤ 2
theorem hasM_iff {M : BS} (hI : IVM M) {r h : Int32} (hs : 0 ≤ (M 6 r.toNatClampNeg).toInt) : ¬ f_M_has M r h = 0 ↔ inR (M 6 r.toNatClampNeg).toInt (M 7 r.toNatClampNeg).toInt (M 8 r.toNatClampNeg).toInt h.toInt := by
  have b1 := ivM_7 hI r.toNatClampNeg
  unfold f_M_has inR
  by_cases c1 : h < M 7 r.toNatClampNeg
  · rw [if_pos c1]
    have := Int32.lt_iff_toInt_lt.mp c1
    constructor
    · intro q; exact absurd rfl q
    · intro q; omega
  · rw [if_neg c1]
    have t1 := mt Int32.lt_iff_toInt_lt.mpr c1
    by_cases c2 : M 8 r.toNatClampNeg < h
    · rw [if_pos c2]
      have := Int32.lt_iff_toInt_lt.mp c2
      constructor
      · intro q; exact absurd rfl q
      · intro q; omega
    · rw [if_neg c2]
      have t2 := mt Int32.lt_iff_toInt_lt.mpr c2
      have o := osM hs (h := h) (by omega)
      by_cases c3 : f_M_isOfSide (M 6 r.toNatClampNeg) h = 0
      · rw [if_pos c3]
        constructor
        · intro q; exact absurd rfl q
        · intro q; exact absurd q.2.2 (o.mp c3)
      · rw [if_neg c3]
        constructor
        · intro _
          refine ⟨by omega, by omega, ?_⟩
          by_cases w : OS (M 6 r.toNatClampNeg).toInt h.toInt
          · exact w
          · exact absurd (o.mpr w) c3
        · intro _; decide
theorem holds_iff {S M : BS} (hI : IVM M) (h7 : S 7 = M 6) (hR : GR1 (S 7) (S 8) (S 9) (M 7) (M 8)) {r h : Int32} : ¬ f_R_holds S r h = 0 ↔ inR (M 6 r.toNatClampNeg).toInt (M 7 r.toNatClampNeg).toInt (M 8 r.toNatClampNeg).toInt h.toInt := by
  have b1 := ivM_7 hI r.toNatClampNeg
  have b2 := ivM_8 hI r.toNatClampNeg
  obtain ⟨e8, e9⟩ := hR.1 r.toNatClampNeg
  have hs := hR.2 r.toNatClampNeg
  rw [h7] at e8 e9 hs
  have k8 := lowA (s := M 6 r.toNatClampNeg) (x := M 7 r.toNatClampNeg) hs.1 (by omega) (by omega)
  have k9 := highA (s := M 6 r.toNatClampNeg) (x := M 8 r.toNatClampNeg) hs.1 (by omega) (by omega)
  obtain ⟨l1, -, -⟩ := lw_os (s := (M 6 r.toNatClampNeg).toInt) (x := (M 7 r.toNatClampNeg).toInt) hs.1 hs.2
  rw [inR_lw hs.1 hs.2, ← k8, ← k9, ← e8, ← e9]
  rw [← e8] at k8
  unfold f_R_holds f_A_isWithin
  rw [h7]
  by_cases c1 : h < S 8 r.toNatClampNeg
  · rw [if_pos c1, if_pos rfl]
    have := Int32.lt_iff_toInt_lt.mp c1
    constructor
    · intro q; exact absurd rfl q
    · intro q; omega
  · rw [if_neg c1]
    have t1 := mt Int32.lt_iff_toInt_lt.mpr c1
    by_cases c2 : S 9 r.toNatClampNeg < h
    · rw [if_pos c2, if_pos rfl]
      have := Int32.lt_iff_toInt_lt.mp c2
      constructor
      · intro q; exact absurd rfl q
      · intro q; omega
    · rw [if_neg c2, if_neg (by decide)]
      have t2 := mt Int32.lt_iff_toInt_lt.mpr c2
      have o := osA hs.1 (h := h) (by omega)
      by_cases c3 : f_A_isOfSide (M 6 r.toNatClampNeg) h = 0
      · rw [if_pos c3]
        constructor
        · intro q; exact absurd rfl q
        · intro q; exact absurd q.2.2 (o.mp c3)
      · rw [if_neg c3]
        constructor
        · intro _
          refine ⟨by omega, by omega, ?_⟩
          by_cases w : OS (M 6 r.toNatClampNeg).toInt h.toInt
          · exact w
          · exact absurd (o.mpr w) c3
        · intro _; decide
