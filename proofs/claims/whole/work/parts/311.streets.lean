/-- how many places below n are of a kind -/
def ct (p : Nat → Bool) : Nat → Nat
  | 0 => 0
  | n + 1 => ct p n + cond (p n) 1 0
theorem ct_le (p : Nat → Bool) : ∀ n, ct p n ≤ n
  | 0 => Nat.le_refl 0
  | n + 1 => by
    have h := ct_le p n
    rw [ct]
    cases p n <;> simp <;> omega
theorem ct_mono {p q : Nat → Bool} (h : ∀ y, p y = true → q y = true) : ∀ n, ct p n ≤ ct q n
  | 0 => Nat.le_refl 0
  | n + 1 => by
    have h1 := ct_mono h n
    rw [ct, ct]
    cases e : p n
    · cases q n <;> simp <;> omega
    · rw [h _ e]; simp; omega
theorem ct_lt {p q : Nat → Bool} (h : ∀ y, p y = true → q y = true) {z : Nat} (h1 : p z = false) (h2 : q z = true) : ∀ n, z < n → ct p n < ct q n
  | 0, hz => absurd hz (Nat.not_lt_zero _)
  | n + 1, hz => by
    rw [ct, ct]
    rcases Nat.lt_or_ge z n with r | r
    · have k := ct_lt h h1 h2 n r
      cases e : p n
      · cases q n <;> simp <;> omega
      · rw [h _ e]; simp; omega
    · have e : z = n := by omega
      subst e
      have k := ct_mono h z
      rw [h1, h2]
      simp
      omega
theorem ct_ltn {p : Nat → Bool} {z n : Nat} (h1 : p z = false) (hz : z < n) : ct p n < n := Nat.lt_of_lt_of_le (ct_lt (q := fun _ => true) (fun _ _ => rfl) h1 rfl n hz) (ct_le _ n)
/-- the way of a street -/
def mt_ (m3 m4 : Nat → Int32) (d : Int32) : Nat → Int32 → Int32
  | 0, _ => 0
  | n + 1, x => if m3 x.toNatClampNeg < 0 then x else (if d < m4 x.toNatClampNeg then x else mt_ m3 m4 d n (m3 x.toNatClampNeg))
def MT (m3 m4 : Nat → Int32) (d x : Int32) : Int32 := mt_ m3 m4 d 600 x
theorem meant_MT (M : BS) (x d : Int32) : f_M_meant M x d = MT (M 3) (M 4) d x := by
  have key : ∀ (n : Nat) (y : Int32), l_M_meant_2 M x d n y = mt_ (M 3) (M 4) d n y := by
    intro n
    induction n with
    | zero => intro y; rfl
    | succ n ih => intro y; rw [l_M_meant_2, mt_, ih]
  exact key 600 x
def Rk (m3 : Nat → Int32) (ns : Int32) (rk : Nat → Nat) : Prop := ∀ j : Nat, (j : Int) < ns.toInt → 0 ≤ (m3 j).toInt → (m3 j).toInt < ns.toInt ∧ rk (m3 j).toNatClampNeg < rk j
/-- a rank below the number of streets -/
theorem rk_norm {m3 : Nat → Int32} {ns : Int32} {rk : Nat → Nat} (h : Rk m3 ns rk) : ∃ rk2 : Nat → Nat, Rk m3 ns rk2 ∧ ∀ j : Nat, (j : Int) < ns.toInt → (rk2 j : Int) < ns.toInt := by
  refine ⟨fun j => ct (fun y => decide (rk y < rk j)) ns.toNatClampNeg, fun j hj h0 => ?_, fun j hj => ?_⟩
  · obtain ⟨h1, h2⟩ := h j hj h0
    have e := cl_int (x := ns) (by omega)
    have e2 := cl_int h0
    refine ⟨h1, ct_lt (z := (m3 j).toNatClampNeg) (fun y hy => ?_) ?_ ?_ _ (by omega)⟩
    · simp only [decide_eq_true_eq] at hy ⊢; omega
    · simp
    · simp only [decide_eq_true_eq]; exact h2
  · have e := cl_int (x := ns) (by omega)
    have k := ct_ltn (p := fun y => decide (rk y < rk j)) (z := j) (n := ns.toNatClampNeg) (by simp) (by omega)
    show ((ct (fun y => decide (rk y < rk j)) ns.toNatClampNeg : Nat) : Int) < ns.toInt
    omega
theorem mt_fuel {m3 m4 : Nat → Int32} {ns d : Int32} {rk : Nat → Nat} (hr : Rk m3 ns rk) : ∀ (n n2 : Nat) (x : Int32), 0 ≤ x.toInt → x.toInt < ns.toInt → rk x.toNatClampNeg < n → rk x.toNatClampNeg < n2 → mt_ m3 m4 d n x = mt_ m3 m4 d n2 x := by
  intro n
  induction n with
  | zero => intro n2 x _ _ h _; exact absurd h (Nat.not_lt_zero _)
  | succ n ih =>
    intro n2 x h0 h1 h2 h3
    cases n2 with
    | zero => exact absurd h3 (Nat.not_lt_zero _)
    | succ n2 =>
      rw [mt_, mt_]
      by_cases c : m3 x.toNatClampNeg < 0
      · rw [if_pos c, if_pos c]
      · rw [if_neg c, if_neg c]
        have t := mt i32_lt0.mpr c
        have e := cl_int h0
        obtain ⟨k1, k2⟩ := hr x.toNatClampNeg (by omega) (by omega)
        rw [ih n2 (m3 x.toNatClampNeg) (by omega) k1 (by omega) (by omega)]
theorem MT_stop {m3 m4 : Nat → Int32} {d x : Int32} (h : (m3 x.toNatClampNeg).toInt < 0 ∨ d.toInt < (m4 x.toNatClampNeg).toInt) : MT m3 m4 d x = x := by
  show mt_ m3 m4 d (599 + 1) x = x
  rw [mt_]
  rcases h with h | h
  · rw [if_pos (i32_lt0.mpr h)]
  · split
    · rfl
    · rw [if_pos (Int32.lt_iff_toInt_lt.mpr h)]
theorem MT_go {m3 m4 : Nat → Int32} {ns d x : Int32} {rk : Nat → Nat} (hr : Rk m3 ns rk) (hb : ∀ j : Nat, (j : Int) < ns.toInt → rk j < 599) (h0 : 0 ≤ x.toInt) (h1 : x.toInt < ns.toInt) (h2 : 0 ≤ (m3 x.toNatClampNeg).toInt) (h3 : (m4 x.toNatClampNeg).toInt ≤ d.toInt) : MT m3 m4 d x = MT m3 m4 d (m3 x.toNatClampNeg) := by
  show mt_ m3 m4 d (599 + 1) x = mt_ m3 m4 d 600 (m3 x.toNatClampNeg)
  have e := cl_int h0
  have e2 := cl_int h2
  obtain ⟨k1, k2⟩ := hr x.toNatClampNeg (by omega) h2
  rw [mt_, if_neg (fun q => by have := i32_lt0.mp q; omega), if_neg (fun q => by have := Int32.lt_iff_toInt_lt.mp q; omega)]
  have b := hb (m3 x.toNatClampNeg).toNatClampNeg (by omega)
  exact mt_fuel hr 599 600 _ h2 k1 (by omega) (by omega)
/-- by the way of a street: what holds where it stops, and goes back along it -/
theorem MT_ind {m3 m4 : Nat → Int32} {ns d : Int32} {rk : Nat → Nat} (hr : Rk m3 ns rk) (P : Int32 → Prop)
    (hs : ∀ x : Int32, 0 ≤ x.toInt → x.toInt < ns.toInt → ((m3 x.toNatClampNeg).toInt < 0 ∨ d.toInt < (m4 x.toNatClampNeg).toInt) → P x)
    (hg : ∀ x : Int32, 0 ≤ x.toInt → x.toInt < ns.toInt → 0 ≤ (m3 x.toNatClampNeg).toInt → (m3 x.toNatClampNeg).toInt < ns.toInt → (m4 x.toNatClampNeg).toInt ≤ d.toInt → P (m3 x.toNatClampNeg) → P x) : ∀ x : Int32, 0 ≤ x.toInt → x.toInt < ns.toInt → P x := by
  have key : ∀ (n : Nat) (x : Int32), rk x.toNatClampNeg < n → 0 ≤ x.toInt → x.toInt < ns.toInt → P x := by
    intro n
    induction n with
    | zero => intro x h; exact absurd h (Nat.not_lt_zero _)
    | succ n ih =>
      intro x hn h0 h1
      by_cases c1 : (m3 x.toNatClampNeg).toInt < 0
      · exact hs x h0 h1 (Or.inl c1)
      · by_cases c2 : d.toInt < (m4 x.toNatClampNeg).toInt
        · exact hs x h0 h1 (Or.inr c2)
        · have e := cl_int h0
          obtain ⟨k1, k2⟩ := hr x.toNatClampNeg (by omega) (by omega)
          exact hg x h0 h1 (by omega) k1 (by omega) (ih _ (by omega) (by omega) k1)
  exact fun x h0 h1 => key (rk x.toNatClampNeg + 1) x (Nat.lt_succ_self _) h0 h1
/-- where the way ends -/
theorem MT_end {m3 m4 : Nat → Int32} {ns d : Int32} {rk : Nat → Nat} (hr : Rk m3 ns rk) (hb : ∀ j : Nat, (j : Int) < ns.toInt → rk j < 599) : ∀ x : Int32, 0 ≤ x.toInt → x.toInt < ns.toInt → 0 ≤ (MT m3 m4 d x).toInt ∧ (MT m3 m4 d x).toInt < ns.toInt ∧ ((m3 (MT m3 m4 d x).toNatClampNeg).toInt < 0 ∨ d.toInt < (m4 (MT m3 m4 d x).toNatClampNeg).toInt) :=
  MT_ind (m4 := m4) (d := d) hr (fun x => 0 ≤ (MT m3 m4 d x).toInt ∧ (MT m3 m4 d x).toInt < ns.toInt ∧ ((m3 (MT m3 m4 d x).toNatClampNeg).toInt < 0 ∨ d.toInt < (m4 (MT m3 m4 d x).toNatClampNeg).toInt))
    (fun x h0 h1 h => by rw [MT_stop h]; exact ⟨h0, h1, h⟩)
    (fun x h0 h1 h2 _ h4 h => by rw [MT_go hr hb h0 h1 h2 h4]; exact h)
/-- first to an earlier day, then on -/
theorem MT_comp {m3 m4 : Nat → Int32} {ns d d2 : Int32} {rk : Nat → Nat} (hr : Rk m3 ns rk) (hb : ∀ j : Nat, (j : Int) < ns.toInt → rk j < 599) (hd : d.toInt ≤ d2.toInt) : ∀ x : Int32, 0 ≤ x.toInt → x.toInt < ns.toInt → MT m3 m4 d2 (MT m3 m4 d x) = MT m3 m4 d2 x :=
  MT_ind (m4 := m4) (d := d) hr (fun x => MT m3 m4 d2 (MT m3 m4 d x) = MT m3 m4 d2 x)
    (fun x h0 h1 h => by rw [MT_stop h])
    (fun x h0 h1 h2 _ h4 h => by rw [MT_go hr hb h0 h1 h2 h4, h, MT_go (d := d2) hr hb h0 h1 h2 (by omega)])
/-- streets, both sides -/
def GS (g3 g4 m3 m4 : Nat → Int32) (ns day : Int32) : Prop :=
  (∀ j : Nat, (j : Int) < ns.toInt → (g3 j = 0 ∧ m3 j = -1) ∨ (g3 j = 1 ∧ m3 j = g4 j ∧ 0 ≤ (m3 j).toInt ∧ (m4 j).toInt ≤ day.toInt)) ∧
  (∀ j : Nat, ns.toInt ≤ (j : Int) → g3 j = 0 ∧ m3 j = 0) ∧ ∃ rk : Nat → Nat, Rk m3 ns rk
theorem GS.rank {g3 g4 m3 m4 : Nat → Int32} {ns day : Int32} (h : GS g3 g4 m3 m4 ns day) (hn : ns.toInt ≤ 32) : ∃ rk : Nat → Nat, Rk m3 ns rk ∧ (∀ j : Nat, (j : Int) < ns.toInt → rk j < 599) ∧ ∀ j : Nat, (j : Int) < ns.toInt → (rk j : Int) < ns.toInt := by
  obtain ⟨rk, hr⟩ := h.2.2
  obtain ⟨rk2, h1, h2⟩ := rk_norm hr
  exact ⟨rk2, h1, fun j hj => by have := h2 j hj; omega, h2⟩
theorem GS.wf {g3 g4 : Nat → Int32} {M : BS} {day : Int32} (hI : IVM M) (h : GS g3 g4 (M 3) (M 4) (M 21 0) day) : WFM M := by
  have b := ivM_21 hI
  obtain ⟨rk, h1, h2, h3⟩ := h.rank (by omega)
  refine ⟨fun j => if (j : Int) < (M 21 0).toInt then rk j else 0, fun j => ?_, fun j hj h0 => ?_⟩
  · show (if (j : Int) < (M 21 0).toInt then rk j else 0) < 600
    split
    · have := h2 j (by assumption); omega
    · omega
  · obtain ⟨k1, k2⟩ := h1 j hj h0
    have e := cl_int h0
    refine ⟨k1, ?_⟩
    show (if (((M 3 j).toNatClampNeg : Nat) : Int) < (M 21 0).toInt then rk (M 3 j).toNatClampNeg else 0) < (if (j : Int) < (M 21 0).toInt then rk j else 0)
    rw [if_pos (by omega), if_pos hj]
    exact k2
/-- what a street means, both sides -/
theorem mean_eq {S M : BS} {day : Int32} (hI : IVM M) (h23 : S 23 0 = M 21 0) (h5 : S 5 = M 4) (h : GS (S 3) (S 4) (M 3) (M 4) (M 21 0) day) {x d : Int32} (h0 : 0 ≤ x.toInt) (h1 : x.toInt < (M 21 0).toInt) : f_T_meaning S x d = f_M_meant M x d := by
  have b := ivM_21 hI
  obtain ⟨rk, hr, hb, hs⟩ := h.rank (by omega)
  rw [meant_MT]
  have key : ∀ (n : Nat) (y z : Int32), 0 ≤ y.toInt → y.toInt < (M 21 0).toInt → 0 ≤ z.toInt → (rk y.toNatClampNeg : Int) + z.toInt < (M 21 0).toInt → l_T_meaning_5 S x d n y z = mt_ (M 3) (M 4) d n y := by
    intro n
    induction n with
    | zero => intro y z _ _ _ _; rfl
    | succ n ih =>
      intro y z hy0 hy1 hz hk
      have e := cl_int hy0
      rw [l_T_meaning_5, mt_, h23, h5, if_neg (fun q => by have := Int32.le_iff_toInt_le.mp q; omega)]
      rcases h.1 y.toNatClampNeg (by omega) with ⟨q1, q2⟩ | ⟨q1, q2, q3, q4⟩
      · rw [if_pos q1, if_pos (by rw [q2]; decide)]
      · rw [if_neg (show ¬ S 3 y.toNatClampNeg = 0 by rw [q1]; decide), if_neg (show ¬ M 3 y.toNatClampNeg < 0 from fun w => by have := i32_lt0.mp w; omega)]
        obtain ⟨k1, k2⟩ := hr y.toNatClampNeg (by omega) q3
        by_cases c : d < M 4 y.toNatClampNeg
        · rw [if_pos c, if_pos c]
        · rw [if_neg c, if_neg c, ← q2]
          have k := i32_inc (x := z) hz (by omega)
          exact ih _ _ q3 k1 (by omega) (by omega)
  have e := cl_int h0
  have z0 : ((0) : Int32).toInt = 0 := by decide
  have k := hs x.toNatClampNeg (by omega)
  exact key 600 x 0 h0 h1 (by decide) (by rw [z0]; omega)
