def q_exB (q : Nat → Bool) : Nat → Bool
  | 0 => false
  | n + 1 => q_exB q n || q n
theorem exB_iff (q : Nat → Bool) : ∀ n, q_exB q n = true ↔ ∃ j, j < n ∧ q j = true
  | 0 => ⟨fun h => Bool.noConfusion (show false = true from h), fun ⟨_, hj, _⟩ => absurd hj (Nat.not_lt_zero _)⟩
  | n + 1 => by
    rw [q_exB, Bool.or_eq_true, exB_iff q n]
    constructor
    · rintro (⟨j, h1, h2⟩ | h)
      · exact ⟨j, by omega, h2⟩
      · exact ⟨n, by omega, h⟩
    · rintro ⟨j, h1, h2⟩
      by_cases c : j = n
      · rw [c] at h2; exact Or.inr h2
      · exact Or.inl ⟨j, by omega, h2⟩
theorem bool_ext {a b : Bool} (h : a = true ↔ b = true) : a = b := by
  cases a with
  | false =>
    cases b with
    | false => rfl
    | true => exact absurd (h.mpr rfl) (by decide)
  | true => exact (h.mp rfl).symm
theorem ct_ext {p q : Nat → Bool} : ∀ n, (∀ y, y < n → q y = p y) → ct q n = ct p n
  | 0, _ => rfl
  | n + 1, h => by
    rw [ct, ct, ct_ext n (fun y hy => h y (by omega)), h n (by omega)]
theorem ct_or {p q r : Nat → Bool} (h : ∀ y, r y = (p y || q y)) (hd : ∀ y, ¬ (p y = true ∧ q y = true)) : ∀ n, ct r n = ct p n + ct q n
  | 0 => rfl
  | n + 1 => by
    have ih := ct_or h hd n
    have d := hd n
    rw [ct, ct, ct, ih, h n]
    cases e1 : p n with
    | false =>
      cases e2 : q n with
      | false =>
        show ct p n + ct q n + 0 = ct p n + 0 + (ct q n + 0)
        omega
      | true =>
        show ct p n + ct q n + 1 = ct p n + 0 + (ct q n + 1)
        omega
    | true =>
      cases e2 : q n with
      | false =>
        show ct p n + ct q n + 1 = ct p n + 1 + (ct q n + 0)
        omega
      | true => exact absurd ⟨e1, e2⟩ d
theorem ct_one {p q : Nat → Bool} {z : Nat} (h1 : p z = false) (h2 : q z = true) (h3 : ∀ y, y ≠ z → q y = p y) : ∀ n, z < n → ct q n = ct p n + 1
  | 0, h => absurd h (Nat.not_lt_zero _)
  | n + 1, h => by
    rw [ct, ct]
    by_cases c : n = z
    · rw [ct_ext n (fun y hy => h3 y (by omega)), c, h1, h2]
      show ct p z + 1 = ct p z + 0 + 1
      omega
    · rw [ct_one h1 h2 h3 n (by omega), h3 n c]
      omega
theorem ct_zero {g : Nat → Bool} : ∀ n, (∀ y, y < n → g y = false) → ct g n = 0
  | 0, _ => rfl
  | n + 1, h => by
    rw [ct, ct_zero n (fun y hy => h y (by omega)), h n (by omega)]
    rfl
theorem ct_stop {g : Nat → Bool} {a : Nat} (h : ∀ y, a ≤ y → g y = false) : ∀ n, a ≤ n → ct g n = ct g a
  | 0, hn => by rw [show a = 0 by omega]
  | n + 1, hn => by
    by_cases c : a = n + 1
    · rw [c]
    · rw [ct, ct_stop h n (by omega), h n (by omega)]
      rfl
def q_sm (f : Nat → Nat) : Nat → Nat
  | 0 => 0
  | n + 1 => q_sm f n + f n
theorem sm_le {f : Nat → Nat} {b : Nat} (h : ∀ j, f j ≤ b) : ∀ n, q_sm f n ≤ n * b
  | 0 => Nat.zero_le _
  | n + 1 => by
    have h1 := sm_le h n
    have h2 := h n
    rw [q_sm, Nat.succ_mul]
    omega
/-- houses of a side from one to another, counted -/
theorem ctl {f : Nat → Bool} {L H : Int} (hf : ∀ n : Nat, f n = true ↔ (L ≤ (n : Int) ∧ (n : Int) ≤ H ∧ (n : Int) % 2 = L % 2)) (hL : 0 ≤ L) (hLH : L ≤ H + 2) (hp : H % 2 = L % 2) : ∀ n : Nat, ((ct f n : Nat) : Int) = if (n : Int) ≤ L then 0 else (if (n : Int) ≤ H then ((n : Int) - L + 1) / 2 else (H - L) / 2 + 1)
  | 0 => by rw [if_pos (by omega)]; rfl
  | n + 1 => by
    have ih := ctl hf hL hLH hp n
    have g := hf n
    rw [ct]
    cases e : f n with
    | false =>
      rw [e] at g
      have g : ¬ (L ≤ (n : Int) ∧ (n : Int) ≤ H ∧ (n : Int) % 2 = L % 2) := fun q => absurd (g.mpr q) (by decide)
      show ((ct f n + 0 : Nat) : Int) = _
      split at ih <;> split <;> (try split at ih) <;> (try split) <;> omega
    | true =>
      have g := g.mp e
      show ((ct f n + 1 : Nat) : Int) = _
      split at ih <;> split <;> (try split at ih) <;> (try split) <;> omega
theorem ctl0 {f : Nat → Bool} {L H : Int} (hf : ∀ n : Nat, f n = true ↔ (L ≤ (n : Int) ∧ (n : Int) ≤ H)) (hL : 0 ≤ L) (hLH : L ≤ H + 1) : ∀ n : Nat, ((ct f n : Nat) : Int) = if (n : Int) ≤ L then 0 else (if (n : Int) ≤ H then (n : Int) - L else H - L + 1)
  | 0 => by rw [if_pos (by omega)]; rfl
  | n + 1 => by
    have ih := ctl0 hf hL hLH n
    have g := hf n
    rw [ct]
    cases e : f n with
    | false =>
      rw [e] at g
      have g : ¬ (L ≤ (n : Int) ∧ (n : Int) ≤ H) := fun q => absurd (g.mpr q) (by decide)
      show ((ct f n + 0 : Nat) : Int) = _
      split at ih <;> split <;> (try split at ih) <;> (try split) <;> omega
    | true =>
      have g := g.mp e
      show ((ct f n + 1 : Nat) : Int) = _
      split at ih <;> split <;> (try split at ih) <;> (try split) <;> omega
theorem div2 {x : Int32} {q : Int} (h : x.toInt = 2 * q) (h1 : -100000 ≤ q) (h2 : q ≤ 100000) : (x / 2).toInt = q := by
  rw [Int32.toInt_div, h, show ((2) : Int32).toInt = 2 by decide, Int.mul_tdiv_cancel_left _ (by decide)]
  exact i32_bm (by omega) (by omega)
/-- a house is in a range, tested -/
def q_inB (s lo hi h : Int) : Bool := decide (lo ≤ h) && decide (h ≤ hi) && (decide (s = 0) || decide (h % 2 = s % 2))
theorem inB_iff {s lo hi h : Int} : q_inB s lo hi h = true ↔ inR s lo hi h := by
  unfold q_inB inR OS
  simp only [Bool.and_eq_true, Bool.or_eq_true, decide_eq_true_eq]
  exact and_assoc
theorem len_eq {s lo hi a b : Int32} (hs : 0 ≤ s.toInt ∧ s.toInt ≤ 2) (hlo : 1 ≤ lo.toInt) (hle : lo.toInt ≤ hi.toInt) (hhi : hi.toInt ≤ 999) (ha : a = f_A_lowestOf s lo) (hb : b = f_A_highestOf s hi) : (if s = 0 then 1 + (b - a) else 1 + ((b - a) / 2)).toInt = ((ct (fun h : Nat => q_inB s.toInt lo.toInt hi.toInt h) 1000 : Nat) : Int) := by
  have ea := lowA (s := s) (x := lo) hs.1 (by omega) (by omega)
  have eb := highA (s := s) (x := hi) hs.1 (by omega) (by omega)
  rw [← ha] at ea
  rw [← hb] at eb
  have z : s = 0 ↔ s.toInt = 0 := by rw [← Int32.toInt_inj]; exact Iff.rfl
  have z1 : ((1) : Int32).toInt = 1 := by decide
  have na : lo.toInt ≤ a.toInt ∧ a.toInt ≤ lo.toInt + 1 := by rw [ea]; unfold lw; split <;> omega
  have nb : hi.toInt - 1 ≤ b.toInt ∧ b.toInt ≤ hi.toInt := by rw [eb]; unfold hg; split <;> omega
  have sb := i32_sub (x := b) (y := a) (by omega) (by omega)
  by_cases c : s = 0
  · have c0 := z.mp c
    rw [if_pos c, i32_add (by rw [z1]; omega) (by rw [z1]; omega), z1, sb]
    unfold lw at ea
    unfold hg at eb
    rw [if_pos (Or.inl c0)] at ea eb
    have k := ctl0 (f := fun h : Nat => q_inB s.toInt lo.toInt hi.toInt h) (L := a.toInt) (H := b.toInt) (fun n => by
      show q_inB s.toInt lo.toInt hi.toInt (n : Int) = true ↔ _
      rw [inB_iff]
      unfold inR OS
      constructor
      · intro q; exact ⟨by omega, by omega⟩
      · intro q; exact ⟨by omega, by omega, Or.inl c0⟩) (by omega) (by omega) 1000
    rw [k]
    split
    · omega
    · split <;> omega
  · have c0 : ¬ s.toInt = 0 := fun q => c (z.mpr q)
    obtain ⟨l1, l2, l3⟩ := lw_os (s := s.toInt) (x := lo.toInt) hs.1 hs.2
    obtain ⟨u1, u2, u3⟩ := hg_os (s := s.toInt) (x := hi.toInt) hs.1 hs.2
    rw [← ea] at l1 l2 l3
    rw [← eb] at u1 u2 u3
    have p1 := l2.resolve_left c0
    have p2 := u2.resolve_left c0
    have q1 : b.toInt - a.toInt = 2 * ((b.toInt - a.toInt) / 2) := by omega
    have dv := div2 (x := b - a) (q := (b.toInt - a.toInt) / 2) (by rw [sb]; exact q1) (by omega) (by omega)
    rw [if_neg c, i32_add (by rw [z1, dv]; omega) (by rw [z1, dv]; omega), z1, dv]
    have hab : a.toInt ≤ b.toInt + 2 := by omega
    have k := ctl (f := fun h : Nat => q_inB s.toInt lo.toInt hi.toInt h) (L := a.toInt) (H := b.toInt) (fun n => by
      show q_inB s.toInt lo.toInt hi.toInt (n : Int) = true ↔ _
      rw [inB_iff, inR_lw hs.1 hs.2, ← ea, ← eb]
      unfold OS
      constructor
      · rintro ⟨g1, g2, g3⟩; exact ⟨g1, g2, by omega⟩
      · rintro ⟨g1, g2, g3⟩; exact ⟨g1, g2, Or.inr (by omega)⟩) (by omega) hab (by omega) 1000
    rw [k]
    split
    · omega
    · split <;> omega
