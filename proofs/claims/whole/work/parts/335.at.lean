/-- the latest of a kind, the least point of those -/
def q_Best (P : Nat → Prop) (pt tl : Nat → Int32) (p t : Int32) (x : Int) : Prop := (p = -1 ∧ t = -1 ∧ ∀ k : Nat, (k : Int) < x → ¬ P k) ∨ (0 ≤ p.toInt ∧ (∃ k : Nat, (k : Int) < x ∧ P k ∧ pt k = p ∧ tl k = t) ∧ ∀ k : Nat, (k : Int) < x → P k → (tl k).toInt < t.toInt ∨ (tl k = t ∧ p.toInt ≤ (pt k).toInt))
theorem best_skip {P : Nat → Prop} {pt tl : Nat → Int32} {p t : Int32} {x : Int} {i : Nat} (h : q_Best P pt tl p t x) (hi : (i : Int) = x) (hn : ¬ P i) : q_Best P pt tl p t (x + 1) := by
  have ne : ∀ k : Nat, (k : Int) < x + 1 → P k → (k : Int) < x := fun k hk hp => by
    by_cases c : k = i
    · rw [c] at hp; exact absurd hp hn
    · omega
  rcases h with ⟨h1, h2, h3⟩ | ⟨h0, ⟨k, k1, k2⟩, h2⟩
  · exact Or.inl ⟨h1, h2, fun k hk hp => h3 k (ne k hk hp) hp⟩
  · exact Or.inr ⟨h0, ⟨k, by omega, k2⟩, fun k hk hp => h2 k (ne k hk hp) hp⟩
theorem best_take {P : Nat → Prop} {pt tl : Nat → Int32} {p t : Int32} {x : Int} {i : Nat} (h : q_Best P pt tl p t x) (hi : (i : Int) = x) (hp : P i) (h0 : 0 ≤ (pt i).toInt) (hc : p = -1 ∨ t.toInt < (tl i).toInt ∨ (tl i = t ∧ (pt i).toInt < p.toInt)) : q_Best P pt tl (pt i) (tl i) (x + 1) := by
  refine Or.inr ⟨h0, ⟨i, by omega, hp, rfl, rfl⟩, fun k hk hq => ?_⟩
  by_cases c : k = i
  · rw [c]; exact Or.inr ⟨rfl, Int.le_refl _⟩
  · rcases h with ⟨h1, h2, h3⟩ | ⟨h4, -, h2⟩
    · exact absurd hq (h3 k (by omega))
    · rcases hc with q | q | ⟨q1, q2⟩
      · rw [q, i32_m1] at h4; omega
      · rcases h2 k (by omega) hq with w | ⟨w, -⟩
        · exact Or.inl (by omega)
        · rw [← w] at q; exact Or.inl q
      · rcases h2 k (by omega) hq with w | ⟨w1, w2⟩
        · rw [q1]; exact Or.inl w
        · exact Or.inr ⟨w1.trans q1.symm, by omega⟩
theorem best_keep {P : Nat → Prop} {pt tl : Nat → Int32} {p t : Int32} {x : Int} {i : Nat} (h : q_Best P pt tl p t x) (hi : (i : Int) = x) (hp : p ≠ -1) (h1 : ¬ t.toInt < (tl i).toInt) (h2 : tl i = t → p.toInt ≤ (pt i).toInt) : q_Best P pt tl p t (x + 1) := by
  rcases h with ⟨q, -⟩ | ⟨h0, ⟨k, k1, k2⟩, h3⟩
  · exact absurd q hp
  · refine Or.inr ⟨h0, ⟨k, by omega, k2⟩, fun k hk hq => ?_⟩
    by_cases c : k = i
    · rw [c]
      by_cases e : tl i = t
      · exact Or.inr ⟨e, h2 e⟩
      · have := mt Int32.toInt_inj.mp e
        exact Or.inl (by omega)
    · exact h3 k (by omega) hq
theorem best_uniq {P Q : Nat → Prop} {pt tl qt ql : Nat → Int32} {p t q u : Int32} {x y : Int} (h : q_Best P pt tl p t x) (g : q_Best Q qt ql q u y) (h1 : ∀ k : Nat, (k : Int) < x → P k → ∃ s : Nat, (s : Int) < y ∧ Q s ∧ qt s = pt k ∧ ql s = tl k) (h2 : ∀ s : Nat, (s : Int) < y → Q s → ∃ k : Nat, (k : Int) < x ∧ P k ∧ pt k = qt s ∧ tl k = ql s) : p = q := by
  rcases h with ⟨a1, -, a2⟩ | ⟨-, ⟨k, k1, k2, k3, k4⟩, a2⟩
  · rcases g with ⟨b1, -, -⟩ | ⟨-, ⟨s, s1, s2, -⟩, -⟩
    · rw [a1, b1]
    · obtain ⟨k, k1, k2, -⟩ := h2 s s1 s2
      exact absurd k2 (a2 k k1)
  · rcases g with ⟨-, -, b2⟩ | ⟨-, ⟨s, s1, s2, s3, s4⟩, b2⟩
    · obtain ⟨s, s1, s2, -⟩ := h1 k k1 k2
      exact absurd s2 (b2 s s1)
    · obtain ⟨j, j1, j2, j3, j4⟩ := h2 s s1 s2
      obtain ⟨i, i1, i2, i3, i4⟩ := h1 k k1 k2
      have w1 := a2 j j1 j2
      have w2 := b2 i i1 i2
      rw [j3, j4, s3, s4] at w1
      rw [i3, i4, k3, k4] at w2
      apply Int32.toInt_inj.mp
      rcases w1 with w1 | ⟨w1, v1⟩
      · rcases w2 with w2 | ⟨w2, -⟩
        · omega
        · rw [w2] at w1; omega
      · rcases w2 with w2 | ⟨-, v2⟩
        · rw [w1] at w2; omega
        · omega
/-- a stay of the book is at a house -/
def q_AtA (S : BS) (X a2 a3 d : Int32) (s : Nat) : Prop := S 17 s = a2 ∧ S 13 (S 16 s).toNatClampNeg = a3 ∧ f_T_meaning S (S 12 (S 16 s).toNatClampNeg) d = X
theorem stayAt {S : BS} {x X a2 a3 d : Int32} : f_A_isStayAt S x X a2 a3 d = 0 ↔ ¬ q_AtA S X a2 a3 d x.toNatClampNeg := by
  unfold f_A_isStayAt q_AtA
  by_cases c1 : S 17 x.toNatClampNeg = a2
  · rw [if_pos c1]
    by_cases c2 : S 13 (S 16 x.toNatClampNeg).toNatClampNeg = a3
    · rw [if_pos c2]
      by_cases c3 : f_T_meaning S (S 12 (S 16 x.toNatClampNeg).toNatClampNeg) d = X
      · rw [if_pos c3]; exact ⟨fun q => absurd q (by decide), fun q => absurd ⟨c1, c2, c3⟩ q⟩
      · rw [if_neg c3]; exact ⟨fun _ q => c3 q.2.2, fun _ => rfl⟩
    · rw [if_neg c2]; exact ⟨fun _ q => c2 q.2.1, fun _ => rfl⟩
  · rw [if_neg c1]; exact ⟨fun _ q => c1 q.1, fun _ => rfl⟩
theorem ly_spec {S : BS} (hI : IV S) {X a2 a3 d : Int32} : ∀ (n : Nat) (x : Int32), 0 ≤ x.toInt → (S 26 0).toInt - x.toInt < (n : Int) → 1 ≤ n →
    (l_A_lyingAt_3 S X a2 a3 d n x = -1 ∧ ∀ s : Nat, x.toInt ≤ (s : Int) → (s : Int) < (S 26 0).toInt → ¬ (hM (S 18) (S 19) s d ∧ q_AtA S X a2 a3 d s)) ∨
    (∃ s : Nat, (s : Int) < (S 26 0).toInt ∧ hM (S 18) (S 19) s d ∧ q_AtA S X a2 a3 d s ∧ l_A_lyingAt_3 S X a2 a3 d n x = S 16 s) := by
  have b := iv_26 hI
  intro n
  induction n with
  | zero => intro x _ _ h; exact absurd h (by omega)
  | succ n ih =>
    intro x h0 h1 h2
    rw [l_A_lyingAt_3]
    by_cases c : S 26 0 ≤ x
    · rw [if_pos c]
      have := Int32.le_iff_toInt_le.mp c
      exact Or.inl ⟨rfl, fun r q1 q2 => by omega⟩
    · have t := mt Int32.le_iff_toInt_le.mpr c
      have k := i32_inc (x := x) h0 (by omega)
      have e := cl_int h0
      rw [if_neg c]
      have r1 := ih (x + 1) (by omega) (by omega) (by omega)
      have step : ¬ (hM (S 18) (S 19) x.toNatClampNeg d ∧ q_AtA S X a2 a3 d x.toNatClampNeg) → ((l_A_lyingAt_3 S X a2 a3 d n (x + 1) = -1 ∧ ∀ s : Nat, x.toInt ≤ (s : Int) → (s : Int) < (S 26 0).toInt → ¬ (hM (S 18) (S 19) s d ∧ q_AtA S X a2 a3 d s)) ∨
          (∃ s : Nat, (s : Int) < (S 26 0).toInt ∧ hM (S 18) (S 19) s d ∧ q_AtA S X a2 a3 d s ∧ l_A_lyingAt_3 S X a2 a3 d n (x + 1) = S 16 s)) := by
        intro w
        rcases r1 with ⟨q1, q2⟩ | q
        · refine Or.inl ⟨q1, fun s p1 p2 p3 => ?_⟩
          by_cases es : s = x.toNatClampNeg
          · subst es; exact w p3
          · exact q2 s (by omega) p2 p3
        · exact Or.inr q
      have hh := holdsY (S := S) (s := x) (d := d)
      have ha := stayAt (S := S) (x := x) (X := X) (a2 := a2) (a3 := a3) (d := d)
      by_cases c2 : f_Y_holdsOn S x d = 0
      · rw [if_pos c2]; exact step (fun q => hh.mpr q.1 c2)
      · rw [if_neg c2]
        by_cases c3 : f_A_isStayAt S x X a2 a3 d = 0
        · rw [if_pos c3]; exact step (fun q => ha.mp c3 q.2)
        · rw [if_neg c3]
          exact Or.inr ⟨x.toNatClampNeg, by omega, hh.mp c2, Classical.byContradiction (fun q => c3 (ha.mpr q)), rfl⟩
/-- shortly before -/
def q_Win (d t : Int32) : Prop := ¬ d < t ∧ ¬ 180 ≤ d - t
def q_LS (S : BS) (X a2 a3 d : Int32) (s : Nat) : Prop := S 20 s = 1 ∧ q_Win d (S 19 s) ∧ q_AtA S X a2 a3 d s
def q_LK (M : BS) (X a2 a3 d : Int32) (k : Nat) : Prop := M 18 k = 1 ∧ q_Win d (M 17 k) ∧ M 15 k = a2 ∧ M 11 (M 13 k).toNatClampNeg = a3 ∧ f_M_meant M (M 14 k) d = X
theorem leftY {S : BS} (hI : IV S) {x d : Int32} : f_Y_isLeftShortlyBefore S x d = 0 ↔ ¬ (S 20 x.toNatClampNeg = 1 ∧ q_Win d (S 19 x.toNatClampNeg)) := by
  have b := i32_01 (iv_20 hI x.toNatClampNeg)
  unfold f_Y_isLeftShortlyBefore q_Win
  by_cases c1 : S 20 x.toNatClampNeg = 0
  · rw [if_pos c1]; exact ⟨fun _ q => by rw [c1] at q; exact absurd q.1 (by decide), fun _ => rfl⟩
  · rw [if_neg c1]
    by_cases c2 : d < S 19 x.toNatClampNeg
    · rw [if_pos c2]; exact ⟨fun _ q => q.2.1 c2, fun _ => rfl⟩
    · rw [if_neg c2]
      by_cases c3 : 180 ≤ d - S 19 x.toNatClampNeg
      · rw [if_pos c3]; exact ⟨fun _ q => q.2.2 c3, fun _ => rfl⟩
      · rw [if_neg c3]; exact ⟨fun q => absurd q (by decide), fun q => absurd ⟨b.resolve_left c1, c2, c3⟩ q⟩
theorem la_spec {S : BS} (hI : IV S) {X a2 a3 d : Int32} : ∀ (n : Nat) (x5 x6 : Int32), 0 ≤ x6.toInt → x6.toInt ≤ (S 26 0).toInt → (S 26 0).toInt - x6.toInt < (n : Int) → 1 ≤ n →
    ((x5 = -1 ∧ q_Best (q_LS S X a2 a3 d) (S 16) (S 19) (-1) (-1) x6.toInt) ∨ (0 ≤ x5.toInt ∧ q_Best (q_LS S X a2 a3 d) (S 16) (S 19) (S 16 x5.toNatClampNeg) (S 19 x5.toNatClampNeg) x6.toInt)) →
    ∃ t : Int32, q_Best (q_LS S X a2 a3 d) (S 16) (S 19) (l_A_lastToLeave_6 S X a2 a3 d n x5 x6) t (S 26 0).toInt := by
  have b := iv_26 hI
  intro n
  induction n with
  | zero => intro x5 x6 _ _ _ h; exact absurd h (by omega)
  | succ n ih =>
    intro x5 x6 h0 h3 h1 h2 hB
    rw [l_A_lastToLeave_6]
    by_cases c : S 26 0 ≤ x6
    · rw [if_pos c]
      have t := Int32.le_iff_toInt_le.mp c
      have ee : x6.toInt = (S 26 0).toInt := by omega
      rw [ee] at hB
      rcases hB with ⟨q, w⟩ | ⟨q, w⟩
      · rw [if_pos q]; exact ⟨_, w⟩
      · rw [if_neg (fun v => by rw [v] at q; exact absurd q (by decide))]; exact ⟨_, w⟩
    have t := mt Int32.le_iff_toInt_le.mpr c
    have k := i32_inc (x := x6) h0 (by omega)
    have e := cl_int h0
    rw [if_neg c]
    have go := fun y5 w => ih y5 (x6 + 1) (by omega) (by omega) (by omega) (by omega) w
    rw [k] at go
    have skip : ¬ q_LS S X a2 a3 d x6.toNatClampNeg → ∃ t : Int32, q_Best (q_LS S X a2 a3 d) (S 16) (S 19) (l_A_lastToLeave_6 S X a2 a3 d n x5 (x6 + 1)) t (S 26 0).toInt := by
      intro w
      refine go x5 ?_
      rcases hB with ⟨q, v⟩ | ⟨q, v⟩
      · exact Or.inl ⟨q, best_skip v e w⟩
      · exact Or.inr ⟨q, best_skip v e w⟩
    have hl := leftY (x := x6) (d := d) hI
    have ha := stayAt (S := S) (x := x6) (X := X) (a2 := a2) (a3 := a3) (d := d)
    by_cases c1 : f_Y_isLeftShortlyBefore S x6 d = 0
    · rw [if_pos c1]; exact skip (fun q => hl.mp c1 ⟨q.1, q.2.1⟩)
    rw [if_neg c1]
    by_cases c2 : f_A_isStayAt S x6 X a2 a3 d = 0
    · rw [if_pos c2]; exact skip (fun q => ha.mp c2 q.2.2)
    rw [if_neg c2]
    have q1 := Classical.byContradiction (fun q => c1 (hl.mpr q))
    have q2 := Classical.byContradiction (fun q => c2 (ha.mpr q))
    have hp : q_LS S X a2 a3 d x6.toNatClampNeg := ⟨q1.1, q1.2, q2⟩
    have i16 := (iv_16 hI x6.toNatClampNeg).1
    rcases hB with ⟨q, v⟩ | ⟨q, v⟩
    · rw [if_pos q]
      exact go x6 (Or.inr ⟨h0, best_take v e hp i16 (Or.inl rfl)⟩)
    · rw [if_neg (fun v => by rw [v] at q; exact absurd q (by decide))]
      have i16b := (iv_16 hI x5.toNatClampNeg).1
      unfold f_Y_isLeftLater
      by_cases d1 : S 19 x6.toNatClampNeg = S 19 x5.toNatClampNeg
      · rw [if_pos d1]
        by_cases d2 : S 16 x5.toNatClampNeg ≤ S 16 x6.toNatClampNeg
        · rw [if_pos d2, if_pos rfl]
          refine go x5 (Or.inr ⟨q, best_keep v e (fun w => by rw [w] at i16b; exact absurd i16b (by decide)) (by rw [d1]; omega) (fun _ => Int32.le_iff_toInt_le.mp d2)⟩)
        · rw [if_neg d2, if_neg (show ¬ (1 : Int32) = 0 by decide)]
          have := mt Int32.le_iff_toInt_le.mpr d2
          exact go x6 (Or.inr ⟨h0, best_take v e hp i16 (Or.inr (Or.inr ⟨d1, by omega⟩))⟩)
      · rw [if_neg d1]
        by_cases d2 : S 19 x6.toNatClampNeg ≤ S 19 x5.toNatClampNeg
        · rw [if_pos d2, if_pos rfl]
          have := Int32.le_iff_toInt_le.mp d2
          refine go x5 (Or.inr ⟨q, best_keep v e (fun w => by rw [w] at i16b; exact absurd i16b (by decide)) (by omega) (fun w => absurd w d1)⟩)
        · rw [if_neg d2, if_neg (show ¬ (1 : Int32) = 0 by decide)]
          have := mt Int32.le_iff_toInt_le.mpr d2
          exact go x6 (Or.inr ⟨h0, best_take v e hp i16 (Or.inr (Or.inl (by omega)))⟩)
/-- a stay of the reference is at a house on a day -/
def q_HK (M : BS) (X a2 a3 d : Int32) (k : Nat) : Prop := M 15 k = a2 ∧ M 11 (M 13 k).toNatClampNeg = a3 ∧ M 14 k = X ∧ hM (M 16) (M 17) k d
theorem am_spec {M : BS} (hIM : IVM M) {a1 a2 a3 d : Int32} (h17 : ∀ k : Nat, (k : Int) < (M 24 0).toInt → M 18 k = 1 → 0 ≤ (M 17 k).toInt) : ∀ (n : Nat) (x6 x7 x8 : Int32), 0 ≤ x8.toInt → x8.toInt ≤ (M 24 0).toInt → (M 24 0).toInt - x8.toInt < (n : Int) → 1 ≤ n →
    q_Best (q_LK M (f_M_meant M a1 d) a2 a3 d) (M 13) (M 17) x6 x7 x8.toInt →
    (∃ k : Nat, (k : Int) < (M 24 0).toInt ∧ q_HK M (f_M_meant M a1 d) a2 a3 d k ∧ l_M_at_64 M a1 a2 a3 d n x6 x7 x8 = M 13 k) ∨
    ((∀ k : Nat, x8.toInt ≤ (k : Int) → (k : Int) < (M 24 0).toInt → ¬ q_HK M (f_M_meant M a1 d) a2 a3 d k) ∧ ∃ t : Int32, q_Best (q_LK M (f_M_meant M a1 d) a2 a3 d) (M 13) (M 17) (l_M_at_64 M a1 a2 a3 d n x6 x7 x8) t (M 24 0).toInt) := by
  have b := ivM_24 hIM
  intro n
  induction n with
  | zero => intro x6 x7 x8 _ _ _ h; exact absurd h (by omega)
  | succ n ih =>
    intro x6 x7 x8 h0 h3 h1 h2 hB
    rw [l_M_at_64]
    by_cases c : M 24 0 ≤ x8
    · rw [if_pos c]
      have t := Int32.le_iff_toInt_le.mp c
      have ee : x8.toInt = (M 24 0).toInt := by omega
      rw [ee] at hB
      exact Or.inr ⟨fun k p1 p2 => by omega, x7, hB⟩
    have t := mt Int32.le_iff_toInt_le.mpr c
    have k := i32_inc (x := x8) h0 (by omega)
    have e := cl_int h0
    rw [if_neg c]
    have go : ∀ y6 y7, ¬ q_HK M (f_M_meant M a1 d) a2 a3 d x8.toNatClampNeg → q_Best (q_LK M (f_M_meant M a1 d) a2 a3 d) (M 13) (M 17) y6 y7 (x8.toInt + 1) →
        ((∃ k : Nat, (k : Int) < (M 24 0).toInt ∧ q_HK M (f_M_meant M a1 d) a2 a3 d k ∧ l_M_at_64 M a1 a2 a3 d n y6 y7 (x8 + 1) = M 13 k) ∨
        ((∀ k : Nat, x8.toInt ≤ (k : Int) → (k : Int) < (M 24 0).toInt → ¬ q_HK M (f_M_meant M a1 d) a2 a3 d k) ∧ ∃ t : Int32, q_Best (q_LK M (f_M_meant M a1 d) a2 a3 d) (M 13) (M 17) (l_M_at_64 M a1 a2 a3 d n y6 y7 (x8 + 1)) t (M 24 0).toInt)) := by
      intro y6 y7 w v
      rw [← k] at v
      rcases ih y6 y7 (x8 + 1) (by omega) (by omega) (by omega) (by omega) v with q | ⟨q1, q2⟩
      · exact Or.inl q
      · refine Or.inr ⟨fun k p1 p2 => ?_, q2⟩
        by_cases ek : k = x8.toNatClampNeg
        · rw [ek]; exact w
        · exact q1 k (by omega) p2
    by_cases c1 : M 15 x8.toNatClampNeg = a2
    rotate_left
    · rw [if_neg c1]; exact go x6 x7 (fun q => c1 q.1) (best_skip hB e (fun q => c1 q.2.2.1))
    rw [if_pos c1]
    by_cases c2 : M 11 (M 13 x8.toNatClampNeg).toNatClampNeg = a3
    rotate_left
    · rw [if_neg c2]; exact go x6 x7 (fun q => c2 q.2.1) (best_skip hB e (fun q => c2 q.2.2.2.1))
    rw [if_pos c2]
    have i13 := (ivM_13 hIM x8.toNatClampNeg).1
    have rest : ¬ q_HK M (f_M_meant M a1 d) a2 a3 d x8.toNatClampNeg → ∀ v, v = (if M 18 x8.toNatClampNeg = 0 then (l_M_at_64 M a1 a2 a3 d n x6 x7 (x8 + 1)) else (if f_M_meant M (M 14 x8.toNatClampNeg) d = f_M_meant M a1 d then (if d < M 17 x8.toNatClampNeg then (l_M_at_64 M a1 a2 a3 d n x6 x7 (x8 + 1)) else (if 180 ≤ d - (M 17 x8.toNatClampNeg) then (l_M_at_64 M a1 a2 a3 d n x6 x7 (x8 + 1)) else (if x7 < M 17 x8.toNatClampNeg then (l_M_at_64 M a1 a2 a3 d n (M 13 x8.toNatClampNeg) (M 17 x8.toNatClampNeg) (x8 + 1)) else (if M 17 x8.toNatClampNeg = x7 then (if x6 ≤ M 13 x8.toNatClampNeg then (l_M_at_64 M a1 a2 a3 d n x6 x7 (x8 + 1)) else (l_M_at_64 M a1 a2 a3 d n (M 13 x8.toNatClampNeg) (M 17 x8.toNatClampNeg) (x8 + 1))) else (l_M_at_64 M a1 a2 a3 d n x6 x7 (x8 + 1)))))) else (l_M_at_64 M a1 a2 a3 d n x6 x7 (x8 + 1)))) →
        ((∃ k : Nat, (k : Int) < (M 24 0).toInt ∧ q_HK M (f_M_meant M a1 d) a2 a3 d k ∧ v = M 13 k) ∨
        ((∀ k : Nat, x8.toInt ≤ (k : Int) → (k : Int) < (M 24 0).toInt → ¬ q_HK M (f_M_meant M a1 d) a2 a3 d k) ∧ ∃ t : Int32, q_Best (q_LK M (f_M_meant M a1 d) a2 a3 d) (M 13) (M 17) v t (M 24 0).toInt)) := by
      intro w v hv
      by_cases d1 : M 18 x8.toNatClampNeg = 0
      · rw [if_pos d1] at hv; rw [hv]; exact go x6 x7 w (best_skip hB e (fun q => by have := q.1; rw [d1] at this; exact absurd this (by decide)))
      rw [if_neg d1] at hv
      have d1b := (i32_01 (ivM_18 hIM x8.toNatClampNeg)).resolve_left d1
      by_cases d2 : f_M_meant M (M 14 x8.toNatClampNeg) d = f_M_meant M a1 d
      rotate_left
      · rw [if_neg d2] at hv; rw [hv]; exact go x6 x7 w (best_skip hB e (fun q => d2 q.2.2.2.2))
      rw [if_pos d2] at hv
      by_cases d3 : d < M 17 x8.toNatClampNeg
      · rw [if_pos d3] at hv; rw [hv]; exact go x6 x7 w (best_skip hB e (fun q => q.2.1.1 d3))
      rw [if_neg d3] at hv
      by_cases d4 : 180 ≤ d - M 17 x8.toNatClampNeg
      · rw [if_pos d4] at hv; rw [hv]; exact go x6 x7 w (best_skip hB e (fun q => q.2.1.2 d4))
      rw [if_neg d4] at hv
      have hp : q_LK M (f_M_meant M a1 d) a2 a3 d x8.toNatClampNeg := ⟨d1b, ⟨d3, d4⟩, c1, c2, d2⟩
      by_cases d5 : x7 < M 17 x8.toNatClampNeg
      · rw [if_pos d5] at hv; rw [hv]
        exact go _ _ w (best_take hB e hp i13 (Or.inr (Or.inl (Int32.lt_iff_toInt_lt.mp d5))))
      rw [if_neg d5] at hv
      have t5 := mt Int32.lt_iff_toInt_lt.mpr d5
      have hne : x6 ≠ -1 := by
        intro q
        rcases hB with ⟨-, v2, -⟩ | ⟨v1, -⟩
        · have := h17 x8.toNatClampNeg (by omega) d1b
          rw [v2, i32_m1] at t5
          omega
        · rw [q, i32_m1] at v1; omega
      by_cases d6 : M 17 x8.toNatClampNeg = x7
      · rw [if_pos d6] at hv
        by_cases d7 : x6 ≤ M 13 x8.toNatClampNeg
        · rw [if_pos d7] at hv; rw [hv]
          exact go x6 x7 w (best_keep hB e hne t5 (fun _ => Int32.le_iff_toInt_le.mp d7))
        · rw [if_neg d7] at hv; rw [hv]
          have := mt Int32.le_iff_toInt_le.mpr d7
          exact go _ _ w (best_take hB e hp i13 (Or.inr (Or.inr ⟨d6, by omega⟩)))
      · rw [if_neg d6] at hv; rw [hv]
        exact go x6 x7 w (best_keep hB e hne t5 (fun q => absurd q d6))
    by_cases c3 : M 14 x8.toNatClampNeg = f_M_meant M a1 d
    · rw [if_pos c3]
      by_cases c4 : d < M 16 x8.toNatClampNeg
      · rw [if_pos c4]
        have := Int32.lt_iff_toInt_lt.mp c4
        exact rest (fun q => by have := q.2.2.2.1; omega) _ rfl
      · rw [if_neg c4]
        by_cases c5 : M 17 x8.toNatClampNeg ≤ d
        · rw [if_pos c5]
          have := Int32.le_iff_toInt_le.mp c5
          exact rest (fun q => by have := q.2.2.2.2; omega) _ rfl
        · rw [if_neg c5]
          have := mt Int32.lt_iff_toInt_lt.mpr c4
          have := mt Int32.le_iff_toInt_le.mpr c5
          exact Or.inl ⟨x8.toNatClampNeg, by omega, ⟨c1, c2, c3, by omega, by omega⟩, rfl⟩
    · rw [if_neg c3]; exact rest (fun q => c3 q.2.2.1) _ rfl
theorem op_at {n : Nat} {S M : BS} (h : RI n S M) (a1 a2 a3 a4 : Int32) : f_A_at S a1 a2 a3 a4 = f_M_at M a1 a2 a3 a4 ∧ (IV S → IVM M → RI (n + 1) S M) := by
  refine ⟨?_, fun _ _ => h.up⟩
  obtain ⟨⟨hI, hIM⟩, ⟨⟨e22, e23, e24, e25, e27⟩, e0, e12, e5, e6, e7, e10, e11, e13, e15⟩, hS, hR, hP, hY1, hY2, hY3, ⟨hF, hB, hV1, hV2, hU⟩, hY5, hN, hT, hd0, hd1⟩ := h
  have b24 := ivM_24 hIM
  have b26 := iv_26 hI
  unfold f_A_at f_M_at f_A_isDay f_A_isHouse f_A_isExtra
  rw [hasT hIM e23]
  by_cases c1 : f_M_isStreet M a1 = 0
  · rw [if_pos c1, if_pos c1]
  rw [if_neg c1, if_neg c1]
  have t1 := fb_M_isStreet hIM c1
  by_cases c2 : f_M_in a2 1 999 = 0
  · rw [if_pos c2, if_pos (show f_A_isWithin a2 1 999 = 0 from c2)]
  rw [if_neg c2, if_neg (show ¬ f_A_isWithin a2 1 999 = 0 from c2)]
  by_cases c3 : f_M_in a3 0 25 = 0
  · rw [if_pos c3, if_pos (show f_A_isWithin a3 0 25 = 0 from c3)]
  rw [if_neg c3, if_neg (show ¬ f_A_isWithin a3 0 25 = 0 from c3)]
  by_cases c4 : f_M_in a4 0 1000000 = 0
  · rw [if_pos c4, if_pos (show f_A_isWithin a4 0 1000000 = 0 from c4)]
  rw [if_neg c4, if_neg (show ¬ f_A_isWithin a4 0 1000000 = 0 from c4)]
  have t4 := fb_M_in c4
  rw [show ((1000000) : Int32).toInt = 1000000 by decide, z0] at t4
  rw [mean_eq hIM e23 e5 hS t1.1 t1.2.1]
  have i13 : ∀ j, 0 ≤ (M 13 j).toInt := fun j => (ivM_13 hIM j).1
  have mn : ∀ p : Int32, 0 ≤ p.toInt → p.toInt < (M 23 0).toInt → f_T_meaning S (S 12 p.toNatClampNeg) a4 = MT (M 3) (M 4) a4 (S 12 p.toNatClampNeg) := fun p p0 p1 => by
    rw [mean_eq hIM e23 e5 hS (iv_12 hI _).1 (hY1 p p0 p1).1.2.2, meant_MT]
  -- what lies there, both sides
  have toS : ∀ k : Nat, (k : Int) < (M 24 0).toInt → q_HK M (f_M_meant M a1 a4) a2 a3 a4 k → ∃ s : Nat, (s : Int) < (S 26 0).toInt ∧ hM (S 18) (S 19) s a4 ∧ q_AtA S (f_M_meant M a1 a4) a2 a3 a4 s := by
    intro k hk q
    obtain ⟨k1, k2, k3, k4⟩ := q
    obtain ⟨s, s1, s2, s3, s4⟩ := hF k hk a4 k4 t4.2
    have x := hY2 k hk
    refine ⟨s, s1, s4, by rw [s3]; exact k1, by rw [s2, e13]; exact k2, ?_⟩
    rw [s2, mn _ (i13 k) x.1, ← x.2.2.2.2.1 a4 k4.1, x.2.2.2.2.2.1 a4 k4]
    exact k3
  have toM : ∀ s : Nat, (s : Int) < (S 26 0).toInt → hM (S 18) (S 19) s a4 → q_AtA S (f_M_meant M a1 a4) a2 a3 a4 s → ∃ k : Nat, (k : Int) < (M 24 0).toInt ∧ M 13 k = S 16 s ∧ q_HK M (f_M_meant M a1 a4) a2 a3 a4 k := by
    intro s hs s4 q
    obtain ⟨s1, s2, s3⟩ := q
    obtain ⟨k, k1, k2, k3, k4⟩ := hB s hs a4 s4 t4.2
    have x := hY2 k k1
    refine ⟨k, k1, k2, by rw [k3]; exact s1, by rw [k2, ← e13]; exact s2, ?_, k4⟩
    rw [← k2, mn _ (i13 k) x.1, ← x.2.2.2.2.1 a4 k4.1, x.2.2.2.2.2.1 a4 k4] at s3
    exact s3
  have A := ly_spec (S := S) (X := f_M_meant M a1 a4) (a2 := a2) (a3 := a3) (d := a4) hI 600 0 (by decide) (by rw [z0]; omega) (by omega)
  have B := am_spec (M := M) (a1 := a1) (a2 := a2) (a3 := a3) (d := a4) hIM (fun k hk q => by have := ((hY2 k hk).2.2.2.2.2.2 q).1; have := hT.2 k; omega) 6000 (-1) (-1) 0 (by decide) (by rw [z0]; omega) (by rw [z0]; omega) (by omega) (Or.inl ⟨rfl, rfl, fun k hk => by rw [z0] at hk; omega⟩)
  have el : f_A_lyingAt S (f_M_meant M a1 a4) a2 a3 a4 = l_A_lyingAt_3 S (f_M_meant M a1 a4) a2 a3 a4 600 0 := rfl
  rw [el]
  rcases B with ⟨k, k1, k2, k3⟩ | ⟨B1, t, B2⟩
  · rw [k3]
    rcases A with ⟨-, A2⟩ | ⟨s, s1, s2, s3, s4⟩
    · obtain ⟨s, s1, s2, s3⟩ := toS k k1 k2
      exact absurd ⟨s2, s3⟩ (A2 s (by rw [z0]; omega) s1)
    · rw [s4, if_neg (fun q => by have := (iv_16 hI s).1; rw [q] at this; exact absurd this (by decide))]
      obtain ⟨j, j1, j2, j3⟩ := toM s s1 s2 s3
      rw [← j2]
      exact hY5 j k j1 k1 a4 j3.2.2.2 k2.2.2.2 (j3.2.2.1.trans k2.2.2.1.symm) (j3.1.trans k2.1.symm) (by rw [e13]; exact j3.2.1.trans k2.2.1.symm)
  · have A1 : l_A_lyingAt_3 S (f_M_meant M a1 a4) a2 a3 a4 600 0 = -1 := by
      rcases A with ⟨q, -⟩ | ⟨s, s1, s2, s3, -⟩
      · exact q
      · obtain ⟨j, j1, -, j3⟩ := toM s s1 s2 s3
        exact absurd j3 (B1 j (by rw [z0]; omega) j1)
    rw [if_pos A1]
    obtain ⟨u, C⟩ := la_spec (S := S) (X := f_M_meant M a1 a4) (a2 := a2) (a3 := a3) (d := a4) hI 600 (-1) 0 (by decide) (by rw [z0]; omega) (by rw [z0]; omega) (by omega) (Or.inl ⟨rfl, Or.inl ⟨rfl, rfl, fun k hk => by rw [z0] at hk; omega⟩⟩)
    refine best_uniq C B2 (fun s hs q => ?_) (fun k hk q => ?_)
    · obtain ⟨s1, s2, s3, s4, s5⟩ := q
      obtain ⟨k, k1, k2, k3, k4, k5⟩ := hV1 s hs s1
      have x := hY2 k k1
      have w := x.2.2.2.2.2.2 k2
      have v := mt Int32.lt_iff_toInt_lt.mpr s2.1
      rw [← k5] at v
      refine ⟨k, k1, ⟨k2, by rw [k5]; exact s2, by rw [k4]; exact s3, by rw [k3, ← e13]; exact s4, ?_⟩, k3, k5⟩
      rw [meant_MT, x.2.2.2.2.1 a4 (by omega), ← mn _ (i13 k) x.1, k3]
      exact s5
    · obtain ⟨k1, k2, k3, k4, k5⟩ := q
      obtain ⟨s, s1, s2, s3, s4, s5⟩ := hV2 k hk k1
      have x := hY2 k hk
      have w := x.2.2.2.2.2.2 k1
      have v := mt Int32.lt_iff_toInt_lt.mpr k2.1
      refine ⟨s, s1, ⟨s2, by rw [s5]; exact k2, by rw [s4]; exact k3, by rw [s3, e13]; exact k4, ?_⟩, s3, s5⟩
      rw [s3, mn _ (i13 k) x.1, ← x.2.2.2.2.1 a4 (by omega), ← meant_MT]
      exact k5
