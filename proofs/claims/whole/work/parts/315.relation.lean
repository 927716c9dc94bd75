/-- ranges, both sides -/
def GR (s6 s7 s8 s9 s10 m7 m8 g3 : Nat → Int32) (nr ns : Int32) : Prop :=
  GR1 s7 s8 s9 m7 m8 ∧
  (∀ j : Nat, (j : Int) < nr.toInt → 1 ≤ (m7 j).toInt ∧ (m7 j).toInt ≤ (m8 j).toInt) ∧
  (∀ j : Nat, nr.toInt ≤ (j : Int) → s10 j = 0) ∧
  (∀ i j : Nat, (i : Int) < nr.toInt → (j : Int) < nr.toInt → i ≠ j → s10 i = 1 → s10 j = 1 → s6 i = s6 j → ∀ h : Int, inR (s7 i).toInt (m7 i).toInt (m8 i).toInt h → ¬ inR (s7 j).toInt (m7 j).toInt (m8 j).toInt h) ∧
  (∀ j : Nat, (j : Int) < nr.toInt → s10 j = 1 → (s6 j).toInt < ns.toInt ∧ g3 (s6 j).toNatClampNeg = 0)
/-- points, both sides -/
def GP (s10 s11 s13 s15 : Nat → Int32) (np nr : Int32) : Prop :=
  (∀ j : Nat, 0 ≤ (s13 j).toInt ∧ (s13 j).toInt ≤ 25) ∧ (∀ j : Nat, np.toInt ≤ (j : Int) → s15 j = 0) ∧ (∀ j : Nat, (j : Int) < np.toInt → (s11 j).toInt < nr.toInt) ∧
  (∀ j : Nat, (j : Int) < np.toInt → s15 j = 1 → s10 (s11 j).toNatClampNeg = 1)
/-- the latest stay of a point -/
def Lst (m13 : Nat → Int32) (nk p : Int32) (k : Nat) : Prop := (k : Int) < nk.toInt ∧ m13 k = p ∧ ∀ j : Nat, k < j → (j : Int) < nk.toInt → m13 j ≠ p
/-- a stay of the reference holds on a day; one of the book -/
def hM (m16 m17 : Nat → Int32) (k : Nat) (d : Int32) : Prop := (m16 k).toInt ≤ d.toInt ∧ d.toInt < (m17 k).toInt
/-- each point's own row and latest stays -/
def GY1 (s6 s7 s11 s12 s14 s15 s16 s17 s19 m3 m4 m7 m8 m13 m14 m15 m17 : Nat → Int32) (ns np ny nk day : Int32) : Prop :=
  ∀ p : Int32, 0 ≤ p.toInt → p.toInt < np.toInt →
    ((s14 p.toNatClampNeg).toInt < ny.toInt ∧ s16 (s14 p.toNatClampNeg).toNatClampNeg = p ∧ (s12 p.toNatClampNeg).toInt < ns.toInt) ∧
    ∃ k : Nat, Lst m13 nk p k ∧ m15 k = s17 (s14 p.toNatClampNeg).toNatClampNeg ∧
      (s15 p.toNatClampNeg = 1 → m17 k = 1000000000 ∧ s19 (s14 p.toNatClampNeg).toNatClampNeg = 1000001 ∧ m14 k = s6 (s11 p.toNatClampNeg).toNatClampNeg ∧ MT m3 m4 day (s12 p.toNatClampNeg) = s6 (s11 p.toNatClampNeg).toNatClampNeg ∧
        inR (s7 (s11 p.toNatClampNeg).toNatClampNeg).toInt (m7 (s11 p.toNatClampNeg).toNatClampNeg).toInt (m8 (s11 p.toNatClampNeg).toNatClampNeg).toInt (m15 k).toInt) ∧
      (s15 p.toNatClampNeg = 0 → (m17 k).toInt ≤ day.toInt ∧ (s19 (s14 p.toNatClampNeg).toNatClampNeg).toInt ≤ day.toInt)
/-- all stays of the reference -/
def GY2 (s12 m3 m4 m13 m14 m16 m17 m18 : Nat → Int32) (ns np nk day : Int32) : Prop :=
  ∀ k : Nat, (k : Int) < nk.toInt → (m13 k).toInt < np.toInt ∧ (m16 k).toInt ≤ day.toInt ∧ (¬ Lst m13 nk (m13 k) k → (m17 k).toInt ≤ day.toInt) ∧ (m14 k).toInt < ns.toInt ∧
    (∀ d : Int32, (m16 k).toInt ≤ d.toInt → MT m3 m4 d (m14 k) = MT m3 m4 d (s12 (m13 k).toNatClampNeg)) ∧ (∀ d : Int32, hM m16 m17 k d → MT m3 m4 d (m14 k) = m14 k) ∧ (m18 k = 1 → (m16 k).toInt ≤ (m17 k).toInt ∧ (m17 k).toInt ≤ day.toInt)
/-- all stays of the book -/
def GY3 (s14 s16 s18 s19 s20 : Nat → Int32) (np ny day : Int32) : Prop :=
  (∀ s : Nat, (s : Int) < ny.toInt → (s16 s).toInt < np.toInt ∧ (s18 s).toInt ≤ day.toInt ∧ (¬ (s14 (s16 s).toNatClampNeg).toNatClampNeg = s → (s19 s).toInt ≤ day.toInt)) ∧ ∀ s : Nat, ny.toInt ≤ (s : Int) → s20 s = 0
/-- stays of both sides, one for the other -/
def GY4 (s16 s17 s18 s19 s20 m13 m15 m16 m17 m18 : Nat → Int32) (ny nk : Int32) : Prop :=
  (∀ k : Nat, (k : Int) < nk.toInt → ∀ d : Int32, hM m16 m17 k d → d.toInt ≤ 1000000 → ∃ s : Nat, (s : Int) < ny.toInt ∧ s16 s = m13 k ∧ s17 s = m15 k ∧ hM s18 s19 s d) ∧
  (∀ s : Nat, (s : Int) < ny.toInt → ∀ d : Int32, hM s18 s19 s d → d.toInt ≤ 1000000 → ∃ k : Nat, (k : Int) < nk.toInt ∧ m13 k = s16 s ∧ m15 k = s17 s ∧ hM m16 m17 k d) ∧
  (∀ s : Nat, (s : Int) < ny.toInt → s20 s = 1 → ∃ k : Nat, (k : Int) < nk.toInt ∧ m18 k = 1 ∧ m13 k = s16 s ∧ m15 k = s17 s ∧ m17 k = s19 s) ∧
  (∀ k : Nat, (k : Int) < nk.toInt → m18 k = 1 → ∃ s : Nat, (s : Int) < ny.toInt ∧ s20 s = 1 ∧ s16 s = m13 k ∧ s17 s = m15 k ∧ s19 s = m17 k) ∧
  (∀ s t : Nat, (s : Int) < ny.toInt → (t : Int) < ny.toInt → ∀ d : Int32, hM s18 s19 s d → hM s18 s19 t d → s16 s = s16 t → s17 s = s17 t)
/-- at most one point at a street, a house, an extra on a day -/
def GY5 (s13 m13 m14 m15 m16 m17 : Nat → Int32) (nk : Int32) : Prop :=
  ∀ k j : Nat, (k : Int) < nk.toInt → (j : Int) < nk.toInt → ∀ d : Int32, hM m16 m17 k d → hM m16 m17 j d → m14 k = m14 j → m15 k = m15 j → s13 (m13 k).toNatClampNeg = s13 (m13 j).toNatClampNeg → m13 k = m13 j
/-- how much there is -/
def GN (g3 : Nat → Int32) (ny nk : Int32) (n : Nat) : Prop := ny.toInt ≤ (n : Int) ∧ nk.toInt ≤ (n : Int) + 120 * ((cn g3 (fun x => decide (x = 1)) 32 : Nat) : Int)
def RI (n : Nat) (S M : BS) : Prop :=
  (IV S ∧ IVM M) ∧ GA S M ∧ GS (S 3) (S 4) (M 3) (M 4) (M 21 0) (M 19 0) ∧ GR (S 6) (S 7) (S 8) (S 9) (S 10) (M 7) (M 8) (S 3) (M 22 0) (M 21 0) ∧ GP (S 10) (S 11) (S 13) (S 15) (M 23 0) (M 22 0) ∧
  GY1 (S 6) (S 7) (S 11) (S 12) (S 14) (S 15) (S 16) (S 17) (S 19) (M 3) (M 4) (M 7) (M 8) (M 13) (M 14) (M 15) (M 17) (M 21 0) (M 23 0) (S 26 0) (M 24 0) (M 19 0) ∧
  GY2 (S 12) (M 3) (M 4) (M 13) (M 14) (M 16) (M 17) (M 18) (M 21 0) (M 23 0) (M 24 0) (M 19 0) ∧ GY3 (S 14) (S 16) (S 18) (S 19) (S 20) (M 23 0) (S 26 0) (M 19 0) ∧
  GY4 (S 16) (S 17) (S 18) (S 19) (S 20) (M 13) (M 15) (M 16) (M 17) (M 18) (S 26 0) (M 24 0) ∧ GY5 (S 13) (M 13) (M 14) (M 15) (M 16) (M 17) (M 24 0) ∧ GN (S 3) (S 26 0) (M 24 0) n ∧
  ((∀ j, S 21 j = 0) ∧ ∀ j, 0 ≤ (M 16 j).toInt) ∧ 0 ≤ (M 19 0).toInt ∧ (M 19 0).toInt ≤ 1000000
theorem z0 : ((0) : Int32).toInt = 0 := by decide
theorem no0 {j : Nat} (h : (j : Int) < ((0) : Int32).toInt) : False := by rw [z0] at h; omega
theorem RI_0 : RI 0 (fun _ _ => 0) (fun _ _ => 0) := by
  refine ⟨⟨iv_0, iv_0M⟩, ⟨⟨rfl, rfl, rfl, rfl, rfl⟩, rfl, ⟨rfl, rfl⟩, rfl, rfl, rfl, rfl, rfl, rfl, rfl⟩, ⟨fun j h => (no0 h).elim, fun j _ => ⟨rfl, rfl⟩, fun _ => 0, fun j h => (no0 h).elim⟩,
    ⟨⟨fun j => ⟨show (0 : Int32) = f_A_lowestOf 0 0 by decide, show (0 : Int32) = f_A_highestOf 0 0 by decide⟩, fun j => ⟨show 0 ≤ ((0) : Int32).toInt by decide, show ((0) : Int32).toInt ≤ 2 by decide⟩⟩, fun j h => (no0 h).elim, fun j _ => rfl, fun i j h => (no0 h).elim, fun j h => (no0 h).elim⟩, ⟨fun j => ⟨show 0 ≤ ((0) : Int32).toInt by decide, show ((0) : Int32).toInt ≤ 25 by decide⟩, fun j _ => rfl, fun j h => (no0 h).elim, fun j h => (no0 h).elim⟩,
    fun p h0 h1 => absurd h1 (by rw [z0]; omega), fun k h => (no0 h).elim, ⟨fun s h => (no0 h).elim, fun s _ => rfl⟩, ⟨fun k h => (no0 h).elim, fun k h => (no0 h).elim, fun k h => (no0 h).elim, fun k h => (no0 h).elim, fun s t h => (no0 h).elim⟩, fun k j h => (no0 h).elim, ⟨by decide, by decide +kernel⟩, ⟨fun j => rfl, fun j => show 0 ≤ ((0) : Int32).toInt by decide⟩, by decide, by decide⟩
theorem RI.up {n : Nat} {S M : BS} (h : RI n S M) : RI (n + 1) S M := by
  obtain ⟨h1, h2, h3, h4, h5, h6, h7, h8, h9, h10, ⟨h11, h12⟩, h13⟩ := h
  exact ⟨h1, h2, h3, h4, h5, h6, h7, h8, h9, h10, ⟨by omega, by omega⟩, h13⟩
theorem RI.base {n : Nat} {S M : BS} (hn : n < 512) (h : RI n S M) : IV S ∧ IVM M ∧ ASM M ∧ WFM M ∧ SSM M ∧ (M 24 0).toInt ≤ 4880 := by
  obtain ⟨⟨hI, hIM⟩, h2, h3, h4, h5, h6, h7, h8, h9, h10, ⟨h11, h12⟩, h13⟩ := h
  refine ⟨hI, hIM, fun p h0 h1 => ?_, h3.wf hIM, fun j hj => (h7 j hj).2.2.2.1, ?_⟩
  · obtain ⟨-, k, ⟨k1, k2, -⟩, -⟩ := h6 p h0 h1
    exact ⟨k, k1, k2⟩
  · have := cn_len (S 3) (fun x => decide (x = 1)) 32
    omega
