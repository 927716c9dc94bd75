/-! The state of the book, as one function: array k at place i (numbers: k from 22 on, at place 0) -/
abbrev BS : Type := Nat → Nat → Int32
def upS (k i : Nat) (v : Int32) (S : BS) : BS := fun a => cond (Nat.beq a k) (upd (S a) i v) (S a)
def wB (h : Nat → Nat) (cI cZ : ClassId) (S : BS) : va_W := [
  (h 0, .inr (0, [.ref (h 1), .ref (h 2), .ref (h 3), .ref (h 4), .ref (h 5), .ref (h 27), .int (S 27 0)])),
  (h 1, .inr (1, [.ref (h 6), .int (S 22 0)])),
  (h 2, .inr (2, [.ref (h 7), .ref (h 8), .ref (h 9), .ref (h 10), .ref (h 11), .int (S 23 0)])),
  (h 3, .inr (3, [.ref (h 12), .ref (h 13), .ref (h 14), .ref (h 15), .ref (h 16), .int (S 24 0)])),
  (h 4, .inr (4, [.ref (h 17), .ref (h 18), .ref (h 19), .ref (h 20), .ref (h 21), .int (S 25 0)])),
  (h 5, .inr (5, [.ref (h 22), .ref (h 23), .ref (h 24), .ref (h 25), .ref (h 26), .int (S 26 0)])),
  (h 6, .inl (cI, 16, .inl (S 0))),
  (h 7, .inl (cI, 32, .inl (S 1))),
  (h 8, .inl (cI, 32, .inl (S 2))),
  (h 9, .inl (cZ, 32, .inl (S 3))),
  (h 10, .inl (cI, 32, .inl (S 4))),
  (h 11, .inl (cI, 32, .inl (S 5))),
  (h 12, .inl (cI, 80, .inl (S 6))),
  (h 13, .inl (cI, 80, .inl (S 7))),
  (h 14, .inl (cI, 80, .inl (S 8))),
  (h 15, .inl (cI, 80, .inl (S 9))),
  (h 16, .inl (cZ, 80, .inl (S 10))),
  (h 17, .inl (cI, 120, .inl (S 11))),
  (h 18, .inl (cI, 120, .inl (S 12))),
  (h 19, .inl (cI, 120, .inl (S 13))),
  (h 20, .inl (cI, 120, .inl (S 14))),
  (h 21, .inl (cZ, 120, .inl (S 15))),
  (h 22, .inl (cI, 512, .inl (S 16))),
  (h 23, .inl (cI, 512, .inl (S 17))),
  (h 24, .inl (cI, 512, .inl (S 18))),
  (h 25, .inl (cI, 512, .inl (S 19))),
  (h 26, .inl (cZ, 512, .inl (S 20))),
  (h 27, .inl (cZ, 1000, .inl (S 21)))]
abbrev bT (cI cZ : ClassId) : List (ClassId × FieldType) := [(cI, .int), (cZ, .boolean)]
/-- the cells of the book -/
def bA (h : Nat → Nat) : Nat → Prop := fun q => ∃ k, k < 28 ∧ q = h k
theorem wB_addr (h : Nat → Nat) (cI cZ : ClassId) (S : BS) : (wB h cI cZ S).map (·.1) = (List.range 28).map h := rfl
theorem dA_of {A B : Nat → Prop} {w1 w2 : va_W} (e : w1.map (·.1) = w2.map (·.1)) (hD : va_D A w1) (hB : ∀ q ∈ w2.map (·.1), A q → B q) : va_D B w2 := by
  have at1 : ∀ (k : Nat) (q : Nat × va_E), w2[k]? = some q → ∃ e9, w1[k]? = some (q.1, e9) := by
    intro k q hq
    have h1 : (w1.map (·.1))[k]? = some q.1 := by rw [e, List.getElem?_map, hq]; rfl
    rw [List.getElem?_map] at h1
    cases hi : w1[k]? with
    | none => rw [hi] at h1; cases h1
    | some x => rw [hi] at h1; exact ⟨x.2, by rw [← Option.some.inj h1]⟩
  refine ⟨fun i j x y hx hy hxy => ?_, fun k q hq => ?_⟩
  · obtain ⟨e1, h1⟩ := at1 i x hx
    obtain ⟨e2, h2⟩ := at1 j y hy
    exact hD.1 i j _ _ h1 h2 hxy
  · obtain ⟨e1, h1⟩ := at1 k q hq
    exact hB q.1 (List.mem_map.mpr ⟨q, List.mem_of_getElem? hq, rfl⟩) (hD.2 k (q.1, e1) h1)
theorem wD {A : Nat → Prop} {h : Nat → Nat} {cI cZ : ClassId} {S S2 : BS} (hD : va_D A (wB h cI cZ S)) : va_D A (wB h cI cZ S2) := dA_of (by rw [wB_addr, wB_addr]) hD (fun _ _ h => h)
theorem bD {A : Nat → Prop} {h : Nat → Nat} {cI cZ : ClassId} {S : BS} (hD : va_D A (wB h cI cZ S)) : va_D (bA h) (wB h cI cZ S) := dA_of rfl hD (fun q hq _ => by
  rw [wB_addr] at hq
  obtain ⟨k, hk, e⟩ := List.mem_map.mp hq
  exact ⟨k, List.mem_range.mp hk, e.symm⟩)
/-! bounds that hold at every place -/
def ivs : List (Nat × Int × Int) := [(3, 0, 1), (4, 0, 31), (6, 0, 31), (8, 0, 1000), (9, -1, 999), (10, 0, 1), (11, 0, 79), (12, 0, 31), (14, 0, 511), (15, 0, 1), (16, 0, 119), (17, 0, 999), (20, 0, 1), (21, 0, 1), (22, 0, 16), (23, 0, 32), (24, 0, 80), (25, 0, 120), (26, 0, 512)]
def IV (S : BS) : Prop := ∀ q ∈ ivs, ∀ j : Nat, q.2.1 ≤ (S q.1 j).toInt ∧ (S q.1 j).toInt ≤ q.2.2
theorem iv_0 : IV (fun _ _ => 0) := by
  intro q hq j
  have z : ((0 : Int32)).toInt = 0 := by decide
  show q.2.1 ≤ ((0 : Int32)).toInt ∧ ((0 : Int32)).toInt ≤ q.2.2
  rw [z]
  revert q
  decide
theorem upS_at (S : BS) (k i : Nat) (v : Int32) (a j : Nat) : upS k i v S a j = if a = k ∧ j = i then v else S a j := by
  unfold upS
  cases e : Nat.beq a k with
  | true =>
    have e2 := Nat.eq_of_beq_eq_true e
    show upd (S a) i v j = _
    simp [upd, e2]
  | false =>
    have e2 := Nat.ne_of_beq_eq_false e
    show S a j = _
    simp [e2]
theorem iv_up {S : BS} (hI : IV S) (k i : Nat) (v : Int32) (hv : ∀ q ∈ ivs, q.1 = k → q.2.1 ≤ v.toInt ∧ v.toInt ≤ q.2.2) : IV (upS k i v S) := by
  intro q hq j
  rw [upS_at]
  split
  · rename_i e
    exact hv q hq e.1
  · exact hI q hq j
theorem iv_one (k : Nat) (lo hi : Int) {v : Int32} (hk : ivs.filter (fun q => Nat.beq q.1 k) = [(k, lo, hi)]) (h : lo ≤ v.toInt ∧ v.toInt ≤ hi) : ∀ q ∈ ivs, q.1 = k → q.2.1 ≤ v.toInt ∧ v.toInt ≤ q.2.2 := by
  intro q hq e
  have h1 : q ∈ ivs.filter (fun q => Nat.beq q.1 k) := List.mem_filter.mpr ⟨hq, by rw [e]; exact Nat.beq_refl k⟩
  rw [hk] at h1
  rw [List.mem_singleton.mp h1]
  exact h
theorem iv_none (k : Nat) {v : Int32} (hk : ivs.filter (fun q => Nat.beq q.1 k) = []) : ∀ q ∈ ivs, q.1 = k → q.2.1 ≤ v.toInt ∧ v.toInt ≤ q.2.2 := by
  intro q hq e
  have h1 : q ∈ ivs.filter (fun q => Nat.beq q.1 k) := List.mem_filter.mpr ⟨hq, by rw [e]; exact Nat.beq_refl k⟩
  rw [hk] at h1
  cases h1
theorem iv_3 {S : BS} (hI : IV S) (j : Nat) : (0) ≤ (S 3 j).toInt ∧ (S 3 j).toInt ≤ 1 := hI (3, 0, 1) (by decide) j
theorem iv_4 {S : BS} (hI : IV S) (j : Nat) : (0) ≤ (S 4 j).toInt ∧ (S 4 j).toInt ≤ 31 := hI (4, 0, 31) (by decide) j
theorem iv_6 {S : BS} (hI : IV S) (j : Nat) : (0) ≤ (S 6 j).toInt ∧ (S 6 j).toInt ≤ 31 := hI (6, 0, 31) (by decide) j
theorem iv_8 {S : BS} (hI : IV S) (j : Nat) : (0) ≤ (S 8 j).toInt ∧ (S 8 j).toInt ≤ 1000 := hI (8, 0, 1000) (by decide) j
theorem iv_9 {S : BS} (hI : IV S) (j : Nat) : (-1) ≤ (S 9 j).toInt ∧ (S 9 j).toInt ≤ 999 := hI (9, -1, 999) (by decide) j
theorem iv_10 {S : BS} (hI : IV S) (j : Nat) : (0) ≤ (S 10 j).toInt ∧ (S 10 j).toInt ≤ 1 := hI (10, 0, 1) (by decide) j
theorem iv_11 {S : BS} (hI : IV S) (j : Nat) : (0) ≤ (S 11 j).toInt ∧ (S 11 j).toInt ≤ 79 := hI (11, 0, 79) (by decide) j
theorem iv_12 {S : BS} (hI : IV S) (j : Nat) : (0) ≤ (S 12 j).toInt ∧ (S 12 j).toInt ≤ 31 := hI (12, 0, 31) (by decide) j
theorem iv_14 {S : BS} (hI : IV S) (j : Nat) : (0) ≤ (S 14 j).toInt ∧ (S 14 j).toInt ≤ 511 := hI (14, 0, 511) (by decide) j
theorem iv_15 {S : BS} (hI : IV S) (j : Nat) : (0) ≤ (S 15 j).toInt ∧ (S 15 j).toInt ≤ 1 := hI (15, 0, 1) (by decide) j
theorem iv_16 {S : BS} (hI : IV S) (j : Nat) : (0) ≤ (S 16 j).toInt ∧ (S 16 j).toInt ≤ 119 := hI (16, 0, 119) (by decide) j
theorem iv_17 {S : BS} (hI : IV S) (j : Nat) : (0) ≤ (S 17 j).toInt ∧ (S 17 j).toInt ≤ 999 := hI (17, 0, 999) (by decide) j
theorem iv_20 {S : BS} (hI : IV S) (j : Nat) : (0) ≤ (S 20 j).toInt ∧ (S 20 j).toInt ≤ 1 := hI (20, 0, 1) (by decide) j
theorem iv_21 {S : BS} (hI : IV S) (j : Nat) : (0) ≤ (S 21 j).toInt ∧ (S 21 j).toInt ≤ 1 := hI (21, 0, 1) (by decide) j
theorem iv_22 {S : BS} (hI : IV S) : (0) ≤ (S 22 0).toInt ∧ (S 22 0).toInt ≤ 16 := hI (22, 0, 16) (by decide) 0
theorem iv_23 {S : BS} (hI : IV S) : (0) ≤ (S 23 0).toInt ∧ (S 23 0).toInt ≤ 32 := hI (23, 0, 32) (by decide) 0
theorem iv_24 {S : BS} (hI : IV S) : (0) ≤ (S 24 0).toInt ∧ (S 24 0).toInt ≤ 80 := hI (24, 0, 80) (by decide) 0
theorem iv_25 {S : BS} (hI : IV S) : (0) ≤ (S 25 0).toInt ∧ (S 25 0).toInt ≤ 120 := hI (25, 0, 120) (by decide) 0
theorem iv_26 {S : BS} (hI : IV S) : (0) ≤ (S 26 0).toInt ∧ (S 26 0).toInt ≤ 512 := hI (26, 0, 512) (by decide) 0
theorem i32_bm {z : Int} (h1 : -2000000000 ≤ z) (h2 : z ≤ 2000000000) : z.bmod (2 ^ 32) = z := by
  rw [Int.bmod_def]
  omega
theorem i32_inc {x : Int32} (h0 : 0 ≤ x.toInt) (h1 : x.toInt < 100000) : (x + 1).toInt = x.toInt + 1 := by
  rw [Int32.toInt_add, show (1 : Int32).toInt = 1 from by decide]
  exact i32_bm (by omega) (by omega)
theorem i32_add {x y : Int32} (h1 : -2000000000 ≤ x.toInt + y.toInt) (h2 : x.toInt + y.toInt ≤ 2000000000) : (x + y).toInt = x.toInt + y.toInt := by
  rw [Int32.toInt_add]
  exact i32_bm h1 h2
theorem i32_sub {x y : Int32} (h1 : -2000000000 ≤ x.toInt - y.toInt) (h2 : x.toInt - y.toInt ≤ 2000000000) : (x - y).toInt = x.toInt - y.toInt := by
  rw [Int32.toInt_sub]
  exact i32_bm h1 h2
theorem i32_as (x y : Int32) : x + y - y = x := Int32.add_sub_cancel x y
theorem i32_01 {x : Int32} (h : 0 ≤ x.toInt ∧ x.toInt ≤ 1) : x = 0 ∨ x = 1 := by
  rcases (show x.toInt = 0 ∨ x.toInt = 1 by omega) with e | e
  · exact Or.inl (Int32.toInt_inj.mp (by rw [e]; decide))
  · exact Or.inr (Int32.toInt_inj.mp (by rw [e]; decide))
theorem nb01 {x : Int32} (h : 0 ≤ x.toInt ∧ x.toInt ≤ 1) : narrow .boolean (.int x) = .int x := by
  rcases i32_01 h with e | e <;> (rw [e]; decide)
/-! the links of nest mates -/
def nw_ok : Cond → Bool
  | .fieldLinkNest .. => true
  | .methodLinkNest .. => true
  | _ => false
def NW (U : State) : Prop := ∀ w ∈ nwL, va_Nw w U
theorem nwL_ok : ∀ w ∈ nwL, nw_ok w = true := by decide +kernel
theorem NW.warm {s U : State} (hW : s.WarmedH U.vm) (h : NW s) : NW U := by
  intro w hw
  have h1 := h w hw
  have h2 := nwL_ok w hw
  cases w with
  | fieldLinkNest a i b n d h9 => exact va_Nw.warmF hW h1
  | methodLinkNest a i x h9 => exact va_Nw.warmM hW h1
  | _ => cases h2
theorem NW.same {u U : State} (e : u.vm = U.vm) (h : NW u) : NW U := by
  intro w hw
  have h1 := h w hw
  have h2 := nwL_ok w hw
  cases w with
  | fieldLinkNest a i b n d h9 => exact va_Nw.same rfl e h1
  | methodLinkNest a i x h9 => exact va_Nw.same rfl e h1
  | _ => cases h2
/-! contracts: a method that only reads; one that writes and answers; one that writes and doesn't answer -/
def pu_P (D : va_G) (cI cZ : ClassId) (h : Nat → Nat) (S : BS) (av : List Value) : Array Value → State → Prop := va_Pc av (fun U => va_P D vwCl (wB h cI cZ S) U.heap ∧ va_K D vwCl (bT cI cZ) U ∧ NW U)
def wr_P (D : va_G) (cI cZ : ClassId) (h : Nat → Nat) (S : BS) (av : List Value) : Array Value → State → Prop := va_Pc av (fun U => va_P D vwCl (wB h cI cZ S) U.heap ∧ va_K D vwCl (bT cI cZ) U ∧ NW U ∧ va_D (fun _ => True) (wB h cI cZ S))
def PQ (r : Int32) : Array Value → State → Outcome → State → Prop := va_Qi (fun (x : Int32) (_ : Unit) => x = r) (fun _ _ => True) (fun _ => False)
def WQ (D : va_G) (cI cZ : ClassId) (h : Nat → Nat) (F : Int32 × BS) : Array Value → State → Outcome → State → Prop := va_Qi (fun (x : Int32) (S2 : BS) => (x, S2) = F ∧ IV S2) (fun S2 t => va_P D vwCl (wB h cI cZ S2) t.heap) (bA h)
def VQ (D : va_G) (cI cZ : ClassId) (h : Nat → Nat) (F : BS) : Array Value → State → Outcome → State → Prop := va_Qv (fun (S2 : BS) => S2 = F ∧ IV S2) (fun S2 t => va_P D vwCl (wB h cI cZ S2) t.heap) (bA h)
def PM (l : Launch) (y : MethodName) (ws : List Cond) (rm : Room) (D : va_G) (cI cZ : ClassId) (h : Nat → Nat) (S : BS) (av : List Value) (r : Int32) : Prop := Met l y ws rm (pu_P D cI cZ h S av) (PQ r) 0 0 (fun _ => False)
def WM (l : Launch) (y : MethodName) (ws : List Cond) (rm : Room) (D : va_G) (cI cZ : ClassId) (h : Nat → Nat) (S : BS) (av : List Value) (F : Int32 × BS) : Prop := Met l y ws rm (wr_P D cI cZ h S av) (WQ D cI cZ h F) 0 0 (bA h)
def VM (l : Launch) (y : MethodName) (ws : List Cond) (rm : Room) (D : va_G) (cI cZ : ClassId) (h : Nat → Nat) (S : BS) (av : List Value) (F : BS) : Prop := Met l y ws rm (wr_P D cI cZ h S av) (VQ D cI cZ h F) 0 0 (bA h)
section BK
variable {p : Program} {l : Launch} {e : Env} {R : Room} {s : State} {m : MethodId} {args : Array Value} {below : List Frame} {meth : Method} {c : Code} {H : Heap} {locs : List Loc} {cells slots : Nat} {Q : State → Prop}
variable {pc : Nat} {ls : Array Slot} {rest st0 : List Value} {a : Array Value} {A0 : Nat → Prop} {H0 : Heap} {D : va_G} {cI cZ : ClassId} {h : Nat → Nat} {S : BS} {av : List Value}
theorem pu_blind : FrameBlind (pu_P D cI cZ h S av) := fun a U g mk q => by
  obtain ⟨q0, qP, qK, qN⟩ := q
  exact ⟨q0, qP, va_K.moved (u := U) (U := U.calling g mk a) (Vm.Alike.refl U.vm) qK, NW.same (u := U) (U := U.calling g mk a) rfl qN⟩
theorem wr_blind : FrameBlind (wr_P D cI cZ h S av) := fun a U g mk q => by
  obtain ⟨q0, qP, qK, qN, qD⟩ := q
  exact ⟨q0, qP, va_K.moved (u := U) (U := U.calling g mk a) (Vm.Alike.refl U.vm) qK, NW.same (u := U) (U := U.calling g mk a) rfl qN, qD⟩
theorem pu_pre (hP : va_P D vwCl (wB h cI cZ S) H) (hK : va_K D vwCl (bT cI cZ) s) (hN : NW s) : ∀ U : State, U.heap = H → s.WarmedH U.vm → pu_P D cI cZ h S av av.toArray U := fun U hU hW => ⟨rfl, by rw [hU]; exact hP, va_K.moved hW.alike hK, NW.warm hW hN⟩
theorem wr_pre {B : Nat → Prop} (hP : va_P D vwCl (wB h cI cZ S) H) (hK : va_K D vwCl (bT cI cZ) s) (hN : NW s) (hD : va_D B (wB h cI cZ S)) : ∀ U : State, U.heap = H → s.WarmedH U.vm → wr_P D cI cZ h S av av.toArray U := fun U hU hW => ⟨rfl, by rw [hU]; exact hP, va_K.moved hW.alike hK, NW.warm hW hN, hD.weaken (fun _ _ _ _ => trivial)⟩
theorem pu_call {r : Int32} (hr : va_Run p l e R s m args below meth c H locs cells slots 0 0 (F0 m pc ls st0) rest (PQ r a) (fun _ => False)) (hP : va_P D vwCl (wB h cI cZ S) H) (hS : va_S A0 H0 H locs)
    (kk : ∀ (H1 : Heap) (locs1 : List Loc), va_P D vwCl (wB h cI cZ S) H1 → va_S A0 H0 H1 locs1 → W p l e R s m args below meth c H1 locs1 cells slots Q (F0 m (pc + 3) ls (.int r :: rest))) : W p l e R s m args below meth c H locs cells slots Q (F0 m pc ls st0) := by
  refine va_calli (post := fun (x : Int32) (_ : Unit) => x = r) (B := fun _ _ => True) (A1 := fun _ => False) hr hS (fun q _ z => z.elim) (fun q z => z.elim) (fun r1 u t H1 locs1 ht hvm hw hB hz hk hS1 => ?_)
  subst hw
  exact kk H1 locs1 (hP.kept (fun k q hq => hk q.1 (hP k q hq).lt (fun z => z))) hS1
theorem wr_call {F : Int32 × BS} (hr : va_Run p l e R s m args below meth c H locs cells slots 0 0 (F0 m pc ls st0) rest (WQ D cI cZ h F a) (bA h)) (hS : va_S (bA h) H0 H locs)
    (kk : ∀ (H1 : Heap) (locs1 : List Loc), va_P D vwCl (wB h cI cZ F.2) H1 → IV F.2 → va_S (bA h) H0 H1 locs1 → W p l e R s m args below meth c H1 locs1 cells slots Q (F0 m (pc + 3) ls (.int F.1 :: rest))) : W p l e R s m args below meth c H locs cells slots Q (F0 m pc ls st0) := by
  refine va_calli (post := fun (x : Int32) (S2 : BS) => (x, S2) = F ∧ IV S2) (B := fun S2 t => va_P D vwCl (wB h cI cZ S2) t.heap) (A1 := bA h) hr hS (fun q _ z => z) (fun q z => z) (fun r1 u t H1 locs1 ht hvm hw hB hz hk hS1 => ?_)
  obtain ⟨hw, hI⟩ := hw
  subst hw
  rw [ht] at hB
  exact kk H1 locs1 hB hI hS1
theorem wv_call {F : BS} (hr : va_Run p l e R s m args below meth c H locs cells slots 0 0 (F0 m pc ls st0) rest (VQ D cI cZ h F a) (bA h)) (hS : va_S (bA h) H0 H locs)
    (kk : ∀ (H1 : Heap) (locs1 : List Loc), va_P D vwCl (wB h cI cZ F) H1 → IV F → va_S (bA h) H0 H1 locs1 → W p l e R s m args below meth c H1 locs1 cells slots Q (F0 m (pc + 3) ls rest)) : W p l e R s m args below meth c H locs cells slots Q (F0 m pc ls st0) := by
  refine va_callv (post := fun (S2 : BS) => S2 = F ∧ IV S2) (B := fun S2 t => va_P D vwCl (wB h cI cZ S2) t.heap) (A1 := bA h) hr hS (fun q _ z => z) (fun q z => z) (fun u t H1 locs1 ht hvm hw hB hz hk hS1 => ?_)
  obtain ⟨hw, hI⟩ := hw
  subst hw
  rw [ht] at hB
  exact kk H1 locs1 hB hI hS1

theorem wst_0 {cc : ByteArray} {i x : Int32} (hx : p.tables.exec = Jvm.exec) (hb : c.code = cc) (hK : va_K D vwCl (bT cI cZ) s) (hP : va_P D vwCl (wB h cI cZ S) H) (hD : va_D A0 (wB h cI cZ S)) (hS : va_S A0 H0 H locs) (hin : vp_in i 16) (hdg : decode cc pc = .ok (.iastore, 1))
    (kk : ∀ (H1 : Heap) (locs1 : List Loc), va_P D vwCl (wB h cI cZ (upS 0 i.toNatClampNeg x S)) H1 → va_D A0 (wB h cI cZ (upS 0 i.toNatClampNeg x S)) → va_S A0 H0 H1 locs1 → W p l e R s m args below meth c H1 locs1 cells slots Q (F0 m (pc + 1) ls rest)) : W p l e R s m args below meth c H locs cells slots Q (F0 m pc ls (.int x :: .int i :: .ref (h 6) :: rest)) :=
  va_iast (f := S 0) hx hb hK hP hD hS 6 0 rfl rfl hin hdg (fun H1 locs1 hP1 hD1 hS1 => kk H1 locs1 hP1 hD1 hS1)
theorem wst_1 {cc : ByteArray} {i x : Int32} (hx : p.tables.exec = Jvm.exec) (hb : c.code = cc) (hK : va_K D vwCl (bT cI cZ) s) (hP : va_P D vwCl (wB h cI cZ S) H) (hD : va_D A0 (wB h cI cZ S)) (hS : va_S A0 H0 H locs) (hin : vp_in i 32) (hdg : decode cc pc = .ok (.iastore, 1))
    (kk : ∀ (H1 : Heap) (locs1 : List Loc), va_P D vwCl (wB h cI cZ (upS 1 i.toNatClampNeg x S)) H1 → va_D A0 (wB h cI cZ (upS 1 i.toNatClampNeg x S)) → va_S A0 H0 H1 locs1 → W p l e R s m args below meth c H1 locs1 cells slots Q (F0 m (pc + 1) ls rest)) : W p l e R s m args below meth c H locs cells slots Q (F0 m pc ls (.int x :: .int i :: .ref (h 7) :: rest)) :=
  va_iast (f := S 1) hx hb hK hP hD hS 7 0 rfl rfl hin hdg (fun H1 locs1 hP1 hD1 hS1 => kk H1 locs1 hP1 hD1 hS1)
theorem wst_2 {cc : ByteArray} {i x : Int32} (hx : p.tables.exec = Jvm.exec) (hb : c.code = cc) (hK : va_K D vwCl (bT cI cZ) s) (hP : va_P D vwCl (wB h cI cZ S) H) (hD : va_D A0 (wB h cI cZ S)) (hS : va_S A0 H0 H locs) (hin : vp_in i 32) (hdg : decode cc pc = .ok (.iastore, 1))
    (kk : ∀ (H1 : Heap) (locs1 : List Loc), va_P D vwCl (wB h cI cZ (upS 2 i.toNatClampNeg x S)) H1 → va_D A0 (wB h cI cZ (upS 2 i.toNatClampNeg x S)) → va_S A0 H0 H1 locs1 → W p l e R s m args below meth c H1 locs1 cells slots Q (F0 m (pc + 1) ls rest)) : W p l e R s m args below meth c H locs cells slots Q (F0 m pc ls (.int x :: .int i :: .ref (h 8) :: rest)) :=
  va_iast (f := S 2) hx hb hK hP hD hS 8 0 rfl rfl hin hdg (fun H1 locs1 hP1 hD1 hS1 => kk H1 locs1 hP1 hD1 hS1)
theorem wst_3 {cc : ByteArray} {i x : Int32} (hx : p.tables.exec = Jvm.exec) (hb : c.code = cc) (hK : va_K D vwCl (bT cI cZ) s) (hP : va_P D vwCl (wB h cI cZ S) H) (hD : va_D A0 (wB h cI cZ S)) (hS : va_S A0 H0 H locs) (hin : vp_in i 32) (hn : vp_nar .boolean x = x) (hdg : decode cc pc = .ok (.bastore, 1))
    (kk : ∀ (H1 : Heap) (locs1 : List Loc), va_P D vwCl (wB h cI cZ (upS 3 i.toNatClampNeg x S)) H1 → va_D A0 (wB h cI cZ (upS 3 i.toNatClampNeg x S)) → va_S A0 H0 H1 locs1 → W p l e R s m args below meth c H1 locs1 cells slots Q (F0 m (pc + 1) ls rest)) : W p l e R s m args below meth c H locs cells slots Q (F0 m pc ls (.int x :: .int i :: .ref (h 9) :: rest)) := by
  refine va_zast (f := S 3) hx hb hK hP hD hS 9 1 rfl rfl hin hdg (fun H1 locs1 hP1 hD1 hS1 => ?_)
  rw [hn] at hP1 hD1
  exact kk H1 locs1 hP1 hD1 hS1
theorem wst_4 {cc : ByteArray} {i x : Int32} (hx : p.tables.exec = Jvm.exec) (hb : c.code = cc) (hK : va_K D vwCl (bT cI cZ) s) (hP : va_P D vwCl (wB h cI cZ S) H) (hD : va_D A0 (wB h cI cZ S)) (hS : va_S A0 H0 H locs) (hin : vp_in i 32) (hdg : decode cc pc = .ok (.iastore, 1))
    (kk : ∀ (H1 : Heap) (locs1 : List Loc), va_P D vwCl (wB h cI cZ (upS 4 i.toNatClampNeg x S)) H1 → va_D A0 (wB h cI cZ (upS 4 i.toNatClampNeg x S)) → va_S A0 H0 H1 locs1 → W p l e R s m args below meth c H1 locs1 cells slots Q (F0 m (pc + 1) ls rest)) : W p l e R s m args below meth c H locs cells slots Q (F0 m pc ls (.int x :: .int i :: .ref (h 10) :: rest)) :=
  va_iast (f := S 4) hx hb hK hP hD hS 10 0 rfl rfl hin hdg (fun H1 locs1 hP1 hD1 hS1 => kk H1 locs1 hP1 hD1 hS1)
theorem wst_5 {cc : ByteArray} {i x : Int32} (hx : p.tables.exec = Jvm.exec) (hb : c.code = cc) (hK : va_K D vwCl (bT cI cZ) s) (hP : va_P D vwCl (wB h cI cZ S) H) (hD : va_D A0 (wB h cI cZ S)) (hS : va_S A0 H0 H locs) (hin : vp_in i 32) (hdg : decode cc pc = .ok (.iastore, 1))
    (kk : ∀ (H1 : Heap) (locs1 : List Loc), va_P D vwCl (wB h cI cZ (upS 5 i.toNatClampNeg x S)) H1 → va_D A0 (wB h cI cZ (upS 5 i.toNatClampNeg x S)) → va_S A0 H0 H1 locs1 → W p l e R s m args below meth c H1 locs1 cells slots Q (F0 m (pc + 1) ls rest)) : W p l e R s m args below meth c H locs cells slots Q (F0 m pc ls (.int x :: .int i :: .ref (h 11) :: rest)) :=
  va_iast (f := S 5) hx hb hK hP hD hS 11 0 rfl rfl hin hdg (fun H1 locs1 hP1 hD1 hS1 => kk H1 locs1 hP1 hD1 hS1)
theorem wst_6 {cc : ByteArray} {i x : Int32} (hx : p.tables.exec = Jvm.exec) (hb : c.code = cc) (hK : va_K D vwCl (bT cI cZ) s) (hP : va_P D vwCl (wB h cI cZ S) H) (hD : va_D A0 (wB h cI cZ S)) (hS : va_S A0 H0 H locs) (hin : vp_in i 80) (hdg : decode cc pc = .ok (.iastore, 1))
    (kk : ∀ (H1 : Heap) (locs1 : List Loc), va_P D vwCl (wB h cI cZ (upS 6 i.toNatClampNeg x S)) H1 → va_D A0 (wB h cI cZ (upS 6 i.toNatClampNeg x S)) → va_S A0 H0 H1 locs1 → W p l e R s m args below meth c H1 locs1 cells slots Q (F0 m (pc + 1) ls rest)) : W p l e R s m args below meth c H locs cells slots Q (F0 m pc ls (.int x :: .int i :: .ref (h 12) :: rest)) :=
  va_iast (f := S 6) hx hb hK hP hD hS 12 0 rfl rfl hin hdg (fun H1 locs1 hP1 hD1 hS1 => kk H1 locs1 hP1 hD1 hS1)
theorem wst_7 {cc : ByteArray} {i x : Int32} (hx : p.tables.exec = Jvm.exec) (hb : c.code = cc) (hK : va_K D vwCl (bT cI cZ) s) (hP : va_P D vwCl (wB h cI cZ S) H) (hD : va_D A0 (wB h cI cZ S)) (hS : va_S A0 H0 H locs) (hin : vp_in i 80) (hdg : decode cc pc = .ok (.iastore, 1))
    (kk : ∀ (H1 : Heap) (locs1 : List Loc), va_P D vwCl (wB h cI cZ (upS 7 i.toNatClampNeg x S)) H1 → va_D A0 (wB h cI cZ (upS 7 i.toNatClampNeg x S)) → va_S A0 H0 H1 locs1 → W p l e R s m args below meth c H1 locs1 cells slots Q (F0 m (pc + 1) ls rest)) : W p l e R s m args below meth c H locs cells slots Q (F0 m pc ls (.int x :: .int i :: .ref (h 13) :: rest)) :=
  va_iast (f := S 7) hx hb hK hP hD hS 13 0 rfl rfl hin hdg (fun H1 locs1 hP1 hD1 hS1 => kk H1 locs1 hP1 hD1 hS1)
theorem wst_8 {cc : ByteArray} {i x : Int32} (hx : p.tables.exec = Jvm.exec) (hb : c.code = cc) (hK : va_K D vwCl (bT cI cZ) s) (hP : va_P D vwCl (wB h cI cZ S) H) (hD : va_D A0 (wB h cI cZ S)) (hS : va_S A0 H0 H locs) (hin : vp_in i 80) (hdg : decode cc pc = .ok (.iastore, 1))
    (kk : ∀ (H1 : Heap) (locs1 : List Loc), va_P D vwCl (wB h cI cZ (upS 8 i.toNatClampNeg x S)) H1 → va_D A0 (wB h cI cZ (upS 8 i.toNatClampNeg x S)) → va_S A0 H0 H1 locs1 → W p l e R s m args below meth c H1 locs1 cells slots Q (F0 m (pc + 1) ls rest)) : W p l e R s m args below meth c H locs cells slots Q (F0 m pc ls (.int x :: .int i :: .ref (h 14) :: rest)) :=
  va_iast (f := S 8) hx hb hK hP hD hS 14 0 rfl rfl hin hdg (fun H1 locs1 hP1 hD1 hS1 => kk H1 locs1 hP1 hD1 hS1)
theorem wst_9 {cc : ByteArray} {i x : Int32} (hx : p.tables.exec = Jvm.exec) (hb : c.code = cc) (hK : va_K D vwCl (bT cI cZ) s) (hP : va_P D vwCl (wB h cI cZ S) H) (hD : va_D A0 (wB h cI cZ S)) (hS : va_S A0 H0 H locs) (hin : vp_in i 80) (hdg : decode cc pc = .ok (.iastore, 1))
    (kk : ∀ (H1 : Heap) (locs1 : List Loc), va_P D vwCl (wB h cI cZ (upS 9 i.toNatClampNeg x S)) H1 → va_D A0 (wB h cI cZ (upS 9 i.toNatClampNeg x S)) → va_S A0 H0 H1 locs1 → W p l e R s m args below meth c H1 locs1 cells slots Q (F0 m (pc + 1) ls rest)) : W p l e R s m args below meth c H locs cells slots Q (F0 m pc ls (.int x :: .int i :: .ref (h 15) :: rest)) :=
  va_iast (f := S 9) hx hb hK hP hD hS 15 0 rfl rfl hin hdg (fun H1 locs1 hP1 hD1 hS1 => kk H1 locs1 hP1 hD1 hS1)
theorem wst_10 {cc : ByteArray} {i x : Int32} (hx : p.tables.exec = Jvm.exec) (hb : c.code = cc) (hK : va_K D vwCl (bT cI cZ) s) (hP : va_P D vwCl (wB h cI cZ S) H) (hD : va_D A0 (wB h cI cZ S)) (hS : va_S A0 H0 H locs) (hin : vp_in i 80) (hn : vp_nar .boolean x = x) (hdg : decode cc pc = .ok (.bastore, 1))
    (kk : ∀ (H1 : Heap) (locs1 : List Loc), va_P D vwCl (wB h cI cZ (upS 10 i.toNatClampNeg x S)) H1 → va_D A0 (wB h cI cZ (upS 10 i.toNatClampNeg x S)) → va_S A0 H0 H1 locs1 → W p l e R s m args below meth c H1 locs1 cells slots Q (F0 m (pc + 1) ls rest)) : W p l e R s m args below meth c H locs cells slots Q (F0 m pc ls (.int x :: .int i :: .ref (h 16) :: rest)) := by
  refine va_zast (f := S 10) hx hb hK hP hD hS 16 1 rfl rfl hin hdg (fun H1 locs1 hP1 hD1 hS1 => ?_)
  rw [hn] at hP1 hD1
  exact kk H1 locs1 hP1 hD1 hS1
theorem wst_11 {cc : ByteArray} {i x : Int32} (hx : p.tables.exec = Jvm.exec) (hb : c.code = cc) (hK : va_K D vwCl (bT cI cZ) s) (hP : va_P D vwCl (wB h cI cZ S) H) (hD : va_D A0 (wB h cI cZ S)) (hS : va_S A0 H0 H locs) (hin : vp_in i 120) (hdg : decode cc pc = .ok (.iastore, 1))
    (kk : ∀ (H1 : Heap) (locs1 : List Loc), va_P D vwCl (wB h cI cZ (upS 11 i.toNatClampNeg x S)) H1 → va_D A0 (wB h cI cZ (upS 11 i.toNatClampNeg x S)) → va_S A0 H0 H1 locs1 → W p l e R s m args below meth c H1 locs1 cells slots Q (F0 m (pc + 1) ls rest)) : W p l e R s m args below meth c H locs cells slots Q (F0 m pc ls (.int x :: .int i :: .ref (h 17) :: rest)) :=
  va_iast (f := S 11) hx hb hK hP hD hS 17 0 rfl rfl hin hdg (fun H1 locs1 hP1 hD1 hS1 => kk H1 locs1 hP1 hD1 hS1)
theorem wst_12 {cc : ByteArray} {i x : Int32} (hx : p.tables.exec = Jvm.exec) (hb : c.code = cc) (hK : va_K D vwCl (bT cI cZ) s) (hP : va_P D vwCl (wB h cI cZ S) H) (hD : va_D A0 (wB h cI cZ S)) (hS : va_S A0 H0 H locs) (hin : vp_in i 120) (hdg : decode cc pc = .ok (.iastore, 1))
    (kk : ∀ (H1 : Heap) (locs1 : List Loc), va_P D vwCl (wB h cI cZ (upS 12 i.toNatClampNeg x S)) H1 → va_D A0 (wB h cI cZ (upS 12 i.toNatClampNeg x S)) → va_S A0 H0 H1 locs1 → W p l e R s m args below meth c H1 locs1 cells slots Q (F0 m (pc + 1) ls rest)) : W p l e R s m args below meth c H locs cells slots Q (F0 m pc ls (.int x :: .int i :: .ref (h 18) :: rest)) :=
  va_iast (f := S 12) hx hb hK hP hD hS 18 0 rfl rfl hin hdg (fun H1 locs1 hP1 hD1 hS1 => kk H1 locs1 hP1 hD1 hS1)
theorem wst_13 {cc : ByteArray} {i x : Int32} (hx : p.tables.exec = Jvm.exec) (hb : c.code = cc) (hK : va_K D vwCl (bT cI cZ) s) (hP : va_P D vwCl (wB h cI cZ S) H) (hD : va_D A0 (wB h cI cZ S)) (hS : va_S A0 H0 H locs) (hin : vp_in i 120) (hdg : decode cc pc = .ok (.iastore, 1))
    (kk : ∀ (H1 : Heap) (locs1 : List Loc), va_P D vwCl (wB h cI cZ (upS 13 i.toNatClampNeg x S)) H1 → va_D A0 (wB h cI cZ (upS 13 i.toNatClampNeg x S)) → va_S A0 H0 H1 locs1 → W p l e R s m args below meth c H1 locs1 cells slots Q (F0 m (pc + 1) ls rest)) : W p l e R s m args below meth c H locs cells slots Q (F0 m pc ls (.int x :: .int i :: .ref (h 19) :: rest)) :=
  va_iast (f := S 13) hx hb hK hP hD hS 19 0 rfl rfl hin hdg (fun H1 locs1 hP1 hD1 hS1 => kk H1 locs1 hP1 hD1 hS1)
theorem wst_14 {cc : ByteArray} {i x : Int32} (hx : p.tables.exec = Jvm.exec) (hb : c.code = cc) (hK : va_K D vwCl (bT cI cZ) s) (hP : va_P D vwCl (wB h cI cZ S) H) (hD : va_D A0 (wB h cI cZ S)) (hS : va_S A0 H0 H locs) (hin : vp_in i 120) (hdg : decode cc pc = .ok (.iastore, 1))
    (kk : ∀ (H1 : Heap) (locs1 : List Loc), va_P D vwCl (wB h cI cZ (upS 14 i.toNatClampNeg x S)) H1 → va_D A0 (wB h cI cZ (upS 14 i.toNatClampNeg x S)) → va_S A0 H0 H1 locs1 → W p l e R s m args below meth c H1 locs1 cells slots Q (F0 m (pc + 1) ls rest)) : W p l e R s m args below meth c H locs cells slots Q (F0 m pc ls (.int x :: .int i :: .ref (h 20) :: rest)) :=
  va_iast (f := S 14) hx hb hK hP hD hS 20 0 rfl rfl hin hdg (fun H1 locs1 hP1 hD1 hS1 => kk H1 locs1 hP1 hD1 hS1)
theorem wst_15 {cc : ByteArray} {i x : Int32} (hx : p.tables.exec = Jvm.exec) (hb : c.code = cc) (hK : va_K D vwCl (bT cI cZ) s) (hP : va_P D vwCl (wB h cI cZ S) H) (hD : va_D A0 (wB h cI cZ S)) (hS : va_S A0 H0 H locs) (hin : vp_in i 120) (hn : vp_nar .boolean x = x) (hdg : decode cc pc = .ok (.bastore, 1))
    (kk : ∀ (H1 : Heap) (locs1 : List Loc), va_P D vwCl (wB h cI cZ (upS 15 i.toNatClampNeg x S)) H1 → va_D A0 (wB h cI cZ (upS 15 i.toNatClampNeg x S)) → va_S A0 H0 H1 locs1 → W p l e R s m args below meth c H1 locs1 cells slots Q (F0 m (pc + 1) ls rest)) : W p l e R s m args below meth c H locs cells slots Q (F0 m pc ls (.int x :: .int i :: .ref (h 21) :: rest)) := by
  refine va_zast (f := S 15) hx hb hK hP hD hS 21 1 rfl rfl hin hdg (fun H1 locs1 hP1 hD1 hS1 => ?_)
  rw [hn] at hP1 hD1
  exact kk H1 locs1 hP1 hD1 hS1
theorem wst_16 {cc : ByteArray} {i x : Int32} (hx : p.tables.exec = Jvm.exec) (hb : c.code = cc) (hK : va_K D vwCl (bT cI cZ) s) (hP : va_P D vwCl (wB h cI cZ S) H) (hD : va_D A0 (wB h cI cZ S)) (hS : va_S A0 H0 H locs) (hin : vp_in i 512) (hdg : decode cc pc = .ok (.iastore, 1))
    (kk : ∀ (H1 : Heap) (locs1 : List Loc), va_P D vwCl (wB h cI cZ (upS 16 i.toNatClampNeg x S)) H1 → va_D A0 (wB h cI cZ (upS 16 i.toNatClampNeg x S)) → va_S A0 H0 H1 locs1 → W p l e R s m args below meth c H1 locs1 cells slots Q (F0 m (pc + 1) ls rest)) : W p l e R s m args below meth c H locs cells slots Q (F0 m pc ls (.int x :: .int i :: .ref (h 22) :: rest)) :=
  va_iast (f := S 16) hx hb hK hP hD hS 22 0 rfl rfl hin hdg (fun H1 locs1 hP1 hD1 hS1 => kk H1 locs1 hP1 hD1 hS1)
theorem wst_17 {cc : ByteArray} {i x : Int32} (hx : p.tables.exec = Jvm.exec) (hb : c.code = cc) (hK : va_K D vwCl (bT cI cZ) s) (hP : va_P D vwCl (wB h cI cZ S) H) (hD : va_D A0 (wB h cI cZ S)) (hS : va_S A0 H0 H locs) (hin : vp_in i 512) (hdg : decode cc pc = .ok (.iastore, 1))
    (kk : ∀ (H1 : Heap) (locs1 : List Loc), va_P D vwCl (wB h cI cZ (upS 17 i.toNatClampNeg x S)) H1 → va_D A0 (wB h cI cZ (upS 17 i.toNatClampNeg x S)) → va_S A0 H0 H1 locs1 → W p l e R s m args below meth c H1 locs1 cells slots Q (F0 m (pc + 1) ls rest)) : W p l e R s m args below meth c H locs cells slots Q (F0 m pc ls (.int x :: .int i :: .ref (h 23) :: rest)) :=
  va_iast (f := S 17) hx hb hK hP hD hS 23 0 rfl rfl hin hdg (fun H1 locs1 hP1 hD1 hS1 => kk H1 locs1 hP1 hD1 hS1)
theorem wst_18 {cc : ByteArray} {i x : Int32} (hx : p.tables.exec = Jvm.exec) (hb : c.code = cc) (hK : va_K D vwCl (bT cI cZ) s) (hP : va_P D vwCl (wB h cI cZ S) H) (hD : va_D A0 (wB h cI cZ S)) (hS : va_S A0 H0 H locs) (hin : vp_in i 512) (hdg : decode cc pc = .ok (.iastore, 1))
    (kk : ∀ (H1 : Heap) (locs1 : List Loc), va_P D vwCl (wB h cI cZ (upS 18 i.toNatClampNeg x S)) H1 → va_D A0 (wB h cI cZ (upS 18 i.toNatClampNeg x S)) → va_S A0 H0 H1 locs1 → W p l e R s m args below meth c H1 locs1 cells slots Q (F0 m (pc + 1) ls rest)) : W p l e R s m args below meth c H locs cells slots Q (F0 m pc ls (.int x :: .int i :: .ref (h 24) :: rest)) :=
  va_iast (f := S 18) hx hb hK hP hD hS 24 0 rfl rfl hin hdg (fun H1 locs1 hP1 hD1 hS1 => kk H1 locs1 hP1 hD1 hS1)
theorem wst_19 {cc : ByteArray} {i x : Int32} (hx : p.tables.exec = Jvm.exec) (hb : c.code = cc) (hK : va_K D vwCl (bT cI cZ) s) (hP : va_P D vwCl (wB h cI cZ S) H) (hD : va_D A0 (wB h cI cZ S)) (hS : va_S A0 H0 H locs) (hin : vp_in i 512) (hdg : decode cc pc = .ok (.iastore, 1))
    (kk : ∀ (H1 : Heap) (locs1 : List Loc), va_P D vwCl (wB h cI cZ (upS 19 i.toNatClampNeg x S)) H1 → va_D A0 (wB h cI cZ (upS 19 i.toNatClampNeg x S)) → va_S A0 H0 H1 locs1 → W p l e R s m args below meth c H1 locs1 cells slots Q (F0 m (pc + 1) ls rest)) : W p l e R s m args below meth c H locs cells slots Q (F0 m pc ls (.int x :: .int i :: .ref (h 25) :: rest)) :=
  va_iast (f := S 19) hx hb hK hP hD hS 25 0 rfl rfl hin hdg (fun H1 locs1 hP1 hD1 hS1 => kk H1 locs1 hP1 hD1 hS1)
theorem wst_20 {cc : ByteArray} {i x : Int32} (hx : p.tables.exec = Jvm.exec) (hb : c.code = cc) (hK : va_K D vwCl (bT cI cZ) s) (hP : va_P D vwCl (wB h cI cZ S) H) (hD : va_D A0 (wB h cI cZ S)) (hS : va_S A0 H0 H locs) (hin : vp_in i 512) (hn : vp_nar .boolean x = x) (hdg : decode cc pc = .ok (.bastore, 1))
    (kk : ∀ (H1 : Heap) (locs1 : List Loc), va_P D vwCl (wB h cI cZ (upS 20 i.toNatClampNeg x S)) H1 → va_D A0 (wB h cI cZ (upS 20 i.toNatClampNeg x S)) → va_S A0 H0 H1 locs1 → W p l e R s m args below meth c H1 locs1 cells slots Q (F0 m (pc + 1) ls rest)) : W p l e R s m args below meth c H locs cells slots Q (F0 m pc ls (.int x :: .int i :: .ref (h 26) :: rest)) := by
  refine va_zast (f := S 20) hx hb hK hP hD hS 26 1 rfl rfl hin hdg (fun H1 locs1 hP1 hD1 hS1 => ?_)
  rw [hn] at hP1 hD1
  exact kk H1 locs1 hP1 hD1 hS1
theorem wst_21 {cc : ByteArray} {i x : Int32} (hx : p.tables.exec = Jvm.exec) (hb : c.code = cc) (hK : va_K D vwCl (bT cI cZ) s) (hP : va_P D vwCl (wB h cI cZ S) H) (hD : va_D A0 (wB h cI cZ S)) (hS : va_S A0 H0 H locs) (hin : vp_in i 1000) (hn : vp_nar .boolean x = x) (hdg : decode cc pc = .ok (.bastore, 1))
    (kk : ∀ (H1 : Heap) (locs1 : List Loc), va_P D vwCl (wB h cI cZ (upS 21 i.toNatClampNeg x S)) H1 → va_D A0 (wB h cI cZ (upS 21 i.toNatClampNeg x S)) → va_S A0 H0 H1 locs1 → W p l e R s m args below meth c H1 locs1 cells slots Q (F0 m (pc + 1) ls rest)) : W p l e R s m args below meth c H locs cells slots Q (F0 m pc ls (.int x :: .int i :: .ref (h 27) :: rest)) := by
  refine va_zast (f := S 21) hx hb hK hP hD hS 27 1 rfl rfl hin hdg (fun H1 locs1 hP1 hD1 hS1 => ?_)
  rw [hn] at hP1 hD1
  exact kk H1 locs1 hP1 hD1 hS1
theorem wpf_22 {cc : ByteArray} {x : Int32} {index : Nat} (hx : p.tables.exec = Jvm.exec) (hb : c.code = cc) (hB : ∀ w ∈ BW, w.before args s = true) (hown : s.vm.findClass RX1 = some m.cls) (hK : va_K D vwCl (bT cI cZ) s) (hP : va_P D vwCl (wB h cI cZ S) H) (hD : va_D A0 (wB h cI cZ S)) (hS : va_S A0 H0 H locs) (hlink : (Cond.fieldLink RX1 index RX1 "size" "I").before args s = true) (hdg : decode cc pc = .ok (.putfield index, 3))
    (kk : ∀ (H1 : Heap) (locs1 : List Loc), va_P D vwCl (wB h cI cZ (upS 22 0 x S)) H1 → va_D A0 (wB h cI cZ (upS 22 0 x S)) → va_S A0 H0 H1 locs1 → W p l e R s m args below meth c H1 locs1 cells slots Q (F0 m (pc + 3) ls rest)) : W p l e R s m args below meth c H locs cells slots Q (F0 m pc ls (.int x :: .ref (h 1) :: rest)) :=
  va_put (D := D) (ci := 1) (v := .int x) (ty := .int) (C := RX1) (T := TX1) (N := 2) hx hb hB inX1 tyX1 tyX1_ok nmX1 hown hK hP hD hS 1 rfl rfl 1 (by decide) hlink (fun _ h9 => h9) rfl (by decide +kernel) rfl rfl (Nat.le_of_ble_eq_true rfl) hdg (fun H1 locs1 hP1 hD1 hS1 => kk H1 locs1 hP1 hD1 hS1)
theorem wpf_23 {cc : ByteArray} {x : Int32} {index : Nat} (hx : p.tables.exec = Jvm.exec) (hb : c.code = cc) (hB : ∀ w ∈ BW, w.before args s = true) (hown : s.vm.findClass RX2 = some m.cls) (hK : va_K D vwCl (bT cI cZ) s) (hP : va_P D vwCl (wB h cI cZ S) H) (hD : va_D A0 (wB h cI cZ S)) (hS : va_S A0 H0 H locs) (hlink : (Cond.fieldLink RX2 index RX2 "size" "I").before args s = true) (hdg : decode cc pc = .ok (.putfield index, 3))
    (kk : ∀ (H1 : Heap) (locs1 : List Loc), va_P D vwCl (wB h cI cZ (upS 23 0 x S)) H1 → va_D A0 (wB h cI cZ (upS 23 0 x S)) → va_S A0 H0 H1 locs1 → W p l e R s m args below meth c H1 locs1 cells slots Q (F0 m (pc + 3) ls rest)) : W p l e R s m args below meth c H locs cells slots Q (F0 m pc ls (.int x :: .ref (h 2) :: rest)) :=
  va_put (D := D) (ci := 2) (v := .int x) (ty := .int) (C := RX2) (T := TX2) (N := 6) hx hb hB inX2 tyX2 tyX2_ok nmX2 hown hK hP hD hS 2 rfl rfl 5 (by decide) hlink (fun _ h9 => h9) rfl (by decide +kernel) rfl rfl (Nat.le_of_ble_eq_true rfl) hdg (fun H1 locs1 hP1 hD1 hS1 => kk H1 locs1 hP1 hD1 hS1)
theorem wpf_24 {cc : ByteArray} {x : Int32} {index : Nat} (hx : p.tables.exec = Jvm.exec) (hb : c.code = cc) (hB : ∀ w ∈ BW, w.before args s = true) (hown : s.vm.findClass RX3 = some m.cls) (hK : va_K D vwCl (bT cI cZ) s) (hP : va_P D vwCl (wB h cI cZ S) H) (hD : va_D A0 (wB h cI cZ S)) (hS : va_S A0 H0 H locs) (hlink : (Cond.fieldLink RX3 index RX3 "size" "I").before args s = true) (hdg : decode cc pc = .ok (.putfield index, 3))
    (kk : ∀ (H1 : Heap) (locs1 : List Loc), va_P D vwCl (wB h cI cZ (upS 24 0 x S)) H1 → va_D A0 (wB h cI cZ (upS 24 0 x S)) → va_S A0 H0 H1 locs1 → W p l e R s m args below meth c H1 locs1 cells slots Q (F0 m (pc + 3) ls rest)) : W p l e R s m args below meth c H locs cells slots Q (F0 m pc ls (.int x :: .ref (h 3) :: rest)) :=
  va_put (D := D) (ci := 3) (v := .int x) (ty := .int) (C := RX3) (T := TX3) (N := 6) hx hb hB inX3 tyX3 tyX3_ok nmX3 hown hK hP hD hS 3 rfl rfl 5 (by decide) hlink (fun _ h9 => h9) rfl (by decide +kernel) rfl rfl (Nat.le_of_ble_eq_true rfl) hdg (fun H1 locs1 hP1 hD1 hS1 => kk H1 locs1 hP1 hD1 hS1)
theorem wpf_25 {cc : ByteArray} {x : Int32} {index : Nat} (hx : p.tables.exec = Jvm.exec) (hb : c.code = cc) (hB : ∀ w ∈ BW, w.before args s = true) (hown : s.vm.findClass RX4 = some m.cls) (hK : va_K D vwCl (bT cI cZ) s) (hP : va_P D vwCl (wB h cI cZ S) H) (hD : va_D A0 (wB h cI cZ S)) (hS : va_S A0 H0 H locs) (hlink : (Cond.fieldLink RX4 index RX4 "size" "I").before args s = true) (hdg : decode cc pc = .ok (.putfield index, 3))
    (kk : ∀ (H1 : Heap) (locs1 : List Loc), va_P D vwCl (wB h cI cZ (upS 25 0 x S)) H1 → va_D A0 (wB h cI cZ (upS 25 0 x S)) → va_S A0 H0 H1 locs1 → W p l e R s m args below meth c H1 locs1 cells slots Q (F0 m (pc + 3) ls rest)) : W p l e R s m args below meth c H locs cells slots Q (F0 m pc ls (.int x :: .ref (h 4) :: rest)) :=
  va_put (D := D) (ci := 4) (v := .int x) (ty := .int) (C := RX4) (T := TX4) (N := 6) hx hb hB inX4 tyX4 tyX4_ok nmX4 hown hK hP hD hS 4 rfl rfl 5 (by decide) hlink (fun _ h9 => h9) rfl (by decide +kernel) rfl rfl (Nat.le_of_ble_eq_true rfl) hdg (fun H1 locs1 hP1 hD1 hS1 => kk H1 locs1 hP1 hD1 hS1)
theorem wpf_26 {cc : ByteArray} {x : Int32} {index : Nat} (hx : p.tables.exec = Jvm.exec) (hb : c.code = cc) (hB : ∀ w ∈ BW, w.before args s = true) (hown : s.vm.findClass RX5 = some m.cls) (hK : va_K D vwCl (bT cI cZ) s) (hP : va_P D vwCl (wB h cI cZ S) H) (hD : va_D A0 (wB h cI cZ S)) (hS : va_S A0 H0 H locs) (hlink : (Cond.fieldLink RX5 index RX5 "size" "I").before args s = true) (hdg : decode cc pc = .ok (.putfield index, 3))
    (kk : ∀ (H1 : Heap) (locs1 : List Loc), va_P D vwCl (wB h cI cZ (upS 26 0 x S)) H1 → va_D A0 (wB h cI cZ (upS 26 0 x S)) → va_S A0 H0 H1 locs1 → W p l e R s m args below meth c H1 locs1 cells slots Q (F0 m (pc + 3) ls rest)) : W p l e R s m args below meth c H locs cells slots Q (F0 m pc ls (.int x :: .ref (h 5) :: rest)) :=
  va_put (D := D) (ci := 5) (v := .int x) (ty := .int) (C := RX5) (T := TX5) (N := 6) hx hb hB inX5 tyX5 tyX5_ok nmX5 hown hK hP hD hS 5 rfl rfl 5 (by decide) hlink (fun _ h9 => h9) rfl (by decide +kernel) rfl rfl (Nat.le_of_ble_eq_true rfl) hdg (fun H1 locs1 hP1 hD1 hS1 => kk H1 locs1 hP1 hD1 hS1)
theorem wpf_27 {cc : ByteArray} {x : Int32} {index : Nat} (hx : p.tables.exec = Jvm.exec) (hb : c.code = cc) (hB : ∀ w ∈ BW, w.before args s = true) (hown : s.vm.findClass RX0 = some m.cls) (hK : va_K D vwCl (bT cI cZ) s) (hP : va_P D vwCl (wB h cI cZ S) H) (hD : va_D A0 (wB h cI cZ S)) (hS : va_S A0 H0 H locs) (hlink : (Cond.fieldLink RX0 index RX0 "today" "I").before args s = true) (hdg : decode cc pc = .ok (.putfield index, 3))
    (kk : ∀ (H1 : Heap) (locs1 : List Loc), va_P D vwCl (wB h cI cZ (upS 27 0 x S)) H1 → va_D A0 (wB h cI cZ (upS 27 0 x S)) → va_S A0 H0 H1 locs1 → W p l e R s m args below meth c H1 locs1 cells slots Q (F0 m (pc + 3) ls rest)) : W p l e R s m args below meth c H locs cells slots Q (F0 m pc ls (.int x :: .ref (h 0) :: rest)) :=
  va_put (D := D) (ci := 0) (v := .int x) (ty := .int) (C := RX0) (T := TX0) (N := 7) hx hb hB inX0 tyX0 tyX0_ok nmX0 hown hK hP hD hS 0 rfl rfl 6 (by decide) hlink (fun _ h9 => h9) rfl (by decide +kernel) rfl rfl (Nat.le_of_ble_eq_true rfl) hdg (fun H1 locs1 hP1 hD1 hS1 => kk H1 locs1 hP1 hD1 hS1)
end BK
