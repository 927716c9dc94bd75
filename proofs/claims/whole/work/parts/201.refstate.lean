def wBM (h : Nat → Nat) (cI cZ : ClassId) (S : BS) : va_W := [
  (h 0, .inr (6, [.int (S 19 0), .int (S 20 0), .ref (h 1), .int (S 21 0), .ref (h 2), .ref (h 3), .ref (h 4), .ref (h 5), .int (S 22 0), .ref (h 6), .ref (h 7), .ref (h 8), .ref (h 9), .ref (h 10), .int (S 23 0), .ref (h 11), .ref (h 12), .ref (h 13), .int (S 24 0), .ref (h 14), .ref (h 15), .ref (h 16), .ref (h 17), .ref (h 18), .ref (h 19)])),
  (h 1, .inl (cI, 16, .inl (S 0))),
  (h 2, .inl (cI, 32, .inl (S 1))),
  (h 3, .inl (cI, 32, .inl (S 2))),
  (h 4, .inl (cI, 32, .inl (S 3))),
  (h 5, .inl (cI, 32, .inl (S 4))),
  (h 6, .inl (cI, 80, .inl (S 5))),
  (h 7, .inl (cI, 80, .inl (S 6))),
  (h 8, .inl (cI, 80, .inl (S 7))),
  (h 9, .inl (cI, 80, .inl (S 8))),
  (h 10, .inl (cZ, 80, .inl (S 9))),
  (h 11, .inl (cI, 120, .inl (S 10))),
  (h 12, .inl (cI, 120, .inl (S 11))),
  (h 13, .inl (cZ, 120, .inl (S 12))),
  (h 14, .inl (cI, 5000, .inl (S 13))),
  (h 15, .inl (cI, 5000, .inl (S 14))),
  (h 16, .inl (cI, 5000, .inl (S 15))),
  (h 17, .inl (cI, 5000, .inl (S 16))),
  (h 18, .inl (cI, 5000, .inl (S 17))),
  (h 19, .inl (cZ, 5000, .inl (S 18)))]
def bAM (h : Nat → Nat) : Nat → Prop := fun q => ∃ k, k < 20 ∧ q = h k
theorem wB_addrM (h : Nat → Nat) (cI cZ : ClassId) (S : BS) : (wBM h cI cZ S).map (·.1) = (List.range 20).map h := rfl
theorem wDM {A : Nat → Prop} {h : Nat → Nat} {cI cZ : ClassId} {S S2 : BS} (hD : va_D A (wBM h cI cZ S)) : va_D A (wBM h cI cZ S2) := dA_of (by rw [wB_addrM, wB_addrM]) hD (fun _ _ h => h)
theorem bDM {A : Nat → Prop} {h : Nat → Nat} {cI cZ : ClassId} {S : BS} (hD : va_D A (wBM h cI cZ S)) : va_D (bAM h) (wBM h cI cZ S) := dA_of rfl hD (fun q hq _ => by
  rw [wB_addrM] at hq
  obtain ⟨k, hk, e⟩ := List.mem_map.mp hq
  exact ⟨k, List.mem_range.mp hk, e.symm⟩)
def ivsM : List (Nat × Int × Int) := [(3, -1, 31), (5, 0, 31), (7, 0, 999), (8, 0, 999), (9, 0, 1), (10, 0, 79), (12, 0, 1), (13, 0, 119), (14, 0, 31), (15, 0, 999), (18, 0, 1), (20, 0, 16), (21, 0, 32), (22, 0, 80), (23, 0, 120), (24, 0, 5000)]
def IVM (S : BS) : Prop := ∀ q ∈ ivsM, ∀ j : Nat, q.2.1 ≤ (S q.1 j).toInt ∧ (S q.1 j).toInt ≤ q.2.2
theorem iv_0M : IVM (fun _ _ => 0) := by
  intro q hq j
  have z : ((0 : Int32)).toInt = 0 := by decide
  show q.2.1 ≤ ((0 : Int32)).toInt ∧ ((0 : Int32)).toInt ≤ q.2.2
  rw [z]
  revert q
  decide
theorem iv_upM {S : BS} (hI : IVM S) (k i : Nat) (v : Int32) (hv : ∀ q ∈ ivsM, q.1 = k → q.2.1 ≤ v.toInt ∧ v.toInt ≤ q.2.2) : IVM (upS k i v S) := by
  intro q hq j
  rw [upS_at]
  split
  · rename_i e
    exact hv q hq e.1
  · exact hI q hq j
theorem iv_oneM (k : Nat) (lo hi : Int) {v : Int32} (hk : ivsM.filter (fun q => Nat.beq q.1 k) = [(k, lo, hi)]) (h : lo ≤ v.toInt ∧ v.toInt ≤ hi) : ∀ q ∈ ivsM, q.1 = k → q.2.1 ≤ v.toInt ∧ v.toInt ≤ q.2.2 := by
  intro q hq e
  have h1 : q ∈ ivsM.filter (fun q => Nat.beq q.1 k) := List.mem_filter.mpr ⟨hq, by rw [e]; exact Nat.beq_refl k⟩
  rw [hk] at h1
  rw [List.mem_singleton.mp h1]
  exact h
theorem iv_noneM (k : Nat) {v : Int32} (hk : ivsM.filter (fun q => Nat.beq q.1 k) = []) : ∀ q ∈ ivsM, q.1 = k → q.2.1 ≤ v.toInt ∧ v.toInt ≤ q.2.2 := by
  intro q hq e
  have h1 : q ∈ ivsM.filter (fun q => Nat.beq q.1 k) := List.mem_filter.mpr ⟨hq, by rw [e]; exact Nat.beq_refl k⟩
  rw [hk] at h1
  cases h1
theorem ivM_3 {S : BS} (hI : IVM S) (j : Nat) : (-1) ≤ (S 3 j).toInt ∧ (S 3 j).toInt ≤ 31 := hI (3, -1, 31) (by decide) j
theorem ivM_5 {S : BS} (hI : IVM S) (j : Nat) : (0) ≤ (S 5 j).toInt ∧ (S 5 j).toInt ≤ 31 := hI (5, 0, 31) (by decide) j
theorem ivM_7 {S : BS} (hI : IVM S) (j : Nat) : (0) ≤ (S 7 j).toInt ∧ (S 7 j).toInt ≤ 999 := hI (7, 0, 999) (by decide) j
theorem ivM_8 {S : BS} (hI : IVM S) (j : Nat) : (0) ≤ (S 8 j).toInt ∧ (S 8 j).toInt ≤ 999 := hI (8, 0, 999) (by decide) j
theorem ivM_9 {S : BS} (hI : IVM S) (j : Nat) : (0) ≤ (S 9 j).toInt ∧ (S 9 j).toInt ≤ 1 := hI (9, 0, 1) (by decide) j
theorem ivM_10 {S : BS} (hI : IVM S) (j : Nat) : (0) ≤ (S 10 j).toInt ∧ (S 10 j).toInt ≤ 79 := hI (10, 0, 79) (by decide) j
theorem ivM_12 {S : BS} (hI : IVM S) (j : Nat) : (0) ≤ (S 12 j).toInt ∧ (S 12 j).toInt ≤ 1 := hI (12, 0, 1) (by decide) j
theorem ivM_13 {S : BS} (hI : IVM S) (j : Nat) : (0) ≤ (S 13 j).toInt ∧ (S 13 j).toInt ≤ 119 := hI (13, 0, 119) (by decide) j
theorem ivM_14 {S : BS} (hI : IVM S) (j : Nat) : (0) ≤ (S 14 j).toInt ∧ (S 14 j).toInt ≤ 31 := hI (14, 0, 31) (by decide) j
theorem ivM_15 {S : BS} (hI : IVM S) (j : Nat) : (0) ≤ (S 15 j).toInt ∧ (S 15 j).toInt ≤ 999 := hI (15, 0, 999) (by decide) j
theorem ivM_18 {S : BS} (hI : IVM S) (j : Nat) : (0) ≤ (S 18 j).toInt ∧ (S 18 j).toInt ≤ 1 := hI (18, 0, 1) (by decide) j
theorem ivM_20 {S : BS} (hI : IVM S) : (0) ≤ (S 20 0).toInt ∧ (S 20 0).toInt ≤ 16 := hI (20, 0, 16) (by decide) 0
theorem ivM_21 {S : BS} (hI : IVM S) : (0) ≤ (S 21 0).toInt ∧ (S 21 0).toInt ≤ 32 := hI (21, 0, 32) (by decide) 0
theorem ivM_22 {S : BS} (hI : IVM S) : (0) ≤ (S 22 0).toInt ∧ (S 22 0).toInt ≤ 80 := hI (22, 0, 80) (by decide) 0
theorem ivM_23 {S : BS} (hI : IVM S) : (0) ≤ (S 23 0).toInt ∧ (S 23 0).toInt ≤ 120 := hI (23, 0, 120) (by decide) 0
theorem ivM_24 {S : BS} (hI : IVM S) : (0) ≤ (S 24 0).toInt ∧ (S 24 0).toInt ≤ 5000 := hI (24, 0, 5000) (by decide) 0
def pu_PM (D : va_G) (cI cZ : ClassId) (h : Nat → Nat) (S : BS) (av : List Value) : Array Value → State → Prop := va_Pc av (fun U => va_P D vwCl (wBM h cI cZ S) U.heap ∧ va_K D vwCl (bT cI cZ) U ∧ NW U)
def wr_PM (D : va_G) (cI cZ : ClassId) (h : Nat → Nat) (S : BS) (av : List Value) : Array Value → State → Prop := va_Pc av (fun U => va_P D vwCl (wBM h cI cZ S) U.heap ∧ va_K D vwCl (bT cI cZ) U ∧ NW U ∧ va_D (fun _ => True) (wBM h cI cZ S))
def WQM (D : va_G) (cI cZ : ClassId) (h : Nat → Nat) (F : Int32 × BS) : Array Value → State → Outcome → State → Prop := va_Qi (fun (x : Int32) (S2 : BS) => (x, S2) = F ∧ IVM S2) (fun S2 t => va_P D vwCl (wBM h cI cZ S2) t.heap) (bAM h)
def VQM (D : va_G) (cI cZ : ClassId) (h : Nat → Nat) (F : BS) : Array Value → State → Outcome → State → Prop := va_Qv (fun (S2 : BS) => S2 = F ∧ IVM S2) (fun S2 t => va_P D vwCl (wBM h cI cZ S2) t.heap) (bAM h)
def PMM (l : Launch) (y : MethodName) (ws : List Cond) (rm : Room) (D : va_G) (cI cZ : ClassId) (h : Nat → Nat) (S : BS) (av : List Value) (r : Int32) : Prop := Met l y ws rm (pu_PM D cI cZ h S av) (PQ r) 0 0 (fun _ => False)
def WMM (l : Launch) (y : MethodName) (ws : List Cond) (rm : Room) (D : va_G) (cI cZ : ClassId) (h : Nat → Nat) (S : BS) (av : List Value) (F : Int32 × BS) : Prop := Met l y ws rm (wr_PM D cI cZ h S av) (WQM D cI cZ h F) 0 0 (bAM h)
def VMM (l : Launch) (y : MethodName) (ws : List Cond) (rm : Room) (D : va_G) (cI cZ : ClassId) (h : Nat → Nat) (S : BS) (av : List Value) (F : BS) : Prop := Met l y ws rm (wr_PM D cI cZ h S av) (VQM D cI cZ h F) 0 0 (bAM h)
section BKM
variable {p : Program} {l : Launch} {e : Env} {R : Room} {s : State} {m : MethodId} {args : Array Value} {below : List Frame} {meth : Method} {c : Code} {H : Heap} {locs : List Loc} {cells slots : Nat} {Q : State → Prop}
variable {pc : Nat} {ls : Array Slot} {rest st0 : List Value} {a : Array Value} {A0 : Nat → Prop} {H0 : Heap} {D : va_G} {cI cZ : ClassId} {h : Nat → Nat} {S : BS} {av : List Value}
theorem pu_blindM : FrameBlind (pu_PM D cI cZ h S av) := fun a U g mk q => by
  obtain ⟨q0, qP, qK, qN⟩ := q
  exact ⟨q0, qP, va_K.moved (u := U) (U := U.calling g mk a) (Vm.Alike.refl U.vm) qK, NW.same (u := U) (U := U.calling g mk a) rfl qN⟩
theorem wr_blindM : FrameBlind (wr_PM D cI cZ h S av) := fun a U g mk q => by
  obtain ⟨q0, qP, qK, qN, qD⟩ := q
  exact ⟨q0, qP, va_K.moved (u := U) (U := U.calling g mk a) (Vm.Alike.refl U.vm) qK, NW.same (u := U) (U := U.calling g mk a) rfl qN, qD⟩
theorem pu_preM (hP : va_P D vwCl (wBM h cI cZ S) H) (hK : va_K D vwCl (bT cI cZ) s) (hN : NW s) : ∀ U : State, U.heap = H → s.WarmedH U.vm → pu_PM D cI cZ h S av av.toArray U := fun U hU hW => ⟨rfl, by rw [hU]; exact hP, va_K.moved hW.alike hK, NW.warm hW hN⟩
theorem wr_preM {B : Nat → Prop} (hP : va_P D vwCl (wBM h cI cZ S) H) (hK : va_K D vwCl (bT cI cZ) s) (hN : NW s) (hD : va_D B (wBM h cI cZ S)) : ∀ U : State, U.heap = H → s.WarmedH U.vm → wr_PM D cI cZ h S av av.toArray U := fun U hU hW => ⟨rfl, by rw [hU]; exact hP, va_K.moved hW.alike hK, NW.warm hW hN, hD.weaken (fun _ _ _ _ => trivial)⟩
theorem pu_callM {r : Int32} (hr : va_Run p l e R s m args below meth c H locs cells slots 0 0 (F0 m pc ls st0) rest (PQ r a) (fun _ => False)) (hP : va_P D vwCl (wBM h cI cZ S) H) (hS : va_S A0 H0 H locs)
    (kk : ∀ (H1 : Heap) (locs1 : List Loc), va_P D vwCl (wBM h cI cZ S) H1 → va_S A0 H0 H1 locs1 → W p l e R s m args below meth c H1 locs1 cells slots Q (F0 m (pc + 3) ls (.int r :: rest))) : W p l e R s m args below meth c H locs cells slots Q (F0 m pc ls st0) := by
  refine va_calli (post := fun (x : Int32) (_ : Unit) => x = r) (B := fun _ _ => True) (A1 := fun _ => False) hr hS (fun q _ z => z.elim) (fun q z => z.elim) (fun r1 u t H1 locs1 ht hvm hw hB hz hk hS1 => ?_)
  subst hw
  exact kk H1 locs1 (hP.kept (fun k q hq => hk q.1 (hP k q hq).lt (fun z => z))) hS1
theorem wr_callM {F : Int32 × BS} (hr : va_Run p l e R s m args below meth c H locs cells slots 0 0 (F0 m pc ls st0) rest (WQM D cI cZ h F a) (bAM h)) (hS : va_S (bAM h) H0 H locs)
    (kk : ∀ (H1 : Heap) (locs1 : List Loc), va_P D vwCl (wBM h cI cZ F.2) H1 → IVM F.2 → va_S (bAM h) H0 H1 locs1 → W p l e R s m args below meth c H1 locs1 cells slots Q (F0 m (pc + 3) ls (.int F.1 :: rest))) : W p l e R s m args below meth c H locs cells slots Q (F0 m pc ls st0) := by
  refine va_calli (post := fun (x : Int32) (S2 : BS) => (x, S2) = F ∧ IVM S2) (B := fun S2 t => va_P D vwCl (wBM h cI cZ S2) t.heap) (A1 := bAM h) hr hS (fun q _ z => z) (fun q z => z) (fun r1 u t H1 locs1 ht hvm hw hB hz hk hS1 => ?_)
  obtain ⟨hw, hI⟩ := hw
  subst hw
  rw [ht] at hB
  exact kk H1 locs1 hB hI hS1
theorem wv_callM {F : BS} (hr : va_Run p l e R s m args below meth c H locs cells slots 0 0 (F0 m pc ls st0) rest (VQM D cI cZ h F a) (bAM h)) (hS : va_S (bAM h) H0 H locs)
    (kk : ∀ (H1 : Heap) (locs1 : List Loc), va_P D vwCl (wBM h cI cZ F) H1 → IVM F → va_S (bAM h) H0 H1 locs1 → W p l e R s m args below meth c H1 locs1 cells slots Q (F0 m (pc + 3) ls rest)) : W p l e R s m args below meth c H locs cells slots Q (F0 m pc ls st0) := by
  refine va_callv (post := fun (S2 : BS) => S2 = F ∧ IVM S2) (B := fun S2 t => va_P D vwCl (wBM h cI cZ S2) t.heap) (A1 := bAM h) hr hS (fun q _ z => z) (fun q z => z) (fun u t H1 locs1 ht hvm hw hB hz hk hS1 => ?_)
  obtain ⟨hw, hI⟩ := hw
  subst hw
  rw [ht] at hB
  exact kk H1 locs1 hB hI hS1


theorem wstM_0 {cc : ByteArray} {i x : Int32} (hx : p.tables.exec = Jvm.exec) (hb : c.code = cc) (hK : va_K D vwCl (bT cI cZ) s) (hP : va_P D vwCl (wBM h cI cZ S) H) (hD : va_D A0 (wBM h cI cZ S)) (hS : va_S A0 H0 H locs) (hin : vp_in i 16) (hdg : decode cc pc = .ok (.iastore, 1))
    (kk : ∀ (H1 : Heap) (locs1 : List Loc), va_P D vwCl (wBM h cI cZ (upS 0 i.toNatClampNeg x S)) H1 → va_D A0 (wBM h cI cZ (upS 0 i.toNatClampNeg x S)) → va_S A0 H0 H1 locs1 → W p l e R s m args below meth c H1 locs1 cells slots Q (F0 m (pc + 1) ls rest)) : W p l e R s m args below meth c H locs cells slots Q (F0 m pc ls (.int x :: .int i :: .ref (h 1) :: rest)) :=
  va_iast (f := S 0) hx hb hK hP hD hS 1 0 rfl rfl hin hdg (fun H1 locs1 hP1 hD1 hS1 => kk H1 locs1 hP1 hD1 hS1)
theorem wstM_1 {cc : ByteArray} {i x : Int32} (hx : p.tables.exec = Jvm.exec) (hb : c.code = cc) (hK : va_K D vwCl (bT cI cZ) s) (hP : va_P D vwCl (wBM h cI cZ S) H) (hD : va_D A0 (wBM h cI cZ S)) (hS : va_S A0 H0 H locs) (hin : vp_in i 32) (hdg : decode cc pc = .ok (.iastore, 1))
    (kk : ∀ (H1 : Heap) (locs1 : List Loc), va_P D vwCl (wBM h cI cZ (upS 1 i.toNatClampNeg x S)) H1 → va_D A0 (wBM h cI cZ (upS 1 i.toNatClampNeg x S)) → va_S A0 H0 H1 locs1 → W p l e R s m args below meth c H1 locs1 cells slots Q (F0 m (pc + 1) ls rest)) : W p l e R s m args below meth c H locs cells slots Q (F0 m pc ls (.int x :: .int i :: .ref (h 2) :: rest)) :=
  va_iast (f := S 1) hx hb hK hP hD hS 2 0 rfl rfl hin hdg (fun H1 locs1 hP1 hD1 hS1 => kk H1 locs1 hP1 hD1 hS1)
theorem wstM_2 {cc : ByteArray} {i x : Int32} (hx : p.tables.exec = Jvm.exec) (hb : c.code = cc) (hK : va_K D vwCl (bT cI cZ) s) (hP : va_P D vwCl (wBM h cI cZ S) H) (hD : va_D A0 (wBM h cI cZ S)) (hS : va_S A0 H0 H locs) (hin : vp_in i 32) (hdg : decode cc pc = .ok (.iastore, 1))
    (kk : ∀ (H1 : Heap) (locs1 : List Loc), va_P D vwCl (wBM h cI cZ (upS 2 i.toNatClampNeg x S)) H1 → va_D A0 (wBM h cI cZ (upS 2 i.toNatClampNeg x S)) → va_S A0 H0 H1 locs1 → W p l e R s m args below meth c H1 locs1 cells slots Q (F0 m (pc + 1) ls rest)) : W p l e R s m args below meth c H locs cells slots Q (F0 m pc ls (.int x :: .int i :: .ref (h 3) :: rest)) :=
  va_iast (f := S 2) hx hb hK hP hD hS 3 0 rfl rfl hin hdg (fun H1 locs1 hP1 hD1 hS1 => kk H1 locs1 hP1 hD1 hS1)
theorem wstM_3 {cc : ByteArray} {i x : Int32} (hx : p.tables.exec = Jvm.exec) (hb : c.code = cc) (hK : va_K D vwCl (bT cI cZ) s) (hP : va_P D vwCl (wBM h cI cZ S) H) (hD : va_D A0 (wBM h cI cZ S)) (hS : va_S A0 H0 H locs) (hin : vp_in i 32) (hdg : decode cc pc = .ok (.iastore, 1))
    (kk : ∀ (H1 : Heap) (locs1 : List Loc), va_P D vwCl (wBM h cI cZ (upS 3 i.toNatClampNeg x S)) H1 → va_D A0 (wBM h cI cZ (upS 3 i.toNatClampNeg x S)) → va_S A0 H0 H1 locs1 → W p l e R s m args below meth c H1 locs1 cells slots Q (F0 m (pc + 1) ls rest)) : W p l e R s m args below meth c H locs cells slots Q (F0 m pc ls (.int x :: .int i :: .ref (h 4) :: rest)) :=
  va_iast (f := S 3) hx hb hK hP hD hS 4 0 rfl rfl hin hdg (fun H1 locs1 hP1 hD1 hS1 => kk H1 locs1 hP1 hD1 hS1)
theorem wstM_4 {cc : ByteArray} {i x : Int32} (hx : p.tables.exec = Jvm.exec) (hb : c.code = cc) (hK : va_K D vwCl (bT cI cZ) s) (hP : va_P D vwCl (wBM h cI cZ S) H) (hD : va_D A0 (wBM h cI cZ S)) (hS : va_S A0 H0 H locs) (hin : vp_in i 32) (hdg : decode cc pc = .ok (.iastore, 1))
    (kk : ∀ (H1 : Heap) (locs1 : List Loc), va_P D vwCl (wBM h cI cZ (upS 4 i.toNatClampNeg x S)) H1 → va_D A0 (wBM h cI cZ (upS 4 i.toNatClampNeg x S)) → va_S A0 H0 H1 locs1 → W p l e R s m args below meth c H1 locs1 cells slots Q (F0 m (pc + 1) ls rest)) : W p l e R s m args below meth c H locs cells slots Q (F0 m pc ls (.int x :: .int i :: .ref (h 5) :: rest)) :=
  va_iast (f := S 4) hx hb hK hP hD hS 5 0 rfl rfl hin hdg (fun H1 locs1 hP1 hD1 hS1 => kk H1 locs1 hP1 hD1 hS1)
theorem wstM_5 {cc : ByteArray} {i x : Int32} (hx : p.tables.exec = Jvm.exec) (hb : c.code = cc) (hK : va_K D vwCl (bT cI cZ) s) (hP : va_P D vwCl (wBM h cI cZ S) H) (hD : va_D A0 (wBM h cI cZ S)) (hS : va_S A0 H0 H locs) (hin : vp_in i 80) (hdg : decode cc pc = .ok (.iastore, 1))
    (kk : ∀ (H1 : Heap) (locs1 : List Loc), va_P D vwCl (wBM h cI cZ (upS 5 i.toNatClampNeg x S)) H1 → va_D A0 (wBM h cI cZ (upS 5 i.toNatClampNeg x S)) → va_S A0 H0 H1 locs1 → W p l e R s m args below meth c H1 locs1 cells slots Q (F0 m (pc + 1) ls rest)) : W p l e R s m args below meth c H locs cells slots Q (F0 m pc ls (.int x :: .int i :: .ref (h 6) :: rest)) :=
  va_iast (f := S 5) hx hb hK hP hD hS 6 0 rfl rfl hin hdg (fun H1 locs1 hP1 hD1 hS1 => kk H1 locs1 hP1 hD1 hS1)
theorem wstM_6 {cc : ByteArray} {i x : Int32} (hx : p.tables.exec = Jvm.exec) (hb : c.code = cc) (hK : va_K D vwCl (bT cI cZ) s) (hP : va_P D vwCl (wBM h cI cZ S) H) (hD : va_D A0 (wBM h cI cZ S)) (hS : va_S A0 H0 H locs) (hin : vp_in i 80) (hdg : decode cc pc = .ok (.iastore, 1))
    (kk : ∀ (H1 : Heap) (locs1 : List Loc), va_P D vwCl (wBM h cI cZ (upS 6 i.toNatClampNeg x S)) H1 → va_D A0 (wBM h cI cZ (upS 6 i.toNatClampNeg x S)) → va_S A0 H0 H1 locs1 → W p l e R s m args below meth c H1 locs1 cells slots Q (F0 m (pc + 1) ls rest)) : W p l e R s m args below meth c H locs cells slots Q (F0 m pc ls (.int x :: .int i :: .ref (h 7) :: rest)) :=
  va_iast (f := S 6) hx hb hK hP hD hS 7 0 rfl rfl hin hdg (fun H1 locs1 hP1 hD1 hS1 => kk H1 locs1 hP1 hD1 hS1)
theorem wstM_7 {cc : ByteArray} {i x : Int32} (hx : p.tables.exec = Jvm.exec) (hb : c.code = cc) (hK : va_K D vwCl (bT cI cZ) s) (hP : va_P D vwCl (wBM h cI cZ S) H) (hD : va_D A0 (wBM h cI cZ S)) (hS : va_S A0 H0 H locs) (hin : vp_in i 80) (hdg : decode cc pc = .ok (.iastore, 1))
    (kk : ∀ (H1 : Heap) (locs1 : List Loc), va_P D vwCl (wBM h cI cZ (upS 7 i.toNatClampNeg x S)) H1 → va_D A0 (wBM h cI cZ (upS 7 i.toNatClampNeg x S)) → va_S A0 H0 H1 locs1 → W p l e R s m args below meth c H1 locs1 cells slots Q (F0 m (pc + 1) ls rest)) : W p l e R s m args below meth c H locs cells slots Q (F0 m pc ls (.int x :: .int i :: .ref (h 8) :: rest)) :=
  va_iast (f := S 7) hx hb hK hP hD hS 8 0 rfl rfl hin hdg (fun H1 locs1 hP1 hD1 hS1 => kk H1 locs1 hP1 hD1 hS1)
theorem wstM_8 {cc : ByteArray} {i x : Int32} (hx : p.tables.exec = Jvm.exec) (hb : c.code = cc) (hK : va_K D vwCl (bT cI cZ) s) (hP : va_P D vwCl (wBM h cI cZ S) H) (hD : va_D A0 (wBM h cI cZ S)) (hS : va_S A0 H0 H locs) (hin : vp_in i 80) (hdg : decode cc pc = .ok (.iastore, 1))
    (kk : ∀ (H1 : Heap) (locs1 : List Loc), va_P D vwCl (wBM h cI cZ (upS 8 i.toNatClampNeg x S)) H1 → va_D A0 (wBM h cI cZ (upS 8 i.toNatClampNeg x S)) → va_S A0 H0 H1 locs1 → W p l e R s m args below meth c H1 locs1 cells slots Q (F0 m (pc + 1) ls rest)) : W p l e R s m args below meth c H locs cells slots Q (F0 m pc ls (.int x :: .int i :: .ref (h 9) :: rest)) :=
  va_iast (f := S 8) hx hb hK hP hD hS 9 0 rfl rfl hin hdg (fun H1 locs1 hP1 hD1 hS1 => kk H1 locs1 hP1 hD1 hS1)
theorem wstM_9 {cc : ByteArray} {i x : Int32} (hx : p.tables.exec = Jvm.exec) (hb : c.code = cc) (hK : va_K D vwCl (bT cI cZ) s) (hP : va_P D vwCl (wBM h cI cZ S) H) (hD : va_D A0 (wBM h cI cZ S)) (hS : va_S A0 H0 H locs) (hin : vp_in i 80) (hn : vp_nar .boolean x = x) (hdg : decode cc pc = .ok (.bastore, 1))
    (kk : ∀ (H1 : Heap) (locs1 : List Loc), va_P D vwCl (wBM h cI cZ (upS 9 i.toNatClampNeg x S)) H1 → va_D A0 (wBM h cI cZ (upS 9 i.toNatClampNeg x S)) → va_S A0 H0 H1 locs1 → W p l e R s m args below meth c H1 locs1 cells slots Q (F0 m (pc + 1) ls rest)) : W p l e R s m args below meth c H locs cells slots Q (F0 m pc ls (.int x :: .int i :: .ref (h 10) :: rest)) := by
  refine va_zast (f := S 9) hx hb hK hP hD hS 10 1 rfl rfl hin hdg (fun H1 locs1 hP1 hD1 hS1 => ?_)
  rw [hn] at hP1 hD1
  exact kk H1 locs1 hP1 hD1 hS1
theorem wstM_10 {cc : ByteArray} {i x : Int32} (hx : p.tables.exec = Jvm.exec) (hb : c.code = cc) (hK : va_K D vwCl (bT cI cZ) s) (hP : va_P D vwCl (wBM h cI cZ S) H) (hD : va_D A0 (wBM h cI cZ S)) (hS : va_S A0 H0 H locs) (hin : vp_in i 120) (hdg : decode cc pc = .ok (.iastore, 1))
    (kk : ∀ (H1 : Heap) (locs1 : List Loc), va_P D vwCl (wBM h cI cZ (upS 10 i.toNatClampNeg x S)) H1 → va_D A0 (wBM h cI cZ (upS 10 i.toNatClampNeg x S)) → va_S A0 H0 H1 locs1 → W p l e R s m args below meth c H1 locs1 cells slots Q (F0 m (pc + 1) ls rest)) : W p l e R s m args below meth c H locs cells slots Q (F0 m pc ls (.int x :: .int i :: .ref (h 11) :: rest)) :=
  va_iast (f := S 10) hx hb hK hP hD hS 11 0 rfl rfl hin hdg (fun H1 locs1 hP1 hD1 hS1 => kk H1 locs1 hP1 hD1 hS1)
theorem wstM_11 {cc : ByteArray} {i x : Int32} (hx : p.tables.exec = Jvm.exec) (hb : c.code = cc) (hK : va_K D vwCl (bT cI cZ) s) (hP : va_P D vwCl (wBM h cI cZ S) H) (hD : va_D A0 (wBM h cI cZ S)) (hS : va_S A0 H0 H locs) (hin : vp_in i 120) (hdg : decode cc pc = .ok (.iastore, 1))
    (kk : ∀ (H1 : Heap) (locs1 : List Loc), va_P D vwCl (wBM h cI cZ (upS 11 i.toNatClampNeg x S)) H1 → va_D A0 (wBM h cI cZ (upS 11 i.toNatClampNeg x S)) → va_S A0 H0 H1 locs1 → W p l e R s m args below meth c H1 locs1 cells slots Q (F0 m (pc + 1) ls rest)) : W p l e R s m args below meth c H locs cells slots Q (F0 m pc ls (.int x :: .int i :: .ref (h 12) :: rest)) :=
  va_iast (f := S 11) hx hb hK hP hD hS 12 0 rfl rfl hin hdg (fun H1 locs1 hP1 hD1 hS1 => kk H1 locs1 hP1 hD1 hS1)
theorem wstM_12 {cc : ByteArray} {i x : Int32} (hx : p.tables.exec = Jvm.exec) (hb : c.code = cc) (hK : va_K D vwCl (bT cI cZ) s) (hP : va_P D vwCl (wBM h cI cZ S) H) (hD : va_D A0 (wBM h cI cZ S)) (hS : va_S A0 H0 H locs) (hin : vp_in i 120) (hn : vp_nar .boolean x = x) (hdg : decode cc pc = .ok (.bastore, 1))
    (kk : ∀ (H1 : Heap) (locs1 : List Loc), va_P D vwCl (wBM h cI cZ (upS 12 i.toNatClampNeg x S)) H1 → va_D A0 (wBM h cI cZ (upS 12 i.toNatClampNeg x S)) → va_S A0 H0 H1 locs1 → W p l e R s m args below meth c H1 locs1 cells slots Q (F0 m (pc + 1) ls rest)) : W p l e R s m args below meth c H locs cells slots Q (F0 m pc ls (.int x :: .int i :: .ref (h 13) :: rest)) := by
  refine va_zast (f := S 12) hx hb hK hP hD hS 13 1 rfl rfl hin hdg (fun H1 locs1 hP1 hD1 hS1 => ?_)
  rw [hn] at hP1 hD1
  exact kk H1 locs1 hP1 hD1 hS1
theorem wstM_13 {cc : ByteArray} {i x : Int32} (hx : p.tables.exec = Jvm.exec) (hb : c.code = cc) (hK : va_K D vwCl (bT cI cZ) s) (hP : va_P D vwCl (wBM h cI cZ S) H) (hD : va_D A0 (wBM h cI cZ S)) (hS : va_S A0 H0 H locs) (hin : vp_in i 5000) (hdg : decode cc pc = .ok (.iastore, 1))
    (kk : ∀ (H1 : Heap) (locs1 : List Loc), va_P D vwCl (wBM h cI cZ (upS 13 i.toNatClampNeg x S)) H1 → va_D A0 (wBM h cI cZ (upS 13 i.toNatClampNeg x S)) → va_S A0 H0 H1 locs1 → W p l e R s m args below meth c H1 locs1 cells slots Q (F0 m (pc + 1) ls rest)) : W p l e R s m args below meth c H locs cells slots Q (F0 m pc ls (.int x :: .int i :: .ref (h 14) :: rest)) :=
  va_iast (f := S 13) hx hb hK hP hD hS 14 0 rfl rfl hin hdg (fun H1 locs1 hP1 hD1 hS1 => kk H1 locs1 hP1 hD1 hS1)
theorem wstM_14 {cc : ByteArray} {i x : Int32} (hx : p.tables.exec = Jvm.exec) (hb : c.code = cc) (hK : va_K D vwCl (bT cI cZ) s) (hP : va_P D vwCl (wBM h cI cZ S) H) (hD : va_D A0 (wBM h cI cZ S)) (hS : va_S A0 H0 H locs) (hin : vp_in i 5000) (hdg : decode cc pc = .ok (.iastore, 1))
    (kk : ∀ (H1 : Heap) (locs1 : List Loc), va_P D vwCl (wBM h cI cZ (upS 14 i.toNatClampNeg x S)) H1 → va_D A0 (wBM h cI cZ (upS 14 i.toNatClampNeg x S)) → va_S A0 H0 H1 locs1 → W p l e R s m args below meth c H1 locs1 cells slots Q (F0 m (pc + 1) ls rest)) : W p l e R s m args below meth c H locs cells slots Q (F0 m pc ls (.int x :: .int i :: .ref (h 15) :: rest)) :=
  va_iast (f := S 14) hx hb hK hP hD hS 15 0 rfl rfl hin hdg (fun H1 locs1 hP1 hD1 hS1 => kk H1 locs1 hP1 hD1 hS1)
theorem wstM_15 {cc : ByteArray} {i x : Int32} (hx : p.tables.exec = Jvm.exec) (hb : c.code = cc) (hK : va_K D vwCl (bT cI cZ) s) (hP : va_P D vwCl (wBM h cI cZ S) H) (hD : va_D A0 (wBM h cI cZ S)) (hS : va_S A0 H0 H locs) (hin : vp_in i 5000) (hdg : decode cc pc = .ok (.iastore, 1))
    (kk : ∀ (H1 : Heap) (locs1 : List Loc), va_P D vwCl (wBM h cI cZ (upS 15 i.toNatClampNeg x S)) H1 → va_D A0 (wBM h cI cZ (upS 15 i.toNatClampNeg x S)) → va_S A0 H0 H1 locs1 → W p l e R s m args below meth c H1 locs1 cells slots Q (F0 m (pc + 1) ls rest)) : W p l e R s m args below meth c H locs cells slots Q (F0 m pc ls (.int x :: .int i :: .ref (h 16) :: rest)) :=
  va_iast (f := S 15) hx hb hK hP hD hS 16 0 rfl rfl hin hdg (fun H1 locs1 hP1 hD1 hS1 => kk H1 locs1 hP1 hD1 hS1)
theorem wstM_16 {cc : ByteArray} {i x : Int32} (hx : p.tables.exec = Jvm.exec) (hb : c.code = cc) (hK : va_K D vwCl (bT cI cZ) s) (hP : va_P D vwCl (wBM h cI cZ S) H) (hD : va_D A0 (wBM h cI cZ S)) (hS : va_S A0 H0 H locs) (hin : vp_in i 5000) (hdg : decode cc pc = .ok (.iastore, 1))
    (kk : ∀ (H1 : Heap) (locs1 : List Loc), va_P D vwCl (wBM h cI cZ (upS 16 i.toNatClampNeg x S)) H1 → va_D A0 (wBM h cI cZ (upS 16 i.toNatClampNeg x S)) → va_S A0 H0 H1 locs1 → W p l e R s m args below meth c H1 locs1 cells slots Q (F0 m (pc + 1) ls rest)) : W p l e R s m args below meth c H locs cells slots Q (F0 m pc ls (.int x :: .int i :: .ref (h 17) :: rest)) :=
  va_iast (f := S 16) hx hb hK hP hD hS 17 0 rfl rfl hin hdg (fun H1 locs1 hP1 hD1 hS1 => kk H1 locs1 hP1 hD1 hS1)
theorem wstM_17 {cc : ByteArray} {i x : Int32} (hx : p.tables.exec = Jvm.exec) (hb : c.code = cc) (hK : va_K D vwCl (bT cI cZ) s) (hP : va_P D vwCl (wBM h cI cZ S) H) (hD : va_D A0 (wBM h cI cZ S)) (hS : va_S A0 H0 H locs) (hin : vp_in i 5000) (hdg : decode cc pc = .ok (.iastore, 1))
    (kk : ∀ (H1 : Heap) (locs1 : List Loc), va_P D vwCl (wBM h cI cZ (upS 17 i.toNatClampNeg x S)) H1 → va_D A0 (wBM h cI cZ (upS 17 i.toNatClampNeg x S)) → va_S A0 H0 H1 locs1 → W p l e R s m args below meth c H1 locs1 cells slots Q (F0 m (pc + 1) ls rest)) : W p l e R s m args below meth c H locs cells slots Q (F0 m pc ls (.int x :: .int i :: .ref (h 18) :: rest)) :=
  va_iast (f := S 17) hx hb hK hP hD hS 18 0 rfl rfl hin hdg (fun H1 locs1 hP1 hD1 hS1 => kk H1 locs1 hP1 hD1 hS1)
theorem wstM_18 {cc : ByteArray} {i x : Int32} (hx : p.tables.exec = Jvm.exec) (hb : c.code = cc) (hK : va_K D vwCl (bT cI cZ) s) (hP : va_P D vwCl (wBM h cI cZ S) H) (hD : va_D A0 (wBM h cI cZ S)) (hS : va_S A0 H0 H locs) (hin : vp_in i 5000) (hn : vp_nar .boolean x = x) (hdg : decode cc pc = .ok (.bastore, 1))
    (kk : ∀ (H1 : Heap) (locs1 : List Loc), va_P D vwCl (wBM h cI cZ (upS 18 i.toNatClampNeg x S)) H1 → va_D A0 (wBM h cI cZ (upS 18 i.toNatClampNeg x S)) → va_S A0 H0 H1 locs1 → W p l e R s m args below meth c H1 locs1 cells slots Q (F0 m (pc + 1) ls rest)) : W p l e R s m args below meth c H locs cells slots Q (F0 m pc ls (.int x :: .int i :: .ref (h 19) :: rest)) := by
  refine va_zast (f := S 18) hx hb hK hP hD hS 19 1 rfl rfl hin hdg (fun H1 locs1 hP1 hD1 hS1 => ?_)
  rw [hn] at hP1 hD1
  exact kk H1 locs1 hP1 hD1 hS1
theorem wpfM_19 {cc : ByteArray} {x : Int32} {index : Nat} (hx : p.tables.exec = Jvm.exec) (hb : c.code = cc) (hB : ∀ w ∈ BW, w.before args s = true) (hown : s.vm.findClass RX6 = some m.cls) (hK : va_K D vwCl (bT cI cZ) s) (hP : va_P D vwCl (wBM h cI cZ S) H) (hD : va_D A0 (wBM h cI cZ S)) (hS : va_S A0 H0 H locs) (hlink : (Cond.fieldLink RX6 index RX6 "day" "I").before args s = true) (hdg : decode cc pc = .ok (.putfield index, 3))
    (kk : ∀ (H1 : Heap) (locs1 : List Loc), va_P D vwCl (wBM h cI cZ (upS 19 0 x S)) H1 → va_D A0 (wBM h cI cZ (upS 19 0 x S)) → va_S A0 H0 H1 locs1 → W p l e R s m args below meth c H1 locs1 cells slots Q (F0 m (pc + 3) ls rest)) : W p l e R s m args below meth c H locs cells slots Q (F0 m pc ls (.int x :: .ref (h 0) :: rest)) :=
  va_put (D := D) (ci := 6) (v := .int x) (ty := .int) (C := RX6) (T := TX6) (N := 25) hx hb hB inX6 tyX6 tyX6_ok nmX6 hown hK hP hD hS 0 rfl rfl 0 (by decide) hlink (fun _ h9 => h9) rfl (by decide +kernel) rfl rfl (Nat.le_of_ble_eq_true rfl) hdg (fun H1 locs1 hP1 hD1 hS1 => kk H1 locs1 hP1 hD1 hS1)
theorem wpfM_20 {cc : ByteArray} {x : Int32} {index : Nat} (hx : p.tables.exec = Jvm.exec) (hb : c.code = cc) (hB : ∀ w ∈ BW, w.before args s = true) (hown : s.vm.findClass RX6 = some m.cls) (hK : va_K D vwCl (bT cI cZ) s) (hP : va_P D vwCl (wBM h cI cZ S) H) (hD : va_D A0 (wBM h cI cZ S)) (hS : va_S A0 H0 H locs) (hlink : (Cond.fieldLink RX6 index RX6 "places" "I").before args s = true) (hdg : decode cc pc = .ok (.putfield index, 3))
    (kk : ∀ (H1 : Heap) (locs1 : List Loc), va_P D vwCl (wBM h cI cZ (upS 20 0 x S)) H1 → va_D A0 (wBM h cI cZ (upS 20 0 x S)) → va_S A0 H0 H1 locs1 → W p l e R s m args below meth c H1 locs1 cells slots Q (F0 m (pc + 3) ls rest)) : W p l e R s m args below meth c H locs cells slots Q (F0 m pc ls (.int x :: .ref (h 0) :: rest)) :=
  va_put (D := D) (ci := 6) (v := .int x) (ty := .int) (C := RX6) (T := TX6) (N := 25) hx hb hB inX6 tyX6 tyX6_ok nmX6 hown hK hP hD hS 0 rfl rfl 1 (by decide) hlink (fun _ h9 => h9) rfl (by decide +kernel) rfl rfl (Nat.le_of_ble_eq_true rfl) hdg (fun H1 locs1 hP1 hD1 hS1 => kk H1 locs1 hP1 hD1 hS1)
theorem wpfM_21 {cc : ByteArray} {x : Int32} {index : Nat} (hx : p.tables.exec = Jvm.exec) (hb : c.code = cc) (hB : ∀ w ∈ BW, w.before args s = true) (hown : s.vm.findClass RX6 = some m.cls) (hK : va_K D vwCl (bT cI cZ) s) (hP : va_P D vwCl (wBM h cI cZ S) H) (hD : va_D A0 (wBM h cI cZ S)) (hS : va_S A0 H0 H locs) (hlink : (Cond.fieldLink RX6 index RX6 "streets" "I").before args s = true) (hdg : decode cc pc = .ok (.putfield index, 3))
    (kk : ∀ (H1 : Heap) (locs1 : List Loc), va_P D vwCl (wBM h cI cZ (upS 21 0 x S)) H1 → va_D A0 (wBM h cI cZ (upS 21 0 x S)) → va_S A0 H0 H1 locs1 → W p l e R s m args below meth c H1 locs1 cells slots Q (F0 m (pc + 3) ls rest)) : W p l e R s m args below meth c H locs cells slots Q (F0 m pc ls (.int x :: .ref (h 0) :: rest)) :=
  va_put (D := D) (ci := 6) (v := .int x) (ty := .int) (C := RX6) (T := TX6) (N := 25) hx hb hB inX6 tyX6 tyX6_ok nmX6 hown hK hP hD hS 0 rfl rfl 3 (by decide) hlink (fun _ h9 => h9) rfl (by decide +kernel) rfl rfl (Nat.le_of_ble_eq_true rfl) hdg (fun H1 locs1 hP1 hD1 hS1 => kk H1 locs1 hP1 hD1 hS1)
theorem wpfM_22 {cc : ByteArray} {x : Int32} {index : Nat} (hx : p.tables.exec = Jvm.exec) (hb : c.code = cc) (hB : ∀ w ∈ BW, w.before args s = true) (hown : s.vm.findClass RX6 = some m.cls) (hK : va_K D vwCl (bT cI cZ) s) (hP : va_P D vwCl (wBM h cI cZ S) H) (hD : va_D A0 (wBM h cI cZ S)) (hS : va_S A0 H0 H locs) (hlink : (Cond.fieldLink RX6 index RX6 "ranges" "I").before args s = true) (hdg : decode cc pc = .ok (.putfield index, 3))
    (kk : ∀ (H1 : Heap) (locs1 : List Loc), va_P D vwCl (wBM h cI cZ (upS 22 0 x S)) H1 → va_D A0 (wBM h cI cZ (upS 22 0 x S)) → va_S A0 H0 H1 locs1 → W p l e R s m args below meth c H1 locs1 cells slots Q (F0 m (pc + 3) ls rest)) : W p l e R s m args below meth c H locs cells slots Q (F0 m pc ls (.int x :: .ref (h 0) :: rest)) :=
  va_put (D := D) (ci := 6) (v := .int x) (ty := .int) (C := RX6) (T := TX6) (N := 25) hx hb hB inX6 tyX6 tyX6_ok nmX6 hown hK hP hD hS 0 rfl rfl 8 (by decide) hlink (fun _ h9 => h9) rfl (by decide +kernel) rfl rfl (Nat.le_of_ble_eq_true rfl) hdg (fun H1 locs1 hP1 hD1 hS1 => kk H1 locs1 hP1 hD1 hS1)
theorem wpfM_23 {cc : ByteArray} {x : Int32} {index : Nat} (hx : p.tables.exec = Jvm.exec) (hb : c.code = cc) (hB : ∀ w ∈ BW, w.before args s = true) (hown : s.vm.findClass RX6 = some m.cls) (hK : va_K D vwCl (bT cI cZ) s) (hP : va_P D vwCl (wBM h cI cZ S) H) (hD : va_D A0 (wBM h cI cZ S)) (hS : va_S A0 H0 H locs) (hlink : (Cond.fieldLink RX6 index RX6 "points" "I").before args s = true) (hdg : decode cc pc = .ok (.putfield index, 3))
    (kk : ∀ (H1 : Heap) (locs1 : List Loc), va_P D vwCl (wBM h cI cZ (upS 23 0 x S)) H1 → va_D A0 (wBM h cI cZ (upS 23 0 x S)) → va_S A0 H0 H1 locs1 → W p l e R s m args below meth c H1 locs1 cells slots Q (F0 m (pc + 3) ls rest)) : W p l e R s m args below meth c H locs cells slots Q (F0 m pc ls (.int x :: .ref (h 0) :: rest)) :=
  va_put (D := D) (ci := 6) (v := .int x) (ty := .int) (C := RX6) (T := TX6) (N := 25) hx hb hB inX6 tyX6 tyX6_ok nmX6 hown hK hP hD hS 0 rfl rfl 14 (by decide) hlink (fun _ h9 => h9) rfl (by decide +kernel) rfl rfl (Nat.le_of_ble_eq_true rfl) hdg (fun H1 locs1 hP1 hD1 hS1 => kk H1 locs1 hP1 hD1 hS1)
theorem wpfM_24 {cc : ByteArray} {x : Int32} {index : Nat} (hx : p.tables.exec = Jvm.exec) (hb : c.code = cc) (hB : ∀ w ∈ BW, w.before args s = true) (hown : s.vm.findClass RX6 = some m.cls) (hK : va_K D vwCl (bT cI cZ) s) (hP : va_P D vwCl (wBM h cI cZ S) H) (hD : va_D A0 (wBM h cI cZ S)) (hS : va_S A0 H0 H locs) (hlink : (Cond.fieldLink RX6 index RX6 "stays" "I").before args s = true) (hdg : decode cc pc = .ok (.putfield index, 3))
    (kk : ∀ (H1 : Heap) (locs1 : List Loc), va_P D vwCl (wBM h cI cZ (upS 24 0 x S)) H1 → va_D A0 (wBM h cI cZ (upS 24 0 x S)) → va_S A0 H0 H1 locs1 → W p l e R s m args below meth c H1 locs1 cells slots Q (F0 m (pc + 3) ls rest)) : W p l e R s m args below meth c H locs cells slots Q (F0 m pc ls (.int x :: .ref (h 0) :: rest)) :=
  va_put (D := D) (ci := 6) (v := .int x) (ty := .int) (C := RX6) (T := TX6) (N := 25) hx hb hB inX6 tyX6 tyX6_ok nmX6 hown hK hP hD hS 0 rfl rfl 18 (by decide) hlink (fun _ h9 => h9) rfl (by decide +kernel) rfl rfl (Nat.le_of_ble_eq_true rfl) hdg (fun H1 locs1 hP1 hD1 hS1 => kk H1 locs1 hP1 hD1 hS1)
end BKM
theorem vn01 {x : Int32} (h : 0 ≤ x.toInt ∧ x.toInt ≤ 1) : vp_nar .boolean x = x := by
  rcases i32_01 h with e | e <;> (rw [e]; first | rfl | decide)
theorem cl_int {x : Int32} (h : 0 ≤ x.toInt) : (x.toNatClampNeg : Int) = x.toInt := Int.toNat_of_nonneg h
theorem i32_dec {x : Int32} (h : 0 ≤ x.toInt) (h1 : x.toInt < 100000) : (x + (-1)).toInt = x.toInt - 1 := by
  rw [i32_add (x := x) (y := -1) (by rw [show ((-1) : Int32).toInt = -1 from by decide]; omega) (by rw [show ((-1) : Int32).toInt = -1 from by decide]; omega), show ((-1) : Int32).toInt = -1 from by decide]
  omega
theorem cl_inc {x : Int32} (h : 0 ≤ x.toInt) (h1 : x.toInt < 100000) : (x + 1).toNatClampNeg = x.toNatClampNeg + 1 := by
  have a := cl_int h
  have b := i32_inc h h1
  have c := cl_int (x := x + 1) (by omega)
  omega
/-- the point has a stay -/
def HSM (S : BS) (p : Int32) : Prop := ∃ j : Nat, (j : Int) < (S 24 0).toInt ∧ S 13 j = p
def ASM (S : BS) : Prop := ∀ p : Int32, 0 ≤ p.toInt → p.toInt < (S 23 0).toInt → HSM S p
/-- streets go into others without end of the way -/
def WFM (S : BS) : Prop := ∃ rk : Nat → Nat, (∀ j, rk j < 600) ∧ ∀ j : Nat, (j : Int) < (S 21 0).toInt → 0 ≤ (S 3 j).toInt → (S 3 j).toInt < (S 21 0).toInt ∧ rk (S 3 j).toNatClampNeg < rk j
def SSM (S : BS) : Prop := ∀ j : Nat, (j : Int) < (S 24 0).toInt → (S 14 j).toInt < (S 21 0).toInt
/-- how many places below n have a number of a kind -/
def cn (f : Nat → Int32) (q : Int32 → Bool) : Nat → Nat
  | 0 => 0
  | n + 1 => cn f q n + cond (q (f n)) 1 0
theorem cn_le (f : Nat → Int32) (q : Int32 → Bool) (n : Nat) : cn f q n ≤ cn f q (n + 1) := Nat.le_add_right _ _
theorem cn_len (f : Nat → Int32) (q : Int32 → Bool) : ∀ n, cn f q n ≤ n
  | 0 => Nat.le_refl 0
  | n + 1 => by
    have h := cn_len f q n
    rw [cn]
    cases q (f n) <;> simp <;> omega
theorem cn_mono (f : Nat → Int32) (q r : Int32 → Bool) (h : ∀ x, q x = true → r x = true) : ∀ n, cn f q n ≤ cn f r n
  | 0 => Nat.le_refl 0
  | n + 1 => by
    have h1 := cn_mono f q r h n
    rw [cn, cn]
    cases e : q (f n)
    · cases r (f n) <;> simp <;> omega
    · rw [h _ e]; simp; omega
theorem cn_ext (f : Nat → Int32) (q : Int32 → Bool) {i n : Nat} (h : i ≤ n) : cn f q i ≤ cn f q n := by
  induction n with
  | zero => rw [Nat.le_zero.mp h]; exact Nat.le_refl _
  | succ n ih =>
    rcases Nat.lt_or_ge n i with q1 | q1
    · rw [show i = n + 1 by omega]; exact Nat.le_refl _
    · exact Nat.le_trans (ih q1) (cn_le f q n)
theorem cn_up (f : Nat → Int32) (r : Int) (n : Nat) : cn f (fun x => decide (x.toInt < r)) n ≤ cn f (fun x => decide (x.toInt < r + 1)) n := cn_mono f _ _ (fun x hx => by simp only [decide_eq_true_eq] at hx ⊢; omega) n
theorem cn_two (f : Nat → Int32) (r : Int) : ∀ n, cn f (fun x => decide (x.toInt < r)) n + cn f (fun x => decide (x.toInt = r)) n = cn f (fun x => decide (x.toInt < r + 1)) n
  | 0 => rfl
  | n + 1 => by
    have h := cn_two f r n
    rw [cn, cn, cn]
    rcases Int.lt_trichotomy (f n).toInt r with q | q | q
    · simp [show (f n).toInt < r from q, show ¬ (f n).toInt = r by omega, show (f n).toInt < r + 1 by omega]; omega
    · simp [show ¬ (f n).toInt < r by omega, q, show r < r + 1 by omega]; omega
    · simp [show ¬ (f n).toInt < r by omega, show ¬ (f n).toInt = r by omega, show ¬ (f n).toInt < r + 1 by omega]; omega
theorem cn_next (f : Nat → Int32) (r : Int) (i : Nat) (hi : i ≤ 120) : cn f (fun x => decide (x.toInt < r)) 120 + cn f (fun x => decide (x.toInt = r)) i ≤ cn f (fun x => decide (x.toInt < r + 1)) 120 := by
  have a := cn_ext f (fun x => decide (x.toInt = r)) hi
  have b := cn_two f r 120
  omega
theorem cn_room (f : Nat → Int32) (r : Int32) (i : Nat) (hi : i < 120) (h : f i = r) : cn f (fun x => decide (x.toInt < r.toInt)) 120 + cn f (fun x => decide (x.toInt = r.toInt)) i + 1 ≤ 120 ∧ cn f (fun x => decide (x.toInt = r.toInt)) (i + 1) = cn f (fun x => decide (x.toInt = r.toInt)) i + 1 := by
  have e : cn f (fun x => decide (x.toInt = r.toInt)) (i + 1) = cn f (fun x => decide (x.toInt = r.toInt)) i + 1 := by
    rw [cn, h]; simp
  have a := cn_next f r.toInt (i + 1) (by omega)
  have b := cn_len f (fun x => decide (x.toInt < r.toInt + 1)) 120
  omega
