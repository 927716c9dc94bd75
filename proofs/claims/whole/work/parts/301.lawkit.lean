/-! THE CLAIM OUT OF ONE WALK OF THE LAW'S BODY. Your part is whole_start (and what it stands on); all else here is the same for every law, but numbers. -/
def R_law : String := "AddressBookLaw"
def lw_P (b : Addr) (xs : List Int32) (args : Array Value) (s : State) : Prop := args = #[.ref b] ∧ s.IntsAt b xs ∧ xs.length ≤ 3072 ∧ (Jvm.Cond.and given_1 narrow_1).before args s = true
def lw_Q (_ : Array Value) (s : State) (o : Outcome) (t : State) : Prop := o = .returned (some (.int 1)) ∧ Framed s o t [] 48 35698
def lw_Z (below : List Frame) (a : Array Value) (s : State) : State → Prop := fun t => ∃ o, t.status = .running ∧ Ended t below o ∧ lw_Q a s o t
/-- the law's own end, with 1 on the stack, nothing written that was there before, its room as the claim has it -/
theorem lw_ret {p : Program} {l : Launch} {e : Env} {s : State} {m : MethodId} {below : List Frame} {meth : Method} {c : Code} {b : Nat} (hx : p.tables.exec = Jvm.exec) (hb : c.code = code) (hr : meth.sig.returnType = ret) (hlocks : meth.locks = false) {pc : Nat} {H : Heap} {ls : Array Slot} (hdg : decode code pc = .ok (.ireturn, 1)) : W p l e room_1 s m #[Value.ref b] below meth c H [] 48 35698 (lw_Z below #[Value.ref b] s) (F0 m pc ls [.int 1]) := by
  intro T hT X
  obtain ⟨fs, hret, hrun, hended, hW, hframe⟩ := X.leave (v := some (.int 1)) (hlocks := hlocks) (fun h => by rw [hr] at h; cases h)
  have hmeth' : T.vm.method? m = some meth := X.method'
  refine ⟨T.setFrames fs, ?_, .returned (some (.int 1)), hrun, hended, rfl, ⟨_, rfl⟩, hW, hframe⟩
  jvm_step X.here [X.here.top, hx, hb, hdg, hmeth', hr, ret, narrow_b1]
  (try refine ⟨rfl, ?_⟩); (try refine ⟨rfl, ?_⟩)
  first | (intro acts; rw [hret _ acts rfl rfl rfl]) | rw [hret _ _ rfl rfl rfl]
  exact Steps.refl _
/-- what holds at the law's entry: the machine, the code, the tables' words (any of lw_tbl by 'hts w (by decide +kernel)'), the script of L ints xs at the cell b, what the Statement gives of the start (any of its parts by flat_of_before) -/
def lw_At (p : Program) (s : State) (m : MethodId) (meth : Method) (c : Code) (b L : Nat) (xs : Nat → Int32) : Prop :=
  p.tables.exec = Jvm.exec ∧ c.code = code ∧ meth.sig.returnType = ret ∧ c.maxLocals = 4 ∧ s.vm.findClass R_law = some m.cls ∧ (∀ w ∈ lw_tbl, w.before #[Value.ref b] s = true) ∧ va_X b L xs s s.heap ∧ b < s.heap.size ∧ meth.locks = false ∧ (Jvm.Cond.and given_1 narrow_1).before #[Value.ref b] s = true

theorem nw_in : ∀ w ∈ nwL, w ∈ lw_tbl := by decide +kernel
theorem nw_tab (w : Cond) (hw : w ∈ nwL) : w.onTables = true := by
  have h2 := nwL_ok w hw
  cases w with
  | fieldLinkNest a i b n d h9 => rfl
  | methodLinkNest a i x h9 => rfl
  | _ => cases h2
/-- what the relation of both states must give -/
def OpsOK (RI : Nat → BS → BS → Prop) : Prop := ∀ (k : Nat) (S M : BS), k < 512 → RI k S M → (IV S ∧ IVM M ∧ ASM M ∧ WFM M ∧ SSM M ∧ (M 24 0).toInt ≤ 4880) ∧ RI (k + 1) S M ∧
  (∀ a1 a2 : Int32, (F_A_place S a1 a2).1 = (F_M_place M a1 a2).1 ∧ (IV ((F_A_place S a1 a2).2) → IVM ((F_M_place M a1 a2).2) → RI (k + 1) ((F_A_place S a1 a2).2) ((F_M_place M a1 a2).2))) ∧
  (∀ a1 a2 : Int32, (F_A_street S a1 a2).1 = (F_M_street M a1 a2).1 ∧ (IV ((F_A_street S a1 a2).2) → IVM ((F_M_street M a1 a2).2) → RI (k + 1) ((F_A_street S a1 a2).2) ((F_M_street M a1 a2).2))) ∧
  (∀ a1 a2 : Int32, f_A_find S a1 a2 = f_M_find M a1 a2 ∧ (IV (S) → IVM (M) → RI (k + 1) (S) (M))) ∧
  (∀ a1 a2 a3 a4 a5 : Int32, (F_A_range S a1 a2 a3 a4 a5).1 = (F_M_range M a1 a2 a3 a4 a5).1 ∧ (IV ((F_A_range S a1 a2 a3 a4 a5).2) → IVM ((F_M_range M a1 a2 a3 a4 a5).2) → RI (k + 1) ((F_A_range S a1 a2 a3 a4 a5).2) ((F_M_range M a1 a2 a3 a4 a5).2))) ∧
  (∀ a1 a2 a3 : Int32, (F_A_point S a1 a2 a3).1 = (F_M_point M a1 a2 a3).1 ∧ (IV ((F_A_point S a1 a2 a3).2) → IVM ((F_M_point M a1 a2 a3).2) → RI (k + 1) ((F_A_point S a1 a2 a3).2) ((F_M_point M a1 a2 a3).2))) ∧
  (∀ a1 a2 a3 a4 : Int32, (F_A_change S a1 a2 a3 a4).1 = (F_M_change M a1 a2 a3 a4).1 ∧ (IV ((F_A_change S a1 a2 a3 a4).2) → IVM ((F_M_change M a1 a2 a3 a4).2) → RI (k + 1) ((F_A_change S a1 a2 a3 a4).2) ((F_M_change M a1 a2 a3 a4).2))) ∧
  (∀ a1 a2 a3 : Int32, (F_A_alias S a1 a2 a3).1 = (F_M_alias M a1 a2 a3).1 ∧ (IV ((F_A_alias S a1 a2 a3).2) → IVM ((F_M_alias M a1 a2 a3).2) → RI (k + 1) ((F_A_alias S a1 a2 a3).2) ((F_M_alias M a1 a2 a3).2))) ∧
  (∀ a1 a2 a3 a4 : Int32, f_A_at S a1 a2 a3 a4 = f_M_at M a1 a2 a3 a4 ∧ (IV (S) → IVM (M) → RI (k + 1) (S) (M))) ∧
  (∀ a1 a2 : Int32, f_A_near S a1 a2 = f_M_near M a1 a2 ∧ (IV (S) → IVM (M) → RI (k + 1) (S) (M))) ∧
  (∀ a1 : Int32, f_A_order S a1 = f_M_order M a1 ∧ (IV (S) → IVM (M) → RI (k + 1) (S) (M))) ∧
  (∀ a1 : Int32, (F_A_holes S a1).1 = f_M_holes M a1 ∧ (IV ((F_A_holes S a1).2) → IVM (M) → RI (k + 1) ((F_A_holes S a1).2) (M))) ∧
  (∀ a1 a2 a3 : Int32, f_A_where S a1 a2 a3 = f_M_where M a1 a2 a3 ∧ (IV (S) → IVM (M) → RI (k + 1) (S) (M))) ∧
  (∀ a1 : Int32, f_A_count S a1 = f_M_count M a1 ∧ (IV (S) → IVM (M) → RI (k + 1) (S) (M)))
def LX (s : State) (h g : Nat → Nat) (cI cZ : ClassId) : Prop := (∀ i, i < 28 → s.heap.size ≤ h i) ∧ (∀ j, j < 20 → s.heap.size ≤ g j) ∧ (∀ i j, i < 28 → j < 20 → h i ≠ g j) ∧ va_D (fun _ => True) (wB h cI cZ (fun _ _ => 0)) ∧ va_D (fun _ => True) (wBM g cI cZ (fun _ _ => 0))
theorem wB_in {h : Nat → Nat} {cI cZ : ClassId} {S : BS} {k : Nat} {q : Nat × va_E} (hq : (wB h cI cZ S)[k]? = some q) : ∃ i, i < 28 ∧ q.1 = h i := by
  have h1 : q.1 ∈ (wB h cI cZ S).map (·.1) := List.mem_map.mpr ⟨q, List.mem_of_getElem? hq, rfl⟩
  rw [wB_addr] at h1
  obtain ⟨i, hi, e⟩ := List.mem_map.mp h1
  exact ⟨i, List.mem_range.mp hi, e.symm⟩
theorem wBM_in {h : Nat → Nat} {cI cZ : ClassId} {S : BS} {k : Nat} {q : Nat × va_E} (hq : (wBM h cI cZ S)[k]? = some q) : ∃ i, i < 20 ∧ q.1 = h i := by
  have h1 : q.1 ∈ (wBM h cI cZ S).map (·.1) := List.mem_map.mpr ⟨q, List.mem_of_getElem? hq, rfl⟩
  rw [wB_addrM] at h1
  obtain ⟨i, hi, e⟩ := List.mem_map.mp h1
  exact ⟨i, List.mem_range.mp hi, e.symm⟩
theorem LX.of {s : State} {h g : Nat → Nat} {cI cZ : ClassId} {S M : BS} (hD : va_D (fun q : Nat => s.heap.size ≤ q) (wB h cI cZ S ++ wBM g cI cZ M)) : LX s h g cI cZ := by
  have e1 : ∀ i, i < 28 → ∃ x, (wB h cI cZ S ++ wBM g cI cZ M)[i]? = some (h i, x) := by
    intro i hi
    have e : ((wB h cI cZ S).map (·.1))[i]? = some (h i) := by rw [wB_addr, List.getElem?_map, List.getElem?_range hi]; rfl
    rw [List.getElem?_map] at e
    cases q : (wB h cI cZ S)[i]? with
    | none => rw [q] at e; cases e
    | some y =>
      rw [q] at e
      refine ⟨y.2, ?_⟩
      rw [List.getElem?_append_left (by show i < 28; exact hi), q, ← Option.some.inj e]
  have e2 : ∀ j, j < 20 → ∃ x, (wB h cI cZ S ++ wBM g cI cZ M)[28 + j]? = some (g j, x) := by
    intro i hi
    have e : ((wBM g cI cZ M).map (·.1))[i]? = some (g i) := by rw [wB_addrM, List.getElem?_map, List.getElem?_range hi]; rfl
    rw [List.getElem?_map] at e
    cases q : (wBM g cI cZ M)[i]? with
    | none => rw [q] at e; cases e
    | some y =>
      rw [q] at e
      refine ⟨y.2, ?_⟩
      rw [List.getElem?_append_right (by show 28 ≤ 28 + i; omega), show 28 + i - (wB h cI cZ S).length = i by show 28 + i - 28 = i; omega, q, ← Option.some.inj e]
  refine ⟨fun i hi => ?_, fun j hj => ?_, fun i j hi hj e => ?_, ?_, ?_⟩
  · obtain ⟨x, hx⟩ := e1 i hi; exact hD.2 i _ hx
  · obtain ⟨x, hx⟩ := e2 j hj; exact hD.2 _ _ hx
  · obtain ⟨x, hx⟩ := e1 i hi
    obtain ⟨y, hy⟩ := e2 j hj
    have := hD.1 i (28 + j) _ _ hx hy e
    omega
  · refine wD (S := S) ⟨fun i j p q hi hj e => hD.1 i j p q ?_ ?_ e, fun _ _ _ => trivial⟩
    · rw [List.getElem?_append_left (List.getElem?_eq_some_iff.mp hi).1]; exact hi
    · rw [List.getElem?_append_left (List.getElem?_eq_some_iff.mp hj).1]; exact hj
  · refine wDM (S := M) ⟨fun i j p q hi hj e => ?_, fun _ _ _ => trivial⟩
    have := hD.1 ((wB h cI cZ S).length + i) ((wB h cI cZ S).length + j) p q (by rw [List.getElem?_append_right (Nat.le_add_right _ _), Nat.add_sub_cancel_left]; exact hi) (by rw [List.getElem?_append_right (Nat.le_add_right _ _), Nat.add_sub_cancel_left]; exact hj) e
    omega
section LWK
variable {p : Program} {l : Launch} {e : Env} {R : Room} {s : State} {m : MethodId} {args : Array Value} {below : List Frame} {meth : Method} {c : Code} {H : Heap} {locs : List Loc} {cells slots : Nat} {Q : State → Prop}
variable {pc : Nat} {ls : Array Slot} {rest st0 : List Value} {a : Array Value} {D : va_G} {cI cZ : ClassId} {h g : Nat → Nat} {S M : BS}
theorem lw_pu {r : Int32} {w1 w2 : va_W} (hr : va_Run p l e R s m args below meth c H locs cells slots 0 0 (F0 m pc ls st0) rest (PQ r a) (fun _ => False)) (hP : va_P D vwCl w1 H) (hP2 : va_P D vwCl w2 H) (hS : va_S (fun q : Nat => s.heap.size ≤ q) s.heap H locs)
    (kk : ∀ (H1 : Heap) (locs1 : List Loc), va_P D vwCl w1 H1 → va_P D vwCl w2 H1 → va_S (fun q : Nat => s.heap.size ≤ q) s.heap H1 locs1 → W p l e R s m args below meth c H1 locs1 cells slots Q (F0 m (pc + 3) ls (.int r :: rest))) : W p l e R s m args below meth c H locs cells slots Q (F0 m pc ls st0) := by
  refine va_calli (post := fun (x : Int32) (_ : Unit) => x = r) (B := fun _ _ => True) (A1 := fun _ => False) hr hS (fun q _ z => z.elim) (fun q z => z.elim) (fun r1 u t H1 locs1 ht hvm hw hB hz hk hS1 => ?_)
  subst hw
  exact kk H1 locs1 (hP.kept (fun k q hq => hk q.1 (hP k q hq).lt (fun z => z))) (hP2.kept (fun k q hq => hk q.1 (hP2 k q hq).lt (fun z => z))) hS1
theorem lw_wb {F : Int32 × BS} (hr : va_Run p l e R s m args below meth c H locs cells slots 0 0 (F0 m pc ls st0) rest (WQ D cI cZ h F a) (bA h)) (hX : LX s h g cI cZ) (hP2 : va_P D vwCl (wBM g cI cZ M) H) (hS : va_S (fun q : Nat => s.heap.size ≤ q) s.heap H locs)
    (kk : ∀ (H1 : Heap) (locs1 : List Loc), va_P D vwCl (wB h cI cZ F.2) H1 → va_P D vwCl (wBM g cI cZ M) H1 → IV F.2 → va_S (fun q : Nat => s.heap.size ≤ q) s.heap H1 locs1 → W p l e R s m args below meth c H1 locs1 cells slots Q (F0 m (pc + 3) ls (.int F.1 :: rest))) : W p l e R s m args below meth c H locs cells slots Q (F0 m pc ls st0) := by
  have hA : ∀ q, bA h q → s.heap.size ≤ q := fun q ⟨k, hk, e⟩ => by rw [e]; exact hX.1 k hk
  refine va_calli (post := fun (x : Int32) (S2 : BS) => (x, S2) = F ∧ IV S2) (B := fun S2 t => va_P D vwCl (wB h cI cZ S2) t.heap) (A1 := bA h) hr hS (fun q _ z => hA q z) hA (fun r1 u t H1 locs1 ht hvm hw hB hz hk hS1 => ?_)
  obtain ⟨hw, hI⟩ := hw
  subst hw
  rw [ht] at hB
  refine kk H1 locs1 hB (hP2.kept (fun k q hq => hk q.1 (hP2 k q hq).lt ?_)) hI hS1
  rintro ⟨i, hi, ei⟩
  obtain ⟨j, hj, ej⟩ := wBM_in hq
  exact hX.2.2.1 i j hi hj (ei.symm.trans ej)
theorem lw_wm {F : Int32 × BS} (hr : va_Run p l e R s m args below meth c H locs cells slots 0 0 (F0 m pc ls st0) rest (WQM D cI cZ g F a) (bAM g)) (hX : LX s h g cI cZ) (hP : va_P D vwCl (wB h cI cZ S) H) (hS : va_S (fun q : Nat => s.heap.size ≤ q) s.heap H locs)
    (kk : ∀ (H1 : Heap) (locs1 : List Loc), va_P D vwCl (wB h cI cZ S) H1 → va_P D vwCl (wBM g cI cZ F.2) H1 → IVM F.2 → va_S (fun q : Nat => s.heap.size ≤ q) s.heap H1 locs1 → W p l e R s m args below meth c H1 locs1 cells slots Q (F0 m (pc + 3) ls (.int F.1 :: rest))) : W p l e R s m args below meth c H locs cells slots Q (F0 m pc ls st0) := by
  have hA : ∀ q, bAM g q → s.heap.size ≤ q := fun q ⟨k, hk, e⟩ => by rw [e]; exact hX.2.1 k hk
  refine va_calli (post := fun (x : Int32) (S2 : BS) => (x, S2) = F ∧ IVM S2) (B := fun S2 t => va_P D vwCl (wBM g cI cZ S2) t.heap) (A1 := bAM g) hr hS (fun q _ z => hA q z) hA (fun r1 u t H1 locs1 ht hvm hw hB hz hk hS1 => ?_)
  obtain ⟨hw, hI⟩ := hw
  subst hw
  rw [ht] at hB
  refine kk H1 locs1 (hP.kept (fun k q hq => hk q.1 (hP k q hq).lt ?_)) hB hI hS1
  rintro ⟨j, hj, ej⟩
  obtain ⟨i, hi, ei⟩ := wB_in hq
  exact hX.2.2.1 i j hi hj (ei.symm.trans ej)
end LWK
theorem arr_K {D : va_G} {args : Array Value} {s : State} (h1 : (Cond.arrayClass .int).before args s = true) (h2 : (Cond.arrayClass .boolean).before args s = true) (hKc : ∀ (k : Nat) (q : vw_C), vwCl[k]? = some q → u_Kn s q.1 q.2.1 q.2.2 (D.1 k) (D.2 k)) : ∃ cI cZ : ClassId, va_K D vwCl (bT cI cZ) s := by
  obtain ⟨cI, kA, comp, hf, hk, hkind⟩ := Cond.arrayClass_spec h1
  obtain ⟨cZ, kA2, comp2, hf2, hk2, hkind2⟩ := Cond.arrayClass_spec h2
  refine ⟨cI, cZ, hKc, fun k q hq => ?_⟩
  match k, hq with
  | 0, hq => cases hq; exact ⟨fun n z => ⟨fun k h => (by cases h), kA, hk, comp, hkind⟩, hf⟩
  | 1, hq => cases hq; exact ⟨fun n z => ⟨fun k h => (by cases h), kA2, hk2, comp2, hkind2⟩, hf2⟩
  | k + 2, hq => simp at hq
