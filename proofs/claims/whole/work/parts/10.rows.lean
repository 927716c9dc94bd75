set_option maxHeartbeats 4000000 in
set_option maxRecDepth 100000 in
theorem m_P_has (l : Launch) (D : va_G) (h : Nat → Nat) (cI cZ : ClassId) (S : BS) (hI : IV S) (a1 : Int32) : PM l yX1_has wsX1_has { frames := 0, cells := 0, slots := 0, locals := 0 } D cI cZ h S [.ref (h 1), .int a1] (f_P_has S a1) := by
  refine Met.ofW (cc := cX1_has) (maxL := 2) (ret := (some .boolean)) (by decide) rfl ?_
  intro p e s m args below meth c s₁ B hml hv
  obtain ⟨rfl, hP, hK, hN⟩ := hv
  have hx := B.exec
  have hb := B.bytes
  have hr := B.returns
  have hts := atoms_spec (ws := wsX1_has) B.pre
  have hB : ∀ w ∈ BW, w.before _ s = true := fun w h => hts w (List.mem_cons_of_mem _ h)
  have hown : s.vm.findClass RX1 = some m.cls := findClass_of_methodNamed B.named
  have hlocks := B.notSynchronized
  have hS : va_S (fun _ => False) s.heap s.heap [] := va_S.rf
  have hl := lv_entry ([.ref (h 1), .int a1]) (n := 2) (Nat.le_of_ble_eq_true rfl)
  rw [lg_entry_eq]
  generalize (lg_sl ([.ref (h 1), .int a1]) ++ List.replicate (2 - (lg_sl ([.ref (h 1), .int a1])).length) Slot.unset).toArray = ls at hl ⊢
  have hl : lv_has ls 2 [(0, .ref (h 1)), (1, .int a1)] := hl
  refine lv_iload_n hx hb dX1_has_0 rfl (lv_at hl 1 rfl) ?_
  refine lv_if_lt (tgt := 16) hx hb dX1_has_1 (by decide) (fun c_1 => ?_) (fun c_1 => ?_)
  · skip
    have z_0 : ((0) : Int32).toInt = (0) := by decide
    have t_1 := Int32.lt_iff_toInt_lt.mp c_1
    refine lv_iconst (v := 0) hx hb dX1_has_16 (by decide) ?_
    exact W.zret (v := 0) hx hb hr (by decide) (fun t ht hW => ⟨⟨0, (), rfl, (by rw [f_P_has, if_pos c_1]), trivial⟩, hS.F ht⟩) hS.2.2 dX1_has_17
  · skip
    have z_0 : ((0) : Int32).toInt = (0) := by decide
    have t_1 := mt Int32.lt_iff_toInt_lt.mpr c_1
    refine lv_iload_n hx hb dX1_has_4 rfl (lv_at hl 1 rfl) ?_
    refine lv_aload_n hx hb dX1_has_5 rfl (lv_at hl 0 rfl) ?_
    refine va_get (D := D) (ci := 1) (v := .int (S 22 0)) (C := RX1) (T := TX1) (N := 2) hx hb hB inX1 hown hK hP 1 rfl rfl 1 (by decide) (hB _ k1_24) (fun _ h9 => h9) rfl dX1_has_6 ?_
    have b_2 : (0) ≤ (S 22 0).toInt ∧ (S 22 0).toInt ≤ 16 := iv_22 hI
    refine lv_icmp_ge (tgt := 16) hx hb dX1_has_9 (by decide) (fun c_3 => ?_) (fun c_3 => ?_)
    · skip
      have t_3 := Int32.le_iff_toInt_le.mp c_3
      refine lv_iconst (v := 0) hx hb dX1_has_16 (by decide) ?_
      exact W.zret (v := 0) hx hb hr (by decide) (fun t ht hW => ⟨⟨0, (), rfl, (by rw [f_P_has, if_neg c_1, if_pos c_3]), trivial⟩, hS.F ht⟩) hS.2.2 dX1_has_17
    · skip
      have t_3 := mt Int32.le_iff_toInt_le.mpr c_3
      refine lv_iconst (v := 1) hx hb dX1_has_12 (by decide) ?_
      refine lv_goto (tgt := 17) hx hb dX1_has_13 (by decide) ?_
      exact W.zret (v := 1) hx hb hr (by decide) (fun t ht hW => ⟨⟨1, (), rfl, (by rw [f_P_has, if_neg c_1, if_neg c_3]), trivial⟩, hS.F ht⟩) hS.2.2 dX1_has_17
set_option maxHeartbeats 4000000 in
set_option maxRecDepth 100000 in
theorem m_P_isFull (l : Launch) (D : va_G) (h : Nat → Nat) (cI cZ : ClassId) (S : BS) (hI : IV S) : PM l yX1_isFull wsX1_isFull { frames := 0, cells := 0, slots := 0, locals := 0 } D cI cZ h S [.ref (h 1)] (f_P_isFull S) := by
  refine Met.ofW (cc := cX1_isFull) (maxL := 1) (ret := (some .boolean)) (by decide) rfl ?_
  intro p e s m args below meth c s₁ B hml hv
  obtain ⟨rfl, hP, hK, hN⟩ := hv
  have hx := B.exec
  have hb := B.bytes
  have hr := B.returns
  have hts := atoms_spec (ws := wsX1_isFull) B.pre
  have hB : ∀ w ∈ BW, w.before _ s = true := fun w h => hts w (List.mem_cons_of_mem _ h)
  have hown : s.vm.findClass RX1 = some m.cls := findClass_of_methodNamed B.named
  have hlocks := B.notSynchronized
  have hS : va_S (fun _ => False) s.heap s.heap [] := va_S.rf
  have hl := lv_entry ([.ref (h 1)]) (n := 1) (Nat.le_of_ble_eq_true rfl)
  rw [lg_entry_eq]
  generalize (lg_sl ([.ref (h 1)]) ++ List.replicate (1 - (lg_sl ([.ref (h 1)])).length) Slot.unset).toArray = ls at hl ⊢
  have hl : lv_has ls 1 [(0, .ref (h 1))] := hl
  refine lv_aload_n hx hb dX1_isFull_0 rfl (lv_at hl 0 rfl) ?_
  refine va_get (D := D) (ci := 1) (v := .int (S 22 0)) (C := RX1) (T := TX1) (N := 2) hx hb hB inX1 hown hK hP 1 rfl rfl 1 (by decide) (hB _ k1_24) (fun _ h9 => h9) rfl dX1_isFull_1 ?_
  have b_1 : (0) ≤ (S 22 0).toInt ∧ (S 22 0).toInt ≤ 16 := iv_22 hI
  refine lv_bipush (v := 16) hx hb dX1_isFull_4 (by decide) ?_
  refine lv_icmp_lt (tgt := 13) hx hb dX1_isFull_6 (by decide) (fun c_2 => ?_) (fun c_2 => ?_)
  · skip
    have z_16 : ((16) : Int32).toInt = (16) := by decide
    have t_2 := Int32.lt_iff_toInt_lt.mp c_2
    refine lv_iconst (v := 0) hx hb dX1_isFull_13 (by decide) ?_
    exact W.zret (v := 0) hx hb hr (by decide) (fun t ht hW => ⟨⟨0, (), rfl, (by rw [f_P_isFull, if_pos c_2]), trivial⟩, hS.F ht⟩) hS.2.2 dX1_isFull_14
  · skip
    have z_16 : ((16) : Int32).toInt = (16) := by decide
    have t_2 := mt Int32.lt_iff_toInt_lt.mpr c_2
    refine lv_iconst (v := 1) hx hb dX1_isFull_9 (by decide) ?_
    refine lv_goto (tgt := 14) hx hb dX1_isFull_10 (by decide) ?_
    exact W.zret (v := 1) hx hb hr (by decide) (fun t ht hW => ⟨⟨1, (), rfl, (by rw [f_P_isFull, if_neg c_2]), trivial⟩, hS.F ht⟩) hS.2.2 dX1_isFull_14
set_option maxHeartbeats 4000000 in
set_option maxRecDepth 100000 in
theorem m_P_withCode (l : Launch) (D : va_G) (h : Nat → Nat) (cI cZ : ClassId) (S : BS) (hI : IV S) (a1 : Int32) : PM l yX1_withCode wsX1_withCode { frames := 0, cells := 0, slots := 0, locals := 0 } D cI cZ h S [.ref (h 1), .int a1] (f_P_withCode S a1) := by
  refine Met.ofW (cc := cX1_withCode) (maxL := 3) (ret := (some .int)) (by decide) rfl ?_
  intro p e s m args below meth c s₁ B hml hv
  obtain ⟨rfl, hP, hK, hN⟩ := hv
  have hx := B.exec
  have hb := B.bytes
  have hr := B.returns
  have hts := atoms_spec (ws := wsX1_withCode) B.pre
  have hB : ∀ w ∈ BW, w.before _ s = true := fun w h => hts w (List.mem_cons_of_mem _ h)
  have hown : s.vm.findClass RX1 = some m.cls := findClass_of_methodNamed B.named
  have hlocks := B.notSynchronized
  have hS : va_S (fun _ => False) s.heap s.heap [] := va_S.rf
  have hl := lv_entry ([.ref (h 1), .int a1]) (n := 3) (Nat.le_of_ble_eq_true rfl)
  rw [lg_entry_eq]
  generalize (lg_sl ([.ref (h 1), .int a1]) ++ List.replicate (3 - (lg_sl ([.ref (h 1), .int a1])).length) Slot.unset).toArray = ls at hl ⊢
  have hl : lv_has ls 3 [(0, .ref (h 1)), (1, .int a1)] := hl
  refine lv_iconst (v := 0) hx hb dX1_withCode_0 (by decide) ?_
  refine lv_istore_n (lv' := [(2, .int 0), (0, .ref (h 1)), (1, .int a1)]) hx hb dX1_withCode_1 rfl hl (by decide) rfl (fun ls hl => ?_)
  have loop2 : ∀ (n : Nat) (x2 : Int32) (H : Heap) (locs : List Loc) (ls : Array Slot), (0 ≤ x2.toInt ∧ x2.toInt ≤ (S 22 0 : Int32).toInt ∧ (S 22 0 : Int32).toInt - x2.toInt < (n : Int) ∧ True) → l_P_withCode_2 S a1 n x2 = f_P_withCode S a1 → va_P D vwCl (wB h cI cZ S) H → va_S (fun _ => False) s.heap H locs → lv_has ls 3 [(0, .ref (h 1)), (1, .int a1), (2, .int x2)] → W p l e (headSpec wsX1_withCode { frames := 0, cells := 0, slots := 0, locals := 0 }).room s m ([.ref (h 1), .int a1]).toArray below meth c H locs 0 0 (MQ below (PQ (f_P_withCode S a1)) ([.ref (h 1), .int a1]).toArray s 0 0 (fun _ => False)) (F0 m 2 ls []) := by
    intro n
    induction n with
    | zero =>
      intro x2 H locs ls hinv he hP hS hl
      obtain ⟨h0, hle, hm, hex⟩ := hinv
      exact absurd hm (by omega)
    | succ n ih =>
      intro x2 H locs ls hinv he hP hS hl
      obtain ⟨h0, hle, hm, hex⟩ := hinv
      have hB := iv_22 hI
      refine lv_iload_n hx hb dX1_withCode_2 rfl (lv_at hl 2 rfl) ?_
      refine lv_aload_n hx hb dX1_withCode_3 rfl (lv_at hl 0 rfl) ?_
      refine va_get (D := D) (ci := 1) (v := .int (S 22 0)) (C := RX1) (T := TX1) (N := 2) hx hb hB inX1 hown hK hP 1 rfl rfl 1 (by decide) (hB _ k1_24) (fun _ h9 => h9) rfl dX1_withCode_4 ?_
      have b_1 : (0) ≤ (S 22 0).toInt ∧ (S 22 0).toInt ≤ 16 := iv_22 hI
      refine lv_icmp_ge (tgt := 28) hx hb dX1_withCode_7 (by decide) (fun c_2 => ?_) (fun c_2 => ?_)
      · skip
        have t_2 := Int32.le_iff_toInt_le.mp c_2
        refine lv_iconst (v := (-1)) hx hb dX1_withCode_28 (by decide) ?_
        exact W.iret (v := (-1)) hx hb hr (fun t ht hW => ⟨⟨(-1), (), rfl, (by rw [← he, l_P_withCode_2, if_pos c_2]), trivial⟩, hS.F ht⟩) hS.2.2 dX1_withCode_29
      · skip
        have t_2 := mt Int32.le_iff_toInt_le.mpr c_2
        refine lv_aload_n hx hb dX1_withCode_10 rfl (lv_at hl 0 rfl) ?_
        refine va_get (D := D) (ci := 1) (v := .ref (h 6)) (C := RX1) (T := TX1) (N := 2) hx hb hB inX1 hown hK hP 1 rfl rfl 0 (by decide) (hB _ k1_23) (fun _ h9 => h9) rfl dX1_withCode_11 ?_
        refine lv_iload_n hx hb dX1_withCode_14 rfl (lv_at hl 2 rfl) ?_
        refine va_iald (f := S 0) hx hb hK hP 6 0 rfl rfl (vp_in_iff.mpr (by omega)) dX1_withCode_15 ?_
        refine lv_iload_n hx hb dX1_withCode_16 rfl (lv_at hl 1 rfl) ?_
        refine lv_icmp_ne (tgt := 22) hx hb dX1_withCode_17 (by decide) (fun c_3 => ?_) (fun c_3 => ?_)
        · skip
          refine lv_iinc (v := x2 + 1) (lv' := [(2, .int (x2 + 1)), (0, .ref (h 1)), (1, .int a1)]) hx hb dX1_withCode_22 hl (k := 2) rfl rfl (by decide) rfl (fun ls hl => ?_)
          refine lv_goto (tgt := 2) hx hb dX1_withCode_25 (by decide) ?_
          have hinc := i32_inc (x := x2) h0 (by omega)
          exact ih (x2 + 1) _ _ _ ⟨by omega, by omega, by omega, trivial⟩ (by rw [← he, l_P_withCode_2, if_neg c_2, if_neg c_3]) hP hS (lv_sub hl [1, 2, 0] rfl)
        · skip
          refine lv_iload_n hx hb dX1_withCode_20 rfl (lv_at hl 2 rfl) ?_
          exact W.iret (v := x2) hx hb hr (fun t ht hW => ⟨⟨x2, (), rfl, (by rw [← he, l_P_withCode_2, if_neg c_2, if_pos c_3]), trivial⟩, hS.F ht⟩) hS.2.2 dX1_withCode_21
  have hB9 := iv_22 hI
  have z_0 : ((0) : Int32).toInt = (0) := by decide
  exact loop2 600 0 _ _ _ ⟨by omega, by omega, by omega, trivial⟩ (by rw [f_P_withCode]) hP hS (lv_sub hl [1, 2, 0] rfl)
set_option maxHeartbeats 4000000 in
set_option maxRecDepth 100000 in
theorem m_P_add (l : Launch) (D : va_G) (h : Nat → Nat) (cI cZ : ClassId) (S : BS) (hI : IV S) (a1 : Int32) (hroom : (S 22 0).toInt < 16) : WM l yX1_add wsX1_add { frames := 0, cells := 0, slots := 0, locals := 0 } D cI cZ h S [.ref (h 1), .int a1] (F_P_add S a1) := by
  refine Met.ofW (cc := cX1_add) (maxL := 2) (ret := (some .int)) (by decide) rfl ?_
  intro p e s m args below meth c s₁ B hml hv
  obtain ⟨rfl, hP, hK, hN, hD0⟩ := hv
  have hx := B.exec
  have hb := B.bytes
  have hr := B.returns
  have hts := atoms_spec (ws := wsX1_add) B.pre
  have hB : ∀ w ∈ BW, w.before _ s = true := fun w h => hts w (List.mem_cons_of_mem _ h)
  have hown : s.vm.findClass RX1 = some m.cls := findClass_of_methodNamed B.named
  have hlocks := B.notSynchronized
  have hD := bD hD0
  have hS : va_S (bA h) s.heap s.heap [] := va_S.rf
  have hl := lv_entry ([.ref (h 1), .int a1]) (n := 2) (Nat.le_of_ble_eq_true rfl)
  rw [lg_entry_eq]
  generalize (lg_sl ([.ref (h 1), .int a1]) ++ List.replicate (2 - (lg_sl ([.ref (h 1), .int a1])).length) Slot.unset).toArray = ls at hl ⊢
  have hl : lv_has ls 2 [(0, .ref (h 1)), (1, .int a1)] := hl
  refine lv_aload_n hx hb dX1_add_0 rfl (lv_at hl 0 rfl) ?_
  refine va_get (D := D) (ci := 1) (v := .ref (h 6)) (C := RX1) (T := TX1) (N := 2) hx hb hB inX1 hown hK hP 1 rfl rfl 0 (by decide) (hB _ k1_23) (fun _ h9 => h9) rfl dX1_add_1 ?_
  refine lv_aload_n hx hb dX1_add_4 rfl (lv_at hl 0 rfl) ?_
  refine va_get (D := D) (ci := 1) (v := .int (S 22 0)) (C := RX1) (T := TX1) (N := 2) hx hb hB inX1 hown hK hP 1 rfl rfl 1 (by decide) (hB _ k1_24) (fun _ h9 => h9) rfl dX1_add_5 ?_
  have b_1 : (0) ≤ (S 22 0).toInt ∧ (S 22 0).toInt ≤ 16 := iv_22 hI
  refine lv_iload_n hx hb dX1_add_8 rfl (lv_at hl 1 rfl) ?_
  refine va_iast (f := S 0) hx hb hK hP hD hS 6 0 rfl rfl (vp_in_iff.mpr (by omega)) dX1_add_9 (fun H locs hP hD hS => ?_)
  have hP : va_P D vwCl (wB h cI cZ (upS S 0 ((S 22 0).toNatClampNeg) a1)) H := hP
  have hD : va_D (bA h) (wB h cI cZ (upS S 0 ((S 22 0).toNatClampNeg) a1)) := hD
  have hI_2 : IV (upS S 0 ((S 22 0).toNatClampNeg) a1) := iv_up (S := S) hI 0 ((S 22 0).toNatClampNeg) a1 (iv_none 0 rfl)
  refine lv_aload_n hx hb dX1_add_10 rfl (lv_at hl 0 rfl) ?_
  refine lv_dup hx hb dX1_add_11 rfl ?_
  refine va_get (D := D) (ci := 1) (v := .int (S 22 0)) (C := RX1) (T := TX1) (N := 2) hx hb hB inX1 hown hK hP 1 rfl rfl 1 (by decide) (hB _ k1_24) (fun _ h9 => h9) rfl dX1_add_12 ?_
  have b_3 : (0) ≤ (S 22 0).toInt ∧ (S 22 0).toInt ≤ 16 := iv_22 hI_2
  refine lv_iconst (v := 1) hx hb dX1_add_15 (by decide) ?_
  refine lv_iadd hx hb dX1_add_16 ?_
  refine va_put (D := D) (ci := 1) (v := .int ((S 22 0) + 1)) (ty := .int) (C := RX1) (T := TX1) (N := 2) hx hb hB inX1 tyX1 tyX1_ok nmX1 hown hK hP hD hS 1 rfl rfl 1 (by decide) (hB _ k1_24) (fun _ h9 => h9) rfl (by decide +kernel) rfl rfl (Nat.le_of_ble_eq_true rfl) dX1_add_17 (fun H locs hP hD hS => ?_)
  have hP : va_P D vwCl (wB h cI cZ (upS (upS S 0 ((S 22 0).toNatClampNeg) a1) 22 0 ((S 22 0) + 1))) H := hP
  have hD : va_D (bA h) (wB h cI cZ (upS (upS S 0 ((S 22 0).toNatClampNeg) a1) 22 0 ((S 22 0) + 1))) := hD
  have k_5 := i32_inc (x := (S 22 0)) (by omega) (by omega)
  have hI_4 : IV (upS (upS S 0 ((S 22 0).toNatClampNeg) a1) 22 0 ((S 22 0) + 1)) := iv_up (S := upS S 0 ((S 22 0).toNatClampNeg) a1) hI_2 22 0 ((S 22 0) + 1) (iv_one 22 0 16 rfl (by omega))
  refine lv_aload_n hx hb dX1_add_20 rfl (lv_at hl 0 rfl) ?_
  refine va_get (D := D) (ci := 1) (v := .int ((S 22 0) + 1)) (C := RX1) (T := TX1) (N := 2) hx hb hB inX1 hown hK hP 1 rfl rfl 1 (by decide) (hB _ k1_24) (fun _ h9 => h9) rfl dX1_add_21 ?_
  have b_6 : (0) ≤ ((S 22 0) + 1).toInt ∧ ((S 22 0) + 1).toInt ≤ 16 := iv_22 hI_4
  refine lv_iconst (v := 1) hx hb dX1_add_24 (by decide) ?_
  refine lv_isub hx hb dX1_add_25 ?_
  exact W.iret (v := ((S 22 0) + 1) - 1) hx hb hr (fun t ht hW => ⟨⟨((S 22 0) + 1) - 1, upS (upS S 0 ((S 22 0).toNatClampNeg) a1) 22 0 ((S 22 0) + 1), rfl, ⟨(by rw [F_P_add]), hI_4⟩, by rw [ht]; exact hP⟩, hS.F ht⟩) hS.2.2 dX1_add_26
set_option maxHeartbeats 4000000 in
set_option maxRecDepth 100000 in
theorem m_T_has (l : Launch) (D : va_G) (h : Nat → Nat) (cI cZ : ClassId) (S : BS) (hI : IV S) (a1 : Int32) : PM l yX2_has wsX2_has { frames := 0, cells := 0, slots := 0, locals := 0 } D cI cZ h S [.ref (h 2), .int a1] (f_T_has S a1) := by
  refine Met.ofW (cc := cX2_has) (maxL := 2) (ret := (some .boolean)) (by decide) rfl ?_
  intro p e s m args below meth c s₁ B hml hv
  obtain ⟨rfl, hP, hK, hN⟩ := hv
  have hx := B.exec
  have hb := B.bytes
  have hr := B.returns
  have hts := atoms_spec (ws := wsX2_has) B.pre
  have hB : ∀ w ∈ BW, w.before _ s = true := fun w h => hts w (List.mem_cons_of_mem _ h)
  have hown : s.vm.findClass RX2 = some m.cls := findClass_of_methodNamed B.named
  have hlocks := B.notSynchronized
  have hS : va_S (fun _ => False) s.heap s.heap [] := va_S.rf
  have hl := lv_entry ([.ref (h 2), .int a1]) (n := 2) (Nat.le_of_ble_eq_true rfl)
  rw [lg_entry_eq]
  generalize (lg_sl ([.ref (h 2), .int a1]) ++ List.replicate (2 - (lg_sl ([.ref (h 2), .int a1])).length) Slot.unset).toArray = ls at hl ⊢
  have hl : lv_has ls 2 [(0, .ref (h 2)), (1, .int a1)] := hl
  refine lv_iload_n hx hb dX2_has_0 rfl (lv_at hl 1 rfl) ?_
  refine lv_if_lt (tgt := 16) hx hb dX2_has_1 (by decide) (fun c_1 => ?_) (fun c_1 => ?_)
  · skip
    have z_0 : ((0) : Int32).toInt = (0) := by decide
    have t_1 := Int32.lt_iff_toInt_lt.mp c_1
    refine lv_iconst (v := 0) hx hb dX2_has_16 (by decide) ?_
    exact W.zret (v := 0) hx hb hr (by decide) (fun t ht hW => ⟨⟨0, (), rfl, (by rw [f_T_has, if_pos c_1]), trivial⟩, hS.F ht⟩) hS.2.2 dX2_has_17
  · skip
    have z_0 : ((0) : Int32).toInt = (0) := by decide
    have t_1 := mt Int32.lt_iff_toInt_lt.mpr c_1
    refine lv_iload_n hx hb dX2_has_4 rfl (lv_at hl 1 rfl) ?_
    refine lv_aload_n hx hb dX2_has_5 rfl (lv_at hl 0 rfl) ?_
    refine va_get (D := D) (ci := 2) (v := .int (S 23 0)) (C := RX2) (T := TX2) (N := 6) hx hb hB inX2 hown hK hP 2 rfl rfl 5 (by decide) (hB _ k1_43) (fun _ h9 => h9) rfl dX2_has_6 ?_
    have b_2 : (0) ≤ (S 23 0).toInt ∧ (S 23 0).toInt ≤ 32 := iv_23 hI
    refine lv_icmp_ge (tgt := 16) hx hb dX2_has_9 (by decide) (fun c_3 => ?_) (fun c_3 => ?_)
    · skip
      have t_3 := Int32.le_iff_toInt_le.mp c_3
      refine lv_iconst (v := 0) hx hb dX2_has_16 (by decide) ?_
      exact W.zret (v := 0) hx hb hr (by decide) (fun t ht hW => ⟨⟨0, (), rfl, (by rw [f_T_has, if_neg c_1, if_pos c_3]), trivial⟩, hS.F ht⟩) hS.2.2 dX2_has_17
    · skip
      have t_3 := mt Int32.le_iff_toInt_le.mpr c_3
      refine lv_iconst (v := 1) hx hb dX2_has_12 (by decide) ?_
      refine lv_goto (tgt := 17) hx hb dX2_has_13 (by decide) ?_
      exact W.zret (v := 1) hx hb hr (by decide) (fun t ht hW => ⟨⟨1, (), rfl, (by rw [f_T_has, if_neg c_1, if_neg c_3]), trivial⟩, hS.F ht⟩) hS.2.2 dX2_has_17
set_option maxHeartbeats 4000000 in
set_option maxRecDepth 100000 in
theorem m_T_isFull (l : Launch) (D : va_G) (h : Nat → Nat) (cI cZ : ClassId) (S : BS) (hI : IV S) : PM l yX2_isFull wsX2_isFull { frames := 0, cells := 0, slots := 0, locals := 0 } D cI cZ h S [.ref (h 2)] (f_T_isFull S) := by
  refine Met.ofW (cc := cX2_isFull) (maxL := 1) (ret := (some .boolean)) (by decide) rfl ?_
  intro p e s m args below meth c s₁ B hml hv
  obtain ⟨rfl, hP, hK, hN⟩ := hv
  have hx := B.exec
  have hb := B.bytes
  have hr := B.returns
  have hts := atoms_spec (ws := wsX2_isFull) B.pre
  have hB : ∀ w ∈ BW, w.before _ s = true := fun w h => hts w (List.mem_cons_of_mem _ h)
  have hown : s.vm.findClass RX2 = some m.cls := findClass_of_methodNamed B.named
  have hlocks := B.notSynchronized
  have hS : va_S (fun _ => False) s.heap s.heap [] := va_S.rf
  have hl := lv_entry ([.ref (h 2)]) (n := 1) (Nat.le_of_ble_eq_true rfl)
  rw [lg_entry_eq]
  generalize (lg_sl ([.ref (h 2)]) ++ List.replicate (1 - (lg_sl ([.ref (h 2)])).length) Slot.unset).toArray = ls at hl ⊢
  have hl : lv_has ls 1 [(0, .ref (h 2))] := hl
  refine lv_aload_n hx hb dX2_isFull_0 rfl (lv_at hl 0 rfl) ?_
  refine va_get (D := D) (ci := 2) (v := .int (S 23 0)) (C := RX2) (T := TX2) (N := 6) hx hb hB inX2 hown hK hP 2 rfl rfl 5 (by decide) (hB _ k1_43) (fun _ h9 => h9) rfl dX2_isFull_1 ?_
  have b_1 : (0) ≤ (S 23 0).toInt ∧ (S 23 0).toInt ≤ 32 := iv_23 hI
  refine lv_bipush (v := 32) hx hb dX2_isFull_4 (by decide) ?_
  refine lv_icmp_lt (tgt := 13) hx hb dX2_isFull_6 (by decide) (fun c_2 => ?_) (fun c_2 => ?_)
  · skip
    have z_32 : ((32) : Int32).toInt = (32) := by decide
    have t_2 := Int32.lt_iff_toInt_lt.mp c_2
    refine lv_iconst (v := 0) hx hb dX2_isFull_13 (by decide) ?_
    exact W.zret (v := 0) hx hb hr (by decide) (fun t ht hW => ⟨⟨0, (), rfl, (by rw [f_T_isFull, if_pos c_2]), trivial⟩, hS.F ht⟩) hS.2.2 dX2_isFull_14
  · skip
    have z_32 : ((32) : Int32).toInt = (32) := by decide
    have t_2 := mt Int32.lt_iff_toInt_lt.mpr c_2
    refine lv_iconst (v := 1) hx hb dX2_isFull_9 (by decide) ?_
    refine lv_goto (tgt := 14) hx hb dX2_isFull_10 (by decide) ?_
    exact W.zret (v := 1) hx hb hr (by decide) (fun t ht hW => ⟨⟨1, (), rfl, (by rw [f_T_isFull, if_neg c_2]), trivial⟩, hS.F ht⟩) hS.2.2 dX2_isFull_14
set_option maxHeartbeats 4000000 in
set_option maxRecDepth 100000 in
theorem m_T_named (l : Launch) (D : va_G) (h : Nat → Nat) (cI cZ : ClassId) (S : BS) (hI : IV S) (a1 a2 : Int32) : PM l yX2_named wsX2_named { frames := 0, cells := 0, slots := 0, locals := 0 } D cI cZ h S [.ref (h 2), .int a1, .int a2] (f_T_named S a1 a2) := by
  refine Met.ofW (cc := cX2_named) (maxL := 4) (ret := (some .int)) (by decide) rfl ?_
  intro p e s m args below meth c s₁ B hml hv
  obtain ⟨rfl, hP, hK, hN⟩ := hv
  have hx := B.exec
  have hb := B.bytes
  have hr := B.returns
  have hts := atoms_spec (ws := wsX2_named) B.pre
  have hB : ∀ w ∈ BW, w.before _ s = true := fun w h => hts w (List.mem_cons_of_mem _ h)
  have hown : s.vm.findClass RX2 = some m.cls := findClass_of_methodNamed B.named
  have hlocks := B.notSynchronized
  have hS : va_S (fun _ => False) s.heap s.heap [] := va_S.rf
  have hl := lv_entry ([.ref (h 2), .int a1, .int a2]) (n := 4) (Nat.le_of_ble_eq_true rfl)
  rw [lg_entry_eq]
  generalize (lg_sl ([.ref (h 2), .int a1, .int a2]) ++ List.replicate (4 - (lg_sl ([.ref (h 2), .int a1, .int a2])).length) Slot.unset).toArray = ls at hl ⊢
  have hl : lv_has ls 4 [(0, .ref (h 2)), (1, .int a1), (2, .int a2)] := hl
  refine lv_iconst (v := 0) hx hb dX2_named_0 (by decide) ?_
  refine lv_istore_n (lv' := [(3, .int 0), (0, .ref (h 2)), (1, .int a1), (2, .int a2)]) hx hb dX2_named_1 rfl hl (by decide) rfl (fun ls hl => ?_)
  have loop2 : ∀ (n : Nat) (x3 : Int32) (H : Heap) (locs : List Loc) (ls : Array Slot), (0 ≤ x3.toInt ∧ x3.toInt ≤ (S 23 0 : Int32).toInt ∧ (S 23 0 : Int32).toInt - x3.toInt < (n : Int) ∧ True) → l_T_named_2 S a1 a2 n x3 = f_T_named S a1 a2 → va_P D vwCl (wB h cI cZ S) H → va_S (fun _ => False) s.heap H locs → lv_has ls 4 [(0, .ref (h 2)), (1, .int a1), (2, .int a2), (3, .int x3)] → W p l e (headSpec wsX2_named { frames := 0, cells := 0, slots := 0, locals := 0 }).room s m ([.ref (h 2), .int a1, .int a2]).toArray below meth c H locs 0 0 (MQ below (PQ (f_T_named S a1 a2)) ([.ref (h 2), .int a1, .int a2]).toArray s 0 0 (fun _ => False)) (F0 m 2 ls []) := by
    intro n
    induction n with
    | zero =>
      intro x3 H locs ls hinv he hP hS hl
      obtain ⟨h0, hle, hm, hex⟩ := hinv
      exact absurd hm (by omega)
    | succ n ih =>
      intro x3 H locs ls hinv he hP hS hl
      obtain ⟨h0, hle, hm, hex⟩ := hinv
      have hB := iv_23 hI
      refine lv_iload_n hx hb dX2_named_2 rfl (lv_at hl 3 rfl) ?_
      refine lv_aload_n hx hb dX2_named_3 rfl (lv_at hl 0 rfl) ?_
      refine va_get (D := D) (ci := 2) (v := .int (S 23 0)) (C := RX2) (T := TX2) (N := 6) hx hb hB inX2 hown hK hP 2 rfl rfl 5 (by decide) (hB _ k1_43) (fun _ h9 => h9) rfl dX2_named_4 ?_
      have b_1 : (0) ≤ (S 23 0).toInt ∧ (S 23 0).toInt ≤ 32 := iv_23 hI
      refine lv_icmp_ge (tgt := 38) hx hb dX2_named_7 (by decide) (fun c_2 => ?_) (fun c_2 => ?_)
      · skip
        have t_2 := Int32.le_iff_toInt_le.mp c_2
        refine lv_iconst (v := (-1)) hx hb dX2_named_38 (by decide) ?_
        exact W.iret (v := (-1)) hx hb hr (fun t ht hW => ⟨⟨(-1), (), rfl, (by rw [← he, l_T_named_2, if_pos c_2]), trivial⟩, hS.F ht⟩) hS.2.2 dX2_named_39
      · skip
        have t_2 := mt Int32.le_iff_toInt_le.mpr c_2
        refine lv_aload_n hx hb dX2_named_10 rfl (lv_at hl 0 rfl) ?_
        refine va_get (D := D) (ci := 2) (v := .ref (h 7)) (C := RX2) (T := TX2) (N := 6) hx hb hB inX2 hown hK hP 2 rfl rfl 0 (by decide) (hB _ k1_38) (fun _ h9 => h9) rfl dX2_named_11 ?_
        refine lv_iload_n hx hb dX2_named_14 rfl (lv_at hl 3 rfl) ?_
        refine va_iald (f := S 1) hx hb hK hP 7 0 rfl rfl (vp_in_iff.mpr (by omega)) dX2_named_15 ?_
        refine lv_iload_n hx hb dX2_named_16 rfl (lv_at hl 1 rfl) ?_
        refine lv_icmp_ne (tgt := 32) hx hb dX2_named_17 (by decide) (fun c_3 => ?_) (fun c_3 => ?_)
        · skip
          refine lv_iinc (v := x3 + 1) (lv' := [(3, .int (x3 + 1)), (0, .ref (h 2)), (1, .int a1), (2, .int a2)]) hx hb dX2_named_32 hl (k := 3) rfl rfl (by decide) rfl (fun ls hl => ?_)
          refine lv_goto (tgt := 2) hx hb dX2_named_35 (by decide) ?_
          have hinc := i32_inc (x := x3) h0 (by omega)
          exact ih (x3 + 1) _ _ _ ⟨by omega, by omega, by omega, trivial⟩ (by rw [← he, l_T_named_2, if_neg c_2, if_neg c_3]) hP hS (lv_sub hl [1, 2, 3, 0] rfl)
        · skip
          refine lv_aload_n hx hb dX2_named_20 rfl (lv_at hl 0 rfl) ?_
          refine va_get (D := D) (ci := 2) (v := .ref (h 8)) (C := RX2) (T := TX2) (N := 6) hx hb hB inX2 hown hK hP 2 rfl rfl 1 (by decide) (hB _ k1_39) (fun _ h9 => h9) rfl dX2_named_21 ?_
          refine lv_iload_n hx hb dX2_named_24 rfl (lv_at hl 3 rfl) ?_
          refine va_iald (f := S 2) hx hb hK hP 8 0 rfl rfl (vp_in_iff.mpr (by omega)) dX2_named_25 ?_
          refine lv_iload_n hx hb dX2_named_26 rfl (lv_at hl 2 rfl) ?_
          refine lv_icmp_ne (tgt := 32) hx hb dX2_named_27 (by decide) (fun c_4 => ?_) (fun c_4 => ?_)
          · skip
            refine lv_iinc (v := x3 + 1) (lv' := [(3, .int (x3 + 1)), (0, .ref (h 2)), (1, .int a1), (2, .int a2)]) hx hb dX2_named_32 hl (k := 3) rfl rfl (by decide) rfl (fun ls hl => ?_)
            refine lv_goto (tgt := 2) hx hb dX2_named_35 (by decide) ?_
            have hinc := i32_inc (x := x3) h0 (by omega)
            exact ih (x3 + 1) _ _ _ ⟨by omega, by omega, by omega, trivial⟩ (by rw [← he, l_T_named_2, if_neg c_2, if_pos c_3, if_neg c_4]) hP hS (lv_sub hl [1, 2, 3, 0] rfl)
          · skip
            refine lv_iload_n hx hb dX2_named_30 rfl (lv_at hl 3 rfl) ?_
            exact W.iret (v := x3) hx hb hr (fun t ht hW => ⟨⟨x3, (), rfl, (by rw [← he, l_T_named_2, if_neg c_2, if_pos c_3, if_pos c_4]), trivial⟩, hS.F ht⟩) hS.2.2 dX2_named_31
  have hB9 := iv_23 hI
  have z_0 : ((0) : Int32).toInt = (0) := by decide
  exact loop2 600 0 _ _ _ ⟨by omega, by omega, by omega, trivial⟩ (by rw [f_T_named]) hP hS (lv_sub hl [1, 2, 3, 0] rfl)
set_option maxHeartbeats 4000000 in
set_option maxRecDepth 100000 in
theorem m_T_add (l : Launch) (D : va_G) (h : Nat → Nat) (cI cZ : ClassId) (S : BS) (hI : IV S) (a1 a2 : Int32) (hroom : (S 23 0).toInt < 32) : WM l yX2_add wsX2_add { frames := 0, cells := 0, slots := 0, locals := 0 } D cI cZ h S [.ref (h 2), .int a1, .int a2] (F_T_add S a1 a2) := by
  refine Met.ofW (cc := cX2_add) (maxL := 3) (ret := (some .int)) (by decide) rfl ?_
  intro p e s m args below meth c s₁ B hml hv
  obtain ⟨rfl, hP, hK, hN, hD0⟩ := hv
  have hx := B.exec
  have hb := B.bytes
  have hr := B.returns
  have hts := atoms_spec (ws := wsX2_add) B.pre
  have hB : ∀ w ∈ BW, w.before _ s = true := fun w h => hts w (List.mem_cons_of_mem _ h)
  have hown : s.vm.findClass RX2 = some m.cls := findClass_of_methodNamed B.named
  have hlocks := B.notSynchronized
  have hD := bD hD0
  have hS : va_S (bA h) s.heap s.heap [] := va_S.rf
  have hl := lv_entry ([.ref (h 2), .int a1, .int a2]) (n := 3) (Nat.le_of_ble_eq_true rfl)
  rw [lg_entry_eq]
  generalize (lg_sl ([.ref (h 2), .int a1, .int a2]) ++ List.replicate (3 - (lg_sl ([.ref (h 2), .int a1, .int a2])).length) Slot.unset).toArray = ls at hl ⊢
  have hl : lv_has ls 3 [(0, .ref (h 2)), (1, .int a1), (2, .int a2)] := hl
  refine lv_aload_n hx hb dX2_add_0 rfl (lv_at hl 0 rfl) ?_
  refine va_get (D := D) (ci := 2) (v := .ref (h 7)) (C := RX2) (T := TX2) (N := 6) hx hb hB inX2 hown hK hP 2 rfl rfl 0 (by decide) (hB _ k1_38) (fun _ h9 => h9) rfl dX2_add_1 ?_
  refine lv_aload_n hx hb dX2_add_4 rfl (lv_at hl 0 rfl) ?_
  refine va_get (D := D) (ci := 2) (v := .int (S 23 0)) (C := RX2) (T := TX2) (N := 6) hx hb hB inX2 hown hK hP 2 rfl rfl 5 (by decide) (hB _ k1_43) (fun _ h9 => h9) rfl dX2_add_5 ?_
  have b_1 : (0) ≤ (S 23 0).toInt ∧ (S 23 0).toInt ≤ 32 := iv_23 hI
  refine lv_iload_n hx hb dX2_add_8 rfl (lv_at hl 1 rfl) ?_
  refine va_iast (f := S 1) hx hb hK hP hD hS 7 0 rfl rfl (vp_in_iff.mpr (by omega)) dX2_add_9 (fun H locs hP hD hS => ?_)
  have hP : va_P D vwCl (wB h cI cZ (upS S 1 ((S 23 0).toNatClampNeg) a1)) H := hP
  have hD : va_D (bA h) (wB h cI cZ (upS S 1 ((S 23 0).toNatClampNeg) a1)) := hD
  have hI_2 : IV (upS S 1 ((S 23 0).toNatClampNeg) a1) := iv_up (S := S) hI 1 ((S 23 0).toNatClampNeg) a1 (iv_none 1 rfl)
  refine lv_aload_n hx hb dX2_add_10 rfl (lv_at hl 0 rfl) ?_
  refine va_get (D := D) (ci := 2) (v := .ref (h 8)) (C := RX2) (T := TX2) (N := 6) hx hb hB inX2 hown hK hP 2 rfl rfl 1 (by decide) (hB _ k1_39) (fun _ h9 => h9) rfl dX2_add_11 ?_
  refine lv_aload_n hx hb dX2_add_14 rfl (lv_at hl 0 rfl) ?_
  refine va_get (D := D) (ci := 2) (v := .int (S 23 0)) (C := RX2) (T := TX2) (N := 6) hx hb hB inX2 hown hK hP 2 rfl rfl 5 (by decide) (hB _ k1_43) (fun _ h9 => h9) rfl dX2_add_15 ?_
  have b_3 : (0) ≤ (S 23 0).toInt ∧ (S 23 0).toInt ≤ 32 := iv_23 hI_2
  refine lv_iload_n hx hb dX2_add_18 rfl (lv_at hl 2 rfl) ?_
  refine va_iast (f := S 2) hx hb hK hP hD hS 8 0 rfl rfl (vp_in_iff.mpr (by omega)) dX2_add_19 (fun H locs hP hD hS => ?_)
  have hP : va_P D vwCl (wB h cI cZ (upS (upS S 1 ((S 23 0).toNatClampNeg) a1) 2 ((S 23 0).toNatClampNeg) a2)) H := hP
  have hD : va_D (bA h) (wB h cI cZ (upS (upS S 1 ((S 23 0).toNatClampNeg) a1) 2 ((S 23 0).toNatClampNeg) a2)) := hD
  have hI_4 : IV (upS (upS S 1 ((S 23 0).toNatClampNeg) a1) 2 ((S 23 0).toNatClampNeg) a2) := iv_up (S := upS S 1 ((S 23 0).toNatClampNeg) a1) hI_2 2 ((S 23 0).toNatClampNeg) a2 (iv_none 2 rfl)
  refine lv_aload_n hx hb dX2_add_20 rfl (lv_at hl 0 rfl) ?_
  refine lv_dup hx hb dX2_add_21 rfl ?_
  refine va_get (D := D) (ci := 2) (v := .int (S 23 0)) (C := RX2) (T := TX2) (N := 6) hx hb hB inX2 hown hK hP 2 rfl rfl 5 (by decide) (hB _ k1_43) (fun _ h9 => h9) rfl dX2_add_22 ?_
  have b_5 : (0) ≤ (S 23 0).toInt ∧ (S 23 0).toInt ≤ 32 := iv_23 hI_4
  refine lv_iconst (v := 1) hx hb dX2_add_25 (by decide) ?_
  refine lv_iadd hx hb dX2_add_26 ?_
  refine va_put (D := D) (ci := 2) (v := .int ((S 23 0) + 1)) (ty := .int) (C := RX2) (T := TX2) (N := 6) hx hb hB inX2 tyX2 tyX2_ok nmX2 hown hK hP hD hS 2 rfl rfl 5 (by decide) (hB _ k1_43) (fun _ h9 => h9) rfl (by decide +kernel) rfl rfl (Nat.le_of_ble_eq_true rfl) dX2_add_27 (fun H locs hP hD hS => ?_)
  have hP : va_P D vwCl (wB h cI cZ (upS (upS (upS S 1 ((S 23 0).toNatClampNeg) a1) 2 ((S 23 0).toNatClampNeg) a2) 23 0 ((S 23 0) + 1))) H := hP
  have hD : va_D (bA h) (wB h cI cZ (upS (upS (upS S 1 ((S 23 0).toNatClampNeg) a1) 2 ((S 23 0).toNatClampNeg) a2) 23 0 ((S 23 0) + 1))) := hD
  have k_7 := i32_inc (x := (S 23 0)) (by omega) (by omega)
  have hI_6 : IV (upS (upS (upS S 1 ((S 23 0).toNatClampNeg) a1) 2 ((S 23 0).toNatClampNeg) a2) 23 0 ((S 23 0) + 1)) := iv_up (S := upS (upS S 1 ((S 23 0).toNatClampNeg) a1) 2 ((S 23 0).toNatClampNeg) a2) hI_4 23 0 ((S 23 0) + 1) (iv_one 23 0 32 rfl (by omega))
  refine lv_aload_n hx hb dX2_add_30 rfl (lv_at hl 0 rfl) ?_
  refine va_get (D := D) (ci := 2) (v := .int ((S 23 0) + 1)) (C := RX2) (T := TX2) (N := 6) hx hb hB inX2 hown hK hP 2 rfl rfl 5 (by decide) (hB _ k1_43) (fun _ h9 => h9) rfl dX2_add_31 ?_
  have b_8 : (0) ≤ ((S 23 0) + 1).toInt ∧ ((S 23 0) + 1).toInt ≤ 32 := iv_23 hI_6
  refine lv_iconst (v := 1) hx hb dX2_add_34 (by decide) ?_
  refine lv_isub hx hb dX2_add_35 ?_
  exact W.iret (v := ((S 23 0) + 1) - 1) hx hb hr (fun t ht hW => ⟨⟨((S 23 0) + 1) - 1, upS (upS (upS S 1 ((S 23 0).toNatClampNeg) a1) 2 ((S 23 0).toNatClampNeg) a2) 23 0 ((S 23 0) + 1), rfl, ⟨(by rw [F_T_add]), hI_6⟩, by rw [ht]; exact hP⟩, hS.F ht⟩) hS.2.2 dX2_add_36
set_option maxHeartbeats 4000000 in
set_option maxRecDepth 100000 in
theorem m_T_isGone (l : Launch) (D : va_G) (h : Nat → Nat) (cI cZ : ClassId) (S : BS) (hI : IV S) (a1 : Int32) (ha0 : 0 ≤ a1.toInt ∧ a1.toInt ≤ 31) : PM l yX2_isGone wsX2_isGone { frames := 0, cells := 0, slots := 0, locals := 0 } D cI cZ h S [.ref (h 2), .int a1] (f_T_isGone S a1) := by
  refine Met.ofW (cc := cX2_isGone) (maxL := 2) (ret := (some .boolean)) (by decide) rfl ?_
  intro p e s m args below meth c s₁ B hml hv
  obtain ⟨rfl, hP, hK, hN⟩ := hv
  have hx := B.exec
  have hb := B.bytes
  have hr := B.returns
  have hts := atoms_spec (ws := wsX2_isGone) B.pre
  have hB : ∀ w ∈ BW, w.before _ s = true := fun w h => hts w (List.mem_cons_of_mem _ h)
  have hown : s.vm.findClass RX2 = some m.cls := findClass_of_methodNamed B.named
  have hlocks := B.notSynchronized
  have hS : va_S (fun _ => False) s.heap s.heap [] := va_S.rf
  have hl := lv_entry ([.ref (h 2), .int a1]) (n := 2) (Nat.le_of_ble_eq_true rfl)
  rw [lg_entry_eq]
  generalize (lg_sl ([.ref (h 2), .int a1]) ++ List.replicate (2 - (lg_sl ([.ref (h 2), .int a1])).length) Slot.unset).toArray = ls at hl ⊢
  have hl : lv_has ls 2 [(0, .ref (h 2)), (1, .int a1)] := hl
  refine lv_aload_n hx hb dX2_isGone_0 rfl (lv_at hl 0 rfl) ?_
  refine va_get (D := D) (ci := 2) (v := .ref (h 9)) (C := RX2) (T := TX2) (N := 6) hx hb hB inX2 hown hK hP 2 rfl rfl 2 (by decide) (hB _ k1_40) (fun _ h9 => h9) rfl dX2_isGone_1 ?_
  refine lv_iload_n hx hb dX2_isGone_4 rfl (lv_at hl 1 rfl) ?_
  refine va_zald (f := S 3) hx hb hK hP 9 1 rfl rfl (vp_in_iff.mpr (by omega)) dX2_isGone_5 ?_
  have b_1 : (0) ≤ (S 3 a1.toNatClampNeg).toInt ∧ (S 3 a1.toNatClampNeg).toInt ≤ 1 := iv_3 hI a1.toNatClampNeg
  exact W.zret (v := S 3 a1.toNatClampNeg) hx hb hr (nb01 (by omega)) (fun t ht hW => ⟨⟨S 3 a1.toNatClampNeg, (), rfl, (by rw [f_T_isGone]), trivial⟩, hS.F ht⟩) hS.2.2 dX2_isGone_6
set_option maxHeartbeats 4000000 in
set_option maxRecDepth 100000 in
theorem m_T_goInto (l : Launch) (D : va_G) (h : Nat → Nat) (cI cZ : ClassId) (S : BS) (hI : IV S) (a1 a2 a3 : Int32) (ha0 : 0 ≤ a1.toInt ∧ a1.toInt ≤ 31) (ha1 : 0 ≤ a2.toInt ∧ a2.toInt ≤ 31) : VM l yX2_goInto wsX2_goInto { frames := 0, cells := 0, slots := 0, locals := 0 } D cI cZ h S [.ref (h 2), .int a1, .int a2, .int a3] (F_T_goInto S a1 a2 a3) := by
  refine Met.ofW (cc := cX2_goInto) (maxL := 4) (ret := none) (by decide) rfl ?_
  intro p e s m args below meth c s₁ B hml hv
  obtain ⟨rfl, hP, hK, hN, hD0⟩ := hv
  have hx := B.exec
  have hb := B.bytes
  have hr := B.returns
  have hts := atoms_spec (ws := wsX2_goInto) B.pre
  have hB : ∀ w ∈ BW, w.before _ s = true := fun w h => hts w (List.mem_cons_of_mem _ h)
  have hown : s.vm.findClass RX2 = some m.cls := findClass_of_methodNamed B.named
  have hlocks := B.notSynchronized
  have hD := bD hD0
  have hS : va_S (bA h) s.heap s.heap [] := va_S.rf
  have hl := lv_entry ([.ref (h 2), .int a1, .int a2, .int a3]) (n := 4) (Nat.le_of_ble_eq_true rfl)
  rw [lg_entry_eq]
  generalize (lg_sl ([.ref (h 2), .int a1, .int a2, .int a3]) ++ List.replicate (4 - (lg_sl ([.ref (h 2), .int a1, .int a2, .int a3])).length) Slot.unset).toArray = ls at hl ⊢
  have hl : lv_has ls 4 [(0, .ref (h 2)), (1, .int a1), (2, .int a2), (3, .int a3)] := hl
  refine lv_aload_n hx hb dX2_goInto_0 rfl (lv_at hl 0 rfl) ?_
  refine va_get (D := D) (ci := 2) (v := .ref (h 9)) (C := RX2) (T := TX2) (N := 6) hx hb hB inX2 hown hK hP 2 rfl rfl 2 (by decide) (hB _ k1_40) (fun _ h9 => h9) rfl dX2_goInto_1 ?_
  refine lv_iload_n hx hb dX2_goInto_4 rfl (lv_at hl 1 rfl) ?_
  refine lv_iconst (v := 1) hx hb dX2_goInto_5 (by decide) ?_
  refine va_zast (f := S 3) hx hb hK hP hD hS 9 1 rfl rfl (vp_in_iff.mpr (by omega)) dX2_goInto_6 (fun H locs hP hD hS => ?_)
  rw [show vp_nar .boolean 1 = 1 from by first | rfl | decide] at hP hD
  have hP : va_P D vwCl (wB h cI cZ (upS S 3 a1.toNatClampNeg 1)) H := hP
  have hD : va_D (bA h) (wB h cI cZ (upS S 3 a1.toNatClampNeg 1)) := hD
  have hI_1 : IV (upS S 3 a1.toNatClampNeg 1) := iv_up (S := S) hI 3 a1.toNatClampNeg 1 (iv_one 3 0 1 rfl (by decide))
  refine lv_aload_n hx hb dX2_goInto_7 rfl (lv_at hl 0 rfl) ?_
  refine va_get (D := D) (ci := 2) (v := .ref (h 10)) (C := RX2) (T := TX2) (N := 6) hx hb hB inX2 hown hK hP 2 rfl rfl 3 (by decide) (hB _ k1_41) (fun _ h9 => h9) rfl dX2_goInto_8 ?_
  refine lv_iload_n hx hb dX2_goInto_11 rfl (lv_at hl 1 rfl) ?_
  refine lv_iload_n hx hb dX2_goInto_12 rfl (lv_at hl 2 rfl) ?_
  refine va_iast (f := S 4) hx hb hK hP hD hS 10 0 rfl rfl (vp_in_iff.mpr (by omega)) dX2_goInto_13 (fun H locs hP hD hS => ?_)
  have hP : va_P D vwCl (wB h cI cZ (upS (upS S 3 a1.toNatClampNeg 1) 4 a1.toNatClampNeg a2)) H := hP
  have hD : va_D (bA h) (wB h cI cZ (upS (upS S 3 a1.toNatClampNeg 1) 4 a1.toNatClampNeg a2)) := hD
  have hI_2 : IV (upS (upS S 3 a1.toNatClampNeg 1) 4 a1.toNatClampNeg a2) := iv_up (S := upS S 3 a1.toNatClampNeg 1) hI_1 4 a1.toNatClampNeg a2 (iv_one 4 0 31 rfl (by omega))
  refine lv_aload_n hx hb dX2_goInto_14 rfl (lv_at hl 0 rfl) ?_
  refine va_get (D := D) (ci := 2) (v := .ref (h 11)) (C := RX2) (T := TX2) (N := 6) hx hb hB inX2 hown hK hP 2 rfl rfl 4 (by decide) (hB _ k1_42) (fun _ h9 => h9) rfl dX2_goInto_15 ?_
  refine lv_iload_n hx hb dX2_goInto_18 rfl (lv_at hl 1 rfl) ?_
  refine lv_iload_n hx hb dX2_goInto_19 rfl (lv_at hl 3 rfl) ?_
  refine va_iast (f := S 5) hx hb hK hP hD hS 11 0 rfl rfl (vp_in_iff.mpr (by omega)) dX2_goInto_20 (fun H locs hP hD hS => ?_)
  have hP : va_P D vwCl (wB h cI cZ (upS (upS (upS S 3 a1.toNatClampNeg 1) 4 a1.toNatClampNeg a2) 5 a1.toNatClampNeg a3)) H := hP
  have hD : va_D (bA h) (wB h cI cZ (upS (upS (upS S 3 a1.toNatClampNeg 1) 4 a1.toNatClampNeg a2) 5 a1.toNatClampNeg a3)) := hD
  have hI_3 : IV (upS (upS (upS S 3 a1.toNatClampNeg 1) 4 a1.toNatClampNeg a2) 5 a1.toNatClampNeg a3) := iv_up (S := upS (upS S 3 a1.toNatClampNeg 1) 4 a1.toNatClampNeg a2) hI_2 5 a1.toNatClampNeg a3 (iv_none 5 rfl)
  exact W.vret hx hb hr (fun t ht hW => ⟨⟨upS (upS (upS S 3 a1.toNatClampNeg 1) 4 a1.toNatClampNeg a2) 5 a1.toNatClampNeg a3, rfl, ⟨(by rw [F_T_goInto]), hI_3⟩, by rw [ht]; exact hP⟩, hS.F ht⟩) hS.2.2 dX2_goInto_21
set_option maxHeartbeats 4000000 in
set_option maxRecDepth 100000 in
theorem m_T_meaning (l : Launch) (D : va_G) (h : Nat → Nat) (cI cZ : ClassId) (S : BS) (hI : IV S) (a1 a2 : Int32) (ha0 : 0 ≤ a1.toInt ∧ a1.toInt ≤ 31) : PM l yX2_meaning wsX2_meaning { frames := 0, cells := 0, slots := 0, locals := 0 } D cI cZ h S [.ref (h 2), .int a1, .int a2] (f_T_meaning S a1 a2) := by
  refine Met.ofW (cc := cX2_meaning) (maxL := 5) (ret := (some .int)) (by decide) rfl ?_
  intro p e s m args below meth c s₁ B hml hv
  obtain ⟨rfl, hP, hK, hN⟩ := hv
  have hx := B.exec
  have hb := B.bytes
  have hr := B.returns
  have hts := atoms_spec (ws := wsX2_meaning) B.pre
  have hB : ∀ w ∈ BW, w.before _ s = true := fun w h => hts w (List.mem_cons_of_mem _ h)
  have hown : s.vm.findClass RX2 = some m.cls := findClass_of_methodNamed B.named
  have hlocks := B.notSynchronized
  have hS : va_S (fun _ => False) s.heap s.heap [] := va_S.rf
  have hl := lv_entry ([.ref (h 2), .int a1, .int a2]) (n := 5) (Nat.le_of_ble_eq_true rfl)
  rw [lg_entry_eq]
  generalize (lg_sl ([.ref (h 2), .int a1, .int a2]) ++ List.replicate (5 - (lg_sl ([.ref (h 2), .int a1, .int a2])).length) Slot.unset).toArray = ls at hl ⊢
  have hl : lv_has ls 5 [(0, .ref (h 2)), (1, .int a1), (2, .int a2)] := hl
  refine lv_iload_n hx hb dX2_meaning_0 rfl (lv_at hl 1 rfl) ?_
  refine lv_istore_n (lv' := [(3, .int a1), (0, .ref (h 2)), (1, .int a1), (2, .int a2)]) hx hb dX2_meaning_1 rfl hl (by decide) rfl (fun ls hl => ?_)
  refine lv_iconst (v := 0) hx hb dX2_meaning_2 (by decide) ?_
  refine lv_istore (lv' := [(4, .int 0), (3, .int a1), (0, .ref (h 2)), (1, .int a1), (2, .int a2)]) hx hb dX2_meaning_3 hl (by decide) rfl (fun ls hl => ?_)
  have loop5 : ∀ (n : Nat) (x3 x4 : Int32) (H : Heap) (locs : List Loc) (ls : Array Slot), (0 ≤ x4.toInt ∧ x4.toInt ≤ (S 23 0 : Int32).toInt ∧ (S 23 0 : Int32).toInt - x4.toInt < (n : Int) ∧ (0 ≤ x3.toInt ∧ x3.toInt ≤ 31)) → l_T_meaning_5 S a1 a2 n x3 x4 = f_T_meaning S a1 a2 → va_P D vwCl (wB h cI cZ S) H → va_S (fun _ => False) s.heap H locs → lv_has ls 5 [(0, .ref (h 2)), (1, .int a1), (2, .int a2), (3, .int x3), (4, .int x4)] → W p l e (headSpec wsX2_meaning { frames := 0, cells := 0, slots := 0, locals := 0 }).room s m ([.ref (h 2), .int a1, .int a2]).toArray below meth c H locs 0 0 (MQ below (PQ (f_T_meaning S a1 a2)) ([.ref (h 2), .int a1, .int a2]).toArray s 0 0 (fun _ => False)) (F0 m 5 ls []) := by
    intro n
    induction n with
    | zero =>
      intro x3 x4 H locs ls hinv he hP hS hl
      obtain ⟨h0, hle, hm, hex⟩ := hinv
      exact absurd hm (by omega)
    | succ n ih =>
      intro x3 x4 H locs ls hinv he hP hS hl
      obtain ⟨h0, hle, hm, hex⟩ := hinv
      have hB := iv_23 hI
      refine lv_iload hx hb dX2_meaning_5 (lv_at hl 4 rfl) ?_
      refine lv_aload_n hx hb dX2_meaning_7 rfl (lv_at hl 0 rfl) ?_
      refine va_get (D := D) (ci := 2) (v := .int (S 23 0)) (C := RX2) (T := TX2) (N := 6) hx hb hB inX2 hown hK hP 2 rfl rfl 5 (by decide) (hB _ k1_43) (fun _ h9 => h9) rfl dX2_meaning_8 ?_
      have b_1 : (0) ≤ (S 23 0).toInt ∧ (S 23 0).toInt ≤ 32 := iv_23 hI
      refine lv_icmp_ge (tgt := 46) hx hb dX2_meaning_11 (by decide) (fun c_2 => ?_) (fun c_2 => ?_)
      · skip
        have t_2 := Int32.le_iff_toInt_le.mp c_2
        refine lv_iload_n hx hb dX2_meaning_46 rfl (lv_at hl 3 rfl) ?_
        exact W.iret (v := x3) hx hb hr (fun t ht hW => ⟨⟨x3, (), rfl, (by rw [← he, l_T_meaning_5, if_pos c_2]), trivial⟩, hS.F ht⟩) hS.2.2 dX2_meaning_47
      · skip
        have t_2 := mt Int32.le_iff_toInt_le.mpr c_2
        refine lv_aload_n hx hb dX2_meaning_14 rfl (lv_at hl 0 rfl) ?_
        refine va_get (D := D) (ci := 2) (v := .ref (h 9)) (C := RX2) (T := TX2) (N := 6) hx hb hB inX2 hown hK hP 2 rfl rfl 2 (by decide) (hB _ k1_40) (fun _ h9 => h9) rfl dX2_meaning_15 ?_
        refine lv_iload_n hx hb dX2_meaning_18 rfl (lv_at hl 3 rfl) ?_
        refine va_zald (f := S 3) hx hb hK hP 9 1 rfl rfl (vp_in_iff.mpr (by omega)) dX2_meaning_19 ?_
        have b_3 : (0) ≤ (S 3 x3.toNatClampNeg).toInt ∧ (S 3 x3.toNatClampNeg).toInt ≤ 1 := iv_3 hI x3.toNatClampNeg
        refine lv_if_eq (tgt := 46) hx hb dX2_meaning_20 (by decide) (fun c_4 => ?_) (fun c_4 => ?_)
        · skip
          have z_0 : ((0) : Int32).toInt = (0) := by decide
          have t_4 := Int32.toInt_inj.symm.mp c_4
          refine lv_iload_n hx hb dX2_meaning_46 rfl (lv_at hl 3 rfl) ?_
          exact W.iret (v := x3) hx hb hr (fun t ht hW => ⟨⟨x3, (), rfl, (by rw [← he, l_T_meaning_5, if_neg c_2, if_pos c_4]), trivial⟩, hS.F ht⟩) hS.2.2 dX2_meaning_47
        · skip
          have z_0 : ((0) : Int32).toInt = (0) := by decide
          have t_4 := mt Int32.toInt_inj.mp c_4
          refine lv_aload_n hx hb dX2_meaning_23 rfl (lv_at hl 0 rfl) ?_
          refine va_get (D := D) (ci := 2) (v := .ref (h 11)) (C := RX2) (T := TX2) (N := 6) hx hb hB inX2 hown hK hP 2 rfl rfl 4 (by decide) (hB _ k1_42) (fun _ h9 => h9) rfl dX2_meaning_24 ?_
          refine lv_iload_n hx hb dX2_meaning_27 rfl (lv_at hl 3 rfl) ?_
          refine va_iald (f := S 5) hx hb hK hP 11 0 rfl rfl (vp_in_iff.mpr (by omega)) dX2_meaning_28 ?_
          refine lv_iload_n hx hb dX2_meaning_29 rfl (lv_at hl 2 rfl) ?_
          refine lv_icmp_gt (tgt := 46) hx hb dX2_meaning_30 (by decide) (fun c_5 => ?_) (fun c_5 => ?_)
          · skip
            have t_5 := Int32.lt_iff_toInt_lt.mp c_5
            refine lv_iload_n hx hb dX2_meaning_46 rfl (lv_at hl 3 rfl) ?_
            exact W.iret (v := x3) hx hb hr (fun t ht hW => ⟨⟨x3, (), rfl, (by rw [← he, l_T_meaning_5, if_neg c_2, if_neg c_4, if_pos c_5]), trivial⟩, hS.F ht⟩) hS.2.2 dX2_meaning_47
          · skip
            have t_5 := mt Int32.lt_iff_toInt_lt.mpr c_5
            refine lv_aload_n hx hb dX2_meaning_33 rfl (lv_at hl 0 rfl) ?_
            refine va_get (D := D) (ci := 2) (v := .ref (h 10)) (C := RX2) (T := TX2) (N := 6) hx hb hB inX2 hown hK hP 2 rfl rfl 3 (by decide) (hB _ k1_41) (fun _ h9 => h9) rfl dX2_meaning_34 ?_
            refine lv_iload_n hx hb dX2_meaning_37 rfl (lv_at hl 3 rfl) ?_
            refine va_iald (f := S 4) hx hb hK hP 10 0 rfl rfl (vp_in_iff.mpr (by omega)) dX2_meaning_38 ?_
            have b_6 : (0) ≤ (S 4 x3.toNatClampNeg).toInt ∧ (S 4 x3.toNatClampNeg).toInt ≤ 31 := iv_4 hI x3.toNatClampNeg
            refine lv_istore_n (lv' := [(3, .int (S 4 x3.toNatClampNeg)), (0, .ref (h 2)), (1, .int a1), (2, .int a2), (4, .int x4)]) hx hb dX2_meaning_39 rfl hl (by decide) rfl (fun ls hl => ?_)
            refine lv_iinc (v := x4 + 1) (lv' := [(4, .int (x4 + 1)), (3, .int (S 4 x3.toNatClampNeg)), (0, .ref (h 2)), (1, .int a1), (2, .int a2)]) hx hb dX2_meaning_40 hl (k := 4) rfl rfl (by decide) rfl (fun ls hl => ?_)
            refine lv_goto (tgt := 5) hx hb dX2_meaning_43 (by decide) ?_
            have hinc := i32_inc (x := x4) h0 (by omega)
            exact ih (S 4 x3.toNatClampNeg) (x4 + 1) _ _ _ ⟨by omega, by omega, by omega, ⟨by omega, by omega⟩⟩ (by rw [← he, l_T_meaning_5, if_neg c_2, if_neg c_4, if_neg c_5]) hP hS (lv_sub hl [2, 3, 4, 1, 0] rfl)
  have hB9 := iv_23 hI
  have z_0 : ((0) : Int32).toInt = (0) := by decide
  exact loop5 600 a1 0 _ _ _ ⟨by omega, by omega, by omega, ⟨by omega, by omega⟩⟩ (by rw [f_T_meaning]) hP hS (lv_sub hl [2, 3, 4, 1, 0] rfl)
set_option maxHeartbeats 4000000 in
set_option maxRecDepth 100000 in
theorem m_R_has (l : Launch) (D : va_G) (h : Nat → Nat) (cI cZ : ClassId) (S : BS) (hI : IV S) (a1 : Int32) : PM l yX3_has wsX3_has { frames := 0, cells := 0, slots := 0, locals := 0 } D cI cZ h S [.ref (h 3), .int a1] (f_R_has S a1) := by
  refine Met.ofW (cc := cX3_has) (maxL := 2) (ret := (some .boolean)) (by decide) rfl ?_
  intro p e s m args below meth c s₁ B hml hv
  obtain ⟨rfl, hP, hK, hN⟩ := hv
  have hx := B.exec
  have hb := B.bytes
  have hr := B.returns
  have hts := atoms_spec (ws := wsX3_has) B.pre
  have hB : ∀ w ∈ BW, w.before _ s = true := fun w h => hts w (List.mem_cons_of_mem _ h)
  have hown : s.vm.findClass RX3 = some m.cls := findClass_of_methodNamed B.named
  have hlocks := B.notSynchronized
  have hS : va_S (fun _ => False) s.heap s.heap [] := va_S.rf
  have hl := lv_entry ([.ref (h 3), .int a1]) (n := 2) (Nat.le_of_ble_eq_true rfl)
  rw [lg_entry_eq]
  generalize (lg_sl ([.ref (h 3), .int a1]) ++ List.replicate (2 - (lg_sl ([.ref (h 3), .int a1])).length) Slot.unset).toArray = ls at hl ⊢
  have hl : lv_has ls 2 [(0, .ref (h 3)), (1, .int a1)] := hl
  refine lv_iload_n hx hb dX3_has_0 rfl (lv_at hl 1 rfl) ?_
  refine lv_if_lt (tgt := 16) hx hb dX3_has_1 (by decide) (fun c_1 => ?_) (fun c_1 => ?_)
  · skip
    have z_0 : ((0) : Int32).toInt = (0) := by decide
    have t_1 := Int32.lt_iff_toInt_lt.mp c_1
    refine lv_iconst (v := 0) hx hb dX3_has_16 (by decide) ?_
    exact W.zret (v := 0) hx hb hr (by decide) (fun t ht hW => ⟨⟨0, (), rfl, (by rw [f_R_has, if_pos c_1]), trivial⟩, hS.F ht⟩) hS.2.2 dX3_has_17
  · skip
    have z_0 : ((0) : Int32).toInt = (0) := by decide
    have t_1 := mt Int32.lt_iff_toInt_lt.mpr c_1
    refine lv_iload_n hx hb dX3_has_4 rfl (lv_at hl 1 rfl) ?_
    refine lv_aload_n hx hb dX3_has_5 rfl (lv_at hl 0 rfl) ?_
    refine va_get (D := D) (ci := 3) (v := .int (S 24 0)) (C := RX3) (T := TX3) (N := 6) hx hb hB inX3 hown hK hP 3 rfl rfl 5 (by decide) (hB _ k1_75) (fun _ h9 => h9) rfl dX3_has_6 ?_
    have b_2 : (0) ≤ (S 24 0).toInt ∧ (S 24 0).toInt ≤ 80 := iv_24 hI
    refine lv_icmp_ge (tgt := 16) hx hb dX3_has_9 (by decide) (fun c_3 => ?_) (fun c_3 => ?_)
    · skip
      have t_3 := Int32.le_iff_toInt_le.mp c_3
      refine lv_iconst (v := 0) hx hb dX3_has_16 (by decide) ?_
      exact W.zret (v := 0) hx hb hr (by decide) (fun t ht hW => ⟨⟨0, (), rfl, (by rw [f_R_has, if_neg c_1, if_pos c_3]), trivial⟩, hS.F ht⟩) hS.2.2 dX3_has_17
    · skip
      have t_3 := mt Int32.le_iff_toInt_le.mpr c_3
      refine lv_iconst (v := 1) hx hb dX3_has_12 (by decide) ?_
      refine lv_goto (tgt := 17) hx hb dX3_has_13 (by decide) ?_
      exact W.zret (v := 1) hx hb hr (by decide) (fun t ht hW => ⟨⟨1, (), rfl, (by rw [f_R_has, if_neg c_1, if_neg c_3]), trivial⟩, hS.F ht⟩) hS.2.2 dX3_has_17
set_option maxHeartbeats 4000000 in
set_option maxRecDepth 100000 in
theorem m_R_hasRoomFor (l : Launch) (D : va_G) (h : Nat → Nat) (cI cZ : ClassId) (S : BS) (hI : IV S) (a1 : Int32) : PM l yX3_hasRoomFor wsX3_hasRoomFor { frames := 0, cells := 0, slots := 0, locals := 0 } D cI cZ h S [.ref (h 3), .int a1] (f_R_hasRoomFor S a1) := by
  refine Met.ofW (cc := cX3_hasRoomFor) (maxL := 2) (ret := (some .boolean)) (by decide) rfl ?_
  intro p e s m args below meth c s₁ B hml hv
  obtain ⟨rfl, hP, hK, hN⟩ := hv
  have hx := B.exec
  have hb := B.bytes
  have hr := B.returns
  have hts := atoms_spec (ws := wsX3_hasRoomFor) B.pre
  have hB : ∀ w ∈ BW, w.before _ s = true := fun w h => hts w (List.mem_cons_of_mem _ h)
  have hown : s.vm.findClass RX3 = some m.cls := findClass_of_methodNamed B.named
  have hlocks := B.notSynchronized
  have hS : va_S (fun _ => False) s.heap s.heap [] := va_S.rf
  have hl := lv_entry ([.ref (h 3), .int a1]) (n := 2) (Nat.le_of_ble_eq_true rfl)
  rw [lg_entry_eq]
  generalize (lg_sl ([.ref (h 3), .int a1]) ++ List.replicate (2 - (lg_sl ([.ref (h 3), .int a1])).length) Slot.unset).toArray = ls at hl ⊢
  have hl : lv_has ls 2 [(0, .ref (h 3)), (1, .int a1)] := hl
  refine lv_aload_n hx hb dX3_hasRoomFor_0 rfl (lv_at hl 0 rfl) ?_
  refine va_get (D := D) (ci := 3) (v := .int (S 24 0)) (C := RX3) (T := TX3) (N := 6) hx hb hB inX3 hown hK hP 3 rfl rfl 5 (by decide) (hB _ k1_75) (fun _ h9 => h9) rfl dX3_hasRoomFor_1 ?_
  have b_1 : (0) ≤ (S 24 0).toInt ∧ (S 24 0).toInt ≤ 80 := iv_24 hI
  refine lv_iload_n hx hb dX3_hasRoomFor_4 rfl (lv_at hl 1 rfl) ?_
  refine lv_iadd hx hb dX3_hasRoomFor_5 ?_
  refine lv_bipush (v := 80) hx hb dX3_hasRoomFor_6 (by decide) ?_
  refine lv_icmp_gt (tgt := 15) hx hb dX3_hasRoomFor_8 (by decide) (fun c_2 => ?_) (fun c_2 => ?_)
  · skip
    have z_80 : ((80) : Int32).toInt = (80) := by decide
    have t_2 := Int32.lt_iff_toInt_lt.mp c_2
    refine lv_iconst (v := 0) hx hb dX3_hasRoomFor_15 (by decide) ?_
    exact W.zret (v := 0) hx hb hr (by decide) (fun t ht hW => ⟨⟨0, (), rfl, (by rw [f_R_hasRoomFor, if_pos c_2]), trivial⟩, hS.F ht⟩) hS.2.2 dX3_hasRoomFor_16
  · skip
    have z_80 : ((80) : Int32).toInt = (80) := by decide
    have t_2 := mt Int32.lt_iff_toInt_lt.mpr c_2
    refine lv_iconst (v := 1) hx hb dX3_hasRoomFor_11 (by decide) ?_
    refine lv_goto (tgt := 16) hx hb dX3_hasRoomFor_12 (by decide) ?_
    exact W.zret (v := 1) hx hb hr (by decide) (fun t ht hW => ⟨⟨1, (), rfl, (by rw [f_R_hasRoomFor, if_neg c_2]), trivial⟩, hS.F ht⟩) hS.2.2 dX3_hasRoomFor_16
set_option maxHeartbeats 4000000 in
set_option maxRecDepth 100000 in
theorem m_A_isOdd (l : Launch) (D : va_G) (h : Nat → Nat) (cI cZ : ClassId) (S : BS) (hI : IV S) (a1 : Int32) : PM l yX0_isOdd wsX0_isOdd { frames := 0, cells := 0, slots := 0, locals := 0 } D cI cZ h S [.int a1] (f_A_isOdd a1) := by
  refine Met.ofW (cc := cX0_isOdd) (maxL := 1) (ret := (some .boolean)) (by decide) rfl ?_
  intro p e s m args below meth c s₁ B hml hv
  obtain ⟨rfl, hP, hK, hN⟩ := hv
  have hx := B.exec
  have hb := B.bytes
  have hr := B.returns
  have hts := atoms_spec (ws := wsX0_isOdd) B.pre
  have hB : ∀ w ∈ BW, w.before _ s = true := fun w h => hts w (List.mem_cons_of_mem _ h)
  have hown : s.vm.findClass RX0 = some m.cls := findClass_of_methodNamed B.named
  have hlocks := B.notSynchronized
  have hS : va_S (fun _ => False) s.heap s.heap [] := va_S.rf
  have hl := lv_entry ([.int a1]) (n := 1) (Nat.le_of_ble_eq_true rfl)
  rw [lg_entry_eq]
  generalize (lg_sl ([.int a1]) ++ List.replicate (1 - (lg_sl ([.int a1])).length) Slot.unset).toArray = ls at hl ⊢
  have hl : lv_has ls 1 [(0, .int a1)] := hl
  refine lv_iload_n hx hb dX0_isOdd_0 rfl (lv_at hl 0 rfl) ?_
  refine lv_iconst (v := 1) hx hb dX0_isOdd_1 (by decide) ?_
  refine lv_iand hx hb dX0_isOdd_2 ?_
  refine lv_iconst (v := 1) hx hb dX0_isOdd_3 (by decide) ?_
  refine lv_icmp_ne (tgt := 11) hx hb dX0_isOdd_4 (by decide) (fun c_1 => ?_) (fun c_1 => ?_)
  · skip
    have z_1 : ((1) : Int32).toInt = (1) := by decide
    have t_1 := mt Int32.toInt_inj.mp c_1
    refine lv_iconst (v := 0) hx hb dX0_isOdd_11 (by decide) ?_
    exact W.zret (v := 0) hx hb hr (by decide) (fun t ht hW => ⟨⟨0, (), rfl, (by rw [f_A_isOdd, if_neg c_1]), trivial⟩, hS.F ht⟩) hS.2.2 dX0_isOdd_12
  · skip
    have z_1 : ((1) : Int32).toInt = (1) := by decide
    have t_1 := Int32.toInt_inj.symm.mp c_1
    refine lv_iconst (v := 1) hx hb dX0_isOdd_7 (by decide) ?_
    refine lv_goto (tgt := 12) hx hb dX0_isOdd_8 (by decide) ?_
    exact W.zret (v := 1) hx hb hr (by decide) (fun t ht hW => ⟨⟨1, (), rfl, (by rw [f_A_isOdd, if_pos c_1]), trivial⟩, hS.F ht⟩) hS.2.2 dX0_isOdd_12
set_option maxHeartbeats 4000000 in
set_option maxRecDepth 100000 in
theorem m_A_isOfSide (l : Launch) (D : va_G) (h : Nat → Nat) (cI cZ : ClassId) (S : BS) (hI : IV S) (a1 a2 : Int32) : PM l yX0_isOfSide wsX0_isOfSide { frames := 1, cells := 0, slots := 0, locals := 20 } D cI cZ h S [.int a1, .int a2] (f_A_isOfSide a1 a2) := by
  refine Met.ofW (cc := cX0_isOfSide) (maxL := 2) (ret := (some .boolean)) (by decide) rfl ?_
  intro p e s m args below meth c s₁ B hml hv
  obtain ⟨rfl, hP, hK, hN⟩ := hv
  have hx := B.exec
  have hb := B.bytes
  have hr := B.returns
  have hts := atoms_spec (ws := wsX0_isOfSide) B.pre
  have hB : ∀ w ∈ BW, w.before _ s = true := fun w h => hts w (List.mem_cons_of_mem _ h)
  have hown : s.vm.findClass RX0 = some m.cls := findClass_of_methodNamed B.named
  have hlocks := B.notSynchronized
  have hS : va_S (fun _ => False) s.heap s.heap [] := va_S.rf
  have hl := lv_entry ([.int a1, .int a2]) (n := 2) (Nat.le_of_ble_eq_true rfl)
  rw [lg_entry_eq]
  generalize (lg_sl ([.int a1, .int a2]) ++ List.replicate (2 - (lg_sl ([.int a1, .int a2])).length) Slot.unset).toArray = ls at hl ⊢
  have hl : lv_has ls 2 [(0, .int a1), (1, .int a2)] := hl
  refine lv_iload_n hx hb dX0_isOfSide_0 rfl (lv_at hl 0 rfl) ?_
  refine lv_if_eq (tgt := 15) hx hb dX0_isOfSide_1 (by decide) (fun c_1 => ?_) (fun c_1 => ?_)
  · skip
    have z_0 : ((0) : Int32).toInt = (0) := by decide
    have t_1 := Int32.toInt_inj.symm.mp c_1
    refine lv_iconst (v := 1) hx hb dX0_isOfSide_15 (by decide) ?_
    refine lv_goto (tgt := 20) hx hb dX0_isOfSide_16 (by decide) ?_
    exact W.zret (v := 1) hx hb hr (by decide) (fun t ht hW => ⟨⟨1, (), rfl, (by rw [f_A_isOfSide, if_pos c_1]), trivial⟩, hS.F ht⟩) hS.2.2 dX0_isOfSide_20
  · skip
    have z_0 : ((0) : Int32).toInt = (0) := by decide
    have t_1 := mt Int32.toInt_inj.mp c_1
    refine lv_iload_n hx hb dX0_isOfSide_4 rfl (lv_at hl 1 rfl) ?_
    refine pu_call (va_runS (As := [.int a2]) (rest := []) ⟨hx, hb, hml, hown, hB⟩ (m_A_isOdd l D h cI cZ S hI a2 ) (cwS 1 hB (gS k1_235 k1_236 k1_1 k1_237) rfl rfl rfl (by decide +kernel) ⟨Nat.le_of_ble_eq_true rfl, Nat.le_of_ble_eq_true rfl⟩) ⟨pu_blind, pu_pre hP hK hN⟩ rfl rfl hl.1 rfl (lv_room (Nat.le_of_ble_eq_true rfl)) dX0_isOfSide_5 ⟨Nat.le_of_ble_eq_true rfl, Nat.le_of_ble_eq_true rfl⟩) hP hS (fun H locs hP hS => ?_)
    refine lv_iload_n hx hb dX0_isOfSide_8 rfl (lv_at hl 0 rfl) ?_
    refine pu_call (va_runS (As := [.int a1]) (rest := [.int (f_A_isOdd a2)]) ⟨hx, hb, hml, hown, hB⟩ (m_A_isOdd l D h cI cZ S hI a1 ) (cwS 1 hB (gS k1_235 k1_236 k1_1 k1_237) rfl rfl rfl (by decide +kernel) ⟨Nat.le_of_ble_eq_true rfl, Nat.le_of_ble_eq_true rfl⟩) ⟨pu_blind, pu_pre hP hK hN⟩ rfl rfl hl.1 rfl (lv_room (Nat.le_of_ble_eq_true rfl)) dX0_isOfSide_9 ⟨Nat.le_of_ble_eq_true rfl, Nat.le_of_ble_eq_true rfl⟩) hP hS (fun H locs hP hS => ?_)
    refine lv_icmp_ne (tgt := 19) hx hb dX0_isOfSide_12 (by decide) (fun c_4 => ?_) (fun c_4 => ?_)
    · skip
      refine lv_iconst (v := 0) hx hb dX0_isOfSide_19 (by decide) ?_
      exact W.zret (v := 0) hx hb hr (by decide) (fun t ht hW => ⟨⟨0, (), rfl, (by rw [f_A_isOfSide, if_neg c_1, if_neg c_4]), trivial⟩, hS.F ht⟩) hS.2.2 dX0_isOfSide_20
    · skip
      refine lv_iconst (v := 1) hx hb dX0_isOfSide_15 (by decide) ?_
      refine lv_goto (tgt := 20) hx hb dX0_isOfSide_16 (by decide) ?_
      exact W.zret (v := 1) hx hb hr (by decide) (fun t ht hW => ⟨⟨1, (), rfl, (by rw [f_A_isOfSide, if_neg c_1, if_pos c_4]), trivial⟩, hS.F ht⟩) hS.2.2 dX0_isOfSide_20
set_option maxHeartbeats 4000000 in
set_option maxRecDepth 100000 in
theorem m_A_lowestOf (l : Launch) (D : va_G) (h : Nat → Nat) (cI cZ : ClassId) (S : BS) (hI : IV S) (a1 a2 : Int32) : PM l yX0_lowestOf wsX0_lowestOf { frames := 2, cells := 0, slots := 0, locals := 41 } D cI cZ h S [.int a1, .int a2] (f_A_lowestOf a1 a2) := by
  refine Met.ofW (cc := cX0_lowestOf) (maxL := 2) (ret := (some .int)) (by decide) rfl ?_
  intro p e s m args below meth c s₁ B hml hv
  obtain ⟨rfl, hP, hK, hN⟩ := hv
  have hx := B.exec
  have hb := B.bytes
  have hr := B.returns
  have hts := atoms_spec (ws := wsX0_lowestOf) B.pre
  have hB : ∀ w ∈ BW, w.before _ s = true := fun w h => hts w (List.mem_cons_of_mem _ h)
  have hown : s.vm.findClass RX0 = some m.cls := findClass_of_methodNamed B.named
  have hlocks := B.notSynchronized
  have hS : va_S (fun _ => False) s.heap s.heap [] := va_S.rf
  have hl := lv_entry ([.int a1, .int a2]) (n := 2) (Nat.le_of_ble_eq_true rfl)
  rw [lg_entry_eq]
  generalize (lg_sl ([.int a1, .int a2]) ++ List.replicate (2 - (lg_sl ([.int a1, .int a2])).length) Slot.unset).toArray = ls at hl ⊢
  have hl : lv_has ls 2 [(0, .int a1), (1, .int a2)] := hl
  refine lv_iload_n hx hb dX0_lowestOf_0 rfl (lv_at hl 0 rfl) ?_
  refine lv_iload_n hx hb dX0_lowestOf_1 rfl (lv_at hl 1 rfl) ?_
  refine pu_call (va_runS (As := [.int a1, .int a2]) (rest := []) ⟨hx, hb, hml, hown, hB⟩ (m_A_isOfSide l D h cI cZ S hI a1 a2 ) (cwS 2 hB (gS k1_232 k1_233 k1_1 k1_234) rfl rfl rfl (by decide +kernel) ⟨Nat.le_of_ble_eq_true rfl, Nat.le_of_ble_eq_true rfl⟩) ⟨pu_blind, pu_pre hP hK hN⟩ rfl rfl hl.1 rfl (lv_room (Nat.le_of_ble_eq_true rfl)) dX0_lowestOf_2 ⟨Nat.le_of_ble_eq_true rfl, Nat.le_of_ble_eq_true rfl⟩) hP hS (fun H locs hP hS => ?_)
  refine lv_if_eq (tgt := 12) hx hb dX0_lowestOf_5 (by decide) (fun c_2 => ?_) (fun c_2 => ?_)
  · skip
    refine lv_iload_n hx hb dX0_lowestOf_12 rfl (lv_at hl 1 rfl) ?_
    refine lv_iconst (v := 1) hx hb dX0_lowestOf_13 (by decide) ?_
    refine lv_iadd hx hb dX0_lowestOf_14 ?_
    exact W.iret (v := a2 + 1) hx hb hr (fun t ht hW => ⟨⟨a2 + 1, (), rfl, (by rw [f_A_lowestOf, if_pos c_2]), trivial⟩, hS.F ht⟩) hS.2.2 dX0_lowestOf_15
  · skip
    refine lv_iload_n hx hb dX0_lowestOf_8 rfl (lv_at hl 1 rfl) ?_
    refine lv_goto (tgt := 15) hx hb dX0_lowestOf_9 (by decide) ?_
    exact W.iret (v := a2) hx hb hr (fun t ht hW => ⟨⟨a2, (), rfl, (by rw [f_A_lowestOf, if_neg c_2]), trivial⟩, hS.F ht⟩) hS.2.2 dX0_lowestOf_15
set_option maxHeartbeats 4000000 in
set_option maxRecDepth 100000 in
theorem m_A_highestOf (l : Launch) (D : va_G) (h : Nat → Nat) (cI cZ : ClassId) (S : BS) (hI : IV S) (a1 a2 : Int32) : PM l yX0_highestOf wsX0_highestOf { frames := 2, cells := 0, slots := 0, locals := 41 } D cI cZ h S [.int a1, .int a2] (f_A_highestOf a1 a2) := by
  refine Met.ofW (cc := cX0_highestOf) (maxL := 2) (ret := (some .int)) (by decide) rfl ?_
  intro p e s m args below meth c s₁ B hml hv
  obtain ⟨rfl, hP, hK, hN⟩ := hv
  have hx := B.exec
  have hb := B.bytes
  have hr := B.returns
  have hts := atoms_spec (ws := wsX0_highestOf) B.pre
  have hB : ∀ w ∈ BW, w.before _ s = true := fun w h => hts w (List.mem_cons_of_mem _ h)
  have hown : s.vm.findClass RX0 = some m.cls := findClass_of_methodNamed B.named
  have hlocks := B.notSynchronized
  have hS : va_S (fun _ => False) s.heap s.heap [] := va_S.rf
  have hl := lv_entry ([.int a1, .int a2]) (n := 2) (Nat.le_of_ble_eq_true rfl)
  rw [lg_entry_eq]
  generalize (lg_sl ([.int a1, .int a2]) ++ List.replicate (2 - (lg_sl ([.int a1, .int a2])).length) Slot.unset).toArray = ls at hl ⊢
  have hl : lv_has ls 2 [(0, .int a1), (1, .int a2)] := hl
  refine lv_iload_n hx hb dX0_highestOf_0 rfl (lv_at hl 0 rfl) ?_
  refine lv_iload_n hx hb dX0_highestOf_1 rfl (lv_at hl 1 rfl) ?_
  refine pu_call (va_runS (As := [.int a1, .int a2]) (rest := []) ⟨hx, hb, hml, hown, hB⟩ (m_A_isOfSide l D h cI cZ S hI a1 a2 ) (cwS 2 hB (gS k1_232 k1_233 k1_1 k1_234) rfl rfl rfl (by decide +kernel) ⟨Nat.le_of_ble_eq_true rfl, Nat.le_of_ble_eq_true rfl⟩) ⟨pu_blind, pu_pre hP hK hN⟩ rfl rfl hl.1 rfl (lv_room (Nat.le_of_ble_eq_true rfl)) dX0_highestOf_2 ⟨Nat.le_of_ble_eq_true rfl, Nat.le_of_ble_eq_true rfl⟩) hP hS (fun H locs hP hS => ?_)
  refine lv_if_eq (tgt := 12) hx hb dX0_highestOf_5 (by decide) (fun c_2 => ?_) (fun c_2 => ?_)
  · skip
    refine lv_iload_n hx hb dX0_highestOf_12 rfl (lv_at hl 1 rfl) ?_
    refine lv_iconst (v := 1) hx hb dX0_highestOf_13 (by decide) ?_
    refine lv_isub hx hb dX0_highestOf_14 ?_
    exact W.iret (v := a2 - 1) hx hb hr (fun t ht hW => ⟨⟨a2 - 1, (), rfl, (by rw [f_A_highestOf, if_pos c_2]), trivial⟩, hS.F ht⟩) hS.2.2 dX0_highestOf_15
  · skip
    refine lv_iload_n hx hb dX0_highestOf_8 rfl (lv_at hl 1 rfl) ?_
    refine lv_goto (tgt := 15) hx hb dX0_highestOf_9 (by decide) ?_
    exact W.iret (v := a2) hx hb hr (fun t ht hW => ⟨⟨a2, (), rfl, (by rw [f_A_highestOf, if_neg c_2]), trivial⟩, hS.F ht⟩) hS.2.2 dX0_highestOf_15
set_option maxHeartbeats 4000000 in
set_option maxRecDepth 100000 in
theorem m_R_add (l : Launch) (D : va_G) (h : Nat → Nat) (cI cZ : ClassId) (S : BS) (hI : IV S) (a1 a2 a3 a4 : Int32) (hroom : (S 24 0).toInt < 80) (ha0 : 0 ≤ a1.toInt ∧ a1.toInt ≤ 31) (ha2 : 0 ≤ a3.toInt ∧ a3.toInt ≤ 999) (ha3 : 0 ≤ a4.toInt ∧ a4.toInt ≤ 999) : WM l yX3_add wsX3_add { frames := 3, cells := 0, slots := 0, locals := 62 } D cI cZ h S [.ref (h 3), .int a1, .int a2, .int a3, .int a4] (F_R_add S a1 a2 a3 a4) := by
  refine Met.ofW (cc := cX3_add) (maxL := 5) (ret := (some .int)) (by decide) rfl ?_
  intro p e s m args below meth c s₁ B hml hv
  obtain ⟨rfl, hP, hK, hN, hD0⟩ := hv
  have hx := B.exec
  have hb := B.bytes
  have hr := B.returns
  have hts := atoms_spec (ws := wsX3_add) B.pre
  have hB : ∀ w ∈ BW, w.before _ s = true := fun w h => hts w (List.mem_cons_of_mem _ h)
  have hown : s.vm.findClass RX3 = some m.cls := findClass_of_methodNamed B.named
  have hlocks := B.notSynchronized
  have hD := bD hD0
  have hS : va_S (bA h) s.heap s.heap [] := va_S.rf
  have hl := lv_entry ([.ref (h 3), .int a1, .int a2, .int a3, .int a4]) (n := 5) (Nat.le_of_ble_eq_true rfl)
  rw [lg_entry_eq]
  generalize (lg_sl ([.ref (h 3), .int a1, .int a2, .int a3, .int a4]) ++ List.replicate (5 - (lg_sl ([.ref (h 3), .int a1, .int a2, .int a3, .int a4])).length) Slot.unset).toArray = ls at hl ⊢
  have hl : lv_has ls 5 [(0, .ref (h 3)), (1, .int a1), (2, .int a2), (3, .int a3), (4, .int a4)] := hl
  refine lv_aload_n hx hb dX3_add_0 rfl (lv_at hl 0 rfl) ?_
  refine va_get (D := D) (ci := 3) (v := .ref (h 12)) (C := RX3) (T := TX3) (N := 6) hx hb hB inX3 hown hK hP 3 rfl rfl 0 (by decide) (hB _ k1_65) (fun _ h9 => h9) rfl dX3_add_1 ?_
  refine lv_aload_n hx hb dX3_add_4 rfl (lv_at hl 0 rfl) ?_
  refine va_get (D := D) (ci := 3) (v := .int (S 24 0)) (C := RX3) (T := TX3) (N := 6) hx hb hB inX3 hown hK hP 3 rfl rfl 5 (by decide) (hB _ k1_75) (fun _ h9 => h9) rfl dX3_add_5 ?_
  have b_1 : (0) ≤ (S 24 0).toInt ∧ (S 24 0).toInt ≤ 80 := iv_24 hI
  refine lv_iload_n hx hb dX3_add_8 rfl (lv_at hl 1 rfl) ?_
  refine va_iast (f := S 6) hx hb hK hP hD hS 12 0 rfl rfl (vp_in_iff.mpr (by omega)) dX3_add_9 (fun H locs hP hD hS => ?_)
  have hP : va_P D vwCl (wB h cI cZ (upS S 6 ((S 24 0).toNatClampNeg) a1)) H := hP
  have hD : va_D (bA h) (wB h cI cZ (upS S 6 ((S 24 0).toNatClampNeg) a1)) := hD
  have hI_2 : IV (upS S 6 ((S 24 0).toNatClampNeg) a1) := iv_up (S := S) hI 6 ((S 24 0).toNatClampNeg) a1 (iv_one 6 0 31 rfl (by omega))
  refine lv_aload_n hx hb dX3_add_10 rfl (lv_at hl 0 rfl) ?_
  refine va_get (D := D) (ci := 3) (v := .ref (h 13)) (C := RX3) (T := TX3) (N := 6) hx hb hB inX3 hown hK hP 3 rfl rfl 1 (by decide) (hB _ k1_67) (fun _ h9 => h9) rfl dX3_add_11 ?_
  refine lv_aload_n hx hb dX3_add_14 rfl (lv_at hl 0 rfl) ?_
  refine va_get (D := D) (ci := 3) (v := .int (S 24 0)) (C := RX3) (T := TX3) (N := 6) hx hb hB inX3 hown hK hP 3 rfl rfl 5 (by decide) (hB _ k1_75) (fun _ h9 => h9) rfl dX3_add_15 ?_
  have b_3 : (0) ≤ (S 24 0).toInt ∧ (S 24 0).toInt ≤ 80 := iv_24 hI_2
  refine lv_iload_n hx hb dX3_add_18 rfl (lv_at hl 2 rfl) ?_
  refine va_iast (f := S 7) hx hb hK hP hD hS 13 0 rfl rfl (vp_in_iff.mpr (by omega)) dX3_add_19 (fun H locs hP hD hS => ?_)
  have hP : va_P D vwCl (wB h cI cZ (upS (upS S 6 ((S 24 0).toNatClampNeg) a1) 7 ((S 24 0).toNatClampNeg) a2)) H := hP
  have hD : va_D (bA h) (wB h cI cZ (upS (upS S 6 ((S 24 0).toNatClampNeg) a1) 7 ((S 24 0).toNatClampNeg) a2)) := hD
  have hI_4 : IV (upS (upS S 6 ((S 24 0).toNatClampNeg) a1) 7 ((S 24 0).toNatClampNeg) a2) := iv_up (S := upS S 6 ((S 24 0).toNatClampNeg) a1) hI_2 7 ((S 24 0).toNatClampNeg) a2 (iv_none 7 rfl)
  refine lv_aload_n hx hb dX3_add_20 rfl (lv_at hl 0 rfl) ?_
  refine va_get (D := D) (ci := 3) (v := .ref (h 14)) (C := RX3) (T := TX3) (N := 6) hx hb hB inX3 hown hK hP 3 rfl rfl 2 (by decide) (hB _ k1_69) (fun _ h9 => h9) rfl dX3_add_21 ?_
  refine lv_aload_n hx hb dX3_add_24 rfl (lv_at hl 0 rfl) ?_
  refine va_get (D := D) (ci := 3) (v := .int (S 24 0)) (C := RX3) (T := TX3) (N := 6) hx hb hB inX3 hown hK hP 3 rfl rfl 5 (by decide) (hB _ k1_75) (fun _ h9 => h9) rfl dX3_add_25 ?_
  have b_5 : (0) ≤ (S 24 0).toInt ∧ (S 24 0).toInt ≤ 80 := iv_24 hI_4
  refine lv_iload_n hx hb dX3_add_28 rfl (lv_at hl 2 rfl) ?_
  refine lv_iload_n hx hb dX3_add_29 rfl (lv_at hl 3 rfl) ?_
  refine pu_call (va_runSN (As := [.int a2, .int a3]) (rest := [.int (S 24 0), .ref (h 14)]) ⟨hx, hb, hml, hown, hB⟩ (m_A_lowestOf l D h cI cZ (upS (upS S 6 ((S 24 0).toNatClampNeg) a1) 7 ((S 24 0).toNatClampNeg) a2) hI_4 a2 a3 ) ⟨va_cnB 2 hB (gB k1_231) rfl rfl rfl (hN _ kn_0) (hB _ k1_1) (by decide +kernel) ⟨Nat.le_of_ble_eq_true rfl, Nat.le_of_ble_eq_true rfl⟩, hB _ k1_230, trivial⟩ ⟨pu_blind, pu_pre hP hK hN⟩ rfl rfl hl.1 rfl (lv_room (Nat.le_of_ble_eq_true rfl)) dX3_add_30 ⟨Nat.le_of_ble_eq_true rfl, Nat.le_of_ble_eq_true rfl⟩) hP hS (fun H locs hP hS => ?_)
  have k_6 := fc_A_lowestOf (a1 := a2) (a2 := a3) (by omega)
  refine va_iast (f := S 8) hx hb hK hP hD hS 14 0 rfl rfl (vp_in_iff.mpr (by omega)) dX3_add_33 (fun H locs hP hD hS => ?_)
  have hP : va_P D vwCl (wB h cI cZ (upS (upS (upS S 6 ((S 24 0).toNatClampNeg) a1) 7 ((S 24 0).toNatClampNeg) a2) 8 ((S 24 0).toNatClampNeg) (f_A_lowestOf a2 a3))) H := hP
  have hD : va_D (bA h) (wB h cI cZ (upS (upS (upS S 6 ((S 24 0).toNatClampNeg) a1) 7 ((S 24 0).toNatClampNeg) a2) 8 ((S 24 0).toNatClampNeg) (f_A_lowestOf a2 a3))) := hD
  have hI_7 : IV (upS (upS (upS S 6 ((S 24 0).toNatClampNeg) a1) 7 ((S 24 0).toNatClampNeg) a2) 8 ((S 24 0).toNatClampNeg) (f_A_lowestOf a2 a3)) := iv_up (S := upS (upS S 6 ((S 24 0).toNatClampNeg) a1) 7 ((S 24 0).toNatClampNeg) a2) hI_4 8 ((S 24 0).toNatClampNeg) (f_A_lowestOf a2 a3) (iv_one 8 0 1000 rfl (by omega))
  refine lv_aload_n hx hb dX3_add_34 rfl (lv_at hl 0 rfl) ?_
  refine va_get (D := D) (ci := 3) (v := .ref (h 15)) (C := RX3) (T := TX3) (N := 6) hx hb hB inX3 hown hK hP 3 rfl rfl 3 (by decide) (hB _ k1_71) (fun _ h9 => h9) rfl dX3_add_35 ?_
  refine lv_aload_n hx hb dX3_add_38 rfl (lv_at hl 0 rfl) ?_
  refine va_get (D := D) (ci := 3) (v := .int (S 24 0)) (C := RX3) (T := TX3) (N := 6) hx hb hB inX3 hown hK hP 3 rfl rfl 5 (by decide) (hB _ k1_75) (fun _ h9 => h9) rfl dX3_add_39 ?_
  have b_8 : (0) ≤ (S 24 0).toInt ∧ (S 24 0).toInt ≤ 80 := iv_24 hI_7
  refine lv_iload_n hx hb dX3_add_42 rfl (lv_at hl 2 rfl) ?_
  refine lv_iload hx hb dX3_add_43 (lv_at hl 4 rfl) ?_
  refine pu_call (va_runSN (As := [.int a2, .int a4]) (rest := [.int (S 24 0), .ref (h 15)]) ⟨hx, hb, hml, hown, hB⟩ (m_A_highestOf l D h cI cZ (upS (upS (upS S 6 ((S 24 0).toNatClampNeg) a1) 7 ((S 24 0).toNatClampNeg) a2) 8 ((S 24 0).toNatClampNeg) (f_A_lowestOf a2 a3)) hI_7 a2 a4 ) ⟨va_cnB 2 hB (gB k2_0) rfl rfl rfl (hN _ kn_1) (hB _ k1_1) (by decide +kernel) ⟨Nat.le_of_ble_eq_true rfl, Nat.le_of_ble_eq_true rfl⟩, hB _ k1_239, trivial⟩ ⟨pu_blind, pu_pre hP hK hN⟩ rfl rfl hl.1 rfl (lv_room (Nat.le_of_ble_eq_true rfl)) dX3_add_45 ⟨Nat.le_of_ble_eq_true rfl, Nat.le_of_ble_eq_true rfl⟩) hP hS (fun H locs hP hS => ?_)
  have k_9 := fc_A_highestOf (a1 := a2) (a2 := a4) (by omega)
  refine va_iast (f := S 9) hx hb hK hP hD hS 15 0 rfl rfl (vp_in_iff.mpr (by omega)) dX3_add_48 (fun H locs hP hD hS => ?_)
  have hP : va_P D vwCl (wB h cI cZ (upS (upS (upS (upS S 6 ((S 24 0).toNatClampNeg) a1) 7 ((S 24 0).toNatClampNeg) a2) 8 ((S 24 0).toNatClampNeg) (f_A_lowestOf a2 a3)) 9 ((S 24 0).toNatClampNeg) (f_A_highestOf a2 a4))) H := hP
  have hD : va_D (bA h) (wB h cI cZ (upS (upS (upS (upS S 6 ((S 24 0).toNatClampNeg) a1) 7 ((S 24 0).toNatClampNeg) a2) 8 ((S 24 0).toNatClampNeg) (f_A_lowestOf a2 a3)) 9 ((S 24 0).toNatClampNeg) (f_A_highestOf a2 a4))) := hD
  have hI_10 : IV (upS (upS (upS (upS S 6 ((S 24 0).toNatClampNeg) a1) 7 ((S 24 0).toNatClampNeg) a2) 8 ((S 24 0).toNatClampNeg) (f_A_lowestOf a2 a3)) 9 ((S 24 0).toNatClampNeg) (f_A_highestOf a2 a4)) := iv_up (S := upS (upS (upS S 6 ((S 24 0).toNatClampNeg) a1) 7 ((S 24 0).toNatClampNeg) a2) 8 ((S 24 0).toNatClampNeg) (f_A_lowestOf a2 a3)) hI_7 9 ((S 24 0).toNatClampNeg) (f_A_highestOf a2 a4) (iv_one 9 -1 999 rfl (by omega))
  refine lv_aload_n hx hb dX3_add_49 rfl (lv_at hl 0 rfl) ?_
  refine va_get (D := D) (ci := 3) (v := .ref (h 16)) (C := RX3) (T := TX3) (N := 6) hx hb hB inX3 hown hK hP 3 rfl rfl 4 (by decide) (hB _ k1_73) (fun _ h9 => h9) rfl dX3_add_50 ?_
  refine lv_aload_n hx hb dX3_add_53 rfl (lv_at hl 0 rfl) ?_
  refine va_get (D := D) (ci := 3) (v := .int (S 24 0)) (C := RX3) (T := TX3) (N := 6) hx hb hB inX3 hown hK hP 3 rfl rfl 5 (by decide) (hB _ k1_75) (fun _ h9 => h9) rfl dX3_add_54 ?_
  have b_11 : (0) ≤ (S 24 0).toInt ∧ (S 24 0).toInt ≤ 80 := iv_24 hI_10
  refine lv_iconst (v := 1) hx hb dX3_add_57 (by decide) ?_
  refine va_zast (f := S 10) hx hb hK hP hD hS 16 1 rfl rfl (vp_in_iff.mpr (by omega)) dX3_add_58 (fun H locs hP hD hS => ?_)
  rw [show vp_nar .boolean 1 = 1 from by first | rfl | decide] at hP hD
  have hP : va_P D vwCl (wB h cI cZ (upS (upS (upS (upS (upS S 6 ((S 24 0).toNatClampNeg) a1) 7 ((S 24 0).toNatClampNeg) a2) 8 ((S 24 0).toNatClampNeg) (f_A_lowestOf a2 a3)) 9 ((S 24 0).toNatClampNeg) (f_A_highestOf a2 a4)) 10 ((S 24 0).toNatClampNeg) 1)) H := hP
  have hD : va_D (bA h) (wB h cI cZ (upS (upS (upS (upS (upS S 6 ((S 24 0).toNatClampNeg) a1) 7 ((S 24 0).toNatClampNeg) a2) 8 ((S 24 0).toNatClampNeg) (f_A_lowestOf a2 a3)) 9 ((S 24 0).toNatClampNeg) (f_A_highestOf a2 a4)) 10 ((S 24 0).toNatClampNeg) 1)) := hD
  have hI_12 : IV (upS (upS (upS (upS (upS S 6 ((S 24 0).toNatClampNeg) a1) 7 ((S 24 0).toNatClampNeg) a2) 8 ((S 24 0).toNatClampNeg) (f_A_lowestOf a2 a3)) 9 ((S 24 0).toNatClampNeg) (f_A_highestOf a2 a4)) 10 ((S 24 0).toNatClampNeg) 1) := iv_up (S := upS (upS (upS (upS S 6 ((S 24 0).toNatClampNeg) a1) 7 ((S 24 0).toNatClampNeg) a2) 8 ((S 24 0).toNatClampNeg) (f_A_lowestOf a2 a3)) 9 ((S 24 0).toNatClampNeg) (f_A_highestOf a2 a4)) hI_10 10 ((S 24 0).toNatClampNeg) 1 (iv_one 10 0 1 rfl (by decide))
  refine lv_aload_n hx hb dX3_add_59 rfl (lv_at hl 0 rfl) ?_
  refine lv_dup hx hb dX3_add_60 rfl ?_
  refine va_get (D := D) (ci := 3) (v := .int (S 24 0)) (C := RX3) (T := TX3) (N := 6) hx hb hB inX3 hown hK hP 3 rfl rfl 5 (by decide) (hB _ k1_75) (fun _ h9 => h9) rfl dX3_add_61 ?_
  have b_13 : (0) ≤ (S 24 0).toInt ∧ (S 24 0).toInt ≤ 80 := iv_24 hI_12
  refine lv_iconst (v := 1) hx hb dX3_add_64 (by decide) ?_
  refine lv_iadd hx hb dX3_add_65 ?_
  refine va_put (D := D) (ci := 3) (v := .int ((S 24 0) + 1)) (ty := .int) (C := RX3) (T := TX3) (N := 6) hx hb hB inX3 tyX3 tyX3_ok nmX3 hown hK hP hD hS 3 rfl rfl 5 (by decide) (hB _ k1_75) (fun _ h9 => h9) rfl (by decide +kernel) rfl rfl (Nat.le_of_ble_eq_true rfl) dX3_add_66 (fun H locs hP hD hS => ?_)
  have hP : va_P D vwCl (wB h cI cZ (upS (upS (upS (upS (upS (upS S 6 ((S 24 0).toNatClampNeg) a1) 7 ((S 24 0).toNatClampNeg) a2) 8 ((S 24 0).toNatClampNeg) (f_A_lowestOf a2 a3)) 9 ((S 24 0).toNatClampNeg) (f_A_highestOf a2 a4)) 10 ((S 24 0).toNatClampNeg) 1) 24 0 ((S 24 0) + 1))) H := hP
  have hD : va_D (bA h) (wB h cI cZ (upS (upS (upS (upS (upS (upS S 6 ((S 24 0).toNatClampNeg) a1) 7 ((S 24 0).toNatClampNeg) a2) 8 ((S 24 0).toNatClampNeg) (f_A_lowestOf a2 a3)) 9 ((S 24 0).toNatClampNeg) (f_A_highestOf a2 a4)) 10 ((S 24 0).toNatClampNeg) 1) 24 0 ((S 24 0) + 1))) := hD
  have k_15 := i32_inc (x := (S 24 0)) (by omega) (by omega)
  have hI_14 : IV (upS (upS (upS (upS (upS (upS S 6 ((S 24 0).toNatClampNeg) a1) 7 ((S 24 0).toNatClampNeg) a2) 8 ((S 24 0).toNatClampNeg) (f_A_lowestOf a2 a3)) 9 ((S 24 0).toNatClampNeg) (f_A_highestOf a2 a4)) 10 ((S 24 0).toNatClampNeg) 1) 24 0 ((S 24 0) + 1)) := iv_up (S := upS (upS (upS (upS (upS S 6 ((S 24 0).toNatClampNeg) a1) 7 ((S 24 0).toNatClampNeg) a2) 8 ((S 24 0).toNatClampNeg) (f_A_lowestOf a2 a3)) 9 ((S 24 0).toNatClampNeg) (f_A_highestOf a2 a4)) 10 ((S 24 0).toNatClampNeg) 1) hI_12 24 0 ((S 24 0) + 1) (iv_one 24 0 80 rfl (by omega))
  refine lv_aload_n hx hb dX3_add_69 rfl (lv_at hl 0 rfl) ?_
  refine va_get (D := D) (ci := 3) (v := .int ((S 24 0) + 1)) (C := RX3) (T := TX3) (N := 6) hx hb hB inX3 hown hK hP 3 rfl rfl 5 (by decide) (hB _ k1_75) (fun _ h9 => h9) rfl dX3_add_70 ?_
  have b_16 : (0) ≤ ((S 24 0) + 1).toInt ∧ ((S 24 0) + 1).toInt ≤ 80 := iv_24 hI_14
  refine lv_iconst (v := 1) hx hb dX3_add_73 (by decide) ?_
  refine lv_isub hx hb dX3_add_74 ?_
  exact W.iret (v := ((S 24 0) + 1) - 1) hx hb hr (fun t ht hW => ⟨⟨((S 24 0) + 1) - 1, upS (upS (upS (upS (upS (upS S 6 ((S 24 0).toNatClampNeg) a1) 7 ((S 24 0).toNatClampNeg) a2) 8 ((S 24 0).toNatClampNeg) (f_A_lowestOf a2 a3)) 9 ((S 24 0).toNatClampNeg) (f_A_highestOf a2 a4)) 10 ((S 24 0).toNatClampNeg) 1) 24 0 ((S 24 0) + 1), rfl, ⟨(by rw [F_R_add]), hI_14⟩, by rw [ht]; exact hP⟩, hS.F ht⟩) hS.2.2 dX3_add_75
set_option maxHeartbeats 4000000 in
set_option maxRecDepth 100000 in
theorem m_A_isWithin (l : Launch) (D : va_G) (h : Nat → Nat) (cI cZ : ClassId) (S : BS) (hI : IV S) (a1 a2 a3 : Int32) : PM l yX0_isWithin wsX0_isWithin { frames := 0, cells := 0, slots := 0, locals := 0 } D cI cZ h S [.int a1, .int a2, .int a3] (f_A_isWithin a1 a2 a3) := by
  refine Met.ofW (cc := cX0_isWithin) (maxL := 3) (ret := (some .boolean)) (by decide) rfl ?_
  intro p e s m args below meth c s₁ B hml hv
  obtain ⟨rfl, hP, hK, hN⟩ := hv
  have hx := B.exec
  have hb := B.bytes
  have hr := B.returns
  have hts := atoms_spec (ws := wsX0_isWithin) B.pre
  have hB : ∀ w ∈ BW, w.before _ s = true := fun w h => hts w (List.mem_cons_of_mem _ h)
  have hown : s.vm.findClass RX0 = some m.cls := findClass_of_methodNamed B.named
  have hlocks := B.notSynchronized
  have hS : va_S (fun _ => False) s.heap s.heap [] := va_S.rf
  have hl := lv_entry ([.int a1, .int a2, .int a3]) (n := 3) (Nat.le_of_ble_eq_true rfl)
  rw [lg_entry_eq]
  generalize (lg_sl ([.int a1, .int a2, .int a3]) ++ List.replicate (3 - (lg_sl ([.int a1, .int a2, .int a3])).length) Slot.unset).toArray = ls at hl ⊢
  have hl : lv_has ls 3 [(0, .int a1), (1, .int a2), (2, .int a3)] := hl
  refine lv_iload_n hx hb dX0_isWithin_0 rfl (lv_at hl 0 rfl) ?_
  refine lv_iload_n hx hb dX0_isWithin_1 rfl (lv_at hl 1 rfl) ?_
  refine lv_icmp_lt (tgt := 14) hx hb dX0_isWithin_2 (by decide) (fun c_1 => ?_) (fun c_1 => ?_)
  · skip
    have t_1 := Int32.lt_iff_toInt_lt.mp c_1
    refine lv_iconst (v := 0) hx hb dX0_isWithin_14 (by decide) ?_
    exact W.zret (v := 0) hx hb hr (by decide) (fun t ht hW => ⟨⟨0, (), rfl, (by rw [f_A_isWithin, if_pos c_1]), trivial⟩, hS.F ht⟩) hS.2.2 dX0_isWithin_15
  · skip
    have t_1 := mt Int32.lt_iff_toInt_lt.mpr c_1
    refine lv_iload_n hx hb dX0_isWithin_5 rfl (lv_at hl 0 rfl) ?_
    refine lv_iload_n hx hb dX0_isWithin_6 rfl (lv_at hl 2 rfl) ?_
    refine lv_icmp_gt (tgt := 14) hx hb dX0_isWithin_7 (by decide) (fun c_2 => ?_) (fun c_2 => ?_)
    · skip
      have t_2 := Int32.lt_iff_toInt_lt.mp c_2
      refine lv_iconst (v := 0) hx hb dX0_isWithin_14 (by decide) ?_
      exact W.zret (v := 0) hx hb hr (by decide) (fun t ht hW => ⟨⟨0, (), rfl, (by rw [f_A_isWithin, if_neg c_1, if_pos c_2]), trivial⟩, hS.F ht⟩) hS.2.2 dX0_isWithin_15
    · skip
      have t_2 := mt Int32.lt_iff_toInt_lt.mpr c_2
      refine lv_iconst (v := 1) hx hb dX0_isWithin_10 (by decide) ?_
      refine lv_goto (tgt := 15) hx hb dX0_isWithin_11 (by decide) ?_
      exact W.zret (v := 1) hx hb hr (by decide) (fun t ht hW => ⟨⟨1, (), rfl, (by rw [f_A_isWithin, if_neg c_1, if_neg c_2]), trivial⟩, hS.F ht⟩) hS.2.2 dX0_isWithin_15
set_option maxHeartbeats 4000000 in
set_option maxRecDepth 100000 in
theorem m_R_holds (l : Launch) (D : va_G) (h : Nat → Nat) (cI cZ : ClassId) (S : BS) (hI : IV S) (a1 a2 : Int32) (ha0 : 0 ≤ a1.toInt ∧ a1.toInt ≤ 79) : PM l yX3_holds wsX3_holds { frames := 2, cells := 0, slots := 0, locals := 41 } D cI cZ h S [.ref (h 3), .int a1, .int a2] (f_R_holds S a1 a2) := by
  refine Met.ofW (cc := cX3_holds) (maxL := 3) (ret := (some .boolean)) (by decide) rfl ?_
  intro p e s m args below meth c s₁ B hml hv
  obtain ⟨rfl, hP, hK, hN⟩ := hv
  have hx := B.exec
  have hb := B.bytes
  have hr := B.returns
  have hts := atoms_spec (ws := wsX3_holds) B.pre
  have hB : ∀ w ∈ BW, w.before _ s = true := fun w h => hts w (List.mem_cons_of_mem _ h)
  have hown : s.vm.findClass RX3 = some m.cls := findClass_of_methodNamed B.named
  have hlocks := B.notSynchronized
  have hS : va_S (fun _ => False) s.heap s.heap [] := va_S.rf
  have hl := lv_entry ([.ref (h 3), .int a1, .int a2]) (n := 3) (Nat.le_of_ble_eq_true rfl)
  rw [lg_entry_eq]
  generalize (lg_sl ([.ref (h 3), .int a1, .int a2]) ++ List.replicate (3 - (lg_sl ([.ref (h 3), .int a1, .int a2])).length) Slot.unset).toArray = ls at hl ⊢
  have hl : lv_has ls 3 [(0, .ref (h 3)), (1, .int a1), (2, .int a2)] := hl
  refine lv_iload_n hx hb dX3_holds_0 rfl (lv_at hl 2 rfl) ?_
  refine lv_aload_n hx hb dX3_holds_1 rfl (lv_at hl 0 rfl) ?_
  refine va_get (D := D) (ci := 3) (v := .ref (h 14)) (C := RX3) (T := TX3) (N := 6) hx hb hB inX3 hown hK hP 3 rfl rfl 2 (by decide) (hB _ k1_69) (fun _ h9 => h9) rfl dX3_holds_2 ?_
  refine lv_iload_n hx hb dX3_holds_5 rfl (lv_at hl 1 rfl) ?_
  refine va_iald (f := S 8) hx hb hK hP 14 0 rfl rfl (vp_in_iff.mpr (by omega)) dX3_holds_6 ?_
  have b_1 : (0) ≤ (S 8 a1.toNatClampNeg).toInt ∧ (S 8 a1.toNatClampNeg).toInt ≤ 1000 := iv_8 hI a1.toNatClampNeg
  refine lv_aload_n hx hb dX3_holds_7 rfl (lv_at hl 0 rfl) ?_
  refine va_get (D := D) (ci := 3) (v := .ref (h 15)) (C := RX3) (T := TX3) (N := 6) hx hb hB inX3 hown hK hP 3 rfl rfl 3 (by decide) (hB _ k1_71) (fun _ h9 => h9) rfl dX3_holds_8 ?_
  refine lv_iload_n hx hb dX3_holds_11 rfl (lv_at hl 1 rfl) ?_
  refine va_iald (f := S 9) hx hb hK hP 15 0 rfl rfl (vp_in_iff.mpr (by omega)) dX3_holds_12 ?_
  have b_2 : (-1) ≤ (S 9 a1.toNatClampNeg).toInt ∧ (S 9 a1.toNatClampNeg).toInt ≤ 999 := iv_9 hI a1.toNatClampNeg
  refine pu_call (va_runSN (As := [.int a2, .int (S 8 a1.toNatClampNeg), .int (S 9 a1.toNatClampNeg)]) (rest := []) ⟨hx, hb, hml, hown, hB⟩ (m_A_isWithin l D h cI cZ S hI a2 (S 8 a1.toNatClampNeg) (S 9 a1.toNatClampNeg) ) ⟨va_cnB 3 hB (gB k1_178) rfl rfl rfl (hN _ kn_2) (hB _ k1_1) (by decide +kernel) ⟨Nat.le_of_ble_eq_true rfl, Nat.le_of_ble_eq_true rfl⟩, hB _ k1_177, trivial⟩ ⟨pu_blind, pu_pre hP hK hN⟩ rfl rfl hl.1 rfl (lv_room (Nat.le_of_ble_eq_true rfl)) dX3_holds_13 ⟨Nat.le_of_ble_eq_true rfl, Nat.le_of_ble_eq_true rfl⟩) hP hS (fun H locs hP hS => ?_)
  refine lv_if_eq (tgt := 36) hx hb dX3_holds_16 (by decide) (fun c_4 => ?_) (fun c_4 => ?_)
  · skip
    refine lv_iconst (v := 0) hx hb dX3_holds_36 (by decide) ?_
    exact W.zret (v := 0) hx hb hr (by decide) (fun t ht hW => ⟨⟨0, (), rfl, (by rw [f_R_holds, if_pos c_4]), trivial⟩, hS.F ht⟩) hS.2.2 dX3_holds_37
  · skip
    refine lv_aload_n hx hb dX3_holds_19 rfl (lv_at hl 0 rfl) ?_
    refine va_get (D := D) (ci := 3) (v := .ref (h 13)) (C := RX3) (T := TX3) (N := 6) hx hb hB inX3 hown hK hP 3 rfl rfl 1 (by decide) (hB _ k1_67) (fun _ h9 => h9) rfl dX3_holds_20 ?_
    refine lv_iload_n hx hb dX3_holds_23 rfl (lv_at hl 1 rfl) ?_
    refine va_iald (f := S 7) hx hb hK hP 13 0 rfl rfl (vp_in_iff.mpr (by omega)) dX3_holds_24 ?_
    refine lv_iload_n hx hb dX3_holds_25 rfl (lv_at hl 2 rfl) ?_
    refine pu_call (va_runSN (As := [.int (S 7 a1.toNatClampNeg), .int a2]) (rest := []) ⟨hx, hb, hml, hown, hB⟩ (m_A_isOfSide l D h cI cZ S hI (S 7 a1.toNatClampNeg) a2 ) ⟨va_cnB 2 hB (gB k1_234) rfl rfl rfl (hN _ kn_3) (hB _ k1_1) (by decide +kernel) ⟨Nat.le_of_ble_eq_true rfl, Nat.le_of_ble_eq_true rfl⟩, hB _ k1_233, trivial⟩ ⟨pu_blind, pu_pre hP hK hN⟩ rfl rfl hl.1 rfl (lv_room (Nat.le_of_ble_eq_true rfl)) dX3_holds_26 ⟨Nat.le_of_ble_eq_true rfl, Nat.le_of_ble_eq_true rfl⟩) hP hS (fun H locs hP hS => ?_)
    refine lv_if_eq (tgt := 36) hx hb dX3_holds_29 (by decide) (fun c_6 => ?_) (fun c_6 => ?_)
    · skip
      refine lv_iconst (v := 0) hx hb dX3_holds_36 (by decide) ?_
      exact W.zret (v := 0) hx hb hr (by decide) (fun t ht hW => ⟨⟨0, (), rfl, (by rw [f_R_holds, if_neg c_4, if_pos c_6]), trivial⟩, hS.F ht⟩) hS.2.2 dX3_holds_37
    · skip
      refine lv_iconst (v := 1) hx hb dX3_holds_32 (by decide) ?_
      refine lv_goto (tgt := 37) hx hb dX3_holds_33 (by decide) ?_
      exact W.zret (v := 1) hx hb hr (by decide) (fun t ht hW => ⟨⟨1, (), rfl, (by rw [f_R_holds, if_neg c_4, if_neg c_6]), trivial⟩, hS.F ht⟩) hS.2.2 dX3_holds_37
set_option maxHeartbeats 4000000 in
set_option maxRecDepth 100000 in
theorem m_R_isLiveOf (l : Launch) (D : va_G) (h : Nat → Nat) (cI cZ : ClassId) (S : BS) (hI : IV S) (a1 a2 : Int32) (ha0 : 0 ≤ a1.toInt ∧ a1.toInt ≤ 79) : PM l yX3_isLiveOf wsX3_isLiveOf { frames := 0, cells := 0, slots := 0, locals := 0 } D cI cZ h S [.ref (h 3), .int a1, .int a2] (f_R_isLiveOf S a1 a2) := by
  refine Met.ofW (cc := cX3_isLiveOf) (maxL := 3) (ret := (some .boolean)) (by decide) rfl ?_
  intro p e s m args below meth c s₁ B hml hv
  obtain ⟨rfl, hP, hK, hN⟩ := hv
  have hx := B.exec
  have hb := B.bytes
  have hr := B.returns
  have hts := atoms_spec (ws := wsX3_isLiveOf) B.pre
  have hB : ∀ w ∈ BW, w.before _ s = true := fun w h => hts w (List.mem_cons_of_mem _ h)
  have hown : s.vm.findClass RX3 = some m.cls := findClass_of_methodNamed B.named
  have hlocks := B.notSynchronized
  have hS : va_S (fun _ => False) s.heap s.heap [] := va_S.rf
  have hl := lv_entry ([.ref (h 3), .int a1, .int a2]) (n := 3) (Nat.le_of_ble_eq_true rfl)
  rw [lg_entry_eq]
  generalize (lg_sl ([.ref (h 3), .int a1, .int a2]) ++ List.replicate (3 - (lg_sl ([.ref (h 3), .int a1, .int a2])).length) Slot.unset).toArray = ls at hl ⊢
  have hl : lv_has ls 3 [(0, .ref (h 3)), (1, .int a1), (2, .int a2)] := hl
  refine lv_aload_n hx hb dX3_isLiveOf_0 rfl (lv_at hl 0 rfl) ?_
  refine va_get (D := D) (ci := 3) (v := .ref (h 16)) (C := RX3) (T := TX3) (N := 6) hx hb hB inX3 hown hK hP 3 rfl rfl 4 (by decide) (hB _ k1_73) (fun _ h9 => h9) rfl dX3_isLiveOf_1 ?_
  refine lv_iload_n hx hb dX3_isLiveOf_4 rfl (lv_at hl 1 rfl) ?_
  refine va_zald (f := S 10) hx hb hK hP 16 1 rfl rfl (vp_in_iff.mpr (by omega)) dX3_isLiveOf_5 ?_
  have b_1 : (0) ≤ (S 10 a1.toNatClampNeg).toInt ∧ (S 10 a1.toNatClampNeg).toInt ≤ 1 := iv_10 hI a1.toNatClampNeg
  refine lv_if_eq (tgt := 23) hx hb dX3_isLiveOf_6 (by decide) (fun c_2 => ?_) (fun c_2 => ?_)
  · skip
    have z_0 : ((0) : Int32).toInt = (0) := by decide
    have t_2 := Int32.toInt_inj.symm.mp c_2
    refine lv_iconst (v := 0) hx hb dX3_isLiveOf_23 (by decide) ?_
    exact W.zret (v := 0) hx hb hr (by decide) (fun t ht hW => ⟨⟨0, (), rfl, (by rw [f_R_isLiveOf, if_pos c_2]), trivial⟩, hS.F ht⟩) hS.2.2 dX3_isLiveOf_24
  · skip
    have z_0 : ((0) : Int32).toInt = (0) := by decide
    have t_2 := mt Int32.toInt_inj.mp c_2
    refine lv_aload_n hx hb dX3_isLiveOf_9 rfl (lv_at hl 0 rfl) ?_
    refine va_get (D := D) (ci := 3) (v := .ref (h 12)) (C := RX3) (T := TX3) (N := 6) hx hb hB inX3 hown hK hP 3 rfl rfl 0 (by decide) (hB _ k1_65) (fun _ h9 => h9) rfl dX3_isLiveOf_10 ?_
    refine lv_iload_n hx hb dX3_isLiveOf_13 rfl (lv_at hl 1 rfl) ?_
    refine va_iald (f := S 6) hx hb hK hP 12 0 rfl rfl (vp_in_iff.mpr (by omega)) dX3_isLiveOf_14 ?_
    have b_3 : (0) ≤ (S 6 a1.toNatClampNeg).toInt ∧ (S 6 a1.toNatClampNeg).toInt ≤ 31 := iv_6 hI a1.toNatClampNeg
    refine lv_iload_n hx hb dX3_isLiveOf_15 rfl (lv_at hl 2 rfl) ?_
    refine lv_icmp_ne (tgt := 23) hx hb dX3_isLiveOf_16 (by decide) (fun c_4 => ?_) (fun c_4 => ?_)
    · skip
      refine lv_iconst (v := 0) hx hb dX3_isLiveOf_23 (by decide) ?_
      exact W.zret (v := 0) hx hb hr (by decide) (fun t ht hW => ⟨⟨0, (), rfl, (by rw [f_R_isLiveOf, if_neg c_2, if_neg c_4]), trivial⟩, hS.F ht⟩) hS.2.2 dX3_isLiveOf_24
    · skip
      refine lv_iconst (v := 1) hx hb dX3_isLiveOf_19 (by decide) ?_
      refine lv_goto (tgt := 24) hx hb dX3_isLiveOf_20 (by decide) ?_
      exact W.zret (v := 1) hx hb hr (by decide) (fun t ht hW => ⟨⟨1, (), rfl, (by rw [f_R_isLiveOf, if_neg c_2, if_pos c_4]), trivial⟩, hS.F ht⟩) hS.2.2 dX3_isLiveOf_24
set_option maxHeartbeats 4000000 in
set_option maxRecDepth 100000 in
theorem m_R_anyLiveOf (l : Launch) (D : va_G) (h : Nat → Nat) (cI cZ : ClassId) (S : BS) (hI : IV S) (a1 : Int32) : PM l yX3_anyLiveOf wsX3_anyLiveOf { frames := 1, cells := 0, slots := 0, locals := 22 } D cI cZ h S [.ref (h 3), .int a1] (f_R_anyLiveOf S a1) := by
  refine Met.ofW (cc := cX3_anyLiveOf) (maxL := 3) (ret := (some .boolean)) (by decide) rfl ?_
  intro p e s m args below meth c s₁ B hml hv
  obtain ⟨rfl, hP, hK, hN⟩ := hv
  have hx := B.exec
  have hb := B.bytes
  have hr := B.returns
  have hts := atoms_spec (ws := wsX3_anyLiveOf) B.pre
  have hB : ∀ w ∈ BW, w.before _ s = true := fun w h => hts w (List.mem_cons_of_mem _ h)
  have hown : s.vm.findClass RX3 = some m.cls := findClass_of_methodNamed B.named
  have hlocks := B.notSynchronized
  have hS : va_S (fun _ => False) s.heap s.heap [] := va_S.rf
  have hl := lv_entry ([.ref (h 3), .int a1]) (n := 3) (Nat.le_of_ble_eq_true rfl)
  rw [lg_entry_eq]
  generalize (lg_sl ([.ref (h 3), .int a1]) ++ List.replicate (3 - (lg_sl ([.ref (h 3), .int a1])).length) Slot.unset).toArray = ls at hl ⊢
  have hl : lv_has ls 3 [(0, .ref (h 3)), (1, .int a1)] := hl
  refine lv_iconst (v := 0) hx hb dX3_anyLiveOf_0 (by decide) ?_
  refine lv_istore_n (lv' := [(2, .int 0), (0, .ref (h 3)), (1, .int a1)]) hx hb dX3_anyLiveOf_1 rfl hl (by decide) rfl (fun ls hl => ?_)
  have loop2 : ∀ (n : Nat) (x2 : Int32) (H : Heap) (locs : List Loc) (ls : Array Slot), (0 ≤ x2.toInt ∧ x2.toInt ≤ (S 24 0 : Int32).toInt ∧ (S 24 0 : Int32).toInt - x2.toInt < (n : Int) ∧ True) → l_R_anyLiveOf_2 S a1 n x2 = f_R_anyLiveOf S a1 → va_P D vwCl (wB h cI cZ S) H → va_S (fun _ => False) s.heap H locs → lv_has ls 3 [(0, .ref (h 3)), (1, .int a1), (2, .int x2)] → W p l e (headSpec wsX3_anyLiveOf { frames := 1, cells := 0, slots := 0, locals := 22 }).room s m ([.ref (h 3), .int a1]).toArray below meth c H locs 0 0 (MQ below (PQ (f_R_anyLiveOf S a1)) ([.ref (h 3), .int a1]).toArray s 0 0 (fun _ => False)) (F0 m 2 ls []) := by
    intro n
    induction n with
    | zero =>
      intro x2 H locs ls hinv he hP hS hl
      obtain ⟨h0, hle, hm, hex⟩ := hinv
      exact absurd hm (by omega)
    | succ n ih =>
      intro x2 H locs ls hinv he hP hS hl
      obtain ⟨h0, hle, hm, hex⟩ := hinv
      have hB := iv_24 hI
      refine lv_iload_n hx hb dX3_anyLiveOf_2 rfl (lv_at hl 2 rfl) ?_
      refine lv_aload_n hx hb dX3_anyLiveOf_3 rfl (lv_at hl 0 rfl) ?_
      refine va_get (D := D) (ci := 3) (v := .int (S 24 0)) (C := RX3) (T := TX3) (N := 6) hx hb hB inX3 hown hK hP 3 rfl rfl 5 (by decide) (hB _ k1_75) (fun _ h9 => h9) rfl dX3_anyLiveOf_4 ?_
      have b_1 : (0) ≤ (S 24 0).toInt ∧ (S 24 0).toInt ≤ 80 := iv_24 hI
      refine lv_icmp_ge (tgt := 27) hx hb dX3_anyLiveOf_7 (by decide) (fun c_2 => ?_) (fun c_2 => ?_)
      · skip
        have t_2 := Int32.le_iff_toInt_le.mp c_2
        refine lv_iconst (v := 0) hx hb dX3_anyLiveOf_27 (by decide) ?_
        exact W.zret (v := 0) hx hb hr (by decide) (fun t ht hW => ⟨⟨0, (), rfl, (by rw [← he, l_R_anyLiveOf_2, if_pos c_2]), trivial⟩, hS.F ht⟩) hS.2.2 dX3_anyLiveOf_28
      · skip
        have t_2 := mt Int32.le_iff_toInt_le.mpr c_2
        refine lv_aload_n hx hb dX3_anyLiveOf_10 rfl (lv_at hl 0 rfl) ?_
        refine lv_iload_n hx hb dX3_anyLiveOf_11 rfl (lv_at hl 2 rfl) ?_
        refine lv_iload_n hx hb dX3_anyLiveOf_12 rfl (lv_at hl 1 rfl) ?_
        refine pu_call (va_runV (As := [.int x2, .int a1]) (rest := []) ⟨hx, hb, hml, hown, hB⟩ (m_R_isLiveOf l D h cI cZ S hI x2 a1 (by omega)) (cwV 2 hB (gV k2_18 k2_20 ks_31 k1_4 k2_21) rfl rfl rfl (by decide +kernel) ⟨Nat.le_of_ble_eq_true rfl, Nat.le_of_ble_eq_true rfl⟩) ⟨pu_blind, va_recv hK hP (ci := 3) (q0 := 3) rfl rfl, pu_pre hP hK hN⟩ rfl rfl hl.1 rfl (lv_room (Nat.le_of_ble_eq_true rfl)) dX3_anyLiveOf_13 ⟨Nat.le_of_ble_eq_true rfl, Nat.le_of_ble_eq_true rfl⟩) hP hS (fun H locs hP hS => ?_)
        refine lv_if_eq (tgt := 21) hx hb dX3_anyLiveOf_16 (by decide) (fun c_4 => ?_) (fun c_4 => ?_)
        · skip
          refine lv_iinc (v := x2 + 1) (lv' := [(2, .int (x2 + 1)), (0, .ref (h 3)), (1, .int a1)]) hx hb dX3_anyLiveOf_21 hl (k := 2) rfl rfl (by decide) rfl (fun ls hl => ?_)
          refine lv_goto (tgt := 2) hx hb dX3_anyLiveOf_24 (by decide) ?_
          have hinc := i32_inc (x := x2) h0 (by omega)
          exact ih (x2 + 1) _ _ _ ⟨by omega, by omega, by omega, trivial⟩ (by rw [← he, l_R_anyLiveOf_2, if_neg c_2, if_pos c_4]) hP hS (lv_sub hl [1, 2, 0] rfl)
        · skip
          refine lv_iconst (v := 1) hx hb dX3_anyLiveOf_19 (by decide) ?_
          exact W.zret (v := 1) hx hb hr (by decide) (fun t ht hW => ⟨⟨1, (), rfl, (by rw [← he, l_R_anyLiveOf_2, if_neg c_2, if_neg c_4]), trivial⟩, hS.F ht⟩) hS.2.2 dX3_anyLiveOf_20
  have hB9 := iv_24 hI
  have z_0 : ((0) : Int32).toInt = (0) := by decide
  exact loop2 600 0 _ _ _ ⟨by omega, by omega, by omega, trivial⟩ (by rw [f_R_anyLiveOf]) hP hS (lv_sub hl [1, 2, 0] rfl)
set_option maxHeartbeats 4000000 in
set_option maxRecDepth 100000 in
theorem m_R_isOver (l : Launch) (D : va_G) (h : Nat → Nat) (cI cZ : ClassId) (S : BS) (hI : IV S) (a1 a2 a3 a4 : Int32) (ha0 : 0 ≤ a1.toInt ∧ a1.toInt ≤ 79) : PM l yX3_isOver wsX3_isOver { frames := 3, cells := 0, slots := 0, locals := 62 } D cI cZ h S [.ref (h 3), .int a1, .int a2, .int a3, .int a4] (f_R_isOver S a1 a2 a3 a4) := by
  refine Met.ofW (cc := cX3_isOver) (maxL := 6) (ret := (some .boolean)) (by decide) rfl ?_
  intro p e s m args below meth c s₁ B hml hv
  obtain ⟨rfl, hP, hK, hN⟩ := hv
  have hx := B.exec
  have hb := B.bytes
  have hr := B.returns
  have hts := atoms_spec (ws := wsX3_isOver) B.pre
  have hB : ∀ w ∈ BW, w.before _ s = true := fun w h => hts w (List.mem_cons_of_mem _ h)
  have hown : s.vm.findClass RX3 = some m.cls := findClass_of_methodNamed B.named
  have hlocks := B.notSynchronized
  have hS : va_S (fun _ => False) s.heap s.heap [] := va_S.rf
  have hl := lv_entry ([.ref (h 3), .int a1, .int a2, .int a3, .int a4]) (n := 6) (Nat.le_of_ble_eq_true rfl)
  rw [lg_entry_eq]
  generalize (lg_sl ([.ref (h 3), .int a1, .int a2, .int a3, .int a4]) ++ List.replicate (6 - (lg_sl ([.ref (h 3), .int a1, .int a2, .int a3, .int a4])).length) Slot.unset).toArray = ls at hl ⊢
  have hl : lv_has ls 6 [(0, .ref (h 3)), (1, .int a1), (2, .int a2), (3, .int a3), (4, .int a4)] := hl
  refine lv_iload_n hx hb dX3_isOver_0 rfl (lv_at hl 2 rfl) ?_
  refine lv_if_eq (tgt := 25) hx hb dX3_isOver_1 (by decide) (fun c_1 => ?_) (fun c_1 => ?_)
  · skip
    have z_0 : ((0) : Int32).toInt = (0) := by decide
    have t_1 := Int32.toInt_inj.symm.mp c_1
    refine lv_iload_n hx hb dX3_isOver_25 rfl (lv_at hl 2 rfl) ?_
    refine lv_if_ne (tgt := 38) hx hb dX3_isOver_26 (by decide) (fun c_2 => ?_) (fun c_2 => ?_)
    · skip
      have t_2 := mt Int32.toInt_inj.mp c_2
      refine lv_iload_n hx hb dX3_isOver_38 rfl (lv_at hl 2 rfl) ?_
      refine lv_istore (lv' := [(5, .int a2), (0, .ref (h 3)), (1, .int a1), (2, .int a2), (3, .int a3), (4, .int a4)]) hx hb dX3_isOver_39 hl (by decide) rfl (fun ls hl => ?_)
      refine lv_iload hx hb dX3_isOver_41 (lv_at hl 0 rfl) ?_
      refine lv_iload_n hx hb dX3_isOver_43 rfl (lv_at hl 4 rfl) ?_
      refine lv_aload_n hx hb dX3_isOver_44 rfl (lv_at hl 1 rfl) ?_
      refine va_get (D := D) (ci := 3) (v := .ref (h 14)) (C := RX3) (T := TX3) (N := 6) hx hb hB inX3 hown hK hP 3 rfl rfl 2 (by decide) (hB _ k1_69) (fun _ h9 => h9) rfl dX3_isOver_45 ?_
      refine lv_iload_n hx hb dX3_isOver_48 rfl (lv_at hl 2 rfl) ?_
      refine va_iald (f := S 8) hx hb hK hP 14 0 rfl rfl (vp_in_iff.mpr (by omega)) dX3_isOver_49 ?_
      have b_3 : (0) ≤ (S 8 a1.toNatClampNeg).toInt ∧ (S 8 a1.toNatClampNeg).toInt ≤ 1000 := iv_8 hI a1.toNatClampNeg
      refine va_mmax hx hb (hml.trans hl.1.symm) hown (hB _ k2_26) (hB _ k2_27) (hB _ k1_8) (hB _ km_max) (Nat.le_of_ble_eq_true rfl) (Nat.le_of_ble_eq_true rfl) (Nat.le_of_ble_eq_true rfl) (Nat.le_of_ble_eq_true rfl) dX3_isOver_50 ?_
      refine pu_call (va_runSN (As := [.int a2, .int (if a3 < S 8 a1.toNatClampNeg then S 8 a1.toNatClampNeg else a3)]) (rest := []) ⟨hx, hb, hml, hown, hB⟩ (m_A_lowestOf l D h cI cZ S hI a2 (if a3 < S 8 a1.toNatClampNeg then S 8 a1.toNatClampNeg else a3) ) ⟨va_cnB 2 hB (gB k1_231) rfl rfl rfl (hN _ kn_0) (hB _ k1_1) (by decide +kernel) ⟨Nat.le_of_ble_eq_true rfl, Nat.le_of_ble_eq_true rfl⟩, hB _ k1_230, trivial⟩ ⟨pu_blind, pu_pre hP hK hN⟩ rfl rfl hl.1 rfl (lv_room (Nat.le_of_ble_eq_true rfl)) dX3_isOver_53 ⟨Nat.le_of_ble_eq_true rfl, Nat.le_of_ble_eq_true rfl⟩) hP hS (fun H locs hP hS => ?_)
      refine lv_iload hx hb dX3_isOver_56 (lv_at hl 0 rfl) ?_
      refine lv_iload hx hb dX3_isOver_58 (lv_at hl 5 rfl) ?_
      refine lv_aload_n hx hb dX3_isOver_60 rfl (lv_at hl 1 rfl) ?_
      refine va_get (D := D) (ci := 3) (v := .ref (h 15)) (C := RX3) (T := TX3) (N := 6) hx hb hB inX3 hown hK hP 3 rfl rfl 3 (by decide) (hB _ k1_71) (fun _ h9 => h9) rfl dX3_isOver_61 ?_
      refine lv_iload_n hx hb dX3_isOver_64 rfl (lv_at hl 2 rfl) ?_
      refine va_iald (f := S 9) hx hb hK hP 15 0 rfl rfl (vp_in_iff.mpr (by omega)) dX3_isOver_65 ?_
      have b_5 : (-1) ≤ (S 9 a1.toNatClampNeg).toInt ∧ (S 9 a1.toNatClampNeg).toInt ≤ 999 := iv_9 hI a1.toNatClampNeg
      refine va_mmin hx hb (hml.trans hl.1.symm) hown (hB _ k2_30) (hB _ k2_31) (hB _ k1_8) (hB _ km_min) (Nat.le_of_ble_eq_true rfl) (Nat.le_of_ble_eq_true rfl) (Nat.le_of_ble_eq_true rfl) (Nat.le_of_ble_eq_true rfl) dX3_isOver_66 ?_
      refine pu_call (va_runSN (As := [.int a2, .int (if S 9 a1.toNatClampNeg < a4 then S 9 a1.toNatClampNeg else a4)]) (rest := [.int (f_A_lowestOf a2 (if a3 < S 8 a1.toNatClampNeg then S 8 a1.toNatClampNeg else a3))]) ⟨hx, hb, hml, hown, hB⟩ (m_A_highestOf l D h cI cZ S hI a2 (if S 9 a1.toNatClampNeg < a4 then S 9 a1.toNatClampNeg else a4) ) ⟨va_cnB 2 hB (gB k2_0) rfl rfl rfl (hN _ kn_1) (hB _ k1_1) (by decide +kernel) ⟨Nat.le_of_ble_eq_true rfl, Nat.le_of_ble_eq_true rfl⟩, hB _ k1_239, trivial⟩ ⟨pu_blind, pu_pre hP hK hN⟩ rfl rfl hl.1 rfl (lv_room (Nat.le_of_ble_eq_true rfl)) dX3_isOver_69 ⟨Nat.le_of_ble_eq_true rfl, Nat.le_of_ble_eq_true rfl⟩) hP hS (fun H locs hP hS => ?_)
      refine lv_icmp_gt (tgt := 79) hx hb dX3_isOver_72 (by decide) (fun c_7 => ?_) (fun c_7 => ?_)
      · skip
        have t_7 := Int32.lt_iff_toInt_lt.mp c_7
        refine lv_iconst (v := 0) hx hb dX3_isOver_79 (by decide) ?_
        exact W.zret (v := 0) hx hb hr (by decide) (fun t ht hW => ⟨⟨0, (), rfl, (by rw [f_R_isOver, if_pos c_1, if_neg c_2, if_pos c_7]), trivial⟩, hS.F ht⟩) hS.2.2 dX3_isOver_80
      · skip
        have t_7 := mt Int32.lt_iff_toInt_lt.mpr c_7
        refine lv_iconst (v := 1) hx hb dX3_isOver_75 (by decide) ?_
        refine lv_goto (tgt := 80) hx hb dX3_isOver_76 (by decide) ?_
        exact W.zret (v := 1) hx hb hr (by decide) (fun t ht hW => ⟨⟨1, (), rfl, (by rw [f_R_isOver, if_pos c_1, if_neg c_2, if_neg c_7]), trivial⟩, hS.F ht⟩) hS.2.2 dX3_isOver_80
    · skip
      have t_2 := Int32.toInt_inj.symm.mp c_2
      refine lv_aload_n hx hb dX3_isOver_29 rfl (lv_at hl 0 rfl) ?_
      refine va_get (D := D) (ci := 3) (v := .ref (h 13)) (C := RX3) (T := TX3) (N := 6) hx hb hB inX3 hown hK hP 3 rfl rfl 1 (by decide) (hB _ k1_67) (fun _ h9 => h9) rfl dX3_isOver_30 ?_
      refine lv_iload_n hx hb dX3_isOver_33 rfl (lv_at hl 1 rfl) ?_
      refine va_iald (f := S 7) hx hb hK hP 13 0 rfl rfl (vp_in_iff.mpr (by omega)) dX3_isOver_34 ?_
      refine lv_goto (tgt := 39) hx hb dX3_isOver_35 (by decide) ?_
      refine lv_istore (lv' := [(5, .int (S 7 a1.toNatClampNeg)), (0, .ref (h 3)), (1, .int a1), (2, .int a2), (3, .int a3), (4, .int a4)]) hx hb dX3_isOver_39 hl (by decide) rfl (fun ls hl => ?_)
      refine lv_iload hx hb dX3_isOver_41 (lv_at hl 0 rfl) ?_
      refine lv_iload_n hx hb dX3_isOver_43 rfl (lv_at hl 4 rfl) ?_
      refine lv_aload_n hx hb dX3_isOver_44 rfl (lv_at hl 1 rfl) ?_
      refine va_get (D := D) (ci := 3) (v := .ref (h 14)) (C := RX3) (T := TX3) (N := 6) hx hb hB inX3 hown hK hP 3 rfl rfl 2 (by decide) (hB _ k1_69) (fun _ h9 => h9) rfl dX3_isOver_45 ?_
      refine lv_iload_n hx hb dX3_isOver_48 rfl (lv_at hl 2 rfl) ?_
      refine va_iald (f := S 8) hx hb hK hP 14 0 rfl rfl (vp_in_iff.mpr (by omega)) dX3_isOver_49 ?_
      have b_8 : (0) ≤ (S 8 a1.toNatClampNeg).toInt ∧ (S 8 a1.toNatClampNeg).toInt ≤ 1000 := iv_8 hI a1.toNatClampNeg
      refine va_mmax hx hb (hml.trans hl.1.symm) hown (hB _ k2_26) (hB _ k2_27) (hB _ k1_8) (hB _ km_max) (Nat.le_of_ble_eq_true rfl) (Nat.le_of_ble_eq_true rfl) (Nat.le_of_ble_eq_true rfl) (Nat.le_of_ble_eq_true rfl) dX3_isOver_50 ?_
      refine pu_call (va_runSN (As := [.int (S 7 a1.toNatClampNeg), .int (if a3 < S 8 a1.toNatClampNeg then S 8 a1.toNatClampNeg else a3)]) (rest := []) ⟨hx, hb, hml, hown, hB⟩ (m_A_lowestOf l D h cI cZ S hI (S 7 a1.toNatClampNeg) (if a3 < S 8 a1.toNatClampNeg then S 8 a1.toNatClampNeg else a3) ) ⟨va_cnB 2 hB (gB k1_231) rfl rfl rfl (hN _ kn_0) (hB _ k1_1) (by decide +kernel) ⟨Nat.le_of_ble_eq_true rfl, Nat.le_of_ble_eq_true rfl⟩, hB _ k1_230, trivial⟩ ⟨pu_blind, pu_pre hP hK hN⟩ rfl rfl hl.1 rfl (lv_room (Nat.le_of_ble_eq_true rfl)) dX3_isOver_53 ⟨Nat.le_of_ble_eq_true rfl, Nat.le_of_ble_eq_true rfl⟩) hP hS (fun H locs hP hS => ?_)
      refine lv_iload hx hb dX3_isOver_56 (lv_at hl 0 rfl) ?_
      refine lv_iload hx hb dX3_isOver_58 (lv_at hl 5 rfl) ?_
      refine lv_aload_n hx hb dX3_isOver_60 rfl (lv_at hl 1 rfl) ?_
      refine va_get (D := D) (ci := 3) (v := .ref (h 15)) (C := RX3) (T := TX3) (N := 6) hx hb hB inX3 hown hK hP 3 rfl rfl 3 (by decide) (hB _ k1_71) (fun _ h9 => h9) rfl dX3_isOver_61 ?_
      refine lv_iload_n hx hb dX3_isOver_64 rfl (lv_at hl 2 rfl) ?_
      refine va_iald (f := S 9) hx hb hK hP 15 0 rfl rfl (vp_in_iff.mpr (by omega)) dX3_isOver_65 ?_
      have b_10 : (-1) ≤ (S 9 a1.toNatClampNeg).toInt ∧ (S 9 a1.toNatClampNeg).toInt ≤ 999 := iv_9 hI a1.toNatClampNeg
      refine va_mmin hx hb (hml.trans hl.1.symm) hown (hB _ k2_30) (hB _ k2_31) (hB _ k1_8) (hB _ km_min) (Nat.le_of_ble_eq_true rfl) (Nat.le_of_ble_eq_true rfl) (Nat.le_of_ble_eq_true rfl) (Nat.le_of_ble_eq_true rfl) dX3_isOver_66 ?_
      refine pu_call (va_runSN (As := [.int (S 7 a1.toNatClampNeg), .int (if S 9 a1.toNatClampNeg < a4 then S 9 a1.toNatClampNeg else a4)]) (rest := [.int (f_A_lowestOf (S 7 a1.toNatClampNeg) (if a3 < S 8 a1.toNatClampNeg then S 8 a1.toNatClampNeg else a3))]) ⟨hx, hb, hml, hown, hB⟩ (m_A_highestOf l D h cI cZ S hI (S 7 a1.toNatClampNeg) (if S 9 a1.toNatClampNeg < a4 then S 9 a1.toNatClampNeg else a4) ) ⟨va_cnB 2 hB (gB k2_0) rfl rfl rfl (hN _ kn_1) (hB _ k1_1) (by decide +kernel) ⟨Nat.le_of_ble_eq_true rfl, Nat.le_of_ble_eq_true rfl⟩, hB _ k1_239, trivial⟩ ⟨pu_blind, pu_pre hP hK hN⟩ rfl rfl hl.1 rfl (lv_room (Nat.le_of_ble_eq_true rfl)) dX3_isOver_69 ⟨Nat.le_of_ble_eq_true rfl, Nat.le_of_ble_eq_true rfl⟩) hP hS (fun H locs hP hS => ?_)
      refine lv_icmp_gt (tgt := 79) hx hb dX3_isOver_72 (by decide) (fun c_12 => ?_) (fun c_12 => ?_)
      · skip
        have t_12 := Int32.lt_iff_toInt_lt.mp c_12
        refine lv_iconst (v := 0) hx hb dX3_isOver_79 (by decide) ?_
        exact W.zret (v := 0) hx hb hr (by decide) (fun t ht hW => ⟨⟨0, (), rfl, (by rw [f_R_isOver, if_pos c_1, if_pos c_2, if_pos c_12]), trivial⟩, hS.F ht⟩) hS.2.2 dX3_isOver_80
      · skip
        have t_12 := mt Int32.lt_iff_toInt_lt.mpr c_12
        refine lv_iconst (v := 1) hx hb dX3_isOver_75 (by decide) ?_
        refine lv_goto (tgt := 80) hx hb dX3_isOver_76 (by decide) ?_
        exact W.zret (v := 1) hx hb hr (by decide) (fun t ht hW => ⟨⟨1, (), rfl, (by rw [f_R_isOver, if_pos c_1, if_pos c_2, if_neg c_12]), trivial⟩, hS.F ht⟩) hS.2.2 dX3_isOver_80
  · skip
    have z_0 : ((0) : Int32).toInt = (0) := by decide
    have t_1 := mt Int32.toInt_inj.mp c_1
    refine lv_aload_n hx hb dX3_isOver_4 rfl (lv_at hl 0 rfl) ?_
    refine va_get (D := D) (ci := 3) (v := .ref (h 13)) (C := RX3) (T := TX3) (N := 6) hx hb hB inX3 hown hK hP 3 rfl rfl 1 (by decide) (hB _ k1_67) (fun _ h9 => h9) rfl dX3_isOver_5 ?_
    refine lv_iload_n hx hb dX3_isOver_8 rfl (lv_at hl 1 rfl) ?_
    refine va_iald (f := S 7) hx hb hK hP 13 0 rfl rfl (vp_in_iff.mpr (by omega)) dX3_isOver_9 ?_
    refine lv_if_eq (tgt := 25) hx hb dX3_isOver_10 (by decide) (fun c_13 => ?_) (fun c_13 => ?_)
    · skip
      have t_13 := Int32.toInt_inj.symm.mp c_13
      refine lv_iload_n hx hb dX3_isOver_25 rfl (lv_at hl 2 rfl) ?_
      refine lv_if_ne (tgt := 38) hx hb dX3_isOver_26 (by decide) (fun c_14 => ?_) (fun c_14 => ?_)
      · skip
        have t_14 := mt Int32.toInt_inj.mp c_14
        refine lv_iload_n hx hb dX3_isOver_38 rfl (lv_at hl 2 rfl) ?_
        refine lv_istore (lv' := [(5, .int a2), (0, .ref (h 3)), (1, .int a1), (2, .int a2), (3, .int a3), (4, .int a4)]) hx hb dX3_isOver_39 hl (by decide) rfl (fun ls hl => ?_)
        refine lv_iload hx hb dX3_isOver_41 (lv_at hl 0 rfl) ?_
        refine lv_iload_n hx hb dX3_isOver_43 rfl (lv_at hl 4 rfl) ?_
        refine lv_aload_n hx hb dX3_isOver_44 rfl (lv_at hl 1 rfl) ?_
        refine va_get (D := D) (ci := 3) (v := .ref (h 14)) (C := RX3) (T := TX3) (N := 6) hx hb hB inX3 hown hK hP 3 rfl rfl 2 (by decide) (hB _ k1_69) (fun _ h9 => h9) rfl dX3_isOver_45 ?_
        refine lv_iload_n hx hb dX3_isOver_48 rfl (lv_at hl 2 rfl) ?_
        refine va_iald (f := S 8) hx hb hK hP 14 0 rfl rfl (vp_in_iff.mpr (by omega)) dX3_isOver_49 ?_
        have b_15 : (0) ≤ (S 8 a1.toNatClampNeg).toInt ∧ (S 8 a1.toNatClampNeg).toInt ≤ 1000 := iv_8 hI a1.toNatClampNeg
        refine va_mmax hx hb (hml.trans hl.1.symm) hown (hB _ k2_26) (hB _ k2_27) (hB _ k1_8) (hB _ km_max) (Nat.le_of_ble_eq_true rfl) (Nat.le_of_ble_eq_true rfl) (Nat.le_of_ble_eq_true rfl) (Nat.le_of_ble_eq_true rfl) dX3_isOver_50 ?_
        refine pu_call (va_runSN (As := [.int a2, .int (if a3 < S 8 a1.toNatClampNeg then S 8 a1.toNatClampNeg else a3)]) (rest := []) ⟨hx, hb, hml, hown, hB⟩ (m_A_lowestOf l D h cI cZ S hI a2 (if a3 < S 8 a1.toNatClampNeg then S 8 a1.toNatClampNeg else a3) ) ⟨va_cnB 2 hB (gB k1_231) rfl rfl rfl (hN _ kn_0) (hB _ k1_1) (by decide +kernel) ⟨Nat.le_of_ble_eq_true rfl, Nat.le_of_ble_eq_true rfl⟩, hB _ k1_230, trivial⟩ ⟨pu_blind, pu_pre hP hK hN⟩ rfl rfl hl.1 rfl (lv_room (Nat.le_of_ble_eq_true rfl)) dX3_isOver_53 ⟨Nat.le_of_ble_eq_true rfl, Nat.le_of_ble_eq_true rfl⟩) hP hS (fun H locs hP hS => ?_)
        refine lv_iload hx hb dX3_isOver_56 (lv_at hl 0 rfl) ?_
        refine lv_iload hx hb dX3_isOver_58 (lv_at hl 5 rfl) ?_
        refine lv_aload_n hx hb dX3_isOver_60 rfl (lv_at hl 1 rfl) ?_
        refine va_get (D := D) (ci := 3) (v := .ref (h 15)) (C := RX3) (T := TX3) (N := 6) hx hb hB inX3 hown hK hP 3 rfl rfl 3 (by decide) (hB _ k1_71) (fun _ h9 => h9) rfl dX3_isOver_61 ?_
        refine lv_iload_n hx hb dX3_isOver_64 rfl (lv_at hl 2 rfl) ?_
        refine va_iald (f := S 9) hx hb hK hP 15 0 rfl rfl (vp_in_iff.mpr (by omega)) dX3_isOver_65 ?_
        have b_17 : (-1) ≤ (S 9 a1.toNatClampNeg).toInt ∧ (S 9 a1.toNatClampNeg).toInt ≤ 999 := iv_9 hI a1.toNatClampNeg
        refine va_mmin hx hb (hml.trans hl.1.symm) hown (hB _ k2_30) (hB _ k2_31) (hB _ k1_8) (hB _ km_min) (Nat.le_of_ble_eq_true rfl) (Nat.le_of_ble_eq_true rfl) (Nat.le_of_ble_eq_true rfl) (Nat.le_of_ble_eq_true rfl) dX3_isOver_66 ?_
        refine pu_call (va_runSN (As := [.int a2, .int (if S 9 a1.toNatClampNeg < a4 then S 9 a1.toNatClampNeg else a4)]) (rest := [.int (f_A_lowestOf a2 (if a3 < S 8 a1.toNatClampNeg then S 8 a1.toNatClampNeg else a3))]) ⟨hx, hb, hml, hown, hB⟩ (m_A_highestOf l D h cI cZ S hI a2 (if S 9 a1.toNatClampNeg < a4 then S 9 a1.toNatClampNeg else a4) ) ⟨va_cnB 2 hB (gB k2_0) rfl rfl rfl (hN _ kn_1) (hB _ k1_1) (by decide +kernel) ⟨Nat.le_of_ble_eq_true rfl, Nat.le_of_ble_eq_true rfl⟩, hB _ k1_239, trivial⟩ ⟨pu_blind, pu_pre hP hK hN⟩ rfl rfl hl.1 rfl (lv_room (Nat.le_of_ble_eq_true rfl)) dX3_isOver_69 ⟨Nat.le_of_ble_eq_true rfl, Nat.le_of_ble_eq_true rfl⟩) hP hS (fun H locs hP hS => ?_)
        refine lv_icmp_gt (tgt := 79) hx hb dX3_isOver_72 (by decide) (fun c_19 => ?_) (fun c_19 => ?_)
        · skip
          have t_19 := Int32.lt_iff_toInt_lt.mp c_19
          refine lv_iconst (v := 0) hx hb dX3_isOver_79 (by decide) ?_
          exact W.zret (v := 0) hx hb hr (by decide) (fun t ht hW => ⟨⟨0, (), rfl, (by rw [f_R_isOver, if_neg c_1, if_pos c_13, if_neg c_14, if_pos c_19]), trivial⟩, hS.F ht⟩) hS.2.2 dX3_isOver_80
        · skip
          have t_19 := mt Int32.lt_iff_toInt_lt.mpr c_19
          refine lv_iconst (v := 1) hx hb dX3_isOver_75 (by decide) ?_
          refine lv_goto (tgt := 80) hx hb dX3_isOver_76 (by decide) ?_
          exact W.zret (v := 1) hx hb hr (by decide) (fun t ht hW => ⟨⟨1, (), rfl, (by rw [f_R_isOver, if_neg c_1, if_pos c_13, if_neg c_14, if_neg c_19]), trivial⟩, hS.F ht⟩) hS.2.2 dX3_isOver_80
      · skip
        have t_14 := Int32.toInt_inj.symm.mp c_14
        refine lv_aload_n hx hb dX3_isOver_29 rfl (lv_at hl 0 rfl) ?_
        refine va_get (D := D) (ci := 3) (v := .ref (h 13)) (C := RX3) (T := TX3) (N := 6) hx hb hB inX3 hown hK hP 3 rfl rfl 1 (by decide) (hB _ k1_67) (fun _ h9 => h9) rfl dX3_isOver_30 ?_
        refine lv_iload_n hx hb dX3_isOver_33 rfl (lv_at hl 1 rfl) ?_
        refine va_iald (f := S 7) hx hb hK hP 13 0 rfl rfl (vp_in_iff.mpr (by omega)) dX3_isOver_34 ?_
        refine lv_goto (tgt := 39) hx hb dX3_isOver_35 (by decide) ?_
        refine lv_istore (lv' := [(5, .int (S 7 a1.toNatClampNeg)), (0, .ref (h 3)), (1, .int a1), (2, .int a2), (3, .int a3), (4, .int a4)]) hx hb dX3_isOver_39 hl (by decide) rfl (fun ls hl => ?_)
        refine lv_iload hx hb dX3_isOver_41 (lv_at hl 0 rfl) ?_
        refine lv_iload_n hx hb dX3_isOver_43 rfl (lv_at hl 4 rfl) ?_
        refine lv_aload_n hx hb dX3_isOver_44 rfl (lv_at hl 1 rfl) ?_
        refine va_get (D := D) (ci := 3) (v := .ref (h 14)) (C := RX3) (T := TX3) (N := 6) hx hb hB inX3 hown hK hP 3 rfl rfl 2 (by decide) (hB _ k1_69) (fun _ h9 => h9) rfl dX3_isOver_45 ?_
        refine lv_iload_n hx hb dX3_isOver_48 rfl (lv_at hl 2 rfl) ?_
        refine va_iald (f := S 8) hx hb hK hP 14 0 rfl rfl (vp_in_iff.mpr (by omega)) dX3_isOver_49 ?_
        have b_20 : (0) ≤ (S 8 a1.toNatClampNeg).toInt ∧ (S 8 a1.toNatClampNeg).toInt ≤ 1000 := iv_8 hI a1.toNatClampNeg
        refine va_mmax hx hb (hml.trans hl.1.symm) hown (hB _ k2_26) (hB _ k2_27) (hB _ k1_8) (hB _ km_max) (Nat.le_of_ble_eq_true rfl) (Nat.le_of_ble_eq_true rfl) (Nat.le_of_ble_eq_true rfl) (Nat.le_of_ble_eq_true rfl) dX3_isOver_50 ?_
        refine pu_call (va_runSN (As := [.int (S 7 a1.toNatClampNeg), .int (if a3 < S 8 a1.toNatClampNeg then S 8 a1.toNatClampNeg else a3)]) (rest := []) ⟨hx, hb, hml, hown, hB⟩ (m_A_lowestOf l D h cI cZ S hI (S 7 a1.toNatClampNeg) (if a3 < S 8 a1.toNatClampNeg then S 8 a1.toNatClampNeg else a3) ) ⟨va_cnB 2 hB (gB k1_231) rfl rfl rfl (hN _ kn_0) (hB _ k1_1) (by decide +kernel) ⟨Nat.le_of_ble_eq_true rfl, Nat.le_of_ble_eq_true rfl⟩, hB _ k1_230, trivial⟩ ⟨pu_blind, pu_pre hP hK hN⟩ rfl rfl hl.1 rfl (lv_room (Nat.le_of_ble_eq_true rfl)) dX3_isOver_53 ⟨Nat.le_of_ble_eq_true rfl, Nat.le_of_ble_eq_true rfl⟩) hP hS (fun H locs hP hS => ?_)
        refine lv_iload hx hb dX3_isOver_56 (lv_at hl 0 rfl) ?_
        refine lv_iload hx hb dX3_isOver_58 (lv_at hl 5 rfl) ?_
        refine lv_aload_n hx hb dX3_isOver_60 rfl (lv_at hl 1 rfl) ?_
        refine va_get (D := D) (ci := 3) (v := .ref (h 15)) (C := RX3) (T := TX3) (N := 6) hx hb hB inX3 hown hK hP 3 rfl rfl 3 (by decide) (hB _ k1_71) (fun _ h9 => h9) rfl dX3_isOver_61 ?_
        refine lv_iload_n hx hb dX3_isOver_64 rfl (lv_at hl 2 rfl) ?_
        refine va_iald (f := S 9) hx hb hK hP 15 0 rfl rfl (vp_in_iff.mpr (by omega)) dX3_isOver_65 ?_
        have b_22 : (-1) ≤ (S 9 a1.toNatClampNeg).toInt ∧ (S 9 a1.toNatClampNeg).toInt ≤ 999 := iv_9 hI a1.toNatClampNeg
        refine va_mmin hx hb (hml.trans hl.1.symm) hown (hB _ k2_30) (hB _ k2_31) (hB _ k1_8) (hB _ km_min) (Nat.le_of_ble_eq_true rfl) (Nat.le_of_ble_eq_true rfl) (Nat.le_of_ble_eq_true rfl) (Nat.le_of_ble_eq_true rfl) dX3_isOver_66 ?_
        refine pu_call (va_runSN (As := [.int (S 7 a1.toNatClampNeg), .int (if S 9 a1.toNatClampNeg < a4 then S 9 a1.toNatClampNeg else a4)]) (rest := [.int (f_A_lowestOf (S 7 a1.toNatClampNeg) (if a3 < S 8 a1.toNatClampNeg then S 8 a1.toNatClampNeg else a3))]) ⟨hx, hb, hml, hown, hB⟩ (m_A_highestOf l D h cI cZ S hI (S 7 a1.toNatClampNeg) (if S 9 a1.toNatClampNeg < a4 then S 9 a1.toNatClampNeg else a4) ) ⟨va_cnB 2 hB (gB k2_0) rfl rfl rfl (hN _ kn_1) (hB _ k1_1) (by decide +kernel) ⟨Nat.le_of_ble_eq_true rfl, Nat.le_of_ble_eq_true rfl⟩, hB _ k1_239, trivial⟩ ⟨pu_blind, pu_pre hP hK hN⟩ rfl rfl hl.1 rfl (lv_room (Nat.le_of_ble_eq_true rfl)) dX3_isOver_69 ⟨Nat.le_of_ble_eq_true rfl, Nat.le_of_ble_eq_true rfl⟩) hP hS (fun H locs hP hS => ?_)
        refine lv_icmp_gt (tgt := 79) hx hb dX3_isOver_72 (by decide) (fun c_24 => ?_) (fun c_24 => ?_)
        · skip
          have t_24 := Int32.lt_iff_toInt_lt.mp c_24
          refine lv_iconst (v := 0) hx hb dX3_isOver_79 (by decide) ?_
          exact W.zret (v := 0) hx hb hr (by decide) (fun t ht hW => ⟨⟨0, (), rfl, (by rw [f_R_isOver, if_neg c_1, if_pos c_13, if_pos c_14, if_pos c_24]), trivial⟩, hS.F ht⟩) hS.2.2 dX3_isOver_80
        · skip
          have t_24 := mt Int32.lt_iff_toInt_lt.mpr c_24
          refine lv_iconst (v := 1) hx hb dX3_isOver_75 (by decide) ?_
          refine lv_goto (tgt := 80) hx hb dX3_isOver_76 (by decide) ?_
          exact W.zret (v := 1) hx hb hr (by decide) (fun t ht hW => ⟨⟨1, (), rfl, (by rw [f_R_isOver, if_neg c_1, if_pos c_13, if_pos c_14, if_neg c_24]), trivial⟩, hS.F ht⟩) hS.2.2 dX3_isOver_80
    · skip
      have t_13 := mt Int32.toInt_inj.mp c_13
      refine lv_iload_n hx hb dX3_isOver_13 rfl (lv_at hl 2 rfl) ?_
      refine lv_aload_n hx hb dX3_isOver_14 rfl (lv_at hl 0 rfl) ?_
      refine va_get (D := D) (ci := 3) (v := .ref (h 13)) (C := RX3) (T := TX3) (N := 6) hx hb hB inX3 hown hK hP 3 rfl rfl 1 (by decide) (hB _ k1_67) (fun _ h9 => h9) rfl dX3_isOver_15 ?_
      refine lv_iload_n hx hb dX3_isOver_18 rfl (lv_at hl 1 rfl) ?_
      refine va_iald (f := S 7) hx hb hK hP 13 0 rfl rfl (vp_in_iff.mpr (by omega)) dX3_isOver_19 ?_
      refine lv_icmp_eq (tgt := 25) hx hb dX3_isOver_20 (by decide) (fun c_25 => ?_) (fun c_25 => ?_)
      · skip
        refine lv_iload_n hx hb dX3_isOver_25 rfl (lv_at hl 2 rfl) ?_
        refine lv_if_ne (tgt := 38) hx hb dX3_isOver_26 (by decide) (fun c_26 => ?_) (fun c_26 => ?_)
        · skip
          have t_26 := mt Int32.toInt_inj.mp c_26
          refine lv_iload_n hx hb dX3_isOver_38 rfl (lv_at hl 2 rfl) ?_
          refine lv_istore (lv' := [(5, .int a2), (0, .ref (h 3)), (1, .int a1), (2, .int a2), (3, .int a3), (4, .int a4)]) hx hb dX3_isOver_39 hl (by decide) rfl (fun ls hl => ?_)
          refine lv_iload hx hb dX3_isOver_41 (lv_at hl 0 rfl) ?_
          refine lv_iload_n hx hb dX3_isOver_43 rfl (lv_at hl 4 rfl) ?_
          refine lv_aload_n hx hb dX3_isOver_44 rfl (lv_at hl 1 rfl) ?_
          refine va_get (D := D) (ci := 3) (v := .ref (h 14)) (C := RX3) (T := TX3) (N := 6) hx hb hB inX3 hown hK hP 3 rfl rfl 2 (by decide) (hB _ k1_69) (fun _ h9 => h9) rfl dX3_isOver_45 ?_
          refine lv_iload_n hx hb dX3_isOver_48 rfl (lv_at hl 2 rfl) ?_
          refine va_iald (f := S 8) hx hb hK hP 14 0 rfl rfl (vp_in_iff.mpr (by omega)) dX3_isOver_49 ?_
          have b_27 : (0) ≤ (S 8 a1.toNatClampNeg).toInt ∧ (S 8 a1.toNatClampNeg).toInt ≤ 1000 := iv_8 hI a1.toNatClampNeg
          refine va_mmax hx hb (hml.trans hl.1.symm) hown (hB _ k2_26) (hB _ k2_27) (hB _ k1_8) (hB _ km_max) (Nat.le_of_ble_eq_true rfl) (Nat.le_of_ble_eq_true rfl) (Nat.le_of_ble_eq_true rfl) (Nat.le_of_ble_eq_true rfl) dX3_isOver_50 ?_
          refine pu_call (va_runSN (As := [.int a2, .int (if a3 < S 8 a1.toNatClampNeg then S 8 a1.toNatClampNeg else a3)]) (rest := []) ⟨hx, hb, hml, hown, hB⟩ (m_A_lowestOf l D h cI cZ S hI a2 (if a3 < S 8 a1.toNatClampNeg then S 8 a1.toNatClampNeg else a3) ) ⟨va_cnB 2 hB (gB k1_231) rfl rfl rfl (hN _ kn_0) (hB _ k1_1) (by decide +kernel) ⟨Nat.le_of_ble_eq_true rfl, Nat.le_of_ble_eq_true rfl⟩, hB _ k1_230, trivial⟩ ⟨pu_blind, pu_pre hP hK hN⟩ rfl rfl hl.1 rfl (lv_room (Nat.le_of_ble_eq_true rfl)) dX3_isOver_53 ⟨Nat.le_of_ble_eq_true rfl, Nat.le_of_ble_eq_true rfl⟩) hP hS (fun H locs hP hS => ?_)
          refine lv_iload hx hb dX3_isOver_56 (lv_at hl 0 rfl) ?_
          refine lv_iload hx hb dX3_isOver_58 (lv_at hl 5 rfl) ?_
          refine lv_aload_n hx hb dX3_isOver_60 rfl (lv_at hl 1 rfl) ?_
          refine va_get (D := D) (ci := 3) (v := .ref (h 15)) (C := RX3) (T := TX3) (N := 6) hx hb hB inX3 hown hK hP 3 rfl rfl 3 (by decide) (hB _ k1_71) (fun _ h9 => h9) rfl dX3_isOver_61 ?_
          refine lv_iload_n hx hb dX3_isOver_64 rfl (lv_at hl 2 rfl) ?_
          refine va_iald (f := S 9) hx hb hK hP 15 0 rfl rfl (vp_in_iff.mpr (by omega)) dX3_isOver_65 ?_
          have b_29 : (-1) ≤ (S 9 a1.toNatClampNeg).toInt ∧ (S 9 a1.toNatClampNeg).toInt ≤ 999 := iv_9 hI a1.toNatClampNeg
          refine va_mmin hx hb (hml.trans hl.1.symm) hown (hB _ k2_30) (hB _ k2_31) (hB _ k1_8) (hB _ km_min) (Nat.le_of_ble_eq_true rfl) (Nat.le_of_ble_eq_true rfl) (Nat.le_of_ble_eq_true rfl) (Nat.le_of_ble_eq_true rfl) dX3_isOver_66 ?_
          refine pu_call (va_runSN (As := [.int a2, .int (if S 9 a1.toNatClampNeg < a4 then S 9 a1.toNatClampNeg else a4)]) (rest := [.int (f_A_lowestOf a2 (if a3 < S 8 a1.toNatClampNeg then S 8 a1.toNatClampNeg else a3))]) ⟨hx, hb, hml, hown, hB⟩ (m_A_highestOf l D h cI cZ S hI a2 (if S 9 a1.toNatClampNeg < a4 then S 9 a1.toNatClampNeg else a4) ) ⟨va_cnB 2 hB (gB k2_0) rfl rfl rfl (hN _ kn_1) (hB _ k1_1) (by decide +kernel) ⟨Nat.le_of_ble_eq_true rfl, Nat.le_of_ble_eq_true rfl⟩, hB _ k1_239, trivial⟩ ⟨pu_blind, pu_pre hP hK hN⟩ rfl rfl hl.1 rfl (lv_room (Nat.le_of_ble_eq_true rfl)) dX3_isOver_69 ⟨Nat.le_of_ble_eq_true rfl, Nat.le_of_ble_eq_true rfl⟩) hP hS (fun H locs hP hS => ?_)
          refine lv_icmp_gt (tgt := 79) hx hb dX3_isOver_72 (by decide) (fun c_31 => ?_) (fun c_31 => ?_)
          · skip
            have t_31 := Int32.lt_iff_toInt_lt.mp c_31
            refine lv_iconst (v := 0) hx hb dX3_isOver_79 (by decide) ?_
            exact W.zret (v := 0) hx hb hr (by decide) (fun t ht hW => ⟨⟨0, (), rfl, (by rw [f_R_isOver, if_neg c_1, if_neg c_13, if_pos c_25, if_neg c_26, if_pos c_31]), trivial⟩, hS.F ht⟩) hS.2.2 dX3_isOver_80
          · skip
            have t_31 := mt Int32.lt_iff_toInt_lt.mpr c_31
            refine lv_iconst (v := 1) hx hb dX3_isOver_75 (by decide) ?_
            refine lv_goto (tgt := 80) hx hb dX3_isOver_76 (by decide) ?_
            exact W.zret (v := 1) hx hb hr (by decide) (fun t ht hW => ⟨⟨1, (), rfl, (by rw [f_R_isOver, if_neg c_1, if_neg c_13, if_pos c_25, if_neg c_26, if_neg c_31]), trivial⟩, hS.F ht⟩) hS.2.2 dX3_isOver_80
        · skip
          have t_26 := Int32.toInt_inj.symm.mp c_26
          refine lv_aload_n hx hb dX3_isOver_29 rfl (lv_at hl 0 rfl) ?_
          refine va_get (D := D) (ci := 3) (v := .ref (h 13)) (C := RX3) (T := TX3) (N := 6) hx hb hB inX3 hown hK hP 3 rfl rfl 1 (by decide) (hB _ k1_67) (fun _ h9 => h9) rfl dX3_isOver_30 ?_
          refine lv_iload_n hx hb dX3_isOver_33 rfl (lv_at hl 1 rfl) ?_
          refine va_iald (f := S 7) hx hb hK hP 13 0 rfl rfl (vp_in_iff.mpr (by omega)) dX3_isOver_34 ?_
          refine lv_goto (tgt := 39) hx hb dX3_isOver_35 (by decide) ?_
          refine lv_istore (lv' := [(5, .int (S 7 a1.toNatClampNeg)), (0, .ref (h 3)), (1, .int a1), (2, .int a2), (3, .int a3), (4, .int a4)]) hx hb dX3_isOver_39 hl (by decide) rfl (fun ls hl => ?_)
          refine lv_iload hx hb dX3_isOver_41 (lv_at hl 0 rfl) ?_
          refine lv_iload_n hx hb dX3_isOver_43 rfl (lv_at hl 4 rfl) ?_
          refine lv_aload_n hx hb dX3_isOver_44 rfl (lv_at hl 1 rfl) ?_
          refine va_get (D := D) (ci := 3) (v := .ref (h 14)) (C := RX3) (T := TX3) (N := 6) hx hb hB inX3 hown hK hP 3 rfl rfl 2 (by decide) (hB _ k1_69) (fun _ h9 => h9) rfl dX3_isOver_45 ?_
          refine lv_iload_n hx hb dX3_isOver_48 rfl (lv_at hl 2 rfl) ?_
          refine va_iald (f := S 8) hx hb hK hP 14 0 rfl rfl (vp_in_iff.mpr (by omega)) dX3_isOver_49 ?_
          have b_32 : (0) ≤ (S 8 a1.toNatClampNeg).toInt ∧ (S 8 a1.toNatClampNeg).toInt ≤ 1000 := iv_8 hI a1.toNatClampNeg
          refine va_mmax hx hb (hml.trans hl.1.symm) hown (hB _ k2_26) (hB _ k2_27) (hB _ k1_8) (hB _ km_max) (Nat.le_of_ble_eq_true rfl) (Nat.le_of_ble_eq_true rfl) (Nat.le_of_ble_eq_true rfl) (Nat.le_of_ble_eq_true rfl) dX3_isOver_50 ?_
          refine pu_call (va_runSN (As := [.int (S 7 a1.toNatClampNeg), .int (if a3 < S 8 a1.toNatClampNeg then S 8 a1.toNatClampNeg else a3)]) (rest := []) ⟨hx, hb, hml, hown, hB⟩ (m_A_lowestOf l D h cI cZ S hI (S 7 a1.toNatClampNeg) (if a3 < S 8 a1.toNatClampNeg then S 8 a1.toNatClampNeg else a3) ) ⟨va_cnB 2 hB (gB k1_231) rfl rfl rfl (hN _ kn_0) (hB _ k1_1) (by decide +kernel) ⟨Nat.le_of_ble_eq_true rfl, Nat.le_of_ble_eq_true rfl⟩, hB _ k1_230, trivial⟩ ⟨pu_blind, pu_pre hP hK hN⟩ rfl rfl hl.1 rfl (lv_room (Nat.le_of_ble_eq_true rfl)) dX3_isOver_53 ⟨Nat.le_of_ble_eq_true rfl, Nat.le_of_ble_eq_true rfl⟩) hP hS (fun H locs hP hS => ?_)
          refine lv_iload hx hb dX3_isOver_56 (lv_at hl 0 rfl) ?_
          refine lv_iload hx hb dX3_isOver_58 (lv_at hl 5 rfl) ?_
          refine lv_aload_n hx hb dX3_isOver_60 rfl (lv_at hl 1 rfl) ?_
          refine va_get (D := D) (ci := 3) (v := .ref (h 15)) (C := RX3) (T := TX3) (N := 6) hx hb hB inX3 hown hK hP 3 rfl rfl 3 (by decide) (hB _ k1_71) (fun _ h9 => h9) rfl dX3_isOver_61 ?_
          refine lv_iload_n hx hb dX3_isOver_64 rfl (lv_at hl 2 rfl) ?_
          refine va_iald (f := S 9) hx hb hK hP 15 0 rfl rfl (vp_in_iff.mpr (by omega)) dX3_isOver_65 ?_
          have b_34 : (-1) ≤ (S 9 a1.toNatClampNeg).toInt ∧ (S 9 a1.toNatClampNeg).toInt ≤ 999 := iv_9 hI a1.toNatClampNeg
          refine va_mmin hx hb (hml.trans hl.1.symm) hown (hB _ k2_30) (hB _ k2_31) (hB _ k1_8) (hB _ km_min) (Nat.le_of_ble_eq_true rfl) (Nat.le_of_ble_eq_true rfl) (Nat.le_of_ble_eq_true rfl) (Nat.le_of_ble_eq_true rfl) dX3_isOver_66 ?_
          refine pu_call (va_runSN (As := [.int (S 7 a1.toNatClampNeg), .int (if S 9 a1.toNatClampNeg < a4 then S 9 a1.toNatClampNeg else a4)]) (rest := [.int (f_A_lowestOf (S 7 a1.toNatClampNeg) (if a3 < S 8 a1.toNatClampNeg then S 8 a1.toNatClampNeg else a3))]) ⟨hx, hb, hml, hown, hB⟩ (m_A_highestOf l D h cI cZ S hI (S 7 a1.toNatClampNeg) (if S 9 a1.toNatClampNeg < a4 then S 9 a1.toNatClampNeg else a4) ) ⟨va_cnB 2 hB (gB k2_0) rfl rfl rfl (hN _ kn_1) (hB _ k1_1) (by decide +kernel) ⟨Nat.le_of_ble_eq_true rfl, Nat.le_of_ble_eq_true rfl⟩, hB _ k1_239, trivial⟩ ⟨pu_blind, pu_pre hP hK hN⟩ rfl rfl hl.1 rfl (lv_room (Nat.le_of_ble_eq_true rfl)) dX3_isOver_69 ⟨Nat.le_of_ble_eq_true rfl, Nat.le_of_ble_eq_true rfl⟩) hP hS (fun H locs hP hS => ?_)
          refine lv_icmp_gt (tgt := 79) hx hb dX3_isOver_72 (by decide) (fun c_36 => ?_) (fun c_36 => ?_)
          · skip
            have t_36 := Int32.lt_iff_toInt_lt.mp c_36
            refine lv_iconst (v := 0) hx hb dX3_isOver_79 (by decide) ?_
            exact W.zret (v := 0) hx hb hr (by decide) (fun t ht hW => ⟨⟨0, (), rfl, (by rw [f_R_isOver, if_neg c_1, if_neg c_13, if_pos c_25, if_pos c_26, if_pos c_36]), trivial⟩, hS.F ht⟩) hS.2.2 dX3_isOver_80
          · skip
            have t_36 := mt Int32.lt_iff_toInt_lt.mpr c_36
            refine lv_iconst (v := 1) hx hb dX3_isOver_75 (by decide) ?_
            refine lv_goto (tgt := 80) hx hb dX3_isOver_76 (by decide) ?_
            exact W.zret (v := 1) hx hb hr (by decide) (fun t ht hW => ⟨⟨1, (), rfl, (by rw [f_R_isOver, if_neg c_1, if_neg c_13, if_pos c_25, if_pos c_26, if_neg c_36]), trivial⟩, hS.F ht⟩) hS.2.2 dX3_isOver_80
      · skip
        refine lv_iconst (v := 0) hx hb dX3_isOver_23 (by decide) ?_
        exact W.zret (v := 0) hx hb hr (by decide) (fun t ht hW => ⟨⟨0, (), rfl, (by rw [f_R_isOver, if_neg c_1, if_neg c_13, if_neg c_25]), trivial⟩, hS.F ht⟩) hS.2.2 dX3_isOver_24
set_option maxHeartbeats 4000000 in
set_option maxRecDepth 100000 in
theorem m_R_leastOver (l : Launch) (D : va_G) (h : Nat → Nat) (cI cZ : ClassId) (S : BS) (hI : IV S) (a1 a2 a3 a4 : Int32) : PM l yX3_leastOver wsX3_leastOver { frames := 4, cells := 0, slots := 0, locals := 87 } D cI cZ h S [.ref (h 3), .int a1, .int a2, .int a3, .int a4] (f_R_leastOver S a1 a2 a3 a4) := by
  refine Met.ofW (cc := cX3_leastOver) (maxL := 6) (ret := (some .int)) (by decide) rfl ?_
  intro p e s m args below meth c s₁ B hml hv
  obtain ⟨rfl, hP, hK, hN⟩ := hv
  have hx := B.exec
  have hb := B.bytes
  have hr := B.returns
  have hts := atoms_spec (ws := wsX3_leastOver) B.pre
  have hB : ∀ w ∈ BW, w.before _ s = true := fun w h => hts w (List.mem_cons_of_mem _ h)
  have hown : s.vm.findClass RX3 = some m.cls := findClass_of_methodNamed B.named
  have hlocks := B.notSynchronized
  have hS : va_S (fun _ => False) s.heap s.heap [] := va_S.rf
  have hl := lv_entry ([.ref (h 3), .int a1, .int a2, .int a3, .int a4]) (n := 6) (Nat.le_of_ble_eq_true rfl)
  rw [lg_entry_eq]
  generalize (lg_sl ([.ref (h 3), .int a1, .int a2, .int a3, .int a4]) ++ List.replicate (6 - (lg_sl ([.ref (h 3), .int a1, .int a2, .int a3, .int a4])).length) Slot.unset).toArray = ls at hl ⊢
  have hl : lv_has ls 6 [(0, .ref (h 3)), (1, .int a1), (2, .int a2), (3, .int a3), (4, .int a4)] := hl
  refine lv_iconst (v := 0) hx hb dX3_leastOver_0 (by decide) ?_
  refine lv_istore (lv' := [(5, .int 0), (0, .ref (h 3)), (1, .int a1), (2, .int a2), (3, .int a3), (4, .int a4)]) hx hb dX3_leastOver_1 hl (by decide) rfl (fun ls hl => ?_)
  have loop3 : ∀ (n : Nat) (x5 : Int32) (H : Heap) (locs : List Loc) (ls : Array Slot), (0 ≤ x5.toInt ∧ x5.toInt ≤ (S 24 0 : Int32).toInt ∧ (S 24 0 : Int32).toInt - x5.toInt < (n : Int) ∧ True) → l_R_leastOver_3 S a1 a2 a3 a4 n x5 = f_R_leastOver S a1 a2 a3 a4 → va_P D vwCl (wB h cI cZ S) H → va_S (fun _ => False) s.heap H locs → lv_has ls 6 [(0, .ref (h 3)), (1, .int a1), (2, .int a2), (3, .int a3), (4, .int a4), (5, .int x5)] → W p l e (headSpec wsX3_leastOver { frames := 4, cells := 0, slots := 0, locals := 87 }).room s m ([.ref (h 3), .int a1, .int a2, .int a3, .int a4]).toArray below meth c H locs 0 0 (MQ below (PQ (f_R_leastOver S a1 a2 a3 a4)) ([.ref (h 3), .int a1, .int a2, .int a3, .int a4]).toArray s 0 0 (fun _ => False)) (F0 m 3 ls []) := by
    intro n
    induction n with
    | zero =>
      intro x5 H locs ls hinv he hP hS hl
      obtain ⟨h0, hle, hm, hex⟩ := hinv
      exact absurd hm (by omega)
    | succ n ih =>
      intro x5 H locs ls hinv he hP hS hl
      obtain ⟨h0, hle, hm, hex⟩ := hinv
      have hB := iv_24 hI
      refine lv_iload hx hb dX3_leastOver_3 (lv_at hl 5 rfl) ?_
      refine lv_aload_n hx hb dX3_leastOver_5 rfl (lv_at hl 0 rfl) ?_
      refine va_get (D := D) (ci := 3) (v := .int (S 24 0)) (C := RX3) (T := TX3) (N := 6) hx hb hB inX3 hown hK hP 3 rfl rfl 5 (by decide) (hB _ k1_75) (fun _ h9 => h9) rfl dX3_leastOver_6 ?_
      have b_1 : (0) ≤ (S 24 0).toInt ∧ (S 24 0).toInt ≤ 80 := iv_24 hI
      refine lv_icmp_ge (tgt := 44) hx hb dX3_leastOver_9 (by decide) (fun c_2 => ?_) (fun c_2 => ?_)
      · skip
        have t_2 := Int32.le_iff_toInt_le.mp c_2
        refine lv_iconst (v := (-1)) hx hb dX3_leastOver_44 (by decide) ?_
        exact W.iret (v := (-1)) hx hb hr (fun t ht hW => ⟨⟨(-1), (), rfl, (by rw [← he, l_R_leastOver_3, if_pos c_2]), trivial⟩, hS.F ht⟩) hS.2.2 dX3_leastOver_45
      · skip
        have t_2 := mt Int32.le_iff_toInt_le.mpr c_2
        refine lv_aload_n hx hb dX3_leastOver_12 rfl (lv_at hl 0 rfl) ?_
        refine lv_iload hx hb dX3_leastOver_13 (lv_at hl 5 rfl) ?_
        refine lv_iload_n hx hb dX3_leastOver_15 rfl (lv_at hl 1 rfl) ?_
        refine pu_call (va_runV (As := [.int x5, .int a1]) (rest := []) ⟨hx, hb, hml, hown, hB⟩ (m_R_isLiveOf l D h cI cZ S hI x5 a1 (by omega)) (cwV 2 hB (gV k2_18 k2_20 ks_31 k1_4 k2_21) rfl rfl rfl (by decide +kernel) ⟨Nat.le_of_ble_eq_true rfl, Nat.le_of_ble_eq_true rfl⟩) ⟨pu_blind, va_recv hK hP (ci := 3) (q0 := 3) rfl rfl, pu_pre hP hK hN⟩ rfl rfl hl.1 rfl (lv_room (Nat.le_of_ble_eq_true rfl)) dX3_leastOver_16 ⟨Nat.le_of_ble_eq_true rfl, Nat.le_of_ble_eq_true rfl⟩) hP hS (fun H locs hP hS => ?_)
        refine lv_if_eq (tgt := 38) hx hb dX3_leastOver_19 (by decide) (fun c_4 => ?_) (fun c_4 => ?_)
        · skip
          refine lv_iinc (v := x5 + 1) (lv' := [(5, .int (x5 + 1)), (0, .ref (h 3)), (1, .int a1), (2, .int a2), (3, .int a3), (4, .int a4)]) hx hb dX3_leastOver_38 hl (k := 5) rfl rfl (by decide) rfl (fun ls hl => ?_)
          refine lv_goto (tgt := 3) hx hb dX3_leastOver_41 (by decide) ?_
          have hinc := i32_inc (x := x5) h0 (by omega)
          exact ih (x5 + 1) _ _ _ ⟨by omega, by omega, by omega, trivial⟩ (by rw [← he, l_R_leastOver_3, if_neg c_2, if_pos c_4]) hP hS (lv_sub hl [1, 2, 3, 4, 5, 0] rfl)
        · skip
          refine lv_aload_n hx hb dX3_leastOver_22 rfl (lv_at hl 0 rfl) ?_
          refine lv_iload hx hb dX3_leastOver_23 (lv_at hl 5 rfl) ?_
          refine lv_iload_n hx hb dX3_leastOver_25 rfl (lv_at hl 2 rfl) ?_
          refine lv_iload_n hx hb dX3_leastOver_26 rfl (lv_at hl 3 rfl) ?_
          refine lv_iload hx hb dX3_leastOver_27 (lv_at hl 4 rfl) ?_
          refine pu_call (va_runV (As := [.int x5, .int a2, .int a3, .int a4]) (rest := []) ⟨hx, hb, hml, hown, hB⟩ (m_R_isOver l D h cI cZ S hI x5 a2 a3 a4 (by omega)) (cwV 4 hB (gV k2_22 k2_24 ks_42 k1_4 k2_25) rfl rfl rfl (by decide +kernel) ⟨Nat.le_of_ble_eq_true rfl, Nat.le_of_ble_eq_true rfl⟩) ⟨pu_blind, va_recv hK hP (ci := 3) (q0 := 3) rfl rfl, pu_pre hP hK hN⟩ rfl rfl hl.1 rfl (lv_room (Nat.le_of_ble_eq_true rfl)) dX3_leastOver_29 ⟨Nat.le_of_ble_eq_true rfl, Nat.le_of_ble_eq_true rfl⟩) hP hS (fun H locs hP hS => ?_)
          refine lv_if_eq (tgt := 38) hx hb dX3_leastOver_32 (by decide) (fun c_6 => ?_) (fun c_6 => ?_)
          · skip
            refine lv_iinc (v := x5 + 1) (lv' := [(5, .int (x5 + 1)), (0, .ref (h 3)), (1, .int a1), (2, .int a2), (3, .int a3), (4, .int a4)]) hx hb dX3_leastOver_38 hl (k := 5) rfl rfl (by decide) rfl (fun ls hl => ?_)
            refine lv_goto (tgt := 3) hx hb dX3_leastOver_41 (by decide) ?_
            have hinc := i32_inc (x := x5) h0 (by omega)
            exact ih (x5 + 1) _ _ _ ⟨by omega, by omega, by omega, trivial⟩ (by rw [← he, l_R_leastOver_3, if_neg c_2, if_neg c_4, if_pos c_6]) hP hS (lv_sub hl [1, 2, 3, 4, 5, 0] rfl)
          · skip
            refine lv_iload hx hb dX3_leastOver_35 (lv_at hl 5 rfl) ?_
            exact W.iret (v := x5) hx hb hr (fun t ht hW => ⟨⟨x5, (), rfl, (by rw [← he, l_R_leastOver_3, if_neg c_2, if_neg c_4, if_neg c_6]), trivial⟩, hS.F ht⟩) hS.2.2 dX3_leastOver_37
  have hB9 := iv_24 hI
  have z_0 : ((0) : Int32).toInt = (0) := by decide
  exact loop3 600 0 _ _ _ ⟨by omega, by omega, by omega, trivial⟩ (by rw [f_R_leastOver]) hP hS (lv_sub hl [1, 2, 3, 4, 5, 0] rfl)
set_option maxHeartbeats 4000000 in
set_option maxRecDepth 100000 in
theorem m_R_leastOverAnyOf (l : Launch) (D : va_G) (h : Nat → Nat) (cI cZ : ClassId) (S : BS) (hI : IV S) (a1 a2 : Int32) : PM l yX3_leastOverAnyOf wsX3_leastOverAnyOf { frames := 5, cells := 0, slots := 0, locals := 112 } D cI cZ h S [.ref (h 3), .int a1, .int a2] (f_R_leastOverAnyOf S a1 a2) := by
  refine Met.ofW (cc := cX3_leastOverAnyOf) (maxL := 4) (ret := (some .int)) (by decide) rfl ?_
  intro p e s m args below meth c s₁ B hml hv
  obtain ⟨rfl, hP, hK, hN⟩ := hv
  have hx := B.exec
  have hb := B.bytes
  have hr := B.returns
  have hts := atoms_spec (ws := wsX3_leastOverAnyOf) B.pre
  have hB : ∀ w ∈ BW, w.before _ s = true := fun w h => hts w (List.mem_cons_of_mem _ h)
  have hown : s.vm.findClass RX3 = some m.cls := findClass_of_methodNamed B.named
  have hlocks := B.notSynchronized
  have hS : va_S (fun _ => False) s.heap s.heap [] := va_S.rf
  have hl := lv_entry ([.ref (h 3), .int a1, .int a2]) (n := 4) (Nat.le_of_ble_eq_true rfl)
  rw [lg_entry_eq]
  generalize (lg_sl ([.ref (h 3), .int a1, .int a2]) ++ List.replicate (4 - (lg_sl ([.ref (h 3), .int a1, .int a2])).length) Slot.unset).toArray = ls at hl ⊢
  have hl : lv_has ls 4 [(0, .ref (h 3)), (1, .int a1), (2, .int a2)] := hl
  refine lv_iconst (v := 0) hx hb dX3_leastOverAnyOf_0 (by decide) ?_
  refine lv_istore_n (lv' := [(3, .int 0), (0, .ref (h 3)), (1, .int a1), (2, .int a2)]) hx hb dX3_leastOverAnyOf_1 rfl hl (by decide) rfl (fun ls hl => ?_)
  have loop2 : ∀ (n : Nat) (x3 : Int32) (H : Heap) (locs : List Loc) (ls : Array Slot), (0 ≤ x3.toInt ∧ x3.toInt ≤ (S 24 0 : Int32).toInt ∧ (S 24 0 : Int32).toInt - x3.toInt < (n : Int) ∧ True) → l_R_leastOverAnyOf_2 S a1 a2 n x3 = f_R_leastOverAnyOf S a1 a2 → va_P D vwCl (wB h cI cZ S) H → va_S (fun _ => False) s.heap H locs → lv_has ls 4 [(0, .ref (h 3)), (1, .int a1), (2, .int a2), (3, .int x3)] → W p l e (headSpec wsX3_leastOverAnyOf { frames := 5, cells := 0, slots := 0, locals := 112 }).room s m ([.ref (h 3), .int a1, .int a2]).toArray below meth c H locs 0 0 (MQ below (PQ (f_R_leastOverAnyOf S a1 a2)) ([.ref (h 3), .int a1, .int a2]).toArray s 0 0 (fun _ => False)) (F0 m 2 ls []) := by
    intro n
    induction n with
    | zero =>
      intro x3 H locs ls hinv he hP hS hl
      obtain ⟨h0, hle, hm, hex⟩ := hinv
      exact absurd hm (by omega)
    | succ n ih =>
      intro x3 H locs ls hinv he hP hS hl
      obtain ⟨h0, hle, hm, hex⟩ := hinv
      have hB := iv_24 hI
      refine lv_iload_n hx hb dX3_leastOverAnyOf_2 rfl (lv_at hl 3 rfl) ?_
      refine lv_aload_n hx hb dX3_leastOverAnyOf_3 rfl (lv_at hl 0 rfl) ?_
      refine va_get (D := D) (ci := 3) (v := .int (S 24 0)) (C := RX3) (T := TX3) (N := 6) hx hb hB inX3 hown hK hP 3 rfl rfl 5 (by decide) (hB _ k1_75) (fun _ h9 => h9) rfl dX3_leastOverAnyOf_4 ?_
      have b_1 : (0) ≤ (S 24 0).toInt ∧ (S 24 0).toInt ≤ 80 := iv_24 hI
      refine lv_icmp_ge (tgt := 54) hx hb dX3_leastOverAnyOf_7 (by decide) (fun c_2 => ?_) (fun c_2 => ?_)
      · skip
        have t_2 := Int32.le_iff_toInt_le.mp c_2
        refine lv_iconst (v := (-1)) hx hb dX3_leastOverAnyOf_54 (by decide) ?_
        exact W.iret (v := (-1)) hx hb hr (fun t ht hW => ⟨⟨(-1), (), rfl, (by rw [← he, l_R_leastOverAnyOf_2, if_pos c_2]), trivial⟩, hS.F ht⟩) hS.2.2 dX3_leastOverAnyOf_55
      · skip
        have t_2 := mt Int32.le_iff_toInt_le.mpr c_2
        refine lv_aload_n hx hb dX3_leastOverAnyOf_10 rfl (lv_at hl 0 rfl) ?_
        refine lv_iload_n hx hb dX3_leastOverAnyOf_11 rfl (lv_at hl 3 rfl) ?_
        refine lv_iload_n hx hb dX3_leastOverAnyOf_12 rfl (lv_at hl 2 rfl) ?_
        refine pu_call (va_runV (As := [.int x3, .int a2]) (rest := []) ⟨hx, hb, hml, hown, hB⟩ (m_R_isLiveOf l D h cI cZ S hI x3 a2 (by omega)) (cwV 2 hB (gV k2_18 k2_20 ks_31 k1_4 k2_21) rfl rfl rfl (by decide +kernel) ⟨Nat.le_of_ble_eq_true rfl, Nat.le_of_ble_eq_true rfl⟩) ⟨pu_blind, va_recv hK hP (ci := 3) (q0 := 3) rfl rfl, pu_pre hP hK hN⟩ rfl rfl hl.1 rfl (lv_room (Nat.le_of_ble_eq_true rfl)) dX3_leastOverAnyOf_13 ⟨Nat.le_of_ble_eq_true rfl, Nat.le_of_ble_eq_true rfl⟩) hP hS (fun H locs hP hS => ?_)
        refine lv_if_eq (tgt := 48) hx hb dX3_leastOverAnyOf_16 (by decide) (fun c_4 => ?_) (fun c_4 => ?_)
        · skip
          refine lv_iinc (v := x3 + 1) (lv' := [(3, .int (x3 + 1)), (0, .ref (h 3)), (1, .int a1), (2, .int a2)]) hx hb dX3_leastOverAnyOf_48 hl (k := 3) rfl rfl (by decide) rfl (fun ls hl => ?_)
          refine lv_goto (tgt := 2) hx hb dX3_leastOverAnyOf_51 (by decide) ?_
          have hinc := i32_inc (x := x3) h0 (by omega)
          exact ih (x3 + 1) _ _ _ ⟨by omega, by omega, by omega, trivial⟩ (by rw [← he, l_R_leastOverAnyOf_2, if_neg c_2, if_pos c_4]) hP hS (lv_sub hl [1, 2, 3, 0] rfl)
        · skip
          refine lv_aload_n hx hb dX3_leastOverAnyOf_19 rfl (lv_at hl 0 rfl) ?_
          refine lv_iload_n hx hb dX3_leastOverAnyOf_20 rfl (lv_at hl 1 rfl) ?_
          refine lv_aload_n hx hb dX3_leastOverAnyOf_21 rfl (lv_at hl 0 rfl) ?_
          refine va_get (D := D) (ci := 3) (v := .ref (h 13)) (C := RX3) (T := TX3) (N := 6) hx hb hB inX3 hown hK hP 3 rfl rfl 1 (by decide) (hB _ k1_67) (fun _ h9 => h9) rfl dX3_leastOverAnyOf_22 ?_
          refine lv_iload_n hx hb dX3_leastOverAnyOf_25 rfl (lv_at hl 3 rfl) ?_
          refine va_iald (f := S 7) hx hb hK hP 13 0 rfl rfl (vp_in_iff.mpr (by omega)) dX3_leastOverAnyOf_26 ?_
          refine lv_aload_n hx hb dX3_leastOverAnyOf_27 rfl (lv_at hl 0 rfl) ?_
          refine va_get (D := D) (ci := 3) (v := .ref (h 14)) (C := RX3) (T := TX3) (N := 6) hx hb hB inX3 hown hK hP 3 rfl rfl 2 (by decide) (hB _ k1_69) (fun _ h9 => h9) rfl dX3_leastOverAnyOf_28 ?_
          refine lv_iload_n hx hb dX3_leastOverAnyOf_31 rfl (lv_at hl 3 rfl) ?_
          refine va_iald (f := S 8) hx hb hK hP 14 0 rfl rfl (vp_in_iff.mpr (by omega)) dX3_leastOverAnyOf_32 ?_
          have b_5 : (0) ≤ (S 8 x3.toNatClampNeg).toInt ∧ (S 8 x3.toNatClampNeg).toInt ≤ 1000 := iv_8 hI x3.toNatClampNeg
          refine lv_aload_n hx hb dX3_leastOverAnyOf_33 rfl (lv_at hl 0 rfl) ?_
          refine va_get (D := D) (ci := 3) (v := .ref (h 15)) (C := RX3) (T := TX3) (N := 6) hx hb hB inX3 hown hK hP 3 rfl rfl 3 (by decide) (hB _ k1_71) (fun _ h9 => h9) rfl dX3_leastOverAnyOf_34 ?_
          refine lv_iload_n hx hb dX3_leastOverAnyOf_37 rfl (lv_at hl 3 rfl) ?_
          refine va_iald (f := S 9) hx hb hK hP 15 0 rfl rfl (vp_in_iff.mpr (by omega)) dX3_leastOverAnyOf_38 ?_
          have b_6 : (-1) ≤ (S 9 x3.toNatClampNeg).toInt ∧ (S 9 x3.toNatClampNeg).toInt ≤ 999 := iv_9 hI x3.toNatClampNeg
          refine pu_call (va_runV (As := [.int a1, .int (S 7 x3.toNatClampNeg), .int (S 8 x3.toNatClampNeg), .int (S 9 x3.toNatClampNeg)]) (rest := []) ⟨hx, hb, hml, hown, hB⟩ (m_R_leastOver l D h cI cZ S hI a1 (S 7 x3.toNatClampNeg) (S 8 x3.toNatClampNeg) (S 9 x3.toNatClampNeg) ) (cwV 4 hB (gV k2_112 k2_16 ks_46 k1_4 k2_17) rfl rfl rfl (by decide +kernel) ⟨Nat.le_of_ble_eq_true rfl, Nat.le_of_ble_eq_true rfl⟩) ⟨pu_blind, va_recv hK hP (ci := 3) (q0 := 3) rfl rfl, pu_pre hP hK hN⟩ rfl rfl hl.1 rfl (lv_room (Nat.le_of_ble_eq_true rfl)) dX3_leastOverAnyOf_39 ⟨Nat.le_of_ble_eq_true rfl, Nat.le_of_ble_eq_true rfl⟩) hP hS (fun H locs hP hS => ?_)
          refine lv_iconst (v := (-1)) hx hb dX3_leastOverAnyOf_42 (by decide) ?_
          refine lv_icmp_eq (tgt := 48) hx hb dX3_leastOverAnyOf_43 (by decide) (fun c_8 => ?_) (fun c_8 => ?_)
          · skip
            have z_m1 : ((-1) : Int32).toInt = (-1) := by decide
            have t_8 := Int32.toInt_inj.symm.mp c_8
            refine lv_iinc (v := x3 + 1) (lv' := [(3, .int (x3 + 1)), (0, .ref (h 3)), (1, .int a1), (2, .int a2)]) hx hb dX3_leastOverAnyOf_48 hl (k := 3) rfl rfl (by decide) rfl (fun ls hl => ?_)
            refine lv_goto (tgt := 2) hx hb dX3_leastOverAnyOf_51 (by decide) ?_
            have hinc := i32_inc (x := x3) h0 (by omega)
            exact ih (x3 + 1) _ _ _ ⟨by omega, by omega, by omega, trivial⟩ (by rw [← he, l_R_leastOverAnyOf_2, if_neg c_2, if_neg c_4, if_pos c_8]) hP hS (lv_sub hl [1, 2, 3, 0] rfl)
          · skip
            have z_m1 : ((-1) : Int32).toInt = (-1) := by decide
            have t_8 := mt Int32.toInt_inj.mp c_8
            refine lv_iload_n hx hb dX3_leastOverAnyOf_46 rfl (lv_at hl 3 rfl) ?_
            exact W.iret (v := x3) hx hb hr (fun t ht hW => ⟨⟨x3, (), rfl, (by rw [← he, l_R_leastOverAnyOf_2, if_neg c_2, if_neg c_4, if_neg c_8]), trivial⟩, hS.F ht⟩) hS.2.2 dX3_leastOverAnyOf_47
  have hB9 := iv_24 hI
  have z_0 : ((0) : Int32).toInt = (0) := by decide
  exact loop2 600 0 _ _ _ ⟨by omega, by omega, by omega, trivial⟩ (by rw [f_R_leastOverAnyOf]) hP hS (lv_sub hl [1, 2, 3, 0] rfl)
set_option maxHeartbeats 4000000 in
set_option maxRecDepth 100000 in
theorem m_R_housesOf (l : Launch) (D : va_G) (h : Nat → Nat) (cI cZ : ClassId) (S : BS) (hI : IV S) (a1 : Int32) : PM l yX3_housesOf wsX3_housesOf { frames := 1, cells := 0, slots := 0, locals := 22 } D cI cZ h S [.ref (h 3), .int a1] (f_R_housesOf S a1) := by
  refine Met.ofW (cc := cX3_housesOf) (maxL := 5) (ret := (some .int)) (by decide) rfl ?_
  intro p e s m args below meth c s₁ B hml hv
  obtain ⟨rfl, hP, hK, hN⟩ := hv
  have hx := B.exec
  have hb := B.bytes
  have hr := B.returns
  have hts := atoms_spec (ws := wsX3_housesOf) B.pre
  have hB : ∀ w ∈ BW, w.before _ s = true := fun w h => hts w (List.mem_cons_of_mem _ h)
  have hown : s.vm.findClass RX3 = some m.cls := findClass_of_methodNamed B.named
  have hlocks := B.notSynchronized
  have hS : va_S (fun _ => False) s.heap s.heap [] := va_S.rf
  have hl := lv_entry ([.ref (h 3), .int a1]) (n := 5) (Nat.le_of_ble_eq_true rfl)
  rw [lg_entry_eq]
  generalize (lg_sl ([.ref (h 3), .int a1]) ++ List.replicate (5 - (lg_sl ([.ref (h 3), .int a1])).length) Slot.unset).toArray = ls at hl ⊢
  have hl : lv_has ls 5 [(0, .ref (h 3)), (1, .int a1)] := hl
  refine lv_iconst (v := 0) hx hb dX3_housesOf_0 (by decide) ?_
  refine lv_istore_n (lv' := [(2, .int 0), (0, .ref (h 3)), (1, .int a1)]) hx hb dX3_housesOf_1 rfl hl (by decide) rfl (fun ls hl => ?_)
  refine lv_iconst (v := 0) hx hb dX3_housesOf_2 (by decide) ?_
  refine lv_istore_n (lv' := [(3, .int 0), (2, .int 0), (0, .ref (h 3)), (1, .int a1)]) hx hb dX3_housesOf_3 rfl hl (by decide) rfl (fun ls hl => ?_)
  have loop4 : ∀ (n : Nat) (x2 x3 : Int32) (H : Heap) (locs : List Loc) (ls : Array Slot), (0 ≤ x3.toInt ∧ x3.toInt ≤ (S 24 0 : Int32).toInt ∧ (S 24 0 : Int32).toInt - x3.toInt < (n : Int) ∧ True) → l_R_housesOf_4 S a1 n x2 x3 = f_R_housesOf S a1 → va_P D vwCl (wB h cI cZ S) H → va_S (fun _ => False) s.heap H locs → lv_has ls 5 [(0, .ref (h 3)), (1, .int a1), (2, .int x2), (3, .int x3)] → W p l e (headSpec wsX3_housesOf { frames := 1, cells := 0, slots := 0, locals := 22 }).room s m ([.ref (h 3), .int a1]).toArray below meth c H locs 0 0 (MQ below (PQ (f_R_housesOf S a1)) ([.ref (h 3), .int a1]).toArray s 0 0 (fun _ => False)) (F0 m 4 ls []) := by
    intro n
    induction n with
    | zero =>
      intro x2 x3 H locs ls hinv he hP hS hl
      obtain ⟨h0, hle, hm, hex⟩ := hinv
      exact absurd hm (by omega)
    | succ n ih =>
      intro x2 x3 H locs ls hinv he hP hS hl
      obtain ⟨h0, hle, hm, hex⟩ := hinv
      have hB := iv_24 hI
      refine lv_iload_n hx hb dX3_housesOf_4 rfl (lv_at hl 3 rfl) ?_
      refine lv_aload_n hx hb dX3_housesOf_5 rfl (lv_at hl 0 rfl) ?_
      refine va_get (D := D) (ci := 3) (v := .int (S 24 0)) (C := RX3) (T := TX3) (N := 6) hx hb hB inX3 hown hK hP 3 rfl rfl 5 (by decide) (hB _ k1_75) (fun _ h9 => h9) rfl dX3_housesOf_6 ?_
      have b_1 : (0) ≤ (S 24 0).toInt ∧ (S 24 0).toInt ≤ 80 := iv_24 hI
      refine lv_icmp_ge (tgt := 65) hx hb dX3_housesOf_9 (by decide) (fun c_2 => ?_) (fun c_2 => ?_)
      · skip
        have t_2 := Int32.le_iff_toInt_le.mp c_2
        refine lv_iload_n hx hb dX3_housesOf_65 rfl (lv_at hl 2 rfl) ?_
        exact W.iret (v := x2) hx hb hr (fun t ht hW => ⟨⟨x2, (), rfl, (by rw [← he, l_R_housesOf_4, if_pos c_2]), trivial⟩, hS.F ht⟩) hS.2.2 dX3_housesOf_66
      · skip
        have t_2 := mt Int32.le_iff_toInt_le.mpr c_2
        refine lv_aload_n hx hb dX3_housesOf_12 rfl (lv_at hl 0 rfl) ?_
        refine lv_iload_n hx hb dX3_housesOf_13 rfl (lv_at hl 3 rfl) ?_
        refine lv_iload_n hx hb dX3_housesOf_14 rfl (lv_at hl 1 rfl) ?_
        refine pu_call (va_runV (As := [.int x3, .int a1]) (rest := []) ⟨hx, hb, hml, hown, hB⟩ (m_R_isLiveOf l D h cI cZ S hI x3 a1 (by omega)) (cwV 2 hB (gV k2_18 k2_20 ks_31 k1_4 k2_21) rfl rfl rfl (by decide +kernel) ⟨Nat.le_of_ble_eq_true rfl, Nat.le_of_ble_eq_true rfl⟩) ⟨pu_blind, va_recv hK hP (ci := 3) (q0 := 3) rfl rfl, pu_pre hP hK hN⟩ rfl rfl hl.1 rfl (lv_room (Nat.le_of_ble_eq_true rfl)) dX3_housesOf_15 ⟨Nat.le_of_ble_eq_true rfl, Nat.le_of_ble_eq_true rfl⟩) hP hS (fun H locs hP hS => ?_)
        refine lv_if_eq (tgt := 59) hx hb dX3_housesOf_18 (by decide) (fun c_4 => ?_) (fun c_4 => ?_)
        · skip
          refine lv_iinc (v := x3 + 1) (lv' := [(3, .int (x3 + 1)), (0, .ref (h 3)), (1, .int a1), (2, .int x2)]) hx hb dX3_housesOf_59 hl (k := 3) rfl rfl (by decide) rfl (fun ls hl => ?_)
          refine lv_goto (tgt := 4) hx hb dX3_housesOf_62 (by decide) ?_
          have hinc := i32_inc (x := x3) h0 (by omega)
          exact ih x2 (x3 + 1) _ _ _ ⟨by omega, by omega, by omega, trivial⟩ (by rw [← he, l_R_housesOf_4, if_neg c_2, if_pos c_4]) hP hS (lv_sub hl [1, 2, 3, 0] rfl)
        · skip
          refine lv_aload_n hx hb dX3_housesOf_21 rfl (lv_at hl 0 rfl) ?_
          refine va_get (D := D) (ci := 3) (v := .ref (h 15)) (C := RX3) (T := TX3) (N := 6) hx hb hB inX3 hown hK hP 3 rfl rfl 3 (by decide) (hB _ k1_71) (fun _ h9 => h9) rfl dX3_housesOf_22 ?_
          refine lv_iload_n hx hb dX3_housesOf_25 rfl (lv_at hl 3 rfl) ?_
          refine va_iald (f := S 9) hx hb hK hP 15 0 rfl rfl (vp_in_iff.mpr (by omega)) dX3_housesOf_26 ?_
          have b_5 : (-1) ≤ (S 9 x3.toNatClampNeg).toInt ∧ (S 9 x3.toNatClampNeg).toInt ≤ 999 := iv_9 hI x3.toNatClampNeg
          refine lv_aload_n hx hb dX3_housesOf_27 rfl (lv_at hl 0 rfl) ?_
          refine va_get (D := D) (ci := 3) (v := .ref (h 14)) (C := RX3) (T := TX3) (N := 6) hx hb hB inX3 hown hK hP 3 rfl rfl 2 (by decide) (hB _ k1_69) (fun _ h9 => h9) rfl dX3_housesOf_28 ?_
          refine lv_iload_n hx hb dX3_housesOf_31 rfl (lv_at hl 3 rfl) ?_
          refine va_iald (f := S 8) hx hb hK hP 14 0 rfl rfl (vp_in_iff.mpr (by omega)) dX3_housesOf_32 ?_
          have b_6 : (0) ≤ (S 8 x3.toNatClampNeg).toInt ∧ (S 8 x3.toNatClampNeg).toInt ≤ 1000 := iv_8 hI x3.toNatClampNeg
          refine lv_isub hx hb dX3_housesOf_33 ?_
          refine lv_istore (lv' := [(4, .int ((S 9 x3.toNatClampNeg) - (S 8 x3.toNatClampNeg))), (0, .ref (h 3)), (1, .int a1), (2, .int x2), (3, .int x3)]) hx hb dX3_housesOf_34 hl (by decide) rfl (fun ls hl => ?_)
          refine lv_iload_n hx hb dX3_housesOf_36 rfl (lv_at hl 3 rfl) ?_
          refine lv_iconst (v := 1) hx hb dX3_housesOf_37 (by decide) ?_
          refine lv_aload_n hx hb dX3_housesOf_38 rfl (lv_at hl 1 rfl) ?_
          refine va_get (D := D) (ci := 3) (v := .ref (h 13)) (C := RX3) (T := TX3) (N := 6) hx hb hB inX3 hown hK hP 3 rfl rfl 1 (by decide) (hB _ k1_67) (fun _ h9 => h9) rfl dX3_housesOf_39 ?_
          refine lv_iload_n hx hb dX3_housesOf_42 rfl (lv_at hl 4 rfl) ?_
          refine va_iald (f := S 7) hx hb hK hP 13 0 rfl rfl (vp_in_iff.mpr (by omega)) dX3_housesOf_43 ?_
          refine lv_if_ne (tgt := 52) hx hb dX3_housesOf_44 (by decide) (fun c_7 => ?_) (fun c_7 => ?_)
          · skip
            have z_0 : ((0) : Int32).toInt = (0) := by decide
            have t_7 := mt Int32.toInt_inj.mp c_7
            refine lv_iload hx hb dX3_housesOf_52 (lv_at hl 0 rfl) ?_
            refine lv_iconst (v := 2) hx hb dX3_housesOf_54 (by decide) ?_
            refine lv_idiv hx hb dX3_housesOf_55 (by decide) ?_
            refine lv_iadd hx hb dX3_housesOf_56 ?_
            refine lv_iadd hx hb dX3_housesOf_57 ?_
            refine lv_istore_n (lv' := [(2, .int (x2 + (1 + (((S 9 x3.toNatClampNeg) - (S 8 x3.toNatClampNeg)) / 2)))), (4, .int ((S 9 x3.toNatClampNeg) - (S 8 x3.toNatClampNeg))), (0, .ref (h 3)), (1, .int a1), (3, .int x3)]) hx hb dX3_housesOf_58 rfl hl (by decide) rfl (fun ls hl => ?_)
            refine lv_iinc (v := x3 + 1) (lv' := [(3, .int (x3 + 1)), (2, .int (x2 + (1 + (((S 9 x3.toNatClampNeg) - (S 8 x3.toNatClampNeg)) / 2)))), (4, .int ((S 9 x3.toNatClampNeg) - (S 8 x3.toNatClampNeg))), (0, .ref (h 3)), (1, .int a1)]) hx hb dX3_housesOf_59 hl (k := 4) rfl rfl (by decide) rfl (fun ls hl => ?_)
            refine lv_goto (tgt := 4) hx hb dX3_housesOf_62 (by decide) ?_
            have hinc := i32_inc (x := x3) h0 (by omega)
            exact ih (x2 + (1 + (((S 9 x3.toNatClampNeg) - (S 8 x3.toNatClampNeg)) / 2))) (x3 + 1) _ _ _ ⟨by omega, by omega, by omega, trivial⟩ (by rw [← he, l_R_housesOf_4, if_neg c_2, if_neg c_4, if_neg c_7]) hP hS (lv_sub hl [3, 4, 1, 0] rfl)
          · skip
            have z_0 : ((0) : Int32).toInt = (0) := by decide
            have t_7 := Int32.toInt_inj.symm.mp c_7
            refine lv_iload hx hb dX3_housesOf_47 (lv_at hl 0 rfl) ?_
            refine lv_goto (tgt := 56) hx hb dX3_housesOf_49 (by decide) ?_
            refine lv_iadd hx hb dX3_housesOf_56 ?_
            refine lv_iadd hx hb dX3_housesOf_57 ?_
            refine lv_istore_n (lv' := [(2, .int (x2 + (1 + ((S 9 x3.toNatClampNeg) - (S 8 x3.toNatClampNeg))))), (4, .int ((S 9 x3.toNatClampNeg) - (S 8 x3.toNatClampNeg))), (0, .ref (h 3)), (1, .int a1), (3, .int x3)]) hx hb dX3_housesOf_58 rfl hl (by decide) rfl (fun ls hl => ?_)
            refine lv_iinc (v := x3 + 1) (lv' := [(3, .int (x3 + 1)), (2, .int (x2 + (1 + ((S 9 x3.toNatClampNeg) - (S 8 x3.toNatClampNeg))))), (4, .int ((S 9 x3.toNatClampNeg) - (S 8 x3.toNatClampNeg))), (0, .ref (h 3)), (1, .int a1)]) hx hb dX3_housesOf_59 hl (k := 4) rfl rfl (by decide) rfl (fun ls hl => ?_)
            refine lv_goto (tgt := 4) hx hb dX3_housesOf_62 (by decide) ?_
            have hinc := i32_inc (x := x3) h0 (by omega)
            exact ih (x2 + (1 + ((S 9 x3.toNatClampNeg) - (S 8 x3.toNatClampNeg)))) (x3 + 1) _ _ _ ⟨by omega, by omega, by omega, trivial⟩ (by rw [← he, l_R_housesOf_4, if_neg c_2, if_neg c_4, if_pos c_7]) hP hS (lv_sub hl [3, 4, 1, 0] rfl)
  have hB9 := iv_24 hI
  have z_0 : ((0) : Int32).toInt = (0) := by decide
  exact loop4 600 0 0 _ _ _ ⟨by omega, by omega, by omega, trivial⟩ (by rw [f_R_housesOf]) hP hS (lv_sub hl [2, 3, 1, 0] rfl)
set_option maxHeartbeats 4000000 in
set_option maxRecDepth 100000 in
theorem m_R_moveLive (l : Launch) (D : va_G) (h : Nat → Nat) (cI cZ : ClassId) (S : BS) (hI : IV S) (a1 a2 : Int32) (ha1 : 0 ≤ a2.toInt ∧ a2.toInt ≤ 31) : VM l yX3_moveLive wsX3_moveLive { frames := 1, cells := 0, slots := 0, locals := 22 } D cI cZ h S [.ref (h 3), .int a1, .int a2] (F_R_moveLive S a1 a2) := by
  refine Met.ofW (cc := cX3_moveLive) (maxL := 4) (ret := none) (by decide) rfl ?_
  intro p e s m args below meth c s₁ B hml hv
  obtain ⟨rfl, hP, hK, hN, hD0⟩ := hv
  have hx := B.exec
  have hb := B.bytes
  have hr := B.returns
  have hts := atoms_spec (ws := wsX3_moveLive) B.pre
  have hB : ∀ w ∈ BW, w.before _ s = true := fun w h => hts w (List.mem_cons_of_mem _ h)
  have hown : s.vm.findClass RX3 = some m.cls := findClass_of_methodNamed B.named
  have hlocks := B.notSynchronized
  have hD := bD hD0
  have hS : va_S (bA h) s.heap s.heap [] := va_S.rf
  have hl := lv_entry ([.ref (h 3), .int a1, .int a2]) (n := 4) (Nat.le_of_ble_eq_true rfl)
  rw [lg_entry_eq]
  generalize (lg_sl ([.ref (h 3), .int a1, .int a2]) ++ List.replicate (4 - (lg_sl ([.ref (h 3), .int a1, .int a2])).length) Slot.unset).toArray = ls at hl ⊢
  have hl : lv_has ls 4 [(0, .ref (h 3)), (1, .int a1), (2, .int a2)] := hl
  refine lv_iconst (v := 0) hx hb dX3_moveLive_0 (by decide) ?_
  refine lv_istore_n (lv' := [(3, .int 0), (0, .ref (h 3)), (1, .int a1), (2, .int a2)]) hx hb dX3_moveLive_1 rfl hl (by decide) rfl (fun ls hl => ?_)
  have loop2 : ∀ (n : Nat) (Z : BS) (x3 : Int32) (H : Heap) (locs : List Loc) (ls : Array Slot), IV Z → (0 ≤ x3.toInt ∧ x3.toInt ≤ (Z 24 0 : Int32).toInt ∧ (Z 24 0 : Int32).toInt - x3.toInt < (n : Int) ∧ True) → l_R_moveLive_2 a1 a2 n Z x3 = F_R_moveLive S a1 a2 → va_P D vwCl (wB h cI cZ Z) H → va_D (bA h) (wB h cI cZ Z) → va_S (bA h) s.heap H locs → lv_has ls 4 [(0, .ref (h 3)), (1, .int a1), (2, .int a2), (3, .int x3)] → W p l e (headSpec wsX3_moveLive { frames := 1, cells := 0, slots := 0, locals := 22 }).room s m ([.ref (h 3), .int a1, .int a2]).toArray below meth c H locs 0 0 (MQ below (VQ D cI cZ h (F_R_moveLive S a1 a2)) ([.ref (h 3), .int a1, .int a2]).toArray s 0 0 (bA h)) (F0 m 2 ls []) := by
    intro n
    induction n with
    | zero =>
      intro Z x3 H locs ls hI hinv he hP hD hS hl
      obtain ⟨h0, hle, hm, hex⟩ := hinv
      exact absurd hm (by omega)
    | succ n ih =>
      intro Z x3 H locs ls hI hinv he hP hD hS hl
      obtain ⟨h0, hle, hm, hex⟩ := hinv
      have hB := iv_24 hI
      refine lv_iload_n hx hb dX3_moveLive_2 rfl (lv_at hl 3 rfl) ?_
      refine lv_aload_n hx hb dX3_moveLive_3 rfl (lv_at hl 0 rfl) ?_
      refine va_get (D := D) (ci := 3) (v := .int (Z 24 0)) (C := RX3) (T := TX3) (N := 6) hx hb hB inX3 hown hK hP 3 rfl rfl 5 (by decide) (hB _ k1_75) (fun _ h9 => h9) rfl dX3_moveLive_4 ?_
      have b_1 : (0) ≤ (Z 24 0).toInt ∧ (Z 24 0).toInt ≤ 80 := iv_24 hI
      refine lv_icmp_ge (tgt := 32) hx hb dX3_moveLive_7 (by decide) (fun c_2 => ?_) (fun c_2 => ?_)
      · skip
        have t_2 := Int32.le_iff_toInt_le.mp c_2
        exact W.vret hx hb hr (fun t ht hW => ⟨⟨Z, rfl, ⟨(by rw [← he, l_R_moveLive_2, if_pos c_2]), hI⟩, by rw [ht]; exact hP⟩, hS.F ht⟩) hS.2.2 dX3_moveLive_32
      · skip
        have t_2 := mt Int32.le_iff_toInt_le.mpr c_2
        refine lv_aload_n hx hb dX3_moveLive_10 rfl (lv_at hl 0 rfl) ?_
        refine lv_iload_n hx hb dX3_moveLive_11 rfl (lv_at hl 3 rfl) ?_
        refine lv_iload_n hx hb dX3_moveLive_12 rfl (lv_at hl 1 rfl) ?_
        refine pu_call (va_runV (As := [.int x3, .int a1]) (rest := []) ⟨hx, hb, hml, hown, hB⟩ (m_R_isLiveOf l D h cI cZ Z hI x3 a1 (by omega)) (cwV 2 hB (gV k2_18 k2_20 ks_31 k1_4 k2_21) rfl rfl rfl (by decide +kernel) ⟨Nat.le_of_ble_eq_true rfl, Nat.le_of_ble_eq_true rfl⟩) ⟨pu_blind, va_recv hK hP (ci := 3) (q0 := 3) rfl rfl, pu_pre hP hK hN⟩ rfl rfl hl.1 rfl (lv_room (Nat.le_of_ble_eq_true rfl)) dX3_moveLive_13 ⟨Nat.le_of_ble_eq_true rfl, Nat.le_of_ble_eq_true rfl⟩) hP hS (fun H locs hP hS => ?_)
        refine lv_if_eq (tgt := 26) hx hb dX3_moveLive_16 (by decide) (fun c_4 => ?_) (fun c_4 => ?_)
        · skip
          refine lv_iinc (v := x3 + 1) (lv' := [(3, .int (x3 + 1)), (0, .ref (h 3)), (1, .int a1), (2, .int a2)]) hx hb dX3_moveLive_26 hl (k := 3) rfl rfl (by decide) rfl (fun ls hl => ?_)
          refine lv_goto (tgt := 2) hx hb dX3_moveLive_29 (by decide) ?_
          have hinc := i32_inc (x := x3) h0 (by omega)
          have e9 : (Z) 24 0 = Z 24 0 := rfl
          exact ih Z (x3 + 1) _ _ _ hI ⟨by omega, by rw [e9]; omega, by rw [e9]; omega, trivial⟩ (by rw [← he, l_R_moveLive_2, if_neg c_2, if_pos c_4]) hP hD hS (lv_sub hl [1, 2, 3, 0] rfl)
        · skip
          refine lv_aload_n hx hb dX3_moveLive_19 rfl (lv_at hl 0 rfl) ?_
          refine va_get (D := D) (ci := 3) (v := .ref (h 12)) (C := RX3) (T := TX3) (N := 6) hx hb hB inX3 hown hK hP 3 rfl rfl 0 (by decide) (hB _ k1_65) (fun _ h9 => h9) rfl dX3_moveLive_20 ?_
          refine lv_iload_n hx hb dX3_moveLive_23 rfl (lv_at hl 3 rfl) ?_
          refine lv_iload_n hx hb dX3_moveLive_24 rfl (lv_at hl 2 rfl) ?_
          refine va_iast (f := Z 6) hx hb hK hP hD hS 12 0 rfl rfl (vp_in_iff.mpr (by omega)) dX3_moveLive_25 (fun H locs hP hD hS => ?_)
          have hP : va_P D vwCl (wB h cI cZ (upS Z 6 x3.toNatClampNeg a2)) H := hP
          have hD : va_D (bA h) (wB h cI cZ (upS Z 6 x3.toNatClampNeg a2)) := hD
          have hI_5 : IV (upS Z 6 x3.toNatClampNeg a2) := iv_up (S := Z) hI 6 x3.toNatClampNeg a2 (iv_one 6 0 31 rfl (by omega))
          refine lv_iinc (v := x3 + 1) (lv' := [(3, .int (x3 + 1)), (0, .ref (h 3)), (1, .int a1), (2, .int a2)]) hx hb dX3_moveLive_26 hl (k := 3) rfl rfl (by decide) rfl (fun ls hl => ?_)
          refine lv_goto (tgt := 2) hx hb dX3_moveLive_29 (by decide) ?_
          have hinc := i32_inc (x := x3) h0 (by omega)
          have e9 : (upS Z 6 x3.toNatClampNeg a2) 24 0 = Z 24 0 := rfl
          exact ih (upS Z 6 x3.toNatClampNeg a2) (x3 + 1) _ _ _ hI_5 ⟨by omega, by rw [e9]; omega, by rw [e9]; omega, trivial⟩ (by rw [← he, l_R_moveLive_2, if_neg c_2, if_neg c_4]) hP hD hS (lv_sub hl [1, 2, 3, 0] rfl)
  have hB9 := iv_24 hI
  have z_0 : ((0) : Int32).toInt = (0) := by decide
  exact loop2 600 S 0 _ _ _ hI ⟨by omega, by omega, by omega, trivial⟩ (by rw [F_R_moveLive]) hP hD hS (lv_sub hl [1, 2, 3, 0] rfl)
set_option maxHeartbeats 4000000 in
set_option maxRecDepth 100000 in
theorem m_Q_has (l : Launch) (D : va_G) (h : Nat → Nat) (cI cZ : ClassId) (S : BS) (hI : IV S) (a1 : Int32) : PM l yX4_has wsX4_has { frames := 0, cells := 0, slots := 0, locals := 0 } D cI cZ h S [.ref (h 4), .int a1] (f_Q_has S a1) := by
  refine Met.ofW (cc := cX4_has) (maxL := 2) (ret := (some .boolean)) (by decide) rfl ?_
  intro p e s m args below meth c s₁ B hml hv
  obtain ⟨rfl, hP, hK, hN⟩ := hv
  have hx := B.exec
  have hb := B.bytes
  have hr := B.returns
  have hts := atoms_spec (ws := wsX4_has) B.pre
  have hB : ∀ w ∈ BW, w.before _ s = true := fun w h => hts w (List.mem_cons_of_mem _ h)
  have hown : s.vm.findClass RX4 = some m.cls := findClass_of_methodNamed B.named
  have hlocks := B.notSynchronized
  have hS : va_S (fun _ => False) s.heap s.heap [] := va_S.rf
  have hl := lv_entry ([.ref (h 4), .int a1]) (n := 2) (Nat.le_of_ble_eq_true rfl)
  rw [lg_entry_eq]
  generalize (lg_sl ([.ref (h 4), .int a1]) ++ List.replicate (2 - (lg_sl ([.ref (h 4), .int a1])).length) Slot.unset).toArray = ls at hl ⊢
  have hl : lv_has ls 2 [(0, .ref (h 4)), (1, .int a1)] := hl
  refine lv_iload_n hx hb dX4_has_0 rfl (lv_at hl 1 rfl) ?_
  refine lv_if_lt (tgt := 16) hx hb dX4_has_1 (by decide) (fun c_1 => ?_) (fun c_1 => ?_)
  · skip
    have z_0 : ((0) : Int32).toInt = (0) := by decide
    have t_1 := Int32.lt_iff_toInt_lt.mp c_1
    refine lv_iconst (v := 0) hx hb dX4_has_16 (by decide) ?_
    exact W.zret (v := 0) hx hb hr (by decide) (fun t ht hW => ⟨⟨0, (), rfl, (by rw [f_Q_has, if_pos c_1]), trivial⟩, hS.F ht⟩) hS.2.2 dX4_has_17
  · skip
    have z_0 : ((0) : Int32).toInt = (0) := by decide
    have t_1 := mt Int32.lt_iff_toInt_lt.mpr c_1
    refine lv_iload_n hx hb dX4_has_4 rfl (lv_at hl 1 rfl) ?_
    refine lv_aload_n hx hb dX4_has_5 rfl (lv_at hl 0 rfl) ?_
    refine va_get (D := D) (ci := 4) (v := .int (S 25 0)) (C := RX4) (T := TX4) (N := 6) hx hb hB inX4 hown hK hP 4 rfl rfl 5 (by decide) (hB _ k1_105) (fun _ h9 => h9) rfl dX4_has_6 ?_
    have b_2 : (0) ≤ (S 25 0).toInt ∧ (S 25 0).toInt ≤ 120 := iv_25 hI
    refine lv_icmp_ge (tgt := 16) hx hb dX4_has_9 (by decide) (fun c_3 => ?_) (fun c_3 => ?_)
    · skip
      have t_3 := Int32.le_iff_toInt_le.mp c_3
      refine lv_iconst (v := 0) hx hb dX4_has_16 (by decide) ?_
      exact W.zret (v := 0) hx hb hr (by decide) (fun t ht hW => ⟨⟨0, (), rfl, (by rw [f_Q_has, if_neg c_1, if_pos c_3]), trivial⟩, hS.F ht⟩) hS.2.2 dX4_has_17
    · skip
      have t_3 := mt Int32.le_iff_toInt_le.mpr c_3
      refine lv_iconst (v := 1) hx hb dX4_has_12 (by decide) ?_
      refine lv_goto (tgt := 17) hx hb dX4_has_13 (by decide) ?_
      exact W.zret (v := 1) hx hb hr (by decide) (fun t ht hW => ⟨⟨1, (), rfl, (by rw [f_Q_has, if_neg c_1, if_neg c_3]), trivial⟩, hS.F ht⟩) hS.2.2 dX4_has_17
set_option maxHeartbeats 4000000 in
set_option maxRecDepth 100000 in
theorem m_Q_isFull (l : Launch) (D : va_G) (h : Nat → Nat) (cI cZ : ClassId) (S : BS) (hI : IV S) : PM l yX4_isFull wsX4_isFull { frames := 0, cells := 0, slots := 0, locals := 0 } D cI cZ h S [.ref (h 4)] (f_Q_isFull S) := by
  refine Met.ofW (cc := cX4_isFull) (maxL := 1) (ret := (some .boolean)) (by decide) rfl ?_
  intro p e s m args below meth c s₁ B hml hv
  obtain ⟨rfl, hP, hK, hN⟩ := hv
  have hx := B.exec
  have hb := B.bytes
  have hr := B.returns
  have hts := atoms_spec (ws := wsX4_isFull) B.pre
  have hB : ∀ w ∈ BW, w.before _ s = true := fun w h => hts w (List.mem_cons_of_mem _ h)
  have hown : s.vm.findClass RX4 = some m.cls := findClass_of_methodNamed B.named
  have hlocks := B.notSynchronized
  have hS : va_S (fun _ => False) s.heap s.heap [] := va_S.rf
  have hl := lv_entry ([.ref (h 4)]) (n := 1) (Nat.le_of_ble_eq_true rfl)
  rw [lg_entry_eq]
  generalize (lg_sl ([.ref (h 4)]) ++ List.replicate (1 - (lg_sl ([.ref (h 4)])).length) Slot.unset).toArray = ls at hl ⊢
  have hl : lv_has ls 1 [(0, .ref (h 4))] := hl
  refine lv_aload_n hx hb dX4_isFull_0 rfl (lv_at hl 0 rfl) ?_
  refine va_get (D := D) (ci := 4) (v := .int (S 25 0)) (C := RX4) (T := TX4) (N := 6) hx hb hB inX4 hown hK hP 4 rfl rfl 5 (by decide) (hB _ k1_105) (fun _ h9 => h9) rfl dX4_isFull_1 ?_
  have b_1 : (0) ≤ (S 25 0).toInt ∧ (S 25 0).toInt ≤ 120 := iv_25 hI
  refine lv_bipush (v := 120) hx hb dX4_isFull_4 (by decide) ?_
  refine lv_icmp_lt (tgt := 13) hx hb dX4_isFull_6 (by decide) (fun c_2 => ?_) (fun c_2 => ?_)
  · skip
    have z_120 : ((120) : Int32).toInt = (120) := by decide
    have t_2 := Int32.lt_iff_toInt_lt.mp c_2
    refine lv_iconst (v := 0) hx hb dX4_isFull_13 (by decide) ?_
    exact W.zret (v := 0) hx hb hr (by decide) (fun t ht hW => ⟨⟨0, (), rfl, (by rw [f_Q_isFull, if_pos c_2]), trivial⟩, hS.F ht⟩) hS.2.2 dX4_isFull_14
  · skip
    have z_120 : ((120) : Int32).toInt = (120) := by decide
    have t_2 := mt Int32.lt_iff_toInt_lt.mpr c_2
    refine lv_iconst (v := 1) hx hb dX4_isFull_9 (by decide) ?_
    refine lv_goto (tgt := 14) hx hb dX4_isFull_10 (by decide) ?_
    exact W.zret (v := 1) hx hb hr (by decide) (fun t ht hW => ⟨⟨1, (), rfl, (by rw [f_Q_isFull, if_neg c_2]), trivial⟩, hS.F ht⟩) hS.2.2 dX4_isFull_14
set_option maxHeartbeats 4000000 in
set_option maxRecDepth 100000 in
theorem m_Q_add (l : Launch) (D : va_G) (h : Nat → Nat) (cI cZ : ClassId) (S : BS) (hI : IV S) (a1 a2 a3 : Int32) (hroom : (S 25 0).toInt < 120) (ha0 : 0 ≤ a1.toInt ∧ a1.toInt ≤ 79) (ha1 : 0 ≤ a2.toInt ∧ a2.toInt ≤ 31) : WM l yX4_add wsX4_add { frames := 0, cells := 0, slots := 0, locals := 0 } D cI cZ h S [.ref (h 4), .int a1, .int a2, .int a3] (F_Q_add S a1 a2 a3) := by
  refine Met.ofW (cc := cX4_add) (maxL := 4) (ret := (some .int)) (by decide) rfl ?_
  intro p e s m args below meth c s₁ B hml hv
  obtain ⟨rfl, hP, hK, hN, hD0⟩ := hv
  have hx := B.exec
  have hb := B.bytes
  have hr := B.returns
  have hts := atoms_spec (ws := wsX4_add) B.pre
  have hB : ∀ w ∈ BW, w.before _ s = true := fun w h => hts w (List.mem_cons_of_mem _ h)
  have hown : s.vm.findClass RX4 = some m.cls := findClass_of_methodNamed B.named
  have hlocks := B.notSynchronized
  have hD := bD hD0
  have hS : va_S (bA h) s.heap s.heap [] := va_S.rf
  have hl := lv_entry ([.ref (h 4), .int a1, .int a2, .int a3]) (n := 4) (Nat.le_of_ble_eq_true rfl)
  rw [lg_entry_eq]
  generalize (lg_sl ([.ref (h 4), .int a1, .int a2, .int a3]) ++ List.replicate (4 - (lg_sl ([.ref (h 4), .int a1, .int a2, .int a3])).length) Slot.unset).toArray = ls at hl ⊢
  have hl : lv_has ls 4 [(0, .ref (h 4)), (1, .int a1), (2, .int a2), (3, .int a3)] := hl
  refine lv_aload_n hx hb dX4_add_0 rfl (lv_at hl 0 rfl) ?_
  refine va_get (D := D) (ci := 4) (v := .ref (h 17)) (C := RX4) (T := TX4) (N := 6) hx hb hB inX4 hown hK hP 4 rfl rfl 0 (by decide) (hB _ k1_95) (fun _ h9 => h9) rfl dX4_add_1 ?_
  refine lv_aload_n hx hb dX4_add_4 rfl (lv_at hl 0 rfl) ?_
  refine va_get (D := D) (ci := 4) (v := .int (S 25 0)) (C := RX4) (T := TX4) (N := 6) hx hb hB inX4 hown hK hP 4 rfl rfl 5 (by decide) (hB _ k1_105) (fun _ h9 => h9) rfl dX4_add_5 ?_
  have b_1 : (0) ≤ (S 25 0).toInt ∧ (S 25 0).toInt ≤ 120 := iv_25 hI
  refine lv_iload_n hx hb dX4_add_8 rfl (lv_at hl 1 rfl) ?_
  refine va_iast (f := S 11) hx hb hK hP hD hS 17 0 rfl rfl (vp_in_iff.mpr (by omega)) dX4_add_9 (fun H locs hP hD hS => ?_)
  have hP : va_P D vwCl (wB h cI cZ (upS S 11 ((S 25 0).toNatClampNeg) a1)) H := hP
  have hD : va_D (bA h) (wB h cI cZ (upS S 11 ((S 25 0).toNatClampNeg) a1)) := hD
  have hI_2 : IV (upS S 11 ((S 25 0).toNatClampNeg) a1) := iv_up (S := S) hI 11 ((S 25 0).toNatClampNeg) a1 (iv_one 11 0 79 rfl (by omega))
  refine lv_aload_n hx hb dX4_add_10 rfl (lv_at hl 0 rfl) ?_
  refine va_get (D := D) (ci := 4) (v := .ref (h 18)) (C := RX4) (T := TX4) (N := 6) hx hb hB inX4 hown hK hP 4 rfl rfl 1 (by decide) (hB _ k1_97) (fun _ h9 => h9) rfl dX4_add_11 ?_
  refine lv_aload_n hx hb dX4_add_14 rfl (lv_at hl 0 rfl) ?_
  refine va_get (D := D) (ci := 4) (v := .int (S 25 0)) (C := RX4) (T := TX4) (N := 6) hx hb hB inX4 hown hK hP 4 rfl rfl 5 (by decide) (hB _ k1_105) (fun _ h9 => h9) rfl dX4_add_15 ?_
  have b_3 : (0) ≤ (S 25 0).toInt ∧ (S 25 0).toInt ≤ 120 := iv_25 hI_2
  refine lv_iload_n hx hb dX4_add_18 rfl (lv_at hl 2 rfl) ?_
  refine va_iast (f := S 12) hx hb hK hP hD hS 18 0 rfl rfl (vp_in_iff.mpr (by omega)) dX4_add_19 (fun H locs hP hD hS => ?_)
  have hP : va_P D vwCl (wB h cI cZ (upS (upS S 11 ((S 25 0).toNatClampNeg) a1) 12 ((S 25 0).toNatClampNeg) a2)) H := hP
  have hD : va_D (bA h) (wB h cI cZ (upS (upS S 11 ((S 25 0).toNatClampNeg) a1) 12 ((S 25 0).toNatClampNeg) a2)) := hD
  have hI_4 : IV (upS (upS S 11 ((S 25 0).toNatClampNeg) a1) 12 ((S 25 0).toNatClampNeg) a2) := iv_up (S := upS S 11 ((S 25 0).toNatClampNeg) a1) hI_2 12 ((S 25 0).toNatClampNeg) a2 (iv_one 12 0 31 rfl (by omega))
  refine lv_aload_n hx hb dX4_add_20 rfl (lv_at hl 0 rfl) ?_
  refine va_get (D := D) (ci := 4) (v := .ref (h 19)) (C := RX4) (T := TX4) (N := 6) hx hb hB inX4 hown hK hP 4 rfl rfl 2 (by decide) (hB _ k1_99) (fun _ h9 => h9) rfl dX4_add_21 ?_
  refine lv_aload_n hx hb dX4_add_24 rfl (lv_at hl 0 rfl) ?_
  refine va_get (D := D) (ci := 4) (v := .int (S 25 0)) (C := RX4) (T := TX4) (N := 6) hx hb hB inX4 hown hK hP 4 rfl rfl 5 (by decide) (hB _ k1_105) (fun _ h9 => h9) rfl dX4_add_25 ?_
  have b_5 : (0) ≤ (S 25 0).toInt ∧ (S 25 0).toInt ≤ 120 := iv_25 hI_4
  refine lv_iload_n hx hb dX4_add_28 rfl (lv_at hl 3 rfl) ?_
  refine va_iast (f := S 13) hx hb hK hP hD hS 19 0 rfl rfl (vp_in_iff.mpr (by omega)) dX4_add_29 (fun H locs hP hD hS => ?_)
  have hP : va_P D vwCl (wB h cI cZ (upS (upS (upS S 11 ((S 25 0).toNatClampNeg) a1) 12 ((S 25 0).toNatClampNeg) a2) 13 ((S 25 0).toNatClampNeg) a3)) H := hP
  have hD : va_D (bA h) (wB h cI cZ (upS (upS (upS S 11 ((S 25 0).toNatClampNeg) a1) 12 ((S 25 0).toNatClampNeg) a2) 13 ((S 25 0).toNatClampNeg) a3)) := hD
  have hI_6 : IV (upS (upS (upS S 11 ((S 25 0).toNatClampNeg) a1) 12 ((S 25 0).toNatClampNeg) a2) 13 ((S 25 0).toNatClampNeg) a3) := iv_up (S := upS (upS S 11 ((S 25 0).toNatClampNeg) a1) 12 ((S 25 0).toNatClampNeg) a2) hI_4 13 ((S 25 0).toNatClampNeg) a3 (iv_none 13 rfl)
  refine lv_aload_n hx hb dX4_add_30 rfl (lv_at hl 0 rfl) ?_
  refine va_get (D := D) (ci := 4) (v := .ref (h 21)) (C := RX4) (T := TX4) (N := 6) hx hb hB inX4 hown hK hP 4 rfl rfl 4 (by decide) (hB _ k1_103) (fun _ h9 => h9) rfl dX4_add_31 ?_
  refine lv_aload_n hx hb dX4_add_34 rfl (lv_at hl 0 rfl) ?_
  refine va_get (D := D) (ci := 4) (v := .int (S 25 0)) (C := RX4) (T := TX4) (N := 6) hx hb hB inX4 hown hK hP 4 rfl rfl 5 (by decide) (hB _ k1_105) (fun _ h9 => h9) rfl dX4_add_35 ?_
  have b_7 : (0) ≤ (S 25 0).toInt ∧ (S 25 0).toInt ≤ 120 := iv_25 hI_6
  refine lv_iconst (v := 1) hx hb dX4_add_38 (by decide) ?_
  refine va_zast (f := S 15) hx hb hK hP hD hS 21 1 rfl rfl (vp_in_iff.mpr (by omega)) dX4_add_39 (fun H locs hP hD hS => ?_)
  rw [show vp_nar .boolean 1 = 1 from by first | rfl | decide] at hP hD
  have hP : va_P D vwCl (wB h cI cZ (upS (upS (upS (upS S 11 ((S 25 0).toNatClampNeg) a1) 12 ((S 25 0).toNatClampNeg) a2) 13 ((S 25 0).toNatClampNeg) a3) 15 ((S 25 0).toNatClampNeg) 1)) H := hP
  have hD : va_D (bA h) (wB h cI cZ (upS (upS (upS (upS S 11 ((S 25 0).toNatClampNeg) a1) 12 ((S 25 0).toNatClampNeg) a2) 13 ((S 25 0).toNatClampNeg) a3) 15 ((S 25 0).toNatClampNeg) 1)) := hD
  have hI_8 : IV (upS (upS (upS (upS S 11 ((S 25 0).toNatClampNeg) a1) 12 ((S 25 0).toNatClampNeg) a2) 13 ((S 25 0).toNatClampNeg) a3) 15 ((S 25 0).toNatClampNeg) 1) := iv_up (S := upS (upS (upS S 11 ((S 25 0).toNatClampNeg) a1) 12 ((S 25 0).toNatClampNeg) a2) 13 ((S 25 0).toNatClampNeg) a3) hI_6 15 ((S 25 0).toNatClampNeg) 1 (iv_one 15 0 1 rfl (by decide))
  refine lv_aload_n hx hb dX4_add_40 rfl (lv_at hl 0 rfl) ?_
  refine lv_dup hx hb dX4_add_41 rfl ?_
  refine va_get (D := D) (ci := 4) (v := .int (S 25 0)) (C := RX4) (T := TX4) (N := 6) hx hb hB inX4 hown hK hP 4 rfl rfl 5 (by decide) (hB _ k1_105) (fun _ h9 => h9) rfl dX4_add_42 ?_
  have b_9 : (0) ≤ (S 25 0).toInt ∧ (S 25 0).toInt ≤ 120 := iv_25 hI_8
  refine lv_iconst (v := 1) hx hb dX4_add_45 (by decide) ?_
  refine lv_iadd hx hb dX4_add_46 ?_
  refine va_put (D := D) (ci := 4) (v := .int ((S 25 0) + 1)) (ty := .int) (C := RX4) (T := TX4) (N := 6) hx hb hB inX4 tyX4 tyX4_ok nmX4 hown hK hP hD hS 4 rfl rfl 5 (by decide) (hB _ k1_105) (fun _ h9 => h9) rfl (by decide +kernel) rfl rfl (Nat.le_of_ble_eq_true rfl) dX4_add_47 (fun H locs hP hD hS => ?_)
  have hP : va_P D vwCl (wB h cI cZ (upS (upS (upS (upS (upS S 11 ((S 25 0).toNatClampNeg) a1) 12 ((S 25 0).toNatClampNeg) a2) 13 ((S 25 0).toNatClampNeg) a3) 15 ((S 25 0).toNatClampNeg) 1) 25 0 ((S 25 0) + 1))) H := hP
  have hD : va_D (bA h) (wB h cI cZ (upS (upS (upS (upS (upS S 11 ((S 25 0).toNatClampNeg) a1) 12 ((S 25 0).toNatClampNeg) a2) 13 ((S 25 0).toNatClampNeg) a3) 15 ((S 25 0).toNatClampNeg) 1) 25 0 ((S 25 0) + 1))) := hD
  have k_11 := i32_inc (x := (S 25 0)) (by omega) (by omega)
  have hI_10 : IV (upS (upS (upS (upS (upS S 11 ((S 25 0).toNatClampNeg) a1) 12 ((S 25 0).toNatClampNeg) a2) 13 ((S 25 0).toNatClampNeg) a3) 15 ((S 25 0).toNatClampNeg) 1) 25 0 ((S 25 0) + 1)) := iv_up (S := upS (upS (upS (upS S 11 ((S 25 0).toNatClampNeg) a1) 12 ((S 25 0).toNatClampNeg) a2) 13 ((S 25 0).toNatClampNeg) a3) 15 ((S 25 0).toNatClampNeg) 1) hI_8 25 0 ((S 25 0) + 1) (iv_one 25 0 120 rfl (by omega))
  refine lv_aload_n hx hb dX4_add_50 rfl (lv_at hl 0 rfl) ?_
  refine va_get (D := D) (ci := 4) (v := .int ((S 25 0) + 1)) (C := RX4) (T := TX4) (N := 6) hx hb hB inX4 hown hK hP 4 rfl rfl 5 (by decide) (hB _ k1_105) (fun _ h9 => h9) rfl dX4_add_51 ?_
  have b_12 : (0) ≤ ((S 25 0) + 1).toInt ∧ ((S 25 0) + 1).toInt ≤ 120 := iv_25 hI_10
  refine lv_iconst (v := 1) hx hb dX4_add_54 (by decide) ?_
  refine lv_isub hx hb dX4_add_55 ?_
  exact W.iret (v := ((S 25 0) + 1) - 1) hx hb hr (fun t ht hW => ⟨⟨((S 25 0) + 1) - 1, upS (upS (upS (upS (upS S 11 ((S 25 0).toNatClampNeg) a1) 12 ((S 25 0).toNatClampNeg) a2) 13 ((S 25 0).toNatClampNeg) a3) 15 ((S 25 0).toNatClampNeg) 1) 25 0 ((S 25 0) + 1), rfl, ⟨(by rw [F_Q_add]), hI_10⟩, by rw [ht]; exact hP⟩, hS.F ht⟩) hS.2.2 dX4_add_56
set_option maxHeartbeats 4000000 in
set_option maxRecDepth 100000 in
theorem m_Y_isFull (l : Launch) (D : va_G) (h : Nat → Nat) (cI cZ : ClassId) (S : BS) (hI : IV S) : PM l yX5_isFull wsX5_isFull { frames := 0, cells := 0, slots := 0, locals := 0 } D cI cZ h S [.ref (h 5)] (f_Y_isFull S) := by
  refine Met.ofW (cc := cX5_isFull) (maxL := 1) (ret := (some .boolean)) (by decide) rfl ?_
  intro p e s m args below meth c s₁ B hml hv
  obtain ⟨rfl, hP, hK, hN⟩ := hv
  have hx := B.exec
  have hb := B.bytes
  have hr := B.returns
  have hts := atoms_spec (ws := wsX5_isFull) B.pre
  have hB : ∀ w ∈ BW, w.before _ s = true := fun w h => hts w (List.mem_cons_of_mem _ h)
  have hown : s.vm.findClass RX5 = some m.cls := findClass_of_methodNamed B.named
  have hlocks := B.notSynchronized
  have hS : va_S (fun _ => False) s.heap s.heap [] := va_S.rf
  have hl := lv_entry ([.ref (h 5)]) (n := 1) (Nat.le_of_ble_eq_true rfl)
  rw [lg_entry_eq]
  generalize (lg_sl ([.ref (h 5)]) ++ List.replicate (1 - (lg_sl ([.ref (h 5)])).length) Slot.unset).toArray = ls at hl ⊢
  have hl : lv_has ls 1 [(0, .ref (h 5))] := hl
  refine lv_aload_n hx hb dX5_isFull_0 rfl (lv_at hl 0 rfl) ?_
  refine va_get (D := D) (ci := 5) (v := .int (S 26 0)) (C := RX5) (T := TX5) (N := 6) hx hb hB inX5 hown hK hP 5 rfl rfl 5 (by decide) (hB _ k1_134) (fun _ h9 => h9) rfl dX5_isFull_1 ?_
  have b_1 : (0) ≤ (S 26 0).toInt ∧ (S 26 0).toInt ≤ 512 := iv_26 hI
  refine lv_sipush (v := 512) hx hb dX5_isFull_4 (by decide) ?_
  refine lv_icmp_lt (tgt := 14) hx hb dX5_isFull_7 (by decide) (fun c_2 => ?_) (fun c_2 => ?_)
  · skip
    have z_512 : ((512) : Int32).toInt = (512) := by decide
    have t_2 := Int32.lt_iff_toInt_lt.mp c_2
    refine lv_iconst (v := 0) hx hb dX5_isFull_14 (by decide) ?_
    exact W.zret (v := 0) hx hb hr (by decide) (fun t ht hW => ⟨⟨0, (), rfl, (by rw [f_Y_isFull, if_pos c_2]), trivial⟩, hS.F ht⟩) hS.2.2 dX5_isFull_15
  · skip
    have z_512 : ((512) : Int32).toInt = (512) := by decide
    have t_2 := mt Int32.lt_iff_toInt_lt.mpr c_2
    refine lv_iconst (v := 1) hx hb dX5_isFull_10 (by decide) ?_
    refine lv_goto (tgt := 15) hx hb dX5_isFull_11 (by decide) ?_
    exact W.zret (v := 1) hx hb hr (by decide) (fun t ht hW => ⟨⟨1, (), rfl, (by rw [f_Y_isFull, if_neg c_2]), trivial⟩, hS.F ht⟩) hS.2.2 dX5_isFull_15
set_option maxHeartbeats 4000000 in
set_option maxRecDepth 100000 in
theorem m_Y_begin (l : Launch) (D : va_G) (h : Nat → Nat) (cI cZ : ClassId) (S : BS) (hI : IV S) (a1 a2 a3 : Int32) (hroom : (S 26 0).toInt < 512) (ha0 : 0 ≤ a1.toInt ∧ a1.toInt ≤ 119) (ha1 : 0 ≤ a2.toInt ∧ a2.toInt ≤ 999) : WM l yX5_begin wsX5_begin { frames := 0, cells := 0, slots := 0, locals := 0 } D cI cZ h S [.ref (h 5), .int a1, .int a2, .int a3] (F_Y_begin S a1 a2 a3) := by
  refine Met.ofW (cc := cX5_begin) (maxL := 4) (ret := (some .int)) (by decide) rfl ?_
  intro p e s m args below meth c s₁ B hml hv
  obtain ⟨rfl, hP, hK, hN, hD0⟩ := hv
  have hx := B.exec
  have hb := B.bytes
  have hr := B.returns
  have hts := atoms_spec (ws := wsX5_begin) B.pre
  have hB : ∀ w ∈ BW, w.before _ s = true := fun w h => hts w (List.mem_cons_of_mem _ h)
  have hown : s.vm.findClass RX5 = some m.cls := findClass_of_methodNamed B.named
  have hlocks := B.notSynchronized
  have hD := bD hD0
  have hS : va_S (bA h) s.heap s.heap [] := va_S.rf
  have hl := lv_entry ([.ref (h 5), .int a1, .int a2, .int a3]) (n := 4) (Nat.le_of_ble_eq_true rfl)
  rw [lg_entry_eq]
  generalize (lg_sl ([.ref (h 5), .int a1, .int a2, .int a3]) ++ List.replicate (4 - (lg_sl ([.ref (h 5), .int a1, .int a2, .int a3])).length) Slot.unset).toArray = ls at hl ⊢
  have hl : lv_has ls 4 [(0, .ref (h 5)), (1, .int a1), (2, .int a2), (3, .int a3)] := hl
  refine lv_aload_n hx hb dX5_begin_0 rfl (lv_at hl 0 rfl) ?_
  refine va_get (D := D) (ci := 5) (v := .ref (h 22)) (C := RX5) (T := TX5) (N := 6) hx hb hB inX5 hown hK hP 5 rfl rfl 0 (by decide) (hB _ k1_126) (fun _ h9 => h9) rfl dX5_begin_1 ?_
  refine lv_aload_n hx hb dX5_begin_4 rfl (lv_at hl 0 rfl) ?_
  refine va_get (D := D) (ci := 5) (v := .int (S 26 0)) (C := RX5) (T := TX5) (N := 6) hx hb hB inX5 hown hK hP 5 rfl rfl 5 (by decide) (hB _ k1_134) (fun _ h9 => h9) rfl dX5_begin_5 ?_
  have b_1 : (0) ≤ (S 26 0).toInt ∧ (S 26 0).toInt ≤ 512 := iv_26 hI
  refine lv_iload_n hx hb dX5_begin_8 rfl (lv_at hl 1 rfl) ?_
  refine va_iast (f := S 16) hx hb hK hP hD hS 22 0 rfl rfl (vp_in_iff.mpr (by omega)) dX5_begin_9 (fun H locs hP hD hS => ?_)
  have hP : va_P D vwCl (wB h cI cZ (upS S 16 ((S 26 0).toNatClampNeg) a1)) H := hP
  have hD : va_D (bA h) (wB h cI cZ (upS S 16 ((S 26 0).toNatClampNeg) a1)) := hD
  have hI_2 : IV (upS S 16 ((S 26 0).toNatClampNeg) a1) := iv_up (S := S) hI 16 ((S 26 0).toNatClampNeg) a1 (iv_one 16 0 119 rfl (by omega))
  refine lv_aload_n hx hb dX5_begin_10 rfl (lv_at hl 0 rfl) ?_
  refine va_get (D := D) (ci := 5) (v := .ref (h 23)) (C := RX5) (T := TX5) (N := 6) hx hb hB inX5 hown hK hP 5 rfl rfl 1 (by decide) (hB _ k1_128) (fun _ h9 => h9) rfl dX5_begin_11 ?_
  refine lv_aload_n hx hb dX5_begin_14 rfl (lv_at hl 0 rfl) ?_
  refine va_get (D := D) (ci := 5) (v := .int (S 26 0)) (C := RX5) (T := TX5) (N := 6) hx hb hB inX5 hown hK hP 5 rfl rfl 5 (by decide) (hB _ k1_134) (fun _ h9 => h9) rfl dX5_begin_15 ?_
  have b_3 : (0) ≤ (S 26 0).toInt ∧ (S 26 0).toInt ≤ 512 := iv_26 hI_2
  refine lv_iload_n hx hb dX5_begin_18 rfl (lv_at hl 2 rfl) ?_
  refine va_iast (f := S 17) hx hb hK hP hD hS 23 0 rfl rfl (vp_in_iff.mpr (by omega)) dX5_begin_19 (fun H locs hP hD hS => ?_)
  have hP : va_P D vwCl (wB h cI cZ (upS (upS S 16 ((S 26 0).toNatClampNeg) a1) 17 ((S 26 0).toNatClampNeg) a2)) H := hP
  have hD : va_D (bA h) (wB h cI cZ (upS (upS S 16 ((S 26 0).toNatClampNeg) a1) 17 ((S 26 0).toNatClampNeg) a2)) := hD
  have hI_4 : IV (upS (upS S 16 ((S 26 0).toNatClampNeg) a1) 17 ((S 26 0).toNatClampNeg) a2) := iv_up (S := upS S 16 ((S 26 0).toNatClampNeg) a1) hI_2 17 ((S 26 0).toNatClampNeg) a2 (iv_one 17 0 999 rfl (by omega))
  refine lv_aload_n hx hb dX5_begin_20 rfl (lv_at hl 0 rfl) ?_
  refine va_get (D := D) (ci := 5) (v := .ref (h 24)) (C := RX5) (T := TX5) (N := 6) hx hb hB inX5 hown hK hP 5 rfl rfl 2 (by decide) (hB _ k1_130) (fun _ h9 => h9) rfl dX5_begin_21 ?_
  refine lv_aload_n hx hb dX5_begin_24 rfl (lv_at hl 0 rfl) ?_
  refine va_get (D := D) (ci := 5) (v := .int (S 26 0)) (C := RX5) (T := TX5) (N := 6) hx hb hB inX5 hown hK hP 5 rfl rfl 5 (by decide) (hB _ k1_134) (fun _ h9 => h9) rfl dX5_begin_25 ?_
  have b_5 : (0) ≤ (S 26 0).toInt ∧ (S 26 0).toInt ≤ 512 := iv_26 hI_4
  refine lv_iload_n hx hb dX5_begin_28 rfl (lv_at hl 3 rfl) ?_
  refine va_iast (f := S 18) hx hb hK hP hD hS 24 0 rfl rfl (vp_in_iff.mpr (by omega)) dX5_begin_29 (fun H locs hP hD hS => ?_)
  have hP : va_P D vwCl (wB h cI cZ (upS (upS (upS S 16 ((S 26 0).toNatClampNeg) a1) 17 ((S 26 0).toNatClampNeg) a2) 18 ((S 26 0).toNatClampNeg) a3)) H := hP
  have hD : va_D (bA h) (wB h cI cZ (upS (upS (upS S 16 ((S 26 0).toNatClampNeg) a1) 17 ((S 26 0).toNatClampNeg) a2) 18 ((S 26 0).toNatClampNeg) a3)) := hD
  have hI_6 : IV (upS (upS (upS S 16 ((S 26 0).toNatClampNeg) a1) 17 ((S 26 0).toNatClampNeg) a2) 18 ((S 26 0).toNatClampNeg) a3) := iv_up (S := upS (upS S 16 ((S 26 0).toNatClampNeg) a1) 17 ((S 26 0).toNatClampNeg) a2) hI_4 18 ((S 26 0).toNatClampNeg) a3 (iv_none 18 rfl)
  refine lv_aload_n hx hb dX5_begin_30 rfl (lv_at hl 0 rfl) ?_
  refine va_get (D := D) (ci := 5) (v := .ref (h 25)) (C := RX5) (T := TX5) (N := 6) hx hb hB inX5 hown hK hP 5 rfl rfl 3 (by decide) (hB _ k1_131) (fun _ h9 => h9) rfl dX5_begin_31 ?_
  refine lv_aload_n hx hb dX5_begin_34 rfl (lv_at hl 0 rfl) ?_
  refine va_get (D := D) (ci := 5) (v := .int (S 26 0)) (C := RX5) (T := TX5) (N := 6) hx hb hB inX5 hown hK hP 5 rfl rfl 5 (by decide) (hB _ k1_134) (fun _ h9 => h9) rfl dX5_begin_35 ?_
  have b_7 : (0) ≤ (S 26 0).toInt ∧ (S 26 0).toInt ≤ 512 := iv_26 hI_6
  refine lv_ldc (v := 1000001) hx hb hown (hB _ k2_79) dX5_begin_38 ?_
  refine va_iast (f := S 19) hx hb hK hP hD hS 25 0 rfl rfl (vp_in_iff.mpr (by omega)) dX5_begin_40 (fun H locs hP hD hS => ?_)
  have hP : va_P D vwCl (wB h cI cZ (upS (upS (upS (upS S 16 ((S 26 0).toNatClampNeg) a1) 17 ((S 26 0).toNatClampNeg) a2) 18 ((S 26 0).toNatClampNeg) a3) 19 ((S 26 0).toNatClampNeg) 1000001)) H := hP
  have hD : va_D (bA h) (wB h cI cZ (upS (upS (upS (upS S 16 ((S 26 0).toNatClampNeg) a1) 17 ((S 26 0).toNatClampNeg) a2) 18 ((S 26 0).toNatClampNeg) a3) 19 ((S 26 0).toNatClampNeg) 1000001)) := hD
  have hI_8 : IV (upS (upS (upS (upS S 16 ((S 26 0).toNatClampNeg) a1) 17 ((S 26 0).toNatClampNeg) a2) 18 ((S 26 0).toNatClampNeg) a3) 19 ((S 26 0).toNatClampNeg) 1000001) := iv_up (S := upS (upS (upS S 16 ((S 26 0).toNatClampNeg) a1) 17 ((S 26 0).toNatClampNeg) a2) 18 ((S 26 0).toNatClampNeg) a3) hI_6 19 ((S 26 0).toNatClampNeg) 1000001 (iv_none 19 rfl)
  refine lv_aload_n hx hb dX5_begin_41 rfl (lv_at hl 0 rfl) ?_
  refine lv_dup hx hb dX5_begin_42 rfl ?_
  refine va_get (D := D) (ci := 5) (v := .int (S 26 0)) (C := RX5) (T := TX5) (N := 6) hx hb hB inX5 hown hK hP 5 rfl rfl 5 (by decide) (hB _ k1_134) (fun _ h9 => h9) rfl dX5_begin_43 ?_
  have b_9 : (0) ≤ (S 26 0).toInt ∧ (S 26 0).toInt ≤ 512 := iv_26 hI_8
  refine lv_iconst (v := 1) hx hb dX5_begin_46 (by decide) ?_
  refine lv_iadd hx hb dX5_begin_47 ?_
  refine va_put (D := D) (ci := 5) (v := .int ((S 26 0) + 1)) (ty := .int) (C := RX5) (T := TX5) (N := 6) hx hb hB inX5 tyX5 tyX5_ok nmX5 hown hK hP hD hS 5 rfl rfl 5 (by decide) (hB _ k1_134) (fun _ h9 => h9) rfl (by decide +kernel) rfl rfl (Nat.le_of_ble_eq_true rfl) dX5_begin_48 (fun H locs hP hD hS => ?_)
  have hP : va_P D vwCl (wB h cI cZ (upS (upS (upS (upS (upS S 16 ((S 26 0).toNatClampNeg) a1) 17 ((S 26 0).toNatClampNeg) a2) 18 ((S 26 0).toNatClampNeg) a3) 19 ((S 26 0).toNatClampNeg) 1000001) 26 0 ((S 26 0) + 1))) H := hP
  have hD : va_D (bA h) (wB h cI cZ (upS (upS (upS (upS (upS S 16 ((S 26 0).toNatClampNeg) a1) 17 ((S 26 0).toNatClampNeg) a2) 18 ((S 26 0).toNatClampNeg) a3) 19 ((S 26 0).toNatClampNeg) 1000001) 26 0 ((S 26 0) + 1))) := hD
  have k_11 := i32_inc (x := (S 26 0)) (by omega) (by omega)
  have hI_10 : IV (upS (upS (upS (upS (upS S 16 ((S 26 0).toNatClampNeg) a1) 17 ((S 26 0).toNatClampNeg) a2) 18 ((S 26 0).toNatClampNeg) a3) 19 ((S 26 0).toNatClampNeg) 1000001) 26 0 ((S 26 0) + 1)) := iv_up (S := upS (upS (upS (upS S 16 ((S 26 0).toNatClampNeg) a1) 17 ((S 26 0).toNatClampNeg) a2) 18 ((S 26 0).toNatClampNeg) a3) 19 ((S 26 0).toNatClampNeg) 1000001) hI_8 26 0 ((S 26 0) + 1) (iv_one 26 0 512 rfl (by omega))
  refine lv_aload_n hx hb dX5_begin_51 rfl (lv_at hl 0 rfl) ?_
  refine va_get (D := D) (ci := 5) (v := .int ((S 26 0) + 1)) (C := RX5) (T := TX5) (N := 6) hx hb hB inX5 hown hK hP 5 rfl rfl 5 (by decide) (hB _ k1_134) (fun _ h9 => h9) rfl dX5_begin_52 ?_
  have b_12 : (0) ≤ ((S 26 0) + 1).toInt ∧ ((S 26 0) + 1).toInt ≤ 512 := iv_26 hI_10
  refine lv_iconst (v := 1) hx hb dX5_begin_55 (by decide) ?_
  refine lv_isub hx hb dX5_begin_56 ?_
  exact W.iret (v := ((S 26 0) + 1) - 1) hx hb hr (fun t ht hW => ⟨⟨((S 26 0) + 1) - 1, upS (upS (upS (upS (upS S 16 ((S 26 0).toNatClampNeg) a1) 17 ((S 26 0).toNatClampNeg) a2) 18 ((S 26 0).toNatClampNeg) a3) 19 ((S 26 0).toNatClampNeg) 1000001) 26 0 ((S 26 0) + 1), rfl, ⟨(by rw [F_Y_begin]), hI_10⟩, by rw [ht]; exact hP⟩, hS.F ht⟩) hS.2.2 dX5_begin_57
