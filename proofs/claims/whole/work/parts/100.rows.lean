set_option maxHeartbeats 4000000 in
set_option maxRecDepth 100000 in
theorem m_P_has (l : Launch) (D : va_G) (h : Nat → Nat) (cI cZ : ClassId) (S : BS) (hI : IV S) (a1 : Int32) : PM l yX1_has wsX1_has { frames := 0, cells := 0, slots := 0, locals := 0 } D cI cZ h S [.ref (h 1), .int a1] (f_P_has S a1) := by
  refine Met.ofW (cc := cX1_has) (maxL := 2) (ret := (some .boolean)) (by decide) rfl ?_
  intro p e s m args below meth c s₁ B hml hv
  obtain ⟨rfl, hP, hK, hN⟩ := hv
  have hx := B.exec
  have hb := B.bytes
  have hr := B.returns
  have hts := atoms_spec (ws := wsX1_has) B.pre
  have hB : ∀ w ∈ BW, w.before _ s = true := fun w h => hts w (List.mem_cons_of_mem _ h)
  have hown : s.vm.findClass RX1 = some m.cls := findClass_of_methodNamed B.named
  have hlocks := B.notSynchronized
  have hS : va_S (fun _ => False) s.heap s.heap [] := va_S.rf
  have hl := lv_entry ([.ref (h 1), .int a1]) (n := 2) (Nat.le_of_ble_eq_true rfl)
  rw [lg_entry_eq]
  generalize (lg_sl ([.ref (h 1), .int a1]) ++ List.replicate (2 - (lg_sl ([.ref (h 1), .int a1])).length) Slot.unset).toArray = ls at hl ⊢
  have hl : lv_has ls 2 [(0, .ref (h 1)), (1, .int a1)] := hl
  refine lv_iload_n hx hb dX1_has_0 rfl (lv_at hl 1 rfl) ?_
  refine lv_if_lt (tgt := 16) hx hb dX1_has_1 (by decide) (fun c_1 => ?_) (fun c_1 => ?_)
  · skip
    have z_0 : ((0) : Int32).toInt = (0) := by decide
    have t_1 := Int32.lt_iff_toInt_lt.mp c_1
    refine lv_iconst (v := 0) hx hb dX1_has_16 (by decide) ?_
    exact W.zret (v := 0) hx hb hr (by decide) (fun t ht hW => ⟨⟨0, (), rfl, (by rw [f_P_has, if_pos c_1]), trivial⟩, hS.F ht⟩) hS.2.2 dX1_has_17
  · skip
    have z_0 : ((0) : Int32).toInt = (0) := by decide
    have t_1 := mt Int32.lt_iff_toInt_lt.mpr c_1
    refine lv_iload_n hx hb dX1_has_4 rfl (lv_at hl 1 rfl) ?_
    refine lv_aload_n hx hb dX1_has_5 rfl (lv_at hl 0 rfl) ?_
    refine va_get (D := D) (ci := 1) (v := .int (S 22 0)) (C := RX1) (T := TX1) (N := 2) hx hb hB inX1 hown hK hP 1 rfl rfl 1 (by decide) (hB _ k1_24) (fun _ h9 => h9) rfl dX1_has_6 ?_
    have b_2 : (0) ≤ (S 22 0).toInt ∧ (S 22 0).toInt ≤ 16 := iv_22 (S := S) hI
    refine lv_icmp_ge (tgt := 16) hx hb dX1_has_9 (by decide) (fun c_3 => ?_) (fun c_3 => ?_)
    · skip
      have t_3 := Int32.le_iff_toInt_le.mp c_3
      refine lv_iconst (v := 0) hx hb dX1_has_16 (by decide) ?_
      exact W.zret (v := 0) hx hb hr (by decide) (fun t ht hW => ⟨⟨0, (), rfl, (by rw [f_P_has, if_neg c_1, if_pos c_3]), trivial⟩, hS.F ht⟩) hS.2.2 dX1_has_17
    · skip
      have t_3 := mt Int32.le_iff_toInt_le.mpr c_3
      refine lv_iconst (v := 1) hx hb dX1_has_12 (by decide) ?_
      refine lv_goto (tgt := 17) hx hb dX1_has_13 (by decide) ?_
      exact W.zret (v := 1) hx hb hr (by decide) (fun t ht hW => ⟨⟨1, (), rfl, (by rw [f_P_has, if_neg c_1, if_neg c_3]), trivial⟩, hS.F ht⟩) hS.2.2 dX1_has_17
set_option maxHeartbeats 4000000 in
set_option maxRecDepth 100000 in
theorem m_P_isFull (l : Launch) (D : va_G) (h : Nat → Nat) (cI cZ : ClassId) (S : BS) (hI : IV S) : PM l yX1_isFull wsX1_isFull { frames := 0, cells := 0, slots := 0, locals := 0 } D cI cZ h S [.ref (h 1)] (f_P_isFull S) := by
  refine Met.ofW (cc := cX1_isFull) (maxL := 1) (ret := (some .boolean)) (by decide) rfl ?_
  intro p e s m args below meth c s₁ B hml hv
  obtain ⟨rfl, hP, hK, hN⟩ := hv
  have hx := B.exec
  have hb := B.bytes
  have hr := B.returns
  have hts := atoms_spec (ws := wsX1_isFull) B.pre
  have hB : ∀ w ∈ BW, w.before _ s = true := fun w h => hts w (List.mem_cons_of_mem _ h)
  have hown : s.vm.findClass RX1 = some m.cls := findClass_of_methodNamed B.named
  have hlocks := B.notSynchronized
  have hS : va_S (fun _ => False) s.heap s.heap [] := va_S.rf
  have hl := lv_entry ([.ref (h 1)]) (n := 1) (Nat.le_of_ble_eq_true rfl)
  rw [lg_entry_eq]
  generalize (lg_sl ([.ref (h 1)]) ++ List.replicate (1 - (lg_sl ([.ref (h 1)])).length) Slot.unset).toArray = ls at hl ⊢
  have hl : lv_has ls 1 [(0, .ref (h 1))] := hl
  refine lv_aload_n hx hb dX1_isFull_0 rfl (lv_at hl 0 rfl) ?_
  refine va_get (D := D) (ci := 1) (v := .int (S 22 0)) (C := RX1) (T := TX1) (N := 2) hx hb hB inX1 hown hK hP 1 rfl rfl 1 (by decide) (hB _ k1_24) (fun _ h9 => h9) rfl dX1_isFull_1 ?_
  have b_1 : (0) ≤ (S 22 0).toInt ∧ (S 22 0).toInt ≤ 16 := iv_22 (S := S) hI
  refine lv_bipush (v := 16) hx hb dX1_isFull_4 (by decide) ?_
  refine lv_icmp_lt (tgt := 13) hx hb dX1_isFull_6 (by decide) (fun c_2 => ?_) (fun c_2 => ?_)
  · skip
    have z_16 : ((16) : Int32).toInt = (16) := by decide
    have t_2 := Int32.lt_iff_toInt_lt.mp c_2
    refine lv_iconst (v := 0) hx hb dX1_isFull_13 (by decide) ?_
    exact W.zret (v := 0) hx hb hr (by decide) (fun t ht hW => ⟨⟨0, (), rfl, (by rw [f_P_isFull, if_pos c_2]), trivial⟩, hS.F ht⟩) hS.2.2 dX1_isFull_14
  · skip
    have z_16 : ((16) : Int32).toInt = (16) := by decide
    have t_2 := mt Int32.lt_iff_toInt_lt.mpr c_2
    refine lv_iconst (v := 1) hx hb dX1_isFull_9 (by decide) ?_
    refine lv_goto (tgt := 14) hx hb dX1_isFull_10 (by decide) ?_
    exact W.zret (v := 1) hx hb hr (by decide) (fun t ht hW => ⟨⟨1, (), rfl, (by rw [f_P_isFull, if_neg c_2]), trivial⟩, hS.F ht⟩) hS.2.2 dX1_isFull_14
set_option maxHeartbeats 4000000 in
set_option maxRecDepth 100000 in
theorem m_P_withCode (l : Launch) (D : va_G) (h : Nat → Nat) (cI cZ : ClassId) (S : BS) (hI : IV S) (a1 : Int32) : PM l yX1_withCode wsX1_withCode { frames := 0, cells := 0, slots := 0, locals := 0 } D cI cZ h S [.ref (h 1), .int a1] (f_P_withCode S a1) := by
  refine Met.ofW (cc := cX1_withCode) (maxL := 3) (ret := (some .int)) (by decide) rfl ?_
  intro p e s m args below meth c s₁ B hml hv
  obtain ⟨rfl, hP, hK, hN⟩ := hv
  have hx := B.exec
  have hb := B.bytes
  have hr := B.returns
  have hts := atoms_spec (ws := wsX1_withCode) B.pre
  have hB : ∀ w ∈ BW, w.before _ s = true := fun w h => hts w (List.mem_cons_of_mem _ h)
  have hown : s.vm.findClass RX1 = some m.cls := findClass_of_methodNamed B.named
  have hlocks := B.notSynchronized
  have hS : va_S (fun _ => False) s.heap s.heap [] := va_S.rf
  have hl := lv_entry ([.ref (h 1), .int a1]) (n := 3) (Nat.le_of_ble_eq_true rfl)
  rw [lg_entry_eq]
  generalize (lg_sl ([.ref (h 1), .int a1]) ++ List.replicate (3 - (lg_sl ([.ref (h 1), .int a1])).length) Slot.unset).toArray = ls at hl ⊢
  have hl : lv_has ls 3 [(0, .ref (h 1)), (1, .int a1)] := hl
  refine lv_iconst (v := 0) hx hb dX1_withCode_0 (by decide) ?_
  refine lv_istore_n (lv' := [(2, .int 0), (0, .ref (h 1)), (1, .int a1)]) hx hb dX1_withCode_1 rfl hl (by decide) rfl (fun ls hl => ?_)
  have loop2 : ∀ (n : Nat) (x2 : Int32) (H : Heap) (locs : List Loc) (ls : Array Slot), (0 ≤ x2.toInt ∧ x2.toInt ≤ (S 22 0 : Int32).toInt ∧ (S 22 0 : Int32).toInt - x2.toInt < (n : Int) ∧ True) → l_P_withCode_2 S a1 n x2 = f_P_withCode S a1 → va_P D vwCl (wB h cI cZ S) H → va_S (fun _ => False) s.heap H locs → lv_has ls 3 [(0, .ref (h 1)), (1, .int a1), (2, .int x2)] → W p l e (headSpec wsX1_withCode { frames := 0, cells := 0, slots := 0, locals := 0 }).room s m ([.ref (h 1), .int a1]).toArray below meth c H locs 0 0 (MQ below (PQ (f_P_withCode S a1)) ([.ref (h 1), .int a1]).toArray s 0 0 (fun _ => False)) (F0 m 2 ls []) := by
    intro n
    induction n with
    | zero =>
      intro x2 H locs ls hinv he hP hS hl
      obtain ⟨h0, hle, hm, hex⟩ := hinv
      exact absurd hm (by omega)
    | succ n ih =>
      intro x2 H locs ls hinv he hP hS hl
      obtain ⟨h0, hle, hm, hex⟩ := hinv
      have hBd := iv_22 hI
      refine lv_iload_n hx hb dX1_withCode_2 rfl (lv_at hl 2 rfl) ?_
      refine lv_aload_n hx hb dX1_withCode_3 rfl (lv_at hl 0 rfl) ?_
      refine va_get (D := D) (ci := 1) (v := .int (S 22 0)) (C := RX1) (T := TX1) (N := 2) hx hb hB inX1 hown hK hP 1 rfl rfl 1 (by decide) (hB _ k1_24) (fun _ h9 => h9) rfl dX1_withCode_4 ?_
      have b_1 : (0) ≤ (S 22 0).toInt ∧ (S 22 0).toInt ≤ 16 := iv_22 (S := S) hI
      refine lv_icmp_ge (tgt := 28) hx hb dX1_withCode_7 (by decide) (fun c_2 => ?_) (fun c_2 => ?_)
      · skip
        have t_2 := Int32.le_iff_toInt_le.mp c_2
        refine lv_iconst (v := (-1)) hx hb dX1_withCode_28 (by decide) ?_
        exact W.iret (v := (-1)) hx hb hr (fun t ht hW => ⟨⟨(-1), (), rfl, (by rw [← he, l_P_withCode_2, if_pos c_2]), trivial⟩, hS.F ht⟩) hS.2.2 dX1_withCode_29
      · skip
        have t_2 := mt Int32.le_iff_toInt_le.mpr c_2
        refine lv_aload_n hx hb dX1_withCode_10 rfl (lv_at hl 0 rfl) ?_
        refine va_get (D := D) (ci := 1) (v := .ref (h 6)) (C := RX1) (T := TX1) (N := 2) hx hb hB inX1 hown hK hP 1 rfl rfl 0 (by decide) (hB _ k1_23) (fun _ h9 => h9) rfl dX1_withCode_11 ?_
        refine lv_iload_n hx hb dX1_withCode_14 rfl (lv_at hl 2 rfl) ?_
        refine va_iald (f := S 0) hx hb hK hP 6 0 rfl rfl (vp_in_iff.mpr (by omega)) dX1_withCode_15 ?_
        refine lv_iload_n hx hb dX1_withCode_16 rfl (lv_at hl 1 rfl) ?_
        refine lv_icmp_ne (tgt := 22) hx hb dX1_withCode_17 (by decide) (fun c_3 => ?_) (fun c_3 => ?_)
        · skip
          refine lv_iinc (v := x2 + 1) (lv' := [(2, .int (x2 + 1)), (0, .ref (h 1)), (1, .int a1)]) hx hb dX1_withCode_22 hl (k := 2) rfl rfl (by decide) rfl (fun ls hl => ?_)
          refine lv_goto (tgt := 2) hx hb dX1_withCode_25 (by decide) ?_
          have hinc := i32_inc (x := x2) h0 (by omega)
          exact ih (x2 + 1) _ _ _ ⟨by omega, by omega, by omega, trivial⟩ (by rw [← he, l_P_withCode_2, if_neg c_2, if_neg c_3]) hP hS (lv_sub hl [1, 2, 0] rfl)
        · skip
          refine lv_iload_n hx hb dX1_withCode_20 rfl (lv_at hl 2 rfl) ?_
          exact W.iret (v := x2) hx hb hr (fun t ht hW => ⟨⟨x2, (), rfl, (by rw [← he, l_P_withCode_2, if_neg c_2, if_pos c_3]), trivial⟩, hS.F ht⟩) hS.2.2 dX1_withCode_21
  have hB9 := iv_22 (S := S) hI
  have z_0 : ((0) : Int32).toInt = (0) := by decide
  exact loop2 600 0 _ _ _ ⟨by omega, by omega, by omega, trivial⟩ (by rw [f_P_withCode]) hP hS (lv_sub hl [1, 2, 0] rfl)
set_option maxHeartbeats 4000000 in
set_option maxRecDepth 100000 in
theorem m_P_add (l : Launch) (D : va_G) (h : Nat → Nat) (cI cZ : ClassId) (S : BS) (hI : IV S) (a1 : Int32) (hroom : (S 22 0).toInt < 16) : WM l yX1_add wsX1_add { frames := 0, cells := 0, slots := 0, locals := 0 } D cI cZ h S [.ref (h 1), .int a1] (F_P_add S a1) := by
  refine Met.ofW (cc := cX1_add) (maxL := 2) (ret := (some .int)) (by decide) rfl ?_
  intro p e s m args below meth c s₁ B hml hv
  obtain ⟨rfl, hP, hK, hN, hD0⟩ := hv
  have hx := B.exec
  have hb := B.bytes
  have hr := B.returns
  have hts := atoms_spec (ws := wsX1_add) B.pre
  have hB : ∀ w ∈ BW, w.before _ s = true := fun w h => hts w (List.mem_cons_of_mem _ h)
  have hown : s.vm.findClass RX1 = some m.cls := findClass_of_methodNamed B.named
  have hlocks := B.notSynchronized
  have hD := bD hD0
  have hS : va_S (bA h) s.heap s.heap [] := va_S.rf
  have hl := lv_entry ([.ref (h 1), .int a1]) (n := 2) (Nat.le_of_ble_eq_true rfl)
  rw [lg_entry_eq]
  generalize (lg_sl ([.ref (h 1), .int a1]) ++ List.replicate (2 - (lg_sl ([.ref (h 1), .int a1])).length) Slot.unset).toArray = ls at hl ⊢
  have hl : lv_has ls 2 [(0, .ref (h 1)), (1, .int a1)] := hl
  refine lv_aload_n hx hb dX1_add_0 rfl (lv_at hl 0 rfl) ?_
  refine va_get (D := D) (ci := 1) (v := .ref (h 6)) (C := RX1) (T := TX1) (N := 2) hx hb hB inX1 hown hK hP 1 rfl rfl 0 (by decide) (hB _ k1_23) (fun _ h9 => h9) rfl dX1_add_1 ?_
  refine lv_aload_n hx hb dX1_add_4 rfl (lv_at hl 0 rfl) ?_
  refine va_get (D := D) (ci := 1) (v := .int (S 22 0)) (C := RX1) (T := TX1) (N := 2) hx hb hB inX1 hown hK hP 1 rfl rfl 1 (by decide) (hB _ k1_24) (fun _ h9 => h9) rfl dX1_add_5 ?_
  have b_1 : (0) ≤ (S 22 0).toInt ∧ (S 22 0).toInt ≤ 16 := iv_22 (S := S) hI
  refine lv_iload_n hx hb dX1_add_8 rfl (lv_at hl 1 rfl) ?_
  refine wst_0 (S := S) hx hb hK hP hD hS (vp_in_iff.mpr (by omega)) dX1_add_9 (fun H locs hP hD hS => ?_)
  have hI_2 : IV (upS 0 ((S 22 0).toNatClampNeg) a1 S) := iv_up (S := S) hI 0 ((S 22 0).toNatClampNeg) a1 (iv_none 0 rfl)
  refine lv_aload_n hx hb dX1_add_10 rfl (lv_at hl 0 rfl) ?_
  refine lv_dup hx hb dX1_add_11 rfl ?_
  refine va_get (D := D) (ci := 1) (v := .int (S 22 0)) (C := RX1) (T := TX1) (N := 2) hx hb hB inX1 hown hK hP 1 rfl rfl 1 (by decide) (hB _ k1_24) (fun _ h9 => h9) rfl dX1_add_12 ?_
  have b_3 : (0) ≤ (S 22 0).toInt ∧ (S 22 0).toInt ≤ 16 := iv_22 (S := upS 0 ((S 22 0).toNatClampNeg) a1 S) hI_2
  refine lv_iconst (v := 1) hx hb dX1_add_15 (by decide) ?_
  refine lv_iadd hx hb dX1_add_16 ?_
  refine wpf_22 (S := upS 0 ((S 22 0).toNatClampNeg) a1 S) hx hb hB hown hK hP hD hS (hB _ k1_24) dX1_add_17 (fun H locs hP hD hS => ?_)
  have k_5 := i32_inc (x := (S 22 0)) (by omega) (by omega)
  have hI_4 : IV (upS 22 0 ((S 22 0) + 1) (upS 0 ((S 22 0).toNatClampNeg) a1 S)) := iv_up (S := upS 0 ((S 22 0).toNatClampNeg) a1 S) hI_2 22 0 ((S 22 0) + 1) (iv_one 22 (0) 16 rfl (by omega))
  refine lv_aload_n hx hb dX1_add_20 rfl (lv_at hl 0 rfl) ?_
  refine va_get (D := D) (ci := 1) (v := .int ((S 22 0) + 1)) (C := RX1) (T := TX1) (N := 2) hx hb hB inX1 hown hK hP 1 rfl rfl 1 (by decide) (hB _ k1_24) (fun _ h9 => h9) rfl dX1_add_21 ?_
  have b_6 : (0) ≤ ((S 22 0) + 1).toInt ∧ ((S 22 0) + 1).toInt ≤ 16 := iv_22 (S := upS 22 0 ((S 22 0) + 1) (upS 0 ((S 22 0).toNatClampNeg) a1 S)) hI_4
  refine lv_iconst (v := 1) hx hb dX1_add_24 (by decide) ?_
  refine lv_isub hx hb dX1_add_25 ?_
  exact W.iret (v := ((S 22 0) + 1) - 1) hx hb hr (fun t ht hW => ⟨⟨((S 22 0) + 1) - 1, upS 22 0 ((S 22 0) + 1) (upS 0 ((S 22 0).toNatClampNeg) a1 S), rfl, ⟨(by rw [F_P_add]), hI_4⟩, by show va_P D vwCl _ t.heap; rw [ht]; exact hP⟩, hS.F ht⟩) hS.2.2 dX1_add_26
set_option maxHeartbeats 4000000 in
set_option maxRecDepth 100000 in
theorem m_T_has (l : Launch) (D : va_G) (h : Nat → Nat) (cI cZ : ClassId) (S : BS) (hI : IV S) (a1 : Int32) : PM l yX2_has wsX2_has { frames := 0, cells := 0, slots := 0, locals := 0 } D cI cZ h S [.ref (h 2), .int a1] (f_T_has S a1) := by
  refine Met.ofW (cc := cX2_has) (maxL := 2) (ret := (some .boolean)) (by decide) rfl ?_
  intro p e s m args below meth c s₁ B hml hv
  obtain ⟨rfl, hP, hK, hN⟩ := hv
  have hx := B.exec
  have hb := B.bytes
  have hr := B.returns
  have hts := atoms_spec (ws := wsX2_has) B.pre
  have hB : ∀ w ∈ BW, w.before _ s = true := fun w h => hts w (List.mem_cons_of_mem _ h)
  have hown : s.vm.findClass RX2 = some m.cls := findClass_of_methodNamed B.named
  have hlocks := B.notSynchronized
  have hS : va_S (fun _ => False) s.heap s.heap [] := va_S.rf
  have hl := lv_entry ([.ref (h 2), .int a1]) (n := 2) (Nat.le_of_ble_eq_true rfl)
  rw [lg_entry_eq]
  generalize (lg_sl ([.ref (h 2), .int a1]) ++ List.replicate (2 - (lg_sl ([.ref (h 2), .int a1])).length) Slot.unset).toArray = ls at hl ⊢
  have hl : lv_has ls 2 [(0, .ref (h 2)), (1, .int a1)] := hl
  refine lv_iload_n hx hb dX2_has_0 rfl (lv_at hl 1 rfl) ?_
  refine lv_if_lt (tgt := 16) hx hb dX2_has_1 (by decide) (fun c_1 => ?_) (fun c_1 => ?_)
  · skip
    have z_0 : ((0) : Int32).toInt = (0) := by decide
    have t_1 := Int32.lt_iff_toInt_lt.mp c_1
    refine lv_iconst (v := 0) hx hb dX2_has_16 (by decide) ?_
    exact W.zret (v := 0) hx hb hr (by decide) (fun t ht hW => ⟨⟨0, (), rfl, (by rw [f_T_has, if_pos c_1]), trivial⟩, hS.F ht⟩) hS.2.2 dX2_has_17
  · skip
    have z_0 : ((0) : Int32).toInt = (0) := by decide
    have t_1 := mt Int32.lt_iff_toInt_lt.mpr c_1
    refine lv_iload_n hx hb dX2_has_4 rfl (lv_at hl 1 rfl) ?_
    refine lv_aload_n hx hb dX2_has_5 rfl (lv_at hl 0 rfl) ?_
    refine va_get (D := D) (ci := 2) (v := .int (S 23 0)) (C := RX2) (T := TX2) (N := 6) hx hb hB inX2 hown hK hP 2 rfl rfl 5 (by decide) (hB _ k1_43) (fun _ h9 => h9) rfl dX2_has_6 ?_
    have b_2 : (0) ≤ (S 23 0).toInt ∧ (S 23 0).toInt ≤ 32 := iv_23 (S := S) hI
    refine lv_icmp_ge (tgt := 16) hx hb dX2_has_9 (by decide) (fun c_3 => ?_) (fun c_3 => ?_)
    · skip
      have t_3 := Int32.le_iff_toInt_le.mp c_3
      refine lv_iconst (v := 0) hx hb dX2_has_16 (by decide) ?_
      exact W.zret (v := 0) hx hb hr (by decide) (fun t ht hW => ⟨⟨0, (), rfl, (by rw [f_T_has, if_neg c_1, if_pos c_3]), trivial⟩, hS.F ht⟩) hS.2.2 dX2_has_17
    · skip
      have t_3 := mt Int32.le_iff_toInt_le.mpr c_3
      refine lv_iconst (v := 1) hx hb dX2_has_12 (by decide) ?_
      refine lv_goto (tgt := 17) hx hb dX2_has_13 (by decide) ?_
      exact W.zret (v := 1) hx hb hr (by decide) (fun t ht hW => ⟨⟨1, (), rfl, (by rw [f_T_has, if_neg c_1, if_neg c_3]), trivial⟩, hS.F ht⟩) hS.2.2 dX2_has_17
set_option maxHeartbeats 4000000 in
set_option maxRecDepth 100000 in
theorem m_T_isFull (l : Launch) (D : va_G) (h : Nat → Nat) (cI cZ : ClassId) (S : BS) (hI : IV S) : PM l yX2_isFull wsX2_isFull { frames := 0, cells := 0, slots := 0, locals := 0 } D cI cZ h S [.ref (h 2)] (f_T_isFull S) := by
  refine Met.ofW (cc := cX2_isFull) (maxL := 1) (ret := (some .boolean)) (by decide) rfl ?_
  intro p e s m args below meth c s₁ B hml hv
  obtain ⟨rfl, hP, hK, hN⟩ := hv
  have hx := B.exec
  have hb := B.bytes
  have hr := B.returns
  have hts := atoms_spec (ws := wsX2_isFull) B.pre
  have hB : ∀ w ∈ BW, w.before _ s = true := fun w h => hts w (List.mem_cons_of_mem _ h)
  have hown : s.vm.findClass RX2 = some m.cls := findClass_of_methodNamed B.named
  have hlocks := B.notSynchronized
  have hS : va_S (fun _ => False) s.heap s.heap [] := va_S.rf
  have hl := lv_entry ([.ref (h 2)]) (n := 1) (Nat.le_of_ble_eq_true rfl)
  rw [lg_entry_eq]
  generalize (lg_sl ([.ref (h 2)]) ++ List.replicate (1 - (lg_sl ([.ref (h 2)])).length) Slot.unset).toArray = ls at hl ⊢
  have hl : lv_has ls 1 [(0, .ref (h 2))] := hl
  refine lv_aload_n hx hb dX2_isFull_0 rfl (lv_at hl 0 rfl) ?_
  refine va_get (D := D) (ci := 2) (v := .int (S 23 0)) (C := RX2) (T := TX2) (N := 6) hx hb hB inX2 hown hK hP 2 rfl rfl 5 (by decide) (hB _ k1_43) (fun _ h9 => h9) rfl dX2_isFull_1 ?_
  have b_1 : (0) ≤ (S 23 0).toInt ∧ (S 23 0).toInt ≤ 32 := iv_23 (S := S) hI
  refine lv_bipush (v := 32) hx hb dX2_isFull_4 (by decide) ?_
  refine lv_icmp_lt (tgt := 13) hx hb dX2_isFull_6 (by decide) (fun c_2 => ?_) (fun c_2 => ?_)
  · skip
    have z_32 : ((32) : Int32).toInt = (32) := by decide
    have t_2 := Int32.lt_iff_toInt_lt.mp c_2
    refine lv_iconst (v := 0) hx hb dX2_isFull_13 (by decide) ?_
    exact W.zret (v := 0) hx hb hr (by decide) (fun t ht hW => ⟨⟨0, (), rfl, (by rw [f_T_isFull, if_pos c_2]), trivial⟩, hS.F ht⟩) hS.2.2 dX2_isFull_14
  · skip
    have z_32 : ((32) : Int32).toInt = (32) := by decide
    have t_2 := mt Int32.lt_iff_toInt_lt.mpr c_2
    refine lv_iconst (v := 1) hx hb dX2_isFull_9 (by decide) ?_
    refine lv_goto (tgt := 14) hx hb dX2_isFull_10 (by decide) ?_
    exact W.zret (v := 1) hx hb hr (by decide) (fun t ht hW => ⟨⟨1, (), rfl, (by rw [f_T_isFull, if_neg c_2]), trivial⟩, hS.F ht⟩) hS.2.2 dX2_isFull_14
set_option maxHeartbeats 4000000 in
set_option maxRecDepth 100000 in
theorem m_T_named (l : Launch) (D : va_G) (h : Nat → Nat) (cI cZ : ClassId) (S : BS) (hI : IV S) (a1 a2 : Int32) : PM l yX2_named wsX2_named { frames := 0, cells := 0, slots := 0, locals := 0 } D cI cZ h S [.ref (h 2), .int a1, .int a2] (f_T_named S a1 a2) := by
  refine Met.ofW (cc := cX2_named) (maxL := 4) (ret := (some .int)) (by decide) rfl ?_
  intro p e s m args below meth c s₁ B hml hv
  obtain ⟨rfl, hP, hK, hN⟩ := hv
  have hx := B.exec
  have hb := B.bytes
  have hr := B.returns
  have hts := atoms_spec (ws := wsX2_named) B.pre
  have hB : ∀ w ∈ BW, w.before _ s = true := fun w h => hts w (List.mem_cons_of_mem _ h)
  have hown : s.vm.findClass RX2 = some m.cls := findClass_of_methodNamed B.named
  have hlocks := B.notSynchronized
  have hS : va_S (fun _ => False) s.heap s.heap [] := va_S.rf
  have hl := lv_entry ([.ref (h 2), .int a1, .int a2]) (n := 4) (Nat.le_of_ble_eq_true rfl)
  rw [lg_entry_eq]
  generalize (lg_sl ([.ref (h 2), .int a1, .int a2]) ++ List.replicate (4 - (lg_sl ([.ref (h 2), .int a1, .int a2])).length) Slot.unset).toArray = ls at hl ⊢
  have hl : lv_has ls 4 [(0, .ref (h 2)), (1, .int a1), (2, .int a2)] := hl
  refine lv_iconst (v := 0) hx hb dX2_named_0 (by decide) ?_
  refine lv_istore_n (lv' := [(3, .int 0), (0, .ref (h 2)), (1, .int a1), (2, .int a2)]) hx hb dX2_named_1 rfl hl (by decide) rfl (fun ls hl => ?_)
  have loop2 : ∀ (n : Nat) (x3 : Int32) (H : Heap) (locs : List Loc) (ls : Array Slot), (0 ≤ x3.toInt ∧ x3.toInt ≤ (S 23 0 : Int32).toInt ∧ (S 23 0 : Int32).toInt - x3.toInt < (n : Int) ∧ True) → l_T_named_2 S a1 a2 n x3 = f_T_named S a1 a2 → va_P D vwCl (wB h cI cZ S) H → va_S (fun _ => False) s.heap H locs → lv_has ls 4 [(0, .ref (h 2)), (1, .int a1), (2, .int a2), (3, .int x3)] → W p l e (headSpec wsX2_named { frames := 0, cells := 0, slots := 0, locals := 0 }).room s m ([.ref (h 2), .int a1, .int a2]).toArray below meth c H locs 0 0 (MQ below (PQ (f_T_named S a1 a2)) ([.ref (h 2), .int a1, .int a2]).toArray s 0 0 (fun _ => False)) (F0 m 2 ls []) := by
    intro n
    induction n with
    | zero =>
      intro x3 H locs ls hinv he hP hS hl
      obtain ⟨h0, hle, hm, hex⟩ := hinv
      exact absurd hm (by omega)
    | succ n ih =>
      intro x3 H locs ls hinv he hP hS hl
      obtain ⟨h0, hle, hm, hex⟩ := hinv
      have hBd := iv_23 hI
      refine lv_iload_n hx hb dX2_named_2 rfl (lv_at hl 3 rfl) ?_
      refine lv_aload_n hx hb dX2_named_3 rfl (lv_at hl 0 rfl) ?_
      refine va_get (D := D) (ci := 2) (v := .int (S 23 0)) (C := RX2) (T := TX2) (N := 6) hx hb hB inX2 hown hK hP 2 rfl rfl 5 (by decide) (hB _ k1_43) (fun _ h9 => h9) rfl dX2_named_4 ?_
      have b_1 : (0) ≤ (S 23 0).toInt ∧ (S 23 0).toInt ≤ 32 := iv_23 (S := S) hI
      refine lv_icmp_ge (tgt := 38) hx hb dX2_named_7 (by decide) (fun c_2 => ?_) (fun c_2 => ?_)
      · skip
        have t_2 := Int32.le_iff_toInt_le.mp c_2
        refine lv_iconst (v := (-1)) hx hb dX2_named_38 (by decide) ?_
        exact W.iret (v := (-1)) hx hb hr (fun t ht hW => ⟨⟨(-1), (), rfl, (by rw [← he, l_T_named_2, if_pos c_2]), trivial⟩, hS.F ht⟩) hS.2.2 dX2_named_39
      · skip
        have t_2 := mt Int32.le_iff_toInt_le.mpr c_2
        refine lv_aload_n hx hb dX2_named_10 rfl (lv_at hl 0 rfl) ?_
        refine va_get (D := D) (ci := 2) (v := .ref (h 7)) (C := RX2) (T := TX2) (N := 6) hx hb hB inX2 hown hK hP 2 rfl rfl 0 (by decide) (hB _ k1_38) (fun _ h9 => h9) rfl dX2_named_11 ?_
        refine lv_iload_n hx hb dX2_named_14 rfl (lv_at hl 3 rfl) ?_
        refine va_iald (f := S 1) hx hb hK hP 7 0 rfl rfl (vp_in_iff.mpr (by omega)) dX2_named_15 ?_
        refine lv_iload_n hx hb dX2_named_16 rfl (lv_at hl 1 rfl) ?_
        refine lv_icmp_ne (tgt := 32) hx hb dX2_named_17 (by decide) (fun c_3 => ?_) (fun c_3 => ?_)
        · skip
          refine lv_iinc (v := x3 + 1) (lv' := [(3, .int (x3 + 1)), (0, .ref (h 2)), (1, .int a1), (2, .int a2)]) hx hb dX2_named_32 hl (k := 3) rfl rfl (by decide) rfl (fun ls hl => ?_)
          refine lv_goto (tgt := 2) hx hb dX2_named_35 (by decide) ?_
          have hinc := i32_inc (x := x3) h0 (by omega)
          exact ih (x3 + 1) _ _ _ ⟨by omega, by omega, by omega, trivial⟩ (by rw [← he, l_T_named_2, if_neg c_2, if_neg c_3]) hP hS (lv_sub hl [1, 2, 3, 0] rfl)
        · skip
          refine lv_aload_n hx hb dX2_named_20 rfl (lv_at hl 0 rfl) ?_
          refine va_get (D := D) (ci := 2) (v := .ref (h 8)) (C := RX2) (T := TX2) (N := 6) hx hb hB inX2 hown hK hP 2 rfl rfl 1 (by decide) (hB _ k1_39) (fun _ h9 => h9) rfl dX2_named_21 ?_
          refine lv_iload_n hx hb dX2_named_24 rfl (lv_at hl 3 rfl) ?_
          refine va_iald (f := S 2) hx hb hK hP 8 0 rfl rfl (vp_in_iff.mpr (by omega)) dX2_named_25 ?_
          refine lv_iload_n hx hb dX2_named_26 rfl (lv_at hl 2 rfl) ?_
          refine lv_icmp_ne (tgt := 32) hx hb dX2_named_27 (by decide) (fun c_4 => ?_) (fun c_4 => ?_)
          · skip
            refine lv_iinc (v := x3 + 1) (lv' := [(3, .int (x3 + 1)), (0, .ref (h 2)), (1, .int a1), (2, .int a2)]) hx hb dX2_named_32 hl (k := 3) rfl rfl (by decide) rfl (fun ls hl => ?_)
            refine lv_goto (tgt := 2) hx hb dX2_named_35 (by decide) ?_
            have hinc := i32_inc (x := x3) h0 (by omega)
            exact ih (x3 + 1) _ _ _ ⟨by omega, by omega, by omega, trivial⟩ (by rw [← he, l_T_named_2, if_neg c_2, if_pos c_3, if_neg c_4]) hP hS (lv_sub hl [1, 2, 3, 0] rfl)
          · skip
            refine lv_iload_n hx hb dX2_named_30 rfl (lv_at hl 3 rfl) ?_
            exact W.iret (v := x3) hx hb hr (fun t ht hW => ⟨⟨x3, (), rfl, (by rw [← he, l_T_named_2, if_neg c_2, if_pos c_3, if_pos c_4]), trivial⟩, hS.F ht⟩) hS.2.2 dX2_named_31
  have hB9 := iv_23 (S := S) hI
  have z_0 : ((0) : Int32).toInt = (0) := by decide
  exact loop2 600 0 _ _ _ ⟨by omega, by omega, by omega, trivial⟩ (by rw [f_T_named]) hP hS (lv_sub hl [1, 2, 3, 0] rfl)
set_option maxHeartbeats 4000000 in
set_option maxRecDepth 100000 in
theorem m_T_add (l : Launch) (D : va_G) (h : Nat → Nat) (cI cZ : ClassId) (S : BS) (hI : IV S) (a1 a2 : Int32) (hroom : (S 23 0).toInt < 32) : WM l yX2_add wsX2_add { frames := 0, cells := 0, slots := 0, locals := 0 } D cI cZ h S [.ref (h 2), .int a1, .int a2] (F_T_add S a1 a2) := by
  refine Met.ofW (cc := cX2_add) (maxL := 3) (ret := (some .int)) (by decide) rfl ?_
  intro p e s m args below meth c s₁ B hml hv
  obtain ⟨rfl, hP, hK, hN, hD0⟩ := hv
  have hx := B.exec
  have hb := B.bytes
  have hr := B.returns
  have hts := atoms_spec (ws := wsX2_add) B.pre
  have hB : ∀ w ∈ BW, w.before _ s = true := fun w h => hts w (List.mem_cons_of_mem _ h)
  have hown : s.vm.findClass RX2 = some m.cls := findClass_of_methodNamed B.named
  have hlocks := B.notSynchronized
  have hD := bD hD0
  have hS : va_S (bA h) s.heap s.heap [] := va_S.rf
  have hl := lv_entry ([.ref (h 2), .int a1, .int a2]) (n := 3) (Nat.le_of_ble_eq_true rfl)
  rw [lg_entry_eq]
  generalize (lg_sl ([.ref (h 2), .int a1, .int a2]) ++ List.replicate (3 - (lg_sl ([.ref (h 2), .int a1, .int a2])).length) Slot.unset).toArray = ls at hl ⊢
  have hl : lv_has ls 3 [(0, .ref (h 2)), (1, .int a1), (2, .int a2)] := hl
  refine lv_aload_n hx hb dX2_add_0 rfl (lv_at hl 0 rfl) ?_
  refine va_get (D := D) (ci := 2) (v := .ref (h 7)) (C := RX2) (T := TX2) (N := 6) hx hb hB inX2 hown hK hP 2 rfl rfl 0 (by decide) (hB _ k1_38) (fun _ h9 => h9) rfl dX2_add_1 ?_
  refine lv_aload_n hx hb dX2_add_4 rfl (lv_at hl 0 rfl) ?_
  refine va_get (D := D) (ci := 2) (v := .int (S 23 0)) (C := RX2) (T := TX2) (N := 6) hx hb hB inX2 hown hK hP 2 rfl rfl 5 (by decide) (hB _ k1_43) (fun _ h9 => h9) rfl dX2_add_5 ?_
  have b_1 : (0) ≤ (S 23 0).toInt ∧ (S 23 0).toInt ≤ 32 := iv_23 (S := S) hI
  refine lv_iload_n hx hb dX2_add_8 rfl (lv_at hl 1 rfl) ?_
  refine wst_1 (S := S) hx hb hK hP hD hS (vp_in_iff.mpr (by omega)) dX2_add_9 (fun H locs hP hD hS => ?_)
  have hI_2 : IV (upS 1 ((S 23 0).toNatClampNeg) a1 S) := iv_up (S := S) hI 1 ((S 23 0).toNatClampNeg) a1 (iv_none 1 rfl)
  refine lv_aload_n hx hb dX2_add_10 rfl (lv_at hl 0 rfl) ?_
  refine va_get (D := D) (ci := 2) (v := .ref (h 8)) (C := RX2) (T := TX2) (N := 6) hx hb hB inX2 hown hK hP 2 rfl rfl 1 (by decide) (hB _ k1_39) (fun _ h9 => h9) rfl dX2_add_11 ?_
  refine lv_aload_n hx hb dX2_add_14 rfl (lv_at hl 0 rfl) ?_
  refine va_get (D := D) (ci := 2) (v := .int (S 23 0)) (C := RX2) (T := TX2) (N := 6) hx hb hB inX2 hown hK hP 2 rfl rfl 5 (by decide) (hB _ k1_43) (fun _ h9 => h9) rfl dX2_add_15 ?_
  have b_3 : (0) ≤ (S 23 0).toInt ∧ (S 23 0).toInt ≤ 32 := iv_23 (S := upS 1 ((S 23 0).toNatClampNeg) a1 S) hI_2
  refine lv_iload_n hx hb dX2_add_18 rfl (lv_at hl 2 rfl) ?_
  refine wst_2 (S := upS 1 ((S 23 0).toNatClampNeg) a1 S) hx hb hK hP hD hS (vp_in_iff.mpr (by omega)) dX2_add_19 (fun H locs hP hD hS => ?_)
  have hI_4 : IV (upS 2 ((S 23 0).toNatClampNeg) a2 (upS 1 ((S 23 0).toNatClampNeg) a1 S)) := iv_up (S := upS 1 ((S 23 0).toNatClampNeg) a1 S) hI_2 2 ((S 23 0).toNatClampNeg) a2 (iv_none 2 rfl)
  refine lv_aload_n hx hb dX2_add_20 rfl (lv_at hl 0 rfl) ?_
  refine lv_dup hx hb dX2_add_21 rfl ?_
  refine va_get (D := D) (ci := 2) (v := .int (S 23 0)) (C := RX2) (T := TX2) (N := 6) hx hb hB inX2 hown hK hP 2 rfl rfl 5 (by decide) (hB _ k1_43) (fun _ h9 => h9) rfl dX2_add_22 ?_
  have b_5 : (0) ≤ (S 23 0).toInt ∧ (S 23 0).toInt ≤ 32 := iv_23 (S := upS 2 ((S 23 0).toNatClampNeg) a2 (upS 1 ((S 23 0).toNatClampNeg) a1 S)) hI_4
  refine lv_iconst (v := 1) hx hb dX2_add_25 (by decide) ?_
  refine lv_iadd hx hb dX2_add_26 ?_
  refine wpf_23 (S := upS 2 ((S 23 0).toNatClampNeg) a2 (upS 1 ((S 23 0).toNatClampNeg) a1 S)) hx hb hB hown hK hP hD hS (hB _ k1_43) dX2_add_27 (fun H locs hP hD hS => ?_)
  have k_7 := i32_inc (x := (S 23 0)) (by omega) (by omega)
  have hI_6 : IV (upS 23 0 ((S 23 0) + 1) (upS 2 ((S 23 0).toNatClampNeg) a2 (upS 1 ((S 23 0).toNatClampNeg) a1 S))) := iv_up (S := upS 2 ((S 23 0).toNatClampNeg) a2 (upS 1 ((S 23 0).toNatClampNeg) a1 S)) hI_4 23 0 ((S 23 0) + 1) (iv_one 23 (0) 32 rfl (by omega))
  refine lv_aload_n hx hb dX2_add_30 rfl (lv_at hl 0 rfl) ?_
  refine va_get (D := D) (ci := 2) (v := .int ((S 23 0) + 1)) (C := RX2) (T := TX2) (N := 6) hx hb hB inX2 hown hK hP 2 rfl rfl 5 (by decide) (hB _ k1_43) (fun _ h9 => h9) rfl dX2_add_31 ?_
  have b_8 : (0) ≤ ((S 23 0) + 1).toInt ∧ ((S 23 0) + 1).toInt ≤ 32 := iv_23 (S := upS 23 0 ((S 23 0) + 1) (upS 2 ((S 23 0).toNatClampNeg) a2 (upS 1 ((S 23 0).toNatClampNeg) a1 S))) hI_6
  refine lv_iconst (v := 1) hx hb dX2_add_34 (by decide) ?_
  refine lv_isub hx hb dX2_add_35 ?_
  exact W.iret (v := ((S 23 0) + 1) - 1) hx hb hr (fun t ht hW => ⟨⟨((S 23 0) + 1) - 1, upS 23 0 ((S 23 0) + 1) (upS 2 ((S 23 0).toNatClampNeg) a2 (upS 1 ((S 23 0).toNatClampNeg) a1 S)), rfl, ⟨(by rw [F_T_add]), hI_6⟩, by show va_P D vwCl _ t.heap; rw [ht]; exact hP⟩, hS.F ht⟩) hS.2.2 dX2_add_36
set_option maxHeartbeats 4000000 in
set_option maxRecDepth 100000 in
theorem m_T_isGone (l : Launch) (D : va_G) (h : Nat → Nat) (cI cZ : ClassId) (S : BS) (hI : IV S) (a1 : Int32) (ha0 : 0 ≤ a1.toInt ∧ a1.toInt ≤ 31) : PM l yX2_isGone wsX2_isGone { frames := 0, cells := 0, slots := 0, locals := 0 } D cI cZ h S [.ref (h 2), .int a1] (f_T_isGone S a1) := by
  refine Met.ofW (cc := cX2_isGone) (maxL := 2) (ret := (some .boolean)) (by decide) rfl ?_
  intro p e s m args below meth c s₁ B hml hv
  obtain ⟨rfl, hP, hK, hN⟩ := hv
  have hx := B.exec
  have hb := B.bytes
  have hr := B.returns
  have hts := atoms_spec (ws := wsX2_isGone) B.pre
  have hB : ∀ w ∈ BW, w.before _ s = true := fun w h => hts w (List.mem_cons_of_mem _ h)
  have hown : s.vm.findClass RX2 = some m.cls := findClass_of_methodNamed B.named
  have hlocks := B.notSynchronized
  have hS : va_S (fun _ => False) s.heap s.heap [] := va_S.rf
  have hl := lv_entry ([.ref (h 2), .int a1]) (n := 2) (Nat.le_of_ble_eq_true rfl)
  rw [lg_entry_eq]
  generalize (lg_sl ([.ref (h 2), .int a1]) ++ List.replicate (2 - (lg_sl ([.ref (h 2), .int a1])).length) Slot.unset).toArray = ls at hl ⊢
  have hl : lv_has ls 2 [(0, .ref (h 2)), (1, .int a1)] := hl
  refine lv_aload_n hx hb dX2_isGone_0 rfl (lv_at hl 0 rfl) ?_
  refine va_get (D := D) (ci := 2) (v := .ref (h 9)) (C := RX2) (T := TX2) (N := 6) hx hb hB inX2 hown hK hP 2 rfl rfl 2 (by decide) (hB _ k1_40) (fun _ h9 => h9) rfl dX2_isGone_1 ?_
  refine lv_iload_n hx hb dX2_isGone_4 rfl (lv_at hl 1 rfl) ?_
  refine va_zald (f := S 3) hx hb hK hP 9 1 rfl rfl (vp_in_iff.mpr (by omega)) dX2_isGone_5 ?_
  have b_1 : (0) ≤ (S 3 a1.toNatClampNeg).toInt ∧ (S 3 a1.toNatClampNeg).toInt ≤ 1 := iv_3 (S := S) hI a1.toNatClampNeg
  exact W.zret (v := S 3 a1.toNatClampNeg) hx hb hr (nb01 (by omega)) (fun t ht hW => ⟨⟨S 3 a1.toNatClampNeg, (), rfl, (by rw [f_T_isGone]), trivial⟩, hS.F ht⟩) hS.2.2 dX2_isGone_6
set_option maxHeartbeats 4000000 in
set_option maxRecDepth 100000 in
theorem m_T_goInto (l : Launch) (D : va_G) (h : Nat → Nat) (cI cZ : ClassId) (S : BS) (hI : IV S) (a1 a2 a3 : Int32) (ha0 : 0 ≤ a1.toInt ∧ a1.toInt ≤ 31) (ha1 : 0 ≤ a2.toInt ∧ a2.toInt ≤ 31) : VM l yX2_goInto wsX2_goInto { frames := 0, cells := 0, slots := 0, locals := 0 } D cI cZ h S [.ref (h 2), .int a1, .int a2, .int a3] (F_T_goInto S a1 a2 a3) := by
  refine Met.ofW (cc := cX2_goInto) (maxL := 4) (ret := none) (by decide) rfl ?_
  intro p e s m args below meth c s₁ B hml hv
  obtain ⟨rfl, hP, hK, hN, hD0⟩ := hv
  have hx := B.exec
  have hb := B.bytes
  have hr := B.returns
  have hts := atoms_spec (ws := wsX2_goInto) B.pre
  have hB : ∀ w ∈ BW, w.before _ s = true := fun w h => hts w (List.mem_cons_of_mem _ h)
  have hown : s.vm.findClass RX2 = some m.cls := findClass_of_methodNamed B.named
  have hlocks := B.notSynchronized
  have hD := bD hD0
  have hS : va_S (bA h) s.heap s.heap [] := va_S.rf
  have hl := lv_entry ([.ref (h 2), .int a1, .int a2, .int a3]) (n := 4) (Nat.le_of_ble_eq_true rfl)
  rw [lg_entry_eq]
  generalize (lg_sl ([.ref (h 2), .int a1, .int a2, .int a3]) ++ List.replicate (4 - (lg_sl ([.ref (h 2), .int a1, .int a2, .int a3])).length) Slot.unset).toArray = ls at hl ⊢
  have hl : lv_has ls 4 [(0, .ref (h 2)), (1, .int a1), (2, .int a2), (3, .int a3)] := hl
  refine lv_aload_n hx hb dX2_goInto_0 rfl (lv_at hl 0 rfl) ?_
  refine va_get (D := D) (ci := 2) (v := .ref (h 9)) (C := RX2) (T := TX2) (N := 6) hx hb hB inX2 hown hK hP 2 rfl rfl 2 (by decide) (hB _ k1_40) (fun _ h9 => h9) rfl dX2_goInto_1 ?_
  refine lv_iload_n hx hb dX2_goInto_4 rfl (lv_at hl 1 rfl) ?_
  refine lv_iconst (v := 1) hx hb dX2_goInto_5 (by decide) ?_
  refine wst_3 (S := S) hx hb hK hP hD hS (vp_in_iff.mpr (by omega)) (by first | rfl | decide) dX2_goInto_6 (fun H locs hP hD hS => ?_)
  have hI_1 : IV (upS 3 a1.toNatClampNeg 1 S) := iv_up (S := S) hI 3 a1.toNatClampNeg 1 (iv_one 3 (0) 1 rfl (by decide))
  refine lv_aload_n hx hb dX2_goInto_7 rfl (lv_at hl 0 rfl) ?_
  refine va_get (D := D) (ci := 2) (v := .ref (h 10)) (C := RX2) (T := TX2) (N := 6) hx hb hB inX2 hown hK hP 2 rfl rfl 3 (by decide) (hB _ k1_41) (fun _ h9 => h9) rfl dX2_goInto_8 ?_
  refine lv_iload_n hx hb dX2_goInto_11 rfl (lv_at hl 1 rfl) ?_
  refine lv_iload_n hx hb dX2_goInto_12 rfl (lv_at hl 2 rfl) ?_
  refine wst_4 (S := upS 3 a1.toNatClampNeg 1 S) hx hb hK hP hD hS (vp_in_iff.mpr (by omega)) dX2_goInto_13 (fun H locs hP hD hS => ?_)
  have hI_2 : IV (upS 4 a1.toNatClampNeg a2 (upS 3 a1.toNatClampNeg 1 S)) := iv_up (S := upS 3 a1.toNatClampNeg 1 S) hI_1 4 a1.toNatClampNeg a2 (iv_one 4 (0) 31 rfl (by omega))
  refine lv_aload_n hx hb dX2_goInto_14 rfl (lv_at hl 0 rfl) ?_
  refine va_get (D := D) (ci := 2) (v := .ref (h 11)) (C := RX2) (T := TX2) (N := 6) hx hb hB inX2 hown hK hP 2 rfl rfl 4 (by decide) (hB _ k1_42) (fun _ h9 => h9) rfl dX2_goInto_15 ?_
  refine lv_iload_n hx hb dX2_goInto_18 rfl (lv_at hl 1 rfl) ?_
  refine lv_iload_n hx hb dX2_goInto_19 rfl (lv_at hl 3 rfl) ?_
  refine wst_5 (S := upS 4 a1.toNatClampNeg a2 (upS 3 a1.toNatClampNeg 1 S)) hx hb hK hP hD hS (vp_in_iff.mpr (by omega)) dX2_goInto_20 (fun H locs hP hD hS => ?_)
  have hI_3 : IV (upS 5 a1.toNatClampNeg a3 (upS 4 a1.toNatClampNeg a2 (upS 3 a1.toNatClampNeg 1 S))) := iv_up (S := upS 4 a1.toNatClampNeg a2 (upS 3 a1.toNatClampNeg 1 S)) hI_2 5 a1.toNatClampNeg a3 (iv_none 5 rfl)
  exact W.vret hx hb hr (fun t ht hW => ⟨⟨upS 5 a1.toNatClampNeg a3 (upS 4 a1.toNatClampNeg a2 (upS 3 a1.toNatClampNeg 1 S)), rfl, ⟨(by rw [F_T_goInto]), hI_3⟩, by show va_P D vwCl _ t.heap; rw [ht]; exact hP⟩, hS.F ht⟩) hS.2.2 dX2_goInto_21
set_option maxHeartbeats 4000000 in
set_option maxRecDepth 100000 in
theorem m_T_meaning (l : Launch) (D : va_G) (h : Nat → Nat) (cI cZ : ClassId) (S : BS) (hI : IV S) (a1 a2 : Int32) (ha0 : 0 ≤ a1.toInt ∧ a1.toInt ≤ 31) : PM l yX2_meaning wsX2_meaning { frames := 0, cells := 0, slots := 0, locals := 0 } D cI cZ h S [.ref (h 2), .int a1, .int a2] (f_T_meaning S a1 a2) := by
  refine Met.ofW (cc := cX2_meaning) (maxL := 5) (ret := (some .int)) (by decide) rfl ?_
  intro p e s m args below meth c s₁ B hml hv
  obtain ⟨rfl, hP, hK, hN⟩ := hv
  have hx := B.exec
  have hb := B.bytes
  have hr := B.returns
  have hts := atoms_spec (ws := wsX2_meaning) B.pre
  have hB : ∀ w ∈ BW, w.before _ s = true := fun w h => hts w (List.mem_cons_of_mem _ h)
  have hown : s.vm.findClass RX2 = some m.cls := findClass_of_methodNamed B.named
  have hlocks := B.notSynchronized
  have hS : va_S (fun _ => False) s.heap s.heap [] := va_S.rf
  have hl := lv_entry ([.ref (h 2), .int a1, .int a2]) (n := 5) (Nat.le_of_ble_eq_true rfl)
  rw [lg_entry_eq]
  generalize (lg_sl ([.ref (h 2), .int a1, .int a2]) ++ List.replicate (5 - (lg_sl ([.ref (h 2), .int a1, .int a2])).length) Slot.unset).toArray = ls at hl ⊢
  have hl : lv_has ls 5 [(0, .ref (h 2)), (1, .int a1), (2, .int a2)] := hl
  refine lv_iload_n hx hb dX2_meaning_0 rfl (lv_at hl 1 rfl) ?_
  refine lv_istore_n (lv' := [(3, .int a1), (0, .ref (h 2)), (1, .int a1), (2, .int a2)]) hx hb dX2_meaning_1 rfl hl (by decide) rfl (fun ls hl => ?_)
  refine lv_iconst (v := 0) hx hb dX2_meaning_2 (by decide) ?_
  refine lv_istore (lv' := [(4, .int 0), (3, .int a1), (0, .ref (h 2)), (1, .int a1), (2, .int a2)]) hx hb dX2_meaning_3 hl (by decide) rfl (fun ls hl => ?_)
  have loop5 : ∀ (n : Nat) (x3 x4 : Int32) (H : Heap) (locs : List Loc) (ls : Array Slot), (0 ≤ x4.toInt ∧ x4.toInt ≤ (S 23 0 : Int32).toInt ∧ (S 23 0 : Int32).toInt - x4.toInt < (n : Int) ∧ (0 ≤ x3.toInt ∧ x3.toInt ≤ 31)) → l_T_meaning_5 S a1 a2 n x3 x4 = f_T_meaning S a1 a2 → va_P D vwCl (wB h cI cZ S) H → va_S (fun _ => False) s.heap H locs → lv_has ls 5 [(0, .ref (h 2)), (1, .int a1), (2, .int a2), (3, .int x3), (4, .int x4)] → W p l e (headSpec wsX2_meaning { frames := 0, cells := 0, slots := 0, locals := 0 }).room s m ([.ref (h 2), .int a1, .int a2]).toArray below meth c H locs 0 0 (MQ below (PQ (f_T_meaning S a1 a2)) ([.ref (h 2), .int a1, .int a2]).toArray s 0 0 (fun _ => False)) (F0 m 5 ls []) := by
    intro n
    induction n with
    | zero =>
      intro x3 x4 H locs ls hinv he hP hS hl
      obtain ⟨h0, hle, hm, hex⟩ := hinv
      exact absurd hm (by omega)
    | succ n ih =>
      intro x3 x4 H locs ls hinv he hP hS hl
      obtain ⟨h0, hle, hm, hex⟩ := hinv
      have hBd := iv_23 hI
      refine lv_iload hx hb dX2_meaning_5 (lv_at hl 4 rfl) ?_
      refine lv_aload_n hx hb dX2_meaning_7 rfl (lv_at hl 0 rfl) ?_
      refine va_get (D := D) (ci := 2) (v := .int (S 23 0)) (C := RX2) (T := TX2) (N := 6) hx hb hB inX2 hown hK hP 2 rfl rfl 5 (by decide) (hB _ k1_43) (fun _ h9 => h9) rfl dX2_meaning_8 ?_
      have b_1 : (0) ≤ (S 23 0).toInt ∧ (S 23 0).toInt ≤ 32 := iv_23 (S := S) hI
      refine lv_icmp_ge (tgt := 46) hx hb dX2_meaning_11 (by decide) (fun c_2 => ?_) (fun c_2 => ?_)
      · skip
        have t_2 := Int32.le_iff_toInt_le.mp c_2
        refine lv_iload_n hx hb dX2_meaning_46 rfl (lv_at hl 3 rfl) ?_
        exact W.iret (v := x3) hx hb hr (fun t ht hW => ⟨⟨x3, (), rfl, (by rw [← he, l_T_meaning_5, if_pos c_2]), trivial⟩, hS.F ht⟩) hS.2.2 dX2_meaning_47
      · skip
        have t_2 := mt Int32.le_iff_toInt_le.mpr c_2
        refine lv_aload_n hx hb dX2_meaning_14 rfl (lv_at hl 0 rfl) ?_
        refine va_get (D := D) (ci := 2) (v := .ref (h 9)) (C := RX2) (T := TX2) (N := 6) hx hb hB inX2 hown hK hP 2 rfl rfl 2 (by decide) (hB _ k1_40) (fun _ h9 => h9) rfl dX2_meaning_15 ?_
        refine lv_iload_n hx hb dX2_meaning_18 rfl (lv_at hl 3 rfl) ?_
        refine va_zald (f := S 3) hx hb hK hP 9 1 rfl rfl (vp_in_iff.mpr (by omega)) dX2_meaning_19 ?_
        have b_3 : (0) ≤ (S 3 x3.toNatClampNeg).toInt ∧ (S 3 x3.toNatClampNeg).toInt ≤ 1 := iv_3 (S := S) hI x3.toNatClampNeg
        refine lv_if_eq (tgt := 46) hx hb dX2_meaning_20 (by decide) (fun c_4 => ?_) (fun c_4 => ?_)
        · skip
          have z_0 : ((0) : Int32).toInt = (0) := by decide
          have t_4 := Int32.toInt_inj.symm.mp c_4
          refine lv_iload_n hx hb dX2_meaning_46 rfl (lv_at hl 3 rfl) ?_
          exact W.iret (v := x3) hx hb hr (fun t ht hW => ⟨⟨x3, (), rfl, (by rw [← he, l_T_meaning_5, if_neg c_2, if_pos c_4]), trivial⟩, hS.F ht⟩) hS.2.2 dX2_meaning_47
        · skip
          have z_0 : ((0) : Int32).toInt = (0) := by decide
          have t_4 := mt Int32.toInt_inj.mp c_4
          refine lv_aload_n hx hb dX2_meaning_23 rfl (lv_at hl 0 rfl) ?_
          refine va_get (D := D) (ci := 2) (v := .ref (h 11)) (C := RX2) (T := TX2) (N := 6) hx hb hB inX2 hown hK hP 2 rfl rfl 4 (by decide) (hB _ k1_42) (fun _ h9 => h9) rfl dX2_meaning_24 ?_
          refine lv_iload_n hx hb dX2_meaning_27 rfl (lv_at hl 3 rfl) ?_
          refine va_iald (f := S 5) hx hb hK hP 11 0 rfl rfl (vp_in_iff.mpr (by omega)) dX2_meaning_28 ?_
          refine lv_iload_n hx hb dX2_meaning_29 rfl (lv_at hl 2 rfl) ?_
          refine lv_icmp_gt (tgt := 46) hx hb dX2_meaning_30 (by decide) (fun c_5 => ?_) (fun c_5 => ?_)
          · skip
            have t_5 := Int32.lt_iff_toInt_lt.mp c_5
            refine lv_iload_n hx hb dX2_meaning_46 rfl (lv_at hl 3 rfl) ?_
            exact W.iret (v := x3) hx hb hr (fun t ht hW => ⟨⟨x3, (), rfl, (by rw [← he, l_T_meaning_5, if_neg c_2, if_neg c_4, if_pos c_5]), trivial⟩, hS.F ht⟩) hS.2.2 dX2_meaning_47
          · skip
            have t_5 := mt Int32.lt_iff_toInt_lt.mpr c_5
            refine lv_aload_n hx hb dX2_meaning_33 rfl (lv_at hl 0 rfl) ?_
            refine va_get (D := D) (ci := 2) (v := .ref (h 10)) (C := RX2) (T := TX2) (N := 6) hx hb hB inX2 hown hK hP 2 rfl rfl 3 (by decide) (hB _ k1_41) (fun _ h9 => h9) rfl dX2_meaning_34 ?_
            refine lv_iload_n hx hb dX2_meaning_37 rfl (lv_at hl 3 rfl) ?_
            refine va_iald (f := S 4) hx hb hK hP 10 0 rfl rfl (vp_in_iff.mpr (by omega)) dX2_meaning_38 ?_
            have b_6 : (0) ≤ (S 4 x3.toNatClampNeg).toInt ∧ (S 4 x3.toNatClampNeg).toInt ≤ 31 := iv_4 (S := S) hI x3.toNatClampNeg
            refine lv_istore_n (lv' := [(3, .int (S 4 x3.toNatClampNeg)), (0, .ref (h 2)), (1, .int a1), (2, .int a2), (4, .int x4)]) hx hb dX2_meaning_39 rfl hl (by decide) rfl (fun ls hl => ?_)
            refine lv_iinc (v := x4 + 1) (lv' := [(4, .int (x4 + 1)), (3, .int (S 4 x3.toNatClampNeg)), (0, .ref (h 2)), (1, .int a1), (2, .int a2)]) hx hb dX2_meaning_40 hl (k := 4) rfl rfl (by decide) rfl (fun ls hl => ?_)
            refine lv_goto (tgt := 5) hx hb dX2_meaning_43 (by decide) ?_
            have hinc := i32_inc (x := x4) h0 (by omega)
            exact ih (S 4 x3.toNatClampNeg) (x4 + 1) _ _ _ ⟨by omega, by omega, by omega, ⟨by omega, by omega⟩⟩ (by rw [← he, l_T_meaning_5, if_neg c_2, if_neg c_4, if_neg c_5]) hP hS (lv_sub hl [2, 3, 4, 1, 0] rfl)
  have hB9 := iv_23 (S := S) hI
  have z_0 : ((0) : Int32).toInt = (0) := by decide
  exact loop5 600 a1 0 _ _ _ ⟨by omega, by omega, by omega, ⟨by omega, by omega⟩⟩ (by rw [f_T_meaning]) hP hS (lv_sub hl [2, 3, 4, 1, 0] rfl)
set_option maxHeartbeats 4000000 in
set_option maxRecDepth 100000 in
theorem m_R_has (l : Launch) (D : va_G) (h : Nat → Nat) (cI cZ : ClassId) (S : BS) (hI : IV S) (a1 : Int32) : PM l yX3_has wsX3_has { frames := 0, cells := 0, slots := 0, locals := 0 } D cI cZ h S [.ref (h 3), .int a1] (f_R_has S a1) := by
  refine Met.ofW (cc := cX3_has) (maxL := 2) (ret := (some .boolean)) (by decide) rfl ?_
  intro p e s m args below meth c s₁ B hml hv
  obtain ⟨rfl, hP, hK, hN⟩ := hv
  have hx := B.exec
  have hb := B.bytes
  have hr := B.returns
  have hts := atoms_spec (ws := wsX3_has) B.pre
  have hB : ∀ w ∈ BW, w.before _ s = true := fun w h => hts w (List.mem_cons_of_mem _ h)
  have hown : s.vm.findClass RX3 = some m.cls := findClass_of_methodNamed B.named
  have hlocks := B.notSynchronized
  have hS : va_S (fun _ => False) s.heap s.heap [] := va_S.rf
  have hl := lv_entry ([.ref (h 3), .int a1]) (n := 2) (Nat.le_of_ble_eq_true rfl)
  rw [lg_entry_eq]
  generalize (lg_sl ([.ref (h 3), .int a1]) ++ List.replicate (2 - (lg_sl ([.ref (h 3), .int a1])).length) Slot.unset).toArray = ls at hl ⊢
  have hl : lv_has ls 2 [(0, .ref (h 3)), (1, .int a1)] := hl
  refine lv_iload_n hx hb dX3_has_0 rfl (lv_at hl 1 rfl) ?_
  refine lv_if_lt (tgt := 16) hx hb dX3_has_1 (by decide) (fun c_1 => ?_) (fun c_1 => ?_)
  · skip
    have z_0 : ((0) : Int32).toInt = (0) := by decide
    have t_1 := Int32.lt_iff_toInt_lt.mp c_1
    refine lv_iconst (v := 0) hx hb dX3_has_16 (by decide) ?_
    exact W.zret (v := 0) hx hb hr (by decide) (fun t ht hW => ⟨⟨0, (), rfl, (by rw [f_R_has, if_pos c_1]), trivial⟩, hS.F ht⟩) hS.2.2 dX3_has_17
  · skip
    have z_0 : ((0) : Int32).toInt = (0) := by decide
    have t_1 := mt Int32.lt_iff_toInt_lt.mpr c_1
    refine lv_iload_n hx hb dX3_has_4 rfl (lv_at hl 1 rfl) ?_
    refine lv_aload_n hx hb dX3_has_5 rfl (lv_at hl 0 rfl) ?_
    refine va_get (D := D) (ci := 3) (v := .int (S 24 0)) (C := RX3) (T := TX3) (N := 6) hx hb hB inX3 hown hK hP 3 rfl rfl 5 (by decide) (hB _ k1_75) (fun _ h9 => h9) rfl dX3_has_6 ?_
    have b_2 : (0) ≤ (S 24 0).toInt ∧ (S 24 0).toInt ≤ 80 := iv_24 (S := S) hI
    refine lv_icmp_ge (tgt := 16) hx hb dX3_has_9 (by decide) (fun c_3 => ?_) (fun c_3 => ?_)
    · skip
      have t_3 := Int32.le_iff_toInt_le.mp c_3
      refine lv_iconst (v := 0) hx hb dX3_has_16 (by decide) ?_
      exact W.zret (v := 0) hx hb hr (by decide) (fun t ht hW => ⟨⟨0, (), rfl, (by rw [f_R_has, if_neg c_1, if_pos c_3]), trivial⟩, hS.F ht⟩) hS.2.2 dX3_has_17
    · skip
      have t_3 := mt Int32.le_iff_toInt_le.mpr c_3
      refine lv_iconst (v := 1) hx hb dX3_has_12 (by decide) ?_
      refine lv_goto (tgt := 17) hx hb dX3_has_13 (by decide) ?_
      exact W.zret (v := 1) hx hb hr (by decide) (fun t ht hW => ⟨⟨1, (), rfl, (by rw [f_R_has, if_neg c_1, if_neg c_3]), trivial⟩, hS.F ht⟩) hS.2.2 dX3_has_17
set_option maxHeartbeats 4000000 in
set_option maxRecDepth 100000 in
theorem m_R_hasRoomFor (l : Launch) (D : va_G) (h : Nat → Nat) (cI cZ : ClassId) (S : BS) (hI : IV S) (a1 : Int32) : PM l yX3_hasRoomFor wsX3_hasRoomFor { frames := 0, cells := 0, slots := 0, locals := 0 } D cI cZ h S [.ref (h 3), .int a1] (f_R_hasRoomFor S a1) := by
  refine Met.ofW (cc := cX3_hasRoomFor) (maxL := 2) (ret := (some .boolean)) (by decide) rfl ?_
  intro p e s m args below meth c s₁ B hml hv
  obtain ⟨rfl, hP, hK, hN⟩ := hv
  have hx := B.exec
  have hb := B.bytes
  have hr := B.returns
  have hts := atoms_spec (ws := wsX3_hasRoomFor) B.pre
  have hB : ∀ w ∈ BW, w.before _ s = true := fun w h => hts w (List.mem_cons_of_mem _ h)
  have hown : s.vm.findClass RX3 = some m.cls := findClass_of_methodNamed B.named
  have hlocks := B.notSynchronized
  have hS : va_S (fun _ => False) s.heap s.heap [] := va_S.rf
  have hl := lv_entry ([.ref (h 3), .int a1]) (n := 2) (Nat.le_of_ble_eq_true rfl)
  rw [lg_entry_eq]
  generalize (lg_sl ([.ref (h 3), .int a1]) ++ List.replicate (2 - (lg_sl ([.ref (h 3), .int a1])).length) Slot.unset).toArray = ls at hl ⊢
  have hl : lv_has ls 2 [(0, .ref (h 3)), (1, .int a1)] := hl
  refine lv_aload_n hx hb dX3_hasRoomFor_0 rfl (lv_at hl 0 rfl) ?_
  refine va_get (D := D) (ci := 3) (v := .int (S 24 0)) (C := RX3) (T := TX3) (N := 6) hx hb hB inX3 hown hK hP 3 rfl rfl 5 (by decide) (hB _ k1_75) (fun _ h9 => h9) rfl dX3_hasRoomFor_1 ?_
  have b_1 : (0) ≤ (S 24 0).toInt ∧ (S 24 0).toInt ≤ 80 := iv_24 (S := S) hI
  refine lv_iload_n hx hb dX3_hasRoomFor_4 rfl (lv_at hl 1 rfl) ?_
  refine lv_iadd hx hb dX3_hasRoomFor_5 ?_
  refine lv_bipush (v := 80) hx hb dX3_hasRoomFor_6 (by decide) ?_
  refine lv_icmp_gt (tgt := 15) hx hb dX3_hasRoomFor_8 (by decide) (fun c_2 => ?_) (fun c_2 => ?_)
  · skip
    have z_80 : ((80) : Int32).toInt = (80) := by decide
    have t_2 := Int32.lt_iff_toInt_lt.mp c_2
    refine lv_iconst (v := 0) hx hb dX3_hasRoomFor_15 (by decide) ?_
    exact W.zret (v := 0) hx hb hr (by decide) (fun t ht hW => ⟨⟨0, (), rfl, (by rw [f_R_hasRoomFor, if_pos c_2]), trivial⟩, hS.F ht⟩) hS.2.2 dX3_hasRoomFor_16
  · skip
    have z_80 : ((80) : Int32).toInt = (80) := by decide
    have t_2 := mt Int32.lt_iff_toInt_lt.mpr c_2
    refine lv_iconst (v := 1) hx hb dX3_hasRoomFor_11 (by decide) ?_
    refine lv_goto (tgt := 16) hx hb dX3_hasRoomFor_12 (by decide) ?_
    exact W.zret (v := 1) hx hb hr (by decide) (fun t ht hW => ⟨⟨1, (), rfl, (by rw [f_R_hasRoomFor, if_neg c_2]), trivial⟩, hS.F ht⟩) hS.2.2 dX3_hasRoomFor_16
set_option maxHeartbeats 4000000 in
set_option maxRecDepth 100000 in
theorem m_A_isOdd (l : Launch) (D : va_G) (h : Nat → Nat) (cI cZ : ClassId) (S : BS) (hI : IV S) (a1 : Int32) : PM l yX0_isOdd wsX0_isOdd { frames := 0, cells := 0, slots := 0, locals := 0 } D cI cZ h S [.int a1] (f_A_isOdd a1) := by
  refine Met.ofW (cc := cX0_isOdd) (maxL := 1) (ret := (some .boolean)) (by decide) rfl ?_
  intro p e s m args below meth c s₁ B hml hv
  obtain ⟨rfl, hP, hK, hN⟩ := hv
  have hx := B.exec
  have hb := B.bytes
  have hr := B.returns
  have hts := atoms_spec (ws := wsX0_isOdd) B.pre
  have hB : ∀ w ∈ BW, w.before _ s = true := fun w h => hts w (List.mem_cons_of_mem _ h)
  have hown : s.vm.findClass RX0 = some m.cls := findClass_of_methodNamed B.named
  have hlocks := B.notSynchronized
  have hS : va_S (fun _ => False) s.heap s.heap [] := va_S.rf
  have hl := lv_entry ([.int a1]) (n := 1) (Nat.le_of_ble_eq_true rfl)
  rw [lg_entry_eq]
  generalize (lg_sl ([.int a1]) ++ List.replicate (1 - (lg_sl ([.int a1])).length) Slot.unset).toArray = ls at hl ⊢
  have hl : lv_has ls 1 [(0, .int a1)] := hl
  refine lv_iload_n hx hb dX0_isOdd_0 rfl (lv_at hl 0 rfl) ?_
  refine lv_iconst (v := 1) hx hb dX0_isOdd_1 (by decide) ?_
  refine lv_iand hx hb dX0_isOdd_2 ?_
  refine lv_iconst (v := 1) hx hb dX0_isOdd_3 (by decide) ?_
  refine lv_icmp_ne (tgt := 11) hx hb dX0_isOdd_4 (by decide) (fun c_1 => ?_) (fun c_1 => ?_)
  · skip
    have z_1 : ((1) : Int32).toInt = (1) := by decide
    have t_1 := mt Int32.toInt_inj.mp c_1
    refine lv_iconst (v := 0) hx hb dX0_isOdd_11 (by decide) ?_
    exact W.zret (v := 0) hx hb hr (by decide) (fun t ht hW => ⟨⟨0, (), rfl, (by rw [f_A_isOdd, if_neg c_1]), trivial⟩, hS.F ht⟩) hS.2.2 dX0_isOdd_12
  · skip
    have z_1 : ((1) : Int32).toInt = (1) := by decide
    have t_1 := Int32.toInt_inj.symm.mp c_1
    refine lv_iconst (v := 1) hx hb dX0_isOdd_7 (by decide) ?_
    refine lv_goto (tgt := 12) hx hb dX0_isOdd_8 (by decide) ?_
    exact W.zret (v := 1) hx hb hr (by decide) (fun t ht hW => ⟨⟨1, (), rfl, (by rw [f_A_isOdd, if_pos c_1]), trivial⟩, hS.F ht⟩) hS.2.2 dX0_isOdd_12
set_option maxHeartbeats 4000000 in
set_option maxRecDepth 100000 in
theorem m_A_isOfSide (l : Launch) (D : va_G) (h : Nat → Nat) (cI cZ : ClassId) (S : BS) (hI : IV S) (a1 a2 : Int32) : PM l yX0_isOfSide wsX0_isOfSide { frames := 1, cells := 0, slots := 0, locals := 20 } D cI cZ h S [.int a1, .int a2] (f_A_isOfSide a1 a2) := by
  refine Met.ofW (cc := cX0_isOfSide) (maxL := 2) (ret := (some .boolean)) (by decide) rfl ?_
  intro p e s m args below meth c s₁ B hml hv
  obtain ⟨rfl, hP, hK, hN⟩ := hv
  have hx := B.exec
  have hb := B.bytes
  have hr := B.returns
  have hts := atoms_spec (ws := wsX0_isOfSide) B.pre
  have hB : ∀ w ∈ BW, w.before _ s = true := fun w h => hts w (List.mem_cons_of_mem _ h)
  have hown : s.vm.findClass RX0 = some m.cls := findClass_of_methodNamed B.named
  have hlocks := B.notSynchronized
  have hS : va_S (fun _ => False) s.heap s.heap [] := va_S.rf
  have hl := lv_entry ([.int a1, .int a2]) (n := 2) (Nat.le_of_ble_eq_true rfl)
  rw [lg_entry_eq]
  generalize (lg_sl ([.int a1, .int a2]) ++ List.replicate (2 - (lg_sl ([.int a1, .int a2])).length) Slot.unset).toArray = ls at hl ⊢
  have hl : lv_has ls 2 [(0, .int a1), (1, .int a2)] := hl
  refine lv_iload_n hx hb dX0_isOfSide_0 rfl (lv_at hl 0 rfl) ?_
  refine lv_if_eq (tgt := 15) hx hb dX0_isOfSide_1 (by decide) (fun c_1 => ?_) (fun c_1 => ?_)
  · skip
    have z_0 : ((0) : Int32).toInt = (0) := by decide
    have t_1 := Int32.toInt_inj.symm.mp c_1
    refine lv_iconst (v := 1) hx hb dX0_isOfSide_15 (by decide) ?_
    refine lv_goto (tgt := 20) hx hb dX0_isOfSide_16 (by decide) ?_
    exact W.zret (v := 1) hx hb hr (by decide) (fun t ht hW => ⟨⟨1, (), rfl, (by rw [f_A_isOfSide, if_pos c_1]), trivial⟩, hS.F ht⟩) hS.2.2 dX0_isOfSide_20
  · skip
    have z_0 : ((0) : Int32).toInt = (0) := by decide
    have t_1 := mt Int32.toInt_inj.mp c_1
    refine lv_iload_n hx hb dX0_isOfSide_4 rfl (lv_at hl 1 rfl) ?_
    refine pu_call (va_runS (As := [.int a2]) (rest := []) ⟨hx, hb, hml, hown, hB⟩ (m_A_isOdd l D h cI cZ S hI a2 ) (cwS 1 hB (gS k1_235 k1_236 k1_1 k1_237) rfl rfl rfl (by decide +kernel) ⟨Nat.le_of_ble_eq_true rfl, Nat.le_of_ble_eq_true rfl⟩) ⟨pu_blind, pu_pre hP hK hN⟩ rfl rfl hl.1 rfl (lv_room (Nat.le_of_ble_eq_true rfl)) dX0_isOfSide_5 ⟨Nat.le_of_ble_eq_true rfl, Nat.le_of_ble_eq_true rfl⟩) hP hS (fun H locs hP hS => ?_)
    refine lv_iload_n hx hb dX0_isOfSide_8 rfl (lv_at hl 0 rfl) ?_
    refine pu_call (va_runS (As := [.int a1]) (rest := [.int (f_A_isOdd a2)]) ⟨hx, hb, hml, hown, hB⟩ (m_A_isOdd l D h cI cZ S hI a1 ) (cwS 1 hB (gS k1_235 k1_236 k1_1 k1_237) rfl rfl rfl (by decide +kernel) ⟨Nat.le_of_ble_eq_true rfl, Nat.le_of_ble_eq_true rfl⟩) ⟨pu_blind, pu_pre hP hK hN⟩ rfl rfl hl.1 rfl (lv_room (Nat.le_of_ble_eq_true rfl)) dX0_isOfSide_9 ⟨Nat.le_of_ble_eq_true rfl, Nat.le_of_ble_eq_true rfl⟩) hP hS (fun H locs hP hS => ?_)
    refine lv_icmp_ne (tgt := 19) hx hb dX0_isOfSide_12 (by decide) (fun c_4 => ?_) (fun c_4 => ?_)
    · skip
      refine lv_iconst (v := 0) hx hb dX0_isOfSide_19 (by decide) ?_
      exact W.zret (v := 0) hx hb hr (by decide) (fun t ht hW => ⟨⟨0, (), rfl, (by rw [f_A_isOfSide, if_neg c_1, if_neg c_4]), trivial⟩, hS.F ht⟩) hS.2.2 dX0_isOfSide_20
    · skip
      refine lv_iconst (v := 1) hx hb dX0_isOfSide_15 (by decide) ?_
      refine lv_goto (tgt := 20) hx hb dX0_isOfSide_16 (by decide) ?_
      exact W.zret (v := 1) hx hb hr (by decide) (fun t ht hW => ⟨⟨1, (), rfl, (by rw [f_A_isOfSide, if_neg c_1, if_pos c_4]), trivial⟩, hS.F ht⟩) hS.2.2 dX0_isOfSide_20
set_option maxHeartbeats 4000000 in
set_option maxRecDepth 100000 in
theorem m_A_lowestOf (l : Launch) (D : va_G) (h : Nat → Nat) (cI cZ : ClassId) (S : BS) (hI : IV S) (a1 a2 : Int32) : PM l yX0_lowestOf wsX0_lowestOf { frames := 2, cells := 0, slots := 0, locals := 41 } D cI cZ h S [.int a1, .int a2] (f_A_lowestOf a1 a2) := by
  refine Met.ofW (cc := cX0_lowestOf) (maxL := 2) (ret := (some .int)) (by decide) rfl ?_
  intro p e s m args below meth c s₁ B hml hv
  obtain ⟨rfl, hP, hK, hN⟩ := hv
  have hx := B.exec
  have hb := B.bytes
  have hr := B.returns
  have hts := atoms_spec (ws := wsX0_lowestOf) B.pre
  have hB : ∀ w ∈ BW, w.before _ s = true := fun w h => hts w (List.mem_cons_of_mem _ h)
  have hown : s.vm.findClass RX0 = some m.cls := findClass_of_methodNamed B.named
  have hlocks := B.notSynchronized
  have hS : va_S (fun _ => False) s.heap s.heap [] := va_S.rf
  have hl := lv_entry ([.int a1, .int a2]) (n := 2) (Nat.le_of_ble_eq_true rfl)
  rw [lg_entry_eq]
  generalize (lg_sl ([.int a1, .int a2]) ++ List.replicate (2 - (lg_sl ([.int a1, .int a2])).length) Slot.unset).toArray = ls at hl ⊢
  have hl : lv_has ls 2 [(0, .int a1), (1, .int a2)] := hl
  refine lv_iload_n hx hb dX0_lowestOf_0 rfl (lv_at hl 0 rfl) ?_
  refine lv_iload_n hx hb dX0_lowestOf_1 rfl (lv_at hl 1 rfl) ?_
  refine pu_call (va_runS (As := [.int a1, .int a2]) (rest := []) ⟨hx, hb, hml, hown, hB⟩ (m_A_isOfSide l D h cI cZ S hI a1 a2 ) (cwS 2 hB (gS k1_232 k1_233 k1_1 k1_234) rfl rfl rfl (by decide +kernel) ⟨Nat.le_of_ble_eq_true rfl, Nat.le_of_ble_eq_true rfl⟩) ⟨pu_blind, pu_pre hP hK hN⟩ rfl rfl hl.1 rfl (lv_room (Nat.le_of_ble_eq_true rfl)) dX0_lowestOf_2 ⟨Nat.le_of_ble_eq_true rfl, Nat.le_of_ble_eq_true rfl⟩) hP hS (fun H locs hP hS => ?_)
  refine lv_if_eq (tgt := 12) hx hb dX0_lowestOf_5 (by decide) (fun c_2 => ?_) (fun c_2 => ?_)
  · skip
    refine lv_iload_n hx hb dX0_lowestOf_12 rfl (lv_at hl 1 rfl) ?_
    refine lv_iconst (v := 1) hx hb dX0_lowestOf_13 (by decide) ?_
    refine lv_iadd hx hb dX0_lowestOf_14 ?_
    exact W.iret (v := a2 + 1) hx hb hr (fun t ht hW => ⟨⟨a2 + 1, (), rfl, (by rw [f_A_lowestOf, if_pos c_2]), trivial⟩, hS.F ht⟩) hS.2.2 dX0_lowestOf_15
  · skip
    refine lv_iload_n hx hb dX0_lowestOf_8 rfl (lv_at hl 1 rfl) ?_
    refine lv_goto (tgt := 15) hx hb dX0_lowestOf_9 (by decide) ?_
    exact W.iret (v := a2) hx hb hr (fun t ht hW => ⟨⟨a2, (), rfl, (by rw [f_A_lowestOf, if_neg c_2]), trivial⟩, hS.F ht⟩) hS.2.2 dX0_lowestOf_15
set_option maxHeartbeats 4000000 in
set_option maxRecDepth 100000 in
theorem m_A_highestOf (l : Launch) (D : va_G) (h : Nat → Nat) (cI cZ : ClassId) (S : BS) (hI : IV S) (a1 a2 : Int32) : PM l yX0_highestOf wsX0_highestOf { frames := 2, cells := 0, slots := 0, locals := 41 } D cI cZ h S [.int a1, .int a2] (f_A_highestOf a1 a2) := by
  refine Met.ofW (cc := cX0_highestOf) (maxL := 2) (ret := (some .int)) (by decide) rfl ?_
  intro p e s m args below meth c s₁ B hml hv
  obtain ⟨rfl, hP, hK, hN⟩ := hv
  have hx := B.exec
  have hb := B.bytes
  have hr := B.returns
  have hts := atoms_spec (ws := wsX0_highestOf) B.pre
  have hB : ∀ w ∈ BW, w.before _ s = true := fun w h => hts w (List.mem_cons_of_mem _ h)
  have hown : s.vm.findClass RX0 = some m.cls := findClass_of_methodNamed B.named
  have hlocks := B.notSynchronized
  have hS : va_S (fun _ => False) s.heap s.heap [] := va_S.rf
  have hl := lv_entry ([.int a1, .int a2]) (n := 2) (Nat.le_of_ble_eq_true rfl)
  rw [lg_entry_eq]
  generalize (lg_sl ([.int a1, .int a2]) ++ List.replicate (2 - (lg_sl ([.int a1, .int a2])).length) Slot.unset).toArray = ls at hl ⊢
  have hl : lv_has ls 2 [(0, .int a1), (1, .int a2)] := hl
  refine lv_iload_n hx hb dX0_highestOf_0 rfl (lv_at hl 0 rfl) ?_
  refine lv_iload_n hx hb dX0_highestOf_1 rfl (lv_at hl 1 rfl) ?_
  refine pu_call (va_runS (As := [.int a1, .int a2]) (rest := []) ⟨hx, hb, hml, hown, hB⟩ (m_A_isOfSide l D h cI cZ S hI a1 a2 ) (cwS 2 hB (gS k1_232 k1_233 k1_1 k1_234) rfl rfl rfl (by decide +kernel) ⟨Nat.le_of_ble_eq_true rfl, Nat.le_of_ble_eq_true rfl⟩) ⟨pu_blind, pu_pre hP hK hN⟩ rfl rfl hl.1 rfl (lv_room (Nat.le_of_ble_eq_true rfl)) dX0_highestOf_2 ⟨Nat.le_of_ble_eq_true rfl, Nat.le_of_ble_eq_true rfl⟩) hP hS (fun H locs hP hS => ?_)
  refine lv_if_eq (tgt := 12) hx hb dX0_highestOf_5 (by decide) (fun c_2 => ?_) (fun c_2 => ?_)
  · skip
    refine lv_iload_n hx hb dX0_highestOf_12 rfl (lv_at hl 1 rfl) ?_
    refine lv_iconst (v := 1) hx hb dX0_highestOf_13 (by decide) ?_
    refine lv_isub hx hb dX0_highestOf_14 ?_
    exact W.iret (v := a2 - 1) hx hb hr (fun t ht hW => ⟨⟨a2 - 1, (), rfl, (by rw [f_A_highestOf, if_pos c_2]), trivial⟩, hS.F ht⟩) hS.2.2 dX0_highestOf_15
  · skip
    refine lv_iload_n hx hb dX0_highestOf_8 rfl (lv_at hl 1 rfl) ?_
    refine lv_goto (tgt := 15) hx hb dX0_highestOf_9 (by decide) ?_
    exact W.iret (v := a2) hx hb hr (fun t ht hW => ⟨⟨a2, (), rfl, (by rw [f_A_highestOf, if_neg c_2]), trivial⟩, hS.F ht⟩) hS.2.2 dX0_highestOf_15
set_option maxHeartbeats 4000000 in
set_option maxRecDepth 100000 in
theorem m_R_add (l : Launch) (D : va_G) (h : Nat → Nat) (cI cZ : ClassId) (S : BS) (hI : IV S) (a1 a2 a3 a4 : Int32) (hroom : (S 24 0).toInt < 80) (ha0 : 0 ≤ a1.toInt ∧ a1.toInt ≤ 31) (ha2 : 0 ≤ a3.toInt ∧ a3.toInt ≤ 999) (ha3 : 0 ≤ a4.toInt ∧ a4.toInt ≤ 999) : WM l yX3_add wsX3_add { frames := 3, cells := 0, slots := 0, locals := 62 } D cI cZ h S [.ref (h 3), .int a1, .int a2, .int a3, .int a4] (F_R_add S a1 a2 a3 a4) := by
  refine Met.ofW (cc := cX3_add) (maxL := 5) (ret := (some .int)) (by decide) rfl ?_
  intro p e s m args below meth c s₁ B hml hv
  obtain ⟨rfl, hP, hK, hN, hD0⟩ := hv
  have hx := B.exec
  have hb := B.bytes
  have hr := B.returns
  have hts := atoms_spec (ws := wsX3_add) B.pre
  have hB : ∀ w ∈ BW, w.before _ s = true := fun w h => hts w (List.mem_cons_of_mem _ h)
  have hown : s.vm.findClass RX3 = some m.cls := findClass_of_methodNamed B.named
  have hlocks := B.notSynchronized
  have hD := bD hD0
  have hS : va_S (bA h) s.heap s.heap [] := va_S.rf
  have hl := lv_entry ([.ref (h 3), .int a1, .int a2, .int a3, .int a4]) (n := 5) (Nat.le_of_ble_eq_true rfl)
  rw [lg_entry_eq]
  generalize (lg_sl ([.ref (h 3), .int a1, .int a2, .int a3, .int a4]) ++ List.replicate (5 - (lg_sl ([.ref (h 3), .int a1, .int a2, .int a3, .int a4])).length) Slot.unset).toArray = ls at hl ⊢
  have hl : lv_has ls 5 [(0, .ref (h 3)), (1, .int a1), (2, .int a2), (3, .int a3), (4, .int a4)] := hl
  refine lv_aload_n hx hb dX3_add_0 rfl (lv_at hl 0 rfl) ?_
  refine va_get (D := D) (ci := 3) (v := .ref (h 12)) (C := RX3) (T := TX3) (N := 6) hx hb hB inX3 hown hK hP 3 rfl rfl 0 (by decide) (hB _ k1_65) (fun _ h9 => h9) rfl dX3_add_1 ?_
  refine lv_aload_n hx hb dX3_add_4 rfl (lv_at hl 0 rfl) ?_
  refine va_get (D := D) (ci := 3) (v := .int (S 24 0)) (C := RX3) (T := TX3) (N := 6) hx hb hB inX3 hown hK hP 3 rfl rfl 5 (by decide) (hB _ k1_75) (fun _ h9 => h9) rfl dX3_add_5 ?_
  have b_1 : (0) ≤ (S 24 0).toInt ∧ (S 24 0).toInt ≤ 80 := iv_24 (S := S) hI
  refine lv_iload_n hx hb dX3_add_8 rfl (lv_at hl 1 rfl) ?_
  refine wst_6 (S := S) hx hb hK hP hD hS (vp_in_iff.mpr (by omega)) dX3_add_9 (fun H locs hP hD hS => ?_)
  have hI_2 : IV (upS 6 ((S 24 0).toNatClampNeg) a1 S) := iv_up (S := S) hI 6 ((S 24 0).toNatClampNeg) a1 (iv_one 6 (0) 31 rfl (by omega))
  refine lv_aload_n hx hb dX3_add_10 rfl (lv_at hl 0 rfl) ?_
  refine va_get (D := D) (ci := 3) (v := .ref (h 13)) (C := RX3) (T := TX3) (N := 6) hx hb hB inX3 hown hK hP 3 rfl rfl 1 (by decide) (hB _ k1_67) (fun _ h9 => h9) rfl dX3_add_11 ?_
  refine lv_aload_n hx hb dX3_add_14 rfl (lv_at hl 0 rfl) ?_
  refine va_get (D := D) (ci := 3) (v := .int (S 24 0)) (C := RX3) (T := TX3) (N := 6) hx hb hB inX3 hown hK hP 3 rfl rfl 5 (by decide) (hB _ k1_75) (fun _ h9 => h9) rfl dX3_add_15 ?_
  have b_3 : (0) ≤ (S 24 0).toInt ∧ (S 24 0).toInt ≤ 80 := iv_24 (S := upS 6 ((S 24 0).toNatClampNeg) a1 S) hI_2
  refine lv_iload_n hx hb dX3_add_18 rfl (lv_at hl 2 rfl) ?_
  refine wst_7 (S := upS 6 ((S 24 0).toNatClampNeg) a1 S) hx hb hK hP hD hS (vp_in_iff.mpr (by omega)) dX3_add_19 (fun H locs hP hD hS => ?_)
  have hI_4 : IV (upS 7 ((S 24 0).toNatClampNeg) a2 (upS 6 ((S 24 0).toNatClampNeg) a1 S)) := iv_up (S := upS 6 ((S 24 0).toNatClampNeg) a1 S) hI_2 7 ((S 24 0).toNatClampNeg) a2 (iv_none 7 rfl)
  refine lv_aload_n hx hb dX3_add_20 rfl (lv_at hl 0 rfl) ?_
  refine va_get (D := D) (ci := 3) (v := .ref (h 14)) (C := RX3) (T := TX3) (N := 6) hx hb hB inX3 hown hK hP 3 rfl rfl 2 (by decide) (hB _ k1_69) (fun _ h9 => h9) rfl dX3_add_21 ?_
  refine lv_aload_n hx hb dX3_add_24 rfl (lv_at hl 0 rfl) ?_
  refine va_get (D := D) (ci := 3) (v := .int (S 24 0)) (C := RX3) (T := TX3) (N := 6) hx hb hB inX3 hown hK hP 3 rfl rfl 5 (by decide) (hB _ k1_75) (fun _ h9 => h9) rfl dX3_add_25 ?_
  have b_5 : (0) ≤ (S 24 0).toInt ∧ (S 24 0).toInt ≤ 80 := iv_24 (S := upS 7 ((S 24 0).toNatClampNeg) a2 (upS 6 ((S 24 0).toNatClampNeg) a1 S)) hI_4
  refine lv_iload_n hx hb dX3_add_28 rfl (lv_at hl 2 rfl) ?_
  refine lv_iload_n hx hb dX3_add_29 rfl (lv_at hl 3 rfl) ?_
  refine pu_call (va_runSN (As := [.int a2, .int a3]) (rest := [.int (S 24 0), .ref (h 14)]) ⟨hx, hb, hml, hown, hB⟩ (m_A_lowestOf l D h cI cZ (upS 7 ((S 24 0).toNatClampNeg) a2 (upS 6 ((S 24 0).toNatClampNeg) a1 S)) hI_4 a2 a3 ) ⟨va_cnB 2 hB (gB k1_231) rfl rfl rfl (hN _ kn_0) (hB _ k1_1) (by decide +kernel) ⟨Nat.le_of_ble_eq_true rfl, Nat.le_of_ble_eq_true rfl⟩, hB _ k1_230, trivial⟩ ⟨pu_blind, pu_pre hP hK hN⟩ rfl rfl hl.1 rfl (lv_room (Nat.le_of_ble_eq_true rfl)) dX3_add_30 ⟨Nat.le_of_ble_eq_true rfl, Nat.le_of_ble_eq_true rfl⟩) hP hS (fun H locs hP hS => ?_)
  have k_6 := fc_A_lowestOf (a1 := a2) (a2 := a3) (by omega)
  refine wst_8 (S := upS 7 ((S 24 0).toNatClampNeg) a2 (upS 6 ((S 24 0).toNatClampNeg) a1 S)) hx hb hK hP hD hS (vp_in_iff.mpr (by omega)) dX3_add_33 (fun H locs hP hD hS => ?_)
  have hI_7 : IV (upS 8 ((S 24 0).toNatClampNeg) (f_A_lowestOf a2 a3) (upS 7 ((S 24 0).toNatClampNeg) a2 (upS 6 ((S 24 0).toNatClampNeg) a1 S))) := iv_up (S := upS 7 ((S 24 0).toNatClampNeg) a2 (upS 6 ((S 24 0).toNatClampNeg) a1 S)) hI_4 8 ((S 24 0).toNatClampNeg) (f_A_lowestOf a2 a3) (iv_one 8 (0) 1000 rfl (by omega))
  refine lv_aload_n hx hb dX3_add_34 rfl (lv_at hl 0 rfl) ?_
  refine va_get (D := D) (ci := 3) (v := .ref (h 15)) (C := RX3) (T := TX3) (N := 6) hx hb hB inX3 hown hK hP 3 rfl rfl 3 (by decide) (hB _ k1_71) (fun _ h9 => h9) rfl dX3_add_35 ?_
  refine lv_aload_n hx hb dX3_add_38 rfl (lv_at hl 0 rfl) ?_
  refine va_get (D := D) (ci := 3) (v := .int (S 24 0)) (C := RX3) (T := TX3) (N := 6) hx hb hB inX3 hown hK hP 3 rfl rfl 5 (by decide) (hB _ k1_75) (fun _ h9 => h9) rfl dX3_add_39 ?_
  have b_8 : (0) ≤ (S 24 0).toInt ∧ (S 24 0).toInt ≤ 80 := iv_24 (S := upS 8 ((S 24 0).toNatClampNeg) (f_A_lowestOf a2 a3) (upS 7 ((S 24 0).toNatClampNeg) a2 (upS 6 ((S 24 0).toNatClampNeg) a1 S))) hI_7
  refine lv_iload_n hx hb dX3_add_42 rfl (lv_at hl 2 rfl) ?_
  refine lv_iload hx hb dX3_add_43 (lv_at hl 4 rfl) ?_
  refine pu_call (va_runSN (As := [.int a2, .int a4]) (rest := [.int (S 24 0), .ref (h 15)]) ⟨hx, hb, hml, hown, hB⟩ (m_A_highestOf l D h cI cZ (upS 8 ((S 24 0).toNatClampNeg) (f_A_lowestOf a2 a3) (upS 7 ((S 24 0).toNatClampNeg) a2 (upS 6 ((S 24 0).toNatClampNeg) a1 S))) hI_7 a2 a4 ) ⟨va_cnB 2 hB (gB k2_0) rfl rfl rfl (hN _ kn_1) (hB _ k1_1) (by decide +kernel) ⟨Nat.le_of_ble_eq_true rfl, Nat.le_of_ble_eq_true rfl⟩, hB _ k1_239, trivial⟩ ⟨pu_blind, pu_pre hP hK hN⟩ rfl rfl hl.1 rfl (lv_room (Nat.le_of_ble_eq_true rfl)) dX3_add_45 ⟨Nat.le_of_ble_eq_true rfl, Nat.le_of_ble_eq_true rfl⟩) hP hS (fun H locs hP hS => ?_)
  have k_9 := fc_A_highestOf (a1 := a2) (a2 := a4) (by omega)
  refine wst_9 (S := upS 8 ((S 24 0).toNatClampNeg) (f_A_lowestOf a2 a3) (upS 7 ((S 24 0).toNatClampNeg) a2 (upS 6 ((S 24 0).toNatClampNeg) a1 S))) hx hb hK hP hD hS (vp_in_iff.mpr (by omega)) dX3_add_48 (fun H locs hP hD hS => ?_)
  have hI_10 : IV (upS 9 ((S 24 0).toNatClampNeg) (f_A_highestOf a2 a4) (upS 8 ((S 24 0).toNatClampNeg) (f_A_lowestOf a2 a3) (upS 7 ((S 24 0).toNatClampNeg) a2 (upS 6 ((S 24 0).toNatClampNeg) a1 S)))) := iv_up (S := upS 8 ((S 24 0).toNatClampNeg) (f_A_lowestOf a2 a3) (upS 7 ((S 24 0).toNatClampNeg) a2 (upS 6 ((S 24 0).toNatClampNeg) a1 S))) hI_7 9 ((S 24 0).toNatClampNeg) (f_A_highestOf a2 a4) (iv_one 9 (-1) 999 rfl (by omega))
  refine lv_aload_n hx hb dX3_add_49 rfl (lv_at hl 0 rfl) ?_
  refine va_get (D := D) (ci := 3) (v := .ref (h 16)) (C := RX3) (T := TX3) (N := 6) hx hb hB inX3 hown hK hP 3 rfl rfl 4 (by decide) (hB _ k1_73) (fun _ h9 => h9) rfl dX3_add_50 ?_
  refine lv_aload_n hx hb dX3_add_53 rfl (lv_at hl 0 rfl) ?_
  refine va_get (D := D) (ci := 3) (v := .int (S 24 0)) (C := RX3) (T := TX3) (N := 6) hx hb hB inX3 hown hK hP 3 rfl rfl 5 (by decide) (hB _ k1_75) (fun _ h9 => h9) rfl dX3_add_54 ?_
  have b_11 : (0) ≤ (S 24 0).toInt ∧ (S 24 0).toInt ≤ 80 := iv_24 (S := upS 9 ((S 24 0).toNatClampNeg) (f_A_highestOf a2 a4) (upS 8 ((S 24 0).toNatClampNeg) (f_A_lowestOf a2 a3) (upS 7 ((S 24 0).toNatClampNeg) a2 (upS 6 ((S 24 0).toNatClampNeg) a1 S)))) hI_10
  refine lv_iconst (v := 1) hx hb dX3_add_57 (by decide) ?_
  refine wst_10 (S := upS 9 ((S 24 0).toNatClampNeg) (f_A_highestOf a2 a4) (upS 8 ((S 24 0).toNatClampNeg) (f_A_lowestOf a2 a3) (upS 7 ((S 24 0).toNatClampNeg) a2 (upS 6 ((S 24 0).toNatClampNeg) a1 S)))) hx hb hK hP hD hS (vp_in_iff.mpr (by omega)) (by first | rfl | decide) dX3_add_58 (fun H locs hP hD hS => ?_)
  have hI_12 : IV (upS 10 ((S 24 0).toNatClampNeg) 1 (upS 9 ((S 24 0).toNatClampNeg) (f_A_highestOf a2 a4) (upS 8 ((S 24 0).toNatClampNeg) (f_A_lowestOf a2 a3) (upS 7 ((S 24 0).toNatClampNeg) a2 (upS 6 ((S 24 0).toNatClampNeg) a1 S))))) := iv_up (S := upS 9 ((S 24 0).toNatClampNeg) (f_A_highestOf a2 a4) (upS 8 ((S 24 0).toNatClampNeg) (f_A_lowestOf a2 a3) (upS 7 ((S 24 0).toNatClampNeg) a2 (upS 6 ((S 24 0).toNatClampNeg) a1 S)))) hI_10 10 ((S 24 0).toNatClampNeg) 1 (iv_one 10 (0) 1 rfl (by decide))
  refine lv_aload_n hx hb dX3_add_59 rfl (lv_at hl 0 rfl) ?_
  refine lv_dup hx hb dX3_add_60 rfl ?_
  refine va_get (D := D) (ci := 3) (v := .int (S 24 0)) (C := RX3) (T := TX3) (N := 6) hx hb hB inX3 hown hK hP 3 rfl rfl 5 (by decide) (hB _ k1_75) (fun _ h9 => h9) rfl dX3_add_61 ?_
  have b_13 : (0) ≤ (S 24 0).toInt ∧ (S 24 0).toInt ≤ 80 := iv_24 (S := upS 10 ((S 24 0).toNatClampNeg) 1 (upS 9 ((S 24 0).toNatClampNeg) (f_A_highestOf a2 a4) (upS 8 ((S 24 0).toNatClampNeg) (f_A_lowestOf a2 a3) (upS 7 ((S 24 0).toNatClampNeg) a2 (upS 6 ((S 24 0).toNatClampNeg) a1 S))))) hI_12
  refine lv_iconst (v := 1) hx hb dX3_add_64 (by decide) ?_
  refine lv_iadd hx hb dX3_add_65 ?_
  refine wpf_24 (S := upS 10 ((S 24 0).toNatClampNeg) 1 (upS 9 ((S 24 0).toNatClampNeg) (f_A_highestOf a2 a4) (upS 8 ((S 24 0).toNatClampNeg) (f_A_lowestOf a2 a3) (upS 7 ((S 24 0).toNatClampNeg) a2 (upS 6 ((S 24 0).toNatClampNeg) a1 S))))) hx hb hB hown hK hP hD hS (hB _ k1_75) dX3_add_66 (fun H locs hP hD hS => ?_)
  have k_15 := i32_inc (x := (S 24 0)) (by omega) (by omega)
  have hI_14 : IV (upS 24 0 ((S 24 0) + 1) (upS 10 ((S 24 0).toNatClampNeg) 1 (upS 9 ((S 24 0).toNatClampNeg) (f_A_highestOf a2 a4) (upS 8 ((S 24 0).toNatClampNeg) (f_A_lowestOf a2 a3) (upS 7 ((S 24 0).toNatClampNeg) a2 (upS 6 ((S 24 0).toNatClampNeg) a1 S)))))) := iv_up (S := upS 10 ((S 24 0).toNatClampNeg) 1 (upS 9 ((S 24 0).toNatClampNeg) (f_A_highestOf a2 a4) (upS 8 ((S 24 0).toNatClampNeg) (f_A_lowestOf a2 a3) (upS 7 ((S 24 0).toNatClampNeg) a2 (upS 6 ((S 24 0).toNatClampNeg) a1 S))))) hI_12 24 0 ((S 24 0) + 1) (iv_one 24 (0) 80 rfl (by omega))
  refine lv_aload_n hx hb dX3_add_69 rfl (lv_at hl 0 rfl) ?_
  refine va_get (D := D) (ci := 3) (v := .int ((S 24 0) + 1)) (C := RX3) (T := TX3) (N := 6) hx hb hB inX3 hown hK hP 3 rfl rfl 5 (by decide) (hB _ k1_75) (fun _ h9 => h9) rfl dX3_add_70 ?_
  have b_16 : (0) ≤ ((S 24 0) + 1).toInt ∧ ((S 24 0) + 1).toInt ≤ 80 := iv_24 (S := upS 24 0 ((S 24 0) + 1) (upS 10 ((S 24 0).toNatClampNeg) 1 (upS 9 ((S 24 0).toNatClampNeg) (f_A_highestOf a2 a4) (upS 8 ((S 24 0).toNatClampNeg) (f_A_lowestOf a2 a3) (upS 7 ((S 24 0).toNatClampNeg) a2 (upS 6 ((S 24 0).toNatClampNeg) a1 S)))))) hI_14
  refine lv_iconst (v := 1) hx hb dX3_add_73 (by decide) ?_
  refine lv_isub hx hb dX3_add_74 ?_
  exact W.iret (v := ((S 24 0) + 1) - 1) hx hb hr (fun t ht hW => ⟨⟨((S 24 0) + 1) - 1, upS 24 0 ((S 24 0) + 1) (upS 10 ((S 24 0).toNatClampNeg) 1 (upS 9 ((S 24 0).toNatClampNeg) (f_A_highestOf a2 a4) (upS 8 ((S 24 0).toNatClampNeg) (f_A_lowestOf a2 a3) (upS 7 ((S 24 0).toNatClampNeg) a2 (upS 6 ((S 24 0).toNatClampNeg) a1 S))))), rfl, ⟨(by rw [F_R_add]), hI_14⟩, by show va_P D vwCl _ t.heap; rw [ht]; exact hP⟩, hS.F ht⟩) hS.2.2 dX3_add_75
