set_option maxHeartbeats 4000000 in
set_option maxRecDepth 100000 in
theorem m_Y_end (l : Launch) (D : va_G) (h : Nat → Nat) (cI cZ : ClassId) (S : BS) (hI : IV S) (a1 a2 : Int32) (ha0 : 0 ≤ a1.toInt ∧ a1.toInt ≤ 511) : VM l yX5_end wsX5_end { frames := 0, cells := 0, slots := 0, locals := 0 } D cI cZ h S [.ref (h 5), .int a1, .int a2] (F_Y_end S a1 a2) := by
  refine Met.ofW (cc := cX5_end) (maxL := 3) (ret := none) (by decide) rfl ?_
  intro p e s m args below meth c s₁ B hml hv
  obtain ⟨rfl, hP, hK, hN, hD0⟩ := hv
  have hx := B.exec
  have hb := B.bytes
  have hr := B.returns
  have hts := atoms_spec (ws := wsX5_end) B.pre
  have hB : ∀ w ∈ BW, w.before _ s = true := fun w h => hts w (List.mem_cons_of_mem _ h)
  have hown : s.vm.findClass RX5 = some m.cls := findClass_of_methodNamed B.named
  have hlocks := B.notSynchronized
  have hD := bD hD0
  have hS : va_S (bA h) s.heap s.heap [] := va_S.rf
  have hl := lv_entry ([.ref (h 5), .int a1, .int a2]) (n := 3) (Nat.le_of_ble_eq_true rfl)
  rw [lg_entry_eq]
  generalize (lg_sl ([.ref (h 5), .int a1, .int a2]) ++ List.replicate (3 - (lg_sl ([.ref (h 5), .int a1, .int a2])).length) Slot.unset).toArray = ls at hl ⊢
  have hl : lv_has ls 3 [(0, .ref (h 5)), (1, .int a1), (2, .int a2)] := hl
  refine lv_aload_n hx hb dX5_end_0 rfl (lv_at hl 0 rfl) ?_
  refine va_get (D := D) (ci := 5) (v := .ref (h 25)) (C := RX5) (T := TX5) (N := 6) hx hb hB inX5 hown hK hP 5 rfl rfl 3 (by decide) (hB _ k1_131) (fun _ h9 => h9) rfl dX5_end_1 ?_
  refine lv_iload_n hx hb dX5_end_4 rfl (lv_at hl 1 rfl) ?_
  refine lv_iload_n hx hb dX5_end_5 rfl (lv_at hl 2 rfl) ?_
  refine va_iast (f := S 19) hx hb hK hP hD hS 25 0 rfl rfl (vp_in_iff.mpr (by omega)) dX5_end_6 (fun H locs hP hD hS => ?_)
  have hP : va_P D vwCl (wB h cI cZ (upS S 19 a1.toNatClampNeg a2)) H := hP
  have hD : va_D (bA h) (wB h cI cZ (upS S 19 a1.toNatClampNeg a2)) := hD
  have hI_1 : IV (upS S 19 a1.toNatClampNeg a2) := iv_up (S := S) hI 19 a1.toNatClampNeg a2 (iv_none 19 rfl)
  exact W.vret hx hb hr (fun t ht hW => ⟨⟨upS S 19 a1.toNatClampNeg a2, rfl, ⟨(by rw [F_Y_end]), hI_1⟩, by rw [ht]; exact hP⟩, hS.F ht⟩) hS.2.2 dX5_end_7
set_option maxHeartbeats 4000000 in
set_option maxRecDepth 100000 in
theorem m_Y_holdsOn (l : Launch) (D : va_G) (h : Nat → Nat) (cI cZ : ClassId) (S : BS) (hI : IV S) (a1 a2 : Int32) (ha0 : 0 ≤ a1.toInt ∧ a1.toInt ≤ 511) : PM l yX5_holdsOn wsX5_holdsOn { frames := 0, cells := 0, slots := 0, locals := 0 } D cI cZ h S [.ref (h 5), .int a1, .int a2] (f_Y_holdsOn S a1 a2) := by
  refine Met.ofW (cc := cX5_holdsOn) (maxL := 3) (ret := (some .boolean)) (by decide) rfl ?_
  intro p e s m args below meth c s₁ B hml hv
  obtain ⟨rfl, hP, hK, hN⟩ := hv
  have hx := B.exec
  have hb := B.bytes
  have hr := B.returns
  have hts := atoms_spec (ws := wsX5_holdsOn) B.pre
  have hB : ∀ w ∈ BW, w.before _ s = true := fun w h => hts w (List.mem_cons_of_mem _ h)
  have hown : s.vm.findClass RX5 = some m.cls := findClass_of_methodNamed B.named
  have hlocks := B.notSynchronized
  have hS : va_S (fun _ => False) s.heap s.heap [] := va_S.rf
  have hl := lv_entry ([.ref (h 5), .int a1, .int a2]) (n := 3) (Nat.le_of_ble_eq_true rfl)
  rw [lg_entry_eq]
  generalize (lg_sl ([.ref (h 5), .int a1, .int a2]) ++ List.replicate (3 - (lg_sl ([.ref (h 5), .int a1, .int a2])).length) Slot.unset).toArray = ls at hl ⊢
  have hl : lv_has ls 3 [(0, .ref (h 5)), (1, .int a1), (2, .int a2)] := hl
  refine lv_aload_n hx hb dX5_holdsOn_0 rfl (lv_at hl 0 rfl) ?_
  refine va_get (D := D) (ci := 5) (v := .ref (h 24)) (C := RX5) (T := TX5) (N := 6) hx hb hB inX5 hown hK hP 5 rfl rfl 2 (by decide) (hB _ k1_130) (fun _ h9 => h9) rfl dX5_holdsOn_1 ?_
  refine lv_iload_n hx hb dX5_holdsOn_4 rfl (lv_at hl 1 rfl) ?_
  refine va_iald (f := S 18) hx hb hK hP 24 0 rfl rfl (vp_in_iff.mpr (by omega)) dX5_holdsOn_5 ?_
  refine lv_iload_n hx hb dX5_holdsOn_6 rfl (lv_at hl 2 rfl) ?_
  refine lv_icmp_gt (tgt := 24) hx hb dX5_holdsOn_7 (by decide) (fun c_1 => ?_) (fun c_1 => ?_)
  · skip
    have t_1 := Int32.lt_iff_toInt_lt.mp c_1
    refine lv_iconst (v := 0) hx hb dX5_holdsOn_24 (by decide) ?_
    exact W.zret (v := 0) hx hb hr (by decide) (fun t ht hW => ⟨⟨0, (), rfl, (by rw [f_Y_holdsOn, if_pos c_1]), trivial⟩, hS.F ht⟩) hS.2.2 dX5_holdsOn_25
  · skip
    have t_1 := mt Int32.lt_iff_toInt_lt.mpr c_1
    refine lv_iload_n hx hb dX5_holdsOn_10 rfl (lv_at hl 2 rfl) ?_
    refine lv_aload_n hx hb dX5_holdsOn_11 rfl (lv_at hl 0 rfl) ?_
    refine va_get (D := D) (ci := 5) (v := .ref (h 25)) (C := RX5) (T := TX5) (N := 6) hx hb hB inX5 hown hK hP 5 rfl rfl 3 (by decide) (hB _ k1_131) (fun _ h9 => h9) rfl dX5_holdsOn_12 ?_
    refine lv_iload_n hx hb dX5_holdsOn_15 rfl (lv_at hl 1 rfl) ?_
    refine va_iald (f := S 19) hx hb hK hP 25 0 rfl rfl (vp_in_iff.mpr (by omega)) dX5_holdsOn_16 ?_
    refine lv_icmp_ge (tgt := 24) hx hb dX5_holdsOn_17 (by decide) (fun c_2 => ?_) (fun c_2 => ?_)
    · skip
      have t_2 := Int32.le_iff_toInt_le.mp c_2
      refine lv_iconst (v := 0) hx hb dX5_holdsOn_24 (by decide) ?_
      exact W.zret (v := 0) hx hb hr (by decide) (fun t ht hW => ⟨⟨0, (), rfl, (by rw [f_Y_holdsOn, if_neg c_1, if_pos c_2]), trivial⟩, hS.F ht⟩) hS.2.2 dX5_holdsOn_25
    · skip
      have t_2 := mt Int32.le_iff_toInt_le.mpr c_2
      refine lv_iconst (v := 1) hx hb dX5_holdsOn_20 (by decide) ?_
      refine lv_goto (tgt := 25) hx hb dX5_holdsOn_21 (by decide) ?_
      exact W.zret (v := 1) hx hb hr (by decide) (fun t ht hW => ⟨⟨1, (), rfl, (by rw [f_Y_holdsOn, if_neg c_1, if_neg c_2]), trivial⟩, hS.F ht⟩) hS.2.2 dX5_holdsOn_25
set_option maxHeartbeats 4000000 in
set_option maxRecDepth 100000 in
theorem m_Y_ofPointOn (l : Launch) (D : va_G) (h : Nat → Nat) (cI cZ : ClassId) (S : BS) (hI : IV S) (a1 a2 : Int32) : PM l yX5_ofPointOn wsX5_ofPointOn { frames := 1, cells := 0, slots := 0, locals := 22 } D cI cZ h S [.ref (h 5), .int a1, .int a2] (f_Y_ofPointOn S a1 a2) := by
  refine Met.ofW (cc := cX5_ofPointOn) (maxL := 4) (ret := (some .int)) (by decide) rfl ?_
  intro p e s m args below meth c s₁ B hml hv
  obtain ⟨rfl, hP, hK, hN⟩ := hv
  have hx := B.exec
  have hb := B.bytes
  have hr := B.returns
  have hts := atoms_spec (ws := wsX5_ofPointOn) B.pre
  have hB : ∀ w ∈ BW, w.before _ s = true := fun w h => hts w (List.mem_cons_of_mem _ h)
  have hown : s.vm.findClass RX5 = some m.cls := findClass_of_methodNamed B.named
  have hlocks := B.notSynchronized
  have hS : va_S (fun _ => False) s.heap s.heap [] := va_S.rf
  have hl := lv_entry ([.ref (h 5), .int a1, .int a2]) (n := 4) (Nat.le_of_ble_eq_true rfl)
  rw [lg_entry_eq]
  generalize (lg_sl ([.ref (h 5), .int a1, .int a2]) ++ List.replicate (4 - (lg_sl ([.ref (h 5), .int a1, .int a2])).length) Slot.unset).toArray = ls at hl ⊢
  have hl : lv_has ls 4 [(0, .ref (h 5)), (1, .int a1), (2, .int a2)] := hl
  refine lv_iconst (v := 0) hx hb dX5_ofPointOn_0 (by decide) ?_
  refine lv_istore_n (lv' := [(3, .int 0), (0, .ref (h 5)), (1, .int a1), (2, .int a2)]) hx hb dX5_ofPointOn_1 rfl hl (by decide) rfl (fun ls hl => ?_)
  have loop2 : ∀ (n : Nat) (x3 : Int32) (H : Heap) (locs : List Loc) (ls : Array Slot), (0 ≤ x3.toInt ∧ x3.toInt ≤ (S 26 0 : Int32).toInt ∧ (S 26 0 : Int32).toInt - x3.toInt < (n : Int) ∧ True) → l_Y_ofPointOn_2 S a1 a2 n x3 = f_Y_ofPointOn S a1 a2 → va_P D vwCl (wB h cI cZ S) H → va_S (fun _ => False) s.heap H locs → lv_has ls 4 [(0, .ref (h 5)), (1, .int a1), (2, .int a2), (3, .int x3)] → W p l e (headSpec wsX5_ofPointOn { frames := 1, cells := 0, slots := 0, locals := 22 }).room s m ([.ref (h 5), .int a1, .int a2]).toArray below meth c H locs 0 0 (MQ below (PQ (f_Y_ofPointOn S a1 a2)) ([.ref (h 5), .int a1, .int a2]).toArray s 0 0 (fun _ => False)) (F0 m 2 ls []) := by
    intro n
    induction n with
    | zero =>
      intro x3 H locs ls hinv he hP hS hl
      obtain ⟨h0, hle, hm, hex⟩ := hinv
      exact absurd hm (by omega)
    | succ n ih =>
      intro x3 H locs ls hinv he hP hS hl
      obtain ⟨h0, hle, hm, hex⟩ := hinv
      have hB := iv_26 hI
      refine lv_iload_n hx hb dX5_ofPointOn_2 rfl (lv_at hl 3 rfl) ?_
      refine lv_aload_n hx hb dX5_ofPointOn_3 rfl (lv_at hl 0 rfl) ?_
      refine va_get (D := D) (ci := 5) (v := .int (S 26 0)) (C := RX5) (T := TX5) (N := 6) hx hb hB inX5 hown hK hP 5 rfl rfl 5 (by decide) (hB _ k1_134) (fun _ h9 => h9) rfl dX5_ofPointOn_4 ?_
      have b_1 : (0) ≤ (S 26 0).toInt ∧ (S 26 0).toInt ≤ 512 := iv_26 hI
      refine lv_icmp_ge (tgt := 37) hx hb dX5_ofPointOn_7 (by decide) (fun c_2 => ?_) (fun c_2 => ?_)
      · skip
        have t_2 := Int32.le_iff_toInt_le.mp c_2
        refine lv_iconst (v := (-1)) hx hb dX5_ofPointOn_37 (by decide) ?_
        exact W.iret (v := (-1)) hx hb hr (fun t ht hW => ⟨⟨(-1), (), rfl, (by rw [← he, l_Y_ofPointOn_2, if_pos c_2]), trivial⟩, hS.F ht⟩) hS.2.2 dX5_ofPointOn_38
      · skip
        have t_2 := mt Int32.le_iff_toInt_le.mpr c_2
        refine lv_aload_n hx hb dX5_ofPointOn_10 rfl (lv_at hl 0 rfl) ?_
        refine va_get (D := D) (ci := 5) (v := .ref (h 22)) (C := RX5) (T := TX5) (N := 6) hx hb hB inX5 hown hK hP 5 rfl rfl 0 (by decide) (hB _ k1_126) (fun _ h9 => h9) rfl dX5_ofPointOn_11 ?_
        refine lv_iload_n hx hb dX5_ofPointOn_14 rfl (lv_at hl 3 rfl) ?_
        refine va_iald (f := S 16) hx hb hK hP 22 0 rfl rfl (vp_in_iff.mpr (by omega)) dX5_ofPointOn_15 ?_
        have b_3 : (0) ≤ (S 16 x3.toNatClampNeg).toInt ∧ (S 16 x3.toNatClampNeg).toInt ≤ 119 := iv_16 hI x3.toNatClampNeg
        refine lv_iload_n hx hb dX5_ofPointOn_16 rfl (lv_at hl 1 rfl) ?_
        refine lv_icmp_ne (tgt := 31) hx hb dX5_ofPointOn_17 (by decide) (fun c_4 => ?_) (fun c_4 => ?_)
        · skip
          refine lv_iinc (v := x3 + 1) (lv' := [(3, .int (x3 + 1)), (0, .ref (h 5)), (1, .int a1), (2, .int a2)]) hx hb dX5_ofPointOn_31 hl (k := 3) rfl rfl (by decide) rfl (fun ls hl => ?_)
          refine lv_goto (tgt := 2) hx hb dX5_ofPointOn_34 (by decide) ?_
          have hinc := i32_inc (x := x3) h0 (by omega)
          exact ih (x3 + 1) _ _ _ ⟨by omega, by omega, by omega, trivial⟩ (by rw [← he, l_Y_ofPointOn_2, if_neg c_2, if_neg c_4]) hP hS (lv_sub hl [1, 2, 3, 0] rfl)
        · skip
          refine lv_aload_n hx hb dX5_ofPointOn_20 rfl (lv_at hl 0 rfl) ?_
          refine lv_iload_n hx hb dX5_ofPointOn_21 rfl (lv_at hl 3 rfl) ?_
          refine lv_iload_n hx hb dX5_ofPointOn_22 rfl (lv_at hl 2 rfl) ?_
          refine pu_call (va_runV (As := [.int x3, .int a2]) (rest := []) ⟨hx, hb, hml, hown, hB⟩ (m_Y_holdsOn l D h cI cZ S hI x3 a2 (by omega)) (cwV 2 hB (gV k2_223 k2_166 ks_62 k1_6 k2_167) rfl rfl rfl (by decide +kernel) ⟨Nat.le_of_ble_eq_true rfl, Nat.le_of_ble_eq_true rfl⟩) ⟨pu_blind, va_recv hK hP (ci := 5) (q0 := 5) rfl rfl, pu_pre hP hK hN⟩ rfl rfl hl.1 rfl (lv_room (Nat.le_of_ble_eq_true rfl)) dX5_ofPointOn_23 ⟨Nat.le_of_ble_eq_true rfl, Nat.le_of_ble_eq_true rfl⟩) hP hS (fun H locs hP hS => ?_)
          refine lv_if_eq (tgt := 31) hx hb dX5_ofPointOn_26 (by decide) (fun c_6 => ?_) (fun c_6 => ?_)
          · skip
            refine lv_iinc (v := x3 + 1) (lv' := [(3, .int (x3 + 1)), (0, .ref (h 5)), (1, .int a1), (2, .int a2)]) hx hb dX5_ofPointOn_31 hl (k := 3) rfl rfl (by decide) rfl (fun ls hl => ?_)
            refine lv_goto (tgt := 2) hx hb dX5_ofPointOn_34 (by decide) ?_
            have hinc := i32_inc (x := x3) h0 (by omega)
            exact ih (x3 + 1) _ _ _ ⟨by omega, by omega, by omega, trivial⟩ (by rw [← he, l_Y_ofPointOn_2, if_neg c_2, if_pos c_4, if_pos c_6]) hP hS (lv_sub hl [1, 2, 3, 0] rfl)
          · skip
            refine lv_iload_n hx hb dX5_ofPointOn_29 rfl (lv_at hl 3 rfl) ?_
            exact W.iret (v := x3) hx hb hr (fun t ht hW => ⟨⟨x3, (), rfl, (by rw [← he, l_Y_ofPointOn_2, if_neg c_2, if_pos c_4, if_neg c_6]), trivial⟩, hS.F ht⟩) hS.2.2 dX5_ofPointOn_30
  have hB9 := iv_26 hI
  have z_0 : ((0) : Int32).toInt = (0) := by decide
  exact loop2 600 0 _ _ _ ⟨by omega, by omega, by omega, trivial⟩ (by rw [f_Y_ofPointOn]) hP hS (lv_sub hl [1, 2, 3, 0] rfl)
set_option maxHeartbeats 4000000 in
set_option maxRecDepth 100000 in
theorem m_Y_isLeftShortlyBefore (l : Launch) (D : va_G) (h : Nat → Nat) (cI cZ : ClassId) (S : BS) (hI : IV S) (a1 a2 : Int32) (ha0 : 0 ≤ a1.toInt ∧ a1.toInt ≤ 511) : PM l yX5_isLeftShortlyBefore wsX5_isLeftShortlyBefore { frames := 0, cells := 0, slots := 0, locals := 0 } D cI cZ h S [.ref (h 5), .int a1, .int a2] (f_Y_isLeftShortlyBefore S a1 a2) := by
  refine Met.ofW (cc := cX5_isLeftShortlyBefore) (maxL := 3) (ret := (some .boolean)) (by decide) rfl ?_
  intro p e s m args below meth c s₁ B hml hv
  obtain ⟨rfl, hP, hK, hN⟩ := hv
  have hx := B.exec
  have hb := B.bytes
  have hr := B.returns
  have hts := atoms_spec (ws := wsX5_isLeftShortlyBefore) B.pre
  have hB : ∀ w ∈ BW, w.before _ s = true := fun w h => hts w (List.mem_cons_of_mem _ h)
  have hown : s.vm.findClass RX5 = some m.cls := findClass_of_methodNamed B.named
  have hlocks := B.notSynchronized
  have hS : va_S (fun _ => False) s.heap s.heap [] := va_S.rf
  have hl := lv_entry ([.ref (h 5), .int a1, .int a2]) (n := 3) (Nat.le_of_ble_eq_true rfl)
  rw [lg_entry_eq]
  generalize (lg_sl ([.ref (h 5), .int a1, .int a2]) ++ List.replicate (3 - (lg_sl ([.ref (h 5), .int a1, .int a2])).length) Slot.unset).toArray = ls at hl ⊢
  have hl : lv_has ls 3 [(0, .ref (h 5)), (1, .int a1), (2, .int a2)] := hl
  refine lv_aload_n hx hb dX5_isLeftShortlyBefore_0 rfl (lv_at hl 0 rfl) ?_
  refine va_get (D := D) (ci := 5) (v := .ref (h 26)) (C := RX5) (T := TX5) (N := 6) hx hb hB inX5 hown hK hP 5 rfl rfl 4 (by decide) (hB _ k1_132) (fun _ h9 => h9) rfl dX5_isLeftShortlyBefore_1 ?_
  refine lv_iload_n hx hb dX5_isLeftShortlyBefore_4 rfl (lv_at hl 1 rfl) ?_
  refine va_zald (f := S 20) hx hb hK hP 26 1 rfl rfl (vp_in_iff.mpr (by omega)) dX5_isLeftShortlyBefore_5 ?_
  have b_1 : (0) ≤ (S 20 a1.toNatClampNeg).toInt ∧ (S 20 a1.toNatClampNeg).toInt ≤ 1 := iv_20 hI a1.toNatClampNeg
  refine lv_if_eq (tgt := 37) hx hb dX5_isLeftShortlyBefore_6 (by decide) (fun c_2 => ?_) (fun c_2 => ?_)
  · skip
    have z_0 : ((0) : Int32).toInt = (0) := by decide
    have t_2 := Int32.toInt_inj.symm.mp c_2
    refine lv_iconst (v := 0) hx hb dX5_isLeftShortlyBefore_37 (by decide) ?_
    exact W.zret (v := 0) hx hb hr (by decide) (fun t ht hW => ⟨⟨0, (), rfl, (by rw [f_Y_isLeftShortlyBefore, if_pos c_2]), trivial⟩, hS.F ht⟩) hS.2.2 dX5_isLeftShortlyBefore_38
  · skip
    have z_0 : ((0) : Int32).toInt = (0) := by decide
    have t_2 := mt Int32.toInt_inj.mp c_2
    refine lv_aload_n hx hb dX5_isLeftShortlyBefore_9 rfl (lv_at hl 0 rfl) ?_
    refine va_get (D := D) (ci := 5) (v := .ref (h 25)) (C := RX5) (T := TX5) (N := 6) hx hb hB inX5 hown hK hP 5 rfl rfl 3 (by decide) (hB _ k1_131) (fun _ h9 => h9) rfl dX5_isLeftShortlyBefore_10 ?_
    refine lv_iload_n hx hb dX5_isLeftShortlyBefore_13 rfl (lv_at hl 1 rfl) ?_
    refine va_iald (f := S 19) hx hb hK hP 25 0 rfl rfl (vp_in_iff.mpr (by omega)) dX5_isLeftShortlyBefore_14 ?_
    refine lv_iload_n hx hb dX5_isLeftShortlyBefore_15 rfl (lv_at hl 2 rfl) ?_
    refine lv_icmp_gt (tgt := 37) hx hb dX5_isLeftShortlyBefore_16 (by decide) (fun c_3 => ?_) (fun c_3 => ?_)
    · skip
      have t_3 := Int32.lt_iff_toInt_lt.mp c_3
      refine lv_iconst (v := 0) hx hb dX5_isLeftShortlyBefore_37 (by decide) ?_
      exact W.zret (v := 0) hx hb hr (by decide) (fun t ht hW => ⟨⟨0, (), rfl, (by rw [f_Y_isLeftShortlyBefore, if_neg c_2, if_pos c_3]), trivial⟩, hS.F ht⟩) hS.2.2 dX5_isLeftShortlyBefore_38
    · skip
      have t_3 := mt Int32.lt_iff_toInt_lt.mpr c_3
      refine lv_iload_n hx hb dX5_isLeftShortlyBefore_19 rfl (lv_at hl 2 rfl) ?_
      refine lv_aload_n hx hb dX5_isLeftShortlyBefore_20 rfl (lv_at hl 0 rfl) ?_
      refine va_get (D := D) (ci := 5) (v := .ref (h 25)) (C := RX5) (T := TX5) (N := 6) hx hb hB inX5 hown hK hP 5 rfl rfl 3 (by decide) (hB _ k1_131) (fun _ h9 => h9) rfl dX5_isLeftShortlyBefore_21 ?_
      refine lv_iload_n hx hb dX5_isLeftShortlyBefore_24 rfl (lv_at hl 1 rfl) ?_
      refine va_iald (f := S 19) hx hb hK hP 25 0 rfl rfl (vp_in_iff.mpr (by omega)) dX5_isLeftShortlyBefore_25 ?_
      refine lv_isub hx hb dX5_isLeftShortlyBefore_26 ?_
      refine lv_sipush (v := 180) hx hb dX5_isLeftShortlyBefore_27 (by decide) ?_
      refine lv_icmp_ge (tgt := 37) hx hb dX5_isLeftShortlyBefore_30 (by decide) (fun c_4 => ?_) (fun c_4 => ?_)
      · skip
        have z_180 : ((180) : Int32).toInt = (180) := by decide
        have t_4 := Int32.le_iff_toInt_le.mp c_4
        refine lv_iconst (v := 0) hx hb dX5_isLeftShortlyBefore_37 (by decide) ?_
        exact W.zret (v := 0) hx hb hr (by decide) (fun t ht hW => ⟨⟨0, (), rfl, (by rw [f_Y_isLeftShortlyBefore, if_neg c_2, if_neg c_3, if_pos c_4]), trivial⟩, hS.F ht⟩) hS.2.2 dX5_isLeftShortlyBefore_38
      · skip
        have z_180 : ((180) : Int32).toInt = (180) := by decide
        have t_4 := mt Int32.le_iff_toInt_le.mpr c_4
        refine lv_iconst (v := 1) hx hb dX5_isLeftShortlyBefore_33 (by decide) ?_
        refine lv_goto (tgt := 38) hx hb dX5_isLeftShortlyBefore_34 (by decide) ?_
        exact W.zret (v := 1) hx hb hr (by decide) (fun t ht hW => ⟨⟨1, (), rfl, (by rw [f_Y_isLeftShortlyBefore, if_neg c_2, if_neg c_3, if_neg c_4]), trivial⟩, hS.F ht⟩) hS.2.2 dX5_isLeftShortlyBefore_38
set_option maxHeartbeats 4000000 in
set_option maxRecDepth 100000 in
theorem m_Y_isLeftLater (l : Launch) (D : va_G) (h : Nat → Nat) (cI cZ : ClassId) (S : BS) (hI : IV S) (a1 a2 : Int32) (ha0 : 0 ≤ a1.toInt ∧ a1.toInt ≤ 511) (ha1 : 0 ≤ a2.toInt ∧ a2.toInt ≤ 511) : PM l yX5_isLeftLater wsX5_isLeftLater { frames := 0, cells := 0, slots := 0, locals := 0 } D cI cZ h S [.ref (h 5), .int a1, .int a2] (f_Y_isLeftLater S a1 a2) := by
  refine Met.ofW (cc := cX5_isLeftLater) (maxL := 3) (ret := (some .boolean)) (by decide) rfl ?_
  intro p e s m args below meth c s₁ B hml hv
  obtain ⟨rfl, hP, hK, hN⟩ := hv
  have hx := B.exec
  have hb := B.bytes
  have hr := B.returns
  have hts := atoms_spec (ws := wsX5_isLeftLater) B.pre
  have hB : ∀ w ∈ BW, w.before _ s = true := fun w h => hts w (List.mem_cons_of_mem _ h)
  have hown : s.vm.findClass RX5 = some m.cls := findClass_of_methodNamed B.named
  have hlocks := B.notSynchronized
  have hS : va_S (fun _ => False) s.heap s.heap [] := va_S.rf
  have hl := lv_entry ([.ref (h 5), .int a1, .int a2]) (n := 3) (Nat.le_of_ble_eq_true rfl)
  rw [lg_entry_eq]
  generalize (lg_sl ([.ref (h 5), .int a1, .int a2]) ++ List.replicate (3 - (lg_sl ([.ref (h 5), .int a1, .int a2])).length) Slot.unset).toArray = ls at hl ⊢
  have hl : lv_has ls 3 [(0, .ref (h 5)), (1, .int a1), (2, .int a2)] := hl
  refine lv_aload_n hx hb dX5_isLeftLater_0 rfl (lv_at hl 0 rfl) ?_
  refine va_get (D := D) (ci := 5) (v := .ref (h 25)) (C := RX5) (T := TX5) (N := 6) hx hb hB inX5 hown hK hP 5 rfl rfl 3 (by decide) (hB _ k1_131) (fun _ h9 => h9) rfl dX5_isLeftLater_1 ?_
  refine lv_iload_n hx hb dX5_isLeftLater_4 rfl (lv_at hl 1 rfl) ?_
  refine va_iald (f := S 19) hx hb hK hP 25 0 rfl rfl (vp_in_iff.mpr (by omega)) dX5_isLeftLater_5 ?_
  refine lv_aload_n hx hb dX5_isLeftLater_6 rfl (lv_at hl 0 rfl) ?_
  refine va_get (D := D) (ci := 5) (v := .ref (h 25)) (C := RX5) (T := TX5) (N := 6) hx hb hB inX5 hown hK hP 5 rfl rfl 3 (by decide) (hB _ k1_131) (fun _ h9 => h9) rfl dX5_isLeftLater_7 ?_
  refine lv_iload_n hx hb dX5_isLeftLater_10 rfl (lv_at hl 2 rfl) ?_
  refine va_iald (f := S 19) hx hb hK hP 25 0 rfl rfl (vp_in_iff.mpr (by omega)) dX5_isLeftLater_11 ?_
  refine lv_icmp_eq (tgt := 36) hx hb dX5_isLeftLater_12 (by decide) (fun c_1 => ?_) (fun c_1 => ?_)
  · skip
    refine lv_aload_n hx hb dX5_isLeftLater_36 rfl (lv_at hl 0 rfl) ?_
    refine va_get (D := D) (ci := 5) (v := .ref (h 22)) (C := RX5) (T := TX5) (N := 6) hx hb hB inX5 hown hK hP 5 rfl rfl 0 (by decide) (hB _ k1_126) (fun _ h9 => h9) rfl dX5_isLeftLater_37 ?_
    refine lv_iload_n hx hb dX5_isLeftLater_40 rfl (lv_at hl 1 rfl) ?_
    refine va_iald (f := S 16) hx hb hK hP 22 0 rfl rfl (vp_in_iff.mpr (by omega)) dX5_isLeftLater_41 ?_
    have b_2 : (0) ≤ (S 16 a1.toNatClampNeg).toInt ∧ (S 16 a1.toNatClampNeg).toInt ≤ 119 := iv_16 hI a1.toNatClampNeg
    refine lv_aload_n hx hb dX5_isLeftLater_42 rfl (lv_at hl 0 rfl) ?_
    refine va_get (D := D) (ci := 5) (v := .ref (h 22)) (C := RX5) (T := TX5) (N := 6) hx hb hB inX5 hown hK hP 5 rfl rfl 0 (by decide) (hB _ k1_126) (fun _ h9 => h9) rfl dX5_isLeftLater_43 ?_
    refine lv_iload_n hx hb dX5_isLeftLater_46 rfl (lv_at hl 2 rfl) ?_
    refine va_iald (f := S 16) hx hb hK hP 22 0 rfl rfl (vp_in_iff.mpr (by omega)) dX5_isLeftLater_47 ?_
    have b_3 : (0) ≤ (S 16 a2.toNatClampNeg).toInt ∧ (S 16 a2.toNatClampNeg).toInt ≤ 119 := iv_16 hI a2.toNatClampNeg
    refine lv_icmp_ge (tgt := 55) hx hb dX5_isLeftLater_48 (by decide) (fun c_4 => ?_) (fun c_4 => ?_)
    · skip
      have t_4 := Int32.le_iff_toInt_le.mp c_4
      refine lv_iconst (v := 0) hx hb dX5_isLeftLater_55 (by decide) ?_
      exact W.zret (v := 0) hx hb hr (by decide) (fun t ht hW => ⟨⟨0, (), rfl, (by rw [f_Y_isLeftLater, if_pos c_1, if_pos c_4]), trivial⟩, hS.F ht⟩) hS.2.2 dX5_isLeftLater_56
    · skip
      have t_4 := mt Int32.le_iff_toInt_le.mpr c_4
      refine lv_iconst (v := 1) hx hb dX5_isLeftLater_51 (by decide) ?_
      refine lv_goto (tgt := 56) hx hb dX5_isLeftLater_52 (by decide) ?_
      exact W.zret (v := 1) hx hb hr (by decide) (fun t ht hW => ⟨⟨1, (), rfl, (by rw [f_Y_isLeftLater, if_pos c_1, if_neg c_4]), trivial⟩, hS.F ht⟩) hS.2.2 dX5_isLeftLater_56
  · skip
    refine lv_aload_n hx hb dX5_isLeftLater_15 rfl (lv_at hl 0 rfl) ?_
    refine va_get (D := D) (ci := 5) (v := .ref (h 25)) (C := RX5) (T := TX5) (N := 6) hx hb hB inX5 hown hK hP 5 rfl rfl 3 (by decide) (hB _ k1_131) (fun _ h9 => h9) rfl dX5_isLeftLater_16 ?_
    refine lv_iload_n hx hb dX5_isLeftLater_19 rfl (lv_at hl 1 rfl) ?_
    refine va_iald (f := S 19) hx hb hK hP 25 0 rfl rfl (vp_in_iff.mpr (by omega)) dX5_isLeftLater_20 ?_
    refine lv_aload_n hx hb dX5_isLeftLater_21 rfl (lv_at hl 0 rfl) ?_
    refine va_get (D := D) (ci := 5) (v := .ref (h 25)) (C := RX5) (T := TX5) (N := 6) hx hb hB inX5 hown hK hP 5 rfl rfl 3 (by decide) (hB _ k1_131) (fun _ h9 => h9) rfl dX5_isLeftLater_22 ?_
    refine lv_iload_n hx hb dX5_isLeftLater_25 rfl (lv_at hl 2 rfl) ?_
    refine va_iald (f := S 19) hx hb hK hP 25 0 rfl rfl (vp_in_iff.mpr (by omega)) dX5_isLeftLater_26 ?_
    refine lv_icmp_le (tgt := 34) hx hb dX5_isLeftLater_27 (by decide) (fun c_5 => ?_) (fun c_5 => ?_)
    · skip
      have t_5 := Int32.le_iff_toInt_le.mp c_5
      refine lv_iconst (v := 0) hx hb dX5_isLeftLater_34 (by decide) ?_
      exact W.zret (v := 0) hx hb hr (by decide) (fun t ht hW => ⟨⟨0, (), rfl, (by rw [f_Y_isLeftLater, if_neg c_1, if_pos c_5]), trivial⟩, hS.F ht⟩) hS.2.2 dX5_isLeftLater_35
    · skip
      have t_5 := mt Int32.le_iff_toInt_le.mpr c_5
      refine lv_iconst (v := 1) hx hb dX5_isLeftLater_30 (by decide) ?_
      refine lv_goto (tgt := 35) hx hb dX5_isLeftLater_31 (by decide) ?_
      exact W.zret (v := 1) hx hb hr (by decide) (fun t ht hW => ⟨⟨1, (), rfl, (by rw [f_Y_isLeftLater, if_neg c_1, if_neg c_5]), trivial⟩, hS.F ht⟩) hS.2.2 dX5_isLeftLater_35
set_option maxHeartbeats 4000000 in
set_option maxRecDepth 100000 in
theorem m_A_isName (l : Launch) (D : va_G) (h : Nat → Nat) (cI cZ : ClassId) (S : BS) (hI : IV S) (a1 : Int32) : PM l yX0_isName wsX0_isName { frames := 1, cells := 0, slots := 0, locals := 22 } D cI cZ h S [.int a1] (f_A_isName a1) := by
  refine Met.ofW (cc := cX0_isName) (maxL := 1) (ret := (some .boolean)) (by decide) rfl ?_
  intro p e s m args below meth c s₁ B hml hv
  obtain ⟨rfl, hP, hK, hN⟩ := hv
  have hx := B.exec
  have hb := B.bytes
  have hr := B.returns
  have hts := atoms_spec (ws := wsX0_isName) B.pre
  have hB : ∀ w ∈ BW, w.before _ s = true := fun w h => hts w (List.mem_cons_of_mem _ h)
  have hown : s.vm.findClass RX0 = some m.cls := findClass_of_methodNamed B.named
  have hlocks := B.notSynchronized
  have hS : va_S (fun _ => False) s.heap s.heap [] := va_S.rf
  have hl := lv_entry ([.int a1]) (n := 1) (Nat.le_of_ble_eq_true rfl)
  rw [lg_entry_eq]
  generalize (lg_sl ([.int a1]) ++ List.replicate (1 - (lg_sl ([.int a1])).length) Slot.unset).toArray = ls at hl ⊢
  have hl : lv_has ls 1 [(0, .int a1)] := hl
  refine lv_iload_n hx hb dX0_isName_0 rfl (lv_at hl 0 rfl) ?_
  refine lv_iconst (v := 0) hx hb dX0_isName_1 (by decide) ?_
  refine lv_sipush (v := 9999) hx hb dX0_isName_2 (by decide) ?_
  refine pu_call (va_runS (As := [.int a1, .int 0, .int 9999]) (rest := []) ⟨hx, hb, hml, hown, hB⟩ (m_A_isWithin l D h cI cZ S hI a1 0 9999 ) (cwS 3 hB (gS k1_176 k1_177 k1_1 k1_178) rfl rfl rfl (by decide +kernel) ⟨Nat.le_of_ble_eq_true rfl, Nat.le_of_ble_eq_true rfl⟩) ⟨pu_blind, pu_pre hP hK hN⟩ rfl rfl hl.1 rfl (lv_room (Nat.le_of_ble_eq_true rfl)) dX0_isName_5 ⟨Nat.le_of_ble_eq_true rfl, Nat.le_of_ble_eq_true rfl⟩) hP hS (fun H locs hP hS => ?_)
  exact W.zret (v := f_A_isWithin a1 0 9999) hx hb hr (nb01 (z01_A_isWithin)) (fun t ht hW => ⟨⟨f_A_isWithin a1 0 9999, (), rfl, (by rw [f_A_isName]), trivial⟩, hS.F ht⟩) hS.2.2 dX0_isName_8
set_option maxHeartbeats 4000000 in
set_option maxRecDepth 100000 in
theorem m_A_place (l : Launch) (D : va_G) (h : Nat → Nat) (cI cZ : ClassId) (S : BS) (hI : IV S) (a1 a2 : Int32) : WM l yX0_place wsX0_place { frames := 2, cells := 0, slots := 0, locals := 42 } D cI cZ h S [.ref (h 0), .int a1, .int a2] (F_A_place S a1 a2) := by
  refine Met.ofW (cc := cX0_place) (maxL := 3) (ret := (some .int)) (by decide) rfl ?_
  intro p e s m args below meth c s₁ B hml hv
  obtain ⟨rfl, hP, hK, hN, hD0⟩ := hv
  have hx := B.exec
  have hb := B.bytes
  have hr := B.returns
  have hts := atoms_spec (ws := wsX0_place) B.pre
  have hB : ∀ w ∈ BW, w.before _ s = true := fun w h => hts w (List.mem_cons_of_mem _ h)
  have hown : s.vm.findClass RX0 = some m.cls := findClass_of_methodNamed B.named
  have hlocks := B.notSynchronized
  have hD := bD hD0
  have hS : va_S (bA h) s.heap s.heap [] := va_S.rf
  have hl := lv_entry ([.ref (h 0), .int a1, .int a2]) (n := 3) (Nat.le_of_ble_eq_true rfl)
  rw [lg_entry_eq]
  generalize (lg_sl ([.ref (h 0), .int a1, .int a2]) ++ List.replicate (3 - (lg_sl ([.ref (h 0), .int a1, .int a2])).length) Slot.unset).toArray = ls at hl ⊢
  have hl : lv_has ls 3 [(0, .ref (h 0)), (1, .int a1), (2, .int a2)] := hl
  refine lv_iload_n hx hb dX0_place_0 rfl (lv_at hl 1 rfl) ?_
  refine lv_iconst (v := 1) hx hb dX0_place_1 (by decide) ?_
  refine lv_ldc (v := 99999) hx hb hown (hB _ k1_175) dX0_place_2 ?_
  refine pu_call (va_runS (As := [.int a1, .int 1, .int 99999]) (rest := []) ⟨hx, hb, hml, hown, hB⟩ (m_A_isWithin l D h cI cZ S hI a1 1 99999 ) (cwS 3 hB (gS k1_176 k1_177 k1_1 k1_178) rfl rfl rfl (by decide +kernel) ⟨Nat.le_of_ble_eq_true rfl, Nat.le_of_ble_eq_true rfl⟩) ⟨pu_blind, pu_pre hP hK hN⟩ rfl rfl hl.1 rfl (lv_room (Nat.le_of_ble_eq_true rfl)) dX0_place_4 ⟨Nat.le_of_ble_eq_true rfl, Nat.le_of_ble_eq_true rfl⟩) hP hS (fun H locs hP hS => ?_)
  refine lv_if_eq (tgt := 17) hx hb dX0_place_7 (by decide) (fun c_2 => ?_) (fun c_2 => ?_)
  · skip
    refine lv_bipush (v := (-12)) hx hb dX0_place_17 (by decide) ?_
    exact W.iret (v := (-12)) hx hb hr (fun t ht hW => ⟨⟨(-12), S, rfl, ⟨(by rw [F_A_place, if_pos c_2]), hI⟩, by rw [ht]; exact hP⟩, hS.F ht⟩) hS.2.2 dX0_place_19
  · skip
    refine lv_iload_n hx hb dX0_place_10 rfl (lv_at hl 2 rfl) ?_
    refine pu_call (va_runS (As := [.int a2]) (rest := []) ⟨hx, hb, hml, hown, hB⟩ (m_A_isName l D h cI cZ S hI a2 ) (cwS 1 hB (gS k1_179 k1_180 k1_1 k1_181) rfl rfl rfl (by decide +kernel) ⟨Nat.le_of_ble_eq_true rfl, Nat.le_of_ble_eq_true rfl⟩) ⟨pu_blind, pu_pre hP hK hN⟩ rfl rfl hl.1 rfl (lv_room (Nat.le_of_ble_eq_true rfl)) dX0_place_11 ⟨Nat.le_of_ble_eq_true rfl, Nat.le_of_ble_eq_true rfl⟩) hP hS (fun H locs hP hS => ?_)
    refine lv_if_ne (tgt := 20) hx hb dX0_place_14 (by decide) (fun c_4 => ?_) (fun c_4 => ?_)
    · skip
      refine lv_aload_n hx hb dX0_place_20 rfl (lv_at hl 0 rfl) ?_
      refine va_get (D := D) (ci := 0) (v := .ref (h 1)) (C := RX0) (T := TX0) (N := 7) hx hb hB inX0 hown hK hP 0 rfl rfl 0 (by decide) (hB _ k1_149) (fun _ h9 => h9) rfl dX0_place_21 ?_
      refine lv_iload_n hx hb dX0_place_24 rfl (lv_at hl 1 rfl) ?_
      refine pu_call (va_runVN (As := [.int a1]) (rest := []) ⟨hx, hb, hml, hown, hB⟩ (m_P_withCode l D h cI cZ S hI a1 ) ⟨va_cnB 1 hB (gB k1_185) rfl rfl rfl (hN _ kn_4) (hB _ k1_2) (by decide +kernel) ⟨Nat.le_of_ble_eq_true rfl, Nat.le_of_ble_eq_true rfl⟩, hB _ k1_184, hB _ ks_73⟩ ⟨pu_blind, va_recv hK hP (ci := 1) (q0 := 1) rfl rfl, pu_pre hP hK hN⟩ rfl rfl hl.1 rfl (lv_room (Nat.le_of_ble_eq_true rfl)) dX0_place_25 ⟨Nat.le_of_ble_eq_true rfl, Nat.le_of_ble_eq_true rfl⟩) hP hS (fun H locs hP hS => ?_)
      refine lv_iconst (v := (-1)) hx hb dX0_place_28 (by decide) ?_
      refine lv_icmp_eq (tgt := 35) hx hb dX0_place_29 (by decide) (fun c_6 => ?_) (fun c_6 => ?_)
      · skip
        have z_m1 : ((-1) : Int32).toInt = (-1) := by decide
        have t_6 := Int32.toInt_inj.symm.mp c_6
        refine lv_aload_n hx hb dX0_place_35 rfl (lv_at hl 0 rfl) ?_
        refine va_get (D := D) (ci := 0) (v := .ref (h 1)) (C := RX0) (T := TX0) (N := 7) hx hb hB inX0 hown hK hP 0 rfl rfl 0 (by decide) (hB _ k1_149) (fun _ h9 => h9) rfl dX0_place_36 ?_
        refine pu_call (va_runVN (As := []) (rest := []) ⟨hx, hb, hml, hown, hB⟩ (m_P_isFull l D h cI cZ S hI  ) ⟨va_cnB 0 hB (gB k1_189) rfl rfl rfl (hN _ kn_5) (hB _ k1_2) (by decide +kernel) ⟨Nat.le_of_ble_eq_true rfl, Nat.le_of_ble_eq_true rfl⟩, hB _ k1_188, hB _ ks_76⟩ ⟨pu_blind, va_recv hK hP (ci := 1) (q0 := 1) rfl rfl, pu_pre hP hK hN⟩ rfl rfl hl.1 rfl (lv_room (Nat.le_of_ble_eq_true rfl)) dX0_place_39 ⟨Nat.le_of_ble_eq_true rfl, Nat.le_of_ble_eq_true rfl⟩) hP hS (fun H locs hP hS => ?_)
        refine lv_if_eq (tgt := 50) hx hb dX0_place_42 (by decide) (fun c_8 => ?_) (fun c_8 => ?_)
        · skip
          have t_8 := fb_P_isFull hI c_8
          refine lv_aload_n hx hb dX0_place_50 rfl (lv_at hl 0 rfl) ?_
          refine va_get (D := D) (ci := 0) (v := .ref (h 1)) (C := RX0) (T := TX0) (N := 7) hx hb hB inX0 hown hK hP 0 rfl rfl 0 (by decide) (hB _ k1_149) (fun _ h9 => h9) rfl dX0_place_51 ?_
          refine lv_iload_n hx hb dX0_place_54 rfl (lv_at hl 1 rfl) ?_
          refine wr_call (va_runVN (As := [.int a1]) (rest := []) ⟨hx, hb, hml, hown, hB⟩ (m_P_add l D h cI cZ S hI a1 (show (S 22 0).toInt < 16 by omega)) ⟨va_cnB 1 hB (gB k1_193) rfl rfl rfl (hN _ kn_6) (hB _ k1_2) (by decide +kernel) ⟨Nat.le_of_ble_eq_true rfl, Nat.le_of_ble_eq_true rfl⟩, hB _ k1_192, hB _ ks_79⟩ ⟨wr_blind, va_recv hK hP (ci := 1) (q0 := 1) rfl rfl, wr_pre hP hK hN hD⟩ rfl rfl hl.1 rfl (lv_room (Nat.le_of_ble_eq_true rfl)) dX0_place_55 ⟨Nat.le_of_ble_eq_true rfl, Nat.le_of_ble_eq_true rfl⟩) hS (fun H locs hP hI_9 hS => ?_)
          have hD := wD (S2 := (F_P_add S a1).2) hD
          exact W.iret (v := (F_P_add S a1).1) hx hb hr (fun t ht hW => ⟨⟨(F_P_add S a1).1, (F_P_add S a1).2, rfl, ⟨(by rw [F_A_place, if_neg c_2, if_neg c_4, if_pos c_6, if_pos c_8]), hI_9⟩, by rw [ht]; exact hP⟩, hS.F ht⟩) hS.2.2 dX0_place_58
        · skip
          refine lv_bipush (v := (-14)) hx hb dX0_place_45 (by decide) ?_
          refine lv_goto (tgt := 58) hx hb dX0_place_47 (by decide) ?_
          exact W.iret (v := (-14)) hx hb hr (fun t ht hW => ⟨⟨(-14), S, rfl, ⟨(by rw [F_A_place, if_neg c_2, if_neg c_4, if_pos c_6, if_neg c_8]), hI⟩, by rw [ht]; exact hP⟩, hS.F ht⟩) hS.2.2 dX0_place_58
      · skip
        have z_m1 : ((-1) : Int32).toInt = (-1) := by decide
        have t_6 := mt Int32.toInt_inj.mp c_6
        refine lv_bipush (v := (-13)) hx hb dX0_place_32 (by decide) ?_
        exact W.iret (v := (-13)) hx hb hr (fun t ht hW => ⟨⟨(-13), S, rfl, ⟨(by rw [F_A_place, if_neg c_2, if_neg c_4, if_neg c_6]), hI⟩, by rw [ht]; exact hP⟩, hS.F ht⟩) hS.2.2 dX0_place_34
    · skip
      refine lv_bipush (v := (-12)) hx hb dX0_place_17 (by decide) ?_
      exact W.iret (v := (-12)) hx hb hr (fun t ht hW => ⟨⟨(-12), S, rfl, ⟨(by rw [F_A_place, if_neg c_2, if_pos c_4]), hI⟩, by rw [ht]; exact hP⟩, hS.F ht⟩) hS.2.2 dX0_place_19
set_option maxHeartbeats 4000000 in
set_option maxRecDepth 100000 in
theorem m_A_street (l : Launch) (D : va_G) (h : Nat → Nat) (cI cZ : ClassId) (S : BS) (hI : IV S) (a1 a2 : Int32) : WM l yX0_street wsX0_street { frames := 2, cells := 0, slots := 0, locals := 42 } D cI cZ h S [.ref (h 0), .int a1, .int a2] (F_A_street S a1 a2) := by
  refine Met.ofW (cc := cX0_street) (maxL := 3) (ret := (some .int)) (by decide) rfl ?_
  intro p e s m args below meth c s₁ B hml hv
  obtain ⟨rfl, hP, hK, hN, hD0⟩ := hv
  have hx := B.exec
  have hb := B.bytes
  have hr := B.returns
  have hts := atoms_spec (ws := wsX0_street) B.pre
  have hB : ∀ w ∈ BW, w.before _ s = true := fun w h => hts w (List.mem_cons_of_mem _ h)
  have hown : s.vm.findClass RX0 = some m.cls := findClass_of_methodNamed B.named
  have hlocks := B.notSynchronized
  have hD := bD hD0
  have hS : va_S (bA h) s.heap s.heap [] := va_S.rf
  have hl := lv_entry ([.ref (h 0), .int a1, .int a2]) (n := 3) (Nat.le_of_ble_eq_true rfl)
  rw [lg_entry_eq]
  generalize (lg_sl ([.ref (h 0), .int a1, .int a2]) ++ List.replicate (3 - (lg_sl ([.ref (h 0), .int a1, .int a2])).length) Slot.unset).toArray = ls at hl ⊢
  have hl : lv_has ls 3 [(0, .ref (h 0)), (1, .int a1), (2, .int a2)] := hl
  refine lv_aload_n hx hb dX0_street_0 rfl (lv_at hl 0 rfl) ?_
  refine va_get (D := D) (ci := 0) (v := .ref (h 1)) (C := RX0) (T := TX0) (N := 7) hx hb hB inX0 hown hK hP 0 rfl rfl 0 (by decide) (hB _ k1_149) (fun _ h9 => h9) rfl dX0_street_1 ?_
  refine lv_iload_n hx hb dX0_street_4 rfl (lv_at hl 1 rfl) ?_
  refine pu_call (va_runVN (As := [.int a1]) (rest := []) ⟨hx, hb, hml, hown, hB⟩ (m_P_has l D h cI cZ S hI a1 ) ⟨va_cnB 1 hB (gB k1_201) rfl rfl rfl (hN _ kn_7) (hB _ k1_2) (by decide +kernel) ⟨Nat.le_of_ble_eq_true rfl, Nat.le_of_ble_eq_true rfl⟩, hB _ k1_200, hB _ ks_82⟩ ⟨pu_blind, va_recv hK hP (ci := 1) (q0 := 1) rfl rfl, pu_pre hP hK hN⟩ rfl rfl hl.1 rfl (lv_room (Nat.le_of_ble_eq_true rfl)) dX0_street_5 ⟨Nat.le_of_ble_eq_true rfl, Nat.le_of_ble_eq_true rfl⟩) hP hS (fun H locs hP hS => ?_)
  refine lv_if_ne (tgt := 14) hx hb dX0_street_8 (by decide) (fun c_2 => ?_) (fun c_2 => ?_)
  · skip
    refine lv_iload_n hx hb dX0_street_14 rfl (lv_at hl 2 rfl) ?_
    refine pu_call (va_runS (As := [.int a2]) (rest := []) ⟨hx, hb, hml, hown, hB⟩ (m_A_isName l D h cI cZ S hI a2 ) (cwS 1 hB (gS k1_179 k1_180 k1_1 k1_181) rfl rfl rfl (by decide +kernel) ⟨Nat.le_of_ble_eq_true rfl, Nat.le_of_ble_eq_true rfl⟩) ⟨pu_blind, pu_pre hP hK hN⟩ rfl rfl hl.1 rfl (lv_room (Nat.le_of_ble_eq_true rfl)) dX0_street_15 ⟨Nat.le_of_ble_eq_true rfl, Nat.le_of_ble_eq_true rfl⟩) hP hS (fun H locs hP hS => ?_)
    refine lv_if_ne (tgt := 24) hx hb dX0_street_18 (by decide) (fun c_4 => ?_) (fun c_4 => ?_)
    · skip
      refine lv_aload_n hx hb dX0_street_24 rfl (lv_at hl 0 rfl) ?_
      refine va_get (D := D) (ci := 0) (v := .ref (h 2)) (C := RX0) (T := TX0) (N := 7) hx hb hB inX0 hown hK hP 0 rfl rfl 1 (by decide) (hB _ k1_150) (fun _ h9 => h9) rfl dX0_street_25 ?_
      refine lv_iload_n hx hb dX0_street_28 rfl (lv_at hl 1 rfl) ?_
      refine lv_iload_n hx hb dX0_street_29 rfl (lv_at hl 2 rfl) ?_
      refine pu_call (va_runVN (As := [.int a1, .int a2]) (rest := []) ⟨hx, hb, hml, hown, hB⟩ (m_T_named l D h cI cZ S hI a1 a2 ) ⟨va_cnB 2 hB (gB k1_205) rfl rfl rfl (hN _ kn_8) (hB _ k1_3) (by decide +kernel) ⟨Nat.le_of_ble_eq_true rfl, Nat.le_of_ble_eq_true rfl⟩, hB _ k1_204, hB _ ks_87⟩ ⟨pu_blind, va_recv hK hP (ci := 2) (q0 := 2) rfl rfl, pu_pre hP hK hN⟩ rfl rfl hl.1 rfl (lv_room (Nat.le_of_ble_eq_true rfl)) dX0_street_30 ⟨Nat.le_of_ble_eq_true rfl, Nat.le_of_ble_eq_true rfl⟩) hP hS (fun H locs hP hS => ?_)
      refine lv_iconst (v := (-1)) hx hb dX0_street_33 (by decide) ?_
      refine lv_icmp_eq (tgt := 40) hx hb dX0_street_34 (by decide) (fun c_6 => ?_) (fun c_6 => ?_)
      · skip
        have z_m1 : ((-1) : Int32).toInt = (-1) := by decide
        have t_6 := Int32.toInt_inj.symm.mp c_6
        refine lv_aload_n hx hb dX0_street_40 rfl (lv_at hl 0 rfl) ?_
        refine va_get (D := D) (ci := 0) (v := .ref (h 2)) (C := RX0) (T := TX0) (N := 7) hx hb hB inX0 hown hK hP 0 rfl rfl 1 (by decide) (hB _ k1_150) (fun _ h9 => h9) rfl dX0_street_41 ?_
        refine pu_call (va_runVN (As := []) (rest := []) ⟨hx, hb, hml, hown, hB⟩ (m_T_isFull l D h cI cZ S hI  ) ⟨va_cnB 0 hB (gB k1_209) rfl rfl rfl (hN _ kn_9) (hB _ k1_3) (by decide +kernel) ⟨Nat.le_of_ble_eq_true rfl, Nat.le_of_ble_eq_true rfl⟩, hB _ k1_208, hB _ ks_90⟩ ⟨pu_blind, va_recv hK hP (ci := 2) (q0 := 2) rfl rfl, pu_pre hP hK hN⟩ rfl rfl hl.1 rfl (lv_room (Nat.le_of_ble_eq_true rfl)) dX0_street_44 ⟨Nat.le_of_ble_eq_true rfl, Nat.le_of_ble_eq_true rfl⟩) hP hS (fun H locs hP hS => ?_)
        refine lv_if_eq (tgt := 55) hx hb dX0_street_47 (by decide) (fun c_8 => ?_) (fun c_8 => ?_)
        · skip
          have t_8 := fb_T_isFull hI c_8
          refine lv_aload_n hx hb dX0_street_55 rfl (lv_at hl 0 rfl) ?_
          refine va_get (D := D) (ci := 0) (v := .ref (h 2)) (C := RX0) (T := TX0) (N := 7) hx hb hB inX0 hown hK hP 0 rfl rfl 1 (by decide) (hB _ k1_150) (fun _ h9 => h9) rfl dX0_street_56 ?_
          refine lv_iload_n hx hb dX0_street_59 rfl (lv_at hl 1 rfl) ?_
          refine lv_iload_n hx hb dX0_street_60 rfl (lv_at hl 2 rfl) ?_
          refine wr_call (va_runVN (As := [.int a1, .int a2]) (rest := []) ⟨hx, hb, hml, hown, hB⟩ (m_T_add l D h cI cZ S hI a1 a2 (show (S 23 0).toInt < 32 by omega)) ⟨va_cnB 2 hB (gB k1_213) rfl rfl rfl (hN _ kn_10) (hB _ k1_3) (by decide +kernel) ⟨Nat.le_of_ble_eq_true rfl, Nat.le_of_ble_eq_true rfl⟩, hB _ k1_212, hB _ ks_93⟩ ⟨wr_blind, va_recv hK hP (ci := 2) (q0 := 2) rfl rfl, wr_pre hP hK hN hD⟩ rfl rfl hl.1 rfl (lv_room (Nat.le_of_ble_eq_true rfl)) dX0_street_61 ⟨Nat.le_of_ble_eq_true rfl, Nat.le_of_ble_eq_true rfl⟩) hS (fun H locs hP hI_9 hS => ?_)
          have hD := wD (S2 := (F_T_add S a1 a2).2) hD
          exact W.iret (v := (F_T_add S a1 a2).1) hx hb hr (fun t ht hW => ⟨⟨(F_T_add S a1 a2).1, (F_T_add S a1 a2).2, rfl, ⟨(by rw [F_A_street, if_neg c_2, if_neg c_4, if_pos c_6, if_pos c_8]), hI_9⟩, by rw [ht]; exact hP⟩, hS.F ht⟩) hS.2.2 dX0_street_64
        · skip
          refine lv_bipush (v := (-14)) hx hb dX0_street_50 (by decide) ?_
          refine lv_goto (tgt := 64) hx hb dX0_street_52 (by decide) ?_
          exact W.iret (v := (-14)) hx hb hr (fun t ht hW => ⟨⟨(-14), S, rfl, ⟨(by rw [F_A_street, if_neg c_2, if_neg c_4, if_pos c_6, if_neg c_8]), hI⟩, by rw [ht]; exact hP⟩, hS.F ht⟩) hS.2.2 dX0_street_64
      · skip
        have z_m1 : ((-1) : Int32).toInt = (-1) := by decide
        have t_6 := mt Int32.toInt_inj.mp c_6
        refine lv_bipush (v := (-13)) hx hb dX0_street_37 (by decide) ?_
        exact W.iret (v := (-13)) hx hb hr (fun t ht hW => ⟨⟨(-13), S, rfl, ⟨(by rw [F_A_street, if_neg c_2, if_neg c_4, if_neg c_6]), hI⟩, by rw [ht]; exact hP⟩, hS.F ht⟩) hS.2.2 dX0_street_39
    · skip
      refine lv_bipush (v := (-12)) hx hb dX0_street_21 (by decide) ?_
      exact W.iret (v := (-12)) hx hb hr (fun t ht hW => ⟨⟨(-12), S, rfl, ⟨(by rw [F_A_street, if_neg c_2, if_pos c_4]), hI⟩, by rw [ht]; exact hP⟩, hS.F ht⟩) hS.2.2 dX0_street_23
  · skip
    refine lv_bipush (v := (-11)) hx hb dX0_street_11 (by decide) ?_
    exact W.iret (v := (-11)) hx hb hr (fun t ht hW => ⟨⟨(-11), S, rfl, ⟨(by rw [F_A_street, if_pos c_2]), hI⟩, by rw [ht]; exact hP⟩, hS.F ht⟩) hS.2.2 dX0_street_13
set_option maxHeartbeats 4000000 in
set_option maxRecDepth 100000 in
theorem m_A_find (l : Launch) (D : va_G) (h : Nat → Nat) (cI cZ : ClassId) (S : BS) (hI : IV S) (a1 a2 : Int32) : PM l yX0_find wsX0_find { frames := 1, cells := 0, slots := 0, locals := 23 } D cI cZ h S [.ref (h 0), .int a1, .int a2] (f_A_find S a1 a2) := by
  refine Met.ofW (cc := cX0_find) (maxL := 4) (ret := (some .int)) (by decide) rfl ?_
  intro p e s m args below meth c s₁ B hml hv
  obtain ⟨rfl, hP, hK, hN⟩ := hv
  have hx := B.exec
  have hb := B.bytes
  have hr := B.returns
  have hts := atoms_spec (ws := wsX0_find) B.pre
  have hB : ∀ w ∈ BW, w.before _ s = true := fun w h => hts w (List.mem_cons_of_mem _ h)
  have hown : s.vm.findClass RX0 = some m.cls := findClass_of_methodNamed B.named
  have hlocks := B.notSynchronized
  have hS : va_S (fun _ => False) s.heap s.heap [] := va_S.rf
  have hl := lv_entry ([.ref (h 0), .int a1, .int a2]) (n := 4) (Nat.le_of_ble_eq_true rfl)
  rw [lg_entry_eq]
  generalize (lg_sl ([.ref (h 0), .int a1, .int a2]) ++ List.replicate (4 - (lg_sl ([.ref (h 0), .int a1, .int a2])).length) Slot.unset).toArray = ls at hl ⊢
  have hl : lv_has ls 4 [(0, .ref (h 0)), (1, .int a1), (2, .int a2)] := hl
  refine lv_aload_n hx hb dX0_find_0 rfl (lv_at hl 0 rfl) ?_
  refine va_get (D := D) (ci := 0) (v := .ref (h 1)) (C := RX0) (T := TX0) (N := 7) hx hb hB inX0 hown hK hP 0 rfl rfl 0 (by decide) (hB _ k1_149) (fun _ h9 => h9) rfl dX0_find_1 ?_
  refine lv_iload_n hx hb dX0_find_4 rfl (lv_at hl 1 rfl) ?_
  refine pu_call (va_runVN (As := [.int a1]) (rest := []) ⟨hx, hb, hml, hown, hB⟩ (m_P_withCode l D h cI cZ S hI a1 ) ⟨va_cnB 1 hB (gB k1_185) rfl rfl rfl (hN _ kn_4) (hB _ k1_2) (by decide +kernel) ⟨Nat.le_of_ble_eq_true rfl, Nat.le_of_ble_eq_true rfl⟩, hB _ k1_184, hB _ ks_73⟩ ⟨pu_blind, va_recv hK hP (ci := 1) (q0 := 1) rfl rfl, pu_pre hP hK hN⟩ rfl rfl hl.1 rfl (lv_room (Nat.le_of_ble_eq_true rfl)) dX0_find_5 ⟨Nat.le_of_ble_eq_true rfl, Nat.le_of_ble_eq_true rfl⟩) hP hS (fun H locs hP hS => ?_)
  refine lv_istore_n (lv' := [(3, .int (f_P_withCode S a1)), (0, .ref (h 0)), (1, .int a1), (2, .int a2)]) hx hb dX0_find_8 rfl hl (by decide) rfl (fun ls hl => ?_)
  refine lv_iload_n hx hb dX0_find_9 rfl (lv_at hl 0 rfl) ?_
  refine lv_iconst (v := (-1)) hx hb dX0_find_10 (by decide) ?_
  refine lv_icmp_ne (tgt := 18) hx hb dX0_find_11 (by decide) (fun c_2 => ?_) (fun c_2 => ?_)
  · skip
    have z_m1 : ((-1) : Int32).toInt = (-1) := by decide
    have t_2 := mt Int32.toInt_inj.mp c_2
    refine lv_aload_n hx hb dX0_find_18 rfl (lv_at hl 1 rfl) ?_
    refine va_get (D := D) (ci := 0) (v := .ref (h 2)) (C := RX0) (T := TX0) (N := 7) hx hb hB inX0 hown hK hP 0 rfl rfl 1 (by decide) (hB _ k1_150) (fun _ h9 => h9) rfl dX0_find_19 ?_
    refine lv_iload_n hx hb dX0_find_22 rfl (lv_at hl 0 rfl) ?_
    refine lv_iload_n hx hb dX0_find_23 rfl (lv_at hl 3 rfl) ?_
    refine pu_call (va_runVN (As := [.int (f_P_withCode S a1), .int a2]) (rest := []) ⟨hx, hb, hml, hown, hB⟩ (m_T_named l D h cI cZ S hI (f_P_withCode S a1) a2 ) ⟨va_cnB 2 hB (gB k1_205) rfl rfl rfl (hN _ kn_8) (hB _ k1_3) (by decide +kernel) ⟨Nat.le_of_ble_eq_true rfl, Nat.le_of_ble_eq_true rfl⟩, hB _ k1_204, hB _ ks_87⟩ ⟨pu_blind, va_recv hK hP (ci := 2) (q0 := 2) rfl rfl, pu_pre hP hK hN⟩ rfl rfl hl.1 rfl (lv_room (Nat.le_of_ble_eq_true rfl)) dX0_find_24 ⟨Nat.le_of_ble_eq_true rfl, Nat.le_of_ble_eq_true rfl⟩) hP hS (fun H locs hP hS => ?_)
    exact W.iret (v := f_T_named S (f_P_withCode S a1) a2) hx hb hr (fun t ht hW => ⟨⟨f_T_named S (f_P_withCode S a1) a2, (), rfl, (by rw [f_A_find, if_neg c_2]), trivial⟩, hS.F ht⟩) hS.2.2 dX0_find_27
  · skip
    have z_m1 : ((-1) : Int32).toInt = (-1) := by decide
    have t_2 := Int32.toInt_inj.symm.mp c_2
    refine lv_iconst (v := (-1)) hx hb dX0_find_14 (by decide) ?_
    refine lv_goto (tgt := 27) hx hb dX0_find_15 (by decide) ?_
    exact W.iret (v := (-1)) hx hb hr (fun t ht hW => ⟨⟨(-1), (), rfl, (by rw [f_A_find, if_pos c_2]), trivial⟩, hS.F ht⟩) hS.2.2 dX0_find_27
set_option maxHeartbeats 4000000 in
set_option maxRecDepth 100000 in
theorem m_A_isHouse (l : Launch) (D : va_G) (h : Nat → Nat) (cI cZ : ClassId) (S : BS) (hI : IV S) (a1 : Int32) : PM l yX0_isHouse wsX0_isHouse { frames := 1, cells := 0, slots := 0, locals := 22 } D cI cZ h S [.int a1] (f_A_isHouse a1) := by
  refine Met.ofW (cc := cX0_isHouse) (maxL := 1) (ret := (some .boolean)) (by decide) rfl ?_
  intro p e s m args below meth c s₁ B hml hv
  obtain ⟨rfl, hP, hK, hN⟩ := hv
  have hx := B.exec
  have hb := B.bytes
  have hr := B.returns
  have hts := atoms_spec (ws := wsX0_isHouse) B.pre
  have hB : ∀ w ∈ BW, w.before _ s = true := fun w h => hts w (List.mem_cons_of_mem _ h)
  have hown : s.vm.findClass RX0 = some m.cls := findClass_of_methodNamed B.named
  have hlocks := B.notSynchronized
  have hS : va_S (fun _ => False) s.heap s.heap [] := va_S.rf
  have hl := lv_entry ([.int a1]) (n := 1) (Nat.le_of_ble_eq_true rfl)
  rw [lg_entry_eq]
  generalize (lg_sl ([.int a1]) ++ List.replicate (1 - (lg_sl ([.int a1])).length) Slot.unset).toArray = ls at hl ⊢
  have hl : lv_has ls 1 [(0, .int a1)] := hl
  refine lv_iload_n hx hb dX0_isHouse_0 rfl (lv_at hl 0 rfl) ?_
  refine lv_iconst (v := 1) hx hb dX0_isHouse_1 (by decide) ?_
  refine lv_sipush (v := 999) hx hb dX0_isHouse_2 (by decide) ?_
  refine pu_call (va_runS (As := [.int a1, .int 1, .int 999]) (rest := []) ⟨hx, hb, hml, hown, hB⟩ (m_A_isWithin l D h cI cZ S hI a1 1 999 ) (cwS 3 hB (gS k1_176 k1_177 k1_1 k1_178) rfl rfl rfl (by decide +kernel) ⟨Nat.le_of_ble_eq_true rfl, Nat.le_of_ble_eq_true rfl⟩) ⟨pu_blind, pu_pre hP hK hN⟩ rfl rfl hl.1 rfl (lv_room (Nat.le_of_ble_eq_true rfl)) dX0_isHouse_5 ⟨Nat.le_of_ble_eq_true rfl, Nat.le_of_ble_eq_true rfl⟩) hP hS (fun H locs hP hS => ?_)
  exact W.zret (v := f_A_isWithin a1 1 999) hx hb hr (nb01 (z01_A_isWithin)) (fun t ht hW => ⟨⟨f_A_isWithin a1 1 999, (), rfl, (by rw [f_A_isHouse]), trivial⟩, hS.F ht⟩) hS.2.2 dX0_isHouse_8
set_option maxHeartbeats 4000000 in
set_option maxRecDepth 100000 in
theorem m_A_isTodayOrLater (l : Launch) (D : va_G) (h : Nat → Nat) (cI cZ : ClassId) (S : BS) (hI : IV S) (a1 : Int32) : PM l yX0_isTodayOrLater wsX0_isTodayOrLater { frames := 1, cells := 0, slots := 0, locals := 22 } D cI cZ h S [.ref (h 0), .int a1] (f_A_isTodayOrLater S a1) := by
  refine Met.ofW (cc := cX0_isTodayOrLater) (maxL := 2) (ret := (some .boolean)) (by decide) rfl ?_
  intro p e s m args below meth c s₁ B hml hv
  obtain ⟨rfl, hP, hK, hN⟩ := hv
  have hx := B.exec
  have hb := B.bytes
  have hr := B.returns
  have hts := atoms_spec (ws := wsX0_isTodayOrLater) B.pre
  have hB : ∀ w ∈ BW, w.before _ s = true := fun w h => hts w (List.mem_cons_of_mem _ h)
  have hown : s.vm.findClass RX0 = some m.cls := findClass_of_methodNamed B.named
  have hlocks := B.notSynchronized
  have hS : va_S (fun _ => False) s.heap s.heap [] := va_S.rf
  have hl := lv_entry ([.ref (h 0), .int a1]) (n := 2) (Nat.le_of_ble_eq_true rfl)
  rw [lg_entry_eq]
  generalize (lg_sl ([.ref (h 0), .int a1]) ++ List.replicate (2 - (lg_sl ([.ref (h 0), .int a1])).length) Slot.unset).toArray = ls at hl ⊢
  have hl : lv_has ls 2 [(0, .ref (h 0)), (1, .int a1)] := hl
  refine lv_iload_n hx hb dX0_isTodayOrLater_0 rfl (lv_at hl 1 rfl) ?_
  refine lv_aload_n hx hb dX0_isTodayOrLater_1 rfl (lv_at hl 0 rfl) ?_
  refine va_get (D := D) (ci := 0) (v := .int (S 27 0)) (C := RX0) (T := TX0) (N := 7) hx hb hB inX0 hown hK hP 0 rfl rfl 6 (by decide) (hB _ k1_155) (fun _ h9 => h9) rfl dX0_isTodayOrLater_2 ?_
  refine lv_ldcw (v := 1000000) hx hb hown (hB _ k2_5) dX0_isTodayOrLater_5 ?_
  refine pu_call (va_runS (As := [.int a1, .int (S 27 0), .int 1000000]) (rest := []) ⟨hx, hb, hml, hown, hB⟩ (m_A_isWithin l D h cI cZ S hI a1 (S 27 0) 1000000 ) (cwS 3 hB (gS k1_176 k1_177 k1_1 k1_178) rfl rfl rfl (by decide +kernel) ⟨Nat.le_of_ble_eq_true rfl, Nat.le_of_ble_eq_true rfl⟩) ⟨pu_blind, pu_pre hP hK hN⟩ rfl rfl hl.1 rfl (lv_room (Nat.le_of_ble_eq_true rfl)) dX0_isTodayOrLater_8 ⟨Nat.le_of_ble_eq_true rfl, Nat.le_of_ble_eq_true rfl⟩) hP hS (fun H locs hP hS => ?_)
  exact W.zret (v := f_A_isWithin a1 (S 27 0) 1000000) hx hb hr (nb01 (z01_A_isWithin)) (fun t ht hW => ⟨⟨f_A_isWithin a1 (S 27 0) 1000000, (), rfl, (by rw [f_A_isTodayOrLater]), trivial⟩, hS.F ht⟩) hS.2.2 dX0_isTodayOrLater_11
set_option maxHeartbeats 4000000 in
set_option maxRecDepth 100000 in
theorem m_A_range (l : Launch) (D : va_G) (h : Nat → Nat) (cI cZ : ClassId) (S : BS) (hI : IV S) (a1 a2 a3 a4 a5 : Int32) : WM l yX0_range wsX0_range { frames := 5, cells := 0, slots := 0, locals := 112 } D cI cZ h S [.ref (h 0), .int a1, .int a2, .int a3, .int a4, .int a5] (F_A_range S a1 a2 a3 a4 a5) := by
  refine Met.ofW (cc := cX0_range) (maxL := 7) (ret := (some .int)) (by decide) rfl ?_
  intro p e s m args below meth c s₁ B hml hv
  obtain ⟨rfl, hP, hK, hN, hD0⟩ := hv
  have hx := B.exec
  have hb := B.bytes
  have hr := B.returns
  have hts := atoms_spec (ws := wsX0_range) B.pre
  have hB : ∀ w ∈ BW, w.before _ s = true := fun w h => hts w (List.mem_cons_of_mem _ h)
  have hown : s.vm.findClass RX0 = some m.cls := findClass_of_methodNamed B.named
  have hlocks := B.notSynchronized
  have hD := bD hD0
  have hS : va_S (bA h) s.heap s.heap [] := va_S.rf
  have hl := lv_entry ([.ref (h 0), .int a1, .int a2, .int a3, .int a4, .int a5]) (n := 7) (Nat.le_of_ble_eq_true rfl)
  rw [lg_entry_eq]
  generalize (lg_sl ([.ref (h 0), .int a1, .int a2, .int a3, .int a4, .int a5]) ++ List.replicate (7 - (lg_sl ([.ref (h 0), .int a1, .int a2, .int a3, .int a4, .int a5])).length) Slot.unset).toArray = ls at hl ⊢
  have hl : lv_has ls 7 [(0, .ref (h 0)), (1, .int a1), (2, .int a2), (3, .int a3), (4, .int a4), (5, .int a5)] := hl
  refine lv_aload_n hx hb dX0_range_0 rfl (lv_at hl 0 rfl) ?_
  refine va_get (D := D) (ci := 0) (v := .ref (h 2)) (C := RX0) (T := TX0) (N := 7) hx hb hB inX0 hown hK hP 0 rfl rfl 1 (by decide) (hB _ k1_150) (fun _ h9 => h9) rfl dX0_range_1 ?_
  refine lv_iload_n hx hb dX0_range_4 rfl (lv_at hl 1 rfl) ?_
  refine pu_call (va_runVN (As := [.int a1]) (rest := []) ⟨hx, hb, hml, hown, hB⟩ (m_T_has l D h cI cZ S hI a1 ) ⟨va_cnB 1 hB (gB k1_225) rfl rfl rfl (hN _ kn_11) (hB _ k1_3) (by decide +kernel) ⟨Nat.le_of_ble_eq_true rfl, Nat.le_of_ble_eq_true rfl⟩, hB _ k1_224, hB _ ks_98⟩ ⟨pu_blind, va_recv hK hP (ci := 2) (q0 := 2) rfl rfl, pu_pre hP hK hN⟩ rfl rfl hl.1 rfl (lv_room (Nat.le_of_ble_eq_true rfl)) dX0_range_5 ⟨Nat.le_of_ble_eq_true rfl, Nat.le_of_ble_eq_true rfl⟩) hP hS (fun H locs hP hS => ?_)
  refine lv_if_ne (tgt := 14) hx hb dX0_range_8 (by decide) (fun c_2 => ?_) (fun c_2 => ?_)
  · skip
    have t_2 := fb_T_has hI c_2
    refine lv_iload_n hx hb dX0_range_14 rfl (lv_at hl 2 rfl) ?_
    refine lv_iconst (v := 0) hx hb dX0_range_15 (by decide) ?_
    refine lv_iconst (v := 2) hx hb dX0_range_16 (by decide) ?_
    refine pu_call (va_runS (As := [.int a2, .int 0, .int 2]) (rest := []) ⟨hx, hb, hml, hown, hB⟩ (m_A_isWithin l D h cI cZ S hI a2 0 2 ) (cwS 3 hB (gS k1_176 k1_177 k1_1 k1_178) rfl rfl rfl (by decide +kernel) ⟨Nat.le_of_ble_eq_true rfl, Nat.le_of_ble_eq_true rfl⟩) ⟨pu_blind, pu_pre hP hK hN⟩ rfl rfl hl.1 rfl (lv_room (Nat.le_of_ble_eq_true rfl)) dX0_range_17 ⟨Nat.le_of_ble_eq_true rfl, Nat.le_of_ble_eq_true rfl⟩) hP hS (fun H locs hP hS => ?_)
    refine lv_if_eq (tgt := 61) hx hb dX0_range_20 (by decide) (fun c_4 => ?_) (fun c_4 => ?_)
    · skip
      refine lv_bipush (v := (-12)) hx hb dX0_range_61 (by decide) ?_
      exact W.iret (v := (-12)) hx hb hr (fun t ht hW => ⟨⟨(-12), S, rfl, ⟨(by rw [F_A_range, if_neg c_2, if_pos c_4]), hI⟩, by rw [ht]; exact hP⟩, hS.F ht⟩) hS.2.2 dX0_range_63
    · skip
      refine lv_iload_n hx hb dX0_range_23 rfl (lv_at hl 3 rfl) ?_
      refine pu_call (va_runS (As := [.int a3]) (rest := []) ⟨hx, hb, hml, hown, hB⟩ (m_A_isHouse l D h cI cZ S hI a3 ) (cwS 1 hB (gS k1_226 k1_227 k1_1 k1_228) rfl rfl rfl (by decide +kernel) ⟨Nat.le_of_ble_eq_true rfl, Nat.le_of_ble_eq_true rfl⟩) ⟨pu_blind, pu_pre hP hK hN⟩ rfl rfl hl.1 rfl (lv_room (Nat.le_of_ble_eq_true rfl)) dX0_range_24 ⟨Nat.le_of_ble_eq_true rfl, Nat.le_of_ble_eq_true rfl⟩) hP hS (fun H locs hP hS => ?_)
      refine lv_if_eq (tgt := 61) hx hb dX0_range_27 (by decide) (fun c_6 => ?_) (fun c_6 => ?_)
      · skip
        refine lv_bipush (v := (-12)) hx hb dX0_range_61 (by decide) ?_
        exact W.iret (v := (-12)) hx hb hr (fun t ht hW => ⟨⟨(-12), S, rfl, ⟨(by rw [F_A_range, if_neg c_2, if_neg c_4, if_pos c_6]), hI⟩, by rw [ht]; exact hP⟩, hS.F ht⟩) hS.2.2 dX0_range_63
      · skip
        have t_6 := fb_A_isHouse hI c_6
        refine lv_iload hx hb dX0_range_30 (lv_at hl 4 rfl) ?_
        refine pu_call (va_runS (As := [.int a4]) (rest := []) ⟨hx, hb, hml, hown, hB⟩ (m_A_isHouse l D h cI cZ S hI a4 ) (cwS 1 hB (gS k1_226 k1_227 k1_1 k1_228) rfl rfl rfl (by decide +kernel) ⟨Nat.le_of_ble_eq_true rfl, Nat.le_of_ble_eq_true rfl⟩) ⟨pu_blind, pu_pre hP hK hN⟩ rfl rfl hl.1 rfl (lv_room (Nat.le_of_ble_eq_true rfl)) dX0_range_32 ⟨Nat.le_of_ble_eq_true rfl, Nat.le_of_ble_eq_true rfl⟩) hP hS (fun H locs hP hS => ?_)
        refine lv_if_eq (tgt := 61) hx hb dX0_range_35 (by decide) (fun c_8 => ?_) (fun c_8 => ?_)
        · skip
          refine lv_bipush (v := (-12)) hx hb dX0_range_61 (by decide) ?_
          exact W.iret (v := (-12)) hx hb hr (fun t ht hW => ⟨⟨(-12), S, rfl, ⟨(by rw [F_A_range, if_neg c_2, if_neg c_4, if_neg c_6, if_pos c_8]), hI⟩, by rw [ht]; exact hP⟩, hS.F ht⟩) hS.2.2 dX0_range_63
        · skip
          have t_8 := fb_A_isHouse hI c_8
          refine lv_iload_n hx hb dX0_range_38 rfl (lv_at hl 2 rfl) ?_
          refine lv_iload_n hx hb dX0_range_39 rfl (lv_at hl 3 rfl) ?_
          refine pu_call (va_runS (As := [.int a2, .int a3]) (rest := []) ⟨hx, hb, hml, hown, hB⟩ (m_A_lowestOf l D h cI cZ S hI a2 a3 ) (cwS 2 hB (gS k1_229 k1_230 k1_1 k1_231) rfl rfl rfl (by decide +kernel) ⟨Nat.le_of_ble_eq_true rfl, Nat.le_of_ble_eq_true rfl⟩) ⟨pu_blind, pu_pre hP hK hN⟩ rfl rfl hl.1 rfl (lv_room (Nat.le_of_ble_eq_true rfl)) dX0_range_40 ⟨Nat.le_of_ble_eq_true rfl, Nat.le_of_ble_eq_true rfl⟩) hP hS (fun H locs hP hS => ?_)
          refine lv_iload_n hx hb dX0_range_43 rfl (lv_at hl 2 rfl) ?_
          refine lv_iload hx hb dX0_range_44 (lv_at hl 4 rfl) ?_
          refine pu_call (va_runS (As := [.int a2, .int a4]) (rest := [.int (f_A_lowestOf a2 a3)]) ⟨hx, hb, hml, hown, hB⟩ (m_A_highestOf l D h cI cZ S hI a2 a4 ) (cwS 2 hB (gS k1_238 k1_239 k1_1 k2_0) rfl rfl rfl (by decide +kernel) ⟨Nat.le_of_ble_eq_true rfl, Nat.le_of_ble_eq_true rfl⟩) ⟨pu_blind, pu_pre hP hK hN⟩ rfl rfl hl.1 rfl (lv_room (Nat.le_of_ble_eq_true rfl)) dX0_range_46 ⟨Nat.le_of_ble_eq_true rfl, Nat.le_of_ble_eq_true rfl⟩) hP hS (fun H locs hP hS => ?_)
          refine lv_icmp_gt (tgt := 61) hx hb dX0_range_49 (by decide) (fun c_11 => ?_) (fun c_11 => ?_)
          · skip
            have t_11 := Int32.lt_iff_toInt_lt.mp c_11
            refine lv_bipush (v := (-12)) hx hb dX0_range_61 (by decide) ?_
            exact W.iret (v := (-12)) hx hb hr (fun t ht hW => ⟨⟨(-12), S, rfl, ⟨(by rw [F_A_range, if_neg c_2, if_neg c_4, if_neg c_6, if_neg c_8, if_pos c_11]), hI⟩, by rw [ht]; exact hP⟩, hS.F ht⟩) hS.2.2 dX0_range_63
          · skip
            have t_11 := mt Int32.lt_iff_toInt_lt.mpr c_11
            refine lv_aload_n hx hb dX0_range_52 rfl (lv_at hl 0 rfl) ?_
            refine lv_iload hx hb dX0_range_53 (lv_at hl 5 rfl) ?_
            refine pu_call (va_runV (As := [.int a5]) (rest := []) ⟨hx, hb, hml, hown, hB⟩ (m_A_isTodayOrLater l D h cI cZ S hI a5 ) (cwV 1 hB (gV k2_1 k2_3 ks_107 k1_1 k2_4) rfl rfl rfl (by decide +kernel) ⟨Nat.le_of_ble_eq_true rfl, Nat.le_of_ble_eq_true rfl⟩) ⟨pu_blind, va_recv hK hP (ci := 0) (q0 := 0) rfl rfl, pu_pre hP hK hN⟩ rfl rfl hl.1 rfl (lv_room (Nat.le_of_ble_eq_true rfl)) dX0_range_55 ⟨Nat.le_of_ble_eq_true rfl, Nat.le_of_ble_eq_true rfl⟩) hP hS (fun H locs hP hS => ?_)
            refine lv_if_ne (tgt := 64) hx hb dX0_range_58 (by decide) (fun c_13 => ?_) (fun c_13 => ?_)
            · skip
              refine lv_aload_n hx hb dX0_range_64 rfl (lv_at hl 0 rfl) ?_
              refine va_get (D := D) (ci := 0) (v := .ref (h 2)) (C := RX0) (T := TX0) (N := 7) hx hb hB inX0 hown hK hP 0 rfl rfl 1 (by decide) (hB _ k1_150) (fun _ h9 => h9) rfl dX0_range_65 ?_
              refine lv_iload_n hx hb dX0_range_68 rfl (lv_at hl 1 rfl) ?_
              refine pu_call (va_runVN (As := [.int a1]) (rest := []) ⟨hx, hb, hml, hown, hB⟩ (m_T_isGone l D h cI cZ S hI a1 (by omega)) ⟨va_cnB 1 hB (gB k2_9) rfl rfl rfl (hN _ kn_12) (hB _ k1_3) (by decide +kernel) ⟨Nat.le_of_ble_eq_true rfl, Nat.le_of_ble_eq_true rfl⟩, hB _ k2_8, hB _ ks_110⟩ ⟨pu_blind, va_recv hK hP (ci := 2) (q0 := 2) rfl rfl, pu_pre hP hK hN⟩ rfl rfl hl.1 rfl (lv_room (Nat.le_of_ble_eq_true rfl)) dX0_range_69 ⟨Nat.le_of_ble_eq_true rfl, Nat.le_of_ble_eq_true rfl⟩) hP hS (fun H locs hP hS => ?_)
              refine lv_if_eq (tgt := 78) hx hb dX0_range_72 (by decide) (fun c_15 => ?_) (fun c_15 => ?_)
              · skip
                refine lv_aload_n hx hb dX0_range_78 rfl (lv_at hl 0 rfl) ?_
                refine va_get (D := D) (ci := 0) (v := .ref (h 3)) (C := RX0) (T := TX0) (N := 7) hx hb hB inX0 hown hK hP 0 rfl rfl 2 (by decide) (hB _ k1_151) (fun _ h9 => h9) rfl dX0_range_79 ?_
                refine lv_iconst (v := 1) hx hb dX0_range_82 (by decide) ?_
                refine pu_call (va_runVN (As := [.int 1]) (rest := []) ⟨hx, hb, hml, hown, hB⟩ (m_R_hasRoomFor l D h cI cZ S hI 1 ) ⟨va_cnB 1 hB (gB k2_13) rfl rfl rfl (hN _ kn_13) (hB _ k1_4) (by decide +kernel) ⟨Nat.le_of_ble_eq_true rfl, Nat.le_of_ble_eq_true rfl⟩, hB _ k2_12, hB _ ks_114⟩ ⟨pu_blind, va_recv hK hP (ci := 3) (q0 := 3) rfl rfl, pu_pre hP hK hN⟩ rfl rfl hl.1 rfl (lv_room (Nat.le_of_ble_eq_true rfl)) dX0_range_83 ⟨Nat.le_of_ble_eq_true rfl, Nat.le_of_ble_eq_true rfl⟩) hP hS (fun H locs hP hS => ?_)
                refine lv_if_ne (tgt := 92) hx hb dX0_range_86 (by decide) (fun c_17 => ?_) (fun c_17 => ?_)
                · skip
                  have t_17 := fb_R_hasRoomFor_1 hI c_17
                  refine lv_aload_n hx hb dX0_range_92 rfl (lv_at hl 0 rfl) ?_
                  refine va_get (D := D) (ci := 0) (v := .ref (h 3)) (C := RX0) (T := TX0) (N := 7) hx hb hB inX0 hown hK hP 0 rfl rfl 2 (by decide) (hB _ k1_151) (fun _ h9 => h9) rfl dX0_range_93 ?_
                  refine lv_iload_n hx hb dX0_range_96 rfl (lv_at hl 1 rfl) ?_
                  refine lv_iload_n hx hb dX0_range_97 rfl (lv_at hl 2 rfl) ?_
                  refine lv_iload_n hx hb dX0_range_98 rfl (lv_at hl 3 rfl) ?_
                  refine lv_iload hx hb dX0_range_99 (lv_at hl 4 rfl) ?_
                  refine pu_call (va_runVN (As := [.int a1, .int a2, .int a3, .int a4]) (rest := []) ⟨hx, hb, hml, hown, hB⟩ (m_R_leastOver l D h cI cZ S hI a1 a2 a3 a4 ) ⟨va_cnB 4 hB (gB k2_17) rfl rfl rfl (hN _ kn_14) (hB _ k1_4) (by decide +kernel) ⟨Nat.le_of_ble_eq_true rfl, Nat.le_of_ble_eq_true rfl⟩, hB _ k2_16, hB _ ks_46⟩ ⟨pu_blind, va_recv hK hP (ci := 3) (q0 := 3) rfl rfl, pu_pre hP hK hN⟩ rfl rfl hl.1 rfl (lv_room (Nat.le_of_ble_eq_true rfl)) dX0_range_101 ⟨Nat.le_of_ble_eq_true rfl, Nat.le_of_ble_eq_true rfl⟩) hP hS (fun H locs hP hS => ?_)
                  refine lv_istore (lv' := [(6, .int (f_R_leastOver S a1 a2 a3 a4)), (0, .ref (h 0)), (1, .int a1), (2, .int a2), (3, .int a3), (4, .int a4), (5, .int a5)]) hx hb dX0_range_104 hl (by decide) rfl (fun ls hl => ?_)
                  refine lv_iload hx hb dX0_range_106 (lv_at hl 0 rfl) ?_
                  refine lv_iconst (v := (-1)) hx hb dX0_range_108 (by decide) ?_
                  refine lv_icmp_eq (tgt := 119) hx hb dX0_range_109 (by decide) (fun c_19 => ?_) (fun c_19 => ?_)
                  · skip
                    have z_m1 : ((-1) : Int32).toInt = (-1) := by decide
                    have t_19 := Int32.toInt_inj.symm.mp c_19
                    refine lv_aload_n hx hb dX0_range_119 rfl (lv_at hl 1 rfl) ?_
                    refine lv_iload hx hb dX0_range_120 (lv_at hl 6 rfl) ?_
                    refine va_put (D := D) (ci := 0) (v := .int a5) (ty := .int) (C := RX0) (T := TX0) (N := 7) hx hb hB inX0 tyX0 tyX0_ok nmX0 hown hK hP hD hS 0 rfl rfl 6 (by decide) (hB _ k1_155) (fun _ h9 => h9) rfl (by decide +kernel) rfl rfl (Nat.le_of_ble_eq_true rfl) dX0_range_122 (fun H locs hP hD hS => ?_)
                    have hP : va_P D vwCl (wB h cI cZ (upS S 27 0 a5)) H := hP
                    have hD : va_D (bA h) (wB h cI cZ (upS S 27 0 a5)) := hD
                    have hI_20 : IV (upS S 27 0 a5) := iv_up (S := S) hI 27 0 a5 (iv_none 27 rfl)
                    refine lv_aload_n hx hb dX0_range_125 rfl (lv_at hl 1 rfl) ?_
                    refine va_get (D := D) (ci := 0) (v := .ref (h 3)) (C := RX0) (T := TX0) (N := 7) hx hb hB inX0 hown hK hP 0 rfl rfl 2 (by decide) (hB _ k1_151) (fun _ h9 => h9) rfl dX0_range_126 ?_
                    refine lv_iload_n hx hb dX0_range_129 rfl (lv_at hl 2 rfl) ?_
                    refine lv_iload_n hx hb dX0_range_130 rfl (lv_at hl 3 rfl) ?_
                    refine lv_iload_n hx hb dX0_range_131 rfl (lv_at hl 4 rfl) ?_
                    refine lv_iload hx hb dX0_range_132 (lv_at hl 5 rfl) ?_
                    refine wr_call (va_runVN (As := [.int a1, .int a2, .int a3, .int a4]) (rest := []) ⟨hx, hb, hml, hown, hB⟩ (m_R_add l D h cI cZ (upS S 27 0 a5) hI_20 a1 a2 a3 a4 (show (S 24 0).toInt < 80 by omega) (by omega) (by omega) (by omega)) ⟨va_cnB 4 hB (gB k2_37) rfl rfl rfl (hN _ kn_15) (hB _ k1_4) (by decide +kernel) ⟨Nat.le_of_ble_eq_true rfl, Nat.le_of_ble_eq_true rfl⟩, hB _ k2_36, hB _ ks_117⟩ ⟨wr_blind, va_recv hK hP (ci := 3) (q0 := 3) rfl rfl, wr_pre hP hK hN hD⟩ rfl rfl hl.1 rfl (lv_room (Nat.le_of_ble_eq_true rfl)) dX0_range_134 ⟨Nat.le_of_ble_eq_true rfl, Nat.le_of_ble_eq_true rfl⟩) hS (fun H locs hP hI_21 hS => ?_)
                    have hD := wD (S2 := (F_R_add (upS S 27 0 a5) a1 a2 a3 a4).2) hD
                    exact W.iret (v := (F_R_add (upS S 27 0 a5) a1 a2 a3 a4).1) hx hb hr (fun t ht hW => ⟨⟨(F_R_add (upS S 27 0 a5) a1 a2 a3 a4).1, (F_R_add (upS S 27 0 a5) a1 a2 a3 a4).2, rfl, ⟨(by rw [F_A_range, if_neg c_2, if_neg c_4, if_neg c_6, if_neg c_8, if_neg c_11, if_neg c_13, if_pos c_15, if_neg c_17, if_pos c_19]), hI_21⟩, by rw [ht]; exact hP⟩, hS.F ht⟩) hS.2.2 dX0_range_137
                  · skip
                    have z_m1 : ((-1) : Int32).toInt = (-1) := by decide
                    have t_19 := mt Int32.toInt_inj.mp c_19
                    refine lv_sipush (v := (-200)) hx hb dX0_range_112 (by decide) ?_
                    refine lv_iload hx hb dX0_range_115 (lv_at hl 0 rfl) ?_
                    refine lv_isub hx hb dX0_range_117 ?_
                    exact W.iret (v := (-200) - (f_R_leastOver S a1 a2 a3 a4)) hx hb hr (fun t ht hW => ⟨⟨(-200) - (f_R_leastOver S a1 a2 a3 a4), S, rfl, ⟨(by rw [F_A_range, if_neg c_2, if_neg c_4, if_neg c_6, if_neg c_8, if_neg c_11, if_neg c_13, if_pos c_15, if_neg c_17, if_neg c_19]), hI⟩, by rw [ht]; exact hP⟩, hS.F ht⟩) hS.2.2 dX0_range_118
                · skip
                  refine lv_bipush (v := (-14)) hx hb dX0_range_89 (by decide) ?_
                  exact W.iret (v := (-14)) hx hb hr (fun t ht hW => ⟨⟨(-14), S, rfl, ⟨(by rw [F_A_range, if_neg c_2, if_neg c_4, if_neg c_6, if_neg c_8, if_neg c_11, if_neg c_13, if_pos c_15, if_pos c_17]), hI⟩, by rw [ht]; exact hP⟩, hS.F ht⟩) hS.2.2 dX0_range_91
              · skip
                refine lv_bipush (v := (-13)) hx hb dX0_range_75 (by decide) ?_
                exact W.iret (v := (-13)) hx hb hr (fun t ht hW => ⟨⟨(-13), S, rfl, ⟨(by rw [F_A_range, if_neg c_2, if_neg c_4, if_neg c_6, if_neg c_8, if_neg c_11, if_neg c_13, if_neg c_15]), hI⟩, by rw [ht]; exact hP⟩, hS.F ht⟩) hS.2.2 dX0_range_77
            · skip
              refine lv_bipush (v := (-12)) hx hb dX0_range_61 (by decide) ?_
              exact W.iret (v := (-12)) hx hb hr (fun t ht hW => ⟨⟨(-12), S, rfl, ⟨(by rw [F_A_range, if_neg c_2, if_neg c_4, if_neg c_6, if_neg c_8, if_neg c_11, if_pos c_13]), hI⟩, by rw [ht]; exact hP⟩, hS.F ht⟩) hS.2.2 dX0_range_63
  · skip
    refine lv_bipush (v := (-11)) hx hb dX0_range_11 (by decide) ?_
    exact W.iret (v := (-11)) hx hb hr (fun t ht hW => ⟨⟨(-11), S, rfl, ⟨(by rw [F_A_range, if_pos c_2]), hI⟩, by rw [ht]; exact hP⟩, hS.F ht⟩) hS.2.2 dX0_range_13
set_option maxHeartbeats 4000000 in
set_option maxRecDepth 100000 in
theorem m_A_isExtra (l : Launch) (D : va_G) (h : Nat → Nat) (cI cZ : ClassId) (S : BS) (hI : IV S) (a1 : Int32) : PM l yX0_isExtra wsX0_isExtra { frames := 1, cells := 0, slots := 0, locals := 22 } D cI cZ h S [.int a1] (f_A_isExtra a1) := by
  refine Met.ofW (cc := cX0_isExtra) (maxL := 1) (ret := (some .boolean)) (by decide) rfl ?_
  intro p e s m args below meth c s₁ B hml hv
  obtain ⟨rfl, hP, hK, hN⟩ := hv
  have hx := B.exec
  have hb := B.bytes
  have hr := B.returns
  have hts := atoms_spec (ws := wsX0_isExtra) B.pre
  have hB : ∀ w ∈ BW, w.before _ s = true := fun w h => hts w (List.mem_cons_of_mem _ h)
  have hown : s.vm.findClass RX0 = some m.cls := findClass_of_methodNamed B.named
  have hlocks := B.notSynchronized
  have hS : va_S (fun _ => False) s.heap s.heap [] := va_S.rf
  have hl := lv_entry ([.int a1]) (n := 1) (Nat.le_of_ble_eq_true rfl)
  rw [lg_entry_eq]
  generalize (lg_sl ([.int a1]) ++ List.replicate (1 - (lg_sl ([.int a1])).length) Slot.unset).toArray = ls at hl ⊢
  have hl : lv_has ls 1 [(0, .int a1)] := hl
  refine lv_iload_n hx hb dX0_isExtra_0 rfl (lv_at hl 0 rfl) ?_
  refine lv_iconst (v := 0) hx hb dX0_isExtra_1 (by decide) ?_
  refine lv_bipush (v := 25) hx hb dX0_isExtra_2 (by decide) ?_
  refine pu_call (va_runS (As := [.int a1, .int 0, .int 25]) (rest := []) ⟨hx, hb, hml, hown, hB⟩ (m_A_isWithin l D h cI cZ S hI a1 0 25 ) (cwS 3 hB (gS k1_176 k1_177 k1_1 k1_178) rfl rfl rfl (by decide +kernel) ⟨Nat.le_of_ble_eq_true rfl, Nat.le_of_ble_eq_true rfl⟩) ⟨pu_blind, pu_pre hP hK hN⟩ rfl rfl hl.1 rfl (lv_room (Nat.le_of_ble_eq_true rfl)) dX0_isExtra_4 ⟨Nat.le_of_ble_eq_true rfl, Nat.le_of_ble_eq_true rfl⟩) hP hS (fun H locs hP hS => ?_)
  exact W.zret (v := f_A_isWithin a1 0 25) hx hb hr (nb01 (z01_A_isWithin)) (fun t ht hW => ⟨⟨f_A_isWithin a1 0 25, (), rfl, (by rw [f_A_isExtra]), trivial⟩, hS.F ht⟩) hS.2.2 dX0_isExtra_7
set_option maxHeartbeats 4000000 in
set_option maxRecDepth 100000 in
theorem m_A_houseNow (l : Launch) (D : va_G) (h : Nat → Nat) (cI cZ : ClassId) (S : BS) (hI : IV S) (a1 : Int32) (ha0 : 0 ≤ a1.toInt ∧ a1.toInt ≤ 119) : PM l yX0_houseNow wsX0_houseNow { frames := 0, cells := 0, slots := 0, locals := 0 } D cI cZ h S [.ref (h 0), .int a1] (f_A_houseNow S a1) := by
  refine Met.ofW (cc := cX0_houseNow) (maxL := 2) (ret := (some .int)) (by decide) rfl ?_
  intro p e s m args below meth c s₁ B hml hv
  obtain ⟨rfl, hP, hK, hN⟩ := hv
  have hx := B.exec
  have hb := B.bytes
  have hr := B.returns
  have hts := atoms_spec (ws := wsX0_houseNow) B.pre
  have hB : ∀ w ∈ BW, w.before _ s = true := fun w h => hts w (List.mem_cons_of_mem _ h)
  have hown : s.vm.findClass RX0 = some m.cls := findClass_of_methodNamed B.named
  have hlocks := B.notSynchronized
  have hS : va_S (fun _ => False) s.heap s.heap [] := va_S.rf
  have hl := lv_entry ([.ref (h 0), .int a1]) (n := 2) (Nat.le_of_ble_eq_true rfl)
  rw [lg_entry_eq]
  generalize (lg_sl ([.ref (h 0), .int a1]) ++ List.replicate (2 - (lg_sl ([.ref (h 0), .int a1])).length) Slot.unset).toArray = ls at hl ⊢
  have hl : lv_has ls 2 [(0, .ref (h 0)), (1, .int a1)] := hl
  refine lv_aload_n hx hb dX0_houseNow_0 rfl (lv_at hl 0 rfl) ?_
  refine va_get (D := D) (ci := 0) (v := .ref (h 5)) (C := RX0) (T := TX0) (N := 7) hx hb hB inX0 hown hK hP 0 rfl rfl 4 (by decide) (hB _ k1_153) (fun _ h9 => h9) rfl dX0_houseNow_1 ?_
  refine va_getN (D := D) (ci := 5) (v := .ref (h 23)) (C := RX5) (T := TX5) (N := 6) hx hb hB inX5 hown hK hP 5 rfl rfl 1 (by decide) (va_Nw.use rfl (hN _ kn_16)) (fun _ h9 => h9) rfl dX0_houseNow_4 ?_
  refine lv_aload_n hx hb dX0_houseNow_7 rfl (lv_at hl 0 rfl) ?_
  refine va_get (D := D) (ci := 0) (v := .ref (h 4)) (C := RX0) (T := TX0) (N := 7) hx hb hB inX0 hown hK hP 0 rfl rfl 3 (by decide) (hB _ k1_152) (fun _ h9 => h9) rfl dX0_houseNow_8 ?_
  refine va_getN (D := D) (ci := 4) (v := .ref (h 20)) (C := RX4) (T := TX4) (N := 6) hx hb hB inX4 hown hK hP 4 rfl rfl 3 (by decide) (va_Nw.use rfl (hN _ kn_17)) (fun _ h9 => h9) rfl dX0_houseNow_11 ?_
  refine lv_iload_n hx hb dX0_houseNow_14 rfl (lv_at hl 1 rfl) ?_
  refine va_iald (f := S 14) hx hb hK hP 20 0 rfl rfl (vp_in_iff.mpr (by omega)) dX0_houseNow_15 ?_
  have b_1 : (0) ≤ (S 14 a1.toNatClampNeg).toInt ∧ (S 14 a1.toNatClampNeg).toInt ≤ 511 := iv_14 hI a1.toNatClampNeg
  refine va_iald (f := S 17) hx hb hK hP 23 0 rfl rfl (vp_in_iff.mpr (by omega)) dX0_houseNow_16 ?_
  have b_2 : (0) ≤ (S 17 (S 14 a1.toNatClampNeg).toNatClampNeg).toInt ∧ (S 17 (S 14 a1.toNatClampNeg).toNatClampNeg).toInt ≤ 999 := iv_17 hI ((S 14 a1.toNatClampNeg).toNatClampNeg)
  exact W.iret (v := S 17 (S 14 a1.toNatClampNeg).toNatClampNeg) hx hb hr (fun t ht hW => ⟨⟨S 17 (S 14 a1.toNatClampNeg).toNatClampNeg, (), rfl, (by rw [f_A_houseNow]), trivial⟩, hS.F ht⟩) hS.2.2 dX0_houseNow_17
set_option maxHeartbeats 4000000 in
set_option maxRecDepth 100000 in
theorem m_A_isTaken (l : Launch) (D : va_G) (h : Nat → Nat) (cI cZ : ClassId) (S : BS) (hI : IV S) (a1 a2 a3 : Int32) : PM l yX0_isTaken wsX0_isTaken { frames := 1, cells := 0, slots := 0, locals := 21 } D cI cZ h S [.ref (h 0), .int a1, .int a2, .int a3] (f_A_isTaken S a1 a2 a3) := by
  refine Met.ofW (cc := cX0_isTaken) (maxL := 5) (ret := (some .boolean)) (by decide) rfl ?_
  intro p e s m args below meth c s₁ B hml hv
  obtain ⟨rfl, hP, hK, hN⟩ := hv
  have hx := B.exec
  have hb := B.bytes
  have hr := B.returns
  have hts := atoms_spec (ws := wsX0_isTaken) B.pre
  have hB : ∀ w ∈ BW, w.before _ s = true := fun w h => hts w (List.mem_cons_of_mem _ h)
  have hown : s.vm.findClass RX0 = some m.cls := findClass_of_methodNamed B.named
  have hlocks := B.notSynchronized
  have hS : va_S (fun _ => False) s.heap s.heap [] := va_S.rf
  have hl := lv_entry ([.ref (h 0), .int a1, .int a2, .int a3]) (n := 5) (Nat.le_of_ble_eq_true rfl)
  rw [lg_entry_eq]
  generalize (lg_sl ([.ref (h 0), .int a1, .int a2, .int a3]) ++ List.replicate (5 - (lg_sl ([.ref (h 0), .int a1, .int a2, .int a3])).length) Slot.unset).toArray = ls at hl ⊢
  have hl : lv_has ls 5 [(0, .ref (h 0)), (1, .int a1), (2, .int a2), (3, .int a3)] := hl
  refine lv_iconst (v := 0) hx hb dX0_isTaken_0 (by decide) ?_
  refine lv_istore (lv' := [(4, .int 0), (0, .ref (h 0)), (1, .int a1), (2, .int a2), (3, .int a3)]) hx hb dX0_isTaken_1 hl (by decide) rfl (fun ls hl => ?_)
  have loop3 : ∀ (n : Nat) (x4 : Int32) (H : Heap) (locs : List Loc) (ls : Array Slot), (0 ≤ x4.toInt ∧ x4.toInt ≤ (S 25 0 : Int32).toInt ∧ (S 25 0 : Int32).toInt - x4.toInt < (n : Int) ∧ True) → l_A_isTaken_3 S a1 a2 a3 n x4 = f_A_isTaken S a1 a2 a3 → va_P D vwCl (wB h cI cZ S) H → va_S (fun _ => False) s.heap H locs → lv_has ls 5 [(0, .ref (h 0)), (1, .int a1), (2, .int a2), (3, .int a3), (4, .int x4)] → W p l e (headSpec wsX0_isTaken { frames := 1, cells := 0, slots := 0, locals := 21 }).room s m ([.ref (h 0), .int a1, .int a2, .int a3]).toArray below meth c H locs 0 0 (MQ below (PQ (f_A_isTaken S a1 a2 a3)) ([.ref (h 0), .int a1, .int a2, .int a3]).toArray s 0 0 (fun _ => False)) (F0 m 3 ls []) := by
    intro n
    induction n with
    | zero =>
      intro x4 H locs ls hinv he hP hS hl
      obtain ⟨h0, hle, hm, hex⟩ := hinv
      exact absurd hm (by omega)
    | succ n ih =>
      intro x4 H locs ls hinv he hP hS hl
      obtain ⟨h0, hle, hm, hex⟩ := hinv
      have hB := iv_25 hI
      refine lv_iload hx hb dX0_isTaken_3 (lv_at hl 4 rfl) ?_
      refine lv_aload_n hx hb dX0_isTaken_5 rfl (lv_at hl 0 rfl) ?_
      refine va_get (D := D) (ci := 0) (v := .ref (h 4)) (C := RX0) (T := TX0) (N := 7) hx hb hB inX0 hown hK hP 0 rfl rfl 3 (by decide) (hB _ k1_152) (fun _ h9 => h9) rfl dX0_isTaken_6 ?_
      refine va_getN (D := D) (ci := 4) (v := .int (S 25 0)) (C := RX4) (T := TX4) (N := 6) hx hb hB inX4 hown hK hP 4 rfl rfl 5 (by decide) (va_Nw.use rfl (hN _ kn_18)) (fun _ h9 => h9) rfl dX0_isTaken_9 ?_
      have b_1 : (0) ≤ (S 25 0).toInt ∧ (S 25 0).toInt ≤ 120 := iv_25 hI
      refine lv_icmp_ge (tgt := 74) hx hb dX0_isTaken_12 (by decide) (fun c_2 => ?_) (fun c_2 => ?_)
      · skip
        have t_2 := Int32.le_iff_toInt_le.mp c_2
        refine lv_iconst (v := 0) hx hb dX0_isTaken_74 (by decide) ?_
        exact W.zret (v := 0) hx hb hr (by decide) (fun t ht hW => ⟨⟨0, (), rfl, (by rw [← he, l_A_isTaken_3, if_pos c_2]), trivial⟩, hS.F ht⟩) hS.2.2 dX0_isTaken_75
      · skip
        have t_2 := mt Int32.le_iff_toInt_le.mpr c_2
        refine lv_aload_n hx hb dX0_isTaken_15 rfl (lv_at hl 0 rfl) ?_
        refine va_get (D := D) (ci := 0) (v := .ref (h 4)) (C := RX0) (T := TX0) (N := 7) hx hb hB inX0 hown hK hP 0 rfl rfl 3 (by decide) (hB _ k1_152) (fun _ h9 => h9) rfl dX0_isTaken_16 ?_
        refine va_getN (D := D) (ci := 4) (v := .ref (h 21)) (C := RX4) (T := TX4) (N := 6) hx hb hB inX4 hown hK hP 4 rfl rfl 4 (by decide) (va_Nw.use rfl (hN _ kn_19)) (fun _ h9 => h9) rfl dX0_isTaken_19 ?_
        refine lv_iload hx hb dX0_isTaken_22 (lv_at hl 4 rfl) ?_
        refine va_zald (f := S 15) hx hb hK hP 21 1 rfl rfl (vp_in_iff.mpr (by omega)) dX0_isTaken_24 ?_
        have b_3 : (0) ≤ (S 15 x4.toNatClampNeg).toInt ∧ (S 15 x4.toNatClampNeg).toInt ≤ 1 := iv_15 hI x4.toNatClampNeg
        refine lv_if_eq (tgt := 68) hx hb dX0_isTaken_25 (by decide) (fun c_4 => ?_) (fun c_4 => ?_)
        · skip
          have z_0 : ((0) : Int32).toInt = (0) := by decide
          have t_4 := Int32.toInt_inj.symm.mp c_4
          refine lv_iinc (v := x4 + 1) (lv' := [(4, .int (x4 + 1)), (0, .ref (h 0)), (1, .int a1), (2, .int a2), (3, .int a3)]) hx hb dX0_isTaken_68 hl (k := 4) rfl rfl (by decide) rfl (fun ls hl => ?_)
          refine lv_goto (tgt := 3) hx hb dX0_isTaken_71 (by decide) ?_
          have hinc := i32_inc (x := x4) h0 (by omega)
          exact ih (x4 + 1) _ _ _ ⟨by omega, by omega, by omega, trivial⟩ (by rw [← he, l_A_isTaken_3, if_neg c_2, if_pos c_4]) hP hS (lv_sub hl [1, 2, 3, 4, 0] rfl)
        · skip
          have z_0 : ((0) : Int32).toInt = (0) := by decide
          have t_4 := mt Int32.toInt_inj.mp c_4
          refine lv_aload_n hx hb dX0_isTaken_28 rfl (lv_at hl 0 rfl) ?_
          refine va_get (D := D) (ci := 0) (v := .ref (h 4)) (C := RX0) (T := TX0) (N := 7) hx hb hB inX0 hown hK hP 0 rfl rfl 3 (by decide) (hB _ k1_152) (fun _ h9 => h9) rfl dX0_isTaken_29 ?_
          refine va_getN (D := D) (ci := 4) (v := .ref (h 17)) (C := RX4) (T := TX4) (N := 6) hx hb hB inX4 hown hK hP 4 rfl rfl 0 (by decide) (va_Nw.use rfl (hN _ kn_20)) (fun _ h9 => h9) rfl dX0_isTaken_32 ?_
          refine lv_iload hx hb dX0_isTaken_35 (lv_at hl 4 rfl) ?_
          refine va_iald (f := S 11) hx hb hK hP 17 0 rfl rfl (vp_in_iff.mpr (by omega)) dX0_isTaken_37 ?_
          have b_5 : (0) ≤ (S 11 x4.toNatClampNeg).toInt ∧ (S 11 x4.toNatClampNeg).toInt ≤ 79 := iv_11 hI x4.toNatClampNeg
          refine lv_iload_n hx hb dX0_isTaken_38 rfl (lv_at hl 1 rfl) ?_
          refine lv_icmp_ne (tgt := 68) hx hb dX0_isTaken_39 (by decide) (fun c_6 => ?_) (fun c_6 => ?_)
          · skip
            refine lv_iinc (v := x4 + 1) (lv' := [(4, .int (x4 + 1)), (0, .ref (h 0)), (1, .int a1), (2, .int a2), (3, .int a3)]) hx hb dX0_isTaken_68 hl (k := 4) rfl rfl (by decide) rfl (fun ls hl => ?_)
            refine lv_goto (tgt := 3) hx hb dX0_isTaken_71 (by decide) ?_
            have hinc := i32_inc (x := x4) h0 (by omega)
            exact ih (x4 + 1) _ _ _ ⟨by omega, by omega, by omega, trivial⟩ (by rw [← he, l_A_isTaken_3, if_neg c_2, if_neg c_4, if_neg c_6]) hP hS (lv_sub hl [1, 2, 3, 4, 0] rfl)
          · skip
            refine lv_aload_n hx hb dX0_isTaken_42 rfl (lv_at hl 0 rfl) ?_
            refine va_get (D := D) (ci := 0) (v := .ref (h 4)) (C := RX0) (T := TX0) (N := 7) hx hb hB inX0 hown hK hP 0 rfl rfl 3 (by decide) (hB _ k1_152) (fun _ h9 => h9) rfl dX0_isTaken_43 ?_
            refine va_getN (D := D) (ci := 4) (v := .ref (h 19)) (C := RX4) (T := TX4) (N := 6) hx hb hB inX4 hown hK hP 4 rfl rfl 2 (by decide) (va_Nw.use rfl (hN _ kn_21)) (fun _ h9 => h9) rfl dX0_isTaken_46 ?_
            refine lv_iload hx hb dX0_isTaken_49 (lv_at hl 4 rfl) ?_
            refine va_iald (f := S 13) hx hb hK hP 19 0 rfl rfl (vp_in_iff.mpr (by omega)) dX0_isTaken_51 ?_
            refine lv_iload_n hx hb dX0_isTaken_52 rfl (lv_at hl 3 rfl) ?_
            refine lv_icmp_ne (tgt := 68) hx hb dX0_isTaken_53 (by decide) (fun c_7 => ?_) (fun c_7 => ?_)
            · skip
              refine lv_iinc (v := x4 + 1) (lv' := [(4, .int (x4 + 1)), (0, .ref (h 0)), (1, .int a1), (2, .int a2), (3, .int a3)]) hx hb dX0_isTaken_68 hl (k := 4) rfl rfl (by decide) rfl (fun ls hl => ?_)
              refine lv_goto (tgt := 3) hx hb dX0_isTaken_71 (by decide) ?_
              have hinc := i32_inc (x := x4) h0 (by omega)
              exact ih (x4 + 1) _ _ _ ⟨by omega, by omega, by omega, trivial⟩ (by rw [← he, l_A_isTaken_3, if_neg c_2, if_neg c_4, if_pos c_6, if_neg c_7]) hP hS (lv_sub hl [1, 2, 3, 4, 0] rfl)
            · skip
              refine lv_aload_n hx hb dX0_isTaken_56 rfl (lv_at hl 0 rfl) ?_
              refine lv_iload hx hb dX0_isTaken_57 (lv_at hl 4 rfl) ?_
              refine pu_call (va_runV (As := [.int x4]) (rest := []) ⟨hx, hb, hml, hown, hB⟩ (m_A_houseNow l D h cI cZ S hI x4 (by omega)) (cwV 1 hB (gV k2_59 k2_61 ks_123 k1_1 k2_62) rfl rfl rfl (by decide +kernel) ⟨Nat.le_of_ble_eq_true rfl, Nat.le_of_ble_eq_true rfl⟩) ⟨pu_blind, va_recv hK hP (ci := 0) (q0 := 0) rfl rfl, pu_pre hP hK hN⟩ rfl rfl hl.1 rfl (lv_room (Nat.le_of_ble_eq_true rfl)) dX0_isTaken_59 ⟨Nat.le_of_ble_eq_true rfl, Nat.le_of_ble_eq_true rfl⟩) hP hS (fun H locs hP hS => ?_)
              have k_8 := fc_A_houseNow hI x4
              refine lv_iload_n hx hb dX0_isTaken_62 rfl (lv_at hl 2 rfl) ?_
              refine lv_icmp_ne (tgt := 68) hx hb dX0_isTaken_63 (by decide) (fun c_9 => ?_) (fun c_9 => ?_)
              · skip
                refine lv_iinc (v := x4 + 1) (lv' := [(4, .int (x4 + 1)), (0, .ref (h 0)), (1, .int a1), (2, .int a2), (3, .int a3)]) hx hb dX0_isTaken_68 hl (k := 4) rfl rfl (by decide) rfl (fun ls hl => ?_)
                refine lv_goto (tgt := 3) hx hb dX0_isTaken_71 (by decide) ?_
                have hinc := i32_inc (x := x4) h0 (by omega)
                exact ih (x4 + 1) _ _ _ ⟨by omega, by omega, by omega, trivial⟩ (by rw [← he, l_A_isTaken_3, if_neg c_2, if_neg c_4, if_pos c_6, if_pos c_7, if_neg c_9]) hP hS (lv_sub hl [1, 2, 3, 4, 0] rfl)
              · skip
                refine lv_iconst (v := 1) hx hb dX0_isTaken_66 (by decide) ?_
                exact W.zret (v := 1) hx hb hr (by decide) (fun t ht hW => ⟨⟨1, (), rfl, (by rw [← he, l_A_isTaken_3, if_neg c_2, if_neg c_4, if_pos c_6, if_pos c_7, if_pos c_9]), trivial⟩, hS.F ht⟩) hS.2.2 dX0_isTaken_67
  have hB9 := iv_25 hI
  have z_0 : ((0) : Int32).toInt = (0) := by decide
  exact loop3 600 0 _ _ _ ⟨by omega, by omega, by omega, trivial⟩ (by rw [f_A_isTaken]) hP hS (lv_sub hl [1, 2, 3, 4, 0] rfl)
set_option maxHeartbeats 4000000 in
set_option maxRecDepth 100000 in
theorem m_A_point (l : Launch) (D : va_G) (h : Nat → Nat) (cI cZ : ClassId) (S : BS) (hI : IV S) (a1 a2 a3 : Int32) : WM l yX0_point wsX0_point { frames := 3, cells := 0, slots := 0, locals := 63 } D cI cZ h S [.ref (h 0), .int a1, .int a2, .int a3] (F_A_point S a1 a2 a3) := by
  refine Met.ofW (cc := cX0_point) (maxL := 5) (ret := (some .int)) (by decide) rfl ?_
  intro p e s m args below meth c s₁ B hml hv
  obtain ⟨rfl, hP, hK, hN, hD0⟩ := hv
  have hx := B.exec
  have hb := B.bytes
  have hr := B.returns
  have hts := atoms_spec (ws := wsX0_point) B.pre
  have hB : ∀ w ∈ BW, w.before _ s = true := fun w h => hts w (List.mem_cons_of_mem _ h)
  have hown : s.vm.findClass RX0 = some m.cls := findClass_of_methodNamed B.named
  have hlocks := B.notSynchronized
  have hD := bD hD0
  have hS : va_S (bA h) s.heap s.heap [] := va_S.rf
  have hl := lv_entry ([.ref (h 0), .int a1, .int a2, .int a3]) (n := 5) (Nat.le_of_ble_eq_true rfl)
  rw [lg_entry_eq]
  generalize (lg_sl ([.ref (h 0), .int a1, .int a2, .int a3]) ++ List.replicate (5 - (lg_sl ([.ref (h 0), .int a1, .int a2, .int a3])).length) Slot.unset).toArray = ls at hl ⊢
  have hl : lv_has ls 5 [(0, .ref (h 0)), (1, .int a1), (2, .int a2), (3, .int a3)] := hl
  refine lv_aload_n hx hb dX0_point_0 rfl (lv_at hl 0 rfl) ?_
  refine va_get (D := D) (ci := 0) (v := .ref (h 3)) (C := RX0) (T := TX0) (N := 7) hx hb hB inX0 hown hK hP 0 rfl rfl 2 (by decide) (hB _ k1_151) (fun _ h9 => h9) rfl dX0_point_1 ?_
  refine lv_iload_n hx hb dX0_point_4 rfl (lv_at hl 1 rfl) ?_
  refine pu_call (va_runVN (As := [.int a1]) (rest := []) ⟨hx, hb, hml, hown, hB⟩ (m_R_has l D h cI cZ S hI a1 ) ⟨va_cnB 1 hB (gB k2_45) rfl rfl rfl (hN _ kn_22) (hB _ k1_4) (by decide +kernel) ⟨Nat.le_of_ble_eq_true rfl, Nat.le_of_ble_eq_true rfl⟩, hB _ k2_44, hB _ ks_126⟩ ⟨pu_blind, va_recv hK hP (ci := 3) (q0 := 3) rfl rfl, pu_pre hP hK hN⟩ rfl rfl hl.1 rfl (lv_room (Nat.le_of_ble_eq_true rfl)) dX0_point_5 ⟨Nat.le_of_ble_eq_true rfl, Nat.le_of_ble_eq_true rfl⟩) hP hS (fun H locs hP hS => ?_)
  refine lv_if_ne (tgt := 14) hx hb dX0_point_8 (by decide) (fun c_2 => ?_) (fun c_2 => ?_)
  · skip
    have t_2 := fb_R_has hI c_2
    refine lv_aload_n hx hb dX0_point_14 rfl (lv_at hl 0 rfl) ?_
    refine va_get (D := D) (ci := 0) (v := .ref (h 3)) (C := RX0) (T := TX0) (N := 7) hx hb hB inX0 hown hK hP 0 rfl rfl 2 (by decide) (hB _ k1_151) (fun _ h9 => h9) rfl dX0_point_15 ?_
    refine lv_iload_n hx hb dX0_point_18 rfl (lv_at hl 1 rfl) ?_
    refine lv_iload_n hx hb dX0_point_19 rfl (lv_at hl 2 rfl) ?_
    refine pu_call (va_runVN (As := [.int a1, .int a2]) (rest := []) ⟨hx, hb, hml, hown, hB⟩ (m_R_holds l D h cI cZ S hI a1 a2 (by omega)) ⟨va_cnB 2 hB (gB k2_49) rfl rfl rfl (hN _ kn_23) (hB _ k1_4) (by decide +kernel) ⟨Nat.le_of_ble_eq_true rfl, Nat.le_of_ble_eq_true rfl⟩, hB _ k2_48, hB _ ks_129⟩ ⟨pu_blind, va_recv hK hP (ci := 3) (q0 := 3) rfl rfl, pu_pre hP hK hN⟩ rfl rfl hl.1 rfl (lv_room (Nat.le_of_ble_eq_true rfl)) dX0_point_20 ⟨Nat.le_of_ble_eq_true rfl, Nat.le_of_ble_eq_true rfl⟩) hP hS (fun H locs hP hS => ?_)
    refine lv_if_eq (tgt := 33) hx hb dX0_point_23 (by decide) (fun c_4 => ?_) (fun c_4 => ?_)
    · skip
      refine lv_bipush (v := (-12)) hx hb dX0_point_33 (by decide) ?_
      exact W.iret (v := (-12)) hx hb hr (fun t ht hW => ⟨⟨(-12), S, rfl, ⟨(by rw [F_A_point, if_neg c_2, if_pos c_4]), hI⟩, by rw [ht]; exact hP⟩, hS.F ht⟩) hS.2.2 dX0_point_35
    · skip
      have t_4 := fb_R_holds hI c_4
      refine lv_iload_n hx hb dX0_point_26 rfl (lv_at hl 3 rfl) ?_
      refine pu_call (va_runS (As := [.int a3]) (rest := []) ⟨hx, hb, hml, hown, hB⟩ (m_A_isExtra l D h cI cZ S hI a3 ) (cwS 1 hB (gS k2_52 k2_53 k1_1 k2_54) rfl rfl rfl (by decide +kernel) ⟨Nat.le_of_ble_eq_true rfl, Nat.le_of_ble_eq_true rfl⟩) ⟨pu_blind, pu_pre hP hK hN⟩ rfl rfl hl.1 rfl (lv_room (Nat.le_of_ble_eq_true rfl)) dX0_point_27 ⟨Nat.le_of_ble_eq_true rfl, Nat.le_of_ble_eq_true rfl⟩) hP hS (fun H locs hP hS => ?_)
      refine lv_if_ne (tgt := 36) hx hb dX0_point_30 (by decide) (fun c_6 => ?_) (fun c_6 => ?_)
      · skip
        refine lv_aload_n hx hb dX0_point_36 rfl (lv_at hl 0 rfl) ?_
        refine va_get (D := D) (ci := 0) (v := .ref (h 3)) (C := RX0) (T := TX0) (N := 7) hx hb hB inX0 hown hK hP 0 rfl rfl 2 (by decide) (hB _ k1_151) (fun _ h9 => h9) rfl dX0_point_37 ?_
        refine va_getN (D := D) (ci := 3) (v := .ref (h 16)) (C := RX3) (T := TX3) (N := 6) hx hb hB inX3 hown hK hP 3 rfl rfl 4 (by decide) (va_Nw.use rfl (hN _ kn_24)) (fun _ h9 => h9) rfl dX0_point_40 ?_
        refine lv_iload_n hx hb dX0_point_43 rfl (lv_at hl 1 rfl) ?_
        refine va_zald (f := S 10) hx hb hK hP 16 1 rfl rfl (vp_in_iff.mpr (by omega)) dX0_point_44 ?_
        have b_7 : (0) ≤ (S 10 a1.toNatClampNeg).toInt ∧ (S 10 a1.toNatClampNeg).toInt ≤ 1 := iv_10 hI a1.toNatClampNeg
        refine lv_if_eq (tgt := 58) hx hb dX0_point_45 (by decide) (fun c_8 => ?_) (fun c_8 => ?_)
        · skip
          have z_0 : ((0) : Int32).toInt = (0) := by decide
          have t_8 := Int32.toInt_inj.symm.mp c_8
          refine lv_bipush (v := (-13)) hx hb dX0_point_58 (by decide) ?_
          exact W.iret (v := (-13)) hx hb hr (fun t ht hW => ⟨⟨(-13), S, rfl, ⟨(by rw [F_A_point, if_neg c_2, if_neg c_4, if_neg c_6, if_pos c_8]), hI⟩, by rw [ht]; exact hP⟩, hS.F ht⟩) hS.2.2 dX0_point_60
        · skip
          have z_0 : ((0) : Int32).toInt = (0) := by decide
          have t_8 := mt Int32.toInt_inj.mp c_8
          refine lv_aload_n hx hb dX0_point_48 rfl (lv_at hl 0 rfl) ?_
          refine lv_iload_n hx hb dX0_point_49 rfl (lv_at hl 1 rfl) ?_
          refine lv_iload_n hx hb dX0_point_50 rfl (lv_at hl 2 rfl) ?_
          refine lv_iload_n hx hb dX0_point_51 rfl (lv_at hl 3 rfl) ?_
          refine pu_call (va_runV (As := [.int a1, .int a2, .int a3]) (rest := []) ⟨hx, hb, hml, hown, hB⟩ (m_A_isTaken l D h cI cZ S hI a1 a2 a3 ) (cwV 3 hB (gV k2_55 k2_57 ks_136 k1_1 k2_58) rfl rfl rfl (by decide +kernel) ⟨Nat.le_of_ble_eq_true rfl, Nat.le_of_ble_eq_true rfl⟩) ⟨pu_blind, va_recv hK hP (ci := 0) (q0 := 0) rfl rfl, pu_pre hP hK hN⟩ rfl rfl hl.1 rfl (lv_room (Nat.le_of_ble_eq_true rfl)) dX0_point_52 ⟨Nat.le_of_ble_eq_true rfl, Nat.le_of_ble_eq_true rfl⟩) hP hS (fun H locs hP hS => ?_)
          refine lv_if_eq (tgt := 61) hx hb dX0_point_55 (by decide) (fun c_10 => ?_) (fun c_10 => ?_)
          · skip
            refine lv_aload_n hx hb dX0_point_61 rfl (lv_at hl 0 rfl) ?_
            refine va_get (D := D) (ci := 0) (v := .ref (h 4)) (C := RX0) (T := TX0) (N := 7) hx hb hB inX0 hown hK hP 0 rfl rfl 3 (by decide) (hB _ k1_152) (fun _ h9 => h9) rfl dX0_point_62 ?_
            refine pu_call (va_runVN (As := []) (rest := []) ⟨hx, hb, hml, hown, hB⟩ (m_Q_isFull l D h cI cZ S hI  ) ⟨va_cnB 0 hB (gB k2_66) rfl rfl rfl (hN _ kn_25) (hB _ k1_5) (by decide +kernel) ⟨Nat.le_of_ble_eq_true rfl, Nat.le_of_ble_eq_true rfl⟩, hB _ k2_65, hB _ ks_140⟩ ⟨pu_blind, va_recv hK hP (ci := 4) (q0 := 4) rfl rfl, pu_pre hP hK hN⟩ rfl rfl hl.1 rfl (lv_room (Nat.le_of_ble_eq_true rfl)) dX0_point_65 ⟨Nat.le_of_ble_eq_true rfl, Nat.le_of_ble_eq_true rfl⟩) hP hS (fun H locs hP hS => ?_)
            refine lv_if_ne (tgt := 81) hx hb dX0_point_68 (by decide) (fun c_12 => ?_) (fun c_12 => ?_)
            · skip
              refine lv_bipush (v := (-14)) hx hb dX0_point_81 (by decide) ?_
              exact W.iret (v := (-14)) hx hb hr (fun t ht hW => ⟨⟨(-14), S, rfl, ⟨(by rw [F_A_point, if_neg c_2, if_neg c_4, if_neg c_6, if_neg c_8, if_pos c_10, if_neg c_12]), hI⟩, by rw [ht]; exact hP⟩, hS.F ht⟩) hS.2.2 dX0_point_83
            · skip
              have t_12 := fb_Q_isFull hI c_12
              refine lv_aload_n hx hb dX0_point_71 rfl (lv_at hl 0 rfl) ?_
              refine va_get (D := D) (ci := 0) (v := .ref (h 5)) (C := RX0) (T := TX0) (N := 7) hx hb hB inX0 hown hK hP 0 rfl rfl 4 (by decide) (hB _ k1_153) (fun _ h9 => h9) rfl dX0_point_72 ?_
              refine pu_call (va_runVN (As := []) (rest := []) ⟨hx, hb, hml, hown, hB⟩ (m_Y_isFull l D h cI cZ S hI  ) ⟨va_cnB 0 hB (gB k2_70) rfl rfl rfl (hN _ kn_26) (hB _ k1_6) (by decide +kernel) ⟨Nat.le_of_ble_eq_true rfl, Nat.le_of_ble_eq_true rfl⟩, hB _ k2_69, hB _ ks_143⟩ ⟨pu_blind, va_recv hK hP (ci := 5) (q0 := 5) rfl rfl, pu_pre hP hK hN⟩ rfl rfl hl.1 rfl (lv_room (Nat.le_of_ble_eq_true rfl)) dX0_point_75 ⟨Nat.le_of_ble_eq_true rfl, Nat.le_of_ble_eq_true rfl⟩) hP hS (fun H locs hP hS => ?_)
              refine lv_if_eq (tgt := 84) hx hb dX0_point_78 (by decide) (fun c_14 => ?_) (fun c_14 => ?_)
              · skip
                have t_14 := fb_Y_isFull hI c_14
                refine lv_aload_n hx hb dX0_point_84 rfl (lv_at hl 0 rfl) ?_
                refine va_get (D := D) (ci := 0) (v := .ref (h 4)) (C := RX0) (T := TX0) (N := 7) hx hb hB inX0 hown hK hP 0 rfl rfl 3 (by decide) (hB _ k1_152) (fun _ h9 => h9) rfl dX0_point_85 ?_
                refine lv_iload_n hx hb dX0_point_88 rfl (lv_at hl 1 rfl) ?_
                refine lv_aload_n hx hb dX0_point_89 rfl (lv_at hl 0 rfl) ?_
                refine va_get (D := D) (ci := 0) (v := .ref (h 3)) (C := RX0) (T := TX0) (N := 7) hx hb hB inX0 hown hK hP 0 rfl rfl 2 (by decide) (hB _ k1_151) (fun _ h9 => h9) rfl dX0_point_90 ?_
                refine va_getN (D := D) (ci := 3) (v := .ref (h 12)) (C := RX3) (T := TX3) (N := 6) hx hb hB inX3 hown hK hP 3 rfl rfl 0 (by decide) (va_Nw.use rfl (hN _ kn_27)) (fun _ h9 => h9) rfl dX0_point_93 ?_
                refine lv_iload_n hx hb dX0_point_96 rfl (lv_at hl 1 rfl) ?_
                refine va_iald (f := S 6) hx hb hK hP 12 0 rfl rfl (vp_in_iff.mpr (by omega)) dX0_point_97 ?_
                have b_15 : (0) ≤ (S 6 a1.toNatClampNeg).toInt ∧ (S 6 a1.toNatClampNeg).toInt ≤ 31 := iv_6 hI a1.toNatClampNeg
                refine lv_iload_n hx hb dX0_point_98 rfl (lv_at hl 3 rfl) ?_
                refine wr_call (va_runVN (As := [.int a1, .int (S 6 a1.toNatClampNeg), .int a3]) (rest := []) ⟨hx, hb, hml, hown, hB⟩ (m_Q_add l D h cI cZ S hI a1 (S 6 a1.toNatClampNeg) a3 (show (S 25 0).toInt < 120 by omega) (by omega) (by omega)) ⟨va_cnB 3 hB (gB k2_74) rfl rfl rfl (hN _ kn_28) (hB _ k1_5) (by decide +kernel) ⟨Nat.le_of_ble_eq_true rfl, Nat.le_of_ble_eq_true rfl⟩, hB _ k2_73, hB _ ks_146⟩ ⟨wr_blind, va_recv hK hP (ci := 4) (q0 := 4) rfl rfl, wr_pre hP hK hN hD⟩ rfl rfl hl.1 rfl (lv_room (Nat.le_of_ble_eq_true rfl)) dX0_point_99 ⟨Nat.le_of_ble_eq_true rfl, Nat.le_of_ble_eq_true rfl⟩) hS (fun H locs hP hI_16 hS => ?_)
                have hD := wD (S2 := (F_Q_add S a1 (S 6 a1.toNatClampNeg) a3).2) hD
                have k_17 : ((F_Q_add S a1 (S 6 a1.toNatClampNeg) a3).1).toInt = (S 25 0).toInt := congrArg Int32.toInt (fc_Q_add S a1 (S 6 a1.toNatClampNeg) a3)
                have j_17 : (((F_Q_add S a1 (S 6 a1.toNatClampNeg) a3).2) 25 0).toInt = (S 25 0).toInt + 1 := i32_inc (x := S 25 0) (by omega) (by omega)
                refine lv_istore (lv' := [(4, .int ((F_Q_add S a1 (S 6 a1.toNatClampNeg) a3).1)), (0, .ref (h 0)), (1, .int a1), (2, .int a2), (3, .int a3)]) hx hb dX0_point_102 hl (by decide) rfl (fun ls hl => ?_)
                refine lv_aload_n hx hb dX0_point_104 rfl (lv_at hl 1 rfl) ?_
                refine va_get (D := D) (ci := 0) (v := .ref (h 4)) (C := RX0) (T := TX0) (N := 7) hx hb hB inX0 hown hK hP 0 rfl rfl 3 (by decide) (hB _ k1_152) (fun _ h9 => h9) rfl dX0_point_105 ?_
                refine va_getN (D := D) (ci := 4) (v := .ref (h 20)) (C := RX4) (T := TX4) (N := 6) hx hb hB inX4 hown hK hP 4 rfl rfl 3 (by decide) (va_Nw.use rfl (hN _ kn_17)) (fun _ h9 => h9) rfl dX0_point_108 ?_
                refine lv_iload hx hb dX0_point_111 (lv_at hl 0 rfl) ?_
                refine lv_aload_n hx hb dX0_point_113 rfl (lv_at hl 1 rfl) ?_
                refine va_get (D := D) (ci := 0) (v := .ref (h 5)) (C := RX0) (T := TX0) (N := 7) hx hb hB inX0 hown hK hP 0 rfl rfl 4 (by decide) (hB _ k1_153) (fun _ h9 => h9) rfl dX0_point_114 ?_
                refine lv_iload hx hb dX0_point_117 (lv_at hl 0 rfl) ?_
                refine lv_iload_n hx hb dX0_point_119 rfl (lv_at hl 3 rfl) ?_
                refine lv_aload_n hx hb dX0_point_120 rfl (lv_at hl 1 rfl) ?_
                refine va_get (D := D) (ci := 0) (v := .int (S 27 0)) (C := RX0) (T := TX0) (N := 7) hx hb hB inX0 hown hK hP 0 rfl rfl 6 (by decide) (hB _ k1_155) (fun _ h9 => h9) rfl dX0_point_121 ?_
                refine wr_call (va_runVN (As := [.int ((F_Q_add S a1 (S 6 a1.toNatClampNeg) a3).1), .int a2, .int (S 27 0)]) (rest := [.int ((F_Q_add S a1 (S 6 a1.toNatClampNeg) a3).1), .ref (h 20)]) ⟨hx, hb, hml, hown, hB⟩ (m_Y_begin l D h cI cZ ((F_Q_add S a1 (S 6 a1.toNatClampNeg) a3).2) hI_16 ((F_Q_add S a1 (S 6 a1.toNatClampNeg) a3).1) a2 (S 27 0) (show (S 26 0).toInt < 512 by omega) (by omega) (by omega)) ⟨va_cnB 3 hB (gB k2_78) rfl rfl rfl (hN _ kn_29) (hB _ k1_6) (by decide +kernel) ⟨Nat.le_of_ble_eq_true rfl, Nat.le_of_ble_eq_true rfl⟩, hB _ k2_77, hB _ ks_149⟩ ⟨wr_blind, va_recv hK hP (ci := 5) (q0 := 5) rfl rfl, wr_pre hP hK hN hD⟩ rfl rfl hl.1 rfl (lv_room (Nat.le_of_ble_eq_true rfl)) dX0_point_124 ⟨Nat.le_of_ble_eq_true rfl, Nat.le_of_ble_eq_true rfl⟩) hS (fun H locs hP hI_18 hS => ?_)
                have hD := wD (S2 := (F_Y_begin ((F_Q_add S a1 (S 6 a1.toNatClampNeg) a3).2) ((F_Q_add S a1 (S 6 a1.toNatClampNeg) a3).1) a2 (S 27 0)).2) hD
                have k_19 : ((F_Y_begin ((F_Q_add S a1 (S 6 a1.toNatClampNeg) a3).2) ((F_Q_add S a1 (S 6 a1.toNatClampNeg) a3).1) a2 (S 27 0)).1).toInt = (S 26 0).toInt := congrArg Int32.toInt (fc_Y_begin ((F_Q_add S a1 (S 6 a1.toNatClampNeg) a3).2) ((F_Q_add S a1 (S 6 a1.toNatClampNeg) a3).1) a2 (S 27 0))
                have j_19 : (((F_Y_begin ((F_Q_add S a1 (S 6 a1.toNatClampNeg) a3).2) ((F_Q_add S a1 (S 6 a1.toNatClampNeg) a3).1) a2 (S 27 0)).2) 26 0).toInt = (S 26 0).toInt + 1 := i32_inc (x := S 26 0) (by omega) (by omega)
                refine va_iast (f := S 14) hx hb hK hP hD hS 20 0 rfl rfl (vp_in_iff.mpr (by omega)) dX0_point_127 (fun H locs hP hD hS => ?_)
                have hP : va_P D vwCl (wB h cI cZ (upS ((F_Y_begin ((F_Q_add S a1 (S 6 a1.toNatClampNeg) a3).2) ((F_Q_add S a1 (S 6 a1.toNatClampNeg) a3).1) a2 (S 27 0)).2) 14 (((F_Q_add S a1 (S 6 a1.toNatClampNeg) a3).1).toNatClampNeg) ((F_Y_begin ((F_Q_add S a1 (S 6 a1.toNatClampNeg) a3).2) ((F_Q_add S a1 (S 6 a1.toNatClampNeg) a3).1) a2 (S 27 0)).1))) H := hP
                have hD : va_D (bA h) (wB h cI cZ (upS ((F_Y_begin ((F_Q_add S a1 (S 6 a1.toNatClampNeg) a3).2) ((F_Q_add S a1 (S 6 a1.toNatClampNeg) a3).1) a2 (S 27 0)).2) 14 (((F_Q_add S a1 (S 6 a1.toNatClampNeg) a3).1).toNatClampNeg) ((F_Y_begin ((F_Q_add S a1 (S 6 a1.toNatClampNeg) a3).2) ((F_Q_add S a1 (S 6 a1.toNatClampNeg) a3).1) a2 (S 27 0)).1))) := hD
                have hI_20 : IV (upS ((F_Y_begin ((F_Q_add S a1 (S 6 a1.toNatClampNeg) a3).2) ((F_Q_add S a1 (S 6 a1.toNatClampNeg) a3).1) a2 (S 27 0)).2) 14 (((F_Q_add S a1 (S 6 a1.toNatClampNeg) a3).1).toNatClampNeg) ((F_Y_begin ((F_Q_add S a1 (S 6 a1.toNatClampNeg) a3).2) ((F_Q_add S a1 (S 6 a1.toNatClampNeg) a3).1) a2 (S 27 0)).1)) := iv_up (S := (F_Y_begin ((F_Q_add S a1 (S 6 a1.toNatClampNeg) a3).2) ((F_Q_add S a1 (S 6 a1.toNatClampNeg) a3).1) a2 (S 27 0)).2) hI_18 14 (((F_Q_add S a1 (S 6 a1.toNatClampNeg) a3).1).toNatClampNeg) ((F_Y_begin ((F_Q_add S a1 (S 6 a1.toNatClampNeg) a3).2) ((F_Q_add S a1 (S 6 a1.toNatClampNeg) a3).1) a2 (S 27 0)).1) (iv_one 14 0 511 rfl (by omega))
                refine lv_iload hx hb dX0_point_128 (lv_at hl 0 rfl) ?_
                exact W.iret (v := (F_Q_add S a1 (S 6 a1.toNatClampNeg) a3).1) hx hb hr (fun t ht hW => ⟨⟨(F_Q_add S a1 (S 6 a1.toNatClampNeg) a3).1, upS ((F_Y_begin ((F_Q_add S a1 (S 6 a1.toNatClampNeg) a3).2) ((F_Q_add S a1 (S 6 a1.toNatClampNeg) a3).1) a2 (S 27 0)).2) 14 (((F_Q_add S a1 (S 6 a1.toNatClampNeg) a3).1).toNatClampNeg) ((F_Y_begin ((F_Q_add S a1 (S 6 a1.toNatClampNeg) a3).2) ((F_Q_add S a1 (S 6 a1.toNatClampNeg) a3).1) a2 (S 27 0)).1), rfl, ⟨(by rw [F_A_point, if_neg c_2, if_neg c_4, if_neg c_6, if_neg c_8, if_pos c_10, if_pos c_12, if_pos c_14]), hI_20⟩, by rw [ht]; exact hP⟩, hS.F ht⟩) hS.2.2 dX0_point_130
              · skip
                refine lv_bipush (v := (-14)) hx hb dX0_point_81 (by decide) ?_
                exact W.iret (v := (-14)) hx hb hr (fun t ht hW => ⟨⟨(-14), S, rfl, ⟨(by rw [F_A_point, if_neg c_2, if_neg c_4, if_neg c_6, if_neg c_8, if_pos c_10, if_pos c_12, if_neg c_14]), hI⟩, by rw [ht]; exact hP⟩, hS.F ht⟩) hS.2.2 dX0_point_83
          · skip
            refine lv_bipush (v := (-13)) hx hb dX0_point_58 (by decide) ?_
            exact W.iret (v := (-13)) hx hb hr (fun t ht hW => ⟨⟨(-13), S, rfl, ⟨(by rw [F_A_point, if_neg c_2, if_neg c_4, if_neg c_6, if_neg c_8, if_neg c_10]), hI⟩, by rw [ht]; exact hP⟩, hS.F ht⟩) hS.2.2 dX0_point_60
      · skip
        refine lv_bipush (v := (-12)) hx hb dX0_point_33 (by decide) ?_
        exact W.iret (v := (-12)) hx hb hr (fun t ht hW => ⟨⟨(-12), S, rfl, ⟨(by rw [F_A_point, if_neg c_2, if_neg c_4, if_pos c_6]), hI⟩, by rw [ht]; exact hP⟩, hS.F ht⟩) hS.2.2 dX0_point_35
  · skip
    refine lv_bipush (v := (-11)) hx hb dX0_point_11 (by decide) ?_
    exact W.iret (v := (-11)) hx hb hr (fun t ht hW => ⟨⟨(-11), S, rfl, ⟨(by rw [F_A_point, if_pos c_2]), hI⟩, by rw [ht]; exact hP⟩, hS.F ht⟩) hS.2.2 dX0_point_13
set_option maxHeartbeats 4000000 in
set_option maxRecDepth 100000 in
theorem m_A_end (l : Launch) (D : va_G) (h : Nat → Nat) (cI cZ : ClassId) (S : BS) (hI : IV S) (a1 a2 : Int32) (ha0 : 0 ≤ a1.toInt ∧ a1.toInt ≤ 119) : VM l yX0_end wsX0_end { frames := 1, cells := 0, slots := 0, locals := 22 } D cI cZ h S [.ref (h 0), .int a1, .int a2] (F_A_end S a1 a2) := by
  refine Met.ofW (cc := cX0_end) (maxL := 3) (ret := none) (by decide) rfl ?_
  intro p e s m args below meth c s₁ B hml hv
  obtain ⟨rfl, hP, hK, hN, hD0⟩ := hv
  have hx := B.exec
  have hb := B.bytes
  have hr := B.returns
  have hts := atoms_spec (ws := wsX0_end) B.pre
  have hB : ∀ w ∈ BW, w.before _ s = true := fun w h => hts w (List.mem_cons_of_mem _ h)
  have hown : s.vm.findClass RX0 = some m.cls := findClass_of_methodNamed B.named
  have hlocks := B.notSynchronized
  have hD := bD hD0
  have hS : va_S (bA h) s.heap s.heap [] := va_S.rf
  have hl := lv_entry ([.ref (h 0), .int a1, .int a2]) (n := 3) (Nat.le_of_ble_eq_true rfl)
  rw [lg_entry_eq]
  generalize (lg_sl ([.ref (h 0), .int a1, .int a2]) ++ List.replicate (3 - (lg_sl ([.ref (h 0), .int a1, .int a2])).length) Slot.unset).toArray = ls at hl ⊢
  have hl : lv_has ls 3 [(0, .ref (h 0)), (1, .int a1), (2, .int a2)] := hl
  refine lv_aload_n hx hb dX0_end_0 rfl (lv_at hl 0 rfl) ?_
  refine va_get (D := D) (ci := 0) (v := .ref (h 5)) (C := RX0) (T := TX0) (N := 7) hx hb hB inX0 hown hK hP 0 rfl rfl 4 (by decide) (hB _ k1_153) (fun _ h9 => h9) rfl dX0_end_1 ?_
  refine lv_aload_n hx hb dX0_end_4 rfl (lv_at hl 0 rfl) ?_
  refine va_get (D := D) (ci := 0) (v := .ref (h 4)) (C := RX0) (T := TX0) (N := 7) hx hb hB inX0 hown hK hP 0 rfl rfl 3 (by decide) (hB _ k1_152) (fun _ h9 => h9) rfl dX0_end_5 ?_
  refine va_getN (D := D) (ci := 4) (v := .ref (h 20)) (C := RX4) (T := TX4) (N := 6) hx hb hB inX4 hown hK hP 4 rfl rfl 3 (by decide) (va_Nw.use rfl (hN _ kn_17)) (fun _ h9 => h9) rfl dX0_end_8 ?_
  refine lv_iload_n hx hb dX0_end_11 rfl (lv_at hl 1 rfl) ?_
  refine va_iald (f := S 14) hx hb hK hP 20 0 rfl rfl (vp_in_iff.mpr (by omega)) dX0_end_12 ?_
  have b_1 : (0) ≤ (S 14 a1.toNatClampNeg).toInt ∧ (S 14 a1.toNatClampNeg).toInt ≤ 511 := iv_14 hI a1.toNatClampNeg
  refine lv_iload_n hx hb dX0_end_13 rfl (lv_at hl 2 rfl) ?_
  refine wv_call (va_runVN (As := [.int (S 14 a1.toNatClampNeg), .int a2]) (rest := []) ⟨hx, hb, hml, hown, hB⟩ (m_Y_end l D h cI cZ S hI (S 14 a1.toNatClampNeg) a2 (by omega)) ⟨va_cnB 2 hB (gB k2_95) rfl rfl rfl (hN _ kn_30) (hB _ k1_6) (by decide +kernel) ⟨Nat.le_of_ble_eq_true rfl, Nat.le_of_ble_eq_true rfl⟩, hB _ k2_94, hB _ ks_152⟩ ⟨wr_blind, va_recv hK hP (ci := 5) (q0 := 5) rfl rfl, wr_pre hP hK hN hD⟩ rfl rfl hl.1 rfl (lv_room (Nat.le_of_ble_eq_true rfl)) dX0_end_14 ⟨Nat.le_of_ble_eq_true rfl, Nat.le_of_ble_eq_true rfl⟩) hS (fun H locs hP hI_2 hS => ?_)
  have hD := wD (S2 := (F_Y_end S (S 14 a1.toNatClampNeg) a2)) hD
  refine lv_aload_n hx hb dX0_end_17 rfl (lv_at hl 0 rfl) ?_
  refine va_get (D := D) (ci := 0) (v := .ref (h 4)) (C := RX0) (T := TX0) (N := 7) hx hb hB inX0 hown hK hP 0 rfl rfl 3 (by decide) (hB _ k1_152) (fun _ h9 => h9) rfl dX0_end_18 ?_
  refine va_getN (D := D) (ci := 4) (v := .ref (h 21)) (C := RX4) (T := TX4) (N := 6) hx hb hB inX4 hown hK hP 4 rfl rfl 4 (by decide) (va_Nw.use rfl (hN _ kn_19)) (fun _ h9 => h9) rfl dX0_end_21 ?_
  refine lv_iload_n hx hb dX0_end_24 rfl (lv_at hl 1 rfl) ?_
  refine lv_iconst (v := 0) hx hb dX0_end_25 (by decide) ?_
  refine va_zast (f := S 15) hx hb hK hP hD hS 21 1 rfl rfl (vp_in_iff.mpr (by omega)) dX0_end_26 (fun H locs hP hD hS => ?_)
  rw [show vp_nar .boolean 0 = 0 from by first | rfl | decide] at hP hD
  have hP : va_P D vwCl (wB h cI cZ (upS (F_Y_end S (S 14 a1.toNatClampNeg) a2) 15 a1.toNatClampNeg 0)) H := hP
  have hD : va_D (bA h) (wB h cI cZ (upS (F_Y_end S (S 14 a1.toNatClampNeg) a2) 15 a1.toNatClampNeg 0)) := hD
  have hI_4 : IV (upS (F_Y_end S (S 14 a1.toNatClampNeg) a2) 15 a1.toNatClampNeg 0) := iv_up (S := (F_Y_end S (S 14 a1.toNatClampNeg) a2)) hI_2 15 a1.toNatClampNeg 0 (iv_one 15 0 1 rfl (by decide))
  exact W.vret hx hb hr (fun t ht hW => ⟨⟨upS (F_Y_end S (S 14 a1.toNatClampNeg) a2) 15 a1.toNatClampNeg 0, rfl, ⟨(by rw [F_A_end]), hI_4⟩, by rw [ht]; exact hP⟩, hS.F ht⟩) hS.2.2 dX0_end_27
set_option maxHeartbeats 4000000 in
set_option maxRecDepth 100000 in
theorem m_A_close (l : Launch) (D : va_G) (h : Nat → Nat) (cI cZ : ClassId) (S : BS) (hI : IV S) (a1 a2 : Int32) : WM l yX0_close wsX0_close { frames := 2, cells := 0, slots := 0, locals := 44 } D cI cZ h S [.ref (h 0), .int a1, .int a2] (F_A_close S a1 a2) := by
  refine Met.ofW (cc := cX0_close) (maxL := 5) (ret := (some .int)) (by decide) rfl ?_
  intro p e s m args below meth c s₁ B hml hv
  obtain ⟨rfl, hP, hK, hN, hD0⟩ := hv
  have hx := B.exec
  have hb := B.bytes
  have hr := B.returns
  have hts := atoms_spec (ws := wsX0_close) B.pre
  have hB : ∀ w ∈ BW, w.before _ s = true := fun w h => hts w (List.mem_cons_of_mem _ h)
  have hown : s.vm.findClass RX0 = some m.cls := findClass_of_methodNamed B.named
  have hlocks := B.notSynchronized
  have hD := bD hD0
  have hS : va_S (bA h) s.heap s.heap [] := va_S.rf
  have hl := lv_entry ([.ref (h 0), .int a1, .int a2]) (n := 5) (Nat.le_of_ble_eq_true rfl)
  rw [lg_entry_eq]
  generalize (lg_sl ([.ref (h 0), .int a1, .int a2]) ++ List.replicate (5 - (lg_sl ([.ref (h 0), .int a1, .int a2])).length) Slot.unset).toArray = ls at hl ⊢
  have hl : lv_has ls 5 [(0, .ref (h 0)), (1, .int a1), (2, .int a2)] := hl
  refine lv_aload_n hx hb dX0_close_0 rfl (lv_at hl 0 rfl) ?_
  refine va_get (D := D) (ci := 0) (v := .ref (h 3)) (C := RX0) (T := TX0) (N := 7) hx hb hB inX0 hown hK hP 0 rfl rfl 2 (by decide) (hB _ k1_151) (fun _ h9 => h9) rfl dX0_close_1 ?_
  refine lv_iload_n hx hb dX0_close_4 rfl (lv_at hl 1 rfl) ?_
  refine pu_call (va_runVN (As := [.int a1]) (rest := []) ⟨hx, hb, hml, hown, hB⟩ (m_R_has l D h cI cZ S hI a1 ) ⟨va_cnB 1 hB (gB k2_45) rfl rfl rfl (hN _ kn_22) (hB _ k1_4) (by decide +kernel) ⟨Nat.le_of_ble_eq_true rfl, Nat.le_of_ble_eq_true rfl⟩, hB _ k2_44, hB _ ks_126⟩ ⟨pu_blind, va_recv hK hP (ci := 3) (q0 := 3) rfl rfl, pu_pre hP hK hN⟩ rfl rfl hl.1 rfl (lv_room (Nat.le_of_ble_eq_true rfl)) dX0_close_5 ⟨Nat.le_of_ble_eq_true rfl, Nat.le_of_ble_eq_true rfl⟩) hP hS (fun H locs hP hS => ?_)
  refine lv_if_ne (tgt := 14) hx hb dX0_close_8 (by decide) (fun c_2 => ?_) (fun c_2 => ?_)
  · skip
    have t_2 := fb_R_has hI c_2
    refine lv_aload_n hx hb dX0_close_14 rfl (lv_at hl 0 rfl) ?_
    refine lv_iload_n hx hb dX0_close_15 rfl (lv_at hl 2 rfl) ?_
    refine pu_call (va_runV (As := [.int a2]) (rest := []) ⟨hx, hb, hml, hown, hB⟩ (m_A_isTodayOrLater l D h cI cZ S hI a2 ) (cwV 1 hB (gV k2_1 k2_3 ks_107 k1_1 k2_4) rfl rfl rfl (by decide +kernel) ⟨Nat.le_of_ble_eq_true rfl, Nat.le_of_ble_eq_true rfl⟩) ⟨pu_blind, va_recv hK hP (ci := 0) (q0 := 0) rfl rfl, pu_pre hP hK hN⟩ rfl rfl hl.1 rfl (lv_room (Nat.le_of_ble_eq_true rfl)) dX0_close_16 ⟨Nat.le_of_ble_eq_true rfl, Nat.le_of_ble_eq_true rfl⟩) hP hS (fun H locs hP hS => ?_)
    refine lv_if_ne (tgt := 25) hx hb dX0_close_19 (by decide) (fun c_4 => ?_) (fun c_4 => ?_)
    · skip
      refine lv_aload_n hx hb dX0_close_25 rfl (lv_at hl 0 rfl) ?_
      refine va_get (D := D) (ci := 0) (v := .ref (h 3)) (C := RX0) (T := TX0) (N := 7) hx hb hB inX0 hown hK hP 0 rfl rfl 2 (by decide) (hB _ k1_151) (fun _ h9 => h9) rfl dX0_close_26 ?_
      refine va_getN (D := D) (ci := 3) (v := .ref (h 16)) (C := RX3) (T := TX3) (N := 6) hx hb hB inX3 hown hK hP 3 rfl rfl 4 (by decide) (va_Nw.use rfl (hN _ kn_24)) (fun _ h9 => h9) rfl dX0_close_29 ?_
      refine lv_iload_n hx hb dX0_close_32 rfl (lv_at hl 1 rfl) ?_
      refine va_zald (f := S 10) hx hb hK hP 16 1 rfl rfl (vp_in_iff.mpr (by omega)) dX0_close_33 ?_
      have b_5 : (0) ≤ (S 10 a1.toNatClampNeg).toInt ∧ (S 10 a1.toNatClampNeg).toInt ≤ 1 := iv_10 hI a1.toNatClampNeg
      refine lv_if_ne (tgt := 40) hx hb dX0_close_34 (by decide) (fun c_6 => ?_) (fun c_6 => ?_)
      · skip
        have z_0 : ((0) : Int32).toInt = (0) := by decide
        have t_6 := mt Int32.toInt_inj.mp c_6
        refine lv_iconst (v := 0) hx hb dX0_close_40 (by decide) ?_
        refine lv_istore_n (lv' := [(3, .int 0), (0, .ref (h 0)), (1, .int a1), (2, .int a2)]) hx hb dX0_close_41 rfl hl (by decide) rfl (fun ls hl => ?_)
        refine lv_iconst (v := 0) hx hb dX0_close_42 (by decide) ?_
        refine lv_istore (lv' := [(4, .int 0), (3, .int 0), (0, .ref (h 0)), (1, .int a1), (2, .int a2)]) hx hb dX0_close_43 hl (by decide) rfl (fun ls hl => ?_)
        have loop45 : ∀ (n : Nat) (Z : BS) (x3 x4 : Int32) (H : Heap) (locs : List Loc) (ls : Array Slot), IV Z → (0 ≤ x4.toInt ∧ x4.toInt ≤ (Z 25 0 : Int32).toInt ∧ (Z 25 0 : Int32).toInt - x4.toInt < (n : Int) ∧ True) → l_A_close_45 a1 a2 n Z x3 x4 = F_A_close S a1 a2 → va_P D vwCl (wB h cI cZ Z) H → va_D (bA h) (wB h cI cZ Z) → va_S (bA h) s.heap H locs → lv_has ls 5 [(0, .ref (h 0)), (1, .int a1), (2, .int a2), (3, .int x3), (4, .int x4)] → W p l e (headSpec wsX0_close { frames := 2, cells := 0, slots := 0, locals := 44 }).room s m ([.ref (h 0), .int a1, .int a2]).toArray below meth c H locs 0 0 (MQ below (WQ D cI cZ h (F_A_close S a1 a2)) ([.ref (h 0), .int a1, .int a2]).toArray s 0 0 (bA h)) (F0 m 45 ls []) := by
          intro n
          induction n with
          | zero =>
            intro Z x3 x4 H locs ls hI hinv he hP hD hS hl
            obtain ⟨h0, hle, hm, hex⟩ := hinv
            exact absurd hm (by omega)
          | succ n ih =>
            intro Z x3 x4 H locs ls hI hinv he hP hD hS hl
            obtain ⟨h0, hle, hm, hex⟩ := hinv
            have hB := iv_25 hI
            refine lv_iload hx hb dX0_close_45 (lv_at hl 4 rfl) ?_
            refine lv_aload_n hx hb dX0_close_47 rfl (lv_at hl 0 rfl) ?_
            refine va_get (D := D) (ci := 0) (v := .ref (h 4)) (C := RX0) (T := TX0) (N := 7) hx hb hB inX0 hown hK hP 0 rfl rfl 3 (by decide) (hB _ k1_152) (fun _ h9 => h9) rfl dX0_close_48 ?_
            refine va_getN (D := D) (ci := 4) (v := .int (Z 25 0)) (C := RX4) (T := TX4) (N := 6) hx hb hB inX4 hown hK hP 4 rfl rfl 5 (by decide) (va_Nw.use rfl (hN _ kn_18)) (fun _ h9 => h9) rfl dX0_close_51 ?_
            have b_7 : (0) ≤ (Z 25 0).toInt ∧ (Z 25 0).toInt ≤ 120 := iv_25 hI
            refine lv_icmp_ge (tgt := 100) hx hb dX0_close_54 (by decide) (fun c_8 => ?_) (fun c_8 => ?_)
            · skip
              have t_8 := Int32.le_iff_toInt_le.mp c_8
              refine lv_aload_n hx hb dX0_close_100 rfl (lv_at hl 0 rfl) ?_
              refine va_get (D := D) (ci := 0) (v := .ref (h 3)) (C := RX0) (T := TX0) (N := 7) hx hb hB inX0 hown hK hP 0 rfl rfl 2 (by decide) (hB _ k1_151) (fun _ h9 => h9) rfl dX0_close_101 ?_
              refine va_getN (D := D) (ci := 3) (v := .ref (h 16)) (C := RX3) (T := TX3) (N := 6) hx hb hB inX3 hown hK hP 3 rfl rfl 4 (by decide) (va_Nw.use rfl (hN _ kn_24)) (fun _ h9 => h9) rfl dX0_close_104 ?_
              refine lv_iload_n hx hb dX0_close_107 rfl (lv_at hl 1 rfl) ?_
              refine lv_iconst (v := 0) hx hb dX0_close_108 (by decide) ?_
              refine va_zast (f := Z 10) hx hb hK hP hD hS 16 1 rfl rfl (vp_in_iff.mpr (by omega)) dX0_close_109 (fun H locs hP hD hS => ?_)
              rw [show vp_nar .boolean 0 = 0 from by first | rfl | decide] at hP hD
              have hP : va_P D vwCl (wB h cI cZ (upS Z 10 a1.toNatClampNeg 0)) H := hP
              have hD : va_D (bA h) (wB h cI cZ (upS Z 10 a1.toNatClampNeg 0)) := hD
              have hI_9 : IV (upS Z 10 a1.toNatClampNeg 0) := iv_up (S := Z) hI 10 a1.toNatClampNeg 0 (iv_one 10 0 1 rfl (by decide))
              refine lv_aload_n hx hb dX0_close_110 rfl (lv_at hl 0 rfl) ?_
              refine lv_iload_n hx hb dX0_close_111 rfl (lv_at hl 2 rfl) ?_
              refine va_put (D := D) (ci := 0) (v := .int a2) (ty := .int) (C := RX0) (T := TX0) (N := 7) hx hb hB inX0 tyX0 tyX0_ok nmX0 hown hK hP hD hS 0 rfl rfl 6 (by decide) (hB _ k1_155) (fun _ h9 => h9) rfl (by decide +kernel) rfl rfl (Nat.le_of_ble_eq_true rfl) dX0_close_112 (fun H locs hP hD hS => ?_)
              have hP : va_P D vwCl (wB h cI cZ (upS (upS Z 10 a1.toNatClampNeg 0) 27 0 a2)) H := hP
              have hD : va_D (bA h) (wB h cI cZ (upS (upS Z 10 a1.toNatClampNeg 0) 27 0 a2)) := hD
              have hI_10 : IV (upS (upS Z 10 a1.toNatClampNeg 0) 27 0 a2) := iv_up (S := upS Z 10 a1.toNatClampNeg 0) hI_9 27 0 a2 (iv_none 27 rfl)
              refine lv_iload_n hx hb dX0_close_115 rfl (lv_at hl 3 rfl) ?_
              exact W.iret (v := x3) hx hb hr (fun t ht hW => ⟨⟨x3, upS (upS Z 10 a1.toNatClampNeg 0) 27 0 a2, rfl, ⟨(by rw [← he, l_A_close_45, if_pos c_8]), hI_10⟩, by rw [ht]; exact hP⟩, hS.F ht⟩) hS.2.2 dX0_close_116
            · skip
              have t_8 := mt Int32.le_iff_toInt_le.mpr c_8
              refine lv_aload_n hx hb dX0_close_57 rfl (lv_at hl 0 rfl) ?_
              refine va_get (D := D) (ci := 0) (v := .ref (h 4)) (C := RX0) (T := TX0) (N := 7) hx hb hB inX0 hown hK hP 0 rfl rfl 3 (by decide) (hB _ k1_152) (fun _ h9 => h9) rfl dX0_close_58 ?_
              refine va_getN (D := D) (ci := 4) (v := .ref (h 21)) (C := RX4) (T := TX4) (N := 6) hx hb hB inX4 hown hK hP 4 rfl rfl 4 (by decide) (va_Nw.use rfl (hN _ kn_19)) (fun _ h9 => h9) rfl dX0_close_61 ?_
              refine lv_iload hx hb dX0_close_64 (lv_at hl 4 rfl) ?_
              refine va_zald (f := Z 15) hx hb hK hP 21 1 rfl rfl (vp_in_iff.mpr (by omega)) dX0_close_66 ?_
              have b_11 : (0) ≤ (Z 15 x4.toNatClampNeg).toInt ∧ (Z 15 x4.toNatClampNeg).toInt ≤ 1 := iv_15 hI x4.toNatClampNeg
              refine lv_if_eq (tgt := 94) hx hb dX0_close_67 (by decide) (fun c_12 => ?_) (fun c_12 => ?_)
              · skip
                have z_0 : ((0) : Int32).toInt = (0) := by decide
                have t_12 := Int32.toInt_inj.symm.mp c_12
                refine lv_iinc (v := x4 + 1) (lv' := [(4, .int (x4 + 1)), (0, .ref (h 0)), (1, .int a1), (2, .int a2), (3, .int x3)]) hx hb dX0_close_94 hl (k := 4) rfl rfl (by decide) rfl (fun ls hl => ?_)
                refine lv_goto (tgt := 45) hx hb dX0_close_97 (by decide) ?_
                have hinc := i32_inc (x := x4) h0 (by omega)
                have e9 : (Z) 25 0 = Z 25 0 := rfl
                exact ih Z x3 (x4 + 1) _ _ _ hI ⟨by omega, by rw [e9]; omega, by rw [e9]; omega, trivial⟩ (by rw [← he, l_A_close_45, if_neg c_8, if_pos c_12]) hP hD hS (lv_sub hl [1, 2, 3, 4, 0] rfl)
              · skip
                have z_0 : ((0) : Int32).toInt = (0) := by decide
                have t_12 := mt Int32.toInt_inj.mp c_12
                refine lv_aload_n hx hb dX0_close_70 rfl (lv_at hl 0 rfl) ?_
                refine va_get (D := D) (ci := 0) (v := .ref (h 4)) (C := RX0) (T := TX0) (N := 7) hx hb hB inX0 hown hK hP 0 rfl rfl 3 (by decide) (hB _ k1_152) (fun _ h9 => h9) rfl dX0_close_71 ?_
                refine va_getN (D := D) (ci := 4) (v := .ref (h 17)) (C := RX4) (T := TX4) (N := 6) hx hb hB inX4 hown hK hP 4 rfl rfl 0 (by decide) (va_Nw.use rfl (hN _ kn_20)) (fun _ h9 => h9) rfl dX0_close_74 ?_
                refine lv_iload hx hb dX0_close_77 (lv_at hl 4 rfl) ?_
                refine va_iald (f := Z 11) hx hb hK hP 17 0 rfl rfl (vp_in_iff.mpr (by omega)) dX0_close_79 ?_
                have b_13 : (0) ≤ (Z 11 x4.toNatClampNeg).toInt ∧ (Z 11 x4.toNatClampNeg).toInt ≤ 79 := iv_11 hI x4.toNatClampNeg
                refine lv_iload_n hx hb dX0_close_80 rfl (lv_at hl 1 rfl) ?_
                refine lv_icmp_ne (tgt := 94) hx hb dX0_close_81 (by decide) (fun c_14 => ?_) (fun c_14 => ?_)
                · skip
                  refine lv_iinc (v := x4 + 1) (lv' := [(4, .int (x4 + 1)), (0, .ref (h 0)), (1, .int a1), (2, .int a2), (3, .int x3)]) hx hb dX0_close_94 hl (k := 4) rfl rfl (by decide) rfl (fun ls hl => ?_)
                  refine lv_goto (tgt := 45) hx hb dX0_close_97 (by decide) ?_
                  have hinc := i32_inc (x := x4) h0 (by omega)
                  have e9 : (Z) 25 0 = Z 25 0 := rfl
                  exact ih Z x3 (x4 + 1) _ _ _ hI ⟨by omega, by rw [e9]; omega, by rw [e9]; omega, trivial⟩ (by rw [← he, l_A_close_45, if_neg c_8, if_neg c_12, if_neg c_14]) hP hD hS (lv_sub hl [1, 2, 3, 4, 0] rfl)
                · skip
                  refine lv_aload_n hx hb dX0_close_84 rfl (lv_at hl 0 rfl) ?_
                  refine lv_iload hx hb dX0_close_85 (lv_at hl 4 rfl) ?_
                  refine lv_iload_n hx hb dX0_close_87 rfl (lv_at hl 2 rfl) ?_
                  refine wv_call (va_runV (As := [.int x4, .int a2]) (rest := []) ⟨hx, hb, hml, hown, hB⟩ (m_A_end l D h cI cZ Z hI x4 a2 (by omega)) (cwV 2 hB (gV k2_88 k2_90 ks_156 k1_1 k2_91) rfl rfl rfl (by decide +kernel) ⟨Nat.le_of_ble_eq_true rfl, Nat.le_of_ble_eq_true rfl⟩) ⟨wr_blind, va_recv hK hP (ci := 0) (q0 := 0) rfl rfl, wr_pre hP hK hN hD⟩ rfl rfl hl.1 rfl (lv_room (Nat.le_of_ble_eq_true rfl)) dX0_close_88 ⟨Nat.le_of_ble_eq_true rfl, Nat.le_of_ble_eq_true rfl⟩) hS (fun H locs hP hI_15 hS => ?_)
                  have hD := wD (S2 := (F_A_end Z x4 a2)) hD
                  refine lv_iinc (v := x3 + 1) (lv' := [(3, .int (x3 + 1)), (0, .ref (h 0)), (1, .int a1), (2, .int a2), (4, .int x4)]) hx hb dX0_close_91 hl (k := 3) rfl rfl (by decide) rfl (fun ls hl => ?_)
                  refine lv_iinc (v := x4 + 1) (lv' := [(4, .int (x4 + 1)), (3, .int (x3 + 1)), (0, .ref (h 0)), (1, .int a1), (2, .int a2)]) hx hb dX0_close_94 hl (k := 4) rfl rfl (by decide) rfl (fun ls hl => ?_)
                  refine lv_goto (tgt := 45) hx hb dX0_close_97 (by decide) ?_
                  have hinc := i32_inc (x := x4) h0 (by omega)
                  have e9 : ((F_A_end Z x4 a2)) 25 0 = Z 25 0 := rfl
                  exact ih (F_A_end Z x4 a2) (x3 + 1) (x4 + 1) _ _ _ hI_15 ⟨by omega, by rw [e9]; omega, by rw [e9]; omega, trivial⟩ (by rw [← he, l_A_close_45, if_neg c_8, if_neg c_12, if_pos c_14]) hP hD hS (lv_sub hl [2, 3, 4, 1, 0] rfl)
        have hB9 := iv_25 hI
        exact loop45 600 S 0 0 _ _ _ hI ⟨by omega, by omega, by omega, trivial⟩ (by rw [F_A_close, if_neg c_2, if_neg c_4, if_neg c_6]) hP hD hS (lv_sub hl [2, 3, 4, 1, 0] rfl)
      · skip
        have z_0 : ((0) : Int32).toInt = (0) := by decide
        have t_6 := Int32.toInt_inj.symm.mp c_6
        refine lv_bipush (v := (-13)) hx hb dX0_close_37 (by decide) ?_
        exact W.iret (v := (-13)) hx hb hr (fun t ht hW => ⟨⟨(-13), S, rfl, ⟨(by rw [F_A_close, if_neg c_2, if_neg c_4, if_pos c_6]), hI⟩, by rw [ht]; exact hP⟩, hS.F ht⟩) hS.2.2 dX0_close_39
    · skip
      refine lv_bipush (v := (-12)) hx hb dX0_close_22 (by decide) ?_
      exact W.iret (v := (-12)) hx hb hr (fun t ht hW => ⟨⟨(-12), S, rfl, ⟨(by rw [F_A_close, if_neg c_2, if_pos c_4]), hI⟩, by rw [ht]; exact hP⟩, hS.F ht⟩) hS.2.2 dX0_close_24
  · skip
    refine lv_bipush (v := (-11)) hx hb dX0_close_11 (by decide) ?_
    exact W.iret (v := (-11)) hx hb hr (fun t ht hW => ⟨⟨(-11), S, rfl, ⟨(by rw [F_A_close, if_pos c_2]), hI⟩, by rw [ht]; exact hP⟩, hS.F ht⟩) hS.2.2 dX0_close_13
set_option maxHeartbeats 4000000 in
set_option maxRecDepth 100000 in
theorem m_A_giveToParts (l : Launch) (D : va_G) (h : Nat → Nat) (cI cZ : ClassId) (S : BS) (hI : IV S) (a1 a2 a3 : Int32) (ha1 : 0 ≤ a2.toInt ∧ a2.toInt ≤ 79) (ha2 : 0 ≤ a3.toInt ∧ a3.toInt ≤ 79) : WM l yX0_giveToParts wsX0_giveToParts { frames := 3, cells := 0, slots := 0, locals := 63 } D cI cZ h S [.ref (h 0), .int a1, .int a2, .int a3] (F_A_giveToParts S a1 a2 a3) := by
  refine Met.ofW (cc := cX0_giveToParts) (maxL := 6) (ret := (some .int)) (by decide) rfl ?_
  intro p e s m args below meth c s₁ B hml hv
  obtain ⟨rfl, hP, hK, hN, hD0⟩ := hv
  have hx := B.exec
  have hb := B.bytes
  have hr := B.returns
  have hts := atoms_spec (ws := wsX0_giveToParts) B.pre
  have hB : ∀ w ∈ BW, w.before _ s = true := fun w h => hts w (List.mem_cons_of_mem _ h)
  have hown : s.vm.findClass RX0 = some m.cls := findClass_of_methodNamed B.named
  have hlocks := B.notSynchronized
  have hD := bD hD0
  have hS : va_S (bA h) s.heap s.heap [] := va_S.rf
  have hl := lv_entry ([.ref (h 0), .int a1, .int a2, .int a3]) (n := 6) (Nat.le_of_ble_eq_true rfl)
  rw [lg_entry_eq]
  generalize (lg_sl ([.ref (h 0), .int a1, .int a2, .int a3]) ++ List.replicate (6 - (lg_sl ([.ref (h 0), .int a1, .int a2, .int a3])).length) Slot.unset).toArray = ls at hl ⊢
  have hl : lv_has ls 6 [(0, .ref (h 0)), (1, .int a1), (2, .int a2), (3, .int a3)] := hl
  refine lv_iconst (v := 0) hx hb dX0_giveToParts_0 (by decide) ?_
  refine lv_istore (lv' := [(4, .int 0), (0, .ref (h 0)), (1, .int a1), (2, .int a2), (3, .int a3)]) hx hb dX0_giveToParts_1 hl (by decide) rfl (fun ls hl => ?_)
  refine lv_iconst (v := 0) hx hb dX0_giveToParts_3 (by decide) ?_
  refine lv_istore (lv' := [(5, .int 0), (4, .int 0), (0, .ref (h 0)), (1, .int a1), (2, .int a2), (3, .int a3)]) hx hb dX0_giveToParts_4 hl (by decide) rfl (fun ls hl => ?_)
  have loop6 : ∀ (n : Nat) (Z : BS) (x4 x5 : Int32) (H : Heap) (locs : List Loc) (ls : Array Slot), IV Z → (0 ≤ x5.toInt ∧ x5.toInt ≤ (Z 25 0 : Int32).toInt ∧ (Z 25 0 : Int32).toInt - x5.toInt < (n : Int) ∧ True) → l_A_giveToParts_6 a1 a2 a3 n Z x4 x5 = F_A_giveToParts S a1 a2 a3 → va_P D vwCl (wB h cI cZ Z) H → va_D (bA h) (wB h cI cZ Z) → va_S (bA h) s.heap H locs → lv_has ls 6 [(0, .ref (h 0)), (1, .int a1), (2, .int a2), (3, .int a3), (4, .int x4), (5, .int x5)] → W p l e (headSpec wsX0_giveToParts { frames := 3, cells := 0, slots := 0, locals := 63 }).room s m ([.ref (h 0), .int a1, .int a2, .int a3]).toArray below meth c H locs 0 0 (MQ below (WQ D cI cZ h (F_A_giveToParts S a1 a2 a3)) ([.ref (h 0), .int a1, .int a2, .int a3]).toArray s 0 0 (bA h)) (F0 m 6 ls []) := by
    intro n
    induction n with
    | zero =>
      intro Z x4 x5 H locs ls hI hinv he hP hD hS hl
      obtain ⟨h0, hle, hm, hex⟩ := hinv
      exact absurd hm (by omega)
    | succ n ih =>
      intro Z x4 x5 H locs ls hI hinv he hP hD hS hl
      obtain ⟨h0, hle, hm, hex⟩ := hinv
      have hB := iv_25 hI
      refine lv_iload hx hb dX0_giveToParts_6 (lv_at hl 5 rfl) ?_
      refine lv_aload_n hx hb dX0_giveToParts_8 rfl (lv_at hl 0 rfl) ?_
      refine va_get (D := D) (ci := 0) (v := .ref (h 4)) (C := RX0) (T := TX0) (N := 7) hx hb hB inX0 hown hK hP 0 rfl rfl 3 (by decide) (hB _ k1_152) (fun _ h9 => h9) rfl dX0_giveToParts_9 ?_
      refine va_getN (D := D) (ci := 4) (v := .int (Z 25 0)) (C := RX4) (T := TX4) (N := 6) hx hb hB inX4 hown hK hP 4 rfl rfl 5 (by decide) (va_Nw.use rfl (hN _ kn_18)) (fun _ h9 => h9) rfl dX0_giveToParts_12 ?_
      have b_1 : (0) ≤ (Z 25 0).toInt ∧ (Z 25 0).toInt ≤ 120 := iv_25 hI
      refine lv_icmp_ge (tgt := 86) hx hb dX0_giveToParts_15 (by decide) (fun c_2 => ?_) (fun c_2 => ?_)
      · skip
        have t_2 := Int32.le_iff_toInt_le.mp c_2
        refine lv_iload hx hb dX0_giveToParts_86 (lv_at hl 4 rfl) ?_
        exact W.iret (v := x4) hx hb hr (fun t ht hW => ⟨⟨x4, Z, rfl, ⟨(by rw [← he, l_A_giveToParts_6, if_pos c_2]), hI⟩, by rw [ht]; exact hP⟩, hS.F ht⟩) hS.2.2 dX0_giveToParts_88
      · skip
        have t_2 := mt Int32.le_iff_toInt_le.mpr c_2
        refine lv_aload_n hx hb dX0_giveToParts_18 rfl (lv_at hl 0 rfl) ?_
        refine va_get (D := D) (ci := 0) (v := .ref (h 4)) (C := RX0) (T := TX0) (N := 7) hx hb hB inX0 hown hK hP 0 rfl rfl 3 (by decide) (hB _ k1_152) (fun _ h9 => h9) rfl dX0_giveToParts_19 ?_
        refine va_getN (D := D) (ci := 4) (v := .ref (h 21)) (C := RX4) (T := TX4) (N := 6) hx hb hB inX4 hown hK hP 4 rfl rfl 4 (by decide) (va_Nw.use rfl (hN _ kn_19)) (fun _ h9 => h9) rfl dX0_giveToParts_22 ?_
        refine lv_iload hx hb dX0_giveToParts_25 (lv_at hl 5 rfl) ?_
        refine va_zald (f := Z 15) hx hb hK hP 21 1 rfl rfl (vp_in_iff.mpr (by omega)) dX0_giveToParts_27 ?_
        have b_3 : (0) ≤ (Z 15 x5.toNatClampNeg).toInt ∧ (Z 15 x5.toNatClampNeg).toInt ≤ 1 := iv_15 hI x5.toNatClampNeg
        refine lv_if_eq (tgt := 80) hx hb dX0_giveToParts_28 (by decide) (fun c_4 => ?_) (fun c_4 => ?_)
        · skip
          have z_0 : ((0) : Int32).toInt = (0) := by decide
          have t_4 := Int32.toInt_inj.symm.mp c_4
          refine lv_iinc (v := x5 + 1) (lv' := [(5, .int (x5 + 1)), (0, .ref (h 0)), (1, .int a1), (2, .int a2), (3, .int a3), (4, .int x4)]) hx hb dX0_giveToParts_80 hl (k := 5) rfl rfl (by decide) rfl (fun ls hl => ?_)
          refine lv_goto (tgt := 6) hx hb dX0_giveToParts_83 (by decide) ?_
          have hinc := i32_inc (x := x5) h0 (by omega)
          have e9 : (Z) 25 0 = Z 25 0 := rfl
          exact ih Z x4 (x5 + 1) _ _ _ hI ⟨by omega, by rw [e9]; omega, by rw [e9]; omega, trivial⟩ (by rw [← he, l_A_giveToParts_6, if_neg c_2, if_pos c_4]) hP hD hS (lv_sub hl [1, 2, 3, 4, 5, 0] rfl)
        · skip
          have z_0 : ((0) : Int32).toInt = (0) := by decide
          have t_4 := mt Int32.toInt_inj.mp c_4
          refine lv_aload_n hx hb dX0_giveToParts_31 rfl (lv_at hl 0 rfl) ?_
          refine va_get (D := D) (ci := 0) (v := .ref (h 4)) (C := RX0) (T := TX0) (N := 7) hx hb hB inX0 hown hK hP 0 rfl rfl 3 (by decide) (hB _ k1_152) (fun _ h9 => h9) rfl dX0_giveToParts_32 ?_
          refine va_getN (D := D) (ci := 4) (v := .ref (h 17)) (C := RX4) (T := TX4) (N := 6) hx hb hB inX4 hown hK hP 4 rfl rfl 0 (by decide) (va_Nw.use rfl (hN _ kn_20)) (fun _ h9 => h9) rfl dX0_giveToParts_35 ?_
          refine lv_iload hx hb dX0_giveToParts_38 (lv_at hl 5 rfl) ?_
          refine va_iald (f := Z 11) hx hb hK hP 17 0 rfl rfl (vp_in_iff.mpr (by omega)) dX0_giveToParts_40 ?_
          have b_5 : (0) ≤ (Z 11 x5.toNatClampNeg).toInt ∧ (Z 11 x5.toNatClampNeg).toInt ≤ 79 := iv_11 hI x5.toNatClampNeg
          refine lv_iload_n hx hb dX0_giveToParts_41 rfl (lv_at hl 1 rfl) ?_
          refine lv_icmp_ne (tgt := 80) hx hb dX0_giveToParts_42 (by decide) (fun c_6 => ?_) (fun c_6 => ?_)
          · skip
            refine lv_iinc (v := x5 + 1) (lv' := [(5, .int (x5 + 1)), (0, .ref (h 0)), (1, .int a1), (2, .int a2), (3, .int a3), (4, .int x4)]) hx hb dX0_giveToParts_80 hl (k := 5) rfl rfl (by decide) rfl (fun ls hl => ?_)
            refine lv_goto (tgt := 6) hx hb dX0_giveToParts_83 (by decide) ?_
            have hinc := i32_inc (x := x5) h0 (by omega)
            have e9 : (Z) 25 0 = Z 25 0 := rfl
            exact ih Z x4 (x5 + 1) _ _ _ hI ⟨by omega, by rw [e9]; omega, by rw [e9]; omega, trivial⟩ (by rw [← he, l_A_giveToParts_6, if_neg c_2, if_neg c_4, if_neg c_6]) hP hD hS (lv_sub hl [1, 2, 3, 4, 5, 0] rfl)
          · skip
            refine lv_aload_n hx hb dX0_giveToParts_45 rfl (lv_at hl 0 rfl) ?_
            refine va_get (D := D) (ci := 0) (v := .ref (h 4)) (C := RX0) (T := TX0) (N := 7) hx hb hB inX0 hown hK hP 0 rfl rfl 3 (by decide) (hB _ k1_152) (fun _ h9 => h9) rfl dX0_giveToParts_46 ?_
            refine va_getN (D := D) (ci := 4) (v := .ref (h 17)) (C := RX4) (T := TX4) (N := 6) hx hb hB inX4 hown hK hP 4 rfl rfl 0 (by decide) (va_Nw.use rfl (hN _ kn_20)) (fun _ h9 => h9) rfl dX0_giveToParts_49 ?_
            refine lv_iload hx hb dX0_giveToParts_52 (lv_at hl 5 rfl) ?_
            refine lv_aload_n hx hb dX0_giveToParts_54 rfl (lv_at hl 0 rfl) ?_
            refine va_get (D := D) (ci := 0) (v := .ref (h 3)) (C := RX0) (T := TX0) (N := 7) hx hb hB inX0 hown hK hP 0 rfl rfl 2 (by decide) (hB _ k1_151) (fun _ h9 => h9) rfl dX0_giveToParts_55 ?_
            refine lv_iload_n hx hb dX0_giveToParts_58 rfl (lv_at hl 2 rfl) ?_
            refine lv_aload_n hx hb dX0_giveToParts_59 rfl (lv_at hl 0 rfl) ?_
            refine lv_iload hx hb dX0_giveToParts_60 (lv_at hl 5 rfl) ?_
            refine pu_call (va_runV (As := [.int x5]) (rest := [.int a2, .ref (h 3), .int x5, .ref (h 17)]) ⟨hx, hb, hml, hown, hB⟩ (m_A_houseNow l D h cI cZ Z hI x5 (by omega)) (cwV 1 hB (gV k2_59 k2_61 ks_123 k1_1 k2_62) rfl rfl rfl (by decide +kernel) ⟨Nat.le_of_ble_eq_true rfl, Nat.le_of_ble_eq_true rfl⟩) ⟨pu_blind, va_recv hK hP (ci := 0) (q0 := 0) rfl rfl, pu_pre hP hK hN⟩ rfl rfl hl.1 rfl (lv_room (Nat.le_of_ble_eq_true rfl)) dX0_giveToParts_62 ⟨Nat.le_of_ble_eq_true rfl, Nat.le_of_ble_eq_true rfl⟩) hP hS (fun H locs hP hS => ?_)
            have k_7 := fc_A_houseNow hI x5
            refine pu_call (va_runVN (As := [.int a2, .int (f_A_houseNow Z x5)]) (rest := [.int x5, .ref (h 17)]) ⟨hx, hb, hml, hown, hB⟩ (m_R_holds l D h cI cZ Z hI a2 (f_A_houseNow Z x5) (by omega)) ⟨va_cnB 2 hB (gB k2_49) rfl rfl rfl (hN _ kn_23) (hB _ k1_4) (by decide +kernel) ⟨Nat.le_of_ble_eq_true rfl, Nat.le_of_ble_eq_true rfl⟩, hB _ k2_48, hB _ ks_129⟩ ⟨pu_blind, va_recv hK hP (ci := 3) (q0 := 3) rfl rfl, pu_pre hP hK hN⟩ rfl rfl hl.1 rfl (lv_room (Nat.le_of_ble_eq_true rfl)) dX0_giveToParts_65 ⟨Nat.le_of_ble_eq_true rfl, Nat.le_of_ble_eq_true rfl⟩) hP hS (fun H locs hP hS => ?_)
            refine lv_if_eq (tgt := 75) hx hb dX0_giveToParts_68 (by decide) (fun c_9 => ?_) (fun c_9 => ?_)
            · skip
              refine lv_iload_n hx hb dX0_giveToParts_75 rfl (lv_at hl 3 rfl) ?_
              refine va_iast (f := Z 11) hx hb hK hP hD hS 17 0 rfl rfl (vp_in_iff.mpr (by omega)) dX0_giveToParts_76 (fun H locs hP hD hS => ?_)
              have hP : va_P D vwCl (wB h cI cZ (upS Z 11 x5.toNatClampNeg a3)) H := hP
              have hD : va_D (bA h) (wB h cI cZ (upS Z 11 x5.toNatClampNeg a3)) := hD
              have hI_10 : IV (upS Z 11 x5.toNatClampNeg a3) := iv_up (S := Z) hI 11 x5.toNatClampNeg a3 (iv_one 11 0 79 rfl (by omega))
              refine lv_iinc (v := x4 + 1) (lv' := [(4, .int (x4 + 1)), (0, .ref (h 0)), (1, .int a1), (2, .int a2), (3, .int a3), (5, .int x5)]) hx hb dX0_giveToParts_77 hl (k := 4) rfl rfl (by decide) rfl (fun ls hl => ?_)
              refine lv_iinc (v := x5 + 1) (lv' := [(5, .int (x5 + 1)), (4, .int (x4 + 1)), (0, .ref (h 0)), (1, .int a1), (2, .int a2), (3, .int a3)]) hx hb dX0_giveToParts_80 hl (k := 5) rfl rfl (by decide) rfl (fun ls hl => ?_)
              refine lv_goto (tgt := 6) hx hb dX0_giveToParts_83 (by decide) ?_
              have hinc := i32_inc (x := x5) h0 (by omega)
              have e9 : (upS Z 11 x5.toNatClampNeg a3) 25 0 = Z 25 0 := rfl
              exact ih (upS Z 11 x5.toNatClampNeg a3) (x4 + 1) (x5 + 1) _ _ _ hI_10 ⟨by omega, by rw [e9]; omega, by rw [e9]; omega, trivial⟩ (by rw [← he, l_A_giveToParts_6, if_neg c_2, if_neg c_4, if_pos c_6, if_pos c_9]) hP hD hS (lv_sub hl [2, 3, 4, 5, 1, 0] rfl)
            · skip
              have t_9 := fb_R_holds hI c_9
              refine lv_iload_n hx hb dX0_giveToParts_71 rfl (lv_at hl 2 rfl) ?_
              refine lv_goto (tgt := 76) hx hb dX0_giveToParts_72 (by decide) ?_
              refine va_iast (f := Z 11) hx hb hK hP hD hS 17 0 rfl rfl (vp_in_iff.mpr (by omega)) dX0_giveToParts_76 (fun H locs hP hD hS => ?_)
              have hP : va_P D vwCl (wB h cI cZ (upS Z 11 x5.toNatClampNeg a2)) H := hP
              have hD : va_D (bA h) (wB h cI cZ (upS Z 11 x5.toNatClampNeg a2)) := hD
              have hI_11 : IV (upS Z 11 x5.toNatClampNeg a2) := iv_up (S := Z) hI 11 x5.toNatClampNeg a2 (iv_one 11 0 79 rfl (by omega))
              refine lv_iinc (v := x4 + 1) (lv' := [(4, .int (x4 + 1)), (0, .ref (h 0)), (1, .int a1), (2, .int a2), (3, .int a3), (5, .int x5)]) hx hb dX0_giveToParts_77 hl (k := 4) rfl rfl (by decide) rfl (fun ls hl => ?_)
              refine lv_iinc (v := x5 + 1) (lv' := [(5, .int (x5 + 1)), (4, .int (x4 + 1)), (0, .ref (h 0)), (1, .int a1), (2, .int a2), (3, .int a3)]) hx hb dX0_giveToParts_80 hl (k := 5) rfl rfl (by decide) rfl (fun ls hl => ?_)
              refine lv_goto (tgt := 6) hx hb dX0_giveToParts_83 (by decide) ?_
              have hinc := i32_inc (x := x5) h0 (by omega)
              have e9 : (upS Z 11 x5.toNatClampNeg a2) 25 0 = Z 25 0 := rfl
              exact ih (upS Z 11 x5.toNatClampNeg a2) (x4 + 1) (x5 + 1) _ _ _ hI_11 ⟨by omega, by rw [e9]; omega, by rw [e9]; omega, trivial⟩ (by rw [← he, l_A_giveToParts_6, if_neg c_2, if_neg c_4, if_pos c_6, if_neg c_9]) hP hD hS (lv_sub hl [2, 3, 4, 5, 1, 0] rfl)
  have hB9 := iv_25 hI
  have z_0 : ((0) : Int32).toInt = (0) := by decide
  exact loop6 600 S 0 0 _ _ _ hI ⟨by omega, by omega, by omega, trivial⟩ (by rw [F_A_giveToParts]) hP hD hS (lv_sub hl [2, 3, 4, 5, 1, 0] rfl)
set_option maxHeartbeats 4000000 in
set_option maxRecDepth 100000 in
theorem m_A_split (l : Launch) (D : va_G) (h : Nat → Nat) (cI cZ : ClassId) (S : BS) (hI : IV S) (a1 a2 a3 : Int32) : WM l yX0_split wsX0_split { frames := 4, cells := 0, slots := 0, locals := 88 } D cI cZ h S [.ref (h 0), .int a1, .int a2, .int a3] (F_A_split S a1 a2 a3) := by
  refine Met.ofW (cc := cX0_split) (maxL := 8) (ret := (some .int)) (by decide) rfl ?_
  intro p e s m args below meth c s₁ B hml hv
  obtain ⟨rfl, hP, hK, hN, hD0⟩ := hv
  have hx := B.exec
  have hb := B.bytes
  have hr := B.returns
  have hts := atoms_spec (ws := wsX0_split) B.pre
  have hB : ∀ w ∈ BW, w.before _ s = true := fun w h => hts w (List.mem_cons_of_mem _ h)
  have hown : s.vm.findClass RX0 = some m.cls := findClass_of_methodNamed B.named
  have hlocks := B.notSynchronized
  have hD := bD hD0
  have hS : va_S (bA h) s.heap s.heap [] := va_S.rf
  have hl := lv_entry ([.ref (h 0), .int a1, .int a2, .int a3]) (n := 8) (Nat.le_of_ble_eq_true rfl)
  rw [lg_entry_eq]
  generalize (lg_sl ([.ref (h 0), .int a1, .int a2, .int a3]) ++ List.replicate (8 - (lg_sl ([.ref (h 0), .int a1, .int a2, .int a3])).length) Slot.unset).toArray = ls at hl ⊢
  have hl : lv_has ls 8 [(0, .ref (h 0)), (1, .int a1), (2, .int a2), (3, .int a3)] := hl
  refine lv_aload_n hx hb dX0_split_0 rfl (lv_at hl 0 rfl) ?_
  refine va_get (D := D) (ci := 0) (v := .ref (h 3)) (C := RX0) (T := TX0) (N := 7) hx hb hB inX0 hown hK hP 0 rfl rfl 2 (by decide) (hB _ k1_151) (fun _ h9 => h9) rfl dX0_split_1 ?_
  refine lv_iload_n hx hb dX0_split_4 rfl (lv_at hl 1 rfl) ?_
  refine pu_call (va_runVN (As := [.int a1]) (rest := []) ⟨hx, hb, hml, hown, hB⟩ (m_R_has l D h cI cZ S hI a1 ) ⟨va_cnB 1 hB (gB k2_45) rfl rfl rfl (hN _ kn_22) (hB _ k1_4) (by decide +kernel) ⟨Nat.le_of_ble_eq_true rfl, Nat.le_of_ble_eq_true rfl⟩, hB _ k2_44, hB _ ks_126⟩ ⟨pu_blind, va_recv hK hP (ci := 3) (q0 := 3) rfl rfl, pu_pre hP hK hN⟩ rfl rfl hl.1 rfl (lv_room (Nat.le_of_ble_eq_true rfl)) dX0_split_5 ⟨Nat.le_of_ble_eq_true rfl, Nat.le_of_ble_eq_true rfl⟩) hP hS (fun H locs hP hS => ?_)
  refine lv_if_ne (tgt := 14) hx hb dX0_split_8 (by decide) (fun c_2 => ?_) (fun c_2 => ?_)
  · skip
    have t_2 := fb_R_has hI c_2
    refine lv_aload_n hx hb dX0_split_14 rfl (lv_at hl 0 rfl) ?_
    refine lv_iload_n hx hb dX0_split_15 rfl (lv_at hl 3 rfl) ?_
    refine pu_call (va_runV (As := [.int a3]) (rest := []) ⟨hx, hb, hml, hown, hB⟩ (m_A_isTodayOrLater l D h cI cZ S hI a3 ) (cwV 1 hB (gV k2_1 k2_3 ks_107 k1_1 k2_4) rfl rfl rfl (by decide +kernel) ⟨Nat.le_of_ble_eq_true rfl, Nat.le_of_ble_eq_true rfl⟩) ⟨pu_blind, va_recv hK hP (ci := 0) (q0 := 0) rfl rfl, pu_pre hP hK hN⟩ rfl rfl hl.1 rfl (lv_room (Nat.le_of_ble_eq_true rfl)) dX0_split_16 ⟨Nat.le_of_ble_eq_true rfl, Nat.le_of_ble_eq_true rfl⟩) hP hS (fun H locs hP hS => ?_)
    refine lv_if_eq (tgt := 48) hx hb dX0_split_19 (by decide) (fun c_4 => ?_) (fun c_4 => ?_)
    · skip
      refine lv_bipush (v := (-12)) hx hb dX0_split_48 (by decide) ?_
      exact W.iret (v := (-12)) hx hb hr (fun t ht hW => ⟨⟨(-12), S, rfl, ⟨(by rw [F_A_split, if_neg c_2, if_pos c_4]), hI⟩, by rw [ht]; exact hP⟩, hS.F ht⟩) hS.2.2 dX0_split_50
    · skip
      refine lv_iload_n hx hb dX0_split_22 rfl (lv_at hl 2 rfl) ?_
      refine lv_aload_n hx hb dX0_split_23 rfl (lv_at hl 0 rfl) ?_
      refine va_get (D := D) (ci := 0) (v := .ref (h 3)) (C := RX0) (T := TX0) (N := 7) hx hb hB inX0 hown hK hP 0 rfl rfl 2 (by decide) (hB _ k1_151) (fun _ h9 => h9) rfl dX0_split_24 ?_
      refine va_getN (D := D) (ci := 3) (v := .ref (h 14)) (C := RX3) (T := TX3) (N := 6) hx hb hB inX3 hown hK hP 3 rfl rfl 2 (by decide) (va_Nw.use rfl (hN _ kn_31)) (fun _ h9 => h9) rfl dX0_split_27 ?_
      refine lv_iload_n hx hb dX0_split_30 rfl (lv_at hl 1 rfl) ?_
      refine va_iald (f := S 8) hx hb hK hP 14 0 rfl rfl (vp_in_iff.mpr (by omega)) dX0_split_31 ?_
      have b_5 : (0) ≤ (S 8 a1.toNatClampNeg).toInt ∧ (S 8 a1.toNatClampNeg).toInt ≤ 1000 := iv_8 hI a1.toNatClampNeg
      refine lv_icmp_le (tgt := 48) hx hb dX0_split_32 (by decide) (fun c_6 => ?_) (fun c_6 => ?_)
      · skip
        have t_6 := Int32.le_iff_toInt_le.mp c_6
        refine lv_bipush (v := (-12)) hx hb dX0_split_48 (by decide) ?_
        exact W.iret (v := (-12)) hx hb hr (fun t ht hW => ⟨⟨(-12), S, rfl, ⟨(by rw [F_A_split, if_neg c_2, if_neg c_4, if_pos c_6]), hI⟩, by rw [ht]; exact hP⟩, hS.F ht⟩) hS.2.2 dX0_split_50
      · skip
        have t_6 := mt Int32.le_iff_toInt_le.mpr c_6
        refine lv_iload_n hx hb dX0_split_35 rfl (lv_at hl 2 rfl) ?_
        refine lv_aload_n hx hb dX0_split_36 rfl (lv_at hl 0 rfl) ?_
        refine va_get (D := D) (ci := 0) (v := .ref (h 3)) (C := RX0) (T := TX0) (N := 7) hx hb hB inX0 hown hK hP 0 rfl rfl 2 (by decide) (hB _ k1_151) (fun _ h9 => h9) rfl dX0_split_37 ?_
        refine va_getN (D := D) (ci := 3) (v := .ref (h 15)) (C := RX3) (T := TX3) (N := 6) hx hb hB inX3 hown hK hP 3 rfl rfl 3 (by decide) (va_Nw.use rfl (hN _ kn_32)) (fun _ h9 => h9) rfl dX0_split_40 ?_
        refine lv_iload_n hx hb dX0_split_43 rfl (lv_at hl 1 rfl) ?_
        refine va_iald (f := S 9) hx hb hK hP 15 0 rfl rfl (vp_in_iff.mpr (by omega)) dX0_split_44 ?_
        have b_7 : (-1) ≤ (S 9 a1.toNatClampNeg).toInt ∧ (S 9 a1.toNatClampNeg).toInt ≤ 999 := iv_9 hI a1.toNatClampNeg
        refine lv_icmp_le (tgt := 51) hx hb dX0_split_45 (by decide) (fun c_8 => ?_) (fun c_8 => ?_)
        · skip
          have t_8 := Int32.le_iff_toInt_le.mp c_8
          refine lv_aload_n hx hb dX0_split_51 rfl (lv_at hl 0 rfl) ?_
          refine va_get (D := D) (ci := 0) (v := .ref (h 3)) (C := RX0) (T := TX0) (N := 7) hx hb hB inX0 hown hK hP 0 rfl rfl 2 (by decide) (hB _ k1_151) (fun _ h9 => h9) rfl dX0_split_52 ?_
          refine va_getN (D := D) (ci := 3) (v := .ref (h 16)) (C := RX3) (T := TX3) (N := 6) hx hb hB inX3 hown hK hP 3 rfl rfl 4 (by decide) (va_Nw.use rfl (hN _ kn_24)) (fun _ h9 => h9) rfl dX0_split_55 ?_
          refine lv_iload_n hx hb dX0_split_58 rfl (lv_at hl 1 rfl) ?_
          refine va_zald (f := S 10) hx hb hK hP 16 1 rfl rfl (vp_in_iff.mpr (by omega)) dX0_split_59 ?_
          have b_9 : (0) ≤ (S 10 a1.toNatClampNeg).toInt ∧ (S 10 a1.toNatClampNeg).toInt ≤ 1 := iv_10 hI a1.toNatClampNeg
          refine lv_if_ne (tgt := 66) hx hb dX0_split_60 (by decide) (fun c_10 => ?_) (fun c_10 => ?_)
          · skip
            have z_0 : ((0) : Int32).toInt = (0) := by decide
            have t_10 := mt Int32.toInt_inj.mp c_10
            refine lv_aload_n hx hb dX0_split_66 rfl (lv_at hl 0 rfl) ?_
            refine va_get (D := D) (ci := 0) (v := .ref (h 3)) (C := RX0) (T := TX0) (N := 7) hx hb hB inX0 hown hK hP 0 rfl rfl 2 (by decide) (hB _ k1_151) (fun _ h9 => h9) rfl dX0_split_67 ?_
            refine lv_iconst (v := 2) hx hb dX0_split_70 (by decide) ?_
            refine pu_call (va_runVN (As := [.int 2]) (rest := []) ⟨hx, hb, hml, hown, hB⟩ (m_R_hasRoomFor l D h cI cZ S hI 2 ) ⟨va_cnB 1 hB (gB k2_13) rfl rfl rfl (hN _ kn_13) (hB _ k1_4) (by decide +kernel) ⟨Nat.le_of_ble_eq_true rfl, Nat.le_of_ble_eq_true rfl⟩, hB _ k2_12, hB _ ks_114⟩ ⟨pu_blind, va_recv hK hP (ci := 3) (q0 := 3) rfl rfl, pu_pre hP hK hN⟩ rfl rfl hl.1 rfl (lv_room (Nat.le_of_ble_eq_true rfl)) dX0_split_71 ⟨Nat.le_of_ble_eq_true rfl, Nat.le_of_ble_eq_true rfl⟩) hP hS (fun H locs hP hS => ?_)
            refine lv_if_ne (tgt := 80) hx hb dX0_split_74 (by decide) (fun c_12 => ?_) (fun c_12 => ?_)
            · skip
              have t_12 := fb_R_hasRoomFor_2 hI c_12
              refine lv_aload_n hx hb dX0_split_80 rfl (lv_at hl 0 rfl) ?_
              refine va_get (D := D) (ci := 0) (v := .ref (h 3)) (C := RX0) (T := TX0) (N := 7) hx hb hB inX0 hown hK hP 0 rfl rfl 2 (by decide) (hB _ k1_151) (fun _ h9 => h9) rfl dX0_split_81 ?_
              refine va_getN (D := D) (ci := 3) (v := .ref (h 12)) (C := RX3) (T := TX3) (N := 6) hx hb hB inX3 hown hK hP 3 rfl rfl 0 (by decide) (va_Nw.use rfl (hN _ kn_27)) (fun _ h9 => h9) rfl dX0_split_84 ?_
              refine lv_iload_n hx hb dX0_split_87 rfl (lv_at hl 1 rfl) ?_
              refine va_iald (f := S 6) hx hb hK hP 12 0 rfl rfl (vp_in_iff.mpr (by omega)) dX0_split_88 ?_
              have b_13 : (0) ≤ (S 6 a1.toNatClampNeg).toInt ∧ (S 6 a1.toNatClampNeg).toInt ≤ 31 := iv_6 hI a1.toNatClampNeg
              refine lv_istore (lv' := [(4, .int (S 6 a1.toNatClampNeg)), (0, .ref (h 0)), (1, .int a1), (2, .int a2), (3, .int a3)]) hx hb dX0_split_89 hl (by decide) rfl (fun ls hl => ?_)
              refine lv_aload_n hx hb dX0_split_91 rfl (lv_at hl 1 rfl) ?_
              refine va_get (D := D) (ci := 0) (v := .ref (h 3)) (C := RX0) (T := TX0) (N := 7) hx hb hB inX0 hown hK hP 0 rfl rfl 2 (by decide) (hB _ k1_151) (fun _ h9 => h9) rfl dX0_split_92 ?_
              refine va_getN (D := D) (ci := 3) (v := .ref (h 13)) (C := RX3) (T := TX3) (N := 6) hx hb hB inX3 hown hK hP 3 rfl rfl 1 (by decide) (va_Nw.use rfl (hN _ kn_33)) (fun _ h9 => h9) rfl dX0_split_95 ?_
              refine lv_iload_n hx hb dX0_split_98 rfl (lv_at hl 2 rfl) ?_
              refine va_iald (f := S 7) hx hb hK hP 13 0 rfl rfl (vp_in_iff.mpr (by omega)) dX0_split_99 ?_
              refine lv_istore (lv' := [(5, .int (S 7 a1.toNatClampNeg)), (4, .int (S 6 a1.toNatClampNeg)), (0, .ref (h 0)), (1, .int a1), (2, .int a2), (3, .int a3)]) hx hb dX0_split_100 hl (by decide) rfl (fun ls hl => ?_)
              refine lv_aload_n hx hb dX0_split_102 rfl (lv_at hl 2 rfl) ?_
              refine va_get (D := D) (ci := 0) (v := .ref (h 3)) (C := RX0) (T := TX0) (N := 7) hx hb hB inX0 hown hK hP 0 rfl rfl 2 (by decide) (hB _ k1_151) (fun _ h9 => h9) rfl dX0_split_103 ?_
              refine lv_iload hx hb dX0_split_106 (lv_at hl 1 rfl) ?_
              refine lv_iload hx hb dX0_split_108 (lv_at hl 0 rfl) ?_
              refine lv_aload_n hx hb dX0_split_110 rfl (lv_at hl 2 rfl) ?_
              refine va_get (D := D) (ci := 0) (v := .ref (h 3)) (C := RX0) (T := TX0) (N := 7) hx hb hB inX0 hown hK hP 0 rfl rfl 2 (by decide) (hB _ k1_151) (fun _ h9 => h9) rfl dX0_split_111 ?_
              refine va_getN (D := D) (ci := 3) (v := .ref (h 14)) (C := RX3) (T := TX3) (N := 6) hx hb hB inX3 hown hK hP 3 rfl rfl 2 (by decide) (va_Nw.use rfl (hN _ kn_31)) (fun _ h9 => h9) rfl dX0_split_114 ?_
              refine lv_iload_n hx hb dX0_split_117 rfl (lv_at hl 3 rfl) ?_
              refine va_iald (f := S 8) hx hb hK hP 14 0 rfl rfl (vp_in_iff.mpr (by omega)) dX0_split_118 ?_
              have b_14 : (0) ≤ (S 8 a1.toNatClampNeg).toInt ∧ (S 8 a1.toNatClampNeg).toInt ≤ 1000 := iv_8 hI a1.toNatClampNeg
              refine lv_iload_n hx hb dX0_split_119 rfl (lv_at hl 4 rfl) ?_
              refine lv_iconst (v := 1) hx hb dX0_split_120 (by decide) ?_
              refine lv_isub hx hb dX0_split_121 ?_
              have z_1 : ((1) : Int32).toInt = (1) := by decide
              have k_15 := i32_sub (x := a2) (y := 1) (by omega) (by omega)
              refine wr_call (va_runVN (As := [.int (S 6 a1.toNatClampNeg), .int (S 7 a1.toNatClampNeg), .int (S 8 a1.toNatClampNeg), .int (a2 - 1)]) (rest := []) ⟨hx, hb, hml, hown, hB⟩ (m_R_add l D h cI cZ S hI (S 6 a1.toNatClampNeg) (S 7 a1.toNatClampNeg) (S 8 a1.toNatClampNeg) (a2 - 1) (show (S 24 0).toInt < 80 by omega) (by omega) (by omega) (by omega)) ⟨va_cnB 4 hB (gB k2_37) rfl rfl rfl (hN _ kn_15) (hB _ k1_4) (by decide +kernel) ⟨Nat.le_of_ble_eq_true rfl, Nat.le_of_ble_eq_true rfl⟩, hB _ k2_36, hB _ ks_117⟩ ⟨wr_blind, va_recv hK hP (ci := 3) (q0 := 3) rfl rfl, wr_pre hP hK hN hD⟩ rfl rfl hl.1 rfl (lv_room (Nat.le_of_ble_eq_true rfl)) dX0_split_122 ⟨Nat.le_of_ble_eq_true rfl, Nat.le_of_ble_eq_true rfl⟩) hS (fun H locs hP hI_16 hS => ?_)
              have hD := wD (S2 := (F_R_add S (S 6 a1.toNatClampNeg) (S 7 a1.toNatClampNeg) (S 8 a1.toNatClampNeg) (a2 - 1)).2) hD
              have k_17 : ((F_R_add S (S 6 a1.toNatClampNeg) (S 7 a1.toNatClampNeg) (S 8 a1.toNatClampNeg) (a2 - 1)).1).toInt = (S 24 0).toInt := congrArg Int32.toInt (fc_R_add S (S 6 a1.toNatClampNeg) (S 7 a1.toNatClampNeg) (S 8 a1.toNatClampNeg) (a2 - 1))
              have j_17 : (((F_R_add S (S 6 a1.toNatClampNeg) (S 7 a1.toNatClampNeg) (S 8 a1.toNatClampNeg) (a2 - 1)).2) 24 0).toInt = (S 24 0).toInt + 1 := i32_inc (x := S 24 0) (by omega) (by omega)
              have i_17 : (((F_R_add S (S 6 a1.toNatClampNeg) (S 7 a1.toNatClampNeg) (S 8 a1.toNatClampNeg) (a2 - 1)).2) 9 a1.toNatClampNeg).toInt = (S 9 a1.toNatClampNeg).toInt := congrArg Int32.toInt (fc_R_keep9 S (S 6 a1.toNatClampNeg) (S 7 a1.toNatClampNeg) (S 8 a1.toNatClampNeg) (a2 - 1) a1 (by omega) (by omega))
              refine lv_istore (lv' := [(6, .int ((F_R_add S (S 6 a1.toNatClampNeg) (S 7 a1.toNatClampNeg) (S 8 a1.toNatClampNeg) (a2 - 1)).1)), (5, .int (S 7 a1.toNatClampNeg)), (4, .int (S 6 a1.toNatClampNeg)), (0, .ref (h 0)), (1, .int a1), (2, .int a2), (3, .int a3)]) hx hb dX0_split_125 hl (by decide) rfl (fun ls hl => ?_)
              refine lv_aload_n hx hb dX0_split_127 rfl (lv_at hl 3 rfl) ?_
              refine va_get (D := D) (ci := 0) (v := .ref (h 3)) (C := RX0) (T := TX0) (N := 7) hx hb hB inX0 hown hK hP 0 rfl rfl 2 (by decide) (hB _ k1_151) (fun _ h9 => h9) rfl dX0_split_128 ?_
              refine lv_iload hx hb dX0_split_131 (lv_at hl 2 rfl) ?_
              refine lv_iload hx hb dX0_split_133 (lv_at hl 1 rfl) ?_
              refine lv_iload_n hx hb dX0_split_135 rfl (lv_at hl 5 rfl) ?_
              refine lv_aload_n hx hb dX0_split_136 rfl (lv_at hl 3 rfl) ?_
              refine va_get (D := D) (ci := 0) (v := .ref (h 3)) (C := RX0) (T := TX0) (N := 7) hx hb hB inX0 hown hK hP 0 rfl rfl 2 (by decide) (hB _ k1_151) (fun _ h9 => h9) rfl dX0_split_137 ?_
              refine va_getN (D := D) (ci := 3) (v := .ref (h 15)) (C := RX3) (T := TX3) (N := 6) hx hb hB inX3 hown hK hP 3 rfl rfl 3 (by decide) (va_Nw.use rfl (hN _ kn_32)) (fun _ h9 => h9) rfl dX0_split_140 ?_
              refine lv_iload_n hx hb dX0_split_143 rfl (lv_at hl 4 rfl) ?_
              refine va_iald (f := ((F_R_add S (S 6 a1.toNatClampNeg) (S 7 a1.toNatClampNeg) (S 8 a1.toNatClampNeg) (a2 - 1)).2) 9) hx hb hK hP 15 0 rfl rfl (vp_in_iff.mpr (by omega)) dX0_split_144 ?_
              have b_18 : (-1) ≤ (((F_R_add S (S 6 a1.toNatClampNeg) (S 7 a1.toNatClampNeg) (S 8 a1.toNatClampNeg) (a2 - 1)).2) 9 a1.toNatClampNeg).toInt ∧ (((F_R_add S (S 6 a1.toNatClampNeg) (S 7 a1.toNatClampNeg) (S 8 a1.toNatClampNeg) (a2 - 1)).2) 9 a1.toNatClampNeg).toInt ≤ 999 := iv_9 hI_16 a1.toNatClampNeg
              refine wr_call (va_runVN (As := [.int (S 6 a1.toNatClampNeg), .int (S 7 a1.toNatClampNeg), .int a2, .int (((F_R_add S (S 6 a1.toNatClampNeg) (S 7 a1.toNatClampNeg) (S 8 a1.toNatClampNeg) (a2 - 1)).2) 9 a1.toNatClampNeg)]) (rest := []) ⟨hx, hb, hml, hown, hB⟩ (m_R_add l D h cI cZ ((F_R_add S (S 6 a1.toNatClampNeg) (S 7 a1.toNatClampNeg) (S 8 a1.toNatClampNeg) (a2 - 1)).2) hI_16 (S 6 a1.toNatClampNeg) (S 7 a1.toNatClampNeg) a2 (((F_R_add S (S 6 a1.toNatClampNeg) (S 7 a1.toNatClampNeg) (S 8 a1.toNatClampNeg) (a2 - 1)).2) 9 a1.toNatClampNeg) (show (((F_R_add S (S 6 a1.toNatClampNeg) (S 7 a1.toNatClampNeg) (S 8 a1.toNatClampNeg) (a2 - 1)).2) 24 0).toInt < 80 by omega) (by omega) (by omega) (by omega)) ⟨va_cnB 4 hB (gB k2_37) rfl rfl rfl (hN _ kn_15) (hB _ k1_4) (by decide +kernel) ⟨Nat.le_of_ble_eq_true rfl, Nat.le_of_ble_eq_true rfl⟩, hB _ k2_36, hB _ ks_117⟩ ⟨wr_blind, va_recv hK hP (ci := 3) (q0 := 3) rfl rfl, wr_pre hP hK hN hD⟩ rfl rfl hl.1 rfl (lv_room (Nat.le_of_ble_eq_true rfl)) dX0_split_145 ⟨Nat.le_of_ble_eq_true rfl, Nat.le_of_ble_eq_true rfl⟩) hS (fun H locs hP hI_19 hS => ?_)
              have hD := wD (S2 := (F_R_add ((F_R_add S (S 6 a1.toNatClampNeg) (S 7 a1.toNatClampNeg) (S 8 a1.toNatClampNeg) (a2 - 1)).2) (S 6 a1.toNatClampNeg) (S 7 a1.toNatClampNeg) a2 (((F_R_add S (S 6 a1.toNatClampNeg) (S 7 a1.toNatClampNeg) (S 8 a1.toNatClampNeg) (a2 - 1)).2) 9 a1.toNatClampNeg)).2) hD
              have k_20 : ((F_R_add ((F_R_add S (S 6 a1.toNatClampNeg) (S 7 a1.toNatClampNeg) (S 8 a1.toNatClampNeg) (a2 - 1)).2) (S 6 a1.toNatClampNeg) (S 7 a1.toNatClampNeg) a2 (((F_R_add S (S 6 a1.toNatClampNeg) (S 7 a1.toNatClampNeg) (S 8 a1.toNatClampNeg) (a2 - 1)).2) 9 a1.toNatClampNeg)).1).toInt = (((F_R_add S (S 6 a1.toNatClampNeg) (S 7 a1.toNatClampNeg) (S 8 a1.toNatClampNeg) (a2 - 1)).2) 24 0).toInt := congrArg Int32.toInt (fc_R_add ((F_R_add S (S 6 a1.toNatClampNeg) (S 7 a1.toNatClampNeg) (S 8 a1.toNatClampNeg) (a2 - 1)).2) (S 6 a1.toNatClampNeg) (S 7 a1.toNatClampNeg) a2 (((F_R_add S (S 6 a1.toNatClampNeg) (S 7 a1.toNatClampNeg) (S 8 a1.toNatClampNeg) (a2 - 1)).2) 9 a1.toNatClampNeg))
              have j_20 : (((F_R_add ((F_R_add S (S 6 a1.toNatClampNeg) (S 7 a1.toNatClampNeg) (S 8 a1.toNatClampNeg) (a2 - 1)).2) (S 6 a1.toNatClampNeg) (S 7 a1.toNatClampNeg) a2 (((F_R_add S (S 6 a1.toNatClampNeg) (S 7 a1.toNatClampNeg) (S 8 a1.toNatClampNeg) (a2 - 1)).2) 9 a1.toNatClampNeg)).2) 24 0).toInt = (((F_R_add S (S 6 a1.toNatClampNeg) (S 7 a1.toNatClampNeg) (S 8 a1.toNatClampNeg) (a2 - 1)).2) 24 0).toInt + 1 := i32_inc (x := ((F_R_add S (S 6 a1.toNatClampNeg) (S 7 a1.toNatClampNeg) (S 8 a1.toNatClampNeg) (a2 - 1)).2) 24 0) (by omega) (by omega)
              have i_20 : (((F_R_add ((F_R_add S (S 6 a1.toNatClampNeg) (S 7 a1.toNatClampNeg) (S 8 a1.toNatClampNeg) (a2 - 1)).2) (S 6 a1.toNatClampNeg) (S 7 a1.toNatClampNeg) a2 (((F_R_add S (S 6 a1.toNatClampNeg) (S 7 a1.toNatClampNeg) (S 8 a1.toNatClampNeg) (a2 - 1)).2) 9 a1.toNatClampNeg)).2) 9 a1.toNatClampNeg).toInt = (((F_R_add S (S 6 a1.toNatClampNeg) (S 7 a1.toNatClampNeg) (S 8 a1.toNatClampNeg) (a2 - 1)).2) 9 a1.toNatClampNeg).toInt := congrArg Int32.toInt (fc_R_keep9 ((F_R_add S (S 6 a1.toNatClampNeg) (S 7 a1.toNatClampNeg) (S 8 a1.toNatClampNeg) (a2 - 1)).2) (S 6 a1.toNatClampNeg) (S 7 a1.toNatClampNeg) a2 (((F_R_add S (S 6 a1.toNatClampNeg) (S 7 a1.toNatClampNeg) (S 8 a1.toNatClampNeg) (a2 - 1)).2) 9 a1.toNatClampNeg) a1 (by omega) (by omega))
              refine lv_istore (lv' := [(7, .int ((F_R_add ((F_R_add S (S 6 a1.toNatClampNeg) (S 7 a1.toNatClampNeg) (S 8 a1.toNatClampNeg) (a2 - 1)).2) (S 6 a1.toNatClampNeg) (S 7 a1.toNatClampNeg) a2 (((F_R_add S (S 6 a1.toNatClampNeg) (S 7 a1.toNatClampNeg) (S 8 a1.toNatClampNeg) (a2 - 1)).2) 9 a1.toNatClampNeg)).1)), (6, .int ((F_R_add S (S 6 a1.toNatClampNeg) (S 7 a1.toNatClampNeg) (S 8 a1.toNatClampNeg) (a2 - 1)).1)), (5, .int (S 7 a1.toNatClampNeg)), (4, .int (S 6 a1.toNatClampNeg)), (0, .ref (h 0)), (1, .int a1), (2, .int a2), (3, .int a3)]) hx hb dX0_split_148 hl (by decide) rfl (fun ls hl => ?_)
              refine lv_aload_n hx hb dX0_split_150 rfl (lv_at hl 4 rfl) ?_
              refine va_get (D := D) (ci := 0) (v := .ref (h 3)) (C := RX0) (T := TX0) (N := 7) hx hb hB inX0 hown hK hP 0 rfl rfl 2 (by decide) (hB _ k1_151) (fun _ h9 => h9) rfl dX0_split_151 ?_
              refine va_getN (D := D) (ci := 3) (v := .ref (h 16)) (C := RX3) (T := TX3) (N := 6) hx hb hB inX3 hown hK hP 3 rfl rfl 4 (by decide) (va_Nw.use rfl (hN _ kn_24)) (fun _ h9 => h9) rfl dX0_split_154 ?_
              refine lv_iload_n hx hb dX0_split_157 rfl (lv_at hl 5 rfl) ?_
              refine lv_iconst (v := 0) hx hb dX0_split_158 (by decide) ?_
              refine va_zast (f := ((F_R_add ((F_R_add S (S 6 a1.toNatClampNeg) (S 7 a1.toNatClampNeg) (S 8 a1.toNatClampNeg) (a2 - 1)).2) (S 6 a1.toNatClampNeg) (S 7 a1.toNatClampNeg) a2 (((F_R_add S (S 6 a1.toNatClampNeg) (S 7 a1.toNatClampNeg) (S 8 a1.toNatClampNeg) (a2 - 1)).2) 9 a1.toNatClampNeg)).2) 10) hx hb hK hP hD hS 16 1 rfl rfl (vp_in_iff.mpr (by omega)) dX0_split_159 (fun H locs hP hD hS => ?_)
              rw [show vp_nar .boolean 0 = 0 from by first | rfl | decide] at hP hD
              have hP : va_P D vwCl (wB h cI cZ (upS ((F_R_add ((F_R_add S (S 6 a1.toNatClampNeg) (S 7 a1.toNatClampNeg) (S 8 a1.toNatClampNeg) (a2 - 1)).2) (S 6 a1.toNatClampNeg) (S 7 a1.toNatClampNeg) a2 (((F_R_add S (S 6 a1.toNatClampNeg) (S 7 a1.toNatClampNeg) (S 8 a1.toNatClampNeg) (a2 - 1)).2) 9 a1.toNatClampNeg)).2) 10 a1.toNatClampNeg 0)) H := hP
              have hD : va_D (bA h) (wB h cI cZ (upS ((F_R_add ((F_R_add S (S 6 a1.toNatClampNeg) (S 7 a1.toNatClampNeg) (S 8 a1.toNatClampNeg) (a2 - 1)).2) (S 6 a1.toNatClampNeg) (S 7 a1.toNatClampNeg) a2 (((F_R_add S (S 6 a1.toNatClampNeg) (S 7 a1.toNatClampNeg) (S 8 a1.toNatClampNeg) (a2 - 1)).2) 9 a1.toNatClampNeg)).2) 10 a1.toNatClampNeg 0)) := hD
              have hI_21 : IV (upS ((F_R_add ((F_R_add S (S 6 a1.toNatClampNeg) (S 7 a1.toNatClampNeg) (S 8 a1.toNatClampNeg) (a2 - 1)).2) (S 6 a1.toNatClampNeg) (S 7 a1.toNatClampNeg) a2 (((F_R_add S (S 6 a1.toNatClampNeg) (S 7 a1.toNatClampNeg) (S 8 a1.toNatClampNeg) (a2 - 1)).2) 9 a1.toNatClampNeg)).2) 10 a1.toNatClampNeg 0) := iv_up (S := (F_R_add ((F_R_add S (S 6 a1.toNatClampNeg) (S 7 a1.toNatClampNeg) (S 8 a1.toNatClampNeg) (a2 - 1)).2) (S 6 a1.toNatClampNeg) (S 7 a1.toNatClampNeg) a2 (((F_R_add S (S 6 a1.toNatClampNeg) (S 7 a1.toNatClampNeg) (S 8 a1.toNatClampNeg) (a2 - 1)).2) 9 a1.toNatClampNeg)).2) hI_19 10 a1.toNatClampNeg 0 (iv_one 10 0 1 rfl (by decide))
              refine lv_aload_n hx hb dX0_split_160 rfl (lv_at hl 4 rfl) ?_
              refine lv_iload_n hx hb dX0_split_161 rfl (lv_at hl 7 rfl) ?_
              refine va_put (D := D) (ci := 0) (v := .int a3) (ty := .int) (C := RX0) (T := TX0) (N := 7) hx hb hB inX0 tyX0 tyX0_ok nmX0 hown hK hP hD hS 0 rfl rfl 6 (by decide) (hB _ k1_155) (fun _ h9 => h9) rfl (by decide +kernel) rfl rfl (Nat.le_of_ble_eq_true rfl) dX0_split_162 (fun H locs hP hD hS => ?_)
              have hP : va_P D vwCl (wB h cI cZ (upS (upS ((F_R_add ((F_R_add S (S 6 a1.toNatClampNeg) (S 7 a1.toNatClampNeg) (S 8 a1.toNatClampNeg) (a2 - 1)).2) (S 6 a1.toNatClampNeg) (S 7 a1.toNatClampNeg) a2 (((F_R_add S (S 6 a1.toNatClampNeg) (S 7 a1.toNatClampNeg) (S 8 a1.toNatClampNeg) (a2 - 1)).2) 9 a1.toNatClampNeg)).2) 10 a1.toNatClampNeg 0) 27 0 a3)) H := hP
              have hD : va_D (bA h) (wB h cI cZ (upS (upS ((F_R_add ((F_R_add S (S 6 a1.toNatClampNeg) (S 7 a1.toNatClampNeg) (S 8 a1.toNatClampNeg) (a2 - 1)).2) (S 6 a1.toNatClampNeg) (S 7 a1.toNatClampNeg) a2 (((F_R_add S (S 6 a1.toNatClampNeg) (S 7 a1.toNatClampNeg) (S 8 a1.toNatClampNeg) (a2 - 1)).2) 9 a1.toNatClampNeg)).2) 10 a1.toNatClampNeg 0) 27 0 a3)) := hD
              have hI_22 : IV (upS (upS ((F_R_add ((F_R_add S (S 6 a1.toNatClampNeg) (S 7 a1.toNatClampNeg) (S 8 a1.toNatClampNeg) (a2 - 1)).2) (S 6 a1.toNatClampNeg) (S 7 a1.toNatClampNeg) a2 (((F_R_add S (S 6 a1.toNatClampNeg) (S 7 a1.toNatClampNeg) (S 8 a1.toNatClampNeg) (a2 - 1)).2) 9 a1.toNatClampNeg)).2) 10 a1.toNatClampNeg 0) 27 0 a3) := iv_up (S := upS ((F_R_add ((F_R_add S (S 6 a1.toNatClampNeg) (S 7 a1.toNatClampNeg) (S 8 a1.toNatClampNeg) (a2 - 1)).2) (S 6 a1.toNatClampNeg) (S 7 a1.toNatClampNeg) a2 (((F_R_add S (S 6 a1.toNatClampNeg) (S 7 a1.toNatClampNeg) (S 8 a1.toNatClampNeg) (a2 - 1)).2) 9 a1.toNatClampNeg)).2) 10 a1.toNatClampNeg 0) hI_21 27 0 a3 (iv_none 27 rfl)
              refine lv_aload_n hx hb dX0_split_165 rfl (lv_at hl 4 rfl) ?_
              refine lv_iload_n hx hb dX0_split_166 rfl (lv_at hl 5 rfl) ?_
              refine lv_iload hx hb dX0_split_167 (lv_at hl 1 rfl) ?_
              refine lv_iload hx hb dX0_split_169 (lv_at hl 0 rfl) ?_
              refine wr_call (va_runV (As := [.int a1, .int ((F_R_add S (S 6 a1.toNatClampNeg) (S 7 a1.toNatClampNeg) (S 8 a1.toNatClampNeg) (a2 - 1)).1), .int ((F_R_add ((F_R_add S (S 6 a1.toNatClampNeg) (S 7 a1.toNatClampNeg) (S 8 a1.toNatClampNeg) (a2 - 1)).2) (S 6 a1.toNatClampNeg) (S 7 a1.toNatClampNeg) a2 (((F_R_add S (S 6 a1.toNatClampNeg) (S 7 a1.toNatClampNeg) (S 8 a1.toNatClampNeg) (a2 - 1)).2) 9 a1.toNatClampNeg)).1)]) (rest := []) ⟨hx, hb, hml, hown, hB⟩ (m_A_giveToParts l D h cI cZ (upS (upS ((F_R_add ((F_R_add S (S 6 a1.toNatClampNeg) (S 7 a1.toNatClampNeg) (S 8 a1.toNatClampNeg) (a2 - 1)).2) (S 6 a1.toNatClampNeg) (S 7 a1.toNatClampNeg) a2 (((F_R_add S (S 6 a1.toNatClampNeg) (S 7 a1.toNatClampNeg) (S 8 a1.toNatClampNeg) (a2 - 1)).2) 9 a1.toNatClampNeg)).2) 10 a1.toNatClampNeg 0) 27 0 a3) hI_22 a1 ((F_R_add S (S 6 a1.toNatClampNeg) (S 7 a1.toNatClampNeg) (S 8 a1.toNatClampNeg) (a2 - 1)).1) ((F_R_add ((F_R_add S (S 6 a1.toNatClampNeg) (S 7 a1.toNatClampNeg) (S 8 a1.toNatClampNeg) (a2 - 1)).2) (S 6 a1.toNatClampNeg) (S 7 a1.toNatClampNeg) a2 (((F_R_add S (S 6 a1.toNatClampNeg) (S 7 a1.toNatClampNeg) (S 8 a1.toNatClampNeg) (a2 - 1)).2) 9 a1.toNatClampNeg)).1) (by omega) (by omega)) (cwV 3 hB (gV k2_100 k2_102 ks_160 k1_1 k2_103) rfl rfl rfl (by decide +kernel) ⟨Nat.le_of_ble_eq_true rfl, Nat.le_of_ble_eq_true rfl⟩) ⟨wr_blind, va_recv hK hP (ci := 0) (q0 := 0) rfl rfl, wr_pre hP hK hN hD⟩ rfl rfl hl.1 rfl (lv_room (Nat.le_of_ble_eq_true rfl)) dX0_split_171 ⟨Nat.le_of_ble_eq_true rfl, Nat.le_of_ble_eq_true rfl⟩) hS (fun H locs hP hI_23 hS => ?_)
              have hD := wD (S2 := (F_A_giveToParts (upS (upS ((F_R_add ((F_R_add S (S 6 a1.toNatClampNeg) (S 7 a1.toNatClampNeg) (S 8 a1.toNatClampNeg) (a2 - 1)).2) (S 6 a1.toNatClampNeg) (S 7 a1.toNatClampNeg) a2 (((F_R_add S (S 6 a1.toNatClampNeg) (S 7 a1.toNatClampNeg) (S 8 a1.toNatClampNeg) (a2 - 1)).2) 9 a1.toNatClampNeg)).2) 10 a1.toNatClampNeg 0) 27 0 a3) a1 ((F_R_add S (S 6 a1.toNatClampNeg) (S 7 a1.toNatClampNeg) (S 8 a1.toNatClampNeg) (a2 - 1)).1) ((F_R_add ((F_R_add S (S 6 a1.toNatClampNeg) (S 7 a1.toNatClampNeg) (S 8 a1.toNatClampNeg) (a2 - 1)).2) (S 6 a1.toNatClampNeg) (S 7 a1.toNatClampNeg) a2 (((F_R_add S (S 6 a1.toNatClampNeg) (S 7 a1.toNatClampNeg) (S 8 a1.toNatClampNeg) (a2 - 1)).2) 9 a1.toNatClampNeg)).1)).2) hD
              exact W.iret (v := (F_A_giveToParts (upS (upS ((F_R_add ((F_R_add S (S 6 a1.toNatClampNeg) (S 7 a1.toNatClampNeg) (S 8 a1.toNatClampNeg) (a2 - 1)).2) (S 6 a1.toNatClampNeg) (S 7 a1.toNatClampNeg) a2 (((F_R_add S (S 6 a1.toNatClampNeg) (S 7 a1.toNatClampNeg) (S 8 a1.toNatClampNeg) (a2 - 1)).2) 9 a1.toNatClampNeg)).2) 10 a1.toNatClampNeg 0) 27 0 a3) a1 ((F_R_add S (S 6 a1.toNatClampNeg) (S 7 a1.toNatClampNeg) (S 8 a1.toNatClampNeg) (a2 - 1)).1) ((F_R_add ((F_R_add S (S 6 a1.toNatClampNeg) (S 7 a1.toNatClampNeg) (S 8 a1.toNatClampNeg) (a2 - 1)).2) (S 6 a1.toNatClampNeg) (S 7 a1.toNatClampNeg) a2 (((F_R_add S (S 6 a1.toNatClampNeg) (S 7 a1.toNatClampNeg) (S 8 a1.toNatClampNeg) (a2 - 1)).2) 9 a1.toNatClampNeg)).1)).1) hx hb hr (fun t ht hW => ⟨⟨(F_A_giveToParts (upS (upS ((F_R_add ((F_R_add S (S 6 a1.toNatClampNeg) (S 7 a1.toNatClampNeg) (S 8 a1.toNatClampNeg) (a2 - 1)).2) (S 6 a1.toNatClampNeg) (S 7 a1.toNatClampNeg) a2 (((F_R_add S (S 6 a1.toNatClampNeg) (S 7 a1.toNatClampNeg) (S 8 a1.toNatClampNeg) (a2 - 1)).2) 9 a1.toNatClampNeg)).2) 10 a1.toNatClampNeg 0) 27 0 a3) a1 ((F_R_add S (S 6 a1.toNatClampNeg) (S 7 a1.toNatClampNeg) (S 8 a1.toNatClampNeg) (a2 - 1)).1) ((F_R_add ((F_R_add S (S 6 a1.toNatClampNeg) (S 7 a1.toNatClampNeg) (S 8 a1.toNatClampNeg) (a2 - 1)).2) (S 6 a1.toNatClampNeg) (S 7 a1.toNatClampNeg) a2 (((F_R_add S (S 6 a1.toNatClampNeg) (S 7 a1.toNatClampNeg) (S 8 a1.toNatClampNeg) (a2 - 1)).2) 9 a1.toNatClampNeg)).1)).1, (F_A_giveToParts (upS (upS ((F_R_add ((F_R_add S (S 6 a1.toNatClampNeg) (S 7 a1.toNatClampNeg) (S 8 a1.toNatClampNeg) (a2 - 1)).2) (S 6 a1.toNatClampNeg) (S 7 a1.toNatClampNeg) a2 (((F_R_add S (S 6 a1.toNatClampNeg) (S 7 a1.toNatClampNeg) (S 8 a1.toNatClampNeg) (a2 - 1)).2) 9 a1.toNatClampNeg)).2) 10 a1.toNatClampNeg 0) 27 0 a3) a1 ((F_R_add S (S 6 a1.toNatClampNeg) (S 7 a1.toNatClampNeg) (S 8 a1.toNatClampNeg) (a2 - 1)).1) ((F_R_add ((F_R_add S (S 6 a1.toNatClampNeg) (S 7 a1.toNatClampNeg) (S 8 a1.toNatClampNeg) (a2 - 1)).2) (S 6 a1.toNatClampNeg) (S 7 a1.toNatClampNeg) a2 (((F_R_add S (S 6 a1.toNatClampNeg) (S 7 a1.toNatClampNeg) (S 8 a1.toNatClampNeg) (a2 - 1)).2) 9 a1.toNatClampNeg)).1)).2, rfl, ⟨(by rw [F_A_split, if_neg c_2, if_neg c_4, if_neg c_6, if_pos c_8, if_neg c_10, if_neg c_12]), hI_23⟩, by rw [ht]; exact hP⟩, hS.F ht⟩) hS.2.2 dX0_split_174
            · skip
              refine lv_bipush (v := (-14)) hx hb dX0_split_77 (by decide) ?_
              exact W.iret (v := (-14)) hx hb hr (fun t ht hW => ⟨⟨(-14), S, rfl, ⟨(by rw [F_A_split, if_neg c_2, if_neg c_4, if_neg c_6, if_pos c_8, if_neg c_10, if_pos c_12]), hI⟩, by rw [ht]; exact hP⟩, hS.F ht⟩) hS.2.2 dX0_split_79
          · skip
            have z_0 : ((0) : Int32).toInt = (0) := by decide
            have t_10 := Int32.toInt_inj.symm.mp c_10
            refine lv_bipush (v := (-13)) hx hb dX0_split_63 (by decide) ?_
            exact W.iret (v := (-13)) hx hb hr (fun t ht hW => ⟨⟨(-13), S, rfl, ⟨(by rw [F_A_split, if_neg c_2, if_neg c_4, if_neg c_6, if_pos c_8, if_pos c_10]), hI⟩, by rw [ht]; exact hP⟩, hS.F ht⟩) hS.2.2 dX0_split_65
        · skip
          have t_8 := mt Int32.le_iff_toInt_le.mpr c_8
          refine lv_bipush (v := (-12)) hx hb dX0_split_48 (by decide) ?_
          exact W.iret (v := (-12)) hx hb hr (fun t ht hW => ⟨⟨(-12), S, rfl, ⟨(by rw [F_A_split, if_neg c_2, if_neg c_4, if_neg c_6, if_neg c_8]), hI⟩, by rw [ht]; exact hP⟩, hS.F ht⟩) hS.2.2 dX0_split_50
  · skip
    refine lv_bipush (v := (-11)) hx hb dX0_split_11 (by decide) ?_
    exact W.iret (v := (-11)) hx hb hr (fun t ht hW => ⟨⟨(-11), S, rfl, ⟨(by rw [F_A_split, if_pos c_2]), hI⟩, by rw [ht]; exact hP⟩, hS.F ht⟩) hS.2.2 dX0_split_13
set_option maxHeartbeats 4000000 in
set_option maxRecDepth 100000 in
theorem m_A_isLiveOf (l : Launch) (D : va_G) (h : Nat → Nat) (cI cZ : ClassId) (S : BS) (hI : IV S) (a1 a2 : Int32) (ha0 : 0 ≤ a1.toInt ∧ a1.toInt ≤ 119) : PM l yX0_isLiveOf wsX0_isLiveOf { frames := 0, cells := 0, slots := 0, locals := 0 } D cI cZ h S [.ref (h 0), .int a1, .int a2] (f_A_isLiveOf S a1 a2) := by
  refine Met.ofW (cc := cX0_isLiveOf) (maxL := 3) (ret := (some .boolean)) (by decide) rfl ?_
  intro p e s m args below meth c s₁ B hml hv
  obtain ⟨rfl, hP, hK, hN⟩ := hv
  have hx := B.exec
  have hb := B.bytes
  have hr := B.returns
  have hts := atoms_spec (ws := wsX0_isLiveOf) B.pre
  have hB : ∀ w ∈ BW, w.before _ s = true := fun w h => hts w (List.mem_cons_of_mem _ h)
  have hown : s.vm.findClass RX0 = some m.cls := findClass_of_methodNamed B.named
  have hlocks := B.notSynchronized
  have hS : va_S (fun _ => False) s.heap s.heap [] := va_S.rf
  have hl := lv_entry ([.ref (h 0), .int a1, .int a2]) (n := 3) (Nat.le_of_ble_eq_true rfl)
  rw [lg_entry_eq]
  generalize (lg_sl ([.ref (h 0), .int a1, .int a2]) ++ List.replicate (3 - (lg_sl ([.ref (h 0), .int a1, .int a2])).length) Slot.unset).toArray = ls at hl ⊢
  have hl : lv_has ls 3 [(0, .ref (h 0)), (1, .int a1), (2, .int a2)] := hl
  refine lv_aload_n hx hb dX0_isLiveOf_0 rfl (lv_at hl 0 rfl) ?_
  refine va_get (D := D) (ci := 0) (v := .ref (h 4)) (C := RX0) (T := TX0) (N := 7) hx hb hB inX0 hown hK hP 0 rfl rfl 3 (by decide) (hB _ k1_152) (fun _ h9 => h9) rfl dX0_isLiveOf_1 ?_
  refine va_getN (D := D) (ci := 4) (v := .ref (h 21)) (C := RX4) (T := TX4) (N := 6) hx hb hB inX4 hown hK hP 4 rfl rfl 4 (by decide) (va_Nw.use rfl (hN _ kn_19)) (fun _ h9 => h9) rfl dX0_isLiveOf_4 ?_
  refine lv_iload_n hx hb dX0_isLiveOf_7 rfl (lv_at hl 1 rfl) ?_
  refine va_zald (f := S 15) hx hb hK hP 21 1 rfl rfl (vp_in_iff.mpr (by omega)) dX0_isLiveOf_8 ?_
  have b_1 : (0) ≤ (S 15 a1.toNatClampNeg).toInt ∧ (S 15 a1.toNatClampNeg).toInt ≤ 1 := iv_15 hI a1.toNatClampNeg
  refine lv_if_eq (tgt := 37) hx hb dX0_isLiveOf_9 (by decide) (fun c_2 => ?_) (fun c_2 => ?_)
  · skip
    have z_0 : ((0) : Int32).toInt = (0) := by decide
    have t_2 := Int32.toInt_inj.symm.mp c_2
    refine lv_iconst (v := 0) hx hb dX0_isLiveOf_37 (by decide) ?_
    exact W.zret (v := 0) hx hb hr (by decide) (fun t ht hW => ⟨⟨0, (), rfl, (by rw [f_A_isLiveOf, if_pos c_2]), trivial⟩, hS.F ht⟩) hS.2.2 dX0_isLiveOf_38
  · skip
    have z_0 : ((0) : Int32).toInt = (0) := by decide
    have t_2 := mt Int32.toInt_inj.mp c_2
    refine lv_aload_n hx hb dX0_isLiveOf_12 rfl (lv_at hl 0 rfl) ?_
    refine va_get (D := D) (ci := 0) (v := .ref (h 3)) (C := RX0) (T := TX0) (N := 7) hx hb hB inX0 hown hK hP 0 rfl rfl 2 (by decide) (hB _ k1_151) (fun _ h9 => h9) rfl dX0_isLiveOf_13 ?_
    refine va_getN (D := D) (ci := 3) (v := .ref (h 12)) (C := RX3) (T := TX3) (N := 6) hx hb hB inX3 hown hK hP 3 rfl rfl 0 (by decide) (va_Nw.use rfl (hN _ kn_27)) (fun _ h9 => h9) rfl dX0_isLiveOf_16 ?_
    refine lv_aload_n hx hb dX0_isLiveOf_19 rfl (lv_at hl 0 rfl) ?_
    refine va_get (D := D) (ci := 0) (v := .ref (h 4)) (C := RX0) (T := TX0) (N := 7) hx hb hB inX0 hown hK hP 0 rfl rfl 3 (by decide) (hB _ k1_152) (fun _ h9 => h9) rfl dX0_isLiveOf_20 ?_
    refine va_getN (D := D) (ci := 4) (v := .ref (h 17)) (C := RX4) (T := TX4) (N := 6) hx hb hB inX4 hown hK hP 4 rfl rfl 0 (by decide) (va_Nw.use rfl (hN _ kn_20)) (fun _ h9 => h9) rfl dX0_isLiveOf_23 ?_
    refine lv_iload_n hx hb dX0_isLiveOf_26 rfl (lv_at hl 1 rfl) ?_
    refine va_iald (f := S 11) hx hb hK hP 17 0 rfl rfl (vp_in_iff.mpr (by omega)) dX0_isLiveOf_27 ?_
    have b_3 : (0) ≤ (S 11 a1.toNatClampNeg).toInt ∧ (S 11 a1.toNatClampNeg).toInt ≤ 79 := iv_11 hI a1.toNatClampNeg
    refine va_iald (f := S 6) hx hb hK hP 12 0 rfl rfl (vp_in_iff.mpr (by omega)) dX0_isLiveOf_28 ?_
    have b_4 : (0) ≤ (S 6 (S 11 a1.toNatClampNeg).toNatClampNeg).toInt ∧ (S 6 (S 11 a1.toNatClampNeg).toNatClampNeg).toInt ≤ 31 := iv_6 hI ((S 11 a1.toNatClampNeg).toNatClampNeg)
    refine lv_iload_n hx hb dX0_isLiveOf_29 rfl (lv_at hl 2 rfl) ?_
    refine lv_icmp_ne (tgt := 37) hx hb dX0_isLiveOf_30 (by decide) (fun c_5 => ?_) (fun c_5 => ?_)
    · skip
      refine lv_iconst (v := 0) hx hb dX0_isLiveOf_37 (by decide) ?_
      exact W.zret (v := 0) hx hb hr (by decide) (fun t ht hW => ⟨⟨0, (), rfl, (by rw [f_A_isLiveOf, if_neg c_2, if_neg c_5]), trivial⟩, hS.F ht⟩) hS.2.2 dX0_isLiveOf_38
    · skip
      refine lv_iconst (v := 1) hx hb dX0_isLiveOf_33 (by decide) ?_
      refine lv_goto (tgt := 38) hx hb dX0_isLiveOf_34 (by decide) ?_
      exact W.zret (v := 1) hx hb hr (by decide) (fun t ht hW => ⟨⟨1, (), rfl, (by rw [f_A_isLiveOf, if_neg c_2, if_pos c_5]), trivial⟩, hS.F ht⟩) hS.2.2 dX0_isLiveOf_38
set_option maxHeartbeats 4000000 in
set_option maxRecDepth 100000 in
theorem m_A_howManyLiveOf (l : Launch) (D : va_G) (h : Nat → Nat) (cI cZ : ClassId) (S : BS) (hI : IV S) (a1 : Int32) : PM l yX0_howManyLiveOf wsX0_howManyLiveOf { frames := 1, cells := 0, slots := 0, locals := 22 } D cI cZ h S [.ref (h 0), .int a1] (f_A_howManyLiveOf S a1) := by
  refine Met.ofW (cc := cX0_howManyLiveOf) (maxL := 4) (ret := (some .int)) (by decide) rfl ?_
  intro p e s m args below meth c s₁ B hml hv
  obtain ⟨rfl, hP, hK, hN⟩ := hv
  have hx := B.exec
  have hb := B.bytes
  have hr := B.returns
  have hts := atoms_spec (ws := wsX0_howManyLiveOf) B.pre
  have hB : ∀ w ∈ BW, w.before _ s = true := fun w h => hts w (List.mem_cons_of_mem _ h)
  have hown : s.vm.findClass RX0 = some m.cls := findClass_of_methodNamed B.named
  have hlocks := B.notSynchronized
  have hS : va_S (fun _ => False) s.heap s.heap [] := va_S.rf
  have hl := lv_entry ([.ref (h 0), .int a1]) (n := 4) (Nat.le_of_ble_eq_true rfl)
  rw [lg_entry_eq]
  generalize (lg_sl ([.ref (h 0), .int a1]) ++ List.replicate (4 - (lg_sl ([.ref (h 0), .int a1])).length) Slot.unset).toArray = ls at hl ⊢
  have hl : lv_has ls 4 [(0, .ref (h 0)), (1, .int a1)] := hl
  refine lv_iconst (v := 0) hx hb dX0_howManyLiveOf_0 (by decide) ?_
  refine lv_istore_n (lv' := [(2, .int 0), (0, .ref (h 0)), (1, .int a1)]) hx hb dX0_howManyLiveOf_1 rfl hl (by decide) rfl (fun ls hl => ?_)
  refine lv_iconst (v := 0) hx hb dX0_howManyLiveOf_2 (by decide) ?_
  refine lv_istore_n (lv' := [(3, .int 0), (2, .int 0), (0, .ref (h 0)), (1, .int a1)]) hx hb dX0_howManyLiveOf_3 rfl hl (by decide) rfl (fun ls hl => ?_)
  have loop4 : ∀ (n : Nat) (x2 x3 : Int32) (H : Heap) (locs : List Loc) (ls : Array Slot), (0 ≤ x3.toInt ∧ x3.toInt ≤ (S 25 0 : Int32).toInt ∧ (S 25 0 : Int32).toInt - x3.toInt < (n : Int) ∧ True) → l_A_howManyLiveOf_4 S a1 n x2 x3 = f_A_howManyLiveOf S a1 → va_P D vwCl (wB h cI cZ S) H → va_S (fun _ => False) s.heap H locs → lv_has ls 4 [(0, .ref (h 0)), (1, .int a1), (2, .int x2), (3, .int x3)] → W p l e (headSpec wsX0_howManyLiveOf { frames := 1, cells := 0, slots := 0, locals := 22 }).room s m ([.ref (h 0), .int a1]).toArray below meth c H locs 0 0 (MQ below (PQ (f_A_howManyLiveOf S a1)) ([.ref (h 0), .int a1]).toArray s 0 0 (fun _ => False)) (F0 m 4 ls []) := by
    intro n
    induction n with
    | zero =>
      intro x2 x3 H locs ls hinv he hP hS hl
      obtain ⟨h0, hle, hm, hex⟩ := hinv
      exact absurd hm (by omega)
    | succ n ih =>
      intro x2 x3 H locs ls hinv he hP hS hl
      obtain ⟨h0, hle, hm, hex⟩ := hinv
      have hB := iv_25 hI
      refine lv_iload_n hx hb dX0_howManyLiveOf_4 rfl (lv_at hl 3 rfl) ?_
      refine lv_aload_n hx hb dX0_howManyLiveOf_5 rfl (lv_at hl 0 rfl) ?_
      refine va_get (D := D) (ci := 0) (v := .ref (h 4)) (C := RX0) (T := TX0) (N := 7) hx hb hB inX0 hown hK hP 0 rfl rfl 3 (by decide) (hB _ k1_152) (fun _ h9 => h9) rfl dX0_howManyLiveOf_6 ?_
      refine va_getN (D := D) (ci := 4) (v := .int (S 25 0)) (C := RX4) (T := TX4) (N := 6) hx hb hB inX4 hown hK hP 4 rfl rfl 5 (by decide) (va_Nw.use rfl (hN _ kn_18)) (fun _ h9 => h9) rfl dX0_howManyLiveOf_9 ?_
      have b_1 : (0) ≤ (S 25 0).toInt ∧ (S 25 0).toInt ≤ 120 := iv_25 hI
      refine lv_icmp_ge (tgt := 33) hx hb dX0_howManyLiveOf_12 (by decide) (fun c_2 => ?_) (fun c_2 => ?_)
      · skip
        have t_2 := Int32.le_iff_toInt_le.mp c_2
        refine lv_iload_n hx hb dX0_howManyLiveOf_33 rfl (lv_at hl 2 rfl) ?_
        exact W.iret (v := x2) hx hb hr (fun t ht hW => ⟨⟨x2, (), rfl, (by rw [← he, l_A_howManyLiveOf_4, if_pos c_2]), trivial⟩, hS.F ht⟩) hS.2.2 dX0_howManyLiveOf_34
      · skip
        have t_2 := mt Int32.le_iff_toInt_le.mpr c_2
        refine lv_aload_n hx hb dX0_howManyLiveOf_15 rfl (lv_at hl 0 rfl) ?_
        refine lv_iload_n hx hb dX0_howManyLiveOf_16 rfl (lv_at hl 3 rfl) ?_
        refine lv_iload_n hx hb dX0_howManyLiveOf_17 rfl (lv_at hl 1 rfl) ?_
        refine pu_call (va_runV (As := [.int x3, .int a1]) (rest := []) ⟨hx, hb, hml, hown, hB⟩ (m_A_isLiveOf l D h cI cZ S hI x3 a1 (by omega)) (cwV 2 hB (gV k2_117 k2_119 ks_164 k1_1 k2_120) rfl rfl rfl (by decide +kernel) ⟨Nat.le_of_ble_eq_true rfl, Nat.le_of_ble_eq_true rfl⟩) ⟨pu_blind, va_recv hK hP (ci := 0) (q0 := 0) rfl rfl, pu_pre hP hK hN⟩ rfl rfl hl.1 rfl (lv_room (Nat.le_of_ble_eq_true rfl)) dX0_howManyLiveOf_18 ⟨Nat.le_of_ble_eq_true rfl, Nat.le_of_ble_eq_true rfl⟩) hP hS (fun H locs hP hS => ?_)
        refine lv_if_eq (tgt := 27) hx hb dX0_howManyLiveOf_21 (by decide) (fun c_4 => ?_) (fun c_4 => ?_)
        · skip
          refine lv_iinc (v := x3 + 1) (lv' := [(3, .int (x3 + 1)), (0, .ref (h 0)), (1, .int a1), (2, .int x2)]) hx hb dX0_howManyLiveOf_27 hl (k := 3) rfl rfl (by decide) rfl (fun ls hl => ?_)
          refine lv_goto (tgt := 4) hx hb dX0_howManyLiveOf_30 (by decide) ?_
          have hinc := i32_inc (x := x3) h0 (by omega)
          exact ih x2 (x3 + 1) _ _ _ ⟨by omega, by omega, by omega, trivial⟩ (by rw [← he, l_A_howManyLiveOf_4, if_neg c_2, if_pos c_4]) hP hS (lv_sub hl [1, 2, 3, 0] rfl)
        · skip
          refine lv_iinc (v := x2 + 1) (lv' := [(2, .int (x2 + 1)), (0, .ref (h 0)), (1, .int a1), (3, .int x3)]) hx hb dX0_howManyLiveOf_24 hl (k := 2) rfl rfl (by decide) rfl (fun ls hl => ?_)
          refine lv_iinc (v := x3 + 1) (lv' := [(3, .int (x3 + 1)), (2, .int (x2 + 1)), (0, .ref (h 0)), (1, .int a1)]) hx hb dX0_howManyLiveOf_27 hl (k := 3) rfl rfl (by decide) rfl (fun ls hl => ?_)
          refine lv_goto (tgt := 4) hx hb dX0_howManyLiveOf_30 (by decide) ?_
          have hinc := i32_inc (x := x3) h0 (by omega)
          exact ih (x2 + 1) (x3 + 1) _ _ _ ⟨by omega, by omega, by omega, trivial⟩ (by rw [← he, l_A_howManyLiveOf_4, if_neg c_2, if_neg c_4]) hP hS (lv_sub hl [2, 3, 1, 0] rfl)
  have hB9 := iv_25 hI
  have z_0 : ((0) : Int32).toInt = (0) := by decide
  exact loop4 600 0 0 _ _ _ ⟨by omega, by omega, by omega, trivial⟩ (by rw [f_A_howManyLiveOf]) hP hS (lv_sub hl [2, 3, 1, 0] rfl)
set_option maxHeartbeats 4000000 in
set_option maxRecDepth 100000 in
theorem m_A_join (l : Launch) (D : va_G) (h : Nat → Nat) (cI cZ : ClassId) (S : BS) (hI : IV S) (a1 a2 a3 : Int32) : WM l yX0_join wsX0_join { frames := 6, cells := 0, slots := 0, locals := 135 } D cI cZ h S [.ref (h 0), .int a1, .int a2, .int a3] (F_A_join S a1 a2 a3) := by
  refine Met.ofW (cc := cX0_join) (maxL := 6) (ret := (some .int)) (by decide) rfl ?_
  intro p e s m args below meth c s₁ B hml hv
  obtain ⟨rfl, hP, hK, hN, hD0⟩ := hv
  have hx := B.exec
  have hb := B.bytes
  have hr := B.returns
  have hts := atoms_spec (ws := wsX0_join) B.pre
  have hB : ∀ w ∈ BW, w.before _ s = true := fun w h => hts w (List.mem_cons_of_mem _ h)
  have hown : s.vm.findClass RX0 = some m.cls := findClass_of_methodNamed B.named
  have hlocks := B.notSynchronized
  have hD := bD hD0
  have hS : va_S (bA h) s.heap s.heap [] := va_S.rf
  have hl := lv_entry ([.ref (h 0), .int a1, .int a2, .int a3]) (n := 6) (Nat.le_of_ble_eq_true rfl)
  rw [lg_entry_eq]
  generalize (lg_sl ([.ref (h 0), .int a1, .int a2, .int a3]) ++ List.replicate (6 - (lg_sl ([.ref (h 0), .int a1, .int a2, .int a3])).length) Slot.unset).toArray = ls at hl ⊢
  have hl : lv_has ls 6 [(0, .ref (h 0)), (1, .int a1), (2, .int a2), (3, .int a3)] := hl
  refine lv_aload_n hx hb dX0_join_0 rfl (lv_at hl 0 rfl) ?_
  refine va_get (D := D) (ci := 0) (v := .ref (h 2)) (C := RX0) (T := TX0) (N := 7) hx hb hB inX0 hown hK hP 0 rfl rfl 1 (by decide) (hB _ k1_150) (fun _ h9 => h9) rfl dX0_join_1 ?_
  refine lv_iload_n hx hb dX0_join_4 rfl (lv_at hl 1 rfl) ?_
  refine pu_call (va_runVN (As := [.int a1]) (rest := []) ⟨hx, hb, hml, hown, hB⟩ (m_T_has l D h cI cZ S hI a1 ) ⟨va_cnB 1 hB (gB k1_225) rfl rfl rfl (hN _ kn_11) (hB _ k1_3) (by decide +kernel) ⟨Nat.le_of_ble_eq_true rfl, Nat.le_of_ble_eq_true rfl⟩, hB _ k1_224, hB _ ks_98⟩ ⟨pu_blind, va_recv hK hP (ci := 2) (q0 := 2) rfl rfl, pu_pre hP hK hN⟩ rfl rfl hl.1 rfl (lv_room (Nat.le_of_ble_eq_true rfl)) dX0_join_5 ⟨Nat.le_of_ble_eq_true rfl, Nat.le_of_ble_eq_true rfl⟩) hP hS (fun H locs hP hS => ?_)
  refine lv_if_eq (tgt := 22) hx hb dX0_join_8 (by decide) (fun c_2 => ?_) (fun c_2 => ?_)
  · skip
    refine lv_bipush (v := (-11)) hx hb dX0_join_22 (by decide) ?_
    exact W.iret (v := (-11)) hx hb hr (fun t ht hW => ⟨⟨(-11), S, rfl, ⟨(by rw [F_A_join, if_pos c_2]), hI⟩, by rw [ht]; exact hP⟩, hS.F ht⟩) hS.2.2 dX0_join_24
  · skip
    have t_2 := fb_T_has hI c_2
    refine lv_aload_n hx hb dX0_join_11 rfl (lv_at hl 0 rfl) ?_
    refine va_get (D := D) (ci := 0) (v := .ref (h 2)) (C := RX0) (T := TX0) (N := 7) hx hb hB inX0 hown hK hP 0 rfl rfl 1 (by decide) (hB _ k1_150) (fun _ h9 => h9) rfl dX0_join_12 ?_
    refine lv_iload_n hx hb dX0_join_15 rfl (lv_at hl 2 rfl) ?_
    refine pu_call (va_runVN (As := [.int a2]) (rest := []) ⟨hx, hb, hml, hown, hB⟩ (m_T_has l D h cI cZ S hI a2 ) ⟨va_cnB 1 hB (gB k1_225) rfl rfl rfl (hN _ kn_11) (hB _ k1_3) (by decide +kernel) ⟨Nat.le_of_ble_eq_true rfl, Nat.le_of_ble_eq_true rfl⟩, hB _ k1_224, hB _ ks_98⟩ ⟨pu_blind, va_recv hK hP (ci := 2) (q0 := 2) rfl rfl, pu_pre hP hK hN⟩ rfl rfl hl.1 rfl (lv_room (Nat.le_of_ble_eq_true rfl)) dX0_join_16 ⟨Nat.le_of_ble_eq_true rfl, Nat.le_of_ble_eq_true rfl⟩) hP hS (fun H locs hP hS => ?_)
    refine lv_if_ne (tgt := 25) hx hb dX0_join_19 (by decide) (fun c_4 => ?_) (fun c_4 => ?_)
    · skip
      have t_4 := fb_T_has hI c_4
      refine lv_aload_n hx hb dX0_join_25 rfl (lv_at hl 0 rfl) ?_
      refine lv_iload_n hx hb dX0_join_26 rfl (lv_at hl 3 rfl) ?_
      refine pu_call (va_runV (As := [.int a3]) (rest := []) ⟨hx, hb, hml, hown, hB⟩ (m_A_isTodayOrLater l D h cI cZ S hI a3 ) (cwV 1 hB (gV k2_1 k2_3 ks_107 k1_1 k2_4) rfl rfl rfl (by decide +kernel) ⟨Nat.le_of_ble_eq_true rfl, Nat.le_of_ble_eq_true rfl⟩) ⟨pu_blind, va_recv hK hP (ci := 0) (q0 := 0) rfl rfl, pu_pre hP hK hN⟩ rfl rfl hl.1 rfl (lv_room (Nat.le_of_ble_eq_true rfl)) dX0_join_27 ⟨Nat.le_of_ble_eq_true rfl, Nat.le_of_ble_eq_true rfl⟩) hP hS (fun H locs hP hS => ?_)
      refine lv_if_ne (tgt := 36) hx hb dX0_join_30 (by decide) (fun c_6 => ?_) (fun c_6 => ?_)
      · skip
        refine lv_iload_n hx hb dX0_join_36 rfl (lv_at hl 1 rfl) ?_
        refine lv_iload_n hx hb dX0_join_37 rfl (lv_at hl 2 rfl) ?_
        refine lv_icmp_eq (tgt := 63) hx hb dX0_join_38 (by decide) (fun c_7 => ?_) (fun c_7 => ?_)
        · skip
          refine lv_bipush (v := (-13)) hx hb dX0_join_63 (by decide) ?_
          exact W.iret (v := (-13)) hx hb hr (fun t ht hW => ⟨⟨(-13), S, rfl, ⟨(by rw [F_A_join, if_neg c_2, if_neg c_4, if_neg c_6, if_pos c_7]), hI⟩, by rw [ht]; exact hP⟩, hS.F ht⟩) hS.2.2 dX0_join_65
        · skip
          refine lv_aload_n hx hb dX0_join_41 rfl (lv_at hl 0 rfl) ?_
          refine va_get (D := D) (ci := 0) (v := .ref (h 2)) (C := RX0) (T := TX0) (N := 7) hx hb hB inX0 hown hK hP 0 rfl rfl 1 (by decide) (hB _ k1_150) (fun _ h9 => h9) rfl dX0_join_42 ?_
          refine lv_iload_n hx hb dX0_join_45 rfl (lv_at hl 1 rfl) ?_
          refine pu_call (va_runVN (As := [.int a1]) (rest := []) ⟨hx, hb, hml, hown, hB⟩ (m_T_isGone l D h cI cZ S hI a1 (by omega)) ⟨va_cnB 1 hB (gB k2_9) rfl rfl rfl (hN _ kn_12) (hB _ k1_3) (by decide +kernel) ⟨Nat.le_of_ble_eq_true rfl, Nat.le_of_ble_eq_true rfl⟩, hB _ k2_8, hB _ ks_110⟩ ⟨pu_blind, va_recv hK hP (ci := 2) (q0 := 2) rfl rfl, pu_pre hP hK hN⟩ rfl rfl hl.1 rfl (lv_room (Nat.le_of_ble_eq_true rfl)) dX0_join_46 ⟨Nat.le_of_ble_eq_true rfl, Nat.le_of_ble_eq_true rfl⟩) hP hS (fun H locs hP hS => ?_)
          refine lv_if_ne (tgt := 63) hx hb dX0_join_49 (by decide) (fun c_9 => ?_) (fun c_9 => ?_)
          · skip
            refine lv_bipush (v := (-13)) hx hb dX0_join_63 (by decide) ?_
            exact W.iret (v := (-13)) hx hb hr (fun t ht hW => ⟨⟨(-13), S, rfl, ⟨(by rw [F_A_join, if_neg c_2, if_neg c_4, if_neg c_6, if_neg c_7, if_neg c_9]), hI⟩, by rw [ht]; exact hP⟩, hS.F ht⟩) hS.2.2 dX0_join_65
          · skip
            refine lv_aload_n hx hb dX0_join_52 rfl (lv_at hl 0 rfl) ?_
            refine va_get (D := D) (ci := 0) (v := .ref (h 2)) (C := RX0) (T := TX0) (N := 7) hx hb hB inX0 hown hK hP 0 rfl rfl 1 (by decide) (hB _ k1_150) (fun _ h9 => h9) rfl dX0_join_53 ?_
            refine lv_iload_n hx hb dX0_join_56 rfl (lv_at hl 2 rfl) ?_
            refine pu_call (va_runVN (As := [.int a2]) (rest := []) ⟨hx, hb, hml, hown, hB⟩ (m_T_isGone l D h cI cZ S hI a2 (by omega)) ⟨va_cnB 1 hB (gB k2_9) rfl rfl rfl (hN _ kn_12) (hB _ k1_3) (by decide +kernel) ⟨Nat.le_of_ble_eq_true rfl, Nat.le_of_ble_eq_true rfl⟩, hB _ k2_8, hB _ ks_110⟩ ⟨pu_blind, va_recv hK hP (ci := 2) (q0 := 2) rfl rfl, pu_pre hP hK hN⟩ rfl rfl hl.1 rfl (lv_room (Nat.le_of_ble_eq_true rfl)) dX0_join_57 ⟨Nat.le_of_ble_eq_true rfl, Nat.le_of_ble_eq_true rfl⟩) hP hS (fun H locs hP hS => ?_)
            refine lv_if_eq (tgt := 66) hx hb dX0_join_60 (by decide) (fun c_11 => ?_) (fun c_11 => ?_)
            · skip
              refine lv_aload_n hx hb dX0_join_66 rfl (lv_at hl 0 rfl) ?_
              refine va_get (D := D) (ci := 0) (v := .ref (h 3)) (C := RX0) (T := TX0) (N := 7) hx hb hB inX0 hown hK hP 0 rfl rfl 2 (by decide) (hB _ k1_151) (fun _ h9 => h9) rfl dX0_join_67 ?_
              refine lv_iload_n hx hb dX0_join_70 rfl (lv_at hl 1 rfl) ?_
              refine lv_iload_n hx hb dX0_join_71 rfl (lv_at hl 2 rfl) ?_
              refine pu_call (va_runVN (As := [.int a1, .int a2]) (rest := []) ⟨hx, hb, hml, hown, hB⟩ (m_R_leastOverAnyOf l D h cI cZ S hI a1 a2 ) ⟨va_cnB 2 hB (gB k2_111) rfl rfl rfl (hN _ kn_34) (hB _ k1_4) (by decide +kernel) ⟨Nat.le_of_ble_eq_true rfl, Nat.le_of_ble_eq_true rfl⟩, hB _ k2_110, hB _ ks_167⟩ ⟨pu_blind, va_recv hK hP (ci := 3) (q0 := 3) rfl rfl, pu_pre hP hK hN⟩ rfl rfl hl.1 rfl (lv_room (Nat.le_of_ble_eq_true rfl)) dX0_join_72 ⟨Nat.le_of_ble_eq_true rfl, Nat.le_of_ble_eq_true rfl⟩) hP hS (fun H locs hP hS => ?_)
              refine lv_istore (lv' := [(4, .int (f_R_leastOverAnyOf S a1 a2)), (0, .ref (h 0)), (1, .int a1), (2, .int a2), (3, .int a3)]) hx hb dX0_join_75 hl (by decide) rfl (fun ls hl => ?_)
              refine lv_iload hx hb dX0_join_77 (lv_at hl 0 rfl) ?_
              refine lv_iconst (v := (-1)) hx hb dX0_join_79 (by decide) ?_
              refine lv_icmp_eq (tgt := 90) hx hb dX0_join_80 (by decide) (fun c_13 => ?_) (fun c_13 => ?_)
              · skip
                have z_m1 : ((-1) : Int32).toInt = (-1) := by decide
                have t_13 := Int32.toInt_inj.symm.mp c_13
                refine lv_aload_n hx hb dX0_join_90 rfl (lv_at hl 1 rfl) ?_
                refine lv_iload_n hx hb dX0_join_91 rfl (lv_at hl 2 rfl) ?_
                refine pu_call (va_runV (As := [.int a1]) (rest := []) ⟨hx, hb, hml, hown, hB⟩ (m_A_howManyLiveOf l D h cI cZ S hI a1 ) (cwV 1 hB (gV k2_113 k2_115 ks_171 k1_1 k2_116) rfl rfl rfl (by decide +kernel) ⟨Nat.le_of_ble_eq_true rfl, Nat.le_of_ble_eq_true rfl⟩) ⟨pu_blind, va_recv hK hP (ci := 0) (q0 := 0) rfl rfl, pu_pre hP hK hN⟩ rfl rfl hl.1 rfl (lv_room (Nat.le_of_ble_eq_true rfl)) dX0_join_92 ⟨Nat.le_of_ble_eq_true rfl, Nat.le_of_ble_eq_true rfl⟩) hP hS (fun H locs hP hS => ?_)
                refine lv_istore (lv' := [(5, .int (f_A_howManyLiveOf S a1)), (4, .int (f_R_leastOverAnyOf S a1 a2)), (0, .ref (h 0)), (1, .int a1), (2, .int a2), (3, .int a3)]) hx hb dX0_join_95 hl (by decide) rfl (fun ls hl => ?_)
                refine lv_aload_n hx hb dX0_join_97 rfl (lv_at hl 2 rfl) ?_
                refine va_get (D := D) (ci := 0) (v := .ref (h 3)) (C := RX0) (T := TX0) (N := 7) hx hb hB inX0 hown hK hP 0 rfl rfl 2 (by decide) (hB _ k1_151) (fun _ h9 => h9) rfl dX0_join_98 ?_
                refine lv_iload_n hx hb dX0_join_101 rfl (lv_at hl 3 rfl) ?_
                refine lv_iload_n hx hb dX0_join_102 rfl (lv_at hl 4 rfl) ?_
                refine wv_call (va_runVN (As := [.int a1, .int a2]) (rest := []) ⟨hx, hb, hml, hown, hB⟩ (m_R_moveLive l D h cI cZ S hI a1 a2 (by omega)) ⟨va_cnB 2 hB (gB k2_124) rfl rfl rfl (hN _ kn_35) (hB _ k1_4) (by decide +kernel) ⟨Nat.le_of_ble_eq_true rfl, Nat.le_of_ble_eq_true rfl⟩, hB _ k2_123, hB _ ks_174⟩ ⟨wr_blind, va_recv hK hP (ci := 3) (q0 := 3) rfl rfl, wr_pre hP hK hN hD⟩ rfl rfl hl.1 rfl (lv_room (Nat.le_of_ble_eq_true rfl)) dX0_join_103 ⟨Nat.le_of_ble_eq_true rfl, Nat.le_of_ble_eq_true rfl⟩) hS (fun H locs hP hI_15 hS => ?_)
                have hD := wD (S2 := (F_R_moveLive S a1 a2)) hD
                refine lv_aload_n hx hb dX0_join_106 rfl (lv_at hl 2 rfl) ?_
                refine va_get (D := D) (ci := 0) (v := .ref (h 2)) (C := RX0) (T := TX0) (N := 7) hx hb hB inX0 hown hK hP 0 rfl rfl 1 (by decide) (hB _ k1_150) (fun _ h9 => h9) rfl dX0_join_107 ?_
                refine lv_iload_n hx hb dX0_join_110 rfl (lv_at hl 3 rfl) ?_
                refine lv_iload_n hx hb dX0_join_111 rfl (lv_at hl 4 rfl) ?_
                refine lv_iload_n hx hb dX0_join_112 rfl (lv_at hl 5 rfl) ?_
                refine wv_call (va_runVN (As := [.int a1, .int a2, .int a3]) (rest := []) ⟨hx, hb, hml, hown, hB⟩ (m_T_goInto l D h cI cZ (F_R_moveLive S a1 a2) hI_15 a1 a2 a3 (by omega) (by omega)) ⟨va_cnB 3 hB (gB k2_128) rfl rfl rfl (hN _ kn_36) (hB _ k1_3) (by decide +kernel) ⟨Nat.le_of_ble_eq_true rfl, Nat.le_of_ble_eq_true rfl⟩, hB _ k2_127, hB _ ks_177⟩ ⟨wr_blind, va_recv hK hP (ci := 2) (q0 := 2) rfl rfl, wr_pre hP hK hN hD⟩ rfl rfl hl.1 rfl (lv_room (Nat.le_of_ble_eq_true rfl)) dX0_join_113 ⟨Nat.le_of_ble_eq_true rfl, Nat.le_of_ble_eq_true rfl⟩) hS (fun H locs hP hI_17 hS => ?_)
                have hD := wD (S2 := (F_T_goInto (F_R_moveLive S a1 a2) a1 a2 a3)) hD
                refine lv_aload_n hx hb dX0_join_116 rfl (lv_at hl 2 rfl) ?_
                refine lv_iload_n hx hb dX0_join_117 rfl (lv_at hl 5 rfl) ?_
                refine va_put (D := D) (ci := 0) (v := .int a3) (ty := .int) (C := RX0) (T := TX0) (N := 7) hx hb hB inX0 tyX0 tyX0_ok nmX0 hown hK hP hD hS 0 rfl rfl 6 (by decide) (hB _ k1_155) (fun _ h9 => h9) rfl (by decide +kernel) rfl rfl (Nat.le_of_ble_eq_true rfl) dX0_join_118 (fun H locs hP hD hS => ?_)
                have hP : va_P D vwCl (wB h cI cZ (upS (F_T_goInto (F_R_moveLive S a1 a2) a1 a2 a3) 27 0 a3)) H := hP
                have hD : va_D (bA h) (wB h cI cZ (upS (F_T_goInto (F_R_moveLive S a1 a2) a1 a2 a3) 27 0 a3)) := hD
                have hI_19 : IV (upS (F_T_goInto (F_R_moveLive S a1 a2) a1 a2 a3) 27 0 a3) := iv_up (S := (F_T_goInto (F_R_moveLive S a1 a2) a1 a2 a3)) hI_17 27 0 a3 (iv_none 27 rfl)
                refine lv_iload hx hb dX0_join_121 (lv_at hl 0 rfl) ?_
                exact W.iret (v := f_A_howManyLiveOf S a1) hx hb hr (fun t ht hW => ⟨⟨f_A_howManyLiveOf S a1, upS (F_T_goInto (F_R_moveLive S a1 a2) a1 a2 a3) 27 0 a3, rfl, ⟨(by rw [F_A_join, if_neg c_2, if_neg c_4, if_neg c_6, if_neg c_7, if_pos c_9, if_pos c_11, if_pos c_13]), hI_19⟩, by rw [ht]; exact hP⟩, hS.F ht⟩) hS.2.2 dX0_join_123
              · skip
                have z_m1 : ((-1) : Int32).toInt = (-1) := by decide
                have t_13 := mt Int32.toInt_inj.mp c_13
                refine lv_sipush (v := (-200)) hx hb dX0_join_83 (by decide) ?_
                refine lv_iload hx hb dX0_join_86 (lv_at hl 0 rfl) ?_
                refine lv_isub hx hb dX0_join_88 ?_
                exact W.iret (v := (-200) - (f_R_leastOverAnyOf S a1 a2)) hx hb hr (fun t ht hW => ⟨⟨(-200) - (f_R_leastOverAnyOf S a1 a2), S, rfl, ⟨(by rw [F_A_join, if_neg c_2, if_neg c_4, if_neg c_6, if_neg c_7, if_pos c_9, if_pos c_11, if_neg c_13]), hI⟩, by rw [ht]; exact hP⟩, hS.F ht⟩) hS.2.2 dX0_join_89
            · skip
              refine lv_bipush (v := (-13)) hx hb dX0_join_63 (by decide) ?_
              exact W.iret (v := (-13)) hx hb hr (fun t ht hW => ⟨⟨(-13), S, rfl, ⟨(by rw [F_A_join, if_neg c_2, if_neg c_4, if_neg c_6, if_neg c_7, if_pos c_9, if_neg c_11]), hI⟩, by rw [ht]; exact hP⟩, hS.F ht⟩) hS.2.2 dX0_join_65
      · skip
        refine lv_bipush (v := (-12)) hx hb dX0_join_33 (by decide) ?_
        exact W.iret (v := (-12)) hx hb hr (fun t ht hW => ⟨⟨(-12), S, rfl, ⟨(by rw [F_A_join, if_neg c_2, if_neg c_4, if_pos c_6]), hI⟩, by rw [ht]; exact hP⟩, hS.F ht⟩) hS.2.2 dX0_join_35
    · skip
      refine lv_bipush (v := (-11)) hx hb dX0_join_22 (by decide) ?_
      exact W.iret (v := (-11)) hx hb hr (fun t ht hW => ⟨⟨(-11), S, rfl, ⟨(by rw [F_A_join, if_neg c_2, if_pos c_4]), hI⟩, by rw [ht]; exact hP⟩, hS.F ht⟩) hS.2.2 dX0_join_24
