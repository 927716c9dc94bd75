set_option maxHeartbeats 4000000 in
set_option maxRecDepth 100000 in
theorem m_A_howManyTrue_15 (l : Launch) (D : va_G) (h : Nat → Nat) (cI cZ : ClassId) (S : BS) (hI : IV S) : PM l yX0_howManyTrue wsX0_howManyTrue { frames := 0, cells := 0, slots := 0, locals := 0 } D cI cZ h S [.ref (h 21)] (f_A_howManyTrue_15 S) := by
  refine Met.ofW (cc := cX0_howManyTrue) (maxL := 3) (ret := (some .int)) (by decide) rfl ?_
  intro p e s m args below meth c s₁ B hml hv
  obtain ⟨rfl, hP, hK, hN⟩ := hv
  have hx := B.exec
  have hb := B.bytes
  have hr := B.returns
  have hts := atoms_spec (ws := wsX0_howManyTrue) B.pre
  have hB : ∀ w ∈ BW, w.before _ s = true := fun w h => hts w (List.mem_cons_of_mem _ h)
  have hown : s.vm.findClass RX0 = some m.cls := findClass_of_methodNamed B.named
  have hlocks := B.notSynchronized
  have hS : va_S (fun _ => False) s.heap s.heap [] := va_S.rf
  have hl := lv_entry ([.ref (h 21)]) (n := 3) (Nat.le_of_ble_eq_true rfl)
  rw [lg_entry_eq]
  generalize (lg_sl ([.ref (h 21)]) ++ List.replicate (3 - (lg_sl ([.ref (h 21)])).length) Slot.unset).toArray = ls at hl ⊢
  have hl : lv_has ls 3 [(0, .ref (h 21))] := hl
  refine lv_iconst (v := 0) hx hb dX0_howManyTrue_0 (by decide) ?_
  refine lv_istore_n (lv' := [(1, .int 0), (0, .ref (h 21))]) hx hb dX0_howManyTrue_1 rfl hl (by decide) rfl (fun ls hl => ?_)
  refine lv_iconst (v := 0) hx hb dX0_howManyTrue_2 (by decide) ?_
  refine lv_istore_n (lv' := [(2, .int 0), (1, .int 0), (0, .ref (h 21))]) hx hb dX0_howManyTrue_3 rfl hl (by decide) rfl (fun ls hl => ?_)
  have loop4 : ∀ (n : Nat) (x1 x2 : Int32) (H : Heap) (locs : List Loc) (ls : Array Slot), (0 ≤ x2.toInt ∧ x2.toInt ≤ (120 : Int32).toInt ∧ (120 : Int32).toInt - x2.toInt < (n : Int) ∧ True) → l_A_howManyTrue_15_4 S n x1 x2 = f_A_howManyTrue_15 S  → va_P D vwCl (wB h cI cZ S) H → va_S (fun _ => False) s.heap H locs → lv_has ls 3 [(0, .ref (h 21)), (1, .int x1), (2, .int x2)] → W p l e (headSpec wsX0_howManyTrue { frames := 0, cells := 0, slots := 0, locals := 0 }).room s m ([.ref (h 21)]).toArray below meth c H locs 0 0 (MQ below (PQ (f_A_howManyTrue_15 S)) ([.ref (h 21)]).toArray s 0 0 (fun _ => False)) (F0 m 4 ls []) := by
    intro n
    induction n with
    | zero =>
      intro x1 x2 H locs ls hinv he hP hS hl
      obtain ⟨h0, hle, hm, hex⟩ := hinv
      exact absurd hm (by omega)
    | succ n ih =>
      intro x1 x2 H locs ls hinv he hP hS hl
      obtain ⟨h0, hle, hm, hex⟩ := hinv
      have z_120 : ((120) : Int32).toInt = (120) := by decide
      refine lv_iload_n hx hb dX0_howManyTrue_4 rfl (lv_at hl 2 rfl) ?_
      refine lv_aload_n hx hb dX0_howManyTrue_5 rfl (lv_at hl 0 rfl) ?_
      refine va_alen (v := 120) hx hb hK hP 21 1 rfl rfl rfl dX0_howManyTrue_6 ?_
      refine lv_icmp_ge (tgt := 25) hx hb dX0_howManyTrue_7 (by decide) (fun c_1 => ?_) (fun c_1 => ?_)
      · skip
        have t_1 := Int32.le_iff_toInt_le.mp c_1
        refine lv_iload_n hx hb dX0_howManyTrue_25 rfl (lv_at hl 1 rfl) ?_
        exact W.iret (v := x1) hx hb hr (fun t ht hW => ⟨⟨x1, (), rfl, (by rw [← he, l_A_howManyTrue_15_4, if_pos c_1]), trivial⟩, hS.F ht⟩) hS.2.2 dX0_howManyTrue_26
      · skip
        have t_1 := mt Int32.le_iff_toInt_le.mpr c_1
        refine lv_aload_n hx hb dX0_howManyTrue_10 rfl (lv_at hl 0 rfl) ?_
        refine lv_iload_n hx hb dX0_howManyTrue_11 rfl (lv_at hl 2 rfl) ?_
        refine va_zald (f := S 15) hx hb hK hP 21 1 rfl rfl (vp_in_iff.mpr (by omega)) dX0_howManyTrue_12 ?_
        have b_2 : (0) ≤ (S 15 x2.toNatClampNeg).toInt ∧ (S 15 x2.toNatClampNeg).toInt ≤ 1 := iv_15 (S := S) hI x2.toNatClampNeg
        refine lv_if_eq (tgt := 19) hx hb dX0_howManyTrue_13 (by decide) (fun c_3 => ?_) (fun c_3 => ?_)
        · skip
          have z_0 : ((0) : Int32).toInt = (0) := by decide
          have t_3 := Int32.toInt_inj.symm.mp c_3
          refine lv_iinc (v := x2 + 1) (lv' := [(2, .int (x2 + 1)), (0, .ref (h 21)), (1, .int x1)]) hx hb dX0_howManyTrue_19 hl (k := 2) rfl rfl (by decide) rfl (fun ls hl => ?_)
          refine lv_goto (tgt := 4) hx hb dX0_howManyTrue_22 (by decide) ?_
          have hinc := i32_inc (x := x2) h0 (by omega)
          exact ih x1 (x2 + 1) _ _ _ ⟨by omega, by omega, by omega, trivial⟩ (by rw [← he, l_A_howManyTrue_15_4, if_neg c_1, if_pos c_3]) hP hS (lv_sub hl [1, 2, 0] rfl)
        · skip
          have z_0 : ((0) : Int32).toInt = (0) := by decide
          have t_3 := mt Int32.toInt_inj.mp c_3
          refine lv_iinc (v := x1 + 1) (lv' := [(1, .int (x1 + 1)), (0, .ref (h 21)), (2, .int x2)]) hx hb dX0_howManyTrue_16 hl (k := 1) rfl rfl (by decide) rfl (fun ls hl => ?_)
          refine lv_iinc (v := x2 + 1) (lv' := [(2, .int (x2 + 1)), (1, .int (x1 + 1)), (0, .ref (h 21))]) hx hb dX0_howManyTrue_19 hl (k := 2) rfl rfl (by decide) rfl (fun ls hl => ?_)
          refine lv_goto (tgt := 4) hx hb dX0_howManyTrue_22 (by decide) ?_
          have hinc := i32_inc (x := x2) h0 (by omega)
          exact ih (x1 + 1) (x2 + 1) _ _ _ ⟨by omega, by omega, by omega, trivial⟩ (by rw [← he, l_A_howManyTrue_15_4, if_neg c_1, if_neg c_3]) hP hS (lv_sub hl [2, 1, 0] rfl)
  have z9 : ((120) : Int32).toInt = (120) := by decide
  have z_0 : ((0) : Int32).toInt = (0) := by decide
  exact loop4 600 0 0 _ _ _ ⟨by omega, by omega, by omega, trivial⟩ (by rw [f_A_howManyTrue_15]) hP hS (lv_sub hl [2, 1, 0] rfl)
set_option maxHeartbeats 4000000 in
set_option maxRecDepth 100000 in
theorem m_A_count (l : Launch) (D : va_G) (h : Nat → Nat) (cI cZ : ClassId) (S : BS) (hI : IV S) (a1 : Int32) : PM l yX0_count wsX0_count { frames := 1, cells := 0, slots := 0, locals := 22 } D cI cZ h S [.ref (h 0), .int a1] (f_A_count S a1) := by
  refine Met.ofW (cc := cX0_count) (maxL := 2) (ret := (some .int)) (by decide) rfl ?_
  intro p e s m args below meth c s₁ B hml hv
  obtain ⟨rfl, hP, hK, hN⟩ := hv
  have hx := B.exec
  have hb := B.bytes
  have hr := B.returns
  have hts := atoms_spec (ws := wsX0_count) B.pre
  have hB : ∀ w ∈ BW, w.before _ s = true := fun w h => hts w (List.mem_cons_of_mem _ h)
  have hown : s.vm.findClass RX0 = some m.cls := findClass_of_methodNamed B.named
  have hlocks := B.notSynchronized
  have hS : va_S (fun _ => False) s.heap s.heap [] := va_S.rf
  have hl := lv_entry ([.ref (h 0), .int a1]) (n := 2) (Nat.le_of_ble_eq_true rfl)
  rw [lg_entry_eq]
  generalize (lg_sl ([.ref (h 0), .int a1]) ++ List.replicate (2 - (lg_sl ([.ref (h 0), .int a1])).length) Slot.unset).toArray = ls at hl ⊢
  have hl : lv_has ls 2 [(0, .ref (h 0)), (1, .int a1)] := hl
  refine lv_iload_n hx hb dX0_count_0 rfl (lv_at hl 1 rfl) ?_
  by_cases c_1 : a1 = 0
  · skip
    refine lv_tableIn (tgt := 36) (off := 35) hx hb dX0_count_1 (by rw [c_1]; decide) (by rw [c_1]; decide) (by rw [c_1]; rfl) (by decide) ?_
    refine lv_aload_n hx hb dX0_count_36 rfl (lv_at hl 0 rfl) ?_
    refine va_get (D := D) (ci := 0) (v := .ref (h 1)) (C := RX0) (T := TX0) (N := 7) hx hb hB inX0 hown hK hP 0 rfl rfl 0 (by decide) (hB _ k1_149) (fun _ h9 => h9) rfl dX0_count_37 ?_
    refine va_getN (D := D) (ci := 1) (v := .int (S 22 0)) (C := RX1) (T := TX1) (N := 2) hx hb hB inX1 hown hK hP 1 rfl rfl 1 (by decide) (va_Nw.use rfl (hN _ kn_49)) (fun _ h9 => h9) rfl dX0_count_40 ?_
    have b_2 : (0) ≤ (S 22 0).toInt ∧ (S 22 0).toInt ≤ 16 := iv_22 (S := S) hI
    exact W.iret (v := S 22 0) hx hb hr (fun t ht hW => ⟨⟨S 22 0, (), rfl, (by rw [f_A_count, if_pos c_1]), trivial⟩, hS.F ht⟩) hS.2.2 dX0_count_43
  by_cases c_3 : a1 = 1
  · skip
    refine lv_tableIn (tgt := 44) (off := 43) hx hb dX0_count_1 (by rw [c_3]; decide) (by rw [c_3]; decide) (by rw [c_3]; rfl) (by decide) ?_
    refine lv_aload_n hx hb dX0_count_44 rfl (lv_at hl 0 rfl) ?_
    refine va_get (D := D) (ci := 0) (v := .ref (h 2)) (C := RX0) (T := TX0) (N := 7) hx hb hB inX0 hown hK hP 0 rfl rfl 1 (by decide) (hB _ k1_150) (fun _ h9 => h9) rfl dX0_count_45 ?_
    refine va_getN (D := D) (ci := 2) (v := .int (S 23 0)) (C := RX2) (T := TX2) (N := 6) hx hb hB inX2 hown hK hP 2 rfl rfl 5 (by decide) (va_Nw.use rfl (hN _ kn_50)) (fun _ h9 => h9) rfl dX0_count_48 ?_
    have b_4 : (0) ≤ (S 23 0).toInt ∧ (S 23 0).toInt ≤ 32 := iv_23 (S := S) hI
    exact W.iret (v := S 23 0) hx hb hr (fun t ht hW => ⟨⟨S 23 0, (), rfl, (by rw [f_A_count, if_neg c_1, if_pos c_3]), trivial⟩, hS.F ht⟩) hS.2.2 dX0_count_51
  by_cases c_5 : a1 = 2
  · skip
    refine lv_tableIn (tgt := 52) (off := 51) hx hb dX0_count_1 (by rw [c_5]; decide) (by rw [c_5]; decide) (by rw [c_5]; rfl) (by decide) ?_
    refine lv_aload_n hx hb dX0_count_52 rfl (lv_at hl 0 rfl) ?_
    refine va_get (D := D) (ci := 0) (v := .ref (h 3)) (C := RX0) (T := TX0) (N := 7) hx hb hB inX0 hown hK hP 0 rfl rfl 2 (by decide) (hB _ k1_151) (fun _ h9 => h9) rfl dX0_count_53 ?_
    refine va_getN (D := D) (ci := 3) (v := .ref (h 16)) (C := RX3) (T := TX3) (N := 6) hx hb hB inX3 hown hK hP 3 rfl rfl 4 (by decide) (va_Nw.use rfl (hN _ kn_24)) (fun _ h9 => h9) rfl dX0_count_56 ?_
    refine pu_call (va_runS (As := [.ref (h 16)]) (rest := []) ⟨hx, hb, hml, hown, hB⟩ (m_A_howManyTrue_10 l D h cI cZ S hI  ) (cwS 1 hB (gS k2_228 k2_229 k1_1 k2_230) rfl rfl rfl (by decide +kernel) ⟨Nat.le_of_ble_eq_true rfl, Nat.le_of_ble_eq_true rfl⟩) ⟨pu_blind, pu_pre hP hK hN⟩ rfl rfl hl.1 rfl (lv_room (Nat.le_of_ble_eq_true rfl)) dX0_count_59 ⟨Nat.le_of_ble_eq_true rfl, Nat.le_of_ble_eq_true rfl⟩) hP hS (fun H locs hP hS => ?_)
    exact W.iret (v := f_A_howManyTrue_10 S) hx hb hr (fun t ht hW => ⟨⟨f_A_howManyTrue_10 S, (), rfl, (by rw [f_A_count, if_neg c_1, if_neg c_3, if_pos c_5]), trivial⟩, hS.F ht⟩) hS.2.2 dX0_count_62
  by_cases c_7 : a1 = 3
  · skip
    refine lv_tableIn (tgt := 63) (off := 62) hx hb dX0_count_1 (by rw [c_7]; decide) (by rw [c_7]; decide) (by rw [c_7]; rfl) (by decide) ?_
    refine lv_aload_n hx hb dX0_count_63 rfl (lv_at hl 0 rfl) ?_
    refine va_get (D := D) (ci := 0) (v := .ref (h 4)) (C := RX0) (T := TX0) (N := 7) hx hb hB inX0 hown hK hP 0 rfl rfl 3 (by decide) (hB _ k1_152) (fun _ h9 => h9) rfl dX0_count_64 ?_
    refine va_getN (D := D) (ci := 4) (v := .ref (h 21)) (C := RX4) (T := TX4) (N := 6) hx hb hB inX4 hown hK hP 4 rfl rfl 4 (by decide) (va_Nw.use rfl (hN _ kn_19)) (fun _ h9 => h9) rfl dX0_count_67 ?_
    refine pu_call (va_runS (As := [.ref (h 21)]) (rest := []) ⟨hx, hb, hml, hown, hB⟩ (m_A_howManyTrue_15 l D h cI cZ S hI  ) (cwS 1 hB (gS k2_228 k2_229 k1_1 k2_230) rfl rfl rfl (by decide +kernel) ⟨Nat.le_of_ble_eq_true rfl, Nat.le_of_ble_eq_true rfl⟩) ⟨pu_blind, pu_pre hP hK hN⟩ rfl rfl hl.1 rfl (lv_room (Nat.le_of_ble_eq_true rfl)) dX0_count_70 ⟨Nat.le_of_ble_eq_true rfl, Nat.le_of_ble_eq_true rfl⟩) hP hS (fun H locs hP hS => ?_)
    exact W.iret (v := f_A_howManyTrue_15 S) hx hb hr (fun t ht hW => ⟨⟨f_A_howManyTrue_15 S, (), rfl, (by rw [f_A_count, if_neg c_1, if_neg c_3, if_neg c_5, if_pos c_7]), trivial⟩, hS.F ht⟩) hS.2.2 dX0_count_73
  by_cases c_9 : a1 = 4
  · skip
    refine lv_tableIn (tgt := 74) (off := 73) hx hb dX0_count_1 (by rw [c_9]; decide) (by rw [c_9]; decide) (by rw [c_9]; rfl) (by decide) ?_
    refine lv_aload_n hx hb dX0_count_74 rfl (lv_at hl 0 rfl) ?_
    refine va_get (D := D) (ci := 0) (v := .int (S 27 0)) (C := RX0) (T := TX0) (N := 7) hx hb hB inX0 hown hK hP 0 rfl rfl 6 (by decide) (hB _ k1_155) (fun _ h9 => h9) rfl dX0_count_75 ?_
    exact W.iret (v := S 27 0) hx hb hr (fun t ht hW => ⟨⟨S 27 0, (), rfl, (by rw [f_A_count, if_neg c_1, if_neg c_3, if_neg c_5, if_neg c_7, if_pos c_9]), trivial⟩, hS.F ht⟩) hS.2.2 dX0_count_78
  refine lv_tableOut (tgt := 79) hx hb dX0_count_1 (by have n0 := lv_neT c_1 (show ((0) : Int32).toInt = 0 by decide); have n1 := lv_neT c_3 (show ((1) : Int32).toInt = 1 by decide); have n2 := lv_neT c_5 (show ((2) : Int32).toInt = 2 by decide); have n3 := lv_neT c_7 (show ((3) : Int32).toInt = 3 by decide); have n4 := lv_neT c_9 (show ((4) : Int32).toInt = 4 by decide); omega) (by decide) ?_
  refine lv_bipush (v := (-12)) hx hb dX0_count_79 (by decide) ?_
  exact W.iret (v := (-12)) hx hb hr (fun t ht hW => ⟨⟨(-12), (), rfl, (by rw [f_A_count, if_neg c_1, if_neg c_3, if_neg c_5, if_neg c_7, if_neg c_9]), trivial⟩, hS.F ht⟩) hS.2.2 dX0_count_81
