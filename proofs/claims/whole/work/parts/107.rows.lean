set_option maxHeartbeats 4000000 in
set_option maxRecDepth 100000 in
theorem m_A_isEarlierOnRound (l : Launch) (D : va_G) (h : Nat → Nat) (cI cZ : ClassId) (S : BS) (hI : IV S) (a1 a2 : Int32) (ha0 : 0 ≤ a1.toInt ∧ a1.toInt ≤ 119) (ha1 : 0 ≤ a2.toInt ∧ a2.toInt ≤ 119) : PM l yX0_isEarlierOnRound wsX0_isEarlierOnRound { frames := 1, cells := 0, slots := 0, locals := 21 } D cI cZ h S [.ref (h 0), .int a1, .int a2] (f_A_isEarlierOnRound S a1 a2) := by
  refine Met.ofW (cc := cX0_isEarlierOnRound) (maxL := 5) (ret := (some .boolean)) (by decide) rfl ?_
  intro p e s m args below meth c s₁ B hml hv
  obtain ⟨rfl, hP, hK, hN⟩ := hv
  have hx := B.exec
  have hb := B.bytes
  have hr := B.returns
  have hts := atoms_spec (ws := wsX0_isEarlierOnRound) B.pre
  have hB : ∀ w ∈ BW, w.before _ s = true := fun w h => hts w (List.mem_cons_of_mem _ h)
  have hown : s.vm.findClass RX0 = some m.cls := findClass_of_methodNamed B.named
  have hlocks := B.notSynchronized
  have hS : va_S (fun _ => False) s.heap s.heap [] := va_S.rf
  have hl := lv_entry ([.ref (h 0), .int a1, .int a2]) (n := 5) (Nat.le_of_ble_eq_true rfl)
  rw [lg_entry_eq]
  generalize (lg_sl ([.ref (h 0), .int a1, .int a2]) ++ List.replicate (5 - (lg_sl ([.ref (h 0), .int a1, .int a2])).length) Slot.unset).toArray = ls at hl ⊢
  have hl : lv_has ls 5 [(0, .ref (h 0)), (1, .int a1), (2, .int a2)] := hl
  refine lv_aload_n hx hb dX0_isEarlierOnRound_0 rfl (lv_at hl 0 rfl) ?_
  refine lv_iload_n hx hb dX0_isEarlierOnRound_1 rfl (lv_at hl 1 rfl) ?_
  refine pu_call (va_runV (As := [.int a1]) (rest := []) ⟨hx, hb, hml, hown, hB⟩ (m_A_houseNow l D h cI cZ S hI a1 (by omega)) (cwV 1 hB (gV k2_59 k2_61 ks_123 k1_1 k2_62) rfl rfl rfl (by decide +kernel) ⟨Nat.le_of_ble_eq_true rfl, Nat.le_of_ble_eq_true rfl⟩) ⟨pu_blind, va_recv hK hP (ci := 0) (q0 := 0) rfl rfl, pu_pre hP hK hN⟩ rfl rfl hl.1 rfl (lv_room (Nat.le_of_ble_eq_true rfl)) dX0_isEarlierOnRound_2 ⟨Nat.le_of_ble_eq_true rfl, Nat.le_of_ble_eq_true rfl⟩) hP hS (fun H locs hP hS => ?_)
  have k_1 := fc_A_houseNow hI a1
  refine lv_istore_n (lv' := [(3, .int (f_A_houseNow S a1)), (0, .ref (h 0)), (1, .int a1), (2, .int a2)]) hx hb dX0_isEarlierOnRound_5 rfl hl (by decide) rfl (fun ls hl => ?_)
  refine lv_aload_n hx hb dX0_isEarlierOnRound_6 rfl (lv_at hl 1 rfl) ?_
  refine lv_iload_n hx hb dX0_isEarlierOnRound_7 rfl (lv_at hl 3 rfl) ?_
  refine pu_call (va_runV (As := [.int a2]) (rest := []) ⟨hx, hb, hml, hown, hB⟩ (m_A_houseNow l D h cI cZ S hI a2 (by omega)) (cwV 1 hB (gV k2_59 k2_61 ks_123 k1_1 k2_62) rfl rfl rfl (by decide +kernel) ⟨Nat.le_of_ble_eq_true rfl, Nat.le_of_ble_eq_true rfl⟩) ⟨pu_blind, va_recv hK hP (ci := 0) (q0 := 0) rfl rfl, pu_pre hP hK hN⟩ rfl rfl hl.1 rfl (lv_room (Nat.le_of_ble_eq_true rfl)) dX0_isEarlierOnRound_8 ⟨Nat.le_of_ble_eq_true rfl, Nat.le_of_ble_eq_true rfl⟩) hP hS (fun H locs hP hS => ?_)
  have k_2 := fc_A_houseNow hI a2
  refine lv_istore (lv' := [(4, .int (f_A_houseNow S a2)), (3, .int (f_A_houseNow S a1)), (0, .ref (h 0)), (1, .int a1), (2, .int a2)]) hx hb dX0_isEarlierOnRound_11 hl (by decide) rfl (fun ls hl => ?_)
  refine lv_iload_n hx hb dX0_isEarlierOnRound_13 rfl (lv_at hl 1 rfl) ?_
  refine lv_iload hx hb dX0_isEarlierOnRound_14 (lv_at hl 0 rfl) ?_
  refine lv_icmp_ne (tgt := 46) hx hb dX0_isEarlierOnRound_16 (by decide) (fun c_3 => ?_) (fun c_3 => ?_)
  · skip
    refine lv_iload_n hx hb dX0_isEarlierOnRound_46 rfl (lv_at hl 1 rfl) ?_
    refine pu_call (va_runS (As := [.int (f_A_houseNow S a1)]) (rest := []) ⟨hx, hb, hml, hown, hB⟩ (m_A_isOdd l D h cI cZ S hI (f_A_houseNow S a1) ) (cwS 1 hB (gS k1_235 k1_236 k1_1 k1_237) rfl rfl rfl (by decide +kernel) ⟨Nat.le_of_ble_eq_true rfl, Nat.le_of_ble_eq_true rfl⟩) ⟨pu_blind, pu_pre hP hK hN⟩ rfl rfl hl.1 rfl (lv_room (Nat.le_of_ble_eq_true rfl)) dX0_isEarlierOnRound_47 ⟨Nat.le_of_ble_eq_true rfl, Nat.le_of_ble_eq_true rfl⟩) hP hS (fun H locs hP hS => ?_)
    refine lv_iload hx hb dX0_isEarlierOnRound_50 (lv_at hl 0 rfl) ?_
    refine pu_call (va_runS (As := [.int (f_A_houseNow S a2)]) (rest := [.int (f_A_isOdd (f_A_houseNow S a1))]) ⟨hx, hb, hml, hown, hB⟩ (m_A_isOdd l D h cI cZ S hI (f_A_houseNow S a2) ) (cwS 1 hB (gS k1_235 k1_236 k1_1 k1_237) rfl rfl rfl (by decide +kernel) ⟨Nat.le_of_ble_eq_true rfl, Nat.le_of_ble_eq_true rfl⟩) ⟨pu_blind, pu_pre hP hK hN⟩ rfl rfl hl.1 rfl (lv_room (Nat.le_of_ble_eq_true rfl)) dX0_isEarlierOnRound_52 ⟨Nat.le_of_ble_eq_true rfl, Nat.le_of_ble_eq_true rfl⟩) hP hS (fun H locs hP hS => ?_)
    refine lv_icmp_eq (tgt := 63) hx hb dX0_isEarlierOnRound_55 (by decide) (fun c_6 => ?_) (fun c_6 => ?_)
    · skip
      refine lv_iload_n hx hb dX0_isEarlierOnRound_63 rfl (lv_at hl 1 rfl) ?_
      refine pu_call (va_runS (As := [.int (f_A_houseNow S a1)]) (rest := []) ⟨hx, hb, hml, hown, hB⟩ (m_A_isOdd l D h cI cZ S hI (f_A_houseNow S a1) ) (cwS 1 hB (gS k1_235 k1_236 k1_1 k1_237) rfl rfl rfl (by decide +kernel) ⟨Nat.le_of_ble_eq_true rfl, Nat.le_of_ble_eq_true rfl⟩) ⟨pu_blind, pu_pre hP hK hN⟩ rfl rfl hl.1 rfl (lv_room (Nat.le_of_ble_eq_true rfl)) dX0_isEarlierOnRound_64 ⟨Nat.le_of_ble_eq_true rfl, Nat.le_of_ble_eq_true rfl⟩) hP hS (fun H locs hP hS => ?_)
      refine lv_if_eq (tgt := 84) hx hb dX0_isEarlierOnRound_67 (by decide) (fun c_8 => ?_) (fun c_8 => ?_)
      · skip
        refine lv_iload_n hx hb dX0_isEarlierOnRound_84 rfl (lv_at hl 1 rfl) ?_
        refine lv_iload hx hb dX0_isEarlierOnRound_85 (lv_at hl 0 rfl) ?_
        refine lv_icmp_le (tgt := 94) hx hb dX0_isEarlierOnRound_87 (by decide) (fun c_9 => ?_) (fun c_9 => ?_)
        · skip
          have t_9 := Int32.le_iff_toInt_le.mp c_9
          refine lv_iconst (v := 0) hx hb dX0_isEarlierOnRound_94 (by decide) ?_
          exact W.zret (v := 0) hx hb hr (by decide) (fun t ht hW => ⟨⟨0, (), rfl, (by rw [f_A_isEarlierOnRound, if_neg c_3, if_pos c_6, if_pos c_8, if_pos c_9]), trivial⟩, hS.F ht⟩) hS.2.2 dX0_isEarlierOnRound_95
        · skip
          have t_9 := mt Int32.le_iff_toInt_le.mpr c_9
          refine lv_iconst (v := 1) hx hb dX0_isEarlierOnRound_90 (by decide) ?_
          refine lv_goto (tgt := 95) hx hb dX0_isEarlierOnRound_91 (by decide) ?_
          exact W.zret (v := 1) hx hb hr (by decide) (fun t ht hW => ⟨⟨1, (), rfl, (by rw [f_A_isEarlierOnRound, if_neg c_3, if_pos c_6, if_pos c_8, if_neg c_9]), trivial⟩, hS.F ht⟩) hS.2.2 dX0_isEarlierOnRound_95
      · skip
        refine lv_iload_n hx hb dX0_isEarlierOnRound_70 rfl (lv_at hl 1 rfl) ?_
        refine lv_iload hx hb dX0_isEarlierOnRound_71 (lv_at hl 0 rfl) ?_
        refine lv_icmp_ge (tgt := 80) hx hb dX0_isEarlierOnRound_73 (by decide) (fun c_10 => ?_) (fun c_10 => ?_)
        · skip
          have t_10 := Int32.le_iff_toInt_le.mp c_10
          refine lv_iconst (v := 0) hx hb dX0_isEarlierOnRound_80 (by decide) ?_
          refine lv_goto (tgt := 95) hx hb dX0_isEarlierOnRound_81 (by decide) ?_
          exact W.zret (v := 0) hx hb hr (by decide) (fun t ht hW => ⟨⟨0, (), rfl, (by rw [f_A_isEarlierOnRound, if_neg c_3, if_pos c_6, if_neg c_8, if_pos c_10]), trivial⟩, hS.F ht⟩) hS.2.2 dX0_isEarlierOnRound_95
        · skip
          have t_10 := mt Int32.le_iff_toInt_le.mpr c_10
          refine lv_iconst (v := 1) hx hb dX0_isEarlierOnRound_76 (by decide) ?_
          refine lv_goto (tgt := 95) hx hb dX0_isEarlierOnRound_77 (by decide) ?_
          exact W.zret (v := 1) hx hb hr (by decide) (fun t ht hW => ⟨⟨1, (), rfl, (by rw [f_A_isEarlierOnRound, if_neg c_3, if_pos c_6, if_neg c_8, if_neg c_10]), trivial⟩, hS.F ht⟩) hS.2.2 dX0_isEarlierOnRound_95
    · skip
      refine lv_iload_n hx hb dX0_isEarlierOnRound_58 rfl (lv_at hl 1 rfl) ?_
      refine pu_call (va_runS (As := [.int (f_A_houseNow S a1)]) (rest := []) ⟨hx, hb, hml, hown, hB⟩ (m_A_isOdd l D h cI cZ S hI (f_A_houseNow S a1) ) (cwS 1 hB (gS k1_235 k1_236 k1_1 k1_237) rfl rfl rfl (by decide +kernel) ⟨Nat.le_of_ble_eq_true rfl, Nat.le_of_ble_eq_true rfl⟩) ⟨pu_blind, pu_pre hP hK hN⟩ rfl rfl hl.1 rfl (lv_room (Nat.le_of_ble_eq_true rfl)) dX0_isEarlierOnRound_59 ⟨Nat.le_of_ble_eq_true rfl, Nat.le_of_ble_eq_true rfl⟩) hP hS (fun H locs hP hS => ?_)
      exact W.zret (v := f_A_isOdd (f_A_houseNow S a1)) hx hb hr (nb01 (z01_A_isOdd)) (fun t ht hW => ⟨⟨f_A_isOdd (f_A_houseNow S a1), (), rfl, (by rw [f_A_isEarlierOnRound, if_neg c_3, if_neg c_6]), trivial⟩, hS.F ht⟩) hS.2.2 dX0_isEarlierOnRound_62
  · skip
    refine lv_aload_n hx hb dX0_isEarlierOnRound_19 rfl (lv_at hl 2 rfl) ?_
    refine va_get (D := D) (ci := 0) (v := .ref (h 4)) (C := RX0) (T := TX0) (N := 7) hx hb hB inX0 hown hK hP 0 rfl rfl 3 (by decide) (hB _ k1_152) (fun _ h9 => h9) rfl dX0_isEarlierOnRound_20 ?_
    refine va_getN (D := D) (ci := 4) (v := .ref (h 19)) (C := RX4) (T := TX4) (N := 6) hx hb hB inX4 hown hK hP 4 rfl rfl 2 (by decide) (va_Nw.use rfl (hN _ kn_21)) (fun _ h9 => h9) rfl dX0_isEarlierOnRound_23 ?_
    refine lv_iload_n hx hb dX0_isEarlierOnRound_26 rfl (lv_at hl 3 rfl) ?_
    refine va_iald (f := S 13) hx hb hK hP 19 0 rfl rfl (vp_in_iff.mpr (by omega)) dX0_isEarlierOnRound_27 ?_
    refine lv_aload_n hx hb dX0_isEarlierOnRound_28 rfl (lv_at hl 2 rfl) ?_
    refine va_get (D := D) (ci := 0) (v := .ref (h 4)) (C := RX0) (T := TX0) (N := 7) hx hb hB inX0 hown hK hP 0 rfl rfl 3 (by decide) (hB _ k1_152) (fun _ h9 => h9) rfl dX0_isEarlierOnRound_29 ?_
    refine va_getN (D := D) (ci := 4) (v := .ref (h 19)) (C := RX4) (T := TX4) (N := 6) hx hb hB inX4 hown hK hP 4 rfl rfl 2 (by decide) (va_Nw.use rfl (hN _ kn_21)) (fun _ h9 => h9) rfl dX0_isEarlierOnRound_32 ?_
    refine lv_iload_n hx hb dX0_isEarlierOnRound_35 rfl (lv_at hl 4 rfl) ?_
    refine va_iald (f := S 13) hx hb hK hP 19 0 rfl rfl (vp_in_iff.mpr (by omega)) dX0_isEarlierOnRound_36 ?_
    refine lv_icmp_ge (tgt := 44) hx hb dX0_isEarlierOnRound_37 (by decide) (fun c_12 => ?_) (fun c_12 => ?_)
    · skip
      have t_12 := Int32.le_iff_toInt_le.mp c_12
      refine lv_iconst (v := 0) hx hb dX0_isEarlierOnRound_44 (by decide) ?_
      exact W.zret (v := 0) hx hb hr (by decide) (fun t ht hW => ⟨⟨0, (), rfl, (by rw [f_A_isEarlierOnRound, if_pos c_3, if_pos c_12]), trivial⟩, hS.F ht⟩) hS.2.2 dX0_isEarlierOnRound_45
    · skip
      have t_12 := mt Int32.le_iff_toInt_le.mpr c_12
      refine lv_iconst (v := 1) hx hb dX0_isEarlierOnRound_40 (by decide) ?_
      refine lv_goto (tgt := 45) hx hb dX0_isEarlierOnRound_41 (by decide) ?_
      exact W.zret (v := 1) hx hb hr (by decide) (fun t ht hW => ⟨⟨1, (), rfl, (by rw [f_A_isEarlierOnRound, if_pos c_3, if_neg c_12]), trivial⟩, hS.F ht⟩) hS.2.2 dX0_isEarlierOnRound_45
set_option maxHeartbeats 4000000 in
set_option maxRecDepth 100000 in
theorem m_A_order (l : Launch) (D : va_G) (h : Nat → Nat) (cI cZ : ClassId) (S : BS) (hI : IV S) (a1 : Int32) : PM l yX0_order wsX0_order { frames := 2, cells := 0, slots := 0, locals := 45 } D cI cZ h S [.ref (h 0), .int a1] (f_A_order S a1) := by
  refine Met.ofW (cc := cX0_order) (maxL := 5) (ret := (some .int)) (by decide) rfl ?_
  intro p e s m args below meth c s₁ B hml hv
  obtain ⟨rfl, hP, hK, hN⟩ := hv
  have hx := B.exec
  have hb := B.bytes
  have hr := B.returns
  have hts := atoms_spec (ws := wsX0_order) B.pre
  have hB : ∀ w ∈ BW, w.before _ s = true := fun w h => hts w (List.mem_cons_of_mem _ h)
  have hown : s.vm.findClass RX0 = some m.cls := findClass_of_methodNamed B.named
  have hlocks := B.notSynchronized
  have hS : va_S (fun _ => False) s.heap s.heap [] := va_S.rf
  have hl := lv_entry ([.ref (h 0), .int a1]) (n := 5) (Nat.le_of_ble_eq_true rfl)
  rw [lg_entry_eq]
  generalize (lg_sl ([.ref (h 0), .int a1]) ++ List.replicate (5 - (lg_sl ([.ref (h 0), .int a1])).length) Slot.unset).toArray = ls at hl ⊢
  have hl : lv_has ls 5 [(0, .ref (h 0)), (1, .int a1)] := hl
  refine lv_aload_n hx hb dX0_order_0 rfl (lv_at hl 0 rfl) ?_
  refine va_get (D := D) (ci := 0) (v := .ref (h 4)) (C := RX0) (T := TX0) (N := 7) hx hb hB inX0 hown hK hP 0 rfl rfl 3 (by decide) (hB _ k1_152) (fun _ h9 => h9) rfl dX0_order_1 ?_
  refine lv_iload_n hx hb dX0_order_4 rfl (lv_at hl 1 rfl) ?_
  refine pu_call (va_runVN (As := [.int a1]) (rest := []) ⟨hx, hb, hml, hown, hB⟩ (m_Q_has l D h cI cZ S hI a1 ) ⟨va_cnB 1 hB (gB k2_136) rfl rfl rfl (hN _ kn_37) (hB _ k1_5) (by decide +kernel) ⟨Nat.le_of_ble_eq_true rfl, Nat.le_of_ble_eq_true rfl⟩, hB _ k2_135, hB _ ks_180⟩ ⟨pu_blind, va_recv hK hP (ci := 4) (q0 := 4) rfl rfl, pu_pre hP hK hN⟩ rfl rfl hl.1 rfl (lv_room (Nat.le_of_ble_eq_true rfl)) dX0_order_5 ⟨Nat.le_of_ble_eq_true rfl, Nat.le_of_ble_eq_true rfl⟩) hP hS (fun H locs hP hS => ?_)
  refine lv_if_ne (tgt := 14) hx hb dX0_order_8 (by decide) (fun c_2 => ?_) (fun c_2 => ?_)
  · skip
    have t_2 := fb_Q_has hI c_2
    refine lv_aload_n hx hb dX0_order_14 rfl (lv_at hl 0 rfl) ?_
    refine va_get (D := D) (ci := 0) (v := .ref (h 4)) (C := RX0) (T := TX0) (N := 7) hx hb hB inX0 hown hK hP 0 rfl rfl 3 (by decide) (hB _ k1_152) (fun _ h9 => h9) rfl dX0_order_15 ?_
    refine va_getN (D := D) (ci := 4) (v := .ref (h 21)) (C := RX4) (T := TX4) (N := 6) hx hb hB inX4 hown hK hP 4 rfl rfl 4 (by decide) (va_Nw.use rfl (hN _ kn_19)) (fun _ h9 => h9) rfl dX0_order_18 ?_
    refine lv_iload_n hx hb dX0_order_21 rfl (lv_at hl 1 rfl) ?_
    refine va_zald (f := S 15) hx hb hK hP 21 1 rfl rfl (vp_in_iff.mpr (by omega)) dX0_order_22 ?_
    have b_3 : (0) ≤ (S 15 a1.toNatClampNeg).toInt ∧ (S 15 a1.toNatClampNeg).toInt ≤ 1 := iv_15 (S := S) hI a1.toNatClampNeg
    refine lv_if_ne (tgt := 29) hx hb dX0_order_23 (by decide) (fun c_4 => ?_) (fun c_4 => ?_)
    · skip
      have z_0 : ((0) : Int32).toInt = (0) := by decide
      have t_4 := mt Int32.toInt_inj.mp c_4
      refine lv_aload_n hx hb dX0_order_29 rfl (lv_at hl 0 rfl) ?_
      refine va_get (D := D) (ci := 0) (v := .ref (h 3)) (C := RX0) (T := TX0) (N := 7) hx hb hB inX0 hown hK hP 0 rfl rfl 2 (by decide) (hB _ k1_151) (fun _ h9 => h9) rfl dX0_order_30 ?_
      refine va_getN (D := D) (ci := 3) (v := .ref (h 12)) (C := RX3) (T := TX3) (N := 6) hx hb hB inX3 hown hK hP 3 rfl rfl 0 (by decide) (va_Nw.use rfl (hN _ kn_27)) (fun _ h9 => h9) rfl dX0_order_33 ?_
      refine lv_aload_n hx hb dX0_order_36 rfl (lv_at hl 0 rfl) ?_
      refine va_get (D := D) (ci := 0) (v := .ref (h 4)) (C := RX0) (T := TX0) (N := 7) hx hb hB inX0 hown hK hP 0 rfl rfl 3 (by decide) (hB _ k1_152) (fun _ h9 => h9) rfl dX0_order_37 ?_
      refine va_getN (D := D) (ci := 4) (v := .ref (h 17)) (C := RX4) (T := TX4) (N := 6) hx hb hB inX4 hown hK hP 4 rfl rfl 0 (by decide) (va_Nw.use rfl (hN _ kn_20)) (fun _ h9 => h9) rfl dX0_order_40 ?_
      refine lv_iload_n hx hb dX0_order_43 rfl (lv_at hl 1 rfl) ?_
      refine va_iald (f := S 11) hx hb hK hP 17 0 rfl rfl (vp_in_iff.mpr (by omega)) dX0_order_44 ?_
      have b_5 : (0) ≤ (S 11 a1.toNatClampNeg).toInt ∧ (S 11 a1.toNatClampNeg).toInt ≤ 79 := iv_11 (S := S) hI a1.toNatClampNeg
      refine va_iald (f := S 6) hx hb hK hP 12 0 rfl rfl (vp_in_iff.mpr (by omega)) dX0_order_45 ?_
      have b_6 : (0) ≤ (S 6 (S 11 a1.toNatClampNeg).toNatClampNeg).toInt ∧ (S 6 (S 11 a1.toNatClampNeg).toNatClampNeg).toInt ≤ 31 := iv_6 (S := S) hI ((S 11 a1.toNatClampNeg).toNatClampNeg)
      refine lv_istore_n (lv' := [(2, .int (S 6 (S 11 a1.toNatClampNeg).toNatClampNeg)), (0, .ref (h 0)), (1, .int a1)]) hx hb dX0_order_46 rfl hl (by decide) rfl (fun ls hl => ?_)
      refine lv_iconst (v := 0) hx hb dX0_order_47 (by decide) ?_
      refine lv_istore_n (lv' := [(3, .int 0), (2, .int (S 6 (S 11 a1.toNatClampNeg).toNatClampNeg)), (0, .ref (h 0)), (1, .int a1)]) hx hb dX0_order_48 rfl hl (by decide) rfl (fun ls hl => ?_)
      refine lv_iconst (v := 0) hx hb dX0_order_49 (by decide) ?_
      refine lv_istore (lv' := [(4, .int 0), (3, .int 0), (2, .int (S 6 (S 11 a1.toNatClampNeg).toNatClampNeg)), (0, .ref (h 0)), (1, .int a1)]) hx hb dX0_order_50 hl (by decide) rfl (fun ls hl => ?_)
      have loop52 : ∀ (n : Nat) (x3 x4 : Int32) (H : Heap) (locs : List Loc) (ls : Array Slot), (0 ≤ x4.toInt ∧ x4.toInt ≤ (S 25 0 : Int32).toInt ∧ (S 25 0 : Int32).toInt - x4.toInt < (n : Int) ∧ True) → l_A_order_52 S a1 n x3 x4 = f_A_order S a1 → va_P D vwCl (wB h cI cZ S) H → va_S (fun _ => False) s.heap H locs → lv_has ls 5 [(0, .ref (h 0)), (1, .int a1), (2, .int (S 6 (S 11 a1.toNatClampNeg).toNatClampNeg)), (3, .int x3), (4, .int x4)] → W p l e (headSpec wsX0_order { frames := 2, cells := 0, slots := 0, locals := 45 }).room s m ([.ref (h 0), .int a1]).toArray below meth c H locs 0 0 (MQ below (PQ (f_A_order S a1)) ([.ref (h 0), .int a1]).toArray s 0 0 (fun _ => False)) (F0 m 52 ls []) := by
        intro n
        induction n with
        | zero =>
          intro x3 x4 H locs ls hinv he hP hS hl
          obtain ⟨h0, hle, hm, hex⟩ := hinv
          exact absurd hm (by omega)
        | succ n ih =>
          intro x3 x4 H locs ls hinv he hP hS hl
          obtain ⟨h0, hle, hm, hex⟩ := hinv
          have hBd := iv_25 hI
          refine lv_iload hx hb dX0_order_52 (lv_at hl 4 rfl) ?_
          refine lv_aload_n hx hb dX0_order_54 rfl (lv_at hl 0 rfl) ?_
          refine va_get (D := D) (ci := 0) (v := .ref (h 4)) (C := RX0) (T := TX0) (N := 7) hx hb hB inX0 hown hK hP 0 rfl rfl 3 (by decide) (hB _ k1_152) (fun _ h9 => h9) rfl dX0_order_55 ?_
          refine va_getN (D := D) (ci := 4) (v := .int (S 25 0)) (C := RX4) (T := TX4) (N := 6) hx hb hB inX4 hown hK hP 4 rfl rfl 5 (by decide) (va_Nw.use rfl (hN _ kn_18)) (fun _ h9 => h9) rfl dX0_order_58 ?_
          have b_7 : (0) ≤ (S 25 0).toInt ∧ (S 25 0).toInt ≤ 120 := iv_25 (S := S) hI
          refine lv_icmp_ge (tgt := 93) hx hb dX0_order_61 (by decide) (fun c_8 => ?_) (fun c_8 => ?_)
          · skip
            have t_8 := Int32.le_iff_toInt_le.mp c_8
            refine lv_iload_n hx hb dX0_order_93 rfl (lv_at hl 3 rfl) ?_
            exact W.iret (v := x3) hx hb hr (fun t ht hW => ⟨⟨x3, (), rfl, (by rw [← he, l_A_order_52, if_pos c_8]), trivial⟩, hS.F ht⟩) hS.2.2 dX0_order_94
          · skip
            have t_8 := mt Int32.le_iff_toInt_le.mpr c_8
            refine lv_aload_n hx hb dX0_order_64 rfl (lv_at hl 0 rfl) ?_
            refine lv_iload hx hb dX0_order_65 (lv_at hl 4 rfl) ?_
            refine lv_iload_n hx hb dX0_order_67 rfl (lv_at hl 2 rfl) ?_
            refine pu_call (va_runV (As := [.int x4, .int (S 6 (S 11 a1.toNatClampNeg).toNatClampNeg)]) (rest := []) ⟨hx, hb, hml, hown, hB⟩ (m_A_isLiveOf l D h cI cZ S hI x4 (S 6 (S 11 a1.toNatClampNeg).toNatClampNeg) (by omega)) (cwV 2 hB (gV k2_117 k2_119 ks_164 k1_1 k2_120) rfl rfl rfl (by decide +kernel) ⟨Nat.le_of_ble_eq_true rfl, Nat.le_of_ble_eq_true rfl⟩) ⟨pu_blind, va_recv hK hP (ci := 0) (q0 := 0) rfl rfl, pu_pre hP hK hN⟩ rfl rfl hl.1 rfl (lv_room (Nat.le_of_ble_eq_true rfl)) dX0_order_68 ⟨Nat.le_of_ble_eq_true rfl, Nat.le_of_ble_eq_true rfl⟩) hP hS (fun H locs hP hS => ?_)
            refine lv_if_eq (tgt := 87) hx hb dX0_order_71 (by decide) (fun c_10 => ?_) (fun c_10 => ?_)
            · skip
              refine lv_iinc (v := x4 + 1) (lv' := [(4, .int (x4 + 1)), (0, .ref (h 0)), (1, .int a1), (2, .int (S 6 (S 11 a1.toNatClampNeg).toNatClampNeg)), (3, .int x3)]) hx hb dX0_order_87 hl (k := 4) rfl rfl (by decide) rfl (fun ls hl => ?_)
              refine lv_goto (tgt := 52) hx hb dX0_order_90 (by decide) ?_
              have hinc := i32_inc (x := x4) h0 (by omega)
              exact ih x3 (x4 + 1) _ _ _ ⟨by omega, by omega, by omega, trivial⟩ (by rw [← he, l_A_order_52, if_neg c_8, if_pos c_10]) hP hS (lv_sub hl [1, 2, 3, 4, 0] rfl)
            · skip
              refine lv_aload_n hx hb dX0_order_74 rfl (lv_at hl 0 rfl) ?_
              refine lv_iload hx hb dX0_order_75 (lv_at hl 4 rfl) ?_
              refine lv_iload_n hx hb dX0_order_77 rfl (lv_at hl 1 rfl) ?_
              refine pu_call (va_runV (As := [.int x4, .int a1]) (rest := []) ⟨hx, hb, hml, hown, hB⟩ (m_A_isEarlierOnRound l D h cI cZ S hI x4 a1 (by omega) (by omega)) (cwV 2 hB (gV k2_199 k2_201 ks_238 k1_1 k2_202) rfl rfl rfl (by decide +kernel) ⟨Nat.le_of_ble_eq_true rfl, Nat.le_of_ble_eq_true rfl⟩) ⟨pu_blind, va_recv hK hP (ci := 0) (q0 := 0) rfl rfl, pu_pre hP hK hN⟩ rfl rfl hl.1 rfl (lv_room (Nat.le_of_ble_eq_true rfl)) dX0_order_78 ⟨Nat.le_of_ble_eq_true rfl, Nat.le_of_ble_eq_true rfl⟩) hP hS (fun H locs hP hS => ?_)
              refine lv_if_eq (tgt := 87) hx hb dX0_order_81 (by decide) (fun c_12 => ?_) (fun c_12 => ?_)
              · skip
                refine lv_iinc (v := x4 + 1) (lv' := [(4, .int (x4 + 1)), (0, .ref (h 0)), (1, .int a1), (2, .int (S 6 (S 11 a1.toNatClampNeg).toNatClampNeg)), (3, .int x3)]) hx hb dX0_order_87 hl (k := 4) rfl rfl (by decide) rfl (fun ls hl => ?_)
                refine lv_goto (tgt := 52) hx hb dX0_order_90 (by decide) ?_
                have hinc := i32_inc (x := x4) h0 (by omega)
                exact ih x3 (x4 + 1) _ _ _ ⟨by omega, by omega, by omega, trivial⟩ (by rw [← he, l_A_order_52, if_neg c_8, if_neg c_10, if_pos c_12]) hP hS (lv_sub hl [1, 2, 3, 4, 0] rfl)
              · skip
                refine lv_iinc (v := x3 + 1) (lv' := [(3, .int (x3 + 1)), (0, .ref (h 0)), (1, .int a1), (2, .int (S 6 (S 11 a1.toNatClampNeg).toNatClampNeg)), (4, .int x4)]) hx hb dX0_order_84 hl (k := 3) rfl rfl (by decide) rfl (fun ls hl => ?_)
                refine lv_iinc (v := x4 + 1) (lv' := [(4, .int (x4 + 1)), (3, .int (x3 + 1)), (0, .ref (h 0)), (1, .int a1), (2, .int (S 6 (S 11 a1.toNatClampNeg).toNatClampNeg))]) hx hb dX0_order_87 hl (k := 4) rfl rfl (by decide) rfl (fun ls hl => ?_)
                refine lv_goto (tgt := 52) hx hb dX0_order_90 (by decide) ?_
                have hinc := i32_inc (x := x4) h0 (by omega)
                exact ih (x3 + 1) (x4 + 1) _ _ _ ⟨by omega, by omega, by omega, trivial⟩ (by rw [← he, l_A_order_52, if_neg c_8, if_neg c_10, if_neg c_12]) hP hS (lv_sub hl [2, 3, 4, 1, 0] rfl)
      have hB9 := iv_25 (S := S) hI
      exact loop52 600 0 0 _ _ _ ⟨by omega, by omega, by omega, trivial⟩ (by rw [f_A_order, if_neg c_2, if_neg c_4]) hP hS (lv_sub hl [3, 4, 2, 1, 0] rfl)
    · skip
      have z_0 : ((0) : Int32).toInt = (0) := by decide
      have t_4 := Int32.toInt_inj.symm.mp c_4
      refine lv_bipush (v := (-13)) hx hb dX0_order_26 (by decide) ?_
      exact W.iret (v := (-13)) hx hb hr (fun t ht hW => ⟨⟨(-13), (), rfl, (by rw [f_A_order, if_neg c_2, if_pos c_4]), trivial⟩, hS.F ht⟩) hS.2.2 dX0_order_28
  · skip
    refine lv_bipush (v := (-11)) hx hb dX0_order_11 (by decide) ?_
    exact W.iret (v := (-11)) hx hb hr (fun t ht hW => ⟨⟨(-11), (), rfl, (by rw [f_A_order, if_pos c_2]), trivial⟩, hS.F ht⟩) hS.2.2 dX0_order_13
set_option maxHeartbeats 4000000 in
set_option maxRecDepth 100000 in
theorem m_A_housesWithPoint (l : Launch) (D : va_G) (h : Nat → Nat) (cI cZ : ClassId) (S : BS) (hI : IV S) (a1 : Int32) : WM l yX0_housesWithPoint wsX0_housesWithPoint { frames := 1, cells := 0, slots := 0, locals := 22 } D cI cZ h S [.ref (h 0), .int a1] (F_A_housesWithPoint S a1) := by
  refine Met.ofW (cc := cX0_housesWithPoint) (maxL := 4) (ret := (some .int)) (by decide) rfl ?_
  intro p e s m args below meth c s₁ B hml hv
  obtain ⟨rfl, hP, hK, hN, hD0⟩ := hv
  have hx := B.exec
  have hb := B.bytes
  have hr := B.returns
  have hts := atoms_spec (ws := wsX0_housesWithPoint) B.pre
  have hB : ∀ w ∈ BW, w.before _ s = true := fun w h => hts w (List.mem_cons_of_mem _ h)
  have hown : s.vm.findClass RX0 = some m.cls := findClass_of_methodNamed B.named
  have hlocks := B.notSynchronized
  have hD := bD hD0
  have hS : va_S (bA h) s.heap s.heap [] := va_S.rf
  have hl := lv_entry ([.ref (h 0), .int a1]) (n := 4) (Nat.le_of_ble_eq_true rfl)
  rw [lg_entry_eq]
  generalize (lg_sl ([.ref (h 0), .int a1]) ++ List.replicate (4 - (lg_sl ([.ref (h 0), .int a1])).length) Slot.unset).toArray = ls at hl ⊢
  have hl : lv_has ls 4 [(0, .ref (h 0)), (1, .int a1)] := hl
  refine lv_iconst (v := 0) hx hb dX0_housesWithPoint_0 (by decide) ?_
  refine lv_istore_n (lv' := [(2, .int 0), (0, .ref (h 0)), (1, .int a1)]) hx hb dX0_housesWithPoint_1 rfl hl (by decide) rfl (fun ls hl => ?_)
  refine lv_iconst (v := 0) hx hb dX0_housesWithPoint_2 (by decide) ?_
  refine lv_istore_n (lv' := [(3, .int 0), (2, .int 0), (0, .ref (h 0)), (1, .int a1)]) hx hb dX0_housesWithPoint_3 rfl hl (by decide) rfl (fun ls hl => ?_)
  have loop4 : ∀ (n : Nat) (Z : BS) (x2 x3 : Int32) (H : Heap) (locs : List Loc) (ls : Array Slot), IV Z → (0 ≤ x3.toInt ∧ x3.toInt ≤ (Z 25 0 : Int32).toInt ∧ (Z 25 0 : Int32).toInt - x3.toInt < (n : Int) ∧ True) → l_A_housesWithPoint_4 a1 n Z x2 x3 = F_A_housesWithPoint S a1 → va_P D vwCl (wB h cI cZ Z) H → va_D (bA h) (wB h cI cZ Z) → va_S (bA h) s.heap H locs → lv_has ls 4 [(0, .ref (h 0)), (1, .int a1), (2, .int x2), (3, .int x3)] → W p l e (headSpec wsX0_housesWithPoint { frames := 1, cells := 0, slots := 0, locals := 22 }).room s m ([.ref (h 0), .int a1]).toArray below meth c H locs 0 0 (MQ below (WQ D cI cZ h (F_A_housesWithPoint S a1)) ([.ref (h 0), .int a1]).toArray s 0 0 (bA h)) (F0 m 4 ls []) := by
    intro n
    induction n with
    | zero =>
      intro Z x2 x3 H locs ls hI hinv he hP hD hS hl
      obtain ⟨h0, hle, hm, hex⟩ := hinv
      exact absurd hm (by omega)
    | succ n ih =>
      intro Z x2 x3 H locs ls hI hinv he hP hD hS hl
      obtain ⟨h0, hle, hm, hex⟩ := hinv
      have hBd := iv_25 hI
      refine lv_iload_n hx hb dX0_housesWithPoint_4 rfl (lv_at hl 3 rfl) ?_
      refine lv_aload_n hx hb dX0_housesWithPoint_5 rfl (lv_at hl 0 rfl) ?_
      refine va_get (D := D) (ci := 0) (v := .ref (h 4)) (C := RX0) (T := TX0) (N := 7) hx hb hB inX0 hown hK hP 0 rfl rfl 3 (by decide) (hB _ k1_152) (fun _ h9 => h9) rfl dX0_housesWithPoint_6 ?_
      refine va_getN (D := D) (ci := 4) (v := .int (Z 25 0)) (C := RX4) (T := TX4) (N := 6) hx hb hB inX4 hown hK hP 4 rfl rfl 5 (by decide) (va_Nw.use rfl (hN _ kn_18)) (fun _ h9 => h9) rfl dX0_housesWithPoint_9 ?_
      have b_1 : (0) ≤ (Z 25 0).toInt ∧ (Z 25 0).toInt ≤ 120 := iv_25 (S := Z) hI
      refine lv_icmp_ge (tgt := 57) hx hb dX0_housesWithPoint_12 (by decide) (fun c_2 => ?_) (fun c_2 => ?_)
      · skip
        have t_2 := Int32.le_iff_toInt_le.mp c_2
        refine lv_iconst (v := 0) hx hb dX0_housesWithPoint_57 (by decide) ?_
        refine lv_istore_n (lv' := [(3, .int 0), (0, .ref (h 0)), (1, .int a1), (2, .int x2)]) hx hb dX0_housesWithPoint_58 rfl hl (by decide) rfl (fun ls hl => ?_)
        have loop59 : ∀ (n : Nat) (Z : BS) (x2 x3 : Int32) (H : Heap) (locs : List Loc) (ls : Array Slot), IV Z → (0 ≤ x3.toInt ∧ x3.toInt ≤ (Z 25 0 : Int32).toInt ∧ (Z 25 0 : Int32).toInt - x3.toInt < (n : Int) ∧ True) → l_A_housesWithPoint_59 a1 n Z x2 x3 = F_A_housesWithPoint S a1 → va_P D vwCl (wB h cI cZ Z) H → va_D (bA h) (wB h cI cZ Z) → va_S (bA h) s.heap H locs → lv_has ls 4 [(0, .ref (h 0)), (1, .int a1), (2, .int x2), (3, .int x3)] → W p l e (headSpec wsX0_housesWithPoint { frames := 1, cells := 0, slots := 0, locals := 22 }).room s m ([.ref (h 0), .int a1]).toArray below meth c H locs 0 0 (MQ below (WQ D cI cZ h (F_A_housesWithPoint S a1)) ([.ref (h 0), .int a1]).toArray s 0 0 (bA h)) (F0 m 59 ls []) := by
          intro n
          induction n with
          | zero =>
            intro Z x2 x3 H locs ls hI hinv he hP hD hS hl
            obtain ⟨h0, hle, hm, hex⟩ := hinv
            exact absurd hm (by omega)
          | succ n ih =>
            intro Z x2 x3 H locs ls hI hinv he hP hD hS hl
            obtain ⟨h0, hle, hm, hex⟩ := hinv
            have hBd := iv_25 hI
            refine lv_iload_n hx hb dX0_housesWithPoint_59 rfl (lv_at hl 3 rfl) ?_
            refine lv_aload_n hx hb dX0_housesWithPoint_60 rfl (lv_at hl 0 rfl) ?_
            refine va_get (D := D) (ci := 0) (v := .ref (h 4)) (C := RX0) (T := TX0) (N := 7) hx hb hB inX0 hown hK hP 0 rfl rfl 3 (by decide) (hB _ k1_152) (fun _ h9 => h9) rfl dX0_housesWithPoint_61 ?_
            refine va_getN (D := D) (ci := 4) (v := .int (Z 25 0)) (C := RX4) (T := TX4) (N := 6) hx hb hB inX4 hown hK hP 4 rfl rfl 5 (by decide) (va_Nw.use rfl (hN _ kn_18)) (fun _ h9 => h9) rfl dX0_housesWithPoint_64 ?_
            have b_3 : (0) ≤ (Z 25 0).toInt ∧ (Z 25 0).toInt ≤ 120 := iv_25 (S := Z) hI
            refine lv_icmp_ge (tgt := 87) hx hb dX0_housesWithPoint_67 (by decide) (fun c_4 => ?_) (fun c_4 => ?_)
            · skip
              have t_4 := Int32.le_iff_toInt_le.mp c_4
              refine lv_iload_n hx hb dX0_housesWithPoint_87 rfl (lv_at hl 2 rfl) ?_
              exact W.iret (v := x2) hx hb hr (fun t ht hW => ⟨⟨x2, Z, rfl, ⟨(by rw [← he, l_A_housesWithPoint_59, if_pos c_4]), hI⟩, by show va_P D vwCl _ t.heap; rw [ht]; exact hP⟩, hS.F ht⟩) hS.2.2 dX0_housesWithPoint_88
            · skip
              have t_4 := mt Int32.le_iff_toInt_le.mpr c_4
              refine lv_aload_n hx hb dX0_housesWithPoint_70 rfl (lv_at hl 0 rfl) ?_
              refine va_get (D := D) (ci := 0) (v := .ref (h 27)) (C := RX0) (T := TX0) (N := 7) hx hb hB inX0 hown hK hP 0 rfl rfl 5 (by decide) (hB _ k1_154) (fun _ h9 => h9) rfl dX0_housesWithPoint_71 ?_
              refine lv_aload_n hx hb dX0_housesWithPoint_74 rfl (lv_at hl 0 rfl) ?_
              refine lv_iload_n hx hb dX0_housesWithPoint_75 rfl (lv_at hl 3 rfl) ?_
              refine pu_call (va_runV (As := [.int x3]) (rest := [.ref (h 27)]) ⟨hx, hb, hml, hown, hB⟩ (m_A_houseNow l D h cI cZ Z hI x3 (by omega)) (cwV 1 hB (gV k2_59 k2_61 ks_123 k1_1 k2_62) rfl rfl rfl (by decide +kernel) ⟨Nat.le_of_ble_eq_true rfl, Nat.le_of_ble_eq_true rfl⟩) ⟨pu_blind, va_recv hK hP (ci := 0) (q0 := 0) rfl rfl, pu_pre hP hK hN⟩ rfl rfl hl.1 rfl (lv_room (Nat.le_of_ble_eq_true rfl)) dX0_housesWithPoint_76 ⟨Nat.le_of_ble_eq_true rfl, Nat.le_of_ble_eq_true rfl⟩) hP hS (fun H locs hP hS => ?_)
              have k_5 := fc_A_houseNow hI x3
              refine lv_iconst (v := 0) hx hb dX0_housesWithPoint_79 (by decide) ?_
              refine wst_21 (S := Z) hx hb hK hP hD hS (vp_in_iff.mpr (by omega)) (by first | rfl | decide) dX0_housesWithPoint_80 (fun H locs hP hD hS => ?_)
              have hI_6 : IV (upS 21 ((f_A_houseNow Z x3).toNatClampNeg) 0 Z) := iv_up (S := Z) hI 21 ((f_A_houseNow Z x3).toNatClampNeg) 0 (iv_one 21 (0) 1 rfl (by decide))
              refine lv_iinc (v := x3 + 1) (lv' := [(3, .int (x3 + 1)), (0, .ref (h 0)), (1, .int a1), (2, .int x2)]) hx hb dX0_housesWithPoint_81 hl (k := 3) rfl rfl (by decide) rfl (fun ls hl => ?_)
              refine lv_goto (tgt := 59) hx hb dX0_housesWithPoint_84 (by decide) ?_
              have hinc := i32_inc (x := x3) h0 (by omega)
              have e9 : (upS 21 ((f_A_houseNow Z x3).toNatClampNeg) 0 Z) 25 0 = Z 25 0 := rfl
              exact ih (upS 21 ((f_A_houseNow Z x3).toNatClampNeg) 0 Z) x2 (x3 + 1) _ _ _ hI_6 ⟨by omega, by rw [e9]; omega, by rw [e9]; omega, trivial⟩ (by rw [← he, l_A_housesWithPoint_59, if_neg c_4]) hP hD hS (lv_sub hl [1, 2, 3, 0] rfl)
        have hB9 := iv_25 (S := Z) hI
        have z_0 : ((0) : Int32).toInt = (0) := by decide
        exact loop59 600 Z x2 0 _ _ _ hI ⟨by omega, by omega, by omega, trivial⟩ (by rw [← he, l_A_housesWithPoint_4, if_pos c_2]) hP hD hS (lv_sub hl [1, 2, 3, 0] rfl)
      · skip
        have t_2 := mt Int32.le_iff_toInt_le.mpr c_2
        refine lv_aload_n hx hb dX0_housesWithPoint_15 rfl (lv_at hl 0 rfl) ?_
        refine lv_iload_n hx hb dX0_housesWithPoint_16 rfl (lv_at hl 3 rfl) ?_
        refine lv_iload_n hx hb dX0_housesWithPoint_17 rfl (lv_at hl 1 rfl) ?_
        refine pu_call (va_runV (As := [.int x3, .int a1]) (rest := []) ⟨hx, hb, hml, hown, hB⟩ (m_A_isLiveOf l D h cI cZ Z hI x3 a1 (by omega)) (cwV 2 hB (gV k2_117 k2_119 ks_164 k1_1 k2_120) rfl rfl rfl (by decide +kernel) ⟨Nat.le_of_ble_eq_true rfl, Nat.le_of_ble_eq_true rfl⟩) ⟨pu_blind, va_recv hK hP (ci := 0) (q0 := 0) rfl rfl, pu_pre hP hK hN⟩ rfl rfl hl.1 rfl (lv_room (Nat.le_of_ble_eq_true rfl)) dX0_housesWithPoint_18 ⟨Nat.le_of_ble_eq_true rfl, Nat.le_of_ble_eq_true rfl⟩) hP hS (fun H locs hP hS => ?_)
        refine lv_if_eq (tgt := 51) hx hb dX0_housesWithPoint_21 (by decide) (fun c_8 => ?_) (fun c_8 => ?_)
        · skip
          refine lv_iinc (v := x3 + 1) (lv' := [(3, .int (x3 + 1)), (0, .ref (h 0)), (1, .int a1), (2, .int x2)]) hx hb dX0_housesWithPoint_51 hl (k := 3) rfl rfl (by decide) rfl (fun ls hl => ?_)
          refine lv_goto (tgt := 4) hx hb dX0_housesWithPoint_54 (by decide) ?_
          have hinc := i32_inc (x := x3) h0 (by omega)
          have e9 : (Z) 25 0 = Z 25 0 := rfl
          exact ih Z x2 (x3 + 1) _ _ _ hI ⟨by omega, by rw [e9]; omega, by rw [e9]; omega, trivial⟩ (by rw [← he, l_A_housesWithPoint_4, if_neg c_2, if_pos c_8]) hP hD hS (lv_sub hl [1, 2, 3, 0] rfl)
        · skip
          refine lv_aload_n hx hb dX0_housesWithPoint_24 rfl (lv_at hl 0 rfl) ?_
          refine va_get (D := D) (ci := 0) (v := .ref (h 27)) (C := RX0) (T := TX0) (N := 7) hx hb hB inX0 hown hK hP 0 rfl rfl 5 (by decide) (hB _ k1_154) (fun _ h9 => h9) rfl dX0_housesWithPoint_25 ?_
          refine lv_aload_n hx hb dX0_housesWithPoint_28 rfl (lv_at hl 0 rfl) ?_
          refine lv_iload_n hx hb dX0_housesWithPoint_29 rfl (lv_at hl 3 rfl) ?_
          refine pu_call (va_runV (As := [.int x3]) (rest := [.ref (h 27)]) ⟨hx, hb, hml, hown, hB⟩ (m_A_houseNow l D h cI cZ Z hI x3 (by omega)) (cwV 1 hB (gV k2_59 k2_61 ks_123 k1_1 k2_62) rfl rfl rfl (by decide +kernel) ⟨Nat.le_of_ble_eq_true rfl, Nat.le_of_ble_eq_true rfl⟩) ⟨pu_blind, va_recv hK hP (ci := 0) (q0 := 0) rfl rfl, pu_pre hP hK hN⟩ rfl rfl hl.1 rfl (lv_room (Nat.le_of_ble_eq_true rfl)) dX0_housesWithPoint_30 ⟨Nat.le_of_ble_eq_true rfl, Nat.le_of_ble_eq_true rfl⟩) hP hS (fun H locs hP hS => ?_)
          have k_9 := fc_A_houseNow hI x3
          refine va_zald (f := Z 21) hx hb hK hP 27 1 rfl rfl (vp_in_iff.mpr (by omega)) dX0_housesWithPoint_33 ?_
          have b_10 : (0) ≤ (Z 21 (f_A_houseNow Z x3).toNatClampNeg).toInt ∧ (Z 21 (f_A_houseNow Z x3).toNatClampNeg).toInt ≤ 1 := iv_21 (S := Z) hI ((f_A_houseNow Z x3).toNatClampNeg)
          refine lv_if_ne (tgt := 51) hx hb dX0_housesWithPoint_34 (by decide) (fun c_11 => ?_) (fun c_11 => ?_)
          · skip
            have z_0 : ((0) : Int32).toInt = (0) := by decide
            have t_11 := mt Int32.toInt_inj.mp c_11
            refine lv_iinc (v := x3 + 1) (lv' := [(3, .int (x3 + 1)), (0, .ref (h 0)), (1, .int a1), (2, .int x2)]) hx hb dX0_housesWithPoint_51 hl (k := 3) rfl rfl (by decide) rfl (fun ls hl => ?_)
            refine lv_goto (tgt := 4) hx hb dX0_housesWithPoint_54 (by decide) ?_
            have hinc := i32_inc (x := x3) h0 (by omega)
            have e9 : (Z) 25 0 = Z 25 0 := rfl
            exact ih Z x2 (x3 + 1) _ _ _ hI ⟨by omega, by rw [e9]; omega, by rw [e9]; omega, trivial⟩ (by rw [← he, l_A_housesWithPoint_4, if_neg c_2, if_neg c_8, if_neg c_11]) hP hD hS (lv_sub hl [1, 2, 3, 0] rfl)
          · skip
            have z_0 : ((0) : Int32).toInt = (0) := by decide
            have t_11 := Int32.toInt_inj.symm.mp c_11
            refine lv_aload_n hx hb dX0_housesWithPoint_37 rfl (lv_at hl 0 rfl) ?_
            refine va_get (D := D) (ci := 0) (v := .ref (h 27)) (C := RX0) (T := TX0) (N := 7) hx hb hB inX0 hown hK hP 0 rfl rfl 5 (by decide) (hB _ k1_154) (fun _ h9 => h9) rfl dX0_housesWithPoint_38 ?_
            refine lv_aload_n hx hb dX0_housesWithPoint_41 rfl (lv_at hl 0 rfl) ?_
            refine lv_iload_n hx hb dX0_housesWithPoint_42 rfl (lv_at hl 3 rfl) ?_
            refine pu_call (va_runV (As := [.int x3]) (rest := [.ref (h 27)]) ⟨hx, hb, hml, hown, hB⟩ (m_A_houseNow l D h cI cZ Z hI x3 (by omega)) (cwV 1 hB (gV k2_59 k2_61 ks_123 k1_1 k2_62) rfl rfl rfl (by decide +kernel) ⟨Nat.le_of_ble_eq_true rfl, Nat.le_of_ble_eq_true rfl⟩) ⟨pu_blind, va_recv hK hP (ci := 0) (q0 := 0) rfl rfl, pu_pre hP hK hN⟩ rfl rfl hl.1 rfl (lv_room (Nat.le_of_ble_eq_true rfl)) dX0_housesWithPoint_43 ⟨Nat.le_of_ble_eq_true rfl, Nat.le_of_ble_eq_true rfl⟩) hP hS (fun H locs hP hS => ?_)
            have k_12 := fc_A_houseNow hI x3
            refine lv_iconst (v := 1) hx hb dX0_housesWithPoint_46 (by decide) ?_
            refine wst_21 (S := Z) hx hb hK hP hD hS (vp_in_iff.mpr (by omega)) (by first | rfl | decide) dX0_housesWithPoint_47 (fun H locs hP hD hS => ?_)
            have hI_13 : IV (upS 21 ((f_A_houseNow Z x3).toNatClampNeg) 1 Z) := iv_up (S := Z) hI 21 ((f_A_houseNow Z x3).toNatClampNeg) 1 (iv_one 21 (0) 1 rfl (by decide))
            refine lv_iinc (v := x2 + 1) (lv' := [(2, .int (x2 + 1)), (0, .ref (h 0)), (1, .int a1), (3, .int x3)]) hx hb dX0_housesWithPoint_48 hl (k := 2) rfl rfl (by decide) rfl (fun ls hl => ?_)
            refine lv_iinc (v := x3 + 1) (lv' := [(3, .int (x3 + 1)), (2, .int (x2 + 1)), (0, .ref (h 0)), (1, .int a1)]) hx hb dX0_housesWithPoint_51 hl (k := 3) rfl rfl (by decide) rfl (fun ls hl => ?_)
            refine lv_goto (tgt := 4) hx hb dX0_housesWithPoint_54 (by decide) ?_
            have hinc := i32_inc (x := x3) h0 (by omega)
            have e9 : (upS 21 ((f_A_houseNow Z x3).toNatClampNeg) 1 Z) 25 0 = Z 25 0 := rfl
            exact ih (upS 21 ((f_A_houseNow Z x3).toNatClampNeg) 1 Z) (x2 + 1) (x3 + 1) _ _ _ hI_13 ⟨by omega, by rw [e9]; omega, by rw [e9]; omega, trivial⟩ (by rw [← he, l_A_housesWithPoint_4, if_neg c_2, if_neg c_8, if_pos c_11]) hP hD hS (lv_sub hl [2, 3, 1, 0] rfl)
  have hB9 := iv_25 (S := S) hI
  have z_0 : ((0) : Int32).toInt = (0) := by decide
  exact loop4 600 S 0 0 _ _ _ hI ⟨by omega, by omega, by omega, trivial⟩ (by rw [F_A_housesWithPoint]) hP hD hS (lv_sub hl [2, 3, 1, 0] rfl)
set_option maxHeartbeats 4000000 in
set_option maxRecDepth 100000 in
theorem m_A_holes (l : Launch) (D : va_G) (h : Nat → Nat) (cI cZ : ClassId) (S : BS) (hI : IV S) (a1 : Int32) : WM l yX0_holes wsX0_holes { frames := 2, cells := 0, slots := 0, locals := 46 } D cI cZ h S [.ref (h 0), .int a1] (F_A_holes S a1) := by
  refine Met.ofW (cc := cX0_holes) (maxL := 3) (ret := (some .int)) (by decide) rfl ?_
  intro p e s m args below meth c s₁ B hml hv
  obtain ⟨rfl, hP, hK, hN, hD0⟩ := hv
  have hx := B.exec
  have hb := B.bytes
  have hr := B.returns
  have hts := atoms_spec (ws := wsX0_holes) B.pre
  have hB : ∀ w ∈ BW, w.before _ s = true := fun w h => hts w (List.mem_cons_of_mem _ h)
  have hown : s.vm.findClass RX0 = some m.cls := findClass_of_methodNamed B.named
  have hlocks := B.notSynchronized
  have hD := bD hD0
  have hS : va_S (bA h) s.heap s.heap [] := va_S.rf
  have hl := lv_entry ([.ref (h 0), .int a1]) (n := 3) (Nat.le_of_ble_eq_true rfl)
  rw [lg_entry_eq]
  generalize (lg_sl ([.ref (h 0), .int a1]) ++ List.replicate (3 - (lg_sl ([.ref (h 0), .int a1])).length) Slot.unset).toArray = ls at hl ⊢
  have hl : lv_has ls 3 [(0, .ref (h 0)), (1, .int a1)] := hl
  refine lv_aload_n hx hb dX0_holes_0 rfl (lv_at hl 0 rfl) ?_
  refine va_get (D := D) (ci := 0) (v := .ref (h 2)) (C := RX0) (T := TX0) (N := 7) hx hb hB inX0 hown hK hP 0 rfl rfl 1 (by decide) (hB _ k1_150) (fun _ h9 => h9) rfl dX0_holes_1 ?_
  refine lv_iload_n hx hb dX0_holes_4 rfl (lv_at hl 1 rfl) ?_
  refine pu_call (va_runVN (As := [.int a1]) (rest := []) ⟨hx, hb, hml, hown, hB⟩ (m_T_has l D h cI cZ S hI a1 ) ⟨va_cnB 1 hB (gB k1_225) rfl rfl rfl (hN _ kn_11) (hB _ k1_3) (by decide +kernel) ⟨Nat.le_of_ble_eq_true rfl, Nat.le_of_ble_eq_true rfl⟩, hB _ k1_224, hB _ ks_98⟩ ⟨pu_blind, va_recv hK hP (ci := 2) (q0 := 2) rfl rfl, pu_pre hP hK hN⟩ rfl rfl hl.1 rfl (lv_room (Nat.le_of_ble_eq_true rfl)) dX0_holes_5 ⟨Nat.le_of_ble_eq_true rfl, Nat.le_of_ble_eq_true rfl⟩) hP hS (fun H locs hP hS => ?_)
  refine lv_if_ne (tgt := 14) hx hb dX0_holes_8 (by decide) (fun c_2 => ?_) (fun c_2 => ?_)
  · skip
    have t_2 := fb_T_has hI c_2
    refine lv_aload_n hx hb dX0_holes_14 rfl (lv_at hl 0 rfl) ?_
    refine va_get (D := D) (ci := 0) (v := .ref (h 2)) (C := RX0) (T := TX0) (N := 7) hx hb hB inX0 hown hK hP 0 rfl rfl 1 (by decide) (hB _ k1_150) (fun _ h9 => h9) rfl dX0_holes_15 ?_
    refine lv_iload_n hx hb dX0_holes_18 rfl (lv_at hl 1 rfl) ?_
    refine lv_aload_n hx hb dX0_holes_19 rfl (lv_at hl 0 rfl) ?_
    refine va_get (D := D) (ci := 0) (v := .int (S 27 0)) (C := RX0) (T := TX0) (N := 7) hx hb hB inX0 hown hK hP 0 rfl rfl 6 (by decide) (hB _ k1_155) (fun _ h9 => h9) rfl dX0_holes_20 ?_
    refine pu_call (va_runVN (As := [.int a1, .int (S 27 0)]) (rest := []) ⟨hx, hb, hml, hown, hB⟩ (m_T_meaning l D h cI cZ S hI a1 (S 27 0) (by omega)) ⟨va_cnB 2 hB (gB k2_152) rfl rfl rfl (hN _ kn_40) (hB _ k1_3) (by decide +kernel) ⟨Nat.le_of_ble_eq_true rfl, Nat.le_of_ble_eq_true rfl⟩, hB _ k2_151, hB _ ks_206⟩ ⟨pu_blind, va_recv hK hP (ci := 2) (q0 := 2) rfl rfl, pu_pre hP hK hN⟩ rfl rfl hl.1 rfl (lv_room (Nat.le_of_ble_eq_true rfl)) dX0_holes_23 ⟨Nat.le_of_ble_eq_true rfl, Nat.le_of_ble_eq_true rfl⟩) hP hS (fun H locs hP hS => ?_)
    refine lv_istore_n (lv' := [(2, .int (f_T_meaning S a1 (S 27 0))), (0, .ref (h 0)), (1, .int a1)]) hx hb dX0_holes_26 rfl hl (by decide) rfl (fun ls hl => ?_)
    refine lv_aload_n hx hb dX0_holes_27 rfl (lv_at hl 1 rfl) ?_
    refine va_get (D := D) (ci := 0) (v := .ref (h 3)) (C := RX0) (T := TX0) (N := 7) hx hb hB inX0 hown hK hP 0 rfl rfl 2 (by decide) (hB _ k1_151) (fun _ h9 => h9) rfl dX0_holes_28 ?_
    refine lv_iload_n hx hb dX0_holes_31 rfl (lv_at hl 0 rfl) ?_
    refine pu_call (va_runVN (As := [.int (f_T_meaning S a1 (S 27 0))]) (rest := []) ⟨hx, hb, hml, hown, hB⟩ (m_R_housesOf l D h cI cZ S hI (f_T_meaning S a1 (S 27 0)) ) ⟨va_cnB 1 hB (gB k2_210) rfl rfl rfl (hN _ kn_47) (hB _ k1_4) (by decide +kernel) ⟨Nat.le_of_ble_eq_true rfl, Nat.le_of_ble_eq_true rfl⟩, hB _ k2_209, hB _ ks_242⟩ ⟨pu_blind, va_recv hK hP (ci := 3) (q0 := 3) rfl rfl, pu_pre hP hK hN⟩ rfl rfl hl.1 rfl (lv_room (Nat.le_of_ble_eq_true rfl)) dX0_holes_32 ⟨Nat.le_of_ble_eq_true rfl, Nat.le_of_ble_eq_true rfl⟩) hP hS (fun H locs hP hS => ?_)
    refine lv_aload_n hx hb dX0_holes_35 rfl (lv_at hl 1 rfl) ?_
    refine lv_iload_n hx hb dX0_holes_36 rfl (lv_at hl 0 rfl) ?_
    refine wr_call (va_runV (As := [.int (f_T_meaning S a1 (S 27 0))]) (rest := [.int (f_R_housesOf S (f_T_meaning S a1 (S 27 0)))]) ⟨hx, hb, hml, hown, hB⟩ (m_A_housesWithPoint l D h cI cZ S hI (f_T_meaning S a1 (S 27 0)) ) (cwV 1 hB (gV k2_211 k2_213 ks_246 k1_1 k2_214) rfl rfl rfl (by decide +kernel) ⟨Nat.le_of_ble_eq_true rfl, Nat.le_of_ble_eq_true rfl⟩) ⟨wr_blind, va_recv hK hP (ci := 0) (q0 := 0) rfl rfl, wr_pre hP hK hN hD⟩ rfl rfl hl.1 rfl (lv_room (Nat.le_of_ble_eq_true rfl)) dX0_holes_37 ⟨Nat.le_of_ble_eq_true rfl, Nat.le_of_ble_eq_true rfl⟩) hS (fun H locs hP hI_5 hS => ?_)
    have hD := wD (S2 := (F_A_housesWithPoint S (f_T_meaning S a1 (S 27 0))).2) hD
    refine lv_isub hx hb dX0_holes_40 ?_
    exact W.iret (v := (f_R_housesOf S (f_T_meaning S a1 (S 27 0))) - ((F_A_housesWithPoint S (f_T_meaning S a1 (S 27 0))).1)) hx hb hr (fun t ht hW => ⟨⟨(f_R_housesOf S (f_T_meaning S a1 (S 27 0))) - ((F_A_housesWithPoint S (f_T_meaning S a1 (S 27 0))).1), (F_A_housesWithPoint S (f_T_meaning S a1 (S 27 0))).2, rfl, ⟨(by rw [F_A_holes, if_neg c_2]), hI_5⟩, by show va_P D vwCl _ t.heap; rw [ht]; exact hP⟩, hS.F ht⟩) hS.2.2 dX0_holes_41
  · skip
    refine lv_bipush (v := (-11)) hx hb dX0_holes_11 (by decide) ?_
    exact W.iret (v := (-11)) hx hb hr (fun t ht hW => ⟨⟨(-11), S, rfl, ⟨(by rw [F_A_holes, if_pos c_2]), hI⟩, by show va_P D vwCl _ t.heap; rw [ht]; exact hP⟩, hS.F ht⟩) hS.2.2 dX0_holes_13
set_option maxHeartbeats 4000000 in
set_option maxRecDepth 100000 in
theorem m_A_where (l : Launch) (D : va_G) (h : Nat → Nat) (cI cZ : ClassId) (S : BS) (hI : IV S) (a1 a2 a3 : Int32) : PM l yX0_where wsX0_where { frames := 2, cells := 0, slots := 0, locals := 45 } D cI cZ h S [.ref (h 0), .int a1, .int a2, .int a3] (f_A_where S a1 a2 a3) := by
  refine Met.ofW (cc := cX0_where) (maxL := 5) (ret := (some .int)) (by decide) rfl ?_
  intro p e s m args below meth c s₁ B hml hv
  obtain ⟨rfl, hP, hK, hN⟩ := hv
  have hx := B.exec
  have hb := B.bytes
  have hr := B.returns
  have hts := atoms_spec (ws := wsX0_where) B.pre
  have hB : ∀ w ∈ BW, w.before _ s = true := fun w h => hts w (List.mem_cons_of_mem _ h)
  have hown : s.vm.findClass RX0 = some m.cls := findClass_of_methodNamed B.named
  have hlocks := B.notSynchronized
  have hS : va_S (fun _ => False) s.heap s.heap [] := va_S.rf
  have hl := lv_entry ([.ref (h 0), .int a1, .int a2, .int a3]) (n := 5) (Nat.le_of_ble_eq_true rfl)
  rw [lg_entry_eq]
  generalize (lg_sl ([.ref (h 0), .int a1, .int a2, .int a3]) ++ List.replicate (5 - (lg_sl ([.ref (h 0), .int a1, .int a2, .int a3])).length) Slot.unset).toArray = ls at hl ⊢
  have hl : lv_has ls 5 [(0, .ref (h 0)), (1, .int a1), (2, .int a2), (3, .int a3)] := hl
  refine lv_aload_n hx hb dX0_where_0 rfl (lv_at hl 0 rfl) ?_
  refine va_get (D := D) (ci := 0) (v := .ref (h 4)) (C := RX0) (T := TX0) (N := 7) hx hb hB inX0 hown hK hP 0 rfl rfl 3 (by decide) (hB _ k1_152) (fun _ h9 => h9) rfl dX0_where_1 ?_
  refine lv_iload_n hx hb dX0_where_4 rfl (lv_at hl 1 rfl) ?_
  refine pu_call (va_runVN (As := [.int a1]) (rest := []) ⟨hx, hb, hml, hown, hB⟩ (m_Q_has l D h cI cZ S hI a1 ) ⟨va_cnB 1 hB (gB k2_136) rfl rfl rfl (hN _ kn_37) (hB _ k1_5) (by decide +kernel) ⟨Nat.le_of_ble_eq_true rfl, Nat.le_of_ble_eq_true rfl⟩, hB _ k2_135, hB _ ks_180⟩ ⟨pu_blind, va_recv hK hP (ci := 4) (q0 := 4) rfl rfl, pu_pre hP hK hN⟩ rfl rfl hl.1 rfl (lv_room (Nat.le_of_ble_eq_true rfl)) dX0_where_5 ⟨Nat.le_of_ble_eq_true rfl, Nat.le_of_ble_eq_true rfl⟩) hP hS (fun H locs hP hS => ?_)
  refine lv_if_ne (tgt := 14) hx hb dX0_where_8 (by decide) (fun c_2 => ?_) (fun c_2 => ?_)
  · skip
    have t_2 := fb_Q_has hI c_2
    refine lv_iload_n hx hb dX0_where_14 rfl (lv_at hl 2 rfl) ?_
    refine lv_iconst (v := 0) hx hb dX0_where_15 (by decide) ?_
    refine lv_iconst (v := 3) hx hb dX0_where_16 (by decide) ?_
    refine pu_call (va_runS (As := [.int a2, .int 0, .int 3]) (rest := []) ⟨hx, hb, hml, hown, hB⟩ (m_A_isWithin l D h cI cZ S hI a2 0 3 ) (cwS 3 hB (gS k1_176 k1_177 k1_1 k1_178) rfl rfl rfl (by decide +kernel) ⟨Nat.le_of_ble_eq_true rfl, Nat.le_of_ble_eq_true rfl⟩) ⟨pu_blind, pu_pre hP hK hN⟩ rfl rfl hl.1 rfl (lv_room (Nat.le_of_ble_eq_true rfl)) dX0_where_17 ⟨Nat.le_of_ble_eq_true rfl, Nat.le_of_ble_eq_true rfl⟩) hP hS (fun H locs hP hS => ?_)
    refine lv_if_eq (tgt := 30) hx hb dX0_where_20 (by decide) (fun c_4 => ?_) (fun c_4 => ?_)
    · skip
      refine lv_bipush (v := (-12)) hx hb dX0_where_30 (by decide) ?_
      exact W.iret (v := (-12)) hx hb hr (fun t ht hW => ⟨⟨(-12), (), rfl, (by rw [f_A_where, if_neg c_2, if_pos c_4]), trivial⟩, hS.F ht⟩) hS.2.2 dX0_where_32
    · skip
      refine lv_iload_n hx hb dX0_where_23 rfl (lv_at hl 3 rfl) ?_
      refine pu_call (va_runS (As := [.int a3]) (rest := []) ⟨hx, hb, hml, hown, hB⟩ (m_A_isDay l D h cI cZ S hI a3 ) (cwS 1 hB (gS k2_157 k2_158 k1_1 k2_159) rfl rfl rfl (by decide +kernel) ⟨Nat.le_of_ble_eq_true rfl, Nat.le_of_ble_eq_true rfl⟩) ⟨pu_blind, pu_pre hP hK hN⟩ rfl rfl hl.1 rfl (lv_room (Nat.le_of_ble_eq_true rfl)) dX0_where_24 ⟨Nat.le_of_ble_eq_true rfl, Nat.le_of_ble_eq_true rfl⟩) hP hS (fun H locs hP hS => ?_)
      refine lv_if_ne (tgt := 33) hx hb dX0_where_27 (by decide) (fun c_6 => ?_) (fun c_6 => ?_)
      · skip
        refine lv_iload_n hx hb dX0_where_33 rfl (lv_at hl 2 rfl) ?_
        refine lv_iconst (v := 2) hx hb dX0_where_34 (by decide) ?_
        refine lv_icmp_ne (tgt := 48) hx hb dX0_where_35 (by decide) (fun c_7 => ?_) (fun c_7 => ?_)
        · skip
          have z_2 : ((2) : Int32).toInt = (2) := by decide
          have t_7 := mt Int32.toInt_inj.mp c_7
          refine lv_iload_n hx hb dX0_where_48 rfl (lv_at hl 2 rfl) ?_
          refine lv_iconst (v := 3) hx hb dX0_where_49 (by decide) ?_
          refine lv_icmp_ne (tgt := 63) hx hb dX0_where_50 (by decide) (fun c_8 => ?_) (fun c_8 => ?_)
          · skip
            have z_3 : ((3) : Int32).toInt = (3) := by decide
            have t_8 := mt Int32.toInt_inj.mp c_8
            refine lv_aload_n hx hb dX0_where_63 rfl (lv_at hl 0 rfl) ?_
            refine va_get (D := D) (ci := 0) (v := .ref (h 5)) (C := RX0) (T := TX0) (N := 7) hx hb hB inX0 hown hK hP 0 rfl rfl 4 (by decide) (hB _ k1_153) (fun _ h9 => h9) rfl dX0_where_64 ?_
            refine lv_iload_n hx hb dX0_where_67 rfl (lv_at hl 1 rfl) ?_
            refine lv_iload_n hx hb dX0_where_68 rfl (lv_at hl 3 rfl) ?_
            refine pu_call (va_runVN (As := [.int a1, .int a3]) (rest := []) ⟨hx, hb, hml, hown, hB⟩ (m_Y_ofPointOn l D h cI cZ S hI a1 a3 ) ⟨va_cnB 2 hB (gB k2_222) rfl rfl rfl (hN _ kn_48) (hB _ k1_6) (by decide +kernel) ⟨Nat.le_of_ble_eq_true rfl, Nat.le_of_ble_eq_true rfl⟩, hB _ k2_221, hB _ ks_249⟩ ⟨pu_blind, va_recv hK hP (ci := 5) (q0 := 5) rfl rfl, pu_pre hP hK hN⟩ rfl rfl hl.1 rfl (lv_room (Nat.le_of_ble_eq_true rfl)) dX0_where_69 ⟨Nat.le_of_ble_eq_true rfl, Nat.le_of_ble_eq_true rfl⟩) hP hS (fun H locs hP hS => ?_)
            have k_9 := fc_Y_ofPointOn (a1 := a1) (a2 := a3) hI
            refine lv_istore (lv' := [(4, .int (f_Y_ofPointOn S a1 a3)), (0, .ref (h 0)), (1, .int a1), (2, .int a2), (3, .int a3)]) hx hb dX0_where_72 hl (by decide) rfl (fun ls hl => ?_)
            refine lv_iload hx hb dX0_where_74 (lv_at hl 0 rfl) ?_
            refine lv_iconst (v := (-1)) hx hb dX0_where_76 (by decide) ?_
            refine lv_icmp_ne (tgt := 82) hx hb dX0_where_77 (by decide) (fun c_10 => ?_) (fun c_10 => ?_)
            · skip
              have z_m1 : ((-1) : Int32).toInt = (-1) := by decide
              have t_10 := mt Int32.toInt_inj.mp c_10
              refine lv_iload_n hx hb dX0_where_82 rfl (lv_at hl 3 rfl) ?_
              refine lv_iconst (v := 1) hx hb dX0_where_83 (by decide) ?_
              refine lv_icmp_ne (tgt := 100) hx hb dX0_where_84 (by decide) (fun c_11 => ?_) (fun c_11 => ?_)
              · skip
                have z_1 : ((1) : Int32).toInt = (1) := by decide
                have t_11 := mt Int32.toInt_inj.mp c_11
                refine lv_aload_n hx hb dX0_where_100 rfl (lv_at hl 1 rfl) ?_
                refine va_get (D := D) (ci := 0) (v := .ref (h 2)) (C := RX0) (T := TX0) (N := 7) hx hb hB inX0 hown hK hP 0 rfl rfl 1 (by decide) (hB _ k1_150) (fun _ h9 => h9) rfl dX0_where_101 ?_
                refine lv_aload_n hx hb dX0_where_104 rfl (lv_at hl 1 rfl) ?_
                refine va_get (D := D) (ci := 0) (v := .ref (h 4)) (C := RX0) (T := TX0) (N := 7) hx hb hB inX0 hown hK hP 0 rfl rfl 3 (by decide) (hB _ k1_152) (fun _ h9 => h9) rfl dX0_where_105 ?_
                refine va_getN (D := D) (ci := 4) (v := .ref (h 18)) (C := RX4) (T := TX4) (N := 6) hx hb hB inX4 hown hK hP 4 rfl rfl 1 (by decide) (va_Nw.use rfl (hN _ kn_42)) (fun _ h9 => h9) rfl dX0_where_108 ?_
                refine lv_iload_n hx hb dX0_where_111 rfl (lv_at hl 2 rfl) ?_
                refine va_iald (f := S 12) hx hb hK hP 18 0 rfl rfl (vp_in_iff.mpr (by omega)) dX0_where_112 ?_
                have b_12 : (0) ≤ (S 12 a1.toNatClampNeg).toInt ∧ (S 12 a1.toNatClampNeg).toInt ≤ 31 := iv_12 (S := S) hI a1.toNatClampNeg
                refine lv_iload_n hx hb dX0_where_113 rfl (lv_at hl 4 rfl) ?_
                refine pu_call (va_runVN (As := [.int (S 12 a1.toNatClampNeg), .int a3]) (rest := []) ⟨hx, hb, hml, hown, hB⟩ (m_T_meaning l D h cI cZ S hI (S 12 a1.toNatClampNeg) a3 (by omega)) ⟨va_cnB 2 hB (gB k2_152) rfl rfl rfl (hN _ kn_40) (hB _ k1_3) (by decide +kernel) ⟨Nat.le_of_ble_eq_true rfl, Nat.le_of_ble_eq_true rfl⟩, hB _ k2_151, hB _ ks_206⟩ ⟨pu_blind, va_recv hK hP (ci := 2) (q0 := 2) rfl rfl, pu_pre hP hK hN⟩ rfl rfl hl.1 rfl (lv_room (Nat.le_of_ble_eq_true rfl)) dX0_where_114 ⟨Nat.le_of_ble_eq_true rfl, Nat.le_of_ble_eq_true rfl⟩) hP hS (fun H locs hP hS => ?_)
                exact W.iret (v := f_T_meaning S (S 12 a1.toNatClampNeg) a3) hx hb hr (fun t ht hW => ⟨⟨f_T_meaning S (S 12 a1.toNatClampNeg) a3, (), rfl, (by rw [f_A_where, if_neg c_2, if_neg c_4, if_neg c_6, if_neg c_7, if_neg c_8, if_neg c_10, if_neg c_11]), trivial⟩, hS.F ht⟩) hS.2.2 dX0_where_117
              · skip
                have z_1 : ((1) : Int32).toInt = (1) := by decide
                have t_11 := Int32.toInt_inj.symm.mp c_11
                refine lv_aload_n hx hb dX0_where_87 rfl (lv_at hl 1 rfl) ?_
                refine va_get (D := D) (ci := 0) (v := .ref (h 5)) (C := RX0) (T := TX0) (N := 7) hx hb hB inX0 hown hK hP 0 rfl rfl 4 (by decide) (hB _ k1_153) (fun _ h9 => h9) rfl dX0_where_88 ?_
                refine va_getN (D := D) (ci := 5) (v := .ref (h 23)) (C := RX5) (T := TX5) (N := 6) hx hb hB inX5 hown hK hP 5 rfl rfl 1 (by decide) (va_Nw.use rfl (hN _ kn_16)) (fun _ h9 => h9) rfl dX0_where_91 ?_
                refine lv_iload hx hb dX0_where_94 (lv_at hl 0 rfl) ?_
                refine va_iald (f := S 17) hx hb hK hP 23 0 rfl rfl (vp_in_iff.mpr (by omega)) dX0_where_96 ?_
                have b_14 : (0) ≤ (S 17 (f_Y_ofPointOn S a1 a3).toNatClampNeg).toInt ∧ (S 17 (f_Y_ofPointOn S a1 a3).toNatClampNeg).toInt ≤ 999 := iv_17 (S := S) hI ((f_Y_ofPointOn S a1 a3).toNatClampNeg)
                refine lv_goto (tgt := 117) hx hb dX0_where_97 (by decide) ?_
                exact W.iret (v := S 17 (f_Y_ofPointOn S a1 a3).toNatClampNeg) hx hb hr (fun t ht hW => ⟨⟨S 17 (f_Y_ofPointOn S a1 a3).toNatClampNeg, (), rfl, (by rw [f_A_where, if_neg c_2, if_neg c_4, if_neg c_6, if_neg c_7, if_neg c_8, if_neg c_10, if_pos c_11]), trivial⟩, hS.F ht⟩) hS.2.2 dX0_where_117
            · skip
              have z_m1 : ((-1) : Int32).toInt = (-1) := by decide
              have t_10 := Int32.toInt_inj.symm.mp c_10
              refine lv_iconst (v := (-1)) hx hb dX0_where_80 (by decide) ?_
              exact W.iret (v := (-1)) hx hb hr (fun t ht hW => ⟨⟨(-1), (), rfl, (by rw [f_A_where, if_neg c_2, if_neg c_4, if_neg c_6, if_neg c_7, if_neg c_8, if_pos c_10]), trivial⟩, hS.F ht⟩) hS.2.2 dX0_where_81
          · skip
            have z_3 : ((3) : Int32).toInt = (3) := by decide
            have t_8 := Int32.toInt_inj.symm.mp c_8
            refine lv_aload_n hx hb dX0_where_53 rfl (lv_at hl 0 rfl) ?_
            refine va_get (D := D) (ci := 0) (v := .ref (h 4)) (C := RX0) (T := TX0) (N := 7) hx hb hB inX0 hown hK hP 0 rfl rfl 3 (by decide) (hB _ k1_152) (fun _ h9 => h9) rfl dX0_where_54 ?_
            refine va_getN (D := D) (ci := 4) (v := .ref (h 17)) (C := RX4) (T := TX4) (N := 6) hx hb hB inX4 hown hK hP 4 rfl rfl 0 (by decide) (va_Nw.use rfl (hN _ kn_20)) (fun _ h9 => h9) rfl dX0_where_57 ?_
            refine lv_iload_n hx hb dX0_where_60 rfl (lv_at hl 1 rfl) ?_
            refine va_iald (f := S 11) hx hb hK hP 17 0 rfl rfl (vp_in_iff.mpr (by omega)) dX0_where_61 ?_
            have b_15 : (0) ≤ (S 11 a1.toNatClampNeg).toInt ∧ (S 11 a1.toNatClampNeg).toInt ≤ 79 := iv_11 (S := S) hI a1.toNatClampNeg
            exact W.iret (v := S 11 a1.toNatClampNeg) hx hb hr (fun t ht hW => ⟨⟨S 11 a1.toNatClampNeg, (), rfl, (by rw [f_A_where, if_neg c_2, if_neg c_4, if_neg c_6, if_neg c_7, if_pos c_8]), trivial⟩, hS.F ht⟩) hS.2.2 dX0_where_62
        · skip
          have z_2 : ((2) : Int32).toInt = (2) := by decide
          have t_7 := Int32.toInt_inj.symm.mp c_7
          refine lv_aload_n hx hb dX0_where_38 rfl (lv_at hl 0 rfl) ?_
          refine va_get (D := D) (ci := 0) (v := .ref (h 4)) (C := RX0) (T := TX0) (N := 7) hx hb hB inX0 hown hK hP 0 rfl rfl 3 (by decide) (hB _ k1_152) (fun _ h9 => h9) rfl dX0_where_39 ?_
          refine va_getN (D := D) (ci := 4) (v := .ref (h 19)) (C := RX4) (T := TX4) (N := 6) hx hb hB inX4 hown hK hP 4 rfl rfl 2 (by decide) (va_Nw.use rfl (hN _ kn_21)) (fun _ h9 => h9) rfl dX0_where_42 ?_
          refine lv_iload_n hx hb dX0_where_45 rfl (lv_at hl 1 rfl) ?_
          refine va_iald (f := S 13) hx hb hK hP 19 0 rfl rfl (vp_in_iff.mpr (by omega)) dX0_where_46 ?_
          exact W.iret (v := S 13 a1.toNatClampNeg) hx hb hr (fun t ht hW => ⟨⟨S 13 a1.toNatClampNeg, (), rfl, (by rw [f_A_where, if_neg c_2, if_neg c_4, if_neg c_6, if_pos c_7]), trivial⟩, hS.F ht⟩) hS.2.2 dX0_where_47
      · skip
        refine lv_bipush (v := (-12)) hx hb dX0_where_30 (by decide) ?_
        exact W.iret (v := (-12)) hx hb hr (fun t ht hW => ⟨⟨(-12), (), rfl, (by rw [f_A_where, if_neg c_2, if_neg c_4, if_pos c_6]), trivial⟩, hS.F ht⟩) hS.2.2 dX0_where_32
  · skip
    refine lv_bipush (v := (-11)) hx hb dX0_where_11 (by decide) ?_
    exact W.iret (v := (-11)) hx hb hr (fun t ht hW => ⟨⟨(-11), (), rfl, (by rw [f_A_where, if_pos c_2]), trivial⟩, hS.F ht⟩) hS.2.2 dX0_where_13
set_option maxHeartbeats 4000000 in
set_option maxRecDepth 100000 in
theorem m_A_howManyTrue_10 (l : Launch) (D : va_G) (h : Nat → Nat) (cI cZ : ClassId) (S : BS) (hI : IV S) : PM l yX0_howManyTrue wsX0_howManyTrue { frames := 0, cells := 0, slots := 0, locals := 0 } D cI cZ h S [.ref (h 16)] (f_A_howManyTrue_10 S) := by
  refine Met.ofW (cc := cX0_howManyTrue) (maxL := 3) (ret := (some .int)) (by decide) rfl ?_
  intro p e s m args below meth c s₁ B hml hv
  obtain ⟨rfl, hP, hK, hN⟩ := hv
  have hx := B.exec
  have hb := B.bytes
  have hr := B.returns
  have hts := atoms_spec (ws := wsX0_howManyTrue) B.pre
  have hB : ∀ w ∈ BW, w.before _ s = true := fun w h => hts w (List.mem_cons_of_mem _ h)
  have hown : s.vm.findClass RX0 = some m.cls := findClass_of_methodNamed B.named
  have hlocks := B.notSynchronized
  have hS : va_S (fun _ => False) s.heap s.heap [] := va_S.rf
  have hl := lv_entry ([.ref (h 16)]) (n := 3) (Nat.le_of_ble_eq_true rfl)
  rw [lg_entry_eq]
  generalize (lg_sl ([.ref (h 16)]) ++ List.replicate (3 - (lg_sl ([.ref (h 16)])).length) Slot.unset).toArray = ls at hl ⊢
  have hl : lv_has ls 3 [(0, .ref (h 16))] := hl
  refine lv_iconst (v := 0) hx hb dX0_howManyTrue_0 (by decide) ?_
  refine lv_istore_n (lv' := [(1, .int 0), (0, .ref (h 16))]) hx hb dX0_howManyTrue_1 rfl hl (by decide) rfl (fun ls hl => ?_)
  refine lv_iconst (v := 0) hx hb dX0_howManyTrue_2 (by decide) ?_
  refine lv_istore_n (lv' := [(2, .int 0), (1, .int 0), (0, .ref (h 16))]) hx hb dX0_howManyTrue_3 rfl hl (by decide) rfl (fun ls hl => ?_)
  have loop4 : ∀ (n : Nat) (x1 x2 : Int32) (H : Heap) (locs : List Loc) (ls : Array Slot), (0 ≤ x2.toInt ∧ x2.toInt ≤ (80 : Int32).toInt ∧ (80 : Int32).toInt - x2.toInt < (n : Int) ∧ True) → l_A_howManyTrue_10_4 S n x1 x2 = f_A_howManyTrue_10 S  → va_P D vwCl (wB h cI cZ S) H → va_S (fun _ => False) s.heap H locs → lv_has ls 3 [(0, .ref (h 16)), (1, .int x1), (2, .int x2)] → W p l e (headSpec wsX0_howManyTrue { frames := 0, cells := 0, slots := 0, locals := 0 }).room s m ([.ref (h 16)]).toArray below meth c H locs 0 0 (MQ below (PQ (f_A_howManyTrue_10 S)) ([.ref (h 16)]).toArray s 0 0 (fun _ => False)) (F0 m 4 ls []) := by
    intro n
    induction n with
    | zero =>
      intro x1 x2 H locs ls hinv he hP hS hl
      obtain ⟨h0, hle, hm, hex⟩ := hinv
      exact absurd hm (by omega)
    | succ n ih =>
      intro x1 x2 H locs ls hinv he hP hS hl
      obtain ⟨h0, hle, hm, hex⟩ := hinv
      have z_80 : ((80) : Int32).toInt = (80) := by decide
      refine lv_iload_n hx hb dX0_howManyTrue_4 rfl (lv_at hl 2 rfl) ?_
      refine lv_aload_n hx hb dX0_howManyTrue_5 rfl (lv_at hl 0 rfl) ?_
      refine va_alen (v := 80) hx hb hK hP 16 1 rfl rfl rfl dX0_howManyTrue_6 ?_
      refine lv_icmp_ge (tgt := 25) hx hb dX0_howManyTrue_7 (by decide) (fun c_1 => ?_) (fun c_1 => ?_)
      · skip
        have t_1 := Int32.le_iff_toInt_le.mp c_1
        refine lv_iload_n hx hb dX0_howManyTrue_25 rfl (lv_at hl 1 rfl) ?_
        exact W.iret (v := x1) hx hb hr (fun t ht hW => ⟨⟨x1, (), rfl, (by rw [← he, l_A_howManyTrue_10_4, if_pos c_1]), trivial⟩, hS.F ht⟩) hS.2.2 dX0_howManyTrue_26
      · skip
        have t_1 := mt Int32.le_iff_toInt_le.mpr c_1
        refine lv_aload_n hx hb dX0_howManyTrue_10 rfl (lv_at hl 0 rfl) ?_
        refine lv_iload_n hx hb dX0_howManyTrue_11 rfl (lv_at hl 2 rfl) ?_
        refine va_zald (f := S 10) hx hb hK hP 16 1 rfl rfl (vp_in_iff.mpr (by omega)) dX0_howManyTrue_12 ?_
        have b_2 : (0) ≤ (S 10 x2.toNatClampNeg).toInt ∧ (S 10 x2.toNatClampNeg).toInt ≤ 1 := iv_10 (S := S) hI x2.toNatClampNeg
        refine lv_if_eq (tgt := 19) hx hb dX0_howManyTrue_13 (by decide) (fun c_3 => ?_) (fun c_3 => ?_)
        · skip
          have z_0 : ((0) : Int32).toInt = (0) := by decide
          have t_3 := Int32.toInt_inj.symm.mp c_3
          refine lv_iinc (v := x2 + 1) (lv' := [(2, .int (x2 + 1)), (0, .ref (h 16)), (1, .int x1)]) hx hb dX0_howManyTrue_19 hl (k := 2) rfl rfl (by decide) rfl (fun ls hl => ?_)
          refine lv_goto (tgt := 4) hx hb dX0_howManyTrue_22 (by decide) ?_
          have hinc := i32_inc (x := x2) h0 (by omega)
          exact ih x1 (x2 + 1) _ _ _ ⟨by omega, by omega, by omega, trivial⟩ (by rw [← he, l_A_howManyTrue_10_4, if_neg c_1, if_pos c_3]) hP hS (lv_sub hl [1, 2, 0] rfl)
        · skip
          have z_0 : ((0) : Int32).toInt = (0) := by decide
          have t_3 := mt Int32.toInt_inj.mp c_3
          refine lv_iinc (v := x1 + 1) (lv' := [(1, .int (x1 + 1)), (0, .ref (h 16)), (2, .int x2)]) hx hb dX0_howManyTrue_16 hl (k := 1) rfl rfl (by decide) rfl (fun ls hl => ?_)
          refine lv_iinc (v := x2 + 1) (lv' := [(2, .int (x2 + 1)), (1, .int (x1 + 1)), (0, .ref (h 16))]) hx hb dX0_howManyTrue_19 hl (k := 2) rfl rfl (by decide) rfl (fun ls hl => ?_)
          refine lv_goto (tgt := 4) hx hb dX0_howManyTrue_22 (by decide) ?_
          have hinc := i32_inc (x := x2) h0 (by omega)
          exact ih (x1 + 1) (x2 + 1) _ _ _ ⟨by omega, by omega, by omega, trivial⟩ (by rw [← he, l_A_howManyTrue_10_4, if_neg c_1, if_neg c_3]) hP hS (lv_sub hl [2, 1, 0] rfl)
  have z9 : ((80) : Int32).toInt = (80) := by decide
  have z_0 : ((0) : Int32).toInt = (0) := by decide
  exact loop4 600 0 0 _ _ _ ⟨by omega, by omega, by omega, trivial⟩ (by rw [f_A_howManyTrue_10]) hP hS (lv_sub hl [2, 1, 0] rfl)
