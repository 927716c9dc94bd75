set_option maxHeartbeats 4000000 in
set_option maxRecDepth 100000 in
theorem m_A_isName (l : Launch) (D : va_G) (h : Nat → Nat) (cI cZ : ClassId) (S : BS) (hI : IV S) (a1 : Int32) : PM l yX0_isName wsX0_isName { frames := 1, cells := 0, slots := 0, locals := 22 } D cI cZ h S [.int a1] (f_A_isName a1) := by
  refine Met.ofW (cc := cX0_isName) (maxL := 1) (ret := (some .boolean)) (by decide) rfl ?_
  intro p e s m args below meth c s₁ B hml hv
  obtain ⟨rfl, hP, hK, hN⟩ := hv
  have hx := B.exec
  have hb := B.bytes
  have hr := B.returns
  have hts := atoms_spec (ws := wsX0_isName) B.pre
  have hB : ∀ w ∈ BW, w.before _ s = true := fun w h => hts w (List.mem_cons_of_mem _ h)
  have hown : s.vm.findClass RX0 = some m.cls := findClass_of_methodNamed B.named
  have hlocks := B.notSynchronized
  have hS : va_S (fun _ => False) s.heap s.heap [] := va_S.rf
  have hl := lv_entry ([.int a1]) (n := 1) (Nat.le_of_ble_eq_true rfl)
  rw [lg_entry_eq]
  generalize (lg_sl ([.int a1]) ++ List.replicate (1 - (lg_sl ([.int a1])).length) Slot.unset).toArray = ls at hl ⊢
  have hl : lv_has ls 1 [(0, .int a1)] := hl
  refine lv_iload_n hx hb dX0_isName_0 rfl (lv_at hl 0 rfl) ?_
  refine lv_iconst (v := 0) hx hb dX0_isName_1 (by decide) ?_
  refine lv_sipush (v := 9999) hx hb dX0_isName_2 (by decide) ?_
  refine pu_call (va_runS (As := [.int a1, .int 0, .int 9999]) (rest := []) ⟨hx, hb, hml, hown, hB⟩ (m_A_isWithin l D h cI cZ S hI a1 0 9999 ) (cwS 3 hB (gS k1_176 k1_177 k1_1 k1_178) rfl rfl rfl (by decide +kernel) ⟨Nat.le_of_ble_eq_true rfl, Nat.le_of_ble_eq_true rfl⟩) ⟨pu_blind, pu_pre hP hK hN⟩ rfl rfl hl.1 rfl (lv_room (Nat.le_of_ble_eq_true rfl)) dX0_isName_5 ⟨Nat.le_of_ble_eq_true rfl, Nat.le_of_ble_eq_true rfl⟩) hP hS (fun H locs hP hS => ?_)
  exact W.zret (v := f_A_isWithin a1 0 9999) hx hb hr (nb01 (z01_A_isWithin)) (fun t ht hW => ⟨⟨f_A_isWithin a1 0 9999, (), rfl, (by rw [f_A_isName]), trivial⟩, hS.F ht⟩) hS.2.2 dX0_isName_8
set_option maxHeartbeats 4000000 in
set_option maxRecDepth 100000 in
theorem m_A_place (l : Launch) (D : va_G) (h : Nat → Nat) (cI cZ : ClassId) (S : BS) (hI : IV S) (a1 a2 : Int32) : WM l yX0_place wsX0_place { frames := 2, cells := 0, slots := 0, locals := 42 } D cI cZ h S [.ref (h 0), .int a1, .int a2] (F_A_place S a1 a2) := by
  refine Met.ofW (cc := cX0_place) (maxL := 3) (ret := (some .int)) (by decide) rfl ?_
  intro p e s m args below meth c s₁ B hml hv
  obtain ⟨rfl, hP, hK, hN, hD0⟩ := hv
  have hx := B.exec
  have hb := B.bytes
  have hr := B.returns
  have hts := atoms_spec (ws := wsX0_place) B.pre
  have hB : ∀ w ∈ BW, w.before _ s = true := fun w h => hts w (List.mem_cons_of_mem _ h)
  have hown : s.vm.findClass RX0 = some m.cls := findClass_of_methodNamed B.named
  have hlocks := B.notSynchronized
  have hD := bD hD0
  have hS : va_S (bA h) s.heap s.heap [] := va_S.rf
  have hl := lv_entry ([.ref (h 0), .int a1, .int a2]) (n := 3) (Nat.le_of_ble_eq_true rfl)
  rw [lg_entry_eq]
  generalize (lg_sl ([.ref (h 0), .int a1, .int a2]) ++ List.replicate (3 - (lg_sl ([.ref (h 0), .int a1, .int a2])).length) Slot.unset).toArray = ls at hl ⊢
  have hl : lv_has ls 3 [(0, .ref (h 0)), (1, .int a1), (2, .int a2)] := hl
  refine lv_iload_n hx hb dX0_place_0 rfl (lv_at hl 1 rfl) ?_
  refine lv_iconst (v := 1) hx hb dX0_place_1 (by decide) ?_
  refine lv_ldc (v := 99999) hx hb hown (hB _ k1_175) dX0_place_2 ?_
  refine pu_call (va_runS (As := [.int a1, .int 1, .int 99999]) (rest := []) ⟨hx, hb, hml, hown, hB⟩ (m_A_isWithin l D h cI cZ S hI a1 1 99999 ) (cwS 3 hB (gS k1_176 k1_177 k1_1 k1_178) rfl rfl rfl (by decide +kernel) ⟨Nat.le_of_ble_eq_true rfl, Nat.le_of_ble_eq_true rfl⟩) ⟨pu_blind, pu_pre hP hK hN⟩ rfl rfl hl.1 rfl (lv_room (Nat.le_of_ble_eq_true rfl)) dX0_place_4 ⟨Nat.le_of_ble_eq_true rfl, Nat.le_of_ble_eq_true rfl⟩) hP hS (fun H locs hP hS => ?_)
  refine lv_if_eq (tgt := 17) hx hb dX0_place_7 (by decide) (fun c_2 => ?_) (fun c_2 => ?_)
  · skip
    refine lv_bipush (v := (-12)) hx hb dX0_place_17 (by decide) ?_
    exact W.iret (v := (-12)) hx hb hr (fun t ht hW => ⟨⟨(-12), S, rfl, ⟨(by rw [F_A_place, if_pos c_2]), hI⟩, by show va_P D vwCl _ t.heap; rw [ht]; exact hP⟩, hS.F ht⟩) hS.2.2 dX0_place_19
  · skip
    refine lv_iload_n hx hb dX0_place_10 rfl (lv_at hl 2 rfl) ?_
    refine pu_call (va_runS (As := [.int a2]) (rest := []) ⟨hx, hb, hml, hown, hB⟩ (m_A_isName l D h cI cZ S hI a2 ) (cwS 1 hB (gS k1_179 k1_180 k1_1 k1_181) rfl rfl rfl (by decide +kernel) ⟨Nat.le_of_ble_eq_true rfl, Nat.le_of_ble_eq_true rfl⟩) ⟨pu_blind, pu_pre hP hK hN⟩ rfl rfl hl.1 rfl (lv_room (Nat.le_of_ble_eq_true rfl)) dX0_place_11 ⟨Nat.le_of_ble_eq_true rfl, Nat.le_of_ble_eq_true rfl⟩) hP hS (fun H locs hP hS => ?_)
    refine lv_if_ne (tgt := 20) hx hb dX0_place_14 (by decide) (fun c_4 => ?_) (fun c_4 => ?_)
    · skip
      refine lv_aload_n hx hb dX0_place_20 rfl (lv_at hl 0 rfl) ?_
      refine va_get (D := D) (ci := 0) (v := .ref (h 1)) (C := RX0) (T := TX0) (N := 7) hx hb hB inX0 hown hK hP 0 rfl rfl 0 (by decide) (hB _ k1_149) (fun _ h9 => h9) rfl dX0_place_21 ?_
      refine lv_iload_n hx hb dX0_place_24 rfl (lv_at hl 1 rfl) ?_
      refine pu_call (va_runVN (As := [.int a1]) (rest := []) ⟨hx, hb, hml, hown, hB⟩ (m_P_withCode l D h cI cZ S hI a1 ) ⟨va_cnB 1 hB (gB k1_185) rfl rfl rfl (hN _ kn_4) (hB _ k1_2) (by decide +kernel) ⟨Nat.le_of_ble_eq_true rfl, Nat.le_of_ble_eq_true rfl⟩, hB _ k1_184, hB _ ks_73⟩ ⟨pu_blind, va_recv hK hP (ci := 1) (q0 := 1) rfl rfl, pu_pre hP hK hN⟩ rfl rfl hl.1 rfl (lv_room (Nat.le_of_ble_eq_true rfl)) dX0_place_25 ⟨Nat.le_of_ble_eq_true rfl, Nat.le_of_ble_eq_true rfl⟩) hP hS (fun H locs hP hS => ?_)
      refine lv_iconst (v := (-1)) hx hb dX0_place_28 (by decide) ?_
      refine lv_icmp_eq (tgt := 35) hx hb dX0_place_29 (by decide) (fun c_6 => ?_) (fun c_6 => ?_)
      · skip
        have z_m1 : ((-1) : Int32).toInt = (-1) := by decide
        have t_6 := Int32.toInt_inj.symm.mp c_6
        refine lv_aload_n hx hb dX0_place_35 rfl (lv_at hl 0 rfl) ?_
        refine va_get (D := D) (ci := 0) (v := .ref (h 1)) (C := RX0) (T := TX0) (N := 7) hx hb hB inX0 hown hK hP 0 rfl rfl 0 (by decide) (hB _ k1_149) (fun _ h9 => h9) rfl dX0_place_36 ?_
        refine pu_call (va_runVN (As := []) (rest := []) ⟨hx, hb, hml, hown, hB⟩ (m_P_isFull l D h cI cZ S hI  ) ⟨va_cnB 0 hB (gB k1_189) rfl rfl rfl (hN _ kn_5) (hB _ k1_2) (by decide +kernel) ⟨Nat.le_of_ble_eq_true rfl, Nat.le_of_ble_eq_true rfl⟩, hB _ k1_188, hB _ ks_76⟩ ⟨pu_blind, va_recv hK hP (ci := 1) (q0 := 1) rfl rfl, pu_pre hP hK hN⟩ rfl rfl hl.1 rfl (lv_room (Nat.le_of_ble_eq_true rfl)) dX0_place_39 ⟨Nat.le_of_ble_eq_true rfl, Nat.le_of_ble_eq_true rfl⟩) hP hS (fun H locs hP hS => ?_)
        refine lv_if_eq (tgt := 50) hx hb dX0_place_42 (by decide) (fun c_8 => ?_) (fun c_8 => ?_)
        · skip
          have t_8 := fb_P_isFull hI c_8
          refine lv_aload_n hx hb dX0_place_50 rfl (lv_at hl 0 rfl) ?_
          refine va_get (D := D) (ci := 0) (v := .ref (h 1)) (C := RX0) (T := TX0) (N := 7) hx hb hB inX0 hown hK hP 0 rfl rfl 0 (by decide) (hB _ k1_149) (fun _ h9 => h9) rfl dX0_place_51 ?_
          refine lv_iload_n hx hb dX0_place_54 rfl (lv_at hl 1 rfl) ?_
          refine wr_call (va_runVN (As := [.int a1]) (rest := []) ⟨hx, hb, hml, hown, hB⟩ (m_P_add l D h cI cZ S hI a1 (show (S 22 0).toInt < 16 by omega)) ⟨va_cnB 1 hB (gB k1_193) rfl rfl rfl (hN _ kn_6) (hB _ k1_2) (by decide +kernel) ⟨Nat.le_of_ble_eq_true rfl, Nat.le_of_ble_eq_true rfl⟩, hB _ k1_192, hB _ ks_79⟩ ⟨wr_blind, va_recv hK hP (ci := 1) (q0 := 1) rfl rfl, wr_pre hP hK hN hD⟩ rfl rfl hl.1 rfl (lv_room (Nat.le_of_ble_eq_true rfl)) dX0_place_55 ⟨Nat.le_of_ble_eq_true rfl, Nat.le_of_ble_eq_true rfl⟩) hS (fun H locs hP hI_9 hS => ?_)
          have hD := wD (S2 := (F_P_add S a1).2) hD
          exact W.iret (v := (F_P_add S a1).1) hx hb hr (fun t ht hW => ⟨⟨(F_P_add S a1).1, (F_P_add S a1).2, rfl, ⟨(by rw [F_A_place, if_neg c_2, if_neg c_4, if_pos c_6, if_pos c_8]), hI_9⟩, by show va_P D vwCl _ t.heap; rw [ht]; exact hP⟩, hS.F ht⟩) hS.2.2 dX0_place_58
        · skip
          refine lv_bipush (v := (-14)) hx hb dX0_place_45 (by decide) ?_
          refine lv_goto (tgt := 58) hx hb dX0_place_47 (by decide) ?_
          exact W.iret (v := (-14)) hx hb hr (fun t ht hW => ⟨⟨(-14), S, rfl, ⟨(by rw [F_A_place, if_neg c_2, if_neg c_4, if_pos c_6, if_neg c_8]), hI⟩, by show va_P D vwCl _ t.heap; rw [ht]; exact hP⟩, hS.F ht⟩) hS.2.2 dX0_place_58
      · skip
        have z_m1 : ((-1) : Int32).toInt = (-1) := by decide
        have t_6 := mt Int32.toInt_inj.mp c_6
        refine lv_bipush (v := (-13)) hx hb dX0_place_32 (by decide) ?_
        exact W.iret (v := (-13)) hx hb hr (fun t ht hW => ⟨⟨(-13), S, rfl, ⟨(by rw [F_A_place, if_neg c_2, if_neg c_4, if_neg c_6]), hI⟩, by show va_P D vwCl _ t.heap; rw [ht]; exact hP⟩, hS.F ht⟩) hS.2.2 dX0_place_34
    · skip
      refine lv_bipush (v := (-12)) hx hb dX0_place_17 (by decide) ?_
      exact W.iret (v := (-12)) hx hb hr (fun t ht hW => ⟨⟨(-12), S, rfl, ⟨(by rw [F_A_place, if_neg c_2, if_pos c_4]), hI⟩, by show va_P D vwCl _ t.heap; rw [ht]; exact hP⟩, hS.F ht⟩) hS.2.2 dX0_place_19
set_option maxHeartbeats 4000000 in
set_option maxRecDepth 100000 in
theorem m_A_street (l : Launch) (D : va_G) (h : Nat → Nat) (cI cZ : ClassId) (S : BS) (hI : IV S) (a1 a2 : Int32) : WM l yX0_street wsX0_street { frames := 2, cells := 0, slots := 0, locals := 42 } D cI cZ h S [.ref (h 0), .int a1, .int a2] (F_A_street S a1 a2) := by
  refine Met.ofW (cc := cX0_street) (maxL := 3) (ret := (some .int)) (by decide) rfl ?_
  intro p e s m args below meth c s₁ B hml hv
  obtain ⟨rfl, hP, hK, hN, hD0⟩ := hv
  have hx := B.exec
  have hb := B.bytes
  have hr := B.returns
  have hts := atoms_spec (ws := wsX0_street) B.pre
  have hB : ∀ w ∈ BW, w.before _ s = true := fun w h => hts w (List.mem_cons_of_mem _ h)
  have hown : s.vm.findClass RX0 = some m.cls := findClass_of_methodNamed B.named
  have hlocks := B.notSynchronized
  have hD := bD hD0
  have hS : va_S (bA h) s.heap s.heap [] := va_S.rf
  have hl := lv_entry ([.ref (h 0), .int a1, .int a2]) (n := 3) (Nat.le_of_ble_eq_true rfl)
  rw [lg_entry_eq]
  generalize (lg_sl ([.ref (h 0), .int a1, .int a2]) ++ List.replicate (3 - (lg_sl ([.ref (h 0), .int a1, .int a2])).length) Slot.unset).toArray = ls at hl ⊢
  have hl : lv_has ls 3 [(0, .ref (h 0)), (1, .int a1), (2, .int a2)] := hl
  refine lv_aload_n hx hb dX0_street_0 rfl (lv_at hl 0 rfl) ?_
  refine va_get (D := D) (ci := 0) (v := .ref (h 1)) (C := RX0) (T := TX0) (N := 7) hx hb hB inX0 hown hK hP 0 rfl rfl 0 (by decide) (hB _ k1_149) (fun _ h9 => h9) rfl dX0_street_1 ?_
  refine lv_iload_n hx hb dX0_street_4 rfl (lv_at hl 1 rfl) ?_
  refine pu_call (va_runVN (As := [.int a1]) (rest := []) ⟨hx, hb, hml, hown, hB⟩ (m_P_has l D h cI cZ S hI a1 ) ⟨va_cnB 1 hB (gB k1_201) rfl rfl rfl (hN _ kn_7) (hB _ k1_2) (by decide +kernel) ⟨Nat.le_of_ble_eq_true rfl, Nat.le_of_ble_eq_true rfl⟩, hB _ k1_200, hB _ ks_82⟩ ⟨pu_blind, va_recv hK hP (ci := 1) (q0 := 1) rfl rfl, pu_pre hP hK hN⟩ rfl rfl hl.1 rfl (lv_room (Nat.le_of_ble_eq_true rfl)) dX0_street_5 ⟨Nat.le_of_ble_eq_true rfl, Nat.le_of_ble_eq_true rfl⟩) hP hS (fun H locs hP hS => ?_)
  refine lv_if_ne (tgt := 14) hx hb dX0_street_8 (by decide) (fun c_2 => ?_) (fun c_2 => ?_)
  · skip
    refine lv_iload_n hx hb dX0_street_14 rfl (lv_at hl 2 rfl) ?_
    refine pu_call (va_runS (As := [.int a2]) (rest := []) ⟨hx, hb, hml, hown, hB⟩ (m_A_isName l D h cI cZ S hI a2 ) (cwS 1 hB (gS k1_179 k1_180 k1_1 k1_181) rfl rfl rfl (by decide +kernel) ⟨Nat.le_of_ble_eq_true rfl, Nat.le_of_ble_eq_true rfl⟩) ⟨pu_blind, pu_pre hP hK hN⟩ rfl rfl hl.1 rfl (lv_room (Nat.le_of_ble_eq_true rfl)) dX0_street_15 ⟨Nat.le_of_ble_eq_true rfl, Nat.le_of_ble_eq_true rfl⟩) hP hS (fun H locs hP hS => ?_)
    refine lv_if_ne (tgt := 24) hx hb dX0_street_18 (by decide) (fun c_4 => ?_) (fun c_4 => ?_)
    · skip
      refine lv_aload_n hx hb dX0_street_24 rfl (lv_at hl 0 rfl) ?_
      refine va_get (D := D) (ci := 0) (v := .ref (h 2)) (C := RX0) (T := TX0) (N := 7) hx hb hB inX0 hown hK hP 0 rfl rfl 1 (by decide) (hB _ k1_150) (fun _ h9 => h9) rfl dX0_street_25 ?_
      refine lv_iload_n hx hb dX0_street_28 rfl (lv_at hl 1 rfl) ?_
      refine lv_iload_n hx hb dX0_street_29 rfl (lv_at hl 2 rfl) ?_
      refine pu_call (va_runVN (As := [.int a1, .int a2]) (rest := []) ⟨hx, hb, hml, hown, hB⟩ (m_T_named l D h cI cZ S hI a1 a2 ) ⟨va_cnB 2 hB (gB k1_205) rfl rfl rfl (hN _ kn_8) (hB _ k1_3) (by decide +kernel) ⟨Nat.le_of_ble_eq_true rfl, Nat.le_of_ble_eq_true rfl⟩, hB _ k1_204, hB _ ks_87⟩ ⟨pu_blind, va_recv hK hP (ci := 2) (q0 := 2) rfl rfl, pu_pre hP hK hN⟩ rfl rfl hl.1 rfl (lv_room (Nat.le_of_ble_eq_true rfl)) dX0_street_30 ⟨Nat.le_of_ble_eq_true rfl, Nat.le_of_ble_eq_true rfl⟩) hP hS (fun H locs hP hS => ?_)
      refine lv_iconst (v := (-1)) hx hb dX0_street_33 (by decide) ?_
      refine lv_icmp_eq (tgt := 40) hx hb dX0_street_34 (by decide) (fun c_6 => ?_) (fun c_6 => ?_)
      · skip
        have z_m1 : ((-1) : Int32).toInt = (-1) := by decide
        have t_6 := Int32.toInt_inj.symm.mp c_6
        refine lv_aload_n hx hb dX0_street_40 rfl (lv_at hl 0 rfl) ?_
        refine va_get (D := D) (ci := 0) (v := .ref (h 2)) (C := RX0) (T := TX0) (N := 7) hx hb hB inX0 hown hK hP 0 rfl rfl 1 (by decide) (hB _ k1_150) (fun _ h9 => h9) rfl dX0_street_41 ?_
        refine pu_call (va_runVN (As := []) (rest := []) ⟨hx, hb, hml, hown, hB⟩ (m_T_isFull l D h cI cZ S hI  ) ⟨va_cnB 0 hB (gB k1_209) rfl rfl rfl (hN _ kn_9) (hB _ k1_3) (by decide +kernel) ⟨Nat.le_of_ble_eq_true rfl, Nat.le_of_ble_eq_true rfl⟩, hB _ k1_208, hB _ ks_90⟩ ⟨pu_blind, va_recv hK hP (ci := 2) (q0 := 2) rfl rfl, pu_pre hP hK hN⟩ rfl rfl hl.1 rfl (lv_room (Nat.le_of_ble_eq_true rfl)) dX0_street_44 ⟨Nat.le_of_ble_eq_true rfl, Nat.le_of_ble_eq_true rfl⟩) hP hS (fun H locs hP hS => ?_)
        refine lv_if_eq (tgt := 55) hx hb dX0_street_47 (by decide) (fun c_8 => ?_) (fun c_8 => ?_)
        · skip
          have t_8 := fb_T_isFull hI c_8
          refine lv_aload_n hx hb dX0_street_55 rfl (lv_at hl 0 rfl) ?_
          refine va_get (D := D) (ci := 0) (v := .ref (h 2)) (C := RX0) (T := TX0) (N := 7) hx hb hB inX0 hown hK hP 0 rfl rfl 1 (by decide) (hB _ k1_150) (fun _ h9 => h9) rfl dX0_street_56 ?_
          refine lv_iload_n hx hb dX0_street_59 rfl (lv_at hl 1 rfl) ?_
          refine lv_iload_n hx hb dX0_street_60 rfl (lv_at hl 2 rfl) ?_
          refine wr_call (va_runVN (As := [.int a1, .int a2]) (rest := []) ⟨hx, hb, hml, hown, hB⟩ (m_T_add l D h cI cZ S hI a1 a2 (show (S 23 0).toInt < 32 by omega)) ⟨va_cnB 2 hB (gB k1_213) rfl rfl rfl (hN _ kn_10) (hB _ k1_3) (by decide +kernel) ⟨Nat.le_of_ble_eq_true rfl, Nat.le_of_ble_eq_true rfl⟩, hB _ k1_212, hB _ ks_93⟩ ⟨wr_blind, va_recv hK hP (ci := 2) (q0 := 2) rfl rfl, wr_pre hP hK hN hD⟩ rfl rfl hl.1 rfl (lv_room (Nat.le_of_ble_eq_true rfl)) dX0_street_61 ⟨Nat.le_of_ble_eq_true rfl, Nat.le_of_ble_eq_true rfl⟩) hS (fun H locs hP hI_9 hS => ?_)
          have hD := wD (S2 := (F_T_add S a1 a2).2) hD
          exact W.iret (v := (F_T_add S a1 a2).1) hx hb hr (fun t ht hW => ⟨⟨(F_T_add S a1 a2).1, (F_T_add S a1 a2).2, rfl, ⟨(by rw [F_A_street, if_neg c_2, if_neg c_4, if_pos c_6, if_pos c_8]), hI_9⟩, by show va_P D vwCl _ t.heap; rw [ht]; exact hP⟩, hS.F ht⟩) hS.2.2 dX0_street_64
        · skip
          refine lv_bipush (v := (-14)) hx hb dX0_street_50 (by decide) ?_
          refine lv_goto (tgt := 64) hx hb dX0_street_52 (by decide) ?_
          exact W.iret (v := (-14)) hx hb hr (fun t ht hW => ⟨⟨(-14), S, rfl, ⟨(by rw [F_A_street, if_neg c_2, if_neg c_4, if_pos c_6, if_neg c_8]), hI⟩, by show va_P D vwCl _ t.heap; rw [ht]; exact hP⟩, hS.F ht⟩) hS.2.2 dX0_street_64
      · skip
        have z_m1 : ((-1) : Int32).toInt = (-1) := by decide
        have t_6 := mt Int32.toInt_inj.mp c_6
        refine lv_bipush (v := (-13)) hx hb dX0_street_37 (by decide) ?_
        exact W.iret (v := (-13)) hx hb hr (fun t ht hW => ⟨⟨(-13), S, rfl, ⟨(by rw [F_A_street, if_neg c_2, if_neg c_4, if_neg c_6]), hI⟩, by show va_P D vwCl _ t.heap; rw [ht]; exact hP⟩, hS.F ht⟩) hS.2.2 dX0_street_39
    · skip
      refine lv_bipush (v := (-12)) hx hb dX0_street_21 (by decide) ?_
      exact W.iret (v := (-12)) hx hb hr (fun t ht hW => ⟨⟨(-12), S, rfl, ⟨(by rw [F_A_street, if_neg c_2, if_pos c_4]), hI⟩, by show va_P D vwCl _ t.heap; rw [ht]; exact hP⟩, hS.F ht⟩) hS.2.2 dX0_street_23
  · skip
    refine lv_bipush (v := (-11)) hx hb dX0_street_11 (by decide) ?_
    exact W.iret (v := (-11)) hx hb hr (fun t ht hW => ⟨⟨(-11), S, rfl, ⟨(by rw [F_A_street, if_pos c_2]), hI⟩, by show va_P D vwCl _ t.heap; rw [ht]; exact hP⟩, hS.F ht⟩) hS.2.2 dX0_street_13
set_option maxHeartbeats 4000000 in
set_option maxRecDepth 100000 in
theorem m_A_find (l : Launch) (D : va_G) (h : Nat → Nat) (cI cZ : ClassId) (S : BS) (hI : IV S) (a1 a2 : Int32) : PM l yX0_find wsX0_find { frames := 1, cells := 0, slots := 0, locals := 23 } D cI cZ h S [.ref (h 0), .int a1, .int a2] (f_A_find S a1 a2) := by
  refine Met.ofW (cc := cX0_find) (maxL := 4) (ret := (some .int)) (by decide) rfl ?_
  intro p e s m args below meth c s₁ B hml hv
  obtain ⟨rfl, hP, hK, hN⟩ := hv
  have hx := B.exec
  have hb := B.bytes
  have hr := B.returns
  have hts := atoms_spec (ws := wsX0_find) B.pre
  have hB : ∀ w ∈ BW, w.before _ s = true := fun w h => hts w (List.mem_cons_of_mem _ h)
  have hown : s.vm.findClass RX0 = some m.cls := findClass_of_methodNamed B.named
  have hlocks := B.notSynchronized
  have hS : va_S (fun _ => False) s.heap s.heap [] := va_S.rf
  have hl := lv_entry ([.ref (h 0), .int a1, .int a2]) (n := 4) (Nat.le_of_ble_eq_true rfl)
  rw [lg_entry_eq]
  generalize (lg_sl ([.ref (h 0), .int a1, .int a2]) ++ List.replicate (4 - (lg_sl ([.ref (h 0), .int a1, .int a2])).length) Slot.unset).toArray = ls at hl ⊢
  have hl : lv_has ls 4 [(0, .ref (h 0)), (1, .int a1), (2, .int a2)] := hl
  refine lv_aload_n hx hb dX0_find_0 rfl (lv_at hl 0 rfl) ?_
  refine va_get (D := D) (ci := 0) (v := .ref (h 1)) (C := RX0) (T := TX0) (N := 7) hx hb hB inX0 hown hK hP 0 rfl rfl 0 (by decide) (hB _ k1_149) (fun _ h9 => h9) rfl dX0_find_1 ?_
  refine lv_iload_n hx hb dX0_find_4 rfl (lv_at hl 1 rfl) ?_
  refine pu_call (va_runVN (As := [.int a1]) (rest := []) ⟨hx, hb, hml, hown, hB⟩ (m_P_withCode l D h cI cZ S hI a1 ) ⟨va_cnB 1 hB (gB k1_185) rfl rfl rfl (hN _ kn_4) (hB _ k1_2) (by decide +kernel) ⟨Nat.le_of_ble_eq_true rfl, Nat.le_of_ble_eq_true rfl⟩, hB _ k1_184, hB _ ks_73⟩ ⟨pu_blind, va_recv hK hP (ci := 1) (q0 := 1) rfl rfl, pu_pre hP hK hN⟩ rfl rfl hl.1 rfl (lv_room (Nat.le_of_ble_eq_true rfl)) dX0_find_5 ⟨Nat.le_of_ble_eq_true rfl, Nat.le_of_ble_eq_true rfl⟩) hP hS (fun H locs hP hS => ?_)
  refine lv_istore_n (lv' := [(3, .int (f_P_withCode S a1)), (0, .ref (h 0)), (1, .int a1), (2, .int a2)]) hx hb dX0_find_8 rfl hl (by decide) rfl (fun ls hl => ?_)
  refine lv_iload_n hx hb dX0_find_9 rfl (lv_at hl 0 rfl) ?_
  refine lv_iconst (v := (-1)) hx hb dX0_find_10 (by decide) ?_
  refine lv_icmp_ne (tgt := 18) hx hb dX0_find_11 (by decide) (fun c_2 => ?_) (fun c_2 => ?_)
  · skip
    have z_m1 : ((-1) : Int32).toInt = (-1) := by decide
    have t_2 := mt Int32.toInt_inj.mp c_2
    refine lv_aload_n hx hb dX0_find_18 rfl (lv_at hl 1 rfl) ?_
    refine va_get (D := D) (ci := 0) (v := .ref (h 2)) (C := RX0) (T := TX0) (N := 7) hx hb hB inX0 hown hK hP 0 rfl rfl 1 (by decide) (hB _ k1_150) (fun _ h9 => h9) rfl dX0_find_19 ?_
    refine lv_iload_n hx hb dX0_find_22 rfl (lv_at hl 0 rfl) ?_
    refine lv_iload_n hx hb dX0_find_23 rfl (lv_at hl 3 rfl) ?_
    refine pu_call (va_runVN (As := [.int (f_P_withCode S a1), .int a2]) (rest := []) ⟨hx, hb, hml, hown, hB⟩ (m_T_named l D h cI cZ S hI (f_P_withCode S a1) a2 ) ⟨va_cnB 2 hB (gB k1_205) rfl rfl rfl (hN _ kn_8) (hB _ k1_3) (by decide +kernel) ⟨Nat.le_of_ble_eq_true rfl, Nat.le_of_ble_eq_true rfl⟩, hB _ k1_204, hB _ ks_87⟩ ⟨pu_blind, va_recv hK hP (ci := 2) (q0 := 2) rfl rfl, pu_pre hP hK hN⟩ rfl rfl hl.1 rfl (lv_room (Nat.le_of_ble_eq_true rfl)) dX0_find_24 ⟨Nat.le_of_ble_eq_true rfl, Nat.le_of_ble_eq_true rfl⟩) hP hS (fun H locs hP hS => ?_)
    exact W.iret (v := f_T_named S (f_P_withCode S a1) a2) hx hb hr (fun t ht hW => ⟨⟨f_T_named S (f_P_withCode S a1) a2, (), rfl, (by rw [f_A_find, if_neg c_2]), trivial⟩, hS.F ht⟩) hS.2.2 dX0_find_27
  · skip
    have z_m1 : ((-1) : Int32).toInt = (-1) := by decide
    have t_2 := Int32.toInt_inj.symm.mp c_2
    refine lv_iconst (v := (-1)) hx hb dX0_find_14 (by decide) ?_
    refine lv_goto (tgt := 27) hx hb dX0_find_15 (by decide) ?_
    exact W.iret (v := (-1)) hx hb hr (fun t ht hW => ⟨⟨(-1), (), rfl, (by rw [f_A_find, if_pos c_2]), trivial⟩, hS.F ht⟩) hS.2.2 dX0_find_27
set_option maxHeartbeats 4000000 in
set_option maxRecDepth 100000 in
theorem m_A_isHouse (l : Launch) (D : va_G) (h : Nat → Nat) (cI cZ : ClassId) (S : BS) (hI : IV S) (a1 : Int32) : PM l yX0_isHouse wsX0_isHouse { frames := 1, cells := 0, slots := 0, locals := 22 } D cI cZ h S [.int a1] (f_A_isHouse a1) := by
  refine Met.ofW (cc := cX0_isHouse) (maxL := 1) (ret := (some .boolean)) (by decide) rfl ?_
  intro p e s m args below meth c s₁ B hml hv
  obtain ⟨rfl, hP, hK, hN⟩ := hv
  have hx := B.exec
  have hb := B.bytes
  have hr := B.returns
  have hts := atoms_spec (ws := wsX0_isHouse) B.pre
  have hB : ∀ w ∈ BW, w.before _ s = true := fun w h => hts w (List.mem_cons_of_mem _ h)
  have hown : s.vm.findClass RX0 = some m.cls := findClass_of_methodNamed B.named
  have hlocks := B.notSynchronized
  have hS : va_S (fun _ => False) s.heap s.heap [] := va_S.rf
  have hl := lv_entry ([.int a1]) (n := 1) (Nat.le_of_ble_eq_true rfl)
  rw [lg_entry_eq]
  generalize (lg_sl ([.int a1]) ++ List.replicate (1 - (lg_sl ([.int a1])).length) Slot.unset).toArray = ls at hl ⊢
  have hl : lv_has ls 1 [(0, .int a1)] := hl
  refine lv_iload_n hx hb dX0_isHouse_0 rfl (lv_at hl 0 rfl) ?_
  refine lv_iconst (v := 1) hx hb dX0_isHouse_1 (by decide) ?_
  refine lv_sipush (v := 999) hx hb dX0_isHouse_2 (by decide) ?_
  refine pu_call (va_runS (As := [.int a1, .int 1, .int 999]) (rest := []) ⟨hx, hb, hml, hown, hB⟩ (m_A_isWithin l D h cI cZ S hI a1 1 999 ) (cwS 3 hB (gS k1_176 k1_177 k1_1 k1_178) rfl rfl rfl (by decide +kernel) ⟨Nat.le_of_ble_eq_true rfl, Nat.le_of_ble_eq_true rfl⟩) ⟨pu_blind, pu_pre hP hK hN⟩ rfl rfl hl.1 rfl (lv_room (Nat.le_of_ble_eq_true rfl)) dX0_isHouse_5 ⟨Nat.le_of_ble_eq_true rfl, Nat.le_of_ble_eq_true rfl⟩) hP hS (fun H locs hP hS => ?_)
  exact W.zret (v := f_A_isWithin a1 1 999) hx hb hr (nb01 (z01_A_isWithin)) (fun t ht hW => ⟨⟨f_A_isWithin a1 1 999, (), rfl, (by rw [f_A_isHouse]), trivial⟩, hS.F ht⟩) hS.2.2 dX0_isHouse_8
set_option maxHeartbeats 4000000 in
set_option maxRecDepth 100000 in
theorem m_A_isTodayOrLater (l : Launch) (D : va_G) (h : Nat → Nat) (cI cZ : ClassId) (S : BS) (hI : IV S) (a1 : Int32) : PM l yX0_isTodayOrLater wsX0_isTodayOrLater { frames := 1, cells := 0, slots := 0, locals := 22 } D cI cZ h S [.ref (h 0), .int a1] (f_A_isTodayOrLater S a1) := by
  refine Met.ofW (cc := cX0_isTodayOrLater) (maxL := 2) (ret := (some .boolean)) (by decide) rfl ?_
  intro p e s m args below meth c s₁ B hml hv
  obtain ⟨rfl, hP, hK, hN⟩ := hv
  have hx := B.exec
  have hb := B.bytes
  have hr := B.returns
  have hts := atoms_spec (ws := wsX0_isTodayOrLater) B.pre
  have hB : ∀ w ∈ BW, w.before _ s = true := fun w h => hts w (List.mem_cons_of_mem _ h)
  have hown : s.vm.findClass RX0 = some m.cls := findClass_of_methodNamed B.named
  have hlocks := B.notSynchronized
  have hS : va_S (fun _ => False) s.heap s.heap [] := va_S.rf
  have hl := lv_entry ([.ref (h 0), .int a1]) (n := 2) (Nat.le_of_ble_eq_true rfl)
  rw [lg_entry_eq]
  generalize (lg_sl ([.ref (h 0), .int a1]) ++ List.replicate (2 - (lg_sl ([.ref (h 0), .int a1])).length) Slot.unset).toArray = ls at hl ⊢
  have hl : lv_has ls 2 [(0, .ref (h 0)), (1, .int a1)] := hl
  refine lv_iload_n hx hb dX0_isTodayOrLater_0 rfl (lv_at hl 1 rfl) ?_
  refine lv_aload_n hx hb dX0_isTodayOrLater_1 rfl (lv_at hl 0 rfl) ?_
  refine va_get (D := D) (ci := 0) (v := .int (S 27 0)) (C := RX0) (T := TX0) (N := 7) hx hb hB inX0 hown hK hP 0 rfl rfl 6 (by decide) (hB _ k1_155) (fun _ h9 => h9) rfl dX0_isTodayOrLater_2 ?_
  refine lv_ldcw (v := 1000000) hx hb hown (hB _ k2_5) dX0_isTodayOrLater_5 ?_
  refine pu_call (va_runS (As := [.int a1, .int (S 27 0), .int 1000000]) (rest := []) ⟨hx, hb, hml, hown, hB⟩ (m_A_isWithin l D h cI cZ S hI a1 (S 27 0) 1000000 ) (cwS 3 hB (gS k1_176 k1_177 k1_1 k1_178) rfl rfl rfl (by decide +kernel) ⟨Nat.le_of_ble_eq_true rfl, Nat.le_of_ble_eq_true rfl⟩) ⟨pu_blind, pu_pre hP hK hN⟩ rfl rfl hl.1 rfl (lv_room (Nat.le_of_ble_eq_true rfl)) dX0_isTodayOrLater_8 ⟨Nat.le_of_ble_eq_true rfl, Nat.le_of_ble_eq_true rfl⟩) hP hS (fun H locs hP hS => ?_)
  exact W.zret (v := f_A_isWithin a1 (S 27 0) 1000000) hx hb hr (nb01 (z01_A_isWithin)) (fun t ht hW => ⟨⟨f_A_isWithin a1 (S 27 0) 1000000, (), rfl, (by rw [f_A_isTodayOrLater]), trivial⟩, hS.F ht⟩) hS.2.2 dX0_isTodayOrLater_11
set_option maxHeartbeats 4000000 in
set_option maxRecDepth 100000 in
theorem m_A_range (l : Launch) (D : va_G) (h : Nat → Nat) (cI cZ : ClassId) (S : BS) (hI : IV S) (a1 a2 a3 a4 a5 : Int32) : WM l yX0_range wsX0_range { frames := 5, cells := 0, slots := 0, locals := 112 } D cI cZ h S [.ref (h 0), .int a1, .int a2, .int a3, .int a4, .int a5] (F_A_range S a1 a2 a3 a4 a5) := by
  refine Met.ofW (cc := cX0_range) (maxL := 7) (ret := (some .int)) (by decide) rfl ?_
  intro p e s m args below meth c s₁ B hml hv
  obtain ⟨rfl, hP, hK, hN, hD0⟩ := hv
  have hx := B.exec
  have hb := B.bytes
  have hr := B.returns
  have hts := atoms_spec (ws := wsX0_range) B.pre
  have hB : ∀ w ∈ BW, w.before _ s = true := fun w h => hts w (List.mem_cons_of_mem _ h)
  have hown : s.vm.findClass RX0 = some m.cls := findClass_of_methodNamed B.named
  have hlocks := B.notSynchronized
  have hD := bD hD0
  have hS : va_S (bA h) s.heap s.heap [] := va_S.rf
  have hl := lv_entry ([.ref (h 0), .int a1, .int a2, .int a3, .int a4, .int a5]) (n := 7) (Nat.le_of_ble_eq_true rfl)
  rw [lg_entry_eq]
  generalize (lg_sl ([.ref (h 0), .int a1, .int a2, .int a3, .int a4, .int a5]) ++ List.replicate (7 - (lg_sl ([.ref (h 0), .int a1, .int a2, .int a3, .int a4, .int a5])).length) Slot.unset).toArray = ls at hl ⊢
  have hl : lv_has ls 7 [(0, .ref (h 0)), (1, .int a1), (2, .int a2), (3, .int a3), (4, .int a4), (5, .int a5)] := hl
  refine lv_aload_n hx hb dX0_range_0 rfl (lv_at hl 0 rfl) ?_
  refine va_get (D := D) (ci := 0) (v := .ref (h 2)) (C := RX0) (T := TX0) (N := 7) hx hb hB inX0 hown hK hP 0 rfl rfl 1 (by decide) (hB _ k1_150) (fun _ h9 => h9) rfl dX0_range_1 ?_
  refine lv_iload_n hx hb dX0_range_4 rfl (lv_at hl 1 rfl) ?_
  refine pu_call (va_runVN (As := [.int a1]) (rest := []) ⟨hx, hb, hml, hown, hB⟩ (m_T_has l D h cI cZ S hI a1 ) ⟨va_cnB 1 hB (gB k1_225) rfl rfl rfl (hN _ kn_11) (hB _ k1_3) (by decide +kernel) ⟨Nat.le_of_ble_eq_true rfl, Nat.le_of_ble_eq_true rfl⟩, hB _ k1_224, hB _ ks_98⟩ ⟨pu_blind, va_recv hK hP (ci := 2) (q0 := 2) rfl rfl, pu_pre hP hK hN⟩ rfl rfl hl.1 rfl (lv_room (Nat.le_of_ble_eq_true rfl)) dX0_range_5 ⟨Nat.le_of_ble_eq_true rfl, Nat.le_of_ble_eq_true rfl⟩) hP hS (fun H locs hP hS => ?_)
  refine lv_if_ne (tgt := 14) hx hb dX0_range_8 (by decide) (fun c_2 => ?_) (fun c_2 => ?_)
  · skip
    have t_2 := fb_T_has hI c_2
    refine lv_iload_n hx hb dX0_range_14 rfl (lv_at hl 2 rfl) ?_
    refine lv_iconst (v := 0) hx hb dX0_range_15 (by decide) ?_
    refine lv_iconst (v := 2) hx hb dX0_range_16 (by decide) ?_
    refine pu_call (va_runS (As := [.int a2, .int 0, .int 2]) (rest := []) ⟨hx, hb, hml, hown, hB⟩ (m_A_isWithin l D h cI cZ S hI a2 0 2 ) (cwS 3 hB (gS k1_176 k1_177 k1_1 k1_178) rfl rfl rfl (by decide +kernel) ⟨Nat.le_of_ble_eq_true rfl, Nat.le_of_ble_eq_true rfl⟩) ⟨pu_blind, pu_pre hP hK hN⟩ rfl rfl hl.1 rfl (lv_room (Nat.le_of_ble_eq_true rfl)) dX0_range_17 ⟨Nat.le_of_ble_eq_true rfl, Nat.le_of_ble_eq_true rfl⟩) hP hS (fun H locs hP hS => ?_)
    refine lv_if_eq (tgt := 61) hx hb dX0_range_20 (by decide) (fun c_4 => ?_) (fun c_4 => ?_)
    · skip
      refine lv_bipush (v := (-12)) hx hb dX0_range_61 (by decide) ?_
      exact W.iret (v := (-12)) hx hb hr (fun t ht hW => ⟨⟨(-12), S, rfl, ⟨(by rw [F_A_range, if_neg c_2, if_pos c_4]), hI⟩, by show va_P D vwCl _ t.heap; rw [ht]; exact hP⟩, hS.F ht⟩) hS.2.2 dX0_range_63
    · skip
      refine lv_iload_n hx hb dX0_range_23 rfl (lv_at hl 3 rfl) ?_
      refine pu_call (va_runS (As := [.int a3]) (rest := []) ⟨hx, hb, hml, hown, hB⟩ (m_A_isHouse l D h cI cZ S hI a3 ) (cwS 1 hB (gS k1_226 k1_227 k1_1 k1_228) rfl rfl rfl (by decide +kernel) ⟨Nat.le_of_ble_eq_true rfl, Nat.le_of_ble_eq_true rfl⟩) ⟨pu_blind, pu_pre hP hK hN⟩ rfl rfl hl.1 rfl (lv_room (Nat.le_of_ble_eq_true rfl)) dX0_range_24 ⟨Nat.le_of_ble_eq_true rfl, Nat.le_of_ble_eq_true rfl⟩) hP hS (fun H locs hP hS => ?_)
      refine lv_if_eq (tgt := 61) hx hb dX0_range_27 (by decide) (fun c_6 => ?_) (fun c_6 => ?_)
      · skip
        refine lv_bipush (v := (-12)) hx hb dX0_range_61 (by decide) ?_
        exact W.iret (v := (-12)) hx hb hr (fun t ht hW => ⟨⟨(-12), S, rfl, ⟨(by rw [F_A_range, if_neg c_2, if_neg c_4, if_pos c_6]), hI⟩, by show va_P D vwCl _ t.heap; rw [ht]; exact hP⟩, hS.F ht⟩) hS.2.2 dX0_range_63
      · skip
        have t_6 := fb_A_isHouse hI c_6
        refine lv_iload hx hb dX0_range_30 (lv_at hl 4 rfl) ?_
        refine pu_call (va_runS (As := [.int a4]) (rest := []) ⟨hx, hb, hml, hown, hB⟩ (m_A_isHouse l D h cI cZ S hI a4 ) (cwS 1 hB (gS k1_226 k1_227 k1_1 k1_228) rfl rfl rfl (by decide +kernel) ⟨Nat.le_of_ble_eq_true rfl, Nat.le_of_ble_eq_true rfl⟩) ⟨pu_blind, pu_pre hP hK hN⟩ rfl rfl hl.1 rfl (lv_room (Nat.le_of_ble_eq_true rfl)) dX0_range_32 ⟨Nat.le_of_ble_eq_true rfl, Nat.le_of_ble_eq_true rfl⟩) hP hS (fun H locs hP hS => ?_)
        refine lv_if_eq (tgt := 61) hx hb dX0_range_35 (by decide) (fun c_8 => ?_) (fun c_8 => ?_)
        · skip
          refine lv_bipush (v := (-12)) hx hb dX0_range_61 (by decide) ?_
          exact W.iret (v := (-12)) hx hb hr (fun t ht hW => ⟨⟨(-12), S, rfl, ⟨(by rw [F_A_range, if_neg c_2, if_neg c_4, if_neg c_6, if_pos c_8]), hI⟩, by show va_P D vwCl _ t.heap; rw [ht]; exact hP⟩, hS.F ht⟩) hS.2.2 dX0_range_63
        · skip
          have t_8 := fb_A_isHouse hI c_8
          refine lv_iload_n hx hb dX0_range_38 rfl (lv_at hl 2 rfl) ?_
          refine lv_iload_n hx hb dX0_range_39 rfl (lv_at hl 3 rfl) ?_
          refine pu_call (va_runS (As := [.int a2, .int a3]) (rest := []) ⟨hx, hb, hml, hown, hB⟩ (m_A_lowestOf l D h cI cZ S hI a2 a3 ) (cwS 2 hB (gS k1_229 k1_230 k1_1 k1_231) rfl rfl rfl (by decide +kernel) ⟨Nat.le_of_ble_eq_true rfl, Nat.le_of_ble_eq_true rfl⟩) ⟨pu_blind, pu_pre hP hK hN⟩ rfl rfl hl.1 rfl (lv_room (Nat.le_of_ble_eq_true rfl)) dX0_range_40 ⟨Nat.le_of_ble_eq_true rfl, Nat.le_of_ble_eq_true rfl⟩) hP hS (fun H locs hP hS => ?_)
          refine lv_iload_n hx hb dX0_range_43 rfl (lv_at hl 2 rfl) ?_
          refine lv_iload hx hb dX0_range_44 (lv_at hl 4 rfl) ?_
          refine pu_call (va_runS (As := [.int a2, .int a4]) (rest := [.int (f_A_lowestOf a2 a3)]) ⟨hx, hb, hml, hown, hB⟩ (m_A_highestOf l D h cI cZ S hI a2 a4 ) (cwS 2 hB (gS k1_238 k1_239 k1_1 k2_0) rfl rfl rfl (by decide +kernel) ⟨Nat.le_of_ble_eq_true rfl, Nat.le_of_ble_eq_true rfl⟩) ⟨pu_blind, pu_pre hP hK hN⟩ rfl rfl hl.1 rfl (lv_room (Nat.le_of_ble_eq_true rfl)) dX0_range_46 ⟨Nat.le_of_ble_eq_true rfl, Nat.le_of_ble_eq_true rfl⟩) hP hS (fun H locs hP hS => ?_)
          refine lv_icmp_gt (tgt := 61) hx hb dX0_range_49 (by decide) (fun c_11 => ?_) (fun c_11 => ?_)
          · skip
            have t_11 := Int32.lt_iff_toInt_lt.mp c_11
            refine lv_bipush (v := (-12)) hx hb dX0_range_61 (by decide) ?_
            exact W.iret (v := (-12)) hx hb hr (fun t ht hW => ⟨⟨(-12), S, rfl, ⟨(by rw [F_A_range, if_neg c_2, if_neg c_4, if_neg c_6, if_neg c_8, if_pos c_11]), hI⟩, by show va_P D vwCl _ t.heap; rw [ht]; exact hP⟩, hS.F ht⟩) hS.2.2 dX0_range_63
          · skip
            have t_11 := mt Int32.lt_iff_toInt_lt.mpr c_11
            refine lv_aload_n hx hb dX0_range_52 rfl (lv_at hl 0 rfl) ?_
            refine lv_iload hx hb dX0_range_53 (lv_at hl 5 rfl) ?_
            refine pu_call (va_runV (As := [.int a5]) (rest := []) ⟨hx, hb, hml, hown, hB⟩ (m_A_isTodayOrLater l D h cI cZ S hI a5 ) (cwV 1 hB (gV k2_1 k2_3 ks_107 k1_1 k2_4) rfl rfl rfl (by decide +kernel) ⟨Nat.le_of_ble_eq_true rfl, Nat.le_of_ble_eq_true rfl⟩) ⟨pu_blind, va_recv hK hP (ci := 0) (q0 := 0) rfl rfl, pu_pre hP hK hN⟩ rfl rfl hl.1 rfl (lv_room (Nat.le_of_ble_eq_true rfl)) dX0_range_55 ⟨Nat.le_of_ble_eq_true rfl, Nat.le_of_ble_eq_true rfl⟩) hP hS (fun H locs hP hS => ?_)
            refine lv_if_ne (tgt := 64) hx hb dX0_range_58 (by decide) (fun c_13 => ?_) (fun c_13 => ?_)
            · skip
              refine lv_aload_n hx hb dX0_range_64 rfl (lv_at hl 0 rfl) ?_
              refine va_get (D := D) (ci := 0) (v := .ref (h 2)) (C := RX0) (T := TX0) (N := 7) hx hb hB inX0 hown hK hP 0 rfl rfl 1 (by decide) (hB _ k1_150) (fun _ h9 => h9) rfl dX0_range_65 ?_
              refine lv_iload_n hx hb dX0_range_68 rfl (lv_at hl 1 rfl) ?_
              refine pu_call (va_runVN (As := [.int a1]) (rest := []) ⟨hx, hb, hml, hown, hB⟩ (m_T_isGone l D h cI cZ S hI a1 (by omega)) ⟨va_cnB 1 hB (gB k2_9) rfl rfl rfl (hN _ kn_12) (hB _ k1_3) (by decide +kernel) ⟨Nat.le_of_ble_eq_true rfl, Nat.le_of_ble_eq_true rfl⟩, hB _ k2_8, hB _ ks_110⟩ ⟨pu_blind, va_recv hK hP (ci := 2) (q0 := 2) rfl rfl, pu_pre hP hK hN⟩ rfl rfl hl.1 rfl (lv_room (Nat.le_of_ble_eq_true rfl)) dX0_range_69 ⟨Nat.le_of_ble_eq_true rfl, Nat.le_of_ble_eq_true rfl⟩) hP hS (fun H locs hP hS => ?_)
              refine lv_if_eq (tgt := 78) hx hb dX0_range_72 (by decide) (fun c_15 => ?_) (fun c_15 => ?_)
              · skip
                refine lv_aload_n hx hb dX0_range_78 rfl (lv_at hl 0 rfl) ?_
                refine va_get (D := D) (ci := 0) (v := .ref (h 3)) (C := RX0) (T := TX0) (N := 7) hx hb hB inX0 hown hK hP 0 rfl rfl 2 (by decide) (hB _ k1_151) (fun _ h9 => h9) rfl dX0_range_79 ?_
                refine lv_iconst (v := 1) hx hb dX0_range_82 (by decide) ?_
                refine pu_call (va_runVN (As := [.int 1]) (rest := []) ⟨hx, hb, hml, hown, hB⟩ (m_R_hasRoomFor l D h cI cZ S hI 1 ) ⟨va_cnB 1 hB (gB k2_13) rfl rfl rfl (hN _ kn_13) (hB _ k1_4) (by decide +kernel) ⟨Nat.le_of_ble_eq_true rfl, Nat.le_of_ble_eq_true rfl⟩, hB _ k2_12, hB _ ks_114⟩ ⟨pu_blind, va_recv hK hP (ci := 3) (q0 := 3) rfl rfl, pu_pre hP hK hN⟩ rfl rfl hl.1 rfl (lv_room (Nat.le_of_ble_eq_true rfl)) dX0_range_83 ⟨Nat.le_of_ble_eq_true rfl, Nat.le_of_ble_eq_true rfl⟩) hP hS (fun H locs hP hS => ?_)
                refine lv_if_ne (tgt := 92) hx hb dX0_range_86 (by decide) (fun c_17 => ?_) (fun c_17 => ?_)
                · skip
                  have t_17 := fb_R_hasRoomFor_1 hI c_17
                  refine lv_aload_n hx hb dX0_range_92 rfl (lv_at hl 0 rfl) ?_
                  refine va_get (D := D) (ci := 0) (v := .ref (h 3)) (C := RX0) (T := TX0) (N := 7) hx hb hB inX0 hown hK hP 0 rfl rfl 2 (by decide) (hB _ k1_151) (fun _ h9 => h9) rfl dX0_range_93 ?_
                  refine lv_iload_n hx hb dX0_range_96 rfl (lv_at hl 1 rfl) ?_
                  refine lv_iload_n hx hb dX0_range_97 rfl (lv_at hl 2 rfl) ?_
                  refine lv_iload_n hx hb dX0_range_98 rfl (lv_at hl 3 rfl) ?_
                  refine lv_iload hx hb dX0_range_99 (lv_at hl 4 rfl) ?_
                  refine pu_call (va_runVN (As := [.int a1, .int a2, .int a3, .int a4]) (rest := []) ⟨hx, hb, hml, hown, hB⟩ (m_R_leastOver l D h cI cZ S hI a1 a2 a3 a4 ) ⟨va_cnB 4 hB (gB k2_17) rfl rfl rfl (hN _ kn_14) (hB _ k1_4) (by decide +kernel) ⟨Nat.le_of_ble_eq_true rfl, Nat.le_of_ble_eq_true rfl⟩, hB _ k2_16, hB _ ks_46⟩ ⟨pu_blind, va_recv hK hP (ci := 3) (q0 := 3) rfl rfl, pu_pre hP hK hN⟩ rfl rfl hl.1 rfl (lv_room (Nat.le_of_ble_eq_true rfl)) dX0_range_101 ⟨Nat.le_of_ble_eq_true rfl, Nat.le_of_ble_eq_true rfl⟩) hP hS (fun H locs hP hS => ?_)
                  refine lv_istore (lv' := [(6, .int (f_R_leastOver S a1 a2 a3 a4)), (0, .ref (h 0)), (1, .int a1), (2, .int a2), (3, .int a3), (4, .int a4), (5, .int a5)]) hx hb dX0_range_104 hl (by decide) rfl (fun ls hl => ?_)
                  refine lv_iload hx hb dX0_range_106 (lv_at hl 0 rfl) ?_
                  refine lv_iconst (v := (-1)) hx hb dX0_range_108 (by decide) ?_
                  refine lv_icmp_eq (tgt := 119) hx hb dX0_range_109 (by decide) (fun c_19 => ?_) (fun c_19 => ?_)
                  · skip
                    have z_m1 : ((-1) : Int32).toInt = (-1) := by decide
                    have t_19 := Int32.toInt_inj.symm.mp c_19
                    refine lv_aload_n hx hb dX0_range_119 rfl (lv_at hl 1 rfl) ?_
                    refine lv_iload hx hb dX0_range_120 (lv_at hl 6 rfl) ?_
                    refine wpf_27 (S := S) hx hb hB hown hK hP hD hS (hB _ k1_155) dX0_range_122 (fun H locs hP hD hS => ?_)
                    have hI_20 : IV (upS 27 0 a5 S) := iv_up (S := S) hI 27 0 a5 (iv_none 27 rfl)
                    refine lv_aload_n hx hb dX0_range_125 rfl (lv_at hl 1 rfl) ?_
                    refine va_get (D := D) (ci := 0) (v := .ref (h 3)) (C := RX0) (T := TX0) (N := 7) hx hb hB inX0 hown hK hP 0 rfl rfl 2 (by decide) (hB _ k1_151) (fun _ h9 => h9) rfl dX0_range_126 ?_
                    refine lv_iload_n hx hb dX0_range_129 rfl (lv_at hl 2 rfl) ?_
                    refine lv_iload_n hx hb dX0_range_130 rfl (lv_at hl 3 rfl) ?_
                    refine lv_iload_n hx hb dX0_range_131 rfl (lv_at hl 4 rfl) ?_
                    refine lv_iload hx hb dX0_range_132 (lv_at hl 5 rfl) ?_
                    refine wr_call (va_runVN (As := [.int a1, .int a2, .int a3, .int a4]) (rest := []) ⟨hx, hb, hml, hown, hB⟩ (m_R_add l D h cI cZ (upS 27 0 a5 S) hI_20 a1 a2 a3 a4 (show (S 24 0).toInt < 80 by omega) (by omega) (by omega) (by omega)) ⟨va_cnB 4 hB (gB k2_37) rfl rfl rfl (hN _ kn_15) (hB _ k1_4) (by decide +kernel) ⟨Nat.le_of_ble_eq_true rfl, Nat.le_of_ble_eq_true rfl⟩, hB _ k2_36, hB _ ks_117⟩ ⟨wr_blind, va_recv hK hP (ci := 3) (q0 := 3) rfl rfl, wr_pre hP hK hN hD⟩ rfl rfl hl.1 rfl (lv_room (Nat.le_of_ble_eq_true rfl)) dX0_range_134 ⟨Nat.le_of_ble_eq_true rfl, Nat.le_of_ble_eq_true rfl⟩) hS (fun H locs hP hI_21 hS => ?_)
                    have hD := wD (S2 := (F_R_add (upS 27 0 a5 S) a1 a2 a3 a4).2) hD
                    exact W.iret (v := (F_R_add (upS 27 0 a5 S) a1 a2 a3 a4).1) hx hb hr (fun t ht hW => ⟨⟨(F_R_add (upS 27 0 a5 S) a1 a2 a3 a4).1, (F_R_add (upS 27 0 a5 S) a1 a2 a3 a4).2, rfl, ⟨(by rw [F_A_range, if_neg c_2, if_neg c_4, if_neg c_6, if_neg c_8, if_neg c_11, if_neg c_13, if_pos c_15, if_neg c_17, if_pos c_19]), hI_21⟩, by show va_P D vwCl _ t.heap; rw [ht]; exact hP⟩, hS.F ht⟩) hS.2.2 dX0_range_137
                  · skip
                    have z_m1 : ((-1) : Int32).toInt = (-1) := by decide
                    have t_19 := mt Int32.toInt_inj.mp c_19
                    refine lv_sipush (v := (-200)) hx hb dX0_range_112 (by decide) ?_
                    refine lv_iload hx hb dX0_range_115 (lv_at hl 0 rfl) ?_
                    refine lv_isub hx hb dX0_range_117 ?_
                    exact W.iret (v := (-200) - (f_R_leastOver S a1 a2 a3 a4)) hx hb hr (fun t ht hW => ⟨⟨(-200) - (f_R_leastOver S a1 a2 a3 a4), S, rfl, ⟨(by rw [F_A_range, if_neg c_2, if_neg c_4, if_neg c_6, if_neg c_8, if_neg c_11, if_neg c_13, if_pos c_15, if_neg c_17, if_neg c_19]), hI⟩, by show va_P D vwCl _ t.heap; rw [ht]; exact hP⟩, hS.F ht⟩) hS.2.2 dX0_range_118
                · skip
                  refine lv_bipush (v := (-14)) hx hb dX0_range_89 (by decide) ?_
                  exact W.iret (v := (-14)) hx hb hr (fun t ht hW => ⟨⟨(-14), S, rfl, ⟨(by rw [F_A_range, if_neg c_2, if_neg c_4, if_neg c_6, if_neg c_8, if_neg c_11, if_neg c_13, if_pos c_15, if_pos c_17]), hI⟩, by show va_P D vwCl _ t.heap; rw [ht]; exact hP⟩, hS.F ht⟩) hS.2.2 dX0_range_91
              · skip
                refine lv_bipush (v := (-13)) hx hb dX0_range_75 (by decide) ?_
                exact W.iret (v := (-13)) hx hb hr (fun t ht hW => ⟨⟨(-13), S, rfl, ⟨(by rw [F_A_range, if_neg c_2, if_neg c_4, if_neg c_6, if_neg c_8, if_neg c_11, if_neg c_13, if_neg c_15]), hI⟩, by show va_P D vwCl _ t.heap; rw [ht]; exact hP⟩, hS.F ht⟩) hS.2.2 dX0_range_77
            · skip
              refine lv_bipush (v := (-12)) hx hb dX0_range_61 (by decide) ?_
              exact W.iret (v := (-12)) hx hb hr (fun t ht hW => ⟨⟨(-12), S, rfl, ⟨(by rw [F_A_range, if_neg c_2, if_neg c_4, if_neg c_6, if_neg c_8, if_neg c_11, if_pos c_13]), hI⟩, by show va_P D vwCl _ t.heap; rw [ht]; exact hP⟩, hS.F ht⟩) hS.2.2 dX0_range_63
  · skip
    refine lv_bipush (v := (-11)) hx hb dX0_range_11 (by decide) ?_
    exact W.iret (v := (-11)) hx hb hr (fun t ht hW => ⟨⟨(-11), S, rfl, ⟨(by rw [F_A_range, if_pos c_2]), hI⟩, by show va_P D vwCl _ t.heap; rw [ht]; exact hP⟩, hS.F ht⟩) hS.2.2 dX0_range_13
set_option maxHeartbeats 4000000 in
set_option maxRecDepth 100000 in
theorem m_A_isExtra (l : Launch) (D : va_G) (h : Nat → Nat) (cI cZ : ClassId) (S : BS) (hI : IV S) (a1 : Int32) : PM l yX0_isExtra wsX0_isExtra { frames := 1, cells := 0, slots := 0, locals := 22 } D cI cZ h S [.int a1] (f_A_isExtra a1) := by
  refine Met.ofW (cc := cX0_isExtra) (maxL := 1) (ret := (some .boolean)) (by decide) rfl ?_
  intro p e s m args below meth c s₁ B hml hv
  obtain ⟨rfl, hP, hK, hN⟩ := hv
  have hx := B.exec
  have hb := B.bytes
  have hr := B.returns
  have hts := atoms_spec (ws := wsX0_isExtra) B.pre
  have hB : ∀ w ∈ BW, w.before _ s = true := fun w h => hts w (List.mem_cons_of_mem _ h)
  have hown : s.vm.findClass RX0 = some m.cls := findClass_of_methodNamed B.named
  have hlocks := B.notSynchronized
  have hS : va_S (fun _ => False) s.heap s.heap [] := va_S.rf
  have hl := lv_entry ([.int a1]) (n := 1) (Nat.le_of_ble_eq_true rfl)
  rw [lg_entry_eq]
  generalize (lg_sl ([.int a1]) ++ List.replicate (1 - (lg_sl ([.int a1])).length) Slot.unset).toArray = ls at hl ⊢
  have hl : lv_has ls 1 [(0, .int a1)] := hl
  refine lv_iload_n hx hb dX0_isExtra_0 rfl (lv_at hl 0 rfl) ?_
  refine lv_iconst (v := 0) hx hb dX0_isExtra_1 (by decide) ?_
  refine lv_bipush (v := 25) hx hb dX0_isExtra_2 (by decide) ?_
  refine pu_call (va_runS (As := [.int a1, .int 0, .int 25]) (rest := []) ⟨hx, hb, hml, hown, hB⟩ (m_A_isWithin l D h cI cZ S hI a1 0 25 ) (cwS 3 hB (gS k1_176 k1_177 k1_1 k1_178) rfl rfl rfl (by decide +kernel) ⟨Nat.le_of_ble_eq_true rfl, Nat.le_of_ble_eq_true rfl⟩) ⟨pu_blind, pu_pre hP hK hN⟩ rfl rfl hl.1 rfl (lv_room (Nat.le_of_ble_eq_true rfl)) dX0_isExtra_4 ⟨Nat.le_of_ble_eq_true rfl, Nat.le_of_ble_eq_true rfl⟩) hP hS (fun H locs hP hS => ?_)
  exact W.zret (v := f_A_isWithin a1 0 25) hx hb hr (nb01 (z01_A_isWithin)) (fun t ht hW => ⟨⟨f_A_isWithin a1 0 25, (), rfl, (by rw [f_A_isExtra]), trivial⟩, hS.F ht⟩) hS.2.2 dX0_isExtra_7
set_option maxHeartbeats 4000000 in
set_option maxRecDepth 100000 in
theorem m_A_houseNow (l : Launch) (D : va_G) (h : Nat → Nat) (cI cZ : ClassId) (S : BS) (hI : IV S) (a1 : Int32) (ha0 : 0 ≤ a1.toInt ∧ a1.toInt ≤ 119) : PM l yX0_houseNow wsX0_houseNow { frames := 0, cells := 0, slots := 0, locals := 0 } D cI cZ h S [.ref (h 0), .int a1] (f_A_houseNow S a1) := by
  refine Met.ofW (cc := cX0_houseNow) (maxL := 2) (ret := (some .int)) (by decide) rfl ?_
  intro p e s m args below meth c s₁ B hml hv
  obtain ⟨rfl, hP, hK, hN⟩ := hv
  have hx := B.exec
  have hb := B.bytes
  have hr := B.returns
  have hts := atoms_spec (ws := wsX0_houseNow) B.pre
  have hB : ∀ w ∈ BW, w.before _ s = true := fun w h => hts w (List.mem_cons_of_mem _ h)
  have hown : s.vm.findClass RX0 = some m.cls := findClass_of_methodNamed B.named
  have hlocks := B.notSynchronized
  have hS : va_S (fun _ => False) s.heap s.heap [] := va_S.rf
  have hl := lv_entry ([.ref (h 0), .int a1]) (n := 2) (Nat.le_of_ble_eq_true rfl)
  rw [lg_entry_eq]
  generalize (lg_sl ([.ref (h 0), .int a1]) ++ List.replicate (2 - (lg_sl ([.ref (h 0), .int a1])).length) Slot.unset).toArray = ls at hl ⊢
  have hl : lv_has ls 2 [(0, .ref (h 0)), (1, .int a1)] := hl
  refine lv_aload_n hx hb dX0_houseNow_0 rfl (lv_at hl 0 rfl) ?_
  refine va_get (D := D) (ci := 0) (v := .ref (h 5)) (C := RX0) (T := TX0) (N := 7) hx hb hB inX0 hown hK hP 0 rfl rfl 4 (by decide) (hB _ k1_153) (fun _ h9 => h9) rfl dX0_houseNow_1 ?_
  refine va_getN (D := D) (ci := 5) (v := .ref (h 23)) (C := RX5) (T := TX5) (N := 6) hx hb hB inX5 hown hK hP 5 rfl rfl 1 (by decide) (va_Nw.use rfl (hN _ kn_16)) (fun _ h9 => h9) rfl dX0_houseNow_4 ?_
  refine lv_aload_n hx hb dX0_houseNow_7 rfl (lv_at hl 0 rfl) ?_
  refine va_get (D := D) (ci := 0) (v := .ref (h 4)) (C := RX0) (T := TX0) (N := 7) hx hb hB inX0 hown hK hP 0 rfl rfl 3 (by decide) (hB _ k1_152) (fun _ h9 => h9) rfl dX0_houseNow_8 ?_
  refine va_getN (D := D) (ci := 4) (v := .ref (h 20)) (C := RX4) (T := TX4) (N := 6) hx hb hB inX4 hown hK hP 4 rfl rfl 3 (by decide) (va_Nw.use rfl (hN _ kn_17)) (fun _ h9 => h9) rfl dX0_houseNow_11 ?_
  refine lv_iload_n hx hb dX0_houseNow_14 rfl (lv_at hl 1 rfl) ?_
  refine va_iald (f := S 14) hx hb hK hP 20 0 rfl rfl (vp_in_iff.mpr (by omega)) dX0_houseNow_15 ?_
  have b_1 : (0) ≤ (S 14 a1.toNatClampNeg).toInt ∧ (S 14 a1.toNatClampNeg).toInt ≤ 511 := iv_14 (S := S) hI a1.toNatClampNeg
  refine va_iald (f := S 17) hx hb hK hP 23 0 rfl rfl (vp_in_iff.mpr (by omega)) dX0_houseNow_16 ?_
  have b_2 : (0) ≤ (S 17 (S 14 a1.toNatClampNeg).toNatClampNeg).toInt ∧ (S 17 (S 14 a1.toNatClampNeg).toNatClampNeg).toInt ≤ 999 := iv_17 (S := S) hI ((S 14 a1.toNatClampNeg).toNatClampNeg)
  exact W.iret (v := S 17 (S 14 a1.toNatClampNeg).toNatClampNeg) hx hb hr (fun t ht hW => ⟨⟨S 17 (S 14 a1.toNatClampNeg).toNatClampNeg, (), rfl, (by rw [f_A_houseNow]), trivial⟩, hS.F ht⟩) hS.2.2 dX0_houseNow_17
set_option maxHeartbeats 4000000 in
set_option maxRecDepth 100000 in
theorem m_A_isTaken (l : Launch) (D : va_G) (h : Nat → Nat) (cI cZ : ClassId) (S : BS) (hI : IV S) (a1 a2 a3 : Int32) : PM l yX0_isTaken wsX0_isTaken { frames := 1, cells := 0, slots := 0, locals := 21 } D cI cZ h S [.ref (h 0), .int a1, .int a2, .int a3] (f_A_isTaken S a1 a2 a3) := by
  refine Met.ofW (cc := cX0_isTaken) (maxL := 5) (ret := (some .boolean)) (by decide) rfl ?_
  intro p e s m args below meth c s₁ B hml hv
  obtain ⟨rfl, hP, hK, hN⟩ := hv
  have hx := B.exec
  have hb := B.bytes
  have hr := B.returns
  have hts := atoms_spec (ws := wsX0_isTaken) B.pre
  have hB : ∀ w ∈ BW, w.before _ s = true := fun w h => hts w (List.mem_cons_of_mem _ h)
  have hown : s.vm.findClass RX0 = some m.cls := findClass_of_methodNamed B.named
  have hlocks := B.notSynchronized
  have hS : va_S (fun _ => False) s.heap s.heap [] := va_S.rf
  have hl := lv_entry ([.ref (h 0), .int a1, .int a2, .int a3]) (n := 5) (Nat.le_of_ble_eq_true rfl)
  rw [lg_entry_eq]
  generalize (lg_sl ([.ref (h 0), .int a1, .int a2, .int a3]) ++ List.replicate (5 - (lg_sl ([.ref (h 0), .int a1, .int a2, .int a3])).length) Slot.unset).toArray = ls at hl ⊢
  have hl : lv_has ls 5 [(0, .ref (h 0)), (1, .int a1), (2, .int a2), (3, .int a3)] := hl
  refine lv_iconst (v := 0) hx hb dX0_isTaken_0 (by decide) ?_
  refine lv_istore (lv' := [(4, .int 0), (0, .ref (h 0)), (1, .int a1), (2, .int a2), (3, .int a3)]) hx hb dX0_isTaken_1 hl (by decide) rfl (fun ls hl => ?_)
  have loop3 : ∀ (n : Nat) (x4 : Int32) (H : Heap) (locs : List Loc) (ls : Array Slot), (0 ≤ x4.toInt ∧ x4.toInt ≤ (S 25 0 : Int32).toInt ∧ (S 25 0 : Int32).toInt - x4.toInt < (n : Int) ∧ True) → l_A_isTaken_3 S a1 a2 a3 n x4 = f_A_isTaken S a1 a2 a3 → va_P D vwCl (wB h cI cZ S) H → va_S (fun _ => False) s.heap H locs → lv_has ls 5 [(0, .ref (h 0)), (1, .int a1), (2, .int a2), (3, .int a3), (4, .int x4)] → W p l e (headSpec wsX0_isTaken { frames := 1, cells := 0, slots := 0, locals := 21 }).room s m ([.ref (h 0), .int a1, .int a2, .int a3]).toArray below meth c H locs 0 0 (MQ below (PQ (f_A_isTaken S a1 a2 a3)) ([.ref (h 0), .int a1, .int a2, .int a3]).toArray s 0 0 (fun _ => False)) (F0 m 3 ls []) := by
    intro n
    induction n with
    | zero =>
      intro x4 H locs ls hinv he hP hS hl
      obtain ⟨h0, hle, hm, hex⟩ := hinv
      exact absurd hm (by omega)
    | succ n ih =>
      intro x4 H locs ls hinv he hP hS hl
      obtain ⟨h0, hle, hm, hex⟩ := hinv
      have hBd := iv_25 hI
      refine lv_iload hx hb dX0_isTaken_3 (lv_at hl 4 rfl) ?_
      refine lv_aload_n hx hb dX0_isTaken_5 rfl (lv_at hl 0 rfl) ?_
      refine va_get (D := D) (ci := 0) (v := .ref (h 4)) (C := RX0) (T := TX0) (N := 7) hx hb hB inX0 hown hK hP 0 rfl rfl 3 (by decide) (hB _ k1_152) (fun _ h9 => h9) rfl dX0_isTaken_6 ?_
      refine va_getN (D := D) (ci := 4) (v := .int (S 25 0)) (C := RX4) (T := TX4) (N := 6) hx hb hB inX4 hown hK hP 4 rfl rfl 5 (by decide) (va_Nw.use rfl (hN _ kn_18)) (fun _ h9 => h9) rfl dX0_isTaken_9 ?_
      have b_1 : (0) ≤ (S 25 0).toInt ∧ (S 25 0).toInt ≤ 120 := iv_25 (S := S) hI
      refine lv_icmp_ge (tgt := 74) hx hb dX0_isTaken_12 (by decide) (fun c_2 => ?_) (fun c_2 => ?_)
      · skip
        have t_2 := Int32.le_iff_toInt_le.mp c_2
        refine lv_iconst (v := 0) hx hb dX0_isTaken_74 (by decide) ?_
        exact W.zret (v := 0) hx hb hr (by decide) (fun t ht hW => ⟨⟨0, (), rfl, (by rw [← he, l_A_isTaken_3, if_pos c_2]), trivial⟩, hS.F ht⟩) hS.2.2 dX0_isTaken_75
      · skip
        have t_2 := mt Int32.le_iff_toInt_le.mpr c_2
        refine lv_aload_n hx hb dX0_isTaken_15 rfl (lv_at hl 0 rfl) ?_
        refine va_get (D := D) (ci := 0) (v := .ref (h 4)) (C := RX0) (T := TX0) (N := 7) hx hb hB inX0 hown hK hP 0 rfl rfl 3 (by decide) (hB _ k1_152) (fun _ h9 => h9) rfl dX0_isTaken_16 ?_
        refine va_getN (D := D) (ci := 4) (v := .ref (h 21)) (C := RX4) (T := TX4) (N := 6) hx hb hB inX4 hown hK hP 4 rfl rfl 4 (by decide) (va_Nw.use rfl (hN _ kn_19)) (fun _ h9 => h9) rfl dX0_isTaken_19 ?_
        refine lv_iload hx hb dX0_isTaken_22 (lv_at hl 4 rfl) ?_
        refine va_zald (f := S 15) hx hb hK hP 21 1 rfl rfl (vp_in_iff.mpr (by omega)) dX0_isTaken_24 ?_
        have b_3 : (0) ≤ (S 15 x4.toNatClampNeg).toInt ∧ (S 15 x4.toNatClampNeg).toInt ≤ 1 := iv_15 (S := S) hI x4.toNatClampNeg
        refine lv_if_eq (tgt := 68) hx hb dX0_isTaken_25 (by decide) (fun c_4 => ?_) (fun c_4 => ?_)
        · skip
          have z_0 : ((0) : Int32).toInt = (0) := by decide
          have t_4 := Int32.toInt_inj.symm.mp c_4
          refine lv_iinc (v := x4 + 1) (lv' := [(4, .int (x4 + 1)), (0, .ref (h 0)), (1, .int a1), (2, .int a2), (3, .int a3)]) hx hb dX0_isTaken_68 hl (k := 4) rfl rfl (by decide) rfl (fun ls hl => ?_)
          refine lv_goto (tgt := 3) hx hb dX0_isTaken_71 (by decide) ?_
          have hinc := i32_inc (x := x4) h0 (by omega)
          exact ih (x4 + 1) _ _ _ ⟨by omega, by omega, by omega, trivial⟩ (by rw [← he, l_A_isTaken_3, if_neg c_2, if_pos c_4]) hP hS (lv_sub hl [1, 2, 3, 4, 0] rfl)
        · skip
          have z_0 : ((0) : Int32).toInt = (0) := by decide
          have t_4 := mt Int32.toInt_inj.mp c_4
          refine lv_aload_n hx hb dX0_isTaken_28 rfl (lv_at hl 0 rfl) ?_
          refine va_get (D := D) (ci := 0) (v := .ref (h 4)) (C := RX0) (T := TX0) (N := 7) hx hb hB inX0 hown hK hP 0 rfl rfl 3 (by decide) (hB _ k1_152) (fun _ h9 => h9) rfl dX0_isTaken_29 ?_
          refine va_getN (D := D) (ci := 4) (v := .ref (h 17)) (C := RX4) (T := TX4) (N := 6) hx hb hB inX4 hown hK hP 4 rfl rfl 0 (by decide) (va_Nw.use rfl (hN _ kn_20)) (fun _ h9 => h9) rfl dX0_isTaken_32 ?_
          refine lv_iload hx hb dX0_isTaken_35 (lv_at hl 4 rfl) ?_
          refine va_iald (f := S 11) hx hb hK hP 17 0 rfl rfl (vp_in_iff.mpr (by omega)) dX0_isTaken_37 ?_
          have b_5 : (0) ≤ (S 11 x4.toNatClampNeg).toInt ∧ (S 11 x4.toNatClampNeg).toInt ≤ 79 := iv_11 (S := S) hI x4.toNatClampNeg
          refine lv_iload_n hx hb dX0_isTaken_38 rfl (lv_at hl 1 rfl) ?_
          refine lv_icmp_ne (tgt := 68) hx hb dX0_isTaken_39 (by decide) (fun c_6 => ?_) (fun c_6 => ?_)
          · skip
            refine lv_iinc (v := x4 + 1) (lv' := [(4, .int (x4 + 1)), (0, .ref (h 0)), (1, .int a1), (2, .int a2), (3, .int a3)]) hx hb dX0_isTaken_68 hl (k := 4) rfl rfl (by decide) rfl (fun ls hl => ?_)
            refine lv_goto (tgt := 3) hx hb dX0_isTaken_71 (by decide) ?_
            have hinc := i32_inc (x := x4) h0 (by omega)
            exact ih (x4 + 1) _ _ _ ⟨by omega, by omega, by omega, trivial⟩ (by rw [← he, l_A_isTaken_3, if_neg c_2, if_neg c_4, if_neg c_6]) hP hS (lv_sub hl [1, 2, 3, 4, 0] rfl)
          · skip
            refine lv_aload_n hx hb dX0_isTaken_42 rfl (lv_at hl 0 rfl) ?_
            refine va_get (D := D) (ci := 0) (v := .ref (h 4)) (C := RX0) (T := TX0) (N := 7) hx hb hB inX0 hown hK hP 0 rfl rfl 3 (by decide) (hB _ k1_152) (fun _ h9 => h9) rfl dX0_isTaken_43 ?_
            refine va_getN (D := D) (ci := 4) (v := .ref (h 19)) (C := RX4) (T := TX4) (N := 6) hx hb hB inX4 hown hK hP 4 rfl rfl 2 (by decide) (va_Nw.use rfl (hN _ kn_21)) (fun _ h9 => h9) rfl dX0_isTaken_46 ?_
            refine lv_iload hx hb dX0_isTaken_49 (lv_at hl 4 rfl) ?_
            refine va_iald (f := S 13) hx hb hK hP 19 0 rfl rfl (vp_in_iff.mpr (by omega)) dX0_isTaken_51 ?_
            refine lv_iload_n hx hb dX0_isTaken_52 rfl (lv_at hl 3 rfl) ?_
            refine lv_icmp_ne (tgt := 68) hx hb dX0_isTaken_53 (by decide) (fun c_7 => ?_) (fun c_7 => ?_)
            · skip
              refine lv_iinc (v := x4 + 1) (lv' := [(4, .int (x4 + 1)), (0, .ref (h 0)), (1, .int a1), (2, .int a2), (3, .int a3)]) hx hb dX0_isTaken_68 hl (k := 4) rfl rfl (by decide) rfl (fun ls hl => ?_)
              refine lv_goto (tgt := 3) hx hb dX0_isTaken_71 (by decide) ?_
              have hinc := i32_inc (x := x4) h0 (by omega)
              exact ih (x4 + 1) _ _ _ ⟨by omega, by omega, by omega, trivial⟩ (by rw [← he, l_A_isTaken_3, if_neg c_2, if_neg c_4, if_pos c_6, if_neg c_7]) hP hS (lv_sub hl [1, 2, 3, 4, 0] rfl)
            · skip
              refine lv_aload_n hx hb dX0_isTaken_56 rfl (lv_at hl 0 rfl) ?_
              refine lv_iload hx hb dX0_isTaken_57 (lv_at hl 4 rfl) ?_
              refine pu_call (va_runV (As := [.int x4]) (rest := []) ⟨hx, hb, hml, hown, hB⟩ (m_A_houseNow l D h cI cZ S hI x4 (by omega)) (cwV 1 hB (gV k2_59 k2_61 ks_123 k1_1 k2_62) rfl rfl rfl (by decide +kernel) ⟨Nat.le_of_ble_eq_true rfl, Nat.le_of_ble_eq_true rfl⟩) ⟨pu_blind, va_recv hK hP (ci := 0) (q0 := 0) rfl rfl, pu_pre hP hK hN⟩ rfl rfl hl.1 rfl (lv_room (Nat.le_of_ble_eq_true rfl)) dX0_isTaken_59 ⟨Nat.le_of_ble_eq_true rfl, Nat.le_of_ble_eq_true rfl⟩) hP hS (fun H locs hP hS => ?_)
              have k_8 := fc_A_houseNow hI x4
              refine lv_iload_n hx hb dX0_isTaken_62 rfl (lv_at hl 2 rfl) ?_
              refine lv_icmp_ne (tgt := 68) hx hb dX0_isTaken_63 (by decide) (fun c_9 => ?_) (fun c_9 => ?_)
              · skip
                refine lv_iinc (v := x4 + 1) (lv' := [(4, .int (x4 + 1)), (0, .ref (h 0)), (1, .int a1), (2, .int a2), (3, .int a3)]) hx hb dX0_isTaken_68 hl (k := 4) rfl rfl (by decide) rfl (fun ls hl => ?_)
                refine lv_goto (tgt := 3) hx hb dX0_isTaken_71 (by decide) ?_
                have hinc := i32_inc (x := x4) h0 (by omega)
                exact ih (x4 + 1) _ _ _ ⟨by omega, by omega, by omega, trivial⟩ (by rw [← he, l_A_isTaken_3, if_neg c_2, if_neg c_4, if_pos c_6, if_pos c_7, if_neg c_9]) hP hS (lv_sub hl [1, 2, 3, 4, 0] rfl)
              · skip
                refine lv_iconst (v := 1) hx hb dX0_isTaken_66 (by decide) ?_
                exact W.zret (v := 1) hx hb hr (by decide) (fun t ht hW => ⟨⟨1, (), rfl, (by rw [← he, l_A_isTaken_3, if_neg c_2, if_neg c_4, if_pos c_6, if_pos c_7, if_pos c_9]), trivial⟩, hS.F ht⟩) hS.2.2 dX0_isTaken_67
  have hB9 := iv_25 (S := S) hI
  have z_0 : ((0) : Int32).toInt = (0) := by decide
  exact loop3 600 0 _ _ _ ⟨by omega, by omega, by omega, trivial⟩ (by rw [f_A_isTaken]) hP hS (lv_sub hl [1, 2, 3, 4, 0] rfl)
set_option maxHeartbeats 4000000 in
set_option maxRecDepth 100000 in
theorem m_A_point (l : Launch) (D : va_G) (h : Nat → Nat) (cI cZ : ClassId) (S : BS) (hI : IV S) (a1 a2 a3 : Int32) : WM l yX0_point wsX0_point { frames := 3, cells := 0, slots := 0, locals := 63 } D cI cZ h S [.ref (h 0), .int a1, .int a2, .int a3] (F_A_point S a1 a2 a3) := by
  refine Met.ofW (cc := cX0_point) (maxL := 5) (ret := (some .int)) (by decide) rfl ?_
  intro p e s m args below meth c s₁ B hml hv
  obtain ⟨rfl, hP, hK, hN, hD0⟩ := hv
  have hx := B.exec
  have hb := B.bytes
  have hr := B.returns
  have hts := atoms_spec (ws := wsX0_point) B.pre
  have hB : ∀ w ∈ BW, w.before _ s = true := fun w h => hts w (List.mem_cons_of_mem _ h)
  have hown : s.vm.findClass RX0 = some m.cls := findClass_of_methodNamed B.named
  have hlocks := B.notSynchronized
  have hD := bD hD0
  have hS : va_S (bA h) s.heap s.heap [] := va_S.rf
  have hl := lv_entry ([.ref (h 0), .int a1, .int a2, .int a3]) (n := 5) (Nat.le_of_ble_eq_true rfl)
  rw [lg_entry_eq]
  generalize (lg_sl ([.ref (h 0), .int a1, .int a2, .int a3]) ++ List.replicate (5 - (lg_sl ([.ref (h 0), .int a1, .int a2, .int a3])).length) Slot.unset).toArray = ls at hl ⊢
  have hl : lv_has ls 5 [(0, .ref (h 0)), (1, .int a1), (2, .int a2), (3, .int a3)] := hl
  refine lv_aload_n hx hb dX0_point_0 rfl (lv_at hl 0 rfl) ?_
  refine va_get (D := D) (ci := 0) (v := .ref (h 3)) (C := RX0) (T := TX0) (N := 7) hx hb hB inX0 hown hK hP 0 rfl rfl 2 (by decide) (hB _ k1_151) (fun _ h9 => h9) rfl dX0_point_1 ?_
  refine lv_iload_n hx hb dX0_point_4 rfl (lv_at hl 1 rfl) ?_
  refine pu_call (va_runVN (As := [.int a1]) (rest := []) ⟨hx, hb, hml, hown, hB⟩ (m_R_has l D h cI cZ S hI a1 ) ⟨va_cnB 1 hB (gB k2_45) rfl rfl rfl (hN _ kn_22) (hB _ k1_4) (by decide +kernel) ⟨Nat.le_of_ble_eq_true rfl, Nat.le_of_ble_eq_true rfl⟩, hB _ k2_44, hB _ ks_126⟩ ⟨pu_blind, va_recv hK hP (ci := 3) (q0 := 3) rfl rfl, pu_pre hP hK hN⟩ rfl rfl hl.1 rfl (lv_room (Nat.le_of_ble_eq_true rfl)) dX0_point_5 ⟨Nat.le_of_ble_eq_true rfl, Nat.le_of_ble_eq_true rfl⟩) hP hS (fun H locs hP hS => ?_)
  refine lv_if_ne (tgt := 14) hx hb dX0_point_8 (by decide) (fun c_2 => ?_) (fun c_2 => ?_)
  · skip
    have t_2 := fb_R_has hI c_2
    refine lv_aload_n hx hb dX0_point_14 rfl (lv_at hl 0 rfl) ?_
    refine va_get (D := D) (ci := 0) (v := .ref (h 3)) (C := RX0) (T := TX0) (N := 7) hx hb hB inX0 hown hK hP 0 rfl rfl 2 (by decide) (hB _ k1_151) (fun _ h9 => h9) rfl dX0_point_15 ?_
    refine lv_iload_n hx hb dX0_point_18 rfl (lv_at hl 1 rfl) ?_
    refine lv_iload_n hx hb dX0_point_19 rfl (lv_at hl 2 rfl) ?_
    refine pu_call (va_runVN (As := [.int a1, .int a2]) (rest := []) ⟨hx, hb, hml, hown, hB⟩ (m_R_holds l D h cI cZ S hI a1 a2 (by omega)) ⟨va_cnB 2 hB (gB k2_49) rfl rfl rfl (hN _ kn_23) (hB _ k1_4) (by decide +kernel) ⟨Nat.le_of_ble_eq_true rfl, Nat.le_of_ble_eq_true rfl⟩, hB _ k2_48, hB _ ks_129⟩ ⟨pu_blind, va_recv hK hP (ci := 3) (q0 := 3) rfl rfl, pu_pre hP hK hN⟩ rfl rfl hl.1 rfl (lv_room (Nat.le_of_ble_eq_true rfl)) dX0_point_20 ⟨Nat.le_of_ble_eq_true rfl, Nat.le_of_ble_eq_true rfl⟩) hP hS (fun H locs hP hS => ?_)
    refine lv_if_eq (tgt := 33) hx hb dX0_point_23 (by decide) (fun c_4 => ?_) (fun c_4 => ?_)
    · skip
      refine lv_bipush (v := (-12)) hx hb dX0_point_33 (by decide) ?_
      exact W.iret (v := (-12)) hx hb hr (fun t ht hW => ⟨⟨(-12), S, rfl, ⟨(by rw [F_A_point, if_neg c_2, if_pos c_4]), hI⟩, by show va_P D vwCl _ t.heap; rw [ht]; exact hP⟩, hS.F ht⟩) hS.2.2 dX0_point_35
    · skip
      have t_4 := fb_R_holds hI c_4
      refine lv_iload_n hx hb dX0_point_26 rfl (lv_at hl 3 rfl) ?_
      refine pu_call (va_runS (As := [.int a3]) (rest := []) ⟨hx, hb, hml, hown, hB⟩ (m_A_isExtra l D h cI cZ S hI a3 ) (cwS 1 hB (gS k2_52 k2_53 k1_1 k2_54) rfl rfl rfl (by decide +kernel) ⟨Nat.le_of_ble_eq_true rfl, Nat.le_of_ble_eq_true rfl⟩) ⟨pu_blind, pu_pre hP hK hN⟩ rfl rfl hl.1 rfl (lv_room (Nat.le_of_ble_eq_true rfl)) dX0_point_27 ⟨Nat.le_of_ble_eq_true rfl, Nat.le_of_ble_eq_true rfl⟩) hP hS (fun H locs hP hS => ?_)
      refine lv_if_ne (tgt := 36) hx hb dX0_point_30 (by decide) (fun c_6 => ?_) (fun c_6 => ?_)
      · skip
        refine lv_aload_n hx hb dX0_point_36 rfl (lv_at hl 0 rfl) ?_
        refine va_get (D := D) (ci := 0) (v := .ref (h 3)) (C := RX0) (T := TX0) (N := 7) hx hb hB inX0 hown hK hP 0 rfl rfl 2 (by decide) (hB _ k1_151) (fun _ h9 => h9) rfl dX0_point_37 ?_
        refine va_getN (D := D) (ci := 3) (v := .ref (h 16)) (C := RX3) (T := TX3) (N := 6) hx hb hB inX3 hown hK hP 3 rfl rfl 4 (by decide) (va_Nw.use rfl (hN _ kn_24)) (fun _ h9 => h9) rfl dX0_point_40 ?_
        refine lv_iload_n hx hb dX0_point_43 rfl (lv_at hl 1 rfl) ?_
        refine va_zald (f := S 10) hx hb hK hP 16 1 rfl rfl (vp_in_iff.mpr (by omega)) dX0_point_44 ?_
        have b_7 : (0) ≤ (S 10 a1.toNatClampNeg).toInt ∧ (S 10 a1.toNatClampNeg).toInt ≤ 1 := iv_10 (S := S) hI a1.toNatClampNeg
        refine lv_if_eq (tgt := 58) hx hb dX0_point_45 (by decide) (fun c_8 => ?_) (fun c_8 => ?_)
        · skip
          have z_0 : ((0) : Int32).toInt = (0) := by decide
          have t_8 := Int32.toInt_inj.symm.mp c_8
          refine lv_bipush (v := (-13)) hx hb dX0_point_58 (by decide) ?_
          exact W.iret (v := (-13)) hx hb hr (fun t ht hW => ⟨⟨(-13), S, rfl, ⟨(by rw [F_A_point, if_neg c_2, if_neg c_4, if_neg c_6, if_pos c_8]), hI⟩, by show va_P D vwCl _ t.heap; rw [ht]; exact hP⟩, hS.F ht⟩) hS.2.2 dX0_point_60
        · skip
          have z_0 : ((0) : Int32).toInt = (0) := by decide
          have t_8 := mt Int32.toInt_inj.mp c_8
          refine lv_aload_n hx hb dX0_point_48 rfl (lv_at hl 0 rfl) ?_
          refine lv_iload_n hx hb dX0_point_49 rfl (lv_at hl 1 rfl) ?_
          refine lv_iload_n hx hb dX0_point_50 rfl (lv_at hl 2 rfl) ?_
          refine lv_iload_n hx hb dX0_point_51 rfl (lv_at hl 3 rfl) ?_
          refine pu_call (va_runV (As := [.int a1, .int a2, .int a3]) (rest := []) ⟨hx, hb, hml, hown, hB⟩ (m_A_isTaken l D h cI cZ S hI a1 a2 a3 ) (cwV 3 hB (gV k2_55 k2_57 ks_136 k1_1 k2_58) rfl rfl rfl (by decide +kernel) ⟨Nat.le_of_ble_eq_true rfl, Nat.le_of_ble_eq_true rfl⟩) ⟨pu_blind, va_recv hK hP (ci := 0) (q0 := 0) rfl rfl, pu_pre hP hK hN⟩ rfl rfl hl.1 rfl (lv_room (Nat.le_of_ble_eq_true rfl)) dX0_point_52 ⟨Nat.le_of_ble_eq_true rfl, Nat.le_of_ble_eq_true rfl⟩) hP hS (fun H locs hP hS => ?_)
          refine lv_if_eq (tgt := 61) hx hb dX0_point_55 (by decide) (fun c_10 => ?_) (fun c_10 => ?_)
          · skip
            refine lv_aload_n hx hb dX0_point_61 rfl (lv_at hl 0 rfl) ?_
            refine va_get (D := D) (ci := 0) (v := .ref (h 4)) (C := RX0) (T := TX0) (N := 7) hx hb hB inX0 hown hK hP 0 rfl rfl 3 (by decide) (hB _ k1_152) (fun _ h9 => h9) rfl dX0_point_62 ?_
            refine pu_call (va_runVN (As := []) (rest := []) ⟨hx, hb, hml, hown, hB⟩ (m_Q_isFull l D h cI cZ S hI  ) ⟨va_cnB 0 hB (gB k2_66) rfl rfl rfl (hN _ kn_25) (hB _ k1_5) (by decide +kernel) ⟨Nat.le_of_ble_eq_true rfl, Nat.le_of_ble_eq_true rfl⟩, hB _ k2_65, hB _ ks_140⟩ ⟨pu_blind, va_recv hK hP (ci := 4) (q0 := 4) rfl rfl, pu_pre hP hK hN⟩ rfl rfl hl.1 rfl (lv_room (Nat.le_of_ble_eq_true rfl)) dX0_point_65 ⟨Nat.le_of_ble_eq_true rfl, Nat.le_of_ble_eq_true rfl⟩) hP hS (fun H locs hP hS => ?_)
            refine lv_if_ne (tgt := 81) hx hb dX0_point_68 (by decide) (fun c_12 => ?_) (fun c_12 => ?_)
            · skip
              refine lv_bipush (v := (-14)) hx hb dX0_point_81 (by decide) ?_
              exact W.iret (v := (-14)) hx hb hr (fun t ht hW => ⟨⟨(-14), S, rfl, ⟨(by rw [F_A_point, if_neg c_2, if_neg c_4, if_neg c_6, if_neg c_8, if_pos c_10, if_neg c_12]), hI⟩, by show va_P D vwCl _ t.heap; rw [ht]; exact hP⟩, hS.F ht⟩) hS.2.2 dX0_point_83
            · skip
              have t_12 := fb_Q_isFull hI c_12
              refine lv_aload_n hx hb dX0_point_71 rfl (lv_at hl 0 rfl) ?_
              refine va_get (D := D) (ci := 0) (v := .ref (h 5)) (C := RX0) (T := TX0) (N := 7) hx hb hB inX0 hown hK hP 0 rfl rfl 4 (by decide) (hB _ k1_153) (fun _ h9 => h9) rfl dX0_point_72 ?_
              refine pu_call (va_runVN (As := []) (rest := []) ⟨hx, hb, hml, hown, hB⟩ (m_Y_isFull l D h cI cZ S hI  ) ⟨va_cnB 0 hB (gB k2_70) rfl rfl rfl (hN _ kn_26) (hB _ k1_6) (by decide +kernel) ⟨Nat.le_of_ble_eq_true rfl, Nat.le_of_ble_eq_true rfl⟩, hB _ k2_69, hB _ ks_143⟩ ⟨pu_blind, va_recv hK hP (ci := 5) (q0 := 5) rfl rfl, pu_pre hP hK hN⟩ rfl rfl hl.1 rfl (lv_room (Nat.le_of_ble_eq_true rfl)) dX0_point_75 ⟨Nat.le_of_ble_eq_true rfl, Nat.le_of_ble_eq_true rfl⟩) hP hS (fun H locs hP hS => ?_)
              refine lv_if_eq (tgt := 84) hx hb dX0_point_78 (by decide) (fun c_14 => ?_) (fun c_14 => ?_)
              · skip
                have t_14 := fb_Y_isFull hI c_14
                refine lv_aload_n hx hb dX0_point_84 rfl (lv_at hl 0 rfl) ?_
                refine va_get (D := D) (ci := 0) (v := .ref (h 4)) (C := RX0) (T := TX0) (N := 7) hx hb hB inX0 hown hK hP 0 rfl rfl 3 (by decide) (hB _ k1_152) (fun _ h9 => h9) rfl dX0_point_85 ?_
                refine lv_iload_n hx hb dX0_point_88 rfl (lv_at hl 1 rfl) ?_
                refine lv_aload_n hx hb dX0_point_89 rfl (lv_at hl 0 rfl) ?_
                refine va_get (D := D) (ci := 0) (v := .ref (h 3)) (C := RX0) (T := TX0) (N := 7) hx hb hB inX0 hown hK hP 0 rfl rfl 2 (by decide) (hB _ k1_151) (fun _ h9 => h9) rfl dX0_point_90 ?_
                refine va_getN (D := D) (ci := 3) (v := .ref (h 12)) (C := RX3) (T := TX3) (N := 6) hx hb hB inX3 hown hK hP 3 rfl rfl 0 (by decide) (va_Nw.use rfl (hN _ kn_27)) (fun _ h9 => h9) rfl dX0_point_93 ?_
                refine lv_iload_n hx hb dX0_point_96 rfl (lv_at hl 1 rfl) ?_
                refine va_iald (f := S 6) hx hb hK hP 12 0 rfl rfl (vp_in_iff.mpr (by omega)) dX0_point_97 ?_
                have b_15 : (0) ≤ (S 6 a1.toNatClampNeg).toInt ∧ (S 6 a1.toNatClampNeg).toInt ≤ 31 := iv_6 (S := S) hI a1.toNatClampNeg
                refine lv_iload_n hx hb dX0_point_98 rfl (lv_at hl 3 rfl) ?_
                refine wr_call (va_runVN (As := [.int a1, .int (S 6 a1.toNatClampNeg), .int a3]) (rest := []) ⟨hx, hb, hml, hown, hB⟩ (m_Q_add l D h cI cZ S hI a1 (S 6 a1.toNatClampNeg) a3 (show (S 25 0).toInt < 120 by omega) (by omega) (by omega)) ⟨va_cnB 3 hB (gB k2_74) rfl rfl rfl (hN _ kn_28) (hB _ k1_5) (by decide +kernel) ⟨Nat.le_of_ble_eq_true rfl, Nat.le_of_ble_eq_true rfl⟩, hB _ k2_73, hB _ ks_146⟩ ⟨wr_blind, va_recv hK hP (ci := 4) (q0 := 4) rfl rfl, wr_pre hP hK hN hD⟩ rfl rfl hl.1 rfl (lv_room (Nat.le_of_ble_eq_true rfl)) dX0_point_99 ⟨Nat.le_of_ble_eq_true rfl, Nat.le_of_ble_eq_true rfl⟩) hS (fun H locs hP hI_16 hS => ?_)
                have hD := wD (S2 := (F_Q_add S a1 (S 6 a1.toNatClampNeg) a3).2) hD
                have k_17 : ((F_Q_add S a1 (S 6 a1.toNatClampNeg) a3).1).toInt = (S 25 0).toInt := congrArg Int32.toInt (fc_Q_add S a1 (S 6 a1.toNatClampNeg) a3)
                have j_17 : (((F_Q_add S a1 (S 6 a1.toNatClampNeg) a3).2) 25 0).toInt = (S 25 0).toInt + 1 := i32_inc (x := S 25 0) (by omega) (by omega)
                refine lv_istore (lv' := [(4, .int ((F_Q_add S a1 (S 6 a1.toNatClampNeg) a3).1)), (0, .ref (h 0)), (1, .int a1), (2, .int a2), (3, .int a3)]) hx hb dX0_point_102 hl (by decide) rfl (fun ls hl => ?_)
                refine lv_aload_n hx hb dX0_point_104 rfl (lv_at hl 1 rfl) ?_
                refine va_get (D := D) (ci := 0) (v := .ref (h 4)) (C := RX0) (T := TX0) (N := 7) hx hb hB inX0 hown hK hP 0 rfl rfl 3 (by decide) (hB _ k1_152) (fun _ h9 => h9) rfl dX0_point_105 ?_
                refine va_getN (D := D) (ci := 4) (v := .ref (h 20)) (C := RX4) (T := TX4) (N := 6) hx hb hB inX4 hown hK hP 4 rfl rfl 3 (by decide) (va_Nw.use rfl (hN _ kn_17)) (fun _ h9 => h9) rfl dX0_point_108 ?_
                refine lv_iload hx hb dX0_point_111 (lv_at hl 0 rfl) ?_
                refine lv_aload_n hx hb dX0_point_113 rfl (lv_at hl 1 rfl) ?_
                refine va_get (D := D) (ci := 0) (v := .ref (h 5)) (C := RX0) (T := TX0) (N := 7) hx hb hB inX0 hown hK hP 0 rfl rfl 4 (by decide) (hB _ k1_153) (fun _ h9 => h9) rfl dX0_point_114 ?_
                refine lv_iload hx hb dX0_point_117 (lv_at hl 0 rfl) ?_
                refine lv_iload_n hx hb dX0_point_119 rfl (lv_at hl 3 rfl) ?_
                refine lv_aload_n hx hb dX0_point_120 rfl (lv_at hl 1 rfl) ?_
                refine va_get (D := D) (ci := 0) (v := .int (S 27 0)) (C := RX0) (T := TX0) (N := 7) hx hb hB inX0 hown hK hP 0 rfl rfl 6 (by decide) (hB _ k1_155) (fun _ h9 => h9) rfl dX0_point_121 ?_
                refine wr_call (va_runVN (As := [.int ((F_Q_add S a1 (S 6 a1.toNatClampNeg) a3).1), .int a2, .int (S 27 0)]) (rest := [.int ((F_Q_add S a1 (S 6 a1.toNatClampNeg) a3).1), .ref (h 20)]) ⟨hx, hb, hml, hown, hB⟩ (m_Y_begin l D h cI cZ ((F_Q_add S a1 (S 6 a1.toNatClampNeg) a3).2) hI_16 ((F_Q_add S a1 (S 6 a1.toNatClampNeg) a3).1) a2 (S 27 0) (show (S 26 0).toInt < 512 by omega) (by omega) (by omega)) ⟨va_cnB 3 hB (gB k2_78) rfl rfl rfl (hN _ kn_29) (hB _ k1_6) (by decide +kernel) ⟨Nat.le_of_ble_eq_true rfl, Nat.le_of_ble_eq_true rfl⟩, hB _ k2_77, hB _ ks_149⟩ ⟨wr_blind, va_recv hK hP (ci := 5) (q0 := 5) rfl rfl, wr_pre hP hK hN hD⟩ rfl rfl hl.1 rfl (lv_room (Nat.le_of_ble_eq_true rfl)) dX0_point_124 ⟨Nat.le_of_ble_eq_true rfl, Nat.le_of_ble_eq_true rfl⟩) hS (fun H locs hP hI_18 hS => ?_)
                have hD := wD (S2 := (F_Y_begin ((F_Q_add S a1 (S 6 a1.toNatClampNeg) a3).2) ((F_Q_add S a1 (S 6 a1.toNatClampNeg) a3).1) a2 (S 27 0)).2) hD
                have k_19 : ((F_Y_begin ((F_Q_add S a1 (S 6 a1.toNatClampNeg) a3).2) ((F_Q_add S a1 (S 6 a1.toNatClampNeg) a3).1) a2 (S 27 0)).1).toInt = (S 26 0).toInt := congrArg Int32.toInt (fc_Y_begin ((F_Q_add S a1 (S 6 a1.toNatClampNeg) a3).2) ((F_Q_add S a1 (S 6 a1.toNatClampNeg) a3).1) a2 (S 27 0))
                have j_19 : (((F_Y_begin ((F_Q_add S a1 (S 6 a1.toNatClampNeg) a3).2) ((F_Q_add S a1 (S 6 a1.toNatClampNeg) a3).1) a2 (S 27 0)).2) 26 0).toInt = (S 26 0).toInt + 1 := i32_inc (x := S 26 0) (by omega) (by omega)
                refine wst_14 (S := (F_Y_begin ((F_Q_add S a1 (S 6 a1.toNatClampNeg) a3).2) ((F_Q_add S a1 (S 6 a1.toNatClampNeg) a3).1) a2 (S 27 0)).2) hx hb hK hP hD hS (vp_in_iff.mpr (by omega)) dX0_point_127 (fun H locs hP hD hS => ?_)
                have hI_20 : IV (upS 14 (((F_Q_add S a1 (S 6 a1.toNatClampNeg) a3).1).toNatClampNeg) ((F_Y_begin ((F_Q_add S a1 (S 6 a1.toNatClampNeg) a3).2) ((F_Q_add S a1 (S 6 a1.toNatClampNeg) a3).1) a2 (S 27 0)).1) ((F_Y_begin ((F_Q_add S a1 (S 6 a1.toNatClampNeg) a3).2) ((F_Q_add S a1 (S 6 a1.toNatClampNeg) a3).1) a2 (S 27 0)).2)) := iv_up (S := (F_Y_begin ((F_Q_add S a1 (S 6 a1.toNatClampNeg) a3).2) ((F_Q_add S a1 (S 6 a1.toNatClampNeg) a3).1) a2 (S 27 0)).2) hI_18 14 (((F_Q_add S a1 (S 6 a1.toNatClampNeg) a3).1).toNatClampNeg) ((F_Y_begin ((F_Q_add S a1 (S 6 a1.toNatClampNeg) a3).2) ((F_Q_add S a1 (S 6 a1.toNatClampNeg) a3).1) a2 (S 27 0)).1) (iv_one 14 (0) 511 rfl (by omega))
                refine lv_iload hx hb dX0_point_128 (lv_at hl 0 rfl) ?_
                exact W.iret (v := (F_Q_add S a1 (S 6 a1.toNatClampNeg) a3).1) hx hb hr (fun t ht hW => ⟨⟨(F_Q_add S a1 (S 6 a1.toNatClampNeg) a3).1, upS 14 (((F_Q_add S a1 (S 6 a1.toNatClampNeg) a3).1).toNatClampNeg) ((F_Y_begin ((F_Q_add S a1 (S 6 a1.toNatClampNeg) a3).2) ((F_Q_add S a1 (S 6 a1.toNatClampNeg) a3).1) a2 (S 27 0)).1) ((F_Y_begin ((F_Q_add S a1 (S 6 a1.toNatClampNeg) a3).2) ((F_Q_add S a1 (S 6 a1.toNatClampNeg) a3).1) a2 (S 27 0)).2), rfl, ⟨(by rw [F_A_point, if_neg c_2, if_neg c_4, if_neg c_6, if_neg c_8, if_pos c_10, if_pos c_12, if_pos c_14]), hI_20⟩, by show va_P D vwCl _ t.heap; rw [ht]; exact hP⟩, hS.F ht⟩) hS.2.2 dX0_point_130
              · skip
                refine lv_bipush (v := (-14)) hx hb dX0_point_81 (by decide) ?_
                exact W.iret (v := (-14)) hx hb hr (fun t ht hW => ⟨⟨(-14), S, rfl, ⟨(by rw [F_A_point, if_neg c_2, if_neg c_4, if_neg c_6, if_neg c_8, if_pos c_10, if_pos c_12, if_neg c_14]), hI⟩, by show va_P D vwCl _ t.heap; rw [ht]; exact hP⟩, hS.F ht⟩) hS.2.2 dX0_point_83
          · skip
            refine lv_bipush (v := (-13)) hx hb dX0_point_58 (by decide) ?_
            exact W.iret (v := (-13)) hx hb hr (fun t ht hW => ⟨⟨(-13), S, rfl, ⟨(by rw [F_A_point, if_neg c_2, if_neg c_4, if_neg c_6, if_neg c_8, if_neg c_10]), hI⟩, by show va_P D vwCl _ t.heap; rw [ht]; exact hP⟩, hS.F ht⟩) hS.2.2 dX0_point_60
      · skip
        refine lv_bipush (v := (-12)) hx hb dX0_point_33 (by decide) ?_
        exact W.iret (v := (-12)) hx hb hr (fun t ht hW => ⟨⟨(-12), S, rfl, ⟨(by rw [F_A_point, if_neg c_2, if_neg c_4, if_pos c_6]), hI⟩, by show va_P D vwCl _ t.heap; rw [ht]; exact hP⟩, hS.F ht⟩) hS.2.2 dX0_point_35
  · skip
    refine lv_bipush (v := (-11)) hx hb dX0_point_11 (by decide) ?_
    exact W.iret (v := (-11)) hx hb hr (fun t ht hW => ⟨⟨(-11), S, rfl, ⟨(by rw [F_A_point, if_pos c_2]), hI⟩, by show va_P D vwCl _ t.heap; rw [ht]; exact hP⟩, hS.F ht⟩) hS.2.2 dX0_point_13
