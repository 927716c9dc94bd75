set_option maxHeartbeats 4000000 in
set_option maxRecDepth 100000 in
theorem m_M_change (l : Launch) (D : va_G) (h : Nat → Nat) (cI cZ : ClassId) (S : BS) (hI : IVM S) (a1 a2 a3 a4 : Int32) (hAS : ASM S) (hroom : (S 24 0).toInt ≤ 4880) : WMM l yX6_change wsX6_change { frames := 5, cells := 0, slots := 0, locals := 117 } D cI cZ h S [.ref (h 0), .int a1, .int a2, .int a3, .int a4] (F_M_change S a1 a2 a3 a4) := by
  refine Met.ofW (cc := cX6_change) (maxL := 5) (ret := (some .int)) (by decide) rfl ?_
  intro p e s m args below meth c s₁ B hml hv
  obtain ⟨rfl, hP, hK, hN, hD0⟩ := hv
  have hx := B.exec
  have hb := B.bytes
  have hr := B.returns
  have hts := atoms_spec (ws := wsX6_change) B.pre
  have hB : ∀ w ∈ BW, w.before _ s = true := fun w h => hts w (List.mem_cons_of_mem _ h)
  have hown : s.vm.findClass RX6 = some m.cls := findClass_of_methodNamed B.named
  have hlocks := B.notSynchronized
  have hD := bDM hD0
  have hS : va_S (bAM h) s.heap s.heap [] := va_S.rf
  have hl := lv_entry ([.ref (h 0), .int a1, .int a2, .int a3, .int a4]) (n := 5) (Nat.le_of_ble_eq_true rfl)
  rw [lg_entry_eq]
  generalize (lg_sl ([.ref (h 0), .int a1, .int a2, .int a3, .int a4]) ++ List.replicate (5 - (lg_sl ([.ref (h 0), .int a1, .int a2, .int a3, .int a4])).length) Slot.unset).toArray = ls at hl ⊢
  have hl : lv_has ls 5 [(0, .ref (h 0)), (1, .int a1), (2, .int a2), (3, .int a3), (4, .int a4)] := hl
  refine lv_iload_n hx hb dX6_change_0 rfl (lv_at hl 1 rfl) ?_
  by_cases c_1 : a1 = 0
  · skip
    have z_0 : ((0) : Int32).toInt = (0) := by decide
    have t_1 := Int32.toInt_inj.symm.mp c_1
    refine lv_tableIn (tgt := 36) (off := 35) hx hb dX6_change_1 (by rw [c_1]; decide) (by rw [c_1]; decide) (by rw [c_1]; rfl) (by decide) ?_
    refine lv_aload_n hx hb dX6_change_36 rfl (lv_at hl 0 rfl) ?_
    refine lv_iload_n hx hb dX6_change_37 rfl (lv_at hl 1 rfl) ?_
    refine lv_iload_n hx hb dX6_change_38 rfl (lv_at hl 2 rfl) ?_
    refine lv_iload_n hx hb dX6_change_39 rfl (lv_at hl 3 rfl) ?_
    refine lv_iload hx hb dX6_change_40 (lv_at hl 4 rfl) ?_
    refine wr_callM (va_runV (As := [.int a1, .int a2, .int a3, .int a4]) (rest := []) ⟨hx, hb, hml, hown, hB⟩ (m_M_changeRange l D h cI cZ S hI a1 a2 a3 a4 (by omega) (show ASM (S) from hAS)) (cwV 4 hB (gV k3_154 k3_156 ks_402 k1_7 k3_157) rfl rfl rfl (by decide +kernel) ⟨Nat.le_of_ble_eq_true rfl, Nat.le_of_ble_eq_true rfl⟩) ⟨wr_blindM, va_recv hK hP (ci := 6) (q0 := 0) rfl rfl, wr_preM hP hK hN hD⟩ rfl rfl hl.1 rfl (lv_room (Nat.le_of_ble_eq_true rfl)) dX6_change_42 ⟨Nat.le_of_ble_eq_true rfl, Nat.le_of_ble_eq_true rfl⟩) hS (fun H locs hP hI_2 hS => ?_)
    have hD := wDM (S2 := (F_M_changeRange S a1 a2 a3 a4).2) hD
    exact W.iret (v := (F_M_changeRange S a1 a2 a3 a4).1) hx hb hr (fun t ht hW => ⟨⟨(F_M_changeRange S a1 a2 a3 a4).1, (F_M_changeRange S a1 a2 a3 a4).2, rfl, ⟨(by rw [F_M_change, if_pos c_1]), hI_2⟩, by show va_P D vwCl _ t.heap; rw [ht]; exact hP⟩, hS.F ht⟩) hS.2.2 dX6_change_45
  by_cases c_4 : a1 = 1
  · skip
    have z_1 : ((1) : Int32).toInt = (1) := by decide
    have t_4 := Int32.toInt_inj.symm.mp c_4
    refine lv_tableIn (tgt := 36) (off := 35) hx hb dX6_change_1 (by rw [c_4]; decide) (by rw [c_4]; decide) (by rw [c_4]; rfl) (by decide) ?_
    refine lv_aload_n hx hb dX6_change_36 rfl (lv_at hl 0 rfl) ?_
    refine lv_iload_n hx hb dX6_change_37 rfl (lv_at hl 1 rfl) ?_
    refine lv_iload_n hx hb dX6_change_38 rfl (lv_at hl 2 rfl) ?_
    refine lv_iload_n hx hb dX6_change_39 rfl (lv_at hl 3 rfl) ?_
    refine lv_iload hx hb dX6_change_40 (lv_at hl 4 rfl) ?_
    refine wr_callM (va_runV (As := [.int a1, .int a2, .int a3, .int a4]) (rest := []) ⟨hx, hb, hml, hown, hB⟩ (m_M_changeRange l D h cI cZ S hI a1 a2 a3 a4 (by omega) (show ASM (S) from hAS)) (cwV 4 hB (gV k3_154 k3_156 ks_402 k1_7 k3_157) rfl rfl rfl (by decide +kernel) ⟨Nat.le_of_ble_eq_true rfl, Nat.le_of_ble_eq_true rfl⟩) ⟨wr_blindM, va_recv hK hP (ci := 6) (q0 := 0) rfl rfl, wr_preM hP hK hN hD⟩ rfl rfl hl.1 rfl (lv_room (Nat.le_of_ble_eq_true rfl)) dX6_change_42 ⟨Nat.le_of_ble_eq_true rfl, Nat.le_of_ble_eq_true rfl⟩) hS (fun H locs hP hI_5 hS => ?_)
    have hD := wDM (S2 := (F_M_changeRange S a1 a2 a3 a4).2) hD
    exact W.iret (v := (F_M_changeRange S a1 a2 a3 a4).1) hx hb hr (fun t ht hW => ⟨⟨(F_M_changeRange S a1 a2 a3 a4).1, (F_M_changeRange S a1 a2 a3 a4).2, rfl, ⟨(by rw [F_M_change, if_neg c_1, if_pos c_4]), hI_5⟩, by show va_P D vwCl _ t.heap; rw [ht]; exact hP⟩, hS.F ht⟩) hS.2.2 dX6_change_45
  by_cases c_7 : a1 = 2
  · skip
    have z_2 : ((2) : Int32).toInt = (2) := by decide
    have t_7 := Int32.toInt_inj.symm.mp c_7
    refine lv_tableIn (tgt := 46) (off := 45) hx hb dX6_change_1 (by rw [c_7]; decide) (by rw [c_7]; decide) (by rw [c_7]; rfl) (by decide) ?_
    refine lv_aload_n hx hb dX6_change_46 rfl (lv_at hl 0 rfl) ?_
    refine lv_iload_n hx hb dX6_change_47 rfl (lv_at hl 2 rfl) ?_
    refine lv_iload_n hx hb dX6_change_48 rfl (lv_at hl 3 rfl) ?_
    refine lv_iload hx hb dX6_change_49 (lv_at hl 4 rfl) ?_
    refine wr_callM (va_runV (As := [.int a2, .int a3, .int a4]) (rest := []) ⟨hx, hb, hml, hown, hB⟩ (m_M_changeStreets l D h cI cZ S hI a2 a3 a4 (show ASM (S) from hAS) (show (S 24 0).toInt ≤ 4880 by omega)) (cwV 3 hB (gV k3_178 k3_180 ks_406 k1_7 k3_181) rfl rfl rfl (by decide +kernel) ⟨Nat.le_of_ble_eq_true rfl, Nat.le_of_ble_eq_true rfl⟩) ⟨wr_blindM, va_recv hK hP (ci := 6) (q0 := 0) rfl rfl, wr_preM hP hK hN hD⟩ rfl rfl hl.1 rfl (lv_room (Nat.le_of_ble_eq_true rfl)) dX6_change_51 ⟨Nat.le_of_ble_eq_true rfl, Nat.le_of_ble_eq_true rfl⟩) hS (fun H locs hP hI_8 hS => ?_)
    have hD := wDM (S2 := (F_M_changeStreets S a2 a3 a4).2) hD
    exact W.iret (v := (F_M_changeStreets S a2 a3 a4).1) hx hb hr (fun t ht hW => ⟨⟨(F_M_changeStreets S a2 a3 a4).1, (F_M_changeStreets S a2 a3 a4).2, rfl, ⟨(by rw [F_M_change, if_neg c_1, if_neg c_4, if_pos c_7]), hI_8⟩, by show va_P D vwCl _ t.heap; rw [ht]; exact hP⟩, hS.F ht⟩) hS.2.2 dX6_change_54
  by_cases c_10 : a1 = 3
  · skip
    have z_3 : ((3) : Int32).toInt = (3) := by decide
    have t_10 := Int32.toInt_inj.symm.mp c_10
    refine lv_tableIn (tgt := 55) (off := 54) hx hb dX6_change_1 (by rw [c_10]; decide) (by rw [c_10]; decide) (by rw [c_10]; rfl) (by decide) ?_
    refine lv_aload_n hx hb dX6_change_55 rfl (lv_at hl 0 rfl) ?_
    refine lv_iload_n hx hb dX6_change_56 rfl (lv_at hl 1 rfl) ?_
    refine lv_iload_n hx hb dX6_change_57 rfl (lv_at hl 2 rfl) ?_
    refine lv_iload_n hx hb dX6_change_58 rfl (lv_at hl 3 rfl) ?_
    refine lv_iload hx hb dX6_change_59 (lv_at hl 4 rfl) ?_
    refine wr_callM (va_runV (As := [.int a1, .int a2, .int a3, .int a4]) (rest := []) ⟨hx, hb, hml, hown, hB⟩ (m_M_changePoint l D h cI cZ S hI a1 a2 a3 a4 (show ASM (S) from hAS) (show (S 24 0).toInt ≤ 4999 by omega)) (cwV 4 hB (gV k3_190 k3_192 ks_410 k1_7 k3_193) rfl rfl rfl (by decide +kernel) ⟨Nat.le_of_ble_eq_true rfl, Nat.le_of_ble_eq_true rfl⟩) ⟨wr_blindM, va_recv hK hP (ci := 6) (q0 := 0) rfl rfl, wr_preM hP hK hN hD⟩ rfl rfl hl.1 rfl (lv_room (Nat.le_of_ble_eq_true rfl)) dX6_change_61 ⟨Nat.le_of_ble_eq_true rfl, Nat.le_of_ble_eq_true rfl⟩) hS (fun H locs hP hI_11 hS => ?_)
    have hD := wDM (S2 := (F_M_changePoint S a1 a2 a3 a4).2) hD
    exact W.iret (v := (F_M_changePoint S a1 a2 a3 a4).1) hx hb hr (fun t ht hW => ⟨⟨(F_M_changePoint S a1 a2 a3 a4).1, (F_M_changePoint S a1 a2 a3 a4).2, rfl, ⟨(by rw [F_M_change, if_neg c_1, if_neg c_4, if_neg c_7, if_pos c_10]), hI_11⟩, by show va_P D vwCl _ t.heap; rw [ht]; exact hP⟩, hS.F ht⟩) hS.2.2 dX6_change_64
  by_cases c_13 : a1 = 4
  · skip
    have z_4 : ((4) : Int32).toInt = (4) := by decide
    have t_13 := Int32.toInt_inj.symm.mp c_13
    refine lv_tableIn (tgt := 55) (off := 54) hx hb dX6_change_1 (by rw [c_13]; decide) (by rw [c_13]; decide) (by rw [c_13]; rfl) (by decide) ?_
    refine lv_aload_n hx hb dX6_change_55 rfl (lv_at hl 0 rfl) ?_
    refine lv_iload_n hx hb dX6_change_56 rfl (lv_at hl 1 rfl) ?_
    refine lv_iload_n hx hb dX6_change_57 rfl (lv_at hl 2 rfl) ?_
    refine lv_iload_n hx hb dX6_change_58 rfl (lv_at hl 3 rfl) ?_
    refine lv_iload hx hb dX6_change_59 (lv_at hl 4 rfl) ?_
    refine wr_callM (va_runV (As := [.int a1, .int a2, .int a3, .int a4]) (rest := []) ⟨hx, hb, hml, hown, hB⟩ (m_M_changePoint l D h cI cZ S hI a1 a2 a3 a4 (show ASM (S) from hAS) (show (S 24 0).toInt ≤ 4999 by omega)) (cwV 4 hB (gV k3_190 k3_192 ks_410 k1_7 k3_193) rfl rfl rfl (by decide +kernel) ⟨Nat.le_of_ble_eq_true rfl, Nat.le_of_ble_eq_true rfl⟩) ⟨wr_blindM, va_recv hK hP (ci := 6) (q0 := 0) rfl rfl, wr_preM hP hK hN hD⟩ rfl rfl hl.1 rfl (lv_room (Nat.le_of_ble_eq_true rfl)) dX6_change_61 ⟨Nat.le_of_ble_eq_true rfl, Nat.le_of_ble_eq_true rfl⟩) hS (fun H locs hP hI_14 hS => ?_)
    have hD := wDM (S2 := (F_M_changePoint S a1 a2 a3 a4).2) hD
    exact W.iret (v := (F_M_changePoint S a1 a2 a3 a4).1) hx hb hr (fun t ht hW => ⟨⟨(F_M_changePoint S a1 a2 a3 a4).1, (F_M_changePoint S a1 a2 a3 a4).2, rfl, ⟨(by rw [F_M_change, if_neg c_1, if_neg c_4, if_neg c_7, if_neg c_10, if_pos c_13]), hI_14⟩, by show va_P D vwCl _ t.heap; rw [ht]; exact hP⟩, hS.F ht⟩) hS.2.2 dX6_change_64
  refine lv_tableOut (tgt := 65) hx hb dX6_change_1 (by have n0 := lv_neT c_1 (show ((0) : Int32).toInt = 0 by decide); have n1 := lv_neT c_4 (show ((1) : Int32).toInt = 1 by decide); have n2 := lv_neT c_7 (show ((2) : Int32).toInt = 2 by decide); have n3 := lv_neT c_10 (show ((3) : Int32).toInt = 3 by decide); have n4 := lv_neT c_13 (show ((4) : Int32).toInt = 4 by decide); omega) (by decide) ?_
  refine lv_bipush (v := (-12)) hx hb dX6_change_65 (by decide) ?_
  exact W.iret (v := (-12)) hx hb hr (fun t ht hW => ⟨⟨(-12), S, rfl, ⟨(by rw [F_M_change, if_neg c_1, if_neg c_4, if_neg c_7, if_neg c_10, if_neg c_13]), hI⟩, by show va_P D vwCl _ t.heap; rw [ht]; exact hP⟩, hS.F ht⟩) hS.2.2 dX6_change_67
set_option maxHeartbeats 4000000 in
set_option maxRecDepth 100000 in
theorem m_M_alias (l : Launch) (D : va_G) (h : Nat → Nat) (cI cZ : ClassId) (S : BS) (hI : IVM S) (a1 a2 a3 : Int32) (hWF : WFM S) : WMM l yX6_alias wsX6_alias { frames := 2, cells := 0, slots := 0, locals := 43 } D cI cZ h S [.ref (h 0), .int a1, .int a2, .int a3] (F_M_alias S a1 a2 a3) := by
  refine Met.ofW (cc := cX6_alias) (maxL := 6) (ret := (some .int)) (by decide) rfl ?_
  intro p e s m args below meth c s₁ B hml hv
  obtain ⟨rfl, hP, hK, hN, hD0⟩ := hv
  have hx := B.exec
  have hb := B.bytes
  have hr := B.returns
  have hts := atoms_spec (ws := wsX6_alias) B.pre
  have hB : ∀ w ∈ BW, w.before _ s = true := fun w h => hts w (List.mem_cons_of_mem _ h)
  have hown : s.vm.findClass RX6 = some m.cls := findClass_of_methodNamed B.named
  have hlocks := B.notSynchronized
  have hD := bDM hD0
  have hS : va_S (bAM h) s.heap s.heap [] := va_S.rf
  have hl := lv_entry ([.ref (h 0), .int a1, .int a2, .int a3]) (n := 6) (Nat.le_of_ble_eq_true rfl)
  rw [lg_entry_eq]
  generalize (lg_sl ([.ref (h 0), .int a1, .int a2, .int a3]) ++ List.replicate (6 - (lg_sl ([.ref (h 0), .int a1, .int a2, .int a3])).length) Slot.unset).toArray = ls at hl ⊢
  have hl : lv_has ls 6 [(0, .ref (h 0)), (1, .int a1), (2, .int a2), (3, .int a3)] := hl
  refine lv_aload_n hx hb dX6_alias_0 rfl (lv_at hl 0 rfl) ?_
  refine lv_iload_n hx hb dX6_alias_1 rfl (lv_at hl 1 rfl) ?_
  refine pu_callM (va_runV (As := [.int a1]) (rest := []) ⟨hx, hb, hml, hown, hB⟩ (m_M_isStreet l D h cI cZ S hI a1 ) (cwV 1 hB (gV k3_101 k3_103 ks_322 k1_7 k3_104) rfl rfl rfl (by decide +kernel) ⟨Nat.le_of_ble_eq_true rfl, Nat.le_of_ble_eq_true rfl⟩) ⟨pu_blindM, va_recv hK hP (ci := 6) (q0 := 0) rfl rfl, pu_preM hP hK hN⟩ rfl rfl hl.1 rfl (lv_room (Nat.le_of_ble_eq_true rfl)) dX6_alias_2 ⟨Nat.le_of_ble_eq_true rfl, Nat.le_of_ble_eq_true rfl⟩) hP hS (fun H locs hP hS => ?_)
  refine lv_if_eq (tgt := 16) hx hb dX6_alias_5 (by decide) (fun c_2 => ?_) (fun c_2 => ?_)
  · skip
    refine lv_bipush (v := (-11)) hx hb dX6_alias_16 (by decide) ?_
    exact W.iret (v := (-11)) hx hb hr (fun t ht hW => ⟨⟨(-11), S, rfl, ⟨(by rw [F_M_alias, if_pos c_2]), hI⟩, by show va_P D vwCl _ t.heap; rw [ht]; exact hP⟩, hS.F ht⟩) hS.2.2 dX6_alias_18
  · skip
    have t_2 := fb_M_isStreet hI c_2
    refine lv_aload_n hx hb dX6_alias_8 rfl (lv_at hl 0 rfl) ?_
    refine lv_iload_n hx hb dX6_alias_9 rfl (lv_at hl 2 rfl) ?_
    refine pu_callM (va_runV (As := [.int a2]) (rest := []) ⟨hx, hb, hml, hown, hB⟩ (m_M_isStreet l D h cI cZ S hI a2 ) (cwV 1 hB (gV k3_101 k3_103 ks_322 k1_7 k3_104) rfl rfl rfl (by decide +kernel) ⟨Nat.le_of_ble_eq_true rfl, Nat.le_of_ble_eq_true rfl⟩) ⟨pu_blindM, va_recv hK hP (ci := 6) (q0 := 0) rfl rfl, pu_preM hP hK hN⟩ rfl rfl hl.1 rfl (lv_room (Nat.le_of_ble_eq_true rfl)) dX6_alias_10 ⟨Nat.le_of_ble_eq_true rfl, Nat.le_of_ble_eq_true rfl⟩) hP hS (fun H locs hP hS => ?_)
    refine lv_if_ne (tgt := 19) hx hb dX6_alias_13 (by decide) (fun c_4 => ?_) (fun c_4 => ?_)
    · skip
      have t_4 := fb_M_isStreet hI c_4
      refine lv_aload_n hx hb dX6_alias_19 rfl (lv_at hl 0 rfl) ?_
      refine lv_iload_n hx hb dX6_alias_20 rfl (lv_at hl 3 rfl) ?_
      refine pu_callM (va_runV (As := [.int a3]) (rest := []) ⟨hx, hb, hml, hown, hB⟩ (m_M_isDay l D h cI cZ S hI a3 ) (cwV 1 hB (gV k3_105 k3_107 ks_326 k1_7 k3_108) rfl rfl rfl (by decide +kernel) ⟨Nat.le_of_ble_eq_true rfl, Nat.le_of_ble_eq_true rfl⟩) ⟨pu_blindM, va_recv hK hP (ci := 6) (q0 := 0) rfl rfl, pu_preM hP hK hN⟩ rfl rfl hl.1 rfl (lv_room (Nat.le_of_ble_eq_true rfl)) dX6_alias_21 ⟨Nat.le_of_ble_eq_true rfl, Nat.le_of_ble_eq_true rfl⟩) hP hS (fun H locs hP hS => ?_)
      refine lv_if_ne (tgt := 30) hx hb dX6_alias_24 (by decide) (fun c_6 => ?_) (fun c_6 => ?_)
      · skip
        refine lv_aload_n hx hb dX6_alias_30 rfl (lv_at hl 0 rfl) ?_
        refine va_get (D := D) (ci := 6) (v := .ref (h 4)) (C := RX6) (T := TX6) (N := 25) hx hb hB inX6 hown hK hP 0 rfl rfl 6 (by decide) (hB _ k3_3) (fun _ h9 => h9) rfl dX6_alias_31 ?_
        refine lv_iload_n hx hb dX6_alias_34 rfl (lv_at hl 1 rfl) ?_
        refine va_iald (f := S 3) hx hb hK hP 4 0 rfl rfl (vp_in_iff.mpr (by omega)) dX6_alias_35 ?_
        have b_7 : (-1) ≤ (S 3 a1.toNatClampNeg).toInt ∧ (S 3 a1.toNatClampNeg).toInt ≤ 31 := ivM_3 (S := S) hI a1.toNatClampNeg
        refine lv_if_lt (tgt := 43) hx hb dX6_alias_36 (by decide) (fun c_8 => ?_) (fun c_8 => ?_)
        · skip
          have z_0 : ((0) : Int32).toInt = (0) := by decide
          have t_8 := Int32.lt_iff_toInt_lt.mp c_8
          refine lv_iconst (v := 0) hx hb dX6_alias_43 (by decide) ?_
          refine lv_istore (lv' := [(4, .int 0), (0, .ref (h 0)), (1, .int a1), (2, .int a2), (3, .int a3)]) hx hb dX6_alias_44 hl (by decide) rfl (fun ls hl => ?_)
          refine lv_iconst (v := 0) hx hb dX6_alias_46 (by decide) ?_
          refine lv_istore (lv' := [(5, .int 0), (4, .int 0), (0, .ref (h 0)), (1, .int a1), (2, .int a2), (3, .int a3)]) hx hb dX6_alias_47 hl (by decide) rfl (fun ls hl => ?_)
          have loop49 : ∀ (n49 : Nat) (x4 x5 : Int32) (H : Heap) (locs : List Loc) (ls : Array Slot), (0 ≤ x5.toInt ∧ x5.toInt ≤ 6000 ∧ 1 ≤ (n49 : Int) ∧ (S 22 0 : Int32).toInt - x5.toInt < (n49 : Int) ∧ (True)) → l_M_alias_49 S a1 a2 a3 n49 x4 x5 = F_M_alias S a1 a2 a3 → va_P D vwCl (wBM h cI cZ S) H → va_S (bAM h) s.heap H locs → lv_has ls 6 [(0, .ref (h 0)), (1, .int a1), (2, .int a2), (3, .int a3), (4, .int x4), (5, .int x5)] → W p l e (headSpec wsX6_alias { frames := 2, cells := 0, slots := 0, locals := 43 }).room s m ([.ref (h 0), .int a1, .int a2, .int a3]).toArray below meth c H locs 0 0 (MQ below (WQM D cI cZ h (F_M_alias S a1 a2 a3)) ([.ref (h 0), .int a1, .int a2, .int a3]).toArray s 0 0 (bAM h)) (F0 m 49 ls []) := by
            intro n49
            induction n49 with
            | zero =>
              intro x4 x5 H locs ls hinv he49 hP hS hl
              exact absurd hinv.2.2.1 (by omega)
            | succ n49 ih49 =>
              intro x4 x5 H locs ls hinv he49 hP hS hl
              obtain ⟨h0_49, hc_49, h1_49, hm_49, hex_49⟩ := hinv
              have hBd_49 := ivM_22 hI
              refine lv_iload hx hb dX6_alias_49 (lv_at hl 5 rfl) ?_
              refine lv_aload_n hx hb dX6_alias_51 rfl (lv_at hl 0 rfl) ?_
              refine va_get (D := D) (ci := 6) (v := .int (S 22 0)) (C := RX6) (T := TX6) (N := 25) hx hb hB inX6 hown hK hP 0 rfl rfl 8 (by decide) (hB _ k3_5) (fun _ h9 => h9) rfl dX6_alias_52 ?_
              have b_9 : (0) ≤ (S 22 0).toInt ∧ (S 22 0).toInt ≤ 80 := ivM_22 (S := S) hI
              refine lv_icmp_ge (tgt := 97) hx hb dX6_alias_55 (by decide) (fun c_10 => ?_) (fun c_10 => ?_)
              · skip
                have t_10 := Int32.le_iff_toInt_le.mp c_10
                refine lv_iload hx hb dX6_alias_97 (lv_at hl 4 rfl) ?_
                refine lv_if_eq (tgt := 105) hx hb dX6_alias_99 (by decide) (fun c_11 => ?_) (fun c_11 => ?_)
                · skip
                  have z_0 : ((0) : Int32).toInt = (0) := by decide
                  have t_11 := Int32.toInt_inj.symm.mp c_11
                  refine lv_aload_n hx hb dX6_alias_105 rfl (lv_at hl 0 rfl) ?_
                  refine lv_iload_n hx hb dX6_alias_106 rfl (lv_at hl 2 rfl) ?_
                  refine lv_iload_n hx hb dX6_alias_107 rfl (lv_at hl 3 rfl) ?_
                  refine pu_callM (va_runV (As := [.int a2, .int a3]) (rest := []) ⟨hx, hb, hml, hown, hB⟩ (m_M_meant l D h cI cZ S hI a2 a3 ⟨by omega, by omega⟩ hWF) (cwV 2 hB (gV k3_202 k3_204 ks_414 k1_7 k3_205) rfl rfl rfl (by decide +kernel) ⟨Nat.le_of_ble_eq_true rfl, Nat.le_of_ble_eq_true rfl⟩) ⟨pu_blindM, va_recv hK hP (ci := 6) (q0 := 0) rfl rfl, pu_preM hP hK hN⟩ rfl rfl hl.1 rfl (lv_room (Nat.le_of_ble_eq_true rfl)) dX6_alias_108 ⟨Nat.le_of_ble_eq_true rfl, Nat.le_of_ble_eq_true rfl⟩) hP hS (fun H locs hP hS => ?_)
                  refine lv_iload_n hx hb dX6_alias_111 rfl (lv_at hl 1 rfl) ?_
                  refine lv_icmp_ne (tgt := 117) hx hb dX6_alias_112 (by decide) (fun c_13 => ?_) (fun c_13 => ?_)
                  · skip
                    refine lv_aload_n hx hb dX6_alias_117 rfl (lv_at hl 0 rfl) ?_
                    refine va_get (D := D) (ci := 6) (v := .ref (h 4)) (C := RX6) (T := TX6) (N := 25) hx hb hB inX6 hown hK hP 0 rfl rfl 6 (by decide) (hB _ k3_3) (fun _ h9 => h9) rfl dX6_alias_118 ?_
                    refine lv_iload_n hx hb dX6_alias_121 rfl (lv_at hl 1 rfl) ?_
                    refine lv_iload_n hx hb dX6_alias_122 rfl (lv_at hl 2 rfl) ?_
                    refine wstM_3 (S := S) hx hb hK hP hD hS (vp_in_iff.mpr (by omega)) dX6_alias_123 (fun H locs hP hD hS => ?_)
                    have hI_14 : IVM (upS 3 a1.toNatClampNeg a2 S) := iv_upM (S := S) hI 3 a1.toNatClampNeg a2 (iv_oneM 3 (-1) 31 rfl (by omega))
                    refine lv_aload_n hx hb dX6_alias_124 rfl (lv_at hl 0 rfl) ?_
                    refine va_get (D := D) (ci := 6) (v := .ref (h 5)) (C := RX6) (T := TX6) (N := 25) hx hb hB inX6 hown hK hP 0 rfl rfl 7 (by decide) (hB _ k3_4) (fun _ h9 => h9) rfl dX6_alias_125 ?_
                    refine lv_iload_n hx hb dX6_alias_128 rfl (lv_at hl 1 rfl) ?_
                    refine lv_iload_n hx hb dX6_alias_129 rfl (lv_at hl 3 rfl) ?_
                    refine wstM_4 (S := upS 3 a1.toNatClampNeg a2 S) hx hb hK hP hD hS (vp_in_iff.mpr (by omega)) dX6_alias_130 (fun H locs hP hD hS => ?_)
                    have hI_15 : IVM (upS 4 a1.toNatClampNeg a3 (upS 3 a1.toNatClampNeg a2 S)) := iv_upM (S := upS 3 a1.toNatClampNeg a2 S) hI_14 4 a1.toNatClampNeg a3 (iv_noneM 4 rfl)
                    refine lv_aload_n hx hb dX6_alias_131 rfl (lv_at hl 0 rfl) ?_
                    refine lv_iload_n hx hb dX6_alias_132 rfl (lv_at hl 3 rfl) ?_
                    refine wpfM_19 (S := upS 4 a1.toNatClampNeg a3 (upS 3 a1.toNatClampNeg a2 S)) hx hb hB hown hK hP hD hS (hB _ k2_237) dX6_alias_133 (fun H locs hP hD hS => ?_)
                    have hI_16 : IVM (upS 19 0 a3 (upS 4 a1.toNatClampNeg a3 (upS 3 a1.toNatClampNeg a2 S))) := iv_upM (S := upS 4 a1.toNatClampNeg a3 (upS 3 a1.toNatClampNeg a2 S)) hI_15 19 0 a3 (iv_noneM 19 rfl)
                    refine lv_iconst (v := 1) hx hb dX6_alias_136 (by decide) ?_
                    exact W.iret (v := 1) hx hb hr (fun t ht hW => ⟨⟨1, upS 19 0 a3 (upS 4 a1.toNatClampNeg a3 (upS 3 a1.toNatClampNeg a2 S)), rfl, ⟨(by rw [← he49, l_M_alias_49, if_pos c_10, if_pos c_11, if_neg c_13]), hI_16⟩, by show va_P D vwCl _ t.heap; rw [ht]; exact hP⟩, hS.F ht⟩) hS.2.2 dX6_alias_137
                  · skip
                    refine lv_iconst (v := 0) hx hb dX6_alias_115 (by decide) ?_
                    exact W.iret (v := 0) hx hb hr (fun t ht hW => ⟨⟨0, S, rfl, ⟨(by rw [← he49, l_M_alias_49, if_pos c_10, if_pos c_11, if_pos c_13]), hI⟩, by show va_P D vwCl _ t.heap; rw [ht]; exact hP⟩, hS.F ht⟩) hS.2.2 dX6_alias_116
                · skip
                  have z_0 : ((0) : Int32).toInt = (0) := by decide
                  have t_11 := mt Int32.toInt_inj.mp c_11
                  refine lv_bipush (v := (-13)) hx hb dX6_alias_102 (by decide) ?_
                  exact W.iret (v := (-13)) hx hb hr (fun t ht hW => ⟨⟨(-13), S, rfl, ⟨(by rw [← he49, l_M_alias_49, if_pos c_10, if_neg c_11]), hI⟩, by show va_P D vwCl _ t.heap; rw [ht]; exact hP⟩, hS.F ht⟩) hS.2.2 dX6_alias_104
              · skip
                have t_10 := mt Int32.le_iff_toInt_le.mpr c_10
                refine lv_iload hx hb dX6_alias_58 (lv_at hl 4 rfl) ?_
                refine lv_if_ne (tgt := 84) hx hb dX6_alias_60 (by decide) (fun c_17 => ?_) (fun c_17 => ?_)
                · skip
                  have z_0 : ((0) : Int32).toInt = (0) := by decide
                  have t_17 := mt Int32.toInt_inj.mp c_17
                  refine lv_iconst (v := 1) hx hb dX6_alias_84 (by decide) ?_
                  refine lv_goto (tgt := 89) hx hb dX6_alias_85 (by decide) ?_
                  refine lv_istore (lv' := [(4, .int 1), (0, .ref (h 0)), (1, .int a1), (2, .int a2), (3, .int a3), (5, .int x5)]) hx hb dX6_alias_89 hl (by decide) rfl (fun ls hl => ?_)
                  refine lv_iinc (v := x5 + 1) (lv' := [(5, .int (x5 + 1)), (4, .int 1), (0, .ref (h 0)), (1, .int a1), (2, .int a2), (3, .int a3)]) hx hb dX6_alias_91 hl (k := 5) rfl rfl (by decide) rfl (fun ls hl => ?_)
                  refine lv_goto (tgt := 49) hx hb dX6_alias_94 (by decide) ?_
                  have hinc := i32_inc (x := x5) h0_49 (by omega)
                  exact ih49 1 (x5 + 1) _ _ _ ⟨by omega, by omega, by omega, by omega, trivial⟩ (by first | (rw [← he49, l_M_alias_49, if_neg c_10, if_neg c_17]; done) | (rw [← he49, l_M_alias_49]; simp only [if_neg c_10, if_neg c_17])) hP hS (lv_sub hl [2, 3, 4, 5, 1, 0] rfl)
                · skip
                  have z_0 : ((0) : Int32).toInt = (0) := by decide
                  have t_17 := Int32.toInt_inj.symm.mp c_17
                  refine lv_aload_n hx hb dX6_alias_63 rfl (lv_at hl 0 rfl) ?_
                  refine va_get (D := D) (ci := 6) (v := .ref (h 10)) (C := RX6) (T := TX6) (N := 25) hx hb hB inX6 hown hK hP 0 rfl rfl 13 (by decide) (hB _ k3_10) (fun _ h9 => h9) rfl dX6_alias_64 ?_
                  refine lv_iload hx hb dX6_alias_67 (lv_at hl 5 rfl) ?_
                  refine va_zald (f := S 9) hx hb hK hP 10 1 rfl rfl (vp_in_iff.mpr (by omega)) dX6_alias_69 ?_
                  have b_18 : (0) ≤ (S 9 x5.toNatClampNeg).toInt ∧ (S 9 x5.toNatClampNeg).toInt ≤ 1 := ivM_9 (S := S) hI x5.toNatClampNeg
                  refine lv_if_eq (tgt := 88) hx hb dX6_alias_70 (by decide) (fun c_19 => ?_) (fun c_19 => ?_)
                  · skip
                    have t_19 := Int32.toInt_inj.symm.mp c_19
                    refine lv_iconst (v := 0) hx hb dX6_alias_88 (by decide) ?_
                    refine lv_istore (lv' := [(4, .int 0), (0, .ref (h 0)), (1, .int a1), (2, .int a2), (3, .int a3), (5, .int x5)]) hx hb dX6_alias_89 hl (by decide) rfl (fun ls hl => ?_)
                    refine lv_iinc (v := x5 + 1) (lv' := [(5, .int (x5 + 1)), (4, .int 0), (0, .ref (h 0)), (1, .int a1), (2, .int a2), (3, .int a3)]) hx hb dX6_alias_91 hl (k := 5) rfl rfl (by decide) rfl (fun ls hl => ?_)
                    refine lv_goto (tgt := 49) hx hb dX6_alias_94 (by decide) ?_
                    have hinc := i32_inc (x := x5) h0_49 (by omega)
                    exact ih49 0 (x5 + 1) _ _ _ ⟨by omega, by omega, by omega, by omega, trivial⟩ (by first | (rw [← he49, l_M_alias_49, if_neg c_10, if_pos c_17, if_pos c_19]; done) | (rw [← he49, l_M_alias_49]; simp only [if_neg c_10, if_pos c_17, if_pos c_19])) hP hS (lv_sub hl [2, 3, 4, 5, 1, 0] rfl)
                  · skip
                    have t_19 := mt Int32.toInt_inj.mp c_19
                    refine lv_aload_n hx hb dX6_alias_73 rfl (lv_at hl 0 rfl) ?_
                    refine va_get (D := D) (ci := 6) (v := .ref (h 6)) (C := RX6) (T := TX6) (N := 25) hx hb hB inX6 hown hK hP 0 rfl rfl 9 (by decide) (hB _ k3_6) (fun _ h9 => h9) rfl dX6_alias_74 ?_
                    refine lv_iload hx hb dX6_alias_77 (lv_at hl 5 rfl) ?_
                    refine va_iald (f := S 5) hx hb hK hP 6 0 rfl rfl (vp_in_iff.mpr (by omega)) dX6_alias_79 ?_
                    have b_20 : (0) ≤ (S 5 x5.toNatClampNeg).toInt ∧ (S 5 x5.toNatClampNeg).toInt ≤ 31 := ivM_5 (S := S) hI x5.toNatClampNeg
                    refine lv_iload_n hx hb dX6_alias_80 rfl (lv_at hl 1 rfl) ?_
                    refine lv_icmp_ne (tgt := 88) hx hb dX6_alias_81 (by decide) (fun c_21 => ?_) (fun c_21 => ?_)
                    · skip
                      refine lv_iconst (v := 0) hx hb dX6_alias_88 (by decide) ?_
                      refine lv_istore (lv' := [(4, .int 0), (0, .ref (h 0)), (1, .int a1), (2, .int a2), (3, .int a3), (5, .int x5)]) hx hb dX6_alias_89 hl (by decide) rfl (fun ls hl => ?_)
                      refine lv_iinc (v := x5 + 1) (lv' := [(5, .int (x5 + 1)), (4, .int 0), (0, .ref (h 0)), (1, .int a1), (2, .int a2), (3, .int a3)]) hx hb dX6_alias_91 hl (k := 5) rfl rfl (by decide) rfl (fun ls hl => ?_)
                      refine lv_goto (tgt := 49) hx hb dX6_alias_94 (by decide) ?_
                      have hinc := i32_inc (x := x5) h0_49 (by omega)
                      exact ih49 0 (x5 + 1) _ _ _ ⟨by omega, by omega, by omega, by omega, trivial⟩ (by first | (rw [← he49, l_M_alias_49, if_neg c_10, if_pos c_17, if_neg c_19, if_neg c_21]; done) | (rw [← he49, l_M_alias_49]; simp only [if_neg c_10, if_pos c_17, if_neg c_19, if_neg c_21])) hP hS (lv_sub hl [2, 3, 4, 5, 1, 0] rfl)
                    · skip
                      refine lv_iconst (v := 1) hx hb dX6_alias_84 (by decide) ?_
                      refine lv_goto (tgt := 89) hx hb dX6_alias_85 (by decide) ?_
                      refine lv_istore (lv' := [(4, .int 1), (0, .ref (h 0)), (1, .int a1), (2, .int a2), (3, .int a3), (5, .int x5)]) hx hb dX6_alias_89 hl (by decide) rfl (fun ls hl => ?_)
                      refine lv_iinc (v := x5 + 1) (lv' := [(5, .int (x5 + 1)), (4, .int 1), (0, .ref (h 0)), (1, .int a1), (2, .int a2), (3, .int a3)]) hx hb dX6_alias_91 hl (k := 5) rfl rfl (by decide) rfl (fun ls hl => ?_)
                      refine lv_goto (tgt := 49) hx hb dX6_alias_94 (by decide) ?_
                      have hinc := i32_inc (x := x5) h0_49 (by omega)
                      exact ih49 1 (x5 + 1) _ _ _ ⟨by omega, by omega, by omega, by omega, trivial⟩ (by first | (rw [← he49, l_M_alias_49, if_neg c_10, if_pos c_17, if_neg c_19, if_pos c_21]; done) | (rw [← he49, l_M_alias_49]; simp only [if_neg c_10, if_pos c_17, if_neg c_19, if_pos c_21])) hP hS (lv_sub hl [2, 3, 4, 5, 1, 0] rfl)
          have hB9_49 := ivM_22 (S := S) hI
          exact loop49 600 0 0 _ _ _ ⟨by omega, by omega, by omega, by omega, trivial⟩ (by rw [F_M_alias, if_neg c_2, if_neg c_4, if_neg c_6, if_pos c_8]) hP hS (lv_sub hl [2, 3, 4, 5, 1, 0] rfl)
        · skip
          have z_0 : ((0) : Int32).toInt = (0) := by decide
          have t_8 := mt Int32.lt_iff_toInt_lt.mpr c_8
          refine lv_iconst (v := 1) hx hb dX6_alias_39 (by decide) ?_
          refine lv_goto (tgt := 44) hx hb dX6_alias_40 (by decide) ?_
          refine lv_istore (lv' := [(4, .int 1), (0, .ref (h 0)), (1, .int a1), (2, .int a2), (3, .int a3)]) hx hb dX6_alias_44 hl (by decide) rfl (fun ls hl => ?_)
          refine lv_iconst (v := 0) hx hb dX6_alias_46 (by decide) ?_
          refine lv_istore (lv' := [(5, .int 0), (4, .int 1), (0, .ref (h 0)), (1, .int a1), (2, .int a2), (3, .int a3)]) hx hb dX6_alias_47 hl (by decide) rfl (fun ls hl => ?_)
          have loop49 : ∀ (n49 : Nat) (x4 x5 : Int32) (H : Heap) (locs : List Loc) (ls : Array Slot), (0 ≤ x5.toInt ∧ x5.toInt ≤ 6000 ∧ 1 ≤ (n49 : Int) ∧ (S 22 0 : Int32).toInt - x5.toInt < (n49 : Int) ∧ (True)) → l_M_alias_49 S a1 a2 a3 n49 x4 x5 = F_M_alias S a1 a2 a3 → va_P D vwCl (wBM h cI cZ S) H → va_S (bAM h) s.heap H locs → lv_has ls 6 [(0, .ref (h 0)), (1, .int a1), (2, .int a2), (3, .int a3), (4, .int x4), (5, .int x5)] → W p l e (headSpec wsX6_alias { frames := 2, cells := 0, slots := 0, locals := 43 }).room s m ([.ref (h 0), .int a1, .int a2, .int a3]).toArray below meth c H locs 0 0 (MQ below (WQM D cI cZ h (F_M_alias S a1 a2 a3)) ([.ref (h 0), .int a1, .int a2, .int a3]).toArray s 0 0 (bAM h)) (F0 m 49 ls []) := by
            intro n49
            induction n49 with
            | zero =>
              intro x4 x5 H locs ls hinv he49 hP hS hl
              exact absurd hinv.2.2.1 (by omega)
            | succ n49 ih49 =>
              intro x4 x5 H locs ls hinv he49 hP hS hl
              obtain ⟨h0_49, hc_49, h1_49, hm_49, hex_49⟩ := hinv
              have hBd_49 := ivM_22 hI
              refine lv_iload hx hb dX6_alias_49 (lv_at hl 5 rfl) ?_
              refine lv_aload_n hx hb dX6_alias_51 rfl (lv_at hl 0 rfl) ?_
              refine va_get (D := D) (ci := 6) (v := .int (S 22 0)) (C := RX6) (T := TX6) (N := 25) hx hb hB inX6 hown hK hP 0 rfl rfl 8 (by decide) (hB _ k3_5) (fun _ h9 => h9) rfl dX6_alias_52 ?_
              have b_22 : (0) ≤ (S 22 0).toInt ∧ (S 22 0).toInt ≤ 80 := ivM_22 (S := S) hI
              refine lv_icmp_ge (tgt := 97) hx hb dX6_alias_55 (by decide) (fun c_23 => ?_) (fun c_23 => ?_)
              · skip
                have t_23 := Int32.le_iff_toInt_le.mp c_23
                refine lv_iload hx hb dX6_alias_97 (lv_at hl 4 rfl) ?_
                refine lv_if_eq (tgt := 105) hx hb dX6_alias_99 (by decide) (fun c_24 => ?_) (fun c_24 => ?_)
                · skip
                  have z_0 : ((0) : Int32).toInt = (0) := by decide
                  have t_24 := Int32.toInt_inj.symm.mp c_24
                  refine lv_aload_n hx hb dX6_alias_105 rfl (lv_at hl 0 rfl) ?_
                  refine lv_iload_n hx hb dX6_alias_106 rfl (lv_at hl 2 rfl) ?_
                  refine lv_iload_n hx hb dX6_alias_107 rfl (lv_at hl 3 rfl) ?_
                  refine pu_callM (va_runV (As := [.int a2, .int a3]) (rest := []) ⟨hx, hb, hml, hown, hB⟩ (m_M_meant l D h cI cZ S hI a2 a3 ⟨by omega, by omega⟩ hWF) (cwV 2 hB (gV k3_202 k3_204 ks_414 k1_7 k3_205) rfl rfl rfl (by decide +kernel) ⟨Nat.le_of_ble_eq_true rfl, Nat.le_of_ble_eq_true rfl⟩) ⟨pu_blindM, va_recv hK hP (ci := 6) (q0 := 0) rfl rfl, pu_preM hP hK hN⟩ rfl rfl hl.1 rfl (lv_room (Nat.le_of_ble_eq_true rfl)) dX6_alias_108 ⟨Nat.le_of_ble_eq_true rfl, Nat.le_of_ble_eq_true rfl⟩) hP hS (fun H locs hP hS => ?_)
                  refine lv_iload_n hx hb dX6_alias_111 rfl (lv_at hl 1 rfl) ?_
                  refine lv_icmp_ne (tgt := 117) hx hb dX6_alias_112 (by decide) (fun c_26 => ?_) (fun c_26 => ?_)
                  · skip
                    refine lv_aload_n hx hb dX6_alias_117 rfl (lv_at hl 0 rfl) ?_
                    refine va_get (D := D) (ci := 6) (v := .ref (h 4)) (C := RX6) (T := TX6) (N := 25) hx hb hB inX6 hown hK hP 0 rfl rfl 6 (by decide) (hB _ k3_3) (fun _ h9 => h9) rfl dX6_alias_118 ?_
                    refine lv_iload_n hx hb dX6_alias_121 rfl (lv_at hl 1 rfl) ?_
                    refine lv_iload_n hx hb dX6_alias_122 rfl (lv_at hl 2 rfl) ?_
                    refine wstM_3 (S := S) hx hb hK hP hD hS (vp_in_iff.mpr (by omega)) dX6_alias_123 (fun H locs hP hD hS => ?_)
                    have hI_27 : IVM (upS 3 a1.toNatClampNeg a2 S) := iv_upM (S := S) hI 3 a1.toNatClampNeg a2 (iv_oneM 3 (-1) 31 rfl (by omega))
                    refine lv_aload_n hx hb dX6_alias_124 rfl (lv_at hl 0 rfl) ?_
                    refine va_get (D := D) (ci := 6) (v := .ref (h 5)) (C := RX6) (T := TX6) (N := 25) hx hb hB inX6 hown hK hP 0 rfl rfl 7 (by decide) (hB _ k3_4) (fun _ h9 => h9) rfl dX6_alias_125 ?_
                    refine lv_iload_n hx hb dX6_alias_128 rfl (lv_at hl 1 rfl) ?_
                    refine lv_iload_n hx hb dX6_alias_129 rfl (lv_at hl 3 rfl) ?_
                    refine wstM_4 (S := upS 3 a1.toNatClampNeg a2 S) hx hb hK hP hD hS (vp_in_iff.mpr (by omega)) dX6_alias_130 (fun H locs hP hD hS => ?_)
                    have hI_28 : IVM (upS 4 a1.toNatClampNeg a3 (upS 3 a1.toNatClampNeg a2 S)) := iv_upM (S := upS 3 a1.toNatClampNeg a2 S) hI_27 4 a1.toNatClampNeg a3 (iv_noneM 4 rfl)
                    refine lv_aload_n hx hb dX6_alias_131 rfl (lv_at hl 0 rfl) ?_
                    refine lv_iload_n hx hb dX6_alias_132 rfl (lv_at hl 3 rfl) ?_
                    refine wpfM_19 (S := upS 4 a1.toNatClampNeg a3 (upS 3 a1.toNatClampNeg a2 S)) hx hb hB hown hK hP hD hS (hB _ k2_237) dX6_alias_133 (fun H locs hP hD hS => ?_)
                    have hI_29 : IVM (upS 19 0 a3 (upS 4 a1.toNatClampNeg a3 (upS 3 a1.toNatClampNeg a2 S))) := iv_upM (S := upS 4 a1.toNatClampNeg a3 (upS 3 a1.toNatClampNeg a2 S)) hI_28 19 0 a3 (iv_noneM 19 rfl)
                    refine lv_iconst (v := 1) hx hb dX6_alias_136 (by decide) ?_
                    exact W.iret (v := 1) hx hb hr (fun t ht hW => ⟨⟨1, upS 19 0 a3 (upS 4 a1.toNatClampNeg a3 (upS 3 a1.toNatClampNeg a2 S)), rfl, ⟨(by rw [← he49, l_M_alias_49, if_pos c_23, if_pos c_24, if_neg c_26]), hI_29⟩, by show va_P D vwCl _ t.heap; rw [ht]; exact hP⟩, hS.F ht⟩) hS.2.2 dX6_alias_137
                  · skip
                    refine lv_iconst (v := 0) hx hb dX6_alias_115 (by decide) ?_
                    exact W.iret (v := 0) hx hb hr (fun t ht hW => ⟨⟨0, S, rfl, ⟨(by rw [← he49, l_M_alias_49, if_pos c_23, if_pos c_24, if_pos c_26]), hI⟩, by show va_P D vwCl _ t.heap; rw [ht]; exact hP⟩, hS.F ht⟩) hS.2.2 dX6_alias_116
                · skip
                  have z_0 : ((0) : Int32).toInt = (0) := by decide
                  have t_24 := mt Int32.toInt_inj.mp c_24
                  refine lv_bipush (v := (-13)) hx hb dX6_alias_102 (by decide) ?_
                  exact W.iret (v := (-13)) hx hb hr (fun t ht hW => ⟨⟨(-13), S, rfl, ⟨(by rw [← he49, l_M_alias_49, if_pos c_23, if_neg c_24]), hI⟩, by show va_P D vwCl _ t.heap; rw [ht]; exact hP⟩, hS.F ht⟩) hS.2.2 dX6_alias_104
              · skip
                have t_23 := mt Int32.le_iff_toInt_le.mpr c_23
                refine lv_iload hx hb dX6_alias_58 (lv_at hl 4 rfl) ?_
                refine lv_if_ne (tgt := 84) hx hb dX6_alias_60 (by decide) (fun c_30 => ?_) (fun c_30 => ?_)
                · skip
                  have z_0 : ((0) : Int32).toInt = (0) := by decide
                  have t_30 := mt Int32.toInt_inj.mp c_30
                  refine lv_iconst (v := 1) hx hb dX6_alias_84 (by decide) ?_
                  refine lv_goto (tgt := 89) hx hb dX6_alias_85 (by decide) ?_
                  refine lv_istore (lv' := [(4, .int 1), (0, .ref (h 0)), (1, .int a1), (2, .int a2), (3, .int a3), (5, .int x5)]) hx hb dX6_alias_89 hl (by decide) rfl (fun ls hl => ?_)
                  refine lv_iinc (v := x5 + 1) (lv' := [(5, .int (x5 + 1)), (4, .int 1), (0, .ref (h 0)), (1, .int a1), (2, .int a2), (3, .int a3)]) hx hb dX6_alias_91 hl (k := 5) rfl rfl (by decide) rfl (fun ls hl => ?_)
                  refine lv_goto (tgt := 49) hx hb dX6_alias_94 (by decide) ?_
                  have hinc := i32_inc (x := x5) h0_49 (by omega)
                  exact ih49 1 (x5 + 1) _ _ _ ⟨by omega, by omega, by omega, by omega, trivial⟩ (by first | (rw [← he49, l_M_alias_49, if_neg c_23, if_neg c_30]; done) | (rw [← he49, l_M_alias_49]; simp only [if_neg c_23, if_neg c_30])) hP hS (lv_sub hl [2, 3, 4, 5, 1, 0] rfl)
                · skip
                  have z_0 : ((0) : Int32).toInt = (0) := by decide
                  have t_30 := Int32.toInt_inj.symm.mp c_30
                  refine lv_aload_n hx hb dX6_alias_63 rfl (lv_at hl 0 rfl) ?_
                  refine va_get (D := D) (ci := 6) (v := .ref (h 10)) (C := RX6) (T := TX6) (N := 25) hx hb hB inX6 hown hK hP 0 rfl rfl 13 (by decide) (hB _ k3_10) (fun _ h9 => h9) rfl dX6_alias_64 ?_
                  refine lv_iload hx hb dX6_alias_67 (lv_at hl 5 rfl) ?_
                  refine va_zald (f := S 9) hx hb hK hP 10 1 rfl rfl (vp_in_iff.mpr (by omega)) dX6_alias_69 ?_
                  have b_31 : (0) ≤ (S 9 x5.toNatClampNeg).toInt ∧ (S 9 x5.toNatClampNeg).toInt ≤ 1 := ivM_9 (S := S) hI x5.toNatClampNeg
                  refine lv_if_eq (tgt := 88) hx hb dX6_alias_70 (by decide) (fun c_32 => ?_) (fun c_32 => ?_)
                  · skip
                    have t_32 := Int32.toInt_inj.symm.mp c_32
                    refine lv_iconst (v := 0) hx hb dX6_alias_88 (by decide) ?_
                    refine lv_istore (lv' := [(4, .int 0), (0, .ref (h 0)), (1, .int a1), (2, .int a2), (3, .int a3), (5, .int x5)]) hx hb dX6_alias_89 hl (by decide) rfl (fun ls hl => ?_)
                    refine lv_iinc (v := x5 + 1) (lv' := [(5, .int (x5 + 1)), (4, .int 0), (0, .ref (h 0)), (1, .int a1), (2, .int a2), (3, .int a3)]) hx hb dX6_alias_91 hl (k := 5) rfl rfl (by decide) rfl (fun ls hl => ?_)
                    refine lv_goto (tgt := 49) hx hb dX6_alias_94 (by decide) ?_
                    have hinc := i32_inc (x := x5) h0_49 (by omega)
                    exact ih49 0 (x5 + 1) _ _ _ ⟨by omega, by omega, by omega, by omega, trivial⟩ (by first | (rw [← he49, l_M_alias_49, if_neg c_23, if_pos c_30, if_pos c_32]; done) | (rw [← he49, l_M_alias_49]; simp only [if_neg c_23, if_pos c_30, if_pos c_32])) hP hS (lv_sub hl [2, 3, 4, 5, 1, 0] rfl)
                  · skip
                    have t_32 := mt Int32.toInt_inj.mp c_32
                    refine lv_aload_n hx hb dX6_alias_73 rfl (lv_at hl 0 rfl) ?_
                    refine va_get (D := D) (ci := 6) (v := .ref (h 6)) (C := RX6) (T := TX6) (N := 25) hx hb hB inX6 hown hK hP 0 rfl rfl 9 (by decide) (hB _ k3_6) (fun _ h9 => h9) rfl dX6_alias_74 ?_
                    refine lv_iload hx hb dX6_alias_77 (lv_at hl 5 rfl) ?_
                    refine va_iald (f := S 5) hx hb hK hP 6 0 rfl rfl (vp_in_iff.mpr (by omega)) dX6_alias_79 ?_
                    have b_33 : (0) ≤ (S 5 x5.toNatClampNeg).toInt ∧ (S 5 x5.toNatClampNeg).toInt ≤ 31 := ivM_5 (S := S) hI x5.toNatClampNeg
                    refine lv_iload_n hx hb dX6_alias_80 rfl (lv_at hl 1 rfl) ?_
                    refine lv_icmp_ne (tgt := 88) hx hb dX6_alias_81 (by decide) (fun c_34 => ?_) (fun c_34 => ?_)
                    · skip
                      refine lv_iconst (v := 0) hx hb dX6_alias_88 (by decide) ?_
                      refine lv_istore (lv' := [(4, .int 0), (0, .ref (h 0)), (1, .int a1), (2, .int a2), (3, .int a3), (5, .int x5)]) hx hb dX6_alias_89 hl (by decide) rfl (fun ls hl => ?_)
                      refine lv_iinc (v := x5 + 1) (lv' := [(5, .int (x5 + 1)), (4, .int 0), (0, .ref (h 0)), (1, .int a1), (2, .int a2), (3, .int a3)]) hx hb dX6_alias_91 hl (k := 5) rfl rfl (by decide) rfl (fun ls hl => ?_)
                      refine lv_goto (tgt := 49) hx hb dX6_alias_94 (by decide) ?_
                      have hinc := i32_inc (x := x5) h0_49 (by omega)
                      exact ih49 0 (x5 + 1) _ _ _ ⟨by omega, by omega, by omega, by omega, trivial⟩ (by first | (rw [← he49, l_M_alias_49, if_neg c_23, if_pos c_30, if_neg c_32, if_neg c_34]; done) | (rw [← he49, l_M_alias_49]; simp only [if_neg c_23, if_pos c_30, if_neg c_32, if_neg c_34])) hP hS (lv_sub hl [2, 3, 4, 5, 1, 0] rfl)
                    · skip
                      refine lv_iconst (v := 1) hx hb dX6_alias_84 (by decide) ?_
                      refine lv_goto (tgt := 89) hx hb dX6_alias_85 (by decide) ?_
                      refine lv_istore (lv' := [(4, .int 1), (0, .ref (h 0)), (1, .int a1), (2, .int a2), (3, .int a3), (5, .int x5)]) hx hb dX6_alias_89 hl (by decide) rfl (fun ls hl => ?_)
                      refine lv_iinc (v := x5 + 1) (lv' := [(5, .int (x5 + 1)), (4, .int 1), (0, .ref (h 0)), (1, .int a1), (2, .int a2), (3, .int a3)]) hx hb dX6_alias_91 hl (k := 5) rfl rfl (by decide) rfl (fun ls hl => ?_)
                      refine lv_goto (tgt := 49) hx hb dX6_alias_94 (by decide) ?_
                      have hinc := i32_inc (x := x5) h0_49 (by omega)
                      exact ih49 1 (x5 + 1) _ _ _ ⟨by omega, by omega, by omega, by omega, trivial⟩ (by first | (rw [← he49, l_M_alias_49, if_neg c_23, if_pos c_30, if_neg c_32, if_pos c_34]; done) | (rw [← he49, l_M_alias_49]; simp only [if_neg c_23, if_pos c_30, if_neg c_32, if_pos c_34])) hP hS (lv_sub hl [2, 3, 4, 5, 1, 0] rfl)
          have z_1 : ((1) : Int32).toInt = (1) := by decide
          have hB9_49 := ivM_22 (S := S) hI
          exact loop49 600 1 0 _ _ _ ⟨by omega, by omega, by omega, by omega, trivial⟩ (by rw [F_M_alias, if_neg c_2, if_neg c_4, if_neg c_6, if_neg c_8]) hP hS (lv_sub hl [2, 3, 4, 5, 1, 0] rfl)
      · skip
        refine lv_bipush (v := (-12)) hx hb dX6_alias_27 (by decide) ?_
        exact W.iret (v := (-12)) hx hb hr (fun t ht hW => ⟨⟨(-12), S, rfl, ⟨(by rw [F_M_alias, if_neg c_2, if_neg c_4, if_pos c_6]), hI⟩, by show va_P D vwCl _ t.heap; rw [ht]; exact hP⟩, hS.F ht⟩) hS.2.2 dX6_alias_29
    · skip
      refine lv_bipush (v := (-11)) hx hb dX6_alias_16 (by decide) ?_
      exact W.iret (v := (-11)) hx hb hr (fun t ht hW => ⟨⟨(-11), S, rfl, ⟨(by rw [F_M_alias, if_neg c_2, if_pos c_4]), hI⟩, by show va_P D vwCl _ t.heap; rw [ht]; exact hP⟩, hS.F ht⟩) hS.2.2 dX6_alias_18
set_option maxHeartbeats 4000000 in
set_option maxRecDepth 100000 in
theorem m_M_at (l : Launch) (D : va_G) (h : Nat → Nat) (cI cZ : ClassId) (S : BS) (hI : IVM S) (a1 a2 a3 a4 : Int32) (hWF : WFM S) (hSS : SSM S) : PMM l yX6_at wsX6_at { frames := 2, cells := 0, slots := 0, locals := 43 } D cI cZ h S [.ref (h 0), .int a1, .int a2, .int a3, .int a4] (f_M_at S a1 a2 a3 a4) := by
  refine Met.ofW (cc := cX6_at) (maxL := 12) (ret := (some .int)) (by decide) rfl ?_
  intro p e s m args below meth c s₁ B hml hv
  obtain ⟨rfl, hP, hK, hN⟩ := hv
  have hx := B.exec
  have hb := B.bytes
  have hr := B.returns
  have hts := atoms_spec (ws := wsX6_at) B.pre
  have hB : ∀ w ∈ BW, w.before _ s = true := fun w h => hts w (List.mem_cons_of_mem _ h)
  have hown : s.vm.findClass RX6 = some m.cls := findClass_of_methodNamed B.named
  have hlocks := B.notSynchronized
  have hS : va_S (fun _ => False) s.heap s.heap [] := va_S.rf
  have hl := lv_entry ([.ref (h 0), .int a1, .int a2, .int a3, .int a4]) (n := 12) (Nat.le_of_ble_eq_true rfl)
  rw [lg_entry_eq]
  generalize (lg_sl ([.ref (h 0), .int a1, .int a2, .int a3, .int a4]) ++ List.replicate (12 - (lg_sl ([.ref (h 0), .int a1, .int a2, .int a3, .int a4])).length) Slot.unset).toArray = ls at hl ⊢
  have hl : lv_has ls 12 [(0, .ref (h 0)), (1, .int a1), (2, .int a2), (3, .int a3), (4, .int a4)] := hl
  refine lv_aload_n hx hb dX6_at_0 rfl (lv_at hl 0 rfl) ?_
  refine lv_iload_n hx hb dX6_at_1 rfl (lv_at hl 1 rfl) ?_
  refine pu_callM (va_runV (As := [.int a1]) (rest := []) ⟨hx, hb, hml, hown, hB⟩ (m_M_isStreet l D h cI cZ S hI a1 ) (cwV 1 hB (gV k3_101 k3_103 ks_322 k1_7 k3_104) rfl rfl rfl (by decide +kernel) ⟨Nat.le_of_ble_eq_true rfl, Nat.le_of_ble_eq_true rfl⟩) ⟨pu_blindM, va_recv hK hP (ci := 6) (q0 := 0) rfl rfl, pu_preM hP hK hN⟩ rfl rfl hl.1 rfl (lv_room (Nat.le_of_ble_eq_true rfl)) dX6_at_2 ⟨Nat.le_of_ble_eq_true rfl, Nat.le_of_ble_eq_true rfl⟩) hP hS (fun H locs hP hS => ?_)
  refine lv_if_ne (tgt := 11) hx hb dX6_at_5 (by decide) (fun c_2 => ?_) (fun c_2 => ?_)
  · skip
    have t_2 := fb_M_isStreet hI c_2
    refine lv_iload_n hx hb dX6_at_11 rfl (lv_at hl 2 rfl) ?_
    refine lv_iconst (v := 1) hx hb dX6_at_12 (by decide) ?_
    refine lv_sipush (v := 999) hx hb dX6_at_13 (by decide) ?_
    refine pu_callM (va_runS (As := [.int a2, .int 1, .int 999]) (rest := []) ⟨hx, hb, hml, hown, hB⟩ (m_M_in l D h cI cZ S hI a2 1 999 ) (cwS 3 hB (gS k3_78 k3_79 k1_7 k3_80) rfl rfl rfl (by decide +kernel) ⟨Nat.le_of_ble_eq_true rfl, Nat.le_of_ble_eq_true rfl⟩) ⟨pu_blindM, pu_preM hP hK hN⟩ rfl rfl hl.1 rfl (lv_room (Nat.le_of_ble_eq_true rfl)) dX6_at_16 ⟨Nat.le_of_ble_eq_true rfl, Nat.le_of_ble_eq_true rfl⟩) hP hS (fun H locs hP hS => ?_)
    refine lv_if_eq (tgt := 43) hx hb dX6_at_19 (by decide) (fun c_4 => ?_) (fun c_4 => ?_)
    · skip
      refine lv_bipush (v := (-12)) hx hb dX6_at_43 (by decide) ?_
      exact W.iret (v := (-12)) hx hb hr (fun t ht hW => ⟨⟨(-12), (), rfl, (by rw [f_M_at, if_neg c_2, if_pos c_4]), trivial⟩, hS.F ht⟩) hS.2.2 dX6_at_45
    · skip
      have z_1 : ((1) : Int32).toInt = (1) := by decide
      have z_999 : ((999) : Int32).toInt = (999) := by decide
      have t_4 := fb_M_in c_4
      refine lv_iload_n hx hb dX6_at_22 rfl (lv_at hl 3 rfl) ?_
      refine lv_iconst (v := 0) hx hb dX6_at_23 (by decide) ?_
      refine lv_bipush (v := 25) hx hb dX6_at_24 (by decide) ?_
      refine pu_callM (va_runS (As := [.int a3, .int 0, .int 25]) (rest := []) ⟨hx, hb, hml, hown, hB⟩ (m_M_in l D h cI cZ S hI a3 0 25 ) (cwS 3 hB (gS k3_78 k3_79 k1_7 k3_80) rfl rfl rfl (by decide +kernel) ⟨Nat.le_of_ble_eq_true rfl, Nat.le_of_ble_eq_true rfl⟩) ⟨pu_blindM, pu_preM hP hK hN⟩ rfl rfl hl.1 rfl (lv_room (Nat.le_of_ble_eq_true rfl)) dX6_at_26 ⟨Nat.le_of_ble_eq_true rfl, Nat.le_of_ble_eq_true rfl⟩) hP hS (fun H locs hP hS => ?_)
      refine lv_if_eq (tgt := 43) hx hb dX6_at_29 (by decide) (fun c_6 => ?_) (fun c_6 => ?_)
      · skip
        refine lv_bipush (v := (-12)) hx hb dX6_at_43 (by decide) ?_
        exact W.iret (v := (-12)) hx hb hr (fun t ht hW => ⟨⟨(-12), (), rfl, (by rw [f_M_at, if_neg c_2, if_neg c_4, if_pos c_6]), trivial⟩, hS.F ht⟩) hS.2.2 dX6_at_45
      · skip
        have z_0 : ((0) : Int32).toInt = (0) := by decide
        have z_25 : ((25) : Int32).toInt = (25) := by decide
        have t_6 := fb_M_in c_6
        refine lv_iload hx hb dX6_at_32 (lv_at hl 4 rfl) ?_
        refine lv_iconst (v := 0) hx hb dX6_at_34 (by decide) ?_
        refine lv_ldc (v := 1000000) hx hb hown (hB _ k3_109) dX6_at_35 ?_
        refine pu_callM (va_runS (As := [.int a4, .int 0, .int 1000000]) (rest := []) ⟨hx, hb, hml, hown, hB⟩ (m_M_in l D h cI cZ S hI a4 0 1000000 ) (cwS 3 hB (gS k3_78 k3_79 k1_7 k3_80) rfl rfl rfl (by decide +kernel) ⟨Nat.le_of_ble_eq_true rfl, Nat.le_of_ble_eq_true rfl⟩) ⟨pu_blindM, pu_preM hP hK hN⟩ rfl rfl hl.1 rfl (lv_room (Nat.le_of_ble_eq_true rfl)) dX6_at_37 ⟨Nat.le_of_ble_eq_true rfl, Nat.le_of_ble_eq_true rfl⟩) hP hS (fun H locs hP hS => ?_)
        refine lv_if_ne (tgt := 46) hx hb dX6_at_40 (by decide) (fun c_8 => ?_) (fun c_8 => ?_)
        · skip
          have z_1000000 : ((1000000) : Int32).toInt = (1000000) := by decide
          have t_8 := fb_M_in c_8
          refine lv_aload_n hx hb dX6_at_46 rfl (lv_at hl 0 rfl) ?_
          refine lv_iload_n hx hb dX6_at_47 rfl (lv_at hl 1 rfl) ?_
          refine lv_iload hx hb dX6_at_48 (lv_at hl 4 rfl) ?_
          refine pu_callM (va_runV (As := [.int a1, .int a4]) (rest := []) ⟨hx, hb, hml, hown, hB⟩ (m_M_meant l D h cI cZ S hI a1 a4 ⟨by omega, by omega⟩ hWF) (cwV 2 hB (gV k3_202 k3_204 ks_414 k1_7 k3_205) rfl rfl rfl (by decide +kernel) ⟨Nat.le_of_ble_eq_true rfl, Nat.le_of_ble_eq_true rfl⟩) ⟨pu_blindM, va_recv hK hP (ci := 6) (q0 := 0) rfl rfl, pu_preM hP hK hN⟩ rfl rfl hl.1 rfl (lv_room (Nat.le_of_ble_eq_true rfl)) dX6_at_50 ⟨Nat.le_of_ble_eq_true rfl, Nat.le_of_ble_eq_true rfl⟩) hP hS (fun H locs hP hS => ?_)
          refine lv_istore (lv' := [(5, .int (f_M_meant S a1 a4)), (0, .ref (h 0)), (1, .int a1), (2, .int a2), (3, .int a3), (4, .int a4)]) hx hb dX6_at_53 hl (by decide) rfl (fun ls hl => ?_)
          refine lv_iconst (v := (-1)) hx hb dX6_at_55 (by decide) ?_
          refine lv_istore (lv' := [(6, .int (-1)), (5, .int (f_M_meant S a1 a4)), (0, .ref (h 0)), (1, .int a1), (2, .int a2), (3, .int a3), (4, .int a4)]) hx hb dX6_at_56 hl (by decide) rfl (fun ls hl => ?_)
          refine lv_iconst (v := (-1)) hx hb dX6_at_58 (by decide) ?_
          refine lv_istore (lv' := [(7, .int (-1)), (6, .int (-1)), (5, .int (f_M_meant S a1 a4)), (0, .ref (h 0)), (1, .int a1), (2, .int a2), (3, .int a3), (4, .int a4)]) hx hb dX6_at_59 hl (by decide) rfl (fun ls hl => ?_)
          refine lv_iconst (v := 0) hx hb dX6_at_61 (by decide) ?_
          refine lv_istore (lv' := [(8, .int 0), (7, .int (-1)), (6, .int (-1)), (5, .int (f_M_meant S a1 a4)), (0, .ref (h 0)), (1, .int a1), (2, .int a2), (3, .int a3), (4, .int a4)]) hx hb dX6_at_62 hl (by decide) rfl (fun ls hl => ?_)
          have loop64 : ∀ (n64 : Nat) (x6 x7 x8 : Int32) (H : Heap) (locs : List Loc) (ls : Array Slot), (0 ≤ x8.toInt ∧ x8.toInt ≤ 6000 ∧ 1 ≤ (n64 : Int) ∧ (S 24 0 : Int32).toInt - x8.toInt < (n64 : Int) ∧ (True)) → l_M_at_64 S a1 a2 a3 a4 n64 x6 x7 x8 = f_M_at S a1 a2 a3 a4 → va_P D vwCl (wBM h cI cZ S) H → va_S (fun _ => False) s.heap H locs → lv_has ls 12 [(0, .ref (h 0)), (1, .int a1), (2, .int a2), (3, .int a3), (4, .int a4), (5, .int (f_M_meant S a1 a4)), (6, .int x6), (7, .int x7), (8, .int x8)] → W p l e (headSpec wsX6_at { frames := 2, cells := 0, slots := 0, locals := 43 }).room s m ([.ref (h 0), .int a1, .int a2, .int a3, .int a4]).toArray below meth c H locs 0 0 (MQ below (PQ (f_M_at S a1 a2 a3 a4)) ([.ref (h 0), .int a1, .int a2, .int a3, .int a4]).toArray s 0 0 (fun _ => False)) (F0 m 64 ls []) := by
            intro n64
            induction n64 with
            | zero =>
              intro x6 x7 x8 H locs ls hinv he64 hP hS hl
              exact absurd hinv.2.2.1 (by omega)
            | succ n64 ih64 =>
              intro x6 x7 x8 H locs ls hinv he64 hP hS hl
              obtain ⟨h0_64, hc_64, h1_64, hm_64, hex_64⟩ := hinv
              have hBd_64 := ivM_24 hI
              refine lv_iload hx hb dX6_at_64 (lv_at hl 8 rfl) ?_
              refine lv_aload_n hx hb dX6_at_66 rfl (lv_at hl 0 rfl) ?_
              refine va_get (D := D) (ci := 6) (v := .int (S 24 0)) (C := RX6) (T := TX6) (N := 25) hx hb hB inX6 hown hK hP 0 rfl rfl 18 (by decide) (hB _ k3_15) (fun _ h9 => h9) rfl dX6_at_67 ?_
              have b_10 : (0) ≤ (S 24 0).toInt ∧ (S 24 0).toInt ≤ 5000 := ivM_24 (S := S) hI
              refine lv_icmp_ge (tgt := 278) hx hb dX6_at_70 (by decide) (fun c_11 => ?_) (fun c_11 => ?_)
              · skip
                have t_11 := Int32.le_iff_toInt_le.mp c_11
                refine lv_iload hx hb dX6_at_278 (lv_at hl 6 rfl) ?_
                exact W.iret (v := x6) hx hb hr (fun t ht hW => ⟨⟨x6, (), rfl, (by rw [← he64, l_M_at_64, if_pos c_11]), trivial⟩, hS.F ht⟩) hS.2.2 dX6_at_280
              · skip
                have t_11 := mt Int32.le_iff_toInt_le.mpr c_11
                refine lv_aload_n hx hb dX6_at_73 rfl (lv_at hl 0 rfl) ?_
                refine va_get (D := D) (ci := 6) (v := .ref (h 14)) (C := RX6) (T := TX6) (N := 25) hx hb hB inX6 hown hK hP 0 rfl rfl 19 (by decide) (hB _ k3_16) (fun _ h9 => h9) rfl dX6_at_74 ?_
                refine lv_iload hx hb dX6_at_77 (lv_at hl 8 rfl) ?_
                refine va_iald (f := S 13) hx hb hK hP 14 0 rfl rfl (vp_in_iff.mpr (by omega)) dX6_at_79 ?_
                have b_12 : (0) ≤ (S 13 x8.toNatClampNeg).toInt ∧ (S 13 x8.toNatClampNeg).toInt ≤ 119 := ivM_13 (S := S) hI x8.toNatClampNeg
                refine lv_istore (lv' := [(9, .int (S 13 x8.toNatClampNeg)), (0, .ref (h 0)), (1, .int a1), (2, .int a2), (3, .int a3), (4, .int a4), (5, .int (f_M_meant S a1 a4)), (6, .int x6), (7, .int x7), (8, .int x8)]) hx hb dX6_at_80 hl (by decide) rfl (fun ls hl => ?_)
                refine lv_aload_n hx hb dX6_at_82 rfl (lv_at hl 1 rfl) ?_
                refine va_get (D := D) (ci := 6) (v := .ref (h 16)) (C := RX6) (T := TX6) (N := 25) hx hb hB inX6 hown hK hP 0 rfl rfl 21 (by decide) (hB _ k3_18) (fun _ h9 => h9) rfl dX6_at_83 ?_
                refine lv_iload hx hb dX6_at_86 (lv_at hl 9 rfl) ?_
                refine va_iald (f := S 15) hx hb hK hP 16 0 rfl rfl (vp_in_iff.mpr (by omega)) dX6_at_88 ?_
                have b_13 : (0) ≤ (S 15 x8.toNatClampNeg).toInt ∧ (S 15 x8.toNatClampNeg).toInt ≤ 999 := ivM_15 (S := S) hI x8.toNatClampNeg
                refine lv_iload_n hx hb dX6_at_89 rfl (lv_at hl 3 rfl) ?_
                refine lv_icmp_ne (tgt := 108) hx hb dX6_at_90 (by decide) (fun c_14 => ?_) (fun c_14 => ?_)
                · skip
                  refine lv_iconst (v := 0) hx hb dX6_at_108 (by decide) ?_
                  refine lv_istore (lv' := [(10, .int 0), (9, .int (S 13 x8.toNatClampNeg)), (0, .ref (h 0)), (1, .int a1), (2, .int a2), (3, .int a3), (4, .int a4), (5, .int (f_M_meant S a1 a4)), (6, .int x6), (7, .int x7), (8, .int x8)]) hx hb dX6_at_109 hl (by decide) rfl (fun ls hl => ?_)
                  refine lv_iload hx hb dX6_at_111 (lv_at hl 0 rfl) ?_
                  refine lv_if_eq (tgt := 155) hx hb dX6_at_113 (by decide) (fun c_15 => ?_) (fun c_15 => ?_)
                  rotate_left
                  · exact absurd c_15 (by decide)
                  refine lv_iload hx hb dX6_at_155 (lv_at hl 0 rfl) ?_
                  refine lv_if_eq (tgt := 220) hx hb dX6_at_157 (by decide) (fun c_16 => ?_) (fun c_16 => ?_)
                  rotate_left
                  · exact absurd c_16 (by decide)
                  refine lv_iconst (v := 0) hx hb dX6_at_220 (by decide) ?_
                  refine lv_istore (lv' := [(11, .int 0), (10, .int 0), (9, .int (S 13 x8.toNatClampNeg)), (0, .ref (h 0)), (1, .int a1), (2, .int a2), (3, .int a3), (4, .int a4), (5, .int (f_M_meant S a1 a4)), (6, .int x6), (7, .int x7), (8, .int x8)]) hx hb dX6_at_221 hl (by decide) rfl (fun ls hl => ?_)
                  refine lv_iload hx hb dX6_at_223 (lv_at hl 0 rfl) ?_
                  refine lv_if_eq (tgt := 272) hx hb dX6_at_225 (by decide) (fun c_17 => ?_) (fun c_17 => ?_)
                  rotate_left
                  · exact absurd c_17 (by decide)
                  refine lv_iinc (v := x8 + 1) (lv' := [(8, .int (x8 + 1)), (11, .int 0), (10, .int 0), (9, .int (S 13 x8.toNatClampNeg)), (0, .ref (h 0)), (1, .int a1), (2, .int a2), (3, .int a3), (4, .int a4), (5, .int (f_M_meant S a1 a4)), (6, .int x6), (7, .int x7)]) hx hb dX6_at_272 hl (k := 11) rfl rfl (by decide) rfl (fun ls hl => ?_)
                  refine lv_goto (tgt := 64) hx hb dX6_at_275 (by decide) ?_
                  have hinc := i32_inc (x := x8) h0_64 (by omega)
                  exact ih64 x6 x7 (x8 + 1) _ _ _ ⟨by omega, by omega, by omega, by omega, trivial⟩ (by first | (rw [← he64, l_M_at_64, if_neg c_11, if_neg c_14]; done) | (rw [← he64, l_M_at_64]; simp only [if_neg c_11, if_neg c_14])) hP hS (lv_sub hl [4, 5, 6, 7, 8, 9, 10, 11, 0] rfl)
                · skip
                  refine lv_aload_n hx hb dX6_at_93 rfl (lv_at hl 1 rfl) ?_
                  refine va_get (D := D) (ci := 6) (v := .ref (h 12)) (C := RX6) (T := TX6) (N := 25) hx hb hB inX6 hown hK hP 0 rfl rfl 16 (by decide) (hB _ k3_13) (fun _ h9 => h9) rfl dX6_at_94 ?_
                  refine lv_iload hx hb dX6_at_97 (lv_at hl 0 rfl) ?_
                  refine va_iald (f := S 11) hx hb hK hP 12 0 rfl rfl (vp_in_iff.mpr (by omega)) dX6_at_99 ?_
                  refine lv_iload_n hx hb dX6_at_100 rfl (lv_at hl 4 rfl) ?_
                  refine lv_icmp_ne (tgt := 108) hx hb dX6_at_101 (by decide) (fun c_18 => ?_) (fun c_18 => ?_)
                  · skip
                    refine lv_iconst (v := 0) hx hb dX6_at_108 (by decide) ?_
                    refine lv_istore (lv' := [(10, .int 0), (9, .int (S 13 x8.toNatClampNeg)), (0, .ref (h 0)), (1, .int a1), (2, .int a2), (3, .int a3), (4, .int a4), (5, .int (f_M_meant S a1 a4)), (6, .int x6), (7, .int x7), (8, .int x8)]) hx hb dX6_at_109 hl (by decide) rfl (fun ls hl => ?_)
                    refine lv_iload hx hb dX6_at_111 (lv_at hl 0 rfl) ?_
                    refine lv_if_eq (tgt := 155) hx hb dX6_at_113 (by decide) (fun c_19 => ?_) (fun c_19 => ?_)
                    rotate_left
                    · exact absurd c_19 (by decide)
                    refine lv_iload hx hb dX6_at_155 (lv_at hl 0 rfl) ?_
                    refine lv_if_eq (tgt := 220) hx hb dX6_at_157 (by decide) (fun c_20 => ?_) (fun c_20 => ?_)
                    rotate_left
                    · exact absurd c_20 (by decide)
                    refine lv_iconst (v := 0) hx hb dX6_at_220 (by decide) ?_
                    refine lv_istore (lv' := [(11, .int 0), (10, .int 0), (9, .int (S 13 x8.toNatClampNeg)), (0, .ref (h 0)), (1, .int a1), (2, .int a2), (3, .int a3), (4, .int a4), (5, .int (f_M_meant S a1 a4)), (6, .int x6), (7, .int x7), (8, .int x8)]) hx hb dX6_at_221 hl (by decide) rfl (fun ls hl => ?_)
                    refine lv_iload hx hb dX6_at_223 (lv_at hl 0 rfl) ?_
                    refine lv_if_eq (tgt := 272) hx hb dX6_at_225 (by decide) (fun c_21 => ?_) (fun c_21 => ?_)
                    rotate_left
                    · exact absurd c_21 (by decide)
                    refine lv_iinc (v := x8 + 1) (lv' := [(8, .int (x8 + 1)), (11, .int 0), (10, .int 0), (9, .int (S 13 x8.toNatClampNeg)), (0, .ref (h 0)), (1, .int a1), (2, .int a2), (3, .int a3), (4, .int a4), (5, .int (f_M_meant S a1 a4)), (6, .int x6), (7, .int x7)]) hx hb dX6_at_272 hl (k := 11) rfl rfl (by decide) rfl (fun ls hl => ?_)
                    refine lv_goto (tgt := 64) hx hb dX6_at_275 (by decide) ?_
                    have hinc := i32_inc (x := x8) h0_64 (by omega)
                    exact ih64 x6 x7 (x8 + 1) _ _ _ ⟨by omega, by omega, by omega, by omega, trivial⟩ (by first | (rw [← he64, l_M_at_64, if_neg c_11, if_pos c_14, if_neg c_18]; done) | (rw [← he64, l_M_at_64]; simp only [if_neg c_11, if_pos c_14, if_neg c_18])) hP hS (lv_sub hl [4, 5, 6, 7, 8, 9, 10, 11, 0] rfl)
                  · skip
                    refine lv_iconst (v := 1) hx hb dX6_at_104 (by decide) ?_
                    refine lv_goto (tgt := 109) hx hb dX6_at_105 (by decide) ?_
                    refine lv_istore (lv' := [(10, .int 1), (9, .int (S 13 x8.toNatClampNeg)), (0, .ref (h 0)), (1, .int a1), (2, .int a2), (3, .int a3), (4, .int a4), (5, .int (f_M_meant S a1 a4)), (6, .int x6), (7, .int x7), (8, .int x8)]) hx hb dX6_at_109 hl (by decide) rfl (fun ls hl => ?_)
                    refine lv_iload hx hb dX6_at_111 (lv_at hl 0 rfl) ?_
                    refine lv_if_eq (tgt := 155) hx hb dX6_at_113 (by decide) (fun c_22 => ?_) (fun c_22 => ?_)
                    · exact absurd c_22 (by decide)
                    refine lv_aload_n hx hb dX6_at_116 rfl (lv_at hl 2 rfl) ?_
                    refine va_get (D := D) (ci := 6) (v := .ref (h 15)) (C := RX6) (T := TX6) (N := 25) hx hb hB inX6 hown hK hP 0 rfl rfl 20 (by decide) (hB _ k3_17) (fun _ h9 => h9) rfl dX6_at_117 ?_
                    refine lv_iload hx hb dX6_at_120 (lv_at hl 10 rfl) ?_
                    refine va_iald (f := S 14) hx hb hK hP 15 0 rfl rfl (vp_in_iff.mpr (by omega)) dX6_at_122 ?_
                    have b_23 : (0) ≤ (S 14 x8.toNatClampNeg).toInt ∧ (S 14 x8.toNatClampNeg).toInt ≤ 31 := ivM_14 (S := S) hI x8.toNatClampNeg
                    refine lv_iload hx hb dX6_at_123 (lv_at hl 7 rfl) ?_
                    refine lv_icmp_ne (tgt := 155) hx hb dX6_at_125 (by decide) (fun c_24 => ?_) (fun c_24 => ?_)
                    · skip
                      refine lv_iload hx hb dX6_at_155 (lv_at hl 0 rfl) ?_
                      refine lv_if_eq (tgt := 220) hx hb dX6_at_157 (by decide) (fun c_25 => ?_) (fun c_25 => ?_)
                      · exact absurd c_25 (by decide)
                      refine lv_aload_n hx hb dX6_at_160 rfl (lv_at hl 2 rfl) ?_
                      refine va_get (D := D) (ci := 6) (v := .ref (h 19)) (C := RX6) (T := TX6) (N := 25) hx hb hB inX6 hown hK hP 0 rfl rfl 24 (by decide) (hB _ k3_21) (fun _ h9 => h9) rfl dX6_at_161 ?_
                      refine lv_iload hx hb dX6_at_164 (lv_at hl 10 rfl) ?_
                      refine va_zald (f := S 18) hx hb hK hP 19 1 rfl rfl (vp_in_iff.mpr (by omega)) dX6_at_166 ?_
                      have b_26 : (0) ≤ (S 18 x8.toNatClampNeg).toInt ∧ (S 18 x8.toNatClampNeg).toInt ≤ 1 := ivM_18 (S := S) hI x8.toNatClampNeg
                      refine lv_if_eq (tgt := 220) hx hb dX6_at_167 (by decide) (fun c_27 => ?_) (fun c_27 => ?_)
                      · skip
                        have z_0 : ((0) : Int32).toInt = (0) := by decide
                        have t_27 := Int32.toInt_inj.symm.mp c_27
                        refine lv_iconst (v := 0) hx hb dX6_at_220 (by decide) ?_
                        refine lv_istore (lv' := [(11, .int 0), (10, .int 1), (9, .int (S 13 x8.toNatClampNeg)), (0, .ref (h 0)), (1, .int a1), (2, .int a2), (3, .int a3), (4, .int a4), (5, .int (f_M_meant S a1 a4)), (6, .int x6), (7, .int x7), (8, .int x8)]) hx hb dX6_at_221 hl (by decide) rfl (fun ls hl => ?_)
                        refine lv_iload hx hb dX6_at_223 (lv_at hl 0 rfl) ?_
                        refine lv_if_eq (tgt := 272) hx hb dX6_at_225 (by decide) (fun c_28 => ?_) (fun c_28 => ?_)
                        rotate_left
                        · exact absurd c_28 (by decide)
                        refine lv_iinc (v := x8 + 1) (lv' := [(8, .int (x8 + 1)), (11, .int 0), (10, .int 1), (9, .int (S 13 x8.toNatClampNeg)), (0, .ref (h 0)), (1, .int a1), (2, .int a2), (3, .int a3), (4, .int a4), (5, .int (f_M_meant S a1 a4)), (6, .int x6), (7, .int x7)]) hx hb dX6_at_272 hl (k := 11) rfl rfl (by decide) rfl (fun ls hl => ?_)
                        refine lv_goto (tgt := 64) hx hb dX6_at_275 (by decide) ?_
                        have hinc := i32_inc (x := x8) h0_64 (by omega)
                        exact ih64 x6 x7 (x8 + 1) _ _ _ ⟨by omega, by omega, by omega, by omega, trivial⟩ (by first | (rw [← he64, l_M_at_64, if_neg c_11, if_pos c_14, if_pos c_18, if_neg c_24, if_pos c_27]; done) | (rw [← he64, l_M_at_64]; simp only [if_neg c_11, if_pos c_14, if_pos c_18, if_neg c_24, if_pos c_27])) hP hS (lv_sub hl [4, 5, 6, 7, 8, 9, 10, 11, 0] rfl)
                      · skip
                        have z_0 : ((0) : Int32).toInt = (0) := by decide
                        have t_27 := mt Int32.toInt_inj.mp c_27
                        refine lv_aload_n hx hb dX6_at_170 rfl (lv_at hl 2 rfl) ?_
                        refine lv_aload_n hx hb dX6_at_171 rfl (lv_at hl 2 rfl) ?_
                        refine va_get (D := D) (ci := 6) (v := .ref (h 15)) (C := RX6) (T := TX6) (N := 25) hx hb hB inX6 hown hK hP 0 rfl rfl 20 (by decide) (hB _ k3_17) (fun _ h9 => h9) rfl dX6_at_172 ?_
                        refine lv_iload hx hb dX6_at_175 (lv_at hl 10 rfl) ?_
                        refine va_iald (f := S 14) hx hb hK hP 15 0 rfl rfl (vp_in_iff.mpr (by omega)) dX6_at_177 ?_
                        have b_29 : (0) ≤ (S 14 x8.toNatClampNeg).toInt ∧ (S 14 x8.toNatClampNeg).toInt ≤ 31 := ivM_14 (S := S) hI x8.toNatClampNeg
                        refine lv_iload hx hb dX6_at_178 (lv_at hl 6 rfl) ?_
                        refine pu_callM (va_runV (As := [.int (S 14 x8.toNatClampNeg), .int a4]) (rest := []) ⟨hx, hb, hml, hown, hB⟩ (m_M_meant l D h cI cZ S hI (S 14 x8.toNatClampNeg) a4 ⟨by omega, hSS x8.toNatClampNeg (by have := cl_int h0_64; omega)⟩ hWF) (cwV 2 hB (gV k3_202 k3_204 ks_414 k1_7 k3_205) rfl rfl rfl (by decide +kernel) ⟨Nat.le_of_ble_eq_true rfl, Nat.le_of_ble_eq_true rfl⟩) ⟨pu_blindM, va_recv hK hP (ci := 6) (q0 := 0) rfl rfl, pu_preM hP hK hN⟩ rfl rfl hl.1 rfl (lv_room (Nat.le_of_ble_eq_true rfl)) dX6_at_180 ⟨Nat.le_of_ble_eq_true rfl, Nat.le_of_ble_eq_true rfl⟩) hP hS (fun H locs hP hS => ?_)
                        refine lv_iload hx hb dX6_at_183 (lv_at hl 7 rfl) ?_
                        refine lv_icmp_ne (tgt := 220) hx hb dX6_at_185 (by decide) (fun c_31 => ?_) (fun c_31 => ?_)
                        · skip
                          refine lv_iconst (v := 0) hx hb dX6_at_220 (by decide) ?_
                          refine lv_istore (lv' := [(11, .int 0), (10, .int 1), (9, .int (S 13 x8.toNatClampNeg)), (0, .ref (h 0)), (1, .int a1), (2, .int a2), (3, .int a3), (4, .int a4), (5, .int (f_M_meant S a1 a4)), (6, .int x6), (7, .int x7), (8, .int x8)]) hx hb dX6_at_221 hl (by decide) rfl (fun ls hl => ?_)
                          refine lv_iload hx hb dX6_at_223 (lv_at hl 0 rfl) ?_
                          refine lv_if_eq (tgt := 272) hx hb dX6_at_225 (by decide) (fun c_32 => ?_) (fun c_32 => ?_)
                          rotate_left
                          · exact absurd c_32 (by decide)
                          refine lv_iinc (v := x8 + 1) (lv' := [(8, .int (x8 + 1)), (11, .int 0), (10, .int 1), (9, .int (S 13 x8.toNatClampNeg)), (0, .ref (h 0)), (1, .int a1), (2, .int a2), (3, .int a3), (4, .int a4), (5, .int (f_M_meant S a1 a4)), (6, .int x6), (7, .int x7)]) hx hb dX6_at_272 hl (k := 11) rfl rfl (by decide) rfl (fun ls hl => ?_)
                          refine lv_goto (tgt := 64) hx hb dX6_at_275 (by decide) ?_
                          have hinc := i32_inc (x := x8) h0_64 (by omega)
                          exact ih64 x6 x7 (x8 + 1) _ _ _ ⟨by omega, by omega, by omega, by omega, trivial⟩ (by first | (rw [← he64, l_M_at_64, if_neg c_11, if_pos c_14, if_pos c_18, if_neg c_24, if_neg c_27, if_neg c_31]; done) | (rw [← he64, l_M_at_64]; simp only [if_neg c_11, if_pos c_14, if_pos c_18, if_neg c_24, if_neg c_27, if_neg c_31])) hP hS (lv_sub hl [4, 5, 6, 7, 8, 9, 10, 11, 0] rfl)
                        · skip
                          refine lv_aload_n hx hb dX6_at_188 rfl (lv_at hl 2 rfl) ?_
                          refine va_get (D := D) (ci := 6) (v := .ref (h 18)) (C := RX6) (T := TX6) (N := 25) hx hb hB inX6 hown hK hP 0 rfl rfl 23 (by decide) (hB _ k3_20) (fun _ h9 => h9) rfl dX6_at_189 ?_
                          refine lv_iload hx hb dX6_at_192 (lv_at hl 10 rfl) ?_
                          refine va_iald (f := S 17) hx hb hK hP 18 0 rfl rfl (vp_in_iff.mpr (by omega)) dX6_at_194 ?_
                          refine lv_iload hx hb dX6_at_195 (lv_at hl 6 rfl) ?_
                          refine lv_icmp_gt (tgt := 220) hx hb dX6_at_197 (by decide) (fun c_33 => ?_) (fun c_33 => ?_)
                          · skip
                            have t_33 := Int32.lt_iff_toInt_lt.mp c_33
                            refine lv_iconst (v := 0) hx hb dX6_at_220 (by decide) ?_
                            refine lv_istore (lv' := [(11, .int 0), (10, .int 1), (9, .int (S 13 x8.toNatClampNeg)), (0, .ref (h 0)), (1, .int a1), (2, .int a2), (3, .int a3), (4, .int a4), (5, .int (f_M_meant S a1 a4)), (6, .int x6), (7, .int x7), (8, .int x8)]) hx hb dX6_at_221 hl (by decide) rfl (fun ls hl => ?_)
                            refine lv_iload hx hb dX6_at_223 (lv_at hl 0 rfl) ?_
                            refine lv_if_eq (tgt := 272) hx hb dX6_at_225 (by decide) (fun c_34 => ?_) (fun c_34 => ?_)
                            rotate_left
                            · exact absurd c_34 (by decide)
                            refine lv_iinc (v := x8 + 1) (lv' := [(8, .int (x8 + 1)), (11, .int 0), (10, .int 1), (9, .int (S 13 x8.toNatClampNeg)), (0, .ref (h 0)), (1, .int a1), (2, .int a2), (3, .int a3), (4, .int a4), (5, .int (f_M_meant S a1 a4)), (6, .int x6), (7, .int x7)]) hx hb dX6_at_272 hl (k := 11) rfl rfl (by decide) rfl (fun ls hl => ?_)
                            refine lv_goto (tgt := 64) hx hb dX6_at_275 (by decide) ?_
                            have hinc := i32_inc (x := x8) h0_64 (by omega)
                            exact ih64 x6 x7 (x8 + 1) _ _ _ ⟨by omega, by omega, by omega, by omega, trivial⟩ (by first | (rw [← he64, l_M_at_64, if_neg c_11, if_pos c_14, if_pos c_18, if_neg c_24, if_neg c_27, if_pos c_31, if_pos c_33]; done) | (rw [← he64, l_M_at_64]; simp only [if_neg c_11, if_pos c_14, if_pos c_18, if_neg c_24, if_neg c_27, if_pos c_31, if_pos c_33])) hP hS (lv_sub hl [4, 5, 6, 7, 8, 9, 10, 11, 0] rfl)
                          · skip
                            have t_33 := mt Int32.lt_iff_toInt_lt.mpr c_33
                            refine lv_iload hx hb dX6_at_200 (lv_at hl 6 rfl) ?_
                            refine lv_aload_n hx hb dX6_at_202 rfl (lv_at hl 2 rfl) ?_
                            refine va_get (D := D) (ci := 6) (v := .ref (h 18)) (C := RX6) (T := TX6) (N := 25) hx hb hB inX6 hown hK hP 0 rfl rfl 23 (by decide) (hB _ k3_20) (fun _ h9 => h9) rfl dX6_at_203 ?_
                            refine lv_iload hx hb dX6_at_206 (lv_at hl 10 rfl) ?_
                            refine va_iald (f := S 17) hx hb hK hP 18 0 rfl rfl (vp_in_iff.mpr (by omega)) dX6_at_208 ?_
                            refine lv_isub hx hb dX6_at_209 ?_
                            refine lv_sipush (v := 180) hx hb dX6_at_210 (by decide) ?_
                            refine lv_icmp_ge (tgt := 220) hx hb dX6_at_213 (by decide) (fun c_35 => ?_) (fun c_35 => ?_)
                            · skip
                              have z_180 : ((180) : Int32).toInt = (180) := by decide
                              have t_35 := Int32.le_iff_toInt_le.mp c_35
                              refine lv_iconst (v := 0) hx hb dX6_at_220 (by decide) ?_
                              refine lv_istore (lv' := [(11, .int 0), (10, .int 1), (9, .int (S 13 x8.toNatClampNeg)), (0, .ref (h 0)), (1, .int a1), (2, .int a2), (3, .int a3), (4, .int a4), (5, .int (f_M_meant S a1 a4)), (6, .int x6), (7, .int x7), (8, .int x8)]) hx hb dX6_at_221 hl (by decide) rfl (fun ls hl => ?_)
                              refine lv_iload hx hb dX6_at_223 (lv_at hl 0 rfl) ?_
                              refine lv_if_eq (tgt := 272) hx hb dX6_at_225 (by decide) (fun c_36 => ?_) (fun c_36 => ?_)
                              rotate_left
                              · exact absurd c_36 (by decide)
                              refine lv_iinc (v := x8 + 1) (lv' := [(8, .int (x8 + 1)), (11, .int 0), (10, .int 1), (9, .int (S 13 x8.toNatClampNeg)), (0, .ref (h 0)), (1, .int a1), (2, .int a2), (3, .int a3), (4, .int a4), (5, .int (f_M_meant S a1 a4)), (6, .int x6), (7, .int x7)]) hx hb dX6_at_272 hl (k := 11) rfl rfl (by decide) rfl (fun ls hl => ?_)
                              refine lv_goto (tgt := 64) hx hb dX6_at_275 (by decide) ?_
                              have hinc := i32_inc (x := x8) h0_64 (by omega)
                              exact ih64 x6 x7 (x8 + 1) _ _ _ ⟨by omega, by omega, by omega, by omega, trivial⟩ (by first | (rw [← he64, l_M_at_64, if_neg c_11, if_pos c_14, if_pos c_18, if_neg c_24, if_neg c_27, if_pos c_31, if_neg c_33, if_pos c_35]; done) | (rw [← he64, l_M_at_64]; simp only [if_neg c_11, if_pos c_14, if_pos c_18, if_neg c_24, if_neg c_27, if_pos c_31, if_neg c_33, if_pos c_35])) hP hS (lv_sub hl [4, 5, 6, 7, 8, 9, 10, 11, 0] rfl)
                            · skip
                              have z_180 : ((180) : Int32).toInt = (180) := by decide
                              have t_35 := mt Int32.le_iff_toInt_le.mpr c_35
                              refine lv_iconst (v := 1) hx hb dX6_at_216 (by decide) ?_
                              refine lv_goto (tgt := 221) hx hb dX6_at_217 (by decide) ?_
                              refine lv_istore (lv' := [(11, .int 1), (10, .int 1), (9, .int (S 13 x8.toNatClampNeg)), (0, .ref (h 0)), (1, .int a1), (2, .int a2), (3, .int a3), (4, .int a4), (5, .int (f_M_meant S a1 a4)), (6, .int x6), (7, .int x7), (8, .int x8)]) hx hb dX6_at_221 hl (by decide) rfl (fun ls hl => ?_)
                              refine lv_iload hx hb dX6_at_223 (lv_at hl 0 rfl) ?_
                              refine lv_if_eq (tgt := 272) hx hb dX6_at_225 (by decide) (fun c_37 => ?_) (fun c_37 => ?_)
                              · exact absurd c_37 (by decide)
                              refine lv_aload_n hx hb dX6_at_228 rfl (lv_at hl 3 rfl) ?_
                              refine va_get (D := D) (ci := 6) (v := .ref (h 18)) (C := RX6) (T := TX6) (N := 25) hx hb hB inX6 hown hK hP 0 rfl rfl 23 (by decide) (hB _ k3_20) (fun _ h9 => h9) rfl dX6_at_229 ?_
                              refine lv_iload hx hb dX6_at_232 (lv_at hl 11 rfl) ?_
                              refine va_iald (f := S 17) hx hb hK hP 18 0 rfl rfl (vp_in_iff.mpr (by omega)) dX6_at_234 ?_
                              refine lv_iload hx hb dX6_at_235 (lv_at hl 10 rfl) ?_
                              refine lv_icmp_gt (tgt := 259) hx hb dX6_at_237 (by decide) (fun c_38 => ?_) (fun c_38 => ?_)
                              · skip
                                have t_38 := Int32.lt_iff_toInt_lt.mp c_38
                                refine lv_iload hx hb dX6_at_259 (lv_at hl 2 rfl) ?_
                                refine lv_istore (lv' := [(6, .int (S 13 x8.toNatClampNeg)), (11, .int 1), (10, .int 1), (9, .int (S 13 x8.toNatClampNeg)), (0, .ref (h 0)), (1, .int a1), (2, .int a2), (3, .int a3), (4, .int a4), (5, .int (f_M_meant S a1 a4)), (7, .int x7), (8, .int x8)]) hx hb dX6_at_261 hl (by decide) rfl (fun ls hl => ?_)
                                refine lv_aload_n hx hb dX6_at_263 rfl (lv_at hl 4 rfl) ?_
                                refine va_get (D := D) (ci := 6) (v := .ref (h 18)) (C := RX6) (T := TX6) (N := 25) hx hb hB inX6 hown hK hP 0 rfl rfl 23 (by decide) (hB _ k3_20) (fun _ h9 => h9) rfl dX6_at_264 ?_
                                refine lv_iload hx hb dX6_at_267 (lv_at hl 11 rfl) ?_
                                refine va_iald (f := S 17) hx hb hK hP 18 0 rfl rfl (vp_in_iff.mpr (by omega)) dX6_at_269 ?_
                                refine lv_istore (lv' := [(7, .int (S 17 x8.toNatClampNeg)), (6, .int (S 13 x8.toNatClampNeg)), (11, .int 1), (10, .int 1), (9, .int (S 13 x8.toNatClampNeg)), (0, .ref (h 0)), (1, .int a1), (2, .int a2), (3, .int a3), (4, .int a4), (5, .int (f_M_meant S a1 a4)), (8, .int x8)]) hx hb dX6_at_270 hl (by decide) rfl (fun ls hl => ?_)
                                refine lv_iinc (v := x8 + 1) (lv' := [(8, .int (x8 + 1)), (7, .int (S 17 x8.toNatClampNeg)), (6, .int (S 13 x8.toNatClampNeg)), (11, .int 1), (10, .int 1), (9, .int (S 13 x8.toNatClampNeg)), (0, .ref (h 0)), (1, .int a1), (2, .int a2), (3, .int a3), (4, .int a4), (5, .int (f_M_meant S a1 a4))]) hx hb dX6_at_272 hl (k := 11) rfl rfl (by decide) rfl (fun ls hl => ?_)
                                refine lv_goto (tgt := 64) hx hb dX6_at_275 (by decide) ?_
                                have hinc := i32_inc (x := x8) h0_64 (by omega)
                                exact ih64 (S 13 x8.toNatClampNeg) (S 17 x8.toNatClampNeg) (x8 + 1) _ _ _ ⟨by omega, by omega, by omega, by omega, trivial⟩ (by first | (rw [← he64, l_M_at_64, if_neg c_11, if_pos c_14, if_pos c_18, if_neg c_24, if_neg c_27, if_pos c_31, if_neg c_33, if_neg c_35, if_pos c_38]; done) | (rw [← he64, l_M_at_64]; simp only [if_neg c_11, if_pos c_14, if_pos c_18, if_neg c_24, if_neg c_27, if_pos c_31, if_neg c_33, if_neg c_35, if_pos c_38])) hP hS (lv_sub hl [6, 7, 8, 9, 10, 11, 2, 1, 0] rfl)
                              · skip
                                have t_38 := mt Int32.lt_iff_toInt_lt.mpr c_38
                                refine lv_aload_n hx hb dX6_at_240 rfl (lv_at hl 3 rfl) ?_
                                refine va_get (D := D) (ci := 6) (v := .ref (h 18)) (C := RX6) (T := TX6) (N := 25) hx hb hB inX6 hown hK hP 0 rfl rfl 23 (by decide) (hB _ k3_20) (fun _ h9 => h9) rfl dX6_at_241 ?_
                                refine lv_iload hx hb dX6_at_244 (lv_at hl 11 rfl) ?_
                                refine va_iald (f := S 17) hx hb hK hP 18 0 rfl rfl (vp_in_iff.mpr (by omega)) dX6_at_246 ?_
                                refine lv_iload hx hb dX6_at_247 (lv_at hl 10 rfl) ?_
                                refine lv_icmp_ne (tgt := 272) hx hb dX6_at_249 (by decide) (fun c_39 => ?_) (fun c_39 => ?_)
                                · skip
                                  refine lv_iinc (v := x8 + 1) (lv' := [(8, .int (x8 + 1)), (11, .int 1), (10, .int 1), (9, .int (S 13 x8.toNatClampNeg)), (0, .ref (h 0)), (1, .int a1), (2, .int a2), (3, .int a3), (4, .int a4), (5, .int (f_M_meant S a1 a4)), (6, .int x6), (7, .int x7)]) hx hb dX6_at_272 hl (k := 11) rfl rfl (by decide) rfl (fun ls hl => ?_)
                                  refine lv_goto (tgt := 64) hx hb dX6_at_275 (by decide) ?_
                                  have hinc := i32_inc (x := x8) h0_64 (by omega)
                                  exact ih64 x6 x7 (x8 + 1) _ _ _ ⟨by omega, by omega, by omega, by omega, trivial⟩ (by first | (rw [← he64, l_M_at_64, if_neg c_11, if_pos c_14, if_pos c_18, if_neg c_24, if_neg c_27, if_pos c_31, if_neg c_33, if_neg c_35, if_neg c_38, if_neg c_39]; done) | (rw [← he64, l_M_at_64]; simp only [if_neg c_11, if_pos c_14, if_pos c_18, if_neg c_24, if_neg c_27, if_pos c_31, if_neg c_33, if_neg c_35, if_neg c_38, if_neg c_39])) hP hS (lv_sub hl [4, 5, 6, 7, 8, 9, 10, 11, 0] rfl)
                                · skip
                                  refine lv_iload hx hb dX6_at_252 (lv_at hl 2 rfl) ?_
                                  refine lv_iload hx hb dX6_at_254 (lv_at hl 9 rfl) ?_
                                  refine lv_icmp_ge (tgt := 272) hx hb dX6_at_256 (by decide) (fun c_40 => ?_) (fun c_40 => ?_)
                                  · skip
                                    have t_40 := Int32.le_iff_toInt_le.mp c_40
                                    refine lv_iinc (v := x8 + 1) (lv' := [(8, .int (x8 + 1)), (11, .int 1), (10, .int 1), (9, .int (S 13 x8.toNatClampNeg)), (0, .ref (h 0)), (1, .int a1), (2, .int a2), (3, .int a3), (4, .int a4), (5, .int (f_M_meant S a1 a4)), (6, .int x6), (7, .int x7)]) hx hb dX6_at_272 hl (k := 11) rfl rfl (by decide) rfl (fun ls hl => ?_)
                                    refine lv_goto (tgt := 64) hx hb dX6_at_275 (by decide) ?_
                                    have hinc := i32_inc (x := x8) h0_64 (by omega)
                                    exact ih64 x6 x7 (x8 + 1) _ _ _ ⟨by omega, by omega, by omega, by omega, trivial⟩ (by first | (rw [← he64, l_M_at_64, if_neg c_11, if_pos c_14, if_pos c_18, if_neg c_24, if_neg c_27, if_pos c_31, if_neg c_33, if_neg c_35, if_neg c_38, if_pos c_39, if_pos c_40]; done) | (rw [← he64, l_M_at_64]; simp only [if_neg c_11, if_pos c_14, if_pos c_18, if_neg c_24, if_neg c_27, if_pos c_31, if_neg c_33, if_neg c_35, if_neg c_38, if_pos c_39, if_pos c_40])) hP hS (lv_sub hl [4, 5, 6, 7, 8, 9, 10, 11, 0] rfl)
                                  · skip
                                    have t_40 := mt Int32.le_iff_toInt_le.mpr c_40
                                    refine lv_iload hx hb dX6_at_259 (lv_at hl 2 rfl) ?_
                                    refine lv_istore (lv' := [(6, .int (S 13 x8.toNatClampNeg)), (11, .int 1), (10, .int 1), (9, .int (S 13 x8.toNatClampNeg)), (0, .ref (h 0)), (1, .int a1), (2, .int a2), (3, .int a3), (4, .int a4), (5, .int (f_M_meant S a1 a4)), (7, .int x7), (8, .int x8)]) hx hb dX6_at_261 hl (by decide) rfl (fun ls hl => ?_)
                                    refine lv_aload_n hx hb dX6_at_263 rfl (lv_at hl 4 rfl) ?_
                                    refine va_get (D := D) (ci := 6) (v := .ref (h 18)) (C := RX6) (T := TX6) (N := 25) hx hb hB inX6 hown hK hP 0 rfl rfl 23 (by decide) (hB _ k3_20) (fun _ h9 => h9) rfl dX6_at_264 ?_
                                    refine lv_iload hx hb dX6_at_267 (lv_at hl 11 rfl) ?_
                                    refine va_iald (f := S 17) hx hb hK hP 18 0 rfl rfl (vp_in_iff.mpr (by omega)) dX6_at_269 ?_
                                    refine lv_istore (lv' := [(7, .int (S 17 x8.toNatClampNeg)), (6, .int (S 13 x8.toNatClampNeg)), (11, .int 1), (10, .int 1), (9, .int (S 13 x8.toNatClampNeg)), (0, .ref (h 0)), (1, .int a1), (2, .int a2), (3, .int a3), (4, .int a4), (5, .int (f_M_meant S a1 a4)), (8, .int x8)]) hx hb dX6_at_270 hl (by decide) rfl (fun ls hl => ?_)
                                    refine lv_iinc (v := x8 + 1) (lv' := [(8, .int (x8 + 1)), (7, .int (S 17 x8.toNatClampNeg)), (6, .int (S 13 x8.toNatClampNeg)), (11, .int 1), (10, .int 1), (9, .int (S 13 x8.toNatClampNeg)), (0, .ref (h 0)), (1, .int a1), (2, .int a2), (3, .int a3), (4, .int a4), (5, .int (f_M_meant S a1 a4))]) hx hb dX6_at_272 hl (k := 11) rfl rfl (by decide) rfl (fun ls hl => ?_)
                                    refine lv_goto (tgt := 64) hx hb dX6_at_275 (by decide) ?_
                                    have hinc := i32_inc (x := x8) h0_64 (by omega)
                                    exact ih64 (S 13 x8.toNatClampNeg) (S 17 x8.toNatClampNeg) (x8 + 1) _ _ _ ⟨by omega, by omega, by omega, by omega, trivial⟩ (by first | (rw [← he64, l_M_at_64, if_neg c_11, if_pos c_14, if_pos c_18, if_neg c_24, if_neg c_27, if_pos c_31, if_neg c_33, if_neg c_35, if_neg c_38, if_pos c_39, if_neg c_40]; done) | (rw [← he64, l_M_at_64]; simp only [if_neg c_11, if_pos c_14, if_pos c_18, if_neg c_24, if_neg c_27, if_pos c_31, if_neg c_33, if_neg c_35, if_neg c_38, if_pos c_39, if_neg c_40])) hP hS (lv_sub hl [6, 7, 8, 9, 10, 11, 2, 1, 0] rfl)
                    · skip
                      refine lv_aload_n hx hb dX6_at_128 rfl (lv_at hl 2 rfl) ?_
                      refine va_get (D := D) (ci := 6) (v := .ref (h 17)) (C := RX6) (T := TX6) (N := 25) hx hb hB inX6 hown hK hP 0 rfl rfl 22 (by decide) (hB _ k3_19) (fun _ h9 => h9) rfl dX6_at_129 ?_
                      refine lv_iload hx hb dX6_at_132 (lv_at hl 10 rfl) ?_
                      refine va_iald (f := S 16) hx hb hK hP 17 0 rfl rfl (vp_in_iff.mpr (by omega)) dX6_at_134 ?_
                      refine lv_iload hx hb dX6_at_135 (lv_at hl 6 rfl) ?_
                      refine lv_icmp_gt (tgt := 155) hx hb dX6_at_137 (by decide) (fun c_41 => ?_) (fun c_41 => ?_)
                      · skip
                        have t_41 := Int32.lt_iff_toInt_lt.mp c_41
                        refine lv_iload hx hb dX6_at_155 (lv_at hl 0 rfl) ?_
                        refine lv_if_eq (tgt := 220) hx hb dX6_at_157 (by decide) (fun c_42 => ?_) (fun c_42 => ?_)
                        · exact absurd c_42 (by decide)
                        refine lv_aload_n hx hb dX6_at_160 rfl (lv_at hl 2 rfl) ?_
                        refine va_get (D := D) (ci := 6) (v := .ref (h 19)) (C := RX6) (T := TX6) (N := 25) hx hb hB inX6 hown hK hP 0 rfl rfl 24 (by decide) (hB _ k3_21) (fun _ h9 => h9) rfl dX6_at_161 ?_
                        refine lv_iload hx hb dX6_at_164 (lv_at hl 10 rfl) ?_
                        refine va_zald (f := S 18) hx hb hK hP 19 1 rfl rfl (vp_in_iff.mpr (by omega)) dX6_at_166 ?_
                        have b_43 : (0) ≤ (S 18 x8.toNatClampNeg).toInt ∧ (S 18 x8.toNatClampNeg).toInt ≤ 1 := ivM_18 (S := S) hI x8.toNatClampNeg
                        refine lv_if_eq (tgt := 220) hx hb dX6_at_167 (by decide) (fun c_44 => ?_) (fun c_44 => ?_)
                        · skip
                          have z_0 : ((0) : Int32).toInt = (0) := by decide
                          have t_44 := Int32.toInt_inj.symm.mp c_44
                          refine lv_iconst (v := 0) hx hb dX6_at_220 (by decide) ?_
                          refine lv_istore (lv' := [(11, .int 0), (10, .int 1), (9, .int (S 13 x8.toNatClampNeg)), (0, .ref (h 0)), (1, .int a1), (2, .int a2), (3, .int a3), (4, .int a4), (5, .int (f_M_meant S a1 a4)), (6, .int x6), (7, .int x7), (8, .int x8)]) hx hb dX6_at_221 hl (by decide) rfl (fun ls hl => ?_)
                          refine lv_iload hx hb dX6_at_223 (lv_at hl 0 rfl) ?_
                          refine lv_if_eq (tgt := 272) hx hb dX6_at_225 (by decide) (fun c_45 => ?_) (fun c_45 => ?_)
                          rotate_left
                          · exact absurd c_45 (by decide)
                          refine lv_iinc (v := x8 + 1) (lv' := [(8, .int (x8 + 1)), (11, .int 0), (10, .int 1), (9, .int (S 13 x8.toNatClampNeg)), (0, .ref (h 0)), (1, .int a1), (2, .int a2), (3, .int a3), (4, .int a4), (5, .int (f_M_meant S a1 a4)), (6, .int x6), (7, .int x7)]) hx hb dX6_at_272 hl (k := 11) rfl rfl (by decide) rfl (fun ls hl => ?_)
                          refine lv_goto (tgt := 64) hx hb dX6_at_275 (by decide) ?_
                          have hinc := i32_inc (x := x8) h0_64 (by omega)
                          exact ih64 x6 x7 (x8 + 1) _ _ _ ⟨by omega, by omega, by omega, by omega, trivial⟩ (by first | (rw [← he64, l_M_at_64, if_neg c_11, if_pos c_14, if_pos c_18, if_pos c_24, if_pos c_41, if_pos c_44]; done) | (rw [← he64, l_M_at_64]; simp only [if_neg c_11, if_pos c_14, if_pos c_18, if_pos c_24, if_pos c_41, if_pos c_44])) hP hS (lv_sub hl [4, 5, 6, 7, 8, 9, 10, 11, 0] rfl)
                        · skip
                          have z_0 : ((0) : Int32).toInt = (0) := by decide
                          have t_44 := mt Int32.toInt_inj.mp c_44
                          refine lv_aload_n hx hb dX6_at_170 rfl (lv_at hl 2 rfl) ?_
                          refine lv_aload_n hx hb dX6_at_171 rfl (lv_at hl 2 rfl) ?_
                          refine va_get (D := D) (ci := 6) (v := .ref (h 15)) (C := RX6) (T := TX6) (N := 25) hx hb hB inX6 hown hK hP 0 rfl rfl 20 (by decide) (hB _ k3_17) (fun _ h9 => h9) rfl dX6_at_172 ?_
                          refine lv_iload hx hb dX6_at_175 (lv_at hl 10 rfl) ?_
                          refine va_iald (f := S 14) hx hb hK hP 15 0 rfl rfl (vp_in_iff.mpr (by omega)) dX6_at_177 ?_
                          have b_46 : (0) ≤ (S 14 x8.toNatClampNeg).toInt ∧ (S 14 x8.toNatClampNeg).toInt ≤ 31 := ivM_14 (S := S) hI x8.toNatClampNeg
                          refine lv_iload hx hb dX6_at_178 (lv_at hl 6 rfl) ?_
                          refine pu_callM (va_runV (As := [.int (S 14 x8.toNatClampNeg), .int a4]) (rest := []) ⟨hx, hb, hml, hown, hB⟩ (m_M_meant l D h cI cZ S hI (S 14 x8.toNatClampNeg) a4 ⟨by omega, hSS x8.toNatClampNeg (by have := cl_int h0_64; omega)⟩ hWF) (cwV 2 hB (gV k3_202 k3_204 ks_414 k1_7 k3_205) rfl rfl rfl (by decide +kernel) ⟨Nat.le_of_ble_eq_true rfl, Nat.le_of_ble_eq_true rfl⟩) ⟨pu_blindM, va_recv hK hP (ci := 6) (q0 := 0) rfl rfl, pu_preM hP hK hN⟩ rfl rfl hl.1 rfl (lv_room (Nat.le_of_ble_eq_true rfl)) dX6_at_180 ⟨Nat.le_of_ble_eq_true rfl, Nat.le_of_ble_eq_true rfl⟩) hP hS (fun H locs hP hS => ?_)
                          refine lv_iload hx hb dX6_at_183 (lv_at hl 7 rfl) ?_
                          refine lv_icmp_ne (tgt := 220) hx hb dX6_at_185 (by decide) (fun c_48 => ?_) (fun c_48 => ?_)
                          · skip
                            refine lv_iconst (v := 0) hx hb dX6_at_220 (by decide) ?_
                            refine lv_istore (lv' := [(11, .int 0), (10, .int 1), (9, .int (S 13 x8.toNatClampNeg)), (0, .ref (h 0)), (1, .int a1), (2, .int a2), (3, .int a3), (4, .int a4), (5, .int (f_M_meant S a1 a4)), (6, .int x6), (7, .int x7), (8, .int x8)]) hx hb dX6_at_221 hl (by decide) rfl (fun ls hl => ?_)
                            refine lv_iload hx hb dX6_at_223 (lv_at hl 0 rfl) ?_
                            refine lv_if_eq (tgt := 272) hx hb dX6_at_225 (by decide) (fun c_49 => ?_) (fun c_49 => ?_)
                            rotate_left
                            · exact absurd c_49 (by decide)
                            refine lv_iinc (v := x8 + 1) (lv' := [(8, .int (x8 + 1)), (11, .int 0), (10, .int 1), (9, .int (S 13 x8.toNatClampNeg)), (0, .ref (h 0)), (1, .int a1), (2, .int a2), (3, .int a3), (4, .int a4), (5, .int (f_M_meant S a1 a4)), (6, .int x6), (7, .int x7)]) hx hb dX6_at_272 hl (k := 11) rfl rfl (by decide) rfl (fun ls hl => ?_)
                            refine lv_goto (tgt := 64) hx hb dX6_at_275 (by decide) ?_
                            have hinc := i32_inc (x := x8) h0_64 (by omega)
                            exact ih64 x6 x7 (x8 + 1) _ _ _ ⟨by omega, by omega, by omega, by omega, trivial⟩ (by first | (rw [← he64, l_M_at_64, if_neg c_11, if_pos c_14, if_pos c_18, if_pos c_24, if_pos c_41, if_neg c_44, if_neg c_48]; done) | (rw [← he64, l_M_at_64]; simp only [if_neg c_11, if_pos c_14, if_pos c_18, if_pos c_24, if_pos c_41, if_neg c_44, if_neg c_48])) hP hS (lv_sub hl [4, 5, 6, 7, 8, 9, 10, 11, 0] rfl)
                          · skip
                            refine lv_aload_n hx hb dX6_at_188 rfl (lv_at hl 2 rfl) ?_
                            refine va_get (D := D) (ci := 6) (v := .ref (h 18)) (C := RX6) (T := TX6) (N := 25) hx hb hB inX6 hown hK hP 0 rfl rfl 23 (by decide) (hB _ k3_20) (fun _ h9 => h9) rfl dX6_at_189 ?_
                            refine lv_iload hx hb dX6_at_192 (lv_at hl 10 rfl) ?_
                            refine va_iald (f := S 17) hx hb hK hP 18 0 rfl rfl (vp_in_iff.mpr (by omega)) dX6_at_194 ?_
                            refine lv_iload hx hb dX6_at_195 (lv_at hl 6 rfl) ?_
                            refine lv_icmp_gt (tgt := 220) hx hb dX6_at_197 (by decide) (fun c_50 => ?_) (fun c_50 => ?_)
                            · skip
                              have t_50 := Int32.lt_iff_toInt_lt.mp c_50
                              refine lv_iconst (v := 0) hx hb dX6_at_220 (by decide) ?_
                              refine lv_istore (lv' := [(11, .int 0), (10, .int 1), (9, .int (S 13 x8.toNatClampNeg)), (0, .ref (h 0)), (1, .int a1), (2, .int a2), (3, .int a3), (4, .int a4), (5, .int (f_M_meant S a1 a4)), (6, .int x6), (7, .int x7), (8, .int x8)]) hx hb dX6_at_221 hl (by decide) rfl (fun ls hl => ?_)
                              refine lv_iload hx hb dX6_at_223 (lv_at hl 0 rfl) ?_
                              refine lv_if_eq (tgt := 272) hx hb dX6_at_225 (by decide) (fun c_51 => ?_) (fun c_51 => ?_)
                              rotate_left
                              · exact absurd c_51 (by decide)
                              refine lv_iinc (v := x8 + 1) (lv' := [(8, .int (x8 + 1)), (11, .int 0), (10, .int 1), (9, .int (S 13 x8.toNatClampNeg)), (0, .ref (h 0)), (1, .int a1), (2, .int a2), (3, .int a3), (4, .int a4), (5, .int (f_M_meant S a1 a4)), (6, .int x6), (7, .int x7)]) hx hb dX6_at_272 hl (k := 11) rfl rfl (by decide) rfl (fun ls hl => ?_)
                              refine lv_goto (tgt := 64) hx hb dX6_at_275 (by decide) ?_
                              have hinc := i32_inc (x := x8) h0_64 (by omega)
                              exact ih64 x6 x7 (x8 + 1) _ _ _ ⟨by omega, by omega, by omega, by omega, trivial⟩ (by first | (rw [← he64, l_M_at_64, if_neg c_11, if_pos c_14, if_pos c_18, if_pos c_24, if_pos c_41, if_neg c_44, if_pos c_48, if_pos c_50]; done) | (rw [← he64, l_M_at_64]; simp only [if_neg c_11, if_pos c_14, if_pos c_18, if_pos c_24, if_pos c_41, if_neg c_44, if_pos c_48, if_pos c_50])) hP hS (lv_sub hl [4, 5, 6, 7, 8, 9, 10, 11, 0] rfl)
                            · skip
                              have t_50 := mt Int32.lt_iff_toInt_lt.mpr c_50
                              refine lv_iload hx hb dX6_at_200 (lv_at hl 6 rfl) ?_
                              refine lv_aload_n hx hb dX6_at_202 rfl (lv_at hl 2 rfl) ?_
                              refine va_get (D := D) (ci := 6) (v := .ref (h 18)) (C := RX6) (T := TX6) (N := 25) hx hb hB inX6 hown hK hP 0 rfl rfl 23 (by decide) (hB _ k3_20) (fun _ h9 => h9) rfl dX6_at_203 ?_
                              refine lv_iload hx hb dX6_at_206 (lv_at hl 10 rfl) ?_
                              refine va_iald (f := S 17) hx hb hK hP 18 0 rfl rfl (vp_in_iff.mpr (by omega)) dX6_at_208 ?_
                              refine lv_isub hx hb dX6_at_209 ?_
                              refine lv_sipush (v := 180) hx hb dX6_at_210 (by decide) ?_
                              refine lv_icmp_ge (tgt := 220) hx hb dX6_at_213 (by decide) (fun c_52 => ?_) (fun c_52 => ?_)
                              · skip
                                have z_180 : ((180) : Int32).toInt = (180) := by decide
                                have t_52 := Int32.le_iff_toInt_le.mp c_52
                                refine lv_iconst (v := 0) hx hb dX6_at_220 (by decide) ?_
                                refine lv_istore (lv' := [(11, .int 0), (10, .int 1), (9, .int (S 13 x8.toNatClampNeg)), (0, .ref (h 0)), (1, .int a1), (2, .int a2), (3, .int a3), (4, .int a4), (5, .int (f_M_meant S a1 a4)), (6, .int x6), (7, .int x7), (8, .int x8)]) hx hb dX6_at_221 hl (by decide) rfl (fun ls hl => ?_)
                                refine lv_iload hx hb dX6_at_223 (lv_at hl 0 rfl) ?_
                                refine lv_if_eq (tgt := 272) hx hb dX6_at_225 (by decide) (fun c_53 => ?_) (fun c_53 => ?_)
                                rotate_left
                                · exact absurd c_53 (by decide)
                                refine lv_iinc (v := x8 + 1) (lv' := [(8, .int (x8 + 1)), (11, .int 0), (10, .int 1), (9, .int (S 13 x8.toNatClampNeg)), (0, .ref (h 0)), (1, .int a1), (2, .int a2), (3, .int a3), (4, .int a4), (5, .int (f_M_meant S a1 a4)), (6, .int x6), (7, .int x7)]) hx hb dX6_at_272 hl (k := 11) rfl rfl (by decide) rfl (fun ls hl => ?_)
                                refine lv_goto (tgt := 64) hx hb dX6_at_275 (by decide) ?_
                                have hinc := i32_inc (x := x8) h0_64 (by omega)
                                exact ih64 x6 x7 (x8 + 1) _ _ _ ⟨by omega, by omega, by omega, by omega, trivial⟩ (by first | (rw [← he64, l_M_at_64, if_neg c_11, if_pos c_14, if_pos c_18, if_pos c_24, if_pos c_41, if_neg c_44, if_pos c_48, if_neg c_50, if_pos c_52]; done) | (rw [← he64, l_M_at_64]; simp only [if_neg c_11, if_pos c_14, if_pos c_18, if_pos c_24, if_pos c_41, if_neg c_44, if_pos c_48, if_neg c_50, if_pos c_52])) hP hS (lv_sub hl [4, 5, 6, 7, 8, 9, 10, 11, 0] rfl)
                              · skip
                                have z_180 : ((180) : Int32).toInt = (180) := by decide
                                have t_52 := mt Int32.le_iff_toInt_le.mpr c_52
                                refine lv_iconst (v := 1) hx hb dX6_at_216 (by decide) ?_
                                refine lv_goto (tgt := 221) hx hb dX6_at_217 (by decide) ?_
                                refine lv_istore (lv' := [(11, .int 1), (10, .int 1), (9, .int (S 13 x8.toNatClampNeg)), (0, .ref (h 0)), (1, .int a1), (2, .int a2), (3, .int a3), (4, .int a4), (5, .int (f_M_meant S a1 a4)), (6, .int x6), (7, .int x7), (8, .int x8)]) hx hb dX6_at_221 hl (by decide) rfl (fun ls hl => ?_)
                                refine lv_iload hx hb dX6_at_223 (lv_at hl 0 rfl) ?_
                                refine lv_if_eq (tgt := 272) hx hb dX6_at_225 (by decide) (fun c_54 => ?_) (fun c_54 => ?_)
                                · exact absurd c_54 (by decide)
                                refine lv_aload_n hx hb dX6_at_228 rfl (lv_at hl 3 rfl) ?_
                                refine va_get (D := D) (ci := 6) (v := .ref (h 18)) (C := RX6) (T := TX6) (N := 25) hx hb hB inX6 hown hK hP 0 rfl rfl 23 (by decide) (hB _ k3_20) (fun _ h9 => h9) rfl dX6_at_229 ?_
                                refine lv_iload hx hb dX6_at_232 (lv_at hl 11 rfl) ?_
                                refine va_iald (f := S 17) hx hb hK hP 18 0 rfl rfl (vp_in_iff.mpr (by omega)) dX6_at_234 ?_
                                refine lv_iload hx hb dX6_at_235 (lv_at hl 10 rfl) ?_
                                refine lv_icmp_gt (tgt := 259) hx hb dX6_at_237 (by decide) (fun c_55 => ?_) (fun c_55 => ?_)
                                · skip
                                  have t_55 := Int32.lt_iff_toInt_lt.mp c_55
                                  refine lv_iload hx hb dX6_at_259 (lv_at hl 2 rfl) ?_
                                  refine lv_istore (lv' := [(6, .int (S 13 x8.toNatClampNeg)), (11, .int 1), (10, .int 1), (9, .int (S 13 x8.toNatClampNeg)), (0, .ref (h 0)), (1, .int a1), (2, .int a2), (3, .int a3), (4, .int a4), (5, .int (f_M_meant S a1 a4)), (7, .int x7), (8, .int x8)]) hx hb dX6_at_261 hl (by decide) rfl (fun ls hl => ?_)
                                  refine lv_aload_n hx hb dX6_at_263 rfl (lv_at hl 4 rfl) ?_
                                  refine va_get (D := D) (ci := 6) (v := .ref (h 18)) (C := RX6) (T := TX6) (N := 25) hx hb hB inX6 hown hK hP 0 rfl rfl 23 (by decide) (hB _ k3_20) (fun _ h9 => h9) rfl dX6_at_264 ?_
                                  refine lv_iload hx hb dX6_at_267 (lv_at hl 11 rfl) ?_
                                  refine va_iald (f := S 17) hx hb hK hP 18 0 rfl rfl (vp_in_iff.mpr (by omega)) dX6_at_269 ?_
                                  refine lv_istore (lv' := [(7, .int (S 17 x8.toNatClampNeg)), (6, .int (S 13 x8.toNatClampNeg)), (11, .int 1), (10, .int 1), (9, .int (S 13 x8.toNatClampNeg)), (0, .ref (h 0)), (1, .int a1), (2, .int a2), (3, .int a3), (4, .int a4), (5, .int (f_M_meant S a1 a4)), (8, .int x8)]) hx hb dX6_at_270 hl (by decide) rfl (fun ls hl => ?_)
                                  refine lv_iinc (v := x8 + 1) (lv' := [(8, .int (x8 + 1)), (7, .int (S 17 x8.toNatClampNeg)), (6, .int (S 13 x8.toNatClampNeg)), (11, .int 1), (10, .int 1), (9, .int (S 13 x8.toNatClampNeg)), (0, .ref (h 0)), (1, .int a1), (2, .int a2), (3, .int a3), (4, .int a4), (5, .int (f_M_meant S a1 a4))]) hx hb dX6_at_272 hl (k := 11) rfl rfl (by decide) rfl (fun ls hl => ?_)
                                  refine lv_goto (tgt := 64) hx hb dX6_at_275 (by decide) ?_
                                  have hinc := i32_inc (x := x8) h0_64 (by omega)
                                  exact ih64 (S 13 x8.toNatClampNeg) (S 17 x8.toNatClampNeg) (x8 + 1) _ _ _ ⟨by omega, by omega, by omega, by omega, trivial⟩ (by first | (rw [← he64, l_M_at_64, if_neg c_11, if_pos c_14, if_pos c_18, if_pos c_24, if_pos c_41, if_neg c_44, if_pos c_48, if_neg c_50, if_neg c_52, if_pos c_55]; done) | (rw [← he64, l_M_at_64]; simp only [if_neg c_11, if_pos c_14, if_pos c_18, if_pos c_24, if_pos c_41, if_neg c_44, if_pos c_48, if_neg c_50, if_neg c_52, if_pos c_55])) hP hS (lv_sub hl [6, 7, 8, 9, 10, 11, 2, 1, 0] rfl)
                                · skip
                                  have t_55 := mt Int32.lt_iff_toInt_lt.mpr c_55
                                  refine lv_aload_n hx hb dX6_at_240 rfl (lv_at hl 3 rfl) ?_
                                  refine va_get (D := D) (ci := 6) (v := .ref (h 18)) (C := RX6) (T := TX6) (N := 25) hx hb hB inX6 hown hK hP 0 rfl rfl 23 (by decide) (hB _ k3_20) (fun _ h9 => h9) rfl dX6_at_241 ?_
                                  refine lv_iload hx hb dX6_at_244 (lv_at hl 11 rfl) ?_
                                  refine va_iald (f := S 17) hx hb hK hP 18 0 rfl rfl (vp_in_iff.mpr (by omega)) dX6_at_246 ?_
                                  refine lv_iload hx hb dX6_at_247 (lv_at hl 10 rfl) ?_
                                  refine lv_icmp_ne (tgt := 272) hx hb dX6_at_249 (by decide) (fun c_56 => ?_) (fun c_56 => ?_)
                                  · skip
                                    refine lv_iinc (v := x8 + 1) (lv' := [(8, .int (x8 + 1)), (11, .int 1), (10, .int 1), (9, .int (S 13 x8.toNatClampNeg)), (0, .ref (h 0)), (1, .int a1), (2, .int a2), (3, .int a3), (4, .int a4), (5, .int (f_M_meant S a1 a4)), (6, .int x6), (7, .int x7)]) hx hb dX6_at_272 hl (k := 11) rfl rfl (by decide) rfl (fun ls hl => ?_)
                                    refine lv_goto (tgt := 64) hx hb dX6_at_275 (by decide) ?_
                                    have hinc := i32_inc (x := x8) h0_64 (by omega)
                                    exact ih64 x6 x7 (x8 + 1) _ _ _ ⟨by omega, by omega, by omega, by omega, trivial⟩ (by first | (rw [← he64, l_M_at_64, if_neg c_11, if_pos c_14, if_pos c_18, if_pos c_24, if_pos c_41, if_neg c_44, if_pos c_48, if_neg c_50, if_neg c_52, if_neg c_55, if_neg c_56]; done) | (rw [← he64, l_M_at_64]; simp only [if_neg c_11, if_pos c_14, if_pos c_18, if_pos c_24, if_pos c_41, if_neg c_44, if_pos c_48, if_neg c_50, if_neg c_52, if_neg c_55, if_neg c_56])) hP hS (lv_sub hl [4, 5, 6, 7, 8, 9, 10, 11, 0] rfl)
                                  · skip
                                    refine lv_iload hx hb dX6_at_252 (lv_at hl 2 rfl) ?_
                                    refine lv_iload hx hb dX6_at_254 (lv_at hl 9 rfl) ?_
                                    refine lv_icmp_ge (tgt := 272) hx hb dX6_at_256 (by decide) (fun c_57 => ?_) (fun c_57 => ?_)
                                    · skip
                                      have t_57 := Int32.le_iff_toInt_le.mp c_57
                                      refine lv_iinc (v := x8 + 1) (lv' := [(8, .int (x8 + 1)), (11, .int 1), (10, .int 1), (9, .int (S 13 x8.toNatClampNeg)), (0, .ref (h 0)), (1, .int a1), (2, .int a2), (3, .int a3), (4, .int a4), (5, .int (f_M_meant S a1 a4)), (6, .int x6), (7, .int x7)]) hx hb dX6_at_272 hl (k := 11) rfl rfl (by decide) rfl (fun ls hl => ?_)
                                      refine lv_goto (tgt := 64) hx hb dX6_at_275 (by decide) ?_
                                      have hinc := i32_inc (x := x8) h0_64 (by omega)
                                      exact ih64 x6 x7 (x8 + 1) _ _ _ ⟨by omega, by omega, by omega, by omega, trivial⟩ (by first | (rw [← he64, l_M_at_64, if_neg c_11, if_pos c_14, if_pos c_18, if_pos c_24, if_pos c_41, if_neg c_44, if_pos c_48, if_neg c_50, if_neg c_52, if_neg c_55, if_pos c_56, if_pos c_57]; done) | (rw [← he64, l_M_at_64]; simp only [if_neg c_11, if_pos c_14, if_pos c_18, if_pos c_24, if_pos c_41, if_neg c_44, if_pos c_48, if_neg c_50, if_neg c_52, if_neg c_55, if_pos c_56, if_pos c_57])) hP hS (lv_sub hl [4, 5, 6, 7, 8, 9, 10, 11, 0] rfl)
                                    · skip
                                      have t_57 := mt Int32.le_iff_toInt_le.mpr c_57
                                      refine lv_iload hx hb dX6_at_259 (lv_at hl 2 rfl) ?_
                                      refine lv_istore (lv' := [(6, .int (S 13 x8.toNatClampNeg)), (11, .int 1), (10, .int 1), (9, .int (S 13 x8.toNatClampNeg)), (0, .ref (h 0)), (1, .int a1), (2, .int a2), (3, .int a3), (4, .int a4), (5, .int (f_M_meant S a1 a4)), (7, .int x7), (8, .int x8)]) hx hb dX6_at_261 hl (by decide) rfl (fun ls hl => ?_)
                                      refine lv_aload_n hx hb dX6_at_263 rfl (lv_at hl 4 rfl) ?_
                                      refine va_get (D := D) (ci := 6) (v := .ref (h 18)) (C := RX6) (T := TX6) (N := 25) hx hb hB inX6 hown hK hP 0 rfl rfl 23 (by decide) (hB _ k3_20) (fun _ h9 => h9) rfl dX6_at_264 ?_
                                      refine lv_iload hx hb dX6_at_267 (lv_at hl 11 rfl) ?_
                                      refine va_iald (f := S 17) hx hb hK hP 18 0 rfl rfl (vp_in_iff.mpr (by omega)) dX6_at_269 ?_
                                      refine lv_istore (lv' := [(7, .int (S 17 x8.toNatClampNeg)), (6, .int (S 13 x8.toNatClampNeg)), (11, .int 1), (10, .int 1), (9, .int (S 13 x8.toNatClampNeg)), (0, .ref (h 0)), (1, .int a1), (2, .int a2), (3, .int a3), (4, .int a4), (5, .int (f_M_meant S a1 a4)), (8, .int x8)]) hx hb dX6_at_270 hl (by decide) rfl (fun ls hl => ?_)
                                      refine lv_iinc (v := x8 + 1) (lv' := [(8, .int (x8 + 1)), (7, .int (S 17 x8.toNatClampNeg)), (6, .int (S 13 x8.toNatClampNeg)), (11, .int 1), (10, .int 1), (9, .int (S 13 x8.toNatClampNeg)), (0, .ref (h 0)), (1, .int a1), (2, .int a2), (3, .int a3), (4, .int a4), (5, .int (f_M_meant S a1 a4))]) hx hb dX6_at_272 hl (k := 11) rfl rfl (by decide) rfl (fun ls hl => ?_)
                                      refine lv_goto (tgt := 64) hx hb dX6_at_275 (by decide) ?_
                                      have hinc := i32_inc (x := x8) h0_64 (by omega)
                                      exact ih64 (S 13 x8.toNatClampNeg) (S 17 x8.toNatClampNeg) (x8 + 1) _ _ _ ⟨by omega, by omega, by omega, by omega, trivial⟩ (by first | (rw [← he64, l_M_at_64, if_neg c_11, if_pos c_14, if_pos c_18, if_pos c_24, if_pos c_41, if_neg c_44, if_pos c_48, if_neg c_50, if_neg c_52, if_neg c_55, if_pos c_56, if_neg c_57]; done) | (rw [← he64, l_M_at_64]; simp only [if_neg c_11, if_pos c_14, if_pos c_18, if_pos c_24, if_pos c_41, if_neg c_44, if_pos c_48, if_neg c_50, if_neg c_52, if_neg c_55, if_pos c_56, if_neg c_57])) hP hS (lv_sub hl [6, 7, 8, 9, 10, 11, 2, 1, 0] rfl)
                      · skip
                        have t_41 := mt Int32.lt_iff_toInt_lt.mpr c_41
                        refine lv_iload hx hb dX6_at_140 (lv_at hl 6 rfl) ?_
                        refine lv_aload_n hx hb dX6_at_142 rfl (lv_at hl 2 rfl) ?_
                        refine va_get (D := D) (ci := 6) (v := .ref (h 18)) (C := RX6) (T := TX6) (N := 25) hx hb hB inX6 hown hK hP 0 rfl rfl 23 (by decide) (hB _ k3_20) (fun _ h9 => h9) rfl dX6_at_143 ?_
                        refine lv_iload hx hb dX6_at_146 (lv_at hl 10 rfl) ?_
                        refine va_iald (f := S 17) hx hb hK hP 18 0 rfl rfl (vp_in_iff.mpr (by omega)) dX6_at_148 ?_
                        refine lv_icmp_ge (tgt := 155) hx hb dX6_at_149 (by decide) (fun c_58 => ?_) (fun c_58 => ?_)
                        · skip
                          have t_58 := Int32.le_iff_toInt_le.mp c_58
                          refine lv_iload hx hb dX6_at_155 (lv_at hl 0 rfl) ?_
                          refine lv_if_eq (tgt := 220) hx hb dX6_at_157 (by decide) (fun c_59 => ?_) (fun c_59 => ?_)
                          · exact absurd c_59 (by decide)
                          refine lv_aload_n hx hb dX6_at_160 rfl (lv_at hl 2 rfl) ?_
                          refine va_get (D := D) (ci := 6) (v := .ref (h 19)) (C := RX6) (T := TX6) (N := 25) hx hb hB inX6 hown hK hP 0 rfl rfl 24 (by decide) (hB _ k3_21) (fun _ h9 => h9) rfl dX6_at_161 ?_
                          refine lv_iload hx hb dX6_at_164 (lv_at hl 10 rfl) ?_
                          refine va_zald (f := S 18) hx hb hK hP 19 1 rfl rfl (vp_in_iff.mpr (by omega)) dX6_at_166 ?_
                          have b_60 : (0) ≤ (S 18 x8.toNatClampNeg).toInt ∧ (S 18 x8.toNatClampNeg).toInt ≤ 1 := ivM_18 (S := S) hI x8.toNatClampNeg
                          refine lv_if_eq (tgt := 220) hx hb dX6_at_167 (by decide) (fun c_61 => ?_) (fun c_61 => ?_)
                          · skip
                            have z_0 : ((0) : Int32).toInt = (0) := by decide
                            have t_61 := Int32.toInt_inj.symm.mp c_61
                            refine lv_iconst (v := 0) hx hb dX6_at_220 (by decide) ?_
                            refine lv_istore (lv' := [(11, .int 0), (10, .int 1), (9, .int (S 13 x8.toNatClampNeg)), (0, .ref (h 0)), (1, .int a1), (2, .int a2), (3, .int a3), (4, .int a4), (5, .int (f_M_meant S a1 a4)), (6, .int x6), (7, .int x7), (8, .int x8)]) hx hb dX6_at_221 hl (by decide) rfl (fun ls hl => ?_)
                            refine lv_iload hx hb dX6_at_223 (lv_at hl 0 rfl) ?_
                            refine lv_if_eq (tgt := 272) hx hb dX6_at_225 (by decide) (fun c_62 => ?_) (fun c_62 => ?_)
                            rotate_left
                            · exact absurd c_62 (by decide)
                            refine lv_iinc (v := x8 + 1) (lv' := [(8, .int (x8 + 1)), (11, .int 0), (10, .int 1), (9, .int (S 13 x8.toNatClampNeg)), (0, .ref (h 0)), (1, .int a1), (2, .int a2), (3, .int a3), (4, .int a4), (5, .int (f_M_meant S a1 a4)), (6, .int x6), (7, .int x7)]) hx hb dX6_at_272 hl (k := 11) rfl rfl (by decide) rfl (fun ls hl => ?_)
                            refine lv_goto (tgt := 64) hx hb dX6_at_275 (by decide) ?_
                            have hinc := i32_inc (x := x8) h0_64 (by omega)
                            exact ih64 x6 x7 (x8 + 1) _ _ _ ⟨by omega, by omega, by omega, by omega, trivial⟩ (by first | (rw [← he64, l_M_at_64, if_neg c_11, if_pos c_14, if_pos c_18, if_pos c_24, if_neg c_41, if_pos c_58, if_pos c_61]; done) | (rw [← he64, l_M_at_64]; simp only [if_neg c_11, if_pos c_14, if_pos c_18, if_pos c_24, if_neg c_41, if_pos c_58, if_pos c_61])) hP hS (lv_sub hl [4, 5, 6, 7, 8, 9, 10, 11, 0] rfl)
                          · skip
                            have z_0 : ((0) : Int32).toInt = (0) := by decide
                            have t_61 := mt Int32.toInt_inj.mp c_61
                            refine lv_aload_n hx hb dX6_at_170 rfl (lv_at hl 2 rfl) ?_
                            refine lv_aload_n hx hb dX6_at_171 rfl (lv_at hl 2 rfl) ?_
                            refine va_get (D := D) (ci := 6) (v := .ref (h 15)) (C := RX6) (T := TX6) (N := 25) hx hb hB inX6 hown hK hP 0 rfl rfl 20 (by decide) (hB _ k3_17) (fun _ h9 => h9) rfl dX6_at_172 ?_
                            refine lv_iload hx hb dX6_at_175 (lv_at hl 10 rfl) ?_
                            refine va_iald (f := S 14) hx hb hK hP 15 0 rfl rfl (vp_in_iff.mpr (by omega)) dX6_at_177 ?_
                            have b_63 : (0) ≤ (S 14 x8.toNatClampNeg).toInt ∧ (S 14 x8.toNatClampNeg).toInt ≤ 31 := ivM_14 (S := S) hI x8.toNatClampNeg
                            refine lv_iload hx hb dX6_at_178 (lv_at hl 6 rfl) ?_
                            refine pu_callM (va_runV (As := [.int (S 14 x8.toNatClampNeg), .int a4]) (rest := []) ⟨hx, hb, hml, hown, hB⟩ (m_M_meant l D h cI cZ S hI (S 14 x8.toNatClampNeg) a4 ⟨by omega, hSS x8.toNatClampNeg (by have := cl_int h0_64; omega)⟩ hWF) (cwV 2 hB (gV k3_202 k3_204 ks_414 k1_7 k3_205) rfl rfl rfl (by decide +kernel) ⟨Nat.le_of_ble_eq_true rfl, Nat.le_of_ble_eq_true rfl⟩) ⟨pu_blindM, va_recv hK hP (ci := 6) (q0 := 0) rfl rfl, pu_preM hP hK hN⟩ rfl rfl hl.1 rfl (lv_room (Nat.le_of_ble_eq_true rfl)) dX6_at_180 ⟨Nat.le_of_ble_eq_true rfl, Nat.le_of_ble_eq_true rfl⟩) hP hS (fun H locs hP hS => ?_)
                            refine lv_iload hx hb dX6_at_183 (lv_at hl 7 rfl) ?_
                            refine lv_icmp_ne (tgt := 220) hx hb dX6_at_185 (by decide) (fun c_65 => ?_) (fun c_65 => ?_)
                            · skip
                              refine lv_iconst (v := 0) hx hb dX6_at_220 (by decide) ?_
                              refine lv_istore (lv' := [(11, .int 0), (10, .int 1), (9, .int (S 13 x8.toNatClampNeg)), (0, .ref (h 0)), (1, .int a1), (2, .int a2), (3, .int a3), (4, .int a4), (5, .int (f_M_meant S a1 a4)), (6, .int x6), (7, .int x7), (8, .int x8)]) hx hb dX6_at_221 hl (by decide) rfl (fun ls hl => ?_)
                              refine lv_iload hx hb dX6_at_223 (lv_at hl 0 rfl) ?_
                              refine lv_if_eq (tgt := 272) hx hb dX6_at_225 (by decide) (fun c_66 => ?_) (fun c_66 => ?_)
                              rotate_left
                              · exact absurd c_66 (by decide)
                              refine lv_iinc (v := x8 + 1) (lv' := [(8, .int (x8 + 1)), (11, .int 0), (10, .int 1), (9, .int (S 13 x8.toNatClampNeg)), (0, .ref (h 0)), (1, .int a1), (2, .int a2), (3, .int a3), (4, .int a4), (5, .int (f_M_meant S a1 a4)), (6, .int x6), (7, .int x7)]) hx hb dX6_at_272 hl (k := 11) rfl rfl (by decide) rfl (fun ls hl => ?_)
                              refine lv_goto (tgt := 64) hx hb dX6_at_275 (by decide) ?_
                              have hinc := i32_inc (x := x8) h0_64 (by omega)
                              exact ih64 x6 x7 (x8 + 1) _ _ _ ⟨by omega, by omega, by omega, by omega, trivial⟩ (by first | (rw [← he64, l_M_at_64, if_neg c_11, if_pos c_14, if_pos c_18, if_pos c_24, if_neg c_41, if_pos c_58, if_neg c_61, if_neg c_65]; done) | (rw [← he64, l_M_at_64]; simp only [if_neg c_11, if_pos c_14, if_pos c_18, if_pos c_24, if_neg c_41, if_pos c_58, if_neg c_61, if_neg c_65])) hP hS (lv_sub hl [4, 5, 6, 7, 8, 9, 10, 11, 0] rfl)
                            · skip
                              refine lv_aload_n hx hb dX6_at_188 rfl (lv_at hl 2 rfl) ?_
                              refine va_get (D := D) (ci := 6) (v := .ref (h 18)) (C := RX6) (T := TX6) (N := 25) hx hb hB inX6 hown hK hP 0 rfl rfl 23 (by decide) (hB _ k3_20) (fun _ h9 => h9) rfl dX6_at_189 ?_
                              refine lv_iload hx hb dX6_at_192 (lv_at hl 10 rfl) ?_
                              refine va_iald (f := S 17) hx hb hK hP 18 0 rfl rfl (vp_in_iff.mpr (by omega)) dX6_at_194 ?_
                              refine lv_iload hx hb dX6_at_195 (lv_at hl 6 rfl) ?_
                              refine lv_icmp_gt (tgt := 220) hx hb dX6_at_197 (by decide) (fun c_67 => ?_) (fun c_67 => ?_)
                              · skip
                                have t_67 := Int32.lt_iff_toInt_lt.mp c_67
                                refine lv_iconst (v := 0) hx hb dX6_at_220 (by decide) ?_
                                refine lv_istore (lv' := [(11, .int 0), (10, .int 1), (9, .int (S 13 x8.toNatClampNeg)), (0, .ref (h 0)), (1, .int a1), (2, .int a2), (3, .int a3), (4, .int a4), (5, .int (f_M_meant S a1 a4)), (6, .int x6), (7, .int x7), (8, .int x8)]) hx hb dX6_at_221 hl (by decide) rfl (fun ls hl => ?_)
                                refine lv_iload hx hb dX6_at_223 (lv_at hl 0 rfl) ?_
                                refine lv_if_eq (tgt := 272) hx hb dX6_at_225 (by decide) (fun c_68 => ?_) (fun c_68 => ?_)
                                rotate_left
                                · exact absurd c_68 (by decide)
                                refine lv_iinc (v := x8 + 1) (lv' := [(8, .int (x8 + 1)), (11, .int 0), (10, .int 1), (9, .int (S 13 x8.toNatClampNeg)), (0, .ref (h 0)), (1, .int a1), (2, .int a2), (3, .int a3), (4, .int a4), (5, .int (f_M_meant S a1 a4)), (6, .int x6), (7, .int x7)]) hx hb dX6_at_272 hl (k := 11) rfl rfl (by decide) rfl (fun ls hl => ?_)
                                refine lv_goto (tgt := 64) hx hb dX6_at_275 (by decide) ?_
                                have hinc := i32_inc (x := x8) h0_64 (by omega)
                                exact ih64 x6 x7 (x8 + 1) _ _ _ ⟨by omega, by omega, by omega, by omega, trivial⟩ (by first | (rw [← he64, l_M_at_64, if_neg c_11, if_pos c_14, if_pos c_18, if_pos c_24, if_neg c_41, if_pos c_58, if_neg c_61, if_pos c_65, if_pos c_67]; done) | (rw [← he64, l_M_at_64]; simp only [if_neg c_11, if_pos c_14, if_pos c_18, if_pos c_24, if_neg c_41, if_pos c_58, if_neg c_61, if_pos c_65, if_pos c_67])) hP hS (lv_sub hl [4, 5, 6, 7, 8, 9, 10, 11, 0] rfl)
                              · skip
                                have t_67 := mt Int32.lt_iff_toInt_lt.mpr c_67
                                refine lv_iload hx hb dX6_at_200 (lv_at hl 6 rfl) ?_
                                refine lv_aload_n hx hb dX6_at_202 rfl (lv_at hl 2 rfl) ?_
                                refine va_get (D := D) (ci := 6) (v := .ref (h 18)) (C := RX6) (T := TX6) (N := 25) hx hb hB inX6 hown hK hP 0 rfl rfl 23 (by decide) (hB _ k3_20) (fun _ h9 => h9) rfl dX6_at_203 ?_
                                refine lv_iload hx hb dX6_at_206 (lv_at hl 10 rfl) ?_
                                refine va_iald (f := S 17) hx hb hK hP 18 0 rfl rfl (vp_in_iff.mpr (by omega)) dX6_at_208 ?_
                                refine lv_isub hx hb dX6_at_209 ?_
                                refine lv_sipush (v := 180) hx hb dX6_at_210 (by decide) ?_
                                refine lv_icmp_ge (tgt := 220) hx hb dX6_at_213 (by decide) (fun c_69 => ?_) (fun c_69 => ?_)
                                · skip
                                  have z_180 : ((180) : Int32).toInt = (180) := by decide
                                  have t_69 := Int32.le_iff_toInt_le.mp c_69
                                  refine lv_iconst (v := 0) hx hb dX6_at_220 (by decide) ?_
                                  refine lv_istore (lv' := [(11, .int 0), (10, .int 1), (9, .int (S 13 x8.toNatClampNeg)), (0, .ref (h 0)), (1, .int a1), (2, .int a2), (3, .int a3), (4, .int a4), (5, .int (f_M_meant S a1 a4)), (6, .int x6), (7, .int x7), (8, .int x8)]) hx hb dX6_at_221 hl (by decide) rfl (fun ls hl => ?_)
                                  refine lv_iload hx hb dX6_at_223 (lv_at hl 0 rfl) ?_
                                  refine lv_if_eq (tgt := 272) hx hb dX6_at_225 (by decide) (fun c_70 => ?_) (fun c_70 => ?_)
                                  rotate_left
                                  · exact absurd c_70 (by decide)
                                  refine lv_iinc (v := x8 + 1) (lv' := [(8, .int (x8 + 1)), (11, .int 0), (10, .int 1), (9, .int (S 13 x8.toNatClampNeg)), (0, .ref (h 0)), (1, .int a1), (2, .int a2), (3, .int a3), (4, .int a4), (5, .int (f_M_meant S a1 a4)), (6, .int x6), (7, .int x7)]) hx hb dX6_at_272 hl (k := 11) rfl rfl (by decide) rfl (fun ls hl => ?_)
                                  refine lv_goto (tgt := 64) hx hb dX6_at_275 (by decide) ?_
                                  have hinc := i32_inc (x := x8) h0_64 (by omega)
                                  exact ih64 x6 x7 (x8 + 1) _ _ _ ⟨by omega, by omega, by omega, by omega, trivial⟩ (by first | (rw [← he64, l_M_at_64, if_neg c_11, if_pos c_14, if_pos c_18, if_pos c_24, if_neg c_41, if_pos c_58, if_neg c_61, if_pos c_65, if_neg c_67, if_pos c_69]; done) | (rw [← he64, l_M_at_64]; simp only [if_neg c_11, if_pos c_14, if_pos c_18, if_pos c_24, if_neg c_41, if_pos c_58, if_neg c_61, if_pos c_65, if_neg c_67, if_pos c_69])) hP hS (lv_sub hl [4, 5, 6, 7, 8, 9, 10, 11, 0] rfl)
                                · skip
                                  have z_180 : ((180) : Int32).toInt = (180) := by decide
                                  have t_69 := mt Int32.le_iff_toInt_le.mpr c_69
                                  refine lv_iconst (v := 1) hx hb dX6_at_216 (by decide) ?_
                                  refine lv_goto (tgt := 221) hx hb dX6_at_217 (by decide) ?_
                                  refine lv_istore (lv' := [(11, .int 1), (10, .int 1), (9, .int (S 13 x8.toNatClampNeg)), (0, .ref (h 0)), (1, .int a1), (2, .int a2), (3, .int a3), (4, .int a4), (5, .int (f_M_meant S a1 a4)), (6, .int x6), (7, .int x7), (8, .int x8)]) hx hb dX6_at_221 hl (by decide) rfl (fun ls hl => ?_)
                                  refine lv_iload hx hb dX6_at_223 (lv_at hl 0 rfl) ?_
                                  refine lv_if_eq (tgt := 272) hx hb dX6_at_225 (by decide) (fun c_71 => ?_) (fun c_71 => ?_)
                                  · exact absurd c_71 (by decide)
                                  refine lv_aload_n hx hb dX6_at_228 rfl (lv_at hl 3 rfl) ?_
                                  refine va_get (D := D) (ci := 6) (v := .ref (h 18)) (C := RX6) (T := TX6) (N := 25) hx hb hB inX6 hown hK hP 0 rfl rfl 23 (by decide) (hB _ k3_20) (fun _ h9 => h9) rfl dX6_at_229 ?_
                                  refine lv_iload hx hb dX6_at_232 (lv_at hl 11 rfl) ?_
                                  refine va_iald (f := S 17) hx hb hK hP 18 0 rfl rfl (vp_in_iff.mpr (by omega)) dX6_at_234 ?_
                                  refine lv_iload hx hb dX6_at_235 (lv_at hl 10 rfl) ?_
                                  refine lv_icmp_gt (tgt := 259) hx hb dX6_at_237 (by decide) (fun c_72 => ?_) (fun c_72 => ?_)
                                  · skip
                                    have t_72 := Int32.lt_iff_toInt_lt.mp c_72
                                    refine lv_iload hx hb dX6_at_259 (lv_at hl 2 rfl) ?_
                                    refine lv_istore (lv' := [(6, .int (S 13 x8.toNatClampNeg)), (11, .int 1), (10, .int 1), (9, .int (S 13 x8.toNatClampNeg)), (0, .ref (h 0)), (1, .int a1), (2, .int a2), (3, .int a3), (4, .int a4), (5, .int (f_M_meant S a1 a4)), (7, .int x7), (8, .int x8)]) hx hb dX6_at_261 hl (by decide) rfl (fun ls hl => ?_)
                                    refine lv_aload_n hx hb dX6_at_263 rfl (lv_at hl 4 rfl) ?_
                                    refine va_get (D := D) (ci := 6) (v := .ref (h 18)) (C := RX6) (T := TX6) (N := 25) hx hb hB inX6 hown hK hP 0 rfl rfl 23 (by decide) (hB _ k3_20) (fun _ h9 => h9) rfl dX6_at_264 ?_
                                    refine lv_iload hx hb dX6_at_267 (lv_at hl 11 rfl) ?_
                                    refine va_iald (f := S 17) hx hb hK hP 18 0 rfl rfl (vp_in_iff.mpr (by omega)) dX6_at_269 ?_
                                    refine lv_istore (lv' := [(7, .int (S 17 x8.toNatClampNeg)), (6, .int (S 13 x8.toNatClampNeg)), (11, .int 1), (10, .int 1), (9, .int (S 13 x8.toNatClampNeg)), (0, .ref (h 0)), (1, .int a1), (2, .int a2), (3, .int a3), (4, .int a4), (5, .int (f_M_meant S a1 a4)), (8, .int x8)]) hx hb dX6_at_270 hl (by decide) rfl (fun ls hl => ?_)
                                    refine lv_iinc (v := x8 + 1) (lv' := [(8, .int (x8 + 1)), (7, .int (S 17 x8.toNatClampNeg)), (6, .int (S 13 x8.toNatClampNeg)), (11, .int 1), (10, .int 1), (9, .int (S 13 x8.toNatClampNeg)), (0, .ref (h 0)), (1, .int a1), (2, .int a2), (3, .int a3), (4, .int a4), (5, .int (f_M_meant S a1 a4))]) hx hb dX6_at_272 hl (k := 11) rfl rfl (by decide) rfl (fun ls hl => ?_)
                                    refine lv_goto (tgt := 64) hx hb dX6_at_275 (by decide) ?_
                                    have hinc := i32_inc (x := x8) h0_64 (by omega)
                                    exact ih64 (S 13 x8.toNatClampNeg) (S 17 x8.toNatClampNeg) (x8 + 1) _ _ _ ⟨by omega, by omega, by omega, by omega, trivial⟩ (by first | (rw [← he64, l_M_at_64, if_neg c_11, if_pos c_14, if_pos c_18, if_pos c_24, if_neg c_41, if_pos c_58, if_neg c_61, if_pos c_65, if_neg c_67, if_neg c_69, if_pos c_72]; done) | (rw [← he64, l_M_at_64]; simp only [if_neg c_11, if_pos c_14, if_pos c_18, if_pos c_24, if_neg c_41, if_pos c_58, if_neg c_61, if_pos c_65, if_neg c_67, if_neg c_69, if_pos c_72])) hP hS (lv_sub hl [6, 7, 8, 9, 10, 11, 2, 1, 0] rfl)
                                  · skip
                                    have t_72 := mt Int32.lt_iff_toInt_lt.mpr c_72
                                    refine lv_aload_n hx hb dX6_at_240 rfl (lv_at hl 3 rfl) ?_
                                    refine va_get (D := D) (ci := 6) (v := .ref (h 18)) (C := RX6) (T := TX6) (N := 25) hx hb hB inX6 hown hK hP 0 rfl rfl 23 (by decide) (hB _ k3_20) (fun _ h9 => h9) rfl dX6_at_241 ?_
                                    refine lv_iload hx hb dX6_at_244 (lv_at hl 11 rfl) ?_
                                    refine va_iald (f := S 17) hx hb hK hP 18 0 rfl rfl (vp_in_iff.mpr (by omega)) dX6_at_246 ?_
                                    refine lv_iload hx hb dX6_at_247 (lv_at hl 10 rfl) ?_
                                    refine lv_icmp_ne (tgt := 272) hx hb dX6_at_249 (by decide) (fun c_73 => ?_) (fun c_73 => ?_)
                                    · skip
                                      refine lv_iinc (v := x8 + 1) (lv' := [(8, .int (x8 + 1)), (11, .int 1), (10, .int 1), (9, .int (S 13 x8.toNatClampNeg)), (0, .ref (h 0)), (1, .int a1), (2, .int a2), (3, .int a3), (4, .int a4), (5, .int (f_M_meant S a1 a4)), (6, .int x6), (7, .int x7)]) hx hb dX6_at_272 hl (k := 11) rfl rfl (by decide) rfl (fun ls hl => ?_)
                                      refine lv_goto (tgt := 64) hx hb dX6_at_275 (by decide) ?_
                                      have hinc := i32_inc (x := x8) h0_64 (by omega)
                                      exact ih64 x6 x7 (x8 + 1) _ _ _ ⟨by omega, by omega, by omega, by omega, trivial⟩ (by first | (rw [← he64, l_M_at_64, if_neg c_11, if_pos c_14, if_pos c_18, if_pos c_24, if_neg c_41, if_pos c_58, if_neg c_61, if_pos c_65, if_neg c_67, if_neg c_69, if_neg c_72, if_neg c_73]; done) | (rw [← he64, l_M_at_64]; simp only [if_neg c_11, if_pos c_14, if_pos c_18, if_pos c_24, if_neg c_41, if_pos c_58, if_neg c_61, if_pos c_65, if_neg c_67, if_neg c_69, if_neg c_72, if_neg c_73])) hP hS (lv_sub hl [4, 5, 6, 7, 8, 9, 10, 11, 0] rfl)
                                    · skip
                                      refine lv_iload hx hb dX6_at_252 (lv_at hl 2 rfl) ?_
                                      refine lv_iload hx hb dX6_at_254 (lv_at hl 9 rfl) ?_
                                      refine lv_icmp_ge (tgt := 272) hx hb dX6_at_256 (by decide) (fun c_74 => ?_) (fun c_74 => ?_)
                                      · skip
                                        have t_74 := Int32.le_iff_toInt_le.mp c_74
                                        refine lv_iinc (v := x8 + 1) (lv' := [(8, .int (x8 + 1)), (11, .int 1), (10, .int 1), (9, .int (S 13 x8.toNatClampNeg)), (0, .ref (h 0)), (1, .int a1), (2, .int a2), (3, .int a3), (4, .int a4), (5, .int (f_M_meant S a1 a4)), (6, .int x6), (7, .int x7)]) hx hb dX6_at_272 hl (k := 11) rfl rfl (by decide) rfl (fun ls hl => ?_)
                                        refine lv_goto (tgt := 64) hx hb dX6_at_275 (by decide) ?_
                                        have hinc := i32_inc (x := x8) h0_64 (by omega)
                                        exact ih64 x6 x7 (x8 + 1) _ _ _ ⟨by omega, by omega, by omega, by omega, trivial⟩ (by first | (rw [← he64, l_M_at_64, if_neg c_11, if_pos c_14, if_pos c_18, if_pos c_24, if_neg c_41, if_pos c_58, if_neg c_61, if_pos c_65, if_neg c_67, if_neg c_69, if_neg c_72, if_pos c_73, if_pos c_74]; done) | (rw [← he64, l_M_at_64]; simp only [if_neg c_11, if_pos c_14, if_pos c_18, if_pos c_24, if_neg c_41, if_pos c_58, if_neg c_61, if_pos c_65, if_neg c_67, if_neg c_69, if_neg c_72, if_pos c_73, if_pos c_74])) hP hS (lv_sub hl [4, 5, 6, 7, 8, 9, 10, 11, 0] rfl)
                                      · skip
                                        have t_74 := mt Int32.le_iff_toInt_le.mpr c_74
                                        refine lv_iload hx hb dX6_at_259 (lv_at hl 2 rfl) ?_
                                        refine lv_istore (lv' := [(6, .int (S 13 x8.toNatClampNeg)), (11, .int 1), (10, .int 1), (9, .int (S 13 x8.toNatClampNeg)), (0, .ref (h 0)), (1, .int a1), (2, .int a2), (3, .int a3), (4, .int a4), (5, .int (f_M_meant S a1 a4)), (7, .int x7), (8, .int x8)]) hx hb dX6_at_261 hl (by decide) rfl (fun ls hl => ?_)
                                        refine lv_aload_n hx hb dX6_at_263 rfl (lv_at hl 4 rfl) ?_
                                        refine va_get (D := D) (ci := 6) (v := .ref (h 18)) (C := RX6) (T := TX6) (N := 25) hx hb hB inX6 hown hK hP 0 rfl rfl 23 (by decide) (hB _ k3_20) (fun _ h9 => h9) rfl dX6_at_264 ?_
                                        refine lv_iload hx hb dX6_at_267 (lv_at hl 11 rfl) ?_
                                        refine va_iald (f := S 17) hx hb hK hP 18 0 rfl rfl (vp_in_iff.mpr (by omega)) dX6_at_269 ?_
                                        refine lv_istore (lv' := [(7, .int (S 17 x8.toNatClampNeg)), (6, .int (S 13 x8.toNatClampNeg)), (11, .int 1), (10, .int 1), (9, .int (S 13 x8.toNatClampNeg)), (0, .ref (h 0)), (1, .int a1), (2, .int a2), (3, .int a3), (4, .int a4), (5, .int (f_M_meant S a1 a4)), (8, .int x8)]) hx hb dX6_at_270 hl (by decide) rfl (fun ls hl => ?_)
                                        refine lv_iinc (v := x8 + 1) (lv' := [(8, .int (x8 + 1)), (7, .int (S 17 x8.toNatClampNeg)), (6, .int (S 13 x8.toNatClampNeg)), (11, .int 1), (10, .int 1), (9, .int (S 13 x8.toNatClampNeg)), (0, .ref (h 0)), (1, .int a1), (2, .int a2), (3, .int a3), (4, .int a4), (5, .int (f_M_meant S a1 a4))]) hx hb dX6_at_272 hl (k := 11) rfl rfl (by decide) rfl (fun ls hl => ?_)
                                        refine lv_goto (tgt := 64) hx hb dX6_at_275 (by decide) ?_
                                        have hinc := i32_inc (x := x8) h0_64 (by omega)
                                        exact ih64 (S 13 x8.toNatClampNeg) (S 17 x8.toNatClampNeg) (x8 + 1) _ _ _ ⟨by omega, by omega, by omega, by omega, trivial⟩ (by first | (rw [← he64, l_M_at_64, if_neg c_11, if_pos c_14, if_pos c_18, if_pos c_24, if_neg c_41, if_pos c_58, if_neg c_61, if_pos c_65, if_neg c_67, if_neg c_69, if_neg c_72, if_pos c_73, if_neg c_74]; done) | (rw [← he64, l_M_at_64]; simp only [if_neg c_11, if_pos c_14, if_pos c_18, if_pos c_24, if_neg c_41, if_pos c_58, if_neg c_61, if_pos c_65, if_neg c_67, if_neg c_69, if_neg c_72, if_pos c_73, if_neg c_74])) hP hS (lv_sub hl [6, 7, 8, 9, 10, 11, 2, 1, 0] rfl)
                        · skip
                          have t_58 := mt Int32.le_iff_toInt_le.mpr c_58
                          refine lv_iload hx hb dX6_at_152 (lv_at hl 1 rfl) ?_
                          exact W.iret (v := S 13 x8.toNatClampNeg) hx hb hr (fun t ht hW => ⟨⟨S 13 x8.toNatClampNeg, (), rfl, (by rw [← he64, l_M_at_64, if_neg c_11, if_pos c_14, if_pos c_18, if_pos c_24, if_neg c_41, if_neg c_58]), trivial⟩, hS.F ht⟩) hS.2.2 dX6_at_154
          have z_m1 : ((-1) : Int32).toInt = (-1) := by decide
          have hB9_64 := ivM_24 (S := S) hI
          exact loop64 6000 (-1) (-1) 0 _ _ _ ⟨by omega, by omega, by omega, by omega, trivial⟩ (by rw [f_M_at, if_neg c_2, if_neg c_4, if_neg c_6, if_neg c_8]) hP hS (lv_sub hl [4, 5, 6, 7, 8, 3, 2, 1, 0] rfl)
        · skip
          refine lv_bipush (v := (-12)) hx hb dX6_at_43 (by decide) ?_
          exact W.iret (v := (-12)) hx hb hr (fun t ht hW => ⟨⟨(-12), (), rfl, (by rw [f_M_at, if_neg c_2, if_neg c_4, if_neg c_6, if_pos c_8]), trivial⟩, hS.F ht⟩) hS.2.2 dX6_at_45
  · skip
    refine lv_bipush (v := (-11)) hx hb dX6_at_8 (by decide) ?_
    exact W.iret (v := (-11)) hx hb hr (fun t ht hW => ⟨⟨(-11), (), rfl, (by rw [f_M_at, if_pos c_2]), trivial⟩, hS.F ht⟩) hS.2.2 dX6_at_10
