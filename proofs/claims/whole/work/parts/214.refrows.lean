set_option maxHeartbeats 4000000 in
set_option maxRecDepth 100000 in
theorem m_M_changeRange (l : Launch) (D : va_G) (h : Nat → Nat) (cI cZ : ClassId) (S : BS) (hI : IVM S) (a1 a2 a3 a4 : Int32) (ha0 : 0 ≤ a1.toInt ∧ a1.toInt ≤ 1) (hAS : ASM S) : WMM l yX6_changeRange wsX6_changeRange { frames := 3, cells := 0, slots := 0, locals := 68 } D cI cZ h S [.ref (h 0), .int a1, .int a2, .int a3, .int a4] (F_M_changeRange S a1 a2 a3 a4) := by
  refine Met.ofW (cc := cX6_changeRange) (maxL := 5) (ret := (some .int)) (by decide) rfl ?_
  intro p e s m args below meth c s₁ B hml hv
  obtain ⟨rfl, hP, hK, hN, hD0⟩ := hv
  have hx := B.exec
  have hb := B.bytes
  have hr := B.returns
  have hts := atoms_spec (ws := wsX6_changeRange) B.pre
  have hB : ∀ w ∈ BW, w.before _ s = true := fun w h => hts w (List.mem_cons_of_mem _ h)
  have hown : s.vm.findClass RX6 = some m.cls := findClass_of_methodNamed B.named
  have hlocks := B.notSynchronized
  have hD := bDM hD0
  have hS : va_S (bAM h) s.heap s.heap [] := va_S.rf
  have hl := lv_entry ([.ref (h 0), .int a1, .int a2, .int a3, .int a4]) (n := 5) (Nat.le_of_ble_eq_true rfl)
  rw [lg_entry_eq]
  generalize (lg_sl ([.ref (h 0), .int a1, .int a2, .int a3, .int a4]) ++ List.replicate (5 - (lg_sl ([.ref (h 0), .int a1, .int a2, .int a3, .int a4])).length) Slot.unset).toArray = ls at hl ⊢
  have hl : lv_has ls 5 [(0, .ref (h 0)), (1, .int a1), (2, .int a2), (3, .int a3), (4, .int a4)] := hl
  refine lv_aload_n hx hb dX6_changeRange_0 rfl (lv_at hl 0 rfl) ?_
  refine lv_iload_n hx hb dX6_changeRange_1 rfl (lv_at hl 2 rfl) ?_
  refine pu_callM (va_runV (As := [.int a2]) (rest := []) ⟨hx, hb, hml, hown, hB⟩ (m_M_isRange l D h cI cZ S hI a2 ) (cwV 1 hB (gV k3_129 k3_131 ks_358 k1_7 k3_132) rfl rfl rfl (by decide +kernel) ⟨Nat.le_of_ble_eq_true rfl, Nat.le_of_ble_eq_true rfl⟩) ⟨pu_blindM, va_recv hK hP (ci := 6) (q0 := 0) rfl rfl, pu_preM hP hK hN⟩ rfl rfl hl.1 rfl (lv_room (Nat.le_of_ble_eq_true rfl)) dX6_changeRange_2 ⟨Nat.le_of_ble_eq_true rfl, Nat.le_of_ble_eq_true rfl⟩) hP hS (fun H locs hP hS => ?_)
  refine lv_if_ne (tgt := 11) hx hb dX6_changeRange_5 (by decide) (fun c_2 => ?_) (fun c_2 => ?_)
  · skip
    have t_2 := fb_M_isRange hI c_2
    refine lv_aload_n hx hb dX6_changeRange_11 rfl (lv_at hl 0 rfl) ?_
    refine lv_iload hx hb dX6_changeRange_12 (lv_at hl 4 rfl) ?_
    refine pu_callM (va_runV (As := [.int a4]) (rest := []) ⟨hx, hb, hml, hown, hB⟩ (m_M_isDay l D h cI cZ S hI a4 ) (cwV 1 hB (gV k3_105 k3_107 ks_326 k1_7 k3_108) rfl rfl rfl (by decide +kernel) ⟨Nat.le_of_ble_eq_true rfl, Nat.le_of_ble_eq_true rfl⟩) ⟨pu_blindM, va_recv hK hP (ci := 6) (q0 := 0) rfl rfl, pu_preM hP hK hN⟩ rfl rfl hl.1 rfl (lv_room (Nat.le_of_ble_eq_true rfl)) dX6_changeRange_14 ⟨Nat.le_of_ble_eq_true rfl, Nat.le_of_ble_eq_true rfl⟩) hP hS (fun H locs hP hS => ?_)
    refine lv_if_eq (tgt := 43) hx hb dX6_changeRange_17 (by decide) (fun c_4 => ?_) (fun c_4 => ?_)
    · skip
      refine lv_bipush (v := (-12)) hx hb dX6_changeRange_43 (by decide) ?_
      exact W.iret (v := (-12)) hx hb hr (fun t ht hW => ⟨⟨(-12), S, rfl, ⟨(by rw [F_M_changeRange, if_neg c_2, if_pos c_4]), hI⟩, by show va_P D vwCl _ t.heap; rw [ht]; exact hP⟩, hS.F ht⟩) hS.2.2 dX6_changeRange_45
    · skip
      refine lv_iload_n hx hb dX6_changeRange_20 rfl (lv_at hl 1 rfl) ?_
      refine lv_iconst (v := 1) hx hb dX6_changeRange_21 (by decide) ?_
      refine lv_icmp_ne (tgt := 46) hx hb dX6_changeRange_22 (by decide) (fun c_5 => ?_) (fun c_5 => ?_)
      · skip
        have z_1 : ((1) : Int32).toInt = (1) := by decide
        have t_5 := mt Int32.toInt_inj.mp c_5
        refine lv_aload_n hx hb dX6_changeRange_46 rfl (lv_at hl 0 rfl) ?_
        refine va_get (D := D) (ci := 6) (v := .ref (h 10)) (C := RX6) (T := TX6) (N := 25) hx hb hB inX6 hown hK hP 0 rfl rfl 13 (by decide) (hB _ k3_10) (fun _ h9 => h9) rfl dX6_changeRange_47 ?_
        refine lv_iload_n hx hb dX6_changeRange_50 rfl (lv_at hl 2 rfl) ?_
        refine va_zald (f := S 9) hx hb hK hP 10 1 rfl rfl (vp_in_iff.mpr (by omega)) dX6_changeRange_51 ?_
        have b_6 : (0) ≤ (S 9 a2.toNatClampNeg).toInt ∧ (S 9 a2.toNatClampNeg).toInt ≤ 1 := ivM_9 (S := S) hI a2.toNatClampNeg
        refine lv_if_ne (tgt := 58) hx hb dX6_changeRange_52 (by decide) (fun c_7 => ?_) (fun c_7 => ?_)
        · skip
          have z_0 : ((0) : Int32).toInt = (0) := by decide
          have t_7 := mt Int32.toInt_inj.mp c_7
          refine lv_iload_n hx hb dX6_changeRange_58 rfl (lv_at hl 1 rfl) ?_
          refine lv_iconst (v := 1) hx hb dX6_changeRange_59 (by decide) ?_
          refine lv_icmp_ne (tgt := 77) hx hb dX6_changeRange_60 (by decide) (fun c_8 => ?_) (fun c_8 => ?_)
          · skip
            have t_8 := mt Int32.toInt_inj.mp c_8
            refine lv_aload_n hx hb dX6_changeRange_77 rfl (lv_at hl 0 rfl) ?_
            refine lv_iload hx hb dX6_changeRange_78 (lv_at hl 4 rfl) ?_
            refine wpfM_19 (S := S) hx hb hB hown hK hP hD hS (hB _ k2_237) dX6_changeRange_80 (fun H locs hP hD hS => ?_)
            have hI_9 : IVM (upS 19 0 a4 S) := iv_upM (S := S) hI 19 0 a4 (iv_noneM 19 rfl)
            refine lv_iload_n hx hb dX6_changeRange_83 rfl (lv_at hl 1 rfl) ?_
            refine lv_if_ne (tgt := 95) hx hb dX6_changeRange_84 (by decide) (fun c_10 => ?_) (fun c_10 => ?_)
            · skip
              have t_10 := mt Int32.toInt_inj.mp c_10
              refine lv_aload_n hx hb dX6_changeRange_95 rfl (lv_at hl 0 rfl) ?_
              refine lv_iload_n hx hb dX6_changeRange_96 rfl (lv_at hl 2 rfl) ?_
              refine lv_iload_n hx hb dX6_changeRange_97 rfl (lv_at hl 3 rfl) ?_
              refine wr_callM (va_runV (As := [.int a2, .int a3]) (rest := []) ⟨hx, hb, hml, hown, hB⟩ (m_M_split l D h cI cZ (upS 19 0 a4 S) hI_9 a2 a3 (by omega) (show ASM (upS 19 0 a4 S) from hAS) (show (S 22 0).toInt ≤ 78 by omega) (show (f_M_lowest S a2).toInt < (a3).toInt ∧ (a3).toInt ≤ (f_M_highest S a2).toInt from ⟨by omega, by omega⟩)) (cwV 2 hB (gV k3_174 k3_176 ks_382 k1_7 k3_177) rfl rfl rfl (by decide +kernel) ⟨Nat.le_of_ble_eq_true rfl, Nat.le_of_ble_eq_true rfl⟩) ⟨wr_blindM, va_recv hK hP (ci := 6) (q0 := 0) rfl rfl, wr_preM hP hK hN hD⟩ rfl rfl hl.1 rfl (lv_room (Nat.le_of_ble_eq_true rfl)) dX6_changeRange_98 ⟨Nat.le_of_ble_eq_true rfl, Nat.le_of_ble_eq_true rfl⟩) hS (fun H locs hP hI_11 hS => ?_)
              have hD := wDM (S2 := (F_M_split (upS 19 0 a4 S) a2 a3).2) hD
              exact W.iret (v := (F_M_split (upS 19 0 a4 S) a2 a3).1) hx hb hr (fun t ht hW => ⟨⟨(F_M_split (upS 19 0 a4 S) a2 a3).1, (F_M_split (upS 19 0 a4 S) a2 a3).2, rfl, ⟨(by rw [F_M_changeRange, if_neg c_2, if_neg c_4, if_neg c_5, if_neg c_7, if_neg c_8, if_neg c_10]), hI_11⟩, by show va_P D vwCl _ t.heap; rw [ht]; exact hP⟩, hS.F ht⟩) hS.2.2 dX6_changeRange_101
            · skip
              have t_10 := Int32.toInt_inj.symm.mp c_10
              refine lv_aload_n hx hb dX6_changeRange_87 rfl (lv_at hl 0 rfl) ?_
              refine lv_iload_n hx hb dX6_changeRange_88 rfl (lv_at hl 2 rfl) ?_
              refine wr_callM (va_runV (As := [.int a2]) (rest := []) ⟨hx, hb, hml, hown, hB⟩ (m_M_close l D h cI cZ (upS 19 0 a4 S) hI_9 a2 (by omega) (show ASM (upS 19 0 a4 S) from hAS)) (cwV 1 hB (gV k3_166 k3_168 ks_386 k1_7 k3_169) rfl rfl rfl (by decide +kernel) ⟨Nat.le_of_ble_eq_true rfl, Nat.le_of_ble_eq_true rfl⟩) ⟨wr_blindM, va_recv hK hP (ci := 6) (q0 := 0) rfl rfl, wr_preM hP hK hN hD⟩ rfl rfl hl.1 rfl (lv_room (Nat.le_of_ble_eq_true rfl)) dX6_changeRange_89 ⟨Nat.le_of_ble_eq_true rfl, Nat.le_of_ble_eq_true rfl⟩) hS (fun H locs hP hI_13 hS => ?_)
              have hD := wDM (S2 := (F_M_close (upS 19 0 a4 S) a2).2) hD
              refine lv_goto (tgt := 101) hx hb dX6_changeRange_92 (by decide) ?_
              exact W.iret (v := (F_M_close (upS 19 0 a4 S) a2).1) hx hb hr (fun t ht hW => ⟨⟨(F_M_close (upS 19 0 a4 S) a2).1, (F_M_close (upS 19 0 a4 S) a2).2, rfl, ⟨(by rw [F_M_changeRange, if_neg c_2, if_neg c_4, if_neg c_5, if_neg c_7, if_neg c_8, if_pos c_10]), hI_13⟩, by show va_P D vwCl _ t.heap; rw [ht]; exact hP⟩, hS.F ht⟩) hS.2.2 dX6_changeRange_101
          · skip
            have t_8 := Int32.toInt_inj.symm.mp c_8
            refine lv_aload_n hx hb dX6_changeRange_63 rfl (lv_at hl 0 rfl) ?_
            refine va_get (D := D) (ci := 6) (v := .int (S 22 0)) (C := RX6) (T := TX6) (N := 25) hx hb hB inX6 hown hK hP 0 rfl rfl 8 (by decide) (hB _ k3_5) (fun _ h9 => h9) rfl dX6_changeRange_64 ?_
            have b_15 : (0) ≤ (S 22 0).toInt ∧ (S 22 0).toInt ≤ 80 := ivM_22 (S := S) hI
            refine lv_iconst (v := 2) hx hb dX6_changeRange_67 (by decide) ?_
            refine lv_iadd hx hb dX6_changeRange_68 ?_
            have z_2 : ((2) : Int32).toInt = (2) := by decide
            have k_16 := i32_add (x := S 22 0) (y := 2) (by omega) (by omega)
            refine lv_bipush (v := 80) hx hb dX6_changeRange_69 (by decide) ?_
            refine lv_icmp_le (tgt := 77) hx hb dX6_changeRange_71 (by decide) (fun c_17 => ?_) (fun c_17 => ?_)
            · skip
              have z_80 : ((80) : Int32).toInt = (80) := by decide
              have t_17 := Int32.le_iff_toInt_le.mp c_17
              refine lv_aload_n hx hb dX6_changeRange_77 rfl (lv_at hl 0 rfl) ?_
              refine lv_iload hx hb dX6_changeRange_78 (lv_at hl 4 rfl) ?_
              refine wpfM_19 (S := S) hx hb hB hown hK hP hD hS (hB _ k2_237) dX6_changeRange_80 (fun H locs hP hD hS => ?_)
              have hI_18 : IVM (upS 19 0 a4 S) := iv_upM (S := S) hI 19 0 a4 (iv_noneM 19 rfl)
              refine lv_iload_n hx hb dX6_changeRange_83 rfl (lv_at hl 1 rfl) ?_
              refine lv_if_ne (tgt := 95) hx hb dX6_changeRange_84 (by decide) (fun c_19 => ?_) (fun c_19 => ?_)
              · skip
                have t_19 := mt Int32.toInt_inj.mp c_19
                refine lv_aload_n hx hb dX6_changeRange_95 rfl (lv_at hl 0 rfl) ?_
                refine lv_iload_n hx hb dX6_changeRange_96 rfl (lv_at hl 2 rfl) ?_
                refine lv_iload_n hx hb dX6_changeRange_97 rfl (lv_at hl 3 rfl) ?_
                refine wr_callM (va_runV (As := [.int a2, .int a3]) (rest := []) ⟨hx, hb, hml, hown, hB⟩ (m_M_split l D h cI cZ (upS 19 0 a4 S) hI_18 a2 a3 (by omega) (show ASM (upS 19 0 a4 S) from hAS) (show (S 22 0).toInt ≤ 78 by omega) (show (f_M_lowest S a2).toInt < (a3).toInt ∧ (a3).toInt ≤ (f_M_highest S a2).toInt from ⟨by omega, by omega⟩)) (cwV 2 hB (gV k3_174 k3_176 ks_382 k1_7 k3_177) rfl rfl rfl (by decide +kernel) ⟨Nat.le_of_ble_eq_true rfl, Nat.le_of_ble_eq_true rfl⟩) ⟨wr_blindM, va_recv hK hP (ci := 6) (q0 := 0) rfl rfl, wr_preM hP hK hN hD⟩ rfl rfl hl.1 rfl (lv_room (Nat.le_of_ble_eq_true rfl)) dX6_changeRange_98 ⟨Nat.le_of_ble_eq_true rfl, Nat.le_of_ble_eq_true rfl⟩) hS (fun H locs hP hI_20 hS => ?_)
                have hD := wDM (S2 := (F_M_split (upS 19 0 a4 S) a2 a3).2) hD
                exact W.iret (v := (F_M_split (upS 19 0 a4 S) a2 a3).1) hx hb hr (fun t ht hW => ⟨⟨(F_M_split (upS 19 0 a4 S) a2 a3).1, (F_M_split (upS 19 0 a4 S) a2 a3).2, rfl, ⟨(by rw [F_M_changeRange, if_neg c_2, if_neg c_4, if_neg c_5, if_neg c_7, if_pos c_8, if_pos c_17, if_neg c_19]), hI_20⟩, by show va_P D vwCl _ t.heap; rw [ht]; exact hP⟩, hS.F ht⟩) hS.2.2 dX6_changeRange_101
              · skip
                have t_19 := Int32.toInt_inj.symm.mp c_19
                refine lv_aload_n hx hb dX6_changeRange_87 rfl (lv_at hl 0 rfl) ?_
                refine lv_iload_n hx hb dX6_changeRange_88 rfl (lv_at hl 2 rfl) ?_
                refine wr_callM (va_runV (As := [.int a2]) (rest := []) ⟨hx, hb, hml, hown, hB⟩ (m_M_close l D h cI cZ (upS 19 0 a4 S) hI_18 a2 (by omega) (show ASM (upS 19 0 a4 S) from hAS)) (cwV 1 hB (gV k3_166 k3_168 ks_386 k1_7 k3_169) rfl rfl rfl (by decide +kernel) ⟨Nat.le_of_ble_eq_true rfl, Nat.le_of_ble_eq_true rfl⟩) ⟨wr_blindM, va_recv hK hP (ci := 6) (q0 := 0) rfl rfl, wr_preM hP hK hN hD⟩ rfl rfl hl.1 rfl (lv_room (Nat.le_of_ble_eq_true rfl)) dX6_changeRange_89 ⟨Nat.le_of_ble_eq_true rfl, Nat.le_of_ble_eq_true rfl⟩) hS (fun H locs hP hI_22 hS => ?_)
                have hD := wDM (S2 := (F_M_close (upS 19 0 a4 S) a2).2) hD
                refine lv_goto (tgt := 101) hx hb dX6_changeRange_92 (by decide) ?_
                exact W.iret (v := (F_M_close (upS 19 0 a4 S) a2).1) hx hb hr (fun t ht hW => ⟨⟨(F_M_close (upS 19 0 a4 S) a2).1, (F_M_close (upS 19 0 a4 S) a2).2, rfl, ⟨(by rw [F_M_changeRange, if_neg c_2, if_neg c_4, if_neg c_5, if_neg c_7, if_pos c_8, if_pos c_17, if_pos c_19]), hI_22⟩, by show va_P D vwCl _ t.heap; rw [ht]; exact hP⟩, hS.F ht⟩) hS.2.2 dX6_changeRange_101
            · skip
              have z_80 : ((80) : Int32).toInt = (80) := by decide
              have t_17 := mt Int32.le_iff_toInt_le.mpr c_17
              refine lv_bipush (v := (-14)) hx hb dX6_changeRange_74 (by decide) ?_
              exact W.iret (v := (-14)) hx hb hr (fun t ht hW => ⟨⟨(-14), S, rfl, ⟨(by rw [F_M_changeRange, if_neg c_2, if_neg c_4, if_neg c_5, if_neg c_7, if_pos c_8, if_neg c_17]), hI⟩, by show va_P D vwCl _ t.heap; rw [ht]; exact hP⟩, hS.F ht⟩) hS.2.2 dX6_changeRange_76
        · skip
          have z_0 : ((0) : Int32).toInt = (0) := by decide
          have t_7 := Int32.toInt_inj.symm.mp c_7
          refine lv_bipush (v := (-13)) hx hb dX6_changeRange_55 (by decide) ?_
          exact W.iret (v := (-13)) hx hb hr (fun t ht hW => ⟨⟨(-13), S, rfl, ⟨(by rw [F_M_changeRange, if_neg c_2, if_neg c_4, if_neg c_5, if_pos c_7]), hI⟩, by show va_P D vwCl _ t.heap; rw [ht]; exact hP⟩, hS.F ht⟩) hS.2.2 dX6_changeRange_57
      · skip
        have z_1 : ((1) : Int32).toInt = (1) := by decide
        have t_5 := Int32.toInt_inj.symm.mp c_5
        refine lv_iload_n hx hb dX6_changeRange_25 rfl (lv_at hl 3 rfl) ?_
        refine lv_aload_n hx hb dX6_changeRange_26 rfl (lv_at hl 0 rfl) ?_
        refine lv_iload_n hx hb dX6_changeRange_27 rfl (lv_at hl 2 rfl) ?_
        refine pu_callM (va_runV (As := [.int a2]) (rest := [.int a3]) ⟨hx, hb, hml, hown, hB⟩ (m_M_lowest l D h cI cZ S hI a2 (by omega)) (cwV 1 hB (gV k3_158 k3_160 ks_378 k1_7 k3_161) rfl rfl rfl (by decide +kernel) ⟨Nat.le_of_ble_eq_true rfl, Nat.le_of_ble_eq_true rfl⟩) ⟨pu_blindM, va_recv hK hP (ci := 6) (q0 := 0) rfl rfl, pu_preM hP hK hN⟩ rfl rfl hl.1 rfl (lv_room (Nat.le_of_ble_eq_true rfl)) dX6_changeRange_28 ⟨Nat.le_of_ble_eq_true rfl, Nat.le_of_ble_eq_true rfl⟩) hP hS (fun H locs hP hS => ?_)
        have k_24 := fc_M_lowest (S := S) hI a2
        refine lv_icmp_le (tgt := 43) hx hb dX6_changeRange_31 (by decide) (fun c_25 => ?_) (fun c_25 => ?_)
        · skip
          have t_25 := Int32.le_iff_toInt_le.mp c_25
          refine lv_bipush (v := (-12)) hx hb dX6_changeRange_43 (by decide) ?_
          exact W.iret (v := (-12)) hx hb hr (fun t ht hW => ⟨⟨(-12), S, rfl, ⟨(by rw [F_M_changeRange, if_neg c_2, if_neg c_4, if_pos c_5, if_pos c_25]), hI⟩, by show va_P D vwCl _ t.heap; rw [ht]; exact hP⟩, hS.F ht⟩) hS.2.2 dX6_changeRange_45
        · skip
          have t_25 := mt Int32.le_iff_toInt_le.mpr c_25
          refine lv_iload_n hx hb dX6_changeRange_34 rfl (lv_at hl 3 rfl) ?_
          refine lv_aload_n hx hb dX6_changeRange_35 rfl (lv_at hl 0 rfl) ?_
          refine lv_iload_n hx hb dX6_changeRange_36 rfl (lv_at hl 2 rfl) ?_
          refine pu_callM (va_runV (As := [.int a2]) (rest := [.int a3]) ⟨hx, hb, hml, hown, hB⟩ (m_M_highest l D h cI cZ S hI a2 (by omega)) (cwV 1 hB (gV k3_162 k3_164 ks_374 k1_7 k3_165) rfl rfl rfl (by decide +kernel) ⟨Nat.le_of_ble_eq_true rfl, Nat.le_of_ble_eq_true rfl⟩) ⟨pu_blindM, va_recv hK hP (ci := 6) (q0 := 0) rfl rfl, pu_preM hP hK hN⟩ rfl rfl hl.1 rfl (lv_room (Nat.le_of_ble_eq_true rfl)) dX6_changeRange_37 ⟨Nat.le_of_ble_eq_true rfl, Nat.le_of_ble_eq_true rfl⟩) hP hS (fun H locs hP hS => ?_)
          have k_26 := fc_M_highest (S := S) hI a2
          refine lv_icmp_le (tgt := 46) hx hb dX6_changeRange_40 (by decide) (fun c_27 => ?_) (fun c_27 => ?_)
          · skip
            have t_27 := Int32.le_iff_toInt_le.mp c_27
            refine lv_aload_n hx hb dX6_changeRange_46 rfl (lv_at hl 0 rfl) ?_
            refine va_get (D := D) (ci := 6) (v := .ref (h 10)) (C := RX6) (T := TX6) (N := 25) hx hb hB inX6 hown hK hP 0 rfl rfl 13 (by decide) (hB _ k3_10) (fun _ h9 => h9) rfl dX6_changeRange_47 ?_
            refine lv_iload_n hx hb dX6_changeRange_50 rfl (lv_at hl 2 rfl) ?_
            refine va_zald (f := S 9) hx hb hK hP 10 1 rfl rfl (vp_in_iff.mpr (by omega)) dX6_changeRange_51 ?_
            have b_28 : (0) ≤ (S 9 a2.toNatClampNeg).toInt ∧ (S 9 a2.toNatClampNeg).toInt ≤ 1 := ivM_9 (S := S) hI a2.toNatClampNeg
            refine lv_if_ne (tgt := 58) hx hb dX6_changeRange_52 (by decide) (fun c_29 => ?_) (fun c_29 => ?_)
            · skip
              have z_0 : ((0) : Int32).toInt = (0) := by decide
              have t_29 := mt Int32.toInt_inj.mp c_29
              refine lv_iload_n hx hb dX6_changeRange_58 rfl (lv_at hl 1 rfl) ?_
              refine lv_iconst (v := 1) hx hb dX6_changeRange_59 (by decide) ?_
              refine lv_icmp_ne (tgt := 77) hx hb dX6_changeRange_60 (by decide) (fun c_30 => ?_) (fun c_30 => ?_)
              · skip
                have t_30 := mt Int32.toInt_inj.mp c_30
                refine lv_aload_n hx hb dX6_changeRange_77 rfl (lv_at hl 0 rfl) ?_
                refine lv_iload hx hb dX6_changeRange_78 (lv_at hl 4 rfl) ?_
                refine wpfM_19 (S := S) hx hb hB hown hK hP hD hS (hB _ k2_237) dX6_changeRange_80 (fun H locs hP hD hS => ?_)
                have hI_31 : IVM (upS 19 0 a4 S) := iv_upM (S := S) hI 19 0 a4 (iv_noneM 19 rfl)
                refine lv_iload_n hx hb dX6_changeRange_83 rfl (lv_at hl 1 rfl) ?_
                refine lv_if_ne (tgt := 95) hx hb dX6_changeRange_84 (by decide) (fun c_32 => ?_) (fun c_32 => ?_)
                · skip
                  have t_32 := mt Int32.toInt_inj.mp c_32
                  refine lv_aload_n hx hb dX6_changeRange_95 rfl (lv_at hl 0 rfl) ?_
                  refine lv_iload_n hx hb dX6_changeRange_96 rfl (lv_at hl 2 rfl) ?_
                  refine lv_iload_n hx hb dX6_changeRange_97 rfl (lv_at hl 3 rfl) ?_
                  refine wr_callM (va_runV (As := [.int a2, .int a3]) (rest := []) ⟨hx, hb, hml, hown, hB⟩ (m_M_split l D h cI cZ (upS 19 0 a4 S) hI_31 a2 a3 (by omega) (show ASM (upS 19 0 a4 S) from hAS) (show (S 22 0).toInt ≤ 78 by omega) (show (f_M_lowest S a2).toInt < (a3).toInt ∧ (a3).toInt ≤ (f_M_highest S a2).toInt from ⟨by omega, by omega⟩)) (cwV 2 hB (gV k3_174 k3_176 ks_382 k1_7 k3_177) rfl rfl rfl (by decide +kernel) ⟨Nat.le_of_ble_eq_true rfl, Nat.le_of_ble_eq_true rfl⟩) ⟨wr_blindM, va_recv hK hP (ci := 6) (q0 := 0) rfl rfl, wr_preM hP hK hN hD⟩ rfl rfl hl.1 rfl (lv_room (Nat.le_of_ble_eq_true rfl)) dX6_changeRange_98 ⟨Nat.le_of_ble_eq_true rfl, Nat.le_of_ble_eq_true rfl⟩) hS (fun H locs hP hI_33 hS => ?_)
                  have hD := wDM (S2 := (F_M_split (upS 19 0 a4 S) a2 a3).2) hD
                  exact W.iret (v := (F_M_split (upS 19 0 a4 S) a2 a3).1) hx hb hr (fun t ht hW => ⟨⟨(F_M_split (upS 19 0 a4 S) a2 a3).1, (F_M_split (upS 19 0 a4 S) a2 a3).2, rfl, ⟨(by rw [F_M_changeRange, if_neg c_2, if_neg c_4, if_pos c_5, if_neg c_25, if_pos c_27, if_neg c_29, if_neg c_30, if_neg c_32]), hI_33⟩, by show va_P D vwCl _ t.heap; rw [ht]; exact hP⟩, hS.F ht⟩) hS.2.2 dX6_changeRange_101
                · skip
                  have t_32 := Int32.toInt_inj.symm.mp c_32
                  refine lv_aload_n hx hb dX6_changeRange_87 rfl (lv_at hl 0 rfl) ?_
                  refine lv_iload_n hx hb dX6_changeRange_88 rfl (lv_at hl 2 rfl) ?_
                  refine wr_callM (va_runV (As := [.int a2]) (rest := []) ⟨hx, hb, hml, hown, hB⟩ (m_M_close l D h cI cZ (upS 19 0 a4 S) hI_31 a2 (by omega) (show ASM (upS 19 0 a4 S) from hAS)) (cwV 1 hB (gV k3_166 k3_168 ks_386 k1_7 k3_169) rfl rfl rfl (by decide +kernel) ⟨Nat.le_of_ble_eq_true rfl, Nat.le_of_ble_eq_true rfl⟩) ⟨wr_blindM, va_recv hK hP (ci := 6) (q0 := 0) rfl rfl, wr_preM hP hK hN hD⟩ rfl rfl hl.1 rfl (lv_room (Nat.le_of_ble_eq_true rfl)) dX6_changeRange_89 ⟨Nat.le_of_ble_eq_true rfl, Nat.le_of_ble_eq_true rfl⟩) hS (fun H locs hP hI_35 hS => ?_)
                  have hD := wDM (S2 := (F_M_close (upS 19 0 a4 S) a2).2) hD
                  refine lv_goto (tgt := 101) hx hb dX6_changeRange_92 (by decide) ?_
                  exact W.iret (v := (F_M_close (upS 19 0 a4 S) a2).1) hx hb hr (fun t ht hW => ⟨⟨(F_M_close (upS 19 0 a4 S) a2).1, (F_M_close (upS 19 0 a4 S) a2).2, rfl, ⟨(by rw [F_M_changeRange, if_neg c_2, if_neg c_4, if_pos c_5, if_neg c_25, if_pos c_27, if_neg c_29, if_neg c_30, if_pos c_32]), hI_35⟩, by show va_P D vwCl _ t.heap; rw [ht]; exact hP⟩, hS.F ht⟩) hS.2.2 dX6_changeRange_101
              · skip
                have t_30 := Int32.toInt_inj.symm.mp c_30
                refine lv_aload_n hx hb dX6_changeRange_63 rfl (lv_at hl 0 rfl) ?_
                refine va_get (D := D) (ci := 6) (v := .int (S 22 0)) (C := RX6) (T := TX6) (N := 25) hx hb hB inX6 hown hK hP 0 rfl rfl 8 (by decide) (hB _ k3_5) (fun _ h9 => h9) rfl dX6_changeRange_64 ?_
                have b_37 : (0) ≤ (S 22 0).toInt ∧ (S 22 0).toInt ≤ 80 := ivM_22 (S := S) hI
                refine lv_iconst (v := 2) hx hb dX6_changeRange_67 (by decide) ?_
                refine lv_iadd hx hb dX6_changeRange_68 ?_
                have z_2 : ((2) : Int32).toInt = (2) := by decide
                have k_38 := i32_add (x := S 22 0) (y := 2) (by omega) (by omega)
                refine lv_bipush (v := 80) hx hb dX6_changeRange_69 (by decide) ?_
                refine lv_icmp_le (tgt := 77) hx hb dX6_changeRange_71 (by decide) (fun c_39 => ?_) (fun c_39 => ?_)
                · skip
                  have z_80 : ((80) : Int32).toInt = (80) := by decide
                  have t_39 := Int32.le_iff_toInt_le.mp c_39
                  refine lv_aload_n hx hb dX6_changeRange_77 rfl (lv_at hl 0 rfl) ?_
                  refine lv_iload hx hb dX6_changeRange_78 (lv_at hl 4 rfl) ?_
                  refine wpfM_19 (S := S) hx hb hB hown hK hP hD hS (hB _ k2_237) dX6_changeRange_80 (fun H locs hP hD hS => ?_)
                  have hI_40 : IVM (upS 19 0 a4 S) := iv_upM (S := S) hI 19 0 a4 (iv_noneM 19 rfl)
                  refine lv_iload_n hx hb dX6_changeRange_83 rfl (lv_at hl 1 rfl) ?_
                  refine lv_if_ne (tgt := 95) hx hb dX6_changeRange_84 (by decide) (fun c_41 => ?_) (fun c_41 => ?_)
                  · skip
                    have t_41 := mt Int32.toInt_inj.mp c_41
                    refine lv_aload_n hx hb dX6_changeRange_95 rfl (lv_at hl 0 rfl) ?_
                    refine lv_iload_n hx hb dX6_changeRange_96 rfl (lv_at hl 2 rfl) ?_
                    refine lv_iload_n hx hb dX6_changeRange_97 rfl (lv_at hl 3 rfl) ?_
                    refine wr_callM (va_runV (As := [.int a2, .int a3]) (rest := []) ⟨hx, hb, hml, hown, hB⟩ (m_M_split l D h cI cZ (upS 19 0 a4 S) hI_40 a2 a3 (by omega) (show ASM (upS 19 0 a4 S) from hAS) (show (S 22 0).toInt ≤ 78 by omega) (show (f_M_lowest S a2).toInt < (a3).toInt ∧ (a3).toInt ≤ (f_M_highest S a2).toInt from ⟨by omega, by omega⟩)) (cwV 2 hB (gV k3_174 k3_176 ks_382 k1_7 k3_177) rfl rfl rfl (by decide +kernel) ⟨Nat.le_of_ble_eq_true rfl, Nat.le_of_ble_eq_true rfl⟩) ⟨wr_blindM, va_recv hK hP (ci := 6) (q0 := 0) rfl rfl, wr_preM hP hK hN hD⟩ rfl rfl hl.1 rfl (lv_room (Nat.le_of_ble_eq_true rfl)) dX6_changeRange_98 ⟨Nat.le_of_ble_eq_true rfl, Nat.le_of_ble_eq_true rfl⟩) hS (fun H locs hP hI_42 hS => ?_)
                    have hD := wDM (S2 := (F_M_split (upS 19 0 a4 S) a2 a3).2) hD
                    exact W.iret (v := (F_M_split (upS 19 0 a4 S) a2 a3).1) hx hb hr (fun t ht hW => ⟨⟨(F_M_split (upS 19 0 a4 S) a2 a3).1, (F_M_split (upS 19 0 a4 S) a2 a3).2, rfl, ⟨(by rw [F_M_changeRange, if_neg c_2, if_neg c_4, if_pos c_5, if_neg c_25, if_pos c_27, if_neg c_29, if_pos c_30, if_pos c_39, if_neg c_41]), hI_42⟩, by show va_P D vwCl _ t.heap; rw [ht]; exact hP⟩, hS.F ht⟩) hS.2.2 dX6_changeRange_101
                  · skip
                    have t_41 := Int32.toInt_inj.symm.mp c_41
                    refine lv_aload_n hx hb dX6_changeRange_87 rfl (lv_at hl 0 rfl) ?_
                    refine lv_iload_n hx hb dX6_changeRange_88 rfl (lv_at hl 2 rfl) ?_
                    refine wr_callM (va_runV (As := [.int a2]) (rest := []) ⟨hx, hb, hml, hown, hB⟩ (m_M_close l D h cI cZ (upS 19 0 a4 S) hI_40 a2 (by omega) (show ASM (upS 19 0 a4 S) from hAS)) (cwV 1 hB (gV k3_166 k3_168 ks_386 k1_7 k3_169) rfl rfl rfl (by decide +kernel) ⟨Nat.le_of_ble_eq_true rfl, Nat.le_of_ble_eq_true rfl⟩) ⟨wr_blindM, va_recv hK hP (ci := 6) (q0 := 0) rfl rfl, wr_preM hP hK hN hD⟩ rfl rfl hl.1 rfl (lv_room (Nat.le_of_ble_eq_true rfl)) dX6_changeRange_89 ⟨Nat.le_of_ble_eq_true rfl, Nat.le_of_ble_eq_true rfl⟩) hS (fun H locs hP hI_44 hS => ?_)
                    have hD := wDM (S2 := (F_M_close (upS 19 0 a4 S) a2).2) hD
                    refine lv_goto (tgt := 101) hx hb dX6_changeRange_92 (by decide) ?_
                    exact W.iret (v := (F_M_close (upS 19 0 a4 S) a2).1) hx hb hr (fun t ht hW => ⟨⟨(F_M_close (upS 19 0 a4 S) a2).1, (F_M_close (upS 19 0 a4 S) a2).2, rfl, ⟨(by rw [F_M_changeRange, if_neg c_2, if_neg c_4, if_pos c_5, if_neg c_25, if_pos c_27, if_neg c_29, if_pos c_30, if_pos c_39, if_pos c_41]), hI_44⟩, by show va_P D vwCl _ t.heap; rw [ht]; exact hP⟩, hS.F ht⟩) hS.2.2 dX6_changeRange_101
                · skip
                  have z_80 : ((80) : Int32).toInt = (80) := by decide
                  have t_39 := mt Int32.le_iff_toInt_le.mpr c_39
                  refine lv_bipush (v := (-14)) hx hb dX6_changeRange_74 (by decide) ?_
                  exact W.iret (v := (-14)) hx hb hr (fun t ht hW => ⟨⟨(-14), S, rfl, ⟨(by rw [F_M_changeRange, if_neg c_2, if_neg c_4, if_pos c_5, if_neg c_25, if_pos c_27, if_neg c_29, if_pos c_30, if_neg c_39]), hI⟩, by show va_P D vwCl _ t.heap; rw [ht]; exact hP⟩, hS.F ht⟩) hS.2.2 dX6_changeRange_76
            · skip
              have z_0 : ((0) : Int32).toInt = (0) := by decide
              have t_29 := Int32.toInt_inj.symm.mp c_29
              refine lv_bipush (v := (-13)) hx hb dX6_changeRange_55 (by decide) ?_
              exact W.iret (v := (-13)) hx hb hr (fun t ht hW => ⟨⟨(-13), S, rfl, ⟨(by rw [F_M_changeRange, if_neg c_2, if_neg c_4, if_pos c_5, if_neg c_25, if_pos c_27, if_pos c_29]), hI⟩, by show va_P D vwCl _ t.heap; rw [ht]; exact hP⟩, hS.F ht⟩) hS.2.2 dX6_changeRange_57
          · skip
            have t_27 := mt Int32.le_iff_toInt_le.mpr c_27
            refine lv_bipush (v := (-12)) hx hb dX6_changeRange_43 (by decide) ?_
            exact W.iret (v := (-12)) hx hb hr (fun t ht hW => ⟨⟨(-12), S, rfl, ⟨(by rw [F_M_changeRange, if_neg c_2, if_neg c_4, if_pos c_5, if_neg c_25, if_neg c_27]), hI⟩, by show va_P D vwCl _ t.heap; rw [ht]; exact hP⟩, hS.F ht⟩) hS.2.2 dX6_changeRange_45
  · skip
    refine lv_bipush (v := (-11)) hx hb dX6_changeRange_8 (by decide) ?_
    exact W.iret (v := (-11)) hx hb hr (fun t ht hW => ⟨⟨(-11), S, rfl, ⟨(by rw [F_M_changeRange, if_pos c_2]), hI⟩, by show va_P D vwCl _ t.heap; rw [ht]; exact hP⟩, hS.F ht⟩) hS.2.2 dX6_changeRange_10
set_option maxHeartbeats 4000000 in
set_option maxRecDepth 100000 in
theorem m_M_changeStreets (l : Launch) (D : va_G) (h : Nat → Nat) (cI cZ : ClassId) (S : BS) (hI : IVM S) (a1 a2 a3 : Int32) (hAS : ASM S) (hroom : (S 24 0).toInt ≤ 4880) : WMM l yX6_changeStreets wsX6_changeStreets { frames := 4, cells := 0, slots := 0, locals := 93 } D cI cZ h S [.ref (h 0), .int a1, .int a2, .int a3] (F_M_changeStreets S a1 a2 a3) := by
  refine Met.ofW (cc := cX6_changeStreets) (maxL := 5) (ret := (some .int)) (by decide) rfl ?_
  intro p e s m args below meth c s₁ B hml hv
  obtain ⟨rfl, hP, hK, hN, hD0⟩ := hv
  have hx := B.exec
  have hb := B.bytes
  have hr := B.returns
  have hts := atoms_spec (ws := wsX6_changeStreets) B.pre
  have hB : ∀ w ∈ BW, w.before _ s = true := fun w h => hts w (List.mem_cons_of_mem _ h)
  have hown : s.vm.findClass RX6 = some m.cls := findClass_of_methodNamed B.named
  have hlocks := B.notSynchronized
  have hD := bDM hD0
  have hS : va_S (bAM h) s.heap s.heap [] := va_S.rf
  have hl := lv_entry ([.ref (h 0), .int a1, .int a2, .int a3]) (n := 5) (Nat.le_of_ble_eq_true rfl)
  rw [lg_entry_eq]
  generalize (lg_sl ([.ref (h 0), .int a1, .int a2, .int a3]) ++ List.replicate (5 - (lg_sl ([.ref (h 0), .int a1, .int a2, .int a3])).length) Slot.unset).toArray = ls at hl ⊢
  have hl : lv_has ls 5 [(0, .ref (h 0)), (1, .int a1), (2, .int a2), (3, .int a3)] := hl
  refine lv_aload_n hx hb dX6_changeStreets_0 rfl (lv_at hl 0 rfl) ?_
  refine lv_iload_n hx hb dX6_changeStreets_1 rfl (lv_at hl 1 rfl) ?_
  refine pu_callM (va_runV (As := [.int a1]) (rest := []) ⟨hx, hb, hml, hown, hB⟩ (m_M_isStreet l D h cI cZ S hI a1 ) (cwV 1 hB (gV k3_101 k3_103 ks_322 k1_7 k3_104) rfl rfl rfl (by decide +kernel) ⟨Nat.le_of_ble_eq_true rfl, Nat.le_of_ble_eq_true rfl⟩) ⟨pu_blindM, va_recv hK hP (ci := 6) (q0 := 0) rfl rfl, pu_preM hP hK hN⟩ rfl rfl hl.1 rfl (lv_room (Nat.le_of_ble_eq_true rfl)) dX6_changeStreets_2 ⟨Nat.le_of_ble_eq_true rfl, Nat.le_of_ble_eq_true rfl⟩) hP hS (fun H locs hP hS => ?_)
  refine lv_if_eq (tgt := 16) hx hb dX6_changeStreets_5 (by decide) (fun c_2 => ?_) (fun c_2 => ?_)
  · skip
    refine lv_bipush (v := (-11)) hx hb dX6_changeStreets_16 (by decide) ?_
    exact W.iret (v := (-11)) hx hb hr (fun t ht hW => ⟨⟨(-11), S, rfl, ⟨(by rw [F_M_changeStreets, if_pos c_2]), hI⟩, by show va_P D vwCl _ t.heap; rw [ht]; exact hP⟩, hS.F ht⟩) hS.2.2 dX6_changeStreets_18
  · skip
    have t_2 := fb_M_isStreet hI c_2
    refine lv_aload_n hx hb dX6_changeStreets_8 rfl (lv_at hl 0 rfl) ?_
    refine lv_iload_n hx hb dX6_changeStreets_9 rfl (lv_at hl 2 rfl) ?_
    refine pu_callM (va_runV (As := [.int a2]) (rest := []) ⟨hx, hb, hml, hown, hB⟩ (m_M_isStreet l D h cI cZ S hI a2 ) (cwV 1 hB (gV k3_101 k3_103 ks_322 k1_7 k3_104) rfl rfl rfl (by decide +kernel) ⟨Nat.le_of_ble_eq_true rfl, Nat.le_of_ble_eq_true rfl⟩) ⟨pu_blindM, va_recv hK hP (ci := 6) (q0 := 0) rfl rfl, pu_preM hP hK hN⟩ rfl rfl hl.1 rfl (lv_room (Nat.le_of_ble_eq_true rfl)) dX6_changeStreets_10 ⟨Nat.le_of_ble_eq_true rfl, Nat.le_of_ble_eq_true rfl⟩) hP hS (fun H locs hP hS => ?_)
    refine lv_if_ne (tgt := 19) hx hb dX6_changeStreets_13 (by decide) (fun c_4 => ?_) (fun c_4 => ?_)
    · skip
      have t_4 := fb_M_isStreet hI c_4
      refine lv_aload_n hx hb dX6_changeStreets_19 rfl (lv_at hl 0 rfl) ?_
      refine lv_iload_n hx hb dX6_changeStreets_20 rfl (lv_at hl 3 rfl) ?_
      refine pu_callM (va_runV (As := [.int a3]) (rest := []) ⟨hx, hb, hml, hown, hB⟩ (m_M_isDay l D h cI cZ S hI a3 ) (cwV 1 hB (gV k3_105 k3_107 ks_326 k1_7 k3_108) rfl rfl rfl (by decide +kernel) ⟨Nat.le_of_ble_eq_true rfl, Nat.le_of_ble_eq_true rfl⟩) ⟨pu_blindM, va_recv hK hP (ci := 6) (q0 := 0) rfl rfl, pu_preM hP hK hN⟩ rfl rfl hl.1 rfl (lv_room (Nat.le_of_ble_eq_true rfl)) dX6_changeStreets_21 ⟨Nat.le_of_ble_eq_true rfl, Nat.le_of_ble_eq_true rfl⟩) hP hS (fun H locs hP hS => ?_)
      refine lv_if_ne (tgt := 30) hx hb dX6_changeStreets_24 (by decide) (fun c_6 => ?_) (fun c_6 => ?_)
      · skip
        refine lv_iload_n hx hb dX6_changeStreets_30 rfl (lv_at hl 1 rfl) ?_
        refine lv_iload_n hx hb dX6_changeStreets_31 rfl (lv_at hl 2 rfl) ?_
        refine lv_icmp_eq (tgt := 53) hx hb dX6_changeStreets_32 (by decide) (fun c_7 => ?_) (fun c_7 => ?_)
        · skip
          refine lv_bipush (v := (-13)) hx hb dX6_changeStreets_53 (by decide) ?_
          exact W.iret (v := (-13)) hx hb hr (fun t ht hW => ⟨⟨(-13), S, rfl, ⟨(by rw [F_M_changeStreets, if_neg c_2, if_neg c_4, if_neg c_6, if_pos c_7]), hI⟩, by show va_P D vwCl _ t.heap; rw [ht]; exact hP⟩, hS.F ht⟩) hS.2.2 dX6_changeStreets_55
        · skip
          refine lv_aload_n hx hb dX6_changeStreets_35 rfl (lv_at hl 0 rfl) ?_
          refine va_get (D := D) (ci := 6) (v := .ref (h 4)) (C := RX6) (T := TX6) (N := 25) hx hb hB inX6 hown hK hP 0 rfl rfl 6 (by decide) (hB _ k3_3) (fun _ h9 => h9) rfl dX6_changeStreets_36 ?_
          refine lv_iload_n hx hb dX6_changeStreets_39 rfl (lv_at hl 1 rfl) ?_
          refine va_iald (f := S 3) hx hb hK hP 4 0 rfl rfl (vp_in_iff.mpr (by omega)) dX6_changeStreets_40 ?_
          have b_8 : (-1) ≤ (S 3 a1.toNatClampNeg).toInt ∧ (S 3 a1.toNatClampNeg).toInt ≤ 31 := ivM_3 (S := S) hI a1.toNatClampNeg
          refine lv_if_ge (tgt := 53) hx hb dX6_changeStreets_41 (by decide) (fun c_9 => ?_) (fun c_9 => ?_)
          · skip
            have z_0 : ((0) : Int32).toInt = (0) := by decide
            have t_9 := Int32.le_iff_toInt_le.mp c_9
            refine lv_bipush (v := (-13)) hx hb dX6_changeStreets_53 (by decide) ?_
            exact W.iret (v := (-13)) hx hb hr (fun t ht hW => ⟨⟨(-13), S, rfl, ⟨(by rw [F_M_changeStreets, if_neg c_2, if_neg c_4, if_neg c_6, if_neg c_7, if_pos c_9]), hI⟩, by show va_P D vwCl _ t.heap; rw [ht]; exact hP⟩, hS.F ht⟩) hS.2.2 dX6_changeStreets_55
          · skip
            have z_0 : ((0) : Int32).toInt = (0) := by decide
            have t_9 := mt Int32.le_iff_toInt_le.mpr c_9
            refine lv_aload_n hx hb dX6_changeStreets_44 rfl (lv_at hl 0 rfl) ?_
            refine va_get (D := D) (ci := 6) (v := .ref (h 4)) (C := RX6) (T := TX6) (N := 25) hx hb hB inX6 hown hK hP 0 rfl rfl 6 (by decide) (hB _ k3_3) (fun _ h9 => h9) rfl dX6_changeStreets_45 ?_
            refine lv_iload_n hx hb dX6_changeStreets_48 rfl (lv_at hl 2 rfl) ?_
            refine va_iald (f := S 3) hx hb hK hP 4 0 rfl rfl (vp_in_iff.mpr (by omega)) dX6_changeStreets_49 ?_
            have b_10 : (-1) ≤ (S 3 a2.toNatClampNeg).toInt ∧ (S 3 a2.toNatClampNeg).toInt ≤ 31 := ivM_3 (S := S) hI a2.toNatClampNeg
            refine lv_if_lt (tgt := 56) hx hb dX6_changeStreets_50 (by decide) (fun c_11 => ?_) (fun c_11 => ?_)
            · skip
              have t_11 := Int32.lt_iff_toInt_lt.mp c_11
              refine lv_aload_n hx hb dX6_changeStreets_56 rfl (lv_at hl 0 rfl) ?_
              refine lv_iload_n hx hb dX6_changeStreets_57 rfl (lv_at hl 1 rfl) ?_
              refine lv_iload_n hx hb dX6_changeStreets_58 rfl (lv_at hl 2 rfl) ?_
              refine pu_callM (va_runV (As := [.int a1, .int a2]) (rest := []) ⟨hx, hb, hml, hown, hB⟩ (m_M_clash l D h cI cZ S hI a1 a2 ) (cwV 2 hB (gV k3_182 k3_184 ks_390 k1_7 k3_185) rfl rfl rfl (by decide +kernel) ⟨Nat.le_of_ble_eq_true rfl, Nat.le_of_ble_eq_true rfl⟩) ⟨pu_blindM, va_recv hK hP (ci := 6) (q0 := 0) rfl rfl, pu_preM hP hK hN⟩ rfl rfl hl.1 rfl (lv_room (Nat.le_of_ble_eq_true rfl)) dX6_changeStreets_59 ⟨Nat.le_of_ble_eq_true rfl, Nat.le_of_ble_eq_true rfl⟩) hP hS (fun H locs hP hS => ?_)
              refine lv_istore (lv' := [(4, .int (f_M_clash S a1 a2)), (0, .ref (h 0)), (1, .int a1), (2, .int a2), (3, .int a3)]) hx hb dX6_changeStreets_62 hl (by decide) rfl (fun ls hl => ?_)
              refine lv_iload hx hb dX6_changeStreets_64 (lv_at hl 0 rfl) ?_
              refine lv_if_lt (tgt := 76) hx hb dX6_changeStreets_66 (by decide) (fun c_13 => ?_) (fun c_13 => ?_)
              · skip
                have t_13 := Int32.lt_iff_toInt_lt.mp c_13
                refine lv_aload_n hx hb dX6_changeStreets_76 rfl (lv_at hl 1 rfl) ?_
                refine lv_iload_n hx hb dX6_changeStreets_77 rfl (lv_at hl 4 rfl) ?_
                refine wpfM_19 (S := S) hx hb hB hown hK hP hD hS (hB _ k2_237) dX6_changeStreets_78 (fun H locs hP hD hS => ?_)
                have hI_14 : IVM (upS 19 0 a3 S) := iv_upM (S := S) hI 19 0 a3 (iv_noneM 19 rfl)
                refine lv_aload_n hx hb dX6_changeStreets_81 rfl (lv_at hl 1 rfl) ?_
                refine lv_iload_n hx hb dX6_changeStreets_82 rfl (lv_at hl 2 rfl) ?_
                refine lv_iload_n hx hb dX6_changeStreets_83 rfl (lv_at hl 3 rfl) ?_
                refine wr_callM (va_runV (As := [.int a1, .int a2]) (rest := []) ⟨hx, hb, hml, hown, hB⟩ (m_M_join l D h cI cZ (upS 19 0 a3 S) hI_14 a1 a2 (by omega) (by omega) (show ASM (upS 19 0 a3 S) from hAS) (show (S 24 0).toInt ≤ 4880 by omega)) (cwV 2 hB (gV k3_186 k3_188 ks_394 k1_7 k3_189) rfl rfl rfl (by decide +kernel) ⟨Nat.le_of_ble_eq_true rfl, Nat.le_of_ble_eq_true rfl⟩) ⟨wr_blindM, va_recv hK hP (ci := 6) (q0 := 0) rfl rfl, wr_preM hP hK hN hD⟩ rfl rfl hl.1 rfl (lv_room (Nat.le_of_ble_eq_true rfl)) dX6_changeStreets_84 ⟨Nat.le_of_ble_eq_true rfl, Nat.le_of_ble_eq_true rfl⟩) hS (fun H locs hP hI_15 hS => ?_)
                have hD := wDM (S2 := (F_M_join (upS 19 0 a3 S) a1 a2).2) hD
                exact W.iret (v := (F_M_join (upS 19 0 a3 S) a1 a2).1) hx hb hr (fun t ht hW => ⟨⟨(F_M_join (upS 19 0 a3 S) a1 a2).1, (F_M_join (upS 19 0 a3 S) a1 a2).2, rfl, ⟨(by rw [F_M_changeStreets, if_neg c_2, if_neg c_4, if_neg c_6, if_neg c_7, if_neg c_9, if_pos c_11, if_pos c_13]), hI_15⟩, by show va_P D vwCl _ t.heap; rw [ht]; exact hP⟩, hS.F ht⟩) hS.2.2 dX6_changeStreets_87
              · skip
                have t_13 := mt Int32.lt_iff_toInt_lt.mpr c_13
                refine lv_sipush (v := (-200)) hx hb dX6_changeStreets_69 (by decide) ?_
                refine lv_iload hx hb dX6_changeStreets_72 (lv_at hl 0 rfl) ?_
                refine lv_isub hx hb dX6_changeStreets_74 ?_
                exact W.iret (v := (-200) - (f_M_clash S a1 a2)) hx hb hr (fun t ht hW => ⟨⟨(-200) - (f_M_clash S a1 a2), S, rfl, ⟨(by rw [F_M_changeStreets, if_neg c_2, if_neg c_4, if_neg c_6, if_neg c_7, if_neg c_9, if_pos c_11, if_neg c_13]), hI⟩, by show va_P D vwCl _ t.heap; rw [ht]; exact hP⟩, hS.F ht⟩) hS.2.2 dX6_changeStreets_75
            · skip
              have t_11 := mt Int32.lt_iff_toInt_lt.mpr c_11
              refine lv_bipush (v := (-13)) hx hb dX6_changeStreets_53 (by decide) ?_
              exact W.iret (v := (-13)) hx hb hr (fun t ht hW => ⟨⟨(-13), S, rfl, ⟨(by rw [F_M_changeStreets, if_neg c_2, if_neg c_4, if_neg c_6, if_neg c_7, if_neg c_9, if_neg c_11]), hI⟩, by show va_P D vwCl _ t.heap; rw [ht]; exact hP⟩, hS.F ht⟩) hS.2.2 dX6_changeStreets_55
      · skip
        refine lv_bipush (v := (-12)) hx hb dX6_changeStreets_27 (by decide) ?_
        exact W.iret (v := (-12)) hx hb hr (fun t ht hW => ⟨⟨(-12), S, rfl, ⟨(by rw [F_M_changeStreets, if_neg c_2, if_neg c_4, if_pos c_6]), hI⟩, by show va_P D vwCl _ t.heap; rw [ht]; exact hP⟩, hS.F ht⟩) hS.2.2 dX6_changeStreets_29
    · skip
      refine lv_bipush (v := (-11)) hx hb dX6_changeStreets_16 (by decide) ?_
      exact W.iret (v := (-11)) hx hb hr (fun t ht hW => ⟨⟨(-11), S, rfl, ⟨(by rw [F_M_changeStreets, if_neg c_2, if_pos c_4]), hI⟩, by show va_P D vwCl _ t.heap; rw [ht]; exact hP⟩, hS.F ht⟩) hS.2.2 dX6_changeStreets_18
set_option maxHeartbeats 4000000 in
set_option maxRecDepth 100000 in
theorem m_M_changePoint (l : Launch) (D : va_G) (h : Nat → Nat) (cI cZ : ClassId) (S : BS) (hI : IVM S) (a1 a2 a3 a4 : Int32) (hAS : ASM S) (hroom : (S 24 0).toInt ≤ 4999) : WMM l yX6_changePoint wsX6_changePoint { frames := 3, cells := 0, slots := 0, locals := 67 } D cI cZ h S [.ref (h 0), .int a1, .int a2, .int a3, .int a4] (F_M_changePoint S a1 a2 a3 a4) := by
  refine Met.ofW (cc := cX6_changePoint) (maxL := 6) (ret := (some .int)) (by decide) rfl ?_
  intro p e s m args below meth c s₁ B hml hv
  obtain ⟨rfl, hP, hK, hN, hD0⟩ := hv
  have hx := B.exec
  have hb := B.bytes
  have hr := B.returns
  have hts := atoms_spec (ws := wsX6_changePoint) B.pre
  have hB : ∀ w ∈ BW, w.before _ s = true := fun w h => hts w (List.mem_cons_of_mem _ h)
  have hown : s.vm.findClass RX6 = some m.cls := findClass_of_methodNamed B.named
  have hlocks := B.notSynchronized
  have hD := bDM hD0
  have hS : va_S (bAM h) s.heap s.heap [] := va_S.rf
  have hl := lv_entry ([.ref (h 0), .int a1, .int a2, .int a3, .int a4]) (n := 6) (Nat.le_of_ble_eq_true rfl)
  rw [lg_entry_eq]
  generalize (lg_sl ([.ref (h 0), .int a1, .int a2, .int a3, .int a4]) ++ List.replicate (6 - (lg_sl ([.ref (h 0), .int a1, .int a2, .int a3, .int a4])).length) Slot.unset).toArray = ls at hl ⊢
  have hl : lv_has ls 6 [(0, .ref (h 0)), (1, .int a1), (2, .int a2), (3, .int a3), (4, .int a4)] := hl
  refine lv_aload_n hx hb dX6_changePoint_0 rfl (lv_at hl 0 rfl) ?_
  refine lv_iload_n hx hb dX6_changePoint_1 rfl (lv_at hl 2 rfl) ?_
  refine pu_callM (va_runV (As := [.int a2]) (rest := []) ⟨hx, hb, hml, hown, hB⟩ (m_M_isPoint l D h cI cZ S hI a2 ) (cwV 1 hB (gV k3_194 k3_196 ks_398 k1_7 k3_197) rfl rfl rfl (by decide +kernel) ⟨Nat.le_of_ble_eq_true rfl, Nat.le_of_ble_eq_true rfl⟩) ⟨pu_blindM, va_recv hK hP (ci := 6) (q0 := 0) rfl rfl, pu_preM hP hK hN⟩ rfl rfl hl.1 rfl (lv_room (Nat.le_of_ble_eq_true rfl)) dX6_changePoint_2 ⟨Nat.le_of_ble_eq_true rfl, Nat.le_of_ble_eq_true rfl⟩) hP hS (fun H locs hP hS => ?_)
  refine lv_if_ne (tgt := 11) hx hb dX6_changePoint_5 (by decide) (fun c_2 => ?_) (fun c_2 => ?_)
  · skip
    have t_2 := fb_M_isPoint hI c_2
    refine lv_aload_n hx hb dX6_changePoint_11 rfl (lv_at hl 0 rfl) ?_
    refine lv_iload hx hb dX6_changePoint_12 (lv_at hl 4 rfl) ?_
    refine pu_callM (va_runV (As := [.int a4]) (rest := []) ⟨hx, hb, hml, hown, hB⟩ (m_M_isDay l D h cI cZ S hI a4 ) (cwV 1 hB (gV k3_105 k3_107 ks_326 k1_7 k3_108) rfl rfl rfl (by decide +kernel) ⟨Nat.le_of_ble_eq_true rfl, Nat.le_of_ble_eq_true rfl⟩) ⟨pu_blindM, va_recv hK hP (ci := 6) (q0 := 0) rfl rfl, pu_preM hP hK hN⟩ rfl rfl hl.1 rfl (lv_room (Nat.le_of_ble_eq_true rfl)) dX6_changePoint_14 ⟨Nat.le_of_ble_eq_true rfl, Nat.le_of_ble_eq_true rfl⟩) hP hS (fun H locs hP hS => ?_)
    refine lv_if_eq (tgt := 39) hx hb dX6_changePoint_17 (by decide) (fun c_4 => ?_) (fun c_4 => ?_)
    · skip
      refine lv_bipush (v := (-12)) hx hb dX6_changePoint_39 (by decide) ?_
      exact W.iret (v := (-12)) hx hb hr (fun t ht hW => ⟨⟨(-12), S, rfl, ⟨(by rw [F_M_changePoint, if_neg c_2, if_pos c_4]), hI⟩, by show va_P D vwCl _ t.heap; rw [ht]; exact hP⟩, hS.F ht⟩) hS.2.2 dX6_changePoint_41
    · skip
      refine lv_iload_n hx hb dX6_changePoint_20 rfl (lv_at hl 1 rfl) ?_
      refine lv_iconst (v := 3) hx hb dX6_changePoint_21 (by decide) ?_
      refine lv_icmp_ne (tgt := 42) hx hb dX6_changePoint_22 (by decide) (fun c_5 => ?_) (fun c_5 => ?_)
      · skip
        have z_3 : ((3) : Int32).toInt = (3) := by decide
        have t_5 := mt Int32.toInt_inj.mp c_5
        refine lv_aload_n hx hb dX6_changePoint_42 rfl (lv_at hl 0 rfl) ?_
        refine va_get (D := D) (ci := 6) (v := .ref (h 13)) (C := RX6) (T := TX6) (N := 25) hx hb hB inX6 hown hK hP 0 rfl rfl 17 (by decide) (hB _ k3_14) (fun _ h9 => h9) rfl dX6_changePoint_43 ?_
        refine lv_iload_n hx hb dX6_changePoint_46 rfl (lv_at hl 2 rfl) ?_
        refine va_zald (f := S 12) hx hb hK hP 13 1 rfl rfl (vp_in_iff.mpr (by omega)) dX6_changePoint_47 ?_
        have b_6 : (0) ≤ (S 12 a2.toNatClampNeg).toInt ∧ (S 12 a2.toNatClampNeg).toInt ≤ 1 := ivM_12 (S := S) hI a2.toNatClampNeg
        refine lv_if_eq (tgt := 76) hx hb dX6_changePoint_48 (by decide) (fun c_7 => ?_) (fun c_7 => ?_)
        · skip
          have z_0 : ((0) : Int32).toInt = (0) := by decide
          have t_7 := Int32.toInt_inj.symm.mp c_7
          refine lv_bipush (v := (-13)) hx hb dX6_changePoint_76 (by decide) ?_
          exact W.iret (v := (-13)) hx hb hr (fun t ht hW => ⟨⟨(-13), S, rfl, ⟨(by rw [F_M_changePoint, if_neg c_2, if_neg c_4, if_neg c_5, if_pos c_7]), hI⟩, by show va_P D vwCl _ t.heap; rw [ht]; exact hP⟩, hS.F ht⟩) hS.2.2 dX6_changePoint_78
        · skip
          have z_0 : ((0) : Int32).toInt = (0) := by decide
          have t_7 := mt Int32.toInt_inj.mp c_7
          refine lv_iload_n hx hb dX6_changePoint_51 rfl (lv_at hl 1 rfl) ?_
          refine lv_iconst (v := 3) hx hb dX6_changePoint_52 (by decide) ?_
          refine lv_icmp_ne (tgt := 79) hx hb dX6_changePoint_53 (by decide) (fun c_8 => ?_) (fun c_8 => ?_)
          · skip
            have t_8 := mt Int32.toInt_inj.mp c_8
            refine lv_aload_n hx hb dX6_changePoint_79 rfl (lv_at hl 0 rfl) ?_
            refine lv_iload hx hb dX6_changePoint_80 (lv_at hl 4 rfl) ?_
            refine wpfM_19 (S := S) hx hb hB hown hK hP hD hS (hB _ k2_237) dX6_changePoint_82 (fun H locs hP hD hS => ?_)
            have hI_9 : IVM (upS 19 0 a4 S) := iv_upM (S := S) hI 19 0 a4 (iv_noneM 19 rfl)
            refine lv_aload_n hx hb dX6_changePoint_85 rfl (lv_at hl 0 rfl) ?_
            refine va_get (D := D) (ci := 6) (v := .ref (h 6)) (C := RX6) (T := TX6) (N := 25) hx hb hB inX6 hown hK hP 0 rfl rfl 9 (by decide) (hB _ k3_6) (fun _ h9 => h9) rfl dX6_changePoint_86 ?_
            refine lv_aload_n hx hb dX6_changePoint_89 rfl (lv_at hl 0 rfl) ?_
            refine va_get (D := D) (ci := 6) (v := .ref (h 11)) (C := RX6) (T := TX6) (N := 25) hx hb hB inX6 hown hK hP 0 rfl rfl 15 (by decide) (hB _ k3_12) (fun _ h9 => h9) rfl dX6_changePoint_90 ?_
            refine lv_iload_n hx hb dX6_changePoint_93 rfl (lv_at hl 2 rfl) ?_
            refine va_iald (f := S 10) hx hb hK hP 11 0 rfl rfl (vp_in_iff.mpr (by omega)) dX6_changePoint_94 ?_
            have b_10 : (0) ≤ (S 10 a2.toNatClampNeg).toInt ∧ (S 10 a2.toNatClampNeg).toInt ≤ 79 := ivM_10 (S := upS 19 0 a4 S) hI_9 a2.toNatClampNeg
            refine va_iald (f := S 5) hx hb hK hP 6 0 rfl rfl (vp_in_iff.mpr (by omega)) dX6_changePoint_95 ?_
            have b_11 : (0) ≤ (S 5 (S 10 a2.toNatClampNeg).toNatClampNeg).toInt ∧ (S 5 (S 10 a2.toNatClampNeg).toNatClampNeg).toInt ≤ 31 := ivM_5 (S := upS 19 0 a4 S) hI_9 ((S 10 a2.toNatClampNeg).toNatClampNeg)
            refine lv_istore (lv' := [(5, .int (S 5 (S 10 a2.toNatClampNeg).toNatClampNeg)), (0, .ref (h 0)), (1, .int a1), (2, .int a2), (3, .int a3), (4, .int a4)]) hx hb dX6_changePoint_96 hl (by decide) rfl (fun ls hl => ?_)
            refine lv_aload_n hx hb dX6_changePoint_98 rfl (lv_at hl 1 rfl) ?_
            refine lv_iload_n hx hb dX6_changePoint_99 rfl (lv_at hl 3 rfl) ?_
            refine lv_iload_n hx hb dX6_changePoint_100 rfl (lv_at hl 2 rfl) ?_
            refine lv_iconst (v := 3) hx hb dX6_changePoint_101 (by decide) ?_
            refine lv_icmp_ne (tgt := 109) hx hb dX6_changePoint_102 (by decide) (fun c_12 => ?_) (fun c_12 => ?_)
            · skip
              have t_12 := mt Int32.toInt_inj.mp c_12
              refine lv_iconst (v := 0) hx hb dX6_changePoint_109 (by decide) ?_
              refine wv_callM (va_runV (As := [.int a2, .int 0]) (rest := []) ⟨hx, hb, hml, hown, hB⟩ (m_M_endStay l D h cI cZ (upS 19 0 a4 S) hI_9 a2 0 (((show ASM (upS 19 0 a4 S) from hAS)) a2 (by omega) (show (a2).toInt < (S 23 0).toInt by omega)) (by decide)) (cwV 2 hB (gV k3_170 k3_172 ks_370 k1_7 k3_173) rfl rfl rfl (by decide +kernel) ⟨Nat.le_of_ble_eq_true rfl, Nat.le_of_ble_eq_true rfl⟩) ⟨wr_blindM, va_recv hK hP (ci := 6) (q0 := 0) rfl rfl, wr_preM hP hK hN hD⟩ rfl rfl hl.1 rfl (lv_room (Nat.le_of_ble_eq_true rfl)) dX6_changePoint_110 ⟨Nat.le_of_ble_eq_true rfl, Nat.le_of_ble_eq_true rfl⟩) hS (fun H locs hP hI_13 hS => ?_)
              have hD := wDM (S2 := (F_M_endStay (upS 19 0 a4 S) a2 0)) hD
              refine lv_iload_n hx hb dX6_changePoint_113 rfl (lv_at hl 2 rfl) ?_
              refine lv_iconst (v := 3) hx hb dX6_changePoint_114 (by decide) ?_
              refine lv_icmp_ne (tgt := 129) hx hb dX6_changePoint_115 (by decide) (fun c_15 => ?_) (fun c_15 => ?_)
              · skip
                have t_15 := mt Int32.toInt_inj.mp c_15
                refine lv_aload_n hx hb dX6_changePoint_129 rfl (lv_at hl 1 rfl) ?_
                refine va_get (D := D) (ci := 6) (v := .ref (h 13)) (C := RX6) (T := TX6) (N := 25) hx hb hB inX6 hown hK hP 0 rfl rfl 17 (by decide) (hB _ k3_14) (fun _ h9 => h9) rfl dX6_changePoint_130 ?_
                refine lv_iload_n hx hb dX6_changePoint_133 rfl (lv_at hl 3 rfl) ?_
                refine lv_iconst (v := 0) hx hb dX6_changePoint_134 (by decide) ?_
                refine wstM_12 (S := (F_M_endStay (upS 19 0 a4 S) a2 0)) hx hb hK hP hD hS (vp_in_iff.mpr (by omega)) (by first | rfl | decide) dX6_changePoint_135 (fun H locs hP hD hS => ?_)
                have hI_16 : IVM (upS 12 a2.toNatClampNeg 0 (F_M_endStay (upS 19 0 a4 S) a2 0)) := iv_upM (S := (F_M_endStay (upS 19 0 a4 S) a2 0)) hI_13 12 a2.toNatClampNeg 0 (iv_oneM 12 (0) 1 rfl (by decide))
                refine lv_iconst (v := 1) hx hb dX6_changePoint_136 (by decide) ?_
                exact W.iret (v := 1) hx hb hr (fun t ht hW => ⟨⟨1, upS 12 a2.toNatClampNeg 0 (F_M_endStay (upS 19 0 a4 S) a2 0), rfl, ⟨(by rw [F_M_changePoint, if_neg c_2, if_neg c_4, if_neg c_5, if_neg c_7, if_neg c_8, if_neg c_12, if_neg c_15]), hI_16⟩, by show va_P D vwCl _ t.heap; rw [ht]; exact hP⟩, hS.F ht⟩) hS.2.2 dX6_changePoint_137
              · skip
                have t_15 := Int32.toInt_inj.symm.mp c_15
                refine lv_aload_n hx hb dX6_changePoint_118 rfl (lv_at hl 1 rfl) ?_
                refine lv_iload_n hx hb dX6_changePoint_119 rfl (lv_at hl 3 rfl) ?_
                refine lv_iload hx hb dX6_changePoint_120 (lv_at hl 0 rfl) ?_
                refine lv_iload_n hx hb dX6_changePoint_122 rfl (lv_at hl 4 rfl) ?_
                refine wv_callM (va_runV (As := [.int a2, .int (S 5 (S 10 a2.toNatClampNeg).toNatClampNeg), .int a3]) (rest := []) ⟨hx, hb, hml, hown, hB⟩ (m_M_stay l D h cI cZ (F_M_endStay (upS 19 0 a4 S) a2 0) hI_13 a2 (S 5 (S 10 a2.toNatClampNeg).toNatClampNeg) a3 (show (S 24 0).toInt ≤ 4999 by omega) (by omega) (by omega) (by omega)) (cwV 3 hB (gV k3_145 k3_147 ks_366 k1_7 k3_148) rfl rfl rfl (by decide +kernel) ⟨Nat.le_of_ble_eq_true rfl, Nat.le_of_ble_eq_true rfl⟩) ⟨wr_blindM, va_recv hK hP (ci := 6) (q0 := 0) rfl rfl, wr_preM hP hK hN hD⟩ rfl rfl hl.1 rfl (lv_room (Nat.le_of_ble_eq_true rfl)) dX6_changePoint_123 ⟨Nat.le_of_ble_eq_true rfl, Nat.le_of_ble_eq_true rfl⟩) hS (fun H locs hP hI_17 hS => ?_)
                have hD := wDM (S2 := (F_M_stay (F_M_endStay (upS 19 0 a4 S) a2 0) a2 (S 5 (S 10 a2.toNatClampNeg).toNatClampNeg) a3)) hD
                refine lv_goto (tgt := 136) hx hb dX6_changePoint_126 (by decide) ?_
                refine lv_iconst (v := 1) hx hb dX6_changePoint_136 (by decide) ?_
                exact W.iret (v := 1) hx hb hr (fun t ht hW => ⟨⟨1, (F_M_stay (F_M_endStay (upS 19 0 a4 S) a2 0) a2 (S 5 (S 10 a2.toNatClampNeg).toNatClampNeg) a3), rfl, ⟨(by rw [F_M_changePoint, if_neg c_2, if_neg c_4, if_neg c_5, if_neg c_7, if_neg c_8, if_neg c_12, if_pos c_15]), hI_17⟩, by show va_P D vwCl _ t.heap; rw [ht]; exact hP⟩, hS.F ht⟩) hS.2.2 dX6_changePoint_137
            · skip
              have t_12 := Int32.toInt_inj.symm.mp c_12
              refine lv_iconst (v := 1) hx hb dX6_changePoint_105 (by decide) ?_
              refine lv_goto (tgt := 110) hx hb dX6_changePoint_106 (by decide) ?_
              refine wv_callM (va_runV (As := [.int a2, .int 1]) (rest := []) ⟨hx, hb, hml, hown, hB⟩ (m_M_endStay l D h cI cZ (upS 19 0 a4 S) hI_9 a2 1 (((show ASM (upS 19 0 a4 S) from hAS)) a2 (by omega) (show (a2).toInt < (S 23 0).toInt by omega)) (by decide)) (cwV 2 hB (gV k3_170 k3_172 ks_370 k1_7 k3_173) rfl rfl rfl (by decide +kernel) ⟨Nat.le_of_ble_eq_true rfl, Nat.le_of_ble_eq_true rfl⟩) ⟨wr_blindM, va_recv hK hP (ci := 6) (q0 := 0) rfl rfl, wr_preM hP hK hN hD⟩ rfl rfl hl.1 rfl (lv_room (Nat.le_of_ble_eq_true rfl)) dX6_changePoint_110 ⟨Nat.le_of_ble_eq_true rfl, Nat.le_of_ble_eq_true rfl⟩) hS (fun H locs hP hI_19 hS => ?_)
              have hD := wDM (S2 := (F_M_endStay (upS 19 0 a4 S) a2 1)) hD
              refine lv_iload_n hx hb dX6_changePoint_113 rfl (lv_at hl 2 rfl) ?_
              refine lv_iconst (v := 3) hx hb dX6_changePoint_114 (by decide) ?_
              refine lv_icmp_ne (tgt := 129) hx hb dX6_changePoint_115 (by decide) (fun c_21 => ?_) (fun c_21 => ?_)
              · skip
                have t_21 := mt Int32.toInt_inj.mp c_21
                refine lv_aload_n hx hb dX6_changePoint_129 rfl (lv_at hl 1 rfl) ?_
                refine va_get (D := D) (ci := 6) (v := .ref (h 13)) (C := RX6) (T := TX6) (N := 25) hx hb hB inX6 hown hK hP 0 rfl rfl 17 (by decide) (hB _ k3_14) (fun _ h9 => h9) rfl dX6_changePoint_130 ?_
                refine lv_iload_n hx hb dX6_changePoint_133 rfl (lv_at hl 3 rfl) ?_
                refine lv_iconst (v := 0) hx hb dX6_changePoint_134 (by decide) ?_
                refine wstM_12 (S := (F_M_endStay (upS 19 0 a4 S) a2 1)) hx hb hK hP hD hS (vp_in_iff.mpr (by omega)) (by first | rfl | decide) dX6_changePoint_135 (fun H locs hP hD hS => ?_)
                have hI_22 : IVM (upS 12 a2.toNatClampNeg 0 (F_M_endStay (upS 19 0 a4 S) a2 1)) := iv_upM (S := (F_M_endStay (upS 19 0 a4 S) a2 1)) hI_19 12 a2.toNatClampNeg 0 (iv_oneM 12 (0) 1 rfl (by decide))
                refine lv_iconst (v := 1) hx hb dX6_changePoint_136 (by decide) ?_
                exact W.iret (v := 1) hx hb hr (fun t ht hW => ⟨⟨1, upS 12 a2.toNatClampNeg 0 (F_M_endStay (upS 19 0 a4 S) a2 1), rfl, ⟨(by rw [F_M_changePoint, if_neg c_2, if_neg c_4, if_neg c_5, if_neg c_7, if_neg c_8, if_pos c_12, if_neg c_21]), hI_22⟩, by show va_P D vwCl _ t.heap; rw [ht]; exact hP⟩, hS.F ht⟩) hS.2.2 dX6_changePoint_137
              · skip
                have t_21 := Int32.toInt_inj.symm.mp c_21
                refine lv_aload_n hx hb dX6_changePoint_118 rfl (lv_at hl 1 rfl) ?_
                refine lv_iload_n hx hb dX6_changePoint_119 rfl (lv_at hl 3 rfl) ?_
                refine lv_iload hx hb dX6_changePoint_120 (lv_at hl 0 rfl) ?_
                refine lv_iload_n hx hb dX6_changePoint_122 rfl (lv_at hl 4 rfl) ?_
                refine wv_callM (va_runV (As := [.int a2, .int (S 5 (S 10 a2.toNatClampNeg).toNatClampNeg), .int a3]) (rest := []) ⟨hx, hb, hml, hown, hB⟩ (m_M_stay l D h cI cZ (F_M_endStay (upS 19 0 a4 S) a2 1) hI_19 a2 (S 5 (S 10 a2.toNatClampNeg).toNatClampNeg) a3 (show (S 24 0).toInt ≤ 4999 by omega) (by omega) (by omega) (by omega)) (cwV 3 hB (gV k3_145 k3_147 ks_366 k1_7 k3_148) rfl rfl rfl (by decide +kernel) ⟨Nat.le_of_ble_eq_true rfl, Nat.le_of_ble_eq_true rfl⟩) ⟨wr_blindM, va_recv hK hP (ci := 6) (q0 := 0) rfl rfl, wr_preM hP hK hN hD⟩ rfl rfl hl.1 rfl (lv_room (Nat.le_of_ble_eq_true rfl)) dX6_changePoint_123 ⟨Nat.le_of_ble_eq_true rfl, Nat.le_of_ble_eq_true rfl⟩) hS (fun H locs hP hI_23 hS => ?_)
                have hD := wDM (S2 := (F_M_stay (F_M_endStay (upS 19 0 a4 S) a2 1) a2 (S 5 (S 10 a2.toNatClampNeg).toNatClampNeg) a3)) hD
                refine lv_goto (tgt := 136) hx hb dX6_changePoint_126 (by decide) ?_
                refine lv_iconst (v := 1) hx hb dX6_changePoint_136 (by decide) ?_
                exact W.iret (v := 1) hx hb hr (fun t ht hW => ⟨⟨1, (F_M_stay (F_M_endStay (upS 19 0 a4 S) a2 1) a2 (S 5 (S 10 a2.toNatClampNeg).toNatClampNeg) a3), rfl, ⟨(by rw [F_M_changePoint, if_neg c_2, if_neg c_4, if_neg c_5, if_neg c_7, if_neg c_8, if_pos c_12, if_pos c_21]), hI_23⟩, by show va_P D vwCl _ t.heap; rw [ht]; exact hP⟩, hS.F ht⟩) hS.2.2 dX6_changePoint_137
          · skip
            have t_8 := Int32.toInt_inj.symm.mp c_8
            refine lv_aload_n hx hb dX6_changePoint_56 rfl (lv_at hl 0 rfl) ?_
            refine lv_aload_n hx hb dX6_changePoint_57 rfl (lv_at hl 0 rfl) ?_
            refine va_get (D := D) (ci := 6) (v := .ref (h 11)) (C := RX6) (T := TX6) (N := 25) hx hb hB inX6 hown hK hP 0 rfl rfl 15 (by decide) (hB _ k3_12) (fun _ h9 => h9) rfl dX6_changePoint_58 ?_
            refine lv_iload_n hx hb dX6_changePoint_61 rfl (lv_at hl 2 rfl) ?_
            refine va_iald (f := S 10) hx hb hK hP 11 0 rfl rfl (vp_in_iff.mpr (by omega)) dX6_changePoint_62 ?_
            have b_25 : (0) ≤ (S 10 a2.toNatClampNeg).toInt ∧ (S 10 a2.toNatClampNeg).toInt ≤ 79 := ivM_10 (S := S) hI a2.toNatClampNeg
            refine lv_iload_n hx hb dX6_changePoint_63 rfl (lv_at hl 3 rfl) ?_
            refine lv_aload_n hx hb dX6_changePoint_64 rfl (lv_at hl 0 rfl) ?_
            refine va_get (D := D) (ci := 6) (v := .ref (h 12)) (C := RX6) (T := TX6) (N := 25) hx hb hB inX6 hown hK hP 0 rfl rfl 16 (by decide) (hB _ k3_13) (fun _ h9 => h9) rfl dX6_changePoint_65 ?_
            refine lv_iload_n hx hb dX6_changePoint_68 rfl (lv_at hl 2 rfl) ?_
            refine va_iald (f := S 11) hx hb hK hP 12 0 rfl rfl (vp_in_iff.mpr (by omega)) dX6_changePoint_69 ?_
            refine pu_callM (va_runV (As := [.int (S 10 a2.toNatClampNeg), .int a3, .int (S 11 a2.toNatClampNeg)]) (rest := []) ⟨hx, hb, hml, hown, hB⟩ (m_M_pointWith l D h cI cZ S hI (S 10 a2.toNatClampNeg) a3 (S 11 a2.toNatClampNeg) (show ASM (S) from hAS)) (cwV 3 hB (gV k3_133 k3_135 ks_362 k1_7 k3_136) rfl rfl rfl (by decide +kernel) ⟨Nat.le_of_ble_eq_true rfl, Nat.le_of_ble_eq_true rfl⟩) ⟨pu_blindM, va_recv hK hP (ci := 6) (q0 := 0) rfl rfl, pu_preM hP hK hN⟩ rfl rfl hl.1 rfl (lv_room (Nat.le_of_ble_eq_true rfl)) dX6_changePoint_70 ⟨Nat.le_of_ble_eq_true rfl, Nat.le_of_ble_eq_true rfl⟩) hP hS (fun H locs hP hS => ?_)
            refine lv_if_lt (tgt := 79) hx hb dX6_changePoint_73 (by decide) (fun c_27 => ?_) (fun c_27 => ?_)
            · skip
              have t_27 := Int32.lt_iff_toInt_lt.mp c_27
              refine lv_aload_n hx hb dX6_changePoint_79 rfl (lv_at hl 0 rfl) ?_
              refine lv_iload hx hb dX6_changePoint_80 (lv_at hl 4 rfl) ?_
              refine wpfM_19 (S := S) hx hb hB hown hK hP hD hS (hB _ k2_237) dX6_changePoint_82 (fun H locs hP hD hS => ?_)
              have hI_28 : IVM (upS 19 0 a4 S) := iv_upM (S := S) hI 19 0 a4 (iv_noneM 19 rfl)
              refine lv_aload_n hx hb dX6_changePoint_85 rfl (lv_at hl 0 rfl) ?_
              refine va_get (D := D) (ci := 6) (v := .ref (h 6)) (C := RX6) (T := TX6) (N := 25) hx hb hB inX6 hown hK hP 0 rfl rfl 9 (by decide) (hB _ k3_6) (fun _ h9 => h9) rfl dX6_changePoint_86 ?_
              refine lv_aload_n hx hb dX6_changePoint_89 rfl (lv_at hl 0 rfl) ?_
              refine va_get (D := D) (ci := 6) (v := .ref (h 11)) (C := RX6) (T := TX6) (N := 25) hx hb hB inX6 hown hK hP 0 rfl rfl 15 (by decide) (hB _ k3_12) (fun _ h9 => h9) rfl dX6_changePoint_90 ?_
              refine lv_iload_n hx hb dX6_changePoint_93 rfl (lv_at hl 2 rfl) ?_
              refine va_iald (f := S 10) hx hb hK hP 11 0 rfl rfl (vp_in_iff.mpr (by omega)) dX6_changePoint_94 ?_
              have b_29 : (0) ≤ (S 10 a2.toNatClampNeg).toInt ∧ (S 10 a2.toNatClampNeg).toInt ≤ 79 := ivM_10 (S := upS 19 0 a4 S) hI_28 a2.toNatClampNeg
              refine va_iald (f := S 5) hx hb hK hP 6 0 rfl rfl (vp_in_iff.mpr (by omega)) dX6_changePoint_95 ?_
              have b_30 : (0) ≤ (S 5 (S 10 a2.toNatClampNeg).toNatClampNeg).toInt ∧ (S 5 (S 10 a2.toNatClampNeg).toNatClampNeg).toInt ≤ 31 := ivM_5 (S := upS 19 0 a4 S) hI_28 ((S 10 a2.toNatClampNeg).toNatClampNeg)
              refine lv_istore (lv' := [(5, .int (S 5 (S 10 a2.toNatClampNeg).toNatClampNeg)), (0, .ref (h 0)), (1, .int a1), (2, .int a2), (3, .int a3), (4, .int a4)]) hx hb dX6_changePoint_96 hl (by decide) rfl (fun ls hl => ?_)
              refine lv_aload_n hx hb dX6_changePoint_98 rfl (lv_at hl 1 rfl) ?_
              refine lv_iload_n hx hb dX6_changePoint_99 rfl (lv_at hl 3 rfl) ?_
              refine lv_iload_n hx hb dX6_changePoint_100 rfl (lv_at hl 2 rfl) ?_
              refine lv_iconst (v := 3) hx hb dX6_changePoint_101 (by decide) ?_
              refine lv_icmp_ne (tgt := 109) hx hb dX6_changePoint_102 (by decide) (fun c_31 => ?_) (fun c_31 => ?_)
              · skip
                have t_31 := mt Int32.toInt_inj.mp c_31
                refine lv_iconst (v := 0) hx hb dX6_changePoint_109 (by decide) ?_
                refine wv_callM (va_runV (As := [.int a2, .int 0]) (rest := []) ⟨hx, hb, hml, hown, hB⟩ (m_M_endStay l D h cI cZ (upS 19 0 a4 S) hI_28 a2 0 (((show ASM (upS 19 0 a4 S) from hAS)) a2 (by omega) (show (a2).toInt < (S 23 0).toInt by omega)) (by decide)) (cwV 2 hB (gV k3_170 k3_172 ks_370 k1_7 k3_173) rfl rfl rfl (by decide +kernel) ⟨Nat.le_of_ble_eq_true rfl, Nat.le_of_ble_eq_true rfl⟩) ⟨wr_blindM, va_recv hK hP (ci := 6) (q0 := 0) rfl rfl, wr_preM hP hK hN hD⟩ rfl rfl hl.1 rfl (lv_room (Nat.le_of_ble_eq_true rfl)) dX6_changePoint_110 ⟨Nat.le_of_ble_eq_true rfl, Nat.le_of_ble_eq_true rfl⟩) hS (fun H locs hP hI_32 hS => ?_)
                have hD := wDM (S2 := (F_M_endStay (upS 19 0 a4 S) a2 0)) hD
                refine lv_iload_n hx hb dX6_changePoint_113 rfl (lv_at hl 2 rfl) ?_
                refine lv_iconst (v := 3) hx hb dX6_changePoint_114 (by decide) ?_
                refine lv_icmp_ne (tgt := 129) hx hb dX6_changePoint_115 (by decide) (fun c_34 => ?_) (fun c_34 => ?_)
                · skip
                  have t_34 := mt Int32.toInt_inj.mp c_34
                  refine lv_aload_n hx hb dX6_changePoint_129 rfl (lv_at hl 1 rfl) ?_
                  refine va_get (D := D) (ci := 6) (v := .ref (h 13)) (C := RX6) (T := TX6) (N := 25) hx hb hB inX6 hown hK hP 0 rfl rfl 17 (by decide) (hB _ k3_14) (fun _ h9 => h9) rfl dX6_changePoint_130 ?_
                  refine lv_iload_n hx hb dX6_changePoint_133 rfl (lv_at hl 3 rfl) ?_
                  refine lv_iconst (v := 0) hx hb dX6_changePoint_134 (by decide) ?_
                  refine wstM_12 (S := (F_M_endStay (upS 19 0 a4 S) a2 0)) hx hb hK hP hD hS (vp_in_iff.mpr (by omega)) (by first | rfl | decide) dX6_changePoint_135 (fun H locs hP hD hS => ?_)
                  have hI_35 : IVM (upS 12 a2.toNatClampNeg 0 (F_M_endStay (upS 19 0 a4 S) a2 0)) := iv_upM (S := (F_M_endStay (upS 19 0 a4 S) a2 0)) hI_32 12 a2.toNatClampNeg 0 (iv_oneM 12 (0) 1 rfl (by decide))
                  refine lv_iconst (v := 1) hx hb dX6_changePoint_136 (by decide) ?_
                  exact W.iret (v := 1) hx hb hr (fun t ht hW => ⟨⟨1, upS 12 a2.toNatClampNeg 0 (F_M_endStay (upS 19 0 a4 S) a2 0), rfl, ⟨(by rw [F_M_changePoint, if_neg c_2, if_neg c_4, if_neg c_5, if_neg c_7, if_pos c_8, if_pos c_27, if_neg c_31, if_neg c_34]), hI_35⟩, by show va_P D vwCl _ t.heap; rw [ht]; exact hP⟩, hS.F ht⟩) hS.2.2 dX6_changePoint_137
                · skip
                  have t_34 := Int32.toInt_inj.symm.mp c_34
                  refine lv_aload_n hx hb dX6_changePoint_118 rfl (lv_at hl 1 rfl) ?_
                  refine lv_iload_n hx hb dX6_changePoint_119 rfl (lv_at hl 3 rfl) ?_
                  refine lv_iload hx hb dX6_changePoint_120 (lv_at hl 0 rfl) ?_
                  refine lv_iload_n hx hb dX6_changePoint_122 rfl (lv_at hl 4 rfl) ?_
                  refine wv_callM (va_runV (As := [.int a2, .int (S 5 (S 10 a2.toNatClampNeg).toNatClampNeg), .int a3]) (rest := []) ⟨hx, hb, hml, hown, hB⟩ (m_M_stay l D h cI cZ (F_M_endStay (upS 19 0 a4 S) a2 0) hI_32 a2 (S 5 (S 10 a2.toNatClampNeg).toNatClampNeg) a3 (show (S 24 0).toInt ≤ 4999 by omega) (by omega) (by omega) (by omega)) (cwV 3 hB (gV k3_145 k3_147 ks_366 k1_7 k3_148) rfl rfl rfl (by decide +kernel) ⟨Nat.le_of_ble_eq_true rfl, Nat.le_of_ble_eq_true rfl⟩) ⟨wr_blindM, va_recv hK hP (ci := 6) (q0 := 0) rfl rfl, wr_preM hP hK hN hD⟩ rfl rfl hl.1 rfl (lv_room (Nat.le_of_ble_eq_true rfl)) dX6_changePoint_123 ⟨Nat.le_of_ble_eq_true rfl, Nat.le_of_ble_eq_true rfl⟩) hS (fun H locs hP hI_36 hS => ?_)
                  have hD := wDM (S2 := (F_M_stay (F_M_endStay (upS 19 0 a4 S) a2 0) a2 (S 5 (S 10 a2.toNatClampNeg).toNatClampNeg) a3)) hD
                  refine lv_goto (tgt := 136) hx hb dX6_changePoint_126 (by decide) ?_
                  refine lv_iconst (v := 1) hx hb dX6_changePoint_136 (by decide) ?_
                  exact W.iret (v := 1) hx hb hr (fun t ht hW => ⟨⟨1, (F_M_stay (F_M_endStay (upS 19 0 a4 S) a2 0) a2 (S 5 (S 10 a2.toNatClampNeg).toNatClampNeg) a3), rfl, ⟨(by rw [F_M_changePoint, if_neg c_2, if_neg c_4, if_neg c_5, if_neg c_7, if_pos c_8, if_pos c_27, if_neg c_31, if_pos c_34]), hI_36⟩, by show va_P D vwCl _ t.heap; rw [ht]; exact hP⟩, hS.F ht⟩) hS.2.2 dX6_changePoint_137
              · skip
                have t_31 := Int32.toInt_inj.symm.mp c_31
                refine lv_iconst (v := 1) hx hb dX6_changePoint_105 (by decide) ?_
                refine lv_goto (tgt := 110) hx hb dX6_changePoint_106 (by decide) ?_
                refine wv_callM (va_runV (As := [.int a2, .int 1]) (rest := []) ⟨hx, hb, hml, hown, hB⟩ (m_M_endStay l D h cI cZ (upS 19 0 a4 S) hI_28 a2 1 (((show ASM (upS 19 0 a4 S) from hAS)) a2 (by omega) (show (a2).toInt < (S 23 0).toInt by omega)) (by decide)) (cwV 2 hB (gV k3_170 k3_172 ks_370 k1_7 k3_173) rfl rfl rfl (by decide +kernel) ⟨Nat.le_of_ble_eq_true rfl, Nat.le_of_ble_eq_true rfl⟩) ⟨wr_blindM, va_recv hK hP (ci := 6) (q0 := 0) rfl rfl, wr_preM hP hK hN hD⟩ rfl rfl hl.1 rfl (lv_room (Nat.le_of_ble_eq_true rfl)) dX6_changePoint_110 ⟨Nat.le_of_ble_eq_true rfl, Nat.le_of_ble_eq_true rfl⟩) hS (fun H locs hP hI_38 hS => ?_)
                have hD := wDM (S2 := (F_M_endStay (upS 19 0 a4 S) a2 1)) hD
                refine lv_iload_n hx hb dX6_changePoint_113 rfl (lv_at hl 2 rfl) ?_
                refine lv_iconst (v := 3) hx hb dX6_changePoint_114 (by decide) ?_
                refine lv_icmp_ne (tgt := 129) hx hb dX6_changePoint_115 (by decide) (fun c_40 => ?_) (fun c_40 => ?_)
                · skip
                  have t_40 := mt Int32.toInt_inj.mp c_40
                  refine lv_aload_n hx hb dX6_changePoint_129 rfl (lv_at hl 1 rfl) ?_
                  refine va_get (D := D) (ci := 6) (v := .ref (h 13)) (C := RX6) (T := TX6) (N := 25) hx hb hB inX6 hown hK hP 0 rfl rfl 17 (by decide) (hB _ k3_14) (fun _ h9 => h9) rfl dX6_changePoint_130 ?_
                  refine lv_iload_n hx hb dX6_changePoint_133 rfl (lv_at hl 3 rfl) ?_
                  refine lv_iconst (v := 0) hx hb dX6_changePoint_134 (by decide) ?_
                  refine wstM_12 (S := (F_M_endStay (upS 19 0 a4 S) a2 1)) hx hb hK hP hD hS (vp_in_iff.mpr (by omega)) (by first | rfl | decide) dX6_changePoint_135 (fun H locs hP hD hS => ?_)
                  have hI_41 : IVM (upS 12 a2.toNatClampNeg 0 (F_M_endStay (upS 19 0 a4 S) a2 1)) := iv_upM (S := (F_M_endStay (upS 19 0 a4 S) a2 1)) hI_38 12 a2.toNatClampNeg 0 (iv_oneM 12 (0) 1 rfl (by decide))
                  refine lv_iconst (v := 1) hx hb dX6_changePoint_136 (by decide) ?_
                  exact W.iret (v := 1) hx hb hr (fun t ht hW => ⟨⟨1, upS 12 a2.toNatClampNeg 0 (F_M_endStay (upS 19 0 a4 S) a2 1), rfl, ⟨(by rw [F_M_changePoint, if_neg c_2, if_neg c_4, if_neg c_5, if_neg c_7, if_pos c_8, if_pos c_27, if_pos c_31, if_neg c_40]), hI_41⟩, by show va_P D vwCl _ t.heap; rw [ht]; exact hP⟩, hS.F ht⟩) hS.2.2 dX6_changePoint_137
                · skip
                  have t_40 := Int32.toInt_inj.symm.mp c_40
                  refine lv_aload_n hx hb dX6_changePoint_118 rfl (lv_at hl 1 rfl) ?_
                  refine lv_iload_n hx hb dX6_changePoint_119 rfl (lv_at hl 3 rfl) ?_
                  refine lv_iload hx hb dX6_changePoint_120 (lv_at hl 0 rfl) ?_
                  refine lv_iload_n hx hb dX6_changePoint_122 rfl (lv_at hl 4 rfl) ?_
                  refine wv_callM (va_runV (As := [.int a2, .int (S 5 (S 10 a2.toNatClampNeg).toNatClampNeg), .int a3]) (rest := []) ⟨hx, hb, hml, hown, hB⟩ (m_M_stay l D h cI cZ (F_M_endStay (upS 19 0 a4 S) a2 1) hI_38 a2 (S 5 (S 10 a2.toNatClampNeg).toNatClampNeg) a3 (show (S 24 0).toInt ≤ 4999 by omega) (by omega) (by omega) (by omega)) (cwV 3 hB (gV k3_145 k3_147 ks_366 k1_7 k3_148) rfl rfl rfl (by decide +kernel) ⟨Nat.le_of_ble_eq_true rfl, Nat.le_of_ble_eq_true rfl⟩) ⟨wr_blindM, va_recv hK hP (ci := 6) (q0 := 0) rfl rfl, wr_preM hP hK hN hD⟩ rfl rfl hl.1 rfl (lv_room (Nat.le_of_ble_eq_true rfl)) dX6_changePoint_123 ⟨Nat.le_of_ble_eq_true rfl, Nat.le_of_ble_eq_true rfl⟩) hS (fun H locs hP hI_42 hS => ?_)
                  have hD := wDM (S2 := (F_M_stay (F_M_endStay (upS 19 0 a4 S) a2 1) a2 (S 5 (S 10 a2.toNatClampNeg).toNatClampNeg) a3)) hD
                  refine lv_goto (tgt := 136) hx hb dX6_changePoint_126 (by decide) ?_
                  refine lv_iconst (v := 1) hx hb dX6_changePoint_136 (by decide) ?_
                  exact W.iret (v := 1) hx hb hr (fun t ht hW => ⟨⟨1, (F_M_stay (F_M_endStay (upS 19 0 a4 S) a2 1) a2 (S 5 (S 10 a2.toNatClampNeg).toNatClampNeg) a3), rfl, ⟨(by rw [F_M_changePoint, if_neg c_2, if_neg c_4, if_neg c_5, if_neg c_7, if_pos c_8, if_pos c_27, if_pos c_31, if_pos c_40]), hI_42⟩, by show va_P D vwCl _ t.heap; rw [ht]; exact hP⟩, hS.F ht⟩) hS.2.2 dX6_changePoint_137
            · skip
              have t_27 := mt Int32.lt_iff_toInt_lt.mpr c_27
              refine lv_bipush (v := (-13)) hx hb dX6_changePoint_76 (by decide) ?_
              exact W.iret (v := (-13)) hx hb hr (fun t ht hW => ⟨⟨(-13), S, rfl, ⟨(by rw [F_M_changePoint, if_neg c_2, if_neg c_4, if_neg c_5, if_neg c_7, if_pos c_8, if_neg c_27]), hI⟩, by show va_P D vwCl _ t.heap; rw [ht]; exact hP⟩, hS.F ht⟩) hS.2.2 dX6_changePoint_78
      · skip
        have z_3 : ((3) : Int32).toInt = (3) := by decide
        have t_5 := Int32.toInt_inj.symm.mp c_5
        refine lv_aload_n hx hb dX6_changePoint_25 rfl (lv_at hl 0 rfl) ?_
        refine lv_aload_n hx hb dX6_changePoint_26 rfl (lv_at hl 0 rfl) ?_
        refine va_get (D := D) (ci := 6) (v := .ref (h 11)) (C := RX6) (T := TX6) (N := 25) hx hb hB inX6 hown hK hP 0 rfl rfl 15 (by decide) (hB _ k3_12) (fun _ h9 => h9) rfl dX6_changePoint_27 ?_
        refine lv_iload_n hx hb dX6_changePoint_30 rfl (lv_at hl 2 rfl) ?_
        refine va_iald (f := S 10) hx hb hK hP 11 0 rfl rfl (vp_in_iff.mpr (by omega)) dX6_changePoint_31 ?_
        have b_44 : (0) ≤ (S 10 a2.toNatClampNeg).toInt ∧ (S 10 a2.toNatClampNeg).toInt ≤ 79 := ivM_10 (S := S) hI a2.toNatClampNeg
        refine lv_iload_n hx hb dX6_changePoint_32 rfl (lv_at hl 3 rfl) ?_
        refine pu_callM (va_runV (As := [.int (S 10 a2.toNatClampNeg), .int a3]) (rest := []) ⟨hx, hb, hml, hown, hB⟩ (m_M_has l D h cI cZ S hI (S 10 a2.toNatClampNeg) a3 (by omega)) (cwV 2 hB (gV k3_117 k3_119 ks_315 k1_7 k3_120) rfl rfl rfl (by decide +kernel) ⟨Nat.le_of_ble_eq_true rfl, Nat.le_of_ble_eq_true rfl⟩) ⟨pu_blindM, va_recv hK hP (ci := 6) (q0 := 0) rfl rfl, pu_preM hP hK hN⟩ rfl rfl hl.1 rfl (lv_room (Nat.le_of_ble_eq_true rfl)) dX6_changePoint_33 ⟨Nat.le_of_ble_eq_true rfl, Nat.le_of_ble_eq_true rfl⟩) hP hS (fun H locs hP hS => ?_)
        refine lv_if_ne (tgt := 42) hx hb dX6_changePoint_36 (by decide) (fun c_46 => ?_) (fun c_46 => ?_)
        · skip
          have z_10 : ((10) : Int32).toInt = (10) := by decide
          have t_46 := fb_M_has hI c_46
          refine lv_aload_n hx hb dX6_changePoint_42 rfl (lv_at hl 0 rfl) ?_
          refine va_get (D := D) (ci := 6) (v := .ref (h 13)) (C := RX6) (T := TX6) (N := 25) hx hb hB inX6 hown hK hP 0 rfl rfl 17 (by decide) (hB _ k3_14) (fun _ h9 => h9) rfl dX6_changePoint_43 ?_
          refine lv_iload_n hx hb dX6_changePoint_46 rfl (lv_at hl 2 rfl) ?_
          refine va_zald (f := S 12) hx hb hK hP 13 1 rfl rfl (vp_in_iff.mpr (by omega)) dX6_changePoint_47 ?_
          have b_47 : (0) ≤ (S 12 a2.toNatClampNeg).toInt ∧ (S 12 a2.toNatClampNeg).toInt ≤ 1 := ivM_12 (S := S) hI a2.toNatClampNeg
          refine lv_if_eq (tgt := 76) hx hb dX6_changePoint_48 (by decide) (fun c_48 => ?_) (fun c_48 => ?_)
          · skip
            have z_0 : ((0) : Int32).toInt = (0) := by decide
            have t_48 := Int32.toInt_inj.symm.mp c_48
            refine lv_bipush (v := (-13)) hx hb dX6_changePoint_76 (by decide) ?_
            exact W.iret (v := (-13)) hx hb hr (fun t ht hW => ⟨⟨(-13), S, rfl, ⟨(by rw [F_M_changePoint, if_neg c_2, if_neg c_4, if_pos c_5, if_neg c_46, if_pos c_48]), hI⟩, by show va_P D vwCl _ t.heap; rw [ht]; exact hP⟩, hS.F ht⟩) hS.2.2 dX6_changePoint_78
          · skip
            have z_0 : ((0) : Int32).toInt = (0) := by decide
            have t_48 := mt Int32.toInt_inj.mp c_48
            refine lv_iload_n hx hb dX6_changePoint_51 rfl (lv_at hl 1 rfl) ?_
            refine lv_iconst (v := 3) hx hb dX6_changePoint_52 (by decide) ?_
            refine lv_icmp_ne (tgt := 79) hx hb dX6_changePoint_53 (by decide) (fun c_49 => ?_) (fun c_49 => ?_)
            · skip
              have t_49 := mt Int32.toInt_inj.mp c_49
              refine lv_aload_n hx hb dX6_changePoint_79 rfl (lv_at hl 0 rfl) ?_
              refine lv_iload hx hb dX6_changePoint_80 (lv_at hl 4 rfl) ?_
              refine wpfM_19 (S := S) hx hb hB hown hK hP hD hS (hB _ k2_237) dX6_changePoint_82 (fun H locs hP hD hS => ?_)
              have hI_50 : IVM (upS 19 0 a4 S) := iv_upM (S := S) hI 19 0 a4 (iv_noneM 19 rfl)
              refine lv_aload_n hx hb dX6_changePoint_85 rfl (lv_at hl 0 rfl) ?_
              refine va_get (D := D) (ci := 6) (v := .ref (h 6)) (C := RX6) (T := TX6) (N := 25) hx hb hB inX6 hown hK hP 0 rfl rfl 9 (by decide) (hB _ k3_6) (fun _ h9 => h9) rfl dX6_changePoint_86 ?_
              refine lv_aload_n hx hb dX6_changePoint_89 rfl (lv_at hl 0 rfl) ?_
              refine va_get (D := D) (ci := 6) (v := .ref (h 11)) (C := RX6) (T := TX6) (N := 25) hx hb hB inX6 hown hK hP 0 rfl rfl 15 (by decide) (hB _ k3_12) (fun _ h9 => h9) rfl dX6_changePoint_90 ?_
              refine lv_iload_n hx hb dX6_changePoint_93 rfl (lv_at hl 2 rfl) ?_
              refine va_iald (f := S 10) hx hb hK hP 11 0 rfl rfl (vp_in_iff.mpr (by omega)) dX6_changePoint_94 ?_
              have b_51 : (0) ≤ (S 10 a2.toNatClampNeg).toInt ∧ (S 10 a2.toNatClampNeg).toInt ≤ 79 := ivM_10 (S := upS 19 0 a4 S) hI_50 a2.toNatClampNeg
              refine va_iald (f := S 5) hx hb hK hP 6 0 rfl rfl (vp_in_iff.mpr (by omega)) dX6_changePoint_95 ?_
              have b_52 : (0) ≤ (S 5 (S 10 a2.toNatClampNeg).toNatClampNeg).toInt ∧ (S 5 (S 10 a2.toNatClampNeg).toNatClampNeg).toInt ≤ 31 := ivM_5 (S := upS 19 0 a4 S) hI_50 ((S 10 a2.toNatClampNeg).toNatClampNeg)
              refine lv_istore (lv' := [(5, .int (S 5 (S 10 a2.toNatClampNeg).toNatClampNeg)), (0, .ref (h 0)), (1, .int a1), (2, .int a2), (3, .int a3), (4, .int a4)]) hx hb dX6_changePoint_96 hl (by decide) rfl (fun ls hl => ?_)
              refine lv_aload_n hx hb dX6_changePoint_98 rfl (lv_at hl 1 rfl) ?_
              refine lv_iload_n hx hb dX6_changePoint_99 rfl (lv_at hl 3 rfl) ?_
              refine lv_iload_n hx hb dX6_changePoint_100 rfl (lv_at hl 2 rfl) ?_
              refine lv_iconst (v := 3) hx hb dX6_changePoint_101 (by decide) ?_
              refine lv_icmp_ne (tgt := 109) hx hb dX6_changePoint_102 (by decide) (fun c_53 => ?_) (fun c_53 => ?_)
              · skip
                have t_53 := mt Int32.toInt_inj.mp c_53
                refine lv_iconst (v := 0) hx hb dX6_changePoint_109 (by decide) ?_
                refine wv_callM (va_runV (As := [.int a2, .int 0]) (rest := []) ⟨hx, hb, hml, hown, hB⟩ (m_M_endStay l D h cI cZ (upS 19 0 a4 S) hI_50 a2 0 (((show ASM (upS 19 0 a4 S) from hAS)) a2 (by omega) (show (a2).toInt < (S 23 0).toInt by omega)) (by decide)) (cwV 2 hB (gV k3_170 k3_172 ks_370 k1_7 k3_173) rfl rfl rfl (by decide +kernel) ⟨Nat.le_of_ble_eq_true rfl, Nat.le_of_ble_eq_true rfl⟩) ⟨wr_blindM, va_recv hK hP (ci := 6) (q0 := 0) rfl rfl, wr_preM hP hK hN hD⟩ rfl rfl hl.1 rfl (lv_room (Nat.le_of_ble_eq_true rfl)) dX6_changePoint_110 ⟨Nat.le_of_ble_eq_true rfl, Nat.le_of_ble_eq_true rfl⟩) hS (fun H locs hP hI_54 hS => ?_)
                have hD := wDM (S2 := (F_M_endStay (upS 19 0 a4 S) a2 0)) hD
                refine lv_iload_n hx hb dX6_changePoint_113 rfl (lv_at hl 2 rfl) ?_
                refine lv_iconst (v := 3) hx hb dX6_changePoint_114 (by decide) ?_
                refine lv_icmp_ne (tgt := 129) hx hb dX6_changePoint_115 (by decide) (fun c_56 => ?_) (fun c_56 => ?_)
                · skip
                  have t_56 := mt Int32.toInt_inj.mp c_56
                  refine lv_aload_n hx hb dX6_changePoint_129 rfl (lv_at hl 1 rfl) ?_
                  refine va_get (D := D) (ci := 6) (v := .ref (h 13)) (C := RX6) (T := TX6) (N := 25) hx hb hB inX6 hown hK hP 0 rfl rfl 17 (by decide) (hB _ k3_14) (fun _ h9 => h9) rfl dX6_changePoint_130 ?_
                  refine lv_iload_n hx hb dX6_changePoint_133 rfl (lv_at hl 3 rfl) ?_
                  refine lv_iconst (v := 0) hx hb dX6_changePoint_134 (by decide) ?_
                  refine wstM_12 (S := (F_M_endStay (upS 19 0 a4 S) a2 0)) hx hb hK hP hD hS (vp_in_iff.mpr (by omega)) (by first | rfl | decide) dX6_changePoint_135 (fun H locs hP hD hS => ?_)
                  have hI_57 : IVM (upS 12 a2.toNatClampNeg 0 (F_M_endStay (upS 19 0 a4 S) a2 0)) := iv_upM (S := (F_M_endStay (upS 19 0 a4 S) a2 0)) hI_54 12 a2.toNatClampNeg 0 (iv_oneM 12 (0) 1 rfl (by decide))
                  refine lv_iconst (v := 1) hx hb dX6_changePoint_136 (by decide) ?_
                  exact W.iret (v := 1) hx hb hr (fun t ht hW => ⟨⟨1, upS 12 a2.toNatClampNeg 0 (F_M_endStay (upS 19 0 a4 S) a2 0), rfl, ⟨(by rw [F_M_changePoint, if_neg c_2, if_neg c_4, if_pos c_5, if_neg c_46, if_neg c_48, if_neg c_49, if_neg c_53, if_neg c_56]), hI_57⟩, by show va_P D vwCl _ t.heap; rw [ht]; exact hP⟩, hS.F ht⟩) hS.2.2 dX6_changePoint_137
                · skip
                  have t_56 := Int32.toInt_inj.symm.mp c_56
                  refine lv_aload_n hx hb dX6_changePoint_118 rfl (lv_at hl 1 rfl) ?_
                  refine lv_iload_n hx hb dX6_changePoint_119 rfl (lv_at hl 3 rfl) ?_
                  refine lv_iload hx hb dX6_changePoint_120 (lv_at hl 0 rfl) ?_
                  refine lv_iload_n hx hb dX6_changePoint_122 rfl (lv_at hl 4 rfl) ?_
                  refine wv_callM (va_runV (As := [.int a2, .int (S 5 (S 10 a2.toNatClampNeg).toNatClampNeg), .int a3]) (rest := []) ⟨hx, hb, hml, hown, hB⟩ (m_M_stay l D h cI cZ (F_M_endStay (upS 19 0 a4 S) a2 0) hI_54 a2 (S 5 (S 10 a2.toNatClampNeg).toNatClampNeg) a3 (show (S 24 0).toInt ≤ 4999 by omega) (by omega) (by omega) (by omega)) (cwV 3 hB (gV k3_145 k3_147 ks_366 k1_7 k3_148) rfl rfl rfl (by decide +kernel) ⟨Nat.le_of_ble_eq_true rfl, Nat.le_of_ble_eq_true rfl⟩) ⟨wr_blindM, va_recv hK hP (ci := 6) (q0 := 0) rfl rfl, wr_preM hP hK hN hD⟩ rfl rfl hl.1 rfl (lv_room (Nat.le_of_ble_eq_true rfl)) dX6_changePoint_123 ⟨Nat.le_of_ble_eq_true rfl, Nat.le_of_ble_eq_true rfl⟩) hS (fun H locs hP hI_58 hS => ?_)
                  have hD := wDM (S2 := (F_M_stay (F_M_endStay (upS 19 0 a4 S) a2 0) a2 (S 5 (S 10 a2.toNatClampNeg).toNatClampNeg) a3)) hD
                  refine lv_goto (tgt := 136) hx hb dX6_changePoint_126 (by decide) ?_
                  refine lv_iconst (v := 1) hx hb dX6_changePoint_136 (by decide) ?_
                  exact W.iret (v := 1) hx hb hr (fun t ht hW => ⟨⟨1, (F_M_stay (F_M_endStay (upS 19 0 a4 S) a2 0) a2 (S 5 (S 10 a2.toNatClampNeg).toNatClampNeg) a3), rfl, ⟨(by rw [F_M_changePoint, if_neg c_2, if_neg c_4, if_pos c_5, if_neg c_46, if_neg c_48, if_neg c_49, if_neg c_53, if_pos c_56]), hI_58⟩, by show va_P D vwCl _ t.heap; rw [ht]; exact hP⟩, hS.F ht⟩) hS.2.2 dX6_changePoint_137
              · skip
                have t_53 := Int32.toInt_inj.symm.mp c_53
                refine lv_iconst (v := 1) hx hb dX6_changePoint_105 (by decide) ?_
                refine lv_goto (tgt := 110) hx hb dX6_changePoint_106 (by decide) ?_
                refine wv_callM (va_runV (As := [.int a2, .int 1]) (rest := []) ⟨hx, hb, hml, hown, hB⟩ (m_M_endStay l D h cI cZ (upS 19 0 a4 S) hI_50 a2 1 (((show ASM (upS 19 0 a4 S) from hAS)) a2 (by omega) (show (a2).toInt < (S 23 0).toInt by omega)) (by decide)) (cwV 2 hB (gV k3_170 k3_172 ks_370 k1_7 k3_173) rfl rfl rfl (by decide +kernel) ⟨Nat.le_of_ble_eq_true rfl, Nat.le_of_ble_eq_true rfl⟩) ⟨wr_blindM, va_recv hK hP (ci := 6) (q0 := 0) rfl rfl, wr_preM hP hK hN hD⟩ rfl rfl hl.1 rfl (lv_room (Nat.le_of_ble_eq_true rfl)) dX6_changePoint_110 ⟨Nat.le_of_ble_eq_true rfl, Nat.le_of_ble_eq_true rfl⟩) hS (fun H locs hP hI_60 hS => ?_)
                have hD := wDM (S2 := (F_M_endStay (upS 19 0 a4 S) a2 1)) hD
                refine lv_iload_n hx hb dX6_changePoint_113 rfl (lv_at hl 2 rfl) ?_
                refine lv_iconst (v := 3) hx hb dX6_changePoint_114 (by decide) ?_
                refine lv_icmp_ne (tgt := 129) hx hb dX6_changePoint_115 (by decide) (fun c_62 => ?_) (fun c_62 => ?_)
                · skip
                  have t_62 := mt Int32.toInt_inj.mp c_62
                  refine lv_aload_n hx hb dX6_changePoint_129 rfl (lv_at hl 1 rfl) ?_
                  refine va_get (D := D) (ci := 6) (v := .ref (h 13)) (C := RX6) (T := TX6) (N := 25) hx hb hB inX6 hown hK hP 0 rfl rfl 17 (by decide) (hB _ k3_14) (fun _ h9 => h9) rfl dX6_changePoint_130 ?_
                  refine lv_iload_n hx hb dX6_changePoint_133 rfl (lv_at hl 3 rfl) ?_
                  refine lv_iconst (v := 0) hx hb dX6_changePoint_134 (by decide) ?_
                  refine wstM_12 (S := (F_M_endStay (upS 19 0 a4 S) a2 1)) hx hb hK hP hD hS (vp_in_iff.mpr (by omega)) (by first | rfl | decide) dX6_changePoint_135 (fun H locs hP hD hS => ?_)
                  have hI_63 : IVM (upS 12 a2.toNatClampNeg 0 (F_M_endStay (upS 19 0 a4 S) a2 1)) := iv_upM (S := (F_M_endStay (upS 19 0 a4 S) a2 1)) hI_60 12 a2.toNatClampNeg 0 (iv_oneM 12 (0) 1 rfl (by decide))
                  refine lv_iconst (v := 1) hx hb dX6_changePoint_136 (by decide) ?_
                  exact W.iret (v := 1) hx hb hr (fun t ht hW => ⟨⟨1, upS 12 a2.toNatClampNeg 0 (F_M_endStay (upS 19 0 a4 S) a2 1), rfl, ⟨(by rw [F_M_changePoint, if_neg c_2, if_neg c_4, if_pos c_5, if_neg c_46, if_neg c_48, if_neg c_49, if_pos c_53, if_neg c_62]), hI_63⟩, by show va_P D vwCl _ t.heap; rw [ht]; exact hP⟩, hS.F ht⟩) hS.2.2 dX6_changePoint_137
                · skip
                  have t_62 := Int32.toInt_inj.symm.mp c_62
                  refine lv_aload_n hx hb dX6_changePoint_118 rfl (lv_at hl 1 rfl) ?_
                  refine lv_iload_n hx hb dX6_changePoint_119 rfl (lv_at hl 3 rfl) ?_
                  refine lv_iload hx hb dX6_changePoint_120 (lv_at hl 0 rfl) ?_
                  refine lv_iload_n hx hb dX6_changePoint_122 rfl (lv_at hl 4 rfl) ?_
                  refine wv_callM (va_runV (As := [.int a2, .int (S 5 (S 10 a2.toNatClampNeg).toNatClampNeg), .int a3]) (rest := []) ⟨hx, hb, hml, hown, hB⟩ (m_M_stay l D h cI cZ (F_M_endStay (upS 19 0 a4 S) a2 1) hI_60 a2 (S 5 (S 10 a2.toNatClampNeg).toNatClampNeg) a3 (show (S 24 0).toInt ≤ 4999 by omega) (by omega) (by omega) (by omega)) (cwV 3 hB (gV k3_145 k3_147 ks_366 k1_7 k3_148) rfl rfl rfl (by decide +kernel) ⟨Nat.le_of_ble_eq_true rfl, Nat.le_of_ble_eq_true rfl⟩) ⟨wr_blindM, va_recv hK hP (ci := 6) (q0 := 0) rfl rfl, wr_preM hP hK hN hD⟩ rfl rfl hl.1 rfl (lv_room (Nat.le_of_ble_eq_true rfl)) dX6_changePoint_123 ⟨Nat.le_of_ble_eq_true rfl, Nat.le_of_ble_eq_true rfl⟩) hS (fun H locs hP hI_64 hS => ?_)
                  have hD := wDM (S2 := (F_M_stay (F_M_endStay (upS 19 0 a4 S) a2 1) a2 (S 5 (S 10 a2.toNatClampNeg).toNatClampNeg) a3)) hD
                  refine lv_goto (tgt := 136) hx hb dX6_changePoint_126 (by decide) ?_
                  refine lv_iconst (v := 1) hx hb dX6_changePoint_136 (by decide) ?_
                  exact W.iret (v := 1) hx hb hr (fun t ht hW => ⟨⟨1, (F_M_stay (F_M_endStay (upS 19 0 a4 S) a2 1) a2 (S 5 (S 10 a2.toNatClampNeg).toNatClampNeg) a3), rfl, ⟨(by rw [F_M_changePoint, if_neg c_2, if_neg c_4, if_pos c_5, if_neg c_46, if_neg c_48, if_neg c_49, if_pos c_53, if_pos c_62]), hI_64⟩, by show va_P D vwCl _ t.heap; rw [ht]; exact hP⟩, hS.F ht⟩) hS.2.2 dX6_changePoint_137
            · skip
              have t_49 := Int32.toInt_inj.symm.mp c_49
              refine lv_aload_n hx hb dX6_changePoint_56 rfl (lv_at hl 0 rfl) ?_
              refine lv_aload_n hx hb dX6_changePoint_57 rfl (lv_at hl 0 rfl) ?_
              refine va_get (D := D) (ci := 6) (v := .ref (h 11)) (C := RX6) (T := TX6) (N := 25) hx hb hB inX6 hown hK hP 0 rfl rfl 15 (by decide) (hB _ k3_12) (fun _ h9 => h9) rfl dX6_changePoint_58 ?_
              refine lv_iload_n hx hb dX6_changePoint_61 rfl (lv_at hl 2 rfl) ?_
              refine va_iald (f := S 10) hx hb hK hP 11 0 rfl rfl (vp_in_iff.mpr (by omega)) dX6_changePoint_62 ?_
              have b_66 : (0) ≤ (S 10 a2.toNatClampNeg).toInt ∧ (S 10 a2.toNatClampNeg).toInt ≤ 79 := ivM_10 (S := S) hI a2.toNatClampNeg
              refine lv_iload_n hx hb dX6_changePoint_63 rfl (lv_at hl 3 rfl) ?_
              refine lv_aload_n hx hb dX6_changePoint_64 rfl (lv_at hl 0 rfl) ?_
              refine va_get (D := D) (ci := 6) (v := .ref (h 12)) (C := RX6) (T := TX6) (N := 25) hx hb hB inX6 hown hK hP 0 rfl rfl 16 (by decide) (hB _ k3_13) (fun _ h9 => h9) rfl dX6_changePoint_65 ?_
              refine lv_iload_n hx hb dX6_changePoint_68 rfl (lv_at hl 2 rfl) ?_
              refine va_iald (f := S 11) hx hb hK hP 12 0 rfl rfl (vp_in_iff.mpr (by omega)) dX6_changePoint_69 ?_
              refine pu_callM (va_runV (As := [.int (S 10 a2.toNatClampNeg), .int a3, .int (S 11 a2.toNatClampNeg)]) (rest := []) ⟨hx, hb, hml, hown, hB⟩ (m_M_pointWith l D h cI cZ S hI (S 10 a2.toNatClampNeg) a3 (S 11 a2.toNatClampNeg) (show ASM (S) from hAS)) (cwV 3 hB (gV k3_133 k3_135 ks_362 k1_7 k3_136) rfl rfl rfl (by decide +kernel) ⟨Nat.le_of_ble_eq_true rfl, Nat.le_of_ble_eq_true rfl⟩) ⟨pu_blindM, va_recv hK hP (ci := 6) (q0 := 0) rfl rfl, pu_preM hP hK hN⟩ rfl rfl hl.1 rfl (lv_room (Nat.le_of_ble_eq_true rfl)) dX6_changePoint_70 ⟨Nat.le_of_ble_eq_true rfl, Nat.le_of_ble_eq_true rfl⟩) hP hS (fun H locs hP hS => ?_)
              refine lv_if_lt (tgt := 79) hx hb dX6_changePoint_73 (by decide) (fun c_68 => ?_) (fun c_68 => ?_)
              · skip
                have t_68 := Int32.lt_iff_toInt_lt.mp c_68
                refine lv_aload_n hx hb dX6_changePoint_79 rfl (lv_at hl 0 rfl) ?_
                refine lv_iload hx hb dX6_changePoint_80 (lv_at hl 4 rfl) ?_
                refine wpfM_19 (S := S) hx hb hB hown hK hP hD hS (hB _ k2_237) dX6_changePoint_82 (fun H locs hP hD hS => ?_)
                have hI_69 : IVM (upS 19 0 a4 S) := iv_upM (S := S) hI 19 0 a4 (iv_noneM 19 rfl)
                refine lv_aload_n hx hb dX6_changePoint_85 rfl (lv_at hl 0 rfl) ?_
                refine va_get (D := D) (ci := 6) (v := .ref (h 6)) (C := RX6) (T := TX6) (N := 25) hx hb hB inX6 hown hK hP 0 rfl rfl 9 (by decide) (hB _ k3_6) (fun _ h9 => h9) rfl dX6_changePoint_86 ?_
                refine lv_aload_n hx hb dX6_changePoint_89 rfl (lv_at hl 0 rfl) ?_
                refine va_get (D := D) (ci := 6) (v := .ref (h 11)) (C := RX6) (T := TX6) (N := 25) hx hb hB inX6 hown hK hP 0 rfl rfl 15 (by decide) (hB _ k3_12) (fun _ h9 => h9) rfl dX6_changePoint_90 ?_
                refine lv_iload_n hx hb dX6_changePoint_93 rfl (lv_at hl 2 rfl) ?_
                refine va_iald (f := S 10) hx hb hK hP 11 0 rfl rfl (vp_in_iff.mpr (by omega)) dX6_changePoint_94 ?_
                have b_70 : (0) ≤ (S 10 a2.toNatClampNeg).toInt ∧ (S 10 a2.toNatClampNeg).toInt ≤ 79 := ivM_10 (S := upS 19 0 a4 S) hI_69 a2.toNatClampNeg
                refine va_iald (f := S 5) hx hb hK hP 6 0 rfl rfl (vp_in_iff.mpr (by omega)) dX6_changePoint_95 ?_
                have b_71 : (0) ≤ (S 5 (S 10 a2.toNatClampNeg).toNatClampNeg).toInt ∧ (S 5 (S 10 a2.toNatClampNeg).toNatClampNeg).toInt ≤ 31 := ivM_5 (S := upS 19 0 a4 S) hI_69 ((S 10 a2.toNatClampNeg).toNatClampNeg)
                refine lv_istore (lv' := [(5, .int (S 5 (S 10 a2.toNatClampNeg).toNatClampNeg)), (0, .ref (h 0)), (1, .int a1), (2, .int a2), (3, .int a3), (4, .int a4)]) hx hb dX6_changePoint_96 hl (by decide) rfl (fun ls hl => ?_)
                refine lv_aload_n hx hb dX6_changePoint_98 rfl (lv_at hl 1 rfl) ?_
                refine lv_iload_n hx hb dX6_changePoint_99 rfl (lv_at hl 3 rfl) ?_
                refine lv_iload_n hx hb dX6_changePoint_100 rfl (lv_at hl 2 rfl) ?_
                refine lv_iconst (v := 3) hx hb dX6_changePoint_101 (by decide) ?_
                refine lv_icmp_ne (tgt := 109) hx hb dX6_changePoint_102 (by decide) (fun c_72 => ?_) (fun c_72 => ?_)
                · skip
                  have t_72 := mt Int32.toInt_inj.mp c_72
                  refine lv_iconst (v := 0) hx hb dX6_changePoint_109 (by decide) ?_
                  refine wv_callM (va_runV (As := [.int a2, .int 0]) (rest := []) ⟨hx, hb, hml, hown, hB⟩ (m_M_endStay l D h cI cZ (upS 19 0 a4 S) hI_69 a2 0 (((show ASM (upS 19 0 a4 S) from hAS)) a2 (by omega) (show (a2).toInt < (S 23 0).toInt by omega)) (by decide)) (cwV 2 hB (gV k3_170 k3_172 ks_370 k1_7 k3_173) rfl rfl rfl (by decide +kernel) ⟨Nat.le_of_ble_eq_true rfl, Nat.le_of_ble_eq_true rfl⟩) ⟨wr_blindM, va_recv hK hP (ci := 6) (q0 := 0) rfl rfl, wr_preM hP hK hN hD⟩ rfl rfl hl.1 rfl (lv_room (Nat.le_of_ble_eq_true rfl)) dX6_changePoint_110 ⟨Nat.le_of_ble_eq_true rfl, Nat.le_of_ble_eq_true rfl⟩) hS (fun H locs hP hI_73 hS => ?_)
                  have hD := wDM (S2 := (F_M_endStay (upS 19 0 a4 S) a2 0)) hD
                  refine lv_iload_n hx hb dX6_changePoint_113 rfl (lv_at hl 2 rfl) ?_
                  refine lv_iconst (v := 3) hx hb dX6_changePoint_114 (by decide) ?_
                  refine lv_icmp_ne (tgt := 129) hx hb dX6_changePoint_115 (by decide) (fun c_75 => ?_) (fun c_75 => ?_)
                  · skip
                    have t_75 := mt Int32.toInt_inj.mp c_75
                    refine lv_aload_n hx hb dX6_changePoint_129 rfl (lv_at hl 1 rfl) ?_
                    refine va_get (D := D) (ci := 6) (v := .ref (h 13)) (C := RX6) (T := TX6) (N := 25) hx hb hB inX6 hown hK hP 0 rfl rfl 17 (by decide) (hB _ k3_14) (fun _ h9 => h9) rfl dX6_changePoint_130 ?_
                    refine lv_iload_n hx hb dX6_changePoint_133 rfl (lv_at hl 3 rfl) ?_
                    refine lv_iconst (v := 0) hx hb dX6_changePoint_134 (by decide) ?_
                    refine wstM_12 (S := (F_M_endStay (upS 19 0 a4 S) a2 0)) hx hb hK hP hD hS (vp_in_iff.mpr (by omega)) (by first | rfl | decide) dX6_changePoint_135 (fun H locs hP hD hS => ?_)
                    have hI_76 : IVM (upS 12 a2.toNatClampNeg 0 (F_M_endStay (upS 19 0 a4 S) a2 0)) := iv_upM (S := (F_M_endStay (upS 19 0 a4 S) a2 0)) hI_73 12 a2.toNatClampNeg 0 (iv_oneM 12 (0) 1 rfl (by decide))
                    refine lv_iconst (v := 1) hx hb dX6_changePoint_136 (by decide) ?_
                    exact W.iret (v := 1) hx hb hr (fun t ht hW => ⟨⟨1, upS 12 a2.toNatClampNeg 0 (F_M_endStay (upS 19 0 a4 S) a2 0), rfl, ⟨(by rw [F_M_changePoint, if_neg c_2, if_neg c_4, if_pos c_5, if_neg c_46, if_neg c_48, if_pos c_49, if_pos c_68, if_neg c_72, if_neg c_75]), hI_76⟩, by show va_P D vwCl _ t.heap; rw [ht]; exact hP⟩, hS.F ht⟩) hS.2.2 dX6_changePoint_137
                  · skip
                    have t_75 := Int32.toInt_inj.symm.mp c_75
                    refine lv_aload_n hx hb dX6_changePoint_118 rfl (lv_at hl 1 rfl) ?_
                    refine lv_iload_n hx hb dX6_changePoint_119 rfl (lv_at hl 3 rfl) ?_
                    refine lv_iload hx hb dX6_changePoint_120 (lv_at hl 0 rfl) ?_
                    refine lv_iload_n hx hb dX6_changePoint_122 rfl (lv_at hl 4 rfl) ?_
                    refine wv_callM (va_runV (As := [.int a2, .int (S 5 (S 10 a2.toNatClampNeg).toNatClampNeg), .int a3]) (rest := []) ⟨hx, hb, hml, hown, hB⟩ (m_M_stay l D h cI cZ (F_M_endStay (upS 19 0 a4 S) a2 0) hI_73 a2 (S 5 (S 10 a2.toNatClampNeg).toNatClampNeg) a3 (show (S 24 0).toInt ≤ 4999 by omega) (by omega) (by omega) (by omega)) (cwV 3 hB (gV k3_145 k3_147 ks_366 k1_7 k3_148) rfl rfl rfl (by decide +kernel) ⟨Nat.le_of_ble_eq_true rfl, Nat.le_of_ble_eq_true rfl⟩) ⟨wr_blindM, va_recv hK hP (ci := 6) (q0 := 0) rfl rfl, wr_preM hP hK hN hD⟩ rfl rfl hl.1 rfl (lv_room (Nat.le_of_ble_eq_true rfl)) dX6_changePoint_123 ⟨Nat.le_of_ble_eq_true rfl, Nat.le_of_ble_eq_true rfl⟩) hS (fun H locs hP hI_77 hS => ?_)
                    have hD := wDM (S2 := (F_M_stay (F_M_endStay (upS 19 0 a4 S) a2 0) a2 (S 5 (S 10 a2.toNatClampNeg).toNatClampNeg) a3)) hD
                    refine lv_goto (tgt := 136) hx hb dX6_changePoint_126 (by decide) ?_
                    refine lv_iconst (v := 1) hx hb dX6_changePoint_136 (by decide) ?_
                    exact W.iret (v := 1) hx hb hr (fun t ht hW => ⟨⟨1, (F_M_stay (F_M_endStay (upS 19 0 a4 S) a2 0) a2 (S 5 (S 10 a2.toNatClampNeg).toNatClampNeg) a3), rfl, ⟨(by rw [F_M_changePoint, if_neg c_2, if_neg c_4, if_pos c_5, if_neg c_46, if_neg c_48, if_pos c_49, if_pos c_68, if_neg c_72, if_pos c_75]), hI_77⟩, by show va_P D vwCl _ t.heap; rw [ht]; exact hP⟩, hS.F ht⟩) hS.2.2 dX6_changePoint_137
                · skip
                  have t_72 := Int32.toInt_inj.symm.mp c_72
                  refine lv_iconst (v := 1) hx hb dX6_changePoint_105 (by decide) ?_
                  refine lv_goto (tgt := 110) hx hb dX6_changePoint_106 (by decide) ?_
                  refine wv_callM (va_runV (As := [.int a2, .int 1]) (rest := []) ⟨hx, hb, hml, hown, hB⟩ (m_M_endStay l D h cI cZ (upS 19 0 a4 S) hI_69 a2 1 (((show ASM (upS 19 0 a4 S) from hAS)) a2 (by omega) (show (a2).toInt < (S 23 0).toInt by omega)) (by decide)) (cwV 2 hB (gV k3_170 k3_172 ks_370 k1_7 k3_173) rfl rfl rfl (by decide +kernel) ⟨Nat.le_of_ble_eq_true rfl, Nat.le_of_ble_eq_true rfl⟩) ⟨wr_blindM, va_recv hK hP (ci := 6) (q0 := 0) rfl rfl, wr_preM hP hK hN hD⟩ rfl rfl hl.1 rfl (lv_room (Nat.le_of_ble_eq_true rfl)) dX6_changePoint_110 ⟨Nat.le_of_ble_eq_true rfl, Nat.le_of_ble_eq_true rfl⟩) hS (fun H locs hP hI_79 hS => ?_)
                  have hD := wDM (S2 := (F_M_endStay (upS 19 0 a4 S) a2 1)) hD
                  refine lv_iload_n hx hb dX6_changePoint_113 rfl (lv_at hl 2 rfl) ?_
                  refine lv_iconst (v := 3) hx hb dX6_changePoint_114 (by decide) ?_
                  refine lv_icmp_ne (tgt := 129) hx hb dX6_changePoint_115 (by decide) (fun c_81 => ?_) (fun c_81 => ?_)
                  · skip
                    have t_81 := mt Int32.toInt_inj.mp c_81
                    refine lv_aload_n hx hb dX6_changePoint_129 rfl (lv_at hl 1 rfl) ?_
                    refine va_get (D := D) (ci := 6) (v := .ref (h 13)) (C := RX6) (T := TX6) (N := 25) hx hb hB inX6 hown hK hP 0 rfl rfl 17 (by decide) (hB _ k3_14) (fun _ h9 => h9) rfl dX6_changePoint_130 ?_
                    refine lv_iload_n hx hb dX6_changePoint_133 rfl (lv_at hl 3 rfl) ?_
                    refine lv_iconst (v := 0) hx hb dX6_changePoint_134 (by decide) ?_
                    refine wstM_12 (S := (F_M_endStay (upS 19 0 a4 S) a2 1)) hx hb hK hP hD hS (vp_in_iff.mpr (by omega)) (by first | rfl | decide) dX6_changePoint_135 (fun H locs hP hD hS => ?_)
                    have hI_82 : IVM (upS 12 a2.toNatClampNeg 0 (F_M_endStay (upS 19 0 a4 S) a2 1)) := iv_upM (S := (F_M_endStay (upS 19 0 a4 S) a2 1)) hI_79 12 a2.toNatClampNeg 0 (iv_oneM 12 (0) 1 rfl (by decide))
                    refine lv_iconst (v := 1) hx hb dX6_changePoint_136 (by decide) ?_
                    exact W.iret (v := 1) hx hb hr (fun t ht hW => ⟨⟨1, upS 12 a2.toNatClampNeg 0 (F_M_endStay (upS 19 0 a4 S) a2 1), rfl, ⟨(by rw [F_M_changePoint, if_neg c_2, if_neg c_4, if_pos c_5, if_neg c_46, if_neg c_48, if_pos c_49, if_pos c_68, if_pos c_72, if_neg c_81]), hI_82⟩, by show va_P D vwCl _ t.heap; rw [ht]; exact hP⟩, hS.F ht⟩) hS.2.2 dX6_changePoint_137
                  · skip
                    have t_81 := Int32.toInt_inj.symm.mp c_81
                    refine lv_aload_n hx hb dX6_changePoint_118 rfl (lv_at hl 1 rfl) ?_
                    refine lv_iload_n hx hb dX6_changePoint_119 rfl (lv_at hl 3 rfl) ?_
                    refine lv_iload hx hb dX6_changePoint_120 (lv_at hl 0 rfl) ?_
                    refine lv_iload_n hx hb dX6_changePoint_122 rfl (lv_at hl 4 rfl) ?_
                    refine wv_callM (va_runV (As := [.int a2, .int (S 5 (S 10 a2.toNatClampNeg).toNatClampNeg), .int a3]) (rest := []) ⟨hx, hb, hml, hown, hB⟩ (m_M_stay l D h cI cZ (F_M_endStay (upS 19 0 a4 S) a2 1) hI_79 a2 (S 5 (S 10 a2.toNatClampNeg).toNatClampNeg) a3 (show (S 24 0).toInt ≤ 4999 by omega) (by omega) (by omega) (by omega)) (cwV 3 hB (gV k3_145 k3_147 ks_366 k1_7 k3_148) rfl rfl rfl (by decide +kernel) ⟨Nat.le_of_ble_eq_true rfl, Nat.le_of_ble_eq_true rfl⟩) ⟨wr_blindM, va_recv hK hP (ci := 6) (q0 := 0) rfl rfl, wr_preM hP hK hN hD⟩ rfl rfl hl.1 rfl (lv_room (Nat.le_of_ble_eq_true rfl)) dX6_changePoint_123 ⟨Nat.le_of_ble_eq_true rfl, Nat.le_of_ble_eq_true rfl⟩) hS (fun H locs hP hI_83 hS => ?_)
                    have hD := wDM (S2 := (F_M_stay (F_M_endStay (upS 19 0 a4 S) a2 1) a2 (S 5 (S 10 a2.toNatClampNeg).toNatClampNeg) a3)) hD
                    refine lv_goto (tgt := 136) hx hb dX6_changePoint_126 (by decide) ?_
                    refine lv_iconst (v := 1) hx hb dX6_changePoint_136 (by decide) ?_
                    exact W.iret (v := 1) hx hb hr (fun t ht hW => ⟨⟨1, (F_M_stay (F_M_endStay (upS 19 0 a4 S) a2 1) a2 (S 5 (S 10 a2.toNatClampNeg).toNatClampNeg) a3), rfl, ⟨(by rw [F_M_changePoint, if_neg c_2, if_neg c_4, if_pos c_5, if_neg c_46, if_neg c_48, if_pos c_49, if_pos c_68, if_pos c_72, if_pos c_81]), hI_83⟩, by show va_P D vwCl _ t.heap; rw [ht]; exact hP⟩, hS.F ht⟩) hS.2.2 dX6_changePoint_137
              · skip
                have t_68 := mt Int32.lt_iff_toInt_lt.mpr c_68
                refine lv_bipush (v := (-13)) hx hb dX6_changePoint_76 (by decide) ?_
                exact W.iret (v := (-13)) hx hb hr (fun t ht hW => ⟨⟨(-13), S, rfl, ⟨(by rw [F_M_changePoint, if_neg c_2, if_neg c_4, if_pos c_5, if_neg c_46, if_neg c_48, if_pos c_49, if_neg c_68]), hI⟩, by show va_P D vwCl _ t.heap; rw [ht]; exact hP⟩, hS.F ht⟩) hS.2.2 dX6_changePoint_78
        · skip
          refine lv_bipush (v := (-12)) hx hb dX6_changePoint_39 (by decide) ?_
          exact W.iret (v := (-12)) hx hb hr (fun t ht hW => ⟨⟨(-12), S, rfl, ⟨(by rw [F_M_changePoint, if_neg c_2, if_neg c_4, if_pos c_5, if_pos c_46]), hI⟩, by show va_P D vwCl _ t.heap; rw [ht]; exact hP⟩, hS.F ht⟩) hS.2.2 dX6_changePoint_41
  · skip
    refine lv_bipush (v := (-11)) hx hb dX6_changePoint_8 (by decide) ?_
    exact W.iret (v := (-11)) hx hb hr (fun t ht hW => ⟨⟨(-11), S, rfl, ⟨(by rw [F_M_changePoint, if_pos c_2]), hI⟩, by show va_P D vwCl _ t.heap; rw [ht]; exact hP⟩, hS.F ht⟩) hS.2.2 dX6_changePoint_10
