set_option maxHeartbeats 4000000 in
set_option maxRecDepth 100000 in
theorem m_M_near (l : Launch) (D : va_G) (h : Nat → Nat) (cI cZ : ClassId) (S : BS) (hI : IVM S) (a1 a2 : Int32) (hAS : ASM S) (hWF : WFM S) : PMM l yX6_near wsX6_near { frames := 2, cells := 0, slots := 0, locals := 43 } D cI cZ h S [.ref (h 0), .int a1, .int a2] (f_M_near S a1 a2) := by
  refine Met.ofW (cc := cX6_near) (maxL := 10) (ret := (some .int)) (by decide) rfl ?_
  intro p e s m args below meth c s₁ B hml hv
  obtain ⟨rfl, hP, hK, hN⟩ := hv
  have hx := B.exec
  have hb := B.bytes
  have hr := B.returns
  have hts := atoms_spec (ws := wsX6_near) B.pre
  have hB : ∀ w ∈ BW, w.before _ s = true := fun w h => hts w (List.mem_cons_of_mem _ h)
  have hown : s.vm.findClass RX6 = some m.cls := findClass_of_methodNamed B.named
  have hlocks := B.notSynchronized
  have hS : va_S (fun _ => False) s.heap s.heap [] := va_S.rf
  have hl := lv_entry ([.ref (h 0), .int a1, .int a2]) (n := 10) (Nat.le_of_ble_eq_true rfl)
  rw [lg_entry_eq]
  generalize (lg_sl ([.ref (h 0), .int a1, .int a2]) ++ List.replicate (10 - (lg_sl ([.ref (h 0), .int a1, .int a2])).length) Slot.unset).toArray = ls at hl ⊢
  have hl : lv_has ls 10 [(0, .ref (h 0)), (1, .int a1), (2, .int a2)] := hl
  refine lv_aload_n hx hb dX6_near_0 rfl (lv_at hl 0 rfl) ?_
  refine lv_iload_n hx hb dX6_near_1 rfl (lv_at hl 1 rfl) ?_
  refine pu_callM (va_runV (As := [.int a1]) (rest := []) ⟨hx, hb, hml, hown, hB⟩ (m_M_isStreet l D h cI cZ S hI a1 ) (cwV 1 hB (gV k3_101 k3_103 ks_322 k1_7 k3_104) rfl rfl rfl (by decide +kernel) ⟨Nat.le_of_ble_eq_true rfl, Nat.le_of_ble_eq_true rfl⟩) ⟨pu_blindM, va_recv hK hP (ci := 6) (q0 := 0) rfl rfl, pu_preM hP hK hN⟩ rfl rfl hl.1 rfl (lv_room (Nat.le_of_ble_eq_true rfl)) dX6_near_2 ⟨Nat.le_of_ble_eq_true rfl, Nat.le_of_ble_eq_true rfl⟩) hP hS (fun H locs hP hS => ?_)
  refine lv_if_ne (tgt := 11) hx hb dX6_near_5 (by decide) (fun c_2 => ?_) (fun c_2 => ?_)
  · skip
    have t_2 := fb_M_isStreet hI c_2
    refine lv_iload_n hx hb dX6_near_11 rfl (lv_at hl 2 rfl) ?_
    refine lv_iconst (v := 1) hx hb dX6_near_12 (by decide) ?_
    refine lv_sipush (v := 999) hx hb dX6_near_13 (by decide) ?_
    refine pu_callM (va_runS (As := [.int a2, .int 1, .int 999]) (rest := []) ⟨hx, hb, hml, hown, hB⟩ (m_M_in l D h cI cZ S hI a2 1 999 ) (cwS 3 hB (gS k3_78 k3_79 k1_7 k3_80) rfl rfl rfl (by decide +kernel) ⟨Nat.le_of_ble_eq_true rfl, Nat.le_of_ble_eq_true rfl⟩) ⟨pu_blindM, pu_preM hP hK hN⟩ rfl rfl hl.1 rfl (lv_room (Nat.le_of_ble_eq_true rfl)) dX6_near_16 ⟨Nat.le_of_ble_eq_true rfl, Nat.le_of_ble_eq_true rfl⟩) hP hS (fun H locs hP hS => ?_)
    refine lv_if_ne (tgt := 25) hx hb dX6_near_19 (by decide) (fun c_4 => ?_) (fun c_4 => ?_)
    · skip
      have z_1 : ((1) : Int32).toInt = (1) := by decide
      have z_999 : ((999) : Int32).toInt = (999) := by decide
      have t_4 := fb_M_in c_4
      refine lv_aload_n hx hb dX6_near_25 rfl (lv_at hl 0 rfl) ?_
      refine lv_iload_n hx hb dX6_near_26 rfl (lv_at hl 1 rfl) ?_
      refine lv_aload_n hx hb dX6_near_27 rfl (lv_at hl 0 rfl) ?_
      refine va_get (D := D) (ci := 6) (v := .int (S 19 0)) (C := RX6) (T := TX6) (N := 25) hx hb hB inX6 hown hK hP 0 rfl rfl 0 (by decide) (hB _ k2_237) (fun _ h9 => h9) rfl dX6_near_28 ?_
      refine pu_callM (va_runV (As := [.int a1, .int (S 19 0)]) (rest := []) ⟨hx, hb, hml, hown, hB⟩ (m_M_meant l D h cI cZ S hI a1 (S 19 0) ⟨by omega, by omega⟩ hWF) (cwV 2 hB (gV k3_202 k3_204 ks_414 k1_7 k3_205) rfl rfl rfl (by decide +kernel) ⟨Nat.le_of_ble_eq_true rfl, Nat.le_of_ble_eq_true rfl⟩) ⟨pu_blindM, va_recv hK hP (ci := 6) (q0 := 0) rfl rfl, pu_preM hP hK hN⟩ rfl rfl hl.1 rfl (lv_room (Nat.le_of_ble_eq_true rfl)) dX6_near_31 ⟨Nat.le_of_ble_eq_true rfl, Nat.le_of_ble_eq_true rfl⟩) hP hS (fun H locs hP hS => ?_)
      refine lv_istore_n (lv' := [(3, .int (f_M_meant S a1 (S 19 0))), (0, .ref (h 0)), (1, .int a1), (2, .int a2)]) hx hb dX6_near_34 rfl hl (by decide) rfl (fun ls hl => ?_)
      refine lv_iconst (v := (-1)) hx hb dX6_near_35 (by decide) ?_
      refine lv_istore (lv' := [(4, .int (-1)), (3, .int (f_M_meant S a1 (S 19 0))), (0, .ref (h 0)), (1, .int a1), (2, .int a2)]) hx hb dX6_near_36 hl (by decide) rfl (fun ls hl => ?_)
      refine lv_ldc (v := 1000000000) hx hb hown (hB _ k3_149) dX6_near_38 ?_
      refine lv_istore (lv' := [(5, .int 1000000000), (4, .int (-1)), (3, .int (f_M_meant S a1 (S 19 0))), (0, .ref (h 0)), (1, .int a1), (2, .int a2)]) hx hb dX6_near_40 hl (by decide) rfl (fun ls hl => ?_)
      refine lv_iconst (v := 0) hx hb dX6_near_42 (by decide) ?_
      refine lv_istore (lv' := [(6, .int 0), (5, .int 1000000000), (4, .int (-1)), (3, .int (f_M_meant S a1 (S 19 0))), (0, .ref (h 0)), (1, .int a1), (2, .int a2)]) hx hb dX6_near_43 hl (by decide) rfl (fun ls hl => ?_)
      have loop45 : ∀ (n45 : Nat) (x4 x5 x6 : Int32) (H : Heap) (locs : List Loc) (ls : Array Slot), (0 ≤ x6.toInt ∧ x6.toInt ≤ 6000 ∧ 1 ≤ (n45 : Int) ∧ (S 23 0 : Int32).toInt - x6.toInt < (n45 : Int) ∧ (True)) → l_M_near_45 S a1 a2 n45 x4 x5 x6 = f_M_near S a1 a2 → va_P D vwCl (wBM h cI cZ S) H → va_S (fun _ => False) s.heap H locs → lv_has ls 10 [(0, .ref (h 0)), (1, .int a1), (2, .int a2), (3, .int (f_M_meant S a1 (S 19 0))), (4, .int x4), (5, .int x5), (6, .int x6)] → W p l e (headSpec wsX6_near { frames := 2, cells := 0, slots := 0, locals := 43 }).room s m ([.ref (h 0), .int a1, .int a2]).toArray below meth c H locs 0 0 (MQ below (PQ (f_M_near S a1 a2)) ([.ref (h 0), .int a1, .int a2]).toArray s 0 0 (fun _ => False)) (F0 m 45 ls []) := by
        intro n45
        induction n45 with
        | zero =>
          intro x4 x5 x6 H locs ls hinv he45 hP hS hl
          exact absurd hinv.2.2.1 (by omega)
        | succ n45 ih45 =>
          intro x4 x5 x6 H locs ls hinv he45 hP hS hl
          obtain ⟨h0_45, hc_45, h1_45, hm_45, hex_45⟩ := hinv
          have hBd_45 := ivM_23 hI
          refine lv_iload hx hb dX6_near_45 (lv_at hl 6 rfl) ?_
          refine lv_aload_n hx hb dX6_near_47 rfl (lv_at hl 0 rfl) ?_
          refine va_get (D := D) (ci := 6) (v := .int (S 23 0)) (C := RX6) (T := TX6) (N := 25) hx hb hB inX6 hown hK hP 0 rfl rfl 14 (by decide) (hB _ k3_11) (fun _ h9 => h9) rfl dX6_near_48 ?_
          have b_6 : (0) ≤ (S 23 0).toInt ∧ (S 23 0).toInt ≤ 120 := ivM_23 (S := S) hI
          refine lv_icmp_ge (tgt := 167) hx hb dX6_near_51 (by decide) (fun c_7 => ?_) (fun c_7 => ?_)
          · skip
            have t_7 := Int32.le_iff_toInt_le.mp c_7
            refine lv_iload hx hb dX6_near_167 (lv_at hl 4 rfl) ?_
            exact W.iret (v := x4) hx hb hr (fun t ht hW => ⟨⟨x4, (), rfl, (by rw [← he45, l_M_near_45, if_pos c_7]), trivial⟩, hS.F ht⟩) hS.2.2 dX6_near_169
          · skip
            have t_7 := mt Int32.le_iff_toInt_le.mpr c_7
            refine lv_aload_n hx hb dX6_near_54 rfl (lv_at hl 0 rfl) ?_
            refine va_get (D := D) (ci := 6) (v := .ref (h 13)) (C := RX6) (T := TX6) (N := 25) hx hb hB inX6 hown hK hP 0 rfl rfl 17 (by decide) (hB _ k3_14) (fun _ h9 => h9) rfl dX6_near_55 ?_
            refine lv_iload hx hb dX6_near_58 (lv_at hl 6 rfl) ?_
            refine va_zald (f := S 12) hx hb hK hP 13 1 rfl rfl (vp_in_iff.mpr (by omega)) dX6_near_60 ?_
            have b_8 : (0) ≤ (S 12 x6.toNatClampNeg).toInt ∧ (S 12 x6.toNatClampNeg).toInt ≤ 1 := ivM_12 (S := S) hI x6.toNatClampNeg
            refine lv_if_eq (tgt := 161) hx hb dX6_near_61 (by decide) (fun c_9 => ?_) (fun c_9 => ?_)
            · skip
              have z_0 : ((0) : Int32).toInt = (0) := by decide
              have t_9 := Int32.toInt_inj.symm.mp c_9
              refine lv_iinc (v := x6 + 1) (lv' := [(6, .int (x6 + 1)), (0, .ref (h 0)), (1, .int a1), (2, .int a2), (3, .int (f_M_meant S a1 (S 19 0))), (4, .int x4), (5, .int x5)]) hx hb dX6_near_161 hl (k := 6) rfl rfl (by decide) rfl (fun ls hl => ?_)
              refine lv_goto (tgt := 45) hx hb dX6_near_164 (by decide) ?_
              have hinc := i32_inc (x := x6) h0_45 (by omega)
              exact ih45 x4 x5 (x6 + 1) _ _ _ ⟨by omega, by omega, by omega, by omega, trivial⟩ (by first | (rw [← he45, l_M_near_45, if_neg c_7, if_pos c_9]; done) | (rw [← he45, l_M_near_45]; simp only [if_neg c_7, if_pos c_9])) hP hS (lv_sub hl [1, 2, 3, 4, 5, 6, 0] rfl)
            · skip
              have z_0 : ((0) : Int32).toInt = (0) := by decide
              have t_9 := mt Int32.toInt_inj.mp c_9
              refine lv_aload_n hx hb dX6_near_64 rfl (lv_at hl 0 rfl) ?_
              refine va_get (D := D) (ci := 6) (v := .ref (h 6)) (C := RX6) (T := TX6) (N := 25) hx hb hB inX6 hown hK hP 0 rfl rfl 9 (by decide) (hB _ k3_6) (fun _ h9 => h9) rfl dX6_near_65 ?_
              refine lv_aload_n hx hb dX6_near_68 rfl (lv_at hl 0 rfl) ?_
              refine va_get (D := D) (ci := 6) (v := .ref (h 11)) (C := RX6) (T := TX6) (N := 25) hx hb hB inX6 hown hK hP 0 rfl rfl 15 (by decide) (hB _ k3_12) (fun _ h9 => h9) rfl dX6_near_69 ?_
              refine lv_iload hx hb dX6_near_72 (lv_at hl 6 rfl) ?_
              refine va_iald (f := S 10) hx hb hK hP 11 0 rfl rfl (vp_in_iff.mpr (by omega)) dX6_near_74 ?_
              have b_10 : (0) ≤ (S 10 x6.toNatClampNeg).toInt ∧ (S 10 x6.toNatClampNeg).toInt ≤ 79 := ivM_10 (S := S) hI x6.toNatClampNeg
              refine va_iald (f := S 5) hx hb hK hP 6 0 rfl rfl (vp_in_iff.mpr (by omega)) dX6_near_75 ?_
              have b_11 : (0) ≤ (S 5 (S 10 x6.toNatClampNeg).toNatClampNeg).toInt ∧ (S 5 (S 10 x6.toNatClampNeg).toNatClampNeg).toInt ≤ 31 := ivM_5 (S := S) hI ((S 10 x6.toNatClampNeg).toNatClampNeg)
              refine lv_iload_n hx hb dX6_near_76 rfl (lv_at hl 3 rfl) ?_
              refine lv_icmp_ne (tgt := 161) hx hb dX6_near_77 (by decide) (fun c_12 => ?_) (fun c_12 => ?_)
              · skip
                refine lv_iinc (v := x6 + 1) (lv' := [(6, .int (x6 + 1)), (0, .ref (h 0)), (1, .int a1), (2, .int a2), (3, .int (f_M_meant S a1 (S 19 0))), (4, .int x4), (5, .int x5)]) hx hb dX6_near_161 hl (k := 6) rfl rfl (by decide) rfl (fun ls hl => ?_)
                refine lv_goto (tgt := 45) hx hb dX6_near_164 (by decide) ?_
                have hinc := i32_inc (x := x6) h0_45 (by omega)
                exact ih45 x4 x5 (x6 + 1) _ _ _ ⟨by omega, by omega, by omega, by omega, trivial⟩ (by first | (rw [← he45, l_M_near_45, if_neg c_7, if_neg c_9, if_neg c_12]; done) | (rw [← he45, l_M_near_45]; simp only [if_neg c_7, if_neg c_9, if_neg c_12])) hP hS (lv_sub hl [1, 2, 3, 4, 5, 6, 0] rfl)
              · skip
                refine lv_aload_n hx hb dX6_near_80 rfl (lv_at hl 0 rfl) ?_
                refine lv_iload hx hb dX6_near_81 (lv_at hl 6 rfl) ?_
                refine pu_callM (va_runV (As := [.int x6]) (rest := []) ⟨hx, hb, hml, hown, hB⟩ (m_M_houseOf l D h cI cZ S hI x6 (((show ASM (S) from hAS)) x6 (by omega) (show (x6).toInt < (S 23 0).toInt by omega))) (cwV 1 hB (gV k3_137 k3_139 ks_354 k1_7 k3_140) rfl rfl rfl (by decide +kernel) ⟨Nat.le_of_ble_eq_true rfl, Nat.le_of_ble_eq_true rfl⟩) ⟨pu_blindM, va_recv hK hP (ci := 6) (q0 := 0) rfl rfl, pu_preM hP hK hN⟩ rfl rfl hl.1 rfl (lv_room (Nat.le_of_ble_eq_true rfl)) dX6_near_83 ⟨Nat.le_of_ble_eq_true rfl, Nat.le_of_ble_eq_true rfl⟩) hP hS (fun H locs hP hS => ?_)
                have k_13 := fc_M_houseOf (S := S) hI x6
                refine lv_istore (lv' := [(7, .int (f_M_houseOf S x6)), (0, .ref (h 0)), (1, .int a1), (2, .int a2), (3, .int (f_M_meant S a1 (S 19 0))), (4, .int x4), (5, .int x5), (6, .int x6)]) hx hb dX6_near_86 hl (by decide) rfl (fun ls hl => ?_)
                refine lv_iload hx hb dX6_near_88 (lv_at hl 0 rfl) ?_
                refine lv_iload_n hx hb dX6_near_90 rfl (lv_at hl 3 rfl) ?_
                refine lv_icmp_ge (tgt := 101) hx hb dX6_near_91 (by decide) (fun c_14 => ?_) (fun c_14 => ?_)
                · skip
                  have t_14 := Int32.le_iff_toInt_le.mp c_14
                  refine lv_iload hx hb dX6_near_101 (lv_at hl 0 rfl) ?_
                  refine lv_iload_n hx hb dX6_near_103 rfl (lv_at hl 3 rfl) ?_
                  refine lv_isub hx hb dX6_near_104 ?_
                  refine lv_istore (lv' := [(8, .int ((f_M_houseOf S x6) - a2)), (7, .int (f_M_houseOf S x6)), (0, .ref (h 0)), (1, .int a1), (2, .int a2), (3, .int (f_M_meant S a1 (S 19 0))), (4, .int x4), (5, .int x5), (6, .int x6)]) hx hb dX6_near_105 hl (by decide) rfl (fun ls hl => ?_)
                  refine lv_iload hx hb dX6_near_107 (lv_at hl 0 rfl) ?_
                  refine lv_sipush (v := 1000) hx hb dX6_near_109 (by decide) ?_
                  refine lv_imul hx hb dX6_near_112 ?_
                  refine lv_iload hx hb dX6_near_113 (lv_at hl 1 rfl) ?_
                  refine lv_iadd hx hb dX6_near_115 ?_
                  refine lv_bipush (v := 26) hx hb dX6_near_116 (by decide) ?_
                  refine lv_imul hx hb dX6_near_118 ?_
                  refine lv_aload_n hx hb dX6_near_119 rfl (lv_at hl 2 rfl) ?_
                  refine va_get (D := D) (ci := 6) (v := .ref (h 12)) (C := RX6) (T := TX6) (N := 25) hx hb hB inX6 hown hK hP 0 rfl rfl 16 (by decide) (hB _ k3_13) (fun _ h9 => h9) rfl dX6_near_120 ?_
                  refine lv_iload hx hb dX6_near_123 (lv_at hl 8 rfl) ?_
                  refine va_iald (f := S 11) hx hb hK hP 12 0 rfl rfl (vp_in_iff.mpr (by omega)) dX6_near_125 ?_
                  refine lv_iadd hx hb dX6_near_126 ?_
                  refine lv_istore (lv' := [(9, .int ((((((f_M_houseOf S x6) - a2) * 1000) + (f_M_houseOf S x6)) * 26) + (S 11 x6.toNatClampNeg))), (8, .int ((f_M_houseOf S x6) - a2)), (7, .int (f_M_houseOf S x6)), (0, .ref (h 0)), (1, .int a1), (2, .int a2), (3, .int (f_M_meant S a1 (S 19 0))), (4, .int x4), (5, .int x5), (6, .int x6)]) hx hb dX6_near_127 hl (by decide) rfl (fun ls hl => ?_)
                  refine lv_iload hx hb dX6_near_129 (lv_at hl 0 rfl) ?_
                  refine lv_iload hx hb dX6_near_131 (lv_at hl 8 rfl) ?_
                  refine lv_icmp_ge (tgt := 141) hx hb dX6_near_133 (by decide) (fun c_15 => ?_) (fun c_15 => ?_)
                  · skip
                    have t_15 := Int32.le_iff_toInt_le.mp c_15
                    refine lv_iload hx hb dX6_near_141 (lv_at hl 7 rfl) ?_
                    refine lv_istore (lv' := [(4, .int x4), (9, .int ((((((f_M_houseOf S x6) - a2) * 1000) + (f_M_houseOf S x6)) * 26) + (S 11 x6.toNatClampNeg))), (8, .int ((f_M_houseOf S x6) - a2)), (7, .int (f_M_houseOf S x6)), (0, .ref (h 0)), (1, .int a1), (2, .int a2), (3, .int (f_M_meant S a1 (S 19 0))), (5, .int x5), (6, .int x6)]) hx hb dX6_near_143 hl (by decide) rfl (fun ls hl => ?_)
                    refine lv_iload hx hb dX6_near_145 (lv_at hl 1 rfl) ?_
                    refine lv_iload hx hb dX6_near_147 (lv_at hl 8 rfl) ?_
                    refine lv_icmp_ge (tgt := 157) hx hb dX6_near_149 (by decide) (fun c_16 => ?_) (fun c_16 => ?_)
                    · skip
                      have t_16 := Int32.le_iff_toInt_le.mp c_16
                      refine lv_iload hx hb dX6_near_157 (lv_at hl 8 rfl) ?_
                      refine lv_istore (lv' := [(5, .int x5), (4, .int x4), (9, .int ((((((f_M_houseOf S x6) - a2) * 1000) + (f_M_houseOf S x6)) * 26) + (S 11 x6.toNatClampNeg))), (8, .int ((f_M_houseOf S x6) - a2)), (7, .int (f_M_houseOf S x6)), (0, .ref (h 0)), (1, .int a1), (2, .int a2), (3, .int (f_M_meant S a1 (S 19 0))), (6, .int x6)]) hx hb dX6_near_159 hl (by decide) rfl (fun ls hl => ?_)
                      refine lv_iinc (v := x6 + 1) (lv' := [(6, .int (x6 + 1)), (5, .int x5), (4, .int x4), (9, .int ((((((f_M_houseOf S x6) - a2) * 1000) + (f_M_houseOf S x6)) * 26) + (S 11 x6.toNatClampNeg))), (8, .int ((f_M_houseOf S x6) - a2)), (7, .int (f_M_houseOf S x6)), (0, .ref (h 0)), (1, .int a1), (2, .int a2), (3, .int (f_M_meant S a1 (S 19 0)))]) hx hb dX6_near_161 hl (k := 9) rfl rfl (by decide) rfl (fun ls hl => ?_)
                      refine lv_goto (tgt := 45) hx hb dX6_near_164 (by decide) ?_
                      have hinc := i32_inc (x := x6) h0_45 (by omega)
                      exact ih45 x4 x5 (x6 + 1) _ _ _ ⟨by omega, by omega, by omega, by omega, trivial⟩ (by first | (rw [← he45, l_M_near_45, if_neg c_7, if_neg c_9, if_pos c_12, if_pos c_14, if_pos c_15, if_pos c_16]; done) | (rw [← he45, l_M_near_45]; simp only [if_neg c_7, if_neg c_9, if_pos c_12, if_pos c_14, if_pos c_15, if_pos c_16])) hP hS (lv_sub hl [6, 7, 8, 9, 2, 1, 0] rfl)
                    · skip
                      have t_16 := mt Int32.le_iff_toInt_le.mpr c_16
                      refine lv_iload hx hb dX6_near_152 (lv_at hl 1 rfl) ?_
                      refine lv_goto (tgt := 159) hx hb dX6_near_154 (by decide) ?_
                      refine lv_istore (lv' := [(5, .int ((((((f_M_houseOf S x6) - a2) * 1000) + (f_M_houseOf S x6)) * 26) + (S 11 x6.toNatClampNeg))), (4, .int x4), (9, .int ((((((f_M_houseOf S x6) - a2) * 1000) + (f_M_houseOf S x6)) * 26) + (S 11 x6.toNatClampNeg))), (8, .int ((f_M_houseOf S x6) - a2)), (7, .int (f_M_houseOf S x6)), (0, .ref (h 0)), (1, .int a1), (2, .int a2), (3, .int (f_M_meant S a1 (S 19 0))), (6, .int x6)]) hx hb dX6_near_159 hl (by decide) rfl (fun ls hl => ?_)
                      refine lv_iinc (v := x6 + 1) (lv' := [(6, .int (x6 + 1)), (5, .int ((((((f_M_houseOf S x6) - a2) * 1000) + (f_M_houseOf S x6)) * 26) + (S 11 x6.toNatClampNeg))), (4, .int x4), (9, .int ((((((f_M_houseOf S x6) - a2) * 1000) + (f_M_houseOf S x6)) * 26) + (S 11 x6.toNatClampNeg))), (8, .int ((f_M_houseOf S x6) - a2)), (7, .int (f_M_houseOf S x6)), (0, .ref (h 0)), (1, .int a1), (2, .int a2), (3, .int (f_M_meant S a1 (S 19 0)))]) hx hb dX6_near_161 hl (k := 9) rfl rfl (by decide) rfl (fun ls hl => ?_)
                      refine lv_goto (tgt := 45) hx hb dX6_near_164 (by decide) ?_
                      have hinc := i32_inc (x := x6) h0_45 (by omega)
                      exact ih45 x4 ((((((f_M_houseOf S x6) - a2) * 1000) + (f_M_houseOf S x6)) * 26) + (S 11 x6.toNatClampNeg)) (x6 + 1) _ _ _ ⟨by omega, by omega, by omega, by omega, trivial⟩ (by first | (rw [← he45, l_M_near_45, if_neg c_7, if_neg c_9, if_pos c_12, if_pos c_14, if_pos c_15, if_neg c_16]; done) | (rw [← he45, l_M_near_45]; simp only [if_neg c_7, if_neg c_9, if_pos c_12, if_pos c_14, if_pos c_15, if_neg c_16])) hP hS (lv_sub hl [6, 7, 8, 9, 2, 1, 0] rfl)
                  · skip
                    have t_15 := mt Int32.le_iff_toInt_le.mpr c_15
                    refine lv_iload hx hb dX6_near_136 (lv_at hl 9 rfl) ?_
                    refine lv_goto (tgt := 143) hx hb dX6_near_138 (by decide) ?_
                    refine lv_istore (lv' := [(4, .int x6), (9, .int ((((((f_M_houseOf S x6) - a2) * 1000) + (f_M_houseOf S x6)) * 26) + (S 11 x6.toNatClampNeg))), (8, .int ((f_M_houseOf S x6) - a2)), (7, .int (f_M_houseOf S x6)), (0, .ref (h 0)), (1, .int a1), (2, .int a2), (3, .int (f_M_meant S a1 (S 19 0))), (5, .int x5), (6, .int x6)]) hx hb dX6_near_143 hl (by decide) rfl (fun ls hl => ?_)
                    refine lv_iload hx hb dX6_near_145 (lv_at hl 1 rfl) ?_
                    refine lv_iload hx hb dX6_near_147 (lv_at hl 8 rfl) ?_
                    refine lv_icmp_ge (tgt := 157) hx hb dX6_near_149 (by decide) (fun c_17 => ?_) (fun c_17 => ?_)
                    · skip
                      have t_17 := Int32.le_iff_toInt_le.mp c_17
                      refine lv_iload hx hb dX6_near_157 (lv_at hl 8 rfl) ?_
                      refine lv_istore (lv' := [(5, .int x5), (4, .int x6), (9, .int ((((((f_M_houseOf S x6) - a2) * 1000) + (f_M_houseOf S x6)) * 26) + (S 11 x6.toNatClampNeg))), (8, .int ((f_M_houseOf S x6) - a2)), (7, .int (f_M_houseOf S x6)), (0, .ref (h 0)), (1, .int a1), (2, .int a2), (3, .int (f_M_meant S a1 (S 19 0))), (6, .int x6)]) hx hb dX6_near_159 hl (by decide) rfl (fun ls hl => ?_)
                      refine lv_iinc (v := x6 + 1) (lv' := [(6, .int (x6 + 1)), (5, .int x5), (4, .int x6), (9, .int ((((((f_M_houseOf S x6) - a2) * 1000) + (f_M_houseOf S x6)) * 26) + (S 11 x6.toNatClampNeg))), (8, .int ((f_M_houseOf S x6) - a2)), (7, .int (f_M_houseOf S x6)), (0, .ref (h 0)), (1, .int a1), (2, .int a2), (3, .int (f_M_meant S a1 (S 19 0)))]) hx hb dX6_near_161 hl (k := 9) rfl rfl (by decide) rfl (fun ls hl => ?_)
                      refine lv_goto (tgt := 45) hx hb dX6_near_164 (by decide) ?_
                      have hinc := i32_inc (x := x6) h0_45 (by omega)
                      exact ih45 x6 x5 (x6 + 1) _ _ _ ⟨by omega, by omega, by omega, by omega, trivial⟩ (by first | (rw [← he45, l_M_near_45, if_neg c_7, if_neg c_9, if_pos c_12, if_pos c_14, if_neg c_15, if_pos c_17]; done) | (rw [← he45, l_M_near_45]; simp only [if_neg c_7, if_neg c_9, if_pos c_12, if_pos c_14, if_neg c_15, if_pos c_17])) hP hS (lv_sub hl [6, 7, 8, 9, 2, 1, 0] rfl)
                    · skip
                      have t_17 := mt Int32.le_iff_toInt_le.mpr c_17
                      refine lv_iload hx hb dX6_near_152 (lv_at hl 1 rfl) ?_
                      refine lv_goto (tgt := 159) hx hb dX6_near_154 (by decide) ?_
                      refine lv_istore (lv' := [(5, .int ((((((f_M_houseOf S x6) - a2) * 1000) + (f_M_houseOf S x6)) * 26) + (S 11 x6.toNatClampNeg))), (4, .int x6), (9, .int ((((((f_M_houseOf S x6) - a2) * 1000) + (f_M_houseOf S x6)) * 26) + (S 11 x6.toNatClampNeg))), (8, .int ((f_M_houseOf S x6) - a2)), (7, .int (f_M_houseOf S x6)), (0, .ref (h 0)), (1, .int a1), (2, .int a2), (3, .int (f_M_meant S a1 (S 19 0))), (6, .int x6)]) hx hb dX6_near_159 hl (by decide) rfl (fun ls hl => ?_)
                      refine lv_iinc (v := x6 + 1) (lv' := [(6, .int (x6 + 1)), (5, .int ((((((f_M_houseOf S x6) - a2) * 1000) + (f_M_houseOf S x6)) * 26) + (S 11 x6.toNatClampNeg))), (4, .int x6), (9, .int ((((((f_M_houseOf S x6) - a2) * 1000) + (f_M_houseOf S x6)) * 26) + (S 11 x6.toNatClampNeg))), (8, .int ((f_M_houseOf S x6) - a2)), (7, .int (f_M_houseOf S x6)), (0, .ref (h 0)), (1, .int a1), (2, .int a2), (3, .int (f_M_meant S a1 (S 19 0)))]) hx hb dX6_near_161 hl (k := 9) rfl rfl (by decide) rfl (fun ls hl => ?_)
                      refine lv_goto (tgt := 45) hx hb dX6_near_164 (by decide) ?_
                      have hinc := i32_inc (x := x6) h0_45 (by omega)
                      exact ih45 x6 ((((((f_M_houseOf S x6) - a2) * 1000) + (f_M_houseOf S x6)) * 26) + (S 11 x6.toNatClampNeg)) (x6 + 1) _ _ _ ⟨by omega, by omega, by omega, by omega, trivial⟩ (by first | (rw [← he45, l_M_near_45, if_neg c_7, if_neg c_9, if_pos c_12, if_pos c_14, if_neg c_15, if_neg c_17]; done) | (rw [← he45, l_M_near_45]; simp only [if_neg c_7, if_neg c_9, if_pos c_12, if_pos c_14, if_neg c_15, if_neg c_17])) hP hS (lv_sub hl [6, 7, 8, 9, 2, 1, 0] rfl)
                · skip
                  have t_14 := mt Int32.le_iff_toInt_le.mpr c_14
                  refine lv_iload_n hx hb dX6_near_94 rfl (lv_at hl 3 rfl) ?_
                  refine lv_iload hx hb dX6_near_95 (lv_at hl 0 rfl) ?_
                  refine lv_isub hx hb dX6_near_97 ?_
                  refine lv_goto (tgt := 105) hx hb dX6_near_98 (by decide) ?_
                  refine lv_istore (lv' := [(8, .int (a2 - (f_M_houseOf S x6))), (7, .int (f_M_houseOf S x6)), (0, .ref (h 0)), (1, .int a1), (2, .int a2), (3, .int (f_M_meant S a1 (S 19 0))), (4, .int x4), (5, .int x5), (6, .int x6)]) hx hb dX6_near_105 hl (by decide) rfl (fun ls hl => ?_)
                  refine lv_iload hx hb dX6_near_107 (lv_at hl 0 rfl) ?_
                  refine lv_sipush (v := 1000) hx hb dX6_near_109 (by decide) ?_
                  refine lv_imul hx hb dX6_near_112 ?_
                  refine lv_iload hx hb dX6_near_113 (lv_at hl 1 rfl) ?_
                  refine lv_iadd hx hb dX6_near_115 ?_
                  refine lv_bipush (v := 26) hx hb dX6_near_116 (by decide) ?_
                  refine lv_imul hx hb dX6_near_118 ?_
                  refine lv_aload_n hx hb dX6_near_119 rfl (lv_at hl 2 rfl) ?_
                  refine va_get (D := D) (ci := 6) (v := .ref (h 12)) (C := RX6) (T := TX6) (N := 25) hx hb hB inX6 hown hK hP 0 rfl rfl 16 (by decide) (hB _ k3_13) (fun _ h9 => h9) rfl dX6_near_120 ?_
                  refine lv_iload hx hb dX6_near_123 (lv_at hl 8 rfl) ?_
                  refine va_iald (f := S 11) hx hb hK hP 12 0 rfl rfl (vp_in_iff.mpr (by omega)) dX6_near_125 ?_
                  refine lv_iadd hx hb dX6_near_126 ?_
                  refine lv_istore (lv' := [(9, .int (((((a2 - (f_M_houseOf S x6)) * 1000) + (f_M_houseOf S x6)) * 26) + (S 11 x6.toNatClampNeg))), (8, .int (a2 - (f_M_houseOf S x6))), (7, .int (f_M_houseOf S x6)), (0, .ref (h 0)), (1, .int a1), (2, .int a2), (3, .int (f_M_meant S a1 (S 19 0))), (4, .int x4), (5, .int x5), (6, .int x6)]) hx hb dX6_near_127 hl (by decide) rfl (fun ls hl => ?_)
                  refine lv_iload hx hb dX6_near_129 (lv_at hl 0 rfl) ?_
                  refine lv_iload hx hb dX6_near_131 (lv_at hl 8 rfl) ?_
                  refine lv_icmp_ge (tgt := 141) hx hb dX6_near_133 (by decide) (fun c_18 => ?_) (fun c_18 => ?_)
                  · skip
                    have t_18 := Int32.le_iff_toInt_le.mp c_18
                    refine lv_iload hx hb dX6_near_141 (lv_at hl 7 rfl) ?_
                    refine lv_istore (lv' := [(4, .int x4), (9, .int (((((a2 - (f_M_houseOf S x6)) * 1000) + (f_M_houseOf S x6)) * 26) + (S 11 x6.toNatClampNeg))), (8, .int (a2 - (f_M_houseOf S x6))), (7, .int (f_M_houseOf S x6)), (0, .ref (h 0)), (1, .int a1), (2, .int a2), (3, .int (f_M_meant S a1 (S 19 0))), (5, .int x5), (6, .int x6)]) hx hb dX6_near_143 hl (by decide) rfl (fun ls hl => ?_)
                    refine lv_iload hx hb dX6_near_145 (lv_at hl 1 rfl) ?_
                    refine lv_iload hx hb dX6_near_147 (lv_at hl 8 rfl) ?_
                    refine lv_icmp_ge (tgt := 157) hx hb dX6_near_149 (by decide) (fun c_19 => ?_) (fun c_19 => ?_)
                    · skip
                      have t_19 := Int32.le_iff_toInt_le.mp c_19
                      refine lv_iload hx hb dX6_near_157 (lv_at hl 8 rfl) ?_
                      refine lv_istore (lv' := [(5, .int x5), (4, .int x4), (9, .int (((((a2 - (f_M_houseOf S x6)) * 1000) + (f_M_houseOf S x6)) * 26) + (S 11 x6.toNatClampNeg))), (8, .int (a2 - (f_M_houseOf S x6))), (7, .int (f_M_houseOf S x6)), (0, .ref (h 0)), (1, .int a1), (2, .int a2), (3, .int (f_M_meant S a1 (S 19 0))), (6, .int x6)]) hx hb dX6_near_159 hl (by decide) rfl (fun ls hl => ?_)
                      refine lv_iinc (v := x6 + 1) (lv' := [(6, .int (x6 + 1)), (5, .int x5), (4, .int x4), (9, .int (((((a2 - (f_M_houseOf S x6)) * 1000) + (f_M_houseOf S x6)) * 26) + (S 11 x6.toNatClampNeg))), (8, .int (a2 - (f_M_houseOf S x6))), (7, .int (f_M_houseOf S x6)), (0, .ref (h 0)), (1, .int a1), (2, .int a2), (3, .int (f_M_meant S a1 (S 19 0)))]) hx hb dX6_near_161 hl (k := 9) rfl rfl (by decide) rfl (fun ls hl => ?_)
                      refine lv_goto (tgt := 45) hx hb dX6_near_164 (by decide) ?_
                      have hinc := i32_inc (x := x6) h0_45 (by omega)
                      exact ih45 x4 x5 (x6 + 1) _ _ _ ⟨by omega, by omega, by omega, by omega, trivial⟩ (by first | (rw [← he45, l_M_near_45, if_neg c_7, if_neg c_9, if_pos c_12, if_neg c_14, if_pos c_18, if_pos c_19]; done) | (rw [← he45, l_M_near_45]; simp only [if_neg c_7, if_neg c_9, if_pos c_12, if_neg c_14, if_pos c_18, if_pos c_19])) hP hS (lv_sub hl [6, 7, 8, 9, 2, 1, 0] rfl)
                    · skip
                      have t_19 := mt Int32.le_iff_toInt_le.mpr c_19
                      refine lv_iload hx hb dX6_near_152 (lv_at hl 1 rfl) ?_
                      refine lv_goto (tgt := 159) hx hb dX6_near_154 (by decide) ?_
                      refine lv_istore (lv' := [(5, .int (((((a2 - (f_M_houseOf S x6)) * 1000) + (f_M_houseOf S x6)) * 26) + (S 11 x6.toNatClampNeg))), (4, .int x4), (9, .int (((((a2 - (f_M_houseOf S x6)) * 1000) + (f_M_houseOf S x6)) * 26) + (S 11 x6.toNatClampNeg))), (8, .int (a2 - (f_M_houseOf S x6))), (7, .int (f_M_houseOf S x6)), (0, .ref (h 0)), (1, .int a1), (2, .int a2), (3, .int (f_M_meant S a1 (S 19 0))), (6, .int x6)]) hx hb dX6_near_159 hl (by decide) rfl (fun ls hl => ?_)
                      refine lv_iinc (v := x6 + 1) (lv' := [(6, .int (x6 + 1)), (5, .int (((((a2 - (f_M_houseOf S x6)) * 1000) + (f_M_houseOf S x6)) * 26) + (S 11 x6.toNatClampNeg))), (4, .int x4), (9, .int (((((a2 - (f_M_houseOf S x6)) * 1000) + (f_M_houseOf S x6)) * 26) + (S 11 x6.toNatClampNeg))), (8, .int (a2 - (f_M_houseOf S x6))), (7, .int (f_M_houseOf S x6)), (0, .ref (h 0)), (1, .int a1), (2, .int a2), (3, .int (f_M_meant S a1 (S 19 0)))]) hx hb dX6_near_161 hl (k := 9) rfl rfl (by decide) rfl (fun ls hl => ?_)
                      refine lv_goto (tgt := 45) hx hb dX6_near_164 (by decide) ?_
                      have hinc := i32_inc (x := x6) h0_45 (by omega)
                      exact ih45 x4 (((((a2 - (f_M_houseOf S x6)) * 1000) + (f_M_houseOf S x6)) * 26) + (S 11 x6.toNatClampNeg)) (x6 + 1) _ _ _ ⟨by omega, by omega, by omega, by omega, trivial⟩ (by first | (rw [← he45, l_M_near_45, if_neg c_7, if_neg c_9, if_pos c_12, if_neg c_14, if_pos c_18, if_neg c_19]; done) | (rw [← he45, l_M_near_45]; simp only [if_neg c_7, if_neg c_9, if_pos c_12, if_neg c_14, if_pos c_18, if_neg c_19])) hP hS (lv_sub hl [6, 7, 8, 9, 2, 1, 0] rfl)
                  · skip
                    have t_18 := mt Int32.le_iff_toInt_le.mpr c_18
                    refine lv_iload hx hb dX6_near_136 (lv_at hl 9 rfl) ?_
                    refine lv_goto (tgt := 143) hx hb dX6_near_138 (by decide) ?_
                    refine lv_istore (lv' := [(4, .int x6), (9, .int (((((a2 - (f_M_houseOf S x6)) * 1000) + (f_M_houseOf S x6)) * 26) + (S 11 x6.toNatClampNeg))), (8, .int (a2 - (f_M_houseOf S x6))), (7, .int (f_M_houseOf S x6)), (0, .ref (h 0)), (1, .int a1), (2, .int a2), (3, .int (f_M_meant S a1 (S 19 0))), (5, .int x5), (6, .int x6)]) hx hb dX6_near_143 hl (by decide) rfl (fun ls hl => ?_)
                    refine lv_iload hx hb dX6_near_145 (lv_at hl 1 rfl) ?_
                    refine lv_iload hx hb dX6_near_147 (lv_at hl 8 rfl) ?_
                    refine lv_icmp_ge (tgt := 157) hx hb dX6_near_149 (by decide) (fun c_20 => ?_) (fun c_20 => ?_)
                    · skip
                      have t_20 := Int32.le_iff_toInt_le.mp c_20
                      refine lv_iload hx hb dX6_near_157 (lv_at hl 8 rfl) ?_
                      refine lv_istore (lv' := [(5, .int x5), (4, .int x6), (9, .int (((((a2 - (f_M_houseOf S x6)) * 1000) + (f_M_houseOf S x6)) * 26) + (S 11 x6.toNatClampNeg))), (8, .int (a2 - (f_M_houseOf S x6))), (7, .int (f_M_houseOf S x6)), (0, .ref (h 0)), (1, .int a1), (2, .int a2), (3, .int (f_M_meant S a1 (S 19 0))), (6, .int x6)]) hx hb dX6_near_159 hl (by decide) rfl (fun ls hl => ?_)
                      refine lv_iinc (v := x6 + 1) (lv' := [(6, .int (x6 + 1)), (5, .int x5), (4, .int x6), (9, .int (((((a2 - (f_M_houseOf S x6)) * 1000) + (f_M_houseOf S x6)) * 26) + (S 11 x6.toNatClampNeg))), (8, .int (a2 - (f_M_houseOf S x6))), (7, .int (f_M_houseOf S x6)), (0, .ref (h 0)), (1, .int a1), (2, .int a2), (3, .int (f_M_meant S a1 (S 19 0)))]) hx hb dX6_near_161 hl (k := 9) rfl rfl (by decide) rfl (fun ls hl => ?_)
                      refine lv_goto (tgt := 45) hx hb dX6_near_164 (by decide) ?_
                      have hinc := i32_inc (x := x6) h0_45 (by omega)
                      exact ih45 x6 x5 (x6 + 1) _ _ _ ⟨by omega, by omega, by omega, by omega, trivial⟩ (by first | (rw [← he45, l_M_near_45, if_neg c_7, if_neg c_9, if_pos c_12, if_neg c_14, if_neg c_18, if_pos c_20]; done) | (rw [← he45, l_M_near_45]; simp only [if_neg c_7, if_neg c_9, if_pos c_12, if_neg c_14, if_neg c_18, if_pos c_20])) hP hS (lv_sub hl [6, 7, 8, 9, 2, 1, 0] rfl)
                    · skip
                      have t_20 := mt Int32.le_iff_toInt_le.mpr c_20
                      refine lv_iload hx hb dX6_near_152 (lv_at hl 1 rfl) ?_
                      refine lv_goto (tgt := 159) hx hb dX6_near_154 (by decide) ?_
                      refine lv_istore (lv' := [(5, .int (((((a2 - (f_M_houseOf S x6)) * 1000) + (f_M_houseOf S x6)) * 26) + (S 11 x6.toNatClampNeg))), (4, .int x6), (9, .int (((((a2 - (f_M_houseOf S x6)) * 1000) + (f_M_houseOf S x6)) * 26) + (S 11 x6.toNatClampNeg))), (8, .int (a2 - (f_M_houseOf S x6))), (7, .int (f_M_houseOf S x6)), (0, .ref (h 0)), (1, .int a1), (2, .int a2), (3, .int (f_M_meant S a1 (S 19 0))), (6, .int x6)]) hx hb dX6_near_159 hl (by decide) rfl (fun ls hl => ?_)
                      refine lv_iinc (v := x6 + 1) (lv' := [(6, .int (x6 + 1)), (5, .int (((((a2 - (f_M_houseOf S x6)) * 1000) + (f_M_houseOf S x6)) * 26) + (S 11 x6.toNatClampNeg))), (4, .int x6), (9, .int (((((a2 - (f_M_houseOf S x6)) * 1000) + (f_M_houseOf S x6)) * 26) + (S 11 x6.toNatClampNeg))), (8, .int (a2 - (f_M_houseOf S x6))), (7, .int (f_M_houseOf S x6)), (0, .ref (h 0)), (1, .int a1), (2, .int a2), (3, .int (f_M_meant S a1 (S 19 0)))]) hx hb dX6_near_161 hl (k := 9) rfl rfl (by decide) rfl (fun ls hl => ?_)
                      refine lv_goto (tgt := 45) hx hb dX6_near_164 (by decide) ?_
                      have hinc := i32_inc (x := x6) h0_45 (by omega)
                      exact ih45 x6 (((((a2 - (f_M_houseOf S x6)) * 1000) + (f_M_houseOf S x6)) * 26) + (S 11 x6.toNatClampNeg)) (x6 + 1) _ _ _ ⟨by omega, by omega, by omega, by omega, trivial⟩ (by first | (rw [← he45, l_M_near_45, if_neg c_7, if_neg c_9, if_pos c_12, if_neg c_14, if_neg c_18, if_neg c_20]; done) | (rw [← he45, l_M_near_45]; simp only [if_neg c_7, if_neg c_9, if_pos c_12, if_neg c_14, if_neg c_18, if_neg c_20])) hP hS (lv_sub hl [6, 7, 8, 9, 2, 1, 0] rfl)
      have z_m1 : ((-1) : Int32).toInt = (-1) := by decide
      have z_1000000000 : ((1000000000) : Int32).toInt = (1000000000) := by decide
      have z_0 : ((0) : Int32).toInt = (0) := by decide
      have hB9_45 := ivM_23 (S := S) hI
      exact loop45 600 (-1) 1000000000 0 _ _ _ ⟨by omega, by omega, by omega, by omega, trivial⟩ (by rw [f_M_near, if_neg c_2, if_neg c_4]) hP hS (lv_sub hl [4, 5, 6, 3, 2, 1, 0] rfl)
    · skip
      refine lv_bipush (v := (-12)) hx hb dX6_near_22 (by decide) ?_
      exact W.iret (v := (-12)) hx hb hr (fun t ht hW => ⟨⟨(-12), (), rfl, (by rw [f_M_near, if_neg c_2, if_pos c_4]), trivial⟩, hS.F ht⟩) hS.2.2 dX6_near_24
  · skip
    refine lv_bipush (v := (-11)) hx hb dX6_near_8 (by decide) ?_
    exact W.iret (v := (-11)) hx hb hr (fun t ht hW => ⟨⟨(-11), (), rfl, (by rw [f_M_near, if_pos c_2]), trivial⟩, hS.F ht⟩) hS.2.2 dX6_near_10
set_option maxHeartbeats 4000000 in
set_option maxRecDepth 100000 in
theorem m_M_onRound (l : Launch) (D : va_G) (h : Nat → Nat) (cI cZ : ClassId) (S : BS) (hI : IVM S) (a1 : Int32) (hHS : HSM S a1) (ha0 : 0 ≤ a1.toInt ∧ a1.toInt ≤ 119) : PMM l yX6_onRound wsX6_onRound { frames := 2, cells := 0, slots := 0, locals := 43 } D cI cZ h S [.ref (h 0), .int a1] (f_M_onRound S a1) := by
  refine Met.ofW (cc := cX6_onRound) (maxL := 3) (ret := (some .int)) (by decide) rfl ?_
  intro p e s m args below meth c s₁ B hml hv
  obtain ⟨rfl, hP, hK, hN⟩ := hv
  have hx := B.exec
  have hb := B.bytes
  have hr := B.returns
  have hts := atoms_spec (ws := wsX6_onRound) B.pre
  have hB : ∀ w ∈ BW, w.before _ s = true := fun w h => hts w (List.mem_cons_of_mem _ h)
  have hown : s.vm.findClass RX6 = some m.cls := findClass_of_methodNamed B.named
  have hlocks := B.notSynchronized
  have hS : va_S (fun _ => False) s.heap s.heap [] := va_S.rf
  have hl := lv_entry ([.ref (h 0), .int a1]) (n := 3) (Nat.le_of_ble_eq_true rfl)
  rw [lg_entry_eq]
  generalize (lg_sl ([.ref (h 0), .int a1]) ++ List.replicate (3 - (lg_sl ([.ref (h 0), .int a1])).length) Slot.unset).toArray = ls at hl ⊢
  have hl : lv_has ls 3 [(0, .ref (h 0)), (1, .int a1)] := hl
  refine lv_aload_n hx hb dX6_onRound_0 rfl (lv_at hl 0 rfl) ?_
  refine lv_iload_n hx hb dX6_onRound_1 rfl (lv_at hl 1 rfl) ?_
  refine pu_callM (va_runV (As := [.int a1]) (rest := []) ⟨hx, hb, hml, hown, hB⟩ (m_M_houseOf l D h cI cZ S hI a1 (show HSM (S) a1 from hHS)) (cwV 1 hB (gV k3_137 k3_139 ks_354 k1_7 k3_140) rfl rfl rfl (by decide +kernel) ⟨Nat.le_of_ble_eq_true rfl, Nat.le_of_ble_eq_true rfl⟩) ⟨pu_blindM, va_recv hK hP (ci := 6) (q0 := 0) rfl rfl, pu_preM hP hK hN⟩ rfl rfl hl.1 rfl (lv_room (Nat.le_of_ble_eq_true rfl)) dX6_onRound_2 ⟨Nat.le_of_ble_eq_true rfl, Nat.le_of_ble_eq_true rfl⟩) hP hS (fun H locs hP hS => ?_)
  have k_1 := fc_M_houseOf (S := S) hI a1
  refine lv_istore_n (lv' := [(2, .int (f_M_houseOf S a1)), (0, .ref (h 0)), (1, .int a1)]) hx hb dX6_onRound_5 rfl hl (by decide) rfl (fun ls hl => ?_)
  refine lv_iload_n hx hb dX6_onRound_6 rfl (lv_at hl 0 rfl) ?_
  refine lv_iconst (v := 2) hx hb dX6_onRound_7 (by decide) ?_
  refine lv_irem hx hb dX6_onRound_8 (by decide) ?_
  refine lv_iconst (v := 1) hx hb dX6_onRound_9 (by decide) ?_
  refine lv_icmp_ne (tgt := 17) hx hb dX6_onRound_10 (by decide) (fun c_2 => ?_) (fun c_2 => ?_)
  · skip
    have z_1 : ((1) : Int32).toInt = (1) := by decide
    have t_2 := mt Int32.toInt_inj.mp c_2
    refine lv_sipush (v := 3000) hx hb dX6_onRound_17 (by decide) ?_
    refine lv_iload_n hx hb dX6_onRound_20 rfl (lv_at hl 0 rfl) ?_
    refine lv_isub hx hb dX6_onRound_21 ?_
    refine lv_bipush (v := 26) hx hb dX6_onRound_22 (by decide) ?_
    refine lv_imul hx hb dX6_onRound_24 ?_
    refine lv_aload_n hx hb dX6_onRound_25 rfl (lv_at hl 1 rfl) ?_
    refine va_get (D := D) (ci := 6) (v := .ref (h 12)) (C := RX6) (T := TX6) (N := 25) hx hb hB inX6 hown hK hP 0 rfl rfl 16 (by decide) (hB _ k3_13) (fun _ h9 => h9) rfl dX6_onRound_26 ?_
    refine lv_iload_n hx hb dX6_onRound_29 rfl (lv_at hl 2 rfl) ?_
    refine va_iald (f := S 11) hx hb hK hP 12 0 rfl rfl (vp_in_iff.mpr (by omega)) dX6_onRound_30 ?_
    refine lv_iadd hx hb dX6_onRound_31 ?_
    exact W.iret (v := ((3000 - (f_M_houseOf S a1)) * 26) + (S 11 a1.toNatClampNeg)) hx hb hr (fun t ht hW => ⟨⟨((3000 - (f_M_houseOf S a1)) * 26) + (S 11 a1.toNatClampNeg), (), rfl, (by rw [f_M_onRound, if_neg c_2]), trivial⟩, hS.F ht⟩) hS.2.2 dX6_onRound_32
  · skip
    have z_1 : ((1) : Int32).toInt = (1) := by decide
    have t_2 := Int32.toInt_inj.symm.mp c_2
    refine lv_iload_n hx hb dX6_onRound_13 rfl (lv_at hl 0 rfl) ?_
    refine lv_goto (tgt := 22) hx hb dX6_onRound_14 (by decide) ?_
    refine lv_bipush (v := 26) hx hb dX6_onRound_22 (by decide) ?_
    refine lv_imul hx hb dX6_onRound_24 ?_
    refine lv_aload_n hx hb dX6_onRound_25 rfl (lv_at hl 1 rfl) ?_
    refine va_get (D := D) (ci := 6) (v := .ref (h 12)) (C := RX6) (T := TX6) (N := 25) hx hb hB inX6 hown hK hP 0 rfl rfl 16 (by decide) (hB _ k3_13) (fun _ h9 => h9) rfl dX6_onRound_26 ?_
    refine lv_iload_n hx hb dX6_onRound_29 rfl (lv_at hl 2 rfl) ?_
    refine va_iald (f := S 11) hx hb hK hP 12 0 rfl rfl (vp_in_iff.mpr (by omega)) dX6_onRound_30 ?_
    refine lv_iadd hx hb dX6_onRound_31 ?_
    exact W.iret (v := ((f_M_houseOf S a1) * 26) + (S 11 a1.toNatClampNeg)) hx hb hr (fun t ht hW => ⟨⟨((f_M_houseOf S a1) * 26) + (S 11 a1.toNatClampNeg), (), rfl, (by rw [f_M_onRound, if_pos c_2]), trivial⟩, hS.F ht⟩) hS.2.2 dX6_onRound_32
set_option maxHeartbeats 4000000 in
set_option maxRecDepth 100000 in
theorem m_M_order (l : Launch) (D : va_G) (h : Nat → Nat) (cI cZ : ClassId) (S : BS) (hI : IVM S) (a1 : Int32) (hAS : ASM S) : PMM l yX6_order wsX6_order { frames := 3, cells := 0, slots := 0, locals := 65 } D cI cZ h S [.ref (h 0), .int a1] (f_M_order S a1) := by
  refine Met.ofW (cc := cX6_order) (maxL := 5) (ret := (some .int)) (by decide) rfl ?_
  intro p e s m args below meth c s₁ B hml hv
  obtain ⟨rfl, hP, hK, hN⟩ := hv
  have hx := B.exec
  have hb := B.bytes
  have hr := B.returns
  have hts := atoms_spec (ws := wsX6_order) B.pre
  have hB : ∀ w ∈ BW, w.before _ s = true := fun w h => hts w (List.mem_cons_of_mem _ h)
  have hown : s.vm.findClass RX6 = some m.cls := findClass_of_methodNamed B.named
  have hlocks := B.notSynchronized
  have hS : va_S (fun _ => False) s.heap s.heap [] := va_S.rf
  have hl := lv_entry ([.ref (h 0), .int a1]) (n := 5) (Nat.le_of_ble_eq_true rfl)
  rw [lg_entry_eq]
  generalize (lg_sl ([.ref (h 0), .int a1]) ++ List.replicate (5 - (lg_sl ([.ref (h 0), .int a1])).length) Slot.unset).toArray = ls at hl ⊢
  have hl : lv_has ls 5 [(0, .ref (h 0)), (1, .int a1)] := hl
  refine lv_aload_n hx hb dX6_order_0 rfl (lv_at hl 0 rfl) ?_
  refine lv_iload_n hx hb dX6_order_1 rfl (lv_at hl 1 rfl) ?_
  refine pu_callM (va_runV (As := [.int a1]) (rest := []) ⟨hx, hb, hml, hown, hB⟩ (m_M_isPoint l D h cI cZ S hI a1 ) (cwV 1 hB (gV k3_194 k3_196 ks_398 k1_7 k3_197) rfl rfl rfl (by decide +kernel) ⟨Nat.le_of_ble_eq_true rfl, Nat.le_of_ble_eq_true rfl⟩) ⟨pu_blindM, va_recv hK hP (ci := 6) (q0 := 0) rfl rfl, pu_preM hP hK hN⟩ rfl rfl hl.1 rfl (lv_room (Nat.le_of_ble_eq_true rfl)) dX6_order_2 ⟨Nat.le_of_ble_eq_true rfl, Nat.le_of_ble_eq_true rfl⟩) hP hS (fun H locs hP hS => ?_)
  refine lv_if_ne (tgt := 11) hx hb dX6_order_5 (by decide) (fun c_2 => ?_) (fun c_2 => ?_)
  · skip
    have t_2 := fb_M_isPoint hI c_2
    refine lv_aload_n hx hb dX6_order_11 rfl (lv_at hl 0 rfl) ?_
    refine va_get (D := D) (ci := 6) (v := .ref (h 13)) (C := RX6) (T := TX6) (N := 25) hx hb hB inX6 hown hK hP 0 rfl rfl 17 (by decide) (hB _ k3_14) (fun _ h9 => h9) rfl dX6_order_12 ?_
    refine lv_iload_n hx hb dX6_order_15 rfl (lv_at hl 1 rfl) ?_
    refine va_zald (f := S 12) hx hb hK hP 13 1 rfl rfl (vp_in_iff.mpr (by omega)) dX6_order_16 ?_
    have b_3 : (0) ≤ (S 12 a1.toNatClampNeg).toInt ∧ (S 12 a1.toNatClampNeg).toInt ≤ 1 := ivM_12 (S := S) hI a1.toNatClampNeg
    refine lv_if_ne (tgt := 23) hx hb dX6_order_17 (by decide) (fun c_4 => ?_) (fun c_4 => ?_)
    · skip
      have z_0 : ((0) : Int32).toInt = (0) := by decide
      have t_4 := mt Int32.toInt_inj.mp c_4
      refine lv_iconst (v := 0) hx hb dX6_order_23 (by decide) ?_
      refine lv_istore_n (lv' := [(2, .int 0), (0, .ref (h 0)), (1, .int a1)]) hx hb dX6_order_24 rfl hl (by decide) rfl (fun ls hl => ?_)
      refine lv_iconst (v := 0) hx hb dX6_order_25 (by decide) ?_
      refine lv_istore_n (lv' := [(3, .int 0), (2, .int 0), (0, .ref (h 0)), (1, .int a1)]) hx hb dX6_order_26 rfl hl (by decide) rfl (fun ls hl => ?_)
      have loop27 : ∀ (n27 : Nat) (x2 x3 : Int32) (H : Heap) (locs : List Loc) (ls : Array Slot), (0 ≤ x3.toInt ∧ x3.toInt ≤ 6000 ∧ 1 ≤ (n27 : Int) ∧ (S 23 0 : Int32).toInt - x3.toInt < (n27 : Int) ∧ (True)) → l_M_order_27 S a1 n27 x2 x3 = f_M_order S a1 → va_P D vwCl (wBM h cI cZ S) H → va_S (fun _ => False) s.heap H locs → lv_has ls 5 [(0, .ref (h 0)), (1, .int a1), (2, .int x2), (3, .int x3)] → W p l e (headSpec wsX6_order { frames := 3, cells := 0, slots := 0, locals := 65 }).room s m ([.ref (h 0), .int a1]).toArray below meth c H locs 0 0 (MQ below (PQ (f_M_order S a1)) ([.ref (h 0), .int a1]).toArray s 0 0 (fun _ => False)) (F0 m 27 ls []) := by
        intro n27
        induction n27 with
        | zero =>
          intro x2 x3 H locs ls hinv he27 hP hS hl
          exact absurd hinv.2.2.1 (by omega)
        | succ n27 ih27 =>
          intro x2 x3 H locs ls hinv he27 hP hS hl
          obtain ⟨h0_27, hc_27, h1_27, hm_27, hex_27⟩ := hinv
          have hBd_27 := ivM_23 hI
          refine lv_iload_n hx hb dX6_order_27 rfl (lv_at hl 3 rfl) ?_
          refine lv_aload_n hx hb dX6_order_28 rfl (lv_at hl 0 rfl) ?_
          refine va_get (D := D) (ci := 6) (v := .int (S 23 0)) (C := RX6) (T := TX6) (N := 25) hx hb hB inX6 hown hK hP 0 rfl rfl 14 (by decide) (hB _ k3_11) (fun _ h9 => h9) rfl dX6_order_29 ?_
          have b_5 : (0) ≤ (S 23 0).toInt ∧ (S 23 0).toInt ≤ 120 := ivM_23 (S := S) hI
          refine lv_icmp_ge (tgt := 108) hx hb dX6_order_32 (by decide) (fun c_6 => ?_) (fun c_6 => ?_)
          · skip
            have t_6 := Int32.le_iff_toInt_le.mp c_6
            refine lv_iload_n hx hb dX6_order_108 rfl (lv_at hl 2 rfl) ?_
            exact W.iret (v := x2) hx hb hr (fun t ht hW => ⟨⟨x2, (), rfl, (by rw [← he27, l_M_order_27, if_pos c_6]), trivial⟩, hS.F ht⟩) hS.2.2 dX6_order_109
          · skip
            have t_6 := mt Int32.le_iff_toInt_le.mpr c_6
            refine lv_aload_n hx hb dX6_order_35 rfl (lv_at hl 0 rfl) ?_
            refine va_get (D := D) (ci := 6) (v := .ref (h 13)) (C := RX6) (T := TX6) (N := 25) hx hb hB inX6 hown hK hP 0 rfl rfl 17 (by decide) (hB _ k3_14) (fun _ h9 => h9) rfl dX6_order_36 ?_
            refine lv_iload_n hx hb dX6_order_39 rfl (lv_at hl 3 rfl) ?_
            refine va_zald (f := S 12) hx hb hK hP 13 1 rfl rfl (vp_in_iff.mpr (by omega)) dX6_order_40 ?_
            have b_7 : (0) ≤ (S 12 x3.toNatClampNeg).toInt ∧ (S 12 x3.toNatClampNeg).toInt ≤ 1 := ivM_12 (S := S) hI x3.toNatClampNeg
            refine lv_if_eq (tgt := 73) hx hb dX6_order_41 (by decide) (fun c_8 => ?_) (fun c_8 => ?_)
            · skip
              have z_0 : ((0) : Int32).toInt = (0) := by decide
              have t_8 := Int32.toInt_inj.symm.mp c_8
              refine lv_iconst (v := 0) hx hb dX6_order_73 (by decide) ?_
              refine lv_istore (lv' := [(4, .int 0), (0, .ref (h 0)), (1, .int a1), (2, .int x2), (3, .int x3)]) hx hb dX6_order_74 hl (by decide) rfl (fun ls hl => ?_)
              refine lv_iload_n hx hb dX6_order_76 rfl (lv_at hl 3 rfl) ?_
              refine lv_iload hx hb dX6_order_77 (lv_at hl 0 rfl) ?_
              refine lv_if_eq (tgt := 99) hx hb dX6_order_79 (by decide) (fun c_9 => ?_) (fun c_9 => ?_)
              rotate_left
              · exact absurd c_9 (by decide)
              refine lv_iconst (v := 0) hx hb dX6_order_99 (by decide) ?_
              refine lv_iadd hx hb dX6_order_100 ?_
              refine lv_istore_n (lv' := [(2, .int (x2 + 0)), (4, .int 0), (0, .ref (h 0)), (1, .int a1), (3, .int x3)]) hx hb dX6_order_101 rfl hl (by decide) rfl (fun ls hl => ?_)
              refine lv_iinc (v := x3 + 1) (lv' := [(3, .int (x3 + 1)), (2, .int (x2 + 0)), (4, .int 0), (0, .ref (h 0)), (1, .int a1)]) hx hb dX6_order_102 hl (k := 4) rfl rfl (by decide) rfl (fun ls hl => ?_)
              refine lv_goto (tgt := 27) hx hb dX6_order_105 (by decide) ?_
              have hinc := i32_inc (x := x3) h0_27 (by omega)
              exact ih27 (x2 + 0) (x3 + 1) _ _ _ ⟨by omega, by omega, by omega, by omega, trivial⟩ (by first | (rw [← he27, l_M_order_27, if_neg c_6, if_pos c_8]; done) | (rw [← he27, l_M_order_27]; simp only [if_neg c_6, if_pos c_8])) hP hS (lv_sub hl [3, 4, 1, 0] rfl)
            · skip
              have z_0 : ((0) : Int32).toInt = (0) := by decide
              have t_8 := mt Int32.toInt_inj.mp c_8
              refine lv_aload_n hx hb dX6_order_44 rfl (lv_at hl 0 rfl) ?_
              refine va_get (D := D) (ci := 6) (v := .ref (h 6)) (C := RX6) (T := TX6) (N := 25) hx hb hB inX6 hown hK hP 0 rfl rfl 9 (by decide) (hB _ k3_6) (fun _ h9 => h9) rfl dX6_order_45 ?_
              refine lv_aload_n hx hb dX6_order_48 rfl (lv_at hl 0 rfl) ?_
              refine va_get (D := D) (ci := 6) (v := .ref (h 11)) (C := RX6) (T := TX6) (N := 25) hx hb hB inX6 hown hK hP 0 rfl rfl 15 (by decide) (hB _ k3_12) (fun _ h9 => h9) rfl dX6_order_49 ?_
              refine lv_iload_n hx hb dX6_order_52 rfl (lv_at hl 3 rfl) ?_
              refine va_iald (f := S 10) hx hb hK hP 11 0 rfl rfl (vp_in_iff.mpr (by omega)) dX6_order_53 ?_
              have b_10 : (0) ≤ (S 10 x3.toNatClampNeg).toInt ∧ (S 10 x3.toNatClampNeg).toInt ≤ 79 := ivM_10 (S := S) hI x3.toNatClampNeg
              refine va_iald (f := S 5) hx hb hK hP 6 0 rfl rfl (vp_in_iff.mpr (by omega)) dX6_order_54 ?_
              have b_11 : (0) ≤ (S 5 (S 10 x3.toNatClampNeg).toNatClampNeg).toInt ∧ (S 5 (S 10 x3.toNatClampNeg).toNatClampNeg).toInt ≤ 31 := ivM_5 (S := S) hI ((S 10 x3.toNatClampNeg).toNatClampNeg)
              refine lv_aload_n hx hb dX6_order_55 rfl (lv_at hl 0 rfl) ?_
              refine va_get (D := D) (ci := 6) (v := .ref (h 6)) (C := RX6) (T := TX6) (N := 25) hx hb hB inX6 hown hK hP 0 rfl rfl 9 (by decide) (hB _ k3_6) (fun _ h9 => h9) rfl dX6_order_56 ?_
              refine lv_aload_n hx hb dX6_order_59 rfl (lv_at hl 0 rfl) ?_
              refine va_get (D := D) (ci := 6) (v := .ref (h 11)) (C := RX6) (T := TX6) (N := 25) hx hb hB inX6 hown hK hP 0 rfl rfl 15 (by decide) (hB _ k3_12) (fun _ h9 => h9) rfl dX6_order_60 ?_
              refine lv_iload_n hx hb dX6_order_63 rfl (lv_at hl 1 rfl) ?_
              refine va_iald (f := S 10) hx hb hK hP 11 0 rfl rfl (vp_in_iff.mpr (by omega)) dX6_order_64 ?_
              have b_12 : (0) ≤ (S 10 a1.toNatClampNeg).toInt ∧ (S 10 a1.toNatClampNeg).toInt ≤ 79 := ivM_10 (S := S) hI a1.toNatClampNeg
              refine va_iald (f := S 5) hx hb hK hP 6 0 rfl rfl (vp_in_iff.mpr (by omega)) dX6_order_65 ?_
              have b_13 : (0) ≤ (S 5 (S 10 a1.toNatClampNeg).toNatClampNeg).toInt ∧ (S 5 (S 10 a1.toNatClampNeg).toNatClampNeg).toInt ≤ 31 := ivM_5 (S := S) hI ((S 10 a1.toNatClampNeg).toNatClampNeg)
              refine lv_icmp_ne (tgt := 73) hx hb dX6_order_66 (by decide) (fun c_14 => ?_) (fun c_14 => ?_)
              · skip
                refine lv_iconst (v := 0) hx hb dX6_order_73 (by decide) ?_
                refine lv_istore (lv' := [(4, .int 0), (0, .ref (h 0)), (1, .int a1), (2, .int x2), (3, .int x3)]) hx hb dX6_order_74 hl (by decide) rfl (fun ls hl => ?_)
                refine lv_iload_n hx hb dX6_order_76 rfl (lv_at hl 3 rfl) ?_
                refine lv_iload hx hb dX6_order_77 (lv_at hl 0 rfl) ?_
                refine lv_if_eq (tgt := 99) hx hb dX6_order_79 (by decide) (fun c_15 => ?_) (fun c_15 => ?_)
                rotate_left
                · exact absurd c_15 (by decide)
                refine lv_iconst (v := 0) hx hb dX6_order_99 (by decide) ?_
                refine lv_iadd hx hb dX6_order_100 ?_
                refine lv_istore_n (lv' := [(2, .int (x2 + 0)), (4, .int 0), (0, .ref (h 0)), (1, .int a1), (3, .int x3)]) hx hb dX6_order_101 rfl hl (by decide) rfl (fun ls hl => ?_)
                refine lv_iinc (v := x3 + 1) (lv' := [(3, .int (x3 + 1)), (2, .int (x2 + 0)), (4, .int 0), (0, .ref (h 0)), (1, .int a1)]) hx hb dX6_order_102 hl (k := 4) rfl rfl (by decide) rfl (fun ls hl => ?_)
                refine lv_goto (tgt := 27) hx hb dX6_order_105 (by decide) ?_
                have hinc := i32_inc (x := x3) h0_27 (by omega)
                exact ih27 (x2 + 0) (x3 + 1) _ _ _ ⟨by omega, by omega, by omega, by omega, trivial⟩ (by first | (rw [← he27, l_M_order_27, if_neg c_6, if_neg c_8, if_neg c_14]; done) | (rw [← he27, l_M_order_27]; simp only [if_neg c_6, if_neg c_8, if_neg c_14])) hP hS (lv_sub hl [3, 4, 1, 0] rfl)
              · skip
                refine lv_iconst (v := 1) hx hb dX6_order_69 (by decide) ?_
                refine lv_goto (tgt := 74) hx hb dX6_order_70 (by decide) ?_
                refine lv_istore (lv' := [(4, .int 1), (0, .ref (h 0)), (1, .int a1), (2, .int x2), (3, .int x3)]) hx hb dX6_order_74 hl (by decide) rfl (fun ls hl => ?_)
                refine lv_iload_n hx hb dX6_order_76 rfl (lv_at hl 3 rfl) ?_
                refine lv_iload hx hb dX6_order_77 (lv_at hl 0 rfl) ?_
                refine lv_if_eq (tgt := 99) hx hb dX6_order_79 (by decide) (fun c_16 => ?_) (fun c_16 => ?_)
                · exact absurd c_16 (by decide)
                refine lv_aload_n hx hb dX6_order_82 rfl (lv_at hl 1 rfl) ?_
                refine lv_iload_n hx hb dX6_order_83 rfl (lv_at hl 4 rfl) ?_
                refine pu_callM (va_runV (As := [.int x3]) (rest := [.int x2]) ⟨hx, hb, hml, hown, hB⟩ (m_M_onRound l D h cI cZ S hI x3 (((show ASM (S) from hAS)) x3 (by omega) (show (x3).toInt < (S 23 0).toInt by omega)) (by omega)) (cwV 1 hB (gV k3_218 k3_220 ks_418 k1_7 k3_221) rfl rfl rfl (by decide +kernel) ⟨Nat.le_of_ble_eq_true rfl, Nat.le_of_ble_eq_true rfl⟩) ⟨pu_blindM, va_recv hK hP (ci := 6) (q0 := 0) rfl rfl, pu_preM hP hK hN⟩ rfl rfl hl.1 rfl (lv_room (Nat.le_of_ble_eq_true rfl)) dX6_order_84 ⟨Nat.le_of_ble_eq_true rfl, Nat.le_of_ble_eq_true rfl⟩) hP hS (fun H locs hP hS => ?_)
                refine lv_aload_n hx hb dX6_order_87 rfl (lv_at hl 1 rfl) ?_
                refine lv_iload_n hx hb dX6_order_88 rfl (lv_at hl 2 rfl) ?_
                refine pu_callM (va_runV (As := [.int a1]) (rest := [.int (f_M_onRound S x3), .int x2]) ⟨hx, hb, hml, hown, hB⟩ (m_M_onRound l D h cI cZ S hI a1 (((show ASM (S) from hAS)) a1 (by omega) (show (a1).toInt < (S 23 0).toInt by omega)) (by omega)) (cwV 1 hB (gV k3_218 k3_220 ks_418 k1_7 k3_221) rfl rfl rfl (by decide +kernel) ⟨Nat.le_of_ble_eq_true rfl, Nat.le_of_ble_eq_true rfl⟩) ⟨pu_blindM, va_recv hK hP (ci := 6) (q0 := 0) rfl rfl, pu_preM hP hK hN⟩ rfl rfl hl.1 rfl (lv_room (Nat.le_of_ble_eq_true rfl)) dX6_order_89 ⟨Nat.le_of_ble_eq_true rfl, Nat.le_of_ble_eq_true rfl⟩) hP hS (fun H locs hP hS => ?_)
                refine lv_icmp_ge (tgt := 99) hx hb dX6_order_92 (by decide) (fun c_19 => ?_) (fun c_19 => ?_)
                · skip
                  have t_19 := Int32.le_iff_toInt_le.mp c_19
                  refine lv_iconst (v := 0) hx hb dX6_order_99 (by decide) ?_
                  refine lv_iadd hx hb dX6_order_100 ?_
                  refine lv_istore_n (lv' := [(2, .int (x2 + 0)), (4, .int 1), (0, .ref (h 0)), (1, .int a1), (3, .int x3)]) hx hb dX6_order_101 rfl hl (by decide) rfl (fun ls hl => ?_)
                  refine lv_iinc (v := x3 + 1) (lv' := [(3, .int (x3 + 1)), (2, .int (x2 + 0)), (4, .int 1), (0, .ref (h 0)), (1, .int a1)]) hx hb dX6_order_102 hl (k := 4) rfl rfl (by decide) rfl (fun ls hl => ?_)
                  refine lv_goto (tgt := 27) hx hb dX6_order_105 (by decide) ?_
                  have hinc := i32_inc (x := x3) h0_27 (by omega)
                  exact ih27 (x2 + 0) (x3 + 1) _ _ _ ⟨by omega, by omega, by omega, by omega, trivial⟩ (by first | (rw [← he27, l_M_order_27, if_neg c_6, if_neg c_8, if_pos c_14, if_pos c_19]; done) | (rw [← he27, l_M_order_27]; simp only [if_neg c_6, if_neg c_8, if_pos c_14, if_pos c_19])) hP hS (lv_sub hl [3, 4, 1, 0] rfl)
                · skip
                  have t_19 := mt Int32.le_iff_toInt_le.mpr c_19
                  refine lv_iconst (v := 1) hx hb dX6_order_95 (by decide) ?_
                  refine lv_goto (tgt := 100) hx hb dX6_order_96 (by decide) ?_
                  refine lv_iadd hx hb dX6_order_100 ?_
                  refine lv_istore_n (lv' := [(2, .int (x2 + 1)), (4, .int 1), (0, .ref (h 0)), (1, .int a1), (3, .int x3)]) hx hb dX6_order_101 rfl hl (by decide) rfl (fun ls hl => ?_)
                  refine lv_iinc (v := x3 + 1) (lv' := [(3, .int (x3 + 1)), (2, .int (x2 + 1)), (4, .int 1), (0, .ref (h 0)), (1, .int a1)]) hx hb dX6_order_102 hl (k := 4) rfl rfl (by decide) rfl (fun ls hl => ?_)
                  refine lv_goto (tgt := 27) hx hb dX6_order_105 (by decide) ?_
                  have hinc := i32_inc (x := x3) h0_27 (by omega)
                  exact ih27 (x2 + 1) (x3 + 1) _ _ _ ⟨by omega, by omega, by omega, by omega, trivial⟩ (by first | (rw [← he27, l_M_order_27, if_neg c_6, if_neg c_8, if_pos c_14, if_neg c_19]; done) | (rw [← he27, l_M_order_27]; simp only [if_neg c_6, if_neg c_8, if_pos c_14, if_neg c_19])) hP hS (lv_sub hl [3, 4, 1, 0] rfl)
      have hB9_27 := ivM_23 (S := S) hI
      exact loop27 600 0 0 _ _ _ ⟨by omega, by omega, by omega, by omega, trivial⟩ (by rw [f_M_order, if_neg c_2, if_neg c_4]) hP hS (lv_sub hl [2, 3, 1, 0] rfl)
    · skip
      have z_0 : ((0) : Int32).toInt = (0) := by decide
      have t_4 := Int32.toInt_inj.symm.mp c_4
      refine lv_bipush (v := (-13)) hx hb dX6_order_20 (by decide) ?_
      exact W.iret (v := (-13)) hx hb hr (fun t ht hW => ⟨⟨(-13), (), rfl, (by rw [f_M_order, if_neg c_2, if_pos c_4]), trivial⟩, hS.F ht⟩) hS.2.2 dX6_order_22
  · skip
    refine lv_bipush (v := (-11)) hx hb dX6_order_8 (by decide) ?_
    exact W.iret (v := (-11)) hx hb hr (fun t ht hW => ⟨⟨(-11), (), rfl, (by rw [f_M_order, if_pos c_2]), trivial⟩, hS.F ht⟩) hS.2.2 dX6_order_10
set_option maxHeartbeats 4000000 in
set_option maxRecDepth 100000 in
theorem m_M_holes (l : Launch) (D : va_G) (h : Nat → Nat) (cI cZ : ClassId) (S : BS) (hI : IVM S) (a1 : Int32) (hAS : ASM S) (hWF : WFM S) : PMM l yX6_holes wsX6_holes { frames := 2, cells := 0, slots := 0, locals := 43 } D cI cZ h S [.ref (h 0), .int a1] (f_M_holes S a1) := by
  refine Met.ofW (cc := cX6_holes) (maxL := 8) (ret := (some .int)) (by decide) rfl ?_
  intro p e s m args below meth c s₁ B hml hv
  obtain ⟨rfl, hP, hK, hN⟩ := hv
  have hx := B.exec
  have hb := B.bytes
  have hr := B.returns
  have hts := atoms_spec (ws := wsX6_holes) B.pre
  have hB : ∀ w ∈ BW, w.before _ s = true := fun w h => hts w (List.mem_cons_of_mem _ h)
  have hown : s.vm.findClass RX6 = some m.cls := findClass_of_methodNamed B.named
  have hlocks := B.notSynchronized
  have hS : va_S (fun _ => False) s.heap s.heap [] := va_S.rf
  have hl := lv_entry ([.ref (h 0), .int a1]) (n := 8) (Nat.le_of_ble_eq_true rfl)
  rw [lg_entry_eq]
  generalize (lg_sl ([.ref (h 0), .int a1]) ++ List.replicate (8 - (lg_sl ([.ref (h 0), .int a1])).length) Slot.unset).toArray = ls at hl ⊢
  have hl : lv_has ls 8 [(0, .ref (h 0)), (1, .int a1)] := hl
  refine lv_aload_n hx hb dX6_holes_0 rfl (lv_at hl 0 rfl) ?_
  refine lv_iload_n hx hb dX6_holes_1 rfl (lv_at hl 1 rfl) ?_
  refine pu_callM (va_runV (As := [.int a1]) (rest := []) ⟨hx, hb, hml, hown, hB⟩ (m_M_isStreet l D h cI cZ S hI a1 ) (cwV 1 hB (gV k3_101 k3_103 ks_322 k1_7 k3_104) rfl rfl rfl (by decide +kernel) ⟨Nat.le_of_ble_eq_true rfl, Nat.le_of_ble_eq_true rfl⟩) ⟨pu_blindM, va_recv hK hP (ci := 6) (q0 := 0) rfl rfl, pu_preM hP hK hN⟩ rfl rfl hl.1 rfl (lv_room (Nat.le_of_ble_eq_true rfl)) dX6_holes_2 ⟨Nat.le_of_ble_eq_true rfl, Nat.le_of_ble_eq_true rfl⟩) hP hS (fun H locs hP hS => ?_)
  refine lv_if_ne (tgt := 11) hx hb dX6_holes_5 (by decide) (fun c_2 => ?_) (fun c_2 => ?_)
  · skip
    have t_2 := fb_M_isStreet hI c_2
    refine lv_aload_n hx hb dX6_holes_11 rfl (lv_at hl 0 rfl) ?_
    refine lv_iload_n hx hb dX6_holes_12 rfl (lv_at hl 1 rfl) ?_
    refine lv_aload_n hx hb dX6_holes_13 rfl (lv_at hl 0 rfl) ?_
    refine va_get (D := D) (ci := 6) (v := .int (S 19 0)) (C := RX6) (T := TX6) (N := 25) hx hb hB inX6 hown hK hP 0 rfl rfl 0 (by decide) (hB _ k2_237) (fun _ h9 => h9) rfl dX6_holes_14 ?_
    refine pu_callM (va_runV (As := [.int a1, .int (S 19 0)]) (rest := []) ⟨hx, hb, hml, hown, hB⟩ (m_M_meant l D h cI cZ S hI a1 (S 19 0) ⟨by omega, by omega⟩ hWF) (cwV 2 hB (gV k3_202 k3_204 ks_414 k1_7 k3_205) rfl rfl rfl (by decide +kernel) ⟨Nat.le_of_ble_eq_true rfl, Nat.le_of_ble_eq_true rfl⟩) ⟨pu_blindM, va_recv hK hP (ci := 6) (q0 := 0) rfl rfl, pu_preM hP hK hN⟩ rfl rfl hl.1 rfl (lv_room (Nat.le_of_ble_eq_true rfl)) dX6_holes_17 ⟨Nat.le_of_ble_eq_true rfl, Nat.le_of_ble_eq_true rfl⟩) hP hS (fun H locs hP hS => ?_)
    refine lv_istore_n (lv' := [(2, .int (f_M_meant S a1 (S 19 0))), (0, .ref (h 0)), (1, .int a1)]) hx hb dX6_holes_20 rfl hl (by decide) rfl (fun ls hl => ?_)
    refine lv_iconst (v := 0) hx hb dX6_holes_21 (by decide) ?_
    refine lv_istore_n (lv' := [(3, .int 0), (2, .int (f_M_meant S a1 (S 19 0))), (0, .ref (h 0)), (1, .int a1)]) hx hb dX6_holes_22 rfl hl (by decide) rfl (fun ls hl => ?_)
    refine lv_iconst (v := 0) hx hb dX6_holes_23 (by decide) ?_
    refine lv_istore (lv' := [(4, .int 0), (3, .int 0), (2, .int (f_M_meant S a1 (S 19 0))), (0, .ref (h 0)), (1, .int a1)]) hx hb dX6_holes_24 hl (by decide) rfl (fun ls hl => ?_)
    have loop26 : ∀ (n26 : Nat) (x3 x4 : Int32) (H : Heap) (locs : List Loc) (ls : Array Slot), (0 ≤ x4.toInt ∧ x4.toInt ≤ 6000 ∧ 1 ≤ (n26 : Int) ∧ (S 22 0 : Int32).toInt - x4.toInt < (n26 : Int) ∧ (True)) → l_M_holes_26 S a1 n26 x3 x4 = f_M_holes S a1 → va_P D vwCl (wBM h cI cZ S) H → va_S (fun _ => False) s.heap H locs → lv_has ls 8 [(0, .ref (h 0)), (1, .int a1), (2, .int (f_M_meant S a1 (S 19 0))), (3, .int x3), (4, .int x4)] → W p l e (headSpec wsX6_holes { frames := 2, cells := 0, slots := 0, locals := 43 }).room s m ([.ref (h 0), .int a1]).toArray below meth c H locs 0 0 (MQ below (PQ (f_M_holes S a1)) ([.ref (h 0), .int a1]).toArray s 0 0 (fun _ => False)) (F0 m 26 ls []) := by
      intro n26
      induction n26 with
      | zero =>
        intro x3 x4 H locs ls hinv he26 hP hS hl
        exact absurd hinv.2.2.1 (by omega)
      | succ n26 ih26 =>
        intro x3 x4 H locs ls hinv he26 hP hS hl
        obtain ⟨h0_26, hc_26, h1_26, hm_26, hex_26⟩ := hinv
        have hBd_26 := ivM_22 hI
        refine lv_iload hx hb dX6_holes_26 (lv_at hl 4 rfl) ?_
        refine lv_aload_n hx hb dX6_holes_28 rfl (lv_at hl 0 rfl) ?_
        refine va_get (D := D) (ci := 6) (v := .int (S 22 0)) (C := RX6) (T := TX6) (N := 25) hx hb hB inX6 hown hK hP 0 rfl rfl 8 (by decide) (hB _ k3_5) (fun _ h9 => h9) rfl dX6_holes_29 ?_
        have b_4 : (0) ≤ (S 22 0).toInt ∧ (S 22 0).toInt ≤ 80 := ivM_22 (S := S) hI
        refine lv_icmp_ge (tgt := 183) hx hb dX6_holes_32 (by decide) (fun c_5 => ?_) (fun c_5 => ?_)
        · skip
          have t_5 := Int32.le_iff_toInt_le.mp c_5
          refine lv_iload_n hx hb dX6_holes_183 rfl (lv_at hl 3 rfl) ?_
          exact W.iret (v := x3) hx hb hr (fun t ht hW => ⟨⟨x3, (), rfl, (by rw [← he26, l_M_holes_26, if_pos c_5]), trivial⟩, hS.F ht⟩) hS.2.2 dX6_holes_184
        · skip
          have t_5 := mt Int32.le_iff_toInt_le.mpr c_5
          refine lv_aload_n hx hb dX6_holes_35 rfl (lv_at hl 0 rfl) ?_
          refine va_get (D := D) (ci := 6) (v := .ref (h 8)) (C := RX6) (T := TX6) (N := 25) hx hb hB inX6 hown hK hP 0 rfl rfl 11 (by decide) (hB _ k3_8) (fun _ h9 => h9) rfl dX6_holes_36 ?_
          refine lv_iload hx hb dX6_holes_39 (lv_at hl 4 rfl) ?_
          refine va_iald (f := S 7) hx hb hK hP 8 0 rfl rfl (vp_in_iff.mpr (by omega)) dX6_holes_41 ?_
          have b_6 : (0) ≤ (S 7 x4.toNatClampNeg).toInt ∧ (S 7 x4.toNatClampNeg).toInt ≤ 999 := ivM_7 (S := S) hI x4.toNatClampNeg
          refine lv_istore (lv' := [(5, .int (S 7 x4.toNatClampNeg)), (0, .ref (h 0)), (1, .int a1), (2, .int (f_M_meant S a1 (S 19 0))), (3, .int x3), (4, .int x4)]) hx hb dX6_holes_42 hl (by decide) rfl (fun ls hl => ?_)
          have kont44 : ∀ (x3 x5 : Int32) (H : Heap) (locs : List Loc) (ls : Array Slot), (True) → (l_M_holes_26 S a1 n26 x3 (x4 + 1)) = f_M_holes S a1 → va_P D vwCl (wBM h cI cZ S) H → va_S (fun _ => False) s.heap H locs → lv_has ls 8 [(0, .ref (h 0)), (1, .int a1), (2, .int (f_M_meant S a1 (S 19 0))), (3, .int x3), (4, .int x4), (5, .int x5)] → W p l e (headSpec wsX6_holes { frames := 2, cells := 0, slots := 0, locals := 43 }).room s m ([.ref (h 0), .int a1]).toArray below meth c H locs 0 0 (MQ below (PQ (f_M_holes S a1)) ([.ref (h 0), .int a1]).toArray s 0 0 (fun _ => False)) (F0 m 177 ls []) := by
            intro x3 x5 H locs ls hkinv hk44 hP hS hl
            refine lv_iinc (v := x4 + 1) (lv' := [(4, .int (x4 + 1)), (0, .ref (h 0)), (1, .int a1), (2, .int (f_M_meant S a1 (S 19 0))), (3, .int x3), (5, .int x5)]) hx hb dX6_holes_177 hl (k := 4) rfl rfl (by decide) rfl (fun ls hl => ?_)
            refine lv_goto (tgt := 26) hx hb dX6_holes_180 (by decide) ?_
            have hinc := i32_inc (x := x4) h0_26 (by omega)
            exact ih26 x3 (x4 + 1) _ _ _ ⟨by omega, by omega, by omega, by omega, trivial⟩ (by rw [← hk44]) hP hS (lv_sub hl [1, 2, 3, 4, 0] rfl)
          have loop44 : ∀ (n44 : Nat) (x3 x5 : Int32) (H : Heap) (locs : List Loc) (ls : Array Slot), (0 ≤ x5.toInt ∧ x5.toInt ≤ 6000 ∧ 1 ≤ (n44 : Int) ∧ (S 8 x4.toNatClampNeg : Int32).toInt - x5.toInt + 1 < (n44 : Int) ∧ (True)) → l_M_holes_44 S a1 x4 (fun x3 x5 => (l_M_holes_26 S a1 n26 x3 (x4 + 1))) n44 x3 x5 = f_M_holes S a1 → va_P D vwCl (wBM h cI cZ S) H → va_S (fun _ => False) s.heap H locs → lv_has ls 8 [(0, .ref (h 0)), (1, .int a1), (2, .int (f_M_meant S a1 (S 19 0))), (3, .int x3), (4, .int x4), (5, .int x5)] → W p l e (headSpec wsX6_holes { frames := 2, cells := 0, slots := 0, locals := 43 }).room s m ([.ref (h 0), .int a1]).toArray below meth c H locs 0 0 (MQ below (PQ (f_M_holes S a1)) ([.ref (h 0), .int a1]).toArray s 0 0 (fun _ => False)) (F0 m 44 ls []) := by
            intro n44
            induction n44 with
            | zero =>
              intro x3 x5 H locs ls hinv he44 hP hS hl
              exact absurd hinv.2.2.1 (by omega)
            | succ n44 ih44 =>
              intro x3 x5 H locs ls hinv he44 hP hS hl
              obtain ⟨h0_44, hc_44, h1_44, hm_44, hex_44⟩ := hinv
              refine lv_aload_n hx hb dX6_holes_44 rfl (lv_at hl 0 rfl) ?_
              refine va_get (D := D) (ci := 6) (v := .ref (h 10)) (C := RX6) (T := TX6) (N := 25) hx hb hB inX6 hown hK hP 0 rfl rfl 13 (by decide) (hB _ k3_10) (fun _ h9 => h9) rfl dX6_holes_45 ?_
              refine lv_iload hx hb dX6_holes_48 (lv_at hl 4 rfl) ?_
              refine va_zald (f := S 9) hx hb hK hP 10 1 rfl rfl (vp_in_iff.mpr (by omega)) dX6_holes_50 ?_
              have b_7 : (0) ≤ (S 9 x4.toNatClampNeg).toInt ∧ (S 9 x4.toNatClampNeg).toInt ≤ 1 := ivM_9 (S := S) hI x4.toNatClampNeg
              refine lv_if_eq (tgt := 177) hx hb dX6_holes_51 (by decide) (fun c_8 => ?_) (fun c_8 => ?_)
              · skip
                have z_0 : ((0) : Int32).toInt = (0) := by decide
                have t_8 := Int32.toInt_inj.symm.mp c_8
                exact kont44 x3 x5 _ _ _ trivial (by first | (rw [← he44, l_M_holes_44, if_pos c_8]; done) | (rw [← he44, l_M_holes_44]; simp only [if_pos c_8])) hP hS (lv_sub hl [0, 1, 2, 3, 4, 5] rfl)
              · skip
                have z_0 : ((0) : Int32).toInt = (0) := by decide
                have t_8 := mt Int32.toInt_inj.mp c_8
                refine lv_aload_n hx hb dX6_holes_54 rfl (lv_at hl 0 rfl) ?_
                refine va_get (D := D) (ci := 6) (v := .ref (h 6)) (C := RX6) (T := TX6) (N := 25) hx hb hB inX6 hown hK hP 0 rfl rfl 9 (by decide) (hB _ k3_6) (fun _ h9 => h9) rfl dX6_holes_55 ?_
                refine lv_iload hx hb dX6_holes_58 (lv_at hl 4 rfl) ?_
                refine va_iald (f := S 5) hx hb hK hP 6 0 rfl rfl (vp_in_iff.mpr (by omega)) dX6_holes_60 ?_
                have b_9 : (0) ≤ (S 5 x4.toNatClampNeg).toInt ∧ (S 5 x4.toNatClampNeg).toInt ≤ 31 := ivM_5 (S := S) hI x4.toNatClampNeg
                refine lv_iload_n hx hb dX6_holes_61 rfl (lv_at hl 2 rfl) ?_
                refine lv_icmp_ne (tgt := 177) hx hb dX6_holes_62 (by decide) (fun c_10 => ?_) (fun c_10 => ?_)
                · skip
                  exact kont44 x3 x5 _ _ _ trivial (by first | (rw [← he44, l_M_holes_44, if_neg c_8, if_neg c_10]; done) | (rw [← he44, l_M_holes_44]; simp only [if_neg c_8, if_neg c_10])) hP hS (lv_sub hl [0, 1, 2, 3, 4, 5] rfl)
                · skip
                  refine lv_iload hx hb dX6_holes_65 (lv_at hl 5 rfl) ?_
                  refine lv_aload_n hx hb dX6_holes_67 rfl (lv_at hl 0 rfl) ?_
                  refine va_get (D := D) (ci := 6) (v := .ref (h 9)) (C := RX6) (T := TX6) (N := 25) hx hb hB inX6 hown hK hP 0 rfl rfl 12 (by decide) (hB _ k3_9) (fun _ h9 => h9) rfl dX6_holes_68 ?_
                  refine lv_iload hx hb dX6_holes_71 (lv_at hl 4 rfl) ?_
                  refine va_iald (f := S 8) hx hb hK hP 9 0 rfl rfl (vp_in_iff.mpr (by omega)) dX6_holes_73 ?_
                  have b_11 : (0) ≤ (S 8 x4.toNatClampNeg).toInt ∧ (S 8 x4.toNatClampNeg).toInt ≤ 999 := ivM_8 (S := S) hI x4.toNatClampNeg
                  refine lv_icmp_gt (tgt := 177) hx hb dX6_holes_74 (by decide) (fun c_12 => ?_) (fun c_12 => ?_)
                  · skip
                    have t_12 := Int32.lt_iff_toInt_lt.mp c_12
                    exact kont44 x3 x5 _ _ _ trivial (by first | (rw [← he44, l_M_holes_44, if_neg c_8, if_pos c_10, if_pos c_12]; done) | (rw [← he44, l_M_holes_44]; simp only [if_neg c_8, if_pos c_10, if_pos c_12])) hP hS (lv_sub hl [0, 1, 2, 3, 4, 5] rfl)
                  · skip
                    have t_12 := mt Int32.lt_iff_toInt_lt.mpr c_12
                    refine lv_aload_n hx hb dX6_holes_77 rfl (lv_at hl 0 rfl) ?_
                    refine lv_iload hx hb dX6_holes_78 (lv_at hl 4 rfl) ?_
                    refine lv_iload hx hb dX6_holes_80 (lv_at hl 5 rfl) ?_
                    refine pu_callM (va_runV (As := [.int x4, .int x5]) (rest := []) ⟨hx, hb, hml, hown, hB⟩ (m_M_has l D h cI cZ S hI x4 x5 (by omega)) (cwV 2 hB (gV k3_117 k3_119 ks_315 k1_7 k3_120) rfl rfl rfl (by decide +kernel) ⟨Nat.le_of_ble_eq_true rfl, Nat.le_of_ble_eq_true rfl⟩) ⟨pu_blindM, va_recv hK hP (ci := 6) (q0 := 0) rfl rfl, pu_preM hP hK hN⟩ rfl rfl hl.1 rfl (lv_room (Nat.le_of_ble_eq_true rfl)) dX6_holes_82 ⟨Nat.le_of_ble_eq_true rfl, Nat.le_of_ble_eq_true rfl⟩) hP hS (fun H locs hP hS => ?_)
                    refine lv_if_ne (tgt := 92) hx hb dX6_holes_85 (by decide) (fun c_14 => ?_) (fun c_14 => ?_)
                    · skip
                      have t_14 := fb_M_has hI c_14
                      refine lv_iconst (v := 0) hx hb dX6_holes_92 (by decide) ?_
                      refine lv_istore (lv' := [(6, .int 0), (0, .ref (h 0)), (1, .int a1), (2, .int (f_M_meant S a1 (S 19 0))), (3, .int x3), (4, .int x4), (5, .int x5)]) hx hb dX6_holes_93 hl (by decide) rfl (fun ls hl => ?_)
                      refine lv_iconst (v := 0) hx hb dX6_holes_95 (by decide) ?_
                      refine lv_istore (lv' := [(7, .int 0), (6, .int 0), (0, .ref (h 0)), (1, .int a1), (2, .int (f_M_meant S a1 (S 19 0))), (3, .int x3), (4, .int x4), (5, .int x5)]) hx hb dX6_holes_96 hl (by decide) rfl (fun ls hl => ?_)
                      have kont98 : ∀ (x6 x7 : Int32) (H : Heap) (locs : List Loc) (ls : Array Slot), (True) → (if x6 = 0 then (l_M_holes_44 S a1 x4 (fun x3 x5 => (l_M_holes_26 S a1 n26 x3 (x4 + 1))) n44 (x3 + 1) (x5 + 1)) else (l_M_holes_44 S a1 x4 (fun x3 x5 => (l_M_holes_26 S a1 n26 x3 (x4 + 1))) n44 (x3 + 0) (x5 + 1))) = f_M_holes S a1 → va_P D vwCl (wBM h cI cZ S) H → va_S (fun _ => False) s.heap H locs → lv_has ls 8 [(0, .ref (h 0)), (1, .int a1), (2, .int (f_M_meant S a1 (S 19 0))), (3, .int x3), (4, .int x4), (5, .int x5), (6, .int x6), (7, .int x7)] → W p l e (headSpec wsX6_holes { frames := 2, cells := 0, slots := 0, locals := 43 }).room s m ([.ref (h 0), .int a1]).toArray below meth c H locs 0 0 (MQ below (PQ (f_M_holes S a1)) ([.ref (h 0), .int a1]).toArray s 0 0 (fun _ => False)) (F0 m 158 ls []) := by
                        intro x6 x7 H locs ls hkinv hk98 hP hS hl
                        refine lv_iload_n hx hb dX6_holes_158 rfl (lv_at hl 3 rfl) ?_
                        refine lv_iload hx hb dX6_holes_159 (lv_at hl 6 rfl) ?_
                        refine lv_if_eq (tgt := 168) hx hb dX6_holes_161 (by decide) (fun c_15 => ?_) (fun c_15 => ?_)
                        · skip
                          have z_0 : ((0) : Int32).toInt = (0) := by decide
                          have t_15 := Int32.toInt_inj.symm.mp c_15
                          refine lv_iconst (v := 1) hx hb dX6_holes_168 (by decide) ?_
                          refine lv_iadd hx hb dX6_holes_169 ?_
                          refine lv_istore_n (lv' := [(3, .int (x3 + 1)), (0, .ref (h 0)), (1, .int a1), (2, .int (f_M_meant S a1 (S 19 0))), (4, .int x4), (5, .int x5), (6, .int x6), (7, .int x7)]) hx hb dX6_holes_170 rfl hl (by decide) rfl (fun ls hl => ?_)
                          refine lv_iinc (v := x5 + 1) (lv' := [(5, .int (x5 + 1)), (3, .int (x3 + 1)), (0, .ref (h 0)), (1, .int a1), (2, .int (f_M_meant S a1 (S 19 0))), (4, .int x4), (6, .int x6), (7, .int x7)]) hx hb dX6_holes_171 hl (k := 5) rfl rfl (by decide) rfl (fun ls hl => ?_)
                          refine lv_goto (tgt := 44) hx hb dX6_holes_174 (by decide) ?_
                          have hinc := i32_inc (x := x5) h0_44 (by omega)
                          exact ih44 (x3 + 1) (x5 + 1) _ _ _ ⟨by omega, by omega, by omega, by omega, trivial⟩ (by first | (rw [← hk98, if_pos c_15]; done) | (rw [← hk98]; simp only [if_pos c_15])) hP hS (lv_sub hl [2, 3, 4, 1, 5, 0] rfl)
                        · skip
                          have z_0 : ((0) : Int32).toInt = (0) := by decide
                          have t_15 := mt Int32.toInt_inj.mp c_15
                          refine lv_iconst (v := 0) hx hb dX6_holes_164 (by decide) ?_
                          refine lv_goto (tgt := 169) hx hb dX6_holes_165 (by decide) ?_
                          refine lv_iadd hx hb dX6_holes_169 ?_
                          refine lv_istore_n (lv' := [(3, .int (x3 + 0)), (0, .ref (h 0)), (1, .int a1), (2, .int (f_M_meant S a1 (S 19 0))), (4, .int x4), (5, .int x5), (6, .int x6), (7, .int x7)]) hx hb dX6_holes_170 rfl hl (by decide) rfl (fun ls hl => ?_)
                          refine lv_iinc (v := x5 + 1) (lv' := [(5, .int (x5 + 1)), (3, .int (x3 + 0)), (0, .ref (h 0)), (1, .int a1), (2, .int (f_M_meant S a1 (S 19 0))), (4, .int x4), (6, .int x6), (7, .int x7)]) hx hb dX6_holes_171 hl (k := 5) rfl rfl (by decide) rfl (fun ls hl => ?_)
                          refine lv_goto (tgt := 44) hx hb dX6_holes_174 (by decide) ?_
                          have hinc := i32_inc (x := x5) h0_44 (by omega)
                          exact ih44 (x3 + 0) (x5 + 1) _ _ _ ⟨by omega, by omega, by omega, by omega, trivial⟩ (by first | (rw [← hk98, if_neg c_15]; done) | (rw [← hk98]; simp only [if_neg c_15])) hP hS (lv_sub hl [2, 3, 4, 1, 5, 0] rfl)
                      have loop98 : ∀ (n98 : Nat) (x6 x7 : Int32) (H : Heap) (locs : List Loc) (ls : Array Slot), (0 ≤ x7.toInt ∧ x7.toInt ≤ 6000 ∧ 1 ≤ (n98 : Int) ∧ (S 23 0 : Int32).toInt - x7.toInt < (n98 : Int) ∧ (True)) → l_M_holes_98 S a1 x3 x4 x5 (fun x6 x7 => (if x6 = 0 then (l_M_holes_44 S a1 x4 (fun x3 x5 => (l_M_holes_26 S a1 n26 x3 (x4 + 1))) n44 (x3 + 1) (x5 + 1)) else (l_M_holes_44 S a1 x4 (fun x3 x5 => (l_M_holes_26 S a1 n26 x3 (x4 + 1))) n44 (x3 + 0) (x5 + 1)))) n98 x6 x7 = f_M_holes S a1 → va_P D vwCl (wBM h cI cZ S) H → va_S (fun _ => False) s.heap H locs → lv_has ls 8 [(0, .ref (h 0)), (1, .int a1), (2, .int (f_M_meant S a1 (S 19 0))), (3, .int x3), (4, .int x4), (5, .int x5), (6, .int x6), (7, .int x7)] → W p l e (headSpec wsX6_holes { frames := 2, cells := 0, slots := 0, locals := 43 }).room s m ([.ref (h 0), .int a1]).toArray below meth c H locs 0 0 (MQ below (PQ (f_M_holes S a1)) ([.ref (h 0), .int a1]).toArray s 0 0 (fun _ => False)) (F0 m 98 ls []) := by
                        intro n98
                        induction n98 with
                        | zero =>
                          intro x6 x7 H locs ls hinv he98 hP hS hl
                          exact absurd hinv.2.2.1 (by omega)
                        | succ n98 ih98 =>
                          intro x6 x7 H locs ls hinv he98 hP hS hl
                          obtain ⟨h0_98, hc_98, h1_98, hm_98, hex_98⟩ := hinv
                          have hBd_98 := ivM_23 hI
                          refine lv_iload hx hb dX6_holes_98 (lv_at hl 7 rfl) ?_
                          refine lv_aload_n hx hb dX6_holes_100 rfl (lv_at hl 0 rfl) ?_
                          refine va_get (D := D) (ci := 6) (v := .int (S 23 0)) (C := RX6) (T := TX6) (N := 25) hx hb hB inX6 hown hK hP 0 rfl rfl 14 (by decide) (hB _ k3_11) (fun _ h9 => h9) rfl dX6_holes_101 ?_
                          have b_16 : (0) ≤ (S 23 0).toInt ∧ (S 23 0).toInt ≤ 120 := ivM_23 (S := S) hI
                          refine lv_icmp_ge (tgt := 158) hx hb dX6_holes_104 (by decide) (fun c_17 => ?_) (fun c_17 => ?_)
                          · skip
                            have t_17 := Int32.le_iff_toInt_le.mp c_17
                            exact kont98 x6 x7 _ _ _ trivial (by first | (rw [← he98, l_M_holes_98, if_pos c_17]; done) | (rw [← he98, l_M_holes_98]; simp only [if_pos c_17])) hP hS (lv_sub hl [0, 1, 2, 3, 4, 5, 6, 7] rfl)
                          · skip
                            have t_17 := mt Int32.le_iff_toInt_le.mpr c_17
                            refine lv_iload hx hb dX6_holes_107 (lv_at hl 6 rfl) ?_
                            refine lv_if_ne (tgt := 158) hx hb dX6_holes_109 (by decide) (fun c_18 => ?_) (fun c_18 => ?_)
                            · skip
                              have z_0 : ((0) : Int32).toInt = (0) := by decide
                              have t_18 := mt Int32.toInt_inj.mp c_18
                              exact kont98 x6 x7 _ _ _ trivial (by first | (rw [← he98, l_M_holes_98, if_neg c_17, if_neg c_18]; done) | (rw [← he98, l_M_holes_98]; simp only [if_neg c_17, if_neg c_18])) hP hS (lv_sub hl [0, 1, 2, 3, 4, 5, 6, 7] rfl)
                            · skip
                              have z_0 : ((0) : Int32).toInt = (0) := by decide
                              have t_18 := Int32.toInt_inj.symm.mp c_18
                              refine lv_aload_n hx hb dX6_holes_112 rfl (lv_at hl 0 rfl) ?_
                              refine va_get (D := D) (ci := 6) (v := .ref (h 13)) (C := RX6) (T := TX6) (N := 25) hx hb hB inX6 hown hK hP 0 rfl rfl 17 (by decide) (hB _ k3_14) (fun _ h9 => h9) rfl dX6_holes_113 ?_
                              refine lv_iload hx hb dX6_holes_116 (lv_at hl 7 rfl) ?_
                              refine va_zald (f := S 12) hx hb hK hP 13 1 rfl rfl (vp_in_iff.mpr (by omega)) dX6_holes_118 ?_
                              have b_19 : (0) ≤ (S 12 x7.toNatClampNeg).toInt ∧ (S 12 x7.toNatClampNeg).toInt ≤ 1 := ivM_12 (S := S) hI x7.toNatClampNeg
                              refine lv_if_eq (tgt := 149) hx hb dX6_holes_119 (by decide) (fun c_20 => ?_) (fun c_20 => ?_)
                              · skip
                                have t_20 := Int32.toInt_inj.symm.mp c_20
                                refine lv_iconst (v := 0) hx hb dX6_holes_149 (by decide) ?_
                                refine lv_istore (lv' := [(6, .int 0), (0, .ref (h 0)), (1, .int a1), (2, .int (f_M_meant S a1 (S 19 0))), (3, .int x3), (4, .int x4), (5, .int x5), (7, .int x7)]) hx hb dX6_holes_150 hl (by decide) rfl (fun ls hl => ?_)
                                refine lv_iinc (v := x7 + 1) (lv' := [(7, .int (x7 + 1)), (6, .int 0), (0, .ref (h 0)), (1, .int a1), (2, .int (f_M_meant S a1 (S 19 0))), (3, .int x3), (4, .int x4), (5, .int x5)]) hx hb dX6_holes_152 hl (k := 7) rfl rfl (by decide) rfl (fun ls hl => ?_)
                                refine lv_goto (tgt := 98) hx hb dX6_holes_155 (by decide) ?_
                                have hinc := i32_inc (x := x7) h0_98 (by omega)
                                exact ih98 0 (x7 + 1) _ _ _ ⟨by omega, by omega, by omega, by omega, trivial⟩ (by first | (rw [← he98, l_M_holes_98, if_neg c_17, if_pos c_18, if_pos c_20]; done) | (rw [← he98, l_M_holes_98]; simp only [if_neg c_17, if_pos c_18, if_pos c_20])) hP hS (lv_sub hl [2, 3, 4, 5, 6, 7, 1, 0] rfl)
                              · skip
                                have t_20 := mt Int32.toInt_inj.mp c_20
                                refine lv_aload_n hx hb dX6_holes_122 rfl (lv_at hl 0 rfl) ?_
                                refine va_get (D := D) (ci := 6) (v := .ref (h 11)) (C := RX6) (T := TX6) (N := 25) hx hb hB inX6 hown hK hP 0 rfl rfl 15 (by decide) (hB _ k3_12) (fun _ h9 => h9) rfl dX6_holes_123 ?_
                                refine lv_iload hx hb dX6_holes_126 (lv_at hl 7 rfl) ?_
                                refine va_iald (f := S 10) hx hb hK hP 11 0 rfl rfl (vp_in_iff.mpr (by omega)) dX6_holes_128 ?_
                                have b_21 : (0) ≤ (S 10 x7.toNatClampNeg).toInt ∧ (S 10 x7.toNatClampNeg).toInt ≤ 79 := ivM_10 (S := S) hI x7.toNatClampNeg
                                refine lv_iload hx hb dX6_holes_129 (lv_at hl 4 rfl) ?_
                                refine lv_icmp_ne (tgt := 149) hx hb dX6_holes_131 (by decide) (fun c_22 => ?_) (fun c_22 => ?_)
                                · skip
                                  refine lv_iconst (v := 0) hx hb dX6_holes_149 (by decide) ?_
                                  refine lv_istore (lv' := [(6, .int 0), (0, .ref (h 0)), (1, .int a1), (2, .int (f_M_meant S a1 (S 19 0))), (3, .int x3), (4, .int x4), (5, .int x5), (7, .int x7)]) hx hb dX6_holes_150 hl (by decide) rfl (fun ls hl => ?_)
                                  refine lv_iinc (v := x7 + 1) (lv' := [(7, .int (x7 + 1)), (6, .int 0), (0, .ref (h 0)), (1, .int a1), (2, .int (f_M_meant S a1 (S 19 0))), (3, .int x3), (4, .int x4), (5, .int x5)]) hx hb dX6_holes_152 hl (k := 7) rfl rfl (by decide) rfl (fun ls hl => ?_)
                                  refine lv_goto (tgt := 98) hx hb dX6_holes_155 (by decide) ?_
                                  have hinc := i32_inc (x := x7) h0_98 (by omega)
                                  exact ih98 0 (x7 + 1) _ _ _ ⟨by omega, by omega, by omega, by omega, trivial⟩ (by first | (rw [← he98, l_M_holes_98, if_neg c_17, if_pos c_18, if_neg c_20, if_neg c_22]; done) | (rw [← he98, l_M_holes_98]; simp only [if_neg c_17, if_pos c_18, if_neg c_20, if_neg c_22])) hP hS (lv_sub hl [2, 3, 4, 5, 6, 7, 1, 0] rfl)
                                · skip
                                  refine lv_aload_n hx hb dX6_holes_134 rfl (lv_at hl 0 rfl) ?_
                                  refine lv_iload hx hb dX6_holes_135 (lv_at hl 7 rfl) ?_
                                  refine pu_callM (va_runV (As := [.int x7]) (rest := []) ⟨hx, hb, hml, hown, hB⟩ (m_M_houseOf l D h cI cZ S hI x7 (((show ASM (S) from hAS)) x7 (by omega) (show (x7).toInt < (S 23 0).toInt by omega))) (cwV 1 hB (gV k3_137 k3_139 ks_354 k1_7 k3_140) rfl rfl rfl (by decide +kernel) ⟨Nat.le_of_ble_eq_true rfl, Nat.le_of_ble_eq_true rfl⟩) ⟨pu_blindM, va_recv hK hP (ci := 6) (q0 := 0) rfl rfl, pu_preM hP hK hN⟩ rfl rfl hl.1 rfl (lv_room (Nat.le_of_ble_eq_true rfl)) dX6_holes_137 ⟨Nat.le_of_ble_eq_true rfl, Nat.le_of_ble_eq_true rfl⟩) hP hS (fun H locs hP hS => ?_)
                                  have k_23 := fc_M_houseOf (S := S) hI x7
                                  refine lv_iload hx hb dX6_holes_140 (lv_at hl 5 rfl) ?_
                                  refine lv_icmp_ne (tgt := 149) hx hb dX6_holes_142 (by decide) (fun c_24 => ?_) (fun c_24 => ?_)
                                  · skip
                                    refine lv_iconst (v := 0) hx hb dX6_holes_149 (by decide) ?_
                                    refine lv_istore (lv' := [(6, .int 0), (0, .ref (h 0)), (1, .int a1), (2, .int (f_M_meant S a1 (S 19 0))), (3, .int x3), (4, .int x4), (5, .int x5), (7, .int x7)]) hx hb dX6_holes_150 hl (by decide) rfl (fun ls hl => ?_)
                                    refine lv_iinc (v := x7 + 1) (lv' := [(7, .int (x7 + 1)), (6, .int 0), (0, .ref (h 0)), (1, .int a1), (2, .int (f_M_meant S a1 (S 19 0))), (3, .int x3), (4, .int x4), (5, .int x5)]) hx hb dX6_holes_152 hl (k := 7) rfl rfl (by decide) rfl (fun ls hl => ?_)
                                    refine lv_goto (tgt := 98) hx hb dX6_holes_155 (by decide) ?_
                                    have hinc := i32_inc (x := x7) h0_98 (by omega)
                                    exact ih98 0 (x7 + 1) _ _ _ ⟨by omega, by omega, by omega, by omega, trivial⟩ (by first | (rw [← he98, l_M_holes_98, if_neg c_17, if_pos c_18, if_neg c_20, if_pos c_22, if_neg c_24]; done) | (rw [← he98, l_M_holes_98]; simp only [if_neg c_17, if_pos c_18, if_neg c_20, if_pos c_22, if_neg c_24])) hP hS (lv_sub hl [2, 3, 4, 5, 6, 7, 1, 0] rfl)
                                  · skip
                                    refine lv_iconst (v := 1) hx hb dX6_holes_145 (by decide) ?_
                                    refine lv_goto (tgt := 150) hx hb dX6_holes_146 (by decide) ?_
                                    refine lv_istore (lv' := [(6, .int 1), (0, .ref (h 0)), (1, .int a1), (2, .int (f_M_meant S a1 (S 19 0))), (3, .int x3), (4, .int x4), (5, .int x5), (7, .int x7)]) hx hb dX6_holes_150 hl (by decide) rfl (fun ls hl => ?_)
                                    refine lv_iinc (v := x7 + 1) (lv' := [(7, .int (x7 + 1)), (6, .int 1), (0, .ref (h 0)), (1, .int a1), (2, .int (f_M_meant S a1 (S 19 0))), (3, .int x3), (4, .int x4), (5, .int x5)]) hx hb dX6_holes_152 hl (k := 7) rfl rfl (by decide) rfl (fun ls hl => ?_)
                                    refine lv_goto (tgt := 98) hx hb dX6_holes_155 (by decide) ?_
                                    have hinc := i32_inc (x := x7) h0_98 (by omega)
                                    exact ih98 1 (x7 + 1) _ _ _ ⟨by omega, by omega, by omega, by omega, trivial⟩ (by first | (rw [← he98, l_M_holes_98, if_neg c_17, if_pos c_18, if_neg c_20, if_pos c_22, if_pos c_24]; done) | (rw [← he98, l_M_holes_98]; simp only [if_neg c_17, if_pos c_18, if_neg c_20, if_pos c_22, if_pos c_24])) hP hS (lv_sub hl [2, 3, 4, 5, 6, 7, 1, 0] rfl)
                      have hB9_98 := ivM_23 (S := S) hI
                      exact loop98 600 0 0 _ _ _ ⟨by omega, by omega, by omega, by omega, trivial⟩ (by first | (rw [← he44, l_M_holes_44, if_neg c_8, if_pos c_10, if_neg c_12, if_neg c_14]; done) | (rw [← he44, l_M_holes_44]; simp only [if_neg c_8, if_pos c_10, if_neg c_12, if_neg c_14])) hP hS (lv_sub hl [2, 3, 4, 5, 6, 7, 1, 0] rfl)
                    · skip
                      refine lv_iconst (v := 1) hx hb dX6_holes_88 (by decide) ?_
                      refine lv_goto (tgt := 93) hx hb dX6_holes_89 (by decide) ?_
                      refine lv_istore (lv' := [(6, .int 1), (0, .ref (h 0)), (1, .int a1), (2, .int (f_M_meant S a1 (S 19 0))), (3, .int x3), (4, .int x4), (5, .int x5)]) hx hb dX6_holes_93 hl (by decide) rfl (fun ls hl => ?_)
                      refine lv_iconst (v := 0) hx hb dX6_holes_95 (by decide) ?_
                      refine lv_istore (lv' := [(7, .int 0), (6, .int 1), (0, .ref (h 0)), (1, .int a1), (2, .int (f_M_meant S a1 (S 19 0))), (3, .int x3), (4, .int x4), (5, .int x5)]) hx hb dX6_holes_96 hl (by decide) rfl (fun ls hl => ?_)
                      have kont98 : ∀ (x6 x7 : Int32) (H : Heap) (locs : List Loc) (ls : Array Slot), (True) → (if x6 = 0 then (l_M_holes_44 S a1 x4 (fun x3 x5 => (l_M_holes_26 S a1 n26 x3 (x4 + 1))) n44 (x3 + 1) (x5 + 1)) else (l_M_holes_44 S a1 x4 (fun x3 x5 => (l_M_holes_26 S a1 n26 x3 (x4 + 1))) n44 (x3 + 0) (x5 + 1))) = f_M_holes S a1 → va_P D vwCl (wBM h cI cZ S) H → va_S (fun _ => False) s.heap H locs → lv_has ls 8 [(0, .ref (h 0)), (1, .int a1), (2, .int (f_M_meant S a1 (S 19 0))), (3, .int x3), (4, .int x4), (5, .int x5), (6, .int x6), (7, .int x7)] → W p l e (headSpec wsX6_holes { frames := 2, cells := 0, slots := 0, locals := 43 }).room s m ([.ref (h 0), .int a1]).toArray below meth c H locs 0 0 (MQ below (PQ (f_M_holes S a1)) ([.ref (h 0), .int a1]).toArray s 0 0 (fun _ => False)) (F0 m 158 ls []) := by
                        intro x6 x7 H locs ls hkinv hk98 hP hS hl
                        refine lv_iload_n hx hb dX6_holes_158 rfl (lv_at hl 3 rfl) ?_
                        refine lv_iload hx hb dX6_holes_159 (lv_at hl 6 rfl) ?_
                        refine lv_if_eq (tgt := 168) hx hb dX6_holes_161 (by decide) (fun c_25 => ?_) (fun c_25 => ?_)
                        · skip
                          have z_0 : ((0) : Int32).toInt = (0) := by decide
                          have t_25 := Int32.toInt_inj.symm.mp c_25
                          refine lv_iconst (v := 1) hx hb dX6_holes_168 (by decide) ?_
                          refine lv_iadd hx hb dX6_holes_169 ?_
                          refine lv_istore_n (lv' := [(3, .int (x3 + 1)), (0, .ref (h 0)), (1, .int a1), (2, .int (f_M_meant S a1 (S 19 0))), (4, .int x4), (5, .int x5), (6, .int x6), (7, .int x7)]) hx hb dX6_holes_170 rfl hl (by decide) rfl (fun ls hl => ?_)
                          refine lv_iinc (v := x5 + 1) (lv' := [(5, .int (x5 + 1)), (3, .int (x3 + 1)), (0, .ref (h 0)), (1, .int a1), (2, .int (f_M_meant S a1 (S 19 0))), (4, .int x4), (6, .int x6), (7, .int x7)]) hx hb dX6_holes_171 hl (k := 5) rfl rfl (by decide) rfl (fun ls hl => ?_)
                          refine lv_goto (tgt := 44) hx hb dX6_holes_174 (by decide) ?_
                          have hinc := i32_inc (x := x5) h0_44 (by omega)
                          exact ih44 (x3 + 1) (x5 + 1) _ _ _ ⟨by omega, by omega, by omega, by omega, trivial⟩ (by first | (rw [← hk98, if_pos c_25]; done) | (rw [← hk98]; simp only [if_pos c_25])) hP hS (lv_sub hl [2, 3, 4, 1, 5, 0] rfl)
                        · skip
                          have z_0 : ((0) : Int32).toInt = (0) := by decide
                          have t_25 := mt Int32.toInt_inj.mp c_25
                          refine lv_iconst (v := 0) hx hb dX6_holes_164 (by decide) ?_
                          refine lv_goto (tgt := 169) hx hb dX6_holes_165 (by decide) ?_
                          refine lv_iadd hx hb dX6_holes_169 ?_
                          refine lv_istore_n (lv' := [(3, .int (x3 + 0)), (0, .ref (h 0)), (1, .int a1), (2, .int (f_M_meant S a1 (S 19 0))), (4, .int x4), (5, .int x5), (6, .int x6), (7, .int x7)]) hx hb dX6_holes_170 rfl hl (by decide) rfl (fun ls hl => ?_)
                          refine lv_iinc (v := x5 + 1) (lv' := [(5, .int (x5 + 1)), (3, .int (x3 + 0)), (0, .ref (h 0)), (1, .int a1), (2, .int (f_M_meant S a1 (S 19 0))), (4, .int x4), (6, .int x6), (7, .int x7)]) hx hb dX6_holes_171 hl (k := 5) rfl rfl (by decide) rfl (fun ls hl => ?_)
                          refine lv_goto (tgt := 44) hx hb dX6_holes_174 (by decide) ?_
                          have hinc := i32_inc (x := x5) h0_44 (by omega)
                          exact ih44 (x3 + 0) (x5 + 1) _ _ _ ⟨by omega, by omega, by omega, by omega, trivial⟩ (by first | (rw [← hk98, if_neg c_25]; done) | (rw [← hk98]; simp only [if_neg c_25])) hP hS (lv_sub hl [2, 3, 4, 1, 5, 0] rfl)
                      have loop98 : ∀ (n98 : Nat) (x6 x7 : Int32) (H : Heap) (locs : List Loc) (ls : Array Slot), (0 ≤ x7.toInt ∧ x7.toInt ≤ 6000 ∧ 1 ≤ (n98 : Int) ∧ (S 23 0 : Int32).toInt - x7.toInt < (n98 : Int) ∧ (True)) → l_M_holes_98 S a1 x3 x4 x5 (fun x6 x7 => (if x6 = 0 then (l_M_holes_44 S a1 x4 (fun x3 x5 => (l_M_holes_26 S a1 n26 x3 (x4 + 1))) n44 (x3 + 1) (x5 + 1)) else (l_M_holes_44 S a1 x4 (fun x3 x5 => (l_M_holes_26 S a1 n26 x3 (x4 + 1))) n44 (x3 + 0) (x5 + 1)))) n98 x6 x7 = f_M_holes S a1 → va_P D vwCl (wBM h cI cZ S) H → va_S (fun _ => False) s.heap H locs → lv_has ls 8 [(0, .ref (h 0)), (1, .int a1), (2, .int (f_M_meant S a1 (S 19 0))), (3, .int x3), (4, .int x4), (5, .int x5), (6, .int x6), (7, .int x7)] → W p l e (headSpec wsX6_holes { frames := 2, cells := 0, slots := 0, locals := 43 }).room s m ([.ref (h 0), .int a1]).toArray below meth c H locs 0 0 (MQ below (PQ (f_M_holes S a1)) ([.ref (h 0), .int a1]).toArray s 0 0 (fun _ => False)) (F0 m 98 ls []) := by
                        intro n98
                        induction n98 with
                        | zero =>
                          intro x6 x7 H locs ls hinv he98 hP hS hl
                          exact absurd hinv.2.2.1 (by omega)
                        | succ n98 ih98 =>
                          intro x6 x7 H locs ls hinv he98 hP hS hl
                          obtain ⟨h0_98, hc_98, h1_98, hm_98, hex_98⟩ := hinv
                          have hBd_98 := ivM_23 hI
                          refine lv_iload hx hb dX6_holes_98 (lv_at hl 7 rfl) ?_
                          refine lv_aload_n hx hb dX6_holes_100 rfl (lv_at hl 0 rfl) ?_
                          refine va_get (D := D) (ci := 6) (v := .int (S 23 0)) (C := RX6) (T := TX6) (N := 25) hx hb hB inX6 hown hK hP 0 rfl rfl 14 (by decide) (hB _ k3_11) (fun _ h9 => h9) rfl dX6_holes_101 ?_
                          have b_26 : (0) ≤ (S 23 0).toInt ∧ (S 23 0).toInt ≤ 120 := ivM_23 (S := S) hI
                          refine lv_icmp_ge (tgt := 158) hx hb dX6_holes_104 (by decide) (fun c_27 => ?_) (fun c_27 => ?_)
                          · skip
                            have t_27 := Int32.le_iff_toInt_le.mp c_27
                            exact kont98 x6 x7 _ _ _ trivial (by first | (rw [← he98, l_M_holes_98, if_pos c_27]; done) | (rw [← he98, l_M_holes_98]; simp only [if_pos c_27])) hP hS (lv_sub hl [0, 1, 2, 3, 4, 5, 6, 7] rfl)
                          · skip
                            have t_27 := mt Int32.le_iff_toInt_le.mpr c_27
                            refine lv_iload hx hb dX6_holes_107 (lv_at hl 6 rfl) ?_
                            refine lv_if_ne (tgt := 158) hx hb dX6_holes_109 (by decide) (fun c_28 => ?_) (fun c_28 => ?_)
                            · skip
                              have z_0 : ((0) : Int32).toInt = (0) := by decide
                              have t_28 := mt Int32.toInt_inj.mp c_28
                              exact kont98 x6 x7 _ _ _ trivial (by first | (rw [← he98, l_M_holes_98, if_neg c_27, if_neg c_28]; done) | (rw [← he98, l_M_holes_98]; simp only [if_neg c_27, if_neg c_28])) hP hS (lv_sub hl [0, 1, 2, 3, 4, 5, 6, 7] rfl)
                            · skip
                              have z_0 : ((0) : Int32).toInt = (0) := by decide
                              have t_28 := Int32.toInt_inj.symm.mp c_28
                              refine lv_aload_n hx hb dX6_holes_112 rfl (lv_at hl 0 rfl) ?_
                              refine va_get (D := D) (ci := 6) (v := .ref (h 13)) (C := RX6) (T := TX6) (N := 25) hx hb hB inX6 hown hK hP 0 rfl rfl 17 (by decide) (hB _ k3_14) (fun _ h9 => h9) rfl dX6_holes_113 ?_
                              refine lv_iload hx hb dX6_holes_116 (lv_at hl 7 rfl) ?_
                              refine va_zald (f := S 12) hx hb hK hP 13 1 rfl rfl (vp_in_iff.mpr (by omega)) dX6_holes_118 ?_
                              have b_29 : (0) ≤ (S 12 x7.toNatClampNeg).toInt ∧ (S 12 x7.toNatClampNeg).toInt ≤ 1 := ivM_12 (S := S) hI x7.toNatClampNeg
                              refine lv_if_eq (tgt := 149) hx hb dX6_holes_119 (by decide) (fun c_30 => ?_) (fun c_30 => ?_)
                              · skip
                                have t_30 := Int32.toInt_inj.symm.mp c_30
                                refine lv_iconst (v := 0) hx hb dX6_holes_149 (by decide) ?_
                                refine lv_istore (lv' := [(6, .int 0), (0, .ref (h 0)), (1, .int a1), (2, .int (f_M_meant S a1 (S 19 0))), (3, .int x3), (4, .int x4), (5, .int x5), (7, .int x7)]) hx hb dX6_holes_150 hl (by decide) rfl (fun ls hl => ?_)
                                refine lv_iinc (v := x7 + 1) (lv' := [(7, .int (x7 + 1)), (6, .int 0), (0, .ref (h 0)), (1, .int a1), (2, .int (f_M_meant S a1 (S 19 0))), (3, .int x3), (4, .int x4), (5, .int x5)]) hx hb dX6_holes_152 hl (k := 7) rfl rfl (by decide) rfl (fun ls hl => ?_)
                                refine lv_goto (tgt := 98) hx hb dX6_holes_155 (by decide) ?_
                                have hinc := i32_inc (x := x7) h0_98 (by omega)
                                exact ih98 0 (x7 + 1) _ _ _ ⟨by omega, by omega, by omega, by omega, trivial⟩ (by first | (rw [← he98, l_M_holes_98, if_neg c_27, if_pos c_28, if_pos c_30]; done) | (rw [← he98, l_M_holes_98]; simp only [if_neg c_27, if_pos c_28, if_pos c_30])) hP hS (lv_sub hl [2, 3, 4, 5, 6, 7, 1, 0] rfl)
                              · skip
                                have t_30 := mt Int32.toInt_inj.mp c_30
                                refine lv_aload_n hx hb dX6_holes_122 rfl (lv_at hl 0 rfl) ?_
                                refine va_get (D := D) (ci := 6) (v := .ref (h 11)) (C := RX6) (T := TX6) (N := 25) hx hb hB inX6 hown hK hP 0 rfl rfl 15 (by decide) (hB _ k3_12) (fun _ h9 => h9) rfl dX6_holes_123 ?_
                                refine lv_iload hx hb dX6_holes_126 (lv_at hl 7 rfl) ?_
                                refine va_iald (f := S 10) hx hb hK hP 11 0 rfl rfl (vp_in_iff.mpr (by omega)) dX6_holes_128 ?_
                                have b_31 : (0) ≤ (S 10 x7.toNatClampNeg).toInt ∧ (S 10 x7.toNatClampNeg).toInt ≤ 79 := ivM_10 (S := S) hI x7.toNatClampNeg
                                refine lv_iload hx hb dX6_holes_129 (lv_at hl 4 rfl) ?_
                                refine lv_icmp_ne (tgt := 149) hx hb dX6_holes_131 (by decide) (fun c_32 => ?_) (fun c_32 => ?_)
                                · skip
                                  refine lv_iconst (v := 0) hx hb dX6_holes_149 (by decide) ?_
                                  refine lv_istore (lv' := [(6, .int 0), (0, .ref (h 0)), (1, .int a1), (2, .int (f_M_meant S a1 (S 19 0))), (3, .int x3), (4, .int x4), (5, .int x5), (7, .int x7)]) hx hb dX6_holes_150 hl (by decide) rfl (fun ls hl => ?_)
                                  refine lv_iinc (v := x7 + 1) (lv' := [(7, .int (x7 + 1)), (6, .int 0), (0, .ref (h 0)), (1, .int a1), (2, .int (f_M_meant S a1 (S 19 0))), (3, .int x3), (4, .int x4), (5, .int x5)]) hx hb dX6_holes_152 hl (k := 7) rfl rfl (by decide) rfl (fun ls hl => ?_)
                                  refine lv_goto (tgt := 98) hx hb dX6_holes_155 (by decide) ?_
                                  have hinc := i32_inc (x := x7) h0_98 (by omega)
                                  exact ih98 0 (x7 + 1) _ _ _ ⟨by omega, by omega, by omega, by omega, trivial⟩ (by first | (rw [← he98, l_M_holes_98, if_neg c_27, if_pos c_28, if_neg c_30, if_neg c_32]; done) | (rw [← he98, l_M_holes_98]; simp only [if_neg c_27, if_pos c_28, if_neg c_30, if_neg c_32])) hP hS (lv_sub hl [2, 3, 4, 5, 6, 7, 1, 0] rfl)
                                · skip
                                  refine lv_aload_n hx hb dX6_holes_134 rfl (lv_at hl 0 rfl) ?_
                                  refine lv_iload hx hb dX6_holes_135 (lv_at hl 7 rfl) ?_
                                  refine pu_callM (va_runV (As := [.int x7]) (rest := []) ⟨hx, hb, hml, hown, hB⟩ (m_M_houseOf l D h cI cZ S hI x7 (((show ASM (S) from hAS)) x7 (by omega) (show (x7).toInt < (S 23 0).toInt by omega))) (cwV 1 hB (gV k3_137 k3_139 ks_354 k1_7 k3_140) rfl rfl rfl (by decide +kernel) ⟨Nat.le_of_ble_eq_true rfl, Nat.le_of_ble_eq_true rfl⟩) ⟨pu_blindM, va_recv hK hP (ci := 6) (q0 := 0) rfl rfl, pu_preM hP hK hN⟩ rfl rfl hl.1 rfl (lv_room (Nat.le_of_ble_eq_true rfl)) dX6_holes_137 ⟨Nat.le_of_ble_eq_true rfl, Nat.le_of_ble_eq_true rfl⟩) hP hS (fun H locs hP hS => ?_)
                                  have k_33 := fc_M_houseOf (S := S) hI x7
                                  refine lv_iload hx hb dX6_holes_140 (lv_at hl 5 rfl) ?_
                                  refine lv_icmp_ne (tgt := 149) hx hb dX6_holes_142 (by decide) (fun c_34 => ?_) (fun c_34 => ?_)
                                  · skip
                                    refine lv_iconst (v := 0) hx hb dX6_holes_149 (by decide) ?_
                                    refine lv_istore (lv' := [(6, .int 0), (0, .ref (h 0)), (1, .int a1), (2, .int (f_M_meant S a1 (S 19 0))), (3, .int x3), (4, .int x4), (5, .int x5), (7, .int x7)]) hx hb dX6_holes_150 hl (by decide) rfl (fun ls hl => ?_)
                                    refine lv_iinc (v := x7 + 1) (lv' := [(7, .int (x7 + 1)), (6, .int 0), (0, .ref (h 0)), (1, .int a1), (2, .int (f_M_meant S a1 (S 19 0))), (3, .int x3), (4, .int x4), (5, .int x5)]) hx hb dX6_holes_152 hl (k := 7) rfl rfl (by decide) rfl (fun ls hl => ?_)
                                    refine lv_goto (tgt := 98) hx hb dX6_holes_155 (by decide) ?_
                                    have hinc := i32_inc (x := x7) h0_98 (by omega)
                                    exact ih98 0 (x7 + 1) _ _ _ ⟨by omega, by omega, by omega, by omega, trivial⟩ (by first | (rw [← he98, l_M_holes_98, if_neg c_27, if_pos c_28, if_neg c_30, if_pos c_32, if_neg c_34]; done) | (rw [← he98, l_M_holes_98]; simp only [if_neg c_27, if_pos c_28, if_neg c_30, if_pos c_32, if_neg c_34])) hP hS (lv_sub hl [2, 3, 4, 5, 6, 7, 1, 0] rfl)
                                  · skip
                                    refine lv_iconst (v := 1) hx hb dX6_holes_145 (by decide) ?_
                                    refine lv_goto (tgt := 150) hx hb dX6_holes_146 (by decide) ?_
                                    refine lv_istore (lv' := [(6, .int 1), (0, .ref (h 0)), (1, .int a1), (2, .int (f_M_meant S a1 (S 19 0))), (3, .int x3), (4, .int x4), (5, .int x5), (7, .int x7)]) hx hb dX6_holes_150 hl (by decide) rfl (fun ls hl => ?_)
                                    refine lv_iinc (v := x7 + 1) (lv' := [(7, .int (x7 + 1)), (6, .int 1), (0, .ref (h 0)), (1, .int a1), (2, .int (f_M_meant S a1 (S 19 0))), (3, .int x3), (4, .int x4), (5, .int x5)]) hx hb dX6_holes_152 hl (k := 7) rfl rfl (by decide) rfl (fun ls hl => ?_)
                                    refine lv_goto (tgt := 98) hx hb dX6_holes_155 (by decide) ?_
                                    have hinc := i32_inc (x := x7) h0_98 (by omega)
                                    exact ih98 1 (x7 + 1) _ _ _ ⟨by omega, by omega, by omega, by omega, trivial⟩ (by first | (rw [← he98, l_M_holes_98, if_neg c_27, if_pos c_28, if_neg c_30, if_pos c_32, if_pos c_34]; done) | (rw [← he98, l_M_holes_98]; simp only [if_neg c_27, if_pos c_28, if_neg c_30, if_pos c_32, if_pos c_34])) hP hS (lv_sub hl [2, 3, 4, 5, 6, 7, 1, 0] rfl)
                      have z_1 : ((1) : Int32).toInt = (1) := by decide
                      have hB9_98 := ivM_23 (S := S) hI
                      exact loop98 600 1 0 _ _ _ ⟨by omega, by omega, by omega, by omega, trivial⟩ (by first | (rw [← he44, l_M_holes_44, if_neg c_8, if_pos c_10, if_neg c_12, if_pos c_14]; done) | (rw [← he44, l_M_holes_44]; simp only [if_neg c_8, if_pos c_10, if_neg c_12, if_pos c_14])) hP hS (lv_sub hl [2, 3, 4, 5, 6, 7, 1, 0] rfl)
          have hB9_44 := ivM_8 hI x4.toNatClampNeg
          exact loop44 6000 x3 (S 7 x4.toNatClampNeg) _ _ _ ⟨by omega, by omega, by omega, by omega, trivial⟩ (by first | (rw [← he26, l_M_holes_26, if_neg c_5]; done) | (rw [← he26, l_M_holes_26]; simp only [if_neg c_5])) hP hS (lv_sub hl [1, 2, 3, 4, 5, 0] rfl)
    have z_0 : ((0) : Int32).toInt = (0) := by decide
    have hB9_26 := ivM_22 (S := S) hI
    exact loop26 600 0 0 _ _ _ ⟨by omega, by omega, by omega, by omega, trivial⟩ (by rw [f_M_holes, if_neg c_2]) hP hS (lv_sub hl [3, 4, 2, 1, 0] rfl)
  · skip
    refine lv_bipush (v := (-11)) hx hb dX6_holes_8 (by decide) ?_
    exact W.iret (v := (-11)) hx hb hr (fun t ht hW => ⟨⟨(-11), (), rfl, (by rw [f_M_holes, if_pos c_2]), trivial⟩, hS.F ht⟩) hS.2.2 dX6_holes_10
