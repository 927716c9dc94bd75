set_option maxHeartbeats 4000000 in
set_option maxRecDepth 100000 in
theorem m_A_end (l : Launch) (D : va_G) (h : Nat → Nat) (cI cZ : ClassId) (S : BS) (hI : IV S) (a1 a2 : Int32) (ha0 : 0 ≤ a1.toInt ∧ a1.toInt ≤ 119) : VM l yX0_end wsX0_end { frames := 1, cells := 0, slots := 0, locals := 22 } D cI cZ h S [.ref (h 0), .int a1, .int a2] (F_A_end S a1 a2) := by
  refine Met.ofW (cc := cX0_end) (maxL := 3) (ret := none) (by decide) rfl ?_
  intro p e s m args below meth c s₁ B hml hv
  obtain ⟨rfl, hP, hK, hN, hD0⟩ := hv
  have hx := B.exec
  have hb := B.bytes
  have hr := B.returns
  have hts := atoms_spec (ws := wsX0_end) B.pre
  have hB : ∀ w ∈ BW, w.before _ s = true := fun w h => hts w (List.mem_cons_of_mem _ h)
  have hown : s.vm.findClass RX0 = some m.cls := findClass_of_methodNamed B.named
  have hlocks := B.notSynchronized
  have hD := bD hD0
  have hS : va_S (bA h) s.heap s.heap [] := va_S.rf
  have hl := lv_entry ([.ref (h 0), .int a1, .int a2]) (n := 3) (Nat.le_of_ble_eq_true rfl)
  rw [lg_entry_eq]
  generalize (lg_sl ([.ref (h 0), .int a1, .int a2]) ++ List.replicate (3 - (lg_sl ([.ref (h 0), .int a1, .int a2])).length) Slot.unset).toArray = ls at hl ⊢
  have hl : lv_has ls 3 [(0, .ref (h 0)), (1, .int a1), (2, .int a2)] := hl
  refine lv_aload_n hx hb dX0_end_0 rfl (lv_at hl 0 rfl) ?_
  refine va_get (D := D) (ci := 0) (v := .ref (h 5)) (C := RX0) (T := TX0) (N := 7) hx hb hB inX0 hown hK hP 0 rfl rfl 4 (by decide) (hB _ k1_153) (fun _ h9 => h9) rfl dX0_end_1 ?_
  refine lv_aload_n hx hb dX0_end_4 rfl (lv_at hl 0 rfl) ?_
  refine va_get (D := D) (ci := 0) (v := .ref (h 4)) (C := RX0) (T := TX0) (N := 7) hx hb hB inX0 hown hK hP 0 rfl rfl 3 (by decide) (hB _ k1_152) (fun _ h9 => h9) rfl dX0_end_5 ?_
  refine va_getN (D := D) (ci := 4) (v := .ref (h 20)) (C := RX4) (T := TX4) (N := 6) hx hb hB inX4 hown hK hP 4 rfl rfl 3 (by decide) (va_Nw.use rfl (hN _ kn_17)) (fun _ h9 => h9) rfl dX0_end_8 ?_
  refine lv_iload_n hx hb dX0_end_11 rfl (lv_at hl 1 rfl) ?_
  refine va_iald (f := S 14) hx hb hK hP 20 0 rfl rfl (vp_in_iff.mpr (by omega)) dX0_end_12 ?_
  have b_1 : (0) ≤ (S 14 a1.toNatClampNeg).toInt ∧ (S 14 a1.toNatClampNeg).toInt ≤ 511 := iv_14 (S := S) hI a1.toNatClampNeg
  refine lv_iload_n hx hb dX0_end_13 rfl (lv_at hl 2 rfl) ?_
  refine wv_call (va_runVN (As := [.int (S 14 a1.toNatClampNeg), .int a2]) (rest := []) ⟨hx, hb, hml, hown, hB⟩ (m_Y_end l D h cI cZ S hI (S 14 a1.toNatClampNeg) a2 (by omega)) ⟨va_cnB 2 hB (gB k2_95) rfl rfl rfl (hN _ kn_30) (hB _ k1_6) (by decide +kernel) ⟨Nat.le_of_ble_eq_true rfl, Nat.le_of_ble_eq_true rfl⟩, hB _ k2_94, hB _ ks_152⟩ ⟨wr_blind, va_recv hK hP (ci := 5) (q0 := 5) rfl rfl, wr_pre hP hK hN hD⟩ rfl rfl hl.1 rfl (lv_room (Nat.le_of_ble_eq_true rfl)) dX0_end_14 ⟨Nat.le_of_ble_eq_true rfl, Nat.le_of_ble_eq_true rfl⟩) hS (fun H locs hP hI_2 hS => ?_)
  have hD := wD (S2 := (F_Y_end S (S 14 a1.toNatClampNeg) a2)) hD
  refine lv_aload_n hx hb dX0_end_17 rfl (lv_at hl 0 rfl) ?_
  refine va_get (D := D) (ci := 0) (v := .ref (h 4)) (C := RX0) (T := TX0) (N := 7) hx hb hB inX0 hown hK hP 0 rfl rfl 3 (by decide) (hB _ k1_152) (fun _ h9 => h9) rfl dX0_end_18 ?_
  refine va_getN (D := D) (ci := 4) (v := .ref (h 21)) (C := RX4) (T := TX4) (N := 6) hx hb hB inX4 hown hK hP 4 rfl rfl 4 (by decide) (va_Nw.use rfl (hN _ kn_19)) (fun _ h9 => h9) rfl dX0_end_21 ?_
  refine lv_iload_n hx hb dX0_end_24 rfl (lv_at hl 1 rfl) ?_
  refine lv_iconst (v := 0) hx hb dX0_end_25 (by decide) ?_
  refine wst_15 (S := (F_Y_end S (S 14 a1.toNatClampNeg) a2)) hx hb hK hP hD hS (vp_in_iff.mpr (by omega)) (by first | rfl | decide) dX0_end_26 (fun H locs hP hD hS => ?_)
  have hI_4 : IV (upS 15 a1.toNatClampNeg 0 (F_Y_end S (S 14 a1.toNatClampNeg) a2)) := iv_up (S := (F_Y_end S (S 14 a1.toNatClampNeg) a2)) hI_2 15 a1.toNatClampNeg 0 (iv_one 15 (0) 1 rfl (by decide))
  exact W.vret hx hb hr (fun t ht hW => ⟨⟨upS 15 a1.toNatClampNeg 0 (F_Y_end S (S 14 a1.toNatClampNeg) a2), rfl, ⟨(by rw [F_A_end]), hI_4⟩, by show va_P D vwCl _ t.heap; rw [ht]; exact hP⟩, hS.F ht⟩) hS.2.2 dX0_end_27
set_option maxHeartbeats 4000000 in
set_option maxRecDepth 100000 in
theorem m_A_close (l : Launch) (D : va_G) (h : Nat → Nat) (cI cZ : ClassId) (S : BS) (hI : IV S) (a1 a2 : Int32) : WM l yX0_close wsX0_close { frames := 2, cells := 0, slots := 0, locals := 44 } D cI cZ h S [.ref (h 0), .int a1, .int a2] (F_A_close S a1 a2) := by
  refine Met.ofW (cc := cX0_close) (maxL := 5) (ret := (some .int)) (by decide) rfl ?_
  intro p e s m args below meth c s₁ B hml hv
  obtain ⟨rfl, hP, hK, hN, hD0⟩ := hv
  have hx := B.exec
  have hb := B.bytes
  have hr := B.returns
  have hts := atoms_spec (ws := wsX0_close) B.pre
  have hB : ∀ w ∈ BW, w.before _ s = true := fun w h => hts w (List.mem_cons_of_mem _ h)
  have hown : s.vm.findClass RX0 = some m.cls := findClass_of_methodNamed B.named
  have hlocks := B.notSynchronized
  have hD := bD hD0
  have hS : va_S (bA h) s.heap s.heap [] := va_S.rf
  have hl := lv_entry ([.ref (h 0), .int a1, .int a2]) (n := 5) (Nat.le_of_ble_eq_true rfl)
  rw [lg_entry_eq]
  generalize (lg_sl ([.ref (h 0), .int a1, .int a2]) ++ List.replicate (5 - (lg_sl ([.ref (h 0), .int a1, .int a2])).length) Slot.unset).toArray = ls at hl ⊢
  have hl : lv_has ls 5 [(0, .ref (h 0)), (1, .int a1), (2, .int a2)] := hl
  refine lv_aload_n hx hb dX0_close_0 rfl (lv_at hl 0 rfl) ?_
  refine va_get (D := D) (ci := 0) (v := .ref (h 3)) (C := RX0) (T := TX0) (N := 7) hx hb hB inX0 hown hK hP 0 rfl rfl 2 (by decide) (hB _ k1_151) (fun _ h9 => h9) rfl dX0_close_1 ?_
  refine lv_iload_n hx hb dX0_close_4 rfl (lv_at hl 1 rfl) ?_
  refine pu_call (va_runVN (As := [.int a1]) (rest := []) ⟨hx, hb, hml, hown, hB⟩ (m_R_has l D h cI cZ S hI a1 ) ⟨va_cnB 1 hB (gB k2_45) rfl rfl rfl (hN _ kn_22) (hB _ k1_4) (by decide +kernel) ⟨Nat.le_of_ble_eq_true rfl, Nat.le_of_ble_eq_true rfl⟩, hB _ k2_44, hB _ ks_126⟩ ⟨pu_blind, va_recv hK hP (ci := 3) (q0 := 3) rfl rfl, pu_pre hP hK hN⟩ rfl rfl hl.1 rfl (lv_room (Nat.le_of_ble_eq_true rfl)) dX0_close_5 ⟨Nat.le_of_ble_eq_true rfl, Nat.le_of_ble_eq_true rfl⟩) hP hS (fun H locs hP hS => ?_)
  refine lv_if_ne (tgt := 14) hx hb dX0_close_8 (by decide) (fun c_2 => ?_) (fun c_2 => ?_)
  · skip
    have t_2 := fb_R_has hI c_2
    refine lv_aload_n hx hb dX0_close_14 rfl (lv_at hl 0 rfl) ?_
    refine lv_iload_n hx hb dX0_close_15 rfl (lv_at hl 2 rfl) ?_
    refine pu_call (va_runV (As := [.int a2]) (rest := []) ⟨hx, hb, hml, hown, hB⟩ (m_A_isTodayOrLater l D h cI cZ S hI a2 ) (cwV 1 hB (gV k2_1 k2_3 ks_107 k1_1 k2_4) rfl rfl rfl (by decide +kernel) ⟨Nat.le_of_ble_eq_true rfl, Nat.le_of_ble_eq_true rfl⟩) ⟨pu_blind, va_recv hK hP (ci := 0) (q0 := 0) rfl rfl, pu_pre hP hK hN⟩ rfl rfl hl.1 rfl (lv_room (Nat.le_of_ble_eq_true rfl)) dX0_close_16 ⟨Nat.le_of_ble_eq_true rfl, Nat.le_of_ble_eq_true rfl⟩) hP hS (fun H locs hP hS => ?_)
    refine lv_if_ne (tgt := 25) hx hb dX0_close_19 (by decide) (fun c_4 => ?_) (fun c_4 => ?_)
    · skip
      refine lv_aload_n hx hb dX0_close_25 rfl (lv_at hl 0 rfl) ?_
      refine va_get (D := D) (ci := 0) (v := .ref (h 3)) (C := RX0) (T := TX0) (N := 7) hx hb hB inX0 hown hK hP 0 rfl rfl 2 (by decide) (hB _ k1_151) (fun _ h9 => h9) rfl dX0_close_26 ?_
      refine va_getN (D := D) (ci := 3) (v := .ref (h 16)) (C := RX3) (T := TX3) (N := 6) hx hb hB inX3 hown hK hP 3 rfl rfl 4 (by decide) (va_Nw.use rfl (hN _ kn_24)) (fun _ h9 => h9) rfl dX0_close_29 ?_
      refine lv_iload_n hx hb dX0_close_32 rfl (lv_at hl 1 rfl) ?_
      refine va_zald (f := S 10) hx hb hK hP 16 1 rfl rfl (vp_in_iff.mpr (by omega)) dX0_close_33 ?_
      have b_5 : (0) ≤ (S 10 a1.toNatClampNeg).toInt ∧ (S 10 a1.toNatClampNeg).toInt ≤ 1 := iv_10 (S := S) hI a1.toNatClampNeg
      refine lv_if_ne (tgt := 40) hx hb dX0_close_34 (by decide) (fun c_6 => ?_) (fun c_6 => ?_)
      · skip
        have z_0 : ((0) : Int32).toInt = (0) := by decide
        have t_6 := mt Int32.toInt_inj.mp c_6
        refine lv_iconst (v := 0) hx hb dX0_close_40 (by decide) ?_
        refine lv_istore_n (lv' := [(3, .int 0), (0, .ref (h 0)), (1, .int a1), (2, .int a2)]) hx hb dX0_close_41 rfl hl (by decide) rfl (fun ls hl => ?_)
        refine lv_iconst (v := 0) hx hb dX0_close_42 (by decide) ?_
        refine lv_istore (lv' := [(4, .int 0), (3, .int 0), (0, .ref (h 0)), (1, .int a1), (2, .int a2)]) hx hb dX0_close_43 hl (by decide) rfl (fun ls hl => ?_)
        have loop45 : ∀ (n : Nat) (Z : BS) (x3 x4 : Int32) (H : Heap) (locs : List Loc) (ls : Array Slot), IV Z → (0 ≤ x4.toInt ∧ x4.toInt ≤ (Z 25 0 : Int32).toInt ∧ (Z 25 0 : Int32).toInt - x4.toInt < (n : Int) ∧ True) → l_A_close_45 a1 a2 n Z x3 x4 = F_A_close S a1 a2 → va_P D vwCl (wB h cI cZ Z) H → va_D (bA h) (wB h cI cZ Z) → va_S (bA h) s.heap H locs → lv_has ls 5 [(0, .ref (h 0)), (1, .int a1), (2, .int a2), (3, .int x3), (4, .int x4)] → W p l e (headSpec wsX0_close { frames := 2, cells := 0, slots := 0, locals := 44 }).room s m ([.ref (h 0), .int a1, .int a2]).toArray below meth c H locs 0 0 (MQ below (WQ D cI cZ h (F_A_close S a1 a2)) ([.ref (h 0), .int a1, .int a2]).toArray s 0 0 (bA h)) (F0 m 45 ls []) := by
          intro n
          induction n with
          | zero =>
            intro Z x3 x4 H locs ls hI hinv he hP hD hS hl
            obtain ⟨h0, hle, hm, hex⟩ := hinv
            exact absurd hm (by omega)
          | succ n ih =>
            intro Z x3 x4 H locs ls hI hinv he hP hD hS hl
            obtain ⟨h0, hle, hm, hex⟩ := hinv
            have hBd := iv_25 hI
            refine lv_iload hx hb dX0_close_45 (lv_at hl 4 rfl) ?_
            refine lv_aload_n hx hb dX0_close_47 rfl (lv_at hl 0 rfl) ?_
            refine va_get (D := D) (ci := 0) (v := .ref (h 4)) (C := RX0) (T := TX0) (N := 7) hx hb hB inX0 hown hK hP 0 rfl rfl 3 (by decide) (hB _ k1_152) (fun _ h9 => h9) rfl dX0_close_48 ?_
            refine va_getN (D := D) (ci := 4) (v := .int (Z 25 0)) (C := RX4) (T := TX4) (N := 6) hx hb hB inX4 hown hK hP 4 rfl rfl 5 (by decide) (va_Nw.use rfl (hN _ kn_18)) (fun _ h9 => h9) rfl dX0_close_51 ?_
            have b_7 : (0) ≤ (Z 25 0).toInt ∧ (Z 25 0).toInt ≤ 120 := iv_25 (S := Z) hI
            refine lv_icmp_ge (tgt := 100) hx hb dX0_close_54 (by decide) (fun c_8 => ?_) (fun c_8 => ?_)
            · skip
              have t_8 := Int32.le_iff_toInt_le.mp c_8
              refine lv_aload_n hx hb dX0_close_100 rfl (lv_at hl 0 rfl) ?_
              refine va_get (D := D) (ci := 0) (v := .ref (h 3)) (C := RX0) (T := TX0) (N := 7) hx hb hB inX0 hown hK hP 0 rfl rfl 2 (by decide) (hB _ k1_151) (fun _ h9 => h9) rfl dX0_close_101 ?_
              refine va_getN (D := D) (ci := 3) (v := .ref (h 16)) (C := RX3) (T := TX3) (N := 6) hx hb hB inX3 hown hK hP 3 rfl rfl 4 (by decide) (va_Nw.use rfl (hN _ kn_24)) (fun _ h9 => h9) rfl dX0_close_104 ?_
              refine lv_iload_n hx hb dX0_close_107 rfl (lv_at hl 1 rfl) ?_
              refine lv_iconst (v := 0) hx hb dX0_close_108 (by decide) ?_
              refine wst_10 (S := Z) hx hb hK hP hD hS (vp_in_iff.mpr (by omega)) (by first | rfl | decide) dX0_close_109 (fun H locs hP hD hS => ?_)
              have hI_9 : IV (upS 10 a1.toNatClampNeg 0 Z) := iv_up (S := Z) hI 10 a1.toNatClampNeg 0 (iv_one 10 (0) 1 rfl (by decide))
              refine lv_aload_n hx hb dX0_close_110 rfl (lv_at hl 0 rfl) ?_
              refine lv_iload_n hx hb dX0_close_111 rfl (lv_at hl 2 rfl) ?_
              refine wpf_27 (S := upS 10 a1.toNatClampNeg 0 Z) hx hb hB hown hK hP hD hS (hB _ k1_155) dX0_close_112 (fun H locs hP hD hS => ?_)
              have hI_10 : IV (upS 27 0 a2 (upS 10 a1.toNatClampNeg 0 Z)) := iv_up (S := upS 10 a1.toNatClampNeg 0 Z) hI_9 27 0 a2 (iv_none 27 rfl)
              refine lv_iload_n hx hb dX0_close_115 rfl (lv_at hl 3 rfl) ?_
              exact W.iret (v := x3) hx hb hr (fun t ht hW => ⟨⟨x3, upS 27 0 a2 (upS 10 a1.toNatClampNeg 0 Z), rfl, ⟨(by rw [← he, l_A_close_45, if_pos c_8]), hI_10⟩, by show va_P D vwCl _ t.heap; rw [ht]; exact hP⟩, hS.F ht⟩) hS.2.2 dX0_close_116
            · skip
              have t_8 := mt Int32.le_iff_toInt_le.mpr c_8
              refine lv_aload_n hx hb dX0_close_57 rfl (lv_at hl 0 rfl) ?_
              refine va_get (D := D) (ci := 0) (v := .ref (h 4)) (C := RX0) (T := TX0) (N := 7) hx hb hB inX0 hown hK hP 0 rfl rfl 3 (by decide) (hB _ k1_152) (fun _ h9 => h9) rfl dX0_close_58 ?_
              refine va_getN (D := D) (ci := 4) (v := .ref (h 21)) (C := RX4) (T := TX4) (N := 6) hx hb hB inX4 hown hK hP 4 rfl rfl 4 (by decide) (va_Nw.use rfl (hN _ kn_19)) (fun _ h9 => h9) rfl dX0_close_61 ?_
              refine lv_iload hx hb dX0_close_64 (lv_at hl 4 rfl) ?_
              refine va_zald (f := Z 15) hx hb hK hP 21 1 rfl rfl (vp_in_iff.mpr (by omega)) dX0_close_66 ?_
              have b_11 : (0) ≤ (Z 15 x4.toNatClampNeg).toInt ∧ (Z 15 x4.toNatClampNeg).toInt ≤ 1 := iv_15 (S := Z) hI x4.toNatClampNeg
              refine lv_if_eq (tgt := 94) hx hb dX0_close_67 (by decide) (fun c_12 => ?_) (fun c_12 => ?_)
              · skip
                have z_0 : ((0) : Int32).toInt = (0) := by decide
                have t_12 := Int32.toInt_inj.symm.mp c_12
                refine lv_iinc (v := x4 + 1) (lv' := [(4, .int (x4 + 1)), (0, .ref (h 0)), (1, .int a1), (2, .int a2), (3, .int x3)]) hx hb dX0_close_94 hl (k := 4) rfl rfl (by decide) rfl (fun ls hl => ?_)
                refine lv_goto (tgt := 45) hx hb dX0_close_97 (by decide) ?_
                have hinc := i32_inc (x := x4) h0 (by omega)
                have e9 : (Z) 25 0 = Z 25 0 := rfl
                exact ih Z x3 (x4 + 1) _ _ _ hI ⟨by omega, by rw [e9]; omega, by rw [e9]; omega, trivial⟩ (by rw [← he, l_A_close_45, if_neg c_8, if_pos c_12]) hP hD hS (lv_sub hl [1, 2, 3, 4, 0] rfl)
              · skip
                have z_0 : ((0) : Int32).toInt = (0) := by decide
                have t_12 := mt Int32.toInt_inj.mp c_12
                refine lv_aload_n hx hb dX0_close_70 rfl (lv_at hl 0 rfl) ?_
                refine va_get (D := D) (ci := 0) (v := .ref (h 4)) (C := RX0) (T := TX0) (N := 7) hx hb hB inX0 hown hK hP 0 rfl rfl 3 (by decide) (hB _ k1_152) (fun _ h9 => h9) rfl dX0_close_71 ?_
                refine va_getN (D := D) (ci := 4) (v := .ref (h 17)) (C := RX4) (T := TX4) (N := 6) hx hb hB inX4 hown hK hP 4 rfl rfl 0 (by decide) (va_Nw.use rfl (hN _ kn_20)) (fun _ h9 => h9) rfl dX0_close_74 ?_
                refine lv_iload hx hb dX0_close_77 (lv_at hl 4 rfl) ?_
                refine va_iald (f := Z 11) hx hb hK hP 17 0 rfl rfl (vp_in_iff.mpr (by omega)) dX0_close_79 ?_
                have b_13 : (0) ≤ (Z 11 x4.toNatClampNeg).toInt ∧ (Z 11 x4.toNatClampNeg).toInt ≤ 79 := iv_11 (S := Z) hI x4.toNatClampNeg
                refine lv_iload_n hx hb dX0_close_80 rfl (lv_at hl 1 rfl) ?_
                refine lv_icmp_ne (tgt := 94) hx hb dX0_close_81 (by decide) (fun c_14 => ?_) (fun c_14 => ?_)
                · skip
                  refine lv_iinc (v := x4 + 1) (lv' := [(4, .int (x4 + 1)), (0, .ref (h 0)), (1, .int a1), (2, .int a2), (3, .int x3)]) hx hb dX0_close_94 hl (k := 4) rfl rfl (by decide) rfl (fun ls hl => ?_)
                  refine lv_goto (tgt := 45) hx hb dX0_close_97 (by decide) ?_
                  have hinc := i32_inc (x := x4) h0 (by omega)
                  have e9 : (Z) 25 0 = Z 25 0 := rfl
                  exact ih Z x3 (x4 + 1) _ _ _ hI ⟨by omega, by rw [e9]; omega, by rw [e9]; omega, trivial⟩ (by rw [← he, l_A_close_45, if_neg c_8, if_neg c_12, if_neg c_14]) hP hD hS (lv_sub hl [1, 2, 3, 4, 0] rfl)
                · skip
                  refine lv_aload_n hx hb dX0_close_84 rfl (lv_at hl 0 rfl) ?_
                  refine lv_iload hx hb dX0_close_85 (lv_at hl 4 rfl) ?_
                  refine lv_iload_n hx hb dX0_close_87 rfl (lv_at hl 2 rfl) ?_
                  refine wv_call (va_runV (As := [.int x4, .int a2]) (rest := []) ⟨hx, hb, hml, hown, hB⟩ (m_A_end l D h cI cZ Z hI x4 a2 (by omega)) (cwV 2 hB (gV k2_88 k2_90 ks_156 k1_1 k2_91) rfl rfl rfl (by decide +kernel) ⟨Nat.le_of_ble_eq_true rfl, Nat.le_of_ble_eq_true rfl⟩) ⟨wr_blind, va_recv hK hP (ci := 0) (q0 := 0) rfl rfl, wr_pre hP hK hN hD⟩ rfl rfl hl.1 rfl (lv_room (Nat.le_of_ble_eq_true rfl)) dX0_close_88 ⟨Nat.le_of_ble_eq_true rfl, Nat.le_of_ble_eq_true rfl⟩) hS (fun H locs hP hI_15 hS => ?_)
                  have hD := wD (S2 := (F_A_end Z x4 a2)) hD
                  refine lv_iinc (v := x3 + 1) (lv' := [(3, .int (x3 + 1)), (0, .ref (h 0)), (1, .int a1), (2, .int a2), (4, .int x4)]) hx hb dX0_close_91 hl (k := 3) rfl rfl (by decide) rfl (fun ls hl => ?_)
                  refine lv_iinc (v := x4 + 1) (lv' := [(4, .int (x4 + 1)), (3, .int (x3 + 1)), (0, .ref (h 0)), (1, .int a1), (2, .int a2)]) hx hb dX0_close_94 hl (k := 4) rfl rfl (by decide) rfl (fun ls hl => ?_)
                  refine lv_goto (tgt := 45) hx hb dX0_close_97 (by decide) ?_
                  have hinc := i32_inc (x := x4) h0 (by omega)
                  have e9 : ((F_A_end Z x4 a2)) 25 0 = Z 25 0 := rfl
                  exact ih (F_A_end Z x4 a2) (x3 + 1) (x4 + 1) _ _ _ hI_15 ⟨by omega, by rw [e9]; omega, by rw [e9]; omega, trivial⟩ (by rw [← he, l_A_close_45, if_neg c_8, if_neg c_12, if_pos c_14]) hP hD hS (lv_sub hl [2, 3, 4, 1, 0] rfl)
        have hB9 := iv_25 (S := S) hI
        exact loop45 600 S 0 0 _ _ _ hI ⟨by omega, by omega, by omega, trivial⟩ (by rw [F_A_close, if_neg c_2, if_neg c_4, if_neg c_6]) hP hD hS (lv_sub hl [2, 3, 4, 1, 0] rfl)
      · skip
        have z_0 : ((0) : Int32).toInt = (0) := by decide
        have t_6 := Int32.toInt_inj.symm.mp c_6
        refine lv_bipush (v := (-13)) hx hb dX0_close_37 (by decide) ?_
        exact W.iret (v := (-13)) hx hb hr (fun t ht hW => ⟨⟨(-13), S, rfl, ⟨(by rw [F_A_close, if_neg c_2, if_neg c_4, if_pos c_6]), hI⟩, by show va_P D vwCl _ t.heap; rw [ht]; exact hP⟩, hS.F ht⟩) hS.2.2 dX0_close_39
    · skip
      refine lv_bipush (v := (-12)) hx hb dX0_close_22 (by decide) ?_
      exact W.iret (v := (-12)) hx hb hr (fun t ht hW => ⟨⟨(-12), S, rfl, ⟨(by rw [F_A_close, if_neg c_2, if_pos c_4]), hI⟩, by show va_P D vwCl _ t.heap; rw [ht]; exact hP⟩, hS.F ht⟩) hS.2.2 dX0_close_24
  · skip
    refine lv_bipush (v := (-11)) hx hb dX0_close_11 (by decide) ?_
    exact W.iret (v := (-11)) hx hb hr (fun t ht hW => ⟨⟨(-11), S, rfl, ⟨(by rw [F_A_close, if_pos c_2]), hI⟩, by show va_P D vwCl _ t.heap; rw [ht]; exact hP⟩, hS.F ht⟩) hS.2.2 dX0_close_13
set_option maxHeartbeats 4000000 in
set_option maxRecDepth 100000 in
theorem m_A_giveToParts (l : Launch) (D : va_G) (h : Nat → Nat) (cI cZ : ClassId) (S : BS) (hI : IV S) (a1 a2 a3 : Int32) (ha1 : 0 ≤ a2.toInt ∧ a2.toInt ≤ 79) (ha2 : 0 ≤ a3.toInt ∧ a3.toInt ≤ 79) : WM l yX0_giveToParts wsX0_giveToParts { frames := 3, cells := 0, slots := 0, locals := 63 } D cI cZ h S [.ref (h 0), .int a1, .int a2, .int a3] (F_A_giveToParts S a1 a2 a3) := by
  refine Met.ofW (cc := cX0_giveToParts) (maxL := 6) (ret := (some .int)) (by decide) rfl ?_
  intro p e s m args below meth c s₁ B hml hv
  obtain ⟨rfl, hP, hK, hN, hD0⟩ := hv
  have hx := B.exec
  have hb := B.bytes
  have hr := B.returns
  have hts := atoms_spec (ws := wsX0_giveToParts) B.pre
  have hB : ∀ w ∈ BW, w.before _ s = true := fun w h => hts w (List.mem_cons_of_mem _ h)
  have hown : s.vm.findClass RX0 = some m.cls := findClass_of_methodNamed B.named
  have hlocks := B.notSynchronized
  have hD := bD hD0
  have hS : va_S (bA h) s.heap s.heap [] := va_S.rf
  have hl := lv_entry ([.ref (h 0), .int a1, .int a2, .int a3]) (n := 6) (Nat.le_of_ble_eq_true rfl)
  rw [lg_entry_eq]
  generalize (lg_sl ([.ref (h 0), .int a1, .int a2, .int a3]) ++ List.replicate (6 - (lg_sl ([.ref (h 0), .int a1, .int a2, .int a3])).length) Slot.unset).toArray = ls at hl ⊢
  have hl : lv_has ls 6 [(0, .ref (h 0)), (1, .int a1), (2, .int a2), (3, .int a3)] := hl
  refine lv_iconst (v := 0) hx hb dX0_giveToParts_0 (by decide) ?_
  refine lv_istore (lv' := [(4, .int 0), (0, .ref (h 0)), (1, .int a1), (2, .int a2), (3, .int a3)]) hx hb dX0_giveToParts_1 hl (by decide) rfl (fun ls hl => ?_)
  refine lv_iconst (v := 0) hx hb dX0_giveToParts_3 (by decide) ?_
  refine lv_istore (lv' := [(5, .int 0), (4, .int 0), (0, .ref (h 0)), (1, .int a1), (2, .int a2), (3, .int a3)]) hx hb dX0_giveToParts_4 hl (by decide) rfl (fun ls hl => ?_)
  have loop6 : ∀ (n : Nat) (Z : BS) (x4 x5 : Int32) (H : Heap) (locs : List Loc) (ls : Array Slot), IV Z → (0 ≤ x5.toInt ∧ x5.toInt ≤ (Z 25 0 : Int32).toInt ∧ (Z 25 0 : Int32).toInt - x5.toInt < (n : Int) ∧ True) → l_A_giveToParts_6 a1 a2 a3 n Z x4 x5 = F_A_giveToParts S a1 a2 a3 → va_P D vwCl (wB h cI cZ Z) H → va_D (bA h) (wB h cI cZ Z) → va_S (bA h) s.heap H locs → lv_has ls 6 [(0, .ref (h 0)), (1, .int a1), (2, .int a2), (3, .int a3), (4, .int x4), (5, .int x5)] → W p l e (headSpec wsX0_giveToParts { frames := 3, cells := 0, slots := 0, locals := 63 }).room s m ([.ref (h 0), .int a1, .int a2, .int a3]).toArray below meth c H locs 0 0 (MQ below (WQ D cI cZ h (F_A_giveToParts S a1 a2 a3)) ([.ref (h 0), .int a1, .int a2, .int a3]).toArray s 0 0 (bA h)) (F0 m 6 ls []) := by
    intro n
    induction n with
    | zero =>
      intro Z x4 x5 H locs ls hI hinv he hP hD hS hl
      obtain ⟨h0, hle, hm, hex⟩ := hinv
      exact absurd hm (by omega)
    | succ n ih =>
      intro Z x4 x5 H locs ls hI hinv he hP hD hS hl
      obtain ⟨h0, hle, hm, hex⟩ := hinv
      have hBd := iv_25 hI
      refine lv_iload hx hb dX0_giveToParts_6 (lv_at hl 5 rfl) ?_
      refine lv_aload_n hx hb dX0_giveToParts_8 rfl (lv_at hl 0 rfl) ?_
      refine va_get (D := D) (ci := 0) (v := .ref (h 4)) (C := RX0) (T := TX0) (N := 7) hx hb hB inX0 hown hK hP 0 rfl rfl 3 (by decide) (hB _ k1_152) (fun _ h9 => h9) rfl dX0_giveToParts_9 ?_
      refine va_getN (D := D) (ci := 4) (v := .int (Z 25 0)) (C := RX4) (T := TX4) (N := 6) hx hb hB inX4 hown hK hP 4 rfl rfl 5 (by decide) (va_Nw.use rfl (hN _ kn_18)) (fun _ h9 => h9) rfl dX0_giveToParts_12 ?_
      have b_1 : (0) ≤ (Z 25 0).toInt ∧ (Z 25 0).toInt ≤ 120 := iv_25 (S := Z) hI
      refine lv_icmp_ge (tgt := 86) hx hb dX0_giveToParts_15 (by decide) (fun c_2 => ?_) (fun c_2 => ?_)
      · skip
        have t_2 := Int32.le_iff_toInt_le.mp c_2
        refine lv_iload hx hb dX0_giveToParts_86 (lv_at hl 4 rfl) ?_
        exact W.iret (v := x4) hx hb hr (fun t ht hW => ⟨⟨x4, Z, rfl, ⟨(by rw [← he, l_A_giveToParts_6, if_pos c_2]), hI⟩, by show va_P D vwCl _ t.heap; rw [ht]; exact hP⟩, hS.F ht⟩) hS.2.2 dX0_giveToParts_88
      · skip
        have t_2 := mt Int32.le_iff_toInt_le.mpr c_2
        refine lv_aload_n hx hb dX0_giveToParts_18 rfl (lv_at hl 0 rfl) ?_
        refine va_get (D := D) (ci := 0) (v := .ref (h 4)) (C := RX0) (T := TX0) (N := 7) hx hb hB inX0 hown hK hP 0 rfl rfl 3 (by decide) (hB _ k1_152) (fun _ h9 => h9) rfl dX0_giveToParts_19 ?_
        refine va_getN (D := D) (ci := 4) (v := .ref (h 21)) (C := RX4) (T := TX4) (N := 6) hx hb hB inX4 hown hK hP 4 rfl rfl 4 (by decide) (va_Nw.use rfl (hN _ kn_19)) (fun _ h9 => h9) rfl dX0_giveToParts_22 ?_
        refine lv_iload hx hb dX0_giveToParts_25 (lv_at hl 5 rfl) ?_
        refine va_zald (f := Z 15) hx hb hK hP 21 1 rfl rfl (vp_in_iff.mpr (by omega)) dX0_giveToParts_27 ?_
        have b_3 : (0) ≤ (Z 15 x5.toNatClampNeg).toInt ∧ (Z 15 x5.toNatClampNeg).toInt ≤ 1 := iv_15 (S := Z) hI x5.toNatClampNeg
        refine lv_if_eq (tgt := 80) hx hb dX0_giveToParts_28 (by decide) (fun c_4 => ?_) (fun c_4 => ?_)
        · skip
          have z_0 : ((0) : Int32).toInt = (0) := by decide
          have t_4 := Int32.toInt_inj.symm.mp c_4
          refine lv_iinc (v := x5 + 1) (lv' := [(5, .int (x5 + 1)), (0, .ref (h 0)), (1, .int a1), (2, .int a2), (3, .int a3), (4, .int x4)]) hx hb dX0_giveToParts_80 hl (k := 5) rfl rfl (by decide) rfl (fun ls hl => ?_)
          refine lv_goto (tgt := 6) hx hb dX0_giveToParts_83 (by decide) ?_
          have hinc := i32_inc (x := x5) h0 (by omega)
          have e9 : (Z) 25 0 = Z 25 0 := rfl
          exact ih Z x4 (x5 + 1) _ _ _ hI ⟨by omega, by rw [e9]; omega, by rw [e9]; omega, trivial⟩ (by rw [← he, l_A_giveToParts_6, if_neg c_2, if_pos c_4]) hP hD hS (lv_sub hl [1, 2, 3, 4, 5, 0] rfl)
        · skip
          have z_0 : ((0) : Int32).toInt = (0) := by decide
          have t_4 := mt Int32.toInt_inj.mp c_4
          refine lv_aload_n hx hb dX0_giveToParts_31 rfl (lv_at hl 0 rfl) ?_
          refine va_get (D := D) (ci := 0) (v := .ref (h 4)) (C := RX0) (T := TX0) (N := 7) hx hb hB inX0 hown hK hP 0 rfl rfl 3 (by decide) (hB _ k1_152) (fun _ h9 => h9) rfl dX0_giveToParts_32 ?_
          refine va_getN (D := D) (ci := 4) (v := .ref (h 17)) (C := RX4) (T := TX4) (N := 6) hx hb hB inX4 hown hK hP 4 rfl rfl 0 (by decide) (va_Nw.use rfl (hN _ kn_20)) (fun _ h9 => h9) rfl dX0_giveToParts_35 ?_
          refine lv_iload hx hb dX0_giveToParts_38 (lv_at hl 5 rfl) ?_
          refine va_iald (f := Z 11) hx hb hK hP 17 0 rfl rfl (vp_in_iff.mpr (by omega)) dX0_giveToParts_40 ?_
          have b_5 : (0) ≤ (Z 11 x5.toNatClampNeg).toInt ∧ (Z 11 x5.toNatClampNeg).toInt ≤ 79 := iv_11 (S := Z) hI x5.toNatClampNeg
          refine lv_iload_n hx hb dX0_giveToParts_41 rfl (lv_at hl 1 rfl) ?_
          refine lv_icmp_ne (tgt := 80) hx hb dX0_giveToParts_42 (by decide) (fun c_6 => ?_) (fun c_6 => ?_)
          · skip
            refine lv_iinc (v := x5 + 1) (lv' := [(5, .int (x5 + 1)), (0, .ref (h 0)), (1, .int a1), (2, .int a2), (3, .int a3), (4, .int x4)]) hx hb dX0_giveToParts_80 hl (k := 5) rfl rfl (by decide) rfl (fun ls hl => ?_)
            refine lv_goto (tgt := 6) hx hb dX0_giveToParts_83 (by decide) ?_
            have hinc := i32_inc (x := x5) h0 (by omega)
            have e9 : (Z) 25 0 = Z 25 0 := rfl
            exact ih Z x4 (x5 + 1) _ _ _ hI ⟨by omega, by rw [e9]; omega, by rw [e9]; omega, trivial⟩ (by rw [← he, l_A_giveToParts_6, if_neg c_2, if_neg c_4, if_neg c_6]) hP hD hS (lv_sub hl [1, 2, 3, 4, 5, 0] rfl)
          · skip
            refine lv_aload_n hx hb dX0_giveToParts_45 rfl (lv_at hl 0 rfl) ?_
            refine va_get (D := D) (ci := 0) (v := .ref (h 4)) (C := RX0) (T := TX0) (N := 7) hx hb hB inX0 hown hK hP 0 rfl rfl 3 (by decide) (hB _ k1_152) (fun _ h9 => h9) rfl dX0_giveToParts_46 ?_
            refine va_getN (D := D) (ci := 4) (v := .ref (h 17)) (C := RX4) (T := TX4) (N := 6) hx hb hB inX4 hown hK hP 4 rfl rfl 0 (by decide) (va_Nw.use rfl (hN _ kn_20)) (fun _ h9 => h9) rfl dX0_giveToParts_49 ?_
            refine lv_iload hx hb dX0_giveToParts_52 (lv_at hl 5 rfl) ?_
            refine lv_aload_n hx hb dX0_giveToParts_54 rfl (lv_at hl 0 rfl) ?_
            refine va_get (D := D) (ci := 0) (v := .ref (h 3)) (C := RX0) (T := TX0) (N := 7) hx hb hB inX0 hown hK hP 0 rfl rfl 2 (by decide) (hB _ k1_151) (fun _ h9 => h9) rfl dX0_giveToParts_55 ?_
            refine lv_iload_n hx hb dX0_giveToParts_58 rfl (lv_at hl 2 rfl) ?_
            refine lv_aload_n hx hb dX0_giveToParts_59 rfl (lv_at hl 0 rfl) ?_
            refine lv_iload hx hb dX0_giveToParts_60 (lv_at hl 5 rfl) ?_
            refine pu_call (va_runV (As := [.int x5]) (rest := [.int a2, .ref (h 3), .int x5, .ref (h 17)]) ⟨hx, hb, hml, hown, hB⟩ (m_A_houseNow l D h cI cZ Z hI x5 (by omega)) (cwV 1 hB (gV k2_59 k2_61 ks_123 k1_1 k2_62) rfl rfl rfl (by decide +kernel) ⟨Nat.le_of_ble_eq_true rfl, Nat.le_of_ble_eq_true rfl⟩) ⟨pu_blind, va_recv hK hP (ci := 0) (q0 := 0) rfl rfl, pu_pre hP hK hN⟩ rfl rfl hl.1 rfl (lv_room (Nat.le_of_ble_eq_true rfl)) dX0_giveToParts_62 ⟨Nat.le_of_ble_eq_true rfl, Nat.le_of_ble_eq_true rfl⟩) hP hS (fun H locs hP hS => ?_)
            have k_7 := fc_A_houseNow hI x5
            refine pu_call (va_runVN (As := [.int a2, .int (f_A_houseNow Z x5)]) (rest := [.int x5, .ref (h 17)]) ⟨hx, hb, hml, hown, hB⟩ (m_R_holds l D h cI cZ Z hI a2 (f_A_houseNow Z x5) (by omega)) ⟨va_cnB 2 hB (gB k2_49) rfl rfl rfl (hN _ kn_23) (hB _ k1_4) (by decide +kernel) ⟨Nat.le_of_ble_eq_true rfl, Nat.le_of_ble_eq_true rfl⟩, hB _ k2_48, hB _ ks_129⟩ ⟨pu_blind, va_recv hK hP (ci := 3) (q0 := 3) rfl rfl, pu_pre hP hK hN⟩ rfl rfl hl.1 rfl (lv_room (Nat.le_of_ble_eq_true rfl)) dX0_giveToParts_65 ⟨Nat.le_of_ble_eq_true rfl, Nat.le_of_ble_eq_true rfl⟩) hP hS (fun H locs hP hS => ?_)
            refine lv_if_eq (tgt := 75) hx hb dX0_giveToParts_68 (by decide) (fun c_9 => ?_) (fun c_9 => ?_)
            · skip
              refine lv_iload_n hx hb dX0_giveToParts_75 rfl (lv_at hl 3 rfl) ?_
              refine wst_11 (S := Z) hx hb hK hP hD hS (vp_in_iff.mpr (by omega)) dX0_giveToParts_76 (fun H locs hP hD hS => ?_)
              have hI_10 : IV (upS 11 x5.toNatClampNeg a3 Z) := iv_up (S := Z) hI 11 x5.toNatClampNeg a3 (iv_one 11 (0) 79 rfl (by omega))
              refine lv_iinc (v := x4 + 1) (lv' := [(4, .int (x4 + 1)), (0, .ref (h 0)), (1, .int a1), (2, .int a2), (3, .int a3), (5, .int x5)]) hx hb dX0_giveToParts_77 hl (k := 4) rfl rfl (by decide) rfl (fun ls hl => ?_)
              refine lv_iinc (v := x5 + 1) (lv' := [(5, .int (x5 + 1)), (4, .int (x4 + 1)), (0, .ref (h 0)), (1, .int a1), (2, .int a2), (3, .int a3)]) hx hb dX0_giveToParts_80 hl (k := 5) rfl rfl (by decide) rfl (fun ls hl => ?_)
              refine lv_goto (tgt := 6) hx hb dX0_giveToParts_83 (by decide) ?_
              have hinc := i32_inc (x := x5) h0 (by omega)
              have e9 : (upS 11 x5.toNatClampNeg a3 Z) 25 0 = Z 25 0 := rfl
              exact ih (upS 11 x5.toNatClampNeg a3 Z) (x4 + 1) (x5 + 1) _ _ _ hI_10 ⟨by omega, by rw [e9]; omega, by rw [e9]; omega, trivial⟩ (by rw [← he, l_A_giveToParts_6, if_neg c_2, if_neg c_4, if_pos c_6, if_pos c_9]) hP hD hS (lv_sub hl [2, 3, 4, 5, 1, 0] rfl)
            · skip
              have t_9 := fb_R_holds hI c_9
              refine lv_iload_n hx hb dX0_giveToParts_71 rfl (lv_at hl 2 rfl) ?_
              refine lv_goto (tgt := 76) hx hb dX0_giveToParts_72 (by decide) ?_
              refine wst_11 (S := Z) hx hb hK hP hD hS (vp_in_iff.mpr (by omega)) dX0_giveToParts_76 (fun H locs hP hD hS => ?_)
              have hI_11 : IV (upS 11 x5.toNatClampNeg a2 Z) := iv_up (S := Z) hI 11 x5.toNatClampNeg a2 (iv_one 11 (0) 79 rfl (by omega))
              refine lv_iinc (v := x4 + 1) (lv' := [(4, .int (x4 + 1)), (0, .ref (h 0)), (1, .int a1), (2, .int a2), (3, .int a3), (5, .int x5)]) hx hb dX0_giveToParts_77 hl (k := 4) rfl rfl (by decide) rfl (fun ls hl => ?_)
              refine lv_iinc (v := x5 + 1) (lv' := [(5, .int (x5 + 1)), (4, .int (x4 + 1)), (0, .ref (h 0)), (1, .int a1), (2, .int a2), (3, .int a3)]) hx hb dX0_giveToParts_80 hl (k := 5) rfl rfl (by decide) rfl (fun ls hl => ?_)
              refine lv_goto (tgt := 6) hx hb dX0_giveToParts_83 (by decide) ?_
              have hinc := i32_inc (x := x5) h0 (by omega)
              have e9 : (upS 11 x5.toNatClampNeg a2 Z) 25 0 = Z 25 0 := rfl
              exact ih (upS 11 x5.toNatClampNeg a2 Z) (x4 + 1) (x5 + 1) _ _ _ hI_11 ⟨by omega, by rw [e9]; omega, by rw [e9]; omega, trivial⟩ (by rw [← he, l_A_giveToParts_6, if_neg c_2, if_neg c_4, if_pos c_6, if_neg c_9]) hP hD hS (lv_sub hl [2, 3, 4, 5, 1, 0] rfl)
  have hB9 := iv_25 (S := S) hI
  have z_0 : ((0) : Int32).toInt = (0) := by decide
  exact loop6 600 S 0 0 _ _ _ hI ⟨by omega, by omega, by omega, trivial⟩ (by rw [F_A_giveToParts]) hP hD hS (lv_sub hl [2, 3, 4, 5, 1, 0] rfl)
set_option maxHeartbeats 4000000 in
set_option maxRecDepth 100000 in
theorem m_A_split (l : Launch) (D : va_G) (h : Nat → Nat) (cI cZ : ClassId) (S : BS) (hI : IV S) (a1 a2 a3 : Int32) : WM l yX0_split wsX0_split { frames := 4, cells := 0, slots := 0, locals := 88 } D cI cZ h S [.ref (h 0), .int a1, .int a2, .int a3] (F_A_split S a1 a2 a3) := by
  refine Met.ofW (cc := cX0_split) (maxL := 8) (ret := (some .int)) (by decide) rfl ?_
  intro p e s m args below meth c s₁ B hml hv
  obtain ⟨rfl, hP, hK, hN, hD0⟩ := hv
  have hx := B.exec
  have hb := B.bytes
  have hr := B.returns
  have hts := atoms_spec (ws := wsX0_split) B.pre
  have hB : ∀ w ∈ BW, w.before _ s = true := fun w h => hts w (List.mem_cons_of_mem _ h)
  have hown : s.vm.findClass RX0 = some m.cls := findClass_of_methodNamed B.named
  have hlocks := B.notSynchronized
  have hD := bD hD0
  have hS : va_S (bA h) s.heap s.heap [] := va_S.rf
  have hl := lv_entry ([.ref (h 0), .int a1, .int a2, .int a3]) (n := 8) (Nat.le_of_ble_eq_true rfl)
  rw [lg_entry_eq]
  generalize (lg_sl ([.ref (h 0), .int a1, .int a2, .int a3]) ++ List.replicate (8 - (lg_sl ([.ref (h 0), .int a1, .int a2, .int a3])).length) Slot.unset).toArray = ls at hl ⊢
  have hl : lv_has ls 8 [(0, .ref (h 0)), (1, .int a1), (2, .int a2), (3, .int a3)] := hl
  refine lv_aload_n hx hb dX0_split_0 rfl (lv_at hl 0 rfl) ?_
  refine va_get (D := D) (ci := 0) (v := .ref (h 3)) (C := RX0) (T := TX0) (N := 7) hx hb hB inX0 hown hK hP 0 rfl rfl 2 (by decide) (hB _ k1_151) (fun _ h9 => h9) rfl dX0_split_1 ?_
  refine lv_iload_n hx hb dX0_split_4 rfl (lv_at hl 1 rfl) ?_
  refine pu_call (va_runVN (As := [.int a1]) (rest := []) ⟨hx, hb, hml, hown, hB⟩ (m_R_has l D h cI cZ S hI a1 ) ⟨va_cnB 1 hB (gB k2_45) rfl rfl rfl (hN _ kn_22) (hB _ k1_4) (by decide +kernel) ⟨Nat.le_of_ble_eq_true rfl, Nat.le_of_ble_eq_true rfl⟩, hB _ k2_44, hB _ ks_126⟩ ⟨pu_blind, va_recv hK hP (ci := 3) (q0 := 3) rfl rfl, pu_pre hP hK hN⟩ rfl rfl hl.1 rfl (lv_room (Nat.le_of_ble_eq_true rfl)) dX0_split_5 ⟨Nat.le_of_ble_eq_true rfl, Nat.le_of_ble_eq_true rfl⟩) hP hS (fun H locs hP hS => ?_)
  refine lv_if_ne (tgt := 14) hx hb dX0_split_8 (by decide) (fun c_2 => ?_) (fun c_2 => ?_)
  · skip
    have t_2 := fb_R_has hI c_2
    refine lv_aload_n hx hb dX0_split_14 rfl (lv_at hl 0 rfl) ?_
    refine lv_iload_n hx hb dX0_split_15 rfl (lv_at hl 3 rfl) ?_
    refine pu_call (va_runV (As := [.int a3]) (rest := []) ⟨hx, hb, hml, hown, hB⟩ (m_A_isTodayOrLater l D h cI cZ S hI a3 ) (cwV 1 hB (gV k2_1 k2_3 ks_107 k1_1 k2_4) rfl rfl rfl (by decide +kernel) ⟨Nat.le_of_ble_eq_true rfl, Nat.le_of_ble_eq_true rfl⟩) ⟨pu_blind, va_recv hK hP (ci := 0) (q0 := 0) rfl rfl, pu_pre hP hK hN⟩ rfl rfl hl.1 rfl (lv_room (Nat.le_of_ble_eq_true rfl)) dX0_split_16 ⟨Nat.le_of_ble_eq_true rfl, Nat.le_of_ble_eq_true rfl⟩) hP hS (fun H locs hP hS => ?_)
    refine lv_if_eq (tgt := 48) hx hb dX0_split_19 (by decide) (fun c_4 => ?_) (fun c_4 => ?_)
    · skip
      refine lv_bipush (v := (-12)) hx hb dX0_split_48 (by decide) ?_
      exact W.iret (v := (-12)) hx hb hr (fun t ht hW => ⟨⟨(-12), S, rfl, ⟨(by rw [F_A_split, if_neg c_2, if_pos c_4]), hI⟩, by show va_P D vwCl _ t.heap; rw [ht]; exact hP⟩, hS.F ht⟩) hS.2.2 dX0_split_50
    · skip
      refine lv_iload_n hx hb dX0_split_22 rfl (lv_at hl 2 rfl) ?_
      refine lv_aload_n hx hb dX0_split_23 rfl (lv_at hl 0 rfl) ?_
      refine va_get (D := D) (ci := 0) (v := .ref (h 3)) (C := RX0) (T := TX0) (N := 7) hx hb hB inX0 hown hK hP 0 rfl rfl 2 (by decide) (hB _ k1_151) (fun _ h9 => h9) rfl dX0_split_24 ?_
      refine va_getN (D := D) (ci := 3) (v := .ref (h 14)) (C := RX3) (T := TX3) (N := 6) hx hb hB inX3 hown hK hP 3 rfl rfl 2 (by decide) (va_Nw.use rfl (hN _ kn_31)) (fun _ h9 => h9) rfl dX0_split_27 ?_
      refine lv_iload_n hx hb dX0_split_30 rfl (lv_at hl 1 rfl) ?_
      refine va_iald (f := S 8) hx hb hK hP 14 0 rfl rfl (vp_in_iff.mpr (by omega)) dX0_split_31 ?_
      have b_5 : (0) ≤ (S 8 a1.toNatClampNeg).toInt ∧ (S 8 a1.toNatClampNeg).toInt ≤ 1000 := iv_8 (S := S) hI a1.toNatClampNeg
      refine lv_icmp_le (tgt := 48) hx hb dX0_split_32 (by decide) (fun c_6 => ?_) (fun c_6 => ?_)
      · skip
        have t_6 := Int32.le_iff_toInt_le.mp c_6
        refine lv_bipush (v := (-12)) hx hb dX0_split_48 (by decide) ?_
        exact W.iret (v := (-12)) hx hb hr (fun t ht hW => ⟨⟨(-12), S, rfl, ⟨(by rw [F_A_split, if_neg c_2, if_neg c_4, if_pos c_6]), hI⟩, by show va_P D vwCl _ t.heap; rw [ht]; exact hP⟩, hS.F ht⟩) hS.2.2 dX0_split_50
      · skip
        have t_6 := mt Int32.le_iff_toInt_le.mpr c_6
        refine lv_iload_n hx hb dX0_split_35 rfl (lv_at hl 2 rfl) ?_
        refine lv_aload_n hx hb dX0_split_36 rfl (lv_at hl 0 rfl) ?_
        refine va_get (D := D) (ci := 0) (v := .ref (h 3)) (C := RX0) (T := TX0) (N := 7) hx hb hB inX0 hown hK hP 0 rfl rfl 2 (by decide) (hB _ k1_151) (fun _ h9 => h9) rfl dX0_split_37 ?_
        refine va_getN (D := D) (ci := 3) (v := .ref (h 15)) (C := RX3) (T := TX3) (N := 6) hx hb hB inX3 hown hK hP 3 rfl rfl 3 (by decide) (va_Nw.use rfl (hN _ kn_32)) (fun _ h9 => h9) rfl dX0_split_40 ?_
        refine lv_iload_n hx hb dX0_split_43 rfl (lv_at hl 1 rfl) ?_
        refine va_iald (f := S 9) hx hb hK hP 15 0 rfl rfl (vp_in_iff.mpr (by omega)) dX0_split_44 ?_
        have b_7 : (-1) ≤ (S 9 a1.toNatClampNeg).toInt ∧ (S 9 a1.toNatClampNeg).toInt ≤ 999 := iv_9 (S := S) hI a1.toNatClampNeg
        refine lv_icmp_le (tgt := 51) hx hb dX0_split_45 (by decide) (fun c_8 => ?_) (fun c_8 => ?_)
        · skip
          have t_8 := Int32.le_iff_toInt_le.mp c_8
          refine lv_aload_n hx hb dX0_split_51 rfl (lv_at hl 0 rfl) ?_
          refine va_get (D := D) (ci := 0) (v := .ref (h 3)) (C := RX0) (T := TX0) (N := 7) hx hb hB inX0 hown hK hP 0 rfl rfl 2 (by decide) (hB _ k1_151) (fun _ h9 => h9) rfl dX0_split_52 ?_
          refine va_getN (D := D) (ci := 3) (v := .ref (h 16)) (C := RX3) (T := TX3) (N := 6) hx hb hB inX3 hown hK hP 3 rfl rfl 4 (by decide) (va_Nw.use rfl (hN _ kn_24)) (fun _ h9 => h9) rfl dX0_split_55 ?_
          refine lv_iload_n hx hb dX0_split_58 rfl (lv_at hl 1 rfl) ?_
          refine va_zald (f := S 10) hx hb hK hP 16 1 rfl rfl (vp_in_iff.mpr (by omega)) dX0_split_59 ?_
          have b_9 : (0) ≤ (S 10 a1.toNatClampNeg).toInt ∧ (S 10 a1.toNatClampNeg).toInt ≤ 1 := iv_10 (S := S) hI a1.toNatClampNeg
          refine lv_if_ne (tgt := 66) hx hb dX0_split_60 (by decide) (fun c_10 => ?_) (fun c_10 => ?_)
          · skip
            have z_0 : ((0) : Int32).toInt = (0) := by decide
            have t_10 := mt Int32.toInt_inj.mp c_10
            refine lv_aload_n hx hb dX0_split_66 rfl (lv_at hl 0 rfl) ?_
            refine va_get (D := D) (ci := 0) (v := .ref (h 3)) (C := RX0) (T := TX0) (N := 7) hx hb hB inX0 hown hK hP 0 rfl rfl 2 (by decide) (hB _ k1_151) (fun _ h9 => h9) rfl dX0_split_67 ?_
            refine lv_iconst (v := 2) hx hb dX0_split_70 (by decide) ?_
            refine pu_call (va_runVN (As := [.int 2]) (rest := []) ⟨hx, hb, hml, hown, hB⟩ (m_R_hasRoomFor l D h cI cZ S hI 2 ) ⟨va_cnB 1 hB (gB k2_13) rfl rfl rfl (hN _ kn_13) (hB _ k1_4) (by decide +kernel) ⟨Nat.le_of_ble_eq_true rfl, Nat.le_of_ble_eq_true rfl⟩, hB _ k2_12, hB _ ks_114⟩ ⟨pu_blind, va_recv hK hP (ci := 3) (q0 := 3) rfl rfl, pu_pre hP hK hN⟩ rfl rfl hl.1 rfl (lv_room (Nat.le_of_ble_eq_true rfl)) dX0_split_71 ⟨Nat.le_of_ble_eq_true rfl, Nat.le_of_ble_eq_true rfl⟩) hP hS (fun H locs hP hS => ?_)
            refine lv_if_ne (tgt := 80) hx hb dX0_split_74 (by decide) (fun c_12 => ?_) (fun c_12 => ?_)
            · skip
              have t_12 := fb_R_hasRoomFor_2 hI c_12
              refine lv_aload_n hx hb dX0_split_80 rfl (lv_at hl 0 rfl) ?_
              refine va_get (D := D) (ci := 0) (v := .ref (h 3)) (C := RX0) (T := TX0) (N := 7) hx hb hB inX0 hown hK hP 0 rfl rfl 2 (by decide) (hB _ k1_151) (fun _ h9 => h9) rfl dX0_split_81 ?_
              refine va_getN (D := D) (ci := 3) (v := .ref (h 12)) (C := RX3) (T := TX3) (N := 6) hx hb hB inX3 hown hK hP 3 rfl rfl 0 (by decide) (va_Nw.use rfl (hN _ kn_27)) (fun _ h9 => h9) rfl dX0_split_84 ?_
              refine lv_iload_n hx hb dX0_split_87 rfl (lv_at hl 1 rfl) ?_
              refine va_iald (f := S 6) hx hb hK hP 12 0 rfl rfl (vp_in_iff.mpr (by omega)) dX0_split_88 ?_
              have b_13 : (0) ≤ (S 6 a1.toNatClampNeg).toInt ∧ (S 6 a1.toNatClampNeg).toInt ≤ 31 := iv_6 (S := S) hI a1.toNatClampNeg
              refine lv_istore (lv' := [(4, .int (S 6 a1.toNatClampNeg)), (0, .ref (h 0)), (1, .int a1), (2, .int a2), (3, .int a3)]) hx hb dX0_split_89 hl (by decide) rfl (fun ls hl => ?_)
              refine lv_aload_n hx hb dX0_split_91 rfl (lv_at hl 1 rfl) ?_
              refine va_get (D := D) (ci := 0) (v := .ref (h 3)) (C := RX0) (T := TX0) (N := 7) hx hb hB inX0 hown hK hP 0 rfl rfl 2 (by decide) (hB _ k1_151) (fun _ h9 => h9) rfl dX0_split_92 ?_
              refine va_getN (D := D) (ci := 3) (v := .ref (h 13)) (C := RX3) (T := TX3) (N := 6) hx hb hB inX3 hown hK hP 3 rfl rfl 1 (by decide) (va_Nw.use rfl (hN _ kn_33)) (fun _ h9 => h9) rfl dX0_split_95 ?_
              refine lv_iload_n hx hb dX0_split_98 rfl (lv_at hl 2 rfl) ?_
              refine va_iald (f := S 7) hx hb hK hP 13 0 rfl rfl (vp_in_iff.mpr (by omega)) dX0_split_99 ?_
              refine lv_istore (lv' := [(5, .int (S 7 a1.toNatClampNeg)), (4, .int (S 6 a1.toNatClampNeg)), (0, .ref (h 0)), (1, .int a1), (2, .int a2), (3, .int a3)]) hx hb dX0_split_100 hl (by decide) rfl (fun ls hl => ?_)
              refine lv_aload_n hx hb dX0_split_102 rfl (lv_at hl 2 rfl) ?_
              refine va_get (D := D) (ci := 0) (v := .ref (h 3)) (C := RX0) (T := TX0) (N := 7) hx hb hB inX0 hown hK hP 0 rfl rfl 2 (by decide) (hB _ k1_151) (fun _ h9 => h9) rfl dX0_split_103 ?_
              refine lv_iload hx hb dX0_split_106 (lv_at hl 1 rfl) ?_
              refine lv_iload hx hb dX0_split_108 (lv_at hl 0 rfl) ?_
              refine lv_aload_n hx hb dX0_split_110 rfl (lv_at hl 2 rfl) ?_
              refine va_get (D := D) (ci := 0) (v := .ref (h 3)) (C := RX0) (T := TX0) (N := 7) hx hb hB inX0 hown hK hP 0 rfl rfl 2 (by decide) (hB _ k1_151) (fun _ h9 => h9) rfl dX0_split_111 ?_
              refine va_getN (D := D) (ci := 3) (v := .ref (h 14)) (C := RX3) (T := TX3) (N := 6) hx hb hB inX3 hown hK hP 3 rfl rfl 2 (by decide) (va_Nw.use rfl (hN _ kn_31)) (fun _ h9 => h9) rfl dX0_split_114 ?_
              refine lv_iload_n hx hb dX0_split_117 rfl (lv_at hl 3 rfl) ?_
              refine va_iald (f := S 8) hx hb hK hP 14 0 rfl rfl (vp_in_iff.mpr (by omega)) dX0_split_118 ?_
              have b_14 : (0) ≤ (S 8 a1.toNatClampNeg).toInt ∧ (S 8 a1.toNatClampNeg).toInt ≤ 1000 := iv_8 (S := S) hI a1.toNatClampNeg
              refine lv_iload_n hx hb dX0_split_119 rfl (lv_at hl 4 rfl) ?_
              refine lv_iconst (v := 1) hx hb dX0_split_120 (by decide) ?_
              refine lv_isub hx hb dX0_split_121 ?_
              have z_1 : ((1) : Int32).toInt = (1) := by decide
              have k_15 := i32_sub (x := a2) (y := 1) (by omega) (by omega)
              refine wr_call (va_runVN (As := [.int (S 6 a1.toNatClampNeg), .int (S 7 a1.toNatClampNeg), .int (S 8 a1.toNatClampNeg), .int (a2 - 1)]) (rest := []) ⟨hx, hb, hml, hown, hB⟩ (m_R_add l D h cI cZ S hI (S 6 a1.toNatClampNeg) (S 7 a1.toNatClampNeg) (S 8 a1.toNatClampNeg) (a2 - 1) (show (S 24 0).toInt < 80 by omega) (by omega) (by omega) (by omega)) ⟨va_cnB 4 hB (gB k2_37) rfl rfl rfl (hN _ kn_15) (hB _ k1_4) (by decide +kernel) ⟨Nat.le_of_ble_eq_true rfl, Nat.le_of_ble_eq_true rfl⟩, hB _ k2_36, hB _ ks_117⟩ ⟨wr_blind, va_recv hK hP (ci := 3) (q0 := 3) rfl rfl, wr_pre hP hK hN hD⟩ rfl rfl hl.1 rfl (lv_room (Nat.le_of_ble_eq_true rfl)) dX0_split_122 ⟨Nat.le_of_ble_eq_true rfl, Nat.le_of_ble_eq_true rfl⟩) hS (fun H locs hP hI_16 hS => ?_)
              have hD := wD (S2 := (F_R_add S (S 6 a1.toNatClampNeg) (S 7 a1.toNatClampNeg) (S 8 a1.toNatClampNeg) (a2 - 1)).2) hD
              have k_17 : ((F_R_add S (S 6 a1.toNatClampNeg) (S 7 a1.toNatClampNeg) (S 8 a1.toNatClampNeg) (a2 - 1)).1).toInt = (S 24 0).toInt := congrArg Int32.toInt (fc_R_add S (S 6 a1.toNatClampNeg) (S 7 a1.toNatClampNeg) (S 8 a1.toNatClampNeg) (a2 - 1))
              have j_17 : (((F_R_add S (S 6 a1.toNatClampNeg) (S 7 a1.toNatClampNeg) (S 8 a1.toNatClampNeg) (a2 - 1)).2) 24 0).toInt = (S 24 0).toInt + 1 := i32_inc (x := S 24 0) (by omega) (by omega)
              have i_17 : (((F_R_add S (S 6 a1.toNatClampNeg) (S 7 a1.toNatClampNeg) (S 8 a1.toNatClampNeg) (a2 - 1)).2) 9 a1.toNatClampNeg).toInt = (S 9 a1.toNatClampNeg).toInt := congrArg Int32.toInt (fc_R_keep9 S (S 6 a1.toNatClampNeg) (S 7 a1.toNatClampNeg) (S 8 a1.toNatClampNeg) (a2 - 1) a1 (by omega) (by omega))
              refine lv_istore (lv' := [(6, .int ((F_R_add S (S 6 a1.toNatClampNeg) (S 7 a1.toNatClampNeg) (S 8 a1.toNatClampNeg) (a2 - 1)).1)), (5, .int (S 7 a1.toNatClampNeg)), (4, .int (S 6 a1.toNatClampNeg)), (0, .ref (h 0)), (1, .int a1), (2, .int a2), (3, .int a3)]) hx hb dX0_split_125 hl (by decide) rfl (fun ls hl => ?_)
              refine lv_aload_n hx hb dX0_split_127 rfl (lv_at hl 3 rfl) ?_
              refine va_get (D := D) (ci := 0) (v := .ref (h 3)) (C := RX0) (T := TX0) (N := 7) hx hb hB inX0 hown hK hP 0 rfl rfl 2 (by decide) (hB _ k1_151) (fun _ h9 => h9) rfl dX0_split_128 ?_
              refine lv_iload hx hb dX0_split_131 (lv_at hl 2 rfl) ?_
              refine lv_iload hx hb dX0_split_133 (lv_at hl 1 rfl) ?_
              refine lv_iload_n hx hb dX0_split_135 rfl (lv_at hl 5 rfl) ?_
              refine lv_aload_n hx hb dX0_split_136 rfl (lv_at hl 3 rfl) ?_
              refine va_get (D := D) (ci := 0) (v := .ref (h 3)) (C := RX0) (T := TX0) (N := 7) hx hb hB inX0 hown hK hP 0 rfl rfl 2 (by decide) (hB _ k1_151) (fun _ h9 => h9) rfl dX0_split_137 ?_
              refine va_getN (D := D) (ci := 3) (v := .ref (h 15)) (C := RX3) (T := TX3) (N := 6) hx hb hB inX3 hown hK hP 3 rfl rfl 3 (by decide) (va_Nw.use rfl (hN _ kn_32)) (fun _ h9 => h9) rfl dX0_split_140 ?_
              refine lv_iload_n hx hb dX0_split_143 rfl (lv_at hl 4 rfl) ?_
              refine va_iald (f := ((F_R_add S (S 6 a1.toNatClampNeg) (S 7 a1.toNatClampNeg) (S 8 a1.toNatClampNeg) (a2 - 1)).2) 9) hx hb hK hP 15 0 rfl rfl (vp_in_iff.mpr (by omega)) dX0_split_144 ?_
              have b_18 : (-1) ≤ (((F_R_add S (S 6 a1.toNatClampNeg) (S 7 a1.toNatClampNeg) (S 8 a1.toNatClampNeg) (a2 - 1)).2) 9 a1.toNatClampNeg).toInt ∧ (((F_R_add S (S 6 a1.toNatClampNeg) (S 7 a1.toNatClampNeg) (S 8 a1.toNatClampNeg) (a2 - 1)).2) 9 a1.toNatClampNeg).toInt ≤ 999 := iv_9 (S := (F_R_add S (S 6 a1.toNatClampNeg) (S 7 a1.toNatClampNeg) (S 8 a1.toNatClampNeg) (a2 - 1)).2) hI_16 a1.toNatClampNeg
              refine wr_call (va_runVN (As := [.int (S 6 a1.toNatClampNeg), .int (S 7 a1.toNatClampNeg), .int a2, .int (((F_R_add S (S 6 a1.toNatClampNeg) (S 7 a1.toNatClampNeg) (S 8 a1.toNatClampNeg) (a2 - 1)).2) 9 a1.toNatClampNeg)]) (rest := []) ⟨hx, hb, hml, hown, hB⟩ (m_R_add l D h cI cZ ((F_R_add S (S 6 a1.toNatClampNeg) (S 7 a1.toNatClampNeg) (S 8 a1.toNatClampNeg) (a2 - 1)).2) hI_16 (S 6 a1.toNatClampNeg) (S 7 a1.toNatClampNeg) a2 (((F_R_add S (S 6 a1.toNatClampNeg) (S 7 a1.toNatClampNeg) (S 8 a1.toNatClampNeg) (a2 - 1)).2) 9 a1.toNatClampNeg) (show (((F_R_add S (S 6 a1.toNatClampNeg) (S 7 a1.toNatClampNeg) (S 8 a1.toNatClampNeg) (a2 - 1)).2) 24 0).toInt < 80 by omega) (by omega) (by omega) (by omega)) ⟨va_cnB 4 hB (gB k2_37) rfl rfl rfl (hN _ kn_15) (hB _ k1_4) (by decide +kernel) ⟨Nat.le_of_ble_eq_true rfl, Nat.le_of_ble_eq_true rfl⟩, hB _ k2_36, hB _ ks_117⟩ ⟨wr_blind, va_recv hK hP (ci := 3) (q0 := 3) rfl rfl, wr_pre hP hK hN hD⟩ rfl rfl hl.1 rfl (lv_room (Nat.le_of_ble_eq_true rfl)) dX0_split_145 ⟨Nat.le_of_ble_eq_true rfl, Nat.le_of_ble_eq_true rfl⟩) hS (fun H locs hP hI_19 hS => ?_)
              have hD := wD (S2 := (F_R_add ((F_R_add S (S 6 a1.toNatClampNeg) (S 7 a1.toNatClampNeg) (S 8 a1.toNatClampNeg) (a2 - 1)).2) (S 6 a1.toNatClampNeg) (S 7 a1.toNatClampNeg) a2 (((F_R_add S (S 6 a1.toNatClampNeg) (S 7 a1.toNatClampNeg) (S 8 a1.toNatClampNeg) (a2 - 1)).2) 9 a1.toNatClampNeg)).2) hD
              have k_20 : ((F_R_add ((F_R_add S (S 6 a1.toNatClampNeg) (S 7 a1.toNatClampNeg) (S 8 a1.toNatClampNeg) (a2 - 1)).2) (S 6 a1.toNatClampNeg) (S 7 a1.toNatClampNeg) a2 (((F_R_add S (S 6 a1.toNatClampNeg) (S 7 a1.toNatClampNeg) (S 8 a1.toNatClampNeg) (a2 - 1)).2) 9 a1.toNatClampNeg)).1).toInt = (((F_R_add S (S 6 a1.toNatClampNeg) (S 7 a1.toNatClampNeg) (S 8 a1.toNatClampNeg) (a2 - 1)).2) 24 0).toInt := congrArg Int32.toInt (fc_R_add ((F_R_add S (S 6 a1.toNatClampNeg) (S 7 a1.toNatClampNeg) (S 8 a1.toNatClampNeg) (a2 - 1)).2) (S 6 a1.toNatClampNeg) (S 7 a1.toNatClampNeg) a2 (((F_R_add S (S 6 a1.toNatClampNeg) (S 7 a1.toNatClampNeg) (S 8 a1.toNatClampNeg) (a2 - 1)).2) 9 a1.toNatClampNeg))
              have j_20 : (((F_R_add ((F_R_add S (S 6 a1.toNatClampNeg) (S 7 a1.toNatClampNeg) (S 8 a1.toNatClampNeg) (a2 - 1)).2) (S 6 a1.toNatClampNeg) (S 7 a1.toNatClampNeg) a2 (((F_R_add S (S 6 a1.toNatClampNeg) (S 7 a1.toNatClampNeg) (S 8 a1.toNatClampNeg) (a2 - 1)).2) 9 a1.toNatClampNeg)).2) 24 0).toInt = (((F_R_add S (S 6 a1.toNatClampNeg) (S 7 a1.toNatClampNeg) (S 8 a1.toNatClampNeg) (a2 - 1)).2) 24 0).toInt + 1 := i32_inc (x := ((F_R_add S (S 6 a1.toNatClampNeg) (S 7 a1.toNatClampNeg) (S 8 a1.toNatClampNeg) (a2 - 1)).2) 24 0) (by omega) (by omega)
              have i_20 : (((F_R_add ((F_R_add S (S 6 a1.toNatClampNeg) (S 7 a1.toNatClampNeg) (S 8 a1.toNatClampNeg) (a2 - 1)).2) (S 6 a1.toNatClampNeg) (S 7 a1.toNatClampNeg) a2 (((F_R_add S (S 6 a1.toNatClampNeg) (S 7 a1.toNatClampNeg) (S 8 a1.toNatClampNeg) (a2 - 1)).2) 9 a1.toNatClampNeg)).2) 9 a1.toNatClampNeg).toInt = (((F_R_add S (S 6 a1.toNatClampNeg) (S 7 a1.toNatClampNeg) (S 8 a1.toNatClampNeg) (a2 - 1)).2) 9 a1.toNatClampNeg).toInt := congrArg Int32.toInt (fc_R_keep9 ((F_R_add S (S 6 a1.toNatClampNeg) (S 7 a1.toNatClampNeg) (S 8 a1.toNatClampNeg) (a2 - 1)).2) (S 6 a1.toNatClampNeg) (S 7 a1.toNatClampNeg) a2 (((F_R_add S (S 6 a1.toNatClampNeg) (S 7 a1.toNatClampNeg) (S 8 a1.toNatClampNeg) (a2 - 1)).2) 9 a1.toNatClampNeg) a1 (by omega) (by omega))
              refine lv_istore (lv' := [(7, .int ((F_R_add ((F_R_add S (S 6 a1.toNatClampNeg) (S 7 a1.toNatClampNeg) (S 8 a1.toNatClampNeg) (a2 - 1)).2) (S 6 a1.toNatClampNeg) (S 7 a1.toNatClampNeg) a2 (((F_R_add S (S 6 a1.toNatClampNeg) (S 7 a1.toNatClampNeg) (S 8 a1.toNatClampNeg) (a2 - 1)).2) 9 a1.toNatClampNeg)).1)), (6, .int ((F_R_add S (S 6 a1.toNatClampNeg) (S 7 a1.toNatClampNeg) (S 8 a1.toNatClampNeg) (a2 - 1)).1)), (5, .int (S 7 a1.toNatClampNeg)), (4, .int (S 6 a1.toNatClampNeg)), (0, .ref (h 0)), (1, .int a1), (2, .int a2), (3, .int a3)]) hx hb dX0_split_148 hl (by decide) rfl (fun ls hl => ?_)
              refine lv_aload_n hx hb dX0_split_150 rfl (lv_at hl 4 rfl) ?_
              refine va_get (D := D) (ci := 0) (v := .ref (h 3)) (C := RX0) (T := TX0) (N := 7) hx hb hB inX0 hown hK hP 0 rfl rfl 2 (by decide) (hB _ k1_151) (fun _ h9 => h9) rfl dX0_split_151 ?_
              refine va_getN (D := D) (ci := 3) (v := .ref (h 16)) (C := RX3) (T := TX3) (N := 6) hx hb hB inX3 hown hK hP 3 rfl rfl 4 (by decide) (va_Nw.use rfl (hN _ kn_24)) (fun _ h9 => h9) rfl dX0_split_154 ?_
              refine lv_iload_n hx hb dX0_split_157 rfl (lv_at hl 5 rfl) ?_
              refine lv_iconst (v := 0) hx hb dX0_split_158 (by decide) ?_
              refine wst_10 (S := (F_R_add ((F_R_add S (S 6 a1.toNatClampNeg) (S 7 a1.toNatClampNeg) (S 8 a1.toNatClampNeg) (a2 - 1)).2) (S 6 a1.toNatClampNeg) (S 7 a1.toNatClampNeg) a2 (((F_R_add S (S 6 a1.toNatClampNeg) (S 7 a1.toNatClampNeg) (S 8 a1.toNatClampNeg) (a2 - 1)).2) 9 a1.toNatClampNeg)).2) hx hb hK hP hD hS (vp_in_iff.mpr (by omega)) (by first | rfl | decide) dX0_split_159 (fun H locs hP hD hS => ?_)
              have hI_21 : IV (upS 10 a1.toNatClampNeg 0 ((F_R_add ((F_R_add S (S 6 a1.toNatClampNeg) (S 7 a1.toNatClampNeg) (S 8 a1.toNatClampNeg) (a2 - 1)).2) (S 6 a1.toNatClampNeg) (S 7 a1.toNatClampNeg) a2 (((F_R_add S (S 6 a1.toNatClampNeg) (S 7 a1.toNatClampNeg) (S 8 a1.toNatClampNeg) (a2 - 1)).2) 9 a1.toNatClampNeg)).2)) := iv_up (S := (F_R_add ((F_R_add S (S 6 a1.toNatClampNeg) (S 7 a1.toNatClampNeg) (S 8 a1.toNatClampNeg) (a2 - 1)).2) (S 6 a1.toNatClampNeg) (S 7 a1.toNatClampNeg) a2 (((F_R_add S (S 6 a1.toNatClampNeg) (S 7 a1.toNatClampNeg) (S 8 a1.toNatClampNeg) (a2 - 1)).2) 9 a1.toNatClampNeg)).2) hI_19 10 a1.toNatClampNeg 0 (iv_one 10 (0) 1 rfl (by decide))
              refine lv_aload_n hx hb dX0_split_160 rfl (lv_at hl 4 rfl) ?_
              refine lv_iload_n hx hb dX0_split_161 rfl (lv_at hl 7 rfl) ?_
              refine wpf_27 (S := upS 10 a1.toNatClampNeg 0 ((F_R_add ((F_R_add S (S 6 a1.toNatClampNeg) (S 7 a1.toNatClampNeg) (S 8 a1.toNatClampNeg) (a2 - 1)).2) (S 6 a1.toNatClampNeg) (S 7 a1.toNatClampNeg) a2 (((F_R_add S (S 6 a1.toNatClampNeg) (S 7 a1.toNatClampNeg) (S 8 a1.toNatClampNeg) (a2 - 1)).2) 9 a1.toNatClampNeg)).2)) hx hb hB hown hK hP hD hS (hB _ k1_155) dX0_split_162 (fun H locs hP hD hS => ?_)
              have hI_22 : IV (upS 27 0 a3 (upS 10 a1.toNatClampNeg 0 ((F_R_add ((F_R_add S (S 6 a1.toNatClampNeg) (S 7 a1.toNatClampNeg) (S 8 a1.toNatClampNeg) (a2 - 1)).2) (S 6 a1.toNatClampNeg) (S 7 a1.toNatClampNeg) a2 (((F_R_add S (S 6 a1.toNatClampNeg) (S 7 a1.toNatClampNeg) (S 8 a1.toNatClampNeg) (a2 - 1)).2) 9 a1.toNatClampNeg)).2))) := iv_up (S := upS 10 a1.toNatClampNeg 0 ((F_R_add ((F_R_add S (S 6 a1.toNatClampNeg) (S 7 a1.toNatClampNeg) (S 8 a1.toNatClampNeg) (a2 - 1)).2) (S 6 a1.toNatClampNeg) (S 7 a1.toNatClampNeg) a2 (((F_R_add S (S 6 a1.toNatClampNeg) (S 7 a1.toNatClampNeg) (S 8 a1.toNatClampNeg) (a2 - 1)).2) 9 a1.toNatClampNeg)).2)) hI_21 27 0 a3 (iv_none 27 rfl)
              refine lv_aload_n hx hb dX0_split_165 rfl (lv_at hl 4 rfl) ?_
              refine lv_iload_n hx hb dX0_split_166 rfl (lv_at hl 5 rfl) ?_
              refine lv_iload hx hb dX0_split_167 (lv_at hl 1 rfl) ?_
              refine lv_iload hx hb dX0_split_169 (lv_at hl 0 rfl) ?_
              refine wr_call (va_runV (As := [.int a1, .int ((F_R_add S (S 6 a1.toNatClampNeg) (S 7 a1.toNatClampNeg) (S 8 a1.toNatClampNeg) (a2 - 1)).1), .int ((F_R_add ((F_R_add S (S 6 a1.toNatClampNeg) (S 7 a1.toNatClampNeg) (S 8 a1.toNatClampNeg) (a2 - 1)).2) (S 6 a1.toNatClampNeg) (S 7 a1.toNatClampNeg) a2 (((F_R_add S (S 6 a1.toNatClampNeg) (S 7 a1.toNatClampNeg) (S 8 a1.toNatClampNeg) (a2 - 1)).2) 9 a1.toNatClampNeg)).1)]) (rest := []) ⟨hx, hb, hml, hown, hB⟩ (m_A_giveToParts l D h cI cZ (upS 27 0 a3 (upS 10 a1.toNatClampNeg 0 ((F_R_add ((F_R_add S (S 6 a1.toNatClampNeg) (S 7 a1.toNatClampNeg) (S 8 a1.toNatClampNeg) (a2 - 1)).2) (S 6 a1.toNatClampNeg) (S 7 a1.toNatClampNeg) a2 (((F_R_add S (S 6 a1.toNatClampNeg) (S 7 a1.toNatClampNeg) (S 8 a1.toNatClampNeg) (a2 - 1)).2) 9 a1.toNatClampNeg)).2))) hI_22 a1 ((F_R_add S (S 6 a1.toNatClampNeg) (S 7 a1.toNatClampNeg) (S 8 a1.toNatClampNeg) (a2 - 1)).1) ((F_R_add ((F_R_add S (S 6 a1.toNatClampNeg) (S 7 a1.toNatClampNeg) (S 8 a1.toNatClampNeg) (a2 - 1)).2) (S 6 a1.toNatClampNeg) (S 7 a1.toNatClampNeg) a2 (((F_R_add S (S 6 a1.toNatClampNeg) (S 7 a1.toNatClampNeg) (S 8 a1.toNatClampNeg) (a2 - 1)).2) 9 a1.toNatClampNeg)).1) (by omega) (by omega)) (cwV 3 hB (gV k2_100 k2_102 ks_160 k1_1 k2_103) rfl rfl rfl (by decide +kernel) ⟨Nat.le_of_ble_eq_true rfl, Nat.le_of_ble_eq_true rfl⟩) ⟨wr_blind, va_recv hK hP (ci := 0) (q0 := 0) rfl rfl, wr_pre hP hK hN hD⟩ rfl rfl hl.1 rfl (lv_room (Nat.le_of_ble_eq_true rfl)) dX0_split_171 ⟨Nat.le_of_ble_eq_true rfl, Nat.le_of_ble_eq_true rfl⟩) hS (fun H locs hP hI_23 hS => ?_)
              have hD := wD (S2 := (F_A_giveToParts (upS 27 0 a3 (upS 10 a1.toNatClampNeg 0 ((F_R_add ((F_R_add S (S 6 a1.toNatClampNeg) (S 7 a1.toNatClampNeg) (S 8 a1.toNatClampNeg) (a2 - 1)).2) (S 6 a1.toNatClampNeg) (S 7 a1.toNatClampNeg) a2 (((F_R_add S (S 6 a1.toNatClampNeg) (S 7 a1.toNatClampNeg) (S 8 a1.toNatClampNeg) (a2 - 1)).2) 9 a1.toNatClampNeg)).2))) a1 ((F_R_add S (S 6 a1.toNatClampNeg) (S 7 a1.toNatClampNeg) (S 8 a1.toNatClampNeg) (a2 - 1)).1) ((F_R_add ((F_R_add S (S 6 a1.toNatClampNeg) (S 7 a1.toNatClampNeg) (S 8 a1.toNatClampNeg) (a2 - 1)).2) (S 6 a1.toNatClampNeg) (S 7 a1.toNatClampNeg) a2 (((F_R_add S (S 6 a1.toNatClampNeg) (S 7 a1.toNatClampNeg) (S 8 a1.toNatClampNeg) (a2 - 1)).2) 9 a1.toNatClampNeg)).1)).2) hD
              exact W.iret (v := (F_A_giveToParts (upS 27 0 a3 (upS 10 a1.toNatClampNeg 0 ((F_R_add ((F_R_add S (S 6 a1.toNatClampNeg) (S 7 a1.toNatClampNeg) (S 8 a1.toNatClampNeg) (a2 - 1)).2) (S 6 a1.toNatClampNeg) (S 7 a1.toNatClampNeg) a2 (((F_R_add S (S 6 a1.toNatClampNeg) (S 7 a1.toNatClampNeg) (S 8 a1.toNatClampNeg) (a2 - 1)).2) 9 a1.toNatClampNeg)).2))) a1 ((F_R_add S (S 6 a1.toNatClampNeg) (S 7 a1.toNatClampNeg) (S 8 a1.toNatClampNeg) (a2 - 1)).1) ((F_R_add ((F_R_add S (S 6 a1.toNatClampNeg) (S 7 a1.toNatClampNeg) (S 8 a1.toNatClampNeg) (a2 - 1)).2) (S 6 a1.toNatClampNeg) (S 7 a1.toNatClampNeg) a2 (((F_R_add S (S 6 a1.toNatClampNeg) (S 7 a1.toNatClampNeg) (S 8 a1.toNatClampNeg) (a2 - 1)).2) 9 a1.toNatClampNeg)).1)).1) hx hb hr (fun t ht hW => ⟨⟨(F_A_giveToParts (upS 27 0 a3 (upS 10 a1.toNatClampNeg 0 ((F_R_add ((F_R_add S (S 6 a1.toNatClampNeg) (S 7 a1.toNatClampNeg) (S 8 a1.toNatClampNeg) (a2 - 1)).2) (S 6 a1.toNatClampNeg) (S 7 a1.toNatClampNeg) a2 (((F_R_add S (S 6 a1.toNatClampNeg) (S 7 a1.toNatClampNeg) (S 8 a1.toNatClampNeg) (a2 - 1)).2) 9 a1.toNatClampNeg)).2))) a1 ((F_R_add S (S 6 a1.toNatClampNeg) (S 7 a1.toNatClampNeg) (S 8 a1.toNatClampNeg) (a2 - 1)).1) ((F_R_add ((F_R_add S (S 6 a1.toNatClampNeg) (S 7 a1.toNatClampNeg) (S 8 a1.toNatClampNeg) (a2 - 1)).2) (S 6 a1.toNatClampNeg) (S 7 a1.toNatClampNeg) a2 (((F_R_add S (S 6 a1.toNatClampNeg) (S 7 a1.toNatClampNeg) (S 8 a1.toNatClampNeg) (a2 - 1)).2) 9 a1.toNatClampNeg)).1)).1, (F_A_giveToParts (upS 27 0 a3 (upS 10 a1.toNatClampNeg 0 ((F_R_add ((F_R_add S (S 6 a1.toNatClampNeg) (S 7 a1.toNatClampNeg) (S 8 a1.toNatClampNeg) (a2 - 1)).2) (S 6 a1.toNatClampNeg) (S 7 a1.toNatClampNeg) a2 (((F_R_add S (S 6 a1.toNatClampNeg) (S 7 a1.toNatClampNeg) (S 8 a1.toNatClampNeg) (a2 - 1)).2) 9 a1.toNatClampNeg)).2))) a1 ((F_R_add S (S 6 a1.toNatClampNeg) (S 7 a1.toNatClampNeg) (S 8 a1.toNatClampNeg) (a2 - 1)).1) ((F_R_add ((F_R_add S (S 6 a1.toNatClampNeg) (S 7 a1.toNatClampNeg) (S 8 a1.toNatClampNeg) (a2 - 1)).2) (S 6 a1.toNatClampNeg) (S 7 a1.toNatClampNeg) a2 (((F_R_add S (S 6 a1.toNatClampNeg) (S 7 a1.toNatClampNeg) (S 8 a1.toNatClampNeg) (a2 - 1)).2) 9 a1.toNatClampNeg)).1)).2, rfl, ⟨(by rw [F_A_split, if_neg c_2, if_neg c_4, if_neg c_6, if_pos c_8, if_neg c_10, if_neg c_12]), hI_23⟩, by show va_P D vwCl _ t.heap; rw [ht]; exact hP⟩, hS.F ht⟩) hS.2.2 dX0_split_174
            · skip
              refine lv_bipush (v := (-14)) hx hb dX0_split_77 (by decide) ?_
              exact W.iret (v := (-14)) hx hb hr (fun t ht hW => ⟨⟨(-14), S, rfl, ⟨(by rw [F_A_split, if_neg c_2, if_neg c_4, if_neg c_6, if_pos c_8, if_neg c_10, if_pos c_12]), hI⟩, by show va_P D vwCl _ t.heap; rw [ht]; exact hP⟩, hS.F ht⟩) hS.2.2 dX0_split_79
          · skip
            have z_0 : ((0) : Int32).toInt = (0) := by decide
            have t_10 := Int32.toInt_inj.symm.mp c_10
            refine lv_bipush (v := (-13)) hx hb dX0_split_63 (by decide) ?_
            exact W.iret (v := (-13)) hx hb hr (fun t ht hW => ⟨⟨(-13), S, rfl, ⟨(by rw [F_A_split, if_neg c_2, if_neg c_4, if_neg c_6, if_pos c_8, if_pos c_10]), hI⟩, by show va_P D vwCl _ t.heap; rw [ht]; exact hP⟩, hS.F ht⟩) hS.2.2 dX0_split_65
        · skip
          have t_8 := mt Int32.le_iff_toInt_le.mpr c_8
          refine lv_bipush (v := (-12)) hx hb dX0_split_48 (by decide) ?_
          exact W.iret (v := (-12)) hx hb hr (fun t ht hW => ⟨⟨(-12), S, rfl, ⟨(by rw [F_A_split, if_neg c_2, if_neg c_4, if_neg c_6, if_neg c_8]), hI⟩, by show va_P D vwCl _ t.heap; rw [ht]; exact hP⟩, hS.F ht⟩) hS.2.2 dX0_split_50
  · skip
    refine lv_bipush (v := (-11)) hx hb dX0_split_11 (by decide) ?_
    exact W.iret (v := (-11)) hx hb hr (fun t ht hW => ⟨⟨(-11), S, rfl, ⟨(by rw [F_A_split, if_pos c_2]), hI⟩, by show va_P D vwCl _ t.heap; rw [ht]; exact hP⟩, hS.F ht⟩) hS.2.2 dX0_split_13
set_option maxHeartbeats 4000000 in
set_option maxRecDepth 100000 in
theorem m_A_isLiveOf (l : Launch) (D : va_G) (h : Nat → Nat) (cI cZ : ClassId) (S : BS) (hI : IV S) (a1 a2 : Int32) (ha0 : 0 ≤ a1.toInt ∧ a1.toInt ≤ 119) : PM l yX0_isLiveOf wsX0_isLiveOf { frames := 0, cells := 0, slots := 0, locals := 0 } D cI cZ h S [.ref (h 0), .int a1, .int a2] (f_A_isLiveOf S a1 a2) := by
  refine Met.ofW (cc := cX0_isLiveOf) (maxL := 3) (ret := (some .boolean)) (by decide) rfl ?_
  intro p e s m args below meth c s₁ B hml hv
  obtain ⟨rfl, hP, hK, hN⟩ := hv
  have hx := B.exec
  have hb := B.bytes
  have hr := B.returns
  have hts := atoms_spec (ws := wsX0_isLiveOf) B.pre
  have hB : ∀ w ∈ BW, w.before _ s = true := fun w h => hts w (List.mem_cons_of_mem _ h)
  have hown : s.vm.findClass RX0 = some m.cls := findClass_of_methodNamed B.named
  have hlocks := B.notSynchronized
  have hS : va_S (fun _ => False) s.heap s.heap [] := va_S.rf
  have hl := lv_entry ([.ref (h 0), .int a1, .int a2]) (n := 3) (Nat.le_of_ble_eq_true rfl)
  rw [lg_entry_eq]
  generalize (lg_sl ([.ref (h 0), .int a1, .int a2]) ++ List.replicate (3 - (lg_sl ([.ref (h 0), .int a1, .int a2])).length) Slot.unset).toArray = ls at hl ⊢
  have hl : lv_has ls 3 [(0, .ref (h 0)), (1, .int a1), (2, .int a2)] := hl
  refine lv_aload_n hx hb dX0_isLiveOf_0 rfl (lv_at hl 0 rfl) ?_
  refine va_get (D := D) (ci := 0) (v := .ref (h 4)) (C := RX0) (T := TX0) (N := 7) hx hb hB inX0 hown hK hP 0 rfl rfl 3 (by decide) (hB _ k1_152) (fun _ h9 => h9) rfl dX0_isLiveOf_1 ?_
  refine va_getN (D := D) (ci := 4) (v := .ref (h 21)) (C := RX4) (T := TX4) (N := 6) hx hb hB inX4 hown hK hP 4 rfl rfl 4 (by decide) (va_Nw.use rfl (hN _ kn_19)) (fun _ h9 => h9) rfl dX0_isLiveOf_4 ?_
  refine lv_iload_n hx hb dX0_isLiveOf_7 rfl (lv_at hl 1 rfl) ?_
  refine va_zald (f := S 15) hx hb hK hP 21 1 rfl rfl (vp_in_iff.mpr (by omega)) dX0_isLiveOf_8 ?_
  have b_1 : (0) ≤ (S 15 a1.toNatClampNeg).toInt ∧ (S 15 a1.toNatClampNeg).toInt ≤ 1 := iv_15 (S := S) hI a1.toNatClampNeg
  refine lv_if_eq (tgt := 37) hx hb dX0_isLiveOf_9 (by decide) (fun c_2 => ?_) (fun c_2 => ?_)
  · skip
    have z_0 : ((0) : Int32).toInt = (0) := by decide
    have t_2 := Int32.toInt_inj.symm.mp c_2
    refine lv_iconst (v := 0) hx hb dX0_isLiveOf_37 (by decide) ?_
    exact W.zret (v := 0) hx hb hr (by decide) (fun t ht hW => ⟨⟨0, (), rfl, (by rw [f_A_isLiveOf, if_pos c_2]), trivial⟩, hS.F ht⟩) hS.2.2 dX0_isLiveOf_38
  · skip
    have z_0 : ((0) : Int32).toInt = (0) := by decide
    have t_2 := mt Int32.toInt_inj.mp c_2
    refine lv_aload_n hx hb dX0_isLiveOf_12 rfl (lv_at hl 0 rfl) ?_
    refine va_get (D := D) (ci := 0) (v := .ref (h 3)) (C := RX0) (T := TX0) (N := 7) hx hb hB inX0 hown hK hP 0 rfl rfl 2 (by decide) (hB _ k1_151) (fun _ h9 => h9) rfl dX0_isLiveOf_13 ?_
    refine va_getN (D := D) (ci := 3) (v := .ref (h 12)) (C := RX3) (T := TX3) (N := 6) hx hb hB inX3 hown hK hP 3 rfl rfl 0 (by decide) (va_Nw.use rfl (hN _ kn_27)) (fun _ h9 => h9) rfl dX0_isLiveOf_16 ?_
    refine lv_aload_n hx hb dX0_isLiveOf_19 rfl (lv_at hl 0 rfl) ?_
    refine va_get (D := D) (ci := 0) (v := .ref (h 4)) (C := RX0) (T := TX0) (N := 7) hx hb hB inX0 hown hK hP 0 rfl rfl 3 (by decide) (hB _ k1_152) (fun _ h9 => h9) rfl dX0_isLiveOf_20 ?_
    refine va_getN (D := D) (ci := 4) (v := .ref (h 17)) (C := RX4) (T := TX4) (N := 6) hx hb hB inX4 hown hK hP 4 rfl rfl 0 (by decide) (va_Nw.use rfl (hN _ kn_20)) (fun _ h9 => h9) rfl dX0_isLiveOf_23 ?_
    refine lv_iload_n hx hb dX0_isLiveOf_26 rfl (lv_at hl 1 rfl) ?_
    refine va_iald (f := S 11) hx hb hK hP 17 0 rfl rfl (vp_in_iff.mpr (by omega)) dX0_isLiveOf_27 ?_
    have b_3 : (0) ≤ (S 11 a1.toNatClampNeg).toInt ∧ (S 11 a1.toNatClampNeg).toInt ≤ 79 := iv_11 (S := S) hI a1.toNatClampNeg
    refine va_iald (f := S 6) hx hb hK hP 12 0 rfl rfl (vp_in_iff.mpr (by omega)) dX0_isLiveOf_28 ?_
    have b_4 : (0) ≤ (S 6 (S 11 a1.toNatClampNeg).toNatClampNeg).toInt ∧ (S 6 (S 11 a1.toNatClampNeg).toNatClampNeg).toInt ≤ 31 := iv_6 (S := S) hI ((S 11 a1.toNatClampNeg).toNatClampNeg)
    refine lv_iload_n hx hb dX0_isLiveOf_29 rfl (lv_at hl 2 rfl) ?_
    refine lv_icmp_ne (tgt := 37) hx hb dX0_isLiveOf_30 (by decide) (fun c_5 => ?_) (fun c_5 => ?_)
    · skip
      refine lv_iconst (v := 0) hx hb dX0_isLiveOf_37 (by decide) ?_
      exact W.zret (v := 0) hx hb hr (by decide) (fun t ht hW => ⟨⟨0, (), rfl, (by rw [f_A_isLiveOf, if_neg c_2, if_neg c_5]), trivial⟩, hS.F ht⟩) hS.2.2 dX0_isLiveOf_38
    · skip
      refine lv_iconst (v := 1) hx hb dX0_isLiveOf_33 (by decide) ?_
      refine lv_goto (tgt := 38) hx hb dX0_isLiveOf_34 (by decide) ?_
      exact W.zret (v := 1) hx hb hr (by decide) (fun t ht hW => ⟨⟨1, (), rfl, (by rw [f_A_isLiveOf, if_neg c_2, if_pos c_5]), trivial⟩, hS.F ht⟩) hS.2.2 dX0_isLiveOf_38
