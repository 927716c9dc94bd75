set_option maxHeartbeats 4000000 in
set_option maxRecDepth 100000 in
theorem m_A_isDay (l : Launch) (D : va_G) (h : Nat → Nat) (cI cZ : ClassId) (S : BS) (hI : IV S) (a1 : Int32) : PM l yX0_isDay wsX0_isDay { frames := 1, cells := 0, slots := 0, locals := 22 } D cI cZ h S [.int a1] (f_A_isDay a1) := by
  refine Met.ofW (cc := cX0_isDay) (maxL := 1) (ret := (some .boolean)) (by decide) rfl ?_
  intro p e s m args below meth c s₁ B hml hv
  obtain ⟨rfl, hP, hK, hN⟩ := hv
  have hx := B.exec
  have hb := B.bytes
  have hr := B.returns
  have hts := atoms_spec (ws := wsX0_isDay) B.pre
  have hB : ∀ w ∈ BW, w.before _ s = true := fun w h => hts w (List.mem_cons_of_mem _ h)
  have hown : s.vm.findClass RX0 = some m.cls := findClass_of_methodNamed B.named
  have hlocks := B.notSynchronized
  have hS : va_S (fun _ => False) s.heap s.heap [] := va_S.rf
  have hl := lv_entry ([.int a1]) (n := 1) (Nat.le_of_ble_eq_true rfl)
  rw [lg_entry_eq]
  generalize (lg_sl ([.int a1]) ++ List.replicate (1 - (lg_sl ([.int a1])).length) Slot.unset).toArray = ls at hl ⊢
  have hl : lv_has ls 1 [(0, .int a1)] := hl
  refine lv_iload_n hx hb dX0_isDay_0 rfl (lv_at hl 0 rfl) ?_
  refine lv_iconst (v := 0) hx hb dX0_isDay_1 (by decide) ?_
  refine lv_ldcw (v := 1000000) hx hb hown (hB _ k2_5) dX0_isDay_2 ?_
  refine pu_call (va_runS (As := [.int a1, .int 0, .int 1000000]) (rest := []) ⟨hx, hb, hml, hown, hB⟩ (m_A_isWithin l D h cI cZ S hI a1 0 1000000 ) (cwS 3 hB (gS k1_176 k1_177 k1_1 k1_178) rfl rfl rfl (by decide +kernel) ⟨Nat.le_of_ble_eq_true rfl, Nat.le_of_ble_eq_true rfl⟩) ⟨pu_blind, pu_pre hP hK hN⟩ rfl rfl hl.1 rfl (lv_room (Nat.le_of_ble_eq_true rfl)) dX0_isDay_5 ⟨Nat.le_of_ble_eq_true rfl, Nat.le_of_ble_eq_true rfl⟩) hP hS (fun H locs hP hS => ?_)
  exact W.zret (v := f_A_isWithin a1 0 1000000) hx hb hr (nb01 (z01_A_isWithin)) (fun t ht hW => ⟨⟨f_A_isWithin a1 0 1000000, (), rfl, (by rw [f_A_isDay]), trivial⟩, hS.F ht⟩) hS.2.2 dX0_isDay_8
set_option maxHeartbeats 4000000 in
set_option maxRecDepth 100000 in
theorem m_A_isStayAt (l : Launch) (D : va_G) (h : Nat → Nat) (cI cZ : ClassId) (S : BS) (hI : IV S) (a1 a2 a3 a4 a5 : Int32) (ha0 : 0 ≤ a1.toInt ∧ a1.toInt ≤ 511) : PM l yX0_isStayAt wsX0_isStayAt { frames := 1, cells := 0, slots := 0, locals := 24 } D cI cZ h S [.ref (h 0), .int a1, .int a2, .int a3, .int a4, .int a5] (f_A_isStayAt S a1 a2 a3 a4 a5) := by
  refine Met.ofW (cc := cX0_isStayAt) (maxL := 7) (ret := (some .boolean)) (by decide) rfl ?_
  intro p e s m args below meth c s₁ B hml hv
  obtain ⟨rfl, hP, hK, hN⟩ := hv
  have hx := B.exec
  have hb := B.bytes
  have hr := B.returns
  have hts := atoms_spec (ws := wsX0_isStayAt) B.pre
  have hB : ∀ w ∈ BW, w.before _ s = true := fun w h => hts w (List.mem_cons_of_mem _ h)
  have hown : s.vm.findClass RX0 = some m.cls := findClass_of_methodNamed B.named
  have hlocks := B.notSynchronized
  have hS : va_S (fun _ => False) s.heap s.heap [] := va_S.rf
  have hl := lv_entry ([.ref (h 0), .int a1, .int a2, .int a3, .int a4, .int a5]) (n := 7) (Nat.le_of_ble_eq_true rfl)
  rw [lg_entry_eq]
  generalize (lg_sl ([.ref (h 0), .int a1, .int a2, .int a3, .int a4, .int a5]) ++ List.replicate (7 - (lg_sl ([.ref (h 0), .int a1, .int a2, .int a3, .int a4, .int a5])).length) Slot.unset).toArray = ls at hl ⊢
  have hl : lv_has ls 7 [(0, .ref (h 0)), (1, .int a1), (2, .int a2), (3, .int a3), (4, .int a4), (5, .int a5)] := hl
  refine lv_aload_n hx hb dX0_isStayAt_0 rfl (lv_at hl 0 rfl) ?_
  refine va_get (D := D) (ci := 0) (v := .ref (h 5)) (C := RX0) (T := TX0) (N := 7) hx hb hB inX0 hown hK hP 0 rfl rfl 4 (by decide) (hB _ k1_153) (fun _ h9 => h9) rfl dX0_isStayAt_1 ?_
  refine va_getN (D := D) (ci := 5) (v := .ref (h 22)) (C := RX5) (T := TX5) (N := 6) hx hb hB inX5 hown hK hP 5 rfl rfl 0 (by decide) (va_Nw.use rfl (hN _ kn_41)) (fun _ h9 => h9) rfl dX0_isStayAt_4 ?_
  refine lv_iload_n hx hb dX0_isStayAt_7 rfl (lv_at hl 1 rfl) ?_
  refine va_iald (f := S 16) hx hb hK hP 22 0 rfl rfl (vp_in_iff.mpr (by omega)) dX0_isStayAt_8 ?_
  have b_1 : (0) ≤ (S 16 a1.toNatClampNeg).toInt ∧ (S 16 a1.toNatClampNeg).toInt ≤ 119 := iv_16 (S := S) hI a1.toNatClampNeg
  refine lv_istore (lv' := [(6, .int (S 16 a1.toNatClampNeg)), (0, .ref (h 0)), (1, .int a1), (2, .int a2), (3, .int a3), (4, .int a4), (5, .int a5)]) hx hb dX0_isStayAt_9 hl (by decide) rfl (fun ls hl => ?_)
  refine lv_aload_n hx hb dX0_isStayAt_11 rfl (lv_at hl 1 rfl) ?_
  refine va_get (D := D) (ci := 0) (v := .ref (h 5)) (C := RX0) (T := TX0) (N := 7) hx hb hB inX0 hown hK hP 0 rfl rfl 4 (by decide) (hB _ k1_153) (fun _ h9 => h9) rfl dX0_isStayAt_12 ?_
  refine va_getN (D := D) (ci := 5) (v := .ref (h 23)) (C := RX5) (T := TX5) (N := 6) hx hb hB inX5 hown hK hP 5 rfl rfl 1 (by decide) (va_Nw.use rfl (hN _ kn_16)) (fun _ h9 => h9) rfl dX0_isStayAt_15 ?_
  refine lv_iload_n hx hb dX0_isStayAt_18 rfl (lv_at hl 2 rfl) ?_
  refine va_iald (f := S 17) hx hb hK hP 23 0 rfl rfl (vp_in_iff.mpr (by omega)) dX0_isStayAt_19 ?_
  have b_2 : (0) ≤ (S 17 a1.toNatClampNeg).toInt ∧ (S 17 a1.toNatClampNeg).toInt ≤ 999 := iv_17 (S := S) hI a1.toNatClampNeg
  refine lv_iload_n hx hb dX0_isStayAt_20 rfl (lv_at hl 4 rfl) ?_
  refine lv_icmp_ne (tgt := 66) hx hb dX0_isStayAt_21 (by decide) (fun c_3 => ?_) (fun c_3 => ?_)
  · skip
    refine lv_iconst (v := 0) hx hb dX0_isStayAt_66 (by decide) ?_
    exact W.zret (v := 0) hx hb hr (by decide) (fun t ht hW => ⟨⟨0, (), rfl, (by rw [f_A_isStayAt, if_neg c_3]), trivial⟩, hS.F ht⟩) hS.2.2 dX0_isStayAt_67
  · skip
    refine lv_aload_n hx hb dX0_isStayAt_24 rfl (lv_at hl 1 rfl) ?_
    refine va_get (D := D) (ci := 0) (v := .ref (h 4)) (C := RX0) (T := TX0) (N := 7) hx hb hB inX0 hown hK hP 0 rfl rfl 3 (by decide) (hB _ k1_152) (fun _ h9 => h9) rfl dX0_isStayAt_25 ?_
    refine va_getN (D := D) (ci := 4) (v := .ref (h 19)) (C := RX4) (T := TX4) (N := 6) hx hb hB inX4 hown hK hP 4 rfl rfl 2 (by decide) (va_Nw.use rfl (hN _ kn_21)) (fun _ h9 => h9) rfl dX0_isStayAt_28 ?_
    refine lv_iload hx hb dX0_isStayAt_31 (lv_at hl 0 rfl) ?_
    refine va_iald (f := S 13) hx hb hK hP 19 0 rfl rfl (vp_in_iff.mpr (by omega)) dX0_isStayAt_33 ?_
    refine lv_iload hx hb dX0_isStayAt_34 (lv_at hl 5 rfl) ?_
    refine lv_icmp_ne (tgt := 66) hx hb dX0_isStayAt_36 (by decide) (fun c_4 => ?_) (fun c_4 => ?_)
    · skip
      refine lv_iconst (v := 0) hx hb dX0_isStayAt_66 (by decide) ?_
      exact W.zret (v := 0) hx hb hr (by decide) (fun t ht hW => ⟨⟨0, (), rfl, (by rw [f_A_isStayAt, if_pos c_3, if_neg c_4]), trivial⟩, hS.F ht⟩) hS.2.2 dX0_isStayAt_67
    · skip
      refine lv_aload_n hx hb dX0_isStayAt_39 rfl (lv_at hl 1 rfl) ?_
      refine va_get (D := D) (ci := 0) (v := .ref (h 2)) (C := RX0) (T := TX0) (N := 7) hx hb hB inX0 hown hK hP 0 rfl rfl 1 (by decide) (hB _ k1_150) (fun _ h9 => h9) rfl dX0_isStayAt_40 ?_
      refine lv_aload_n hx hb dX0_isStayAt_43 rfl (lv_at hl 1 rfl) ?_
      refine va_get (D := D) (ci := 0) (v := .ref (h 4)) (C := RX0) (T := TX0) (N := 7) hx hb hB inX0 hown hK hP 0 rfl rfl 3 (by decide) (hB _ k1_152) (fun _ h9 => h9) rfl dX0_isStayAt_44 ?_
      refine va_getN (D := D) (ci := 4) (v := .ref (h 18)) (C := RX4) (T := TX4) (N := 6) hx hb hB inX4 hown hK hP 4 rfl rfl 1 (by decide) (va_Nw.use rfl (hN _ kn_42)) (fun _ h9 => h9) rfl dX0_isStayAt_47 ?_
      refine lv_iload hx hb dX0_isStayAt_50 (lv_at hl 0 rfl) ?_
      refine va_iald (f := S 12) hx hb hK hP 18 0 rfl rfl (vp_in_iff.mpr (by omega)) dX0_isStayAt_52 ?_
      have b_5 : (0) ≤ (S 12 (S 16 a1.toNatClampNeg).toNatClampNeg).toInt ∧ (S 12 (S 16 a1.toNatClampNeg).toNatClampNeg).toInt ≤ 31 := iv_12 (S := S) hI ((S 16 a1.toNatClampNeg).toNatClampNeg)
      refine lv_iload hx hb dX0_isStayAt_53 (lv_at hl 6 rfl) ?_
      refine pu_call (va_runVN (As := [.int (S 12 (S 16 a1.toNatClampNeg).toNatClampNeg), .int a5]) (rest := []) ⟨hx, hb, hml, hown, hB⟩ (m_T_meaning l D h cI cZ S hI (S 12 (S 16 a1.toNatClampNeg).toNatClampNeg) a5 (by omega)) ⟨va_cnB 2 hB (gB k2_152) rfl rfl rfl (hN _ kn_40) (hB _ k1_3) (by decide +kernel) ⟨Nat.le_of_ble_eq_true rfl, Nat.le_of_ble_eq_true rfl⟩, hB _ k2_151, hB _ ks_206⟩ ⟨pu_blind, va_recv hK hP (ci := 2) (q0 := 2) rfl rfl, pu_pre hP hK hN⟩ rfl rfl hl.1 rfl (lv_room (Nat.le_of_ble_eq_true rfl)) dX0_isStayAt_55 ⟨Nat.le_of_ble_eq_true rfl, Nat.le_of_ble_eq_true rfl⟩) hP hS (fun H locs hP hS => ?_)
      refine lv_iload_n hx hb dX0_isStayAt_58 rfl (lv_at hl 3 rfl) ?_
      refine lv_icmp_ne (tgt := 66) hx hb dX0_isStayAt_59 (by decide) (fun c_7 => ?_) (fun c_7 => ?_)
      · skip
        refine lv_iconst (v := 0) hx hb dX0_isStayAt_66 (by decide) ?_
        exact W.zret (v := 0) hx hb hr (by decide) (fun t ht hW => ⟨⟨0, (), rfl, (by rw [f_A_isStayAt, if_pos c_3, if_pos c_4, if_neg c_7]), trivial⟩, hS.F ht⟩) hS.2.2 dX0_isStayAt_67
      · skip
        refine lv_iconst (v := 1) hx hb dX0_isStayAt_62 (by decide) ?_
        refine lv_goto (tgt := 67) hx hb dX0_isStayAt_63 (by decide) ?_
        exact W.zret (v := 1) hx hb hr (by decide) (fun t ht hW => ⟨⟨1, (), rfl, (by rw [f_A_isStayAt, if_pos c_3, if_pos c_4, if_pos c_7]), trivial⟩, hS.F ht⟩) hS.2.2 dX0_isStayAt_67
set_option maxHeartbeats 4000000 in
set_option maxRecDepth 100000 in
theorem m_A_lyingAt (l : Launch) (D : va_G) (h : Nat → Nat) (cI cZ : ClassId) (S : BS) (hI : IV S) (a1 a2 a3 a4 : Int32) : PM l yX0_lyingAt wsX0_lyingAt { frames := 2, cells := 0, slots := 0, locals := 50 } D cI cZ h S [.ref (h 0), .int a1, .int a2, .int a3, .int a4] (f_A_lyingAt S a1 a2 a3 a4) := by
  refine Met.ofW (cc := cX0_lyingAt) (maxL := 6) (ret := (some .int)) (by decide) rfl ?_
  intro p e s m args below meth c s₁ B hml hv
  obtain ⟨rfl, hP, hK, hN⟩ := hv
  have hx := B.exec
  have hb := B.bytes
  have hr := B.returns
  have hts := atoms_spec (ws := wsX0_lyingAt) B.pre
  have hB : ∀ w ∈ BW, w.before _ s = true := fun w h => hts w (List.mem_cons_of_mem _ h)
  have hown : s.vm.findClass RX0 = some m.cls := findClass_of_methodNamed B.named
  have hlocks := B.notSynchronized
  have hS : va_S (fun _ => False) s.heap s.heap [] := va_S.rf
  have hl := lv_entry ([.ref (h 0), .int a1, .int a2, .int a3, .int a4]) (n := 6) (Nat.le_of_ble_eq_true rfl)
  rw [lg_entry_eq]
  generalize (lg_sl ([.ref (h 0), .int a1, .int a2, .int a3, .int a4]) ++ List.replicate (6 - (lg_sl ([.ref (h 0), .int a1, .int a2, .int a3, .int a4])).length) Slot.unset).toArray = ls at hl ⊢
  have hl : lv_has ls 6 [(0, .ref (h 0)), (1, .int a1), (2, .int a2), (3, .int a3), (4, .int a4)] := hl
  refine lv_iconst (v := 0) hx hb dX0_lyingAt_0 (by decide) ?_
  refine lv_istore (lv' := [(5, .int 0), (0, .ref (h 0)), (1, .int a1), (2, .int a2), (3, .int a3), (4, .int a4)]) hx hb dX0_lyingAt_1 hl (by decide) rfl (fun ls hl => ?_)
  have loop3 : ∀ (n : Nat) (x5 : Int32) (H : Heap) (locs : List Loc) (ls : Array Slot), (0 ≤ x5.toInt ∧ x5.toInt ≤ (S 26 0 : Int32).toInt ∧ (S 26 0 : Int32).toInt - x5.toInt < (n : Int) ∧ True) → l_A_lyingAt_3 S a1 a2 a3 a4 n x5 = f_A_lyingAt S a1 a2 a3 a4 → va_P D vwCl (wB h cI cZ S) H → va_S (fun _ => False) s.heap H locs → lv_has ls 6 [(0, .ref (h 0)), (1, .int a1), (2, .int a2), (3, .int a3), (4, .int a4), (5, .int x5)] → W p l e (headSpec wsX0_lyingAt { frames := 2, cells := 0, slots := 0, locals := 50 }).room s m ([.ref (h 0), .int a1, .int a2, .int a3, .int a4]).toArray below meth c H locs 0 0 (MQ below (PQ (f_A_lyingAt S a1 a2 a3 a4)) ([.ref (h 0), .int a1, .int a2, .int a3, .int a4]).toArray s 0 0 (fun _ => False)) (F0 m 3 ls []) := by
    intro n
    induction n with
    | zero =>
      intro x5 H locs ls hinv he hP hS hl
      obtain ⟨h0, hle, hm, hex⟩ := hinv
      exact absurd hm (by omega)
    | succ n ih =>
      intro x5 H locs ls hinv he hP hS hl
      obtain ⟨h0, hle, hm, hex⟩ := hinv
      have hBd := iv_26 hI
      refine lv_iload hx hb dX0_lyingAt_3 (lv_at hl 5 rfl) ?_
      refine lv_aload_n hx hb dX0_lyingAt_5 rfl (lv_at hl 0 rfl) ?_
      refine va_get (D := D) (ci := 0) (v := .ref (h 5)) (C := RX0) (T := TX0) (N := 7) hx hb hB inX0 hown hK hP 0 rfl rfl 4 (by decide) (hB _ k1_153) (fun _ h9 => h9) rfl dX0_lyingAt_6 ?_
      refine va_getN (D := D) (ci := 5) (v := .int (S 26 0)) (C := RX5) (T := TX5) (N := 6) hx hb hB inX5 hown hK hP 5 rfl rfl 5 (by decide) (va_Nw.use rfl (hN _ kn_43)) (fun _ h9 => h9) rfl dX0_lyingAt_9 ?_
      have b_1 : (0) ≤ (S 26 0).toInt ∧ (S 26 0).toInt ≤ 512 := iv_26 (S := S) hI
      refine lv_icmp_ge (tgt := 60) hx hb dX0_lyingAt_12 (by decide) (fun c_2 => ?_) (fun c_2 => ?_)
      · skip
        have t_2 := Int32.le_iff_toInt_le.mp c_2
        refine lv_iconst (v := (-1)) hx hb dX0_lyingAt_60 (by decide) ?_
        exact W.iret (v := (-1)) hx hb hr (fun t ht hW => ⟨⟨(-1), (), rfl, (by rw [← he, l_A_lyingAt_3, if_pos c_2]), trivial⟩, hS.F ht⟩) hS.2.2 dX0_lyingAt_61
      · skip
        have t_2 := mt Int32.le_iff_toInt_le.mpr c_2
        refine lv_aload_n hx hb dX0_lyingAt_15 rfl (lv_at hl 0 rfl) ?_
        refine va_get (D := D) (ci := 0) (v := .ref (h 5)) (C := RX0) (T := TX0) (N := 7) hx hb hB inX0 hown hK hP 0 rfl rfl 4 (by decide) (hB _ k1_153) (fun _ h9 => h9) rfl dX0_lyingAt_16 ?_
        refine lv_iload hx hb dX0_lyingAt_19 (lv_at hl 5 rfl) ?_
        refine lv_iload hx hb dX0_lyingAt_21 (lv_at hl 4 rfl) ?_
        refine pu_call (va_runVN (As := [.int x5, .int a4]) (rest := []) ⟨hx, hb, hml, hown, hB⟩ (m_Y_holdsOn l D h cI cZ S hI x5 a4 (by omega)) ⟨va_cnB 2 hB (gB k2_167) rfl rfl rfl (hN _ kn_44) (hB _ k1_6) (by decide +kernel) ⟨Nat.le_of_ble_eq_true rfl, Nat.le_of_ble_eq_true rfl⟩, hB _ k2_166, hB _ ks_62⟩ ⟨pu_blind, va_recv hK hP (ci := 5) (q0 := 5) rfl rfl, pu_pre hP hK hN⟩ rfl rfl hl.1 rfl (lv_room (Nat.le_of_ble_eq_true rfl)) dX0_lyingAt_23 ⟨Nat.le_of_ble_eq_true rfl, Nat.le_of_ble_eq_true rfl⟩) hP hS (fun H locs hP hS => ?_)
        refine lv_if_eq (tgt := 54) hx hb dX0_lyingAt_26 (by decide) (fun c_4 => ?_) (fun c_4 => ?_)
        · skip
          refine lv_iinc (v := x5 + 1) (lv' := [(5, .int (x5 + 1)), (0, .ref (h 0)), (1, .int a1), (2, .int a2), (3, .int a3), (4, .int a4)]) hx hb dX0_lyingAt_54 hl (k := 5) rfl rfl (by decide) rfl (fun ls hl => ?_)
          refine lv_goto (tgt := 3) hx hb dX0_lyingAt_57 (by decide) ?_
          have hinc := i32_inc (x := x5) h0 (by omega)
          exact ih (x5 + 1) _ _ _ ⟨by omega, by omega, by omega, trivial⟩ (by rw [← he, l_A_lyingAt_3, if_neg c_2, if_pos c_4]) hP hS (lv_sub hl [1, 2, 3, 4, 5, 0] rfl)
        · skip
          refine lv_aload_n hx hb dX0_lyingAt_29 rfl (lv_at hl 0 rfl) ?_
          refine lv_iload hx hb dX0_lyingAt_30 (lv_at hl 5 rfl) ?_
          refine lv_iload_n hx hb dX0_lyingAt_32 rfl (lv_at hl 1 rfl) ?_
          refine lv_iload_n hx hb dX0_lyingAt_33 rfl (lv_at hl 2 rfl) ?_
          refine lv_iload_n hx hb dX0_lyingAt_34 rfl (lv_at hl 3 rfl) ?_
          refine lv_iload hx hb dX0_lyingAt_35 (lv_at hl 4 rfl) ?_
          refine pu_call (va_runV (As := [.int x5, .int a1, .int a2, .int a3, .int a4]) (rest := []) ⟨hx, hb, hml, hown, hB⟩ (m_A_isStayAt l D h cI cZ S hI x5 a1 a2 a3 a4 (by omega)) (cwV 5 hB (gV k2_168 k2_170 ks_210 k1_1 k2_171) rfl rfl rfl (by decide +kernel) ⟨Nat.le_of_ble_eq_true rfl, Nat.le_of_ble_eq_true rfl⟩) ⟨pu_blind, va_recv hK hP (ci := 0) (q0 := 0) rfl rfl, pu_pre hP hK hN⟩ rfl rfl hl.1 rfl (lv_room (Nat.le_of_ble_eq_true rfl)) dX0_lyingAt_37 ⟨Nat.le_of_ble_eq_true rfl, Nat.le_of_ble_eq_true rfl⟩) hP hS (fun H locs hP hS => ?_)
          refine lv_if_eq (tgt := 54) hx hb dX0_lyingAt_40 (by decide) (fun c_6 => ?_) (fun c_6 => ?_)
          · skip
            refine lv_iinc (v := x5 + 1) (lv' := [(5, .int (x5 + 1)), (0, .ref (h 0)), (1, .int a1), (2, .int a2), (3, .int a3), (4, .int a4)]) hx hb dX0_lyingAt_54 hl (k := 5) rfl rfl (by decide) rfl (fun ls hl => ?_)
            refine lv_goto (tgt := 3) hx hb dX0_lyingAt_57 (by decide) ?_
            have hinc := i32_inc (x := x5) h0 (by omega)
            exact ih (x5 + 1) _ _ _ ⟨by omega, by omega, by omega, trivial⟩ (by rw [← he, l_A_lyingAt_3, if_neg c_2, if_neg c_4, if_pos c_6]) hP hS (lv_sub hl [1, 2, 3, 4, 5, 0] rfl)
          · skip
            refine lv_aload_n hx hb dX0_lyingAt_43 rfl (lv_at hl 0 rfl) ?_
            refine va_get (D := D) (ci := 0) (v := .ref (h 5)) (C := RX0) (T := TX0) (N := 7) hx hb hB inX0 hown hK hP 0 rfl rfl 4 (by decide) (hB _ k1_153) (fun _ h9 => h9) rfl dX0_lyingAt_44 ?_
            refine va_getN (D := D) (ci := 5) (v := .ref (h 22)) (C := RX5) (T := TX5) (N := 6) hx hb hB inX5 hown hK hP 5 rfl rfl 0 (by decide) (va_Nw.use rfl (hN _ kn_41)) (fun _ h9 => h9) rfl dX0_lyingAt_47 ?_
            refine lv_iload hx hb dX0_lyingAt_50 (lv_at hl 5 rfl) ?_
            refine va_iald (f := S 16) hx hb hK hP 22 0 rfl rfl (vp_in_iff.mpr (by omega)) dX0_lyingAt_52 ?_
            have b_7 : (0) ≤ (S 16 x5.toNatClampNeg).toInt ∧ (S 16 x5.toNatClampNeg).toInt ≤ 119 := iv_16 (S := S) hI x5.toNatClampNeg
            exact W.iret (v := S 16 x5.toNatClampNeg) hx hb hr (fun t ht hW => ⟨⟨S 16 x5.toNatClampNeg, (), rfl, (by rw [← he, l_A_lyingAt_3, if_neg c_2, if_neg c_4, if_neg c_6]), trivial⟩, hS.F ht⟩) hS.2.2 dX0_lyingAt_53
  have hB9 := iv_26 (S := S) hI
  have z_0 : ((0) : Int32).toInt = (0) := by decide
  exact loop3 600 0 _ _ _ ⟨by omega, by omega, by omega, trivial⟩ (by rw [f_A_lyingAt]) hP hS (lv_sub hl [1, 2, 3, 4, 5, 0] rfl)
set_option maxHeartbeats 4000000 in
set_option maxRecDepth 100000 in
theorem m_A_lastToLeave (l : Launch) (D : va_G) (h : Nat → Nat) (cI cZ : ClassId) (S : BS) (hI : IV S) (a1 a2 a3 a4 : Int32) : PM l yX0_lastToLeave wsX0_lastToLeave { frames := 2, cells := 0, slots := 0, locals := 50 } D cI cZ h S [.ref (h 0), .int a1, .int a2, .int a3, .int a4] (f_A_lastToLeave S a1 a2 a3 a4) := by
  refine Met.ofW (cc := cX0_lastToLeave) (maxL := 7) (ret := (some .int)) (by decide) rfl ?_
  intro p e s m args below meth c s₁ B hml hv
  obtain ⟨rfl, hP, hK, hN⟩ := hv
  have hx := B.exec
  have hb := B.bytes
  have hr := B.returns
  have hts := atoms_spec (ws := wsX0_lastToLeave) B.pre
  have hB : ∀ w ∈ BW, w.before _ s = true := fun w h => hts w (List.mem_cons_of_mem _ h)
  have hown : s.vm.findClass RX0 = some m.cls := findClass_of_methodNamed B.named
  have hlocks := B.notSynchronized
  have hS : va_S (fun _ => False) s.heap s.heap [] := va_S.rf
  have hl := lv_entry ([.ref (h 0), .int a1, .int a2, .int a3, .int a4]) (n := 7) (Nat.le_of_ble_eq_true rfl)
  rw [lg_entry_eq]
  generalize (lg_sl ([.ref (h 0), .int a1, .int a2, .int a3, .int a4]) ++ List.replicate (7 - (lg_sl ([.ref (h 0), .int a1, .int a2, .int a3, .int a4])).length) Slot.unset).toArray = ls at hl ⊢
  have hl : lv_has ls 7 [(0, .ref (h 0)), (1, .int a1), (2, .int a2), (3, .int a3), (4, .int a4)] := hl
  refine lv_iconst (v := (-1)) hx hb dX0_lastToLeave_0 (by decide) ?_
  refine lv_istore (lv' := [(5, .int (-1)), (0, .ref (h 0)), (1, .int a1), (2, .int a2), (3, .int a3), (4, .int a4)]) hx hb dX0_lastToLeave_1 hl (by decide) rfl (fun ls hl => ?_)
  refine lv_iconst (v := 0) hx hb dX0_lastToLeave_3 (by decide) ?_
  refine lv_istore (lv' := [(6, .int 0), (5, .int (-1)), (0, .ref (h 0)), (1, .int a1), (2, .int a2), (3, .int a3), (4, .int a4)]) hx hb dX0_lastToLeave_4 hl (by decide) rfl (fun ls hl => ?_)
  have loop6 : ∀ (n : Nat) (x5 x6 : Int32) (H : Heap) (locs : List Loc) (ls : Array Slot), (0 ≤ x6.toInt ∧ x6.toInt ≤ (S 26 0 : Int32).toInt ∧ (S 26 0 : Int32).toInt - x6.toInt < (n : Int) ∧ (-1 ≤ x5.toInt ∧ x5.toInt ≤ 511)) → l_A_lastToLeave_6 S a1 a2 a3 a4 n x5 x6 = f_A_lastToLeave S a1 a2 a3 a4 → va_P D vwCl (wB h cI cZ S) H → va_S (fun _ => False) s.heap H locs → lv_has ls 7 [(0, .ref (h 0)), (1, .int a1), (2, .int a2), (3, .int a3), (4, .int a4), (5, .int x5), (6, .int x6)] → W p l e (headSpec wsX0_lastToLeave { frames := 2, cells := 0, slots := 0, locals := 50 }).room s m ([.ref (h 0), .int a1, .int a2, .int a3, .int a4]).toArray below meth c H locs 0 0 (MQ below (PQ (f_A_lastToLeave S a1 a2 a3 a4)) ([.ref (h 0), .int a1, .int a2, .int a3, .int a4]).toArray s 0 0 (fun _ => False)) (F0 m 6 ls []) := by
    intro n
    induction n with
    | zero =>
      intro x5 x6 H locs ls hinv he hP hS hl
      obtain ⟨h0, hle, hm, hex⟩ := hinv
      exact absurd hm (by omega)
    | succ n ih =>
      intro x5 x6 H locs ls hinv he hP hS hl
      obtain ⟨h0, hle, hm, hex⟩ := hinv
      have hBd := iv_26 hI
      refine lv_iload hx hb dX0_lastToLeave_6 (lv_at hl 6 rfl) ?_
      refine lv_aload_n hx hb dX0_lastToLeave_8 rfl (lv_at hl 0 rfl) ?_
      refine va_get (D := D) (ci := 0) (v := .ref (h 5)) (C := RX0) (T := TX0) (N := 7) hx hb hB inX0 hown hK hP 0 rfl rfl 4 (by decide) (hB _ k1_153) (fun _ h9 => h9) rfl dX0_lastToLeave_9 ?_
      refine va_getN (D := D) (ci := 5) (v := .int (S 26 0)) (C := RX5) (T := TX5) (N := 6) hx hb hB inX5 hown hK hP 5 rfl rfl 5 (by decide) (va_Nw.use rfl (hN _ kn_43)) (fun _ h9 => h9) rfl dX0_lastToLeave_12 ?_
      have b_1 : (0) ≤ (S 26 0).toInt ∧ (S 26 0).toInt ≤ 512 := iv_26 (S := S) hI
      refine lv_icmp_ge (tgt := 76) hx hb dX0_lastToLeave_15 (by decide) (fun c_2 => ?_) (fun c_2 => ?_)
      · skip
        have t_2 := Int32.le_iff_toInt_le.mp c_2
        refine lv_iload hx hb dX0_lastToLeave_76 (lv_at hl 5 rfl) ?_
        refine lv_iconst (v := (-1)) hx hb dX0_lastToLeave_78 (by decide) ?_
        refine lv_icmp_ne (tgt := 86) hx hb dX0_lastToLeave_79 (by decide) (fun c_3 => ?_) (fun c_3 => ?_)
        · skip
          have z_m1 : ((-1) : Int32).toInt = (-1) := by decide
          have t_3 := mt Int32.toInt_inj.mp c_3
          refine lv_aload_n hx hb dX0_lastToLeave_86 rfl (lv_at hl 0 rfl) ?_
          refine va_get (D := D) (ci := 0) (v := .ref (h 5)) (C := RX0) (T := TX0) (N := 7) hx hb hB inX0 hown hK hP 0 rfl rfl 4 (by decide) (hB _ k1_153) (fun _ h9 => h9) rfl dX0_lastToLeave_87 ?_
          refine va_getN (D := D) (ci := 5) (v := .ref (h 22)) (C := RX5) (T := TX5) (N := 6) hx hb hB inX5 hown hK hP 5 rfl rfl 0 (by decide) (va_Nw.use rfl (hN _ kn_41)) (fun _ h9 => h9) rfl dX0_lastToLeave_90 ?_
          refine lv_iload hx hb dX0_lastToLeave_93 (lv_at hl 5 rfl) ?_
          refine va_iald (f := S 16) hx hb hK hP 22 0 rfl rfl (vp_in_iff.mpr (by omega)) dX0_lastToLeave_95 ?_
          have b_4 : (0) ≤ (S 16 x5.toNatClampNeg).toInt ∧ (S 16 x5.toNatClampNeg).toInt ≤ 119 := iv_16 (S := S) hI x5.toNatClampNeg
          exact W.iret (v := S 16 x5.toNatClampNeg) hx hb hr (fun t ht hW => ⟨⟨S 16 x5.toNatClampNeg, (), rfl, (by rw [← he, l_A_lastToLeave_6, if_pos c_2, if_neg c_3]), trivial⟩, hS.F ht⟩) hS.2.2 dX0_lastToLeave_96
        · skip
          have z_m1 : ((-1) : Int32).toInt = (-1) := by decide
          have t_3 := Int32.toInt_inj.symm.mp c_3
          refine lv_iconst (v := (-1)) hx hb dX0_lastToLeave_82 (by decide) ?_
          refine lv_goto (tgt := 96) hx hb dX0_lastToLeave_83 (by decide) ?_
          exact W.iret (v := (-1)) hx hb hr (fun t ht hW => ⟨⟨(-1), (), rfl, (by rw [← he, l_A_lastToLeave_6, if_pos c_2, if_pos c_3]), trivial⟩, hS.F ht⟩) hS.2.2 dX0_lastToLeave_96
      · skip
        have t_2 := mt Int32.le_iff_toInt_le.mpr c_2
        refine lv_aload_n hx hb dX0_lastToLeave_18 rfl (lv_at hl 0 rfl) ?_
        refine va_get (D := D) (ci := 0) (v := .ref (h 5)) (C := RX0) (T := TX0) (N := 7) hx hb hB inX0 hown hK hP 0 rfl rfl 4 (by decide) (hB _ k1_153) (fun _ h9 => h9) rfl dX0_lastToLeave_19 ?_
        refine lv_iload hx hb dX0_lastToLeave_22 (lv_at hl 6 rfl) ?_
        refine lv_iload hx hb dX0_lastToLeave_24 (lv_at hl 4 rfl) ?_
        refine pu_call (va_runVN (As := [.int x6, .int a4]) (rest := []) ⟨hx, hb, hml, hown, hB⟩ (m_Y_isLeftShortlyBefore l D h cI cZ S hI x6 a4 (by omega)) ⟨va_cnB 2 hB (gB k2_179) rfl rfl rfl (hN _ kn_45) (hB _ k1_6) (by decide +kernel) ⟨Nat.le_of_ble_eq_true rfl, Nat.le_of_ble_eq_true rfl⟩, hB _ k2_178, hB _ ks_213⟩ ⟨pu_blind, va_recv hK hP (ci := 5) (q0 := 5) rfl rfl, pu_pre hP hK hN⟩ rfl rfl hl.1 rfl (lv_room (Nat.le_of_ble_eq_true rfl)) dX0_lastToLeave_26 ⟨Nat.le_of_ble_eq_true rfl, Nat.le_of_ble_eq_true rfl⟩) hP hS (fun H locs hP hS => ?_)
        refine lv_if_eq (tgt := 70) hx hb dX0_lastToLeave_29 (by decide) (fun c_6 => ?_) (fun c_6 => ?_)
        · skip
          refine lv_iinc (v := x6 + 1) (lv' := [(6, .int (x6 + 1)), (0, .ref (h 0)), (1, .int a1), (2, .int a2), (3, .int a3), (4, .int a4), (5, .int x5)]) hx hb dX0_lastToLeave_70 hl (k := 6) rfl rfl (by decide) rfl (fun ls hl => ?_)
          refine lv_goto (tgt := 6) hx hb dX0_lastToLeave_73 (by decide) ?_
          have hinc := i32_inc (x := x6) h0 (by omega)
          exact ih x5 (x6 + 1) _ _ _ ⟨by omega, by omega, by omega, ⟨by omega, by omega⟩⟩ (by rw [← he, l_A_lastToLeave_6, if_neg c_2, if_pos c_6]) hP hS (lv_sub hl [1, 2, 3, 4, 5, 6, 0] rfl)
        · skip
          refine lv_aload_n hx hb dX0_lastToLeave_32 rfl (lv_at hl 0 rfl) ?_
          refine lv_iload hx hb dX0_lastToLeave_33 (lv_at hl 6 rfl) ?_
          refine lv_iload_n hx hb dX0_lastToLeave_35 rfl (lv_at hl 1 rfl) ?_
          refine lv_iload_n hx hb dX0_lastToLeave_36 rfl (lv_at hl 2 rfl) ?_
          refine lv_iload_n hx hb dX0_lastToLeave_37 rfl (lv_at hl 3 rfl) ?_
          refine lv_iload hx hb dX0_lastToLeave_38 (lv_at hl 4 rfl) ?_
          refine pu_call (va_runV (As := [.int x6, .int a1, .int a2, .int a3, .int a4]) (rest := []) ⟨hx, hb, hml, hown, hB⟩ (m_A_isStayAt l D h cI cZ S hI x6 a1 a2 a3 a4 (by omega)) (cwV 5 hB (gV k2_168 k2_170 ks_210 k1_1 k2_171) rfl rfl rfl (by decide +kernel) ⟨Nat.le_of_ble_eq_true rfl, Nat.le_of_ble_eq_true rfl⟩) ⟨pu_blind, va_recv hK hP (ci := 0) (q0 := 0) rfl rfl, pu_pre hP hK hN⟩ rfl rfl hl.1 rfl (lv_room (Nat.le_of_ble_eq_true rfl)) dX0_lastToLeave_40 ⟨Nat.le_of_ble_eq_true rfl, Nat.le_of_ble_eq_true rfl⟩) hP hS (fun H locs hP hS => ?_)
          refine lv_if_eq (tgt := 70) hx hb dX0_lastToLeave_43 (by decide) (fun c_8 => ?_) (fun c_8 => ?_)
          · skip
            refine lv_iinc (v := x6 + 1) (lv' := [(6, .int (x6 + 1)), (0, .ref (h 0)), (1, .int a1), (2, .int a2), (3, .int a3), (4, .int a4), (5, .int x5)]) hx hb dX0_lastToLeave_70 hl (k := 6) rfl rfl (by decide) rfl (fun ls hl => ?_)
            refine lv_goto (tgt := 6) hx hb dX0_lastToLeave_73 (by decide) ?_
            have hinc := i32_inc (x := x6) h0 (by omega)
            exact ih x5 (x6 + 1) _ _ _ ⟨by omega, by omega, by omega, ⟨by omega, by omega⟩⟩ (by rw [← he, l_A_lastToLeave_6, if_neg c_2, if_neg c_6, if_pos c_8]) hP hS (lv_sub hl [1, 2, 3, 4, 5, 6, 0] rfl)
          · skip
            refine lv_iload hx hb dX0_lastToLeave_46 (lv_at hl 5 rfl) ?_
            refine lv_iconst (v := (-1)) hx hb dX0_lastToLeave_48 (by decide) ?_
            refine lv_icmp_eq (tgt := 66) hx hb dX0_lastToLeave_49 (by decide) (fun c_9 => ?_) (fun c_9 => ?_)
            · skip
              have z_m1 : ((-1) : Int32).toInt = (-1) := by decide
              have t_9 := Int32.toInt_inj.symm.mp c_9
              refine lv_iload hx hb dX0_lastToLeave_66 (lv_at hl 6 rfl) ?_
              refine lv_istore (lv' := [(5, .int x6), (0, .ref (h 0)), (1, .int a1), (2, .int a2), (3, .int a3), (4, .int a4), (6, .int x6)]) hx hb dX0_lastToLeave_68 hl (by decide) rfl (fun ls hl => ?_)
              refine lv_iinc (v := x6 + 1) (lv' := [(6, .int (x6 + 1)), (5, .int x6), (0, .ref (h 0)), (1, .int a1), (2, .int a2), (3, .int a3), (4, .int a4)]) hx hb dX0_lastToLeave_70 hl (k := 6) rfl rfl (by decide) rfl (fun ls hl => ?_)
              refine lv_goto (tgt := 6) hx hb dX0_lastToLeave_73 (by decide) ?_
              have hinc := i32_inc (x := x6) h0 (by omega)
              exact ih x6 (x6 + 1) _ _ _ ⟨by omega, by omega, by omega, ⟨by omega, by omega⟩⟩ (by rw [← he, l_A_lastToLeave_6, if_neg c_2, if_neg c_6, if_neg c_8, if_pos c_9]) hP hS (lv_sub hl [2, 3, 4, 5, 6, 1, 0] rfl)
            · skip
              have z_m1 : ((-1) : Int32).toInt = (-1) := by decide
              have t_9 := mt Int32.toInt_inj.mp c_9
              refine lv_aload_n hx hb dX0_lastToLeave_52 rfl (lv_at hl 0 rfl) ?_
              refine va_get (D := D) (ci := 0) (v := .ref (h 5)) (C := RX0) (T := TX0) (N := 7) hx hb hB inX0 hown hK hP 0 rfl rfl 4 (by decide) (hB _ k1_153) (fun _ h9 => h9) rfl dX0_lastToLeave_53 ?_
              refine lv_iload hx hb dX0_lastToLeave_56 (lv_at hl 6 rfl) ?_
              refine lv_iload hx hb dX0_lastToLeave_58 (lv_at hl 5 rfl) ?_
              refine pu_call (va_runVN (As := [.int x6, .int x5]) (rest := []) ⟨hx, hb, hml, hown, hB⟩ (m_Y_isLeftLater l D h cI cZ S hI x6 x5 (by omega) (by omega)) ⟨va_cnB 2 hB (gB k2_183) rfl rfl rfl (hN _ kn_46) (hB _ k1_6) (by decide +kernel) ⟨Nat.le_of_ble_eq_true rfl, Nat.le_of_ble_eq_true rfl⟩, hB _ k2_182, hB _ ks_216⟩ ⟨pu_blind, va_recv hK hP (ci := 5) (q0 := 5) rfl rfl, pu_pre hP hK hN⟩ rfl rfl hl.1 rfl (lv_room (Nat.le_of_ble_eq_true rfl)) dX0_lastToLeave_60 ⟨Nat.le_of_ble_eq_true rfl, Nat.le_of_ble_eq_true rfl⟩) hP hS (fun H locs hP hS => ?_)
              refine lv_if_eq (tgt := 70) hx hb dX0_lastToLeave_63 (by decide) (fun c_11 => ?_) (fun c_11 => ?_)
              · skip
                refine lv_iinc (v := x6 + 1) (lv' := [(6, .int (x6 + 1)), (0, .ref (h 0)), (1, .int a1), (2, .int a2), (3, .int a3), (4, .int a4), (5, .int x5)]) hx hb dX0_lastToLeave_70 hl (k := 6) rfl rfl (by decide) rfl (fun ls hl => ?_)
                refine lv_goto (tgt := 6) hx hb dX0_lastToLeave_73 (by decide) ?_
                have hinc := i32_inc (x := x6) h0 (by omega)
                exact ih x5 (x6 + 1) _ _ _ ⟨by omega, by omega, by omega, ⟨by omega, by omega⟩⟩ (by rw [← he, l_A_lastToLeave_6, if_neg c_2, if_neg c_6, if_neg c_8, if_neg c_9, if_pos c_11]) hP hS (lv_sub hl [1, 2, 3, 4, 5, 6, 0] rfl)
              · skip
                refine lv_iload hx hb dX0_lastToLeave_66 (lv_at hl 6 rfl) ?_
                refine lv_istore (lv' := [(5, .int x6), (0, .ref (h 0)), (1, .int a1), (2, .int a2), (3, .int a3), (4, .int a4), (6, .int x6)]) hx hb dX0_lastToLeave_68 hl (by decide) rfl (fun ls hl => ?_)
                refine lv_iinc (v := x6 + 1) (lv' := [(6, .int (x6 + 1)), (5, .int x6), (0, .ref (h 0)), (1, .int a1), (2, .int a2), (3, .int a3), (4, .int a4)]) hx hb dX0_lastToLeave_70 hl (k := 6) rfl rfl (by decide) rfl (fun ls hl => ?_)
                refine lv_goto (tgt := 6) hx hb dX0_lastToLeave_73 (by decide) ?_
                have hinc := i32_inc (x := x6) h0 (by omega)
                exact ih x6 (x6 + 1) _ _ _ ⟨by omega, by omega, by omega, ⟨by omega, by omega⟩⟩ (by rw [← he, l_A_lastToLeave_6, if_neg c_2, if_neg c_6, if_neg c_8, if_neg c_9, if_neg c_11]) hP hS (lv_sub hl [2, 3, 4, 5, 6, 1, 0] rfl)
  have hB9 := iv_26 (S := S) hI
  have z_0 : ((0) : Int32).toInt = (0) := by decide
  have z_m1 : ((-1) : Int32).toInt = (-1) := by decide
  exact loop6 600 (-1) 0 _ _ _ ⟨by omega, by omega, by omega, ⟨by omega, by omega⟩⟩ (by rw [f_A_lastToLeave]) hP hS (lv_sub hl [2, 3, 4, 5, 6, 1, 0] rfl)
set_option maxHeartbeats 4000000 in
set_option maxRecDepth 100000 in
theorem m_A_at (l : Launch) (D : va_G) (h : Nat → Nat) (cI cZ : ClassId) (S : BS) (hI : IV S) (a1 a2 a3 a4 : Int32) : PM l yX0_at wsX0_at { frames := 3, cells := 0, slots := 0, locals := 76 } D cI cZ h S [.ref (h 0), .int a1, .int a2, .int a3, .int a4] (f_A_at S a1 a2 a3 a4) := by
  refine Met.ofW (cc := cX0_at) (maxL := 7) (ret := (some .int)) (by decide) rfl ?_
  intro p e s m args below meth c s₁ B hml hv
  obtain ⟨rfl, hP, hK, hN⟩ := hv
  have hx := B.exec
  have hb := B.bytes
  have hr := B.returns
  have hts := atoms_spec (ws := wsX0_at) B.pre
  have hB : ∀ w ∈ BW, w.before _ s = true := fun w h => hts w (List.mem_cons_of_mem _ h)
  have hown : s.vm.findClass RX0 = some m.cls := findClass_of_methodNamed B.named
  have hlocks := B.notSynchronized
  have hS : va_S (fun _ => False) s.heap s.heap [] := va_S.rf
  have hl := lv_entry ([.ref (h 0), .int a1, .int a2, .int a3, .int a4]) (n := 7) (Nat.le_of_ble_eq_true rfl)
  rw [lg_entry_eq]
  generalize (lg_sl ([.ref (h 0), .int a1, .int a2, .int a3, .int a4]) ++ List.replicate (7 - (lg_sl ([.ref (h 0), .int a1, .int a2, .int a3, .int a4])).length) Slot.unset).toArray = ls at hl ⊢
  have hl : lv_has ls 7 [(0, .ref (h 0)), (1, .int a1), (2, .int a2), (3, .int a3), (4, .int a4)] := hl
  refine lv_aload_n hx hb dX0_at_0 rfl (lv_at hl 0 rfl) ?_
  refine va_get (D := D) (ci := 0) (v := .ref (h 2)) (C := RX0) (T := TX0) (N := 7) hx hb hB inX0 hown hK hP 0 rfl rfl 1 (by decide) (hB _ k1_150) (fun _ h9 => h9) rfl dX0_at_1 ?_
  refine lv_iload_n hx hb dX0_at_4 rfl (lv_at hl 1 rfl) ?_
  refine pu_call (va_runVN (As := [.int a1]) (rest := []) ⟨hx, hb, hml, hown, hB⟩ (m_T_has l D h cI cZ S hI a1 ) ⟨va_cnB 1 hB (gB k1_225) rfl rfl rfl (hN _ kn_11) (hB _ k1_3) (by decide +kernel) ⟨Nat.le_of_ble_eq_true rfl, Nat.le_of_ble_eq_true rfl⟩, hB _ k1_224, hB _ ks_98⟩ ⟨pu_blind, va_recv hK hP (ci := 2) (q0 := 2) rfl rfl, pu_pre hP hK hN⟩ rfl rfl hl.1 rfl (lv_room (Nat.le_of_ble_eq_true rfl)) dX0_at_5 ⟨Nat.le_of_ble_eq_true rfl, Nat.le_of_ble_eq_true rfl⟩) hP hS (fun H locs hP hS => ?_)
  refine lv_if_ne (tgt := 14) hx hb dX0_at_8 (by decide) (fun c_2 => ?_) (fun c_2 => ?_)
  · skip
    have t_2 := fb_T_has hI c_2
    refine lv_iload_n hx hb dX0_at_14 rfl (lv_at hl 2 rfl) ?_
    refine pu_call (va_runS (As := [.int a2]) (rest := []) ⟨hx, hb, hml, hown, hB⟩ (m_A_isHouse l D h cI cZ S hI a2 ) (cwS 1 hB (gS k1_226 k1_227 k1_1 k1_228) rfl rfl rfl (by decide +kernel) ⟨Nat.le_of_ble_eq_true rfl, Nat.le_of_ble_eq_true rfl⟩) ⟨pu_blind, pu_pre hP hK hN⟩ rfl rfl hl.1 rfl (lv_room (Nat.le_of_ble_eq_true rfl)) dX0_at_15 ⟨Nat.le_of_ble_eq_true rfl, Nat.le_of_ble_eq_true rfl⟩) hP hS (fun H locs hP hS => ?_)
    refine lv_if_eq (tgt := 36) hx hb dX0_at_18 (by decide) (fun c_4 => ?_) (fun c_4 => ?_)
    · skip
      refine lv_bipush (v := (-12)) hx hb dX0_at_36 (by decide) ?_
      exact W.iret (v := (-12)) hx hb hr (fun t ht hW => ⟨⟨(-12), (), rfl, (by rw [f_A_at, if_neg c_2, if_pos c_4]), trivial⟩, hS.F ht⟩) hS.2.2 dX0_at_38
    · skip
      have t_4 := fb_A_isHouse hI c_4
      refine lv_iload_n hx hb dX0_at_21 rfl (lv_at hl 3 rfl) ?_
      refine pu_call (va_runS (As := [.int a3]) (rest := []) ⟨hx, hb, hml, hown, hB⟩ (m_A_isExtra l D h cI cZ S hI a3 ) (cwS 1 hB (gS k2_52 k2_53 k1_1 k2_54) rfl rfl rfl (by decide +kernel) ⟨Nat.le_of_ble_eq_true rfl, Nat.le_of_ble_eq_true rfl⟩) ⟨pu_blind, pu_pre hP hK hN⟩ rfl rfl hl.1 rfl (lv_room (Nat.le_of_ble_eq_true rfl)) dX0_at_22 ⟨Nat.le_of_ble_eq_true rfl, Nat.le_of_ble_eq_true rfl⟩) hP hS (fun H locs hP hS => ?_)
      refine lv_if_eq (tgt := 36) hx hb dX0_at_25 (by decide) (fun c_6 => ?_) (fun c_6 => ?_)
      · skip
        refine lv_bipush (v := (-12)) hx hb dX0_at_36 (by decide) ?_
        exact W.iret (v := (-12)) hx hb hr (fun t ht hW => ⟨⟨(-12), (), rfl, (by rw [f_A_at, if_neg c_2, if_neg c_4, if_pos c_6]), trivial⟩, hS.F ht⟩) hS.2.2 dX0_at_38
      · skip
        refine lv_iload hx hb dX0_at_28 (lv_at hl 4 rfl) ?_
        refine pu_call (va_runS (As := [.int a4]) (rest := []) ⟨hx, hb, hml, hown, hB⟩ (m_A_isDay l D h cI cZ S hI a4 ) (cwS 1 hB (gS k2_157 k2_158 k1_1 k2_159) rfl rfl rfl (by decide +kernel) ⟨Nat.le_of_ble_eq_true rfl, Nat.le_of_ble_eq_true rfl⟩) ⟨pu_blind, pu_pre hP hK hN⟩ rfl rfl hl.1 rfl (lv_room (Nat.le_of_ble_eq_true rfl)) dX0_at_30 ⟨Nat.le_of_ble_eq_true rfl, Nat.le_of_ble_eq_true rfl⟩) hP hS (fun H locs hP hS => ?_)
        refine lv_if_ne (tgt := 39) hx hb dX0_at_33 (by decide) (fun c_8 => ?_) (fun c_8 => ?_)
        · skip
          refine lv_aload_n hx hb dX0_at_39 rfl (lv_at hl 0 rfl) ?_
          refine va_get (D := D) (ci := 0) (v := .ref (h 2)) (C := RX0) (T := TX0) (N := 7) hx hb hB inX0 hown hK hP 0 rfl rfl 1 (by decide) (hB _ k1_150) (fun _ h9 => h9) rfl dX0_at_40 ?_
          refine lv_iload_n hx hb dX0_at_43 rfl (lv_at hl 1 rfl) ?_
          refine lv_iload hx hb dX0_at_44 (lv_at hl 4 rfl) ?_
          refine pu_call (va_runVN (As := [.int a1, .int a4]) (rest := []) ⟨hx, hb, hml, hown, hB⟩ (m_T_meaning l D h cI cZ S hI a1 a4 (by omega)) ⟨va_cnB 2 hB (gB k2_152) rfl rfl rfl (hN _ kn_40) (hB _ k1_3) (by decide +kernel) ⟨Nat.le_of_ble_eq_true rfl, Nat.le_of_ble_eq_true rfl⟩, hB _ k2_151, hB _ ks_206⟩ ⟨pu_blind, va_recv hK hP (ci := 2) (q0 := 2) rfl rfl, pu_pre hP hK hN⟩ rfl rfl hl.1 rfl (lv_room (Nat.le_of_ble_eq_true rfl)) dX0_at_46 ⟨Nat.le_of_ble_eq_true rfl, Nat.le_of_ble_eq_true rfl⟩) hP hS (fun H locs hP hS => ?_)
          refine lv_istore (lv' := [(5, .int (f_T_meaning S a1 a4)), (0, .ref (h 0)), (1, .int a1), (2, .int a2), (3, .int a3), (4, .int a4)]) hx hb dX0_at_49 hl (by decide) rfl (fun ls hl => ?_)
          refine lv_aload_n hx hb dX0_at_51 rfl (lv_at hl 1 rfl) ?_
          refine lv_iload hx hb dX0_at_52 (lv_at hl 0 rfl) ?_
          refine lv_iload_n hx hb dX0_at_54 rfl (lv_at hl 3 rfl) ?_
          refine lv_iload_n hx hb dX0_at_55 rfl (lv_at hl 4 rfl) ?_
          refine lv_iload hx hb dX0_at_56 (lv_at hl 5 rfl) ?_
          refine pu_call (va_runV (As := [.int (f_T_meaning S a1 a4), .int a2, .int a3, .int a4]) (rest := []) ⟨hx, hb, hml, hown, hB⟩ (m_A_lyingAt l D h cI cZ S hI (f_T_meaning S a1 a4) a2 a3 a4 ) (cwV 4 hB (gV k2_160 k2_162 ks_223 k1_1 k2_163) rfl rfl rfl (by decide +kernel) ⟨Nat.le_of_ble_eq_true rfl, Nat.le_of_ble_eq_true rfl⟩) ⟨pu_blind, va_recv hK hP (ci := 0) (q0 := 0) rfl rfl, pu_pre hP hK hN⟩ rfl rfl hl.1 rfl (lv_room (Nat.le_of_ble_eq_true rfl)) dX0_at_58 ⟨Nat.le_of_ble_eq_true rfl, Nat.le_of_ble_eq_true rfl⟩) hP hS (fun H locs hP hS => ?_)
          refine lv_istore (lv' := [(6, .int (f_A_lyingAt S (f_T_meaning S a1 a4) a2 a3 a4)), (5, .int (f_T_meaning S a1 a4)), (0, .ref (h 0)), (1, .int a1), (2, .int a2), (3, .int a3), (4, .int a4)]) hx hb dX0_at_61 hl (by decide) rfl (fun ls hl => ?_)
          refine lv_iload hx hb dX0_at_63 (lv_at hl 0 rfl) ?_
          refine lv_iconst (v := (-1)) hx hb dX0_at_65 (by decide) ?_
          refine lv_icmp_eq (tgt := 74) hx hb dX0_at_66 (by decide) (fun c_11 => ?_) (fun c_11 => ?_)
          · skip
            have z_m1 : ((-1) : Int32).toInt = (-1) := by decide
            have t_11 := Int32.toInt_inj.symm.mp c_11
            refine lv_aload_n hx hb dX0_at_74 rfl (lv_at hl 2 rfl) ?_
            refine lv_iload hx hb dX0_at_75 (lv_at hl 1 rfl) ?_
            refine lv_iload_n hx hb dX0_at_77 rfl (lv_at hl 4 rfl) ?_
            refine lv_iload_n hx hb dX0_at_78 rfl (lv_at hl 5 rfl) ?_
            refine lv_iload hx hb dX0_at_79 (lv_at hl 6 rfl) ?_
            refine pu_call (va_runV (As := [.int (f_T_meaning S a1 a4), .int a2, .int a3, .int a4]) (rest := []) ⟨hx, hb, hml, hown, hB⟩ (m_A_lastToLeave l D h cI cZ S hI (f_T_meaning S a1 a4) a2 a3 a4 ) (cwV 4 hB (gV k2_172 k2_174 ks_227 k1_1 k2_175) rfl rfl rfl (by decide +kernel) ⟨Nat.le_of_ble_eq_true rfl, Nat.le_of_ble_eq_true rfl⟩) ⟨pu_blind, va_recv hK hP (ci := 0) (q0 := 0) rfl rfl, pu_pre hP hK hN⟩ rfl rfl hl.1 rfl (lv_room (Nat.le_of_ble_eq_true rfl)) dX0_at_81 ⟨Nat.le_of_ble_eq_true rfl, Nat.le_of_ble_eq_true rfl⟩) hP hS (fun H locs hP hS => ?_)
            exact W.iret (v := f_A_lastToLeave S (f_T_meaning S a1 a4) a2 a3 a4) hx hb hr (fun t ht hW => ⟨⟨f_A_lastToLeave S (f_T_meaning S a1 a4) a2 a3 a4, (), rfl, (by rw [f_A_at, if_neg c_2, if_neg c_4, if_neg c_6, if_neg c_8, if_pos c_11]), trivial⟩, hS.F ht⟩) hS.2.2 dX0_at_84
          · skip
            have z_m1 : ((-1) : Int32).toInt = (-1) := by decide
            have t_11 := mt Int32.toInt_inj.mp c_11
            refine lv_iload hx hb dX0_at_69 (lv_at hl 0 rfl) ?_
            refine lv_goto (tgt := 84) hx hb dX0_at_71 (by decide) ?_
            exact W.iret (v := f_A_lyingAt S (f_T_meaning S a1 a4) a2 a3 a4) hx hb hr (fun t ht hW => ⟨⟨f_A_lyingAt S (f_T_meaning S a1 a4) a2 a3 a4, (), rfl, (by rw [f_A_at, if_neg c_2, if_neg c_4, if_neg c_6, if_neg c_8, if_neg c_11]), trivial⟩, hS.F ht⟩) hS.2.2 dX0_at_84
        · skip
          refine lv_bipush (v := (-12)) hx hb dX0_at_36 (by decide) ?_
          exact W.iret (v := (-12)) hx hb hr (fun t ht hW => ⟨⟨(-12), (), rfl, (by rw [f_A_at, if_neg c_2, if_neg c_4, if_neg c_6, if_pos c_8]), trivial⟩, hS.F ht⟩) hS.2.2 dX0_at_38
  · skip
    refine lv_bipush (v := (-11)) hx hb dX0_at_11 (by decide) ?_
    exact W.iret (v := (-11)) hx hb hr (fun t ht hW => ⟨⟨(-11), (), rfl, (by rw [f_A_at, if_pos c_2]), trivial⟩, hS.F ht⟩) hS.2.2 dX0_at_13
set_option maxHeartbeats 4000000 in
set_option maxRecDepth 100000 in
theorem m_A_isNearer (l : Launch) (D : va_G) (h : Nat → Nat) (cI cZ : ClassId) (S : BS) (hI : IV S) (a1 a2 a3 : Int32) (ha0 : 0 ≤ a1.toInt ∧ a1.toInt ≤ 119) (ha1 : 0 ≤ a2.toInt ∧ a2.toInt ≤ 119) : PM l yX0_isNearer wsX0_isNearer { frames := 1, cells := 0, slots := 0, locals := 21 } D cI cZ h S [.ref (h 0), .int a1, .int a2, .int a3] (f_A_isNearer S a1 a2 a3) := by
  refine Met.ofW (cc := cX0_isNearer) (maxL := 6) (ret := (some .boolean)) (by decide) rfl ?_
  intro p e s m args below meth c s₁ B hml hv
  obtain ⟨rfl, hP, hK, hN⟩ := hv
  have hx := B.exec
  have hb := B.bytes
  have hr := B.returns
  have hts := atoms_spec (ws := wsX0_isNearer) B.pre
  have hB : ∀ w ∈ BW, w.before _ s = true := fun w h => hts w (List.mem_cons_of_mem _ h)
  have hown : s.vm.findClass RX0 = some m.cls := findClass_of_methodNamed B.named
  have hlocks := B.notSynchronized
  have hS : va_S (fun _ => False) s.heap s.heap [] := va_S.rf
  have hl := lv_entry ([.ref (h 0), .int a1, .int a2, .int a3]) (n := 6) (Nat.le_of_ble_eq_true rfl)
  rw [lg_entry_eq]
  generalize (lg_sl ([.ref (h 0), .int a1, .int a2, .int a3]) ++ List.replicate (6 - (lg_sl ([.ref (h 0), .int a1, .int a2, .int a3])).length) Slot.unset).toArray = ls at hl ⊢
  have hl : lv_has ls 6 [(0, .ref (h 0)), (1, .int a1), (2, .int a2), (3, .int a3)] := hl
  refine lv_aload_n hx hb dX0_isNearer_0 rfl (lv_at hl 0 rfl) ?_
  refine lv_iload_n hx hb dX0_isNearer_1 rfl (lv_at hl 1 rfl) ?_
  refine pu_call (va_runV (As := [.int a1]) (rest := []) ⟨hx, hb, hml, hown, hB⟩ (m_A_houseNow l D h cI cZ S hI a1 (by omega)) (cwV 1 hB (gV k2_59 k2_61 ks_123 k1_1 k2_62) rfl rfl rfl (by decide +kernel) ⟨Nat.le_of_ble_eq_true rfl, Nat.le_of_ble_eq_true rfl⟩) ⟨pu_blind, va_recv hK hP (ci := 0) (q0 := 0) rfl rfl, pu_pre hP hK hN⟩ rfl rfl hl.1 rfl (lv_room (Nat.le_of_ble_eq_true rfl)) dX0_isNearer_2 ⟨Nat.le_of_ble_eq_true rfl, Nat.le_of_ble_eq_true rfl⟩) hP hS (fun H locs hP hS => ?_)
  have k_1 := fc_A_houseNow hI a1
  refine lv_iload_n hx hb dX0_isNearer_5 rfl (lv_at hl 3 rfl) ?_
  refine lv_isub hx hb dX0_isNearer_6 ?_
  refine va_mabs hx hb (hml.trans hl.1.symm) hown (hB _ k2_192) (hB _ k2_193) (hB _ k1_8) (hB _ km_abs) (Nat.le_of_ble_eq_true rfl) (Nat.le_of_ble_eq_true rfl) (Nat.le_of_ble_eq_true rfl) (Nat.le_of_ble_eq_true rfl) dX0_isNearer_7 ?_
  refine lv_istore (lv' := [(4, .int (if 0 ≤ (f_A_houseNow S a1) - a3 then (f_A_houseNow S a1) - a3 else 0 - ((f_A_houseNow S a1) - a3))), (0, .ref (h 0)), (1, .int a1), (2, .int a2), (3, .int a3)]) hx hb dX0_isNearer_10 hl (by decide) rfl (fun ls hl => ?_)
  refine lv_aload_n hx hb dX0_isNearer_12 rfl (lv_at hl 1 rfl) ?_
  refine lv_iload_n hx hb dX0_isNearer_13 rfl (lv_at hl 3 rfl) ?_
  refine pu_call (va_runV (As := [.int a2]) (rest := []) ⟨hx, hb, hml, hown, hB⟩ (m_A_houseNow l D h cI cZ S hI a2 (by omega)) (cwV 1 hB (gV k2_59 k2_61 ks_123 k1_1 k2_62) rfl rfl rfl (by decide +kernel) ⟨Nat.le_of_ble_eq_true rfl, Nat.le_of_ble_eq_true rfl⟩) ⟨pu_blind, va_recv hK hP (ci := 0) (q0 := 0) rfl rfl, pu_pre hP hK hN⟩ rfl rfl hl.1 rfl (lv_room (Nat.le_of_ble_eq_true rfl)) dX0_isNearer_14 ⟨Nat.le_of_ble_eq_true rfl, Nat.le_of_ble_eq_true rfl⟩) hP hS (fun H locs hP hS => ?_)
  have k_2 := fc_A_houseNow hI a2
  refine lv_iload_n hx hb dX0_isNearer_17 rfl (lv_at hl 4 rfl) ?_
  refine lv_isub hx hb dX0_isNearer_18 ?_
  refine va_mabs hx hb (hml.trans hl.1.symm) hown (hB _ k2_192) (hB _ k2_193) (hB _ k1_8) (hB _ km_abs) (Nat.le_of_ble_eq_true rfl) (Nat.le_of_ble_eq_true rfl) (Nat.le_of_ble_eq_true rfl) (Nat.le_of_ble_eq_true rfl) dX0_isNearer_19 ?_
  refine lv_istore (lv' := [(5, .int (if 0 ≤ (f_A_houseNow S a2) - a3 then (f_A_houseNow S a2) - a3 else 0 - ((f_A_houseNow S a2) - a3))), (4, .int (if 0 ≤ (f_A_houseNow S a1) - a3 then (f_A_houseNow S a1) - a3 else 0 - ((f_A_houseNow S a1) - a3))), (0, .ref (h 0)), (1, .int a1), (2, .int a2), (3, .int a3)]) hx hb dX0_isNearer_22 hl (by decide) rfl (fun ls hl => ?_)
  refine lv_iload hx hb dX0_isNearer_24 (lv_at hl 1 rfl) ?_
  refine lv_iload hx hb dX0_isNearer_26 (lv_at hl 0 rfl) ?_
  refine lv_icmp_eq (tgt := 44) hx hb dX0_isNearer_28 (by decide) (fun c_3 => ?_) (fun c_3 => ?_)
  · skip
    refine lv_aload_n hx hb dX0_isNearer_44 rfl (lv_at hl 2 rfl) ?_
    refine lv_iload_n hx hb dX0_isNearer_45 rfl (lv_at hl 3 rfl) ?_
    refine pu_call (va_runV (As := [.int a1]) (rest := []) ⟨hx, hb, hml, hown, hB⟩ (m_A_houseNow l D h cI cZ S hI a1 (by omega)) (cwV 1 hB (gV k2_59 k2_61 ks_123 k1_1 k2_62) rfl rfl rfl (by decide +kernel) ⟨Nat.le_of_ble_eq_true rfl, Nat.le_of_ble_eq_true rfl⟩) ⟨pu_blind, va_recv hK hP (ci := 0) (q0 := 0) rfl rfl, pu_pre hP hK hN⟩ rfl rfl hl.1 rfl (lv_room (Nat.le_of_ble_eq_true rfl)) dX0_isNearer_46 ⟨Nat.le_of_ble_eq_true rfl, Nat.le_of_ble_eq_true rfl⟩) hP hS (fun H locs hP hS => ?_)
    have k_4 := fc_A_houseNow hI a1
    refine lv_aload_n hx hb dX0_isNearer_49 rfl (lv_at hl 2 rfl) ?_
    refine lv_iload_n hx hb dX0_isNearer_50 rfl (lv_at hl 4 rfl) ?_
    refine pu_call (va_runV (As := [.int a2]) (rest := [.int (f_A_houseNow S a1)]) ⟨hx, hb, hml, hown, hB⟩ (m_A_houseNow l D h cI cZ S hI a2 (by omega)) (cwV 1 hB (gV k2_59 k2_61 ks_123 k1_1 k2_62) rfl rfl rfl (by decide +kernel) ⟨Nat.le_of_ble_eq_true rfl, Nat.le_of_ble_eq_true rfl⟩) ⟨pu_blind, va_recv hK hP (ci := 0) (q0 := 0) rfl rfl, pu_pre hP hK hN⟩ rfl rfl hl.1 rfl (lv_room (Nat.le_of_ble_eq_true rfl)) dX0_isNearer_51 ⟨Nat.le_of_ble_eq_true rfl, Nat.le_of_ble_eq_true rfl⟩) hP hS (fun H locs hP hS => ?_)
    have k_5 := fc_A_houseNow hI a2
    refine lv_icmp_eq (tgt := 76) hx hb dX0_isNearer_54 (by decide) (fun c_6 => ?_) (fun c_6 => ?_)
    · skip
      refine lv_aload_n hx hb dX0_isNearer_76 rfl (lv_at hl 2 rfl) ?_
      refine va_get (D := D) (ci := 0) (v := .ref (h 4)) (C := RX0) (T := TX0) (N := 7) hx hb hB inX0 hown hK hP 0 rfl rfl 3 (by decide) (hB _ k1_152) (fun _ h9 => h9) rfl dX0_isNearer_77 ?_
      refine va_getN (D := D) (ci := 4) (v := .ref (h 19)) (C := RX4) (T := TX4) (N := 6) hx hb hB inX4 hown hK hP 4 rfl rfl 2 (by decide) (va_Nw.use rfl (hN _ kn_21)) (fun _ h9 => h9) rfl dX0_isNearer_80 ?_
      refine lv_iload_n hx hb dX0_isNearer_83 rfl (lv_at hl 3 rfl) ?_
      refine va_iald (f := S 13) hx hb hK hP 19 0 rfl rfl (vp_in_iff.mpr (by omega)) dX0_isNearer_84 ?_
      refine lv_aload_n hx hb dX0_isNearer_85 rfl (lv_at hl 2 rfl) ?_
      refine va_get (D := D) (ci := 0) (v := .ref (h 4)) (C := RX0) (T := TX0) (N := 7) hx hb hB inX0 hown hK hP 0 rfl rfl 3 (by decide) (hB _ k1_152) (fun _ h9 => h9) rfl dX0_isNearer_86 ?_
      refine va_getN (D := D) (ci := 4) (v := .ref (h 19)) (C := RX4) (T := TX4) (N := 6) hx hb hB inX4 hown hK hP 4 rfl rfl 2 (by decide) (va_Nw.use rfl (hN _ kn_21)) (fun _ h9 => h9) rfl dX0_isNearer_89 ?_
      refine lv_iload_n hx hb dX0_isNearer_92 rfl (lv_at hl 4 rfl) ?_
      refine va_iald (f := S 13) hx hb hK hP 19 0 rfl rfl (vp_in_iff.mpr (by omega)) dX0_isNearer_93 ?_
      refine lv_icmp_ge (tgt := 101) hx hb dX0_isNearer_94 (by decide) (fun c_7 => ?_) (fun c_7 => ?_)
      · skip
        have t_7 := Int32.le_iff_toInt_le.mp c_7
        refine lv_iconst (v := 0) hx hb dX0_isNearer_101 (by decide) ?_
        exact W.zret (v := 0) hx hb hr (by decide) (fun t ht hW => ⟨⟨0, (), rfl, (by rw [f_A_isNearer, if_pos c_3, if_pos c_6, if_pos c_7]), trivial⟩, hS.F ht⟩) hS.2.2 dX0_isNearer_102
      · skip
        have t_7 := mt Int32.le_iff_toInt_le.mpr c_7
        refine lv_iconst (v := 1) hx hb dX0_isNearer_97 (by decide) ?_
        refine lv_goto (tgt := 102) hx hb dX0_isNearer_98 (by decide) ?_
        exact W.zret (v := 1) hx hb hr (by decide) (fun t ht hW => ⟨⟨1, (), rfl, (by rw [f_A_isNearer, if_pos c_3, if_pos c_6, if_neg c_7]), trivial⟩, hS.F ht⟩) hS.2.2 dX0_isNearer_102
    · skip
      refine lv_aload_n hx hb dX0_isNearer_57 rfl (lv_at hl 2 rfl) ?_
      refine lv_iload_n hx hb dX0_isNearer_58 rfl (lv_at hl 3 rfl) ?_
      refine pu_call (va_runV (As := [.int a1]) (rest := []) ⟨hx, hb, hml, hown, hB⟩ (m_A_houseNow l D h cI cZ S hI a1 (by omega)) (cwV 1 hB (gV k2_59 k2_61 ks_123 k1_1 k2_62) rfl rfl rfl (by decide +kernel) ⟨Nat.le_of_ble_eq_true rfl, Nat.le_of_ble_eq_true rfl⟩) ⟨pu_blind, va_recv hK hP (ci := 0) (q0 := 0) rfl rfl, pu_pre hP hK hN⟩ rfl rfl hl.1 rfl (lv_room (Nat.le_of_ble_eq_true rfl)) dX0_isNearer_59 ⟨Nat.le_of_ble_eq_true rfl, Nat.le_of_ble_eq_true rfl⟩) hP hS (fun H locs hP hS => ?_)
      have k_8 := fc_A_houseNow hI a1
      refine lv_aload_n hx hb dX0_isNearer_62 rfl (lv_at hl 2 rfl) ?_
      refine lv_iload_n hx hb dX0_isNearer_63 rfl (lv_at hl 4 rfl) ?_
      refine pu_call (va_runV (As := [.int a2]) (rest := [.int (f_A_houseNow S a1)]) ⟨hx, hb, hml, hown, hB⟩ (m_A_houseNow l D h cI cZ S hI a2 (by omega)) (cwV 1 hB (gV k2_59 k2_61 ks_123 k1_1 k2_62) rfl rfl rfl (by decide +kernel) ⟨Nat.le_of_ble_eq_true rfl, Nat.le_of_ble_eq_true rfl⟩) ⟨pu_blind, va_recv hK hP (ci := 0) (q0 := 0) rfl rfl, pu_pre hP hK hN⟩ rfl rfl hl.1 rfl (lv_room (Nat.le_of_ble_eq_true rfl)) dX0_isNearer_64 ⟨Nat.le_of_ble_eq_true rfl, Nat.le_of_ble_eq_true rfl⟩) hP hS (fun H locs hP hS => ?_)
      have k_9 := fc_A_houseNow hI a2
      refine lv_icmp_ge (tgt := 74) hx hb dX0_isNearer_67 (by decide) (fun c_10 => ?_) (fun c_10 => ?_)
      · skip
        have t_10 := Int32.le_iff_toInt_le.mp c_10
        refine lv_iconst (v := 0) hx hb dX0_isNearer_74 (by decide) ?_
        exact W.zret (v := 0) hx hb hr (by decide) (fun t ht hW => ⟨⟨0, (), rfl, (by rw [f_A_isNearer, if_pos c_3, if_neg c_6, if_pos c_10]), trivial⟩, hS.F ht⟩) hS.2.2 dX0_isNearer_75
      · skip
        have t_10 := mt Int32.le_iff_toInt_le.mpr c_10
        refine lv_iconst (v := 1) hx hb dX0_isNearer_70 (by decide) ?_
        refine lv_goto (tgt := 75) hx hb dX0_isNearer_71 (by decide) ?_
        exact W.zret (v := 1) hx hb hr (by decide) (fun t ht hW => ⟨⟨1, (), rfl, (by rw [f_A_isNearer, if_pos c_3, if_neg c_6, if_neg c_10]), trivial⟩, hS.F ht⟩) hS.2.2 dX0_isNearer_75
  · skip
    refine lv_iload hx hb dX0_isNearer_31 (lv_at hl 1 rfl) ?_
    refine lv_iload hx hb dX0_isNearer_33 (lv_at hl 0 rfl) ?_
    refine lv_icmp_ge (tgt := 42) hx hb dX0_isNearer_35 (by decide) (fun c_11 => ?_) (fun c_11 => ?_)
    · skip
      have t_11 := Int32.le_iff_toInt_le.mp c_11
      refine lv_iconst (v := 0) hx hb dX0_isNearer_42 (by decide) ?_
      exact W.zret (v := 0) hx hb hr (by decide) (fun t ht hW => ⟨⟨0, (), rfl, (by rw [f_A_isNearer, if_neg c_3, if_pos c_11]), trivial⟩, hS.F ht⟩) hS.2.2 dX0_isNearer_43
    · skip
      have t_11 := mt Int32.le_iff_toInt_le.mpr c_11
      refine lv_iconst (v := 1) hx hb dX0_isNearer_38 (by decide) ?_
      refine lv_goto (tgt := 43) hx hb dX0_isNearer_39 (by decide) ?_
      exact W.zret (v := 1) hx hb hr (by decide) (fun t ht hW => ⟨⟨1, (), rfl, (by rw [f_A_isNearer, if_neg c_3, if_neg c_11]), trivial⟩, hS.F ht⟩) hS.2.2 dX0_isNearer_43
set_option maxHeartbeats 4000000 in
set_option maxRecDepth 100000 in
theorem m_A_near (l : Launch) (D : va_G) (h : Nat → Nat) (cI cZ : ClassId) (S : BS) (hI : IV S) (a1 a2 : Int32) : PM l yX0_near wsX0_near { frames := 2, cells := 0, slots := 0, locals := 46 } D cI cZ h S [.ref (h 0), .int a1, .int a2] (f_A_near S a1 a2) := by
  refine Met.ofW (cc := cX0_near) (maxL := 6) (ret := (some .int)) (by decide) rfl ?_
  intro p e s m args below meth c s₁ B hml hv
  obtain ⟨rfl, hP, hK, hN⟩ := hv
  have hx := B.exec
  have hb := B.bytes
  have hr := B.returns
  have hts := atoms_spec (ws := wsX0_near) B.pre
  have hB : ∀ w ∈ BW, w.before _ s = true := fun w h => hts w (List.mem_cons_of_mem _ h)
  have hown : s.vm.findClass RX0 = some m.cls := findClass_of_methodNamed B.named
  have hlocks := B.notSynchronized
  have hS : va_S (fun _ => False) s.heap s.heap [] := va_S.rf
  have hl := lv_entry ([.ref (h 0), .int a1, .int a2]) (n := 6) (Nat.le_of_ble_eq_true rfl)
  rw [lg_entry_eq]
  generalize (lg_sl ([.ref (h 0), .int a1, .int a2]) ++ List.replicate (6 - (lg_sl ([.ref (h 0), .int a1, .int a2])).length) Slot.unset).toArray = ls at hl ⊢
  have hl : lv_has ls 6 [(0, .ref (h 0)), (1, .int a1), (2, .int a2)] := hl
  refine lv_aload_n hx hb dX0_near_0 rfl (lv_at hl 0 rfl) ?_
  refine va_get (D := D) (ci := 0) (v := .ref (h 2)) (C := RX0) (T := TX0) (N := 7) hx hb hB inX0 hown hK hP 0 rfl rfl 1 (by decide) (hB _ k1_150) (fun _ h9 => h9) rfl dX0_near_1 ?_
  refine lv_iload_n hx hb dX0_near_4 rfl (lv_at hl 1 rfl) ?_
  refine pu_call (va_runVN (As := [.int a1]) (rest := []) ⟨hx, hb, hml, hown, hB⟩ (m_T_has l D h cI cZ S hI a1 ) ⟨va_cnB 1 hB (gB k1_225) rfl rfl rfl (hN _ kn_11) (hB _ k1_3) (by decide +kernel) ⟨Nat.le_of_ble_eq_true rfl, Nat.le_of_ble_eq_true rfl⟩, hB _ k1_224, hB _ ks_98⟩ ⟨pu_blind, va_recv hK hP (ci := 2) (q0 := 2) rfl rfl, pu_pre hP hK hN⟩ rfl rfl hl.1 rfl (lv_room (Nat.le_of_ble_eq_true rfl)) dX0_near_5 ⟨Nat.le_of_ble_eq_true rfl, Nat.le_of_ble_eq_true rfl⟩) hP hS (fun H locs hP hS => ?_)
  refine lv_if_ne (tgt := 14) hx hb dX0_near_8 (by decide) (fun c_2 => ?_) (fun c_2 => ?_)
  · skip
    have t_2 := fb_T_has hI c_2
    refine lv_iload_n hx hb dX0_near_14 rfl (lv_at hl 2 rfl) ?_
    refine pu_call (va_runS (As := [.int a2]) (rest := []) ⟨hx, hb, hml, hown, hB⟩ (m_A_isHouse l D h cI cZ S hI a2 ) (cwS 1 hB (gS k1_226 k1_227 k1_1 k1_228) rfl rfl rfl (by decide +kernel) ⟨Nat.le_of_ble_eq_true rfl, Nat.le_of_ble_eq_true rfl⟩) ⟨pu_blind, pu_pre hP hK hN⟩ rfl rfl hl.1 rfl (lv_room (Nat.le_of_ble_eq_true rfl)) dX0_near_15 ⟨Nat.le_of_ble_eq_true rfl, Nat.le_of_ble_eq_true rfl⟩) hP hS (fun H locs hP hS => ?_)
    refine lv_if_ne (tgt := 24) hx hb dX0_near_18 (by decide) (fun c_4 => ?_) (fun c_4 => ?_)
    · skip
      have t_4 := fb_A_isHouse hI c_4
      refine lv_aload_n hx hb dX0_near_24 rfl (lv_at hl 0 rfl) ?_
      refine va_get (D := D) (ci := 0) (v := .ref (h 2)) (C := RX0) (T := TX0) (N := 7) hx hb hB inX0 hown hK hP 0 rfl rfl 1 (by decide) (hB _ k1_150) (fun _ h9 => h9) rfl dX0_near_25 ?_
      refine lv_iload_n hx hb dX0_near_28 rfl (lv_at hl 1 rfl) ?_
      refine lv_aload_n hx hb dX0_near_29 rfl (lv_at hl 0 rfl) ?_
      refine va_get (D := D) (ci := 0) (v := .int (S 27 0)) (C := RX0) (T := TX0) (N := 7) hx hb hB inX0 hown hK hP 0 rfl rfl 6 (by decide) (hB _ k1_155) (fun _ h9 => h9) rfl dX0_near_30 ?_
      refine pu_call (va_runVN (As := [.int a1, .int (S 27 0)]) (rest := []) ⟨hx, hb, hml, hown, hB⟩ (m_T_meaning l D h cI cZ S hI a1 (S 27 0) (by omega)) ⟨va_cnB 2 hB (gB k2_152) rfl rfl rfl (hN _ kn_40) (hB _ k1_3) (by decide +kernel) ⟨Nat.le_of_ble_eq_true rfl, Nat.le_of_ble_eq_true rfl⟩, hB _ k2_151, hB _ ks_206⟩ ⟨pu_blind, va_recv hK hP (ci := 2) (q0 := 2) rfl rfl, pu_pre hP hK hN⟩ rfl rfl hl.1 rfl (lv_room (Nat.le_of_ble_eq_true rfl)) dX0_near_33 ⟨Nat.le_of_ble_eq_true rfl, Nat.le_of_ble_eq_true rfl⟩) hP hS (fun H locs hP hS => ?_)
      refine lv_istore_n (lv' := [(3, .int (f_T_meaning S a1 (S 27 0))), (0, .ref (h 0)), (1, .int a1), (2, .int a2)]) hx hb dX0_near_36 rfl hl (by decide) rfl (fun ls hl => ?_)
      refine lv_iconst (v := (-1)) hx hb dX0_near_37 (by decide) ?_
      refine lv_istore (lv' := [(4, .int (-1)), (3, .int (f_T_meaning S a1 (S 27 0))), (0, .ref (h 0)), (1, .int a1), (2, .int a2)]) hx hb dX0_near_38 hl (by decide) rfl (fun ls hl => ?_)
      refine lv_iconst (v := 0) hx hb dX0_near_40 (by decide) ?_
      refine lv_istore (lv' := [(5, .int 0), (4, .int (-1)), (3, .int (f_T_meaning S a1 (S 27 0))), (0, .ref (h 0)), (1, .int a1), (2, .int a2)]) hx hb dX0_near_41 hl (by decide) rfl (fun ls hl => ?_)
      have loop43 : ∀ (n : Nat) (x4 x5 : Int32) (H : Heap) (locs : List Loc) (ls : Array Slot), (0 ≤ x5.toInt ∧ x5.toInt ≤ (S 25 0 : Int32).toInt ∧ (S 25 0 : Int32).toInt - x5.toInt < (n : Int) ∧ (-1 ≤ x4.toInt ∧ x4.toInt ≤ 119)) → l_A_near_43 S a1 a2 n x4 x5 = f_A_near S a1 a2 → va_P D vwCl (wB h cI cZ S) H → va_S (fun _ => False) s.heap H locs → lv_has ls 6 [(0, .ref (h 0)), (1, .int a1), (2, .int a2), (3, .int (f_T_meaning S a1 (S 27 0))), (4, .int x4), (5, .int x5)] → W p l e (headSpec wsX0_near { frames := 2, cells := 0, slots := 0, locals := 46 }).room s m ([.ref (h 0), .int a1, .int a2]).toArray below meth c H locs 0 0 (MQ below (PQ (f_A_near S a1 a2)) ([.ref (h 0), .int a1, .int a2]).toArray s 0 0 (fun _ => False)) (F0 m 43 ls []) := by
        intro n
        induction n with
        | zero =>
          intro x4 x5 H locs ls hinv he hP hS hl
          obtain ⟨h0, hle, hm, hex⟩ := hinv
          exact absurd hm (by omega)
        | succ n ih =>
          intro x4 x5 H locs ls hinv he hP hS hl
          obtain ⟨h0, hle, hm, hex⟩ := hinv
          have hBd := iv_25 hI
          refine lv_iload hx hb dX0_near_43 (lv_at hl 5 rfl) ?_
          refine lv_aload_n hx hb dX0_near_45 rfl (lv_at hl 0 rfl) ?_
          refine va_get (D := D) (ci := 0) (v := .ref (h 4)) (C := RX0) (T := TX0) (N := 7) hx hb hB inX0 hown hK hP 0 rfl rfl 3 (by decide) (hB _ k1_152) (fun _ h9 => h9) rfl dX0_near_46 ?_
          refine va_getN (D := D) (ci := 4) (v := .int (S 25 0)) (C := RX4) (T := TX4) (N := 6) hx hb hB inX4 hown hK hP 4 rfl rfl 5 (by decide) (va_Nw.use rfl (hN _ kn_18)) (fun _ h9 => h9) rfl dX0_near_49 ?_
          have b_6 : (0) ≤ (S 25 0).toInt ∧ (S 25 0).toInt ≤ 120 := iv_25 (S := S) hI
          refine lv_icmp_ge (tgt := 93) hx hb dX0_near_52 (by decide) (fun c_7 => ?_) (fun c_7 => ?_)
          · skip
            have t_7 := Int32.le_iff_toInt_le.mp c_7
            refine lv_iload hx hb dX0_near_93 (lv_at hl 4 rfl) ?_
            exact W.iret (v := x4) hx hb hr (fun t ht hW => ⟨⟨x4, (), rfl, (by rw [← he, l_A_near_43, if_pos c_7]), trivial⟩, hS.F ht⟩) hS.2.2 dX0_near_95
          · skip
            have t_7 := mt Int32.le_iff_toInt_le.mpr c_7
            refine lv_aload_n hx hb dX0_near_55 rfl (lv_at hl 0 rfl) ?_
            refine lv_iload hx hb dX0_near_56 (lv_at hl 5 rfl) ?_
            refine lv_iload_n hx hb dX0_near_58 rfl (lv_at hl 3 rfl) ?_
            refine pu_call (va_runV (As := [.int x5, .int (f_T_meaning S a1 (S 27 0))]) (rest := []) ⟨hx, hb, hml, hown, hB⟩ (m_A_isLiveOf l D h cI cZ S hI x5 (f_T_meaning S a1 (S 27 0)) (by omega)) (cwV 2 hB (gV k2_117 k2_119 ks_164 k1_1 k2_120) rfl rfl rfl (by decide +kernel) ⟨Nat.le_of_ble_eq_true rfl, Nat.le_of_ble_eq_true rfl⟩) ⟨pu_blind, va_recv hK hP (ci := 0) (q0 := 0) rfl rfl, pu_pre hP hK hN⟩ rfl rfl hl.1 rfl (lv_room (Nat.le_of_ble_eq_true rfl)) dX0_near_59 ⟨Nat.le_of_ble_eq_true rfl, Nat.le_of_ble_eq_true rfl⟩) hP hS (fun H locs hP hS => ?_)
            refine lv_if_eq (tgt := 87) hx hb dX0_near_62 (by decide) (fun c_9 => ?_) (fun c_9 => ?_)
            · skip
              refine lv_iinc (v := x5 + 1) (lv' := [(5, .int (x5 + 1)), (0, .ref (h 0)), (1, .int a1), (2, .int a2), (3, .int (f_T_meaning S a1 (S 27 0))), (4, .int x4)]) hx hb dX0_near_87 hl (k := 5) rfl rfl (by decide) rfl (fun ls hl => ?_)
              refine lv_goto (tgt := 43) hx hb dX0_near_90 (by decide) ?_
              have hinc := i32_inc (x := x5) h0 (by omega)
              exact ih x4 (x5 + 1) _ _ _ ⟨by omega, by omega, by omega, ⟨by omega, by omega⟩⟩ (by rw [← he, l_A_near_43, if_neg c_7, if_pos c_9]) hP hS (lv_sub hl [1, 2, 3, 4, 5, 0] rfl)
            · skip
              refine lv_iload hx hb dX0_near_65 (lv_at hl 4 rfl) ?_
              refine lv_iconst (v := (-1)) hx hb dX0_near_67 (by decide) ?_
              refine lv_icmp_eq (tgt := 83) hx hb dX0_near_68 (by decide) (fun c_10 => ?_) (fun c_10 => ?_)
              · skip
                have z_m1 : ((-1) : Int32).toInt = (-1) := by decide
                have t_10 := Int32.toInt_inj.symm.mp c_10
                refine lv_iload hx hb dX0_near_83 (lv_at hl 5 rfl) ?_
                refine lv_istore (lv' := [(4, .int x5), (0, .ref (h 0)), (1, .int a1), (2, .int a2), (3, .int (f_T_meaning S a1 (S 27 0))), (5, .int x5)]) hx hb dX0_near_85 hl (by decide) rfl (fun ls hl => ?_)
                refine lv_iinc (v := x5 + 1) (lv' := [(5, .int (x5 + 1)), (4, .int x5), (0, .ref (h 0)), (1, .int a1), (2, .int a2), (3, .int (f_T_meaning S a1 (S 27 0)))]) hx hb dX0_near_87 hl (k := 5) rfl rfl (by decide) rfl (fun ls hl => ?_)
                refine lv_goto (tgt := 43) hx hb dX0_near_90 (by decide) ?_
                have hinc := i32_inc (x := x5) h0 (by omega)
                exact ih x5 (x5 + 1) _ _ _ ⟨by omega, by omega, by omega, ⟨by omega, by omega⟩⟩ (by rw [← he, l_A_near_43, if_neg c_7, if_neg c_9, if_pos c_10]) hP hS (lv_sub hl [2, 3, 4, 5, 1, 0] rfl)
              · skip
                have z_m1 : ((-1) : Int32).toInt = (-1) := by decide
                have t_10 := mt Int32.toInt_inj.mp c_10
                refine lv_aload_n hx hb dX0_near_71 rfl (lv_at hl 0 rfl) ?_
                refine lv_iload hx hb dX0_near_72 (lv_at hl 5 rfl) ?_
                refine lv_iload hx hb dX0_near_74 (lv_at hl 4 rfl) ?_
                refine lv_iload_n hx hb dX0_near_76 rfl (lv_at hl 2 rfl) ?_
                refine pu_call (va_runV (As := [.int x5, .int x4, .int a2]) (rest := []) ⟨hx, hb, hml, hown, hB⟩ (m_A_isNearer l D h cI cZ S hI x5 x4 a2 (by omega) (by omega)) (cwV 3 hB (gV k2_188 k2_190 ks_234 k1_1 k2_191) rfl rfl rfl (by decide +kernel) ⟨Nat.le_of_ble_eq_true rfl, Nat.le_of_ble_eq_true rfl⟩) ⟨pu_blind, va_recv hK hP (ci := 0) (q0 := 0) rfl rfl, pu_pre hP hK hN⟩ rfl rfl hl.1 rfl (lv_room (Nat.le_of_ble_eq_true rfl)) dX0_near_77 ⟨Nat.le_of_ble_eq_true rfl, Nat.le_of_ble_eq_true rfl⟩) hP hS (fun H locs hP hS => ?_)
                refine lv_if_eq (tgt := 87) hx hb dX0_near_80 (by decide) (fun c_12 => ?_) (fun c_12 => ?_)
                · skip
                  refine lv_iinc (v := x5 + 1) (lv' := [(5, .int (x5 + 1)), (0, .ref (h 0)), (1, .int a1), (2, .int a2), (3, .int (f_T_meaning S a1 (S 27 0))), (4, .int x4)]) hx hb dX0_near_87 hl (k := 5) rfl rfl (by decide) rfl (fun ls hl => ?_)
                  refine lv_goto (tgt := 43) hx hb dX0_near_90 (by decide) ?_
                  have hinc := i32_inc (x := x5) h0 (by omega)
                  exact ih x4 (x5 + 1) _ _ _ ⟨by omega, by omega, by omega, ⟨by omega, by omega⟩⟩ (by rw [← he, l_A_near_43, if_neg c_7, if_neg c_9, if_neg c_10, if_pos c_12]) hP hS (lv_sub hl [1, 2, 3, 4, 5, 0] rfl)
                · skip
                  refine lv_iload hx hb dX0_near_83 (lv_at hl 5 rfl) ?_
                  refine lv_istore (lv' := [(4, .int x5), (0, .ref (h 0)), (1, .int a1), (2, .int a2), (3, .int (f_T_meaning S a1 (S 27 0))), (5, .int x5)]) hx hb dX0_near_85 hl (by decide) rfl (fun ls hl => ?_)
                  refine lv_iinc (v := x5 + 1) (lv' := [(5, .int (x5 + 1)), (4, .int x5), (0, .ref (h 0)), (1, .int a1), (2, .int a2), (3, .int (f_T_meaning S a1 (S 27 0)))]) hx hb dX0_near_87 hl (k := 5) rfl rfl (by decide) rfl (fun ls hl => ?_)
                  refine lv_goto (tgt := 43) hx hb dX0_near_90 (by decide) ?_
                  have hinc := i32_inc (x := x5) h0 (by omega)
                  exact ih x5 (x5 + 1) _ _ _ ⟨by omega, by omega, by omega, ⟨by omega, by omega⟩⟩ (by rw [← he, l_A_near_43, if_neg c_7, if_neg c_9, if_neg c_10, if_neg c_12]) hP hS (lv_sub hl [2, 3, 4, 5, 1, 0] rfl)
      have hB9 := iv_25 (S := S) hI
      have z_0 : ((0) : Int32).toInt = (0) := by decide
      have z_m1 : ((-1) : Int32).toInt = (-1) := by decide
      exact loop43 600 (-1) 0 _ _ _ ⟨by omega, by omega, by omega, ⟨by omega, by omega⟩⟩ (by rw [f_A_near, if_neg c_2, if_neg c_4]) hP hS (lv_sub hl [3, 4, 5, 2, 1, 0] rfl)
    · skip
      refine lv_bipush (v := (-12)) hx hb dX0_near_21 (by decide) ?_
      exact W.iret (v := (-12)) hx hb hr (fun t ht hW => ⟨⟨(-12), (), rfl, (by rw [f_A_near, if_neg c_2, if_pos c_4]), trivial⟩, hS.F ht⟩) hS.2.2 dX0_near_23
  · skip
    refine lv_bipush (v := (-11)) hx hb dX0_near_11 (by decide) ?_
    exact W.iret (v := (-11)) hx hb hr (fun t ht hW => ⟨⟨(-11), (), rfl, (by rw [f_A_near, if_pos c_2]), trivial⟩, hS.F ht⟩) hS.2.2 dX0_near_13
