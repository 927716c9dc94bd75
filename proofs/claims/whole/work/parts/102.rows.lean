set_option maxHeartbeats 4000000 in
set_option maxRecDepth 100000 in
theorem m_R_housesOf (l : Launch) (D : va_G) (h : Nat → Nat) (cI cZ : ClassId) (S : BS) (hI : IV S) (a1 : Int32) : PM l yX3_housesOf wsX3_housesOf { frames := 1, cells := 0, slots := 0, locals := 22 } D cI cZ h S [.ref (h 3), .int a1] (f_R_housesOf S a1) := by
  refine Met.ofW (cc := cX3_housesOf) (maxL := 5) (ret := (some .int)) (by decide) rfl ?_
  intro p e s m args below meth c s₁ B hml hv
  obtain ⟨rfl, hP, hK, hN⟩ := hv
  have hx := B.exec
  have hb := B.bytes
  have hr := B.returns
  have hts := atoms_spec (ws := wsX3_housesOf) B.pre
  have hB : ∀ w ∈ BW, w.before _ s = true := fun w h => hts w (List.mem_cons_of_mem _ h)
  have hown : s.vm.findClass RX3 = some m.cls := findClass_of_methodNamed B.named
  have hlocks := B.notSynchronized
  have hS : va_S (fun _ => False) s.heap s.heap [] := va_S.rf
  have hl := lv_entry ([.ref (h 3), .int a1]) (n := 5) (Nat.le_of_ble_eq_true rfl)
  rw [lg_entry_eq]
  generalize (lg_sl ([.ref (h 3), .int a1]) ++ List.replicate (5 - (lg_sl ([.ref (h 3), .int a1])).length) Slot.unset).toArray = ls at hl ⊢
  have hl : lv_has ls 5 [(0, .ref (h 3)), (1, .int a1)] := hl
  refine lv_iconst (v := 0) hx hb dX3_housesOf_0 (by decide) ?_
  refine lv_istore_n (lv' := [(2, .int 0), (0, .ref (h 3)), (1, .int a1)]) hx hb dX3_housesOf_1 rfl hl (by decide) rfl (fun ls hl => ?_)
  refine lv_iconst (v := 0) hx hb dX3_housesOf_2 (by decide) ?_
  refine lv_istore_n (lv' := [(3, .int 0), (2, .int 0), (0, .ref (h 3)), (1, .int a1)]) hx hb dX3_housesOf_3 rfl hl (by decide) rfl (fun ls hl => ?_)
  have loop4 : ∀ (n : Nat) (x2 x3 : Int32) (H : Heap) (locs : List Loc) (ls : Array Slot), (0 ≤ x3.toInt ∧ x3.toInt ≤ (S 24 0 : Int32).toInt ∧ (S 24 0 : Int32).toInt - x3.toInt < (n : Int) ∧ True) → l_R_housesOf_4 S a1 n x2 x3 = f_R_housesOf S a1 → va_P D vwCl (wB h cI cZ S) H → va_S (fun _ => False) s.heap H locs → lv_has ls 5 [(0, .ref (h 3)), (1, .int a1), (2, .int x2), (3, .int x3)] → W p l e (headSpec wsX3_housesOf { frames := 1, cells := 0, slots := 0, locals := 22 }).room s m ([.ref (h 3), .int a1]).toArray below meth c H locs 0 0 (MQ below (PQ (f_R_housesOf S a1)) ([.ref (h 3), .int a1]).toArray s 0 0 (fun _ => False)) (F0 m 4 ls []) := by
    intro n
    induction n with
    | zero =>
      intro x2 x3 H locs ls hinv he hP hS hl
      obtain ⟨h0, hle, hm, hex⟩ := hinv
      exact absurd hm (by omega)
    | succ n ih =>
      intro x2 x3 H locs ls hinv he hP hS hl
      obtain ⟨h0, hle, hm, hex⟩ := hinv
      have hBd := iv_24 hI
      refine lv_iload_n hx hb dX3_housesOf_4 rfl (lv_at hl 3 rfl) ?_
      refine lv_aload_n hx hb dX3_housesOf_5 rfl (lv_at hl 0 rfl) ?_
      refine va_get (D := D) (ci := 3) (v := .int (S 24 0)) (C := RX3) (T := TX3) (N := 6) hx hb hB inX3 hown hK hP 3 rfl rfl 5 (by decide) (hB _ k1_75) (fun _ h9 => h9) rfl dX3_housesOf_6 ?_
      have b_1 : (0) ≤ (S 24 0).toInt ∧ (S 24 0).toInt ≤ 80 := iv_24 (S := S) hI
      refine lv_icmp_ge (tgt := 65) hx hb dX3_housesOf_9 (by decide) (fun c_2 => ?_) (fun c_2 => ?_)
      · skip
        have t_2 := Int32.le_iff_toInt_le.mp c_2
        refine lv_iload_n hx hb dX3_housesOf_65 rfl (lv_at hl 2 rfl) ?_
        exact W.iret (v := x2) hx hb hr (fun t ht hW => ⟨⟨x2, (), rfl, (by rw [← he, l_R_housesOf_4, if_pos c_2]), trivial⟩, hS.F ht⟩) hS.2.2 dX3_housesOf_66
      · skip
        have t_2 := mt Int32.le_iff_toInt_le.mpr c_2
        refine lv_aload_n hx hb dX3_housesOf_12 rfl (lv_at hl 0 rfl) ?_
        refine lv_iload_n hx hb dX3_housesOf_13 rfl (lv_at hl 3 rfl) ?_
        refine lv_iload_n hx hb dX3_housesOf_14 rfl (lv_at hl 1 rfl) ?_
        refine pu_call (va_runV (As := [.int x3, .int a1]) (rest := []) ⟨hx, hb, hml, hown, hB⟩ (m_R_isLiveOf l D h cI cZ S hI x3 a1 (by omega)) (cwV 2 hB (gV k2_18 k2_20 ks_31 k1_4 k2_21) rfl rfl rfl (by decide +kernel) ⟨Nat.le_of_ble_eq_true rfl, Nat.le_of_ble_eq_true rfl⟩) ⟨pu_blind, va_recv hK hP (ci := 3) (q0 := 3) rfl rfl, pu_pre hP hK hN⟩ rfl rfl hl.1 rfl (lv_room (Nat.le_of_ble_eq_true rfl)) dX3_housesOf_15 ⟨Nat.le_of_ble_eq_true rfl, Nat.le_of_ble_eq_true rfl⟩) hP hS (fun H locs hP hS => ?_)
        refine lv_if_eq (tgt := 59) hx hb dX3_housesOf_18 (by decide) (fun c_4 => ?_) (fun c_4 => ?_)
        · skip
          refine lv_iinc (v := x3 + 1) (lv' := [(3, .int (x3 + 1)), (0, .ref (h 3)), (1, .int a1), (2, .int x2)]) hx hb dX3_housesOf_59 hl (k := 3) rfl rfl (by decide) rfl (fun ls hl => ?_)
          refine lv_goto (tgt := 4) hx hb dX3_housesOf_62 (by decide) ?_
          have hinc := i32_inc (x := x3) h0 (by omega)
          exact ih x2 (x3 + 1) _ _ _ ⟨by omega, by omega, by omega, trivial⟩ (by rw [← he, l_R_housesOf_4, if_neg c_2, if_pos c_4]) hP hS (lv_sub hl [1, 2, 3, 0] rfl)
        · skip
          refine lv_aload_n hx hb dX3_housesOf_21 rfl (lv_at hl 0 rfl) ?_
          refine va_get (D := D) (ci := 3) (v := .ref (h 15)) (C := RX3) (T := TX3) (N := 6) hx hb hB inX3 hown hK hP 3 rfl rfl 3 (by decide) (hB _ k1_71) (fun _ h9 => h9) rfl dX3_housesOf_22 ?_
          refine lv_iload_n hx hb dX3_housesOf_25 rfl (lv_at hl 3 rfl) ?_
          refine va_iald (f := S 9) hx hb hK hP 15 0 rfl rfl (vp_in_iff.mpr (by omega)) dX3_housesOf_26 ?_
          have b_5 : (-1) ≤ (S 9 x3.toNatClampNeg).toInt ∧ (S 9 x3.toNatClampNeg).toInt ≤ 999 := iv_9 (S := S) hI x3.toNatClampNeg
          refine lv_aload_n hx hb dX3_housesOf_27 rfl (lv_at hl 0 rfl) ?_
          refine va_get (D := D) (ci := 3) (v := .ref (h 14)) (C := RX3) (T := TX3) (N := 6) hx hb hB inX3 hown hK hP 3 rfl rfl 2 (by decide) (hB _ k1_69) (fun _ h9 => h9) rfl dX3_housesOf_28 ?_
          refine lv_iload_n hx hb dX3_housesOf_31 rfl (lv_at hl 3 rfl) ?_
          refine va_iald (f := S 8) hx hb hK hP 14 0 rfl rfl (vp_in_iff.mpr (by omega)) dX3_housesOf_32 ?_
          have b_6 : (0) ≤ (S 8 x3.toNatClampNeg).toInt ∧ (S 8 x3.toNatClampNeg).toInt ≤ 1000 := iv_8 (S := S) hI x3.toNatClampNeg
          refine lv_isub hx hb dX3_housesOf_33 ?_
          refine lv_istore (lv' := [(4, .int ((S 9 x3.toNatClampNeg) - (S 8 x3.toNatClampNeg))), (0, .ref (h 3)), (1, .int a1), (2, .int x2), (3, .int x3)]) hx hb dX3_housesOf_34 hl (by decide) rfl (fun ls hl => ?_)
          refine lv_iload_n hx hb dX3_housesOf_36 rfl (lv_at hl 3 rfl) ?_
          refine lv_iconst (v := 1) hx hb dX3_housesOf_37 (by decide) ?_
          refine lv_aload_n hx hb dX3_housesOf_38 rfl (lv_at hl 1 rfl) ?_
          refine va_get (D := D) (ci := 3) (v := .ref (h 13)) (C := RX3) (T := TX3) (N := 6) hx hb hB inX3 hown hK hP 3 rfl rfl 1 (by decide) (hB _ k1_67) (fun _ h9 => h9) rfl dX3_housesOf_39 ?_
          refine lv_iload_n hx hb dX3_housesOf_42 rfl (lv_at hl 4 rfl) ?_
          refine va_iald (f := S 7) hx hb hK hP 13 0 rfl rfl (vp_in_iff.mpr (by omega)) dX3_housesOf_43 ?_
          refine lv_if_ne (tgt := 52) hx hb dX3_housesOf_44 (by decide) (fun c_7 => ?_) (fun c_7 => ?_)
          · skip
            have z_0 : ((0) : Int32).toInt = (0) := by decide
            have t_7 := mt Int32.toInt_inj.mp c_7
            refine lv_iload hx hb dX3_housesOf_52 (lv_at hl 0 rfl) ?_
            refine lv_iconst (v := 2) hx hb dX3_housesOf_54 (by decide) ?_
            refine lv_idiv hx hb dX3_housesOf_55 (by decide) ?_
            refine lv_iadd hx hb dX3_housesOf_56 ?_
            refine lv_iadd hx hb dX3_housesOf_57 ?_
            refine lv_istore_n (lv' := [(2, .int (x2 + (1 + (((S 9 x3.toNatClampNeg) - (S 8 x3.toNatClampNeg)) / 2)))), (4, .int ((S 9 x3.toNatClampNeg) - (S 8 x3.toNatClampNeg))), (0, .ref (h 3)), (1, .int a1), (3, .int x3)]) hx hb dX3_housesOf_58 rfl hl (by decide) rfl (fun ls hl => ?_)
            refine lv_iinc (v := x3 + 1) (lv' := [(3, .int (x3 + 1)), (2, .int (x2 + (1 + (((S 9 x3.toNatClampNeg) - (S 8 x3.toNatClampNeg)) / 2)))), (4, .int ((S 9 x3.toNatClampNeg) - (S 8 x3.toNatClampNeg))), (0, .ref (h 3)), (1, .int a1)]) hx hb dX3_housesOf_59 hl (k := 4) rfl rfl (by decide) rfl (fun ls hl => ?_)
            refine lv_goto (tgt := 4) hx hb dX3_housesOf_62 (by decide) ?_
            have hinc := i32_inc (x := x3) h0 (by omega)
            exact ih (x2 + (1 + (((S 9 x3.toNatClampNeg) - (S 8 x3.toNatClampNeg)) / 2))) (x3 + 1) _ _ _ ⟨by omega, by omega, by omega, trivial⟩ (by rw [← he, l_R_housesOf_4, if_neg c_2, if_neg c_4, if_neg c_7]) hP hS (lv_sub hl [3, 4, 1, 0] rfl)
          · skip
            have z_0 : ((0) : Int32).toInt = (0) := by decide
            have t_7 := Int32.toInt_inj.symm.mp c_7
            refine lv_iload hx hb dX3_housesOf_47 (lv_at hl 0 rfl) ?_
            refine lv_goto (tgt := 56) hx hb dX3_housesOf_49 (by decide) ?_
            refine lv_iadd hx hb dX3_housesOf_56 ?_
            refine lv_iadd hx hb dX3_housesOf_57 ?_
            refine lv_istore_n (lv' := [(2, .int (x2 + (1 + ((S 9 x3.toNatClampNeg) - (S 8 x3.toNatClampNeg))))), (4, .int ((S 9 x3.toNatClampNeg) - (S 8 x3.toNatClampNeg))), (0, .ref (h 3)), (1, .int a1), (3, .int x3)]) hx hb dX3_housesOf_58 rfl hl (by decide) rfl (fun ls hl => ?_)
            refine lv_iinc (v := x3 + 1) (lv' := [(3, .int (x3 + 1)), (2, .int (x2 + (1 + ((S 9 x3.toNatClampNeg) - (S 8 x3.toNatClampNeg))))), (4, .int ((S 9 x3.toNatClampNeg) - (S 8 x3.toNatClampNeg))), (0, .ref (h 3)), (1, .int a1)]) hx hb dX3_housesOf_59 hl (k := 4) rfl rfl (by decide) rfl (fun ls hl => ?_)
            refine lv_goto (tgt := 4) hx hb dX3_housesOf_62 (by decide) ?_
            have hinc := i32_inc (x := x3) h0 (by omega)
            exact ih (x2 + (1 + ((S 9 x3.toNatClampNeg) - (S 8 x3.toNatClampNeg)))) (x3 + 1) _ _ _ ⟨by omega, by omega, by omega, trivial⟩ (by rw [← he, l_R_housesOf_4, if_neg c_2, if_neg c_4, if_pos c_7]) hP hS (lv_sub hl [3, 4, 1, 0] rfl)
  have hB9 := iv_24 (S := S) hI
  have z_0 : ((0) : Int32).toInt = (0) := by decide
  exact loop4 600 0 0 _ _ _ ⟨by omega, by omega, by omega, trivial⟩ (by rw [f_R_housesOf]) hP hS (lv_sub hl [2, 3, 1, 0] rfl)
set_option maxHeartbeats 4000000 in
set_option maxRecDepth 100000 in
theorem m_R_moveLive (l : Launch) (D : va_G) (h : Nat → Nat) (cI cZ : ClassId) (S : BS) (hI : IV S) (a1 a2 : Int32) (ha1 : 0 ≤ a2.toInt ∧ a2.toInt ≤ 31) : VM l yX3_moveLive wsX3_moveLive { frames := 1, cells := 0, slots := 0, locals := 22 } D cI cZ h S [.ref (h 3), .int a1, .int a2] (F_R_moveLive S a1 a2) := by
  refine Met.ofW (cc := cX3_moveLive) (maxL := 4) (ret := none) (by decide) rfl ?_
  intro p e s m args below meth c s₁ B hml hv
  obtain ⟨rfl, hP, hK, hN, hD0⟩ := hv
  have hx := B.exec
  have hb := B.bytes
  have hr := B.returns
  have hts := atoms_spec (ws := wsX3_moveLive) B.pre
  have hB : ∀ w ∈ BW, w.before _ s = true := fun w h => hts w (List.mem_cons_of_mem _ h)
  have hown : s.vm.findClass RX3 = some m.cls := findClass_of_methodNamed B.named
  have hlocks := B.notSynchronized
  have hD := bD hD0
  have hS : va_S (bA h) s.heap s.heap [] := va_S.rf
  have hl := lv_entry ([.ref (h 3), .int a1, .int a2]) (n := 4) (Nat.le_of_ble_eq_true rfl)
  rw [lg_entry_eq]
  generalize (lg_sl ([.ref (h 3), .int a1, .int a2]) ++ List.replicate (4 - (lg_sl ([.ref (h 3), .int a1, .int a2])).length) Slot.unset).toArray = ls at hl ⊢
  have hl : lv_has ls 4 [(0, .ref (h 3)), (1, .int a1), (2, .int a2)] := hl
  refine lv_iconst (v := 0) hx hb dX3_moveLive_0 (by decide) ?_
  refine lv_istore_n (lv' := [(3, .int 0), (0, .ref (h 3)), (1, .int a1), (2, .int a2)]) hx hb dX3_moveLive_1 rfl hl (by decide) rfl (fun ls hl => ?_)
  have loop2 : ∀ (n : Nat) (Z : BS) (x3 : Int32) (H : Heap) (locs : List Loc) (ls : Array Slot), IV Z → (0 ≤ x3.toInt ∧ x3.toInt ≤ (Z 24 0 : Int32).toInt ∧ (Z 24 0 : Int32).toInt - x3.toInt < (n : Int) ∧ True) → l_R_moveLive_2 a1 a2 n Z x3 = F_R_moveLive S a1 a2 → va_P D vwCl (wB h cI cZ Z) H → va_D (bA h) (wB h cI cZ Z) → va_S (bA h) s.heap H locs → lv_has ls 4 [(0, .ref (h 3)), (1, .int a1), (2, .int a2), (3, .int x3)] → W p l e (headSpec wsX3_moveLive { frames := 1, cells := 0, slots := 0, locals := 22 }).room s m ([.ref (h 3), .int a1, .int a2]).toArray below meth c H locs 0 0 (MQ below (VQ D cI cZ h (F_R_moveLive S a1 a2)) ([.ref (h 3), .int a1, .int a2]).toArray s 0 0 (bA h)) (F0 m 2 ls []) := by
    intro n
    induction n with
    | zero =>
      intro Z x3 H locs ls hI hinv he hP hD hS hl
      obtain ⟨h0, hle, hm, hex⟩ := hinv
      exact absurd hm (by omega)
    | succ n ih =>
      intro Z x3 H locs ls hI hinv he hP hD hS hl
      obtain ⟨h0, hle, hm, hex⟩ := hinv
      have hBd := iv_24 hI
      refine lv_iload_n hx hb dX3_moveLive_2 rfl (lv_at hl 3 rfl) ?_
      refine lv_aload_n hx hb dX3_moveLive_3 rfl (lv_at hl 0 rfl) ?_
      refine va_get (D := D) (ci := 3) (v := .int (Z 24 0)) (C := RX3) (T := TX3) (N := 6) hx hb hB inX3 hown hK hP 3 rfl rfl 5 (by decide) (hB _ k1_75) (fun _ h9 => h9) rfl dX3_moveLive_4 ?_
      have b_1 : (0) ≤ (Z 24 0).toInt ∧ (Z 24 0).toInt ≤ 80 := iv_24 (S := Z) hI
      refine lv_icmp_ge (tgt := 32) hx hb dX3_moveLive_7 (by decide) (fun c_2 => ?_) (fun c_2 => ?_)
      · skip
        have t_2 := Int32.le_iff_toInt_le.mp c_2
        exact W.vret hx hb hr (fun t ht hW => ⟨⟨Z, rfl, ⟨(by rw [← he, l_R_moveLive_2, if_pos c_2]), hI⟩, by show va_P D vwCl _ t.heap; rw [ht]; exact hP⟩, hS.F ht⟩) hS.2.2 dX3_moveLive_32
      · skip
        have t_2 := mt Int32.le_iff_toInt_le.mpr c_2
        refine lv_aload_n hx hb dX3_moveLive_10 rfl (lv_at hl 0 rfl) ?_
        refine lv_iload_n hx hb dX3_moveLive_11 rfl (lv_at hl 3 rfl) ?_
        refine lv_iload_n hx hb dX3_moveLive_12 rfl (lv_at hl 1 rfl) ?_
        refine pu_call (va_runV (As := [.int x3, .int a1]) (rest := []) ⟨hx, hb, hml, hown, hB⟩ (m_R_isLiveOf l D h cI cZ Z hI x3 a1 (by omega)) (cwV 2 hB (gV k2_18 k2_20 ks_31 k1_4 k2_21) rfl rfl rfl (by decide +kernel) ⟨Nat.le_of_ble_eq_true rfl, Nat.le_of_ble_eq_true rfl⟩) ⟨pu_blind, va_recv hK hP (ci := 3) (q0 := 3) rfl rfl, pu_pre hP hK hN⟩ rfl rfl hl.1 rfl (lv_room (Nat.le_of_ble_eq_true rfl)) dX3_moveLive_13 ⟨Nat.le_of_ble_eq_true rfl, Nat.le_of_ble_eq_true rfl⟩) hP hS (fun H locs hP hS => ?_)
        refine lv_if_eq (tgt := 26) hx hb dX3_moveLive_16 (by decide) (fun c_4 => ?_) (fun c_4 => ?_)
        · skip
          refine lv_iinc (v := x3 + 1) (lv' := [(3, .int (x3 + 1)), (0, .ref (h 3)), (1, .int a1), (2, .int a2)]) hx hb dX3_moveLive_26 hl (k := 3) rfl rfl (by decide) rfl (fun ls hl => ?_)
          refine lv_goto (tgt := 2) hx hb dX3_moveLive_29 (by decide) ?_
          have hinc := i32_inc (x := x3) h0 (by omega)
          have e9 : (Z) 24 0 = Z 24 0 := rfl
          exact ih Z (x3 + 1) _ _ _ hI ⟨by omega, by rw [e9]; omega, by rw [e9]; omega, trivial⟩ (by rw [← he, l_R_moveLive_2, if_neg c_2, if_pos c_4]) hP hD hS (lv_sub hl [1, 2, 3, 0] rfl)
        · skip
          refine lv_aload_n hx hb dX3_moveLive_19 rfl (lv_at hl 0 rfl) ?_
          refine va_get (D := D) (ci := 3) (v := .ref (h 12)) (C := RX3) (T := TX3) (N := 6) hx hb hB inX3 hown hK hP 3 rfl rfl 0 (by decide) (hB _ k1_65) (fun _ h9 => h9) rfl dX3_moveLive_20 ?_
          refine lv_iload_n hx hb dX3_moveLive_23 rfl (lv_at hl 3 rfl) ?_
          refine lv_iload_n hx hb dX3_moveLive_24 rfl (lv_at hl 2 rfl) ?_
          refine wst_6 (S := Z) hx hb hK hP hD hS (vp_in_iff.mpr (by omega)) dX3_moveLive_25 (fun H locs hP hD hS => ?_)
          have hI_5 : IV (upS 6 x3.toNatClampNeg a2 Z) := iv_up (S := Z) hI 6 x3.toNatClampNeg a2 (iv_one 6 (0) 31 rfl (by omega))
          refine lv_iinc (v := x3 + 1) (lv' := [(3, .int (x3 + 1)), (0, .ref (h 3)), (1, .int a1), (2, .int a2)]) hx hb dX3_moveLive_26 hl (k := 3) rfl rfl (by decide) rfl (fun ls hl => ?_)
          refine lv_goto (tgt := 2) hx hb dX3_moveLive_29 (by decide) ?_
          have hinc := i32_inc (x := x3) h0 (by omega)
          have e9 : (upS 6 x3.toNatClampNeg a2 Z) 24 0 = Z 24 0 := rfl
          exact ih (upS 6 x3.toNatClampNeg a2 Z) (x3 + 1) _ _ _ hI_5 ⟨by omega, by rw [e9]; omega, by rw [e9]; omega, trivial⟩ (by rw [← he, l_R_moveLive_2, if_neg c_2, if_neg c_4]) hP hD hS (lv_sub hl [1, 2, 3, 0] rfl)
  have hB9 := iv_24 (S := S) hI
  have z_0 : ((0) : Int32).toInt = (0) := by decide
  exact loop2 600 S 0 _ _ _ hI ⟨by omega, by omega, by omega, trivial⟩ (by rw [F_R_moveLive]) hP hD hS (lv_sub hl [1, 2, 3, 0] rfl)
set_option maxHeartbeats 4000000 in
set_option maxRecDepth 100000 in
theorem m_Q_has (l : Launch) (D : va_G) (h : Nat → Nat) (cI cZ : ClassId) (S : BS) (hI : IV S) (a1 : Int32) : PM l yX4_has wsX4_has { frames := 0, cells := 0, slots := 0, locals := 0 } D cI cZ h S [.ref (h 4), .int a1] (f_Q_has S a1) := by
  refine Met.ofW (cc := cX4_has) (maxL := 2) (ret := (some .boolean)) (by decide) rfl ?_
  intro p e s m args below meth c s₁ B hml hv
  obtain ⟨rfl, hP, hK, hN⟩ := hv
  have hx := B.exec
  have hb := B.bytes
  have hr := B.returns
  have hts := atoms_spec (ws := wsX4_has) B.pre
  have hB : ∀ w ∈ BW, w.before _ s = true := fun w h => hts w (List.mem_cons_of_mem _ h)
  have hown : s.vm.findClass RX4 = some m.cls := findClass_of_methodNamed B.named
  have hlocks := B.notSynchronized
  have hS : va_S (fun _ => False) s.heap s.heap [] := va_S.rf
  have hl := lv_entry ([.ref (h 4), .int a1]) (n := 2) (Nat.le_of_ble_eq_true rfl)
  rw [lg_entry_eq]
  generalize (lg_sl ([.ref (h 4), .int a1]) ++ List.replicate (2 - (lg_sl ([.ref (h 4), .int a1])).length) Slot.unset).toArray = ls at hl ⊢
  have hl : lv_has ls 2 [(0, .ref (h 4)), (1, .int a1)] := hl
  refine lv_iload_n hx hb dX4_has_0 rfl (lv_at hl 1 rfl) ?_
  refine lv_if_lt (tgt := 16) hx hb dX4_has_1 (by decide) (fun c_1 => ?_) (fun c_1 => ?_)
  · skip
    have z_0 : ((0) : Int32).toInt = (0) := by decide
    have t_1 := Int32.lt_iff_toInt_lt.mp c_1
    refine lv_iconst (v := 0) hx hb dX4_has_16 (by decide) ?_
    exact W.zret (v := 0) hx hb hr (by decide) (fun t ht hW => ⟨⟨0, (), rfl, (by rw [f_Q_has, if_pos c_1]), trivial⟩, hS.F ht⟩) hS.2.2 dX4_has_17
  · skip
    have z_0 : ((0) : Int32).toInt = (0) := by decide
    have t_1 := mt Int32.lt_iff_toInt_lt.mpr c_1
    refine lv_iload_n hx hb dX4_has_4 rfl (lv_at hl 1 rfl) ?_
    refine lv_aload_n hx hb dX4_has_5 rfl (lv_at hl 0 rfl) ?_
    refine va_get (D := D) (ci := 4) (v := .int (S 25 0)) (C := RX4) (T := TX4) (N := 6) hx hb hB inX4 hown hK hP 4 rfl rfl 5 (by decide) (hB _ k1_105) (fun _ h9 => h9) rfl dX4_has_6 ?_
    have b_2 : (0) ≤ (S 25 0).toInt ∧ (S 25 0).toInt ≤ 120 := iv_25 (S := S) hI
    refine lv_icmp_ge (tgt := 16) hx hb dX4_has_9 (by decide) (fun c_3 => ?_) (fun c_3 => ?_)
    · skip
      have t_3 := Int32.le_iff_toInt_le.mp c_3
      refine lv_iconst (v := 0) hx hb dX4_has_16 (by decide) ?_
      exact W.zret (v := 0) hx hb hr (by decide) (fun t ht hW => ⟨⟨0, (), rfl, (by rw [f_Q_has, if_neg c_1, if_pos c_3]), trivial⟩, hS.F ht⟩) hS.2.2 dX4_has_17
    · skip
      have t_3 := mt Int32.le_iff_toInt_le.mpr c_3
      refine lv_iconst (v := 1) hx hb dX4_has_12 (by decide) ?_
      refine lv_goto (tgt := 17) hx hb dX4_has_13 (by decide) ?_
      exact W.zret (v := 1) hx hb hr (by decide) (fun t ht hW => ⟨⟨1, (), rfl, (by rw [f_Q_has, if_neg c_1, if_neg c_3]), trivial⟩, hS.F ht⟩) hS.2.2 dX4_has_17
set_option maxHeartbeats 4000000 in
set_option maxRecDepth 100000 in
theorem m_Q_isFull (l : Launch) (D : va_G) (h : Nat → Nat) (cI cZ : ClassId) (S : BS) (hI : IV S) : PM l yX4_isFull wsX4_isFull { frames := 0, cells := 0, slots := 0, locals := 0 } D cI cZ h S [.ref (h 4)] (f_Q_isFull S) := by
  refine Met.ofW (cc := cX4_isFull) (maxL := 1) (ret := (some .boolean)) (by decide) rfl ?_
  intro p e s m args below meth c s₁ B hml hv
  obtain ⟨rfl, hP, hK, hN⟩ := hv
  have hx := B.exec
  have hb := B.bytes
  have hr := B.returns
  have hts := atoms_spec (ws := wsX4_isFull) B.pre
  have hB : ∀ w ∈ BW, w.before _ s = true := fun w h => hts w (List.mem_cons_of_mem _ h)
  have hown : s.vm.findClass RX4 = some m.cls := findClass_of_methodNamed B.named
  have hlocks := B.notSynchronized
  have hS : va_S (fun _ => False) s.heap s.heap [] := va_S.rf
  have hl := lv_entry ([.ref (h 4)]) (n := 1) (Nat.le_of_ble_eq_true rfl)
  rw [lg_entry_eq]
  generalize (lg_sl ([.ref (h 4)]) ++ List.replicate (1 - (lg_sl ([.ref (h 4)])).length) Slot.unset).toArray = ls at hl ⊢
  have hl : lv_has ls 1 [(0, .ref (h 4))] := hl
  refine lv_aload_n hx hb dX4_isFull_0 rfl (lv_at hl 0 rfl) ?_
  refine va_get (D := D) (ci := 4) (v := .int (S 25 0)) (C := RX4) (T := TX4) (N := 6) hx hb hB inX4 hown hK hP 4 rfl rfl 5 (by decide) (hB _ k1_105) (fun _ h9 => h9) rfl dX4_isFull_1 ?_
  have b_1 : (0) ≤ (S 25 0).toInt ∧ (S 25 0).toInt ≤ 120 := iv_25 (S := S) hI
  refine lv_bipush (v := 120) hx hb dX4_isFull_4 (by decide) ?_
  refine lv_icmp_lt (tgt := 13) hx hb dX4_isFull_6 (by decide) (fun c_2 => ?_) (fun c_2 => ?_)
  · skip
    have z_120 : ((120) : Int32).toInt = (120) := by decide
    have t_2 := Int32.lt_iff_toInt_lt.mp c_2
    refine lv_iconst (v := 0) hx hb dX4_isFull_13 (by decide) ?_
    exact W.zret (v := 0) hx hb hr (by decide) (fun t ht hW => ⟨⟨0, (), rfl, (by rw [f_Q_isFull, if_pos c_2]), trivial⟩, hS.F ht⟩) hS.2.2 dX4_isFull_14
  · skip
    have z_120 : ((120) : Int32).toInt = (120) := by decide
    have t_2 := mt Int32.lt_iff_toInt_lt.mpr c_2
    refine lv_iconst (v := 1) hx hb dX4_isFull_9 (by decide) ?_
    refine lv_goto (tgt := 14) hx hb dX4_isFull_10 (by decide) ?_
    exact W.zret (v := 1) hx hb hr (by decide) (fun t ht hW => ⟨⟨1, (), rfl, (by rw [f_Q_isFull, if_neg c_2]), trivial⟩, hS.F ht⟩) hS.2.2 dX4_isFull_14
set_option maxHeartbeats 4000000 in
set_option maxRecDepth 100000 in
theorem m_Q_add (l : Launch) (D : va_G) (h : Nat → Nat) (cI cZ : ClassId) (S : BS) (hI : IV S) (a1 a2 a3 : Int32) (hroom : (S 25 0).toInt < 120) (ha0 : 0 ≤ a1.toInt ∧ a1.toInt ≤ 79) (ha1 : 0 ≤ a2.toInt ∧ a2.toInt ≤ 31) : WM l yX4_add wsX4_add { frames := 0, cells := 0, slots := 0, locals := 0 } D cI cZ h S [.ref (h 4), .int a1, .int a2, .int a3] (F_Q_add S a1 a2 a3) := by
  refine Met.ofW (cc := cX4_add) (maxL := 4) (ret := (some .int)) (by decide) rfl ?_
  intro p e s m args below meth c s₁ B hml hv
  obtain ⟨rfl, hP, hK, hN, hD0⟩ := hv
  have hx := B.exec
  have hb := B.bytes
  have hr := B.returns
  have hts := atoms_spec (ws := wsX4_add) B.pre
  have hB : ∀ w ∈ BW, w.before _ s = true := fun w h => hts w (List.mem_cons_of_mem _ h)
  have hown : s.vm.findClass RX4 = some m.cls := findClass_of_methodNamed B.named
  have hlocks := B.notSynchronized
  have hD := bD hD0
  have hS : va_S (bA h) s.heap s.heap [] := va_S.rf
  have hl := lv_entry ([.ref (h 4), .int a1, .int a2, .int a3]) (n := 4) (Nat.le_of_ble_eq_true rfl)
  rw [lg_entry_eq]
  generalize (lg_sl ([.ref (h 4), .int a1, .int a2, .int a3]) ++ List.replicate (4 - (lg_sl ([.ref (h 4), .int a1, .int a2, .int a3])).length) Slot.unset).toArray = ls at hl ⊢
  have hl : lv_has ls 4 [(0, .ref (h 4)), (1, .int a1), (2, .int a2), (3, .int a3)] := hl
  refine lv_aload_n hx hb dX4_add_0 rfl (lv_at hl 0 rfl) ?_
  refine va_get (D := D) (ci := 4) (v := .ref (h 17)) (C := RX4) (T := TX4) (N := 6) hx hb hB inX4 hown hK hP 4 rfl rfl 0 (by decide) (hB _ k1_95) (fun _ h9 => h9) rfl dX4_add_1 ?_
  refine lv_aload_n hx hb dX4_add_4 rfl (lv_at hl 0 rfl) ?_
  refine va_get (D := D) (ci := 4) (v := .int (S 25 0)) (C := RX4) (T := TX4) (N := 6) hx hb hB inX4 hown hK hP 4 rfl rfl 5 (by decide) (hB _ k1_105) (fun _ h9 => h9) rfl dX4_add_5 ?_
  have b_1 : (0) ≤ (S 25 0).toInt ∧ (S 25 0).toInt ≤ 120 := iv_25 (S := S) hI
  refine lv_iload_n hx hb dX4_add_8 rfl (lv_at hl 1 rfl) ?_
  refine wst_11 (S := S) hx hb hK hP hD hS (vp_in_iff.mpr (by omega)) dX4_add_9 (fun H locs hP hD hS => ?_)
  have hI_2 : IV (upS 11 ((S 25 0).toNatClampNeg) a1 S) := iv_up (S := S) hI 11 ((S 25 0).toNatClampNeg) a1 (iv_one 11 (0) 79 rfl (by omega))
  refine lv_aload_n hx hb dX4_add_10 rfl (lv_at hl 0 rfl) ?_
  refine va_get (D := D) (ci := 4) (v := .ref (h 18)) (C := RX4) (T := TX4) (N := 6) hx hb hB inX4 hown hK hP 4 rfl rfl 1 (by decide) (hB _ k1_97) (fun _ h9 => h9) rfl dX4_add_11 ?_
  refine lv_aload_n hx hb dX4_add_14 rfl (lv_at hl 0 rfl) ?_
  refine va_get (D := D) (ci := 4) (v := .int (S 25 0)) (C := RX4) (T := TX4) (N := 6) hx hb hB inX4 hown hK hP 4 rfl rfl 5 (by decide) (hB _ k1_105) (fun _ h9 => h9) rfl dX4_add_15 ?_
  have b_3 : (0) ≤ (S 25 0).toInt ∧ (S 25 0).toInt ≤ 120 := iv_25 (S := upS 11 ((S 25 0).toNatClampNeg) a1 S) hI_2
  refine lv_iload_n hx hb dX4_add_18 rfl (lv_at hl 2 rfl) ?_
  refine wst_12 (S := upS 11 ((S 25 0).toNatClampNeg) a1 S) hx hb hK hP hD hS (vp_in_iff.mpr (by omega)) dX4_add_19 (fun H locs hP hD hS => ?_)
  have hI_4 : IV (upS 12 ((S 25 0).toNatClampNeg) a2 (upS 11 ((S 25 0).toNatClampNeg) a1 S)) := iv_up (S := upS 11 ((S 25 0).toNatClampNeg) a1 S) hI_2 12 ((S 25 0).toNatClampNeg) a2 (iv_one 12 (0) 31 rfl (by omega))
  refine lv_aload_n hx hb dX4_add_20 rfl (lv_at hl 0 rfl) ?_
  refine va_get (D := D) (ci := 4) (v := .ref (h 19)) (C := RX4) (T := TX4) (N := 6) hx hb hB inX4 hown hK hP 4 rfl rfl 2 (by decide) (hB _ k1_99) (fun _ h9 => h9) rfl dX4_add_21 ?_
  refine lv_aload_n hx hb dX4_add_24 rfl (lv_at hl 0 rfl) ?_
  refine va_get (D := D) (ci := 4) (v := .int (S 25 0)) (C := RX4) (T := TX4) (N := 6) hx hb hB inX4 hown hK hP 4 rfl rfl 5 (by decide) (hB _ k1_105) (fun _ h9 => h9) rfl dX4_add_25 ?_
  have b_5 : (0) ≤ (S 25 0).toInt ∧ (S 25 0).toInt ≤ 120 := iv_25 (S := upS 12 ((S 25 0).toNatClampNeg) a2 (upS 11 ((S 25 0).toNatClampNeg) a1 S)) hI_4
  refine lv_iload_n hx hb dX4_add_28 rfl (lv_at hl 3 rfl) ?_
  refine wst_13 (S := upS 12 ((S 25 0).toNatClampNeg) a2 (upS 11 ((S 25 0).toNatClampNeg) a1 S)) hx hb hK hP hD hS (vp_in_iff.mpr (by omega)) dX4_add_29 (fun H locs hP hD hS => ?_)
  have hI_6 : IV (upS 13 ((S 25 0).toNatClampNeg) a3 (upS 12 ((S 25 0).toNatClampNeg) a2 (upS 11 ((S 25 0).toNatClampNeg) a1 S))) := iv_up (S := upS 12 ((S 25 0).toNatClampNeg) a2 (upS 11 ((S 25 0).toNatClampNeg) a1 S)) hI_4 13 ((S 25 0).toNatClampNeg) a3 (iv_none 13 rfl)
  refine lv_aload_n hx hb dX4_add_30 rfl (lv_at hl 0 rfl) ?_
  refine va_get (D := D) (ci := 4) (v := .ref (h 21)) (C := RX4) (T := TX4) (N := 6) hx hb hB inX4 hown hK hP 4 rfl rfl 4 (by decide) (hB _ k1_103) (fun _ h9 => h9) rfl dX4_add_31 ?_
  refine lv_aload_n hx hb dX4_add_34 rfl (lv_at hl 0 rfl) ?_
  refine va_get (D := D) (ci := 4) (v := .int (S 25 0)) (C := RX4) (T := TX4) (N := 6) hx hb hB inX4 hown hK hP 4 rfl rfl 5 (by decide) (hB _ k1_105) (fun _ h9 => h9) rfl dX4_add_35 ?_
  have b_7 : (0) ≤ (S 25 0).toInt ∧ (S 25 0).toInt ≤ 120 := iv_25 (S := upS 13 ((S 25 0).toNatClampNeg) a3 (upS 12 ((S 25 0).toNatClampNeg) a2 (upS 11 ((S 25 0).toNatClampNeg) a1 S))) hI_6
  refine lv_iconst (v := 1) hx hb dX4_add_38 (by decide) ?_
  refine wst_15 (S := upS 13 ((S 25 0).toNatClampNeg) a3 (upS 12 ((S 25 0).toNatClampNeg) a2 (upS 11 ((S 25 0).toNatClampNeg) a1 S))) hx hb hK hP hD hS (vp_in_iff.mpr (by omega)) (by first | rfl | decide) dX4_add_39 (fun H locs hP hD hS => ?_)
  have hI_8 : IV (upS 15 ((S 25 0).toNatClampNeg) 1 (upS 13 ((S 25 0).toNatClampNeg) a3 (upS 12 ((S 25 0).toNatClampNeg) a2 (upS 11 ((S 25 0).toNatClampNeg) a1 S)))) := iv_up (S := upS 13 ((S 25 0).toNatClampNeg) a3 (upS 12 ((S 25 0).toNatClampNeg) a2 (upS 11 ((S 25 0).toNatClampNeg) a1 S))) hI_6 15 ((S 25 0).toNatClampNeg) 1 (iv_one 15 (0) 1 rfl (by decide))
  refine lv_aload_n hx hb dX4_add_40 rfl (lv_at hl 0 rfl) ?_
  refine lv_dup hx hb dX4_add_41 rfl ?_
  refine va_get (D := D) (ci := 4) (v := .int (S 25 0)) (C := RX4) (T := TX4) (N := 6) hx hb hB inX4 hown hK hP 4 rfl rfl 5 (by decide) (hB _ k1_105) (fun _ h9 => h9) rfl dX4_add_42 ?_
  have b_9 : (0) ≤ (S 25 0).toInt ∧ (S 25 0).toInt ≤ 120 := iv_25 (S := upS 15 ((S 25 0).toNatClampNeg) 1 (upS 13 ((S 25 0).toNatClampNeg) a3 (upS 12 ((S 25 0).toNatClampNeg) a2 (upS 11 ((S 25 0).toNatClampNeg) a1 S)))) hI_8
  refine lv_iconst (v := 1) hx hb dX4_add_45 (by decide) ?_
  refine lv_iadd hx hb dX4_add_46 ?_
  refine wpf_25 (S := upS 15 ((S 25 0).toNatClampNeg) 1 (upS 13 ((S 25 0).toNatClampNeg) a3 (upS 12 ((S 25 0).toNatClampNeg) a2 (upS 11 ((S 25 0).toNatClampNeg) a1 S)))) hx hb hB hown hK hP hD hS (hB _ k1_105) dX4_add_47 (fun H locs hP hD hS => ?_)
  have k_11 := i32_inc (x := (S 25 0)) (by omega) (by omega)
  have hI_10 : IV (upS 25 0 ((S 25 0) + 1) (upS 15 ((S 25 0).toNatClampNeg) 1 (upS 13 ((S 25 0).toNatClampNeg) a3 (upS 12 ((S 25 0).toNatClampNeg) a2 (upS 11 ((S 25 0).toNatClampNeg) a1 S))))) := iv_up (S := upS 15 ((S 25 0).toNatClampNeg) 1 (upS 13 ((S 25 0).toNatClampNeg) a3 (upS 12 ((S 25 0).toNatClampNeg) a2 (upS 11 ((S 25 0).toNatClampNeg) a1 S)))) hI_8 25 0 ((S 25 0) + 1) (iv_one 25 (0) 120 rfl (by omega))
  refine lv_aload_n hx hb dX4_add_50 rfl (lv_at hl 0 rfl) ?_
  refine va_get (D := D) (ci := 4) (v := .int ((S 25 0) + 1)) (C := RX4) (T := TX4) (N := 6) hx hb hB inX4 hown hK hP 4 rfl rfl 5 (by decide) (hB _ k1_105) (fun _ h9 => h9) rfl dX4_add_51 ?_
  have b_12 : (0) ≤ ((S 25 0) + 1).toInt ∧ ((S 25 0) + 1).toInt ≤ 120 := iv_25 (S := upS 25 0 ((S 25 0) + 1) (upS 15 ((S 25 0).toNatClampNeg) 1 (upS 13 ((S 25 0).toNatClampNeg) a3 (upS 12 ((S 25 0).toNatClampNeg) a2 (upS 11 ((S 25 0).toNatClampNeg) a1 S))))) hI_10
  refine lv_iconst (v := 1) hx hb dX4_add_54 (by decide) ?_
  refine lv_isub hx hb dX4_add_55 ?_
  exact W.iret (v := ((S 25 0) + 1) - 1) hx hb hr (fun t ht hW => ⟨⟨((S 25 0) + 1) - 1, upS 25 0 ((S 25 0) + 1) (upS 15 ((S 25 0).toNatClampNeg) 1 (upS 13 ((S 25 0).toNatClampNeg) a3 (upS 12 ((S 25 0).toNatClampNeg) a2 (upS 11 ((S 25 0).toNatClampNeg) a1 S)))), rfl, ⟨(by rw [F_Q_add]), hI_10⟩, by show va_P D vwCl _ t.heap; rw [ht]; exact hP⟩, hS.F ht⟩) hS.2.2 dX4_add_56
set_option maxHeartbeats 4000000 in
set_option maxRecDepth 100000 in
theorem m_Y_isFull (l : Launch) (D : va_G) (h : Nat → Nat) (cI cZ : ClassId) (S : BS) (hI : IV S) : PM l yX5_isFull wsX5_isFull { frames := 0, cells := 0, slots := 0, locals := 0 } D cI cZ h S [.ref (h 5)] (f_Y_isFull S) := by
  refine Met.ofW (cc := cX5_isFull) (maxL := 1) (ret := (some .boolean)) (by decide) rfl ?_
  intro p e s m args below meth c s₁ B hml hv
  obtain ⟨rfl, hP, hK, hN⟩ := hv
  have hx := B.exec
  have hb := B.bytes
  have hr := B.returns
  have hts := atoms_spec (ws := wsX5_isFull) B.pre
  have hB : ∀ w ∈ BW, w.before _ s = true := fun w h => hts w (List.mem_cons_of_mem _ h)
  have hown : s.vm.findClass RX5 = some m.cls := findClass_of_methodNamed B.named
  have hlocks := B.notSynchronized
  have hS : va_S (fun _ => False) s.heap s.heap [] := va_S.rf
  have hl := lv_entry ([.ref (h 5)]) (n := 1) (Nat.le_of_ble_eq_true rfl)
  rw [lg_entry_eq]
  generalize (lg_sl ([.ref (h 5)]) ++ List.replicate (1 - (lg_sl ([.ref (h 5)])).length) Slot.unset).toArray = ls at hl ⊢
  have hl : lv_has ls 1 [(0, .ref (h 5))] := hl
  refine lv_aload_n hx hb dX5_isFull_0 rfl (lv_at hl 0 rfl) ?_
  refine va_get (D := D) (ci := 5) (v := .int (S 26 0)) (C := RX5) (T := TX5) (N := 6) hx hb hB inX5 hown hK hP 5 rfl rfl 5 (by decide) (hB _ k1_134) (fun _ h9 => h9) rfl dX5_isFull_1 ?_
  have b_1 : (0) ≤ (S 26 0).toInt ∧ (S 26 0).toInt ≤ 512 := iv_26 (S := S) hI
  refine lv_sipush (v := 512) hx hb dX5_isFull_4 (by decide) ?_
  refine lv_icmp_lt (tgt := 14) hx hb dX5_isFull_7 (by decide) (fun c_2 => ?_) (fun c_2 => ?_)
  · skip
    have z_512 : ((512) : Int32).toInt = (512) := by decide
    have t_2 := Int32.lt_iff_toInt_lt.mp c_2
    refine lv_iconst (v := 0) hx hb dX5_isFull_14 (by decide) ?_
    exact W.zret (v := 0) hx hb hr (by decide) (fun t ht hW => ⟨⟨0, (), rfl, (by rw [f_Y_isFull, if_pos c_2]), trivial⟩, hS.F ht⟩) hS.2.2 dX5_isFull_15
  · skip
    have z_512 : ((512) : Int32).toInt = (512) := by decide
    have t_2 := mt Int32.lt_iff_toInt_lt.mpr c_2
    refine lv_iconst (v := 1) hx hb dX5_isFull_10 (by decide) ?_
    refine lv_goto (tgt := 15) hx hb dX5_isFull_11 (by decide) ?_
    exact W.zret (v := 1) hx hb hr (by decide) (fun t ht hW => ⟨⟨1, (), rfl, (by rw [f_Y_isFull, if_neg c_2]), trivial⟩, hS.F ht⟩) hS.2.2 dX5_isFull_15
set_option maxHeartbeats 4000000 in
set_option maxRecDepth 100000 in
theorem m_Y_begin (l : Launch) (D : va_G) (h : Nat → Nat) (cI cZ : ClassId) (S : BS) (hI : IV S) (a1 a2 a3 : Int32) (hroom : (S 26 0).toInt < 512) (ha0 : 0 ≤ a1.toInt ∧ a1.toInt ≤ 119) (ha1 : 0 ≤ a2.toInt ∧ a2.toInt ≤ 999) : WM l yX5_begin wsX5_begin { frames := 0, cells := 0, slots := 0, locals := 0 } D cI cZ h S [.ref (h 5), .int a1, .int a2, .int a3] (F_Y_begin S a1 a2 a3) := by
  refine Met.ofW (cc := cX5_begin) (maxL := 4) (ret := (some .int)) (by decide) rfl ?_
  intro p e s m args below meth c s₁ B hml hv
  obtain ⟨rfl, hP, hK, hN, hD0⟩ := hv
  have hx := B.exec
  have hb := B.bytes
  have hr := B.returns
  have hts := atoms_spec (ws := wsX5_begin) B.pre
  have hB : ∀ w ∈ BW, w.before _ s = true := fun w h => hts w (List.mem_cons_of_mem _ h)
  have hown : s.vm.findClass RX5 = some m.cls := findClass_of_methodNamed B.named
  have hlocks := B.notSynchronized
  have hD := bD hD0
  have hS : va_S (bA h) s.heap s.heap [] := va_S.rf
  have hl := lv_entry ([.ref (h 5), .int a1, .int a2, .int a3]) (n := 4) (Nat.le_of_ble_eq_true rfl)
  rw [lg_entry_eq]
  generalize (lg_sl ([.ref (h 5), .int a1, .int a2, .int a3]) ++ List.replicate (4 - (lg_sl ([.ref (h 5), .int a1, .int a2, .int a3])).length) Slot.unset).toArray = ls at hl ⊢
  have hl : lv_has ls 4 [(0, .ref (h 5)), (1, .int a1), (2, .int a2), (3, .int a3)] := hl
  refine lv_aload_n hx hb dX5_begin_0 rfl (lv_at hl 0 rfl) ?_
  refine va_get (D := D) (ci := 5) (v := .ref (h 22)) (C := RX5) (T := TX5) (N := 6) hx hb hB inX5 hown hK hP 5 rfl rfl 0 (by decide) (hB _ k1_126) (fun _ h9 => h9) rfl dX5_begin_1 ?_
  refine lv_aload_n hx hb dX5_begin_4 rfl (lv_at hl 0 rfl) ?_
  refine va_get (D := D) (ci := 5) (v := .int (S 26 0)) (C := RX5) (T := TX5) (N := 6) hx hb hB inX5 hown hK hP 5 rfl rfl 5 (by decide) (hB _ k1_134) (fun _ h9 => h9) rfl dX5_begin_5 ?_
  have b_1 : (0) ≤ (S 26 0).toInt ∧ (S 26 0).toInt ≤ 512 := iv_26 (S := S) hI
  refine lv_iload_n hx hb dX5_begin_8 rfl (lv_at hl 1 rfl) ?_
  refine wst_16 (S := S) hx hb hK hP hD hS (vp_in_iff.mpr (by omega)) dX5_begin_9 (fun H locs hP hD hS => ?_)
  have hI_2 : IV (upS 16 ((S 26 0).toNatClampNeg) a1 S) := iv_up (S := S) hI 16 ((S 26 0).toNatClampNeg) a1 (iv_one 16 (0) 119 rfl (by omega))
  refine lv_aload_n hx hb dX5_begin_10 rfl (lv_at hl 0 rfl) ?_
  refine va_get (D := D) (ci := 5) (v := .ref (h 23)) (C := RX5) (T := TX5) (N := 6) hx hb hB inX5 hown hK hP 5 rfl rfl 1 (by decide) (hB _ k1_128) (fun _ h9 => h9) rfl dX5_begin_11 ?_
  refine lv_aload_n hx hb dX5_begin_14 rfl (lv_at hl 0 rfl) ?_
  refine va_get (D := D) (ci := 5) (v := .int (S 26 0)) (C := RX5) (T := TX5) (N := 6) hx hb hB inX5 hown hK hP 5 rfl rfl 5 (by decide) (hB _ k1_134) (fun _ h9 => h9) rfl dX5_begin_15 ?_
  have b_3 : (0) ≤ (S 26 0).toInt ∧ (S 26 0).toInt ≤ 512 := iv_26 (S := upS 16 ((S 26 0).toNatClampNeg) a1 S) hI_2
  refine lv_iload_n hx hb dX5_begin_18 rfl (lv_at hl 2 rfl) ?_
  refine wst_17 (S := upS 16 ((S 26 0).toNatClampNeg) a1 S) hx hb hK hP hD hS (vp_in_iff.mpr (by omega)) dX5_begin_19 (fun H locs hP hD hS => ?_)
  have hI_4 : IV (upS 17 ((S 26 0).toNatClampNeg) a2 (upS 16 ((S 26 0).toNatClampNeg) a1 S)) := iv_up (S := upS 16 ((S 26 0).toNatClampNeg) a1 S) hI_2 17 ((S 26 0).toNatClampNeg) a2 (iv_one 17 (0) 999 rfl (by omega))
  refine lv_aload_n hx hb dX5_begin_20 rfl (lv_at hl 0 rfl) ?_
  refine va_get (D := D) (ci := 5) (v := .ref (h 24)) (C := RX5) (T := TX5) (N := 6) hx hb hB inX5 hown hK hP 5 rfl rfl 2 (by decide) (hB _ k1_130) (fun _ h9 => h9) rfl dX5_begin_21 ?_
  refine lv_aload_n hx hb dX5_begin_24 rfl (lv_at hl 0 rfl) ?_
  refine va_get (D := D) (ci := 5) (v := .int (S 26 0)) (C := RX5) (T := TX5) (N := 6) hx hb hB inX5 hown hK hP 5 rfl rfl 5 (by decide) (hB _ k1_134) (fun _ h9 => h9) rfl dX5_begin_25 ?_
  have b_5 : (0) ≤ (S 26 0).toInt ∧ (S 26 0).toInt ≤ 512 := iv_26 (S := upS 17 ((S 26 0).toNatClampNeg) a2 (upS 16 ((S 26 0).toNatClampNeg) a1 S)) hI_4
  refine lv_iload_n hx hb dX5_begin_28 rfl (lv_at hl 3 rfl) ?_
  refine wst_18 (S := upS 17 ((S 26 0).toNatClampNeg) a2 (upS 16 ((S 26 0).toNatClampNeg) a1 S)) hx hb hK hP hD hS (vp_in_iff.mpr (by omega)) dX5_begin_29 (fun H locs hP hD hS => ?_)
  have hI_6 : IV (upS 18 ((S 26 0).toNatClampNeg) a3 (upS 17 ((S 26 0).toNatClampNeg) a2 (upS 16 ((S 26 0).toNatClampNeg) a1 S))) := iv_up (S := upS 17 ((S 26 0).toNatClampNeg) a2 (upS 16 ((S 26 0).toNatClampNeg) a1 S)) hI_4 18 ((S 26 0).toNatClampNeg) a3 (iv_none 18 rfl)
  refine lv_aload_n hx hb dX5_begin_30 rfl (lv_at hl 0 rfl) ?_
  refine va_get (D := D) (ci := 5) (v := .ref (h 25)) (C := RX5) (T := TX5) (N := 6) hx hb hB inX5 hown hK hP 5 rfl rfl 3 (by decide) (hB _ k1_131) (fun _ h9 => h9) rfl dX5_begin_31 ?_
  refine lv_aload_n hx hb dX5_begin_34 rfl (lv_at hl 0 rfl) ?_
  refine va_get (D := D) (ci := 5) (v := .int (S 26 0)) (C := RX5) (T := TX5) (N := 6) hx hb hB inX5 hown hK hP 5 rfl rfl 5 (by decide) (hB _ k1_134) (fun _ h9 => h9) rfl dX5_begin_35 ?_
  have b_7 : (0) ≤ (S 26 0).toInt ∧ (S 26 0).toInt ≤ 512 := iv_26 (S := upS 18 ((S 26 0).toNatClampNeg) a3 (upS 17 ((S 26 0).toNatClampNeg) a2 (upS 16 ((S 26 0).toNatClampNeg) a1 S))) hI_6
  refine lv_ldc (v := 1000001) hx hb hown (hB _ k2_79) dX5_begin_38 ?_
  refine wst_19 (S := upS 18 ((S 26 0).toNatClampNeg) a3 (upS 17 ((S 26 0).toNatClampNeg) a2 (upS 16 ((S 26 0).toNatClampNeg) a1 S))) hx hb hK hP hD hS (vp_in_iff.mpr (by omega)) dX5_begin_40 (fun H locs hP hD hS => ?_)
  have hI_8 : IV (upS 19 ((S 26 0).toNatClampNeg) 1000001 (upS 18 ((S 26 0).toNatClampNeg) a3 (upS 17 ((S 26 0).toNatClampNeg) a2 (upS 16 ((S 26 0).toNatClampNeg) a1 S)))) := iv_up (S := upS 18 ((S 26 0).toNatClampNeg) a3 (upS 17 ((S 26 0).toNatClampNeg) a2 (upS 16 ((S 26 0).toNatClampNeg) a1 S))) hI_6 19 ((S 26 0).toNatClampNeg) 1000001 (iv_none 19 rfl)
  refine lv_aload_n hx hb dX5_begin_41 rfl (lv_at hl 0 rfl) ?_
  refine lv_dup hx hb dX5_begin_42 rfl ?_
  refine va_get (D := D) (ci := 5) (v := .int (S 26 0)) (C := RX5) (T := TX5) (N := 6) hx hb hB inX5 hown hK hP 5 rfl rfl 5 (by decide) (hB _ k1_134) (fun _ h9 => h9) rfl dX5_begin_43 ?_
  have b_9 : (0) ≤ (S 26 0).toInt ∧ (S 26 0).toInt ≤ 512 := iv_26 (S := upS 19 ((S 26 0).toNatClampNeg) 1000001 (upS 18 ((S 26 0).toNatClampNeg) a3 (upS 17 ((S 26 0).toNatClampNeg) a2 (upS 16 ((S 26 0).toNatClampNeg) a1 S)))) hI_8
  refine lv_iconst (v := 1) hx hb dX5_begin_46 (by decide) ?_
  refine lv_iadd hx hb dX5_begin_47 ?_
  refine wpf_26 (S := upS 19 ((S 26 0).toNatClampNeg) 1000001 (upS 18 ((S 26 0).toNatClampNeg) a3 (upS 17 ((S 26 0).toNatClampNeg) a2 (upS 16 ((S 26 0).toNatClampNeg) a1 S)))) hx hb hB hown hK hP hD hS (hB _ k1_134) dX5_begin_48 (fun H locs hP hD hS => ?_)
  have k_11 := i32_inc (x := (S 26 0)) (by omega) (by omega)
  have hI_10 : IV (upS 26 0 ((S 26 0) + 1) (upS 19 ((S 26 0).toNatClampNeg) 1000001 (upS 18 ((S 26 0).toNatClampNeg) a3 (upS 17 ((S 26 0).toNatClampNeg) a2 (upS 16 ((S 26 0).toNatClampNeg) a1 S))))) := iv_up (S := upS 19 ((S 26 0).toNatClampNeg) 1000001 (upS 18 ((S 26 0).toNatClampNeg) a3 (upS 17 ((S 26 0).toNatClampNeg) a2 (upS 16 ((S 26 0).toNatClampNeg) a1 S)))) hI_8 26 0 ((S 26 0) + 1) (iv_one 26 (0) 512 rfl (by omega))
  refine lv_aload_n hx hb dX5_begin_51 rfl (lv_at hl 0 rfl) ?_
  refine va_get (D := D) (ci := 5) (v := .int ((S 26 0) + 1)) (C := RX5) (T := TX5) (N := 6) hx hb hB inX5 hown hK hP 5 rfl rfl 5 (by decide) (hB _ k1_134) (fun _ h9 => h9) rfl dX5_begin_52 ?_
  have b_12 : (0) ≤ ((S 26 0) + 1).toInt ∧ ((S 26 0) + 1).toInt ≤ 512 := iv_26 (S := upS 26 0 ((S 26 0) + 1) (upS 19 ((S 26 0).toNatClampNeg) 1000001 (upS 18 ((S 26 0).toNatClampNeg) a3 (upS 17 ((S 26 0).toNatClampNeg) a2 (upS 16 ((S 26 0).toNatClampNeg) a1 S))))) hI_10
  refine lv_iconst (v := 1) hx hb dX5_begin_55 (by decide) ?_
  refine lv_isub hx hb dX5_begin_56 ?_
  exact W.iret (v := ((S 26 0) + 1) - 1) hx hb hr (fun t ht hW => ⟨⟨((S 26 0) + 1) - 1, upS 26 0 ((S 26 0) + 1) (upS 19 ((S 26 0).toNatClampNeg) 1000001 (upS 18 ((S 26 0).toNatClampNeg) a3 (upS 17 ((S 26 0).toNatClampNeg) a2 (upS 16 ((S 26 0).toNatClampNeg) a1 S)))), rfl, ⟨(by rw [F_Y_begin]), hI_10⟩, by show va_P D vwCl _ t.heap; rw [ht]; exact hP⟩, hS.F ht⟩) hS.2.2 dX5_begin_57
set_option maxHeartbeats 4000000 in
set_option maxRecDepth 100000 in
theorem m_Y_end (l : Launch) (D : va_G) (h : Nat → Nat) (cI cZ : ClassId) (S : BS) (hI : IV S) (a1 a2 : Int32) (ha0 : 0 ≤ a1.toInt ∧ a1.toInt ≤ 511) : VM l yX5_end wsX5_end { frames := 0, cells := 0, slots := 0, locals := 0 } D cI cZ h S [.ref (h 5), .int a1, .int a2] (F_Y_end S a1 a2) := by
  refine Met.ofW (cc := cX5_end) (maxL := 3) (ret := none) (by decide) rfl ?_
  intro p e s m args below meth c s₁ B hml hv
  obtain ⟨rfl, hP, hK, hN, hD0⟩ := hv
  have hx := B.exec
  have hb := B.bytes
  have hr := B.returns
  have hts := atoms_spec (ws := wsX5_end) B.pre
  have hB : ∀ w ∈ BW, w.before _ s = true := fun w h => hts w (List.mem_cons_of_mem _ h)
  have hown : s.vm.findClass RX5 = some m.cls := findClass_of_methodNamed B.named
  have hlocks := B.notSynchronized
  have hD := bD hD0
  have hS : va_S (bA h) s.heap s.heap [] := va_S.rf
  have hl := lv_entry ([.ref (h 5), .int a1, .int a2]) (n := 3) (Nat.le_of_ble_eq_true rfl)
  rw [lg_entry_eq]
  generalize (lg_sl ([.ref (h 5), .int a1, .int a2]) ++ List.replicate (3 - (lg_sl ([.ref (h 5), .int a1, .int a2])).length) Slot.unset).toArray = ls at hl ⊢
  have hl : lv_has ls 3 [(0, .ref (h 5)), (1, .int a1), (2, .int a2)] := hl
  refine lv_aload_n hx hb dX5_end_0 rfl (lv_at hl 0 rfl) ?_
  refine va_get (D := D) (ci := 5) (v := .ref (h 25)) (C := RX5) (T := TX5) (N := 6) hx hb hB inX5 hown hK hP 5 rfl rfl 3 (by decide) (hB _ k1_131) (fun _ h9 => h9) rfl dX5_end_1 ?_
  refine lv_iload_n hx hb dX5_end_4 rfl (lv_at hl 1 rfl) ?_
  refine lv_iload_n hx hb dX5_end_5 rfl (lv_at hl 2 rfl) ?_
  refine wst_19 (S := S) hx hb hK hP hD hS (vp_in_iff.mpr (by omega)) dX5_end_6 (fun H locs hP hD hS => ?_)
  have hI_1 : IV (upS 19 a1.toNatClampNeg a2 S) := iv_up (S := S) hI 19 a1.toNatClampNeg a2 (iv_none 19 rfl)
  exact W.vret hx hb hr (fun t ht hW => ⟨⟨upS 19 a1.toNatClampNeg a2 S, rfl, ⟨(by rw [F_Y_end]), hI_1⟩, by show va_P D vwCl _ t.heap; rw [ht]; exact hP⟩, hS.F ht⟩) hS.2.2 dX5_end_7
set_option maxHeartbeats 4000000 in
set_option maxRecDepth 100000 in
theorem m_Y_holdsOn (l : Launch) (D : va_G) (h : Nat → Nat) (cI cZ : ClassId) (S : BS) (hI : IV S) (a1 a2 : Int32) (ha0 : 0 ≤ a1.toInt ∧ a1.toInt ≤ 511) : PM l yX5_holdsOn wsX5_holdsOn { frames := 0, cells := 0, slots := 0, locals := 0 } D cI cZ h S [.ref (h 5), .int a1, .int a2] (f_Y_holdsOn S a1 a2) := by
  refine Met.ofW (cc := cX5_holdsOn) (maxL := 3) (ret := (some .boolean)) (by decide) rfl ?_
  intro p e s m args below meth c s₁ B hml hv
  obtain ⟨rfl, hP, hK, hN⟩ := hv
  have hx := B.exec
  have hb := B.bytes
  have hr := B.returns
  have hts := atoms_spec (ws := wsX5_holdsOn) B.pre
  have hB : ∀ w ∈ BW, w.before _ s = true := fun w h => hts w (List.mem_cons_of_mem _ h)
  have hown : s.vm.findClass RX5 = some m.cls := findClass_of_methodNamed B.named
  have hlocks := B.notSynchronized
  have hS : va_S (fun _ => False) s.heap s.heap [] := va_S.rf
  have hl := lv_entry ([.ref (h 5), .int a1, .int a2]) (n := 3) (Nat.le_of_ble_eq_true rfl)
  rw [lg_entry_eq]
  generalize (lg_sl ([.ref (h 5), .int a1, .int a2]) ++ List.replicate (3 - (lg_sl ([.ref (h 5), .int a1, .int a2])).length) Slot.unset).toArray = ls at hl ⊢
  have hl : lv_has ls 3 [(0, .ref (h 5)), (1, .int a1), (2, .int a2)] := hl
  refine lv_aload_n hx hb dX5_holdsOn_0 rfl (lv_at hl 0 rfl) ?_
  refine va_get (D := D) (ci := 5) (v := .ref (h 24)) (C := RX5) (T := TX5) (N := 6) hx hb hB inX5 hown hK hP 5 rfl rfl 2 (by decide) (hB _ k1_130) (fun _ h9 => h9) rfl dX5_holdsOn_1 ?_
  refine lv_iload_n hx hb dX5_holdsOn_4 rfl (lv_at hl 1 rfl) ?_
  refine va_iald (f := S 18) hx hb hK hP 24 0 rfl rfl (vp_in_iff.mpr (by omega)) dX5_holdsOn_5 ?_
  refine lv_iload_n hx hb dX5_holdsOn_6 rfl (lv_at hl 2 rfl) ?_
  refine lv_icmp_gt (tgt := 24) hx hb dX5_holdsOn_7 (by decide) (fun c_1 => ?_) (fun c_1 => ?_)
  · skip
    have t_1 := Int32.lt_iff_toInt_lt.mp c_1
    refine lv_iconst (v := 0) hx hb dX5_holdsOn_24 (by decide) ?_
    exact W.zret (v := 0) hx hb hr (by decide) (fun t ht hW => ⟨⟨0, (), rfl, (by rw [f_Y_holdsOn, if_pos c_1]), trivial⟩, hS.F ht⟩) hS.2.2 dX5_holdsOn_25
  · skip
    have t_1 := mt Int32.lt_iff_toInt_lt.mpr c_1
    refine lv_iload_n hx hb dX5_holdsOn_10 rfl (lv_at hl 2 rfl) ?_
    refine lv_aload_n hx hb dX5_holdsOn_11 rfl (lv_at hl 0 rfl) ?_
    refine va_get (D := D) (ci := 5) (v := .ref (h 25)) (C := RX5) (T := TX5) (N := 6) hx hb hB inX5 hown hK hP 5 rfl rfl 3 (by decide) (hB _ k1_131) (fun _ h9 => h9) rfl dX5_holdsOn_12 ?_
    refine lv_iload_n hx hb dX5_holdsOn_15 rfl (lv_at hl 1 rfl) ?_
    refine va_iald (f := S 19) hx hb hK hP 25 0 rfl rfl (vp_in_iff.mpr (by omega)) dX5_holdsOn_16 ?_
    refine lv_icmp_ge (tgt := 24) hx hb dX5_holdsOn_17 (by decide) (fun c_2 => ?_) (fun c_2 => ?_)
    · skip
      have t_2 := Int32.le_iff_toInt_le.mp c_2
      refine lv_iconst (v := 0) hx hb dX5_holdsOn_24 (by decide) ?_
      exact W.zret (v := 0) hx hb hr (by decide) (fun t ht hW => ⟨⟨0, (), rfl, (by rw [f_Y_holdsOn, if_neg c_1, if_pos c_2]), trivial⟩, hS.F ht⟩) hS.2.2 dX5_holdsOn_25
    · skip
      have t_2 := mt Int32.le_iff_toInt_le.mpr c_2
      refine lv_iconst (v := 1) hx hb dX5_holdsOn_20 (by decide) ?_
      refine lv_goto (tgt := 25) hx hb dX5_holdsOn_21 (by decide) ?_
      exact W.zret (v := 1) hx hb hr (by decide) (fun t ht hW => ⟨⟨1, (), rfl, (by rw [f_Y_holdsOn, if_neg c_1, if_neg c_2]), trivial⟩, hS.F ht⟩) hS.2.2 dX5_holdsOn_25
set_option maxHeartbeats 4000000 in
set_option maxRecDepth 100000 in
theorem m_Y_ofPointOn (l : Launch) (D : va_G) (h : Nat → Nat) (cI cZ : ClassId) (S : BS) (hI : IV S) (a1 a2 : Int32) : PM l yX5_ofPointOn wsX5_ofPointOn { frames := 1, cells := 0, slots := 0, locals := 22 } D cI cZ h S [.ref (h 5), .int a1, .int a2] (f_Y_ofPointOn S a1 a2) := by
  refine Met.ofW (cc := cX5_ofPointOn) (maxL := 4) (ret := (some .int)) (by decide) rfl ?_
  intro p e s m args below meth c s₁ B hml hv
  obtain ⟨rfl, hP, hK, hN⟩ := hv
  have hx := B.exec
  have hb := B.bytes
  have hr := B.returns
  have hts := atoms_spec (ws := wsX5_ofPointOn) B.pre
  have hB : ∀ w ∈ BW, w.before _ s = true := fun w h => hts w (List.mem_cons_of_mem _ h)
  have hown : s.vm.findClass RX5 = some m.cls := findClass_of_methodNamed B.named
  have hlocks := B.notSynchronized
  have hS : va_S (fun _ => False) s.heap s.heap [] := va_S.rf
  have hl := lv_entry ([.ref (h 5), .int a1, .int a2]) (n := 4) (Nat.le_of_ble_eq_true rfl)
  rw [lg_entry_eq]
  generalize (lg_sl ([.ref (h 5), .int a1, .int a2]) ++ List.replicate (4 - (lg_sl ([.ref (h 5), .int a1, .int a2])).length) Slot.unset).toArray = ls at hl ⊢
  have hl : lv_has ls 4 [(0, .ref (h 5)), (1, .int a1), (2, .int a2)] := hl
  refine lv_iconst (v := 0) hx hb dX5_ofPointOn_0 (by decide) ?_
  refine lv_istore_n (lv' := [(3, .int 0), (0, .ref (h 5)), (1, .int a1), (2, .int a2)]) hx hb dX5_ofPointOn_1 rfl hl (by decide) rfl (fun ls hl => ?_)
  have loop2 : ∀ (n : Nat) (x3 : Int32) (H : Heap) (locs : List Loc) (ls : Array Slot), (0 ≤ x3.toInt ∧ x3.toInt ≤ (S 26 0 : Int32).toInt ∧ (S 26 0 : Int32).toInt - x3.toInt < (n : Int) ∧ True) → l_Y_ofPointOn_2 S a1 a2 n x3 = f_Y_ofPointOn S a1 a2 → va_P D vwCl (wB h cI cZ S) H → va_S (fun _ => False) s.heap H locs → lv_has ls 4 [(0, .ref (h 5)), (1, .int a1), (2, .int a2), (3, .int x3)] → W p l e (headSpec wsX5_ofPointOn { frames := 1, cells := 0, slots := 0, locals := 22 }).room s m ([.ref (h 5), .int a1, .int a2]).toArray below meth c H locs 0 0 (MQ below (PQ (f_Y_ofPointOn S a1 a2)) ([.ref (h 5), .int a1, .int a2]).toArray s 0 0 (fun _ => False)) (F0 m 2 ls []) := by
    intro n
    induction n with
    | zero =>
      intro x3 H locs ls hinv he hP hS hl
      obtain ⟨h0, hle, hm, hex⟩ := hinv
      exact absurd hm (by omega)
    | succ n ih =>
      intro x3 H locs ls hinv he hP hS hl
      obtain ⟨h0, hle, hm, hex⟩ := hinv
      have hBd := iv_26 hI
      refine lv_iload_n hx hb dX5_ofPointOn_2 rfl (lv_at hl 3 rfl) ?_
      refine lv_aload_n hx hb dX5_ofPointOn_3 rfl (lv_at hl 0 rfl) ?_
      refine va_get (D := D) (ci := 5) (v := .int (S 26 0)) (C := RX5) (T := TX5) (N := 6) hx hb hB inX5 hown hK hP 5 rfl rfl 5 (by decide) (hB _ k1_134) (fun _ h9 => h9) rfl dX5_ofPointOn_4 ?_
      have b_1 : (0) ≤ (S 26 0).toInt ∧ (S 26 0).toInt ≤ 512 := iv_26 (S := S) hI
      refine lv_icmp_ge (tgt := 37) hx hb dX5_ofPointOn_7 (by decide) (fun c_2 => ?_) (fun c_2 => ?_)
      · skip
        have t_2 := Int32.le_iff_toInt_le.mp c_2
        refine lv_iconst (v := (-1)) hx hb dX5_ofPointOn_37 (by decide) ?_
        exact W.iret (v := (-1)) hx hb hr (fun t ht hW => ⟨⟨(-1), (), rfl, (by rw [← he, l_Y_ofPointOn_2, if_pos c_2]), trivial⟩, hS.F ht⟩) hS.2.2 dX5_ofPointOn_38
      · skip
        have t_2 := mt Int32.le_iff_toInt_le.mpr c_2
        refine lv_aload_n hx hb dX5_ofPointOn_10 rfl (lv_at hl 0 rfl) ?_
        refine va_get (D := D) (ci := 5) (v := .ref (h 22)) (C := RX5) (T := TX5) (N := 6) hx hb hB inX5 hown hK hP 5 rfl rfl 0 (by decide) (hB _ k1_126) (fun _ h9 => h9) rfl dX5_ofPointOn_11 ?_
        refine lv_iload_n hx hb dX5_ofPointOn_14 rfl (lv_at hl 3 rfl) ?_
        refine va_iald (f := S 16) hx hb hK hP 22 0 rfl rfl (vp_in_iff.mpr (by omega)) dX5_ofPointOn_15 ?_
        have b_3 : (0) ≤ (S 16 x3.toNatClampNeg).toInt ∧ (S 16 x3.toNatClampNeg).toInt ≤ 119 := iv_16 (S := S) hI x3.toNatClampNeg
        refine lv_iload_n hx hb dX5_ofPointOn_16 rfl (lv_at hl 1 rfl) ?_
        refine lv_icmp_ne (tgt := 31) hx hb dX5_ofPointOn_17 (by decide) (fun c_4 => ?_) (fun c_4 => ?_)
        · skip
          refine lv_iinc (v := x3 + 1) (lv' := [(3, .int (x3 + 1)), (0, .ref (h 5)), (1, .int a1), (2, .int a2)]) hx hb dX5_ofPointOn_31 hl (k := 3) rfl rfl (by decide) rfl (fun ls hl => ?_)
          refine lv_goto (tgt := 2) hx hb dX5_ofPointOn_34 (by decide) ?_
          have hinc := i32_inc (x := x3) h0 (by omega)
          exact ih (x3 + 1) _ _ _ ⟨by omega, by omega, by omega, trivial⟩ (by rw [← he, l_Y_ofPointOn_2, if_neg c_2, if_neg c_4]) hP hS (lv_sub hl [1, 2, 3, 0] rfl)
        · skip
          refine lv_aload_n hx hb dX5_ofPointOn_20 rfl (lv_at hl 0 rfl) ?_
          refine lv_iload_n hx hb dX5_ofPointOn_21 rfl (lv_at hl 3 rfl) ?_
          refine lv_iload_n hx hb dX5_ofPointOn_22 rfl (lv_at hl 2 rfl) ?_
          refine pu_call (va_runV (As := [.int x3, .int a2]) (rest := []) ⟨hx, hb, hml, hown, hB⟩ (m_Y_holdsOn l D h cI cZ S hI x3 a2 (by omega)) (cwV 2 hB (gV k2_223 k2_166 ks_62 k1_6 k2_167) rfl rfl rfl (by decide +kernel) ⟨Nat.le_of_ble_eq_true rfl, Nat.le_of_ble_eq_true rfl⟩) ⟨pu_blind, va_recv hK hP (ci := 5) (q0 := 5) rfl rfl, pu_pre hP hK hN⟩ rfl rfl hl.1 rfl (lv_room (Nat.le_of_ble_eq_true rfl)) dX5_ofPointOn_23 ⟨Nat.le_of_ble_eq_true rfl, Nat.le_of_ble_eq_true rfl⟩) hP hS (fun H locs hP hS => ?_)
          refine lv_if_eq (tgt := 31) hx hb dX5_ofPointOn_26 (by decide) (fun c_6 => ?_) (fun c_6 => ?_)
          · skip
            refine lv_iinc (v := x3 + 1) (lv' := [(3, .int (x3 + 1)), (0, .ref (h 5)), (1, .int a1), (2, .int a2)]) hx hb dX5_ofPointOn_31 hl (k := 3) rfl rfl (by decide) rfl (fun ls hl => ?_)
            refine lv_goto (tgt := 2) hx hb dX5_ofPointOn_34 (by decide) ?_
            have hinc := i32_inc (x := x3) h0 (by omega)
            exact ih (x3 + 1) _ _ _ ⟨by omega, by omega, by omega, trivial⟩ (by rw [← he, l_Y_ofPointOn_2, if_neg c_2, if_pos c_4, if_pos c_6]) hP hS (lv_sub hl [1, 2, 3, 0] rfl)
          · skip
            refine lv_iload_n hx hb dX5_ofPointOn_29 rfl (lv_at hl 3 rfl) ?_
            exact W.iret (v := x3) hx hb hr (fun t ht hW => ⟨⟨x3, (), rfl, (by rw [← he, l_Y_ofPointOn_2, if_neg c_2, if_pos c_4, if_neg c_6]), trivial⟩, hS.F ht⟩) hS.2.2 dX5_ofPointOn_30
  have hB9 := iv_26 (S := S) hI
  have z_0 : ((0) : Int32).toInt = (0) := by decide
  exact loop2 600 0 _ _ _ ⟨by omega, by omega, by omega, trivial⟩ (by rw [f_Y_ofPointOn]) hP hS (lv_sub hl [1, 2, 3, 0] rfl)
set_option maxHeartbeats 4000000 in
set_option maxRecDepth 100000 in
theorem m_Y_isLeftShortlyBefore (l : Launch) (D : va_G) (h : Nat → Nat) (cI cZ : ClassId) (S : BS) (hI : IV S) (a1 a2 : Int32) (ha0 : 0 ≤ a1.toInt ∧ a1.toInt ≤ 511) : PM l yX5_isLeftShortlyBefore wsX5_isLeftShortlyBefore { frames := 0, cells := 0, slots := 0, locals := 0 } D cI cZ h S [.ref (h 5), .int a1, .int a2] (f_Y_isLeftShortlyBefore S a1 a2) := by
  refine Met.ofW (cc := cX5_isLeftShortlyBefore) (maxL := 3) (ret := (some .boolean)) (by decide) rfl ?_
  intro p e s m args below meth c s₁ B hml hv
  obtain ⟨rfl, hP, hK, hN⟩ := hv
  have hx := B.exec
  have hb := B.bytes
  have hr := B.returns
  have hts := atoms_spec (ws := wsX5_isLeftShortlyBefore) B.pre
  have hB : ∀ w ∈ BW, w.before _ s = true := fun w h => hts w (List.mem_cons_of_mem _ h)
  have hown : s.vm.findClass RX5 = some m.cls := findClass_of_methodNamed B.named
  have hlocks := B.notSynchronized
  have hS : va_S (fun _ => False) s.heap s.heap [] := va_S.rf
  have hl := lv_entry ([.ref (h 5), .int a1, .int a2]) (n := 3) (Nat.le_of_ble_eq_true rfl)
  rw [lg_entry_eq]
  generalize (lg_sl ([.ref (h 5), .int a1, .int a2]) ++ List.replicate (3 - (lg_sl ([.ref (h 5), .int a1, .int a2])).length) Slot.unset).toArray = ls at hl ⊢
  have hl : lv_has ls 3 [(0, .ref (h 5)), (1, .int a1), (2, .int a2)] := hl
  refine lv_aload_n hx hb dX5_isLeftShortlyBefore_0 rfl (lv_at hl 0 rfl) ?_
  refine va_get (D := D) (ci := 5) (v := .ref (h 26)) (C := RX5) (T := TX5) (N := 6) hx hb hB inX5 hown hK hP 5 rfl rfl 4 (by decide) (hB _ k1_132) (fun _ h9 => h9) rfl dX5_isLeftShortlyBefore_1 ?_
  refine lv_iload_n hx hb dX5_isLeftShortlyBefore_4 rfl (lv_at hl 1 rfl) ?_
  refine va_zald (f := S 20) hx hb hK hP 26 1 rfl rfl (vp_in_iff.mpr (by omega)) dX5_isLeftShortlyBefore_5 ?_
  have b_1 : (0) ≤ (S 20 a1.toNatClampNeg).toInt ∧ (S 20 a1.toNatClampNeg).toInt ≤ 1 := iv_20 (S := S) hI a1.toNatClampNeg
  refine lv_if_eq (tgt := 37) hx hb dX5_isLeftShortlyBefore_6 (by decide) (fun c_2 => ?_) (fun c_2 => ?_)
  · skip
    have z_0 : ((0) : Int32).toInt = (0) := by decide
    have t_2 := Int32.toInt_inj.symm.mp c_2
    refine lv_iconst (v := 0) hx hb dX5_isLeftShortlyBefore_37 (by decide) ?_
    exact W.zret (v := 0) hx hb hr (by decide) (fun t ht hW => ⟨⟨0, (), rfl, (by rw [f_Y_isLeftShortlyBefore, if_pos c_2]), trivial⟩, hS.F ht⟩) hS.2.2 dX5_isLeftShortlyBefore_38
  · skip
    have z_0 : ((0) : Int32).toInt = (0) := by decide
    have t_2 := mt Int32.toInt_inj.mp c_2
    refine lv_aload_n hx hb dX5_isLeftShortlyBefore_9 rfl (lv_at hl 0 rfl) ?_
    refine va_get (D := D) (ci := 5) (v := .ref (h 25)) (C := RX5) (T := TX5) (N := 6) hx hb hB inX5 hown hK hP 5 rfl rfl 3 (by decide) (hB _ k1_131) (fun _ h9 => h9) rfl dX5_isLeftShortlyBefore_10 ?_
    refine lv_iload_n hx hb dX5_isLeftShortlyBefore_13 rfl (lv_at hl 1 rfl) ?_
    refine va_iald (f := S 19) hx hb hK hP 25 0 rfl rfl (vp_in_iff.mpr (by omega)) dX5_isLeftShortlyBefore_14 ?_
    refine lv_iload_n hx hb dX5_isLeftShortlyBefore_15 rfl (lv_at hl 2 rfl) ?_
    refine lv_icmp_gt (tgt := 37) hx hb dX5_isLeftShortlyBefore_16 (by decide) (fun c_3 => ?_) (fun c_3 => ?_)
    · skip
      have t_3 := Int32.lt_iff_toInt_lt.mp c_3
      refine lv_iconst (v := 0) hx hb dX5_isLeftShortlyBefore_37 (by decide) ?_
      exact W.zret (v := 0) hx hb hr (by decide) (fun t ht hW => ⟨⟨0, (), rfl, (by rw [f_Y_isLeftShortlyBefore, if_neg c_2, if_pos c_3]), trivial⟩, hS.F ht⟩) hS.2.2 dX5_isLeftShortlyBefore_38
    · skip
      have t_3 := mt Int32.lt_iff_toInt_lt.mpr c_3
      refine lv_iload_n hx hb dX5_isLeftShortlyBefore_19 rfl (lv_at hl 2 rfl) ?_
      refine lv_aload_n hx hb dX5_isLeftShortlyBefore_20 rfl (lv_at hl 0 rfl) ?_
      refine va_get (D := D) (ci := 5) (v := .ref (h 25)) (C := RX5) (T := TX5) (N := 6) hx hb hB inX5 hown hK hP 5 rfl rfl 3 (by decide) (hB _ k1_131) (fun _ h9 => h9) rfl dX5_isLeftShortlyBefore_21 ?_
      refine lv_iload_n hx hb dX5_isLeftShortlyBefore_24 rfl (lv_at hl 1 rfl) ?_
      refine va_iald (f := S 19) hx hb hK hP 25 0 rfl rfl (vp_in_iff.mpr (by omega)) dX5_isLeftShortlyBefore_25 ?_
      refine lv_isub hx hb dX5_isLeftShortlyBefore_26 ?_
      refine lv_sipush (v := 180) hx hb dX5_isLeftShortlyBefore_27 (by decide) ?_
      refine lv_icmp_ge (tgt := 37) hx hb dX5_isLeftShortlyBefore_30 (by decide) (fun c_4 => ?_) (fun c_4 => ?_)
      · skip
        have z_180 : ((180) : Int32).toInt = (180) := by decide
        have t_4 := Int32.le_iff_toInt_le.mp c_4
        refine lv_iconst (v := 0) hx hb dX5_isLeftShortlyBefore_37 (by decide) ?_
        exact W.zret (v := 0) hx hb hr (by decide) (fun t ht hW => ⟨⟨0, (), rfl, (by rw [f_Y_isLeftShortlyBefore, if_neg c_2, if_neg c_3, if_pos c_4]), trivial⟩, hS.F ht⟩) hS.2.2 dX5_isLeftShortlyBefore_38
      · skip
        have z_180 : ((180) : Int32).toInt = (180) := by decide
        have t_4 := mt Int32.le_iff_toInt_le.mpr c_4
        refine lv_iconst (v := 1) hx hb dX5_isLeftShortlyBefore_33 (by decide) ?_
        refine lv_goto (tgt := 38) hx hb dX5_isLeftShortlyBefore_34 (by decide) ?_
        exact W.zret (v := 1) hx hb hr (by decide) (fun t ht hW => ⟨⟨1, (), rfl, (by rw [f_Y_isLeftShortlyBefore, if_neg c_2, if_neg c_3, if_neg c_4]), trivial⟩, hS.F ht⟩) hS.2.2 dX5_isLeftShortlyBefore_38
set_option maxHeartbeats 4000000 in
set_option maxRecDepth 100000 in
theorem m_Y_isLeftLater (l : Launch) (D : va_G) (h : Nat → Nat) (cI cZ : ClassId) (S : BS) (hI : IV S) (a1 a2 : Int32) (ha0 : 0 ≤ a1.toInt ∧ a1.toInt ≤ 511) (ha1 : 0 ≤ a2.toInt ∧ a2.toInt ≤ 511) : PM l yX5_isLeftLater wsX5_isLeftLater { frames := 0, cells := 0, slots := 0, locals := 0 } D cI cZ h S [.ref (h 5), .int a1, .int a2] (f_Y_isLeftLater S a1 a2) := by
  refine Met.ofW (cc := cX5_isLeftLater) (maxL := 3) (ret := (some .boolean)) (by decide) rfl ?_
  intro p e s m args below meth c s₁ B hml hv
  obtain ⟨rfl, hP, hK, hN⟩ := hv
  have hx := B.exec
  have hb := B.bytes
  have hr := B.returns
  have hts := atoms_spec (ws := wsX5_isLeftLater) B.pre
  have hB : ∀ w ∈ BW, w.before _ s = true := fun w h => hts w (List.mem_cons_of_mem _ h)
  have hown : s.vm.findClass RX5 = some m.cls := findClass_of_methodNamed B.named
  have hlocks := B.notSynchronized
  have hS : va_S (fun _ => False) s.heap s.heap [] := va_S.rf
  have hl := lv_entry ([.ref (h 5), .int a1, .int a2]) (n := 3) (Nat.le_of_ble_eq_true rfl)
  rw [lg_entry_eq]
  generalize (lg_sl ([.ref (h 5), .int a1, .int a2]) ++ List.replicate (3 - (lg_sl ([.ref (h 5), .int a1, .int a2])).length) Slot.unset).toArray = ls at hl ⊢
  have hl : lv_has ls 3 [(0, .ref (h 5)), (1, .int a1), (2, .int a2)] := hl
  refine lv_aload_n hx hb dX5_isLeftLater_0 rfl (lv_at hl 0 rfl) ?_
  refine va_get (D := D) (ci := 5) (v := .ref (h 25)) (C := RX5) (T := TX5) (N := 6) hx hb hB inX5 hown hK hP 5 rfl rfl 3 (by decide) (hB _ k1_131) (fun _ h9 => h9) rfl dX5_isLeftLater_1 ?_
  refine lv_iload_n hx hb dX5_isLeftLater_4 rfl (lv_at hl 1 rfl) ?_
  refine va_iald (f := S 19) hx hb hK hP 25 0 rfl rfl (vp_in_iff.mpr (by omega)) dX5_isLeftLater_5 ?_
  refine lv_aload_n hx hb dX5_isLeftLater_6 rfl (lv_at hl 0 rfl) ?_
  refine va_get (D := D) (ci := 5) (v := .ref (h 25)) (C := RX5) (T := TX5) (N := 6) hx hb hB inX5 hown hK hP 5 rfl rfl 3 (by decide) (hB _ k1_131) (fun _ h9 => h9) rfl dX5_isLeftLater_7 ?_
  refine lv_iload_n hx hb dX5_isLeftLater_10 rfl (lv_at hl 2 rfl) ?_
  refine va_iald (f := S 19) hx hb hK hP 25 0 rfl rfl (vp_in_iff.mpr (by omega)) dX5_isLeftLater_11 ?_
  refine lv_icmp_eq (tgt := 36) hx hb dX5_isLeftLater_12 (by decide) (fun c_1 => ?_) (fun c_1 => ?_)
  · skip
    refine lv_aload_n hx hb dX5_isLeftLater_36 rfl (lv_at hl 0 rfl) ?_
    refine va_get (D := D) (ci := 5) (v := .ref (h 22)) (C := RX5) (T := TX5) (N := 6) hx hb hB inX5 hown hK hP 5 rfl rfl 0 (by decide) (hB _ k1_126) (fun _ h9 => h9) rfl dX5_isLeftLater_37 ?_
    refine lv_iload_n hx hb dX5_isLeftLater_40 rfl (lv_at hl 1 rfl) ?_
    refine va_iald (f := S 16) hx hb hK hP 22 0 rfl rfl (vp_in_iff.mpr (by omega)) dX5_isLeftLater_41 ?_
    have b_2 : (0) ≤ (S 16 a1.toNatClampNeg).toInt ∧ (S 16 a1.toNatClampNeg).toInt ≤ 119 := iv_16 (S := S) hI a1.toNatClampNeg
    refine lv_aload_n hx hb dX5_isLeftLater_42 rfl (lv_at hl 0 rfl) ?_
    refine va_get (D := D) (ci := 5) (v := .ref (h 22)) (C := RX5) (T := TX5) (N := 6) hx hb hB inX5 hown hK hP 5 rfl rfl 0 (by decide) (hB _ k1_126) (fun _ h9 => h9) rfl dX5_isLeftLater_43 ?_
    refine lv_iload_n hx hb dX5_isLeftLater_46 rfl (lv_at hl 2 rfl) ?_
    refine va_iald (f := S 16) hx hb hK hP 22 0 rfl rfl (vp_in_iff.mpr (by omega)) dX5_isLeftLater_47 ?_
    have b_3 : (0) ≤ (S 16 a2.toNatClampNeg).toInt ∧ (S 16 a2.toNatClampNeg).toInt ≤ 119 := iv_16 (S := S) hI a2.toNatClampNeg
    refine lv_icmp_ge (tgt := 55) hx hb dX5_isLeftLater_48 (by decide) (fun c_4 => ?_) (fun c_4 => ?_)
    · skip
      have t_4 := Int32.le_iff_toInt_le.mp c_4
      refine lv_iconst (v := 0) hx hb dX5_isLeftLater_55 (by decide) ?_
      exact W.zret (v := 0) hx hb hr (by decide) (fun t ht hW => ⟨⟨0, (), rfl, (by rw [f_Y_isLeftLater, if_pos c_1, if_pos c_4]), trivial⟩, hS.F ht⟩) hS.2.2 dX5_isLeftLater_56
    · skip
      have t_4 := mt Int32.le_iff_toInt_le.mpr c_4
      refine lv_iconst (v := 1) hx hb dX5_isLeftLater_51 (by decide) ?_
      refine lv_goto (tgt := 56) hx hb dX5_isLeftLater_52 (by decide) ?_
      exact W.zret (v := 1) hx hb hr (by decide) (fun t ht hW => ⟨⟨1, (), rfl, (by rw [f_Y_isLeftLater, if_pos c_1, if_neg c_4]), trivial⟩, hS.F ht⟩) hS.2.2 dX5_isLeftLater_56
  · skip
    refine lv_aload_n hx hb dX5_isLeftLater_15 rfl (lv_at hl 0 rfl) ?_
    refine va_get (D := D) (ci := 5) (v := .ref (h 25)) (C := RX5) (T := TX5) (N := 6) hx hb hB inX5 hown hK hP 5 rfl rfl 3 (by decide) (hB _ k1_131) (fun _ h9 => h9) rfl dX5_isLeftLater_16 ?_
    refine lv_iload_n hx hb dX5_isLeftLater_19 rfl (lv_at hl 1 rfl) ?_
    refine va_iald (f := S 19) hx hb hK hP 25 0 rfl rfl (vp_in_iff.mpr (by omega)) dX5_isLeftLater_20 ?_
    refine lv_aload_n hx hb dX5_isLeftLater_21 rfl (lv_at hl 0 rfl) ?_
    refine va_get (D := D) (ci := 5) (v := .ref (h 25)) (C := RX5) (T := TX5) (N := 6) hx hb hB inX5 hown hK hP 5 rfl rfl 3 (by decide) (hB _ k1_131) (fun _ h9 => h9) rfl dX5_isLeftLater_22 ?_
    refine lv_iload_n hx hb dX5_isLeftLater_25 rfl (lv_at hl 2 rfl) ?_
    refine va_iald (f := S 19) hx hb hK hP 25 0 rfl rfl (vp_in_iff.mpr (by omega)) dX5_isLeftLater_26 ?_
    refine lv_icmp_le (tgt := 34) hx hb dX5_isLeftLater_27 (by decide) (fun c_5 => ?_) (fun c_5 => ?_)
    · skip
      have t_5 := Int32.le_iff_toInt_le.mp c_5
      refine lv_iconst (v := 0) hx hb dX5_isLeftLater_34 (by decide) ?_
      exact W.zret (v := 0) hx hb hr (by decide) (fun t ht hW => ⟨⟨0, (), rfl, (by rw [f_Y_isLeftLater, if_neg c_1, if_pos c_5]), trivial⟩, hS.F ht⟩) hS.2.2 dX5_isLeftLater_35
    · skip
      have t_5 := mt Int32.le_iff_toInt_le.mpr c_5
      refine lv_iconst (v := 1) hx hb dX5_isLeftLater_30 (by decide) ?_
      refine lv_goto (tgt := 35) hx hb dX5_isLeftLater_31 (by decide) ?_
      exact W.zret (v := 1) hx hb hr (by decide) (fun t ht hW => ⟨⟨1, (), rfl, (by rw [f_Y_isLeftLater, if_neg c_1, if_neg c_5]), trivial⟩, hS.F ht⟩) hS.2.2 dX5_isLeftLater_35
