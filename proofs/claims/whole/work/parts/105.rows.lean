set_option maxHeartbeats 4000000 in
set_option maxRecDepth 100000 in
theorem m_A_howManyLiveOf (l : Launch) (D : va_G) (h : Nat → Nat) (cI cZ : ClassId) (S : BS) (hI : IV S) (a1 : Int32) : PM l yX0_howManyLiveOf wsX0_howManyLiveOf { frames := 1, cells := 0, slots := 0, locals := 22 } D cI cZ h S [.ref (h 0), .int a1] (f_A_howManyLiveOf S a1) := by
  refine Met.ofW (cc := cX0_howManyLiveOf) (maxL := 4) (ret := (some .int)) (by decide) rfl ?_
  intro p e s m args below meth c s₁ B hml hv
  obtain ⟨rfl, hP, hK, hN⟩ := hv
  have hx := B.exec
  have hb := B.bytes
  have hr := B.returns
  have hts := atoms_spec (ws := wsX0_howManyLiveOf) B.pre
  have hB : ∀ w ∈ BW, w.before _ s = true := fun w h => hts w (List.mem_cons_of_mem _ h)
  have hown : s.vm.findClass RX0 = some m.cls := findClass_of_methodNamed B.named
  have hlocks := B.notSynchronized
  have hS : va_S (fun _ => False) s.heap s.heap [] := va_S.rf
  have hl := lv_entry ([.ref (h 0), .int a1]) (n := 4) (Nat.le_of_ble_eq_true rfl)
  rw [lg_entry_eq]
  generalize (lg_sl ([.ref (h 0), .int a1]) ++ List.replicate (4 - (lg_sl ([.ref (h 0), .int a1])).length) Slot.unset).toArray = ls at hl ⊢
  have hl : lv_has ls 4 [(0, .ref (h 0)), (1, .int a1)] := hl
  refine lv_iconst (v := 0) hx hb dX0_howManyLiveOf_0 (by decide) ?_
  refine lv_istore_n (lv' := [(2, .int 0), (0, .ref (h 0)), (1, .int a1)]) hx hb dX0_howManyLiveOf_1 rfl hl (by decide) rfl (fun ls hl => ?_)
  refine lv_iconst (v := 0) hx hb dX0_howManyLiveOf_2 (by decide) ?_
  refine lv_istore_n (lv' := [(3, .int 0), (2, .int 0), (0, .ref (h 0)), (1, .int a1)]) hx hb dX0_howManyLiveOf_3 rfl hl (by decide) rfl (fun ls hl => ?_)
  have loop4 : ∀ (n : Nat) (x2 x3 : Int32) (H : Heap) (locs : List Loc) (ls : Array Slot), (0 ≤ x3.toInt ∧ x3.toInt ≤ (S 25 0 : Int32).toInt ∧ (S 25 0 : Int32).toInt - x3.toInt < (n : Int) ∧ True) → l_A_howManyLiveOf_4 S a1 n x2 x3 = f_A_howManyLiveOf S a1 → va_P D vwCl (wB h cI cZ S) H → va_S (fun _ => False) s.heap H locs → lv_has ls 4 [(0, .ref (h 0)), (1, .int a1), (2, .int x2), (3, .int x3)] → W p l e (headSpec wsX0_howManyLiveOf { frames := 1, cells := 0, slots := 0, locals := 22 }).room s m ([.ref (h 0), .int a1]).toArray below meth c H locs 0 0 (MQ below (PQ (f_A_howManyLiveOf S a1)) ([.ref (h 0), .int a1]).toArray s 0 0 (fun _ => False)) (F0 m 4 ls []) := by
    intro n
    induction n with
    | zero =>
      intro x2 x3 H locs ls hinv he hP hS hl
      obtain ⟨h0, hle, hm, hex⟩ := hinv
      exact absurd hm (by omega)
    | succ n ih =>
      intro x2 x3 H locs ls hinv he hP hS hl
      obtain ⟨h0, hle, hm, hex⟩ := hinv
      have hBd := iv_25 hI
      refine lv_iload_n hx hb dX0_howManyLiveOf_4 rfl (lv_at hl 3 rfl) ?_
      refine lv_aload_n hx hb dX0_howManyLiveOf_5 rfl (lv_at hl 0 rfl) ?_
      refine va_get (D := D) (ci := 0) (v := .ref (h 4)) (C := RX0) (T := TX0) (N := 7) hx hb hB inX0 hown hK hP 0 rfl rfl 3 (by decide) (hB _ k1_152) (fun _ h9 => h9) rfl dX0_howManyLiveOf_6 ?_
      refine va_getN (D := D) (ci := 4) (v := .int (S 25 0)) (C := RX4) (T := TX4) (N := 6) hx hb hB inX4 hown hK hP 4 rfl rfl 5 (by decide) (va_Nw.use rfl (hN _ kn_18)) (fun _ h9 => h9) rfl dX0_howManyLiveOf_9 ?_
      have b_1 : (0) ≤ (S 25 0).toInt ∧ (S 25 0).toInt ≤ 120 := iv_25 (S := S) hI
      refine lv_icmp_ge (tgt := 33) hx hb dX0_howManyLiveOf_12 (by decide) (fun c_2 => ?_) (fun c_2 => ?_)
      · skip
        have t_2 := Int32.le_iff_toInt_le.mp c_2
        refine lv_iload_n hx hb dX0_howManyLiveOf_33 rfl (lv_at hl 2 rfl) ?_
        exact W.iret (v := x2) hx hb hr (fun t ht hW => ⟨⟨x2, (), rfl, (by rw [← he, l_A_howManyLiveOf_4, if_pos c_2]), trivial⟩, hS.F ht⟩) hS.2.2 dX0_howManyLiveOf_34
      · skip
        have t_2 := mt Int32.le_iff_toInt_le.mpr c_2
        refine lv_aload_n hx hb dX0_howManyLiveOf_15 rfl (lv_at hl 0 rfl) ?_
        refine lv_iload_n hx hb dX0_howManyLiveOf_16 rfl (lv_at hl 3 rfl) ?_
        refine lv_iload_n hx hb dX0_howManyLiveOf_17 rfl (lv_at hl 1 rfl) ?_
        refine pu_call (va_runV (As := [.int x3, .int a1]) (rest := []) ⟨hx, hb, hml, hown, hB⟩ (m_A_isLiveOf l D h cI cZ S hI x3 a1 (by omega)) (cwV 2 hB (gV k2_117 k2_119 ks_164 k1_1 k2_120) rfl rfl rfl (by decide +kernel) ⟨Nat.le_of_ble_eq_true rfl, Nat.le_of_ble_eq_true rfl⟩) ⟨pu_blind, va_recv hK hP (ci := 0) (q0 := 0) rfl rfl, pu_pre hP hK hN⟩ rfl rfl hl.1 rfl (lv_room (Nat.le_of_ble_eq_true rfl)) dX0_howManyLiveOf_18 ⟨Nat.le_of_ble_eq_true rfl, Nat.le_of_ble_eq_true rfl⟩) hP hS (fun H locs hP hS => ?_)
        refine lv_if_eq (tgt := 27) hx hb dX0_howManyLiveOf_21 (by decide) (fun c_4 => ?_) (fun c_4 => ?_)
        · skip
          refine lv_iinc (v := x3 + 1) (lv' := [(3, .int (x3 + 1)), (0, .ref (h 0)), (1, .int a1), (2, .int x2)]) hx hb dX0_howManyLiveOf_27 hl (k := 3) rfl rfl (by decide) rfl (fun ls hl => ?_)
          refine lv_goto (tgt := 4) hx hb dX0_howManyLiveOf_30 (by decide) ?_
          have hinc := i32_inc (x := x3) h0 (by omega)
          exact ih x2 (x3 + 1) _ _ _ ⟨by omega, by omega, by omega, trivial⟩ (by rw [← he, l_A_howManyLiveOf_4, if_neg c_2, if_pos c_4]) hP hS (lv_sub hl [1, 2, 3, 0] rfl)
        · skip
          refine lv_iinc (v := x2 + 1) (lv' := [(2, .int (x2 + 1)), (0, .ref (h 0)), (1, .int a1), (3, .int x3)]) hx hb dX0_howManyLiveOf_24 hl (k := 2) rfl rfl (by decide) rfl (fun ls hl => ?_)
          refine lv_iinc (v := x3 + 1) (lv' := [(3, .int (x3 + 1)), (2, .int (x2 + 1)), (0, .ref (h 0)), (1, .int a1)]) hx hb dX0_howManyLiveOf_27 hl (k := 3) rfl rfl (by decide) rfl (fun ls hl => ?_)
          refine lv_goto (tgt := 4) hx hb dX0_howManyLiveOf_30 (by decide) ?_
          have hinc := i32_inc (x := x3) h0 (by omega)
          exact ih (x2 + 1) (x3 + 1) _ _ _ ⟨by omega, by omega, by omega, trivial⟩ (by rw [← he, l_A_howManyLiveOf_4, if_neg c_2, if_neg c_4]) hP hS (lv_sub hl [2, 3, 1, 0] rfl)
  have hB9 := iv_25 (S := S) hI
  have z_0 : ((0) : Int32).toInt = (0) := by decide
  exact loop4 600 0 0 _ _ _ ⟨by omega, by omega, by omega, trivial⟩ (by rw [f_A_howManyLiveOf]) hP hS (lv_sub hl [2, 3, 1, 0] rfl)
set_option maxHeartbeats 4000000 in
set_option maxRecDepth 100000 in
theorem m_A_join (l : Launch) (D : va_G) (h : Nat → Nat) (cI cZ : ClassId) (S : BS) (hI : IV S) (a1 a2 a3 : Int32) : WM l yX0_join wsX0_join { frames := 6, cells := 0, slots := 0, locals := 135 } D cI cZ h S [.ref (h 0), .int a1, .int a2, .int a3] (F_A_join S a1 a2 a3) := by
  refine Met.ofW (cc := cX0_join) (maxL := 6) (ret := (some .int)) (by decide) rfl ?_
  intro p e s m args below meth c s₁ B hml hv
  obtain ⟨rfl, hP, hK, hN, hD0⟩ := hv
  have hx := B.exec
  have hb := B.bytes
  have hr := B.returns
  have hts := atoms_spec (ws := wsX0_join) B.pre
  have hB : ∀ w ∈ BW, w.before _ s = true := fun w h => hts w (List.mem_cons_of_mem _ h)
  have hown : s.vm.findClass RX0 = some m.cls := findClass_of_methodNamed B.named
  have hlocks := B.notSynchronized
  have hD := bD hD0
  have hS : va_S (bA h) s.heap s.heap [] := va_S.rf
  have hl := lv_entry ([.ref (h 0), .int a1, .int a2, .int a3]) (n := 6) (Nat.le_of_ble_eq_true rfl)
  rw [lg_entry_eq]
  generalize (lg_sl ([.ref (h 0), .int a1, .int a2, .int a3]) ++ List.replicate (6 - (lg_sl ([.ref (h 0), .int a1, .int a2, .int a3])).length) Slot.unset).toArray = ls at hl ⊢
  have hl : lv_has ls 6 [(0, .ref (h 0)), (1, .int a1), (2, .int a2), (3, .int a3)] := hl
  refine lv_aload_n hx hb dX0_join_0 rfl (lv_at hl 0 rfl) ?_
  refine va_get (D := D) (ci := 0) (v := .ref (h 2)) (C := RX0) (T := TX0) (N := 7) hx hb hB inX0 hown hK hP 0 rfl rfl 1 (by decide) (hB _ k1_150) (fun _ h9 => h9) rfl dX0_join_1 ?_
  refine lv_iload_n hx hb dX0_join_4 rfl (lv_at hl 1 rfl) ?_
  refine pu_call (va_runVN (As := [.int a1]) (rest := []) ⟨hx, hb, hml, hown, hB⟩ (m_T_has l D h cI cZ S hI a1 ) ⟨va_cnB 1 hB (gB k1_225) rfl rfl rfl (hN _ kn_11) (hB _ k1_3) (by decide +kernel) ⟨Nat.le_of_ble_eq_true rfl, Nat.le_of_ble_eq_true rfl⟩, hB _ k1_224, hB _ ks_98⟩ ⟨pu_blind, va_recv hK hP (ci := 2) (q0 := 2) rfl rfl, pu_pre hP hK hN⟩ rfl rfl hl.1 rfl (lv_room (Nat.le_of_ble_eq_true rfl)) dX0_join_5 ⟨Nat.le_of_ble_eq_true rfl, Nat.le_of_ble_eq_true rfl⟩) hP hS (fun H locs hP hS => ?_)
  refine lv_if_eq (tgt := 22) hx hb dX0_join_8 (by decide) (fun c_2 => ?_) (fun c_2 => ?_)
  · skip
    refine lv_bipush (v := (-11)) hx hb dX0_join_22 (by decide) ?_
    exact W.iret (v := (-11)) hx hb hr (fun t ht hW => ⟨⟨(-11), S, rfl, ⟨(by rw [F_A_join, if_pos c_2]), hI⟩, by show va_P D vwCl _ t.heap; rw [ht]; exact hP⟩, hS.F ht⟩) hS.2.2 dX0_join_24
  · skip
    have t_2 := fb_T_has hI c_2
    refine lv_aload_n hx hb dX0_join_11 rfl (lv_at hl 0 rfl) ?_
    refine va_get (D := D) (ci := 0) (v := .ref (h 2)) (C := RX0) (T := TX0) (N := 7) hx hb hB inX0 hown hK hP 0 rfl rfl 1 (by decide) (hB _ k1_150) (fun _ h9 => h9) rfl dX0_join_12 ?_
    refine lv_iload_n hx hb dX0_join_15 rfl (lv_at hl 2 rfl) ?_
    refine pu_call (va_runVN (As := [.int a2]) (rest := []) ⟨hx, hb, hml, hown, hB⟩ (m_T_has l D h cI cZ S hI a2 ) ⟨va_cnB 1 hB (gB k1_225) rfl rfl rfl (hN _ kn_11) (hB _ k1_3) (by decide +kernel) ⟨Nat.le_of_ble_eq_true rfl, Nat.le_of_ble_eq_true rfl⟩, hB _ k1_224, hB _ ks_98⟩ ⟨pu_blind, va_recv hK hP (ci := 2) (q0 := 2) rfl rfl, pu_pre hP hK hN⟩ rfl rfl hl.1 rfl (lv_room (Nat.le_of_ble_eq_true rfl)) dX0_join_16 ⟨Nat.le_of_ble_eq_true rfl, Nat.le_of_ble_eq_true rfl⟩) hP hS (fun H locs hP hS => ?_)
    refine lv_if_ne (tgt := 25) hx hb dX0_join_19 (by decide) (fun c_4 => ?_) (fun c_4 => ?_)
    · skip
      have t_4 := fb_T_has hI c_4
      refine lv_aload_n hx hb dX0_join_25 rfl (lv_at hl 0 rfl) ?_
      refine lv_iload_n hx hb dX0_join_26 rfl (lv_at hl 3 rfl) ?_
      refine pu_call (va_runV (As := [.int a3]) (rest := []) ⟨hx, hb, hml, hown, hB⟩ (m_A_isTodayOrLater l D h cI cZ S hI a3 ) (cwV 1 hB (gV k2_1 k2_3 ks_107 k1_1 k2_4) rfl rfl rfl (by decide +kernel) ⟨Nat.le_of_ble_eq_true rfl, Nat.le_of_ble_eq_true rfl⟩) ⟨pu_blind, va_recv hK hP (ci := 0) (q0 := 0) rfl rfl, pu_pre hP hK hN⟩ rfl rfl hl.1 rfl (lv_room (Nat.le_of_ble_eq_true rfl)) dX0_join_27 ⟨Nat.le_of_ble_eq_true rfl, Nat.le_of_ble_eq_true rfl⟩) hP hS (fun H locs hP hS => ?_)
      refine lv_if_ne (tgt := 36) hx hb dX0_join_30 (by decide) (fun c_6 => ?_) (fun c_6 => ?_)
      · skip
        refine lv_iload_n hx hb dX0_join_36 rfl (lv_at hl 1 rfl) ?_
        refine lv_iload_n hx hb dX0_join_37 rfl (lv_at hl 2 rfl) ?_
        refine lv_icmp_eq (tgt := 63) hx hb dX0_join_38 (by decide) (fun c_7 => ?_) (fun c_7 => ?_)
        · skip
          refine lv_bipush (v := (-13)) hx hb dX0_join_63 (by decide) ?_
          exact W.iret (v := (-13)) hx hb hr (fun t ht hW => ⟨⟨(-13), S, rfl, ⟨(by rw [F_A_join, if_neg c_2, if_neg c_4, if_neg c_6, if_pos c_7]), hI⟩, by show va_P D vwCl _ t.heap; rw [ht]; exact hP⟩, hS.F ht⟩) hS.2.2 dX0_join_65
        · skip
          refine lv_aload_n hx hb dX0_join_41 rfl (lv_at hl 0 rfl) ?_
          refine va_get (D := D) (ci := 0) (v := .ref (h 2)) (C := RX0) (T := TX0) (N := 7) hx hb hB inX0 hown hK hP 0 rfl rfl 1 (by decide) (hB _ k1_150) (fun _ h9 => h9) rfl dX0_join_42 ?_
          refine lv_iload_n hx hb dX0_join_45 rfl (lv_at hl 1 rfl) ?_
          refine pu_call (va_runVN (As := [.int a1]) (rest := []) ⟨hx, hb, hml, hown, hB⟩ (m_T_isGone l D h cI cZ S hI a1 (by omega)) ⟨va_cnB 1 hB (gB k2_9) rfl rfl rfl (hN _ kn_12) (hB _ k1_3) (by decide +kernel) ⟨Nat.le_of_ble_eq_true rfl, Nat.le_of_ble_eq_true rfl⟩, hB _ k2_8, hB _ ks_110⟩ ⟨pu_blind, va_recv hK hP (ci := 2) (q0 := 2) rfl rfl, pu_pre hP hK hN⟩ rfl rfl hl.1 rfl (lv_room (Nat.le_of_ble_eq_true rfl)) dX0_join_46 ⟨Nat.le_of_ble_eq_true rfl, Nat.le_of_ble_eq_true rfl⟩) hP hS (fun H locs hP hS => ?_)
          refine lv_if_ne (tgt := 63) hx hb dX0_join_49 (by decide) (fun c_9 => ?_) (fun c_9 => ?_)
          · skip
            refine lv_bipush (v := (-13)) hx hb dX0_join_63 (by decide) ?_
            exact W.iret (v := (-13)) hx hb hr (fun t ht hW => ⟨⟨(-13), S, rfl, ⟨(by rw [F_A_join, if_neg c_2, if_neg c_4, if_neg c_6, if_neg c_7, if_neg c_9]), hI⟩, by show va_P D vwCl _ t.heap; rw [ht]; exact hP⟩, hS.F ht⟩) hS.2.2 dX0_join_65
          · skip
            refine lv_aload_n hx hb dX0_join_52 rfl (lv_at hl 0 rfl) ?_
            refine va_get (D := D) (ci := 0) (v := .ref (h 2)) (C := RX0) (T := TX0) (N := 7) hx hb hB inX0 hown hK hP 0 rfl rfl 1 (by decide) (hB _ k1_150) (fun _ h9 => h9) rfl dX0_join_53 ?_
            refine lv_iload_n hx hb dX0_join_56 rfl (lv_at hl 2 rfl) ?_
            refine pu_call (va_runVN (As := [.int a2]) (rest := []) ⟨hx, hb, hml, hown, hB⟩ (m_T_isGone l D h cI cZ S hI a2 (by omega)) ⟨va_cnB 1 hB (gB k2_9) rfl rfl rfl (hN _ kn_12) (hB _ k1_3) (by decide +kernel) ⟨Nat.le_of_ble_eq_true rfl, Nat.le_of_ble_eq_true rfl⟩, hB _ k2_8, hB _ ks_110⟩ ⟨pu_blind, va_recv hK hP (ci := 2) (q0 := 2) rfl rfl, pu_pre hP hK hN⟩ rfl rfl hl.1 rfl (lv_room (Nat.le_of_ble_eq_true rfl)) dX0_join_57 ⟨Nat.le_of_ble_eq_true rfl, Nat.le_of_ble_eq_true rfl⟩) hP hS (fun H locs hP hS => ?_)
            refine lv_if_eq (tgt := 66) hx hb dX0_join_60 (by decide) (fun c_11 => ?_) (fun c_11 => ?_)
            · skip
              refine lv_aload_n hx hb dX0_join_66 rfl (lv_at hl 0 rfl) ?_
              refine va_get (D := D) (ci := 0) (v := .ref (h 3)) (C := RX0) (T := TX0) (N := 7) hx hb hB inX0 hown hK hP 0 rfl rfl 2 (by decide) (hB _ k1_151) (fun _ h9 => h9) rfl dX0_join_67 ?_
              refine lv_iload_n hx hb dX0_join_70 rfl (lv_at hl 1 rfl) ?_
              refine lv_iload_n hx hb dX0_join_71 rfl (lv_at hl 2 rfl) ?_
              refine pu_call (va_runVN (As := [.int a1, .int a2]) (rest := []) ⟨hx, hb, hml, hown, hB⟩ (m_R_leastOverAnyOf l D h cI cZ S hI a1 a2 ) ⟨va_cnB 2 hB (gB k2_111) rfl rfl rfl (hN _ kn_34) (hB _ k1_4) (by decide +kernel) ⟨Nat.le_of_ble_eq_true rfl, Nat.le_of_ble_eq_true rfl⟩, hB _ k2_110, hB _ ks_167⟩ ⟨pu_blind, va_recv hK hP (ci := 3) (q0 := 3) rfl rfl, pu_pre hP hK hN⟩ rfl rfl hl.1 rfl (lv_room (Nat.le_of_ble_eq_true rfl)) dX0_join_72 ⟨Nat.le_of_ble_eq_true rfl, Nat.le_of_ble_eq_true rfl⟩) hP hS (fun H locs hP hS => ?_)
              refine lv_istore (lv' := [(4, .int (f_R_leastOverAnyOf S a1 a2)), (0, .ref (h 0)), (1, .int a1), (2, .int a2), (3, .int a3)]) hx hb dX0_join_75 hl (by decide) rfl (fun ls hl => ?_)
              refine lv_iload hx hb dX0_join_77 (lv_at hl 0 rfl) ?_
              refine lv_iconst (v := (-1)) hx hb dX0_join_79 (by decide) ?_
              refine lv_icmp_eq (tgt := 90) hx hb dX0_join_80 (by decide) (fun c_13 => ?_) (fun c_13 => ?_)
              · skip
                have z_m1 : ((-1) : Int32).toInt = (-1) := by decide
                have t_13 := Int32.toInt_inj.symm.mp c_13
                refine lv_aload_n hx hb dX0_join_90 rfl (lv_at hl 1 rfl) ?_
                refine lv_iload_n hx hb dX0_join_91 rfl (lv_at hl 2 rfl) ?_
                refine pu_call (va_runV (As := [.int a1]) (rest := []) ⟨hx, hb, hml, hown, hB⟩ (m_A_howManyLiveOf l D h cI cZ S hI a1 ) (cwV 1 hB (gV k2_113 k2_115 ks_171 k1_1 k2_116) rfl rfl rfl (by decide +kernel) ⟨Nat.le_of_ble_eq_true rfl, Nat.le_of_ble_eq_true rfl⟩) ⟨pu_blind, va_recv hK hP (ci := 0) (q0 := 0) rfl rfl, pu_pre hP hK hN⟩ rfl rfl hl.1 rfl (lv_room (Nat.le_of_ble_eq_true rfl)) dX0_join_92 ⟨Nat.le_of_ble_eq_true rfl, Nat.le_of_ble_eq_true rfl⟩) hP hS (fun H locs hP hS => ?_)
                refine lv_istore (lv' := [(5, .int (f_A_howManyLiveOf S a1)), (4, .int (f_R_leastOverAnyOf S a1 a2)), (0, .ref (h 0)), (1, .int a1), (2, .int a2), (3, .int a3)]) hx hb dX0_join_95 hl (by decide) rfl (fun ls hl => ?_)
                refine lv_aload_n hx hb dX0_join_97 rfl (lv_at hl 2 rfl) ?_
                refine va_get (D := D) (ci := 0) (v := .ref (h 3)) (C := RX0) (T := TX0) (N := 7) hx hb hB inX0 hown hK hP 0 rfl rfl 2 (by decide) (hB _ k1_151) (fun _ h9 => h9) rfl dX0_join_98 ?_
                refine lv_iload_n hx hb dX0_join_101 rfl (lv_at hl 3 rfl) ?_
                refine lv_iload_n hx hb dX0_join_102 rfl (lv_at hl 4 rfl) ?_
                refine wv_call (va_runVN (As := [.int a1, .int a2]) (rest := []) ⟨hx, hb, hml, hown, hB⟩ (m_R_moveLive l D h cI cZ S hI a1 a2 (by omega)) ⟨va_cnB 2 hB (gB k2_124) rfl rfl rfl (hN _ kn_35) (hB _ k1_4) (by decide +kernel) ⟨Nat.le_of_ble_eq_true rfl, Nat.le_of_ble_eq_true rfl⟩, hB _ k2_123, hB _ ks_174⟩ ⟨wr_blind, va_recv hK hP (ci := 3) (q0 := 3) rfl rfl, wr_pre hP hK hN hD⟩ rfl rfl hl.1 rfl (lv_room (Nat.le_of_ble_eq_true rfl)) dX0_join_103 ⟨Nat.le_of_ble_eq_true rfl, Nat.le_of_ble_eq_true rfl⟩) hS (fun H locs hP hI_15 hS => ?_)
                have hD := wD (S2 := (F_R_moveLive S a1 a2)) hD
                refine lv_aload_n hx hb dX0_join_106 rfl (lv_at hl 2 rfl) ?_
                refine va_get (D := D) (ci := 0) (v := .ref (h 2)) (C := RX0) (T := TX0) (N := 7) hx hb hB inX0 hown hK hP 0 rfl rfl 1 (by decide) (hB _ k1_150) (fun _ h9 => h9) rfl dX0_join_107 ?_
                refine lv_iload_n hx hb dX0_join_110 rfl (lv_at hl 3 rfl) ?_
                refine lv_iload_n hx hb dX0_join_111 rfl (lv_at hl 4 rfl) ?_
                refine lv_iload_n hx hb dX0_join_112 rfl (lv_at hl 5 rfl) ?_
                refine wv_call (va_runVN (As := [.int a1, .int a2, .int a3]) (rest := []) ⟨hx, hb, hml, hown, hB⟩ (m_T_goInto l D h cI cZ (F_R_moveLive S a1 a2) hI_15 a1 a2 a3 (by omega) (by omega)) ⟨va_cnB 3 hB (gB k2_128) rfl rfl rfl (hN _ kn_36) (hB _ k1_3) (by decide +kernel) ⟨Nat.le_of_ble_eq_true rfl, Nat.le_of_ble_eq_true rfl⟩, hB _ k2_127, hB _ ks_177⟩ ⟨wr_blind, va_recv hK hP (ci := 2) (q0 := 2) rfl rfl, wr_pre hP hK hN hD⟩ rfl rfl hl.1 rfl (lv_room (Nat.le_of_ble_eq_true rfl)) dX0_join_113 ⟨Nat.le_of_ble_eq_true rfl, Nat.le_of_ble_eq_true rfl⟩) hS (fun H locs hP hI_17 hS => ?_)
                have hD := wD (S2 := (F_T_goInto (F_R_moveLive S a1 a2) a1 a2 a3)) hD
                refine lv_aload_n hx hb dX0_join_116 rfl (lv_at hl 2 rfl) ?_
                refine lv_iload_n hx hb dX0_join_117 rfl (lv_at hl 5 rfl) ?_
                refine wpf_27 (S := (F_T_goInto (F_R_moveLive S a1 a2) a1 a2 a3)) hx hb hB hown hK hP hD hS (hB _ k1_155) dX0_join_118 (fun H locs hP hD hS => ?_)
                have hI_19 : IV (upS 27 0 a3 (F_T_goInto (F_R_moveLive S a1 a2) a1 a2 a3)) := iv_up (S := (F_T_goInto (F_R_moveLive S a1 a2) a1 a2 a3)) hI_17 27 0 a3 (iv_none 27 rfl)
                refine lv_iload hx hb dX0_join_121 (lv_at hl 0 rfl) ?_
                exact W.iret (v := f_A_howManyLiveOf S a1) hx hb hr (fun t ht hW => ⟨⟨f_A_howManyLiveOf S a1, upS 27 0 a3 (F_T_goInto (F_R_moveLive S a1 a2) a1 a2 a3), rfl, ⟨(by rw [F_A_join, if_neg c_2, if_neg c_4, if_neg c_6, if_neg c_7, if_pos c_9, if_pos c_11, if_pos c_13]), hI_19⟩, by show va_P D vwCl _ t.heap; rw [ht]; exact hP⟩, hS.F ht⟩) hS.2.2 dX0_join_123
              · skip
                have z_m1 : ((-1) : Int32).toInt = (-1) := by decide
                have t_13 := mt Int32.toInt_inj.mp c_13
                refine lv_sipush (v := (-200)) hx hb dX0_join_83 (by decide) ?_
                refine lv_iload hx hb dX0_join_86 (lv_at hl 0 rfl) ?_
                refine lv_isub hx hb dX0_join_88 ?_
                exact W.iret (v := (-200) - (f_R_leastOverAnyOf S a1 a2)) hx hb hr (fun t ht hW => ⟨⟨(-200) - (f_R_leastOverAnyOf S a1 a2), S, rfl, ⟨(by rw [F_A_join, if_neg c_2, if_neg c_4, if_neg c_6, if_neg c_7, if_pos c_9, if_pos c_11, if_neg c_13]), hI⟩, by show va_P D vwCl _ t.heap; rw [ht]; exact hP⟩, hS.F ht⟩) hS.2.2 dX0_join_89
            · skip
              refine lv_bipush (v := (-13)) hx hb dX0_join_63 (by decide) ?_
              exact W.iret (v := (-13)) hx hb hr (fun t ht hW => ⟨⟨(-13), S, rfl, ⟨(by rw [F_A_join, if_neg c_2, if_neg c_4, if_neg c_6, if_neg c_7, if_pos c_9, if_neg c_11]), hI⟩, by show va_P D vwCl _ t.heap; rw [ht]; exact hP⟩, hS.F ht⟩) hS.2.2 dX0_join_65
      · skip
        refine lv_bipush (v := (-12)) hx hb dX0_join_33 (by decide) ?_
        exact W.iret (v := (-12)) hx hb hr (fun t ht hW => ⟨⟨(-12), S, rfl, ⟨(by rw [F_A_join, if_neg c_2, if_neg c_4, if_pos c_6]), hI⟩, by show va_P D vwCl _ t.heap; rw [ht]; exact hP⟩, hS.F ht⟩) hS.2.2 dX0_join_35
    · skip
      refine lv_bipush (v := (-11)) hx hb dX0_join_22 (by decide) ?_
      exact W.iret (v := (-11)) hx hb hr (fun t ht hW => ⟨⟨(-11), S, rfl, ⟨(by rw [F_A_join, if_neg c_2, if_pos c_4]), hI⟩, by show va_P D vwCl _ t.heap; rw [ht]; exact hP⟩, hS.F ht⟩) hS.2.2 dX0_join_24
set_option maxHeartbeats 4000000 in
set_option maxRecDepth 100000 in
theorem m_A_renumber (l : Launch) (D : va_G) (h : Nat → Nat) (cI cZ : ClassId) (S : BS) (hI : IV S) (a1 a2 a3 : Int32) : WM l yX0_renumber wsX0_renumber { frames := 3, cells := 0, slots := 0, locals := 63 } D cI cZ h S [.ref (h 0), .int a1, .int a2, .int a3] (F_A_renumber S a1 a2 a3) := by
  refine Met.ofW (cc := cX0_renumber) (maxL := 5) (ret := (some .int)) (by decide) rfl ?_
  intro p e s m args below meth c s₁ B hml hv
  obtain ⟨rfl, hP, hK, hN, hD0⟩ := hv
  have hx := B.exec
  have hb := B.bytes
  have hr := B.returns
  have hts := atoms_spec (ws := wsX0_renumber) B.pre
  have hB : ∀ w ∈ BW, w.before _ s = true := fun w h => hts w (List.mem_cons_of_mem _ h)
  have hown : s.vm.findClass RX0 = some m.cls := findClass_of_methodNamed B.named
  have hlocks := B.notSynchronized
  have hD := bD hD0
  have hS : va_S (bA h) s.heap s.heap [] := va_S.rf
  have hl := lv_entry ([.ref (h 0), .int a1, .int a2, .int a3]) (n := 5) (Nat.le_of_ble_eq_true rfl)
  rw [lg_entry_eq]
  generalize (lg_sl ([.ref (h 0), .int a1, .int a2, .int a3]) ++ List.replicate (5 - (lg_sl ([.ref (h 0), .int a1, .int a2, .int a3])).length) Slot.unset).toArray = ls at hl ⊢
  have hl : lv_has ls 5 [(0, .ref (h 0)), (1, .int a1), (2, .int a2), (3, .int a3)] := hl
  refine lv_aload_n hx hb dX0_renumber_0 rfl (lv_at hl 0 rfl) ?_
  refine va_get (D := D) (ci := 0) (v := .ref (h 4)) (C := RX0) (T := TX0) (N := 7) hx hb hB inX0 hown hK hP 0 rfl rfl 3 (by decide) (hB _ k1_152) (fun _ h9 => h9) rfl dX0_renumber_1 ?_
  refine lv_iload_n hx hb dX0_renumber_4 rfl (lv_at hl 1 rfl) ?_
  refine pu_call (va_runVN (As := [.int a1]) (rest := []) ⟨hx, hb, hml, hown, hB⟩ (m_Q_has l D h cI cZ S hI a1 ) ⟨va_cnB 1 hB (gB k2_136) rfl rfl rfl (hN _ kn_37) (hB _ k1_5) (by decide +kernel) ⟨Nat.le_of_ble_eq_true rfl, Nat.le_of_ble_eq_true rfl⟩, hB _ k2_135, hB _ ks_180⟩ ⟨pu_blind, va_recv hK hP (ci := 4) (q0 := 4) rfl rfl, pu_pre hP hK hN⟩ rfl rfl hl.1 rfl (lv_room (Nat.le_of_ble_eq_true rfl)) dX0_renumber_5 ⟨Nat.le_of_ble_eq_true rfl, Nat.le_of_ble_eq_true rfl⟩) hP hS (fun H locs hP hS => ?_)
  refine lv_if_ne (tgt := 14) hx hb dX0_renumber_8 (by decide) (fun c_2 => ?_) (fun c_2 => ?_)
  · skip
    have t_2 := fb_Q_has hI c_2
    refine lv_aload_n hx hb dX0_renumber_14 rfl (lv_at hl 0 rfl) ?_
    refine va_get (D := D) (ci := 0) (v := .ref (h 4)) (C := RX0) (T := TX0) (N := 7) hx hb hB inX0 hown hK hP 0 rfl rfl 3 (by decide) (hB _ k1_152) (fun _ h9 => h9) rfl dX0_renumber_15 ?_
    refine va_getN (D := D) (ci := 4) (v := .ref (h 17)) (C := RX4) (T := TX4) (N := 6) hx hb hB inX4 hown hK hP 4 rfl rfl 0 (by decide) (va_Nw.use rfl (hN _ kn_20)) (fun _ h9 => h9) rfl dX0_renumber_18 ?_
    refine lv_iload_n hx hb dX0_renumber_21 rfl (lv_at hl 1 rfl) ?_
    refine va_iald (f := S 11) hx hb hK hP 17 0 rfl rfl (vp_in_iff.mpr (by omega)) dX0_renumber_22 ?_
    have b_3 : (0) ≤ (S 11 a1.toNatClampNeg).toInt ∧ (S 11 a1.toNatClampNeg).toInt ≤ 79 := iv_11 (S := S) hI a1.toNatClampNeg
    refine lv_istore (lv' := [(4, .int (S 11 a1.toNatClampNeg)), (0, .ref (h 0)), (1, .int a1), (2, .int a2), (3, .int a3)]) hx hb dX0_renumber_23 hl (by decide) rfl (fun ls hl => ?_)
    refine lv_aload_n hx hb dX0_renumber_25 rfl (lv_at hl 1 rfl) ?_
    refine lv_iload_n hx hb dX0_renumber_26 rfl (lv_at hl 4 rfl) ?_
    refine pu_call (va_runV (As := [.int a3]) (rest := []) ⟨hx, hb, hml, hown, hB⟩ (m_A_isTodayOrLater l D h cI cZ S hI a3 ) (cwV 1 hB (gV k2_1 k2_3 ks_107 k1_1 k2_4) rfl rfl rfl (by decide +kernel) ⟨Nat.le_of_ble_eq_true rfl, Nat.le_of_ble_eq_true rfl⟩) ⟨pu_blind, va_recv hK hP (ci := 0) (q0 := 0) rfl rfl, pu_pre hP hK hN⟩ rfl rfl hl.1 rfl (lv_room (Nat.le_of_ble_eq_true rfl)) dX0_renumber_27 ⟨Nat.le_of_ble_eq_true rfl, Nat.le_of_ble_eq_true rfl⟩) hP hS (fun H locs hP hS => ?_)
    refine lv_if_eq (tgt := 46) hx hb dX0_renumber_30 (by decide) (fun c_5 => ?_) (fun c_5 => ?_)
    · skip
      refine lv_bipush (v := (-12)) hx hb dX0_renumber_46 (by decide) ?_
      exact W.iret (v := (-12)) hx hb hr (fun t ht hW => ⟨⟨(-12), S, rfl, ⟨(by rw [F_A_renumber, if_neg c_2, if_pos c_5]), hI⟩, by show va_P D vwCl _ t.heap; rw [ht]; exact hP⟩, hS.F ht⟩) hS.2.2 dX0_renumber_48
    · skip
      refine lv_aload_n hx hb dX0_renumber_33 rfl (lv_at hl 1 rfl) ?_
      refine va_get (D := D) (ci := 0) (v := .ref (h 3)) (C := RX0) (T := TX0) (N := 7) hx hb hB inX0 hown hK hP 0 rfl rfl 2 (by decide) (hB _ k1_151) (fun _ h9 => h9) rfl dX0_renumber_34 ?_
      refine lv_iload hx hb dX0_renumber_37 (lv_at hl 0 rfl) ?_
      refine lv_iload_n hx hb dX0_renumber_39 rfl (lv_at hl 3 rfl) ?_
      refine pu_call (va_runVN (As := [.int (S 11 a1.toNatClampNeg), .int a2]) (rest := []) ⟨hx, hb, hml, hown, hB⟩ (m_R_holds l D h cI cZ S hI (S 11 a1.toNatClampNeg) a2 (by omega)) ⟨va_cnB 2 hB (gB k2_49) rfl rfl rfl (hN _ kn_23) (hB _ k1_4) (by decide +kernel) ⟨Nat.le_of_ble_eq_true rfl, Nat.le_of_ble_eq_true rfl⟩, hB _ k2_48, hB _ ks_129⟩ ⟨pu_blind, va_recv hK hP (ci := 3) (q0 := 3) rfl rfl, pu_pre hP hK hN⟩ rfl rfl hl.1 rfl (lv_room (Nat.le_of_ble_eq_true rfl)) dX0_renumber_40 ⟨Nat.le_of_ble_eq_true rfl, Nat.le_of_ble_eq_true rfl⟩) hP hS (fun H locs hP hS => ?_)
      refine lv_if_ne (tgt := 49) hx hb dX0_renumber_43 (by decide) (fun c_7 => ?_) (fun c_7 => ?_)
      · skip
        have t_7 := fb_R_holds hI c_7
        refine lv_aload_n hx hb dX0_renumber_49 rfl (lv_at hl 1 rfl) ?_
        refine va_get (D := D) (ci := 0) (v := .ref (h 4)) (C := RX0) (T := TX0) (N := 7) hx hb hB inX0 hown hK hP 0 rfl rfl 3 (by decide) (hB _ k1_152) (fun _ h9 => h9) rfl dX0_renumber_50 ?_
        refine va_getN (D := D) (ci := 4) (v := .ref (h 21)) (C := RX4) (T := TX4) (N := 6) hx hb hB inX4 hown hK hP 4 rfl rfl 4 (by decide) (va_Nw.use rfl (hN _ kn_19)) (fun _ h9 => h9) rfl dX0_renumber_53 ?_
        refine lv_iload_n hx hb dX0_renumber_56 rfl (lv_at hl 2 rfl) ?_
        refine va_zald (f := S 15) hx hb hK hP 21 1 rfl rfl (vp_in_iff.mpr (by omega)) dX0_renumber_57 ?_
        have b_8 : (0) ≤ (S 15 a1.toNatClampNeg).toInt ∧ (S 15 a1.toNatClampNeg).toInt ≤ 1 := iv_15 (S := S) hI a1.toNatClampNeg
        refine lv_if_eq (tgt := 80) hx hb dX0_renumber_58 (by decide) (fun c_9 => ?_) (fun c_9 => ?_)
        · skip
          have z_0 : ((0) : Int32).toInt = (0) := by decide
          have t_9 := Int32.toInt_inj.symm.mp c_9
          refine lv_bipush (v := (-13)) hx hb dX0_renumber_80 (by decide) ?_
          exact W.iret (v := (-13)) hx hb hr (fun t ht hW => ⟨⟨(-13), S, rfl, ⟨(by rw [F_A_renumber, if_neg c_2, if_neg c_5, if_neg c_7, if_pos c_9]), hI⟩, by show va_P D vwCl _ t.heap; rw [ht]; exact hP⟩, hS.F ht⟩) hS.2.2 dX0_renumber_82
        · skip
          have z_0 : ((0) : Int32).toInt = (0) := by decide
          have t_9 := mt Int32.toInt_inj.mp c_9
          refine lv_aload_n hx hb dX0_renumber_61 rfl (lv_at hl 1 rfl) ?_
          refine lv_iload hx hb dX0_renumber_62 (lv_at hl 0 rfl) ?_
          refine lv_iload_n hx hb dX0_renumber_64 rfl (lv_at hl 3 rfl) ?_
          refine lv_aload_n hx hb dX0_renumber_65 rfl (lv_at hl 1 rfl) ?_
          refine va_get (D := D) (ci := 0) (v := .ref (h 4)) (C := RX0) (T := TX0) (N := 7) hx hb hB inX0 hown hK hP 0 rfl rfl 3 (by decide) (hB _ k1_152) (fun _ h9 => h9) rfl dX0_renumber_66 ?_
          refine va_getN (D := D) (ci := 4) (v := .ref (h 19)) (C := RX4) (T := TX4) (N := 6) hx hb hB inX4 hown hK hP 4 rfl rfl 2 (by decide) (va_Nw.use rfl (hN _ kn_21)) (fun _ h9 => h9) rfl dX0_renumber_69 ?_
          refine lv_iload_n hx hb dX0_renumber_72 rfl (lv_at hl 2 rfl) ?_
          refine va_iald (f := S 13) hx hb hK hP 19 0 rfl rfl (vp_in_iff.mpr (by omega)) dX0_renumber_73 ?_
          refine pu_call (va_runV (As := [.int (S 11 a1.toNatClampNeg), .int a2, .int (S 13 a1.toNatClampNeg)]) (rest := []) ⟨hx, hb, hml, hown, hB⟩ (m_A_isTaken l D h cI cZ S hI (S 11 a1.toNatClampNeg) a2 (S 13 a1.toNatClampNeg) ) (cwV 3 hB (gV k2_55 k2_57 ks_136 k1_1 k2_58) rfl rfl rfl (by decide +kernel) ⟨Nat.le_of_ble_eq_true rfl, Nat.le_of_ble_eq_true rfl⟩) ⟨pu_blind, va_recv hK hP (ci := 0) (q0 := 0) rfl rfl, pu_pre hP hK hN⟩ rfl rfl hl.1 rfl (lv_room (Nat.le_of_ble_eq_true rfl)) dX0_renumber_74 ⟨Nat.le_of_ble_eq_true rfl, Nat.le_of_ble_eq_true rfl⟩) hP hS (fun H locs hP hS => ?_)
          refine lv_if_eq (tgt := 83) hx hb dX0_renumber_77 (by decide) (fun c_11 => ?_) (fun c_11 => ?_)
          · skip
            refine lv_aload_n hx hb dX0_renumber_83 rfl (lv_at hl 1 rfl) ?_
            refine va_get (D := D) (ci := 0) (v := .ref (h 5)) (C := RX0) (T := TX0) (N := 7) hx hb hB inX0 hown hK hP 0 rfl rfl 4 (by decide) (hB _ k1_153) (fun _ h9 => h9) rfl dX0_renumber_84 ?_
            refine pu_call (va_runVN (As := []) (rest := []) ⟨hx, hb, hml, hown, hB⟩ (m_Y_isFull l D h cI cZ S hI  ) ⟨va_cnB 0 hB (gB k2_70) rfl rfl rfl (hN _ kn_26) (hB _ k1_6) (by decide +kernel) ⟨Nat.le_of_ble_eq_true rfl, Nat.le_of_ble_eq_true rfl⟩, hB _ k2_69, hB _ ks_143⟩ ⟨pu_blind, va_recv hK hP (ci := 5) (q0 := 5) rfl rfl, pu_pre hP hK hN⟩ rfl rfl hl.1 rfl (lv_room (Nat.le_of_ble_eq_true rfl)) dX0_renumber_87 ⟨Nat.le_of_ble_eq_true rfl, Nat.le_of_ble_eq_true rfl⟩) hP hS (fun H locs hP hS => ?_)
            refine lv_if_eq (tgt := 96) hx hb dX0_renumber_90 (by decide) (fun c_13 => ?_) (fun c_13 => ?_)
            · skip
              have t_13 := fb_Y_isFull hI c_13
              refine lv_aload_n hx hb dX0_renumber_96 rfl (lv_at hl 1 rfl) ?_
              refine va_get (D := D) (ci := 0) (v := .ref (h 5)) (C := RX0) (T := TX0) (N := 7) hx hb hB inX0 hown hK hP 0 rfl rfl 4 (by decide) (hB _ k1_153) (fun _ h9 => h9) rfl dX0_renumber_97 ?_
              refine lv_aload_n hx hb dX0_renumber_100 rfl (lv_at hl 1 rfl) ?_
              refine va_get (D := D) (ci := 0) (v := .ref (h 4)) (C := RX0) (T := TX0) (N := 7) hx hb hB inX0 hown hK hP 0 rfl rfl 3 (by decide) (hB _ k1_152) (fun _ h9 => h9) rfl dX0_renumber_101 ?_
              refine va_getN (D := D) (ci := 4) (v := .ref (h 20)) (C := RX4) (T := TX4) (N := 6) hx hb hB inX4 hown hK hP 4 rfl rfl 3 (by decide) (va_Nw.use rfl (hN _ kn_17)) (fun _ h9 => h9) rfl dX0_renumber_104 ?_
              refine lv_iload_n hx hb dX0_renumber_107 rfl (lv_at hl 2 rfl) ?_
              refine va_iald (f := S 14) hx hb hK hP 20 0 rfl rfl (vp_in_iff.mpr (by omega)) dX0_renumber_108 ?_
              have b_14 : (0) ≤ (S 14 a1.toNatClampNeg).toInt ∧ (S 14 a1.toNatClampNeg).toInt ≤ 511 := iv_14 (S := S) hI a1.toNatClampNeg
              refine lv_iload_n hx hb dX0_renumber_109 rfl (lv_at hl 4 rfl) ?_
              refine wv_call (va_runVN (As := [.int (S 14 a1.toNatClampNeg), .int a3]) (rest := []) ⟨hx, hb, hml, hown, hB⟩ (m_Y_end l D h cI cZ S hI (S 14 a1.toNatClampNeg) a3 (by omega)) ⟨va_cnB 2 hB (gB k2_95) rfl rfl rfl (hN _ kn_30) (hB _ k1_6) (by decide +kernel) ⟨Nat.le_of_ble_eq_true rfl, Nat.le_of_ble_eq_true rfl⟩, hB _ k2_94, hB _ ks_152⟩ ⟨wr_blind, va_recv hK hP (ci := 5) (q0 := 5) rfl rfl, wr_pre hP hK hN hD⟩ rfl rfl hl.1 rfl (lv_room (Nat.le_of_ble_eq_true rfl)) dX0_renumber_110 ⟨Nat.le_of_ble_eq_true rfl, Nat.le_of_ble_eq_true rfl⟩) hS (fun H locs hP hI_15 hS => ?_)
              have hD := wD (S2 := (F_Y_end S (S 14 a1.toNatClampNeg) a3)) hD
              refine lv_aload_n hx hb dX0_renumber_113 rfl (lv_at hl 1 rfl) ?_
              refine va_get (D := D) (ci := 0) (v := .ref (h 5)) (C := RX0) (T := TX0) (N := 7) hx hb hB inX0 hown hK hP 0 rfl rfl 4 (by decide) (hB _ k1_153) (fun _ h9 => h9) rfl dX0_renumber_114 ?_
              refine va_getN (D := D) (ci := 5) (v := .ref (h 26)) (C := RX5) (T := TX5) (N := 6) hx hb hB inX5 hown hK hP 5 rfl rfl 4 (by decide) (va_Nw.use rfl (hN _ kn_38)) (fun _ h9 => h9) rfl dX0_renumber_117 ?_
              refine lv_aload_n hx hb dX0_renumber_120 rfl (lv_at hl 1 rfl) ?_
              refine va_get (D := D) (ci := 0) (v := .ref (h 4)) (C := RX0) (T := TX0) (N := 7) hx hb hB inX0 hown hK hP 0 rfl rfl 3 (by decide) (hB _ k1_152) (fun _ h9 => h9) rfl dX0_renumber_121 ?_
              refine va_getN (D := D) (ci := 4) (v := .ref (h 20)) (C := RX4) (T := TX4) (N := 6) hx hb hB inX4 hown hK hP 4 rfl rfl 3 (by decide) (va_Nw.use rfl (hN _ kn_17)) (fun _ h9 => h9) rfl dX0_renumber_124 ?_
              refine lv_iload_n hx hb dX0_renumber_127 rfl (lv_at hl 2 rfl) ?_
              refine va_iald (f := S 14) hx hb hK hP 20 0 rfl rfl (vp_in_iff.mpr (by omega)) dX0_renumber_128 ?_
              have b_17 : (0) ≤ (S 14 a1.toNatClampNeg).toInt ∧ (S 14 a1.toNatClampNeg).toInt ≤ 511 := iv_14 (S := (F_Y_end S (S 14 a1.toNatClampNeg) a3)) hI_15 a1.toNatClampNeg
              refine lv_iconst (v := 1) hx hb dX0_renumber_129 (by decide) ?_
              refine wst_20 (S := (F_Y_end S (S 14 a1.toNatClampNeg) a3)) hx hb hK hP hD hS (vp_in_iff.mpr (by omega)) (by first | rfl | decide) dX0_renumber_130 (fun H locs hP hD hS => ?_)
              have hI_18 : IV (upS 20 ((S 14 a1.toNatClampNeg).toNatClampNeg) 1 (F_Y_end S (S 14 a1.toNatClampNeg) a3)) := iv_up (S := (F_Y_end S (S 14 a1.toNatClampNeg) a3)) hI_15 20 ((S 14 a1.toNatClampNeg).toNatClampNeg) 1 (iv_one 20 (0) 1 rfl (by decide))
              refine lv_aload_n hx hb dX0_renumber_131 rfl (lv_at hl 1 rfl) ?_
              refine va_get (D := D) (ci := 0) (v := .ref (h 4)) (C := RX0) (T := TX0) (N := 7) hx hb hB inX0 hown hK hP 0 rfl rfl 3 (by decide) (hB _ k1_152) (fun _ h9 => h9) rfl dX0_renumber_132 ?_
              refine va_getN (D := D) (ci := 4) (v := .ref (h 20)) (C := RX4) (T := TX4) (N := 6) hx hb hB inX4 hown hK hP 4 rfl rfl 3 (by decide) (va_Nw.use rfl (hN _ kn_17)) (fun _ h9 => h9) rfl dX0_renumber_135 ?_
              refine lv_iload_n hx hb dX0_renumber_138 rfl (lv_at hl 2 rfl) ?_
              refine lv_aload_n hx hb dX0_renumber_139 rfl (lv_at hl 1 rfl) ?_
              refine va_get (D := D) (ci := 0) (v := .ref (h 5)) (C := RX0) (T := TX0) (N := 7) hx hb hB inX0 hown hK hP 0 rfl rfl 4 (by decide) (hB _ k1_153) (fun _ h9 => h9) rfl dX0_renumber_140 ?_
              refine lv_iload_n hx hb dX0_renumber_143 rfl (lv_at hl 2 rfl) ?_
              refine lv_iload_n hx hb dX0_renumber_144 rfl (lv_at hl 3 rfl) ?_
              refine lv_iload_n hx hb dX0_renumber_145 rfl (lv_at hl 4 rfl) ?_
              refine wr_call (va_runVN (As := [.int a1, .int a2, .int a3]) (rest := [.int a1, .ref (h 20)]) ⟨hx, hb, hml, hown, hB⟩ (m_Y_begin l D h cI cZ (upS 20 ((S 14 a1.toNatClampNeg).toNatClampNeg) 1 (F_Y_end S (S 14 a1.toNatClampNeg) a3)) hI_18 a1 a2 a3 (show (S 26 0).toInt < 512 by omega) (by omega) (by omega)) ⟨va_cnB 3 hB (gB k2_78) rfl rfl rfl (hN _ kn_29) (hB _ k1_6) (by decide +kernel) ⟨Nat.le_of_ble_eq_true rfl, Nat.le_of_ble_eq_true rfl⟩, hB _ k2_77, hB _ ks_149⟩ ⟨wr_blind, va_recv hK hP (ci := 5) (q0 := 5) rfl rfl, wr_pre hP hK hN hD⟩ rfl rfl hl.1 rfl (lv_room (Nat.le_of_ble_eq_true rfl)) dX0_renumber_146 ⟨Nat.le_of_ble_eq_true rfl, Nat.le_of_ble_eq_true rfl⟩) hS (fun H locs hP hI_19 hS => ?_)
              have hD := wD (S2 := (F_Y_begin (upS 20 ((S 14 a1.toNatClampNeg).toNatClampNeg) 1 (F_Y_end S (S 14 a1.toNatClampNeg) a3)) a1 a2 a3).2) hD
              have k_20 : ((F_Y_begin (upS 20 ((S 14 a1.toNatClampNeg).toNatClampNeg) 1 (F_Y_end S (S 14 a1.toNatClampNeg) a3)) a1 a2 a3).1).toInt = (S 26 0).toInt := congrArg Int32.toInt (fc_Y_begin (upS 20 ((S 14 a1.toNatClampNeg).toNatClampNeg) 1 (F_Y_end S (S 14 a1.toNatClampNeg) a3)) a1 a2 a3)
              have j_20 : (((F_Y_begin (upS 20 ((S 14 a1.toNatClampNeg).toNatClampNeg) 1 (F_Y_end S (S 14 a1.toNatClampNeg) a3)) a1 a2 a3).2) 26 0).toInt = (S 26 0).toInt + 1 := i32_inc (x := S 26 0) (by omega) (by omega)
              refine wst_14 (S := (F_Y_begin (upS 20 ((S 14 a1.toNatClampNeg).toNatClampNeg) 1 (F_Y_end S (S 14 a1.toNatClampNeg) a3)) a1 a2 a3).2) hx hb hK hP hD hS (vp_in_iff.mpr (by omega)) dX0_renumber_149 (fun H locs hP hD hS => ?_)
              have hI_21 : IV (upS 14 a1.toNatClampNeg ((F_Y_begin (upS 20 ((S 14 a1.toNatClampNeg).toNatClampNeg) 1 (F_Y_end S (S 14 a1.toNatClampNeg) a3)) a1 a2 a3).1) ((F_Y_begin (upS 20 ((S 14 a1.toNatClampNeg).toNatClampNeg) 1 (F_Y_end S (S 14 a1.toNatClampNeg) a3)) a1 a2 a3).2)) := iv_up (S := (F_Y_begin (upS 20 ((S 14 a1.toNatClampNeg).toNatClampNeg) 1 (F_Y_end S (S 14 a1.toNatClampNeg) a3)) a1 a2 a3).2) hI_19 14 a1.toNatClampNeg ((F_Y_begin (upS 20 ((S 14 a1.toNatClampNeg).toNatClampNeg) 1 (F_Y_end S (S 14 a1.toNatClampNeg) a3)) a1 a2 a3).1) (iv_one 14 (0) 511 rfl (by omega))
              refine lv_aload_n hx hb dX0_renumber_150 rfl (lv_at hl 1 rfl) ?_
              refine lv_iload_n hx hb dX0_renumber_151 rfl (lv_at hl 4 rfl) ?_
              refine wpf_27 (S := upS 14 a1.toNatClampNeg ((F_Y_begin (upS 20 ((S 14 a1.toNatClampNeg).toNatClampNeg) 1 (F_Y_end S (S 14 a1.toNatClampNeg) a3)) a1 a2 a3).1) ((F_Y_begin (upS 20 ((S 14 a1.toNatClampNeg).toNatClampNeg) 1 (F_Y_end S (S 14 a1.toNatClampNeg) a3)) a1 a2 a3).2)) hx hb hB hown hK hP hD hS (hB _ k1_155) dX0_renumber_152 (fun H locs hP hD hS => ?_)
              have hI_22 : IV (upS 27 0 a3 (upS 14 a1.toNatClampNeg ((F_Y_begin (upS 20 ((S 14 a1.toNatClampNeg).toNatClampNeg) 1 (F_Y_end S (S 14 a1.toNatClampNeg) a3)) a1 a2 a3).1) ((F_Y_begin (upS 20 ((S 14 a1.toNatClampNeg).toNatClampNeg) 1 (F_Y_end S (S 14 a1.toNatClampNeg) a3)) a1 a2 a3).2))) := iv_up (S := upS 14 a1.toNatClampNeg ((F_Y_begin (upS 20 ((S 14 a1.toNatClampNeg).toNatClampNeg) 1 (F_Y_end S (S 14 a1.toNatClampNeg) a3)) a1 a2 a3).1) ((F_Y_begin (upS 20 ((S 14 a1.toNatClampNeg).toNatClampNeg) 1 (F_Y_end S (S 14 a1.toNatClampNeg) a3)) a1 a2 a3).2)) hI_21 27 0 a3 (iv_none 27 rfl)
              refine lv_iconst (v := 1) hx hb dX0_renumber_155 (by decide) ?_
              exact W.iret (v := 1) hx hb hr (fun t ht hW => ⟨⟨1, upS 27 0 a3 (upS 14 a1.toNatClampNeg ((F_Y_begin (upS 20 ((S 14 a1.toNatClampNeg).toNatClampNeg) 1 (F_Y_end S (S 14 a1.toNatClampNeg) a3)) a1 a2 a3).1) ((F_Y_begin (upS 20 ((S 14 a1.toNatClampNeg).toNatClampNeg) 1 (F_Y_end S (S 14 a1.toNatClampNeg) a3)) a1 a2 a3).2)), rfl, ⟨(by rw [F_A_renumber, if_neg c_2, if_neg c_5, if_neg c_7, if_neg c_9, if_pos c_11, if_pos c_13]), hI_22⟩, by show va_P D vwCl _ t.heap; rw [ht]; exact hP⟩, hS.F ht⟩) hS.2.2 dX0_renumber_156
            · skip
              refine lv_bipush (v := (-14)) hx hb dX0_renumber_93 (by decide) ?_
              exact W.iret (v := (-14)) hx hb hr (fun t ht hW => ⟨⟨(-14), S, rfl, ⟨(by rw [F_A_renumber, if_neg c_2, if_neg c_5, if_neg c_7, if_neg c_9, if_pos c_11, if_neg c_13]), hI⟩, by show va_P D vwCl _ t.heap; rw [ht]; exact hP⟩, hS.F ht⟩) hS.2.2 dX0_renumber_95
          · skip
            refine lv_bipush (v := (-13)) hx hb dX0_renumber_80 (by decide) ?_
            exact W.iret (v := (-13)) hx hb hr (fun t ht hW => ⟨⟨(-13), S, rfl, ⟨(by rw [F_A_renumber, if_neg c_2, if_neg c_5, if_neg c_7, if_neg c_9, if_neg c_11]), hI⟩, by show va_P D vwCl _ t.heap; rw [ht]; exact hP⟩, hS.F ht⟩) hS.2.2 dX0_renumber_82
      · skip
        refine lv_bipush (v := (-12)) hx hb dX0_renumber_46 (by decide) ?_
        exact W.iret (v := (-12)) hx hb hr (fun t ht hW => ⟨⟨(-12), S, rfl, ⟨(by rw [F_A_renumber, if_neg c_2, if_neg c_5, if_pos c_7]), hI⟩, by show va_P D vwCl _ t.heap; rw [ht]; exact hP⟩, hS.F ht⟩) hS.2.2 dX0_renumber_48
  · skip
    refine lv_bipush (v := (-11)) hx hb dX0_renumber_11 (by decide) ?_
    exact W.iret (v := (-11)) hx hb hr (fun t ht hW => ⟨⟨(-11), S, rfl, ⟨(by rw [F_A_renumber, if_pos c_2]), hI⟩, by show va_P D vwCl _ t.heap; rw [ht]; exact hP⟩, hS.F ht⟩) hS.2.2 dX0_renumber_13
set_option maxHeartbeats 4000000 in
set_option maxRecDepth 100000 in
theorem m_A_remove (l : Launch) (D : va_G) (h : Nat → Nat) (cI cZ : ClassId) (S : BS) (hI : IV S) (a1 a2 : Int32) : WM l yX0_remove wsX0_remove { frames := 2, cells := 0, slots := 0, locals := 44 } D cI cZ h S [.ref (h 0), .int a1, .int a2] (F_A_remove S a1 a2) := by
  refine Met.ofW (cc := cX0_remove) (maxL := 3) (ret := (some .int)) (by decide) rfl ?_
  intro p e s m args below meth c s₁ B hml hv
  obtain ⟨rfl, hP, hK, hN, hD0⟩ := hv
  have hx := B.exec
  have hb := B.bytes
  have hr := B.returns
  have hts := atoms_spec (ws := wsX0_remove) B.pre
  have hB : ∀ w ∈ BW, w.before _ s = true := fun w h => hts w (List.mem_cons_of_mem _ h)
  have hown : s.vm.findClass RX0 = some m.cls := findClass_of_methodNamed B.named
  have hlocks := B.notSynchronized
  have hD := bD hD0
  have hS : va_S (bA h) s.heap s.heap [] := va_S.rf
  have hl := lv_entry ([.ref (h 0), .int a1, .int a2]) (n := 3) (Nat.le_of_ble_eq_true rfl)
  rw [lg_entry_eq]
  generalize (lg_sl ([.ref (h 0), .int a1, .int a2]) ++ List.replicate (3 - (lg_sl ([.ref (h 0), .int a1, .int a2])).length) Slot.unset).toArray = ls at hl ⊢
  have hl : lv_has ls 3 [(0, .ref (h 0)), (1, .int a1), (2, .int a2)] := hl
  refine lv_aload_n hx hb dX0_remove_0 rfl (lv_at hl 0 rfl) ?_
  refine va_get (D := D) (ci := 0) (v := .ref (h 4)) (C := RX0) (T := TX0) (N := 7) hx hb hB inX0 hown hK hP 0 rfl rfl 3 (by decide) (hB _ k1_152) (fun _ h9 => h9) rfl dX0_remove_1 ?_
  refine lv_iload_n hx hb dX0_remove_4 rfl (lv_at hl 1 rfl) ?_
  refine pu_call (va_runVN (As := [.int a1]) (rest := []) ⟨hx, hb, hml, hown, hB⟩ (m_Q_has l D h cI cZ S hI a1 ) ⟨va_cnB 1 hB (gB k2_136) rfl rfl rfl (hN _ kn_37) (hB _ k1_5) (by decide +kernel) ⟨Nat.le_of_ble_eq_true rfl, Nat.le_of_ble_eq_true rfl⟩, hB _ k2_135, hB _ ks_180⟩ ⟨pu_blind, va_recv hK hP (ci := 4) (q0 := 4) rfl rfl, pu_pre hP hK hN⟩ rfl rfl hl.1 rfl (lv_room (Nat.le_of_ble_eq_true rfl)) dX0_remove_5 ⟨Nat.le_of_ble_eq_true rfl, Nat.le_of_ble_eq_true rfl⟩) hP hS (fun H locs hP hS => ?_)
  refine lv_if_ne (tgt := 14) hx hb dX0_remove_8 (by decide) (fun c_2 => ?_) (fun c_2 => ?_)
  · skip
    have t_2 := fb_Q_has hI c_2
    refine lv_aload_n hx hb dX0_remove_14 rfl (lv_at hl 0 rfl) ?_
    refine lv_iload_n hx hb dX0_remove_15 rfl (lv_at hl 2 rfl) ?_
    refine pu_call (va_runV (As := [.int a2]) (rest := []) ⟨hx, hb, hml, hown, hB⟩ (m_A_isTodayOrLater l D h cI cZ S hI a2 ) (cwV 1 hB (gV k2_1 k2_3 ks_107 k1_1 k2_4) rfl rfl rfl (by decide +kernel) ⟨Nat.le_of_ble_eq_true rfl, Nat.le_of_ble_eq_true rfl⟩) ⟨pu_blind, va_recv hK hP (ci := 0) (q0 := 0) rfl rfl, pu_pre hP hK hN⟩ rfl rfl hl.1 rfl (lv_room (Nat.le_of_ble_eq_true rfl)) dX0_remove_16 ⟨Nat.le_of_ble_eq_true rfl, Nat.le_of_ble_eq_true rfl⟩) hP hS (fun H locs hP hS => ?_)
    refine lv_if_ne (tgt := 25) hx hb dX0_remove_19 (by decide) (fun c_4 => ?_) (fun c_4 => ?_)
    · skip
      refine lv_aload_n hx hb dX0_remove_25 rfl (lv_at hl 0 rfl) ?_
      refine va_get (D := D) (ci := 0) (v := .ref (h 4)) (C := RX0) (T := TX0) (N := 7) hx hb hB inX0 hown hK hP 0 rfl rfl 3 (by decide) (hB _ k1_152) (fun _ h9 => h9) rfl dX0_remove_26 ?_
      refine va_getN (D := D) (ci := 4) (v := .ref (h 21)) (C := RX4) (T := TX4) (N := 6) hx hb hB inX4 hown hK hP 4 rfl rfl 4 (by decide) (va_Nw.use rfl (hN _ kn_19)) (fun _ h9 => h9) rfl dX0_remove_29 ?_
      refine lv_iload_n hx hb dX0_remove_32 rfl (lv_at hl 1 rfl) ?_
      refine va_zald (f := S 15) hx hb hK hP 21 1 rfl rfl (vp_in_iff.mpr (by omega)) dX0_remove_33 ?_
      have b_5 : (0) ≤ (S 15 a1.toNatClampNeg).toInt ∧ (S 15 a1.toNatClampNeg).toInt ≤ 1 := iv_15 (S := S) hI a1.toNatClampNeg
      refine lv_if_ne (tgt := 40) hx hb dX0_remove_34 (by decide) (fun c_6 => ?_) (fun c_6 => ?_)
      · skip
        have z_0 : ((0) : Int32).toInt = (0) := by decide
        have t_6 := mt Int32.toInt_inj.mp c_6
        refine lv_aload_n hx hb dX0_remove_40 rfl (lv_at hl 0 rfl) ?_
        refine lv_iload_n hx hb dX0_remove_41 rfl (lv_at hl 1 rfl) ?_
        refine lv_iload_n hx hb dX0_remove_42 rfl (lv_at hl 2 rfl) ?_
        refine wv_call (va_runV (As := [.int a1, .int a2]) (rest := []) ⟨hx, hb, hml, hown, hB⟩ (m_A_end l D h cI cZ S hI a1 a2 (by omega)) (cwV 2 hB (gV k2_88 k2_90 ks_156 k1_1 k2_91) rfl rfl rfl (by decide +kernel) ⟨Nat.le_of_ble_eq_true rfl, Nat.le_of_ble_eq_true rfl⟩) ⟨wr_blind, va_recv hK hP (ci := 0) (q0 := 0) rfl rfl, wr_pre hP hK hN hD⟩ rfl rfl hl.1 rfl (lv_room (Nat.le_of_ble_eq_true rfl)) dX0_remove_43 ⟨Nat.le_of_ble_eq_true rfl, Nat.le_of_ble_eq_true rfl⟩) hS (fun H locs hP hI_7 hS => ?_)
        have hD := wD (S2 := (F_A_end S a1 a2)) hD
        refine lv_aload_n hx hb dX0_remove_46 rfl (lv_at hl 0 rfl) ?_
        refine lv_iload_n hx hb dX0_remove_47 rfl (lv_at hl 2 rfl) ?_
        refine wpf_27 (S := (F_A_end S a1 a2)) hx hb hB hown hK hP hD hS (hB _ k1_155) dX0_remove_48 (fun H locs hP hD hS => ?_)
        have hI_9 : IV (upS 27 0 a2 (F_A_end S a1 a2)) := iv_up (S := (F_A_end S a1 a2)) hI_7 27 0 a2 (iv_none 27 rfl)
        refine lv_iconst (v := 1) hx hb dX0_remove_51 (by decide) ?_
        exact W.iret (v := 1) hx hb hr (fun t ht hW => ⟨⟨1, upS 27 0 a2 (F_A_end S a1 a2), rfl, ⟨(by rw [F_A_remove, if_neg c_2, if_neg c_4, if_neg c_6]), hI_9⟩, by show va_P D vwCl _ t.heap; rw [ht]; exact hP⟩, hS.F ht⟩) hS.2.2 dX0_remove_52
      · skip
        have z_0 : ((0) : Int32).toInt = (0) := by decide
        have t_6 := Int32.toInt_inj.symm.mp c_6
        refine lv_bipush (v := (-13)) hx hb dX0_remove_37 (by decide) ?_
        exact W.iret (v := (-13)) hx hb hr (fun t ht hW => ⟨⟨(-13), S, rfl, ⟨(by rw [F_A_remove, if_neg c_2, if_neg c_4, if_pos c_6]), hI⟩, by show va_P D vwCl _ t.heap; rw [ht]; exact hP⟩, hS.F ht⟩) hS.2.2 dX0_remove_39
    · skip
      refine lv_bipush (v := (-12)) hx hb dX0_remove_22 (by decide) ?_
      exact W.iret (v := (-12)) hx hb hr (fun t ht hW => ⟨⟨(-12), S, rfl, ⟨(by rw [F_A_remove, if_neg c_2, if_pos c_4]), hI⟩, by show va_P D vwCl _ t.heap; rw [ht]; exact hP⟩, hS.F ht⟩) hS.2.2 dX0_remove_24
  · skip
    refine lv_bipush (v := (-11)) hx hb dX0_remove_11 (by decide) ?_
    exact W.iret (v := (-11)) hx hb hr (fun t ht hW => ⟨⟨(-11), S, rfl, ⟨(by rw [F_A_remove, if_pos c_2]), hI⟩, by show va_P D vwCl _ t.heap; rw [ht]; exact hP⟩, hS.F ht⟩) hS.2.2 dX0_remove_13
set_option maxHeartbeats 4000000 in
set_option maxRecDepth 100000 in
theorem m_A_change (l : Launch) (D : va_G) (h : Nat → Nat) (cI cZ : ClassId) (S : BS) (hI : IV S) (a1 a2 a3 a4 : Int32) : WM l yX0_change wsX0_change { frames := 7, cells := 0, slots := 0, locals := 160 } D cI cZ h S [.ref (h 0), .int a1, .int a2, .int a3, .int a4] (F_A_change S a1 a2 a3 a4) := by
  refine Met.ofW (cc := cX0_change) (maxL := 5) (ret := (some .int)) (by decide) rfl ?_
  intro p e s m args below meth c s₁ B hml hv
  obtain ⟨rfl, hP, hK, hN, hD0⟩ := hv
  have hx := B.exec
  have hb := B.bytes
  have hr := B.returns
  have hts := atoms_spec (ws := wsX0_change) B.pre
  have hB : ∀ w ∈ BW, w.before _ s = true := fun w h => hts w (List.mem_cons_of_mem _ h)
  have hown : s.vm.findClass RX0 = some m.cls := findClass_of_methodNamed B.named
  have hlocks := B.notSynchronized
  have hD := bD hD0
  have hS : va_S (bA h) s.heap s.heap [] := va_S.rf
  have hl := lv_entry ([.ref (h 0), .int a1, .int a2, .int a3, .int a4]) (n := 5) (Nat.le_of_ble_eq_true rfl)
  rw [lg_entry_eq]
  generalize (lg_sl ([.ref (h 0), .int a1, .int a2, .int a3, .int a4]) ++ List.replicate (5 - (lg_sl ([.ref (h 0), .int a1, .int a2, .int a3, .int a4])).length) Slot.unset).toArray = ls at hl ⊢
  have hl : lv_has ls 5 [(0, .ref (h 0)), (1, .int a1), (2, .int a2), (3, .int a3), (4, .int a4)] := hl
  refine lv_iload_n hx hb dX0_change_0 rfl (lv_at hl 1 rfl) ?_
  by_cases c_1 : a1 = 0
  · skip
    refine lv_tableIn (tgt := 36) (off := 35) hx hb dX0_change_1 (by rw [c_1]; decide) (by rw [c_1]; decide) (by rw [c_1]; rfl) (by decide) ?_
    refine lv_aload_n hx hb dX0_change_36 rfl (lv_at hl 0 rfl) ?_
    refine lv_iload_n hx hb dX0_change_37 rfl (lv_at hl 2 rfl) ?_
    refine lv_iload hx hb dX0_change_38 (lv_at hl 4 rfl) ?_
    refine wr_call (va_runV (As := [.int a2, .int a4]) (rest := []) ⟨hx, hb, hml, hown, hB⟩ (m_A_close l D h cI cZ S hI a2 a4 ) (cwV 2 hB (gV k2_84 k2_86 ks_184 k1_1 k2_87) rfl rfl rfl (by decide +kernel) ⟨Nat.le_of_ble_eq_true rfl, Nat.le_of_ble_eq_true rfl⟩) ⟨wr_blind, va_recv hK hP (ci := 0) (q0 := 0) rfl rfl, wr_pre hP hK hN hD⟩ rfl rfl hl.1 rfl (lv_room (Nat.le_of_ble_eq_true rfl)) dX0_change_40 ⟨Nat.le_of_ble_eq_true rfl, Nat.le_of_ble_eq_true rfl⟩) hS (fun H locs hP hI_2 hS => ?_)
    have hD := wD (S2 := (F_A_close S a2 a4).2) hD
    exact W.iret (v := (F_A_close S a2 a4).1) hx hb hr (fun t ht hW => ⟨⟨(F_A_close S a2 a4).1, (F_A_close S a2 a4).2, rfl, ⟨(by rw [F_A_change, if_pos c_1]), hI_2⟩, by show va_P D vwCl _ t.heap; rw [ht]; exact hP⟩, hS.F ht⟩) hS.2.2 dX0_change_43
  by_cases c_4 : a1 = 1
  · skip
    refine lv_tableIn (tgt := 44) (off := 43) hx hb dX0_change_1 (by rw [c_4]; decide) (by rw [c_4]; decide) (by rw [c_4]; rfl) (by decide) ?_
    refine lv_aload_n hx hb dX0_change_44 rfl (lv_at hl 0 rfl) ?_
    refine lv_iload_n hx hb dX0_change_45 rfl (lv_at hl 2 rfl) ?_
    refine lv_iload_n hx hb dX0_change_46 rfl (lv_at hl 3 rfl) ?_
    refine lv_iload hx hb dX0_change_47 (lv_at hl 4 rfl) ?_
    refine wr_call (va_runV (As := [.int a2, .int a3, .int a4]) (rest := []) ⟨hx, hb, hml, hown, hB⟩ (m_A_split l D h cI cZ S hI a2 a3 a4 ) (cwV 3 hB (gV k2_96 k2_98 ks_188 k1_1 k2_99) rfl rfl rfl (by decide +kernel) ⟨Nat.le_of_ble_eq_true rfl, Nat.le_of_ble_eq_true rfl⟩) ⟨wr_blind, va_recv hK hP (ci := 0) (q0 := 0) rfl rfl, wr_pre hP hK hN hD⟩ rfl rfl hl.1 rfl (lv_room (Nat.le_of_ble_eq_true rfl)) dX0_change_49 ⟨Nat.le_of_ble_eq_true rfl, Nat.le_of_ble_eq_true rfl⟩) hS (fun H locs hP hI_5 hS => ?_)
    have hD := wD (S2 := (F_A_split S a2 a3 a4).2) hD
    exact W.iret (v := (F_A_split S a2 a3 a4).1) hx hb hr (fun t ht hW => ⟨⟨(F_A_split S a2 a3 a4).1, (F_A_split S a2 a3 a4).2, rfl, ⟨(by rw [F_A_change, if_neg c_1, if_pos c_4]), hI_5⟩, by show va_P D vwCl _ t.heap; rw [ht]; exact hP⟩, hS.F ht⟩) hS.2.2 dX0_change_52
  by_cases c_7 : a1 = 2
  · skip
    refine lv_tableIn (tgt := 53) (off := 52) hx hb dX0_change_1 (by rw [c_7]; decide) (by rw [c_7]; decide) (by rw [c_7]; rfl) (by decide) ?_
    refine lv_aload_n hx hb dX0_change_53 rfl (lv_at hl 0 rfl) ?_
    refine lv_iload_n hx hb dX0_change_54 rfl (lv_at hl 2 rfl) ?_
    refine lv_iload_n hx hb dX0_change_55 rfl (lv_at hl 3 rfl) ?_
    refine lv_iload hx hb dX0_change_56 (lv_at hl 4 rfl) ?_
    refine wr_call (va_runV (As := [.int a2, .int a3, .int a4]) (rest := []) ⟨hx, hb, hml, hown, hB⟩ (m_A_join l D h cI cZ S hI a2 a3 a4 ) (cwV 3 hB (gV k2_104 k2_106 ks_192 k1_1 k2_107) rfl rfl rfl (by decide +kernel) ⟨Nat.le_of_ble_eq_true rfl, Nat.le_of_ble_eq_true rfl⟩) ⟨wr_blind, va_recv hK hP (ci := 0) (q0 := 0) rfl rfl, wr_pre hP hK hN hD⟩ rfl rfl hl.1 rfl (lv_room (Nat.le_of_ble_eq_true rfl)) dX0_change_58 ⟨Nat.le_of_ble_eq_true rfl, Nat.le_of_ble_eq_true rfl⟩) hS (fun H locs hP hI_8 hS => ?_)
    have hD := wD (S2 := (F_A_join S a2 a3 a4).2) hD
    exact W.iret (v := (F_A_join S a2 a3 a4).1) hx hb hr (fun t ht hW => ⟨⟨(F_A_join S a2 a3 a4).1, (F_A_join S a2 a3 a4).2, rfl, ⟨(by rw [F_A_change, if_neg c_1, if_neg c_4, if_pos c_7]), hI_8⟩, by show va_P D vwCl _ t.heap; rw [ht]; exact hP⟩, hS.F ht⟩) hS.2.2 dX0_change_61
  by_cases c_10 : a1 = 3
  · skip
    refine lv_tableIn (tgt := 62) (off := 61) hx hb dX0_change_1 (by rw [c_10]; decide) (by rw [c_10]; decide) (by rw [c_10]; rfl) (by decide) ?_
    refine lv_aload_n hx hb dX0_change_62 rfl (lv_at hl 0 rfl) ?_
    refine lv_iload_n hx hb dX0_change_63 rfl (lv_at hl 2 rfl) ?_
    refine lv_iload_n hx hb dX0_change_64 rfl (lv_at hl 3 rfl) ?_
    refine lv_iload hx hb dX0_change_65 (lv_at hl 4 rfl) ?_
    refine wr_call (va_runV (As := [.int a2, .int a3, .int a4]) (rest := []) ⟨hx, hb, hml, hown, hB⟩ (m_A_renumber l D h cI cZ S hI a2 a3 a4 ) (cwV 3 hB (gV k2_129 k2_131 ks_196 k1_1 k2_132) rfl rfl rfl (by decide +kernel) ⟨Nat.le_of_ble_eq_true rfl, Nat.le_of_ble_eq_true rfl⟩) ⟨wr_blind, va_recv hK hP (ci := 0) (q0 := 0) rfl rfl, wr_pre hP hK hN hD⟩ rfl rfl hl.1 rfl (lv_room (Nat.le_of_ble_eq_true rfl)) dX0_change_67 ⟨Nat.le_of_ble_eq_true rfl, Nat.le_of_ble_eq_true rfl⟩) hS (fun H locs hP hI_11 hS => ?_)
    have hD := wD (S2 := (F_A_renumber S a2 a3 a4).2) hD
    exact W.iret (v := (F_A_renumber S a2 a3 a4).1) hx hb hr (fun t ht hW => ⟨⟨(F_A_renumber S a2 a3 a4).1, (F_A_renumber S a2 a3 a4).2, rfl, ⟨(by rw [F_A_change, if_neg c_1, if_neg c_4, if_neg c_7, if_pos c_10]), hI_11⟩, by show va_P D vwCl _ t.heap; rw [ht]; exact hP⟩, hS.F ht⟩) hS.2.2 dX0_change_70
  by_cases c_13 : a1 = 4
  · skip
    refine lv_tableIn (tgt := 71) (off := 70) hx hb dX0_change_1 (by rw [c_13]; decide) (by rw [c_13]; decide) (by rw [c_13]; rfl) (by decide) ?_
    refine lv_aload_n hx hb dX0_change_71 rfl (lv_at hl 0 rfl) ?_
    refine lv_iload_n hx hb dX0_change_72 rfl (lv_at hl 2 rfl) ?_
    refine lv_iload hx hb dX0_change_73 (lv_at hl 4 rfl) ?_
    refine wr_call (va_runV (As := [.int a2, .int a4]) (rest := []) ⟨hx, hb, hml, hown, hB⟩ (m_A_remove l D h cI cZ S hI a2 a4 ) (cwV 2 hB (gV k2_137 k2_139 ks_200 k1_1 k2_140) rfl rfl rfl (by decide +kernel) ⟨Nat.le_of_ble_eq_true rfl, Nat.le_of_ble_eq_true rfl⟩) ⟨wr_blind, va_recv hK hP (ci := 0) (q0 := 0) rfl rfl, wr_pre hP hK hN hD⟩ rfl rfl hl.1 rfl (lv_room (Nat.le_of_ble_eq_true rfl)) dX0_change_75 ⟨Nat.le_of_ble_eq_true rfl, Nat.le_of_ble_eq_true rfl⟩) hS (fun H locs hP hI_14 hS => ?_)
    have hD := wD (S2 := (F_A_remove S a2 a4).2) hD
    exact W.iret (v := (F_A_remove S a2 a4).1) hx hb hr (fun t ht hW => ⟨⟨(F_A_remove S a2 a4).1, (F_A_remove S a2 a4).2, rfl, ⟨(by rw [F_A_change, if_neg c_1, if_neg c_4, if_neg c_7, if_neg c_10, if_pos c_13]), hI_14⟩, by show va_P D vwCl _ t.heap; rw [ht]; exact hP⟩, hS.F ht⟩) hS.2.2 dX0_change_78
  refine lv_tableOut (tgt := 79) hx hb dX0_change_1 (by have n0 := lv_neT c_1 (show ((0) : Int32).toInt = 0 by decide); have n1 := lv_neT c_4 (show ((1) : Int32).toInt = 1 by decide); have n2 := lv_neT c_7 (show ((2) : Int32).toInt = 2 by decide); have n3 := lv_neT c_10 (show ((3) : Int32).toInt = 3 by decide); have n4 := lv_neT c_13 (show ((4) : Int32).toInt = 4 by decide); omega) (by decide) ?_
  refine lv_bipush (v := (-12)) hx hb dX0_change_79 (by decide) ?_
  exact W.iret (v := (-12)) hx hb hr (fun t ht hW => ⟨⟨(-12), S, rfl, ⟨(by rw [F_A_change, if_neg c_1, if_neg c_4, if_neg c_7, if_neg c_10, if_neg c_13]), hI⟩, by show va_P D vwCl _ t.heap; rw [ht]; exact hP⟩, hS.F ht⟩) hS.2.2 dX0_change_81
set_option maxHeartbeats 4000000 in
set_option maxRecDepth 100000 in
theorem m_A_alias (l : Launch) (D : va_G) (h : Nat → Nat) (cI cZ : ClassId) (S : BS) (hI : IV S) (a1 a2 a3 : Int32) : WM l yX0_alias wsX0_alias { frames := 2, cells := 0, slots := 0, locals := 44 } D cI cZ h S [.ref (h 0), .int a1, .int a2, .int a3] (F_A_alias S a1 a2 a3) := by
  refine Met.ofW (cc := cX0_alias) (maxL := 4) (ret := (some .int)) (by decide) rfl ?_
  intro p e s m args below meth c s₁ B hml hv
  obtain ⟨rfl, hP, hK, hN, hD0⟩ := hv
  have hx := B.exec
  have hb := B.bytes
  have hr := B.returns
  have hts := atoms_spec (ws := wsX0_alias) B.pre
  have hB : ∀ w ∈ BW, w.before _ s = true := fun w h => hts w (List.mem_cons_of_mem _ h)
  have hown : s.vm.findClass RX0 = some m.cls := findClass_of_methodNamed B.named
  have hlocks := B.notSynchronized
  have hD := bD hD0
  have hS : va_S (bA h) s.heap s.heap [] := va_S.rf
  have hl := lv_entry ([.ref (h 0), .int a1, .int a2, .int a3]) (n := 4) (Nat.le_of_ble_eq_true rfl)
  rw [lg_entry_eq]
  generalize (lg_sl ([.ref (h 0), .int a1, .int a2, .int a3]) ++ List.replicate (4 - (lg_sl ([.ref (h 0), .int a1, .int a2, .int a3])).length) Slot.unset).toArray = ls at hl ⊢
  have hl : lv_has ls 4 [(0, .ref (h 0)), (1, .int a1), (2, .int a2), (3, .int a3)] := hl
  refine lv_aload_n hx hb dX0_alias_0 rfl (lv_at hl 0 rfl) ?_
  refine va_get (D := D) (ci := 0) (v := .ref (h 2)) (C := RX0) (T := TX0) (N := 7) hx hb hB inX0 hown hK hP 0 rfl rfl 1 (by decide) (hB _ k1_150) (fun _ h9 => h9) rfl dX0_alias_1 ?_
  refine lv_iload_n hx hb dX0_alias_4 rfl (lv_at hl 1 rfl) ?_
  refine pu_call (va_runVN (As := [.int a1]) (rest := []) ⟨hx, hb, hml, hown, hB⟩ (m_T_has l D h cI cZ S hI a1 ) ⟨va_cnB 1 hB (gB k1_225) rfl rfl rfl (hN _ kn_11) (hB _ k1_3) (by decide +kernel) ⟨Nat.le_of_ble_eq_true rfl, Nat.le_of_ble_eq_true rfl⟩, hB _ k1_224, hB _ ks_98⟩ ⟨pu_blind, va_recv hK hP (ci := 2) (q0 := 2) rfl rfl, pu_pre hP hK hN⟩ rfl rfl hl.1 rfl (lv_room (Nat.le_of_ble_eq_true rfl)) dX0_alias_5 ⟨Nat.le_of_ble_eq_true rfl, Nat.le_of_ble_eq_true rfl⟩) hP hS (fun H locs hP hS => ?_)
  refine lv_if_eq (tgt := 22) hx hb dX0_alias_8 (by decide) (fun c_2 => ?_) (fun c_2 => ?_)
  · skip
    refine lv_bipush (v := (-11)) hx hb dX0_alias_22 (by decide) ?_
    exact W.iret (v := (-11)) hx hb hr (fun t ht hW => ⟨⟨(-11), S, rfl, ⟨(by rw [F_A_alias, if_pos c_2]), hI⟩, by show va_P D vwCl _ t.heap; rw [ht]; exact hP⟩, hS.F ht⟩) hS.2.2 dX0_alias_24
  · skip
    have t_2 := fb_T_has hI c_2
    refine lv_aload_n hx hb dX0_alias_11 rfl (lv_at hl 0 rfl) ?_
    refine va_get (D := D) (ci := 0) (v := .ref (h 2)) (C := RX0) (T := TX0) (N := 7) hx hb hB inX0 hown hK hP 0 rfl rfl 1 (by decide) (hB _ k1_150) (fun _ h9 => h9) rfl dX0_alias_12 ?_
    refine lv_iload_n hx hb dX0_alias_15 rfl (lv_at hl 2 rfl) ?_
    refine pu_call (va_runVN (As := [.int a2]) (rest := []) ⟨hx, hb, hml, hown, hB⟩ (m_T_has l D h cI cZ S hI a2 ) ⟨va_cnB 1 hB (gB k1_225) rfl rfl rfl (hN _ kn_11) (hB _ k1_3) (by decide +kernel) ⟨Nat.le_of_ble_eq_true rfl, Nat.le_of_ble_eq_true rfl⟩, hB _ k1_224, hB _ ks_98⟩ ⟨pu_blind, va_recv hK hP (ci := 2) (q0 := 2) rfl rfl, pu_pre hP hK hN⟩ rfl rfl hl.1 rfl (lv_room (Nat.le_of_ble_eq_true rfl)) dX0_alias_16 ⟨Nat.le_of_ble_eq_true rfl, Nat.le_of_ble_eq_true rfl⟩) hP hS (fun H locs hP hS => ?_)
    refine lv_if_ne (tgt := 25) hx hb dX0_alias_19 (by decide) (fun c_4 => ?_) (fun c_4 => ?_)
    · skip
      have t_4 := fb_T_has hI c_4
      refine lv_aload_n hx hb dX0_alias_25 rfl (lv_at hl 0 rfl) ?_
      refine lv_iload_n hx hb dX0_alias_26 rfl (lv_at hl 3 rfl) ?_
      refine pu_call (va_runV (As := [.int a3]) (rest := []) ⟨hx, hb, hml, hown, hB⟩ (m_A_isTodayOrLater l D h cI cZ S hI a3 ) (cwV 1 hB (gV k2_1 k2_3 ks_107 k1_1 k2_4) rfl rfl rfl (by decide +kernel) ⟨Nat.le_of_ble_eq_true rfl, Nat.le_of_ble_eq_true rfl⟩) ⟨pu_blind, va_recv hK hP (ci := 0) (q0 := 0) rfl rfl, pu_pre hP hK hN⟩ rfl rfl hl.1 rfl (lv_room (Nat.le_of_ble_eq_true rfl)) dX0_alias_27 ⟨Nat.le_of_ble_eq_true rfl, Nat.le_of_ble_eq_true rfl⟩) hP hS (fun H locs hP hS => ?_)
      refine lv_if_ne (tgt := 36) hx hb dX0_alias_30 (by decide) (fun c_6 => ?_) (fun c_6 => ?_)
      · skip
        refine lv_aload_n hx hb dX0_alias_36 rfl (lv_at hl 0 rfl) ?_
        refine va_get (D := D) (ci := 0) (v := .ref (h 2)) (C := RX0) (T := TX0) (N := 7) hx hb hB inX0 hown hK hP 0 rfl rfl 1 (by decide) (hB _ k1_150) (fun _ h9 => h9) rfl dX0_alias_37 ?_
        refine lv_iload_n hx hb dX0_alias_40 rfl (lv_at hl 1 rfl) ?_
        refine pu_call (va_runVN (As := [.int a1]) (rest := []) ⟨hx, hb, hml, hown, hB⟩ (m_T_isGone l D h cI cZ S hI a1 (by omega)) ⟨va_cnB 1 hB (gB k2_9) rfl rfl rfl (hN _ kn_12) (hB _ k1_3) (by decide +kernel) ⟨Nat.le_of_ble_eq_true rfl, Nat.le_of_ble_eq_true rfl⟩, hB _ k2_8, hB _ ks_110⟩ ⟨pu_blind, va_recv hK hP (ci := 2) (q0 := 2) rfl rfl, pu_pre hP hK hN⟩ rfl rfl hl.1 rfl (lv_room (Nat.le_of_ble_eq_true rfl)) dX0_alias_41 ⟨Nat.le_of_ble_eq_true rfl, Nat.le_of_ble_eq_true rfl⟩) hP hS (fun H locs hP hS => ?_)
        refine lv_if_ne (tgt := 58) hx hb dX0_alias_44 (by decide) (fun c_8 => ?_) (fun c_8 => ?_)
        · skip
          refine lv_bipush (v := (-13)) hx hb dX0_alias_58 (by decide) ?_
          exact W.iret (v := (-13)) hx hb hr (fun t ht hW => ⟨⟨(-13), S, rfl, ⟨(by rw [F_A_alias, if_neg c_2, if_neg c_4, if_neg c_6, if_neg c_8]), hI⟩, by show va_P D vwCl _ t.heap; rw [ht]; exact hP⟩, hS.F ht⟩) hS.2.2 dX0_alias_60
        · skip
          refine lv_aload_n hx hb dX0_alias_47 rfl (lv_at hl 0 rfl) ?_
          refine va_get (D := D) (ci := 0) (v := .ref (h 3)) (C := RX0) (T := TX0) (N := 7) hx hb hB inX0 hown hK hP 0 rfl rfl 2 (by decide) (hB _ k1_151) (fun _ h9 => h9) rfl dX0_alias_48 ?_
          refine lv_iload_n hx hb dX0_alias_51 rfl (lv_at hl 1 rfl) ?_
          refine pu_call (va_runVN (As := [.int a1]) (rest := []) ⟨hx, hb, hml, hown, hB⟩ (m_R_anyLiveOf l D h cI cZ S hI a1 ) ⟨va_cnB 1 hB (gB k2_148) rfl rfl rfl (hN _ kn_39) (hB _ k1_4) (by decide +kernel) ⟨Nat.le_of_ble_eq_true rfl, Nat.le_of_ble_eq_true rfl⟩, hB _ k2_147, hB _ ks_203⟩ ⟨pu_blind, va_recv hK hP (ci := 3) (q0 := 3) rfl rfl, pu_pre hP hK hN⟩ rfl rfl hl.1 rfl (lv_room (Nat.le_of_ble_eq_true rfl)) dX0_alias_52 ⟨Nat.le_of_ble_eq_true rfl, Nat.le_of_ble_eq_true rfl⟩) hP hS (fun H locs hP hS => ?_)
          refine lv_if_eq (tgt := 61) hx hb dX0_alias_55 (by decide) (fun c_10 => ?_) (fun c_10 => ?_)
          · skip
            refine lv_aload_n hx hb dX0_alias_61 rfl (lv_at hl 0 rfl) ?_
            refine va_get (D := D) (ci := 0) (v := .ref (h 2)) (C := RX0) (T := TX0) (N := 7) hx hb hB inX0 hown hK hP 0 rfl rfl 1 (by decide) (hB _ k1_150) (fun _ h9 => h9) rfl dX0_alias_62 ?_
            refine lv_iload_n hx hb dX0_alias_65 rfl (lv_at hl 2 rfl) ?_
            refine lv_iload_n hx hb dX0_alias_66 rfl (lv_at hl 3 rfl) ?_
            refine pu_call (va_runVN (As := [.int a2, .int a3]) (rest := []) ⟨hx, hb, hml, hown, hB⟩ (m_T_meaning l D h cI cZ S hI a2 a3 (by omega)) ⟨va_cnB 2 hB (gB k2_152) rfl rfl rfl (hN _ kn_40) (hB _ k1_3) (by decide +kernel) ⟨Nat.le_of_ble_eq_true rfl, Nat.le_of_ble_eq_true rfl⟩, hB _ k2_151, hB _ ks_206⟩ ⟨pu_blind, va_recv hK hP (ci := 2) (q0 := 2) rfl rfl, pu_pre hP hK hN⟩ rfl rfl hl.1 rfl (lv_room (Nat.le_of_ble_eq_true rfl)) dX0_alias_67 ⟨Nat.le_of_ble_eq_true rfl, Nat.le_of_ble_eq_true rfl⟩) hP hS (fun H locs hP hS => ?_)
            refine lv_iload_n hx hb dX0_alias_70 rfl (lv_at hl 1 rfl) ?_
            refine lv_icmp_ne (tgt := 76) hx hb dX0_alias_71 (by decide) (fun c_12 => ?_) (fun c_12 => ?_)
            · skip
              refine lv_aload_n hx hb dX0_alias_76 rfl (lv_at hl 0 rfl) ?_
              refine va_get (D := D) (ci := 0) (v := .ref (h 2)) (C := RX0) (T := TX0) (N := 7) hx hb hB inX0 hown hK hP 0 rfl rfl 1 (by decide) (hB _ k1_150) (fun _ h9 => h9) rfl dX0_alias_77 ?_
              refine lv_iload_n hx hb dX0_alias_80 rfl (lv_at hl 1 rfl) ?_
              refine lv_iload_n hx hb dX0_alias_81 rfl (lv_at hl 2 rfl) ?_
              refine lv_iload_n hx hb dX0_alias_82 rfl (lv_at hl 3 rfl) ?_
              refine wv_call (va_runVN (As := [.int a1, .int a2, .int a3]) (rest := []) ⟨hx, hb, hml, hown, hB⟩ (m_T_goInto l D h cI cZ S hI a1 a2 a3 (by omega) (by omega)) ⟨va_cnB 3 hB (gB k2_128) rfl rfl rfl (hN _ kn_36) (hB _ k1_3) (by decide +kernel) ⟨Nat.le_of_ble_eq_true rfl, Nat.le_of_ble_eq_true rfl⟩, hB _ k2_127, hB _ ks_177⟩ ⟨wr_blind, va_recv hK hP (ci := 2) (q0 := 2) rfl rfl, wr_pre hP hK hN hD⟩ rfl rfl hl.1 rfl (lv_room (Nat.le_of_ble_eq_true rfl)) dX0_alias_83 ⟨Nat.le_of_ble_eq_true rfl, Nat.le_of_ble_eq_true rfl⟩) hS (fun H locs hP hI_13 hS => ?_)
              have hD := wD (S2 := (F_T_goInto S a1 a2 a3)) hD
              refine lv_aload_n hx hb dX0_alias_86 rfl (lv_at hl 0 rfl) ?_
              refine lv_iload_n hx hb dX0_alias_87 rfl (lv_at hl 3 rfl) ?_
              refine wpf_27 (S := (F_T_goInto S a1 a2 a3)) hx hb hB hown hK hP hD hS (hB _ k1_155) dX0_alias_88 (fun H locs hP hD hS => ?_)
              have hI_15 : IV (upS 27 0 a3 (F_T_goInto S a1 a2 a3)) := iv_up (S := (F_T_goInto S a1 a2 a3)) hI_13 27 0 a3 (iv_none 27 rfl)
              refine lv_iconst (v := 1) hx hb dX0_alias_91 (by decide) ?_
              exact W.iret (v := 1) hx hb hr (fun t ht hW => ⟨⟨1, upS 27 0 a3 (F_T_goInto S a1 a2 a3), rfl, ⟨(by rw [F_A_alias, if_neg c_2, if_neg c_4, if_neg c_6, if_pos c_8, if_pos c_10, if_neg c_12]), hI_15⟩, by show va_P D vwCl _ t.heap; rw [ht]; exact hP⟩, hS.F ht⟩) hS.2.2 dX0_alias_92
            · skip
              refine lv_iconst (v := 0) hx hb dX0_alias_74 (by decide) ?_
              exact W.iret (v := 0) hx hb hr (fun t ht hW => ⟨⟨0, S, rfl, ⟨(by rw [F_A_alias, if_neg c_2, if_neg c_4, if_neg c_6, if_pos c_8, if_pos c_10, if_pos c_12]), hI⟩, by show va_P D vwCl _ t.heap; rw [ht]; exact hP⟩, hS.F ht⟩) hS.2.2 dX0_alias_75
          · skip
            refine lv_bipush (v := (-13)) hx hb dX0_alias_58 (by decide) ?_
            exact W.iret (v := (-13)) hx hb hr (fun t ht hW => ⟨⟨(-13), S, rfl, ⟨(by rw [F_A_alias, if_neg c_2, if_neg c_4, if_neg c_6, if_pos c_8, if_neg c_10]), hI⟩, by show va_P D vwCl _ t.heap; rw [ht]; exact hP⟩, hS.F ht⟩) hS.2.2 dX0_alias_60
      · skip
        refine lv_bipush (v := (-12)) hx hb dX0_alias_33 (by decide) ?_
        exact W.iret (v := (-12)) hx hb hr (fun t ht hW => ⟨⟨(-12), S, rfl, ⟨(by rw [F_A_alias, if_neg c_2, if_neg c_4, if_pos c_6]), hI⟩, by show va_P D vwCl _ t.heap; rw [ht]; exact hP⟩, hS.F ht⟩) hS.2.2 dX0_alias_35
    · skip
      refine lv_bipush (v := (-11)) hx hb dX0_alias_22 (by decide) ?_
      exact W.iret (v := (-11)) hx hb hr (fun t ht hW => ⟨⟨(-11), S, rfl, ⟨(by rw [F_A_alias, if_neg c_2, if_pos c_4]), hI⟩, by show va_P D vwCl _ t.heap; rw [ht]; exact hP⟩, hS.F ht⟩) hS.2.2 dX0_alias_24
