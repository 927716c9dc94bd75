set_option maxHeartbeats 4000000 in
set_option maxRecDepth 100000 in
theorem m_M_in (l : Launch) (D : va_G) (h : Nat → Nat) (cI cZ : ClassId) (S : BS) (hI : IVM S) (a1 a2 a3 : Int32) : PMM l yX6_in wsX6_in { frames := 0, cells := 0, slots := 0, locals := 0 } D cI cZ h S [.int a1, .int a2, .int a3] (f_M_in a1 a2 a3) := by
  refine Met.ofW (cc := cX6_in) (maxL := 3) (ret := (some .boolean)) (by decide) rfl ?_
  intro p e s m args below meth c s₁ B hml hv
  obtain ⟨rfl, hP, hK, hN⟩ := hv
  have hx := B.exec
  have hb := B.bytes
  have hr := B.returns
  have hts := atoms_spec (ws := wsX6_in) B.pre
  have hB : ∀ w ∈ BW, w.before _ s = true := fun w h => hts w (List.mem_cons_of_mem _ h)
  have hown : s.vm.findClass RX6 = some m.cls := findClass_of_methodNamed B.named
  have hlocks := B.notSynchronized
  have hS : va_S (fun _ => False) s.heap s.heap [] := va_S.rf
  have hl := lv_entry ([.int a1, .int a2, .int a3]) (n := 3) (Nat.le_of_ble_eq_true rfl)
  rw [lg_entry_eq]
  generalize (lg_sl ([.int a1, .int a2, .int a3]) ++ List.replicate (3 - (lg_sl ([.int a1, .int a2, .int a3])).length) Slot.unset).toArray = ls at hl ⊢
  have hl : lv_has ls 3 [(0, .int a1), (1, .int a2), (2, .int a3)] := hl
  refine lv_iload_n hx hb dX6_in_0 rfl (lv_at hl 0 rfl) ?_
  refine lv_iload_n hx hb dX6_in_1 rfl (lv_at hl 1 rfl) ?_
  refine lv_icmp_lt (tgt := 14) hx hb dX6_in_2 (by decide) (fun c_1 => ?_) (fun c_1 => ?_)
  · skip
    have t_1 := Int32.lt_iff_toInt_lt.mp c_1
    refine lv_iconst (v := 0) hx hb dX6_in_14 (by decide) ?_
    exact W.zret (v := 0) hx hb hr (by decide) (fun t ht hW => ⟨⟨0, (), rfl, (by rw [f_M_in, if_pos c_1]), trivial⟩, hS.F ht⟩) hS.2.2 dX6_in_15
  · skip
    have t_1 := mt Int32.lt_iff_toInt_lt.mpr c_1
    refine lv_iload_n hx hb dX6_in_5 rfl (lv_at hl 0 rfl) ?_
    refine lv_iload_n hx hb dX6_in_6 rfl (lv_at hl 2 rfl) ?_
    refine lv_icmp_gt (tgt := 14) hx hb dX6_in_7 (by decide) (fun c_2 => ?_) (fun c_2 => ?_)
    · skip
      have t_2 := Int32.lt_iff_toInt_lt.mp c_2
      refine lv_iconst (v := 0) hx hb dX6_in_14 (by decide) ?_
      exact W.zret (v := 0) hx hb hr (by decide) (fun t ht hW => ⟨⟨0, (), rfl, (by rw [f_M_in, if_neg c_1, if_pos c_2]), trivial⟩, hS.F ht⟩) hS.2.2 dX6_in_15
    · skip
      have t_2 := mt Int32.lt_iff_toInt_lt.mpr c_2
      refine lv_iconst (v := 1) hx hb dX6_in_10 (by decide) ?_
      refine lv_goto (tgt := 15) hx hb dX6_in_11 (by decide) ?_
      exact W.zret (v := 1) hx hb hr (by decide) (fun t ht hW => ⟨⟨1, (), rfl, (by rw [f_M_in, if_neg c_1, if_neg c_2]), trivial⟩, hS.F ht⟩) hS.2.2 dX6_in_15
set_option maxHeartbeats 4000000 in
set_option maxRecDepth 100000 in
theorem m_M_isDay (l : Launch) (D : va_G) (h : Nat → Nat) (cI cZ : ClassId) (S : BS) (hI : IVM S) (a1 : Int32) : PMM l yX6_isDay wsX6_isDay { frames := 1, cells := 0, slots := 0, locals := 22 } D cI cZ h S [.ref (h 0), .int a1] (f_M_isDay S a1) := by
  refine Met.ofW (cc := cX6_isDay) (maxL := 2) (ret := (some .boolean)) (by decide) rfl ?_
  intro p e s m args below meth c s₁ B hml hv
  obtain ⟨rfl, hP, hK, hN⟩ := hv
  have hx := B.exec
  have hb := B.bytes
  have hr := B.returns
  have hts := atoms_spec (ws := wsX6_isDay) B.pre
  have hB : ∀ w ∈ BW, w.before _ s = true := fun w h => hts w (List.mem_cons_of_mem _ h)
  have hown : s.vm.findClass RX6 = some m.cls := findClass_of_methodNamed B.named
  have hlocks := B.notSynchronized
  have hS : va_S (fun _ => False) s.heap s.heap [] := va_S.rf
  have hl := lv_entry ([.ref (h 0), .int a1]) (n := 2) (Nat.le_of_ble_eq_true rfl)
  rw [lg_entry_eq]
  generalize (lg_sl ([.ref (h 0), .int a1]) ++ List.replicate (2 - (lg_sl ([.ref (h 0), .int a1])).length) Slot.unset).toArray = ls at hl ⊢
  have hl : lv_has ls 2 [(0, .ref (h 0)), (1, .int a1)] := hl
  refine lv_iload_n hx hb dX6_isDay_0 rfl (lv_at hl 1 rfl) ?_
  refine lv_aload_n hx hb dX6_isDay_1 rfl (lv_at hl 0 rfl) ?_
  refine va_get (D := D) (ci := 6) (v := .int (S 19 0)) (C := RX6) (T := TX6) (N := 25) hx hb hB inX6 hown hK hP 0 rfl rfl 0 (by decide) (hB _ k2_237) (fun _ h9 => h9) rfl dX6_isDay_2 ?_
  refine lv_ldc (v := 1000000) hx hb hown (hB _ k3_109) dX6_isDay_5 ?_
  refine pu_callM (va_runS (As := [.int a1, .int (S 19 0), .int 1000000]) (rest := []) ⟨hx, hb, hml, hown, hB⟩ (m_M_in l D h cI cZ S hI a1 (S 19 0) 1000000 ) (cwS 3 hB (gS k3_78 k3_79 k1_7 k3_80) rfl rfl rfl (by decide +kernel) ⟨Nat.le_of_ble_eq_true rfl, Nat.le_of_ble_eq_true rfl⟩) ⟨pu_blindM, pu_preM hP hK hN⟩ rfl rfl hl.1 rfl (lv_room (Nat.le_of_ble_eq_true rfl)) dX6_isDay_7 ⟨Nat.le_of_ble_eq_true rfl, Nat.le_of_ble_eq_true rfl⟩) hP hS (fun H locs hP hS => ?_)
  exact W.zret (v := f_M_in a1 (S 19 0) 1000000) hx hb hr (nb01 (z01_M_in)) (fun t ht hW => ⟨⟨f_M_in a1 (S 19 0) 1000000, (), rfl, (by rw [f_M_isDay]), trivial⟩, hS.F ht⟩) hS.2.2 dX6_isDay_10
set_option maxHeartbeats 4000000 in
set_option maxRecDepth 100000 in
theorem m_M_placeWith (l : Launch) (D : va_G) (h : Nat → Nat) (cI cZ : ClassId) (S : BS) (hI : IVM S) (a1 : Int32) : PMM l yX6_placeWith wsX6_placeWith { frames := 0, cells := 0, slots := 0, locals := 0 } D cI cZ h S [.ref (h 0), .int a1] (f_M_placeWith S a1) := by
  refine Met.ofW (cc := cX6_placeWith) (maxL := 3) (ret := (some .int)) (by decide) rfl ?_
  intro p e s m args below meth c s₁ B hml hv
  obtain ⟨rfl, hP, hK, hN⟩ := hv
  have hx := B.exec
  have hb := B.bytes
  have hr := B.returns
  have hts := atoms_spec (ws := wsX6_placeWith) B.pre
  have hB : ∀ w ∈ BW, w.before _ s = true := fun w h => hts w (List.mem_cons_of_mem _ h)
  have hown : s.vm.findClass RX6 = some m.cls := findClass_of_methodNamed B.named
  have hlocks := B.notSynchronized
  have hS : va_S (fun _ => False) s.heap s.heap [] := va_S.rf
  have hl := lv_entry ([.ref (h 0), .int a1]) (n := 3) (Nat.le_of_ble_eq_true rfl)
  rw [lg_entry_eq]
  generalize (lg_sl ([.ref (h 0), .int a1]) ++ List.replicate (3 - (lg_sl ([.ref (h 0), .int a1])).length) Slot.unset).toArray = ls at hl ⊢
  have hl : lv_has ls 3 [(0, .ref (h 0)), (1, .int a1)] := hl
  refine lv_iconst (v := 0) hx hb dX6_placeWith_0 (by decide) ?_
  refine lv_istore_n (lv' := [(2, .int 0), (0, .ref (h 0)), (1, .int a1)]) hx hb dX6_placeWith_1 rfl hl (by decide) rfl (fun ls hl => ?_)
  have loop2 : ∀ (n2 : Nat) (x2 : Int32) (H : Heap) (locs : List Loc) (ls : Array Slot), (0 ≤ x2.toInt ∧ x2.toInt ≤ 6000 ∧ 1 ≤ (n2 : Int) ∧ (S 20 0 : Int32).toInt - x2.toInt < (n2 : Int) ∧ (True)) → l_M_placeWith_2 S a1 n2 x2 = f_M_placeWith S a1 → va_P D vwCl (wBM h cI cZ S) H → va_S (fun _ => False) s.heap H locs → lv_has ls 3 [(0, .ref (h 0)), (1, .int a1), (2, .int x2)] → W p l e (headSpec wsX6_placeWith { frames := 0, cells := 0, slots := 0, locals := 0 }).room s m ([.ref (h 0), .int a1]).toArray below meth c H locs 0 0 (MQ below (PQ (f_M_placeWith S a1)) ([.ref (h 0), .int a1]).toArray s 0 0 (fun _ => False)) (F0 m 2 ls []) := by
    intro n2
    induction n2 with
    | zero =>
      intro x2 H locs ls hinv he2 hP hS hl
      exact absurd hinv.2.2.1 (by omega)
    | succ n2 ih2 =>
      intro x2 H locs ls hinv he2 hP hS hl
      obtain ⟨h0_2, hc_2, h1_2, hm_2, hex_2⟩ := hinv
      have hBd_2 := ivM_20 hI
      refine lv_iload_n hx hb dX6_placeWith_2 rfl (lv_at hl 2 rfl) ?_
      refine lv_aload_n hx hb dX6_placeWith_3 rfl (lv_at hl 0 rfl) ?_
      refine va_get (D := D) (ci := 6) (v := .int (S 20 0)) (C := RX6) (T := TX6) (N := 25) hx hb hB inX6 hown hK hP 0 rfl rfl 1 (by decide) (hB _ k2_238) (fun _ h9 => h9) rfl dX6_placeWith_4 ?_
      have b_1 : (0) ≤ (S 20 0).toInt ∧ (S 20 0).toInt ≤ 16 := ivM_20 (S := S) hI
      refine lv_icmp_ge (tgt := 28) hx hb dX6_placeWith_7 (by decide) (fun c_2 => ?_) (fun c_2 => ?_)
      · skip
        have t_2 := Int32.le_iff_toInt_le.mp c_2
        refine lv_iconst (v := (-1)) hx hb dX6_placeWith_28 (by decide) ?_
        exact W.iret (v := (-1)) hx hb hr (fun t ht hW => ⟨⟨(-1), (), rfl, (by rw [← he2, l_M_placeWith_2, if_pos c_2]), trivial⟩, hS.F ht⟩) hS.2.2 dX6_placeWith_29
      · skip
        have t_2 := mt Int32.le_iff_toInt_le.mpr c_2
        refine lv_aload_n hx hb dX6_placeWith_10 rfl (lv_at hl 0 rfl) ?_
        refine va_get (D := D) (ci := 6) (v := .ref (h 1)) (C := RX6) (T := TX6) (N := 25) hx hb hB inX6 hown hK hP 0 rfl rfl 2 (by decide) (hB _ k2_239) (fun _ h9 => h9) rfl dX6_placeWith_11 ?_
        refine lv_iload_n hx hb dX6_placeWith_14 rfl (lv_at hl 2 rfl) ?_
        refine va_iald (f := S 0) hx hb hK hP 1 0 rfl rfl (vp_in_iff.mpr (by omega)) dX6_placeWith_15 ?_
        refine lv_iload_n hx hb dX6_placeWith_16 rfl (lv_at hl 1 rfl) ?_
        refine lv_icmp_ne (tgt := 22) hx hb dX6_placeWith_17 (by decide) (fun c_3 => ?_) (fun c_3 => ?_)
        · skip
          refine lv_iinc (v := x2 + 1) (lv' := [(2, .int (x2 + 1)), (0, .ref (h 0)), (1, .int a1)]) hx hb dX6_placeWith_22 hl (k := 2) rfl rfl (by decide) rfl (fun ls hl => ?_)
          refine lv_goto (tgt := 2) hx hb dX6_placeWith_25 (by decide) ?_
          have hinc := i32_inc (x := x2) h0_2 (by omega)
          exact ih2 (x2 + 1) _ _ _ ⟨by omega, by omega, by omega, by omega, trivial⟩ (by first | (rw [← he2, l_M_placeWith_2, if_neg c_2, if_neg c_3]; done) | (rw [← he2, l_M_placeWith_2]; simp only [if_neg c_2, if_neg c_3])) hP hS (lv_sub hl [1, 2, 0] rfl)
        · skip
          refine lv_iload_n hx hb dX6_placeWith_20 rfl (lv_at hl 2 rfl) ?_
          exact W.iret (v := x2) hx hb hr (fun t ht hW => ⟨⟨x2, (), rfl, (by rw [← he2, l_M_placeWith_2, if_neg c_2, if_pos c_3]), trivial⟩, hS.F ht⟩) hS.2.2 dX6_placeWith_21
  have z_0 : ((0) : Int32).toInt = (0) := by decide
  have hB9_2 := ivM_20 (S := S) hI
  exact loop2 600 0 _ _ _ ⟨by omega, by omega, by omega, by omega, trivial⟩ (by rw [f_M_placeWith]) hP hS (lv_sub hl [1, 2, 0] rfl)
set_option maxHeartbeats 4000000 in
set_option maxRecDepth 100000 in
theorem m_M_place (l : Launch) (D : va_G) (h : Nat → Nat) (cI cZ : ClassId) (S : BS) (hI : IVM S) (a1 a2 : Int32) : WMM l yX6_place wsX6_place { frames := 1, cells := 0, slots := 0, locals := 22 } D cI cZ h S [.ref (h 0), .int a1, .int a2] (F_M_place S a1 a2) := by
  refine Met.ofW (cc := cX6_place) (maxL := 3) (ret := (some .int)) (by decide) rfl ?_
  intro p e s m args below meth c s₁ B hml hv
  obtain ⟨rfl, hP, hK, hN, hD0⟩ := hv
  have hx := B.exec
  have hb := B.bytes
  have hr := B.returns
  have hts := atoms_spec (ws := wsX6_place) B.pre
  have hB : ∀ w ∈ BW, w.before _ s = true := fun w h => hts w (List.mem_cons_of_mem _ h)
  have hown : s.vm.findClass RX6 = some m.cls := findClass_of_methodNamed B.named
  have hlocks := B.notSynchronized
  have hD := bDM hD0
  have hS : va_S (bAM h) s.heap s.heap [] := va_S.rf
  have hl := lv_entry ([.ref (h 0), .int a1, .int a2]) (n := 3) (Nat.le_of_ble_eq_true rfl)
  rw [lg_entry_eq]
  generalize (lg_sl ([.ref (h 0), .int a1, .int a2]) ++ List.replicate (3 - (lg_sl ([.ref (h 0), .int a1, .int a2])).length) Slot.unset).toArray = ls at hl ⊢
  have hl : lv_has ls 3 [(0, .ref (h 0)), (1, .int a1), (2, .int a2)] := hl
  refine lv_iload_n hx hb dX6_place_0 rfl (lv_at hl 1 rfl) ?_
  refine lv_iconst (v := 1) hx hb dX6_place_1 (by decide) ?_
  refine lv_ldc (v := 99999) hx hb hown (hB _ k3_77) dX6_place_2 ?_
  refine pu_callM (va_runS (As := [.int a1, .int 1, .int 99999]) (rest := []) ⟨hx, hb, hml, hown, hB⟩ (m_M_in l D h cI cZ S hI a1 1 99999 ) (cwS 3 hB (gS k3_78 k3_79 k1_7 k3_80) rfl rfl rfl (by decide +kernel) ⟨Nat.le_of_ble_eq_true rfl, Nat.le_of_ble_eq_true rfl⟩) ⟨pu_blindM, pu_preM hP hK hN⟩ rfl rfl hl.1 rfl (lv_room (Nat.le_of_ble_eq_true rfl)) dX6_place_4 ⟨Nat.le_of_ble_eq_true rfl, Nat.le_of_ble_eq_true rfl⟩) hP hS (fun H locs hP hS => ?_)
  refine lv_if_eq (tgt := 21) hx hb dX6_place_7 (by decide) (fun c_2 => ?_) (fun c_2 => ?_)
  · skip
    refine lv_bipush (v := (-12)) hx hb dX6_place_21 (by decide) ?_
    exact W.iret (v := (-12)) hx hb hr (fun t ht hW => ⟨⟨(-12), S, rfl, ⟨(by rw [F_M_place, if_pos c_2]), hI⟩, by show va_P D vwCl _ t.heap; rw [ht]; exact hP⟩, hS.F ht⟩) hS.2.2 dX6_place_23
  · skip
    have z_1 : ((1) : Int32).toInt = (1) := by decide
    have z_99999 : ((99999) : Int32).toInt = (99999) := by decide
    have t_2 := fb_M_in c_2
    refine lv_iload_n hx hb dX6_place_10 rfl (lv_at hl 2 rfl) ?_
    refine lv_iconst (v := 0) hx hb dX6_place_11 (by decide) ?_
    refine lv_sipush (v := 9999) hx hb dX6_place_12 (by decide) ?_
    refine pu_callM (va_runS (As := [.int a2, .int 0, .int 9999]) (rest := []) ⟨hx, hb, hml, hown, hB⟩ (m_M_in l D h cI cZ S hI a2 0 9999 ) (cwS 3 hB (gS k3_78 k3_79 k1_7 k3_80) rfl rfl rfl (by decide +kernel) ⟨Nat.le_of_ble_eq_true rfl, Nat.le_of_ble_eq_true rfl⟩) ⟨pu_blindM, pu_preM hP hK hN⟩ rfl rfl hl.1 rfl (lv_room (Nat.le_of_ble_eq_true rfl)) dX6_place_15 ⟨Nat.le_of_ble_eq_true rfl, Nat.le_of_ble_eq_true rfl⟩) hP hS (fun H locs hP hS => ?_)
    refine lv_if_ne (tgt := 24) hx hb dX6_place_18 (by decide) (fun c_4 => ?_) (fun c_4 => ?_)
    · skip
      have z_0 : ((0) : Int32).toInt = (0) := by decide
      have z_9999 : ((9999) : Int32).toInt = (9999) := by decide
      have t_4 := fb_M_in c_4
      refine lv_aload_n hx hb dX6_place_24 rfl (lv_at hl 0 rfl) ?_
      refine lv_iload_n hx hb dX6_place_25 rfl (lv_at hl 1 rfl) ?_
      refine pu_callM (va_runV (As := [.int a1]) (rest := []) ⟨hx, hb, hml, hown, hB⟩ (m_M_placeWith l D h cI cZ S hI a1 ) (cwV 1 hB (gV k3_81 k3_83 ks_296 k1_7 k3_84) rfl rfl rfl (by decide +kernel) ⟨Nat.le_of_ble_eq_true rfl, Nat.le_of_ble_eq_true rfl⟩) ⟨pu_blindM, va_recv hK hP (ci := 6) (q0 := 0) rfl rfl, pu_preM hP hK hN⟩ rfl rfl hl.1 rfl (lv_room (Nat.le_of_ble_eq_true rfl)) dX6_place_26 ⟨Nat.le_of_ble_eq_true rfl, Nat.le_of_ble_eq_true rfl⟩) hP hS (fun H locs hP hS => ?_)
      refine lv_if_lt (tgt := 35) hx hb dX6_place_29 (by decide) (fun c_6 => ?_) (fun c_6 => ?_)
      · skip
        have t_6 := Int32.lt_iff_toInt_lt.mp c_6
        refine lv_aload_n hx hb dX6_place_35 rfl (lv_at hl 0 rfl) ?_
        refine va_get (D := D) (ci := 6) (v := .int (S 20 0)) (C := RX6) (T := TX6) (N := 25) hx hb hB inX6 hown hK hP 0 rfl rfl 1 (by decide) (hB _ k2_238) (fun _ h9 => h9) rfl dX6_place_36 ?_
        have b_7 : (0) ≤ (S 20 0).toInt ∧ (S 20 0).toInt ≤ 16 := ivM_20 (S := S) hI
        refine lv_bipush (v := 16) hx hb dX6_place_39 (by decide) ?_
        refine lv_icmp_ne (tgt := 47) hx hb dX6_place_41 (by decide) (fun c_8 => ?_) (fun c_8 => ?_)
        · skip
          have z_16 : ((16) : Int32).toInt = (16) := by decide
          have t_8 := mt Int32.toInt_inj.mp c_8
          refine lv_aload_n hx hb dX6_place_47 rfl (lv_at hl 0 rfl) ?_
          refine va_get (D := D) (ci := 6) (v := .ref (h 1)) (C := RX6) (T := TX6) (N := 25) hx hb hB inX6 hown hK hP 0 rfl rfl 2 (by decide) (hB _ k2_239) (fun _ h9 => h9) rfl dX6_place_48 ?_
          refine lv_aload_n hx hb dX6_place_51 rfl (lv_at hl 0 rfl) ?_
          refine va_get (D := D) (ci := 6) (v := .int (S 20 0)) (C := RX6) (T := TX6) (N := 25) hx hb hB inX6 hown hK hP 0 rfl rfl 1 (by decide) (hB _ k2_238) (fun _ h9 => h9) rfl dX6_place_52 ?_
          have b_9 : (0) ≤ (S 20 0).toInt ∧ (S 20 0).toInt ≤ 16 := ivM_20 (S := S) hI
          refine lv_iload_n hx hb dX6_place_55 rfl (lv_at hl 1 rfl) ?_
          refine wstM_0 (S := S) hx hb hK hP hD hS (vp_in_iff.mpr (by omega)) dX6_place_56 (fun H locs hP hD hS => ?_)
          have hI_10 : IVM (upS 0 ((S 20 0).toNatClampNeg) a1 S) := iv_upM (S := S) hI 0 ((S 20 0).toNatClampNeg) a1 (iv_noneM 0 rfl)
          refine lv_aload_n hx hb dX6_place_57 rfl (lv_at hl 0 rfl) ?_
          refine lv_dup hx hb dX6_place_58 rfl ?_
          refine va_get (D := D) (ci := 6) (v := .int (S 20 0)) (C := RX6) (T := TX6) (N := 25) hx hb hB inX6 hown hK hP 0 rfl rfl 1 (by decide) (hB _ k2_238) (fun _ h9 => h9) rfl dX6_place_59 ?_
          have b_11 : (0) ≤ (S 20 0).toInt ∧ (S 20 0).toInt ≤ 16 := ivM_20 (S := upS 0 ((S 20 0).toNatClampNeg) a1 S) hI_10
          refine lv_iconst (v := 1) hx hb dX6_place_62 (by decide) ?_
          refine lv_iadd hx hb dX6_place_63 ?_
          refine wpfM_20 (S := upS 0 ((S 20 0).toNatClampNeg) a1 S) hx hb hB hown hK hP hD hS (hB _ k2_238) dX6_place_64 (fun H locs hP hD hS => ?_)
          have k_13 := i32_inc (x := (S 20 0)) (by omega) (by omega)
          have hI_12 : IVM (upS 20 0 ((S 20 0) + 1) (upS 0 ((S 20 0).toNatClampNeg) a1 S)) := iv_upM (S := upS 0 ((S 20 0).toNatClampNeg) a1 S) hI_10 20 0 ((S 20 0) + 1) (iv_oneM 20 (0) 16 rfl (by omega))
          refine lv_aload_n hx hb dX6_place_67 rfl (lv_at hl 0 rfl) ?_
          refine va_get (D := D) (ci := 6) (v := .int ((S 20 0) + 1)) (C := RX6) (T := TX6) (N := 25) hx hb hB inX6 hown hK hP 0 rfl rfl 1 (by decide) (hB _ k2_238) (fun _ h9 => h9) rfl dX6_place_68 ?_
          have b_14 : (0) ≤ ((S 20 0) + 1).toInt ∧ ((S 20 0) + 1).toInt ≤ 16 := ivM_20 (S := upS 20 0 ((S 20 0) + 1) (upS 0 ((S 20 0).toNatClampNeg) a1 S)) hI_12
          refine lv_iconst (v := 1) hx hb dX6_place_71 (by decide) ?_
          refine lv_isub hx hb dX6_place_72 ?_
          exact W.iret (v := ((S 20 0) + 1) - 1) hx hb hr (fun t ht hW => ⟨⟨((S 20 0) + 1) - 1, upS 20 0 ((S 20 0) + 1) (upS 0 ((S 20 0).toNatClampNeg) a1 S), rfl, ⟨(by rw [F_M_place, if_neg c_2, if_neg c_4, if_pos c_6, if_neg c_8]), hI_12⟩, by show va_P D vwCl _ t.heap; rw [ht]; exact hP⟩, hS.F ht⟩) hS.2.2 dX6_place_73
        · skip
          have z_16 : ((16) : Int32).toInt = (16) := by decide
          have t_8 := Int32.toInt_inj.symm.mp c_8
          refine lv_bipush (v := (-14)) hx hb dX6_place_44 (by decide) ?_
          exact W.iret (v := (-14)) hx hb hr (fun t ht hW => ⟨⟨(-14), S, rfl, ⟨(by rw [F_M_place, if_neg c_2, if_neg c_4, if_pos c_6, if_pos c_8]), hI⟩, by show va_P D vwCl _ t.heap; rw [ht]; exact hP⟩, hS.F ht⟩) hS.2.2 dX6_place_46
      · skip
        have t_6 := mt Int32.lt_iff_toInt_lt.mpr c_6
        refine lv_bipush (v := (-13)) hx hb dX6_place_32 (by decide) ?_
        exact W.iret (v := (-13)) hx hb hr (fun t ht hW => ⟨⟨(-13), S, rfl, ⟨(by rw [F_M_place, if_neg c_2, if_neg c_4, if_neg c_6]), hI⟩, by show va_P D vwCl _ t.heap; rw [ht]; exact hP⟩, hS.F ht⟩) hS.2.2 dX6_place_34
    · skip
      refine lv_bipush (v := (-12)) hx hb dX6_place_21 (by decide) ?_
      exact W.iret (v := (-12)) hx hb hr (fun t ht hW => ⟨⟨(-12), S, rfl, ⟨(by rw [F_M_place, if_neg c_2, if_pos c_4]), hI⟩, by show va_P D vwCl _ t.heap; rw [ht]; exact hP⟩, hS.F ht⟩) hS.2.2 dX6_place_23
set_option maxHeartbeats 4000000 in
set_option maxRecDepth 100000 in
theorem m_M_streetWith (l : Launch) (D : va_G) (h : Nat → Nat) (cI cZ : ClassId) (S : BS) (hI : IVM S) (a1 a2 : Int32) : PMM l yX6_streetWith wsX6_streetWith { frames := 0, cells := 0, slots := 0, locals := 0 } D cI cZ h S [.ref (h 0), .int a1, .int a2] (f_M_streetWith S a1 a2) := by
  refine Met.ofW (cc := cX6_streetWith) (maxL := 4) (ret := (some .int)) (by decide) rfl ?_
  intro p e s m args below meth c s₁ B hml hv
  obtain ⟨rfl, hP, hK, hN⟩ := hv
  have hx := B.exec
  have hb := B.bytes
  have hr := B.returns
  have hts := atoms_spec (ws := wsX6_streetWith) B.pre
  have hB : ∀ w ∈ BW, w.before _ s = true := fun w h => hts w (List.mem_cons_of_mem _ h)
  have hown : s.vm.findClass RX6 = some m.cls := findClass_of_methodNamed B.named
  have hlocks := B.notSynchronized
  have hS : va_S (fun _ => False) s.heap s.heap [] := va_S.rf
  have hl := lv_entry ([.ref (h 0), .int a1, .int a2]) (n := 4) (Nat.le_of_ble_eq_true rfl)
  rw [lg_entry_eq]
  generalize (lg_sl ([.ref (h 0), .int a1, .int a2]) ++ List.replicate (4 - (lg_sl ([.ref (h 0), .int a1, .int a2])).length) Slot.unset).toArray = ls at hl ⊢
  have hl : lv_has ls 4 [(0, .ref (h 0)), (1, .int a1), (2, .int a2)] := hl
  refine lv_iconst (v := 0) hx hb dX6_streetWith_0 (by decide) ?_
  refine lv_istore_n (lv' := [(3, .int 0), (0, .ref (h 0)), (1, .int a1), (2, .int a2)]) hx hb dX6_streetWith_1 rfl hl (by decide) rfl (fun ls hl => ?_)
  have loop2 : ∀ (n2 : Nat) (x3 : Int32) (H : Heap) (locs : List Loc) (ls : Array Slot), (0 ≤ x3.toInt ∧ x3.toInt ≤ 6000 ∧ 1 ≤ (n2 : Int) ∧ (S 21 0 : Int32).toInt - x3.toInt < (n2 : Int) ∧ (True)) → l_M_streetWith_2 S a1 a2 n2 x3 = f_M_streetWith S a1 a2 → va_P D vwCl (wBM h cI cZ S) H → va_S (fun _ => False) s.heap H locs → lv_has ls 4 [(0, .ref (h 0)), (1, .int a1), (2, .int a2), (3, .int x3)] → W p l e (headSpec wsX6_streetWith { frames := 0, cells := 0, slots := 0, locals := 0 }).room s m ([.ref (h 0), .int a1, .int a2]).toArray below meth c H locs 0 0 (MQ below (PQ (f_M_streetWith S a1 a2)) ([.ref (h 0), .int a1, .int a2]).toArray s 0 0 (fun _ => False)) (F0 m 2 ls []) := by
    intro n2
    induction n2 with
    | zero =>
      intro x3 H locs ls hinv he2 hP hS hl
      exact absurd hinv.2.2.1 (by omega)
    | succ n2 ih2 =>
      intro x3 H locs ls hinv he2 hP hS hl
      obtain ⟨h0_2, hc_2, h1_2, hm_2, hex_2⟩ := hinv
      have hBd_2 := ivM_21 hI
      refine lv_iload_n hx hb dX6_streetWith_2 rfl (lv_at hl 3 rfl) ?_
      refine lv_aload_n hx hb dX6_streetWith_3 rfl (lv_at hl 0 rfl) ?_
      refine va_get (D := D) (ci := 6) (v := .int (S 21 0)) (C := RX6) (T := TX6) (N := 25) hx hb hB inX6 hown hK hP 0 rfl rfl 3 (by decide) (hB _ k3_0) (fun _ h9 => h9) rfl dX6_streetWith_4 ?_
      have b_1 : (0) ≤ (S 21 0).toInt ∧ (S 21 0).toInt ≤ 32 := ivM_21 (S := S) hI
      refine lv_icmp_ge (tgt := 38) hx hb dX6_streetWith_7 (by decide) (fun c_2 => ?_) (fun c_2 => ?_)
      · skip
        have t_2 := Int32.le_iff_toInt_le.mp c_2
        refine lv_iconst (v := (-1)) hx hb dX6_streetWith_38 (by decide) ?_
        exact W.iret (v := (-1)) hx hb hr (fun t ht hW => ⟨⟨(-1), (), rfl, (by rw [← he2, l_M_streetWith_2, if_pos c_2]), trivial⟩, hS.F ht⟩) hS.2.2 dX6_streetWith_39
      · skip
        have t_2 := mt Int32.le_iff_toInt_le.mpr c_2
        refine lv_aload_n hx hb dX6_streetWith_10 rfl (lv_at hl 0 rfl) ?_
        refine va_get (D := D) (ci := 6) (v := .ref (h 2)) (C := RX6) (T := TX6) (N := 25) hx hb hB inX6 hown hK hP 0 rfl rfl 4 (by decide) (hB _ k3_1) (fun _ h9 => h9) rfl dX6_streetWith_11 ?_
        refine lv_iload_n hx hb dX6_streetWith_14 rfl (lv_at hl 3 rfl) ?_
        refine va_iald (f := S 1) hx hb hK hP 2 0 rfl rfl (vp_in_iff.mpr (by omega)) dX6_streetWith_15 ?_
        refine lv_iload_n hx hb dX6_streetWith_16 rfl (lv_at hl 1 rfl) ?_
        refine lv_icmp_ne (tgt := 32) hx hb dX6_streetWith_17 (by decide) (fun c_3 => ?_) (fun c_3 => ?_)
        · skip
          refine lv_iinc (v := x3 + 1) (lv' := [(3, .int (x3 + 1)), (0, .ref (h 0)), (1, .int a1), (2, .int a2)]) hx hb dX6_streetWith_32 hl (k := 3) rfl rfl (by decide) rfl (fun ls hl => ?_)
          refine lv_goto (tgt := 2) hx hb dX6_streetWith_35 (by decide) ?_
          have hinc := i32_inc (x := x3) h0_2 (by omega)
          exact ih2 (x3 + 1) _ _ _ ⟨by omega, by omega, by omega, by omega, trivial⟩ (by first | (rw [← he2, l_M_streetWith_2, if_neg c_2, if_neg c_3]; done) | (rw [← he2, l_M_streetWith_2]; simp only [if_neg c_2, if_neg c_3])) hP hS (lv_sub hl [1, 2, 3, 0] rfl)
        · skip
          refine lv_aload_n hx hb dX6_streetWith_20 rfl (lv_at hl 0 rfl) ?_
          refine va_get (D := D) (ci := 6) (v := .ref (h 3)) (C := RX6) (T := TX6) (N := 25) hx hb hB inX6 hown hK hP 0 rfl rfl 5 (by decide) (hB _ k3_2) (fun _ h9 => h9) rfl dX6_streetWith_21 ?_
          refine lv_iload_n hx hb dX6_streetWith_24 rfl (lv_at hl 3 rfl) ?_
          refine va_iald (f := S 2) hx hb hK hP 3 0 rfl rfl (vp_in_iff.mpr (by omega)) dX6_streetWith_25 ?_
          refine lv_iload_n hx hb dX6_streetWith_26 rfl (lv_at hl 2 rfl) ?_
          refine lv_icmp_ne (tgt := 32) hx hb dX6_streetWith_27 (by decide) (fun c_4 => ?_) (fun c_4 => ?_)
          · skip
            refine lv_iinc (v := x3 + 1) (lv' := [(3, .int (x3 + 1)), (0, .ref (h 0)), (1, .int a1), (2, .int a2)]) hx hb dX6_streetWith_32 hl (k := 3) rfl rfl (by decide) rfl (fun ls hl => ?_)
            refine lv_goto (tgt := 2) hx hb dX6_streetWith_35 (by decide) ?_
            have hinc := i32_inc (x := x3) h0_2 (by omega)
            exact ih2 (x3 + 1) _ _ _ ⟨by omega, by omega, by omega, by omega, trivial⟩ (by first | (rw [← he2, l_M_streetWith_2, if_neg c_2, if_pos c_3, if_neg c_4]; done) | (rw [← he2, l_M_streetWith_2]; simp only [if_neg c_2, if_pos c_3, if_neg c_4])) hP hS (lv_sub hl [1, 2, 3, 0] rfl)
          · skip
            refine lv_iload_n hx hb dX6_streetWith_30 rfl (lv_at hl 3 rfl) ?_
            exact W.iret (v := x3) hx hb hr (fun t ht hW => ⟨⟨x3, (), rfl, (by rw [← he2, l_M_streetWith_2, if_neg c_2, if_pos c_3, if_pos c_4]), trivial⟩, hS.F ht⟩) hS.2.2 dX6_streetWith_31
  have z_0 : ((0) : Int32).toInt = (0) := by decide
  have hB9_2 := ivM_21 (S := S) hI
  exact loop2 600 0 _ _ _ ⟨by omega, by omega, by omega, by omega, trivial⟩ (by rw [f_M_streetWith]) hP hS (lv_sub hl [1, 2, 3, 0] rfl)
set_option maxHeartbeats 4000000 in
set_option maxRecDepth 100000 in
theorem m_M_street (l : Launch) (D : va_G) (h : Nat → Nat) (cI cZ : ClassId) (S : BS) (hI : IVM S) (a1 a2 : Int32) : WMM l yX6_street wsX6_street { frames := 1, cells := 0, slots := 0, locals := 23 } D cI cZ h S [.ref (h 0), .int a1, .int a2] (F_M_street S a1 a2) := by
  refine Met.ofW (cc := cX6_street) (maxL := 3) (ret := (some .int)) (by decide) rfl ?_
  intro p e s m args below meth c s₁ B hml hv
  obtain ⟨rfl, hP, hK, hN, hD0⟩ := hv
  have hx := B.exec
  have hb := B.bytes
  have hr := B.returns
  have hts := atoms_spec (ws := wsX6_street) B.pre
  have hB : ∀ w ∈ BW, w.before _ s = true := fun w h => hts w (List.mem_cons_of_mem _ h)
  have hown : s.vm.findClass RX6 = some m.cls := findClass_of_methodNamed B.named
  have hlocks := B.notSynchronized
  have hD := bDM hD0
  have hS : va_S (bAM h) s.heap s.heap [] := va_S.rf
  have hl := lv_entry ([.ref (h 0), .int a1, .int a2]) (n := 3) (Nat.le_of_ble_eq_true rfl)
  rw [lg_entry_eq]
  generalize (lg_sl ([.ref (h 0), .int a1, .int a2]) ++ List.replicate (3 - (lg_sl ([.ref (h 0), .int a1, .int a2])).length) Slot.unset).toArray = ls at hl ⊢
  have hl : lv_has ls 3 [(0, .ref (h 0)), (1, .int a1), (2, .int a2)] := hl
  refine lv_iload_n hx hb dX6_street_0 rfl (lv_at hl 1 rfl) ?_
  refine lv_iconst (v := 0) hx hb dX6_street_1 (by decide) ?_
  refine lv_aload_n hx hb dX6_street_2 rfl (lv_at hl 0 rfl) ?_
  refine va_get (D := D) (ci := 6) (v := .int (S 20 0)) (C := RX6) (T := TX6) (N := 25) hx hb hB inX6 hown hK hP 0 rfl rfl 1 (by decide) (hB _ k2_238) (fun _ h9 => h9) rfl dX6_street_3 ?_
  have b_1 : (0) ≤ (S 20 0).toInt ∧ (S 20 0).toInt ≤ 16 := ivM_20 (S := S) hI
  refine lv_iconst (v := 1) hx hb dX6_street_6 (by decide) ?_
  refine lv_isub hx hb dX6_street_7 ?_
  refine pu_callM (va_runS (As := [.int a1, .int 0, .int ((S 20 0) - 1)]) (rest := []) ⟨hx, hb, hml, hown, hB⟩ (m_M_in l D h cI cZ S hI a1 0 ((S 20 0) - 1) ) (cwS 3 hB (gS k3_78 k3_79 k1_7 k3_80) rfl rfl rfl (by decide +kernel) ⟨Nat.le_of_ble_eq_true rfl, Nat.le_of_ble_eq_true rfl⟩) ⟨pu_blindM, pu_preM hP hK hN⟩ rfl rfl hl.1 rfl (lv_room (Nat.le_of_ble_eq_true rfl)) dX6_street_8 ⟨Nat.le_of_ble_eq_true rfl, Nat.le_of_ble_eq_true rfl⟩) hP hS (fun H locs hP hS => ?_)
  refine lv_if_ne (tgt := 17) hx hb dX6_street_11 (by decide) (fun c_3 => ?_) (fun c_3 => ?_)
  · skip
    have z_0 : ((0) : Int32).toInt = (0) := by decide
    have z_20 : ((20) : Int32).toInt = (20) := by decide
    have z_0 : ((0) : Int32).toInt = (0) := by decide
    have z_1 : ((1) : Int32).toInt = (1) := by decide
    have t_3 := fb_M_in c_3
    refine lv_iload_n hx hb dX6_street_17 rfl (lv_at hl 2 rfl) ?_
    refine lv_iconst (v := 0) hx hb dX6_street_18 (by decide) ?_
    refine lv_sipush (v := 9999) hx hb dX6_street_19 (by decide) ?_
    refine pu_callM (va_runS (As := [.int a2, .int 0, .int 9999]) (rest := []) ⟨hx, hb, hml, hown, hB⟩ (m_M_in l D h cI cZ S hI a2 0 9999 ) (cwS 3 hB (gS k3_78 k3_79 k1_7 k3_80) rfl rfl rfl (by decide +kernel) ⟨Nat.le_of_ble_eq_true rfl, Nat.le_of_ble_eq_true rfl⟩) ⟨pu_blindM, pu_preM hP hK hN⟩ rfl rfl hl.1 rfl (lv_room (Nat.le_of_ble_eq_true rfl)) dX6_street_22 ⟨Nat.le_of_ble_eq_true rfl, Nat.le_of_ble_eq_true rfl⟩) hP hS (fun H locs hP hS => ?_)
    refine lv_if_ne (tgt := 31) hx hb dX6_street_25 (by decide) (fun c_5 => ?_) (fun c_5 => ?_)
    · skip
      have z_9999 : ((9999) : Int32).toInt = (9999) := by decide
      have t_5 := fb_M_in c_5
      refine lv_aload_n hx hb dX6_street_31 rfl (lv_at hl 0 rfl) ?_
      refine lv_iload_n hx hb dX6_street_32 rfl (lv_at hl 1 rfl) ?_
      refine lv_iload_n hx hb dX6_street_33 rfl (lv_at hl 2 rfl) ?_
      refine pu_callM (va_runV (As := [.int a1, .int a2]) (rest := []) ⟨hx, hb, hml, hown, hB⟩ (m_M_streetWith l D h cI cZ S hI a1 a2 ) (cwV 2 hB (gV k3_89 k3_91 ks_303 k1_7 k3_92) rfl rfl rfl (by decide +kernel) ⟨Nat.le_of_ble_eq_true rfl, Nat.le_of_ble_eq_true rfl⟩) ⟨pu_blindM, va_recv hK hP (ci := 6) (q0 := 0) rfl rfl, pu_preM hP hK hN⟩ rfl rfl hl.1 rfl (lv_room (Nat.le_of_ble_eq_true rfl)) dX6_street_34 ⟨Nat.le_of_ble_eq_true rfl, Nat.le_of_ble_eq_true rfl⟩) hP hS (fun H locs hP hS => ?_)
      refine lv_if_lt (tgt := 43) hx hb dX6_street_37 (by decide) (fun c_7 => ?_) (fun c_7 => ?_)
      · skip
        have t_7 := Int32.lt_iff_toInt_lt.mp c_7
        refine lv_aload_n hx hb dX6_street_43 rfl (lv_at hl 0 rfl) ?_
        refine va_get (D := D) (ci := 6) (v := .int (S 21 0)) (C := RX6) (T := TX6) (N := 25) hx hb hB inX6 hown hK hP 0 rfl rfl 3 (by decide) (hB _ k3_0) (fun _ h9 => h9) rfl dX6_street_44 ?_
        have b_8 : (0) ≤ (S 21 0).toInt ∧ (S 21 0).toInt ≤ 32 := ivM_21 (S := S) hI
        refine lv_bipush (v := 32) hx hb dX6_street_47 (by decide) ?_
        refine lv_icmp_ne (tgt := 55) hx hb dX6_street_49 (by decide) (fun c_9 => ?_) (fun c_9 => ?_)
        · skip
          have z_32 : ((32) : Int32).toInt = (32) := by decide
          have t_9 := mt Int32.toInt_inj.mp c_9
          refine lv_aload_n hx hb dX6_street_55 rfl (lv_at hl 0 rfl) ?_
          refine va_get (D := D) (ci := 6) (v := .ref (h 2)) (C := RX6) (T := TX6) (N := 25) hx hb hB inX6 hown hK hP 0 rfl rfl 4 (by decide) (hB _ k3_1) (fun _ h9 => h9) rfl dX6_street_56 ?_
          refine lv_aload_n hx hb dX6_street_59 rfl (lv_at hl 0 rfl) ?_
          refine va_get (D := D) (ci := 6) (v := .int (S 21 0)) (C := RX6) (T := TX6) (N := 25) hx hb hB inX6 hown hK hP 0 rfl rfl 3 (by decide) (hB _ k3_0) (fun _ h9 => h9) rfl dX6_street_60 ?_
          have b_10 : (0) ≤ (S 21 0).toInt ∧ (S 21 0).toInt ≤ 32 := ivM_21 (S := S) hI
          refine lv_iload_n hx hb dX6_street_63 rfl (lv_at hl 1 rfl) ?_
          refine wstM_1 (S := S) hx hb hK hP hD hS (vp_in_iff.mpr (by omega)) dX6_street_64 (fun H locs hP hD hS => ?_)
          have hI_11 : IVM (upS 1 ((S 21 0).toNatClampNeg) a1 S) := iv_upM (S := S) hI 1 ((S 21 0).toNatClampNeg) a1 (iv_noneM 1 rfl)
          refine lv_aload_n hx hb dX6_street_65 rfl (lv_at hl 0 rfl) ?_
          refine va_get (D := D) (ci := 6) (v := .ref (h 3)) (C := RX6) (T := TX6) (N := 25) hx hb hB inX6 hown hK hP 0 rfl rfl 5 (by decide) (hB _ k3_2) (fun _ h9 => h9) rfl dX6_street_66 ?_
          refine lv_aload_n hx hb dX6_street_69 rfl (lv_at hl 0 rfl) ?_
          refine va_get (D := D) (ci := 6) (v := .int (S 21 0)) (C := RX6) (T := TX6) (N := 25) hx hb hB inX6 hown hK hP 0 rfl rfl 3 (by decide) (hB _ k3_0) (fun _ h9 => h9) rfl dX6_street_70 ?_
          have b_12 : (0) ≤ (S 21 0).toInt ∧ (S 21 0).toInt ≤ 32 := ivM_21 (S := upS 1 ((S 21 0).toNatClampNeg) a1 S) hI_11
          refine lv_iload_n hx hb dX6_street_73 rfl (lv_at hl 2 rfl) ?_
          refine wstM_2 (S := upS 1 ((S 21 0).toNatClampNeg) a1 S) hx hb hK hP hD hS (vp_in_iff.mpr (by omega)) dX6_street_74 (fun H locs hP hD hS => ?_)
          have hI_13 : IVM (upS 2 ((S 21 0).toNatClampNeg) a2 (upS 1 ((S 21 0).toNatClampNeg) a1 S)) := iv_upM (S := upS 1 ((S 21 0).toNatClampNeg) a1 S) hI_11 2 ((S 21 0).toNatClampNeg) a2 (iv_noneM 2 rfl)
          refine lv_aload_n hx hb dX6_street_75 rfl (lv_at hl 0 rfl) ?_
          refine va_get (D := D) (ci := 6) (v := .ref (h 4)) (C := RX6) (T := TX6) (N := 25) hx hb hB inX6 hown hK hP 0 rfl rfl 6 (by decide) (hB _ k3_3) (fun _ h9 => h9) rfl dX6_street_76 ?_
          refine lv_aload_n hx hb dX6_street_79 rfl (lv_at hl 0 rfl) ?_
          refine va_get (D := D) (ci := 6) (v := .int (S 21 0)) (C := RX6) (T := TX6) (N := 25) hx hb hB inX6 hown hK hP 0 rfl rfl 3 (by decide) (hB _ k3_0) (fun _ h9 => h9) rfl dX6_street_80 ?_
          have b_14 : (0) ≤ (S 21 0).toInt ∧ (S 21 0).toInt ≤ 32 := ivM_21 (S := upS 2 ((S 21 0).toNatClampNeg) a2 (upS 1 ((S 21 0).toNatClampNeg) a1 S)) hI_13
          refine lv_iconst (v := (-1)) hx hb dX6_street_83 (by decide) ?_
          refine wstM_3 (S := upS 2 ((S 21 0).toNatClampNeg) a2 (upS 1 ((S 21 0).toNatClampNeg) a1 S)) hx hb hK hP hD hS (vp_in_iff.mpr (by omega)) dX6_street_84 (fun H locs hP hD hS => ?_)
          have hI_15 : IVM (upS 3 ((S 21 0).toNatClampNeg) (-1) (upS 2 ((S 21 0).toNatClampNeg) a2 (upS 1 ((S 21 0).toNatClampNeg) a1 S))) := iv_upM (S := upS 2 ((S 21 0).toNatClampNeg) a2 (upS 1 ((S 21 0).toNatClampNeg) a1 S)) hI_13 3 ((S 21 0).toNatClampNeg) (-1) (iv_oneM 3 (-1) 31 rfl (by decide))
          refine lv_aload_n hx hb dX6_street_85 rfl (lv_at hl 0 rfl) ?_
          refine lv_dup hx hb dX6_street_86 rfl ?_
          refine va_get (D := D) (ci := 6) (v := .int (S 21 0)) (C := RX6) (T := TX6) (N := 25) hx hb hB inX6 hown hK hP 0 rfl rfl 3 (by decide) (hB _ k3_0) (fun _ h9 => h9) rfl dX6_street_87 ?_
          have b_16 : (0) ≤ (S 21 0).toInt ∧ (S 21 0).toInt ≤ 32 := ivM_21 (S := upS 3 ((S 21 0).toNatClampNeg) (-1) (upS 2 ((S 21 0).toNatClampNeg) a2 (upS 1 ((S 21 0).toNatClampNeg) a1 S))) hI_15
          refine lv_iconst (v := 1) hx hb dX6_street_90 (by decide) ?_
          refine lv_iadd hx hb dX6_street_91 ?_
          refine wpfM_21 (S := upS 3 ((S 21 0).toNatClampNeg) (-1) (upS 2 ((S 21 0).toNatClampNeg) a2 (upS 1 ((S 21 0).toNatClampNeg) a1 S))) hx hb hB hown hK hP hD hS (hB _ k3_0) dX6_street_92 (fun H locs hP hD hS => ?_)
          have k_18 := i32_inc (x := (S 21 0)) (by omega) (by omega)
          have hI_17 : IVM (upS 21 0 ((S 21 0) + 1) (upS 3 ((S 21 0).toNatClampNeg) (-1) (upS 2 ((S 21 0).toNatClampNeg) a2 (upS 1 ((S 21 0).toNatClampNeg) a1 S)))) := iv_upM (S := upS 3 ((S 21 0).toNatClampNeg) (-1) (upS 2 ((S 21 0).toNatClampNeg) a2 (upS 1 ((S 21 0).toNatClampNeg) a1 S))) hI_15 21 0 ((S 21 0) + 1) (iv_oneM 21 (0) 32 rfl (by omega))
          refine lv_aload_n hx hb dX6_street_95 rfl (lv_at hl 0 rfl) ?_
          refine va_get (D := D) (ci := 6) (v := .int ((S 21 0) + 1)) (C := RX6) (T := TX6) (N := 25) hx hb hB inX6 hown hK hP 0 rfl rfl 3 (by decide) (hB _ k3_0) (fun _ h9 => h9) rfl dX6_street_96 ?_
          have b_19 : (0) ≤ ((S 21 0) + 1).toInt ∧ ((S 21 0) + 1).toInt ≤ 32 := ivM_21 (S := upS 21 0 ((S 21 0) + 1) (upS 3 ((S 21 0).toNatClampNeg) (-1) (upS 2 ((S 21 0).toNatClampNeg) a2 (upS 1 ((S 21 0).toNatClampNeg) a1 S)))) hI_17
          refine lv_iconst (v := 1) hx hb dX6_street_99 (by decide) ?_
          refine lv_isub hx hb dX6_street_100 ?_
          exact W.iret (v := ((S 21 0) + 1) - 1) hx hb hr (fun t ht hW => ⟨⟨((S 21 0) + 1) - 1, upS 21 0 ((S 21 0) + 1) (upS 3 ((S 21 0).toNatClampNeg) (-1) (upS 2 ((S 21 0).toNatClampNeg) a2 (upS 1 ((S 21 0).toNatClampNeg) a1 S))), rfl, ⟨(by rw [F_M_street, if_neg c_3, if_neg c_5, if_pos c_7, if_neg c_9]), hI_17⟩, by show va_P D vwCl _ t.heap; rw [ht]; exact hP⟩, hS.F ht⟩) hS.2.2 dX6_street_101
        · skip
          have z_32 : ((32) : Int32).toInt = (32) := by decide
          have t_9 := Int32.toInt_inj.symm.mp c_9
          refine lv_bipush (v := (-14)) hx hb dX6_street_52 (by decide) ?_
          exact W.iret (v := (-14)) hx hb hr (fun t ht hW => ⟨⟨(-14), S, rfl, ⟨(by rw [F_M_street, if_neg c_3, if_neg c_5, if_pos c_7, if_pos c_9]), hI⟩, by show va_P D vwCl _ t.heap; rw [ht]; exact hP⟩, hS.F ht⟩) hS.2.2 dX6_street_54
      · skip
        have t_7 := mt Int32.lt_iff_toInt_lt.mpr c_7
        refine lv_bipush (v := (-13)) hx hb dX6_street_40 (by decide) ?_
        exact W.iret (v := (-13)) hx hb hr (fun t ht hW => ⟨⟨(-13), S, rfl, ⟨(by rw [F_M_street, if_neg c_3, if_neg c_5, if_neg c_7]), hI⟩, by show va_P D vwCl _ t.heap; rw [ht]; exact hP⟩, hS.F ht⟩) hS.2.2 dX6_street_42
    · skip
      refine lv_bipush (v := (-12)) hx hb dX6_street_28 (by decide) ?_
      exact W.iret (v := (-12)) hx hb hr (fun t ht hW => ⟨⟨(-12), S, rfl, ⟨(by rw [F_M_street, if_neg c_3, if_pos c_5]), hI⟩, by show va_P D vwCl _ t.heap; rw [ht]; exact hP⟩, hS.F ht⟩) hS.2.2 dX6_street_30
  · skip
    refine lv_bipush (v := (-11)) hx hb dX6_street_14 (by decide) ?_
    exact W.iret (v := (-11)) hx hb hr (fun t ht hW => ⟨⟨(-11), S, rfl, ⟨(by rw [F_M_street, if_pos c_3]), hI⟩, by show va_P D vwCl _ t.heap; rw [ht]; exact hP⟩, hS.F ht⟩) hS.2.2 dX6_street_16
set_option maxHeartbeats 4000000 in
set_option maxRecDepth 100000 in
theorem m_M_find (l : Launch) (D : va_G) (h : Nat → Nat) (cI cZ : ClassId) (S : BS) (hI : IVM S) (a1 a2 : Int32) : PMM l yX6_find wsX6_find { frames := 1, cells := 0, slots := 0, locals := 23 } D cI cZ h S [.ref (h 0), .int a1, .int a2] (f_M_find S a1 a2) := by
  refine Met.ofW (cc := cX6_find) (maxL := 4) (ret := (some .int)) (by decide) rfl ?_
  intro p e s m args below meth c s₁ B hml hv
  obtain ⟨rfl, hP, hK, hN⟩ := hv
  have hx := B.exec
  have hb := B.bytes
  have hr := B.returns
  have hts := atoms_spec (ws := wsX6_find) B.pre
  have hB : ∀ w ∈ BW, w.before _ s = true := fun w h => hts w (List.mem_cons_of_mem _ h)
  have hown : s.vm.findClass RX6 = some m.cls := findClass_of_methodNamed B.named
  have hlocks := B.notSynchronized
  have hS : va_S (fun _ => False) s.heap s.heap [] := va_S.rf
  have hl := lv_entry ([.ref (h 0), .int a1, .int a2]) (n := 4) (Nat.le_of_ble_eq_true rfl)
  rw [lg_entry_eq]
  generalize (lg_sl ([.ref (h 0), .int a1, .int a2]) ++ List.replicate (4 - (lg_sl ([.ref (h 0), .int a1, .int a2])).length) Slot.unset).toArray = ls at hl ⊢
  have hl : lv_has ls 4 [(0, .ref (h 0)), (1, .int a1), (2, .int a2)] := hl
  refine lv_aload_n hx hb dX6_find_0 rfl (lv_at hl 0 rfl) ?_
  refine lv_iload_n hx hb dX6_find_1 rfl (lv_at hl 1 rfl) ?_
  refine pu_callM (va_runV (As := [.int a1]) (rest := []) ⟨hx, hb, hml, hown, hB⟩ (m_M_placeWith l D h cI cZ S hI a1 ) (cwV 1 hB (gV k3_81 k3_83 ks_296 k1_7 k3_84) rfl rfl rfl (by decide +kernel) ⟨Nat.le_of_ble_eq_true rfl, Nat.le_of_ble_eq_true rfl⟩) ⟨pu_blindM, va_recv hK hP (ci := 6) (q0 := 0) rfl rfl, pu_preM hP hK hN⟩ rfl rfl hl.1 rfl (lv_room (Nat.le_of_ble_eq_true rfl)) dX6_find_2 ⟨Nat.le_of_ble_eq_true rfl, Nat.le_of_ble_eq_true rfl⟩) hP hS (fun H locs hP hS => ?_)
  refine lv_istore_n (lv' := [(3, .int (f_M_placeWith S a1)), (0, .ref (h 0)), (1, .int a1), (2, .int a2)]) hx hb dX6_find_5 rfl hl (by decide) rfl (fun ls hl => ?_)
  refine lv_iload_n hx hb dX6_find_6 rfl (lv_at hl 0 rfl) ?_
  refine lv_if_ge (tgt := 14) hx hb dX6_find_7 (by decide) (fun c_2 => ?_) (fun c_2 => ?_)
  · skip
    have z_0 : ((0) : Int32).toInt = (0) := by decide
    have t_2 := Int32.le_iff_toInt_le.mp c_2
    refine lv_aload_n hx hb dX6_find_14 rfl (lv_at hl 1 rfl) ?_
    refine lv_iload_n hx hb dX6_find_15 rfl (lv_at hl 0 rfl) ?_
    refine lv_iload_n hx hb dX6_find_16 rfl (lv_at hl 3 rfl) ?_
    refine pu_callM (va_runV (As := [.int (f_M_placeWith S a1), .int a2]) (rest := []) ⟨hx, hb, hml, hown, hB⟩ (m_M_streetWith l D h cI cZ S hI (f_M_placeWith S a1) a2 ) (cwV 2 hB (gV k3_89 k3_91 ks_303 k1_7 k3_92) rfl rfl rfl (by decide +kernel) ⟨Nat.le_of_ble_eq_true rfl, Nat.le_of_ble_eq_true rfl⟩) ⟨pu_blindM, va_recv hK hP (ci := 6) (q0 := 0) rfl rfl, pu_preM hP hK hN⟩ rfl rfl hl.1 rfl (lv_room (Nat.le_of_ble_eq_true rfl)) dX6_find_17 ⟨Nat.le_of_ble_eq_true rfl, Nat.le_of_ble_eq_true rfl⟩) hP hS (fun H locs hP hS => ?_)
    exact W.iret (v := f_M_streetWith S (f_M_placeWith S a1) a2) hx hb hr (fun t ht hW => ⟨⟨f_M_streetWith S (f_M_placeWith S a1) a2, (), rfl, (by rw [f_M_find, if_pos c_2]), trivial⟩, hS.F ht⟩) hS.2.2 dX6_find_20
  · skip
    have z_0 : ((0) : Int32).toInt = (0) := by decide
    have t_2 := mt Int32.le_iff_toInt_le.mpr c_2
    refine lv_iconst (v := (-1)) hx hb dX6_find_10 (by decide) ?_
    refine lv_goto (tgt := 20) hx hb dX6_find_11 (by decide) ?_
    exact W.iret (v := (-1)) hx hb hr (fun t ht hW => ⟨⟨(-1), (), rfl, (by rw [f_M_find, if_neg c_2]), trivial⟩, hS.F ht⟩) hS.2.2 dX6_find_20
set_option maxHeartbeats 4000000 in
set_option maxRecDepth 100000 in
theorem m_M_isStreet (l : Launch) (D : va_G) (h : Nat → Nat) (cI cZ : ClassId) (S : BS) (hI : IVM S) (a1 : Int32) : PMM l yX6_isStreet wsX6_isStreet { frames := 1, cells := 0, slots := 0, locals := 22 } D cI cZ h S [.ref (h 0), .int a1] (f_M_isStreet S a1) := by
  refine Met.ofW (cc := cX6_isStreet) (maxL := 2) (ret := (some .boolean)) (by decide) rfl ?_
  intro p e s m args below meth c s₁ B hml hv
  obtain ⟨rfl, hP, hK, hN⟩ := hv
  have hx := B.exec
  have hb := B.bytes
  have hr := B.returns
  have hts := atoms_spec (ws := wsX6_isStreet) B.pre
  have hB : ∀ w ∈ BW, w.before _ s = true := fun w h => hts w (List.mem_cons_of_mem _ h)
  have hown : s.vm.findClass RX6 = some m.cls := findClass_of_methodNamed B.named
  have hlocks := B.notSynchronized
  have hS : va_S (fun _ => False) s.heap s.heap [] := va_S.rf
  have hl := lv_entry ([.ref (h 0), .int a1]) (n := 2) (Nat.le_of_ble_eq_true rfl)
  rw [lg_entry_eq]
  generalize (lg_sl ([.ref (h 0), .int a1]) ++ List.replicate (2 - (lg_sl ([.ref (h 0), .int a1])).length) Slot.unset).toArray = ls at hl ⊢
  have hl : lv_has ls 2 [(0, .ref (h 0)), (1, .int a1)] := hl
  refine lv_iload_n hx hb dX6_isStreet_0 rfl (lv_at hl 1 rfl) ?_
  refine lv_iconst (v := 0) hx hb dX6_isStreet_1 (by decide) ?_
  refine lv_aload_n hx hb dX6_isStreet_2 rfl (lv_at hl 0 rfl) ?_
  refine va_get (D := D) (ci := 6) (v := .int (S 21 0)) (C := RX6) (T := TX6) (N := 25) hx hb hB inX6 hown hK hP 0 rfl rfl 3 (by decide) (hB _ k3_0) (fun _ h9 => h9) rfl dX6_isStreet_3 ?_
  have b_1 : (0) ≤ (S 21 0).toInt ∧ (S 21 0).toInt ≤ 32 := ivM_21 (S := S) hI
  refine lv_iconst (v := 1) hx hb dX6_isStreet_6 (by decide) ?_
  refine lv_isub hx hb dX6_isStreet_7 ?_
  refine pu_callM (va_runS (As := [.int a1, .int 0, .int ((S 21 0) - 1)]) (rest := []) ⟨hx, hb, hml, hown, hB⟩ (m_M_in l D h cI cZ S hI a1 0 ((S 21 0) - 1) ) (cwS 3 hB (gS k3_78 k3_79 k1_7 k3_80) rfl rfl rfl (by decide +kernel) ⟨Nat.le_of_ble_eq_true rfl, Nat.le_of_ble_eq_true rfl⟩) ⟨pu_blindM, pu_preM hP hK hN⟩ rfl rfl hl.1 rfl (lv_room (Nat.le_of_ble_eq_true rfl)) dX6_isStreet_8 ⟨Nat.le_of_ble_eq_true rfl, Nat.le_of_ble_eq_true rfl⟩) hP hS (fun H locs hP hS => ?_)
  exact W.zret (v := f_M_in a1 0 ((S 21 0) - 1)) hx hb hr (nb01 (z01_M_in)) (fun t ht hW => ⟨⟨f_M_in a1 0 ((S 21 0) - 1), (), rfl, (by rw [f_M_isStreet]), trivial⟩, hS.F ht⟩) hS.2.2 dX6_isStreet_11
set_option maxHeartbeats 4000000 in
set_option maxRecDepth 100000 in
theorem m_M_meant (l : Launch) (D : va_G) (h : Nat → Nat) (cI cZ : ClassId) (S : BS) (hI : IVM S) (a1 a2 : Int32) (ha0 : 0 ≤ a1.toInt ∧ a1.toInt < (S 21 0).toInt) (hWF : WFM S) : PMM l yX6_meant wsX6_meant { frames := 0, cells := 0, slots := 0, locals := 0 } D cI cZ h S [.ref (h 0), .int a1, .int a2] (f_M_meant S a1 a2) := by
  refine Met.ofW (cc := cX6_meant) (maxL := 4) (ret := (some .int)) (by decide) rfl ?_
  intro p e s m args below meth c s₁ B hml hv
  obtain ⟨rfl, hP, hK, hN⟩ := hv
  have hx := B.exec
  have hb := B.bytes
  have hr := B.returns
  have hts := atoms_spec (ws := wsX6_meant) B.pre
  have hB : ∀ w ∈ BW, w.before _ s = true := fun w h => hts w (List.mem_cons_of_mem _ h)
  have hown : s.vm.findClass RX6 = some m.cls := findClass_of_methodNamed B.named
  have hlocks := B.notSynchronized
  have hS : va_S (fun _ => False) s.heap s.heap [] := va_S.rf
  have hl := lv_entry ([.ref (h 0), .int a1, .int a2]) (n := 4) (Nat.le_of_ble_eq_true rfl)
  rw [lg_entry_eq]
  generalize (lg_sl ([.ref (h 0), .int a1, .int a2]) ++ List.replicate (4 - (lg_sl ([.ref (h 0), .int a1, .int a2])).length) Slot.unset).toArray = ls at hl ⊢
  have hl : lv_has ls 4 [(0, .ref (h 0)), (1, .int a1), (2, .int a2)] := hl
  obtain ⟨rk, hrb, hrd⟩ := id hWF
  refine lv_iload_n hx hb dX6_meant_0 rfl (lv_at hl 1 rfl) ?_
  refine lv_istore_n (lv' := [(3, .int a1), (0, .ref (h 0)), (1, .int a1), (2, .int a2)]) hx hb dX6_meant_1 rfl hl (by decide) rfl (fun ls hl => ?_)
  have loop2 : ∀ (n2 : Nat) (x3 : Int32) (H : Heap) (locs : List Loc) (ls : Array Slot), (0 ≤ x3.toInt ∧ x3.toInt < (S 21 0).toInt ∧ rk x3.toNatClampNeg < n2) → l_M_meant_2 S a1 a2 n2 x3 = f_M_meant S a1 a2 → va_P D vwCl (wBM h cI cZ S) H → va_S (fun _ => False) s.heap H locs → lv_has ls 4 [(0, .ref (h 0)), (1, .int a1), (2, .int a2), (3, .int x3)] → W p l e (headSpec wsX6_meant { frames := 0, cells := 0, slots := 0, locals := 0 }).room s m ([.ref (h 0), .int a1, .int a2]).toArray below meth c H locs 0 0 (MQ below (PQ (f_M_meant S a1 a2)) ([.ref (h 0), .int a1, .int a2]).toArray s 0 0 (fun _ => False)) (F0 m 2 ls []) := by
    intro n2
    induction n2 with
    | zero =>
      intro x3 H locs ls hinv he2 hP hS hl
      exact absurd hinv.2.2 (Nat.not_lt_zero _)
    | succ n2 ih2 =>
      intro x3 H locs ls hinv he2 hP hS hl
      obtain ⟨h0, h1, h2⟩ := hinv
      have e9 := cl_int h0
      have hst := ivM_21 hI
      refine lv_aload_n hx hb dX6_meant_2 rfl (lv_at hl 0 rfl) ?_
      refine va_get (D := D) (ci := 6) (v := .ref (h 4)) (C := RX6) (T := TX6) (N := 25) hx hb hB inX6 hown hK hP 0 rfl rfl 6 (by decide) (hB _ k3_3) (fun _ h9 => h9) rfl dX6_meant_3 ?_
      refine lv_iload_n hx hb dX6_meant_6 rfl (lv_at hl 3 rfl) ?_
      refine va_iald (f := S 3) hx hb hK hP 4 0 rfl rfl (vp_in_iff.mpr (by omega)) dX6_meant_7 ?_
      have b_1 : (-1) ≤ (S 3 x3.toNatClampNeg).toInt ∧ (S 3 x3.toNatClampNeg).toInt ≤ 31 := ivM_3 (S := S) hI x3.toNatClampNeg
      refine lv_if_lt (tgt := 31) hx hb dX6_meant_8 (by decide) (fun c_2 => ?_) (fun c_2 => ?_)
      · skip
        have z_0 : ((0) : Int32).toInt = (0) := by decide
        have t_2 := Int32.lt_iff_toInt_lt.mp c_2
        refine lv_iload_n hx hb dX6_meant_31 rfl (lv_at hl 3 rfl) ?_
        exact W.iret (v := x3) hx hb hr (fun t ht hW => ⟨⟨x3, (), rfl, (by rw [← he2, l_M_meant_2, if_pos c_2]), trivial⟩, hS.F ht⟩) hS.2.2 dX6_meant_32
      · skip
        have z_0 : ((0) : Int32).toInt = (0) := by decide
        have t_2 := mt Int32.lt_iff_toInt_lt.mpr c_2
        refine lv_aload_n hx hb dX6_meant_11 rfl (lv_at hl 0 rfl) ?_
        refine va_get (D := D) (ci := 6) (v := .ref (h 5)) (C := RX6) (T := TX6) (N := 25) hx hb hB inX6 hown hK hP 0 rfl rfl 7 (by decide) (hB _ k3_4) (fun _ h9 => h9) rfl dX6_meant_12 ?_
        refine lv_iload_n hx hb dX6_meant_15 rfl (lv_at hl 3 rfl) ?_
        refine va_iald (f := S 4) hx hb hK hP 5 0 rfl rfl (vp_in_iff.mpr (by omega)) dX6_meant_16 ?_
        refine lv_iload_n hx hb dX6_meant_17 rfl (lv_at hl 2 rfl) ?_
        refine lv_icmp_gt (tgt := 31) hx hb dX6_meant_18 (by decide) (fun c_3 => ?_) (fun c_3 => ?_)
        · skip
          have t_3 := Int32.lt_iff_toInt_lt.mp c_3
          refine lv_iload_n hx hb dX6_meant_31 rfl (lv_at hl 3 rfl) ?_
          exact W.iret (v := x3) hx hb hr (fun t ht hW => ⟨⟨x3, (), rfl, (by rw [← he2, l_M_meant_2, if_neg c_2, if_pos c_3]), trivial⟩, hS.F ht⟩) hS.2.2 dX6_meant_32
        · skip
          have t_3 := mt Int32.lt_iff_toInt_lt.mpr c_3
          refine lv_aload_n hx hb dX6_meant_21 rfl (lv_at hl 0 rfl) ?_
          refine va_get (D := D) (ci := 6) (v := .ref (h 4)) (C := RX6) (T := TX6) (N := 25) hx hb hB inX6 hown hK hP 0 rfl rfl 6 (by decide) (hB _ k3_3) (fun _ h9 => h9) rfl dX6_meant_22 ?_
          refine lv_iload_n hx hb dX6_meant_25 rfl (lv_at hl 3 rfl) ?_
          refine va_iald (f := S 3) hx hb hK hP 4 0 rfl rfl (vp_in_iff.mpr (by omega)) dX6_meant_26 ?_
          have b_4 : (-1) ≤ (S 3 x3.toNatClampNeg).toInt ∧ (S 3 x3.toNatClampNeg).toInt ≤ 31 := ivM_3 (S := S) hI x3.toNatClampNeg
          refine lv_istore_n (lv' := [(3, .int (S 3 x3.toNatClampNeg)), (0, .ref (h 0)), (1, .int a1), (2, .int a2)]) hx hb dX6_meant_27 rfl hl (by decide) rfl (fun ls hl => ?_)
          refine lv_goto (tgt := 2) hx hb dX6_meant_28 (by decide) ?_
          have hd := hrd x3.toNatClampNeg (by omega) (by omega)
          exact ih2 (S 3 x3.toNatClampNeg) _ _ _ ⟨by omega, by omega, by omega⟩ (by first | (rw [← he2, l_M_meant_2, if_neg c_2, if_neg c_3]; done) | (rw [← he2, l_M_meant_2]; simp only [if_neg c_2, if_neg c_3])) hP hS (lv_sub hl [1, 2, 3, 0] rfl)
  exact loop2 600 a1 _ _ _ ⟨by omega, by omega, hrb _⟩ (by rw [f_M_meant]) hP hS (lv_sub hl [1, 2, 3, 0] rfl)
set_option maxHeartbeats 4000000 in
set_option maxRecDepth 100000 in
theorem m_M_isOfSide (l : Launch) (D : va_G) (h : Nat → Nat) (cI cZ : ClassId) (S : BS) (hI : IVM S) (a1 a2 : Int32) : PMM l yX6_isOfSide wsX6_isOfSide { frames := 0, cells := 0, slots := 0, locals := 0 } D cI cZ h S [.int a1, .int a2] (f_M_isOfSide a1 a2) := by
  refine Met.ofW (cc := cX6_isOfSide) (maxL := 2) (ret := (some .boolean)) (by decide) rfl ?_
  intro p e s m args below meth c s₁ B hml hv
  obtain ⟨rfl, hP, hK, hN⟩ := hv
  have hx := B.exec
  have hb := B.bytes
  have hr := B.returns
  have hts := atoms_spec (ws := wsX6_isOfSide) B.pre
  have hB : ∀ w ∈ BW, w.before _ s = true := fun w h => hts w (List.mem_cons_of_mem _ h)
  have hown : s.vm.findClass RX6 = some m.cls := findClass_of_methodNamed B.named
  have hlocks := B.notSynchronized
  have hS : va_S (fun _ => False) s.heap s.heap [] := va_S.rf
  have hl := lv_entry ([.int a1, .int a2]) (n := 2) (Nat.le_of_ble_eq_true rfl)
  rw [lg_entry_eq]
  generalize (lg_sl ([.int a1, .int a2]) ++ List.replicate (2 - (lg_sl ([.int a1, .int a2])).length) Slot.unset).toArray = ls at hl ⊢
  have hl : lv_has ls 2 [(0, .int a1), (1, .int a2)] := hl
  refine lv_iload_n hx hb dX6_isOfSide_0 rfl (lv_at hl 0 rfl) ?_
  refine lv_if_eq (tgt := 13) hx hb dX6_isOfSide_1 (by decide) (fun c_1 => ?_) (fun c_1 => ?_)
  · skip
    have z_0 : ((0) : Int32).toInt = (0) := by decide
    have t_1 := Int32.toInt_inj.symm.mp c_1
    refine lv_iconst (v := 1) hx hb dX6_isOfSide_13 (by decide) ?_
    refine lv_goto (tgt := 18) hx hb dX6_isOfSide_14 (by decide) ?_
    exact W.zret (v := 1) hx hb hr (by decide) (fun t ht hW => ⟨⟨1, (), rfl, (by rw [f_M_isOfSide, if_pos c_1]), trivial⟩, hS.F ht⟩) hS.2.2 dX6_isOfSide_18
  · skip
    have z_0 : ((0) : Int32).toInt = (0) := by decide
    have t_1 := mt Int32.toInt_inj.mp c_1
    refine lv_iload_n hx hb dX6_isOfSide_4 rfl (lv_at hl 1 rfl) ?_
    refine lv_iconst (v := 2) hx hb dX6_isOfSide_5 (by decide) ?_
    refine lv_irem hx hb dX6_isOfSide_6 (by decide) ?_
    refine lv_iload_n hx hb dX6_isOfSide_7 rfl (lv_at hl 0 rfl) ?_
    refine lv_iconst (v := 2) hx hb dX6_isOfSide_8 (by decide) ?_
    refine lv_irem hx hb dX6_isOfSide_9 (by decide) ?_
    refine lv_icmp_ne (tgt := 17) hx hb dX6_isOfSide_10 (by decide) (fun c_2 => ?_) (fun c_2 => ?_)
    · skip
      refine lv_iconst (v := 0) hx hb dX6_isOfSide_17 (by decide) ?_
      exact W.zret (v := 0) hx hb hr (by decide) (fun t ht hW => ⟨⟨0, (), rfl, (by rw [f_M_isOfSide, if_neg c_1, if_neg c_2]), trivial⟩, hS.F ht⟩) hS.2.2 dX6_isOfSide_18
    · skip
      refine lv_iconst (v := 1) hx hb dX6_isOfSide_13 (by decide) ?_
      refine lv_goto (tgt := 18) hx hb dX6_isOfSide_14 (by decide) ?_
      exact W.zret (v := 1) hx hb hr (by decide) (fun t ht hW => ⟨⟨1, (), rfl, (by rw [f_M_isOfSide, if_neg c_1, if_pos c_2]), trivial⟩, hS.F ht⟩) hS.2.2 dX6_isOfSide_18
set_option maxHeartbeats 4000000 in
set_option maxRecDepth 100000 in
theorem m_M_has (l : Launch) (D : va_G) (h : Nat → Nat) (cI cZ : ClassId) (S : BS) (hI : IVM S) (a1 a2 : Int32) (ha0 : 0 ≤ a1.toInt ∧ a1.toInt ≤ 79) : PMM l yX6_has wsX6_has { frames := 1, cells := 0, slots := 0, locals := 21 } D cI cZ h S [.ref (h 0), .int a1, .int a2] (f_M_has S a1 a2) := by
  refine Met.ofW (cc := cX6_has) (maxL := 3) (ret := (some .boolean)) (by decide) rfl ?_
  intro p e s m args below meth c s₁ B hml hv
  obtain ⟨rfl, hP, hK, hN⟩ := hv
  have hx := B.exec
  have hb := B.bytes
  have hr := B.returns
  have hts := atoms_spec (ws := wsX6_has) B.pre
  have hB : ∀ w ∈ BW, w.before _ s = true := fun w h => hts w (List.mem_cons_of_mem _ h)
  have hown : s.vm.findClass RX6 = some m.cls := findClass_of_methodNamed B.named
  have hlocks := B.notSynchronized
  have hS : va_S (fun _ => False) s.heap s.heap [] := va_S.rf
  have hl := lv_entry ([.ref (h 0), .int a1, .int a2]) (n := 3) (Nat.le_of_ble_eq_true rfl)
  rw [lg_entry_eq]
  generalize (lg_sl ([.ref (h 0), .int a1, .int a2]) ++ List.replicate (3 - (lg_sl ([.ref (h 0), .int a1, .int a2])).length) Slot.unset).toArray = ls at hl ⊢
  have hl : lv_has ls 3 [(0, .ref (h 0)), (1, .int a1), (2, .int a2)] := hl
  refine lv_iload_n hx hb dX6_has_0 rfl (lv_at hl 2 rfl) ?_
  refine lv_aload_n hx hb dX6_has_1 rfl (lv_at hl 0 rfl) ?_
  refine va_get (D := D) (ci := 6) (v := .ref (h 8)) (C := RX6) (T := TX6) (N := 25) hx hb hB inX6 hown hK hP 0 rfl rfl 11 (by decide) (hB _ k3_8) (fun _ h9 => h9) rfl dX6_has_2 ?_
  refine lv_iload_n hx hb dX6_has_5 rfl (lv_at hl 1 rfl) ?_
  refine va_iald (f := S 7) hx hb hK hP 8 0 rfl rfl (vp_in_iff.mpr (by omega)) dX6_has_6 ?_
  have b_1 : (0) ≤ (S 7 a1.toNatClampNeg).toInt ∧ (S 7 a1.toNatClampNeg).toInt ≤ 999 := ivM_7 (S := S) hI a1.toNatClampNeg
  refine lv_icmp_lt (tgt := 37) hx hb dX6_has_7 (by decide) (fun c_2 => ?_) (fun c_2 => ?_)
  · skip
    have t_2 := Int32.lt_iff_toInt_lt.mp c_2
    refine lv_iconst (v := 0) hx hb dX6_has_37 (by decide) ?_
    exact W.zret (v := 0) hx hb hr (by decide) (fun t ht hW => ⟨⟨0, (), rfl, (by rw [f_M_has, if_pos c_2]), trivial⟩, hS.F ht⟩) hS.2.2 dX6_has_38
  · skip
    have t_2 := mt Int32.lt_iff_toInt_lt.mpr c_2
    refine lv_iload_n hx hb dX6_has_10 rfl (lv_at hl 2 rfl) ?_
    refine lv_aload_n hx hb dX6_has_11 rfl (lv_at hl 0 rfl) ?_
    refine va_get (D := D) (ci := 6) (v := .ref (h 9)) (C := RX6) (T := TX6) (N := 25) hx hb hB inX6 hown hK hP 0 rfl rfl 12 (by decide) (hB _ k3_9) (fun _ h9 => h9) rfl dX6_has_12 ?_
    refine lv_iload_n hx hb dX6_has_15 rfl (lv_at hl 1 rfl) ?_
    refine va_iald (f := S 8) hx hb hK hP 9 0 rfl rfl (vp_in_iff.mpr (by omega)) dX6_has_16 ?_
    have b_3 : (0) ≤ (S 8 a1.toNatClampNeg).toInt ∧ (S 8 a1.toNatClampNeg).toInt ≤ 999 := ivM_8 (S := S) hI a1.toNatClampNeg
    refine lv_icmp_gt (tgt := 37) hx hb dX6_has_17 (by decide) (fun c_4 => ?_) (fun c_4 => ?_)
    · skip
      have t_4 := Int32.lt_iff_toInt_lt.mp c_4
      refine lv_iconst (v := 0) hx hb dX6_has_37 (by decide) ?_
      exact W.zret (v := 0) hx hb hr (by decide) (fun t ht hW => ⟨⟨0, (), rfl, (by rw [f_M_has, if_neg c_2, if_pos c_4]), trivial⟩, hS.F ht⟩) hS.2.2 dX6_has_38
    · skip
      have t_4 := mt Int32.lt_iff_toInt_lt.mpr c_4
      refine lv_aload_n hx hb dX6_has_20 rfl (lv_at hl 0 rfl) ?_
      refine va_get (D := D) (ci := 6) (v := .ref (h 7)) (C := RX6) (T := TX6) (N := 25) hx hb hB inX6 hown hK hP 0 rfl rfl 10 (by decide) (hB _ k3_7) (fun _ h9 => h9) rfl dX6_has_21 ?_
      refine lv_iload_n hx hb dX6_has_24 rfl (lv_at hl 1 rfl) ?_
      refine va_iald (f := S 6) hx hb hK hP 7 0 rfl rfl (vp_in_iff.mpr (by omega)) dX6_has_25 ?_
      refine lv_iload_n hx hb dX6_has_26 rfl (lv_at hl 2 rfl) ?_
      refine pu_callM (va_runS (As := [.int (S 6 a1.toNatClampNeg), .int a2]) (rest := []) ⟨hx, hb, hml, hown, hB⟩ (m_M_isOfSide l D h cI cZ S hI (S 6 a1.toNatClampNeg) a2 ) (cwS 2 hB (gS k3_110 k3_111 k1_7 k3_112) rfl rfl rfl (by decide +kernel) ⟨Nat.le_of_ble_eq_true rfl, Nat.le_of_ble_eq_true rfl⟩) ⟨pu_blindM, pu_preM hP hK hN⟩ rfl rfl hl.1 rfl (lv_room (Nat.le_of_ble_eq_true rfl)) dX6_has_27 ⟨Nat.le_of_ble_eq_true rfl, Nat.le_of_ble_eq_true rfl⟩) hP hS (fun H locs hP hS => ?_)
      refine lv_if_eq (tgt := 37) hx hb dX6_has_30 (by decide) (fun c_6 => ?_) (fun c_6 => ?_)
      · skip
        refine lv_iconst (v := 0) hx hb dX6_has_37 (by decide) ?_
        exact W.zret (v := 0) hx hb hr (by decide) (fun t ht hW => ⟨⟨0, (), rfl, (by rw [f_M_has, if_neg c_2, if_neg c_4, if_pos c_6]), trivial⟩, hS.F ht⟩) hS.2.2 dX6_has_38
      · skip
        refine lv_iconst (v := 1) hx hb dX6_has_33 (by decide) ?_
        refine lv_goto (tgt := 38) hx hb dX6_has_34 (by decide) ?_
        exact W.zret (v := 1) hx hb hr (by decide) (fun t ht hW => ⟨⟨1, (), rfl, (by rw [f_M_has, if_neg c_2, if_neg c_4, if_neg c_6]), trivial⟩, hS.F ht⟩) hS.2.2 dX6_has_38
set_option maxHeartbeats 4000000 in
set_option maxRecDepth 100000 in
theorem m_M_lowest (l : Launch) (D : va_G) (h : Nat → Nat) (cI cZ : ClassId) (S : BS) (hI : IVM S) (a1 : Int32) (ha0 : 0 ≤ a1.toInt ∧ a1.toInt ≤ 79) : PMM l yX6_lowest wsX6_lowest { frames := 1, cells := 0, slots := 0, locals := 21 } D cI cZ h S [.ref (h 0), .int a1] (f_M_lowest S a1) := by
  refine Met.ofW (cc := cX6_lowest) (maxL := 2) (ret := (some .int)) (by decide) rfl ?_
  intro p e s m args below meth c s₁ B hml hv
  obtain ⟨rfl, hP, hK, hN⟩ := hv
  have hx := B.exec
  have hb := B.bytes
  have hr := B.returns
  have hts := atoms_spec (ws := wsX6_lowest) B.pre
  have hB : ∀ w ∈ BW, w.before _ s = true := fun w h => hts w (List.mem_cons_of_mem _ h)
  have hown : s.vm.findClass RX6 = some m.cls := findClass_of_methodNamed B.named
  have hlocks := B.notSynchronized
  have hS : va_S (fun _ => False) s.heap s.heap [] := va_S.rf
  have hl := lv_entry ([.ref (h 0), .int a1]) (n := 2) (Nat.le_of_ble_eq_true rfl)
  rw [lg_entry_eq]
  generalize (lg_sl ([.ref (h 0), .int a1]) ++ List.replicate (2 - (lg_sl ([.ref (h 0), .int a1])).length) Slot.unset).toArray = ls at hl ⊢
  have hl : lv_has ls 2 [(0, .ref (h 0)), (1, .int a1)] := hl
  refine lv_aload_n hx hb dX6_lowest_0 rfl (lv_at hl 0 rfl) ?_
  refine va_get (D := D) (ci := 6) (v := .ref (h 7)) (C := RX6) (T := TX6) (N := 25) hx hb hB inX6 hown hK hP 0 rfl rfl 10 (by decide) (hB _ k3_7) (fun _ h9 => h9) rfl dX6_lowest_1 ?_
  refine lv_iload_n hx hb dX6_lowest_4 rfl (lv_at hl 1 rfl) ?_
  refine va_iald (f := S 6) hx hb hK hP 7 0 rfl rfl (vp_in_iff.mpr (by omega)) dX6_lowest_5 ?_
  refine lv_aload_n hx hb dX6_lowest_6 rfl (lv_at hl 0 rfl) ?_
  refine va_get (D := D) (ci := 6) (v := .ref (h 8)) (C := RX6) (T := TX6) (N := 25) hx hb hB inX6 hown hK hP 0 rfl rfl 11 (by decide) (hB _ k3_8) (fun _ h9 => h9) rfl dX6_lowest_7 ?_
  refine lv_iload_n hx hb dX6_lowest_10 rfl (lv_at hl 1 rfl) ?_
  refine va_iald (f := S 7) hx hb hK hP 8 0 rfl rfl (vp_in_iff.mpr (by omega)) dX6_lowest_11 ?_
  have b_1 : (0) ≤ (S 7 a1.toNatClampNeg).toInt ∧ (S 7 a1.toNatClampNeg).toInt ≤ 999 := ivM_7 (S := S) hI a1.toNatClampNeg
  refine pu_callM (va_runS (As := [.int (S 6 a1.toNatClampNeg), .int (S 7 a1.toNatClampNeg)]) (rest := []) ⟨hx, hb, hml, hown, hB⟩ (m_M_isOfSide l D h cI cZ S hI (S 6 a1.toNatClampNeg) (S 7 a1.toNatClampNeg) ) (cwS 2 hB (gS k3_110 k3_111 k1_7 k3_112) rfl rfl rfl (by decide +kernel) ⟨Nat.le_of_ble_eq_true rfl, Nat.le_of_ble_eq_true rfl⟩) ⟨pu_blindM, pu_preM hP hK hN⟩ rfl rfl hl.1 rfl (lv_room (Nat.le_of_ble_eq_true rfl)) dX6_lowest_12 ⟨Nat.le_of_ble_eq_true rfl, Nat.le_of_ble_eq_true rfl⟩) hP hS (fun H locs hP hS => ?_)
  refine lv_if_eq (tgt := 27) hx hb dX6_lowest_15 (by decide) (fun c_3 => ?_) (fun c_3 => ?_)
  · skip
    refine lv_aload_n hx hb dX6_lowest_27 rfl (lv_at hl 0 rfl) ?_
    refine va_get (D := D) (ci := 6) (v := .ref (h 8)) (C := RX6) (T := TX6) (N := 25) hx hb hB inX6 hown hK hP 0 rfl rfl 11 (by decide) (hB _ k3_8) (fun _ h9 => h9) rfl dX6_lowest_28 ?_
    refine lv_iload_n hx hb dX6_lowest_31 rfl (lv_at hl 1 rfl) ?_
    refine va_iald (f := S 7) hx hb hK hP 8 0 rfl rfl (vp_in_iff.mpr (by omega)) dX6_lowest_32 ?_
    have b_4 : (0) ≤ (S 7 a1.toNatClampNeg).toInt ∧ (S 7 a1.toNatClampNeg).toInt ≤ 999 := ivM_7 (S := S) hI a1.toNatClampNeg
    refine lv_iconst (v := 1) hx hb dX6_lowest_33 (by decide) ?_
    refine lv_iadd hx hb dX6_lowest_34 ?_
    exact W.iret (v := (S 7 a1.toNatClampNeg) + 1) hx hb hr (fun t ht hW => ⟨⟨(S 7 a1.toNatClampNeg) + 1, (), rfl, (by rw [f_M_lowest, if_pos c_3]), trivial⟩, hS.F ht⟩) hS.2.2 dX6_lowest_35
  · skip
    refine lv_aload_n hx hb dX6_lowest_18 rfl (lv_at hl 0 rfl) ?_
    refine va_get (D := D) (ci := 6) (v := .ref (h 8)) (C := RX6) (T := TX6) (N := 25) hx hb hB inX6 hown hK hP 0 rfl rfl 11 (by decide) (hB _ k3_8) (fun _ h9 => h9) rfl dX6_lowest_19 ?_
    refine lv_iload_n hx hb dX6_lowest_22 rfl (lv_at hl 1 rfl) ?_
    refine va_iald (f := S 7) hx hb hK hP 8 0 rfl rfl (vp_in_iff.mpr (by omega)) dX6_lowest_23 ?_
    have b_5 : (0) ≤ (S 7 a1.toNatClampNeg).toInt ∧ (S 7 a1.toNatClampNeg).toInt ≤ 999 := ivM_7 (S := S) hI a1.toNatClampNeg
    refine lv_goto (tgt := 35) hx hb dX6_lowest_24 (by decide) ?_
    exact W.iret (v := S 7 a1.toNatClampNeg) hx hb hr (fun t ht hW => ⟨⟨S 7 a1.toNatClampNeg, (), rfl, (by rw [f_M_lowest, if_neg c_3]), trivial⟩, hS.F ht⟩) hS.2.2 dX6_lowest_35
