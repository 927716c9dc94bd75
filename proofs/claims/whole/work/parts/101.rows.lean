set_option maxHeartbeats 4000000 in
set_option maxRecDepth 100000 in
theorem m_A_isWithin (l : Launch) (D : va_G) (h : Nat → Nat) (cI cZ : ClassId) (S : BS) (hI : IV S) (a1 a2 a3 : Int32) : PM l yX0_isWithin wsX0_isWithin { frames := 0, cells := 0, slots := 0, locals := 0 } D cI cZ h S [.int a1, .int a2, .int a3] (f_A_isWithin a1 a2 a3) := by
  refine Met.ofW (cc := cX0_isWithin) (maxL := 3) (ret := (some .boolean)) (by decide) rfl ?_
  intro p e s m args below meth c s₁ B hml hv
  obtain ⟨rfl, hP, hK, hN⟩ := hv
  have hx := B.exec
  have hb := B.bytes
  have hr := B.returns
  have hts := atoms_spec (ws := wsX0_isWithin) B.pre
  have hB : ∀ w ∈ BW, w.before _ s = true := fun w h => hts w (List.mem_cons_of_mem _ h)
  have hown : s.vm.findClass RX0 = some m.cls := findClass_of_methodNamed B.named
  have hlocks := B.notSynchronized
  have hS : va_S (fun _ => False) s.heap s.heap [] := va_S.rf
  have hl := lv_entry ([.int a1, .int a2, .int a3]) (n := 3) (Nat.le_of_ble_eq_true rfl)
  rw [lg_entry_eq]
  generalize (lg_sl ([.int a1, .int a2, .int a3]) ++ List.replicate (3 - (lg_sl ([.int a1, .int a2, .int a3])).length) Slot.unset).toArray = ls at hl ⊢
  have hl : lv_has ls 3 [(0, .int a1), (1, .int a2), (2, .int a3)] := hl
  refine lv_iload_n hx hb dX0_isWithin_0 rfl (lv_at hl 0 rfl) ?_
  refine lv_iload_n hx hb dX0_isWithin_1 rfl (lv_at hl 1 rfl) ?_
  refine lv_icmp_lt (tgt := 14) hx hb dX0_isWithin_2 (by decide) (fun c_1 => ?_) (fun c_1 => ?_)
  · skip
    have t_1 := Int32.lt_iff_toInt_lt.mp c_1
    refine lv_iconst (v := 0) hx hb dX0_isWithin_14 (by decide) ?_
    exact W.zret (v := 0) hx hb hr (by decide) (fun t ht hW => ⟨⟨0, (), rfl, (by rw [f_A_isWithin, if_pos c_1]), trivial⟩, hS.F ht⟩) hS.2.2 dX0_isWithin_15
  · skip
    have t_1 := mt Int32.lt_iff_toInt_lt.mpr c_1
    refine lv_iload_n hx hb dX0_isWithin_5 rfl (lv_at hl 0 rfl) ?_
    refine lv_iload_n hx hb dX0_isWithin_6 rfl (lv_at hl 2 rfl) ?_
    refine lv_icmp_gt (tgt := 14) hx hb dX0_isWithin_7 (by decide) (fun c_2 => ?_) (fun c_2 => ?_)
    · skip
      have t_2 := Int32.lt_iff_toInt_lt.mp c_2
      refine lv_iconst (v := 0) hx hb dX0_isWithin_14 (by decide) ?_
      exact W.zret (v := 0) hx hb hr (by decide) (fun t ht hW => ⟨⟨0, (), rfl, (by rw [f_A_isWithin, if_neg c_1, if_pos c_2]), trivial⟩, hS.F ht⟩) hS.2.2 dX0_isWithin_15
    · skip
      have t_2 := mt Int32.lt_iff_toInt_lt.mpr c_2
      refine lv_iconst (v := 1) hx hb dX0_isWithin_10 (by decide) ?_
      refine lv_goto (tgt := 15) hx hb dX0_isWithin_11 (by decide) ?_
      exact W.zret (v := 1) hx hb hr (by decide) (fun t ht hW => ⟨⟨1, (), rfl, (by rw [f_A_isWithin, if_neg c_1, if_neg c_2]), trivial⟩, hS.F ht⟩) hS.2.2 dX0_isWithin_15
set_option maxHeartbeats 4000000 in
set_option maxRecDepth 100000 in
theorem m_R_holds (l : Launch) (D : va_G) (h : Nat → Nat) (cI cZ : ClassId) (S : BS) (hI : IV S) (a1 a2 : Int32) (ha0 : 0 ≤ a1.toInt ∧ a1.toInt ≤ 79) : PM l yX3_holds wsX3_holds { frames := 2, cells := 0, slots := 0, locals := 41 } D cI cZ h S [.ref (h 3), .int a1, .int a2] (f_R_holds S a1 a2) := by
  refine Met.ofW (cc := cX3_holds) (maxL := 3) (ret := (some .boolean)) (by decide) rfl ?_
  intro p e s m args below meth c s₁ B hml hv
  obtain ⟨rfl, hP, hK, hN⟩ := hv
  have hx := B.exec
  have hb := B.bytes
  have hr := B.returns
  have hts := atoms_spec (ws := wsX3_holds) B.pre
  have hB : ∀ w ∈ BW, w.before _ s = true := fun w h => hts w (List.mem_cons_of_mem _ h)
  have hown : s.vm.findClass RX3 = some m.cls := findClass_of_methodNamed B.named
  have hlocks := B.notSynchronized
  have hS : va_S (fun _ => False) s.heap s.heap [] := va_S.rf
  have hl := lv_entry ([.ref (h 3), .int a1, .int a2]) (n := 3) (Nat.le_of_ble_eq_true rfl)
  rw [lg_entry_eq]
  generalize (lg_sl ([.ref (h 3), .int a1, .int a2]) ++ List.replicate (3 - (lg_sl ([.ref (h 3), .int a1, .int a2])).length) Slot.unset).toArray = ls at hl ⊢
  have hl : lv_has ls 3 [(0, .ref (h 3)), (1, .int a1), (2, .int a2)] := hl
  refine lv_iload_n hx hb dX3_holds_0 rfl (lv_at hl 2 rfl) ?_
  refine lv_aload_n hx hb dX3_holds_1 rfl (lv_at hl 0 rfl) ?_
  refine va_get (D := D) (ci := 3) (v := .ref (h 14)) (C := RX3) (T := TX3) (N := 6) hx hb hB inX3 hown hK hP 3 rfl rfl 2 (by decide) (hB _ k1_69) (fun _ h9 => h9) rfl dX3_holds_2 ?_
  refine lv_iload_n hx hb dX3_holds_5 rfl (lv_at hl 1 rfl) ?_
  refine va_iald (f := S 8) hx hb hK hP 14 0 rfl rfl (vp_in_iff.mpr (by omega)) dX3_holds_6 ?_
  have b_1 : (0) ≤ (S 8 a1.toNatClampNeg).toInt ∧ (S 8 a1.toNatClampNeg).toInt ≤ 1000 := iv_8 (S := S) hI a1.toNatClampNeg
  refine lv_aload_n hx hb dX3_holds_7 rfl (lv_at hl 0 rfl) ?_
  refine va_get (D := D) (ci := 3) (v := .ref (h 15)) (C := RX3) (T := TX3) (N := 6) hx hb hB inX3 hown hK hP 3 rfl rfl 3 (by decide) (hB _ k1_71) (fun _ h9 => h9) rfl dX3_holds_8 ?_
  refine lv_iload_n hx hb dX3_holds_11 rfl (lv_at hl 1 rfl) ?_
  refine va_iald (f := S 9) hx hb hK hP 15 0 rfl rfl (vp_in_iff.mpr (by omega)) dX3_holds_12 ?_
  have b_2 : (-1) ≤ (S 9 a1.toNatClampNeg).toInt ∧ (S 9 a1.toNatClampNeg).toInt ≤ 999 := iv_9 (S := S) hI a1.toNatClampNeg
  refine pu_call (va_runSN (As := [.int a2, .int (S 8 a1.toNatClampNeg), .int (S 9 a1.toNatClampNeg)]) (rest := []) ⟨hx, hb, hml, hown, hB⟩ (m_A_isWithin l D h cI cZ S hI a2 (S 8 a1.toNatClampNeg) (S 9 a1.toNatClampNeg) ) ⟨va_cnB 3 hB (gB k1_178) rfl rfl rfl (hN _ kn_2) (hB _ k1_1) (by decide +kernel) ⟨Nat.le_of_ble_eq_true rfl, Nat.le_of_ble_eq_true rfl⟩, hB _ k1_177, trivial⟩ ⟨pu_blind, pu_pre hP hK hN⟩ rfl rfl hl.1 rfl (lv_room (Nat.le_of_ble_eq_true rfl)) dX3_holds_13 ⟨Nat.le_of_ble_eq_true rfl, Nat.le_of_ble_eq_true rfl⟩) hP hS (fun H locs hP hS => ?_)
  refine lv_if_eq (tgt := 36) hx hb dX3_holds_16 (by decide) (fun c_4 => ?_) (fun c_4 => ?_)
  · skip
    refine lv_iconst (v := 0) hx hb dX3_holds_36 (by decide) ?_
    exact W.zret (v := 0) hx hb hr (by decide) (fun t ht hW => ⟨⟨0, (), rfl, (by rw [f_R_holds, if_pos c_4]), trivial⟩, hS.F ht⟩) hS.2.2 dX3_holds_37
  · skip
    refine lv_aload_n hx hb dX3_holds_19 rfl (lv_at hl 0 rfl) ?_
    refine va_get (D := D) (ci := 3) (v := .ref (h 13)) (C := RX3) (T := TX3) (N := 6) hx hb hB inX3 hown hK hP 3 rfl rfl 1 (by decide) (hB _ k1_67) (fun _ h9 => h9) rfl dX3_holds_20 ?_
    refine lv_iload_n hx hb dX3_holds_23 rfl (lv_at hl 1 rfl) ?_
    refine va_iald (f := S 7) hx hb hK hP 13 0 rfl rfl (vp_in_iff.mpr (by omega)) dX3_holds_24 ?_
    refine lv_iload_n hx hb dX3_holds_25 rfl (lv_at hl 2 rfl) ?_
    refine pu_call (va_runSN (As := [.int (S 7 a1.toNatClampNeg), .int a2]) (rest := []) ⟨hx, hb, hml, hown, hB⟩ (m_A_isOfSide l D h cI cZ S hI (S 7 a1.toNatClampNeg) a2 ) ⟨va_cnB 2 hB (gB k1_234) rfl rfl rfl (hN _ kn_3) (hB _ k1_1) (by decide +kernel) ⟨Nat.le_of_ble_eq_true rfl, Nat.le_of_ble_eq_true rfl⟩, hB _ k1_233, trivial⟩ ⟨pu_blind, pu_pre hP hK hN⟩ rfl rfl hl.1 rfl (lv_room (Nat.le_of_ble_eq_true rfl)) dX3_holds_26 ⟨Nat.le_of_ble_eq_true rfl, Nat.le_of_ble_eq_true rfl⟩) hP hS (fun H locs hP hS => ?_)
    refine lv_if_eq (tgt := 36) hx hb dX3_holds_29 (by decide) (fun c_6 => ?_) (fun c_6 => ?_)
    · skip
      refine lv_iconst (v := 0) hx hb dX3_holds_36 (by decide) ?_
      exact W.zret (v := 0) hx hb hr (by decide) (fun t ht hW => ⟨⟨0, (), rfl, (by rw [f_R_holds, if_neg c_4, if_pos c_6]), trivial⟩, hS.F ht⟩) hS.2.2 dX3_holds_37
    · skip
      refine lv_iconst (v := 1) hx hb dX3_holds_32 (by decide) ?_
      refine lv_goto (tgt := 37) hx hb dX3_holds_33 (by decide) ?_
      exact W.zret (v := 1) hx hb hr (by decide) (fun t ht hW => ⟨⟨1, (), rfl, (by rw [f_R_holds, if_neg c_4, if_neg c_6]), trivial⟩, hS.F ht⟩) hS.2.2 dX3_holds_37
set_option maxHeartbeats 4000000 in
set_option maxRecDepth 100000 in
theorem m_R_isLiveOf (l : Launch) (D : va_G) (h : Nat → Nat) (cI cZ : ClassId) (S : BS) (hI : IV S) (a1 a2 : Int32) (ha0 : 0 ≤ a1.toInt ∧ a1.toInt ≤ 79) : PM l yX3_isLiveOf wsX3_isLiveOf { frames := 0, cells := 0, slots := 0, locals := 0 } D cI cZ h S [.ref (h 3), .int a1, .int a2] (f_R_isLiveOf S a1 a2) := by
  refine Met.ofW (cc := cX3_isLiveOf) (maxL := 3) (ret := (some .boolean)) (by decide) rfl ?_
  intro p e s m args below meth c s₁ B hml hv
  obtain ⟨rfl, hP, hK, hN⟩ := hv
  have hx := B.exec
  have hb := B.bytes
  have hr := B.returns
  have hts := atoms_spec (ws := wsX3_isLiveOf) B.pre
  have hB : ∀ w ∈ BW, w.before _ s = true := fun w h => hts w (List.mem_cons_of_mem _ h)
  have hown : s.vm.findClass RX3 = some m.cls := findClass_of_methodNamed B.named
  have hlocks := B.notSynchronized
  have hS : va_S (fun _ => False) s.heap s.heap [] := va_S.rf
  have hl := lv_entry ([.ref (h 3), .int a1, .int a2]) (n := 3) (Nat.le_of_ble_eq_true rfl)
  rw [lg_entry_eq]
  generalize (lg_sl ([.ref (h 3), .int a1, .int a2]) ++ List.replicate (3 - (lg_sl ([.ref (h 3), .int a1, .int a2])).length) Slot.unset).toArray = ls at hl ⊢
  have hl : lv_has ls 3 [(0, .ref (h 3)), (1, .int a1), (2, .int a2)] := hl
  refine lv_aload_n hx hb dX3_isLiveOf_0 rfl (lv_at hl 0 rfl) ?_
  refine va_get (D := D) (ci := 3) (v := .ref (h 16)) (C := RX3) (T := TX3) (N := 6) hx hb hB inX3 hown hK hP 3 rfl rfl 4 (by decide) (hB _ k1_73) (fun _ h9 => h9) rfl dX3_isLiveOf_1 ?_
  refine lv_iload_n hx hb dX3_isLiveOf_4 rfl (lv_at hl 1 rfl) ?_
  refine va_zald (f := S 10) hx hb hK hP 16 1 rfl rfl (vp_in_iff.mpr (by omega)) dX3_isLiveOf_5 ?_
  have b_1 : (0) ≤ (S 10 a1.toNatClampNeg).toInt ∧ (S 10 a1.toNatClampNeg).toInt ≤ 1 := iv_10 (S := S) hI a1.toNatClampNeg
  refine lv_if_eq (tgt := 23) hx hb dX3_isLiveOf_6 (by decide) (fun c_2 => ?_) (fun c_2 => ?_)
  · skip
    have z_0 : ((0) : Int32).toInt = (0) := by decide
    have t_2 := Int32.toInt_inj.symm.mp c_2
    refine lv_iconst (v := 0) hx hb dX3_isLiveOf_23 (by decide) ?_
    exact W.zret (v := 0) hx hb hr (by decide) (fun t ht hW => ⟨⟨0, (), rfl, (by rw [f_R_isLiveOf, if_pos c_2]), trivial⟩, hS.F ht⟩) hS.2.2 dX3_isLiveOf_24
  · skip
    have z_0 : ((0) : Int32).toInt = (0) := by decide
    have t_2 := mt Int32.toInt_inj.mp c_2
    refine lv_aload_n hx hb dX3_isLiveOf_9 rfl (lv_at hl 0 rfl) ?_
    refine va_get (D := D) (ci := 3) (v := .ref (h 12)) (C := RX3) (T := TX3) (N := 6) hx hb hB inX3 hown hK hP 3 rfl rfl 0 (by decide) (hB _ k1_65) (fun _ h9 => h9) rfl dX3_isLiveOf_10 ?_
    refine lv_iload_n hx hb dX3_isLiveOf_13 rfl (lv_at hl 1 rfl) ?_
    refine va_iald (f := S 6) hx hb hK hP 12 0 rfl rfl (vp_in_iff.mpr (by omega)) dX3_isLiveOf_14 ?_
    have b_3 : (0) ≤ (S 6 a1.toNatClampNeg).toInt ∧ (S 6 a1.toNatClampNeg).toInt ≤ 31 := iv_6 (S := S) hI a1.toNatClampNeg
    refine lv_iload_n hx hb dX3_isLiveOf_15 rfl (lv_at hl 2 rfl) ?_
    refine lv_icmp_ne (tgt := 23) hx hb dX3_isLiveOf_16 (by decide) (fun c_4 => ?_) (fun c_4 => ?_)
    · skip
      refine lv_iconst (v := 0) hx hb dX3_isLiveOf_23 (by decide) ?_
      exact W.zret (v := 0) hx hb hr (by decide) (fun t ht hW => ⟨⟨0, (), rfl, (by rw [f_R_isLiveOf, if_neg c_2, if_neg c_4]), trivial⟩, hS.F ht⟩) hS.2.2 dX3_isLiveOf_24
    · skip
      refine lv_iconst (v := 1) hx hb dX3_isLiveOf_19 (by decide) ?_
      refine lv_goto (tgt := 24) hx hb dX3_isLiveOf_20 (by decide) ?_
      exact W.zret (v := 1) hx hb hr (by decide) (fun t ht hW => ⟨⟨1, (), rfl, (by rw [f_R_isLiveOf, if_neg c_2, if_pos c_4]), trivial⟩, hS.F ht⟩) hS.2.2 dX3_isLiveOf_24
set_option maxHeartbeats 4000000 in
set_option maxRecDepth 100000 in
theorem m_R_anyLiveOf (l : Launch) (D : va_G) (h : Nat → Nat) (cI cZ : ClassId) (S : BS) (hI : IV S) (a1 : Int32) : PM l yX3_anyLiveOf wsX3_anyLiveOf { frames := 1, cells := 0, slots := 0, locals := 22 } D cI cZ h S [.ref (h 3), .int a1] (f_R_anyLiveOf S a1) := by
  refine Met.ofW (cc := cX3_anyLiveOf) (maxL := 3) (ret := (some .boolean)) (by decide) rfl ?_
  intro p e s m args below meth c s₁ B hml hv
  obtain ⟨rfl, hP, hK, hN⟩ := hv
  have hx := B.exec
  have hb := B.bytes
  have hr := B.returns
  have hts := atoms_spec (ws := wsX3_anyLiveOf) B.pre
  have hB : ∀ w ∈ BW, w.before _ s = true := fun w h => hts w (List.mem_cons_of_mem _ h)
  have hown : s.vm.findClass RX3 = some m.cls := findClass_of_methodNamed B.named
  have hlocks := B.notSynchronized
  have hS : va_S (fun _ => False) s.heap s.heap [] := va_S.rf
  have hl := lv_entry ([.ref (h 3), .int a1]) (n := 3) (Nat.le_of_ble_eq_true rfl)
  rw [lg_entry_eq]
  generalize (lg_sl ([.ref (h 3), .int a1]) ++ List.replicate (3 - (lg_sl ([.ref (h 3), .int a1])).length) Slot.unset).toArray = ls at hl ⊢
  have hl : lv_has ls 3 [(0, .ref (h 3)), (1, .int a1)] := hl
  refine lv_iconst (v := 0) hx hb dX3_anyLiveOf_0 (by decide) ?_
  refine lv_istore_n (lv' := [(2, .int 0), (0, .ref (h 3)), (1, .int a1)]) hx hb dX3_anyLiveOf_1 rfl hl (by decide) rfl (fun ls hl => ?_)
  have loop2 : ∀ (n : Nat) (x2 : Int32) (H : Heap) (locs : List Loc) (ls : Array Slot), (0 ≤ x2.toInt ∧ x2.toInt ≤ (S 24 0 : Int32).toInt ∧ (S 24 0 : Int32).toInt - x2.toInt < (n : Int) ∧ True) → l_R_anyLiveOf_2 S a1 n x2 = f_R_anyLiveOf S a1 → va_P D vwCl (wB h cI cZ S) H → va_S (fun _ => False) s.heap H locs → lv_has ls 3 [(0, .ref (h 3)), (1, .int a1), (2, .int x2)] → W p l e (headSpec wsX3_anyLiveOf { frames := 1, cells := 0, slots := 0, locals := 22 }).room s m ([.ref (h 3), .int a1]).toArray below meth c H locs 0 0 (MQ below (PQ (f_R_anyLiveOf S a1)) ([.ref (h 3), .int a1]).toArray s 0 0 (fun _ => False)) (F0 m 2 ls []) := by
    intro n
    induction n with
    | zero =>
      intro x2 H locs ls hinv he hP hS hl
      obtain ⟨h0, hle, hm, hex⟩ := hinv
      exact absurd hm (by omega)
    | succ n ih =>
      intro x2 H locs ls hinv he hP hS hl
      obtain ⟨h0, hle, hm, hex⟩ := hinv
      have hBd := iv_24 hI
      refine lv_iload_n hx hb dX3_anyLiveOf_2 rfl (lv_at hl 2 rfl) ?_
      refine lv_aload_n hx hb dX3_anyLiveOf_3 rfl (lv_at hl 0 rfl) ?_
      refine va_get (D := D) (ci := 3) (v := .int (S 24 0)) (C := RX3) (T := TX3) (N := 6) hx hb hB inX3 hown hK hP 3 rfl rfl 5 (by decide) (hB _ k1_75) (fun _ h9 => h9) rfl dX3_anyLiveOf_4 ?_
      have b_1 : (0) ≤ (S 24 0).toInt ∧ (S 24 0).toInt ≤ 80 := iv_24 (S := S) hI
      refine lv_icmp_ge (tgt := 27) hx hb dX3_anyLiveOf_7 (by decide) (fun c_2 => ?_) (fun c_2 => ?_)
      · skip
        have t_2 := Int32.le_iff_toInt_le.mp c_2
        refine lv_iconst (v := 0) hx hb dX3_anyLiveOf_27 (by decide) ?_
        exact W.zret (v := 0) hx hb hr (by decide) (fun t ht hW => ⟨⟨0, (), rfl, (by rw [← he, l_R_anyLiveOf_2, if_pos c_2]), trivial⟩, hS.F ht⟩) hS.2.2 dX3_anyLiveOf_28
      · skip
        have t_2 := mt Int32.le_iff_toInt_le.mpr c_2
        refine lv_aload_n hx hb dX3_anyLiveOf_10 rfl (lv_at hl 0 rfl) ?_
        refine lv_iload_n hx hb dX3_anyLiveOf_11 rfl (lv_at hl 2 rfl) ?_
        refine lv_iload_n hx hb dX3_anyLiveOf_12 rfl (lv_at hl 1 rfl) ?_
        refine pu_call (va_runV (As := [.int x2, .int a1]) (rest := []) ⟨hx, hb, hml, hown, hB⟩ (m_R_isLiveOf l D h cI cZ S hI x2 a1 (by omega)) (cwV 2 hB (gV k2_18 k2_20 ks_31 k1_4 k2_21) rfl rfl rfl (by decide +kernel) ⟨Nat.le_of_ble_eq_true rfl, Nat.le_of_ble_eq_true rfl⟩) ⟨pu_blind, va_recv hK hP (ci := 3) (q0 := 3) rfl rfl, pu_pre hP hK hN⟩ rfl rfl hl.1 rfl (lv_room (Nat.le_of_ble_eq_true rfl)) dX3_anyLiveOf_13 ⟨Nat.le_of_ble_eq_true rfl, Nat.le_of_ble_eq_true rfl⟩) hP hS (fun H locs hP hS => ?_)
        refine lv_if_eq (tgt := 21) hx hb dX3_anyLiveOf_16 (by decide) (fun c_4 => ?_) (fun c_4 => ?_)
        · skip
          refine lv_iinc (v := x2 + 1) (lv' := [(2, .int (x2 + 1)), (0, .ref (h 3)), (1, .int a1)]) hx hb dX3_anyLiveOf_21 hl (k := 2) rfl rfl (by decide) rfl (fun ls hl => ?_)
          refine lv_goto (tgt := 2) hx hb dX3_anyLiveOf_24 (by decide) ?_
          have hinc := i32_inc (x := x2) h0 (by omega)
          exact ih (x2 + 1) _ _ _ ⟨by omega, by omega, by omega, trivial⟩ (by rw [← he, l_R_anyLiveOf_2, if_neg c_2, if_pos c_4]) hP hS (lv_sub hl [1, 2, 0] rfl)
        · skip
          refine lv_iconst (v := 1) hx hb dX3_anyLiveOf_19 (by decide) ?_
          exact W.zret (v := 1) hx hb hr (by decide) (fun t ht hW => ⟨⟨1, (), rfl, (by rw [← he, l_R_anyLiveOf_2, if_neg c_2, if_neg c_4]), trivial⟩, hS.F ht⟩) hS.2.2 dX3_anyLiveOf_20
  have hB9 := iv_24 (S := S) hI
  have z_0 : ((0) : Int32).toInt = (0) := by decide
  exact loop2 600 0 _ _ _ ⟨by omega, by omega, by omega, trivial⟩ (by rw [f_R_anyLiveOf]) hP hS (lv_sub hl [1, 2, 0] rfl)
set_option maxHeartbeats 4000000 in
set_option maxRecDepth 100000 in
theorem m_R_isOver (l : Launch) (D : va_G) (h : Nat → Nat) (cI cZ : ClassId) (S : BS) (hI : IV S) (a1 a2 a3 a4 : Int32) (ha0 : 0 ≤ a1.toInt ∧ a1.toInt ≤ 79) : PM l yX3_isOver wsX3_isOver { frames := 3, cells := 0, slots := 0, locals := 62 } D cI cZ h S [.ref (h 3), .int a1, .int a2, .int a3, .int a4] (f_R_isOver S a1 a2 a3 a4) := by
  refine Met.ofW (cc := cX3_isOver) (maxL := 6) (ret := (some .boolean)) (by decide) rfl ?_
  intro p e s m args below meth c s₁ B hml hv
  obtain ⟨rfl, hP, hK, hN⟩ := hv
  have hx := B.exec
  have hb := B.bytes
  have hr := B.returns
  have hts := atoms_spec (ws := wsX3_isOver) B.pre
  have hB : ∀ w ∈ BW, w.before _ s = true := fun w h => hts w (List.mem_cons_of_mem _ h)
  have hown : s.vm.findClass RX3 = some m.cls := findClass_of_methodNamed B.named
  have hlocks := B.notSynchronized
  have hS : va_S (fun _ => False) s.heap s.heap [] := va_S.rf
  have hl := lv_entry ([.ref (h 3), .int a1, .int a2, .int a3, .int a4]) (n := 6) (Nat.le_of_ble_eq_true rfl)
  rw [lg_entry_eq]
  generalize (lg_sl ([.ref (h 3), .int a1, .int a2, .int a3, .int a4]) ++ List.replicate (6 - (lg_sl ([.ref (h 3), .int a1, .int a2, .int a3, .int a4])).length) Slot.unset).toArray = ls at hl ⊢
  have hl : lv_has ls 6 [(0, .ref (h 3)), (1, .int a1), (2, .int a2), (3, .int a3), (4, .int a4)] := hl
  refine lv_iload_n hx hb dX3_isOver_0 rfl (lv_at hl 2 rfl) ?_
  refine lv_if_eq (tgt := 25) hx hb dX3_isOver_1 (by decide) (fun c_1 => ?_) (fun c_1 => ?_)
  · skip
    have z_0 : ((0) : Int32).toInt = (0) := by decide
    have t_1 := Int32.toInt_inj.symm.mp c_1
    refine lv_iload_n hx hb dX3_isOver_25 rfl (lv_at hl 2 rfl) ?_
    refine lv_if_ne (tgt := 38) hx hb dX3_isOver_26 (by decide) (fun c_2 => ?_) (fun c_2 => ?_)
    · skip
      have t_2 := mt Int32.toInt_inj.mp c_2
      refine lv_iload_n hx hb dX3_isOver_38 rfl (lv_at hl 2 rfl) ?_
      refine lv_istore (lv' := [(5, .int a2), (0, .ref (h 3)), (1, .int a1), (2, .int a2), (3, .int a3), (4, .int a4)]) hx hb dX3_isOver_39 hl (by decide) rfl (fun ls hl => ?_)
      refine lv_iload hx hb dX3_isOver_41 (lv_at hl 0 rfl) ?_
      refine lv_iload_n hx hb dX3_isOver_43 rfl (lv_at hl 4 rfl) ?_
      refine lv_aload_n hx hb dX3_isOver_44 rfl (lv_at hl 1 rfl) ?_
      refine va_get (D := D) (ci := 3) (v := .ref (h 14)) (C := RX3) (T := TX3) (N := 6) hx hb hB inX3 hown hK hP 3 rfl rfl 2 (by decide) (hB _ k1_69) (fun _ h9 => h9) rfl dX3_isOver_45 ?_
      refine lv_iload_n hx hb dX3_isOver_48 rfl (lv_at hl 2 rfl) ?_
      refine va_iald (f := S 8) hx hb hK hP 14 0 rfl rfl (vp_in_iff.mpr (by omega)) dX3_isOver_49 ?_
      have b_3 : (0) ≤ (S 8 a1.toNatClampNeg).toInt ∧ (S 8 a1.toNatClampNeg).toInt ≤ 1000 := iv_8 (S := S) hI a1.toNatClampNeg
      refine va_mmax hx hb (hml.trans hl.1.symm) hown (hB _ k2_26) (hB _ k2_27) (hB _ k1_8) (hB _ km_max) (Nat.le_of_ble_eq_true rfl) (Nat.le_of_ble_eq_true rfl) (Nat.le_of_ble_eq_true rfl) (Nat.le_of_ble_eq_true rfl) dX3_isOver_50 ?_
      refine pu_call (va_runSN (As := [.int a2, .int (if a3 < S 8 a1.toNatClampNeg then S 8 a1.toNatClampNeg else a3)]) (rest := []) ⟨hx, hb, hml, hown, hB⟩ (m_A_lowestOf l D h cI cZ S hI a2 (if a3 < S 8 a1.toNatClampNeg then S 8 a1.toNatClampNeg else a3) ) ⟨va_cnB 2 hB (gB k1_231) rfl rfl rfl (hN _ kn_0) (hB _ k1_1) (by decide +kernel) ⟨Nat.le_of_ble_eq_true rfl, Nat.le_of_ble_eq_true rfl⟩, hB _ k1_230, trivial⟩ ⟨pu_blind, pu_pre hP hK hN⟩ rfl rfl hl.1 rfl (lv_room (Nat.le_of_ble_eq_true rfl)) dX3_isOver_53 ⟨Nat.le_of_ble_eq_true rfl, Nat.le_of_ble_eq_true rfl⟩) hP hS (fun H locs hP hS => ?_)
      refine lv_iload hx hb dX3_isOver_56 (lv_at hl 0 rfl) ?_
      refine lv_iload hx hb dX3_isOver_58 (lv_at hl 5 rfl) ?_
      refine lv_aload_n hx hb dX3_isOver_60 rfl (lv_at hl 1 rfl) ?_
      refine va_get (D := D) (ci := 3) (v := .ref (h 15)) (C := RX3) (T := TX3) (N := 6) hx hb hB inX3 hown hK hP 3 rfl rfl 3 (by decide) (hB _ k1_71) (fun _ h9 => h9) rfl dX3_isOver_61 ?_
      refine lv_iload_n hx hb dX3_isOver_64 rfl (lv_at hl 2 rfl) ?_
      refine va_iald (f := S 9) hx hb hK hP 15 0 rfl rfl (vp_in_iff.mpr (by omega)) dX3_isOver_65 ?_
      have b_5 : (-1) ≤ (S 9 a1.toNatClampNeg).toInt ∧ (S 9 a1.toNatClampNeg).toInt ≤ 999 := iv_9 (S := S) hI a1.toNatClampNeg
      refine va_mmin hx hb (hml.trans hl.1.symm) hown (hB _ k2_30) (hB _ k2_31) (hB _ k1_8) (hB _ km_min) (Nat.le_of_ble_eq_true rfl) (Nat.le_of_ble_eq_true rfl) (Nat.le_of_ble_eq_true rfl) (Nat.le_of_ble_eq_true rfl) dX3_isOver_66 ?_
      refine pu_call (va_runSN (As := [.int a2, .int (if S 9 a1.toNatClampNeg < a4 then S 9 a1.toNatClampNeg else a4)]) (rest := [.int (f_A_lowestOf a2 (if a3 < S 8 a1.toNatClampNeg then S 8 a1.toNatClampNeg else a3))]) ⟨hx, hb, hml, hown, hB⟩ (m_A_highestOf l D h cI cZ S hI a2 (if S 9 a1.toNatClampNeg < a4 then S 9 a1.toNatClampNeg else a4) ) ⟨va_cnB 2 hB (gB k2_0) rfl rfl rfl (hN _ kn_1) (hB _ k1_1) (by decide +kernel) ⟨Nat.le_of_ble_eq_true rfl, Nat.le_of_ble_eq_true rfl⟩, hB _ k1_239, trivial⟩ ⟨pu_blind, pu_pre hP hK hN⟩ rfl rfl hl.1 rfl (lv_room (Nat.le_of_ble_eq_true rfl)) dX3_isOver_69 ⟨Nat.le_of_ble_eq_true rfl, Nat.le_of_ble_eq_true rfl⟩) hP hS (fun H locs hP hS => ?_)
      refine lv_icmp_gt (tgt := 79) hx hb dX3_isOver_72 (by decide) (fun c_7 => ?_) (fun c_7 => ?_)
      · skip
        have t_7 := Int32.lt_iff_toInt_lt.mp c_7
        refine lv_iconst (v := 0) hx hb dX3_isOver_79 (by decide) ?_
        exact W.zret (v := 0) hx hb hr (by decide) (fun t ht hW => ⟨⟨0, (), rfl, (by rw [f_R_isOver, if_pos c_1, if_neg c_2, if_pos c_7]), trivial⟩, hS.F ht⟩) hS.2.2 dX3_isOver_80
      · skip
        have t_7 := mt Int32.lt_iff_toInt_lt.mpr c_7
        refine lv_iconst (v := 1) hx hb dX3_isOver_75 (by decide) ?_
        refine lv_goto (tgt := 80) hx hb dX3_isOver_76 (by decide) ?_
        exact W.zret (v := 1) hx hb hr (by decide) (fun t ht hW => ⟨⟨1, (), rfl, (by rw [f_R_isOver, if_pos c_1, if_neg c_2, if_neg c_7]), trivial⟩, hS.F ht⟩) hS.2.2 dX3_isOver_80
    · skip
      have t_2 := Int32.toInt_inj.symm.mp c_2
      refine lv_aload_n hx hb dX3_isOver_29 rfl (lv_at hl 0 rfl) ?_
      refine va_get (D := D) (ci := 3) (v := .ref (h 13)) (C := RX3) (T := TX3) (N := 6) hx hb hB inX3 hown hK hP 3 rfl rfl 1 (by decide) (hB _ k1_67) (fun _ h9 => h9) rfl dX3_isOver_30 ?_
      refine lv_iload_n hx hb dX3_isOver_33 rfl (lv_at hl 1 rfl) ?_
      refine va_iald (f := S 7) hx hb hK hP 13 0 rfl rfl (vp_in_iff.mpr (by omega)) dX3_isOver_34 ?_
      refine lv_goto (tgt := 39) hx hb dX3_isOver_35 (by decide) ?_
      refine lv_istore (lv' := [(5, .int (S 7 a1.toNatClampNeg)), (0, .ref (h 3)), (1, .int a1), (2, .int a2), (3, .int a3), (4, .int a4)]) hx hb dX3_isOver_39 hl (by decide) rfl (fun ls hl => ?_)
      refine lv_iload hx hb dX3_isOver_41 (lv_at hl 0 rfl) ?_
      refine lv_iload_n hx hb dX3_isOver_43 rfl (lv_at hl 4 rfl) ?_
      refine lv_aload_n hx hb dX3_isOver_44 rfl (lv_at hl 1 rfl) ?_
      refine va_get (D := D) (ci := 3) (v := .ref (h 14)) (C := RX3) (T := TX3) (N := 6) hx hb hB inX3 hown hK hP 3 rfl rfl 2 (by decide) (hB _ k1_69) (fun _ h9 => h9) rfl dX3_isOver_45 ?_
      refine lv_iload_n hx hb dX3_isOver_48 rfl (lv_at hl 2 rfl) ?_
      refine va_iald (f := S 8) hx hb hK hP 14 0 rfl rfl (vp_in_iff.mpr (by omega)) dX3_isOver_49 ?_
      have b_8 : (0) ≤ (S 8 a1.toNatClampNeg).toInt ∧ (S 8 a1.toNatClampNeg).toInt ≤ 1000 := iv_8 (S := S) hI a1.toNatClampNeg
      refine va_mmax hx hb (hml.trans hl.1.symm) hown (hB _ k2_26) (hB _ k2_27) (hB _ k1_8) (hB _ km_max) (Nat.le_of_ble_eq_true rfl) (Nat.le_of_ble_eq_true rfl) (Nat.le_of_ble_eq_true rfl) (Nat.le_of_ble_eq_true rfl) dX3_isOver_50 ?_
      refine pu_call (va_runSN (As := [.int (S 7 a1.toNatClampNeg), .int (if a3 < S 8 a1.toNatClampNeg then S 8 a1.toNatClampNeg else a3)]) (rest := []) ⟨hx, hb, hml, hown, hB⟩ (m_A_lowestOf l D h cI cZ S hI (S 7 a1.toNatClampNeg) (if a3 < S 8 a1.toNatClampNeg then S 8 a1.toNatClampNeg else a3) ) ⟨va_cnB 2 hB (gB k1_231) rfl rfl rfl (hN _ kn_0) (hB _ k1_1) (by decide +kernel) ⟨Nat.le_of_ble_eq_true rfl, Nat.le_of_ble_eq_true rfl⟩, hB _ k1_230, trivial⟩ ⟨pu_blind, pu_pre hP hK hN⟩ rfl rfl hl.1 rfl (lv_room (Nat.le_of_ble_eq_true rfl)) dX3_isOver_53 ⟨Nat.le_of_ble_eq_true rfl, Nat.le_of_ble_eq_true rfl⟩) hP hS (fun H locs hP hS => ?_)
      refine lv_iload hx hb dX3_isOver_56 (lv_at hl 0 rfl) ?_
      refine lv_iload hx hb dX3_isOver_58 (lv_at hl 5 rfl) ?_
      refine lv_aload_n hx hb dX3_isOver_60 rfl (lv_at hl 1 rfl) ?_
      refine va_get (D := D) (ci := 3) (v := .ref (h 15)) (C := RX3) (T := TX3) (N := 6) hx hb hB inX3 hown hK hP 3 rfl rfl 3 (by decide) (hB _ k1_71) (fun _ h9 => h9) rfl dX3_isOver_61 ?_
      refine lv_iload_n hx hb dX3_isOver_64 rfl (lv_at hl 2 rfl) ?_
      refine va_iald (f := S 9) hx hb hK hP 15 0 rfl rfl (vp_in_iff.mpr (by omega)) dX3_isOver_65 ?_
      have b_10 : (-1) ≤ (S 9 a1.toNatClampNeg).toInt ∧ (S 9 a1.toNatClampNeg).toInt ≤ 999 := iv_9 (S := S) hI a1.toNatClampNeg
      refine va_mmin hx hb (hml.trans hl.1.symm) hown (hB _ k2_30) (hB _ k2_31) (hB _ k1_8) (hB _ km_min) (Nat.le_of_ble_eq_true rfl) (Nat.le_of_ble_eq_true rfl) (Nat.le_of_ble_eq_true rfl) (Nat.le_of_ble_eq_true rfl) dX3_isOver_66 ?_
      refine pu_call (va_runSN (As := [.int (S 7 a1.toNatClampNeg), .int (if S 9 a1.toNatClampNeg < a4 then S 9 a1.toNatClampNeg else a4)]) (rest := [.int (f_A_lowestOf (S 7 a1.toNatClampNeg) (if a3 < S 8 a1.toNatClampNeg then S 8 a1.toNatClampNeg else a3))]) ⟨hx, hb, hml, hown, hB⟩ (m_A_highestOf l D h cI cZ S hI (S 7 a1.toNatClampNeg) (if S 9 a1.toNatClampNeg < a4 then S 9 a1.toNatClampNeg else a4) ) ⟨va_cnB 2 hB (gB k2_0) rfl rfl rfl (hN _ kn_1) (hB _ k1_1) (by decide +kernel) ⟨Nat.le_of_ble_eq_true rfl, Nat.le_of_ble_eq_true rfl⟩, hB _ k1_239, trivial⟩ ⟨pu_blind, pu_pre hP hK hN⟩ rfl rfl hl.1 rfl (lv_room (Nat.le_of_ble_eq_true rfl)) dX3_isOver_69 ⟨Nat.le_of_ble_eq_true rfl, Nat.le_of_ble_eq_true rfl⟩) hP hS (fun H locs hP hS => ?_)
      refine lv_icmp_gt (tgt := 79) hx hb dX3_isOver_72 (by decide) (fun c_12 => ?_) (fun c_12 => ?_)
      · skip
        have t_12 := Int32.lt_iff_toInt_lt.mp c_12
        refine lv_iconst (v := 0) hx hb dX3_isOver_79 (by decide) ?_
        exact W.zret (v := 0) hx hb hr (by decide) (fun t ht hW => ⟨⟨0, (), rfl, (by rw [f_R_isOver, if_pos c_1, if_pos c_2, if_pos c_12]), trivial⟩, hS.F ht⟩) hS.2.2 dX3_isOver_80
      · skip
        have t_12 := mt Int32.lt_iff_toInt_lt.mpr c_12
        refine lv_iconst (v := 1) hx hb dX3_isOver_75 (by decide) ?_
        refine lv_goto (tgt := 80) hx hb dX3_isOver_76 (by decide) ?_
        exact W.zret (v := 1) hx hb hr (by decide) (fun t ht hW => ⟨⟨1, (), rfl, (by rw [f_R_isOver, if_pos c_1, if_pos c_2, if_neg c_12]), trivial⟩, hS.F ht⟩) hS.2.2 dX3_isOver_80
  · skip
    have z_0 : ((0) : Int32).toInt = (0) := by decide
    have t_1 := mt Int32.toInt_inj.mp c_1
    refine lv_aload_n hx hb dX3_isOver_4 rfl (lv_at hl 0 rfl) ?_
    refine va_get (D := D) (ci := 3) (v := .ref (h 13)) (C := RX3) (T := TX3) (N := 6) hx hb hB inX3 hown hK hP 3 rfl rfl 1 (by decide) (hB _ k1_67) (fun _ h9 => h9) rfl dX3_isOver_5 ?_
    refine lv_iload_n hx hb dX3_isOver_8 rfl (lv_at hl 1 rfl) ?_
    refine va_iald (f := S 7) hx hb hK hP 13 0 rfl rfl (vp_in_iff.mpr (by omega)) dX3_isOver_9 ?_
    refine lv_if_eq (tgt := 25) hx hb dX3_isOver_10 (by decide) (fun c_13 => ?_) (fun c_13 => ?_)
    · skip
      have t_13 := Int32.toInt_inj.symm.mp c_13
      refine lv_iload_n hx hb dX3_isOver_25 rfl (lv_at hl 2 rfl) ?_
      refine lv_if_ne (tgt := 38) hx hb dX3_isOver_26 (by decide) (fun c_14 => ?_) (fun c_14 => ?_)
      · skip
        have t_14 := mt Int32.toInt_inj.mp c_14
        refine lv_iload_n hx hb dX3_isOver_38 rfl (lv_at hl 2 rfl) ?_
        refine lv_istore (lv' := [(5, .int a2), (0, .ref (h 3)), (1, .int a1), (2, .int a2), (3, .int a3), (4, .int a4)]) hx hb dX3_isOver_39 hl (by decide) rfl (fun ls hl => ?_)
        refine lv_iload hx hb dX3_isOver_41 (lv_at hl 0 rfl) ?_
        refine lv_iload_n hx hb dX3_isOver_43 rfl (lv_at hl 4 rfl) ?_
        refine lv_aload_n hx hb dX3_isOver_44 rfl (lv_at hl 1 rfl) ?_
        refine va_get (D := D) (ci := 3) (v := .ref (h 14)) (C := RX3) (T := TX3) (N := 6) hx hb hB inX3 hown hK hP 3 rfl rfl 2 (by decide) (hB _ k1_69) (fun _ h9 => h9) rfl dX3_isOver_45 ?_
        refine lv_iload_n hx hb dX3_isOver_48 rfl (lv_at hl 2 rfl) ?_
        refine va_iald (f := S 8) hx hb hK hP 14 0 rfl rfl (vp_in_iff.mpr (by omega)) dX3_isOver_49 ?_
        have b_15 : (0) ≤ (S 8 a1.toNatClampNeg).toInt ∧ (S 8 a1.toNatClampNeg).toInt ≤ 1000 := iv_8 (S := S) hI a1.toNatClampNeg
        refine va_mmax hx hb (hml.trans hl.1.symm) hown (hB _ k2_26) (hB _ k2_27) (hB _ k1_8) (hB _ km_max) (Nat.le_of_ble_eq_true rfl) (Nat.le_of_ble_eq_true rfl) (Nat.le_of_ble_eq_true rfl) (Nat.le_of_ble_eq_true rfl) dX3_isOver_50 ?_
        refine pu_call (va_runSN (As := [.int a2, .int (if a3 < S 8 a1.toNatClampNeg then S 8 a1.toNatClampNeg else a3)]) (rest := []) ⟨hx, hb, hml, hown, hB⟩ (m_A_lowestOf l D h cI cZ S hI a2 (if a3 < S 8 a1.toNatClampNeg then S 8 a1.toNatClampNeg else a3) ) ⟨va_cnB 2 hB (gB k1_231) rfl rfl rfl (hN _ kn_0) (hB _ k1_1) (by decide +kernel) ⟨Nat.le_of_ble_eq_true rfl, Nat.le_of_ble_eq_true rfl⟩, hB _ k1_230, trivial⟩ ⟨pu_blind, pu_pre hP hK hN⟩ rfl rfl hl.1 rfl (lv_room (Nat.le_of_ble_eq_true rfl)) dX3_isOver_53 ⟨Nat.le_of_ble_eq_true rfl, Nat.le_of_ble_eq_true rfl⟩) hP hS (fun H locs hP hS => ?_)
        refine lv_iload hx hb dX3_isOver_56 (lv_at hl 0 rfl) ?_
        refine lv_iload hx hb dX3_isOver_58 (lv_at hl 5 rfl) ?_
        refine lv_aload_n hx hb dX3_isOver_60 rfl (lv_at hl 1 rfl) ?_
        refine va_get (D := D) (ci := 3) (v := .ref (h 15)) (C := RX3) (T := TX3) (N := 6) hx hb hB inX3 hown hK hP 3 rfl rfl 3 (by decide) (hB _ k1_71) (fun _ h9 => h9) rfl dX3_isOver_61 ?_
        refine lv_iload_n hx hb dX3_isOver_64 rfl (lv_at hl 2 rfl) ?_
        refine va_iald (f := S 9) hx hb hK hP 15 0 rfl rfl (vp_in_iff.mpr (by omega)) dX3_isOver_65 ?_
        have b_17 : (-1) ≤ (S 9 a1.toNatClampNeg).toInt ∧ (S 9 a1.toNatClampNeg).toInt ≤ 999 := iv_9 (S := S) hI a1.toNatClampNeg
        refine va_mmin hx hb (hml.trans hl.1.symm) hown (hB _ k2_30) (hB _ k2_31) (hB _ k1_8) (hB _ km_min) (Nat.le_of_ble_eq_true rfl) (Nat.le_of_ble_eq_true rfl) (Nat.le_of_ble_eq_true rfl) (Nat.le_of_ble_eq_true rfl) dX3_isOver_66 ?_
        refine pu_call (va_runSN (As := [.int a2, .int (if S 9 a1.toNatClampNeg < a4 then S 9 a1.toNatClampNeg else a4)]) (rest := [.int (f_A_lowestOf a2 (if a3 < S 8 a1.toNatClampNeg then S 8 a1.toNatClampNeg else a3))]) ⟨hx, hb, hml, hown, hB⟩ (m_A_highestOf l D h cI cZ S hI a2 (if S 9 a1.toNatClampNeg < a4 then S 9 a1.toNatClampNeg else a4) ) ⟨va_cnB 2 hB (gB k2_0) rfl rfl rfl (hN _ kn_1) (hB _ k1_1) (by decide +kernel) ⟨Nat.le_of_ble_eq_true rfl, Nat.le_of_ble_eq_true rfl⟩, hB _ k1_239, trivial⟩ ⟨pu_blind, pu_pre hP hK hN⟩ rfl rfl hl.1 rfl (lv_room (Nat.le_of_ble_eq_true rfl)) dX3_isOver_69 ⟨Nat.le_of_ble_eq_true rfl, Nat.le_of_ble_eq_true rfl⟩) hP hS (fun H locs hP hS => ?_)
        refine lv_icmp_gt (tgt := 79) hx hb dX3_isOver_72 (by decide) (fun c_19 => ?_) (fun c_19 => ?_)
        · skip
          have t_19 := Int32.lt_iff_toInt_lt.mp c_19
          refine lv_iconst (v := 0) hx hb dX3_isOver_79 (by decide) ?_
          exact W.zret (v := 0) hx hb hr (by decide) (fun t ht hW => ⟨⟨0, (), rfl, (by rw [f_R_isOver, if_neg c_1, if_pos c_13, if_neg c_14, if_pos c_19]), trivial⟩, hS.F ht⟩) hS.2.2 dX3_isOver_80
        · skip
          have t_19 := mt Int32.lt_iff_toInt_lt.mpr c_19
          refine lv_iconst (v := 1) hx hb dX3_isOver_75 (by decide) ?_
          refine lv_goto (tgt := 80) hx hb dX3_isOver_76 (by decide) ?_
          exact W.zret (v := 1) hx hb hr (by decide) (fun t ht hW => ⟨⟨1, (), rfl, (by rw [f_R_isOver, if_neg c_1, if_pos c_13, if_neg c_14, if_neg c_19]), trivial⟩, hS.F ht⟩) hS.2.2 dX3_isOver_80
      · skip
        have t_14 := Int32.toInt_inj.symm.mp c_14
        refine lv_aload_n hx hb dX3_isOver_29 rfl (lv_at hl 0 rfl) ?_
        refine va_get (D := D) (ci := 3) (v := .ref (h 13)) (C := RX3) (T := TX3) (N := 6) hx hb hB inX3 hown hK hP 3 rfl rfl 1 (by decide) (hB _ k1_67) (fun _ h9 => h9) rfl dX3_isOver_30 ?_
        refine lv_iload_n hx hb dX3_isOver_33 rfl (lv_at hl 1 rfl) ?_
        refine va_iald (f := S 7) hx hb hK hP 13 0 rfl rfl (vp_in_iff.mpr (by omega)) dX3_isOver_34 ?_
        refine lv_goto (tgt := 39) hx hb dX3_isOver_35 (by decide) ?_
        refine lv_istore (lv' := [(5, .int (S 7 a1.toNatClampNeg)), (0, .ref (h 3)), (1, .int a1), (2, .int a2), (3, .int a3), (4, .int a4)]) hx hb dX3_isOver_39 hl (by decide) rfl (fun ls hl => ?_)
        refine lv_iload hx hb dX3_isOver_41 (lv_at hl 0 rfl) ?_
        refine lv_iload_n hx hb dX3_isOver_43 rfl (lv_at hl 4 rfl) ?_
        refine lv_aload_n hx hb dX3_isOver_44 rfl (lv_at hl 1 rfl) ?_
        refine va_get (D := D) (ci := 3) (v := .ref (h 14)) (C := RX3) (T := TX3) (N := 6) hx hb hB inX3 hown hK hP 3 rfl rfl 2 (by decide) (hB _ k1_69) (fun _ h9 => h9) rfl dX3_isOver_45 ?_
        refine lv_iload_n hx hb dX3_isOver_48 rfl (lv_at hl 2 rfl) ?_
        refine va_iald (f := S 8) hx hb hK hP 14 0 rfl rfl (vp_in_iff.mpr (by omega)) dX3_isOver_49 ?_
        have b_20 : (0) ≤ (S 8 a1.toNatClampNeg).toInt ∧ (S 8 a1.toNatClampNeg).toInt ≤ 1000 := iv_8 (S := S) hI a1.toNatClampNeg
        refine va_mmax hx hb (hml.trans hl.1.symm) hown (hB _ k2_26) (hB _ k2_27) (hB _ k1_8) (hB _ km_max) (Nat.le_of_ble_eq_true rfl) (Nat.le_of_ble_eq_true rfl) (Nat.le_of_ble_eq_true rfl) (Nat.le_of_ble_eq_true rfl) dX3_isOver_50 ?_
        refine pu_call (va_runSN (As := [.int (S 7 a1.toNatClampNeg), .int (if a3 < S 8 a1.toNatClampNeg then S 8 a1.toNatClampNeg else a3)]) (rest := []) ⟨hx, hb, hml, hown, hB⟩ (m_A_lowestOf l D h cI cZ S hI (S 7 a1.toNatClampNeg) (if a3 < S 8 a1.toNatClampNeg then S 8 a1.toNatClampNeg else a3) ) ⟨va_cnB 2 hB (gB k1_231) rfl rfl rfl (hN _ kn_0) (hB _ k1_1) (by decide +kernel) ⟨Nat.le_of_ble_eq_true rfl, Nat.le_of_ble_eq_true rfl⟩, hB _ k1_230, trivial⟩ ⟨pu_blind, pu_pre hP hK hN⟩ rfl rfl hl.1 rfl (lv_room (Nat.le_of_ble_eq_true rfl)) dX3_isOver_53 ⟨Nat.le_of_ble_eq_true rfl, Nat.le_of_ble_eq_true rfl⟩) hP hS (fun H locs hP hS => ?_)
        refine lv_iload hx hb dX3_isOver_56 (lv_at hl 0 rfl) ?_
        refine lv_iload hx hb dX3_isOver_58 (lv_at hl 5 rfl) ?_
        refine lv_aload_n hx hb dX3_isOver_60 rfl (lv_at hl 1 rfl) ?_
        refine va_get (D := D) (ci := 3) (v := .ref (h 15)) (C := RX3) (T := TX3) (N := 6) hx hb hB inX3 hown hK hP 3 rfl rfl 3 (by decide) (hB _ k1_71) (fun _ h9 => h9) rfl dX3_isOver_61 ?_
        refine lv_iload_n hx hb dX3_isOver_64 rfl (lv_at hl 2 rfl) ?_
        refine va_iald (f := S 9) hx hb hK hP 15 0 rfl rfl (vp_in_iff.mpr (by omega)) dX3_isOver_65 ?_
        have b_22 : (-1) ≤ (S 9 a1.toNatClampNeg).toInt ∧ (S 9 a1.toNatClampNeg).toInt ≤ 999 := iv_9 (S := S) hI a1.toNatClampNeg
        refine va_mmin hx hb (hml.trans hl.1.symm) hown (hB _ k2_30) (hB _ k2_31) (hB _ k1_8) (hB _ km_min) (Nat.le_of_ble_eq_true rfl) (Nat.le_of_ble_eq_true rfl) (Nat.le_of_ble_eq_true rfl) (Nat.le_of_ble_eq_true rfl) dX3_isOver_66 ?_
        refine pu_call (va_runSN (As := [.int (S 7 a1.toNatClampNeg), .int (if S 9 a1.toNatClampNeg < a4 then S 9 a1.toNatClampNeg else a4)]) (rest := [.int (f_A_lowestOf (S 7 a1.toNatClampNeg) (if a3 < S 8 a1.toNatClampNeg then S 8 a1.toNatClampNeg else a3))]) ⟨hx, hb, hml, hown, hB⟩ (m_A_highestOf l D h cI cZ S hI (S 7 a1.toNatClampNeg) (if S 9 a1.toNatClampNeg < a4 then S 9 a1.toNatClampNeg else a4) ) ⟨va_cnB 2 hB (gB k2_0) rfl rfl rfl (hN _ kn_1) (hB _ k1_1) (by decide +kernel) ⟨Nat.le_of_ble_eq_true rfl, Nat.le_of_ble_eq_true rfl⟩, hB _ k1_239, trivial⟩ ⟨pu_blind, pu_pre hP hK hN⟩ rfl rfl hl.1 rfl (lv_room (Nat.le_of_ble_eq_true rfl)) dX3_isOver_69 ⟨Nat.le_of_ble_eq_true rfl, Nat.le_of_ble_eq_true rfl⟩) hP hS (fun H locs hP hS => ?_)
        refine lv_icmp_gt (tgt := 79) hx hb dX3_isOver_72 (by decide) (fun c_24 => ?_) (fun c_24 => ?_)
        · skip
          have t_24 := Int32.lt_iff_toInt_lt.mp c_24
          refine lv_iconst (v := 0) hx hb dX3_isOver_79 (by decide) ?_
          exact W.zret (v := 0) hx hb hr (by decide) (fun t ht hW => ⟨⟨0, (), rfl, (by rw [f_R_isOver, if_neg c_1, if_pos c_13, if_pos c_14, if_pos c_24]), trivial⟩, hS.F ht⟩) hS.2.2 dX3_isOver_80
        · skip
          have t_24 := mt Int32.lt_iff_toInt_lt.mpr c_24
          refine lv_iconst (v := 1) hx hb dX3_isOver_75 (by decide) ?_
          refine lv_goto (tgt := 80) hx hb dX3_isOver_76 (by decide) ?_
          exact W.zret (v := 1) hx hb hr (by decide) (fun t ht hW => ⟨⟨1, (), rfl, (by rw [f_R_isOver, if_neg c_1, if_pos c_13, if_pos c_14, if_neg c_24]), trivial⟩, hS.F ht⟩) hS.2.2 dX3_isOver_80
    · skip
      have t_13 := mt Int32.toInt_inj.mp c_13
      refine lv_iload_n hx hb dX3_isOver_13 rfl (lv_at hl 2 rfl) ?_
      refine lv_aload_n hx hb dX3_isOver_14 rfl (lv_at hl 0 rfl) ?_
      refine va_get (D := D) (ci := 3) (v := .ref (h 13)) (C := RX3) (T := TX3) (N := 6) hx hb hB inX3 hown hK hP 3 rfl rfl 1 (by decide) (hB _ k1_67) (fun _ h9 => h9) rfl dX3_isOver_15 ?_
      refine lv_iload_n hx hb dX3_isOver_18 rfl (lv_at hl 1 rfl) ?_
      refine va_iald (f := S 7) hx hb hK hP 13 0 rfl rfl (vp_in_iff.mpr (by omega)) dX3_isOver_19 ?_
      refine lv_icmp_eq (tgt := 25) hx hb dX3_isOver_20 (by decide) (fun c_25 => ?_) (fun c_25 => ?_)
      · skip
        refine lv_iload_n hx hb dX3_isOver_25 rfl (lv_at hl 2 rfl) ?_
        refine lv_if_ne (tgt := 38) hx hb dX3_isOver_26 (by decide) (fun c_26 => ?_) (fun c_26 => ?_)
        · skip
          have t_26 := mt Int32.toInt_inj.mp c_26
          refine lv_iload_n hx hb dX3_isOver_38 rfl (lv_at hl 2 rfl) ?_
          refine lv_istore (lv' := [(5, .int a2), (0, .ref (h 3)), (1, .int a1), (2, .int a2), (3, .int a3), (4, .int a4)]) hx hb dX3_isOver_39 hl (by decide) rfl (fun ls hl => ?_)
          refine lv_iload hx hb dX3_isOver_41 (lv_at hl 0 rfl) ?_
          refine lv_iload_n hx hb dX3_isOver_43 rfl (lv_at hl 4 rfl) ?_
          refine lv_aload_n hx hb dX3_isOver_44 rfl (lv_at hl 1 rfl) ?_
          refine va_get (D := D) (ci := 3) (v := .ref (h 14)) (C := RX3) (T := TX3) (N := 6) hx hb hB inX3 hown hK hP 3 rfl rfl 2 (by decide) (hB _ k1_69) (fun _ h9 => h9) rfl dX3_isOver_45 ?_
          refine lv_iload_n hx hb dX3_isOver_48 rfl (lv_at hl 2 rfl) ?_
          refine va_iald (f := S 8) hx hb hK hP 14 0 rfl rfl (vp_in_iff.mpr (by omega)) dX3_isOver_49 ?_
          have b_27 : (0) ≤ (S 8 a1.toNatClampNeg).toInt ∧ (S 8 a1.toNatClampNeg).toInt ≤ 1000 := iv_8 (S := S) hI a1.toNatClampNeg
          refine va_mmax hx hb (hml.trans hl.1.symm) hown (hB _ k2_26) (hB _ k2_27) (hB _ k1_8) (hB _ km_max) (Nat.le_of_ble_eq_true rfl) (Nat.le_of_ble_eq_true rfl) (Nat.le_of_ble_eq_true rfl) (Nat.le_of_ble_eq_true rfl) dX3_isOver_50 ?_
          refine pu_call (va_runSN (As := [.int a2, .int (if a3 < S 8 a1.toNatClampNeg then S 8 a1.toNatClampNeg else a3)]) (rest := []) ⟨hx, hb, hml, hown, hB⟩ (m_A_lowestOf l D h cI cZ S hI a2 (if a3 < S 8 a1.toNatClampNeg then S 8 a1.toNatClampNeg else a3) ) ⟨va_cnB 2 hB (gB k1_231) rfl rfl rfl (hN _ kn_0) (hB _ k1_1) (by decide +kernel) ⟨Nat.le_of_ble_eq_true rfl, Nat.le_of_ble_eq_true rfl⟩, hB _ k1_230, trivial⟩ ⟨pu_blind, pu_pre hP hK hN⟩ rfl rfl hl.1 rfl (lv_room (Nat.le_of_ble_eq_true rfl)) dX3_isOver_53 ⟨Nat.le_of_ble_eq_true rfl, Nat.le_of_ble_eq_true rfl⟩) hP hS (fun H locs hP hS => ?_)
          refine lv_iload hx hb dX3_isOver_56 (lv_at hl 0 rfl) ?_
          refine lv_iload hx hb dX3_isOver_58 (lv_at hl 5 rfl) ?_
          refine lv_aload_n hx hb dX3_isOver_60 rfl (lv_at hl 1 rfl) ?_
          refine va_get (D := D) (ci := 3) (v := .ref (h 15)) (C := RX3) (T := TX3) (N := 6) hx hb hB inX3 hown hK hP 3 rfl rfl 3 (by decide) (hB _ k1_71) (fun _ h9 => h9) rfl dX3_isOver_61 ?_
          refine lv_iload_n hx hb dX3_isOver_64 rfl (lv_at hl 2 rfl) ?_
          refine va_iald (f := S 9) hx hb hK hP 15 0 rfl rfl (vp_in_iff.mpr (by omega)) dX3_isOver_65 ?_
          have b_29 : (-1) ≤ (S 9 a1.toNatClampNeg).toInt ∧ (S 9 a1.toNatClampNeg).toInt ≤ 999 := iv_9 (S := S) hI a1.toNatClampNeg
          refine va_mmin hx hb (hml.trans hl.1.symm) hown (hB _ k2_30) (hB _ k2_31) (hB _ k1_8) (hB _ km_min) (Nat.le_of_ble_eq_true rfl) (Nat.le_of_ble_eq_true rfl) (Nat.le_of_ble_eq_true rfl) (Nat.le_of_ble_eq_true rfl) dX3_isOver_66 ?_
          refine pu_call (va_runSN (As := [.int a2, .int (if S 9 a1.toNatClampNeg < a4 then S 9 a1.toNatClampNeg else a4)]) (rest := [.int (f_A_lowestOf a2 (if a3 < S 8 a1.toNatClampNeg then S 8 a1.toNatClampNeg else a3))]) ⟨hx, hb, hml, hown, hB⟩ (m_A_highestOf l D h cI cZ S hI a2 (if S 9 a1.toNatClampNeg < a4 then S 9 a1.toNatClampNeg else a4) ) ⟨va_cnB 2 hB (gB k2_0) rfl rfl rfl (hN _ kn_1) (hB _ k1_1) (by decide +kernel) ⟨Nat.le_of_ble_eq_true rfl, Nat.le_of_ble_eq_true rfl⟩, hB _ k1_239, trivial⟩ ⟨pu_blind, pu_pre hP hK hN⟩ rfl rfl hl.1 rfl (lv_room (Nat.le_of_ble_eq_true rfl)) dX3_isOver_69 ⟨Nat.le_of_ble_eq_true rfl, Nat.le_of_ble_eq_true rfl⟩) hP hS (fun H locs hP hS => ?_)
          refine lv_icmp_gt (tgt := 79) hx hb dX3_isOver_72 (by decide) (fun c_31 => ?_) (fun c_31 => ?_)
          · skip
            have t_31 := Int32.lt_iff_toInt_lt.mp c_31
            refine lv_iconst (v := 0) hx hb dX3_isOver_79 (by decide) ?_
            exact W.zret (v := 0) hx hb hr (by decide) (fun t ht hW => ⟨⟨0, (), rfl, (by rw [f_R_isOver, if_neg c_1, if_neg c_13, if_pos c_25, if_neg c_26, if_pos c_31]), trivial⟩, hS.F ht⟩) hS.2.2 dX3_isOver_80
          · skip
            have t_31 := mt Int32.lt_iff_toInt_lt.mpr c_31
            refine lv_iconst (v := 1) hx hb dX3_isOver_75 (by decide) ?_
            refine lv_goto (tgt := 80) hx hb dX3_isOver_76 (by decide) ?_
            exact W.zret (v := 1) hx hb hr (by decide) (fun t ht hW => ⟨⟨1, (), rfl, (by rw [f_R_isOver, if_neg c_1, if_neg c_13, if_pos c_25, if_neg c_26, if_neg c_31]), trivial⟩, hS.F ht⟩) hS.2.2 dX3_isOver_80
        · skip
          have t_26 := Int32.toInt_inj.symm.mp c_26
          refine lv_aload_n hx hb dX3_isOver_29 rfl (lv_at hl 0 rfl) ?_
          refine va_get (D := D) (ci := 3) (v := .ref (h 13)) (C := RX3) (T := TX3) (N := 6) hx hb hB inX3 hown hK hP 3 rfl rfl 1 (by decide) (hB _ k1_67) (fun _ h9 => h9) rfl dX3_isOver_30 ?_
          refine lv_iload_n hx hb dX3_isOver_33 rfl (lv_at hl 1 rfl) ?_
          refine va_iald (f := S 7) hx hb hK hP 13 0 rfl rfl (vp_in_iff.mpr (by omega)) dX3_isOver_34 ?_
          refine lv_goto (tgt := 39) hx hb dX3_isOver_35 (by decide) ?_
          refine lv_istore (lv' := [(5, .int (S 7 a1.toNatClampNeg)), (0, .ref (h 3)), (1, .int a1), (2, .int a2), (3, .int a3), (4, .int a4)]) hx hb dX3_isOver_39 hl (by decide) rfl (fun ls hl => ?_)
          refine lv_iload hx hb dX3_isOver_41 (lv_at hl 0 rfl) ?_
          refine lv_iload_n hx hb dX3_isOver_43 rfl (lv_at hl 4 rfl) ?_
          refine lv_aload_n hx hb dX3_isOver_44 rfl (lv_at hl 1 rfl) ?_
          refine va_get (D := D) (ci := 3) (v := .ref (h 14)) (C := RX3) (T := TX3) (N := 6) hx hb hB inX3 hown hK hP 3 rfl rfl 2 (by decide) (hB _ k1_69) (fun _ h9 => h9) rfl dX3_isOver_45 ?_
          refine lv_iload_n hx hb dX3_isOver_48 rfl (lv_at hl 2 rfl) ?_
          refine va_iald (f := S 8) hx hb hK hP 14 0 rfl rfl (vp_in_iff.mpr (by omega)) dX3_isOver_49 ?_
          have b_32 : (0) ≤ (S 8 a1.toNatClampNeg).toInt ∧ (S 8 a1.toNatClampNeg).toInt ≤ 1000 := iv_8 (S := S) hI a1.toNatClampNeg
          refine va_mmax hx hb (hml.trans hl.1.symm) hown (hB _ k2_26) (hB _ k2_27) (hB _ k1_8) (hB _ km_max) (Nat.le_of_ble_eq_true rfl) (Nat.le_of_ble_eq_true rfl) (Nat.le_of_ble_eq_true rfl) (Nat.le_of_ble_eq_true rfl) dX3_isOver_50 ?_
          refine pu_call (va_runSN (As := [.int (S 7 a1.toNatClampNeg), .int (if a3 < S 8 a1.toNatClampNeg then S 8 a1.toNatClampNeg else a3)]) (rest := []) ⟨hx, hb, hml, hown, hB⟩ (m_A_lowestOf l D h cI cZ S hI (S 7 a1.toNatClampNeg) (if a3 < S 8 a1.toNatClampNeg then S 8 a1.toNatClampNeg else a3) ) ⟨va_cnB 2 hB (gB k1_231) rfl rfl rfl (hN _ kn_0) (hB _ k1_1) (by decide +kernel) ⟨Nat.le_of_ble_eq_true rfl, Nat.le_of_ble_eq_true rfl⟩, hB _ k1_230, trivial⟩ ⟨pu_blind, pu_pre hP hK hN⟩ rfl rfl hl.1 rfl (lv_room (Nat.le_of_ble_eq_true rfl)) dX3_isOver_53 ⟨Nat.le_of_ble_eq_true rfl, Nat.le_of_ble_eq_true rfl⟩) hP hS (fun H locs hP hS => ?_)
          refine lv_iload hx hb dX3_isOver_56 (lv_at hl 0 rfl) ?_
          refine lv_iload hx hb dX3_isOver_58 (lv_at hl 5 rfl) ?_
          refine lv_aload_n hx hb dX3_isOver_60 rfl (lv_at hl 1 rfl) ?_
          refine va_get (D := D) (ci := 3) (v := .ref (h 15)) (C := RX3) (T := TX3) (N := 6) hx hb hB inX3 hown hK hP 3 rfl rfl 3 (by decide) (hB _ k1_71) (fun _ h9 => h9) rfl dX3_isOver_61 ?_
          refine lv_iload_n hx hb dX3_isOver_64 rfl (lv_at hl 2 rfl) ?_
          refine va_iald (f := S 9) hx hb hK hP 15 0 rfl rfl (vp_in_iff.mpr (by omega)) dX3_isOver_65 ?_
          have b_34 : (-1) ≤ (S 9 a1.toNatClampNeg).toInt ∧ (S 9 a1.toNatClampNeg).toInt ≤ 999 := iv_9 (S := S) hI a1.toNatClampNeg
          refine va_mmin hx hb (hml.trans hl.1.symm) hown (hB _ k2_30) (hB _ k2_31) (hB _ k1_8) (hB _ km_min) (Nat.le_of_ble_eq_true rfl) (Nat.le_of_ble_eq_true rfl) (Nat.le_of_ble_eq_true rfl) (Nat.le_of_ble_eq_true rfl) dX3_isOver_66 ?_
          refine pu_call (va_runSN (As := [.int (S 7 a1.toNatClampNeg), .int (if S 9 a1.toNatClampNeg < a4 then S 9 a1.toNatClampNeg else a4)]) (rest := [.int (f_A_lowestOf (S 7 a1.toNatClampNeg) (if a3 < S 8 a1.toNatClampNeg then S 8 a1.toNatClampNeg else a3))]) ⟨hx, hb, hml, hown, hB⟩ (m_A_highestOf l D h cI cZ S hI (S 7 a1.toNatClampNeg) (if S 9 a1.toNatClampNeg < a4 then S 9 a1.toNatClampNeg else a4) ) ⟨va_cnB 2 hB (gB k2_0) rfl rfl rfl (hN _ kn_1) (hB _ k1_1) (by decide +kernel) ⟨Nat.le_of_ble_eq_true rfl, Nat.le_of_ble_eq_true rfl⟩, hB _ k1_239, trivial⟩ ⟨pu_blind, pu_pre hP hK hN⟩ rfl rfl hl.1 rfl (lv_room (Nat.le_of_ble_eq_true rfl)) dX3_isOver_69 ⟨Nat.le_of_ble_eq_true rfl, Nat.le_of_ble_eq_true rfl⟩) hP hS (fun H locs hP hS => ?_)
          refine lv_icmp_gt (tgt := 79) hx hb dX3_isOver_72 (by decide) (fun c_36 => ?_) (fun c_36 => ?_)
          · skip
            have t_36 := Int32.lt_iff_toInt_lt.mp c_36
            refine lv_iconst (v := 0) hx hb dX3_isOver_79 (by decide) ?_
            exact W.zret (v := 0) hx hb hr (by decide) (fun t ht hW => ⟨⟨0, (), rfl, (by rw [f_R_isOver, if_neg c_1, if_neg c_13, if_pos c_25, if_pos c_26, if_pos c_36]), trivial⟩, hS.F ht⟩) hS.2.2 dX3_isOver_80
          · skip
            have t_36 := mt Int32.lt_iff_toInt_lt.mpr c_36
            refine lv_iconst (v := 1) hx hb dX3_isOver_75 (by decide) ?_
            refine lv_goto (tgt := 80) hx hb dX3_isOver_76 (by decide) ?_
            exact W.zret (v := 1) hx hb hr (by decide) (fun t ht hW => ⟨⟨1, (), rfl, (by rw [f_R_isOver, if_neg c_1, if_neg c_13, if_pos c_25, if_pos c_26, if_neg c_36]), trivial⟩, hS.F ht⟩) hS.2.2 dX3_isOver_80
      · skip
        refine lv_iconst (v := 0) hx hb dX3_isOver_23 (by decide) ?_
        exact W.zret (v := 0) hx hb hr (by decide) (fun t ht hW => ⟨⟨0, (), rfl, (by rw [f_R_isOver, if_neg c_1, if_neg c_13, if_neg c_25]), trivial⟩, hS.F ht⟩) hS.2.2 dX3_isOver_24
set_option maxHeartbeats 4000000 in
set_option maxRecDepth 100000 in
theorem m_R_leastOver (l : Launch) (D : va_G) (h : Nat → Nat) (cI cZ : ClassId) (S : BS) (hI : IV S) (a1 a2 a3 a4 : Int32) : PM l yX3_leastOver wsX3_leastOver { frames := 4, cells := 0, slots := 0, locals := 87 } D cI cZ h S [.ref (h 3), .int a1, .int a2, .int a3, .int a4] (f_R_leastOver S a1 a2 a3 a4) := by
  refine Met.ofW (cc := cX3_leastOver) (maxL := 6) (ret := (some .int)) (by decide) rfl ?_
  intro p e s m args below meth c s₁ B hml hv
  obtain ⟨rfl, hP, hK, hN⟩ := hv
  have hx := B.exec
  have hb := B.bytes
  have hr := B.returns
  have hts := atoms_spec (ws := wsX3_leastOver) B.pre
  have hB : ∀ w ∈ BW, w.before _ s = true := fun w h => hts w (List.mem_cons_of_mem _ h)
  have hown : s.vm.findClass RX3 = some m.cls := findClass_of_methodNamed B.named
  have hlocks := B.notSynchronized
  have hS : va_S (fun _ => False) s.heap s.heap [] := va_S.rf
  have hl := lv_entry ([.ref (h 3), .int a1, .int a2, .int a3, .int a4]) (n := 6) (Nat.le_of_ble_eq_true rfl)
  rw [lg_entry_eq]
  generalize (lg_sl ([.ref (h 3), .int a1, .int a2, .int a3, .int a4]) ++ List.replicate (6 - (lg_sl ([.ref (h 3), .int a1, .int a2, .int a3, .int a4])).length) Slot.unset).toArray = ls at hl ⊢
  have hl : lv_has ls 6 [(0, .ref (h 3)), (1, .int a1), (2, .int a2), (3, .int a3), (4, .int a4)] := hl
  refine lv_iconst (v := 0) hx hb dX3_leastOver_0 (by decide) ?_
  refine lv_istore (lv' := [(5, .int 0), (0, .ref (h 3)), (1, .int a1), (2, .int a2), (3, .int a3), (4, .int a4)]) hx hb dX3_leastOver_1 hl (by decide) rfl (fun ls hl => ?_)
  have loop3 : ∀ (n : Nat) (x5 : Int32) (H : Heap) (locs : List Loc) (ls : Array Slot), (0 ≤ x5.toInt ∧ x5.toInt ≤ (S 24 0 : Int32).toInt ∧ (S 24 0 : Int32).toInt - x5.toInt < (n : Int) ∧ True) → l_R_leastOver_3 S a1 a2 a3 a4 n x5 = f_R_leastOver S a1 a2 a3 a4 → va_P D vwCl (wB h cI cZ S) H → va_S (fun _ => False) s.heap H locs → lv_has ls 6 [(0, .ref (h 3)), (1, .int a1), (2, .int a2), (3, .int a3), (4, .int a4), (5, .int x5)] → W p l e (headSpec wsX3_leastOver { frames := 4, cells := 0, slots := 0, locals := 87 }).room s m ([.ref (h 3), .int a1, .int a2, .int a3, .int a4]).toArray below meth c H locs 0 0 (MQ below (PQ (f_R_leastOver S a1 a2 a3 a4)) ([.ref (h 3), .int a1, .int a2, .int a3, .int a4]).toArray s 0 0 (fun _ => False)) (F0 m 3 ls []) := by
    intro n
    induction n with
    | zero =>
      intro x5 H locs ls hinv he hP hS hl
      obtain ⟨h0, hle, hm, hex⟩ := hinv
      exact absurd hm (by omega)
    | succ n ih =>
      intro x5 H locs ls hinv he hP hS hl
      obtain ⟨h0, hle, hm, hex⟩ := hinv
      have hBd := iv_24 hI
      refine lv_iload hx hb dX3_leastOver_3 (lv_at hl 5 rfl) ?_
      refine lv_aload_n hx hb dX3_leastOver_5 rfl (lv_at hl 0 rfl) ?_
      refine va_get (D := D) (ci := 3) (v := .int (S 24 0)) (C := RX3) (T := TX3) (N := 6) hx hb hB inX3 hown hK hP 3 rfl rfl 5 (by decide) (hB _ k1_75) (fun _ h9 => h9) rfl dX3_leastOver_6 ?_
      have b_1 : (0) ≤ (S 24 0).toInt ∧ (S 24 0).toInt ≤ 80 := iv_24 (S := S) hI
      refine lv_icmp_ge (tgt := 44) hx hb dX3_leastOver_9 (by decide) (fun c_2 => ?_) (fun c_2 => ?_)
      · skip
        have t_2 := Int32.le_iff_toInt_le.mp c_2
        refine lv_iconst (v := (-1)) hx hb dX3_leastOver_44 (by decide) ?_
        exact W.iret (v := (-1)) hx hb hr (fun t ht hW => ⟨⟨(-1), (), rfl, (by rw [← he, l_R_leastOver_3, if_pos c_2]), trivial⟩, hS.F ht⟩) hS.2.2 dX3_leastOver_45
      · skip
        have t_2 := mt Int32.le_iff_toInt_le.mpr c_2
        refine lv_aload_n hx hb dX3_leastOver_12 rfl (lv_at hl 0 rfl) ?_
        refine lv_iload hx hb dX3_leastOver_13 (lv_at hl 5 rfl) ?_
        refine lv_iload_n hx hb dX3_leastOver_15 rfl (lv_at hl 1 rfl) ?_
        refine pu_call (va_runV (As := [.int x5, .int a1]) (rest := []) ⟨hx, hb, hml, hown, hB⟩ (m_R_isLiveOf l D h cI cZ S hI x5 a1 (by omega)) (cwV 2 hB (gV k2_18 k2_20 ks_31 k1_4 k2_21) rfl rfl rfl (by decide +kernel) ⟨Nat.le_of_ble_eq_true rfl, Nat.le_of_ble_eq_true rfl⟩) ⟨pu_blind, va_recv hK hP (ci := 3) (q0 := 3) rfl rfl, pu_pre hP hK hN⟩ rfl rfl hl.1 rfl (lv_room (Nat.le_of_ble_eq_true rfl)) dX3_leastOver_16 ⟨Nat.le_of_ble_eq_true rfl, Nat.le_of_ble_eq_true rfl⟩) hP hS (fun H locs hP hS => ?_)
        refine lv_if_eq (tgt := 38) hx hb dX3_leastOver_19 (by decide) (fun c_4 => ?_) (fun c_4 => ?_)
        · skip
          refine lv_iinc (v := x5 + 1) (lv' := [(5, .int (x5 + 1)), (0, .ref (h 3)), (1, .int a1), (2, .int a2), (3, .int a3), (4, .int a4)]) hx hb dX3_leastOver_38 hl (k := 5) rfl rfl (by decide) rfl (fun ls hl => ?_)
          refine lv_goto (tgt := 3) hx hb dX3_leastOver_41 (by decide) ?_
          have hinc := i32_inc (x := x5) h0 (by omega)
          exact ih (x5 + 1) _ _ _ ⟨by omega, by omega, by omega, trivial⟩ (by rw [← he, l_R_leastOver_3, if_neg c_2, if_pos c_4]) hP hS (lv_sub hl [1, 2, 3, 4, 5, 0] rfl)
        · skip
          refine lv_aload_n hx hb dX3_leastOver_22 rfl (lv_at hl 0 rfl) ?_
          refine lv_iload hx hb dX3_leastOver_23 (lv_at hl 5 rfl) ?_
          refine lv_iload_n hx hb dX3_leastOver_25 rfl (lv_at hl 2 rfl) ?_
          refine lv_iload_n hx hb dX3_leastOver_26 rfl (lv_at hl 3 rfl) ?_
          refine lv_iload hx hb dX3_leastOver_27 (lv_at hl 4 rfl) ?_
          refine pu_call (va_runV (As := [.int x5, .int a2, .int a3, .int a4]) (rest := []) ⟨hx, hb, hml, hown, hB⟩ (m_R_isOver l D h cI cZ S hI x5 a2 a3 a4 (by omega)) (cwV 4 hB (gV k2_22 k2_24 ks_42 k1_4 k2_25) rfl rfl rfl (by decide +kernel) ⟨Nat.le_of_ble_eq_true rfl, Nat.le_of_ble_eq_true rfl⟩) ⟨pu_blind, va_recv hK hP (ci := 3) (q0 := 3) rfl rfl, pu_pre hP hK hN⟩ rfl rfl hl.1 rfl (lv_room (Nat.le_of_ble_eq_true rfl)) dX3_leastOver_29 ⟨Nat.le_of_ble_eq_true rfl, Nat.le_of_ble_eq_true rfl⟩) hP hS (fun H locs hP hS => ?_)
          refine lv_if_eq (tgt := 38) hx hb dX3_leastOver_32 (by decide) (fun c_6 => ?_) (fun c_6 => ?_)
          · skip
            refine lv_iinc (v := x5 + 1) (lv' := [(5, .int (x5 + 1)), (0, .ref (h 3)), (1, .int a1), (2, .int a2), (3, .int a3), (4, .int a4)]) hx hb dX3_leastOver_38 hl (k := 5) rfl rfl (by decide) rfl (fun ls hl => ?_)
            refine lv_goto (tgt := 3) hx hb dX3_leastOver_41 (by decide) ?_
            have hinc := i32_inc (x := x5) h0 (by omega)
            exact ih (x5 + 1) _ _ _ ⟨by omega, by omega, by omega, trivial⟩ (by rw [← he, l_R_leastOver_3, if_neg c_2, if_neg c_4, if_pos c_6]) hP hS (lv_sub hl [1, 2, 3, 4, 5, 0] rfl)
          · skip
            refine lv_iload hx hb dX3_leastOver_35 (lv_at hl 5 rfl) ?_
            exact W.iret (v := x5) hx hb hr (fun t ht hW => ⟨⟨x5, (), rfl, (by rw [← he, l_R_leastOver_3, if_neg c_2, if_neg c_4, if_neg c_6]), trivial⟩, hS.F ht⟩) hS.2.2 dX3_leastOver_37
  have hB9 := iv_24 (S := S) hI
  have z_0 : ((0) : Int32).toInt = (0) := by decide
  exact loop3 600 0 _ _ _ ⟨by omega, by omega, by omega, trivial⟩ (by rw [f_R_leastOver]) hP hS (lv_sub hl [1, 2, 3, 4, 5, 0] rfl)
set_option maxHeartbeats 4000000 in
set_option maxRecDepth 100000 in
theorem m_R_leastOverAnyOf (l : Launch) (D : va_G) (h : Nat → Nat) (cI cZ : ClassId) (S : BS) (hI : IV S) (a1 a2 : Int32) : PM l yX3_leastOverAnyOf wsX3_leastOverAnyOf { frames := 5, cells := 0, slots := 0, locals := 112 } D cI cZ h S [.ref (h 3), .int a1, .int a2] (f_R_leastOverAnyOf S a1 a2) := by
  refine Met.ofW (cc := cX3_leastOverAnyOf) (maxL := 4) (ret := (some .int)) (by decide) rfl ?_
  intro p e s m args below meth c s₁ B hml hv
  obtain ⟨rfl, hP, hK, hN⟩ := hv
  have hx := B.exec
  have hb := B.bytes
  have hr := B.returns
  have hts := atoms_spec (ws := wsX3_leastOverAnyOf) B.pre
  have hB : ∀ w ∈ BW, w.before _ s = true := fun w h => hts w (List.mem_cons_of_mem _ h)
  have hown : s.vm.findClass RX3 = some m.cls := findClass_of_methodNamed B.named
  have hlocks := B.notSynchronized
  have hS : va_S (fun _ => False) s.heap s.heap [] := va_S.rf
  have hl := lv_entry ([.ref (h 3), .int a1, .int a2]) (n := 4) (Nat.le_of_ble_eq_true rfl)
  rw [lg_entry_eq]
  generalize (lg_sl ([.ref (h 3), .int a1, .int a2]) ++ List.replicate (4 - (lg_sl ([.ref (h 3), .int a1, .int a2])).length) Slot.unset).toArray = ls at hl ⊢
  have hl : lv_has ls 4 [(0, .ref (h 3)), (1, .int a1), (2, .int a2)] := hl
  refine lv_iconst (v := 0) hx hb dX3_leastOverAnyOf_0 (by decide) ?_
  refine lv_istore_n (lv' := [(3, .int 0), (0, .ref (h 3)), (1, .int a1), (2, .int a2)]) hx hb dX3_leastOverAnyOf_1 rfl hl (by decide) rfl (fun ls hl => ?_)
  have loop2 : ∀ (n : Nat) (x3 : Int32) (H : Heap) (locs : List Loc) (ls : Array Slot), (0 ≤ x3.toInt ∧ x3.toInt ≤ (S 24 0 : Int32).toInt ∧ (S 24 0 : Int32).toInt - x3.toInt < (n : Int) ∧ True) → l_R_leastOverAnyOf_2 S a1 a2 n x3 = f_R_leastOverAnyOf S a1 a2 → va_P D vwCl (wB h cI cZ S) H → va_S (fun _ => False) s.heap H locs → lv_has ls 4 [(0, .ref (h 3)), (1, .int a1), (2, .int a2), (3, .int x3)] → W p l e (headSpec wsX3_leastOverAnyOf { frames := 5, cells := 0, slots := 0, locals := 112 }).room s m ([.ref (h 3), .int a1, .int a2]).toArray below meth c H locs 0 0 (MQ below (PQ (f_R_leastOverAnyOf S a1 a2)) ([.ref (h 3), .int a1, .int a2]).toArray s 0 0 (fun _ => False)) (F0 m 2 ls []) := by
    intro n
    induction n with
    | zero =>
      intro x3 H locs ls hinv he hP hS hl
      obtain ⟨h0, hle, hm, hex⟩ := hinv
      exact absurd hm (by omega)
    | succ n ih =>
      intro x3 H locs ls hinv he hP hS hl
      obtain ⟨h0, hle, hm, hex⟩ := hinv
      have hBd := iv_24 hI
      refine lv_iload_n hx hb dX3_leastOverAnyOf_2 rfl (lv_at hl 3 rfl) ?_
      refine lv_aload_n hx hb dX3_leastOverAnyOf_3 rfl (lv_at hl 0 rfl) ?_
      refine va_get (D := D) (ci := 3) (v := .int (S 24 0)) (C := RX3) (T := TX3) (N := 6) hx hb hB inX3 hown hK hP 3 rfl rfl 5 (by decide) (hB _ k1_75) (fun _ h9 => h9) rfl dX3_leastOverAnyOf_4 ?_
      have b_1 : (0) ≤ (S 24 0).toInt ∧ (S 24 0).toInt ≤ 80 := iv_24 (S := S) hI
      refine lv_icmp_ge (tgt := 54) hx hb dX3_leastOverAnyOf_7 (by decide) (fun c_2 => ?_) (fun c_2 => ?_)
      · skip
        have t_2 := Int32.le_iff_toInt_le.mp c_2
        refine lv_iconst (v := (-1)) hx hb dX3_leastOverAnyOf_54 (by decide) ?_
        exact W.iret (v := (-1)) hx hb hr (fun t ht hW => ⟨⟨(-1), (), rfl, (by rw [← he, l_R_leastOverAnyOf_2, if_pos c_2]), trivial⟩, hS.F ht⟩) hS.2.2 dX3_leastOverAnyOf_55
      · skip
        have t_2 := mt Int32.le_iff_toInt_le.mpr c_2
        refine lv_aload_n hx hb dX3_leastOverAnyOf_10 rfl (lv_at hl 0 rfl) ?_
        refine lv_iload_n hx hb dX3_leastOverAnyOf_11 rfl (lv_at hl 3 rfl) ?_
        refine lv_iload_n hx hb dX3_leastOverAnyOf_12 rfl (lv_at hl 2 rfl) ?_
        refine pu_call (va_runV (As := [.int x3, .int a2]) (rest := []) ⟨hx, hb, hml, hown, hB⟩ (m_R_isLiveOf l D h cI cZ S hI x3 a2 (by omega)) (cwV 2 hB (gV k2_18 k2_20 ks_31 k1_4 k2_21) rfl rfl rfl (by decide +kernel) ⟨Nat.le_of_ble_eq_true rfl, Nat.le_of_ble_eq_true rfl⟩) ⟨pu_blind, va_recv hK hP (ci := 3) (q0 := 3) rfl rfl, pu_pre hP hK hN⟩ rfl rfl hl.1 rfl (lv_room (Nat.le_of_ble_eq_true rfl)) dX3_leastOverAnyOf_13 ⟨Nat.le_of_ble_eq_true rfl, Nat.le_of_ble_eq_true rfl⟩) hP hS (fun H locs hP hS => ?_)
        refine lv_if_eq (tgt := 48) hx hb dX3_leastOverAnyOf_16 (by decide) (fun c_4 => ?_) (fun c_4 => ?_)
        · skip
          refine lv_iinc (v := x3 + 1) (lv' := [(3, .int (x3 + 1)), (0, .ref (h 3)), (1, .int a1), (2, .int a2)]) hx hb dX3_leastOverAnyOf_48 hl (k := 3) rfl rfl (by decide) rfl (fun ls hl => ?_)
          refine lv_goto (tgt := 2) hx hb dX3_leastOverAnyOf_51 (by decide) ?_
          have hinc := i32_inc (x := x3) h0 (by omega)
          exact ih (x3 + 1) _ _ _ ⟨by omega, by omega, by omega, trivial⟩ (by rw [← he, l_R_leastOverAnyOf_2, if_neg c_2, if_pos c_4]) hP hS (lv_sub hl [1, 2, 3, 0] rfl)
        · skip
          refine lv_aload_n hx hb dX3_leastOverAnyOf_19 rfl (lv_at hl 0 rfl) ?_
          refine lv_iload_n hx hb dX3_leastOverAnyOf_20 rfl (lv_at hl 1 rfl) ?_
          refine lv_aload_n hx hb dX3_leastOverAnyOf_21 rfl (lv_at hl 0 rfl) ?_
          refine va_get (D := D) (ci := 3) (v := .ref (h 13)) (C := RX3) (T := TX3) (N := 6) hx hb hB inX3 hown hK hP 3 rfl rfl 1 (by decide) (hB _ k1_67) (fun _ h9 => h9) rfl dX3_leastOverAnyOf_22 ?_
          refine lv_iload_n hx hb dX3_leastOverAnyOf_25 rfl (lv_at hl 3 rfl) ?_
          refine va_iald (f := S 7) hx hb hK hP 13 0 rfl rfl (vp_in_iff.mpr (by omega)) dX3_leastOverAnyOf_26 ?_
          refine lv_aload_n hx hb dX3_leastOverAnyOf_27 rfl (lv_at hl 0 rfl) ?_
          refine va_get (D := D) (ci := 3) (v := .ref (h 14)) (C := RX3) (T := TX3) (N := 6) hx hb hB inX3 hown hK hP 3 rfl rfl 2 (by decide) (hB _ k1_69) (fun _ h9 => h9) rfl dX3_leastOverAnyOf_28 ?_
          refine lv_iload_n hx hb dX3_leastOverAnyOf_31 rfl (lv_at hl 3 rfl) ?_
          refine va_iald (f := S 8) hx hb hK hP 14 0 rfl rfl (vp_in_iff.mpr (by omega)) dX3_leastOverAnyOf_32 ?_
          have b_5 : (0) ≤ (S 8 x3.toNatClampNeg).toInt ∧ (S 8 x3.toNatClampNeg).toInt ≤ 1000 := iv_8 (S := S) hI x3.toNatClampNeg
          refine lv_aload_n hx hb dX3_leastOverAnyOf_33 rfl (lv_at hl 0 rfl) ?_
          refine va_get (D := D) (ci := 3) (v := .ref (h 15)) (C := RX3) (T := TX3) (N := 6) hx hb hB inX3 hown hK hP 3 rfl rfl 3 (by decide) (hB _ k1_71) (fun _ h9 => h9) rfl dX3_leastOverAnyOf_34 ?_
          refine lv_iload_n hx hb dX3_leastOverAnyOf_37 rfl (lv_at hl 3 rfl) ?_
          refine va_iald (f := S 9) hx hb hK hP 15 0 rfl rfl (vp_in_iff.mpr (by omega)) dX3_leastOverAnyOf_38 ?_
          have b_6 : (-1) ≤ (S 9 x3.toNatClampNeg).toInt ∧ (S 9 x3.toNatClampNeg).toInt ≤ 999 := iv_9 (S := S) hI x3.toNatClampNeg
          refine pu_call (va_runV (As := [.int a1, .int (S 7 x3.toNatClampNeg), .int (S 8 x3.toNatClampNeg), .int (S 9 x3.toNatClampNeg)]) (rest := []) ⟨hx, hb, hml, hown, hB⟩ (m_R_leastOver l D h cI cZ S hI a1 (S 7 x3.toNatClampNeg) (S 8 x3.toNatClampNeg) (S 9 x3.toNatClampNeg) ) (cwV 4 hB (gV k2_112 k2_16 ks_46 k1_4 k2_17) rfl rfl rfl (by decide +kernel) ⟨Nat.le_of_ble_eq_true rfl, Nat.le_of_ble_eq_true rfl⟩) ⟨pu_blind, va_recv hK hP (ci := 3) (q0 := 3) rfl rfl, pu_pre hP hK hN⟩ rfl rfl hl.1 rfl (lv_room (Nat.le_of_ble_eq_true rfl)) dX3_leastOverAnyOf_39 ⟨Nat.le_of_ble_eq_true rfl, Nat.le_of_ble_eq_true rfl⟩) hP hS (fun H locs hP hS => ?_)
          refine lv_iconst (v := (-1)) hx hb dX3_leastOverAnyOf_42 (by decide) ?_
          refine lv_icmp_eq (tgt := 48) hx hb dX3_leastOverAnyOf_43 (by decide) (fun c_8 => ?_) (fun c_8 => ?_)
          · skip
            have z_m1 : ((-1) : Int32).toInt = (-1) := by decide
            have t_8 := Int32.toInt_inj.symm.mp c_8
            refine lv_iinc (v := x3 + 1) (lv' := [(3, .int (x3 + 1)), (0, .ref (h 3)), (1, .int a1), (2, .int a2)]) hx hb dX3_leastOverAnyOf_48 hl (k := 3) rfl rfl (by decide) rfl (fun ls hl => ?_)
            refine lv_goto (tgt := 2) hx hb dX3_leastOverAnyOf_51 (by decide) ?_
            have hinc := i32_inc (x := x3) h0 (by omega)
            exact ih (x3 + 1) _ _ _ ⟨by omega, by omega, by omega, trivial⟩ (by rw [← he, l_R_leastOverAnyOf_2, if_neg c_2, if_neg c_4, if_pos c_8]) hP hS (lv_sub hl [1, 2, 3, 0] rfl)
          · skip
            have z_m1 : ((-1) : Int32).toInt = (-1) := by decide
            have t_8 := mt Int32.toInt_inj.mp c_8
            refine lv_iload_n hx hb dX3_leastOverAnyOf_46 rfl (lv_at hl 3 rfl) ?_
            exact W.iret (v := x3) hx hb hr (fun t ht hW => ⟨⟨x3, (), rfl, (by rw [← he, l_R_leastOverAnyOf_2, if_neg c_2, if_neg c_4, if_neg c_8]), trivial⟩, hS.F ht⟩) hS.2.2 dX3_leastOverAnyOf_47
  have hB9 := iv_24 (S := S) hI
  have z_0 : ((0) : Int32).toInt = (0) := by decide
  exact loop2 600 0 _ _ _ ⟨by omega, by omega, by omega, trivial⟩ (by rw [f_R_leastOverAnyOf]) hP hS (lv_sub hl [1, 2, 3, 0] rfl)
