set_option maxHeartbeats 4000000 in
set_option maxRecDepth 100000 in
theorem m_M_highest (l : Launch) (D : va_G) (h : Nat → Nat) (cI cZ : ClassId) (S : BS) (hI : IVM S) (a1 : Int32) (ha0 : 0 ≤ a1.toInt ∧ a1.toInt ≤ 79) : PMM l yX6_highest wsX6_highest { frames := 1, cells := 0, slots := 0, locals := 21 } D cI cZ h S [.ref (h 0), .int a1] (f_M_highest S a1) := by
  refine Met.ofW (cc := cX6_highest) (maxL := 2) (ret := (some .int)) (by decide) rfl ?_
  intro p e s m args below meth c s₁ B hml hv
  obtain ⟨rfl, hP, hK, hN⟩ := hv
  have hx := B.exec
  have hb := B.bytes
  have hr := B.returns
  have hts := atoms_spec (ws := wsX6_highest) B.pre
  have hB : ∀ w ∈ BW, w.before _ s = true := fun w h => hts w (List.mem_cons_of_mem _ h)
  have hown : s.vm.findClass RX6 = some m.cls := findClass_of_methodNamed B.named
  have hlocks := B.notSynchronized
  have hS : va_S (fun _ => False) s.heap s.heap [] := va_S.rf
  have hl := lv_entry ([.ref (h 0), .int a1]) (n := 2) (Nat.le_of_ble_eq_true rfl)
  rw [lg_entry_eq]
  generalize (lg_sl ([.ref (h 0), .int a1]) ++ List.replicate (2 - (lg_sl ([.ref (h 0), .int a1])).length) Slot.unset).toArray = ls at hl ⊢
  have hl : lv_has ls 2 [(0, .ref (h 0)), (1, .int a1)] := hl
  refine lv_aload_n hx hb dX6_highest_0 rfl (lv_at hl 0 rfl) ?_
  refine va_get (D := D) (ci := 6) (v := .ref (h 7)) (C := RX6) (T := TX6) (N := 25) hx hb hB inX6 hown hK hP 0 rfl rfl 10 (by decide) (hB _ k3_7) (fun _ h9 => h9) rfl dX6_highest_1 ?_
  refine lv_iload_n hx hb dX6_highest_4 rfl (lv_at hl 1 rfl) ?_
  refine va_iald (f := S 6) hx hb hK hP 7 0 rfl rfl (vp_in_iff.mpr (by omega)) dX6_highest_5 ?_
  refine lv_aload_n hx hb dX6_highest_6 rfl (lv_at hl 0 rfl) ?_
  refine va_get (D := D) (ci := 6) (v := .ref (h 9)) (C := RX6) (T := TX6) (N := 25) hx hb hB inX6 hown hK hP 0 rfl rfl 12 (by decide) (hB _ k3_9) (fun _ h9 => h9) rfl dX6_highest_7 ?_
  refine lv_iload_n hx hb dX6_highest_10 rfl (lv_at hl 1 rfl) ?_
  refine va_iald (f := S 8) hx hb hK hP 9 0 rfl rfl (vp_in_iff.mpr (by omega)) dX6_highest_11 ?_
  have b_1 : (0) ≤ (S 8 a1.toNatClampNeg).toInt ∧ (S 8 a1.toNatClampNeg).toInt ≤ 999 := ivM_8 (S := S) hI a1.toNatClampNeg
  refine pu_callM (va_runS (As := [.int (S 6 a1.toNatClampNeg), .int (S 8 a1.toNatClampNeg)]) (rest := []) ⟨hx, hb, hml, hown, hB⟩ (m_M_isOfSide l D h cI cZ S hI (S 6 a1.toNatClampNeg) (S 8 a1.toNatClampNeg) ) (cwS 2 hB (gS k3_110 k3_111 k1_7 k3_112) rfl rfl rfl (by decide +kernel) ⟨Nat.le_of_ble_eq_true rfl, Nat.le_of_ble_eq_true rfl⟩) ⟨pu_blindM, pu_preM hP hK hN⟩ rfl rfl hl.1 rfl (lv_room (Nat.le_of_ble_eq_true rfl)) dX6_highest_12 ⟨Nat.le_of_ble_eq_true rfl, Nat.le_of_ble_eq_true rfl⟩) hP hS (fun H locs hP hS => ?_)
  refine lv_if_eq (tgt := 27) hx hb dX6_highest_15 (by decide) (fun c_3 => ?_) (fun c_3 => ?_)
  · skip
    refine lv_aload_n hx hb dX6_highest_27 rfl (lv_at hl 0 rfl) ?_
    refine va_get (D := D) (ci := 6) (v := .ref (h 9)) (C := RX6) (T := TX6) (N := 25) hx hb hB inX6 hown hK hP 0 rfl rfl 12 (by decide) (hB _ k3_9) (fun _ h9 => h9) rfl dX6_highest_28 ?_
    refine lv_iload_n hx hb dX6_highest_31 rfl (lv_at hl 1 rfl) ?_
    refine va_iald (f := S 8) hx hb hK hP 9 0 rfl rfl (vp_in_iff.mpr (by omega)) dX6_highest_32 ?_
    have b_4 : (0) ≤ (S 8 a1.toNatClampNeg).toInt ∧ (S 8 a1.toNatClampNeg).toInt ≤ 999 := ivM_8 (S := S) hI a1.toNatClampNeg
    refine lv_iconst (v := 1) hx hb dX6_highest_33 (by decide) ?_
    refine lv_isub hx hb dX6_highest_34 ?_
    exact W.iret (v := (S 8 a1.toNatClampNeg) - 1) hx hb hr (fun t ht hW => ⟨⟨(S 8 a1.toNatClampNeg) - 1, (), rfl, (by rw [f_M_highest, if_pos c_3]), trivial⟩, hS.F ht⟩) hS.2.2 dX6_highest_35
  · skip
    refine lv_aload_n hx hb dX6_highest_18 rfl (lv_at hl 0 rfl) ?_
    refine va_get (D := D) (ci := 6) (v := .ref (h 9)) (C := RX6) (T := TX6) (N := 25) hx hb hB inX6 hown hK hP 0 rfl rfl 12 (by decide) (hB _ k3_9) (fun _ h9 => h9) rfl dX6_highest_19 ?_
    refine lv_iload_n hx hb dX6_highest_22 rfl (lv_at hl 1 rfl) ?_
    refine va_iald (f := S 8) hx hb hK hP 9 0 rfl rfl (vp_in_iff.mpr (by omega)) dX6_highest_23 ?_
    have b_5 : (0) ≤ (S 8 a1.toNatClampNeg).toInt ∧ (S 8 a1.toNatClampNeg).toInt ≤ 999 := ivM_8 (S := S) hI a1.toNatClampNeg
    refine lv_goto (tgt := 35) hx hb dX6_highest_24 (by decide) ?_
    exact W.iret (v := S 8 a1.toNatClampNeg) hx hb hr (fun t ht hW => ⟨⟨S 8 a1.toNatClampNeg, (), rfl, (by rw [f_M_highest, if_neg c_3]), trivial⟩, hS.F ht⟩) hS.2.2 dX6_highest_35
set_option maxHeartbeats 4000000 in
set_option maxRecDepth 100000 in
theorem m_M_isOver (l : Launch) (D : va_G) (h : Nat → Nat) (cI cZ : ClassId) (S : BS) (hI : IVM S) (a1 a2 a3 a4 : Int32) (ha0 : 0 ≤ a1.toInt ∧ a1.toInt ≤ 79) (ha2 : 0 ≤ a3.toInt ∧ a3.toInt ≤ 999) (ha3 : 0 ≤ a4.toInt ∧ a4.toInt ≤ 999) : PMM l yX6_isOver wsX6_isOver { frames := 2, cells := 0, slots := 0, locals := 43 } D cI cZ h S [.ref (h 0), .int a1, .int a2, .int a3, .int a4] (f_M_isOver S a1 a2 a3 a4) := by
  refine Met.ofW (cc := cX6_isOver) (maxL := 6) (ret := (some .boolean)) (by decide) rfl ?_
  intro p e s m args below meth c s₁ B hml hv
  obtain ⟨rfl, hP, hK, hN⟩ := hv
  have hx := B.exec
  have hb := B.bytes
  have hr := B.returns
  have hts := atoms_spec (ws := wsX6_isOver) B.pre
  have hB : ∀ w ∈ BW, w.before _ s = true := fun w h => hts w (List.mem_cons_of_mem _ h)
  have hown : s.vm.findClass RX6 = some m.cls := findClass_of_methodNamed B.named
  have hlocks := B.notSynchronized
  have hS : va_S (fun _ => False) s.heap s.heap [] := va_S.rf
  have hl := lv_entry ([.ref (h 0), .int a1, .int a2, .int a3, .int a4]) (n := 6) (Nat.le_of_ble_eq_true rfl)
  rw [lg_entry_eq]
  generalize (lg_sl ([.ref (h 0), .int a1, .int a2, .int a3, .int a4]) ++ List.replicate (6 - (lg_sl ([.ref (h 0), .int a1, .int a2, .int a3, .int a4])).length) Slot.unset).toArray = ls at hl ⊢
  have hl : lv_has ls 6 [(0, .ref (h 0)), (1, .int a1), (2, .int a2), (3, .int a3), (4, .int a4)] := hl
  refine lv_iload_n hx hb dX6_isOver_0 rfl (lv_at hl 3 rfl) ?_
  refine lv_istore (lv' := [(5, .int a3), (0, .ref (h 0)), (1, .int a1), (2, .int a2), (3, .int a3), (4, .int a4)]) hx hb dX6_isOver_1 hl (by decide) rfl (fun ls hl => ?_)
  have loop3 : ∀ (n3 : Nat) (x5 : Int32) (H : Heap) (locs : List Loc) (ls : Array Slot), (0 ≤ x5.toInt ∧ x5.toInt ≤ 6000 ∧ 1 ≤ (n3 : Int) ∧ (a4 : Int32).toInt - x5.toInt + 1 < (n3 : Int) ∧ (True)) → l_M_isOver_3 S a1 a2 a3 a4 n3 x5 = f_M_isOver S a1 a2 a3 a4 → va_P D vwCl (wBM h cI cZ S) H → va_S (fun _ => False) s.heap H locs → lv_has ls 6 [(0, .ref (h 0)), (1, .int a1), (2, .int a2), (3, .int a3), (4, .int a4), (5, .int x5)] → W p l e (headSpec wsX6_isOver { frames := 2, cells := 0, slots := 0, locals := 43 }).room s m ([.ref (h 0), .int a1, .int a2, .int a3, .int a4]).toArray below meth c H locs 0 0 (MQ below (PQ (f_M_isOver S a1 a2 a3 a4)) ([.ref (h 0), .int a1, .int a2, .int a3, .int a4]).toArray s 0 0 (fun _ => False)) (F0 m 3 ls []) := by
    intro n3
    induction n3 with
    | zero =>
      intro x5 H locs ls hinv he3 hP hS hl
      exact absurd hinv.2.2.1 (by omega)
    | succ n3 ih3 =>
      intro x5 H locs ls hinv he3 hP hS hl
      obtain ⟨h0_3, hc_3, h1_3, hm_3, hex_3⟩ := hinv
      refine lv_iload hx hb dX6_isOver_3 (lv_at hl 5 rfl) ?_
      refine lv_iload hx hb dX6_isOver_5 (lv_at hl 4 rfl) ?_
      refine lv_icmp_gt (tgt := 37) hx hb dX6_isOver_7 (by decide) (fun c_1 => ?_) (fun c_1 => ?_)
      · skip
        have t_1 := Int32.lt_iff_toInt_lt.mp c_1
        refine lv_iconst (v := 0) hx hb dX6_isOver_37 (by decide) ?_
        exact W.zret (v := 0) hx hb hr (by decide) (fun t ht hW => ⟨⟨0, (), rfl, (by rw [← he3, l_M_isOver_3, if_pos c_1]), trivial⟩, hS.F ht⟩) hS.2.2 dX6_isOver_38
      · skip
        have t_1 := mt Int32.lt_iff_toInt_lt.mpr c_1
        refine lv_iload_n hx hb dX6_isOver_10 rfl (lv_at hl 2 rfl) ?_
        refine lv_iload hx hb dX6_isOver_11 (lv_at hl 5 rfl) ?_
        refine pu_callM (va_runS (As := [.int a2, .int x5]) (rest := []) ⟨hx, hb, hml, hown, hB⟩ (m_M_isOfSide l D h cI cZ S hI a2 x5 ) (cwS 2 hB (gS k3_110 k3_111 k1_7 k3_112) rfl rfl rfl (by decide +kernel) ⟨Nat.le_of_ble_eq_true rfl, Nat.le_of_ble_eq_true rfl⟩) ⟨pu_blindM, pu_preM hP hK hN⟩ rfl rfl hl.1 rfl (lv_room (Nat.le_of_ble_eq_true rfl)) dX6_isOver_13 ⟨Nat.le_of_ble_eq_true rfl, Nat.le_of_ble_eq_true rfl⟩) hP hS (fun H locs hP hS => ?_)
        refine lv_if_eq (tgt := 31) hx hb dX6_isOver_16 (by decide) (fun c_3 => ?_) (fun c_3 => ?_)
        · skip
          refine lv_iinc (v := x5 + 1) (lv' := [(5, .int (x5 + 1)), (0, .ref (h 0)), (1, .int a1), (2, .int a2), (3, .int a3), (4, .int a4)]) hx hb dX6_isOver_31 hl (k := 5) rfl rfl (by decide) rfl (fun ls hl => ?_)
          refine lv_goto (tgt := 3) hx hb dX6_isOver_34 (by decide) ?_
          have hinc := i32_inc (x := x5) h0_3 (by omega)
          exact ih3 (x5 + 1) _ _ _ ⟨by omega, by omega, by omega, by omega, trivial⟩ (by first | (rw [← he3, l_M_isOver_3, if_neg c_1, if_pos c_3]; done) | (rw [← he3, l_M_isOver_3]; simp only [if_neg c_1, if_pos c_3])) hP hS (lv_sub hl [1, 2, 3, 4, 5, 0] rfl)
        · skip
          refine lv_aload_n hx hb dX6_isOver_19 rfl (lv_at hl 0 rfl) ?_
          refine lv_iload_n hx hb dX6_isOver_20 rfl (lv_at hl 1 rfl) ?_
          refine lv_iload hx hb dX6_isOver_21 (lv_at hl 5 rfl) ?_
          refine pu_callM (va_runV (As := [.int a1, .int x5]) (rest := []) ⟨hx, hb, hml, hown, hB⟩ (m_M_has l D h cI cZ S hI a1 x5 (by omega)) (cwV 2 hB (gV k3_117 k3_119 ks_315 k1_7 k3_120) rfl rfl rfl (by decide +kernel) ⟨Nat.le_of_ble_eq_true rfl, Nat.le_of_ble_eq_true rfl⟩) ⟨pu_blindM, va_recv hK hP (ci := 6) (q0 := 0) rfl rfl, pu_preM hP hK hN⟩ rfl rfl hl.1 rfl (lv_room (Nat.le_of_ble_eq_true rfl)) dX6_isOver_23 ⟨Nat.le_of_ble_eq_true rfl, Nat.le_of_ble_eq_true rfl⟩) hP hS (fun H locs hP hS => ?_)
          refine lv_if_eq (tgt := 31) hx hb dX6_isOver_26 (by decide) (fun c_5 => ?_) (fun c_5 => ?_)
          · skip
            refine lv_iinc (v := x5 + 1) (lv' := [(5, .int (x5 + 1)), (0, .ref (h 0)), (1, .int a1), (2, .int a2), (3, .int a3), (4, .int a4)]) hx hb dX6_isOver_31 hl (k := 5) rfl rfl (by decide) rfl (fun ls hl => ?_)
            refine lv_goto (tgt := 3) hx hb dX6_isOver_34 (by decide) ?_
            have hinc := i32_inc (x := x5) h0_3 (by omega)
            exact ih3 (x5 + 1) _ _ _ ⟨by omega, by omega, by omega, by omega, trivial⟩ (by first | (rw [← he3, l_M_isOver_3, if_neg c_1, if_neg c_3, if_pos c_5]; done) | (rw [← he3, l_M_isOver_3]; simp only [if_neg c_1, if_neg c_3, if_pos c_5])) hP hS (lv_sub hl [1, 2, 3, 4, 5, 0] rfl)
          · skip
            have t_5 := fb_M_has hI c_5
            refine lv_iconst (v := 1) hx hb dX6_isOver_29 (by decide) ?_
            exact W.zret (v := 1) hx hb hr (by decide) (fun t ht hW => ⟨⟨1, (), rfl, (by rw [← he3, l_M_isOver_3, if_neg c_1, if_neg c_3, if_neg c_5]), trivial⟩, hS.F ht⟩) hS.2.2 dX6_isOver_30
  exact loop3 6000 a3 _ _ _ ⟨by omega, by omega, by omega, by omega, trivial⟩ (by rw [f_M_isOver]) hP hS (lv_sub hl [1, 2, 3, 4, 5, 0] rfl)
set_option maxHeartbeats 4000000 in
set_option maxRecDepth 100000 in
theorem m_M_isRange (l : Launch) (D : va_G) (h : Nat → Nat) (cI cZ : ClassId) (S : BS) (hI : IVM S) (a1 : Int32) : PMM l yX6_isRange wsX6_isRange { frames := 1, cells := 0, slots := 0, locals := 22 } D cI cZ h S [.ref (h 0), .int a1] (f_M_isRange S a1) := by
  refine Met.ofW (cc := cX6_isRange) (maxL := 2) (ret := (some .boolean)) (by decide) rfl ?_
  intro p e s m args below meth c s₁ B hml hv
  obtain ⟨rfl, hP, hK, hN⟩ := hv
  have hx := B.exec
  have hb := B.bytes
  have hr := B.returns
  have hts := atoms_spec (ws := wsX6_isRange) B.pre
  have hB : ∀ w ∈ BW, w.before _ s = true := fun w h => hts w (List.mem_cons_of_mem _ h)
  have hown : s.vm.findClass RX6 = some m.cls := findClass_of_methodNamed B.named
  have hlocks := B.notSynchronized
  have hS : va_S (fun _ => False) s.heap s.heap [] := va_S.rf
  have hl := lv_entry ([.ref (h 0), .int a1]) (n := 2) (Nat.le_of_ble_eq_true rfl)
  rw [lg_entry_eq]
  generalize (lg_sl ([.ref (h 0), .int a1]) ++ List.replicate (2 - (lg_sl ([.ref (h 0), .int a1])).length) Slot.unset).toArray = ls at hl ⊢
  have hl : lv_has ls 2 [(0, .ref (h 0)), (1, .int a1)] := hl
  refine lv_iload_n hx hb dX6_isRange_0 rfl (lv_at hl 1 rfl) ?_
  refine lv_iconst (v := 0) hx hb dX6_isRange_1 (by decide) ?_
  refine lv_aload_n hx hb dX6_isRange_2 rfl (lv_at hl 0 rfl) ?_
  refine va_get (D := D) (ci := 6) (v := .int (S 22 0)) (C := RX6) (T := TX6) (N := 25) hx hb hB inX6 hown hK hP 0 rfl rfl 8 (by decide) (hB _ k3_5) (fun _ h9 => h9) rfl dX6_isRange_3 ?_
  have b_1 : (0) ≤ (S 22 0).toInt ∧ (S 22 0).toInt ≤ 80 := ivM_22 (S := S) hI
  refine lv_iconst (v := 1) hx hb dX6_isRange_6 (by decide) ?_
  refine lv_isub hx hb dX6_isRange_7 ?_
  refine pu_callM (va_runS (As := [.int a1, .int 0, .int ((S 22 0) - 1)]) (rest := []) ⟨hx, hb, hml, hown, hB⟩ (m_M_in l D h cI cZ S hI a1 0 ((S 22 0) - 1) ) (cwS 3 hB (gS k3_78 k3_79 k1_7 k3_80) rfl rfl rfl (by decide +kernel) ⟨Nat.le_of_ble_eq_true rfl, Nat.le_of_ble_eq_true rfl⟩) ⟨pu_blindM, pu_preM hP hK hN⟩ rfl rfl hl.1 rfl (lv_room (Nat.le_of_ble_eq_true rfl)) dX6_isRange_8 ⟨Nat.le_of_ble_eq_true rfl, Nat.le_of_ble_eq_true rfl⟩) hP hS (fun H locs hP hS => ?_)
  exact W.zret (v := f_M_in a1 0 ((S 22 0) - 1)) hx hb hr (nb01 (z01_M_in)) (fun t ht hW => ⟨⟨f_M_in a1 0 ((S 22 0) - 1), (), rfl, (by rw [f_M_isRange]), trivial⟩, hS.F ht⟩) hS.2.2 dX6_isRange_11
set_option maxHeartbeats 4000000 in
set_option maxRecDepth 100000 in
theorem m_M_addRange (l : Launch) (D : va_G) (h : Nat → Nat) (cI cZ : ClassId) (S : BS) (hI : IVM S) (a1 a2 a3 a4 : Int32) (hroom : (S 22 0).toInt ≤ 79) (ha0 : 0 ≤ a1.toInt ∧ a1.toInt ≤ 31) (ha2 : 0 ≤ a3.toInt ∧ a3.toInt ≤ 999) (ha3 : 0 ≤ a4.toInt ∧ a4.toInt ≤ 999) : VMM l yX6_addRange wsX6_addRange { frames := 0, cells := 0, slots := 0, locals := 0 } D cI cZ h S [.ref (h 0), .int a1, .int a2, .int a3, .int a4] (F_M_addRange S a1 a2 a3 a4) := by
  refine Met.ofW (cc := cX6_addRange) (maxL := 5) (ret := none) (by decide) rfl ?_
  intro p e s m args below meth c s₁ B hml hv
  obtain ⟨rfl, hP, hK, hN, hD0⟩ := hv
  have hx := B.exec
  have hb := B.bytes
  have hr := B.returns
  have hts := atoms_spec (ws := wsX6_addRange) B.pre
  have hB : ∀ w ∈ BW, w.before _ s = true := fun w h => hts w (List.mem_cons_of_mem _ h)
  have hown : s.vm.findClass RX6 = some m.cls := findClass_of_methodNamed B.named
  have hlocks := B.notSynchronized
  have hD := bDM hD0
  have hS : va_S (bAM h) s.heap s.heap [] := va_S.rf
  have hl := lv_entry ([.ref (h 0), .int a1, .int a2, .int a3, .int a4]) (n := 5) (Nat.le_of_ble_eq_true rfl)
  rw [lg_entry_eq]
  generalize (lg_sl ([.ref (h 0), .int a1, .int a2, .int a3, .int a4]) ++ List.replicate (5 - (lg_sl ([.ref (h 0), .int a1, .int a2, .int a3, .int a4])).length) Slot.unset).toArray = ls at hl ⊢
  have hl : lv_has ls 5 [(0, .ref (h 0)), (1, .int a1), (2, .int a2), (3, .int a3), (4, .int a4)] := hl
  refine lv_aload_n hx hb dX6_addRange_0 rfl (lv_at hl 0 rfl) ?_
  refine va_get (D := D) (ci := 6) (v := .ref (h 6)) (C := RX6) (T := TX6) (N := 25) hx hb hB inX6 hown hK hP 0 rfl rfl 9 (by decide) (hB _ k3_6) (fun _ h9 => h9) rfl dX6_addRange_1 ?_
  refine lv_aload_n hx hb dX6_addRange_4 rfl (lv_at hl 0 rfl) ?_
  refine va_get (D := D) (ci := 6) (v := .int (S 22 0)) (C := RX6) (T := TX6) (N := 25) hx hb hB inX6 hown hK hP 0 rfl rfl 8 (by decide) (hB _ k3_5) (fun _ h9 => h9) rfl dX6_addRange_5 ?_
  have b_1 : (0) ≤ (S 22 0).toInt ∧ (S 22 0).toInt ≤ 80 := ivM_22 (S := S) hI
  refine lv_iload_n hx hb dX6_addRange_8 rfl (lv_at hl 1 rfl) ?_
  refine wstM_5 (S := S) hx hb hK hP hD hS (vp_in_iff.mpr (by omega)) dX6_addRange_9 (fun H locs hP hD hS => ?_)
  have hI_2 : IVM (upS 5 ((S 22 0).toNatClampNeg) a1 S) := iv_upM (S := S) hI 5 ((S 22 0).toNatClampNeg) a1 (iv_oneM 5 (0) 31 rfl (by omega))
  refine lv_aload_n hx hb dX6_addRange_10 rfl (lv_at hl 0 rfl) ?_
  refine va_get (D := D) (ci := 6) (v := .ref (h 7)) (C := RX6) (T := TX6) (N := 25) hx hb hB inX6 hown hK hP 0 rfl rfl 10 (by decide) (hB _ k3_7) (fun _ h9 => h9) rfl dX6_addRange_11 ?_
  refine lv_aload_n hx hb dX6_addRange_14 rfl (lv_at hl 0 rfl) ?_
  refine va_get (D := D) (ci := 6) (v := .int (S 22 0)) (C := RX6) (T := TX6) (N := 25) hx hb hB inX6 hown hK hP 0 rfl rfl 8 (by decide) (hB _ k3_5) (fun _ h9 => h9) rfl dX6_addRange_15 ?_
  have b_3 : (0) ≤ (S 22 0).toInt ∧ (S 22 0).toInt ≤ 80 := ivM_22 (S := upS 5 ((S 22 0).toNatClampNeg) a1 S) hI_2
  refine lv_iload_n hx hb dX6_addRange_18 rfl (lv_at hl 2 rfl) ?_
  refine wstM_6 (S := upS 5 ((S 22 0).toNatClampNeg) a1 S) hx hb hK hP hD hS (vp_in_iff.mpr (by omega)) dX6_addRange_19 (fun H locs hP hD hS => ?_)
  have hI_4 : IVM (upS 6 ((S 22 0).toNatClampNeg) a2 (upS 5 ((S 22 0).toNatClampNeg) a1 S)) := iv_upM (S := upS 5 ((S 22 0).toNatClampNeg) a1 S) hI_2 6 ((S 22 0).toNatClampNeg) a2 (iv_noneM 6 rfl)
  refine lv_aload_n hx hb dX6_addRange_20 rfl (lv_at hl 0 rfl) ?_
  refine va_get (D := D) (ci := 6) (v := .ref (h 8)) (C := RX6) (T := TX6) (N := 25) hx hb hB inX6 hown hK hP 0 rfl rfl 11 (by decide) (hB _ k3_8) (fun _ h9 => h9) rfl dX6_addRange_21 ?_
  refine lv_aload_n hx hb dX6_addRange_24 rfl (lv_at hl 0 rfl) ?_
  refine va_get (D := D) (ci := 6) (v := .int (S 22 0)) (C := RX6) (T := TX6) (N := 25) hx hb hB inX6 hown hK hP 0 rfl rfl 8 (by decide) (hB _ k3_5) (fun _ h9 => h9) rfl dX6_addRange_25 ?_
  have b_5 : (0) ≤ (S 22 0).toInt ∧ (S 22 0).toInt ≤ 80 := ivM_22 (S := upS 6 ((S 22 0).toNatClampNeg) a2 (upS 5 ((S 22 0).toNatClampNeg) a1 S)) hI_4
  refine lv_iload_n hx hb dX6_addRange_28 rfl (lv_at hl 3 rfl) ?_
  refine wstM_7 (S := upS 6 ((S 22 0).toNatClampNeg) a2 (upS 5 ((S 22 0).toNatClampNeg) a1 S)) hx hb hK hP hD hS (vp_in_iff.mpr (by omega)) dX6_addRange_29 (fun H locs hP hD hS => ?_)
  have hI_6 : IVM (upS 7 ((S 22 0).toNatClampNeg) a3 (upS 6 ((S 22 0).toNatClampNeg) a2 (upS 5 ((S 22 0).toNatClampNeg) a1 S))) := iv_upM (S := upS 6 ((S 22 0).toNatClampNeg) a2 (upS 5 ((S 22 0).toNatClampNeg) a1 S)) hI_4 7 ((S 22 0).toNatClampNeg) a3 (iv_oneM 7 (0) 999 rfl (by omega))
  refine lv_aload_n hx hb dX6_addRange_30 rfl (lv_at hl 0 rfl) ?_
  refine va_get (D := D) (ci := 6) (v := .ref (h 9)) (C := RX6) (T := TX6) (N := 25) hx hb hB inX6 hown hK hP 0 rfl rfl 12 (by decide) (hB _ k3_9) (fun _ h9 => h9) rfl dX6_addRange_31 ?_
  refine lv_aload_n hx hb dX6_addRange_34 rfl (lv_at hl 0 rfl) ?_
  refine va_get (D := D) (ci := 6) (v := .int (S 22 0)) (C := RX6) (T := TX6) (N := 25) hx hb hB inX6 hown hK hP 0 rfl rfl 8 (by decide) (hB _ k3_5) (fun _ h9 => h9) rfl dX6_addRange_35 ?_
  have b_7 : (0) ≤ (S 22 0).toInt ∧ (S 22 0).toInt ≤ 80 := ivM_22 (S := upS 7 ((S 22 0).toNatClampNeg) a3 (upS 6 ((S 22 0).toNatClampNeg) a2 (upS 5 ((S 22 0).toNatClampNeg) a1 S))) hI_6
  refine lv_iload hx hb dX6_addRange_38 (lv_at hl 4 rfl) ?_
  refine wstM_8 (S := upS 7 ((S 22 0).toNatClampNeg) a3 (upS 6 ((S 22 0).toNatClampNeg) a2 (upS 5 ((S 22 0).toNatClampNeg) a1 S))) hx hb hK hP hD hS (vp_in_iff.mpr (by omega)) dX6_addRange_40 (fun H locs hP hD hS => ?_)
  have hI_8 : IVM (upS 8 ((S 22 0).toNatClampNeg) a4 (upS 7 ((S 22 0).toNatClampNeg) a3 (upS 6 ((S 22 0).toNatClampNeg) a2 (upS 5 ((S 22 0).toNatClampNeg) a1 S)))) := iv_upM (S := upS 7 ((S 22 0).toNatClampNeg) a3 (upS 6 ((S 22 0).toNatClampNeg) a2 (upS 5 ((S 22 0).toNatClampNeg) a1 S))) hI_6 8 ((S 22 0).toNatClampNeg) a4 (iv_oneM 8 (0) 999 rfl (by omega))
  refine lv_aload_n hx hb dX6_addRange_41 rfl (lv_at hl 0 rfl) ?_
  refine va_get (D := D) (ci := 6) (v := .ref (h 10)) (C := RX6) (T := TX6) (N := 25) hx hb hB inX6 hown hK hP 0 rfl rfl 13 (by decide) (hB _ k3_10) (fun _ h9 => h9) rfl dX6_addRange_42 ?_
  refine lv_aload_n hx hb dX6_addRange_45 rfl (lv_at hl 0 rfl) ?_
  refine va_get (D := D) (ci := 6) (v := .int (S 22 0)) (C := RX6) (T := TX6) (N := 25) hx hb hB inX6 hown hK hP 0 rfl rfl 8 (by decide) (hB _ k3_5) (fun _ h9 => h9) rfl dX6_addRange_46 ?_
  have b_9 : (0) ≤ (S 22 0).toInt ∧ (S 22 0).toInt ≤ 80 := ivM_22 (S := upS 8 ((S 22 0).toNatClampNeg) a4 (upS 7 ((S 22 0).toNatClampNeg) a3 (upS 6 ((S 22 0).toNatClampNeg) a2 (upS 5 ((S 22 0).toNatClampNeg) a1 S)))) hI_8
  refine lv_iconst (v := 1) hx hb dX6_addRange_49 (by decide) ?_
  refine wstM_9 (S := upS 8 ((S 22 0).toNatClampNeg) a4 (upS 7 ((S 22 0).toNatClampNeg) a3 (upS 6 ((S 22 0).toNatClampNeg) a2 (upS 5 ((S 22 0).toNatClampNeg) a1 S)))) hx hb hK hP hD hS (vp_in_iff.mpr (by omega)) (by first | rfl | decide) dX6_addRange_50 (fun H locs hP hD hS => ?_)
  have hI_10 : IVM (upS 9 ((S 22 0).toNatClampNeg) 1 (upS 8 ((S 22 0).toNatClampNeg) a4 (upS 7 ((S 22 0).toNatClampNeg) a3 (upS 6 ((S 22 0).toNatClampNeg) a2 (upS 5 ((S 22 0).toNatClampNeg) a1 S))))) := iv_upM (S := upS 8 ((S 22 0).toNatClampNeg) a4 (upS 7 ((S 22 0).toNatClampNeg) a3 (upS 6 ((S 22 0).toNatClampNeg) a2 (upS 5 ((S 22 0).toNatClampNeg) a1 S)))) hI_8 9 ((S 22 0).toNatClampNeg) 1 (iv_oneM 9 (0) 1 rfl (by decide))
  refine lv_aload_n hx hb dX6_addRange_51 rfl (lv_at hl 0 rfl) ?_
  refine lv_dup hx hb dX6_addRange_52 rfl ?_
  refine va_get (D := D) (ci := 6) (v := .int (S 22 0)) (C := RX6) (T := TX6) (N := 25) hx hb hB inX6 hown hK hP 0 rfl rfl 8 (by decide) (hB _ k3_5) (fun _ h9 => h9) rfl dX6_addRange_53 ?_
  have b_11 : (0) ≤ (S 22 0).toInt ∧ (S 22 0).toInt ≤ 80 := ivM_22 (S := upS 9 ((S 22 0).toNatClampNeg) 1 (upS 8 ((S 22 0).toNatClampNeg) a4 (upS 7 ((S 22 0).toNatClampNeg) a3 (upS 6 ((S 22 0).toNatClampNeg) a2 (upS 5 ((S 22 0).toNatClampNeg) a1 S))))) hI_10
  refine lv_iconst (v := 1) hx hb dX6_addRange_56 (by decide) ?_
  refine lv_iadd hx hb dX6_addRange_57 ?_
  refine wpfM_22 (S := upS 9 ((S 22 0).toNatClampNeg) 1 (upS 8 ((S 22 0).toNatClampNeg) a4 (upS 7 ((S 22 0).toNatClampNeg) a3 (upS 6 ((S 22 0).toNatClampNeg) a2 (upS 5 ((S 22 0).toNatClampNeg) a1 S))))) hx hb hB hown hK hP hD hS (hB _ k3_5) dX6_addRange_58 (fun H locs hP hD hS => ?_)
  have k_13 := i32_inc (x := (S 22 0)) (by omega) (by omega)
  have hI_12 : IVM (upS 22 0 ((S 22 0) + 1) (upS 9 ((S 22 0).toNatClampNeg) 1 (upS 8 ((S 22 0).toNatClampNeg) a4 (upS 7 ((S 22 0).toNatClampNeg) a3 (upS 6 ((S 22 0).toNatClampNeg) a2 (upS 5 ((S 22 0).toNatClampNeg) a1 S)))))) := iv_upM (S := upS 9 ((S 22 0).toNatClampNeg) 1 (upS 8 ((S 22 0).toNatClampNeg) a4 (upS 7 ((S 22 0).toNatClampNeg) a3 (upS 6 ((S 22 0).toNatClampNeg) a2 (upS 5 ((S 22 0).toNatClampNeg) a1 S))))) hI_10 22 0 ((S 22 0) + 1) (iv_oneM 22 (0) 80 rfl (by omega))
  exact W.vret hx hb hr (fun t ht hW => ⟨⟨upS 22 0 ((S 22 0) + 1) (upS 9 ((S 22 0).toNatClampNeg) 1 (upS 8 ((S 22 0).toNatClampNeg) a4 (upS 7 ((S 22 0).toNatClampNeg) a3 (upS 6 ((S 22 0).toNatClampNeg) a2 (upS 5 ((S 22 0).toNatClampNeg) a1 S))))), rfl, ⟨(by rw [F_M_addRange]), hI_12⟩, by show va_P D vwCl _ t.heap; rw [ht]; exact hP⟩, hS.F ht⟩) hS.2.2 dX6_addRange_61
set_option maxHeartbeats 4000000 in
set_option maxRecDepth 100000 in
theorem m_M_range (l : Launch) (D : va_G) (h : Nat → Nat) (cI cZ : ClassId) (S : BS) (hI : IVM S) (a1 a2 a3 a4 a5 : Int32) : WMM l yX6_range wsX6_range { frames := 3, cells := 0, slots := 0, locals := 68 } D cI cZ h S [.ref (h 0), .int a1, .int a2, .int a3, .int a4, .int a5] (F_M_range S a1 a2 a3 a4 a5) := by
  refine Met.ofW (cc := cX6_range) (maxL := 8) (ret := (some .int)) (by decide) rfl ?_
  intro p e s m args below meth c s₁ B hml hv
  obtain ⟨rfl, hP, hK, hN, hD0⟩ := hv
  have hx := B.exec
  have hb := B.bytes
  have hr := B.returns
  have hts := atoms_spec (ws := wsX6_range) B.pre
  have hB : ∀ w ∈ BW, w.before _ s = true := fun w h => hts w (List.mem_cons_of_mem _ h)
  have hown : s.vm.findClass RX6 = some m.cls := findClass_of_methodNamed B.named
  have hlocks := B.notSynchronized
  have hD := bDM hD0
  have hS : va_S (bAM h) s.heap s.heap [] := va_S.rf
  have hl := lv_entry ([.ref (h 0), .int a1, .int a2, .int a3, .int a4, .int a5]) (n := 8) (Nat.le_of_ble_eq_true rfl)
  rw [lg_entry_eq]
  generalize (lg_sl ([.ref (h 0), .int a1, .int a2, .int a3, .int a4, .int a5]) ++ List.replicate (8 - (lg_sl ([.ref (h 0), .int a1, .int a2, .int a3, .int a4, .int a5])).length) Slot.unset).toArray = ls at hl ⊢
  have hl : lv_has ls 8 [(0, .ref (h 0)), (1, .int a1), (2, .int a2), (3, .int a3), (4, .int a4), (5, .int a5)] := hl
  refine lv_aload_n hx hb dX6_range_0 rfl (lv_at hl 0 rfl) ?_
  refine lv_iload_n hx hb dX6_range_1 rfl (lv_at hl 1 rfl) ?_
  refine pu_callM (va_runV (As := [.int a1]) (rest := []) ⟨hx, hb, hml, hown, hB⟩ (m_M_isStreet l D h cI cZ S hI a1 ) (cwV 1 hB (gV k3_101 k3_103 ks_322 k1_7 k3_104) rfl rfl rfl (by decide +kernel) ⟨Nat.le_of_ble_eq_true rfl, Nat.le_of_ble_eq_true rfl⟩) ⟨pu_blindM, va_recv hK hP (ci := 6) (q0 := 0) rfl rfl, pu_preM hP hK hN⟩ rfl rfl hl.1 rfl (lv_room (Nat.le_of_ble_eq_true rfl)) dX6_range_2 ⟨Nat.le_of_ble_eq_true rfl, Nat.le_of_ble_eq_true rfl⟩) hP hS (fun H locs hP hS => ?_)
  refine lv_if_ne (tgt := 11) hx hb dX6_range_5 (by decide) (fun c_2 => ?_) (fun c_2 => ?_)
  · skip
    have t_2 := fb_M_isStreet hI c_2
    refine lv_iload_n hx hb dX6_range_11 rfl (lv_at hl 2 rfl) ?_
    refine lv_iconst (v := 0) hx hb dX6_range_12 (by decide) ?_
    refine lv_iconst (v := 2) hx hb dX6_range_13 (by decide) ?_
    refine pu_callM (va_runS (As := [.int a2, .int 0, .int 2]) (rest := []) ⟨hx, hb, hml, hown, hB⟩ (m_M_in l D h cI cZ S hI a2 0 2 ) (cwS 3 hB (gS k3_78 k3_79 k1_7 k3_80) rfl rfl rfl (by decide +kernel) ⟨Nat.le_of_ble_eq_true rfl, Nat.le_of_ble_eq_true rfl⟩) ⟨pu_blindM, pu_preM hP hK hN⟩ rfl rfl hl.1 rfl (lv_room (Nat.le_of_ble_eq_true rfl)) dX6_range_14 ⟨Nat.le_of_ble_eq_true rfl, Nat.le_of_ble_eq_true rfl⟩) hP hS (fun H locs hP hS => ?_)
    refine lv_if_eq (tgt := 56) hx hb dX6_range_17 (by decide) (fun c_4 => ?_) (fun c_4 => ?_)
    · skip
      refine lv_iconst (v := 0) hx hb dX6_range_56 (by decide) ?_
      refine lv_istore (lv' := [(6, .int 0), (0, .ref (h 0)), (1, .int a1), (2, .int a2), (3, .int a3), (4, .int a4), (5, .int a5)]) hx hb dX6_range_57 hl (by decide) rfl (fun ls hl => ?_)
      refine lv_iload hx hb dX6_range_59 (lv_at hl 0 rfl) ?_
      refine lv_if_eq (tgt := 84) hx hb dX6_range_61 (by decide) (fun c_5 => ?_) (fun c_5 => ?_)
      rotate_left
      · exact absurd c_5 (by decide)
      refine lv_bipush (v := (-12)) hx hb dX6_range_84 (by decide) ?_
      exact W.iret (v := (-12)) hx hb hr (fun t ht hW => ⟨⟨(-12), S, rfl, ⟨(by rw [F_M_range, if_neg c_2, if_pos c_4]), hI⟩, by show va_P D vwCl _ t.heap; rw [ht]; exact hP⟩, hS.F ht⟩) hS.2.2 dX6_range_86
    · skip
      have z_0 : ((0) : Int32).toInt = (0) := by decide
      have z_2 : ((2) : Int32).toInt = (2) := by decide
      have t_4 := fb_M_in c_4
      refine lv_iload_n hx hb dX6_range_20 rfl (lv_at hl 3 rfl) ?_
      refine lv_iconst (v := 1) hx hb dX6_range_21 (by decide) ?_
      refine lv_sipush (v := 999) hx hb dX6_range_22 (by decide) ?_
      refine pu_callM (va_runS (As := [.int a3, .int 1, .int 999]) (rest := []) ⟨hx, hb, hml, hown, hB⟩ (m_M_in l D h cI cZ S hI a3 1 999 ) (cwS 3 hB (gS k3_78 k3_79 k1_7 k3_80) rfl rfl rfl (by decide +kernel) ⟨Nat.le_of_ble_eq_true rfl, Nat.le_of_ble_eq_true rfl⟩) ⟨pu_blindM, pu_preM hP hK hN⟩ rfl rfl hl.1 rfl (lv_room (Nat.le_of_ble_eq_true rfl)) dX6_range_25 ⟨Nat.le_of_ble_eq_true rfl, Nat.le_of_ble_eq_true rfl⟩) hP hS (fun H locs hP hS => ?_)
      refine lv_if_eq (tgt := 56) hx hb dX6_range_28 (by decide) (fun c_7 => ?_) (fun c_7 => ?_)
      · skip
        refine lv_iconst (v := 0) hx hb dX6_range_56 (by decide) ?_
        refine lv_istore (lv' := [(6, .int 0), (0, .ref (h 0)), (1, .int a1), (2, .int a2), (3, .int a3), (4, .int a4), (5, .int a5)]) hx hb dX6_range_57 hl (by decide) rfl (fun ls hl => ?_)
        refine lv_iload hx hb dX6_range_59 (lv_at hl 0 rfl) ?_
        refine lv_if_eq (tgt := 84) hx hb dX6_range_61 (by decide) (fun c_8 => ?_) (fun c_8 => ?_)
        rotate_left
        · exact absurd c_8 (by decide)
        refine lv_bipush (v := (-12)) hx hb dX6_range_84 (by decide) ?_
        exact W.iret (v := (-12)) hx hb hr (fun t ht hW => ⟨⟨(-12), S, rfl, ⟨(by rw [F_M_range, if_neg c_2, if_neg c_4, if_pos c_7]), hI⟩, by show va_P D vwCl _ t.heap; rw [ht]; exact hP⟩, hS.F ht⟩) hS.2.2 dX6_range_86
      · skip
        have z_1 : ((1) : Int32).toInt = (1) := by decide
        have z_999 : ((999) : Int32).toInt = (999) := by decide
        have t_7 := fb_M_in c_7
        refine lv_iload hx hb dX6_range_31 (lv_at hl 4 rfl) ?_
        refine lv_iconst (v := 1) hx hb dX6_range_33 (by decide) ?_
        refine lv_sipush (v := 999) hx hb dX6_range_34 (by decide) ?_
        refine pu_callM (va_runS (As := [.int a4, .int 1, .int 999]) (rest := []) ⟨hx, hb, hml, hown, hB⟩ (m_M_in l D h cI cZ S hI a4 1 999 ) (cwS 3 hB (gS k3_78 k3_79 k1_7 k3_80) rfl rfl rfl (by decide +kernel) ⟨Nat.le_of_ble_eq_true rfl, Nat.le_of_ble_eq_true rfl⟩) ⟨pu_blindM, pu_preM hP hK hN⟩ rfl rfl hl.1 rfl (lv_room (Nat.le_of_ble_eq_true rfl)) dX6_range_37 ⟨Nat.le_of_ble_eq_true rfl, Nat.le_of_ble_eq_true rfl⟩) hP hS (fun H locs hP hS => ?_)
        refine lv_if_eq (tgt := 56) hx hb dX6_range_40 (by decide) (fun c_10 => ?_) (fun c_10 => ?_)
        · skip
          refine lv_iconst (v := 0) hx hb dX6_range_56 (by decide) ?_
          refine lv_istore (lv' := [(6, .int 0), (0, .ref (h 0)), (1, .int a1), (2, .int a2), (3, .int a3), (4, .int a4), (5, .int a5)]) hx hb dX6_range_57 hl (by decide) rfl (fun ls hl => ?_)
          refine lv_iload hx hb dX6_range_59 (lv_at hl 0 rfl) ?_
          refine lv_if_eq (tgt := 84) hx hb dX6_range_61 (by decide) (fun c_11 => ?_) (fun c_11 => ?_)
          rotate_left
          · exact absurd c_11 (by decide)
          refine lv_bipush (v := (-12)) hx hb dX6_range_84 (by decide) ?_
          exact W.iret (v := (-12)) hx hb hr (fun t ht hW => ⟨⟨(-12), S, rfl, ⟨(by rw [F_M_range, if_neg c_2, if_neg c_4, if_neg c_7, if_pos c_10]), hI⟩, by show va_P D vwCl _ t.heap; rw [ht]; exact hP⟩, hS.F ht⟩) hS.2.2 dX6_range_86
        · skip
          have t_10 := fb_M_in c_10
          refine lv_aload_n hx hb dX6_range_43 rfl (lv_at hl 0 rfl) ?_
          refine lv_iload hx hb dX6_range_44 (lv_at hl 5 rfl) ?_
          refine pu_callM (va_runV (As := [.int a5]) (rest := []) ⟨hx, hb, hml, hown, hB⟩ (m_M_isDay l D h cI cZ S hI a5 ) (cwV 1 hB (gV k3_105 k3_107 ks_326 k1_7 k3_108) rfl rfl rfl (by decide +kernel) ⟨Nat.le_of_ble_eq_true rfl, Nat.le_of_ble_eq_true rfl⟩) ⟨pu_blindM, va_recv hK hP (ci := 6) (q0 := 0) rfl rfl, pu_preM hP hK hN⟩ rfl rfl hl.1 rfl (lv_room (Nat.le_of_ble_eq_true rfl)) dX6_range_46 ⟨Nat.le_of_ble_eq_true rfl, Nat.le_of_ble_eq_true rfl⟩) hP hS (fun H locs hP hS => ?_)
          refine lv_if_eq (tgt := 56) hx hb dX6_range_49 (by decide) (fun c_13 => ?_) (fun c_13 => ?_)
          · skip
            refine lv_iconst (v := 0) hx hb dX6_range_56 (by decide) ?_
            refine lv_istore (lv' := [(6, .int 0), (0, .ref (h 0)), (1, .int a1), (2, .int a2), (3, .int a3), (4, .int a4), (5, .int a5)]) hx hb dX6_range_57 hl (by decide) rfl (fun ls hl => ?_)
            refine lv_iload hx hb dX6_range_59 (lv_at hl 0 rfl) ?_
            refine lv_if_eq (tgt := 84) hx hb dX6_range_61 (by decide) (fun c_14 => ?_) (fun c_14 => ?_)
            rotate_left
            · exact absurd c_14 (by decide)
            refine lv_bipush (v := (-12)) hx hb dX6_range_84 (by decide) ?_
            exact W.iret (v := (-12)) hx hb hr (fun t ht hW => ⟨⟨(-12), S, rfl, ⟨(by rw [F_M_range, if_neg c_2, if_neg c_4, if_neg c_7, if_neg c_10, if_pos c_13]), hI⟩, by show va_P D vwCl _ t.heap; rw [ht]; exact hP⟩, hS.F ht⟩) hS.2.2 dX6_range_86
          · skip
            refine lv_iconst (v := 1) hx hb dX6_range_52 (by decide) ?_
            refine lv_goto (tgt := 57) hx hb dX6_range_53 (by decide) ?_
            refine lv_istore (lv' := [(6, .int 1), (0, .ref (h 0)), (1, .int a1), (2, .int a2), (3, .int a3), (4, .int a4), (5, .int a5)]) hx hb dX6_range_57 hl (by decide) rfl (fun ls hl => ?_)
            refine lv_iload hx hb dX6_range_59 (lv_at hl 0 rfl) ?_
            refine lv_if_eq (tgt := 84) hx hb dX6_range_61 (by decide) (fun c_15 => ?_) (fun c_15 => ?_)
            · exact absurd c_15 (by decide)
            refine lv_iload_n hx hb dX6_range_64 rfl (lv_at hl 4 rfl) ?_
            refine lv_iload hx hb dX6_range_65 (lv_at hl 5 rfl) ?_
            refine lv_icmp_gt (tgt := 84) hx hb dX6_range_67 (by decide) (fun c_16 => ?_) (fun c_16 => ?_)
            · skip
              have t_16 := Int32.lt_iff_toInt_lt.mp c_16
              refine lv_bipush (v := (-12)) hx hb dX6_range_84 (by decide) ?_
              exact W.iret (v := (-12)) hx hb hr (fun t ht hW => ⟨⟨(-12), S, rfl, ⟨(by rw [F_M_range, if_neg c_2, if_neg c_4, if_neg c_7, if_neg c_10, if_neg c_13, if_pos c_16]), hI⟩, by show va_P D vwCl _ t.heap; rw [ht]; exact hP⟩, hS.F ht⟩) hS.2.2 dX6_range_86
            · skip
              have t_16 := mt Int32.lt_iff_toInt_lt.mpr c_16
              refine lv_iload_n hx hb dX6_range_70 rfl (lv_at hl 4 rfl) ?_
              refine lv_iload hx hb dX6_range_71 (lv_at hl 5 rfl) ?_
              refine lv_icmp_ne (tgt := 87) hx hb dX6_range_73 (by decide) (fun c_17 => ?_) (fun c_17 => ?_)
              · skip
                refine lv_aload_n hx hb dX6_range_87 rfl (lv_at hl 1 rfl) ?_
                refine va_get (D := D) (ci := 6) (v := .ref (h 4)) (C := RX6) (T := TX6) (N := 25) hx hb hB inX6 hown hK hP 0 rfl rfl 6 (by decide) (hB _ k3_3) (fun _ h9 => h9) rfl dX6_range_88 ?_
                refine lv_iload_n hx hb dX6_range_91 rfl (lv_at hl 2 rfl) ?_
                refine va_iald (f := S 3) hx hb hK hP 4 0 rfl rfl (vp_in_iff.mpr (by omega)) dX6_range_92 ?_
                have b_18 : (-1) ≤ (S 3 a1.toNatClampNeg).toInt ∧ (S 3 a1.toNatClampNeg).toInt ≤ 31 := ivM_3 (S := S) hI a1.toNatClampNeg
                refine lv_if_lt (tgt := 99) hx hb dX6_range_93 (by decide) (fun c_19 => ?_) (fun c_19 => ?_)
                · skip
                  have t_19 := Int32.lt_iff_toInt_lt.mp c_19
                  refine lv_aload_n hx hb dX6_range_99 rfl (lv_at hl 1 rfl) ?_
                  refine va_get (D := D) (ci := 6) (v := .int (S 22 0)) (C := RX6) (T := TX6) (N := 25) hx hb hB inX6 hown hK hP 0 rfl rfl 8 (by decide) (hB _ k3_5) (fun _ h9 => h9) rfl dX6_range_100 ?_
                  have b_20 : (0) ≤ (S 22 0).toInt ∧ (S 22 0).toInt ≤ 80 := ivM_22 (S := S) hI
                  refine lv_bipush (v := 80) hx hb dX6_range_103 (by decide) ?_
                  refine lv_icmp_ne (tgt := 111) hx hb dX6_range_105 (by decide) (fun c_21 => ?_) (fun c_21 => ?_)
                  · skip
                    have z_80 : ((80) : Int32).toInt = (80) := by decide
                    have t_21 := mt Int32.toInt_inj.mp c_21
                    refine lv_iconst (v := 0) hx hb dX6_range_111 (by decide) ?_
                    refine lv_istore (lv' := [(7, .int 0), (6, .int 1), (0, .ref (h 0)), (1, .int a1), (2, .int a2), (3, .int a3), (4, .int a4), (5, .int a5)]) hx hb dX6_range_112 hl (by decide) rfl (fun ls hl => ?_)
                    have loop114 : ∀ (n114 : Nat) (x7 : Int32) (H : Heap) (locs : List Loc) (ls : Array Slot), (0 ≤ x7.toInt ∧ x7.toInt ≤ 6000 ∧ 1 ≤ (n114 : Int) ∧ (S 22 0 : Int32).toInt - x7.toInt < (n114 : Int) ∧ (True)) → l_M_range_114 S a1 a2 a3 a4 a5 n114 x7 = F_M_range S a1 a2 a3 a4 a5 → va_P D vwCl (wBM h cI cZ S) H → va_S (bAM h) s.heap H locs → lv_has ls 8 [(0, .ref (h 0)), (1, .int a1), (2, .int a2), (3, .int a3), (4, .int a4), (5, .int a5), (6, .int 1), (7, .int x7)] → W p l e (headSpec wsX6_range { frames := 3, cells := 0, slots := 0, locals := 68 }).room s m ([.ref (h 0), .int a1, .int a2, .int a3, .int a4, .int a5]).toArray below meth c H locs 0 0 (MQ below (WQM D cI cZ h (F_M_range S a1 a2 a3 a4 a5)) ([.ref (h 0), .int a1, .int a2, .int a3, .int a4, .int a5]).toArray s 0 0 (bAM h)) (F0 m 114 ls []) := by
                      intro n114
                      induction n114 with
                      | zero =>
                        intro x7 H locs ls hinv he114 hP hS hl
                        exact absurd hinv.2.2.1 (by omega)
                      | succ n114 ih114 =>
                        intro x7 H locs ls hinv he114 hP hS hl
                        obtain ⟨h0_114, hc_114, h1_114, hm_114, hex_114⟩ := hinv
                        have hBd_114 := ivM_22 hI
                        refine lv_iload hx hb dX6_range_114 (lv_at hl 7 rfl) ?_
                        refine lv_aload_n hx hb dX6_range_116 rfl (lv_at hl 0 rfl) ?_
                        refine va_get (D := D) (ci := 6) (v := .int (S 22 0)) (C := RX6) (T := TX6) (N := 25) hx hb hB inX6 hown hK hP 0 rfl rfl 8 (by decide) (hB _ k3_5) (fun _ h9 => h9) rfl dX6_range_117 ?_
                        have b_22 : (0) ≤ (S 22 0).toInt ∧ (S 22 0).toInt ≤ 80 := ivM_22 (S := S) hI
                        refine lv_icmp_ge (tgt := 170) hx hb dX6_range_120 (by decide) (fun c_23 => ?_) (fun c_23 => ?_)
                        · skip
                          have t_23 := Int32.le_iff_toInt_le.mp c_23
                          refine lv_aload_n hx hb dX6_range_170 rfl (lv_at hl 0 rfl) ?_
                          refine lv_iload_n hx hb dX6_range_171 rfl (lv_at hl 1 rfl) ?_
                          refine lv_iload_n hx hb dX6_range_172 rfl (lv_at hl 2 rfl) ?_
                          refine lv_iload_n hx hb dX6_range_173 rfl (lv_at hl 3 rfl) ?_
                          refine lv_iload hx hb dX6_range_174 (lv_at hl 4 rfl) ?_
                          refine wv_callM (va_runV (As := [.int a1, .int a2, .int a3, .int a4]) (rest := []) ⟨hx, hb, hml, hown, hB⟩ (m_M_addRange l D h cI cZ S hI a1 a2 a3 a4 (show (S 22 0).toInt ≤ 79 by omega) (by omega) (by omega) (by omega)) (cwV 4 hB (gV k3_121 k3_123 ks_330 k1_7 k3_124) rfl rfl rfl (by decide +kernel) ⟨Nat.le_of_ble_eq_true rfl, Nat.le_of_ble_eq_true rfl⟩) ⟨wr_blindM, va_recv hK hP (ci := 6) (q0 := 0) rfl rfl, wr_preM hP hK hN hD⟩ rfl rfl hl.1 rfl (lv_room (Nat.le_of_ble_eq_true rfl)) dX6_range_176 ⟨Nat.le_of_ble_eq_true rfl, Nat.le_of_ble_eq_true rfl⟩) hS (fun H locs hP hI_24 hS => ?_)
                          have hD := wDM (S2 := (F_M_addRange S a1 a2 a3 a4)) hD
                          refine lv_aload_n hx hb dX6_range_179 rfl (lv_at hl 0 rfl) ?_
                          refine lv_iload hx hb dX6_range_180 (lv_at hl 5 rfl) ?_
                          refine wpfM_19 (S := (F_M_addRange S a1 a2 a3 a4)) hx hb hB hown hK hP hD hS (hB _ k2_237) dX6_range_182 (fun H locs hP hD hS => ?_)
                          have hI_26 : IVM (upS 19 0 a5 (F_M_addRange S a1 a2 a3 a4)) := iv_upM (S := (F_M_addRange S a1 a2 a3 a4)) hI_24 19 0 a5 (iv_noneM 19 rfl)
                          refine lv_aload_n hx hb dX6_range_185 rfl (lv_at hl 0 rfl) ?_
                          refine va_get (D := D) (ci := 6) (v := .int ((F_M_addRange S a1 a2 a3 a4) 22 0)) (C := RX6) (T := TX6) (N := 25) hx hb hB inX6 hown hK hP 0 rfl rfl 8 (by decide) (hB _ k3_5) (fun _ h9 => h9) rfl dX6_range_186 ?_
                          have b_27 : (0) ≤ ((F_M_addRange S a1 a2 a3 a4) 22 0).toInt ∧ ((F_M_addRange S a1 a2 a3 a4) 22 0).toInt ≤ 80 := ivM_22 (S := upS 19 0 a5 (F_M_addRange S a1 a2 a3 a4)) hI_26
                          refine lv_iconst (v := 1) hx hb dX6_range_189 (by decide) ?_
                          refine lv_isub hx hb dX6_range_190 ?_
                          exact W.iret (v := ((F_M_addRange S a1 a2 a3 a4) 22 0) - 1) hx hb hr (fun t ht hW => ⟨⟨((F_M_addRange S a1 a2 a3 a4) 22 0) - 1, upS 19 0 a5 (F_M_addRange S a1 a2 a3 a4), rfl, ⟨(by rw [← he114, l_M_range_114, if_pos c_23]), hI_26⟩, by show va_P D vwCl _ t.heap; rw [ht]; exact hP⟩, hS.F ht⟩) hS.2.2 dX6_range_191
                        · skip
                          have t_23 := mt Int32.le_iff_toInt_le.mpr c_23
                          refine lv_aload_n hx hb dX6_range_123 rfl (lv_at hl 0 rfl) ?_
                          refine va_get (D := D) (ci := 6) (v := .ref (h 10)) (C := RX6) (T := TX6) (N := 25) hx hb hB inX6 hown hK hP 0 rfl rfl 13 (by decide) (hB _ k3_10) (fun _ h9 => h9) rfl dX6_range_124 ?_
                          refine lv_iload hx hb dX6_range_127 (lv_at hl 7 rfl) ?_
                          refine va_zald (f := S 9) hx hb hK hP 10 1 rfl rfl (vp_in_iff.mpr (by omega)) dX6_range_129 ?_
                          have b_28 : (0) ≤ (S 9 x7.toNatClampNeg).toInt ∧ (S 9 x7.toNatClampNeg).toInt ≤ 1 := ivM_9 (S := S) hI x7.toNatClampNeg
                          refine lv_if_eq (tgt := 164) hx hb dX6_range_130 (by decide) (fun c_29 => ?_) (fun c_29 => ?_)
                          · skip
                            have z_0 : ((0) : Int32).toInt = (0) := by decide
                            have t_29 := Int32.toInt_inj.symm.mp c_29
                            refine lv_iinc (v := x7 + 1) (lv' := [(7, .int (x7 + 1)), (0, .ref (h 0)), (1, .int a1), (2, .int a2), (3, .int a3), (4, .int a4), (5, .int a5), (6, .int 1)]) hx hb dX6_range_164 hl (k := 7) rfl rfl (by decide) rfl (fun ls hl => ?_)
                            refine lv_goto (tgt := 114) hx hb dX6_range_167 (by decide) ?_
                            have hinc := i32_inc (x := x7) h0_114 (by omega)
                            exact ih114 (x7 + 1) _ _ _ ⟨by omega, by omega, by omega, by omega, trivial⟩ (by first | (rw [← he114, l_M_range_114, if_neg c_23, if_pos c_29]; done) | (rw [← he114, l_M_range_114]; simp only [if_neg c_23, if_pos c_29])) hP hS (lv_sub hl [1, 2, 3, 4, 5, 6, 7, 0] rfl)
                          · skip
                            have z_0 : ((0) : Int32).toInt = (0) := by decide
                            have t_29 := mt Int32.toInt_inj.mp c_29
                            refine lv_aload_n hx hb dX6_range_133 rfl (lv_at hl 0 rfl) ?_
                            refine va_get (D := D) (ci := 6) (v := .ref (h 6)) (C := RX6) (T := TX6) (N := 25) hx hb hB inX6 hown hK hP 0 rfl rfl 9 (by decide) (hB _ k3_6) (fun _ h9 => h9) rfl dX6_range_134 ?_
                            refine lv_iload hx hb dX6_range_137 (lv_at hl 7 rfl) ?_
                            refine va_iald (f := S 5) hx hb hK hP 6 0 rfl rfl (vp_in_iff.mpr (by omega)) dX6_range_139 ?_
                            have b_30 : (0) ≤ (S 5 x7.toNatClampNeg).toInt ∧ (S 5 x7.toNatClampNeg).toInt ≤ 31 := ivM_5 (S := S) hI x7.toNatClampNeg
                            refine lv_iload_n hx hb dX6_range_140 rfl (lv_at hl 1 rfl) ?_
                            refine lv_icmp_ne (tgt := 164) hx hb dX6_range_141 (by decide) (fun c_31 => ?_) (fun c_31 => ?_)
                            · skip
                              refine lv_iinc (v := x7 + 1) (lv' := [(7, .int (x7 + 1)), (0, .ref (h 0)), (1, .int a1), (2, .int a2), (3, .int a3), (4, .int a4), (5, .int a5), (6, .int 1)]) hx hb dX6_range_164 hl (k := 7) rfl rfl (by decide) rfl (fun ls hl => ?_)
                              refine lv_goto (tgt := 114) hx hb dX6_range_167 (by decide) ?_
                              have hinc := i32_inc (x := x7) h0_114 (by omega)
                              exact ih114 (x7 + 1) _ _ _ ⟨by omega, by omega, by omega, by omega, trivial⟩ (by first | (rw [← he114, l_M_range_114, if_neg c_23, if_neg c_29, if_neg c_31]; done) | (rw [← he114, l_M_range_114]; simp only [if_neg c_23, if_neg c_29, if_neg c_31])) hP hS (lv_sub hl [1, 2, 3, 4, 5, 6, 7, 0] rfl)
                            · skip
                              refine lv_aload_n hx hb dX6_range_144 rfl (lv_at hl 0 rfl) ?_
                              refine lv_iload hx hb dX6_range_145 (lv_at hl 7 rfl) ?_
                              refine lv_iload_n hx hb dX6_range_147 rfl (lv_at hl 2 rfl) ?_
                              refine lv_iload_n hx hb dX6_range_148 rfl (lv_at hl 3 rfl) ?_
                              refine lv_iload hx hb dX6_range_149 (lv_at hl 4 rfl) ?_
                              refine pu_callM (va_runV (As := [.int x7, .int a2, .int a3, .int a4]) (rest := []) ⟨hx, hb, hml, hown, hB⟩ (m_M_isOver l D h cI cZ S hI x7 a2 a3 a4 (by omega) (by omega) (by omega)) (cwV 4 hB (gV k3_113 k3_115 ks_334 k1_7 k3_116) rfl rfl rfl (by decide +kernel) ⟨Nat.le_of_ble_eq_true rfl, Nat.le_of_ble_eq_true rfl⟩) ⟨pu_blindM, va_recv hK hP (ci := 6) (q0 := 0) rfl rfl, pu_preM hP hK hN⟩ rfl rfl hl.1 rfl (lv_room (Nat.le_of_ble_eq_true rfl)) dX6_range_151 ⟨Nat.le_of_ble_eq_true rfl, Nat.le_of_ble_eq_true rfl⟩) hP hS (fun H locs hP hS => ?_)
                              refine lv_if_eq (tgt := 164) hx hb dX6_range_154 (by decide) (fun c_33 => ?_) (fun c_33 => ?_)
                              · skip
                                refine lv_iinc (v := x7 + 1) (lv' := [(7, .int (x7 + 1)), (0, .ref (h 0)), (1, .int a1), (2, .int a2), (3, .int a3), (4, .int a4), (5, .int a5), (6, .int 1)]) hx hb dX6_range_164 hl (k := 7) rfl rfl (by decide) rfl (fun ls hl => ?_)
                                refine lv_goto (tgt := 114) hx hb dX6_range_167 (by decide) ?_
                                have hinc := i32_inc (x := x7) h0_114 (by omega)
                                exact ih114 (x7 + 1) _ _ _ ⟨by omega, by omega, by omega, by omega, trivial⟩ (by first | (rw [← he114, l_M_range_114, if_neg c_23, if_neg c_29, if_pos c_31, if_pos c_33]; done) | (rw [← he114, l_M_range_114]; simp only [if_neg c_23, if_neg c_29, if_pos c_31, if_pos c_33])) hP hS (lv_sub hl [1, 2, 3, 4, 5, 6, 7, 0] rfl)
                              · skip
                                refine lv_sipush (v := (-200)) hx hb dX6_range_157 (by decide) ?_
                                refine lv_iload hx hb dX6_range_160 (lv_at hl 7 rfl) ?_
                                refine lv_isub hx hb dX6_range_162 ?_
                                exact W.iret (v := (-200) - x7) hx hb hr (fun t ht hW => ⟨⟨(-200) - x7, S, rfl, ⟨(by rw [← he114, l_M_range_114, if_neg c_23, if_neg c_29, if_pos c_31, if_neg c_33]), hI⟩, by show va_P D vwCl _ t.heap; rw [ht]; exact hP⟩, hS.F ht⟩) hS.2.2 dX6_range_163
                    have hB9_114 := ivM_22 (S := S) hI
                    exact loop114 600 0 _ _ _ ⟨by omega, by omega, by omega, by omega, trivial⟩ (by rw [F_M_range, if_neg c_2, if_neg c_4, if_neg c_7, if_neg c_10, if_neg c_13, if_neg c_16, if_neg c_17, if_pos c_19, if_neg c_21]) hP hS (lv_sub hl [2, 3, 4, 5, 6, 7, 1, 0] rfl)
                  · skip
                    have z_80 : ((80) : Int32).toInt = (80) := by decide
                    have t_21 := Int32.toInt_inj.symm.mp c_21
                    refine lv_bipush (v := (-14)) hx hb dX6_range_108 (by decide) ?_
                    exact W.iret (v := (-14)) hx hb hr (fun t ht hW => ⟨⟨(-14), S, rfl, ⟨(by rw [F_M_range, if_neg c_2, if_neg c_4, if_neg c_7, if_neg c_10, if_neg c_13, if_neg c_16, if_neg c_17, if_pos c_19, if_pos c_21]), hI⟩, by show va_P D vwCl _ t.heap; rw [ht]; exact hP⟩, hS.F ht⟩) hS.2.2 dX6_range_110
                · skip
                  have t_19 := mt Int32.lt_iff_toInt_lt.mpr c_19
                  refine lv_bipush (v := (-13)) hx hb dX6_range_96 (by decide) ?_
                  exact W.iret (v := (-13)) hx hb hr (fun t ht hW => ⟨⟨(-13), S, rfl, ⟨(by rw [F_M_range, if_neg c_2, if_neg c_4, if_neg c_7, if_neg c_10, if_neg c_13, if_neg c_16, if_neg c_17, if_neg c_19]), hI⟩, by show va_P D vwCl _ t.heap; rw [ht]; exact hP⟩, hS.F ht⟩) hS.2.2 dX6_range_98
              · skip
                refine lv_iload_n hx hb dX6_range_76 rfl (lv_at hl 3 rfl) ?_
                refine lv_iload_n hx hb dX6_range_77 rfl (lv_at hl 4 rfl) ?_
                refine pu_callM (va_runS (As := [.int a2, .int a3]) (rest := []) ⟨hx, hb, hml, hown, hB⟩ (m_M_isOfSide l D h cI cZ S hI a2 a3 ) (cwS 2 hB (gS k3_110 k3_111 k1_7 k3_112) rfl rfl rfl (by decide +kernel) ⟨Nat.le_of_ble_eq_true rfl, Nat.le_of_ble_eq_true rfl⟩) ⟨pu_blindM, pu_preM hP hK hN⟩ rfl rfl hl.1 rfl (lv_room (Nat.le_of_ble_eq_true rfl)) dX6_range_78 ⟨Nat.le_of_ble_eq_true rfl, Nat.le_of_ble_eq_true rfl⟩) hP hS (fun H locs hP hS => ?_)
                refine lv_if_ne (tgt := 87) hx hb dX6_range_81 (by decide) (fun c_35 => ?_) (fun c_35 => ?_)
                · skip
                  refine lv_aload_n hx hb dX6_range_87 rfl (lv_at hl 1 rfl) ?_
                  refine va_get (D := D) (ci := 6) (v := .ref (h 4)) (C := RX6) (T := TX6) (N := 25) hx hb hB inX6 hown hK hP 0 rfl rfl 6 (by decide) (hB _ k3_3) (fun _ h9 => h9) rfl dX6_range_88 ?_
                  refine lv_iload_n hx hb dX6_range_91 rfl (lv_at hl 2 rfl) ?_
                  refine va_iald (f := S 3) hx hb hK hP 4 0 rfl rfl (vp_in_iff.mpr (by omega)) dX6_range_92 ?_
                  have b_36 : (-1) ≤ (S 3 a1.toNatClampNeg).toInt ∧ (S 3 a1.toNatClampNeg).toInt ≤ 31 := ivM_3 (S := S) hI a1.toNatClampNeg
                  refine lv_if_lt (tgt := 99) hx hb dX6_range_93 (by decide) (fun c_37 => ?_) (fun c_37 => ?_)
                  · skip
                    have t_37 := Int32.lt_iff_toInt_lt.mp c_37
                    refine lv_aload_n hx hb dX6_range_99 rfl (lv_at hl 1 rfl) ?_
                    refine va_get (D := D) (ci := 6) (v := .int (S 22 0)) (C := RX6) (T := TX6) (N := 25) hx hb hB inX6 hown hK hP 0 rfl rfl 8 (by decide) (hB _ k3_5) (fun _ h9 => h9) rfl dX6_range_100 ?_
                    have b_38 : (0) ≤ (S 22 0).toInt ∧ (S 22 0).toInt ≤ 80 := ivM_22 (S := S) hI
                    refine lv_bipush (v := 80) hx hb dX6_range_103 (by decide) ?_
                    refine lv_icmp_ne (tgt := 111) hx hb dX6_range_105 (by decide) (fun c_39 => ?_) (fun c_39 => ?_)
                    · skip
                      have z_80 : ((80) : Int32).toInt = (80) := by decide
                      have t_39 := mt Int32.toInt_inj.mp c_39
                      refine lv_iconst (v := 0) hx hb dX6_range_111 (by decide) ?_
                      refine lv_istore (lv' := [(7, .int 0), (6, .int 1), (0, .ref (h 0)), (1, .int a1), (2, .int a2), (3, .int a3), (4, .int a4), (5, .int a5)]) hx hb dX6_range_112 hl (by decide) rfl (fun ls hl => ?_)
                      have loop114 : ∀ (n114 : Nat) (x7 : Int32) (H : Heap) (locs : List Loc) (ls : Array Slot), (0 ≤ x7.toInt ∧ x7.toInt ≤ 6000 ∧ 1 ≤ (n114 : Int) ∧ (S 22 0 : Int32).toInt - x7.toInt < (n114 : Int) ∧ (True)) → l_M_range_114 S a1 a2 a3 a4 a5 n114 x7 = F_M_range S a1 a2 a3 a4 a5 → va_P D vwCl (wBM h cI cZ S) H → va_S (bAM h) s.heap H locs → lv_has ls 8 [(0, .ref (h 0)), (1, .int a1), (2, .int a2), (3, .int a3), (4, .int a4), (5, .int a5), (6, .int 1), (7, .int x7)] → W p l e (headSpec wsX6_range { frames := 3, cells := 0, slots := 0, locals := 68 }).room s m ([.ref (h 0), .int a1, .int a2, .int a3, .int a4, .int a5]).toArray below meth c H locs 0 0 (MQ below (WQM D cI cZ h (F_M_range S a1 a2 a3 a4 a5)) ([.ref (h 0), .int a1, .int a2, .int a3, .int a4, .int a5]).toArray s 0 0 (bAM h)) (F0 m 114 ls []) := by
                        intro n114
                        induction n114 with
                        | zero =>
                          intro x7 H locs ls hinv he114 hP hS hl
                          exact absurd hinv.2.2.1 (by omega)
                        | succ n114 ih114 =>
                          intro x7 H locs ls hinv he114 hP hS hl
                          obtain ⟨h0_114, hc_114, h1_114, hm_114, hex_114⟩ := hinv
                          have hBd_114 := ivM_22 hI
                          refine lv_iload hx hb dX6_range_114 (lv_at hl 7 rfl) ?_
                          refine lv_aload_n hx hb dX6_range_116 rfl (lv_at hl 0 rfl) ?_
                          refine va_get (D := D) (ci := 6) (v := .int (S 22 0)) (C := RX6) (T := TX6) (N := 25) hx hb hB inX6 hown hK hP 0 rfl rfl 8 (by decide) (hB _ k3_5) (fun _ h9 => h9) rfl dX6_range_117 ?_
                          have b_40 : (0) ≤ (S 22 0).toInt ∧ (S 22 0).toInt ≤ 80 := ivM_22 (S := S) hI
                          refine lv_icmp_ge (tgt := 170) hx hb dX6_range_120 (by decide) (fun c_41 => ?_) (fun c_41 => ?_)
                          · skip
                            have t_41 := Int32.le_iff_toInt_le.mp c_41
                            refine lv_aload_n hx hb dX6_range_170 rfl (lv_at hl 0 rfl) ?_
                            refine lv_iload_n hx hb dX6_range_171 rfl (lv_at hl 1 rfl) ?_
                            refine lv_iload_n hx hb dX6_range_172 rfl (lv_at hl 2 rfl) ?_
                            refine lv_iload_n hx hb dX6_range_173 rfl (lv_at hl 3 rfl) ?_
                            refine lv_iload hx hb dX6_range_174 (lv_at hl 4 rfl) ?_
                            refine wv_callM (va_runV (As := [.int a1, .int a2, .int a3, .int a4]) (rest := []) ⟨hx, hb, hml, hown, hB⟩ (m_M_addRange l D h cI cZ S hI a1 a2 a3 a4 (show (S 22 0).toInt ≤ 79 by omega) (by omega) (by omega) (by omega)) (cwV 4 hB (gV k3_121 k3_123 ks_330 k1_7 k3_124) rfl rfl rfl (by decide +kernel) ⟨Nat.le_of_ble_eq_true rfl, Nat.le_of_ble_eq_true rfl⟩) ⟨wr_blindM, va_recv hK hP (ci := 6) (q0 := 0) rfl rfl, wr_preM hP hK hN hD⟩ rfl rfl hl.1 rfl (lv_room (Nat.le_of_ble_eq_true rfl)) dX6_range_176 ⟨Nat.le_of_ble_eq_true rfl, Nat.le_of_ble_eq_true rfl⟩) hS (fun H locs hP hI_42 hS => ?_)
                            have hD := wDM (S2 := (F_M_addRange S a1 a2 a3 a4)) hD
                            refine lv_aload_n hx hb dX6_range_179 rfl (lv_at hl 0 rfl) ?_
                            refine lv_iload hx hb dX6_range_180 (lv_at hl 5 rfl) ?_
                            refine wpfM_19 (S := (F_M_addRange S a1 a2 a3 a4)) hx hb hB hown hK hP hD hS (hB _ k2_237) dX6_range_182 (fun H locs hP hD hS => ?_)
                            have hI_44 : IVM (upS 19 0 a5 (F_M_addRange S a1 a2 a3 a4)) := iv_upM (S := (F_M_addRange S a1 a2 a3 a4)) hI_42 19 0 a5 (iv_noneM 19 rfl)
                            refine lv_aload_n hx hb dX6_range_185 rfl (lv_at hl 0 rfl) ?_
                            refine va_get (D := D) (ci := 6) (v := .int ((F_M_addRange S a1 a2 a3 a4) 22 0)) (C := RX6) (T := TX6) (N := 25) hx hb hB inX6 hown hK hP 0 rfl rfl 8 (by decide) (hB _ k3_5) (fun _ h9 => h9) rfl dX6_range_186 ?_
                            have b_45 : (0) ≤ ((F_M_addRange S a1 a2 a3 a4) 22 0).toInt ∧ ((F_M_addRange S a1 a2 a3 a4) 22 0).toInt ≤ 80 := ivM_22 (S := upS 19 0 a5 (F_M_addRange S a1 a2 a3 a4)) hI_44
                            refine lv_iconst (v := 1) hx hb dX6_range_189 (by decide) ?_
                            refine lv_isub hx hb dX6_range_190 ?_
                            exact W.iret (v := ((F_M_addRange S a1 a2 a3 a4) 22 0) - 1) hx hb hr (fun t ht hW => ⟨⟨((F_M_addRange S a1 a2 a3 a4) 22 0) - 1, upS 19 0 a5 (F_M_addRange S a1 a2 a3 a4), rfl, ⟨(by rw [← he114, l_M_range_114, if_pos c_41]), hI_44⟩, by show va_P D vwCl _ t.heap; rw [ht]; exact hP⟩, hS.F ht⟩) hS.2.2 dX6_range_191
                          · skip
                            have t_41 := mt Int32.le_iff_toInt_le.mpr c_41
                            refine lv_aload_n hx hb dX6_range_123 rfl (lv_at hl 0 rfl) ?_
                            refine va_get (D := D) (ci := 6) (v := .ref (h 10)) (C := RX6) (T := TX6) (N := 25) hx hb hB inX6 hown hK hP 0 rfl rfl 13 (by decide) (hB _ k3_10) (fun _ h9 => h9) rfl dX6_range_124 ?_
                            refine lv_iload hx hb dX6_range_127 (lv_at hl 7 rfl) ?_
                            refine va_zald (f := S 9) hx hb hK hP 10 1 rfl rfl (vp_in_iff.mpr (by omega)) dX6_range_129 ?_
                            have b_46 : (0) ≤ (S 9 x7.toNatClampNeg).toInt ∧ (S 9 x7.toNatClampNeg).toInt ≤ 1 := ivM_9 (S := S) hI x7.toNatClampNeg
                            refine lv_if_eq (tgt := 164) hx hb dX6_range_130 (by decide) (fun c_47 => ?_) (fun c_47 => ?_)
                            · skip
                              have z_0 : ((0) : Int32).toInt = (0) := by decide
                              have t_47 := Int32.toInt_inj.symm.mp c_47
                              refine lv_iinc (v := x7 + 1) (lv' := [(7, .int (x7 + 1)), (0, .ref (h 0)), (1, .int a1), (2, .int a2), (3, .int a3), (4, .int a4), (5, .int a5), (6, .int 1)]) hx hb dX6_range_164 hl (k := 7) rfl rfl (by decide) rfl (fun ls hl => ?_)
                              refine lv_goto (tgt := 114) hx hb dX6_range_167 (by decide) ?_
                              have hinc := i32_inc (x := x7) h0_114 (by omega)
                              exact ih114 (x7 + 1) _ _ _ ⟨by omega, by omega, by omega, by omega, trivial⟩ (by first | (rw [← he114, l_M_range_114, if_neg c_41, if_pos c_47]; done) | (rw [← he114, l_M_range_114]; simp only [if_neg c_41, if_pos c_47])) hP hS (lv_sub hl [1, 2, 3, 4, 5, 6, 7, 0] rfl)
                            · skip
                              have z_0 : ((0) : Int32).toInt = (0) := by decide
                              have t_47 := mt Int32.toInt_inj.mp c_47
                              refine lv_aload_n hx hb dX6_range_133 rfl (lv_at hl 0 rfl) ?_
                              refine va_get (D := D) (ci := 6) (v := .ref (h 6)) (C := RX6) (T := TX6) (N := 25) hx hb hB inX6 hown hK hP 0 rfl rfl 9 (by decide) (hB _ k3_6) (fun _ h9 => h9) rfl dX6_range_134 ?_
                              refine lv_iload hx hb dX6_range_137 (lv_at hl 7 rfl) ?_
                              refine va_iald (f := S 5) hx hb hK hP 6 0 rfl rfl (vp_in_iff.mpr (by omega)) dX6_range_139 ?_
                              have b_48 : (0) ≤ (S 5 x7.toNatClampNeg).toInt ∧ (S 5 x7.toNatClampNeg).toInt ≤ 31 := ivM_5 (S := S) hI x7.toNatClampNeg
                              refine lv_iload_n hx hb dX6_range_140 rfl (lv_at hl 1 rfl) ?_
                              refine lv_icmp_ne (tgt := 164) hx hb dX6_range_141 (by decide) (fun c_49 => ?_) (fun c_49 => ?_)
                              · skip
                                refine lv_iinc (v := x7 + 1) (lv' := [(7, .int (x7 + 1)), (0, .ref (h 0)), (1, .int a1), (2, .int a2), (3, .int a3), (4, .int a4), (5, .int a5), (6, .int 1)]) hx hb dX6_range_164 hl (k := 7) rfl rfl (by decide) rfl (fun ls hl => ?_)
                                refine lv_goto (tgt := 114) hx hb dX6_range_167 (by decide) ?_
                                have hinc := i32_inc (x := x7) h0_114 (by omega)
                                exact ih114 (x7 + 1) _ _ _ ⟨by omega, by omega, by omega, by omega, trivial⟩ (by first | (rw [← he114, l_M_range_114, if_neg c_41, if_neg c_47, if_neg c_49]; done) | (rw [← he114, l_M_range_114]; simp only [if_neg c_41, if_neg c_47, if_neg c_49])) hP hS (lv_sub hl [1, 2, 3, 4, 5, 6, 7, 0] rfl)
                              · skip
                                refine lv_aload_n hx hb dX6_range_144 rfl (lv_at hl 0 rfl) ?_
                                refine lv_iload hx hb dX6_range_145 (lv_at hl 7 rfl) ?_
                                refine lv_iload_n hx hb dX6_range_147 rfl (lv_at hl 2 rfl) ?_
                                refine lv_iload_n hx hb dX6_range_148 rfl (lv_at hl 3 rfl) ?_
                                refine lv_iload hx hb dX6_range_149 (lv_at hl 4 rfl) ?_
                                refine pu_callM (va_runV (As := [.int x7, .int a2, .int a3, .int a4]) (rest := []) ⟨hx, hb, hml, hown, hB⟩ (m_M_isOver l D h cI cZ S hI x7 a2 a3 a4 (by omega) (by omega) (by omega)) (cwV 4 hB (gV k3_113 k3_115 ks_334 k1_7 k3_116) rfl rfl rfl (by decide +kernel) ⟨Nat.le_of_ble_eq_true rfl, Nat.le_of_ble_eq_true rfl⟩) ⟨pu_blindM, va_recv hK hP (ci := 6) (q0 := 0) rfl rfl, pu_preM hP hK hN⟩ rfl rfl hl.1 rfl (lv_room (Nat.le_of_ble_eq_true rfl)) dX6_range_151 ⟨Nat.le_of_ble_eq_true rfl, Nat.le_of_ble_eq_true rfl⟩) hP hS (fun H locs hP hS => ?_)
                                refine lv_if_eq (tgt := 164) hx hb dX6_range_154 (by decide) (fun c_51 => ?_) (fun c_51 => ?_)
                                · skip
                                  refine lv_iinc (v := x7 + 1) (lv' := [(7, .int (x7 + 1)), (0, .ref (h 0)), (1, .int a1), (2, .int a2), (3, .int a3), (4, .int a4), (5, .int a5), (6, .int 1)]) hx hb dX6_range_164 hl (k := 7) rfl rfl (by decide) rfl (fun ls hl => ?_)
                                  refine lv_goto (tgt := 114) hx hb dX6_range_167 (by decide) ?_
                                  have hinc := i32_inc (x := x7) h0_114 (by omega)
                                  exact ih114 (x7 + 1) _ _ _ ⟨by omega, by omega, by omega, by omega, trivial⟩ (by first | (rw [← he114, l_M_range_114, if_neg c_41, if_neg c_47, if_pos c_49, if_pos c_51]; done) | (rw [← he114, l_M_range_114]; simp only [if_neg c_41, if_neg c_47, if_pos c_49, if_pos c_51])) hP hS (lv_sub hl [1, 2, 3, 4, 5, 6, 7, 0] rfl)
                                · skip
                                  refine lv_sipush (v := (-200)) hx hb dX6_range_157 (by decide) ?_
                                  refine lv_iload hx hb dX6_range_160 (lv_at hl 7 rfl) ?_
                                  refine lv_isub hx hb dX6_range_162 ?_
                                  exact W.iret (v := (-200) - x7) hx hb hr (fun t ht hW => ⟨⟨(-200) - x7, S, rfl, ⟨(by rw [← he114, l_M_range_114, if_neg c_41, if_neg c_47, if_pos c_49, if_neg c_51]), hI⟩, by show va_P D vwCl _ t.heap; rw [ht]; exact hP⟩, hS.F ht⟩) hS.2.2 dX6_range_163
                      have hB9_114 := ivM_22 (S := S) hI
                      exact loop114 600 0 _ _ _ ⟨by omega, by omega, by omega, by omega, trivial⟩ (by rw [F_M_range, if_neg c_2, if_neg c_4, if_neg c_7, if_neg c_10, if_neg c_13, if_neg c_16, if_pos c_17, if_neg c_35, if_pos c_37, if_neg c_39]) hP hS (lv_sub hl [2, 3, 4, 5, 6, 7, 1, 0] rfl)
                    · skip
                      have z_80 : ((80) : Int32).toInt = (80) := by decide
                      have t_39 := Int32.toInt_inj.symm.mp c_39
                      refine lv_bipush (v := (-14)) hx hb dX6_range_108 (by decide) ?_
                      exact W.iret (v := (-14)) hx hb hr (fun t ht hW => ⟨⟨(-14), S, rfl, ⟨(by rw [F_M_range, if_neg c_2, if_neg c_4, if_neg c_7, if_neg c_10, if_neg c_13, if_neg c_16, if_pos c_17, if_neg c_35, if_pos c_37, if_pos c_39]), hI⟩, by show va_P D vwCl _ t.heap; rw [ht]; exact hP⟩, hS.F ht⟩) hS.2.2 dX6_range_110
                  · skip
                    have t_37 := mt Int32.lt_iff_toInt_lt.mpr c_37
                    refine lv_bipush (v := (-13)) hx hb dX6_range_96 (by decide) ?_
                    exact W.iret (v := (-13)) hx hb hr (fun t ht hW => ⟨⟨(-13), S, rfl, ⟨(by rw [F_M_range, if_neg c_2, if_neg c_4, if_neg c_7, if_neg c_10, if_neg c_13, if_neg c_16, if_pos c_17, if_neg c_35, if_neg c_37]), hI⟩, by show va_P D vwCl _ t.heap; rw [ht]; exact hP⟩, hS.F ht⟩) hS.2.2 dX6_range_98
                · skip
                  refine lv_bipush (v := (-12)) hx hb dX6_range_84 (by decide) ?_
                  exact W.iret (v := (-12)) hx hb hr (fun t ht hW => ⟨⟨(-12), S, rfl, ⟨(by rw [F_M_range, if_neg c_2, if_neg c_4, if_neg c_7, if_neg c_10, if_neg c_13, if_neg c_16, if_pos c_17, if_pos c_35]), hI⟩, by show va_P D vwCl _ t.heap; rw [ht]; exact hP⟩, hS.F ht⟩) hS.2.2 dX6_range_86
  · skip
    refine lv_bipush (v := (-11)) hx hb dX6_range_8 (by decide) ?_
    exact W.iret (v := (-11)) hx hb hr (fun t ht hW => ⟨⟨(-11), S, rfl, ⟨(by rw [F_M_range, if_pos c_2]), hI⟩, by show va_P D vwCl _ t.heap; rw [ht]; exact hP⟩, hS.F ht⟩) hS.2.2 dX6_range_10
