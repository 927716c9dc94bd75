set_option maxHeartbeats 4000000 in
set_option maxRecDepth 100000 in
theorem m_M_isPoint (l : Launch) (D : va_G) (h : Nat → Nat) (cI cZ : ClassId) (S : BS) (hI : IVM S) (a1 : Int32) : PMM l yX6_isPoint wsX6_isPoint { frames := 1, cells := 0, slots := 0, locals := 22 } D cI cZ h S [.ref (h 0), .int a1] (f_M_isPoint S a1) := by
  refine Met.ofW (cc := cX6_isPoint) (maxL := 2) (ret := (some .boolean)) (by decide) rfl ?_
  intro p e s m args below meth c s₁ B hml hv
  obtain ⟨rfl, hP, hK, hN⟩ := hv
  have hx := B.exec
  have hb := B.bytes
  have hr := B.returns
  have hts := atoms_spec (ws := wsX6_isPoint) B.pre
  have hB : ∀ w ∈ BW, w.before _ s = true := fun w h => hts w (List.mem_cons_of_mem _ h)
  have hown : s.vm.findClass RX6 = some m.cls := findClass_of_methodNamed B.named
  have hlocks := B.notSynchronized
  have hS : va_S (fun _ => False) s.heap s.heap [] := va_S.rf
  have hl := lv_entry ([.ref (h 0), .int a1]) (n := 2) (Nat.le_of_ble_eq_true rfl)
  rw [lg_entry_eq]
  generalize (lg_sl ([.ref (h 0), .int a1]) ++ List.replicate (2 - (lg_sl ([.ref (h 0), .int a1])).length) Slot.unset).toArray = ls at hl ⊢
  have hl : lv_has ls 2 [(0, .ref (h 0)), (1, .int a1)] := hl
  refine lv_iload_n hx hb dX6_isPoint_0 rfl (lv_at hl 1 rfl) ?_
  refine lv_iconst (v := 0) hx hb dX6_isPoint_1 (by decide) ?_
  refine lv_aload_n hx hb dX6_isPoint_2 rfl (lv_at hl 0 rfl) ?_
  refine va_get (D := D) (ci := 6) (v := .int (S 23 0)) (C := RX6) (T := TX6) (N := 25) hx hb hB inX6 hown hK hP 0 rfl rfl 14 (by decide) (hB _ k3_11) (fun _ h9 => h9) rfl dX6_isPoint_3 ?_
  have b_1 : (0) ≤ (S 23 0).toInt ∧ (S 23 0).toInt ≤ 120 := ivM_23 (S := S) hI
  refine lv_iconst (v := 1) hx hb dX6_isPoint_6 (by decide) ?_
  refine lv_isub hx hb dX6_isPoint_7 ?_
  refine pu_callM (va_runS (As := [.int a1, .int 0, .int ((S 23 0) - 1)]) (rest := []) ⟨hx, hb, hml, hown, hB⟩ (m_M_in l D h cI cZ S hI a1 0 ((S 23 0) - 1) ) (cwS 3 hB (gS k3_78 k3_79 k1_7 k3_80) rfl rfl rfl (by decide +kernel) ⟨Nat.le_of_ble_eq_true rfl, Nat.le_of_ble_eq_true rfl⟩) ⟨pu_blindM, pu_preM hP hK hN⟩ rfl rfl hl.1 rfl (lv_room (Nat.le_of_ble_eq_true rfl)) dX6_isPoint_8 ⟨Nat.le_of_ble_eq_true rfl, Nat.le_of_ble_eq_true rfl⟩) hP hS (fun H locs hP hS => ?_)
  exact W.zret (v := f_M_in a1 0 ((S 23 0) - 1)) hx hb hr (nb01 (z01_M_in)) (fun t ht hW => ⟨⟨f_M_in a1 0 ((S 23 0) - 1), (), rfl, (by rw [f_M_isPoint]), trivial⟩, hS.F ht⟩) hS.2.2 dX6_isPoint_11
set_option maxHeartbeats 4000000 in
set_option maxRecDepth 100000 in
theorem m_M_stayOf (l : Launch) (D : va_G) (h : Nat → Nat) (cI cZ : ClassId) (S : BS) (hI : IVM S) (a1 : Int32) (hHS : HSM S a1) : PMM l yX6_stayOf wsX6_stayOf { frames := 0, cells := 0, slots := 0, locals := 0 } D cI cZ h S [.ref (h 0), .int a1] (f_M_stayOf S a1) := by
  refine Met.ofW (cc := cX6_stayOf) (maxL := 3) (ret := (some .int)) (by decide) rfl ?_
  intro p e s m args below meth c s₁ B hml hv
  obtain ⟨rfl, hP, hK, hN⟩ := hv
  have hx := B.exec
  have hb := B.bytes
  have hr := B.returns
  have hts := atoms_spec (ws := wsX6_stayOf) B.pre
  have hB : ∀ w ∈ BW, w.before _ s = true := fun w h => hts w (List.mem_cons_of_mem _ h)
  have hown : s.vm.findClass RX6 = some m.cls := findClass_of_methodNamed B.named
  have hlocks := B.notSynchronized
  have hS : va_S (fun _ => False) s.heap s.heap [] := va_S.rf
  have hl := lv_entry ([.ref (h 0), .int a1]) (n := 3) (Nat.le_of_ble_eq_true rfl)
  rw [lg_entry_eq]
  generalize (lg_sl ([.ref (h 0), .int a1]) ++ List.replicate (3 - (lg_sl ([.ref (h 0), .int a1])).length) Slot.unset).toArray = ls at hl ⊢
  have hl : lv_has ls 3 [(0, .ref (h 0)), (1, .int a1)] := hl
  refine lv_aload_n hx hb dX6_stayOf_0 rfl (lv_at hl 0 rfl) ?_
  refine va_get (D := D) (ci := 6) (v := .int (S 24 0)) (C := RX6) (T := TX6) (N := 25) hx hb hB inX6 hown hK hP 0 rfl rfl 18 (by decide) (hB _ k3_15) (fun _ h9 => h9) rfl dX6_stayOf_1 ?_
  have b_1 : (0) ≤ (S 24 0).toInt ∧ (S 24 0).toInt ≤ 5000 := ivM_24 (S := S) hI
  refine lv_iconst (v := 1) hx hb dX6_stayOf_4 (by decide) ?_
  refine lv_isub hx hb dX6_stayOf_5 ?_
  have z_1 : ((1) : Int32).toInt = (1) := by decide
  have k_2 := i32_sub (x := S 24 0) (y := 1) (by omega) (by omega)
  refine lv_istore_n (lv' := [(2, .int ((S 24 0) - 1)), (0, .ref (h 0)), (1, .int a1)]) hx hb dX6_stayOf_6 rfl hl (by decide) rfl (fun ls hl => ?_)
  have loop7 : ∀ (n7 : Nat) (x2 : Int32) (H : Heap) (locs : List Loc) (ls : Array Slot), (∃ j9 : Nat, (j9 : Int) ≤ x2.toInt ∧ S 13 j9 = a1 ∧ x2.toInt < 5000 ∧ x2.toInt < (n7 : Int)) → l_M_stayOf_7 S a1 n7 x2 = f_M_stayOf S a1 → va_P D vwCl (wBM h cI cZ S) H → va_S (fun _ => False) s.heap H locs → lv_has ls 3 [(0, .ref (h 0)), (1, .int a1), (2, .int x2)] → W p l e (headSpec wsX6_stayOf { frames := 0, cells := 0, slots := 0, locals := 0 }).room s m ([.ref (h 0), .int a1]).toArray below meth c H locs 0 0 (MQ below (PQ (f_M_stayOf S a1)) ([.ref (h 0), .int a1]).toArray s 0 0 (fun _ => False)) (F0 m 7 ls []) := by
    intro n7
    induction n7 with
    | zero =>
      intro x2 H locs ls hinv he7 hP hS hl
      obtain ⟨j9, hj1, hj2, hj3, hj4⟩ := hinv
      exact absurd hj4 (by omega)
    | succ n7 ih7 =>
      intro x2 H locs ls hinv he7 hP hS hl
      obtain ⟨j9, hj1, hj2, hj3, hj4⟩ := hinv
      have e9 := cl_int (x := x2) (by omega)
      refine lv_aload_n hx hb dX6_stayOf_7 rfl (lv_at hl 0 rfl) ?_
      refine va_get (D := D) (ci := 6) (v := .ref (h 14)) (C := RX6) (T := TX6) (N := 25) hx hb hB inX6 hown hK hP 0 rfl rfl 19 (by decide) (hB _ k3_16) (fun _ h9 => h9) rfl dX6_stayOf_8 ?_
      refine lv_iload_n hx hb dX6_stayOf_11 rfl (lv_at hl 2 rfl) ?_
      refine va_iald (f := S 13) hx hb hK hP 14 0 rfl rfl (vp_in_iff.mpr (by omega)) dX6_stayOf_12 ?_
      have b_3 : (0) ≤ (S 13 x2.toNatClampNeg).toInt ∧ (S 13 x2.toNatClampNeg).toInt ≤ 119 := ivM_13 (S := S) hI x2.toNatClampNeg
      refine lv_iload_n hx hb dX6_stayOf_13 rfl (lv_at hl 1 rfl) ?_
      refine lv_icmp_eq (tgt := 23) hx hb dX6_stayOf_14 (by decide) (fun c_4 => ?_) (fun c_4 => ?_)
      · skip
        refine lv_iload_n hx hb dX6_stayOf_23 rfl (lv_at hl 2 rfl) ?_
        exact W.iret (v := x2) hx hb hr (fun t ht hW => ⟨⟨x2, (), rfl, (by rw [← he7, l_M_stayOf_7, if_pos c_4]), trivial⟩, hS.F ht⟩) hS.2.2 dX6_stayOf_24
      · skip
        refine lv_iinc (v := x2 + (-1)) (lv' := [(2, .int (x2 + (-1))), (0, .ref (h 0)), (1, .int a1)]) hx hb dX6_stayOf_17 hl (k := 2) rfl rfl (by decide) rfl (fun ls hl => ?_)
        refine lv_goto (tgt := 7) hx hb dX6_stayOf_20 (by decide) ?_
        have hdec := i32_dec (x := x2) (by omega) (by omega)
        have hjn : (j9 : Int) ≤ (x2 + (-1)).toInt := by
          rcases Nat.lt_or_ge j9 x2.toNatClampNeg with q | q
          · omega
          · have e8 : j9 = x2.toNatClampNeg := by omega
            rw [e8] at hj2
            exact absurd hj2 c_4
        exact ih7 (x2 + (-1)) _ _ _ ⟨j9, hjn, hj2, by omega, by omega⟩ (by first | (rw [← he7, l_M_stayOf_7, if_neg c_4]; done) | (rw [← he7, l_M_stayOf_7]; simp only [if_neg c_4])) hP hS (lv_sub hl [1, 2, 0] rfl)
  exact loop7 6000 ((S 24 0) - 1) _ _ _ (by obtain ⟨j9, hj1, hj2⟩ := hHS; exact ⟨j9, by omega, hj2, by omega, by omega⟩) (by rw [f_M_stayOf]) hP hS (lv_sub hl [1, 2, 0] rfl)
set_option maxHeartbeats 4000000 in
set_option maxRecDepth 100000 in
theorem m_M_houseOf (l : Launch) (D : va_G) (h : Nat → Nat) (cI cZ : ClassId) (S : BS) (hI : IVM S) (a1 : Int32) (hHS : HSM S a1) : PMM l yX6_houseOf wsX6_houseOf { frames := 1, cells := 0, slots := 0, locals := 22 } D cI cZ h S [.ref (h 0), .int a1] (f_M_houseOf S a1) := by
  refine Met.ofW (cc := cX6_houseOf) (maxL := 2) (ret := (some .int)) (by decide) rfl ?_
  intro p e s m args below meth c s₁ B hml hv
  obtain ⟨rfl, hP, hK, hN⟩ := hv
  have hx := B.exec
  have hb := B.bytes
  have hr := B.returns
  have hts := atoms_spec (ws := wsX6_houseOf) B.pre
  have hB : ∀ w ∈ BW, w.before _ s = true := fun w h => hts w (List.mem_cons_of_mem _ h)
  have hown : s.vm.findClass RX6 = some m.cls := findClass_of_methodNamed B.named
  have hlocks := B.notSynchronized
  have hS : va_S (fun _ => False) s.heap s.heap [] := va_S.rf
  have hl := lv_entry ([.ref (h 0), .int a1]) (n := 2) (Nat.le_of_ble_eq_true rfl)
  rw [lg_entry_eq]
  generalize (lg_sl ([.ref (h 0), .int a1]) ++ List.replicate (2 - (lg_sl ([.ref (h 0), .int a1])).length) Slot.unset).toArray = ls at hl ⊢
  have hl : lv_has ls 2 [(0, .ref (h 0)), (1, .int a1)] := hl
  refine lv_aload_n hx hb dX6_houseOf_0 rfl (lv_at hl 0 rfl) ?_
  refine va_get (D := D) (ci := 6) (v := .ref (h 16)) (C := RX6) (T := TX6) (N := 25) hx hb hB inX6 hown hK hP 0 rfl rfl 21 (by decide) (hB _ k3_18) (fun _ h9 => h9) rfl dX6_houseOf_1 ?_
  refine lv_aload_n hx hb dX6_houseOf_4 rfl (lv_at hl 0 rfl) ?_
  refine lv_iload_n hx hb dX6_houseOf_5 rfl (lv_at hl 1 rfl) ?_
  refine pu_callM (va_runV (As := [.int a1]) (rest := [.ref (h 16)]) ⟨hx, hb, hml, hown, hB⟩ (m_M_stayOf l D h cI cZ S hI a1 (show HSM (S) a1 from hHS)) (cwV 1 hB (gV k3_141 k3_143 ks_342 k1_7 k3_144) rfl rfl rfl (by decide +kernel) ⟨Nat.le_of_ble_eq_true rfl, Nat.le_of_ble_eq_true rfl⟩) ⟨pu_blindM, va_recv hK hP (ci := 6) (q0 := 0) rfl rfl, pu_preM hP hK hN⟩ rfl rfl hl.1 rfl (lv_room (Nat.le_of_ble_eq_true rfl)) dX6_houseOf_6 ⟨Nat.le_of_ble_eq_true rfl, Nat.le_of_ble_eq_true rfl⟩) hP hS (fun H locs hP hS => ?_)
  have k_1 := fc_M_stayOf (S := S) hI (a1 := a1) (show HSM (S) a1 from hHS)
  refine va_iald (f := S 15) hx hb hK hP 16 0 rfl rfl (vp_in_iff.mpr (by omega)) dX6_houseOf_9 ?_
  have b_2 : (0) ≤ (S 15 (f_M_stayOf S a1).toNatClampNeg).toInt ∧ (S 15 (f_M_stayOf S a1).toNatClampNeg).toInt ≤ 999 := ivM_15 (S := S) hI ((f_M_stayOf S a1).toNatClampNeg)
  exact W.iret (v := S 15 (f_M_stayOf S a1).toNatClampNeg) hx hb hr (fun t ht hW => ⟨⟨S 15 (f_M_stayOf S a1).toNatClampNeg, (), rfl, (by rw [f_M_houseOf]), trivial⟩, hS.F ht⟩) hS.2.2 dX6_houseOf_10
set_option maxHeartbeats 4000000 in
set_option maxRecDepth 100000 in
theorem m_M_stay (l : Launch) (D : va_G) (h : Nat → Nat) (cI cZ : ClassId) (S : BS) (hI : IVM S) (a1 a2 a3 : Int32) (hroom : (S 24 0).toInt ≤ 4999) (ha0 : 0 ≤ a1.toInt ∧ a1.toInt ≤ 119) (ha1 : 0 ≤ a2.toInt ∧ a2.toInt ≤ 31) (ha2 : 0 ≤ a3.toInt ∧ a3.toInt ≤ 999) : VMM l yX6_stay wsX6_stay { frames := 0, cells := 0, slots := 0, locals := 0 } D cI cZ h S [.ref (h 0), .int a1, .int a2, .int a3] (F_M_stay S a1 a2 a3) := by
  refine Met.ofW (cc := cX6_stay) (maxL := 4) (ret := none) (by decide) rfl ?_
  intro p e s m args below meth c s₁ B hml hv
  obtain ⟨rfl, hP, hK, hN, hD0⟩ := hv
  have hx := B.exec
  have hb := B.bytes
  have hr := B.returns
  have hts := atoms_spec (ws := wsX6_stay) B.pre
  have hB : ∀ w ∈ BW, w.before _ s = true := fun w h => hts w (List.mem_cons_of_mem _ h)
  have hown : s.vm.findClass RX6 = some m.cls := findClass_of_methodNamed B.named
  have hlocks := B.notSynchronized
  have hD := bDM hD0
  have hS : va_S (bAM h) s.heap s.heap [] := va_S.rf
  have hl := lv_entry ([.ref (h 0), .int a1, .int a2, .int a3]) (n := 4) (Nat.le_of_ble_eq_true rfl)
  rw [lg_entry_eq]
  generalize (lg_sl ([.ref (h 0), .int a1, .int a2, .int a3]) ++ List.replicate (4 - (lg_sl ([.ref (h 0), .int a1, .int a2, .int a3])).length) Slot.unset).toArray = ls at hl ⊢
  have hl : lv_has ls 4 [(0, .ref (h 0)), (1, .int a1), (2, .int a2), (3, .int a3)] := hl
  refine lv_aload_n hx hb dX6_stay_0 rfl (lv_at hl 0 rfl) ?_
  refine va_get (D := D) (ci := 6) (v := .ref (h 14)) (C := RX6) (T := TX6) (N := 25) hx hb hB inX6 hown hK hP 0 rfl rfl 19 (by decide) (hB _ k3_16) (fun _ h9 => h9) rfl dX6_stay_1 ?_
  refine lv_aload_n hx hb dX6_stay_4 rfl (lv_at hl 0 rfl) ?_
  refine va_get (D := D) (ci := 6) (v := .int (S 24 0)) (C := RX6) (T := TX6) (N := 25) hx hb hB inX6 hown hK hP 0 rfl rfl 18 (by decide) (hB _ k3_15) (fun _ h9 => h9) rfl dX6_stay_5 ?_
  have b_1 : (0) ≤ (S 24 0).toInt ∧ (S 24 0).toInt ≤ 5000 := ivM_24 (S := S) hI
  refine lv_iload_n hx hb dX6_stay_8 rfl (lv_at hl 1 rfl) ?_
  refine wstM_13 (S := S) hx hb hK hP hD hS (vp_in_iff.mpr (by omega)) dX6_stay_9 (fun H locs hP hD hS => ?_)
  have hI_2 : IVM (upS 13 ((S 24 0).toNatClampNeg) a1 S) := iv_upM (S := S) hI 13 ((S 24 0).toNatClampNeg) a1 (iv_oneM 13 (0) 119 rfl (by omega))
  refine lv_aload_n hx hb dX6_stay_10 rfl (lv_at hl 0 rfl) ?_
  refine va_get (D := D) (ci := 6) (v := .ref (h 15)) (C := RX6) (T := TX6) (N := 25) hx hb hB inX6 hown hK hP 0 rfl rfl 20 (by decide) (hB _ k3_17) (fun _ h9 => h9) rfl dX6_stay_11 ?_
  refine lv_aload_n hx hb dX6_stay_14 rfl (lv_at hl 0 rfl) ?_
  refine va_get (D := D) (ci := 6) (v := .int (S 24 0)) (C := RX6) (T := TX6) (N := 25) hx hb hB inX6 hown hK hP 0 rfl rfl 18 (by decide) (hB _ k3_15) (fun _ h9 => h9) rfl dX6_stay_15 ?_
  have b_3 : (0) ≤ (S 24 0).toInt ∧ (S 24 0).toInt ≤ 5000 := ivM_24 (S := upS 13 ((S 24 0).toNatClampNeg) a1 S) hI_2
  refine lv_iload_n hx hb dX6_stay_18 rfl (lv_at hl 2 rfl) ?_
  refine wstM_14 (S := upS 13 ((S 24 0).toNatClampNeg) a1 S) hx hb hK hP hD hS (vp_in_iff.mpr (by omega)) dX6_stay_19 (fun H locs hP hD hS => ?_)
  have hI_4 : IVM (upS 14 ((S 24 0).toNatClampNeg) a2 (upS 13 ((S 24 0).toNatClampNeg) a1 S)) := iv_upM (S := upS 13 ((S 24 0).toNatClampNeg) a1 S) hI_2 14 ((S 24 0).toNatClampNeg) a2 (iv_oneM 14 (0) 31 rfl (by omega))
  refine lv_aload_n hx hb dX6_stay_20 rfl (lv_at hl 0 rfl) ?_
  refine va_get (D := D) (ci := 6) (v := .ref (h 16)) (C := RX6) (T := TX6) (N := 25) hx hb hB inX6 hown hK hP 0 rfl rfl 21 (by decide) (hB _ k3_18) (fun _ h9 => h9) rfl dX6_stay_21 ?_
  refine lv_aload_n hx hb dX6_stay_24 rfl (lv_at hl 0 rfl) ?_
  refine va_get (D := D) (ci := 6) (v := .int (S 24 0)) (C := RX6) (T := TX6) (N := 25) hx hb hB inX6 hown hK hP 0 rfl rfl 18 (by decide) (hB _ k3_15) (fun _ h9 => h9) rfl dX6_stay_25 ?_
  have b_5 : (0) ≤ (S 24 0).toInt ∧ (S 24 0).toInt ≤ 5000 := ivM_24 (S := upS 14 ((S 24 0).toNatClampNeg) a2 (upS 13 ((S 24 0).toNatClampNeg) a1 S)) hI_4
  refine lv_iload_n hx hb dX6_stay_28 rfl (lv_at hl 3 rfl) ?_
  refine wstM_15 (S := upS 14 ((S 24 0).toNatClampNeg) a2 (upS 13 ((S 24 0).toNatClampNeg) a1 S)) hx hb hK hP hD hS (vp_in_iff.mpr (by omega)) dX6_stay_29 (fun H locs hP hD hS => ?_)
  have hI_6 : IVM (upS 15 ((S 24 0).toNatClampNeg) a3 (upS 14 ((S 24 0).toNatClampNeg) a2 (upS 13 ((S 24 0).toNatClampNeg) a1 S))) := iv_upM (S := upS 14 ((S 24 0).toNatClampNeg) a2 (upS 13 ((S 24 0).toNatClampNeg) a1 S)) hI_4 15 ((S 24 0).toNatClampNeg) a3 (iv_oneM 15 (0) 999 rfl (by omega))
  refine lv_aload_n hx hb dX6_stay_30 rfl (lv_at hl 0 rfl) ?_
  refine va_get (D := D) (ci := 6) (v := .ref (h 17)) (C := RX6) (T := TX6) (N := 25) hx hb hB inX6 hown hK hP 0 rfl rfl 22 (by decide) (hB _ k3_19) (fun _ h9 => h9) rfl dX6_stay_31 ?_
  refine lv_aload_n hx hb dX6_stay_34 rfl (lv_at hl 0 rfl) ?_
  refine va_get (D := D) (ci := 6) (v := .int (S 24 0)) (C := RX6) (T := TX6) (N := 25) hx hb hB inX6 hown hK hP 0 rfl rfl 18 (by decide) (hB _ k3_15) (fun _ h9 => h9) rfl dX6_stay_35 ?_
  have b_7 : (0) ≤ (S 24 0).toInt ∧ (S 24 0).toInt ≤ 5000 := ivM_24 (S := upS 15 ((S 24 0).toNatClampNeg) a3 (upS 14 ((S 24 0).toNatClampNeg) a2 (upS 13 ((S 24 0).toNatClampNeg) a1 S))) hI_6
  refine lv_aload_n hx hb dX6_stay_38 rfl (lv_at hl 0 rfl) ?_
  refine va_get (D := D) (ci := 6) (v := .int (S 19 0)) (C := RX6) (T := TX6) (N := 25) hx hb hB inX6 hown hK hP 0 rfl rfl 0 (by decide) (hB _ k2_237) (fun _ h9 => h9) rfl dX6_stay_39 ?_
  refine wstM_16 (S := upS 15 ((S 24 0).toNatClampNeg) a3 (upS 14 ((S 24 0).toNatClampNeg) a2 (upS 13 ((S 24 0).toNatClampNeg) a1 S))) hx hb hK hP hD hS (vp_in_iff.mpr (by omega)) dX6_stay_42 (fun H locs hP hD hS => ?_)
  have hI_8 : IVM (upS 16 ((S 24 0).toNatClampNeg) (S 19 0) (upS 15 ((S 24 0).toNatClampNeg) a3 (upS 14 ((S 24 0).toNatClampNeg) a2 (upS 13 ((S 24 0).toNatClampNeg) a1 S)))) := iv_upM (S := upS 15 ((S 24 0).toNatClampNeg) a3 (upS 14 ((S 24 0).toNatClampNeg) a2 (upS 13 ((S 24 0).toNatClampNeg) a1 S))) hI_6 16 ((S 24 0).toNatClampNeg) (S 19 0) (iv_noneM 16 rfl)
  refine lv_aload_n hx hb dX6_stay_43 rfl (lv_at hl 0 rfl) ?_
  refine va_get (D := D) (ci := 6) (v := .ref (h 18)) (C := RX6) (T := TX6) (N := 25) hx hb hB inX6 hown hK hP 0 rfl rfl 23 (by decide) (hB _ k3_20) (fun _ h9 => h9) rfl dX6_stay_44 ?_
  refine lv_aload_n hx hb dX6_stay_47 rfl (lv_at hl 0 rfl) ?_
  refine va_get (D := D) (ci := 6) (v := .int (S 24 0)) (C := RX6) (T := TX6) (N := 25) hx hb hB inX6 hown hK hP 0 rfl rfl 18 (by decide) (hB _ k3_15) (fun _ h9 => h9) rfl dX6_stay_48 ?_
  have b_9 : (0) ≤ (S 24 0).toInt ∧ (S 24 0).toInt ≤ 5000 := ivM_24 (S := upS 16 ((S 24 0).toNatClampNeg) (S 19 0) (upS 15 ((S 24 0).toNatClampNeg) a3 (upS 14 ((S 24 0).toNatClampNeg) a2 (upS 13 ((S 24 0).toNatClampNeg) a1 S)))) hI_8
  refine lv_ldc (v := 1000000000) hx hb hown (hB _ k3_149) dX6_stay_51 ?_
  refine wstM_17 (S := upS 16 ((S 24 0).toNatClampNeg) (S 19 0) (upS 15 ((S 24 0).toNatClampNeg) a3 (upS 14 ((S 24 0).toNatClampNeg) a2 (upS 13 ((S 24 0).toNatClampNeg) a1 S)))) hx hb hK hP hD hS (vp_in_iff.mpr (by omega)) dX6_stay_53 (fun H locs hP hD hS => ?_)
  have hI_10 : IVM (upS 17 ((S 24 0).toNatClampNeg) 1000000000 (upS 16 ((S 24 0).toNatClampNeg) (S 19 0) (upS 15 ((S 24 0).toNatClampNeg) a3 (upS 14 ((S 24 0).toNatClampNeg) a2 (upS 13 ((S 24 0).toNatClampNeg) a1 S))))) := iv_upM (S := upS 16 ((S 24 0).toNatClampNeg) (S 19 0) (upS 15 ((S 24 0).toNatClampNeg) a3 (upS 14 ((S 24 0).toNatClampNeg) a2 (upS 13 ((S 24 0).toNatClampNeg) a1 S)))) hI_8 17 ((S 24 0).toNatClampNeg) 1000000000 (iv_noneM 17 rfl)
  refine lv_aload_n hx hb dX6_stay_54 rfl (lv_at hl 0 rfl) ?_
  refine va_get (D := D) (ci := 6) (v := .ref (h 19)) (C := RX6) (T := TX6) (N := 25) hx hb hB inX6 hown hK hP 0 rfl rfl 24 (by decide) (hB _ k3_21) (fun _ h9 => h9) rfl dX6_stay_55 ?_
  refine lv_aload_n hx hb dX6_stay_58 rfl (lv_at hl 0 rfl) ?_
  refine va_get (D := D) (ci := 6) (v := .int (S 24 0)) (C := RX6) (T := TX6) (N := 25) hx hb hB inX6 hown hK hP 0 rfl rfl 18 (by decide) (hB _ k3_15) (fun _ h9 => h9) rfl dX6_stay_59 ?_
  have b_11 : (0) ≤ (S 24 0).toInt ∧ (S 24 0).toInt ≤ 5000 := ivM_24 (S := upS 17 ((S 24 0).toNatClampNeg) 1000000000 (upS 16 ((S 24 0).toNatClampNeg) (S 19 0) (upS 15 ((S 24 0).toNatClampNeg) a3 (upS 14 ((S 24 0).toNatClampNeg) a2 (upS 13 ((S 24 0).toNatClampNeg) a1 S))))) hI_10
  refine lv_iconst (v := 0) hx hb dX6_stay_62 (by decide) ?_
  refine wstM_18 (S := upS 17 ((S 24 0).toNatClampNeg) 1000000000 (upS 16 ((S 24 0).toNatClampNeg) (S 19 0) (upS 15 ((S 24 0).toNatClampNeg) a3 (upS 14 ((S 24 0).toNatClampNeg) a2 (upS 13 ((S 24 0).toNatClampNeg) a1 S))))) hx hb hK hP hD hS (vp_in_iff.mpr (by omega)) (by first | rfl | decide) dX6_stay_63 (fun H locs hP hD hS => ?_)
  have hI_12 : IVM (upS 18 ((S 24 0).toNatClampNeg) 0 (upS 17 ((S 24 0).toNatClampNeg) 1000000000 (upS 16 ((S 24 0).toNatClampNeg) (S 19 0) (upS 15 ((S 24 0).toNatClampNeg) a3 (upS 14 ((S 24 0).toNatClampNeg) a2 (upS 13 ((S 24 0).toNatClampNeg) a1 S)))))) := iv_upM (S := upS 17 ((S 24 0).toNatClampNeg) 1000000000 (upS 16 ((S 24 0).toNatClampNeg) (S 19 0) (upS 15 ((S 24 0).toNatClampNeg) a3 (upS 14 ((S 24 0).toNatClampNeg) a2 (upS 13 ((S 24 0).toNatClampNeg) a1 S))))) hI_10 18 ((S 24 0).toNatClampNeg) 0 (iv_oneM 18 (0) 1 rfl (by decide))
  refine lv_aload_n hx hb dX6_stay_64 rfl (lv_at hl 0 rfl) ?_
  refine lv_dup hx hb dX6_stay_65 rfl ?_
  refine va_get (D := D) (ci := 6) (v := .int (S 24 0)) (C := RX6) (T := TX6) (N := 25) hx hb hB inX6 hown hK hP 0 rfl rfl 18 (by decide) (hB _ k3_15) (fun _ h9 => h9) rfl dX6_stay_66 ?_
  have b_13 : (0) ≤ (S 24 0).toInt ∧ (S 24 0).toInt ≤ 5000 := ivM_24 (S := upS 18 ((S 24 0).toNatClampNeg) 0 (upS 17 ((S 24 0).toNatClampNeg) 1000000000 (upS 16 ((S 24 0).toNatClampNeg) (S 19 0) (upS 15 ((S 24 0).toNatClampNeg) a3 (upS 14 ((S 24 0).toNatClampNeg) a2 (upS 13 ((S 24 0).toNatClampNeg) a1 S)))))) hI_12
  refine lv_iconst (v := 1) hx hb dX6_stay_69 (by decide) ?_
  refine lv_iadd hx hb dX6_stay_70 ?_
  refine wpfM_24 (S := upS 18 ((S 24 0).toNatClampNeg) 0 (upS 17 ((S 24 0).toNatClampNeg) 1000000000 (upS 16 ((S 24 0).toNatClampNeg) (S 19 0) (upS 15 ((S 24 0).toNatClampNeg) a3 (upS 14 ((S 24 0).toNatClampNeg) a2 (upS 13 ((S 24 0).toNatClampNeg) a1 S)))))) hx hb hB hown hK hP hD hS (hB _ k3_15) dX6_stay_71 (fun H locs hP hD hS => ?_)
  have k_15 := i32_inc (x := (S 24 0)) (by omega) (by omega)
  have hI_14 : IVM (upS 24 0 ((S 24 0) + 1) (upS 18 ((S 24 0).toNatClampNeg) 0 (upS 17 ((S 24 0).toNatClampNeg) 1000000000 (upS 16 ((S 24 0).toNatClampNeg) (S 19 0) (upS 15 ((S 24 0).toNatClampNeg) a3 (upS 14 ((S 24 0).toNatClampNeg) a2 (upS 13 ((S 24 0).toNatClampNeg) a1 S))))))) := iv_upM (S := upS 18 ((S 24 0).toNatClampNeg) 0 (upS 17 ((S 24 0).toNatClampNeg) 1000000000 (upS 16 ((S 24 0).toNatClampNeg) (S 19 0) (upS 15 ((S 24 0).toNatClampNeg) a3 (upS 14 ((S 24 0).toNatClampNeg) a2 (upS 13 ((S 24 0).toNatClampNeg) a1 S)))))) hI_12 24 0 ((S 24 0) + 1) (iv_oneM 24 (0) 5000 rfl (by omega))
  exact W.vret hx hb hr (fun t ht hW => ⟨⟨upS 24 0 ((S 24 0) + 1) (upS 18 ((S 24 0).toNatClampNeg) 0 (upS 17 ((S 24 0).toNatClampNeg) 1000000000 (upS 16 ((S 24 0).toNatClampNeg) (S 19 0) (upS 15 ((S 24 0).toNatClampNeg) a3 (upS 14 ((S 24 0).toNatClampNeg) a2 (upS 13 ((S 24 0).toNatClampNeg) a1 S)))))), rfl, ⟨(by rw [F_M_stay]), hI_14⟩, by show va_P D vwCl _ t.heap; rw [ht]; exact hP⟩, hS.F ht⟩) hS.2.2 dX6_stay_74
set_option maxHeartbeats 4000000 in
set_option maxRecDepth 100000 in
theorem m_M_endStay (l : Launch) (D : va_G) (h : Nat → Nat) (cI cZ : ClassId) (S : BS) (hI : IVM S) (a1 a2 : Int32) (hHS : HSM S a1) (ha1 : 0 ≤ a2.toInt ∧ a2.toInt ≤ 1) : VMM l yX6_endStay wsX6_endStay { frames := 1, cells := 0, slots := 0, locals := 22 } D cI cZ h S [.ref (h 0), .int a1, .int a2] (F_M_endStay S a1 a2) := by
  refine Met.ofW (cc := cX6_endStay) (maxL := 4) (ret := none) (by decide) rfl ?_
  intro p e s m args below meth c s₁ B hml hv
  obtain ⟨rfl, hP, hK, hN, hD0⟩ := hv
  have hx := B.exec
  have hb := B.bytes
  have hr := B.returns
  have hts := atoms_spec (ws := wsX6_endStay) B.pre
  have hB : ∀ w ∈ BW, w.before _ s = true := fun w h => hts w (List.mem_cons_of_mem _ h)
  have hown : s.vm.findClass RX6 = some m.cls := findClass_of_methodNamed B.named
  have hlocks := B.notSynchronized
  have hD := bDM hD0
  have hS : va_S (bAM h) s.heap s.heap [] := va_S.rf
  have hl := lv_entry ([.ref (h 0), .int a1, .int a2]) (n := 4) (Nat.le_of_ble_eq_true rfl)
  rw [lg_entry_eq]
  generalize (lg_sl ([.ref (h 0), .int a1, .int a2]) ++ List.replicate (4 - (lg_sl ([.ref (h 0), .int a1, .int a2])).length) Slot.unset).toArray = ls at hl ⊢
  have hl : lv_has ls 4 [(0, .ref (h 0)), (1, .int a1), (2, .int a2)] := hl
  refine lv_aload_n hx hb dX6_endStay_0 rfl (lv_at hl 0 rfl) ?_
  refine lv_iload_n hx hb dX6_endStay_1 rfl (lv_at hl 1 rfl) ?_
  refine pu_callM (va_runV (As := [.int a1]) (rest := []) ⟨hx, hb, hml, hown, hB⟩ (m_M_stayOf l D h cI cZ S hI a1 (show HSM (S) a1 from hHS)) (cwV 1 hB (gV k3_141 k3_143 ks_342 k1_7 k3_144) rfl rfl rfl (by decide +kernel) ⟨Nat.le_of_ble_eq_true rfl, Nat.le_of_ble_eq_true rfl⟩) ⟨pu_blindM, va_recv hK hP (ci := 6) (q0 := 0) rfl rfl, pu_preM hP hK hN⟩ rfl rfl hl.1 rfl (lv_room (Nat.le_of_ble_eq_true rfl)) dX6_endStay_2 ⟨Nat.le_of_ble_eq_true rfl, Nat.le_of_ble_eq_true rfl⟩) hP hS (fun H locs hP hS => ?_)
  have k_1 := fc_M_stayOf (S := S) hI (a1 := a1) (show HSM (S) a1 from hHS)
  refine lv_istore_n (lv' := [(3, .int (f_M_stayOf S a1)), (0, .ref (h 0)), (1, .int a1), (2, .int a2)]) hx hb dX6_endStay_5 rfl hl (by decide) rfl (fun ls hl => ?_)
  refine lv_aload_n hx hb dX6_endStay_6 rfl (lv_at hl 1 rfl) ?_
  refine va_get (D := D) (ci := 6) (v := .ref (h 18)) (C := RX6) (T := TX6) (N := 25) hx hb hB inX6 hown hK hP 0 rfl rfl 23 (by decide) (hB _ k3_20) (fun _ h9 => h9) rfl dX6_endStay_7 ?_
  refine lv_iload_n hx hb dX6_endStay_10 rfl (lv_at hl 0 rfl) ?_
  refine lv_aload_n hx hb dX6_endStay_11 rfl (lv_at hl 1 rfl) ?_
  refine va_get (D := D) (ci := 6) (v := .int (S 19 0)) (C := RX6) (T := TX6) (N := 25) hx hb hB inX6 hown hK hP 0 rfl rfl 0 (by decide) (hB _ k2_237) (fun _ h9 => h9) rfl dX6_endStay_12 ?_
  refine wstM_17 (S := S) hx hb hK hP hD hS (vp_in_iff.mpr (by omega)) dX6_endStay_15 (fun H locs hP hD hS => ?_)
  have hI_2 : IVM (upS 17 ((f_M_stayOf S a1).toNatClampNeg) (S 19 0) S) := iv_upM (S := S) hI 17 ((f_M_stayOf S a1).toNatClampNeg) (S 19 0) (iv_noneM 17 rfl)
  refine lv_aload_n hx hb dX6_endStay_16 rfl (lv_at hl 1 rfl) ?_
  refine va_get (D := D) (ci := 6) (v := .ref (h 19)) (C := RX6) (T := TX6) (N := 25) hx hb hB inX6 hown hK hP 0 rfl rfl 24 (by decide) (hB _ k3_21) (fun _ h9 => h9) rfl dX6_endStay_17 ?_
  refine lv_iload_n hx hb dX6_endStay_20 rfl (lv_at hl 0 rfl) ?_
  refine lv_iload_n hx hb dX6_endStay_21 rfl (lv_at hl 3 rfl) ?_
  refine wstM_18 (S := upS 17 ((f_M_stayOf S a1).toNatClampNeg) (S 19 0) S) hx hb hK hP hD hS (vp_in_iff.mpr (by omega)) (vn01 (by omega)) dX6_endStay_22 (fun H locs hP hD hS => ?_)
  have hI_3 : IVM (upS 18 ((f_M_stayOf S a1).toNatClampNeg) a2 (upS 17 ((f_M_stayOf S a1).toNatClampNeg) (S 19 0) S)) := iv_upM (S := upS 17 ((f_M_stayOf S a1).toNatClampNeg) (S 19 0) S) hI_2 18 ((f_M_stayOf S a1).toNatClampNeg) a2 (iv_oneM 18 (0) 1 rfl (by omega))
  exact W.vret hx hb hr (fun t ht hW => ⟨⟨upS 18 ((f_M_stayOf S a1).toNatClampNeg) a2 (upS 17 ((f_M_stayOf S a1).toNatClampNeg) (S 19 0) S), rfl, ⟨(by rw [F_M_endStay]), hI_3⟩, by show va_P D vwCl _ t.heap; rw [ht]; exact hP⟩, hS.F ht⟩) hS.2.2 dX6_endStay_23
set_option maxHeartbeats 4000000 in
set_option maxRecDepth 100000 in
theorem m_M_pointWith (l : Launch) (D : va_G) (h : Nat → Nat) (cI cZ : ClassId) (S : BS) (hI : IVM S) (a1 a2 a3 : Int32) (hAS : ASM S) : PMM l yX6_pointWith wsX6_pointWith { frames := 2, cells := 0, slots := 0, locals := 43 } D cI cZ h S [.ref (h 0), .int a1, .int a2, .int a3] (f_M_pointWith S a1 a2 a3) := by
  refine Met.ofW (cc := cX6_pointWith) (maxL := 5) (ret := (some .int)) (by decide) rfl ?_
  intro p e s m args below meth c s₁ B hml hv
  obtain ⟨rfl, hP, hK, hN⟩ := hv
  have hx := B.exec
  have hb := B.bytes
  have hr := B.returns
  have hts := atoms_spec (ws := wsX6_pointWith) B.pre
  have hB : ∀ w ∈ BW, w.before _ s = true := fun w h => hts w (List.mem_cons_of_mem _ h)
  have hown : s.vm.findClass RX6 = some m.cls := findClass_of_methodNamed B.named
  have hlocks := B.notSynchronized
  have hS : va_S (fun _ => False) s.heap s.heap [] := va_S.rf
  have hl := lv_entry ([.ref (h 0), .int a1, .int a2, .int a3]) (n := 5) (Nat.le_of_ble_eq_true rfl)
  rw [lg_entry_eq]
  generalize (lg_sl ([.ref (h 0), .int a1, .int a2, .int a3]) ++ List.replicate (5 - (lg_sl ([.ref (h 0), .int a1, .int a2, .int a3])).length) Slot.unset).toArray = ls at hl ⊢
  have hl : lv_has ls 5 [(0, .ref (h 0)), (1, .int a1), (2, .int a2), (3, .int a3)] := hl
  refine lv_iconst (v := 0) hx hb dX6_pointWith_0 (by decide) ?_
  refine lv_istore (lv' := [(4, .int 0), (0, .ref (h 0)), (1, .int a1), (2, .int a2), (3, .int a3)]) hx hb dX6_pointWith_1 hl (by decide) rfl (fun ls hl => ?_)
  have loop3 : ∀ (n3 : Nat) (x4 : Int32) (H : Heap) (locs : List Loc) (ls : Array Slot), (0 ≤ x4.toInt ∧ x4.toInt ≤ 6000 ∧ 1 ≤ (n3 : Int) ∧ (S 23 0 : Int32).toInt - x4.toInt < (n3 : Int) ∧ (True)) → l_M_pointWith_3 S a1 a2 a3 n3 x4 = f_M_pointWith S a1 a2 a3 → va_P D vwCl (wBM h cI cZ S) H → va_S (fun _ => False) s.heap H locs → lv_has ls 5 [(0, .ref (h 0)), (1, .int a1), (2, .int a2), (3, .int a3), (4, .int x4)] → W p l e (headSpec wsX6_pointWith { frames := 2, cells := 0, slots := 0, locals := 43 }).room s m ([.ref (h 0), .int a1, .int a2, .int a3]).toArray below meth c H locs 0 0 (MQ below (PQ (f_M_pointWith S a1 a2 a3)) ([.ref (h 0), .int a1, .int a2, .int a3]).toArray s 0 0 (fun _ => False)) (F0 m 3 ls []) := by
    intro n3
    induction n3 with
    | zero =>
      intro x4 H locs ls hinv he3 hP hS hl
      exact absurd hinv.2.2.1 (by omega)
    | succ n3 ih3 =>
      intro x4 H locs ls hinv he3 hP hS hl
      obtain ⟨h0_3, hc_3, h1_3, hm_3, hex_3⟩ := hinv
      have hBd_3 := ivM_23 hI
      refine lv_iload hx hb dX6_pointWith_3 (lv_at hl 4 rfl) ?_
      refine lv_aload_n hx hb dX6_pointWith_5 rfl (lv_at hl 0 rfl) ?_
      refine va_get (D := D) (ci := 6) (v := .int (S 23 0)) (C := RX6) (T := TX6) (N := 25) hx hb hB inX6 hown hK hP 0 rfl rfl 14 (by decide) (hB _ k3_11) (fun _ h9 => h9) rfl dX6_pointWith_6 ?_
      have b_1 : (0) ≤ (S 23 0).toInt ∧ (S 23 0).toInt ≤ 120 := ivM_23 (S := S) hI
      refine lv_icmp_ge (tgt := 63) hx hb dX6_pointWith_9 (by decide) (fun c_2 => ?_) (fun c_2 => ?_)
      · skip
        have t_2 := Int32.le_iff_toInt_le.mp c_2
        refine lv_iconst (v := (-1)) hx hb dX6_pointWith_63 (by decide) ?_
        exact W.iret (v := (-1)) hx hb hr (fun t ht hW => ⟨⟨(-1), (), rfl, (by rw [← he3, l_M_pointWith_3, if_pos c_2]), trivial⟩, hS.F ht⟩) hS.2.2 dX6_pointWith_64
      · skip
        have t_2 := mt Int32.le_iff_toInt_le.mpr c_2
        refine lv_aload_n hx hb dX6_pointWith_12 rfl (lv_at hl 0 rfl) ?_
        refine va_get (D := D) (ci := 6) (v := .ref (h 13)) (C := RX6) (T := TX6) (N := 25) hx hb hB inX6 hown hK hP 0 rfl rfl 17 (by decide) (hB _ k3_14) (fun _ h9 => h9) rfl dX6_pointWith_13 ?_
        refine lv_iload hx hb dX6_pointWith_16 (lv_at hl 4 rfl) ?_
        refine va_zald (f := S 12) hx hb hK hP 13 1 rfl rfl (vp_in_iff.mpr (by omega)) dX6_pointWith_18 ?_
        have b_3 : (0) ≤ (S 12 x4.toNatClampNeg).toInt ∧ (S 12 x4.toNatClampNeg).toInt ≤ 1 := ivM_12 (S := S) hI x4.toNatClampNeg
        refine lv_if_eq (tgt := 57) hx hb dX6_pointWith_19 (by decide) (fun c_4 => ?_) (fun c_4 => ?_)
        · skip
          have z_0 : ((0) : Int32).toInt = (0) := by decide
          have t_4 := Int32.toInt_inj.symm.mp c_4
          refine lv_iinc (v := x4 + 1) (lv' := [(4, .int (x4 + 1)), (0, .ref (h 0)), (1, .int a1), (2, .int a2), (3, .int a3)]) hx hb dX6_pointWith_57 hl (k := 4) rfl rfl (by decide) rfl (fun ls hl => ?_)
          refine lv_goto (tgt := 3) hx hb dX6_pointWith_60 (by decide) ?_
          have hinc := i32_inc (x := x4) h0_3 (by omega)
          exact ih3 (x4 + 1) _ _ _ ⟨by omega, by omega, by omega, by omega, trivial⟩ (by first | (rw [← he3, l_M_pointWith_3, if_neg c_2, if_pos c_4]; done) | (rw [← he3, l_M_pointWith_3]; simp only [if_neg c_2, if_pos c_4])) hP hS (lv_sub hl [1, 2, 3, 4, 0] rfl)
        · skip
          have z_0 : ((0) : Int32).toInt = (0) := by decide
          have t_4 := mt Int32.toInt_inj.mp c_4
          refine lv_aload_n hx hb dX6_pointWith_22 rfl (lv_at hl 0 rfl) ?_
          refine va_get (D := D) (ci := 6) (v := .ref (h 11)) (C := RX6) (T := TX6) (N := 25) hx hb hB inX6 hown hK hP 0 rfl rfl 15 (by decide) (hB _ k3_12) (fun _ h9 => h9) rfl dX6_pointWith_23 ?_
          refine lv_iload hx hb dX6_pointWith_26 (lv_at hl 4 rfl) ?_
          refine va_iald (f := S 10) hx hb hK hP 11 0 rfl rfl (vp_in_iff.mpr (by omega)) dX6_pointWith_28 ?_
          have b_5 : (0) ≤ (S 10 x4.toNatClampNeg).toInt ∧ (S 10 x4.toNatClampNeg).toInt ≤ 79 := ivM_10 (S := S) hI x4.toNatClampNeg
          refine lv_iload_n hx hb dX6_pointWith_29 rfl (lv_at hl 1 rfl) ?_
          refine lv_icmp_ne (tgt := 57) hx hb dX6_pointWith_30 (by decide) (fun c_6 => ?_) (fun c_6 => ?_)
          · skip
            refine lv_iinc (v := x4 + 1) (lv' := [(4, .int (x4 + 1)), (0, .ref (h 0)), (1, .int a1), (2, .int a2), (3, .int a3)]) hx hb dX6_pointWith_57 hl (k := 4) rfl rfl (by decide) rfl (fun ls hl => ?_)
            refine lv_goto (tgt := 3) hx hb dX6_pointWith_60 (by decide) ?_
            have hinc := i32_inc (x := x4) h0_3 (by omega)
            exact ih3 (x4 + 1) _ _ _ ⟨by omega, by omega, by omega, by omega, trivial⟩ (by first | (rw [← he3, l_M_pointWith_3, if_neg c_2, if_neg c_4, if_neg c_6]; done) | (rw [← he3, l_M_pointWith_3]; simp only [if_neg c_2, if_neg c_4, if_neg c_6])) hP hS (lv_sub hl [1, 2, 3, 4, 0] rfl)
          · skip
            refine lv_aload_n hx hb dX6_pointWith_33 rfl (lv_at hl 0 rfl) ?_
            refine va_get (D := D) (ci := 6) (v := .ref (h 12)) (C := RX6) (T := TX6) (N := 25) hx hb hB inX6 hown hK hP 0 rfl rfl 16 (by decide) (hB _ k3_13) (fun _ h9 => h9) rfl dX6_pointWith_34 ?_
            refine lv_iload hx hb dX6_pointWith_37 (lv_at hl 4 rfl) ?_
            refine va_iald (f := S 11) hx hb hK hP 12 0 rfl rfl (vp_in_iff.mpr (by omega)) dX6_pointWith_39 ?_
            refine lv_iload_n hx hb dX6_pointWith_40 rfl (lv_at hl 3 rfl) ?_
            refine lv_icmp_ne (tgt := 57) hx hb dX6_pointWith_41 (by decide) (fun c_7 => ?_) (fun c_7 => ?_)
            · skip
              refine lv_iinc (v := x4 + 1) (lv' := [(4, .int (x4 + 1)), (0, .ref (h 0)), (1, .int a1), (2, .int a2), (3, .int a3)]) hx hb dX6_pointWith_57 hl (k := 4) rfl rfl (by decide) rfl (fun ls hl => ?_)
              refine lv_goto (tgt := 3) hx hb dX6_pointWith_60 (by decide) ?_
              have hinc := i32_inc (x := x4) h0_3 (by omega)
              exact ih3 (x4 + 1) _ _ _ ⟨by omega, by omega, by omega, by omega, trivial⟩ (by first | (rw [← he3, l_M_pointWith_3, if_neg c_2, if_neg c_4, if_pos c_6, if_neg c_7]; done) | (rw [← he3, l_M_pointWith_3]; simp only [if_neg c_2, if_neg c_4, if_pos c_6, if_neg c_7])) hP hS (lv_sub hl [1, 2, 3, 4, 0] rfl)
            · skip
              refine lv_aload_n hx hb dX6_pointWith_44 rfl (lv_at hl 0 rfl) ?_
              refine lv_iload hx hb dX6_pointWith_45 (lv_at hl 4 rfl) ?_
              refine pu_callM (va_runV (As := [.int x4]) (rest := []) ⟨hx, hb, hml, hown, hB⟩ (m_M_houseOf l D h cI cZ S hI x4 (((show ASM (S) from hAS)) x4 (by omega) (show (x4).toInt < (S 23 0).toInt by omega))) (cwV 1 hB (gV k3_137 k3_139 ks_354 k1_7 k3_140) rfl rfl rfl (by decide +kernel) ⟨Nat.le_of_ble_eq_true rfl, Nat.le_of_ble_eq_true rfl⟩) ⟨pu_blindM, va_recv hK hP (ci := 6) (q0 := 0) rfl rfl, pu_preM hP hK hN⟩ rfl rfl hl.1 rfl (lv_room (Nat.le_of_ble_eq_true rfl)) dX6_pointWith_47 ⟨Nat.le_of_ble_eq_true rfl, Nat.le_of_ble_eq_true rfl⟩) hP hS (fun H locs hP hS => ?_)
              have k_8 := fc_M_houseOf (S := S) hI x4
              refine lv_iload_n hx hb dX6_pointWith_50 rfl (lv_at hl 2 rfl) ?_
              refine lv_icmp_ne (tgt := 57) hx hb dX6_pointWith_51 (by decide) (fun c_9 => ?_) (fun c_9 => ?_)
              · skip
                refine lv_iinc (v := x4 + 1) (lv' := [(4, .int (x4 + 1)), (0, .ref (h 0)), (1, .int a1), (2, .int a2), (3, .int a3)]) hx hb dX6_pointWith_57 hl (k := 4) rfl rfl (by decide) rfl (fun ls hl => ?_)
                refine lv_goto (tgt := 3) hx hb dX6_pointWith_60 (by decide) ?_
                have hinc := i32_inc (x := x4) h0_3 (by omega)
                exact ih3 (x4 + 1) _ _ _ ⟨by omega, by omega, by omega, by omega, trivial⟩ (by first | (rw [← he3, l_M_pointWith_3, if_neg c_2, if_neg c_4, if_pos c_6, if_pos c_7, if_neg c_9]; done) | (rw [← he3, l_M_pointWith_3]; simp only [if_neg c_2, if_neg c_4, if_pos c_6, if_pos c_7, if_neg c_9])) hP hS (lv_sub hl [1, 2, 3, 4, 0] rfl)
              · skip
                refine lv_iload hx hb dX6_pointWith_54 (lv_at hl 4 rfl) ?_
                exact W.iret (v := x4) hx hb hr (fun t ht hW => ⟨⟨x4, (), rfl, (by rw [← he3, l_M_pointWith_3, if_neg c_2, if_neg c_4, if_pos c_6, if_pos c_7, if_pos c_9]), trivial⟩, hS.F ht⟩) hS.2.2 dX6_pointWith_56
  have z_0 : ((0) : Int32).toInt = (0) := by decide
  have hB9_3 := ivM_23 (S := S) hI
  exact loop3 600 0 _ _ _ ⟨by omega, by omega, by omega, by omega, trivial⟩ (by rw [f_M_pointWith]) hP hS (lv_sub hl [1, 2, 3, 4, 0] rfl)
set_option maxHeartbeats 4000000 in
set_option maxRecDepth 100000 in
theorem m_M_point (l : Launch) (D : va_G) (h : Nat → Nat) (cI cZ : ClassId) (S : BS) (hI : IVM S) (a1 a2 a3 : Int32) (hAS : ASM S) (hroom : (S 24 0).toInt ≤ 4999) : WMM l yX6_point wsX6_point { frames := 3, cells := 0, slots := 0, locals := 67 } D cI cZ h S [.ref (h 0), .int a1, .int a2, .int a3] (F_M_point S a1 a2 a3) := by
  refine Met.ofW (cc := cX6_point) (maxL := 4) (ret := (some .int)) (by decide) rfl ?_
  intro p e s m args below meth c s₁ B hml hv
  obtain ⟨rfl, hP, hK, hN, hD0⟩ := hv
  have hx := B.exec
  have hb := B.bytes
  have hr := B.returns
  have hts := atoms_spec (ws := wsX6_point) B.pre
  have hB : ∀ w ∈ BW, w.before _ s = true := fun w h => hts w (List.mem_cons_of_mem _ h)
  have hown : s.vm.findClass RX6 = some m.cls := findClass_of_methodNamed B.named
  have hlocks := B.notSynchronized
  have hD := bDM hD0
  have hS : va_S (bAM h) s.heap s.heap [] := va_S.rf
  have hl := lv_entry ([.ref (h 0), .int a1, .int a2, .int a3]) (n := 4) (Nat.le_of_ble_eq_true rfl)
  rw [lg_entry_eq]
  generalize (lg_sl ([.ref (h 0), .int a1, .int a2, .int a3]) ++ List.replicate (4 - (lg_sl ([.ref (h 0), .int a1, .int a2, .int a3])).length) Slot.unset).toArray = ls at hl ⊢
  have hl : lv_has ls 4 [(0, .ref (h 0)), (1, .int a1), (2, .int a2), (3, .int a3)] := hl
  refine lv_aload_n hx hb dX6_point_0 rfl (lv_at hl 0 rfl) ?_
  refine lv_iload_n hx hb dX6_point_1 rfl (lv_at hl 1 rfl) ?_
  refine pu_callM (va_runV (As := [.int a1]) (rest := []) ⟨hx, hb, hml, hown, hB⟩ (m_M_isRange l D h cI cZ S hI a1 ) (cwV 1 hB (gV k3_129 k3_131 ks_358 k1_7 k3_132) rfl rfl rfl (by decide +kernel) ⟨Nat.le_of_ble_eq_true rfl, Nat.le_of_ble_eq_true rfl⟩) ⟨pu_blindM, va_recv hK hP (ci := 6) (q0 := 0) rfl rfl, pu_preM hP hK hN⟩ rfl rfl hl.1 rfl (lv_room (Nat.le_of_ble_eq_true rfl)) dX6_point_2 ⟨Nat.le_of_ble_eq_true rfl, Nat.le_of_ble_eq_true rfl⟩) hP hS (fun H locs hP hS => ?_)
  refine lv_if_ne (tgt := 11) hx hb dX6_point_5 (by decide) (fun c_2 => ?_) (fun c_2 => ?_)
  · skip
    have t_2 := fb_M_isRange hI c_2
    refine lv_aload_n hx hb dX6_point_11 rfl (lv_at hl 0 rfl) ?_
    refine lv_iload_n hx hb dX6_point_12 rfl (lv_at hl 1 rfl) ?_
    refine lv_iload_n hx hb dX6_point_13 rfl (lv_at hl 2 rfl) ?_
    refine pu_callM (va_runV (As := [.int a1, .int a2]) (rest := []) ⟨hx, hb, hml, hown, hB⟩ (m_M_has l D h cI cZ S hI a1 a2 (by omega)) (cwV 2 hB (gV k3_117 k3_119 ks_315 k1_7 k3_120) rfl rfl rfl (by decide +kernel) ⟨Nat.le_of_ble_eq_true rfl, Nat.le_of_ble_eq_true rfl⟩) ⟨pu_blindM, va_recv hK hP (ci := 6) (q0 := 0) rfl rfl, pu_preM hP hK hN⟩ rfl rfl hl.1 rfl (lv_room (Nat.le_of_ble_eq_true rfl)) dX6_point_14 ⟨Nat.le_of_ble_eq_true rfl, Nat.le_of_ble_eq_true rfl⟩) hP hS (fun H locs hP hS => ?_)
    refine lv_if_eq (tgt := 30) hx hb dX6_point_17 (by decide) (fun c_4 => ?_) (fun c_4 => ?_)
    · skip
      refine lv_bipush (v := (-12)) hx hb dX6_point_30 (by decide) ?_
      exact W.iret (v := (-12)) hx hb hr (fun t ht hW => ⟨⟨(-12), S, rfl, ⟨(by rw [F_M_point, if_neg c_2, if_pos c_4]), hI⟩, by show va_P D vwCl _ t.heap; rw [ht]; exact hP⟩, hS.F ht⟩) hS.2.2 dX6_point_32
    · skip
      have t_4 := fb_M_has hI c_4
      refine lv_iload_n hx hb dX6_point_20 rfl (lv_at hl 3 rfl) ?_
      refine lv_iconst (v := 0) hx hb dX6_point_21 (by decide) ?_
      refine lv_bipush (v := 25) hx hb dX6_point_22 (by decide) ?_
      refine pu_callM (va_runS (As := [.int a3, .int 0, .int 25]) (rest := []) ⟨hx, hb, hml, hown, hB⟩ (m_M_in l D h cI cZ S hI a3 0 25 ) (cwS 3 hB (gS k3_78 k3_79 k1_7 k3_80) rfl rfl rfl (by decide +kernel) ⟨Nat.le_of_ble_eq_true rfl, Nat.le_of_ble_eq_true rfl⟩) ⟨pu_blindM, pu_preM hP hK hN⟩ rfl rfl hl.1 rfl (lv_room (Nat.le_of_ble_eq_true rfl)) dX6_point_24 ⟨Nat.le_of_ble_eq_true rfl, Nat.le_of_ble_eq_true rfl⟩) hP hS (fun H locs hP hS => ?_)
      refine lv_if_ne (tgt := 33) hx hb dX6_point_27 (by decide) (fun c_6 => ?_) (fun c_6 => ?_)
      · skip
        have z_0 : ((0) : Int32).toInt = (0) := by decide
        have z_25 : ((25) : Int32).toInt = (25) := by decide
        have t_6 := fb_M_in c_6
        refine lv_aload_n hx hb dX6_point_33 rfl (lv_at hl 0 rfl) ?_
        refine va_get (D := D) (ci := 6) (v := .ref (h 10)) (C := RX6) (T := TX6) (N := 25) hx hb hB inX6 hown hK hP 0 rfl rfl 13 (by decide) (hB _ k3_10) (fun _ h9 => h9) rfl dX6_point_34 ?_
        refine lv_iload_n hx hb dX6_point_37 rfl (lv_at hl 1 rfl) ?_
        refine va_zald (f := S 9) hx hb hK hP 10 1 rfl rfl (vp_in_iff.mpr (by omega)) dX6_point_38 ?_
        have b_7 : (0) ≤ (S 9 a1.toNatClampNeg).toInt ∧ (S 9 a1.toNatClampNeg).toInt ≤ 1 := ivM_9 (S := S) hI a1.toNatClampNeg
        refine lv_if_eq (tgt := 52) hx hb dX6_point_39 (by decide) (fun c_8 => ?_) (fun c_8 => ?_)
        · skip
          have t_8 := Int32.toInt_inj.symm.mp c_8
          refine lv_bipush (v := (-13)) hx hb dX6_point_52 (by decide) ?_
          exact W.iret (v := (-13)) hx hb hr (fun t ht hW => ⟨⟨(-13), S, rfl, ⟨(by rw [F_M_point, if_neg c_2, if_neg c_4, if_neg c_6, if_pos c_8]), hI⟩, by show va_P D vwCl _ t.heap; rw [ht]; exact hP⟩, hS.F ht⟩) hS.2.2 dX6_point_54
        · skip
          have t_8 := mt Int32.toInt_inj.mp c_8
          refine lv_aload_n hx hb dX6_point_42 rfl (lv_at hl 0 rfl) ?_
          refine lv_iload_n hx hb dX6_point_43 rfl (lv_at hl 1 rfl) ?_
          refine lv_iload_n hx hb dX6_point_44 rfl (lv_at hl 2 rfl) ?_
          refine lv_iload_n hx hb dX6_point_45 rfl (lv_at hl 3 rfl) ?_
          refine pu_callM (va_runV (As := [.int a1, .int a2, .int a3]) (rest := []) ⟨hx, hb, hml, hown, hB⟩ (m_M_pointWith l D h cI cZ S hI a1 a2 a3 (show ASM (S) from hAS)) (cwV 3 hB (gV k3_133 k3_135 ks_362 k1_7 k3_136) rfl rfl rfl (by decide +kernel) ⟨Nat.le_of_ble_eq_true rfl, Nat.le_of_ble_eq_true rfl⟩) ⟨pu_blindM, va_recv hK hP (ci := 6) (q0 := 0) rfl rfl, pu_preM hP hK hN⟩ rfl rfl hl.1 rfl (lv_room (Nat.le_of_ble_eq_true rfl)) dX6_point_46 ⟨Nat.le_of_ble_eq_true rfl, Nat.le_of_ble_eq_true rfl⟩) hP hS (fun H locs hP hS => ?_)
          refine lv_if_lt (tgt := 55) hx hb dX6_point_49 (by decide) (fun c_10 => ?_) (fun c_10 => ?_)
          · skip
            have t_10 := Int32.lt_iff_toInt_lt.mp c_10
            refine lv_aload_n hx hb dX6_point_55 rfl (lv_at hl 0 rfl) ?_
            refine va_get (D := D) (ci := 6) (v := .int (S 23 0)) (C := RX6) (T := TX6) (N := 25) hx hb hB inX6 hown hK hP 0 rfl rfl 14 (by decide) (hB _ k3_11) (fun _ h9 => h9) rfl dX6_point_56 ?_
            have b_11 : (0) ≤ (S 23 0).toInt ∧ (S 23 0).toInt ≤ 120 := ivM_23 (S := S) hI
            refine lv_bipush (v := 120) hx hb dX6_point_59 (by decide) ?_
            refine lv_icmp_ne (tgt := 67) hx hb dX6_point_61 (by decide) (fun c_12 => ?_) (fun c_12 => ?_)
            · skip
              have z_120 : ((120) : Int32).toInt = (120) := by decide
              have t_12 := mt Int32.toInt_inj.mp c_12
              refine lv_aload_n hx hb dX6_point_67 rfl (lv_at hl 0 rfl) ?_
              refine va_get (D := D) (ci := 6) (v := .ref (h 11)) (C := RX6) (T := TX6) (N := 25) hx hb hB inX6 hown hK hP 0 rfl rfl 15 (by decide) (hB _ k3_12) (fun _ h9 => h9) rfl dX6_point_68 ?_
              refine lv_aload_n hx hb dX6_point_71 rfl (lv_at hl 0 rfl) ?_
              refine va_get (D := D) (ci := 6) (v := .int (S 23 0)) (C := RX6) (T := TX6) (N := 25) hx hb hB inX6 hown hK hP 0 rfl rfl 14 (by decide) (hB _ k3_11) (fun _ h9 => h9) rfl dX6_point_72 ?_
              have b_13 : (0) ≤ (S 23 0).toInt ∧ (S 23 0).toInt ≤ 120 := ivM_23 (S := S) hI
              refine lv_iload_n hx hb dX6_point_75 rfl (lv_at hl 1 rfl) ?_
              refine wstM_10 (S := S) hx hb hK hP hD hS (vp_in_iff.mpr (by omega)) dX6_point_76 (fun H locs hP hD hS => ?_)
              have hI_14 : IVM (upS 10 ((S 23 0).toNatClampNeg) a1 S) := iv_upM (S := S) hI 10 ((S 23 0).toNatClampNeg) a1 (iv_oneM 10 (0) 79 rfl (by omega))
              refine lv_aload_n hx hb dX6_point_77 rfl (lv_at hl 0 rfl) ?_
              refine va_get (D := D) (ci := 6) (v := .ref (h 12)) (C := RX6) (T := TX6) (N := 25) hx hb hB inX6 hown hK hP 0 rfl rfl 16 (by decide) (hB _ k3_13) (fun _ h9 => h9) rfl dX6_point_78 ?_
              refine lv_aload_n hx hb dX6_point_81 rfl (lv_at hl 0 rfl) ?_
              refine va_get (D := D) (ci := 6) (v := .int (S 23 0)) (C := RX6) (T := TX6) (N := 25) hx hb hB inX6 hown hK hP 0 rfl rfl 14 (by decide) (hB _ k3_11) (fun _ h9 => h9) rfl dX6_point_82 ?_
              have b_15 : (0) ≤ (S 23 0).toInt ∧ (S 23 0).toInt ≤ 120 := ivM_23 (S := upS 10 ((S 23 0).toNatClampNeg) a1 S) hI_14
              refine lv_iload_n hx hb dX6_point_85 rfl (lv_at hl 3 rfl) ?_
              refine wstM_11 (S := upS 10 ((S 23 0).toNatClampNeg) a1 S) hx hb hK hP hD hS (vp_in_iff.mpr (by omega)) dX6_point_86 (fun H locs hP hD hS => ?_)
              have hI_16 : IVM (upS 11 ((S 23 0).toNatClampNeg) a3 (upS 10 ((S 23 0).toNatClampNeg) a1 S)) := iv_upM (S := upS 10 ((S 23 0).toNatClampNeg) a1 S) hI_14 11 ((S 23 0).toNatClampNeg) a3 (iv_noneM 11 rfl)
              refine lv_aload_n hx hb dX6_point_87 rfl (lv_at hl 0 rfl) ?_
              refine va_get (D := D) (ci := 6) (v := .ref (h 13)) (C := RX6) (T := TX6) (N := 25) hx hb hB inX6 hown hK hP 0 rfl rfl 17 (by decide) (hB _ k3_14) (fun _ h9 => h9) rfl dX6_point_88 ?_
              refine lv_aload_n hx hb dX6_point_91 rfl (lv_at hl 0 rfl) ?_
              refine va_get (D := D) (ci := 6) (v := .int (S 23 0)) (C := RX6) (T := TX6) (N := 25) hx hb hB inX6 hown hK hP 0 rfl rfl 14 (by decide) (hB _ k3_11) (fun _ h9 => h9) rfl dX6_point_92 ?_
              have b_17 : (0) ≤ (S 23 0).toInt ∧ (S 23 0).toInt ≤ 120 := ivM_23 (S := upS 11 ((S 23 0).toNatClampNeg) a3 (upS 10 ((S 23 0).toNatClampNeg) a1 S)) hI_16
              refine lv_iconst (v := 1) hx hb dX6_point_95 (by decide) ?_
              refine wstM_12 (S := upS 11 ((S 23 0).toNatClampNeg) a3 (upS 10 ((S 23 0).toNatClampNeg) a1 S)) hx hb hK hP hD hS (vp_in_iff.mpr (by omega)) (by first | rfl | decide) dX6_point_96 (fun H locs hP hD hS => ?_)
              have hI_18 : IVM (upS 12 ((S 23 0).toNatClampNeg) 1 (upS 11 ((S 23 0).toNatClampNeg) a3 (upS 10 ((S 23 0).toNatClampNeg) a1 S))) := iv_upM (S := upS 11 ((S 23 0).toNatClampNeg) a3 (upS 10 ((S 23 0).toNatClampNeg) a1 S)) hI_16 12 ((S 23 0).toNatClampNeg) 1 (iv_oneM 12 (0) 1 rfl (by decide))
              refine lv_aload_n hx hb dX6_point_97 rfl (lv_at hl 0 rfl) ?_
              refine lv_dup hx hb dX6_point_98 rfl ?_
              refine va_get (D := D) (ci := 6) (v := .int (S 23 0)) (C := RX6) (T := TX6) (N := 25) hx hb hB inX6 hown hK hP 0 rfl rfl 14 (by decide) (hB _ k3_11) (fun _ h9 => h9) rfl dX6_point_99 ?_
              have b_19 : (0) ≤ (S 23 0).toInt ∧ (S 23 0).toInt ≤ 120 := ivM_23 (S := upS 12 ((S 23 0).toNatClampNeg) 1 (upS 11 ((S 23 0).toNatClampNeg) a3 (upS 10 ((S 23 0).toNatClampNeg) a1 S))) hI_18
              refine lv_iconst (v := 1) hx hb dX6_point_102 (by decide) ?_
              refine lv_iadd hx hb dX6_point_103 ?_
              refine wpfM_23 (S := upS 12 ((S 23 0).toNatClampNeg) 1 (upS 11 ((S 23 0).toNatClampNeg) a3 (upS 10 ((S 23 0).toNatClampNeg) a1 S))) hx hb hB hown hK hP hD hS (hB _ k3_11) dX6_point_104 (fun H locs hP hD hS => ?_)
              have k_21 := i32_inc (x := (S 23 0)) (by omega) (by omega)
              have hI_20 : IVM (upS 23 0 ((S 23 0) + 1) (upS 12 ((S 23 0).toNatClampNeg) 1 (upS 11 ((S 23 0).toNatClampNeg) a3 (upS 10 ((S 23 0).toNatClampNeg) a1 S)))) := iv_upM (S := upS 12 ((S 23 0).toNatClampNeg) 1 (upS 11 ((S 23 0).toNatClampNeg) a3 (upS 10 ((S 23 0).toNatClampNeg) a1 S))) hI_18 23 0 ((S 23 0) + 1) (iv_oneM 23 (0) 120 rfl (by omega))
              refine lv_aload_n hx hb dX6_point_107 rfl (lv_at hl 0 rfl) ?_
              refine lv_aload_n hx hb dX6_point_108 rfl (lv_at hl 0 rfl) ?_
              refine va_get (D := D) (ci := 6) (v := .int ((S 23 0) + 1)) (C := RX6) (T := TX6) (N := 25) hx hb hB inX6 hown hK hP 0 rfl rfl 14 (by decide) (hB _ k3_11) (fun _ h9 => h9) rfl dX6_point_109 ?_
              have b_22 : (0) ≤ ((S 23 0) + 1).toInt ∧ ((S 23 0) + 1).toInt ≤ 120 := ivM_23 (S := upS 23 0 ((S 23 0) + 1) (upS 12 ((S 23 0).toNatClampNeg) 1 (upS 11 ((S 23 0).toNatClampNeg) a3 (upS 10 ((S 23 0).toNatClampNeg) a1 S)))) hI_20
              refine lv_iconst (v := 1) hx hb dX6_point_112 (by decide) ?_
              refine lv_isub hx hb dX6_point_113 ?_
              have z_1 : ((1) : Int32).toInt = (1) := by decide
              have k_23 := i32_sub (x := (S 23 0) + 1) (y := 1) (by omega) (by omega)
              refine lv_aload_n hx hb dX6_point_114 rfl (lv_at hl 0 rfl) ?_
              refine va_get (D := D) (ci := 6) (v := .ref (h 6)) (C := RX6) (T := TX6) (N := 25) hx hb hB inX6 hown hK hP 0 rfl rfl 9 (by decide) (hB _ k3_6) (fun _ h9 => h9) rfl dX6_point_115 ?_
              refine lv_iload_n hx hb dX6_point_118 rfl (lv_at hl 1 rfl) ?_
              refine va_iald (f := S 5) hx hb hK hP 6 0 rfl rfl (vp_in_iff.mpr (by omega)) dX6_point_119 ?_
              have b_24 : (0) ≤ (S 5 a1.toNatClampNeg).toInt ∧ (S 5 a1.toNatClampNeg).toInt ≤ 31 := ivM_5 (S := upS 23 0 ((S 23 0) + 1) (upS 12 ((S 23 0).toNatClampNeg) 1 (upS 11 ((S 23 0).toNatClampNeg) a3 (upS 10 ((S 23 0).toNatClampNeg) a1 S)))) hI_20 a1.toNatClampNeg
              refine lv_iload_n hx hb dX6_point_120 rfl (lv_at hl 2 rfl) ?_
              refine wv_callM (va_runV (As := [.int (((S 23 0) + 1) - 1), .int (S 5 a1.toNatClampNeg), .int a2]) (rest := []) ⟨hx, hb, hml, hown, hB⟩ (m_M_stay l D h cI cZ (upS 23 0 ((S 23 0) + 1) (upS 12 ((S 23 0).toNatClampNeg) 1 (upS 11 ((S 23 0).toNatClampNeg) a3 (upS 10 ((S 23 0).toNatClampNeg) a1 S)))) hI_20 (((S 23 0) + 1) - 1) (S 5 a1.toNatClampNeg) a2 (show (S 24 0).toInt ≤ 4999 by omega) (by omega) (by omega) (by omega)) (cwV 3 hB (gV k3_145 k3_147 ks_366 k1_7 k3_148) rfl rfl rfl (by decide +kernel) ⟨Nat.le_of_ble_eq_true rfl, Nat.le_of_ble_eq_true rfl⟩) ⟨wr_blindM, va_recv hK hP (ci := 6) (q0 := 0) rfl rfl, wr_preM hP hK hN hD⟩ rfl rfl hl.1 rfl (lv_room (Nat.le_of_ble_eq_true rfl)) dX6_point_121 ⟨Nat.le_of_ble_eq_true rfl, Nat.le_of_ble_eq_true rfl⟩) hS (fun H locs hP hI_25 hS => ?_)
              have hD := wDM (S2 := (F_M_stay (upS 23 0 ((S 23 0) + 1) (upS 12 ((S 23 0).toNatClampNeg) 1 (upS 11 ((S 23 0).toNatClampNeg) a3 (upS 10 ((S 23 0).toNatClampNeg) a1 S)))) (((S 23 0) + 1) - 1) (S 5 a1.toNatClampNeg) a2)) hD
              refine lv_aload_n hx hb dX6_point_124 rfl (lv_at hl 0 rfl) ?_
              refine va_get (D := D) (ci := 6) (v := .int ((S 23 0) + 1)) (C := RX6) (T := TX6) (N := 25) hx hb hB inX6 hown hK hP 0 rfl rfl 14 (by decide) (hB _ k3_11) (fun _ h9 => h9) rfl dX6_point_125 ?_
              have b_27 : (0) ≤ ((S 23 0) + 1).toInt ∧ ((S 23 0) + 1).toInt ≤ 120 := ivM_23 (S := (F_M_stay (upS 23 0 ((S 23 0) + 1) (upS 12 ((S 23 0).toNatClampNeg) 1 (upS 11 ((S 23 0).toNatClampNeg) a3 (upS 10 ((S 23 0).toNatClampNeg) a1 S)))) (((S 23 0) + 1) - 1) (S 5 a1.toNatClampNeg) a2)) hI_25
              refine lv_iconst (v := 1) hx hb dX6_point_128 (by decide) ?_
              refine lv_isub hx hb dX6_point_129 ?_
              have k_28 := i32_sub (x := (S 23 0) + 1) (y := 1) (by omega) (by omega)
              exact W.iret (v := ((S 23 0) + 1) - 1) hx hb hr (fun t ht hW => ⟨⟨((S 23 0) + 1) - 1, (F_M_stay (upS 23 0 ((S 23 0) + 1) (upS 12 ((S 23 0).toNatClampNeg) 1 (upS 11 ((S 23 0).toNatClampNeg) a3 (upS 10 ((S 23 0).toNatClampNeg) a1 S)))) (((S 23 0) + 1) - 1) (S 5 a1.toNatClampNeg) a2), rfl, ⟨(by rw [F_M_point, if_neg c_2, if_neg c_4, if_neg c_6, if_neg c_8, if_pos c_10, if_neg c_12]), hI_25⟩, by show va_P D vwCl _ t.heap; rw [ht]; exact hP⟩, hS.F ht⟩) hS.2.2 dX6_point_130
            · skip
              have z_120 : ((120) : Int32).toInt = (120) := by decide
              have t_12 := Int32.toInt_inj.symm.mp c_12
              refine lv_bipush (v := (-14)) hx hb dX6_point_64 (by decide) ?_
              exact W.iret (v := (-14)) hx hb hr (fun t ht hW => ⟨⟨(-14), S, rfl, ⟨(by rw [F_M_point, if_neg c_2, if_neg c_4, if_neg c_6, if_neg c_8, if_pos c_10, if_pos c_12]), hI⟩, by show va_P D vwCl _ t.heap; rw [ht]; exact hP⟩, hS.F ht⟩) hS.2.2 dX6_point_66
          · skip
            have t_10 := mt Int32.lt_iff_toInt_lt.mpr c_10
            refine lv_bipush (v := (-13)) hx hb dX6_point_52 (by decide) ?_
            exact W.iret (v := (-13)) hx hb hr (fun t ht hW => ⟨⟨(-13), S, rfl, ⟨(by rw [F_M_point, if_neg c_2, if_neg c_4, if_neg c_6, if_neg c_8, if_neg c_10]), hI⟩, by show va_P D vwCl _ t.heap; rw [ht]; exact hP⟩, hS.F ht⟩) hS.2.2 dX6_point_54
      · skip
        refine lv_bipush (v := (-12)) hx hb dX6_point_30 (by decide) ?_
        exact W.iret (v := (-12)) hx hb hr (fun t ht hW => ⟨⟨(-12), S, rfl, ⟨(by rw [F_M_point, if_neg c_2, if_neg c_4, if_pos c_6]), hI⟩, by show va_P D vwCl _ t.heap; rw [ht]; exact hP⟩, hS.F ht⟩) hS.2.2 dX6_point_32
  · skip
    refine lv_bipush (v := (-11)) hx hb dX6_point_8 (by decide) ?_
    exact W.iret (v := (-11)) hx hb hr (fun t ht hW => ⟨⟨(-11), S, rfl, ⟨(by rw [F_M_point, if_pos c_2]), hI⟩, by show va_P D vwCl _ t.heap; rw [ht]; exact hP⟩, hS.F ht⟩) hS.2.2 dX6_point_10
set_option maxHeartbeats 4000000 in
set_option maxRecDepth 100000 in
theorem m_M_close (l : Launch) (D : va_G) (h : Nat → Nat) (cI cZ : ClassId) (S : BS) (hI : IVM S) (a1 : Int32) (ha0 : 0 ≤ a1.toInt ∧ a1.toInt ≤ 79) (hAS : ASM S) : WMM l yX6_close wsX6_close { frames := 2, cells := 0, slots := 0, locals := 45 } D cI cZ h S [.ref (h 0), .int a1] (F_M_close S a1) := by
  refine Met.ofW (cc := cX6_close) (maxL := 4) (ret := (some .int)) (by decide) rfl ?_
  intro p e s m args below meth c s₁ B hml hv
  obtain ⟨rfl, hP, hK, hN, hD0⟩ := hv
  have hx := B.exec
  have hb := B.bytes
  have hr := B.returns
  have hts := atoms_spec (ws := wsX6_close) B.pre
  have hB : ∀ w ∈ BW, w.before _ s = true := fun w h => hts w (List.mem_cons_of_mem _ h)
  have hown : s.vm.findClass RX6 = some m.cls := findClass_of_methodNamed B.named
  have hlocks := B.notSynchronized
  have hD := bDM hD0
  have hS : va_S (bAM h) s.heap s.heap [] := va_S.rf
  have hl := lv_entry ([.ref (h 0), .int a1]) (n := 4) (Nat.le_of_ble_eq_true rfl)
  rw [lg_entry_eq]
  generalize (lg_sl ([.ref (h 0), .int a1]) ++ List.replicate (4 - (lg_sl ([.ref (h 0), .int a1])).length) Slot.unset).toArray = ls at hl ⊢
  have hl : lv_has ls 4 [(0, .ref (h 0)), (1, .int a1)] := hl
  refine lv_iconst (v := 0) hx hb dX6_close_0 (by decide) ?_
  refine lv_istore_n (lv' := [(2, .int 0), (0, .ref (h 0)), (1, .int a1)]) hx hb dX6_close_1 rfl hl (by decide) rfl (fun ls hl => ?_)
  refine lv_aload_n hx hb dX6_close_2 rfl (lv_at hl 1 rfl) ?_
  refine va_get (D := D) (ci := 6) (v := .ref (h 10)) (C := RX6) (T := TX6) (N := 25) hx hb hB inX6 hown hK hP 0 rfl rfl 13 (by decide) (hB _ k3_10) (fun _ h9 => h9) rfl dX6_close_3 ?_
  refine lv_iload_n hx hb dX6_close_6 rfl (lv_at hl 2 rfl) ?_
  refine lv_iconst (v := 0) hx hb dX6_close_7 (by decide) ?_
  refine wstM_9 (S := S) hx hb hK hP hD hS (vp_in_iff.mpr (by omega)) (by first | rfl | decide) dX6_close_8 (fun H locs hP hD hS => ?_)
  have hI_1 : IVM (upS 9 a1.toNatClampNeg 0 S) := iv_upM (S := S) hI 9 a1.toNatClampNeg 0 (iv_oneM 9 (0) 1 rfl (by decide))
  refine lv_iconst (v := 0) hx hb dX6_close_9 (by decide) ?_
  refine lv_istore_n (lv' := [(3, .int 0), (2, .int 0), (0, .ref (h 0)), (1, .int a1)]) hx hb dX6_close_10 rfl hl (by decide) rfl (fun ls hl => ?_)
  have loop11 : ∀ (n11 : Nat) (Z : BS) (x2 x3 : Int32) (H : Heap) (locs : List Loc) (ls : Array Slot), IVM Z → (0 ≤ x3.toInt ∧ x3.toInt ≤ 6000 ∧ 1 ≤ (n11 : Int) ∧ (Z 23 0 : Int32).toInt - x3.toInt < (n11 : Int) ∧ (ASM Z)) → l_M_close_11 a1 n11 Z x2 x3 = F_M_close S a1 → va_P D vwCl (wBM h cI cZ Z) H → va_D (bAM h) (wBM h cI cZ Z) → va_S (bAM h) s.heap H locs → lv_has ls 4 [(0, .ref (h 0)), (1, .int a1), (2, .int x2), (3, .int x3)] → W p l e (headSpec wsX6_close { frames := 2, cells := 0, slots := 0, locals := 45 }).room s m ([.ref (h 0), .int a1]).toArray below meth c H locs 0 0 (MQ below (WQM D cI cZ h (F_M_close S a1)) ([.ref (h 0), .int a1]).toArray s 0 0 (bAM h)) (F0 m 11 ls []) := by
    intro n11
    induction n11 with
    | zero =>
      intro Z x2 x3 H locs ls hI hinv he11 hP hD hS hl
      exact absurd hinv.2.2.1 (by omega)
    | succ n11 ih11 =>
      intro Z x2 x3 H locs ls hI hinv he11 hP hD hS hl
      obtain ⟨h0_11, hc_11, h1_11, hm_11, hex_11⟩ := hinv
      have hBd_11 := ivM_23 hI
      refine lv_iload_n hx hb dX6_close_11 rfl (lv_at hl 3 rfl) ?_
      refine lv_aload_n hx hb dX6_close_12 rfl (lv_at hl 0 rfl) ?_
      refine va_get (D := D) (ci := 6) (v := .int (Z 23 0)) (C := RX6) (T := TX6) (N := 25) hx hb hB inX6 hown hK hP 0 rfl rfl 14 (by decide) (hB _ k3_11) (fun _ h9 => h9) rfl dX6_close_13 ?_
      have b_2 : (0) ≤ (Z 23 0).toInt ∧ (Z 23 0).toInt ≤ 120 := ivM_23 (S := Z) hI
      refine lv_icmp_ge (tgt := 60) hx hb dX6_close_16 (by decide) (fun c_3 => ?_) (fun c_3 => ?_)
      · skip
        have t_3 := Int32.le_iff_toInt_le.mp c_3
        refine lv_iload_n hx hb dX6_close_60 rfl (lv_at hl 2 rfl) ?_
        exact W.iret (v := x2) hx hb hr (fun t ht hW => ⟨⟨x2, Z, rfl, ⟨(by rw [← he11, l_M_close_11, if_pos c_3]), hI⟩, by show va_P D vwCl _ t.heap; rw [ht]; exact hP⟩, hS.F ht⟩) hS.2.2 dX6_close_61
      · skip
        have t_3 := mt Int32.le_iff_toInt_le.mpr c_3
        refine lv_aload_n hx hb dX6_close_19 rfl (lv_at hl 0 rfl) ?_
        refine va_get (D := D) (ci := 6) (v := .ref (h 13)) (C := RX6) (T := TX6) (N := 25) hx hb hB inX6 hown hK hP 0 rfl rfl 17 (by decide) (hB _ k3_14) (fun _ h9 => h9) rfl dX6_close_20 ?_
        refine lv_iload_n hx hb dX6_close_23 rfl (lv_at hl 3 rfl) ?_
        refine va_zald (f := Z 12) hx hb hK hP 13 1 rfl rfl (vp_in_iff.mpr (by omega)) dX6_close_24 ?_
        have b_4 : (0) ≤ (Z 12 x3.toNatClampNeg).toInt ∧ (Z 12 x3.toNatClampNeg).toInt ≤ 1 := ivM_12 (S := Z) hI x3.toNatClampNeg
        refine lv_if_eq (tgt := 54) hx hb dX6_close_25 (by decide) (fun c_5 => ?_) (fun c_5 => ?_)
        · skip
          have z_0 : ((0) : Int32).toInt = (0) := by decide
          have t_5 := Int32.toInt_inj.symm.mp c_5
          refine lv_iinc (v := x3 + 1) (lv' := [(3, .int (x3 + 1)), (0, .ref (h 0)), (1, .int a1), (2, .int x2)]) hx hb dX6_close_54 hl (k := 3) rfl rfl (by decide) rfl (fun ls hl => ?_)
          refine lv_goto (tgt := 11) hx hb dX6_close_57 (by decide) ?_
          have hinc := i32_inc (x := x3) h0_11 (by omega)
          have e9 : (Z) 23 0 = Z 23 0 := rfl
          exact ih11 Z x2 (x3 + 1) _ _ _ hI ⟨by omega, by omega, by omega, by rw [e9]; omega, hex_11⟩ (by first | (rw [← he11, l_M_close_11, if_neg c_3, if_pos c_5]; done) | (rw [← he11, l_M_close_11]; simp only [if_neg c_3, if_pos c_5])) hP hD hS (lv_sub hl [1, 2, 3, 0] rfl)
        · skip
          have z_0 : ((0) : Int32).toInt = (0) := by decide
          have t_5 := mt Int32.toInt_inj.mp c_5
          refine lv_aload_n hx hb dX6_close_28 rfl (lv_at hl 0 rfl) ?_
          refine va_get (D := D) (ci := 6) (v := .ref (h 11)) (C := RX6) (T := TX6) (N := 25) hx hb hB inX6 hown hK hP 0 rfl rfl 15 (by decide) (hB _ k3_12) (fun _ h9 => h9) rfl dX6_close_29 ?_
          refine lv_iload_n hx hb dX6_close_32 rfl (lv_at hl 3 rfl) ?_
          refine va_iald (f := Z 10) hx hb hK hP 11 0 rfl rfl (vp_in_iff.mpr (by omega)) dX6_close_33 ?_
          have b_6 : (0) ≤ (Z 10 x3.toNatClampNeg).toInt ∧ (Z 10 x3.toNatClampNeg).toInt ≤ 79 := ivM_10 (S := Z) hI x3.toNatClampNeg
          refine lv_iload_n hx hb dX6_close_34 rfl (lv_at hl 1 rfl) ?_
          refine lv_icmp_ne (tgt := 54) hx hb dX6_close_35 (by decide) (fun c_7 => ?_) (fun c_7 => ?_)
          · skip
            refine lv_iinc (v := x3 + 1) (lv' := [(3, .int (x3 + 1)), (0, .ref (h 0)), (1, .int a1), (2, .int x2)]) hx hb dX6_close_54 hl (k := 3) rfl rfl (by decide) rfl (fun ls hl => ?_)
            refine lv_goto (tgt := 11) hx hb dX6_close_57 (by decide) ?_
            have hinc := i32_inc (x := x3) h0_11 (by omega)
            have e9 : (Z) 23 0 = Z 23 0 := rfl
            exact ih11 Z x2 (x3 + 1) _ _ _ hI ⟨by omega, by omega, by omega, by rw [e9]; omega, hex_11⟩ (by first | (rw [← he11, l_M_close_11, if_neg c_3, if_neg c_5, if_neg c_7]; done) | (rw [← he11, l_M_close_11]; simp only [if_neg c_3, if_neg c_5, if_neg c_7])) hP hD hS (lv_sub hl [1, 2, 3, 0] rfl)
          · skip
            refine lv_aload_n hx hb dX6_close_38 rfl (lv_at hl 0 rfl) ?_
            refine va_get (D := D) (ci := 6) (v := .ref (h 13)) (C := RX6) (T := TX6) (N := 25) hx hb hB inX6 hown hK hP 0 rfl rfl 17 (by decide) (hB _ k3_14) (fun _ h9 => h9) rfl dX6_close_39 ?_
            refine lv_iload_n hx hb dX6_close_42 rfl (lv_at hl 3 rfl) ?_
            refine lv_iconst (v := 0) hx hb dX6_close_43 (by decide) ?_
            refine wstM_12 (S := Z) hx hb hK hP hD hS (vp_in_iff.mpr (by omega)) (by first | rfl | decide) dX6_close_44 (fun H locs hP hD hS => ?_)
            have hI_8 : IVM (upS 12 x3.toNatClampNeg 0 Z) := iv_upM (S := Z) hI 12 x3.toNatClampNeg 0 (iv_oneM 12 (0) 1 rfl (by decide))
            refine lv_aload_n hx hb dX6_close_45 rfl (lv_at hl 0 rfl) ?_
            refine lv_iload_n hx hb dX6_close_46 rfl (lv_at hl 3 rfl) ?_
            refine lv_iconst (v := 0) hx hb dX6_close_47 (by decide) ?_
            refine wv_callM (va_runV (As := [.int x3, .int 0]) (rest := []) ⟨hx, hb, hml, hown, hB⟩ (m_M_endStay l D h cI cZ (upS 12 x3.toNatClampNeg 0 Z) hI_8 x3 0 (((show ASM (upS 12 x3.toNatClampNeg 0 Z) from hex_11)) x3 (by omega) (show (x3).toInt < (Z 23 0).toInt by omega)) (by decide)) (cwV 2 hB (gV k3_170 k3_172 ks_370 k1_7 k3_173) rfl rfl rfl (by decide +kernel) ⟨Nat.le_of_ble_eq_true rfl, Nat.le_of_ble_eq_true rfl⟩) ⟨wr_blindM, va_recv hK hP (ci := 6) (q0 := 0) rfl rfl, wr_preM hP hK hN hD⟩ rfl rfl hl.1 rfl (lv_room (Nat.le_of_ble_eq_true rfl)) dX6_close_48 ⟨Nat.le_of_ble_eq_true rfl, Nat.le_of_ble_eq_true rfl⟩) hS (fun H locs hP hI_9 hS => ?_)
            have hD := wDM (S2 := (F_M_endStay (upS 12 x3.toNatClampNeg 0 Z) x3 0)) hD
            refine lv_iinc (v := x2 + 1) (lv' := [(2, .int (x2 + 1)), (0, .ref (h 0)), (1, .int a1), (3, .int x3)]) hx hb dX6_close_51 hl (k := 2) rfl rfl (by decide) rfl (fun ls hl => ?_)
            refine lv_iinc (v := x3 + 1) (lv' := [(3, .int (x3 + 1)), (2, .int (x2 + 1)), (0, .ref (h 0)), (1, .int a1)]) hx hb dX6_close_54 hl (k := 3) rfl rfl (by decide) rfl (fun ls hl => ?_)
            refine lv_goto (tgt := 11) hx hb dX6_close_57 (by decide) ?_
            have hinc := i32_inc (x := x3) h0_11 (by omega)
            have e9 : ((F_M_endStay (upS 12 x3.toNatClampNeg 0 Z) x3 0)) 23 0 = Z 23 0 := rfl
            exact ih11 (F_M_endStay (upS 12 x3.toNatClampNeg 0 Z) x3 0) (x2 + 1) (x3 + 1) _ _ _ hI_9 ⟨by omega, by omega, by omega, by rw [e9]; omega, hex_11⟩ (by first | (rw [← he11, l_M_close_11, if_neg c_3, if_neg c_5, if_pos c_7]; done) | (rw [← he11, l_M_close_11]; simp only [if_neg c_3, if_neg c_5, if_pos c_7])) hP hD hS (lv_sub hl [2, 3, 1, 0] rfl)
  have z_0 : ((0) : Int32).toInt = (0) := by decide
  have hB9_11 := ivM_23 (S := upS 9 a1.toNatClampNeg 0 S) hI_1
  exact loop11 600 (upS 9 a1.toNatClampNeg 0 S) 0 0 _ _ _ hI_1 ⟨by omega, by omega, by omega, by omega, (show ASM (upS 9 a1.toNatClampNeg 0 S) from hAS)⟩ (by rw [F_M_close]) hP hD hS (lv_sub hl [2, 3, 1, 0] rfl)
