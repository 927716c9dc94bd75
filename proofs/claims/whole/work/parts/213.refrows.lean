set_option maxHeartbeats 4000000 in
set_option maxRecDepth 100000 in
theorem m_M_split (l : Launch) (D : va_G) (h : Nat → Nat) (cI cZ : ClassId) (S : BS) (hI : IVM S) (a1 a2 : Int32) (ha0 : 0 ≤ a1.toInt ∧ a1.toInt ≤ 79) (hAS : ASM S) (hroom : (S 22 0).toInt ≤ 78) (hcut : (f_M_lowest S a1).toInt < a2.toInt ∧ a2.toInt ≤ (f_M_highest S a1).toInt) : WMM l yX6_split wsX6_split { frames := 2, cells := 0, slots := 0, locals := 43 } D cI cZ h S [.ref (h 0), .int a1, .int a2] (F_M_split S a1 a2) := by
  refine Met.ofW (cc := cX6_split) (maxL := 6) (ret := (some .int)) (by decide) rfl ?_
  intro p e s m args below meth c s₁ B hml hv
  obtain ⟨rfl, hP, hK, hN, hD0⟩ := hv
  have hx := B.exec
  have hb := B.bytes
  have hr := B.returns
  have hts := atoms_spec (ws := wsX6_split) B.pre
  have hB : ∀ w ∈ BW, w.before _ s = true := fun w h => hts w (List.mem_cons_of_mem _ h)
  have hown : s.vm.findClass RX6 = some m.cls := findClass_of_methodNamed B.named
  have hlocks := B.notSynchronized
  have hD := bDM hD0
  have hS : va_S (bAM h) s.heap s.heap [] := va_S.rf
  have hl := lv_entry ([.ref (h 0), .int a1, .int a2]) (n := 6) (Nat.le_of_ble_eq_true rfl)
  rw [lg_entry_eq]
  generalize (lg_sl ([.ref (h 0), .int a1, .int a2]) ++ List.replicate (6 - (lg_sl ([.ref (h 0), .int a1, .int a2])).length) Slot.unset).toArray = ls at hl ⊢
  have hl : lv_has ls 6 [(0, .ref (h 0)), (1, .int a1), (2, .int a2)] := hl
  refine lv_iconst (v := 0) hx hb dX6_split_0 (by decide) ?_
  refine lv_istore_n (lv' := [(3, .int 0), (0, .ref (h 0)), (1, .int a1), (2, .int a2)]) hx hb dX6_split_1 rfl hl (by decide) rfl (fun ls hl => ?_)
  refine lv_aload_n hx hb dX6_split_2 rfl (lv_at hl 1 rfl) ?_
  refine lv_iload_n hx hb dX6_split_3 rfl (lv_at hl 2 rfl) ?_
  refine pu_callM (va_runV (As := [.int a1]) (rest := []) ⟨hx, hb, hml, hown, hB⟩ (m_M_highest l D h cI cZ S hI a1 (by omega)) (cwV 1 hB (gV k3_162 k3_164 ks_374 k1_7 k3_165) rfl rfl rfl (by decide +kernel) ⟨Nat.le_of_ble_eq_true rfl, Nat.le_of_ble_eq_true rfl⟩) ⟨pu_blindM, va_recv hK hP (ci := 6) (q0 := 0) rfl rfl, pu_preM hP hK hN⟩ rfl rfl hl.1 rfl (lv_room (Nat.le_of_ble_eq_true rfl)) dX6_split_4 ⟨Nat.le_of_ble_eq_true rfl, Nat.le_of_ble_eq_true rfl⟩) hP hS (fun H locs hP hS => ?_)
  have k_1 := fc_M_highest (S := S) hI a1
  refine lv_istore (lv' := [(4, .int (f_M_highest S a1)), (3, .int 0), (0, .ref (h 0)), (1, .int a1), (2, .int a2)]) hx hb dX6_split_7 hl (by decide) rfl (fun ls hl => ?_)
  refine lv_aload_n hx hb dX6_split_9 rfl (lv_at hl 2 rfl) ?_
  refine va_get (D := D) (ci := 6) (v := .ref (h 10)) (C := RX6) (T := TX6) (N := 25) hx hb hB inX6 hown hK hP 0 rfl rfl 13 (by decide) (hB _ k3_10) (fun _ h9 => h9) rfl dX6_split_10 ?_
  refine lv_iload_n hx hb dX6_split_13 rfl (lv_at hl 3 rfl) ?_
  refine lv_iconst (v := 0) hx hb dX6_split_14 (by decide) ?_
  refine wstM_9 (S := S) hx hb hK hP hD hS (vp_in_iff.mpr (by omega)) (by first | rfl | decide) dX6_split_15 (fun H locs hP hD hS => ?_)
  have hI_2 : IVM (upS 9 a1.toNatClampNeg 0 S) := iv_upM (S := S) hI 9 a1.toNatClampNeg 0 (iv_oneM 9 (0) 1 rfl (by decide))
  refine lv_aload_n hx hb dX6_split_16 rfl (lv_at hl 2 rfl) ?_
  refine lv_aload_n hx hb dX6_split_17 rfl (lv_at hl 2 rfl) ?_
  refine va_get (D := D) (ci := 6) (v := .ref (h 6)) (C := RX6) (T := TX6) (N := 25) hx hb hB inX6 hown hK hP 0 rfl rfl 9 (by decide) (hB _ k3_6) (fun _ h9 => h9) rfl dX6_split_18 ?_
  refine lv_iload_n hx hb dX6_split_21 rfl (lv_at hl 3 rfl) ?_
  refine va_iald (f := S 5) hx hb hK hP 6 0 rfl rfl (vp_in_iff.mpr (by omega)) dX6_split_22 ?_
  have b_3 : (0) ≤ (S 5 a1.toNatClampNeg).toInt ∧ (S 5 a1.toNatClampNeg).toInt ≤ 31 := ivM_5 (S := upS 9 a1.toNatClampNeg 0 S) hI_2 a1.toNatClampNeg
  refine lv_aload_n hx hb dX6_split_23 rfl (lv_at hl 2 rfl) ?_
  refine va_get (D := D) (ci := 6) (v := .ref (h 7)) (C := RX6) (T := TX6) (N := 25) hx hb hB inX6 hown hK hP 0 rfl rfl 10 (by decide) (hB _ k3_7) (fun _ h9 => h9) rfl dX6_split_24 ?_
  refine lv_iload_n hx hb dX6_split_27 rfl (lv_at hl 3 rfl) ?_
  refine va_iald (f := S 6) hx hb hK hP 7 0 rfl rfl (vp_in_iff.mpr (by omega)) dX6_split_28 ?_
  refine lv_aload_n hx hb dX6_split_29 rfl (lv_at hl 2 rfl) ?_
  refine lv_iload_n hx hb dX6_split_30 rfl (lv_at hl 3 rfl) ?_
  refine pu_callM (va_runV (As := [.int a1]) (rest := [.int (S 6 a1.toNatClampNeg), .int (S 5 a1.toNatClampNeg), .ref (h 0)]) ⟨hx, hb, hml, hown, hB⟩ (m_M_lowest l D h cI cZ (upS 9 a1.toNatClampNeg 0 S) hI_2 a1 (by omega)) (cwV 1 hB (gV k3_158 k3_160 ks_378 k1_7 k3_161) rfl rfl rfl (by decide +kernel) ⟨Nat.le_of_ble_eq_true rfl, Nat.le_of_ble_eq_true rfl⟩) ⟨pu_blindM, va_recv hK hP (ci := 6) (q0 := 0) rfl rfl, pu_preM hP hK hN⟩ rfl rfl hl.1 rfl (lv_room (Nat.le_of_ble_eq_true rfl)) dX6_split_31 ⟨Nat.le_of_ble_eq_true rfl, Nat.le_of_ble_eq_true rfl⟩) hP hS (fun H locs hP hS => ?_)
  have k_4 := fc_M_lowest (S := upS 9 a1.toNatClampNeg 0 S) hI_2 a1
  have j_4 : (f_M_lowest (upS 9 a1.toNatClampNeg 0 S) a1).toInt = (f_M_lowest S a1).toInt := rfl
  refine lv_iload_n hx hb dX6_split_34 rfl (lv_at hl 4 rfl) ?_
  refine lv_iconst (v := 1) hx hb dX6_split_35 (by decide) ?_
  refine lv_isub hx hb dX6_split_36 ?_
  have z_1 : ((1) : Int32).toInt = (1) := by decide
  have k_5 := i32_sub (x := a2) (y := 1) (by omega) (by omega)
  refine wv_callM (va_runV (As := [.int (S 5 a1.toNatClampNeg), .int (S 6 a1.toNatClampNeg), .int (f_M_lowest (upS 9 a1.toNatClampNeg 0 S) a1), .int (a2 - 1)]) (rest := []) ⟨hx, hb, hml, hown, hB⟩ (m_M_addRange l D h cI cZ (upS 9 a1.toNatClampNeg 0 S) hI_2 (S 5 a1.toNatClampNeg) (S 6 a1.toNatClampNeg) (f_M_lowest (upS 9 a1.toNatClampNeg 0 S) a1) (a2 - 1) (show (S 22 0).toInt ≤ 79 by omega) (by omega) (by omega) (by omega)) (cwV 4 hB (gV k3_121 k3_123 ks_330 k1_7 k3_124) rfl rfl rfl (by decide +kernel) ⟨Nat.le_of_ble_eq_true rfl, Nat.le_of_ble_eq_true rfl⟩) ⟨wr_blindM, va_recv hK hP (ci := 6) (q0 := 0) rfl rfl, wr_preM hP hK hN hD⟩ rfl rfl hl.1 rfl (lv_room (Nat.le_of_ble_eq_true rfl)) dX6_split_37 ⟨Nat.le_of_ble_eq_true rfl, Nat.le_of_ble_eq_true rfl⟩) hS (fun H locs hP hI_6 hS => ?_)
  have hD := wDM (S2 := (F_M_addRange (upS 9 a1.toNatClampNeg 0 S) (S 5 a1.toNatClampNeg) (S 6 a1.toNatClampNeg) (f_M_lowest (upS 9 a1.toNatClampNeg 0 S) a1) (a2 - 1))) hD
  have b_7 : 0 ≤ (S 22 0).toInt ∧ (S 22 0).toInt ≤ 80 := ivM_22 (S := upS 9 a1.toNatClampNeg 0 S) hI_2
  have j_7 : ((F_M_addRange (upS 9 a1.toNatClampNeg 0 S) (S 5 a1.toNatClampNeg) (S 6 a1.toNatClampNeg) (f_M_lowest (upS 9 a1.toNatClampNeg 0 S) a1) (a2 - 1)) 22 0).toInt = (S 22 0).toInt + 1 := i32_inc (x := S 22 0) (by omega) (by omega)
  refine lv_aload_n hx hb dX6_split_40 rfl (lv_at hl 2 rfl) ?_
  refine lv_aload_n hx hb dX6_split_41 rfl (lv_at hl 2 rfl) ?_
  refine va_get (D := D) (ci := 6) (v := .ref (h 6)) (C := RX6) (T := TX6) (N := 25) hx hb hB inX6 hown hK hP 0 rfl rfl 9 (by decide) (hB _ k3_6) (fun _ h9 => h9) rfl dX6_split_42 ?_
  refine lv_iload_n hx hb dX6_split_45 rfl (lv_at hl 3 rfl) ?_
  refine va_iald (f := (F_M_addRange (upS 9 a1.toNatClampNeg 0 S) (S 5 a1.toNatClampNeg) (S 6 a1.toNatClampNeg) (f_M_lowest (upS 9 a1.toNatClampNeg 0 S) a1) (a2 - 1)) 5) hx hb hK hP 6 0 rfl rfl (vp_in_iff.mpr (by omega)) dX6_split_46 ?_
  have b_8 : (0) ≤ ((F_M_addRange (upS 9 a1.toNatClampNeg 0 S) (S 5 a1.toNatClampNeg) (S 6 a1.toNatClampNeg) (f_M_lowest (upS 9 a1.toNatClampNeg 0 S) a1) (a2 - 1)) 5 a1.toNatClampNeg).toInt ∧ ((F_M_addRange (upS 9 a1.toNatClampNeg 0 S) (S 5 a1.toNatClampNeg) (S 6 a1.toNatClampNeg) (f_M_lowest (upS 9 a1.toNatClampNeg 0 S) a1) (a2 - 1)) 5 a1.toNatClampNeg).toInt ≤ 31 := ivM_5 (S := (F_M_addRange (upS 9 a1.toNatClampNeg 0 S) (S 5 a1.toNatClampNeg) (S 6 a1.toNatClampNeg) (f_M_lowest (upS 9 a1.toNatClampNeg 0 S) a1) (a2 - 1))) hI_6 a1.toNatClampNeg
  refine lv_aload_n hx hb dX6_split_47 rfl (lv_at hl 2 rfl) ?_
  refine va_get (D := D) (ci := 6) (v := .ref (h 7)) (C := RX6) (T := TX6) (N := 25) hx hb hB inX6 hown hK hP 0 rfl rfl 10 (by decide) (hB _ k3_7) (fun _ h9 => h9) rfl dX6_split_48 ?_
  refine lv_iload_n hx hb dX6_split_51 rfl (lv_at hl 3 rfl) ?_
  refine va_iald (f := (F_M_addRange (upS 9 a1.toNatClampNeg 0 S) (S 5 a1.toNatClampNeg) (S 6 a1.toNatClampNeg) (f_M_lowest (upS 9 a1.toNatClampNeg 0 S) a1) (a2 - 1)) 6) hx hb hK hP 7 0 rfl rfl (vp_in_iff.mpr (by omega)) dX6_split_52 ?_
  refine lv_iload_n hx hb dX6_split_53 rfl (lv_at hl 4 rfl) ?_
  refine lv_iload hx hb dX6_split_54 (lv_at hl 0 rfl) ?_
  refine wv_callM (va_runV (As := [.int ((F_M_addRange (upS 9 a1.toNatClampNeg 0 S) (S 5 a1.toNatClampNeg) (S 6 a1.toNatClampNeg) (f_M_lowest (upS 9 a1.toNatClampNeg 0 S) a1) (a2 - 1)) 5 a1.toNatClampNeg), .int ((F_M_addRange (upS 9 a1.toNatClampNeg 0 S) (S 5 a1.toNatClampNeg) (S 6 a1.toNatClampNeg) (f_M_lowest (upS 9 a1.toNatClampNeg 0 S) a1) (a2 - 1)) 6 a1.toNatClampNeg), .int a2, .int (f_M_highest S a1)]) (rest := []) ⟨hx, hb, hml, hown, hB⟩ (m_M_addRange l D h cI cZ (F_M_addRange (upS 9 a1.toNatClampNeg 0 S) (S 5 a1.toNatClampNeg) (S 6 a1.toNatClampNeg) (f_M_lowest (upS 9 a1.toNatClampNeg 0 S) a1) (a2 - 1)) hI_6 ((F_M_addRange (upS 9 a1.toNatClampNeg 0 S) (S 5 a1.toNatClampNeg) (S 6 a1.toNatClampNeg) (f_M_lowest (upS 9 a1.toNatClampNeg 0 S) a1) (a2 - 1)) 5 a1.toNatClampNeg) ((F_M_addRange (upS 9 a1.toNatClampNeg 0 S) (S 5 a1.toNatClampNeg) (S 6 a1.toNatClampNeg) (f_M_lowest (upS 9 a1.toNatClampNeg 0 S) a1) (a2 - 1)) 6 a1.toNatClampNeg) a2 (f_M_highest S a1) (show ((F_M_addRange (upS 9 a1.toNatClampNeg 0 S) (S 5 a1.toNatClampNeg) (S 6 a1.toNatClampNeg) (f_M_lowest (upS 9 a1.toNatClampNeg 0 S) a1) (a2 - 1)) 22 0).toInt ≤ 79 by omega) (by omega) (by omega) (by omega)) (cwV 4 hB (gV k3_121 k3_123 ks_330 k1_7 k3_124) rfl rfl rfl (by decide +kernel) ⟨Nat.le_of_ble_eq_true rfl, Nat.le_of_ble_eq_true rfl⟩) ⟨wr_blindM, va_recv hK hP (ci := 6) (q0 := 0) rfl rfl, wr_preM hP hK hN hD⟩ rfl rfl hl.1 rfl (lv_room (Nat.le_of_ble_eq_true rfl)) dX6_split_56 ⟨Nat.le_of_ble_eq_true rfl, Nat.le_of_ble_eq_true rfl⟩) hS (fun H locs hP hI_9 hS => ?_)
  have hD := wDM (S2 := (F_M_addRange (F_M_addRange (upS 9 a1.toNatClampNeg 0 S) (S 5 a1.toNatClampNeg) (S 6 a1.toNatClampNeg) (f_M_lowest (upS 9 a1.toNatClampNeg 0 S) a1) (a2 - 1)) ((F_M_addRange (upS 9 a1.toNatClampNeg 0 S) (S 5 a1.toNatClampNeg) (S 6 a1.toNatClampNeg) (f_M_lowest (upS 9 a1.toNatClampNeg 0 S) a1) (a2 - 1)) 5 a1.toNatClampNeg) ((F_M_addRange (upS 9 a1.toNatClampNeg 0 S) (S 5 a1.toNatClampNeg) (S 6 a1.toNatClampNeg) (f_M_lowest (upS 9 a1.toNatClampNeg 0 S) a1) (a2 - 1)) 6 a1.toNatClampNeg) a2 (f_M_highest S a1))) hD
  have b_10 : 0 ≤ ((F_M_addRange (upS 9 a1.toNatClampNeg 0 S) (S 5 a1.toNatClampNeg) (S 6 a1.toNatClampNeg) (f_M_lowest (upS 9 a1.toNatClampNeg 0 S) a1) (a2 - 1)) 22 0).toInt ∧ ((F_M_addRange (upS 9 a1.toNatClampNeg 0 S) (S 5 a1.toNatClampNeg) (S 6 a1.toNatClampNeg) (f_M_lowest (upS 9 a1.toNatClampNeg 0 S) a1) (a2 - 1)) 22 0).toInt ≤ 80 := ivM_22 (S := (F_M_addRange (upS 9 a1.toNatClampNeg 0 S) (S 5 a1.toNatClampNeg) (S 6 a1.toNatClampNeg) (f_M_lowest (upS 9 a1.toNatClampNeg 0 S) a1) (a2 - 1))) hI_6
  have j_10 : ((F_M_addRange (F_M_addRange (upS 9 a1.toNatClampNeg 0 S) (S 5 a1.toNatClampNeg) (S 6 a1.toNatClampNeg) (f_M_lowest (upS 9 a1.toNatClampNeg 0 S) a1) (a2 - 1)) ((F_M_addRange (upS 9 a1.toNatClampNeg 0 S) (S 5 a1.toNatClampNeg) (S 6 a1.toNatClampNeg) (f_M_lowest (upS 9 a1.toNatClampNeg 0 S) a1) (a2 - 1)) 5 a1.toNatClampNeg) ((F_M_addRange (upS 9 a1.toNatClampNeg 0 S) (S 5 a1.toNatClampNeg) (S 6 a1.toNatClampNeg) (f_M_lowest (upS 9 a1.toNatClampNeg 0 S) a1) (a2 - 1)) 6 a1.toNatClampNeg) a2 (f_M_highest S a1)) 22 0).toInt = ((F_M_addRange (upS 9 a1.toNatClampNeg 0 S) (S 5 a1.toNatClampNeg) (S 6 a1.toNatClampNeg) (f_M_lowest (upS 9 a1.toNatClampNeg 0 S) a1) (a2 - 1)) 22 0).toInt + 1 := i32_inc (x := (F_M_addRange (upS 9 a1.toNatClampNeg 0 S) (S 5 a1.toNatClampNeg) (S 6 a1.toNatClampNeg) (f_M_lowest (upS 9 a1.toNatClampNeg 0 S) a1) (a2 - 1)) 22 0) (by omega) (by omega)
  refine lv_iconst (v := 0) hx hb dX6_split_59 (by decide) ?_
  refine lv_istore (lv' := [(5, .int 0), (4, .int (f_M_highest S a1)), (3, .int 0), (0, .ref (h 0)), (1, .int a1), (2, .int a2)]) hx hb dX6_split_60 hl (by decide) rfl (fun ls hl => ?_)
  have loop62 : ∀ (n62 : Nat) (Z : BS) (x3 x4 x5 : Int32) (H : Heap) (locs : List Loc) (ls : Array Slot), IVM Z → (0 ≤ x5.toInt ∧ x5.toInt ≤ 6000 ∧ 1 ≤ (n62 : Int) ∧ (Z 23 0 : Int32).toInt - x5.toInt < (n62 : Int) ∧ (ASM Z ∧ 2 ≤ (Z 22 0).toInt)) → l_M_split_62 a1 a2 n62 Z x3 x4 x5 = F_M_split S a1 a2 → va_P D vwCl (wBM h cI cZ Z) H → va_D (bAM h) (wBM h cI cZ Z) → va_S (bAM h) s.heap H locs → lv_has ls 6 [(0, .ref (h 0)), (1, .int a1), (2, .int a2), (3, .int x3), (4, .int x4), (5, .int x5)] → W p l e (headSpec wsX6_split { frames := 2, cells := 0, slots := 0, locals := 43 }).room s m ([.ref (h 0), .int a1, .int a2]).toArray below meth c H locs 0 0 (MQ below (WQM D cI cZ h (F_M_split S a1 a2)) ([.ref (h 0), .int a1, .int a2]).toArray s 0 0 (bAM h)) (F0 m 62 ls []) := by
    intro n62
    induction n62 with
    | zero =>
      intro Z x3 x4 x5 H locs ls hI hinv he62 hP hD hS hl
      exact absurd hinv.2.2.1 (by omega)
    | succ n62 ih62 =>
      intro Z x3 x4 x5 H locs ls hI hinv he62 hP hD hS hl
      obtain ⟨h0_62, hc_62, h1_62, hm_62, hex_62⟩ := hinv
      have hBd_62 := ivM_23 hI
      refine lv_iload hx hb dX6_split_62 (lv_at hl 5 rfl) ?_
      refine lv_aload_n hx hb dX6_split_64 rfl (lv_at hl 0 rfl) ?_
      refine va_get (D := D) (ci := 6) (v := .int (Z 23 0)) (C := RX6) (T := TX6) (N := 25) hx hb hB inX6 hown hK hP 0 rfl rfl 14 (by decide) (hB _ k3_11) (fun _ h9 => h9) rfl dX6_split_65 ?_
      have b_11 : (0) ≤ (Z 23 0).toInt ∧ (Z 23 0).toInt ≤ 120 := ivM_23 (S := Z) hI
      refine lv_icmp_ge (tgt := 133) hx hb dX6_split_68 (by decide) (fun c_12 => ?_) (fun c_12 => ?_)
      · skip
        have t_12 := Int32.le_iff_toInt_le.mp c_12
        refine lv_iload_n hx hb dX6_split_133 rfl (lv_at hl 3 rfl) ?_
        exact W.iret (v := x3) hx hb hr (fun t ht hW => ⟨⟨x3, Z, rfl, ⟨(by rw [← he62, l_M_split_62, if_pos c_12]), hI⟩, by show va_P D vwCl _ t.heap; rw [ht]; exact hP⟩, hS.F ht⟩) hS.2.2 dX6_split_134
      · skip
        have t_12 := mt Int32.le_iff_toInt_le.mpr c_12
        refine lv_aload_n hx hb dX6_split_71 rfl (lv_at hl 0 rfl) ?_
        refine va_get (D := D) (ci := 6) (v := .ref (h 13)) (C := RX6) (T := TX6) (N := 25) hx hb hB inX6 hown hK hP 0 rfl rfl 17 (by decide) (hB _ k3_14) (fun _ h9 => h9) rfl dX6_split_72 ?_
        refine lv_iload hx hb dX6_split_75 (lv_at hl 5 rfl) ?_
        refine va_zald (f := Z 12) hx hb hK hP 13 1 rfl rfl (vp_in_iff.mpr (by omega)) dX6_split_77 ?_
        have b_13 : (0) ≤ (Z 12 x5.toNatClampNeg).toInt ∧ (Z 12 x5.toNatClampNeg).toInt ≤ 1 := ivM_12 (S := Z) hI x5.toNatClampNeg
        refine lv_if_eq (tgt := 127) hx hb dX6_split_78 (by decide) (fun c_14 => ?_) (fun c_14 => ?_)
        · skip
          have z_0 : ((0) : Int32).toInt = (0) := by decide
          have t_14 := Int32.toInt_inj.symm.mp c_14
          refine lv_iinc (v := x5 + 1) (lv' := [(5, .int (x5 + 1)), (0, .ref (h 0)), (1, .int a1), (2, .int a2), (3, .int x3), (4, .int x4)]) hx hb dX6_split_127 hl (k := 5) rfl rfl (by decide) rfl (fun ls hl => ?_)
          refine lv_goto (tgt := 62) hx hb dX6_split_130 (by decide) ?_
          have hinc := i32_inc (x := x5) h0_62 (by omega)
          have e9 : (Z) 23 0 = Z 23 0 := rfl
          exact ih62 Z x3 x4 (x5 + 1) _ _ _ hI ⟨by omega, by omega, by omega, by rw [e9]; omega, ⟨hex_62.1, hex_62.2⟩⟩ (by first | (rw [← he62, l_M_split_62, if_neg c_12, if_pos c_14]; done) | (rw [← he62, l_M_split_62]; simp only [if_neg c_12, if_pos c_14])) hP hD hS (lv_sub hl [1, 2, 3, 4, 5, 0] rfl)
        · skip
          have z_0 : ((0) : Int32).toInt = (0) := by decide
          have t_14 := mt Int32.toInt_inj.mp c_14
          refine lv_aload_n hx hb dX6_split_81 rfl (lv_at hl 0 rfl) ?_
          refine va_get (D := D) (ci := 6) (v := .ref (h 11)) (C := RX6) (T := TX6) (N := 25) hx hb hB inX6 hown hK hP 0 rfl rfl 15 (by decide) (hB _ k3_12) (fun _ h9 => h9) rfl dX6_split_82 ?_
          refine lv_iload hx hb dX6_split_85 (lv_at hl 5 rfl) ?_
          refine va_iald (f := Z 10) hx hb hK hP 11 0 rfl rfl (vp_in_iff.mpr (by omega)) dX6_split_87 ?_
          have b_15 : (0) ≤ (Z 10 x5.toNatClampNeg).toInt ∧ (Z 10 x5.toNatClampNeg).toInt ≤ 79 := ivM_10 (S := Z) hI x5.toNatClampNeg
          refine lv_iload_n hx hb dX6_split_88 rfl (lv_at hl 1 rfl) ?_
          refine lv_icmp_ne (tgt := 127) hx hb dX6_split_89 (by decide) (fun c_16 => ?_) (fun c_16 => ?_)
          · skip
            refine lv_iinc (v := x5 + 1) (lv' := [(5, .int (x5 + 1)), (0, .ref (h 0)), (1, .int a1), (2, .int a2), (3, .int x3), (4, .int x4)]) hx hb dX6_split_127 hl (k := 5) rfl rfl (by decide) rfl (fun ls hl => ?_)
            refine lv_goto (tgt := 62) hx hb dX6_split_130 (by decide) ?_
            have hinc := i32_inc (x := x5) h0_62 (by omega)
            have e9 : (Z) 23 0 = Z 23 0 := rfl
            exact ih62 Z x3 x4 (x5 + 1) _ _ _ hI ⟨by omega, by omega, by omega, by rw [e9]; omega, ⟨hex_62.1, hex_62.2⟩⟩ (by first | (rw [← he62, l_M_split_62, if_neg c_12, if_neg c_14, if_neg c_16]; done) | (rw [← he62, l_M_split_62]; simp only [if_neg c_12, if_neg c_14, if_neg c_16])) hP hD hS (lv_sub hl [1, 2, 3, 4, 5, 0] rfl)
          · skip
            refine lv_aload_n hx hb dX6_split_92 rfl (lv_at hl 0 rfl) ?_
            refine va_get (D := D) (ci := 6) (v := .ref (h 11)) (C := RX6) (T := TX6) (N := 25) hx hb hB inX6 hown hK hP 0 rfl rfl 15 (by decide) (hB _ k3_12) (fun _ h9 => h9) rfl dX6_split_93 ?_
            refine lv_iload hx hb dX6_split_96 (lv_at hl 5 rfl) ?_
            refine lv_aload_n hx hb dX6_split_98 rfl (lv_at hl 0 rfl) ?_
            refine lv_iload hx hb dX6_split_99 (lv_at hl 5 rfl) ?_
            refine pu_callM (va_runV (As := [.int x5]) (rest := [.int x5, .ref (h 11)]) ⟨hx, hb, hml, hown, hB⟩ (m_M_houseOf l D h cI cZ Z hI x5 (((show ASM (Z) from hex_62.1)) x5 (by omega) (show (x5).toInt < (Z 23 0).toInt by omega))) (cwV 1 hB (gV k3_137 k3_139 ks_354 k1_7 k3_140) rfl rfl rfl (by decide +kernel) ⟨Nat.le_of_ble_eq_true rfl, Nat.le_of_ble_eq_true rfl⟩) ⟨pu_blindM, va_recv hK hP (ci := 6) (q0 := 0) rfl rfl, pu_preM hP hK hN⟩ rfl rfl hl.1 rfl (lv_room (Nat.le_of_ble_eq_true rfl)) dX6_split_101 ⟨Nat.le_of_ble_eq_true rfl, Nat.le_of_ble_eq_true rfl⟩) hP hS (fun H locs hP hS => ?_)
            have k_17 := fc_M_houseOf (S := Z) hI x5
            refine lv_iload_n hx hb dX6_split_104 rfl (lv_at hl 2 rfl) ?_
            refine lv_icmp_ge (tgt := 117) hx hb dX6_split_105 (by decide) (fun c_18 => ?_) (fun c_18 => ?_)
            · skip
              have t_18 := Int32.le_iff_toInt_le.mp c_18
              refine lv_aload_n hx hb dX6_split_117 rfl (lv_at hl 0 rfl) ?_
              refine va_get (D := D) (ci := 6) (v := .int (Z 22 0)) (C := RX6) (T := TX6) (N := 25) hx hb hB inX6 hown hK hP 0 rfl rfl 8 (by decide) (hB _ k3_5) (fun _ h9 => h9) rfl dX6_split_118 ?_
              have b_19 : (0) ≤ (Z 22 0).toInt ∧ (Z 22 0).toInt ≤ 80 := ivM_22 (S := Z) hI
              refine lv_iconst (v := 1) hx hb dX6_split_121 (by decide) ?_
              refine lv_isub hx hb dX6_split_122 ?_
              have z_1 : ((1) : Int32).toInt = (1) := by decide
              have k_20 := i32_sub (x := Z 22 0) (y := 1) (by omega) (by omega)
              refine wstM_10 (S := Z) hx hb hK hP hD hS (vp_in_iff.mpr (by omega)) dX6_split_123 (fun H locs hP hD hS => ?_)
              have hI_21 : IVM (upS 10 x5.toNatClampNeg ((Z 22 0) - 1) Z) := iv_upM (S := Z) hI 10 x5.toNatClampNeg ((Z 22 0) - 1) (iv_oneM 10 (0) 79 rfl (by omega))
              refine lv_iinc (v := x3 + 1) (lv' := [(3, .int (x3 + 1)), (0, .ref (h 0)), (1, .int a1), (2, .int a2), (4, .int x4), (5, .int x5)]) hx hb dX6_split_124 hl (k := 3) rfl rfl (by decide) rfl (fun ls hl => ?_)
              refine lv_iinc (v := x5 + 1) (lv' := [(5, .int (x5 + 1)), (3, .int (x3 + 1)), (0, .ref (h 0)), (1, .int a1), (2, .int a2), (4, .int x4)]) hx hb dX6_split_127 hl (k := 5) rfl rfl (by decide) rfl (fun ls hl => ?_)
              refine lv_goto (tgt := 62) hx hb dX6_split_130 (by decide) ?_
              have hinc := i32_inc (x := x5) h0_62 (by omega)
              have e9 : (upS 10 x5.toNatClampNeg ((Z 22 0) - 1) Z) 23 0 = Z 23 0 := rfl
              exact ih62 (upS 10 x5.toNatClampNeg ((Z 22 0) - 1) Z) (x3 + 1) x4 (x5 + 1) _ _ _ hI_21 ⟨by omega, by omega, by omega, by rw [e9]; omega, ⟨hex_62.1, hex_62.2⟩⟩ (by first | (rw [← he62, l_M_split_62, if_neg c_12, if_neg c_14, if_pos c_16, if_pos c_18]; done) | (rw [← he62, l_M_split_62]; simp only [if_neg c_12, if_neg c_14, if_pos c_16, if_pos c_18])) hP hD hS (lv_sub hl [2, 3, 4, 1, 5, 0] rfl)
            · skip
              have t_18 := mt Int32.le_iff_toInt_le.mpr c_18
              refine lv_aload_n hx hb dX6_split_108 rfl (lv_at hl 0 rfl) ?_
              refine va_get (D := D) (ci := 6) (v := .int (Z 22 0)) (C := RX6) (T := TX6) (N := 25) hx hb hB inX6 hown hK hP 0 rfl rfl 8 (by decide) (hB _ k3_5) (fun _ h9 => h9) rfl dX6_split_109 ?_
              have b_22 : (0) ≤ (Z 22 0).toInt ∧ (Z 22 0).toInt ≤ 80 := ivM_22 (S := Z) hI
              refine lv_iconst (v := 2) hx hb dX6_split_112 (by decide) ?_
              refine lv_isub hx hb dX6_split_113 ?_
              have z_2 : ((2) : Int32).toInt = (2) := by decide
              have k_23 := i32_sub (x := Z 22 0) (y := 2) (by omega) (by omega)
              refine lv_goto (tgt := 123) hx hb dX6_split_114 (by decide) ?_
              refine wstM_10 (S := Z) hx hb hK hP hD hS (vp_in_iff.mpr (by omega)) dX6_split_123 (fun H locs hP hD hS => ?_)
              have hI_24 : IVM (upS 10 x5.toNatClampNeg ((Z 22 0) - 2) Z) := iv_upM (S := Z) hI 10 x5.toNatClampNeg ((Z 22 0) - 2) (iv_oneM 10 (0) 79 rfl (by omega))
              refine lv_iinc (v := x3 + 1) (lv' := [(3, .int (x3 + 1)), (0, .ref (h 0)), (1, .int a1), (2, .int a2), (4, .int x4), (5, .int x5)]) hx hb dX6_split_124 hl (k := 3) rfl rfl (by decide) rfl (fun ls hl => ?_)
              refine lv_iinc (v := x5 + 1) (lv' := [(5, .int (x5 + 1)), (3, .int (x3 + 1)), (0, .ref (h 0)), (1, .int a1), (2, .int a2), (4, .int x4)]) hx hb dX6_split_127 hl (k := 5) rfl rfl (by decide) rfl (fun ls hl => ?_)
              refine lv_goto (tgt := 62) hx hb dX6_split_130 (by decide) ?_
              have hinc := i32_inc (x := x5) h0_62 (by omega)
              have e9 : (upS 10 x5.toNatClampNeg ((Z 22 0) - 2) Z) 23 0 = Z 23 0 := rfl
              exact ih62 (upS 10 x5.toNatClampNeg ((Z 22 0) - 2) Z) (x3 + 1) x4 (x5 + 1) _ _ _ hI_24 ⟨by omega, by omega, by omega, by rw [e9]; omega, ⟨hex_62.1, hex_62.2⟩⟩ (by first | (rw [← he62, l_M_split_62, if_neg c_12, if_neg c_14, if_pos c_16, if_neg c_18]; done) | (rw [← he62, l_M_split_62]; simp only [if_neg c_12, if_neg c_14, if_pos c_16, if_neg c_18])) hP hD hS (lv_sub hl [2, 3, 4, 1, 5, 0] rfl)
  have z_0 : ((0) : Int32).toInt = (0) := by decide
  have hB9_62 := ivM_23 (S := (F_M_addRange (F_M_addRange (upS 9 a1.toNatClampNeg 0 S) (S 5 a1.toNatClampNeg) (S 6 a1.toNatClampNeg) (f_M_lowest (upS 9 a1.toNatClampNeg 0 S) a1) (a2 - 1)) ((F_M_addRange (upS 9 a1.toNatClampNeg 0 S) (S 5 a1.toNatClampNeg) (S 6 a1.toNatClampNeg) (f_M_lowest (upS 9 a1.toNatClampNeg 0 S) a1) (a2 - 1)) 5 a1.toNatClampNeg) ((F_M_addRange (upS 9 a1.toNatClampNeg 0 S) (S 5 a1.toNatClampNeg) (S 6 a1.toNatClampNeg) (f_M_lowest (upS 9 a1.toNatClampNeg 0 S) a1) (a2 - 1)) 6 a1.toNatClampNeg) a2 (f_M_highest S a1))) hI_9
  exact loop62 600 (F_M_addRange (F_M_addRange (upS 9 a1.toNatClampNeg 0 S) (S 5 a1.toNatClampNeg) (S 6 a1.toNatClampNeg) (f_M_lowest (upS 9 a1.toNatClampNeg 0 S) a1) (a2 - 1)) ((F_M_addRange (upS 9 a1.toNatClampNeg 0 S) (S 5 a1.toNatClampNeg) (S 6 a1.toNatClampNeg) (f_M_lowest (upS 9 a1.toNatClampNeg 0 S) a1) (a2 - 1)) 5 a1.toNatClampNeg) ((F_M_addRange (upS 9 a1.toNatClampNeg 0 S) (S 5 a1.toNatClampNeg) (S 6 a1.toNatClampNeg) (f_M_lowest (upS 9 a1.toNatClampNeg 0 S) a1) (a2 - 1)) 6 a1.toNatClampNeg) a2 (f_M_highest S a1)) 0 (f_M_highest S a1) 0 _ _ _ hI_9 ⟨by omega, by omega, by omega, by omega, ⟨(show ASM ((F_M_addRange (F_M_addRange (upS 9 a1.toNatClampNeg 0 S) (S 5 a1.toNatClampNeg) (S 6 a1.toNatClampNeg) (f_M_lowest (upS 9 a1.toNatClampNeg 0 S) a1) (a2 - 1)) ((F_M_addRange (upS 9 a1.toNatClampNeg 0 S) (S 5 a1.toNatClampNeg) (S 6 a1.toNatClampNeg) (f_M_lowest (upS 9 a1.toNatClampNeg 0 S) a1) (a2 - 1)) 5 a1.toNatClampNeg) ((F_M_addRange (upS 9 a1.toNatClampNeg 0 S) (S 5 a1.toNatClampNeg) (S 6 a1.toNatClampNeg) (f_M_lowest (upS 9 a1.toNatClampNeg 0 S) a1) (a2 - 1)) 6 a1.toNatClampNeg) a2 (f_M_highest S a1))) from hAS), by omega⟩⟩ (by rw [F_M_split]) hP hD hS (lv_sub hl [3, 4, 5, 2, 1, 0] rfl)
set_option maxHeartbeats 4000000 in
set_option maxRecDepth 100000 in
theorem m_M_join (l : Launch) (D : va_G) (h : Nat → Nat) (cI cZ : ClassId) (S : BS) (hI : IVM S) (a1 a2 : Int32) (ha0 : 0 ≤ a1.toInt ∧ a1.toInt ≤ 31) (ha1 : 0 ≤ a2.toInt ∧ a2.toInt ≤ 31) (hAS : ASM S) (hroom : (S 24 0).toInt ≤ 4880) : WMM l yX6_join wsX6_join { frames := 2, cells := 0, slots := 0, locals := 45 } D cI cZ h S [.ref (h 0), .int a1, .int a2] (F_M_join S a1 a2) := by
  refine Met.ofW (cc := cX6_join) (maxL := 7) (ret := (some .int)) (by decide) rfl ?_
  intro p e s m args below meth c s₁ B hml hv
  obtain ⟨rfl, hP, hK, hN, hD0⟩ := hv
  have hx := B.exec
  have hb := B.bytes
  have hr := B.returns
  have hts := atoms_spec (ws := wsX6_join) B.pre
  have hB : ∀ w ∈ BW, w.before _ s = true := fun w h => hts w (List.mem_cons_of_mem _ h)
  have hown : s.vm.findClass RX6 = some m.cls := findClass_of_methodNamed B.named
  have hlocks := B.notSynchronized
  have hD := bDM hD0
  have hS : va_S (bAM h) s.heap s.heap [] := va_S.rf
  have hl := lv_entry ([.ref (h 0), .int a1, .int a2]) (n := 7) (Nat.le_of_ble_eq_true rfl)
  rw [lg_entry_eq]
  generalize (lg_sl ([.ref (h 0), .int a1, .int a2]) ++ List.replicate (7 - (lg_sl ([.ref (h 0), .int a1, .int a2])).length) Slot.unset).toArray = ls at hl ⊢
  have hl : lv_has ls 7 [(0, .ref (h 0)), (1, .int a1), (2, .int a2)] := hl
  refine lv_iconst (v := 0) hx hb dX6_join_0 (by decide) ?_
  refine lv_istore_n (lv' := [(3, .int 0), (0, .ref (h 0)), (1, .int a1), (2, .int a2)]) hx hb dX6_join_1 rfl hl (by decide) rfl (fun ls hl => ?_)
  refine lv_aload_n hx hb dX6_join_2 rfl (lv_at hl 1 rfl) ?_
  refine va_get (D := D) (ci := 6) (v := .ref (h 4)) (C := RX6) (T := TX6) (N := 25) hx hb hB inX6 hown hK hP 0 rfl rfl 6 (by decide) (hB _ k3_3) (fun _ h9 => h9) rfl dX6_join_3 ?_
  refine lv_iload_n hx hb dX6_join_6 rfl (lv_at hl 2 rfl) ?_
  refine lv_iload_n hx hb dX6_join_7 rfl (lv_at hl 3 rfl) ?_
  refine wstM_3 (S := S) hx hb hK hP hD hS (vp_in_iff.mpr (by omega)) dX6_join_8 (fun H locs hP hD hS => ?_)
  have hI_1 : IVM (upS 3 a1.toNatClampNeg a2 S) := iv_upM (S := S) hI 3 a1.toNatClampNeg a2 (iv_oneM 3 (-1) 31 rfl (by omega))
  refine lv_aload_n hx hb dX6_join_9 rfl (lv_at hl 1 rfl) ?_
  refine va_get (D := D) (ci := 6) (v := .ref (h 5)) (C := RX6) (T := TX6) (N := 25) hx hb hB inX6 hown hK hP 0 rfl rfl 7 (by decide) (hB _ k3_4) (fun _ h9 => h9) rfl dX6_join_10 ?_
  refine lv_iload_n hx hb dX6_join_13 rfl (lv_at hl 2 rfl) ?_
  refine lv_aload_n hx hb dX6_join_14 rfl (lv_at hl 1 rfl) ?_
  refine va_get (D := D) (ci := 6) (v := .int (S 19 0)) (C := RX6) (T := TX6) (N := 25) hx hb hB inX6 hown hK hP 0 rfl rfl 0 (by decide) (hB _ k2_237) (fun _ h9 => h9) rfl dX6_join_15 ?_
  refine wstM_4 (S := upS 3 a1.toNatClampNeg a2 S) hx hb hK hP hD hS (vp_in_iff.mpr (by omega)) dX6_join_18 (fun H locs hP hD hS => ?_)
  have hI_2 : IVM (upS 4 a1.toNatClampNeg (S 19 0) (upS 3 a1.toNatClampNeg a2 S)) := iv_upM (S := upS 3 a1.toNatClampNeg a2 S) hI_1 4 a1.toNatClampNeg (S 19 0) (iv_noneM 4 rfl)
  refine lv_iconst (v := 0) hx hb dX6_join_19 (by decide) ?_
  refine lv_istore (lv' := [(4, .int 0), (3, .int 0), (0, .ref (h 0)), (1, .int a1), (2, .int a2)]) hx hb dX6_join_20 hl (by decide) rfl (fun ls hl => ?_)
  have loop22 : ∀ (n22 : Nat) (Z : BS) (x3 x4 : Int32) (H : Heap) (locs : List Loc) (ls : Array Slot), IVM Z → (0 ≤ x4.toInt ∧ x4.toInt ≤ 6000 ∧ 1 ≤ (n22 : Int) ∧ (Z 22 0 : Int32).toInt - x4.toInt < (n22 : Int) ∧ (ASM Z ∧ Z 10 = S 10 ∧ Z 23 = S 23 ∧ (Z 24 0).toInt ≤ (S 24 0).toInt + ((cn (S 10) (fun x => decide (x.toInt < x4.toInt)) 120 : Nat) : Int))) → l_M_join_22 a1 a2 n22 Z x3 x4 = F_M_join S a1 a2 → va_P D vwCl (wBM h cI cZ Z) H → va_D (bAM h) (wBM h cI cZ Z) → va_S (bAM h) s.heap H locs → lv_has ls 7 [(0, .ref (h 0)), (1, .int a1), (2, .int a2), (3, .int x3), (4, .int x4)] → W p l e (headSpec wsX6_join { frames := 2, cells := 0, slots := 0, locals := 45 }).room s m ([.ref (h 0), .int a1, .int a2]).toArray below meth c H locs 0 0 (MQ below (WQM D cI cZ h (F_M_join S a1 a2)) ([.ref (h 0), .int a1, .int a2]).toArray s 0 0 (bAM h)) (F0 m 22 ls []) := by
    intro n22
    induction n22 with
    | zero =>
      intro Z x3 x4 H locs ls hI hinv he22 hP hD hS hl
      exact absurd hinv.2.2.1 (by omega)
    | succ n22 ih22 =>
      intro Z x3 x4 H locs ls hI hinv he22 hP hD hS hl
      obtain ⟨h0_22, hc_22, h1_22, hm_22, hex_22⟩ := hinv
      have hBd_22 := ivM_22 hI
      obtain ⟨Zo, eZo⟩ : ∃ z, z = Z := ⟨_, rfl⟩
      have hZo22 : (Zo 22 0).toInt = (Z 22 0).toInt := by rw [eZo]
      refine lv_iload hx hb dX6_join_22 (lv_at hl 4 rfl) ?_
      refine lv_aload_n hx hb dX6_join_24 rfl (lv_at hl 0 rfl) ?_
      refine va_get (D := D) (ci := 6) (v := .int (Z 22 0)) (C := RX6) (T := TX6) (N := 25) hx hb hB inX6 hown hK hP 0 rfl rfl 8 (by decide) (hB _ k3_5) (fun _ h9 => h9) rfl dX6_join_25 ?_
      have b_3 : (0) ≤ (Z 22 0).toInt ∧ (Z 22 0).toInt ≤ 80 := ivM_22 (S := Z) hI
      refine lv_icmp_ge (tgt := 133) hx hb dX6_join_28 (by decide) (fun c_4 => ?_) (fun c_4 => ?_)
      · skip
        have t_4 := Int32.le_iff_toInt_le.mp c_4
        refine lv_iload_n hx hb dX6_join_133 rfl (lv_at hl 3 rfl) ?_
        exact W.iret (v := x3) hx hb hr (fun t ht hW => ⟨⟨x3, Z, rfl, ⟨(by rw [← he22, l_M_join_22, if_pos c_4]), hI⟩, by show va_P D vwCl _ t.heap; rw [ht]; exact hP⟩, hS.F ht⟩) hS.2.2 dX6_join_134
      · skip
        have t_4 := mt Int32.le_iff_toInt_le.mpr c_4
        refine lv_aload_n hx hb dX6_join_31 rfl (lv_at hl 0 rfl) ?_
        refine va_get (D := D) (ci := 6) (v := .ref (h 10)) (C := RX6) (T := TX6) (N := 25) hx hb hB inX6 hown hK hP 0 rfl rfl 13 (by decide) (hB _ k3_10) (fun _ h9 => h9) rfl dX6_join_32 ?_
        refine lv_iload hx hb dX6_join_35 (lv_at hl 4 rfl) ?_
        refine va_zald (f := Z 9) hx hb hK hP 10 1 rfl rfl (vp_in_iff.mpr (by omega)) dX6_join_37 ?_
        have b_5 : (0) ≤ (Z 9 x4.toNatClampNeg).toInt ∧ (Z 9 x4.toNatClampNeg).toInt ≤ 1 := ivM_9 (S := Z) hI x4.toNatClampNeg
        refine lv_if_eq (tgt := 127) hx hb dX6_join_38 (by decide) (fun c_6 => ?_) (fun c_6 => ?_)
        · skip
          have z_0 : ((0) : Int32).toInt = (0) := by decide
          have t_6 := Int32.toInt_inj.symm.mp c_6
          refine lv_iinc (v := x4 + 1) (lv' := [(4, .int (x4 + 1)), (0, .ref (h 0)), (1, .int a1), (2, .int a2), (3, .int x3)]) hx hb dX6_join_127 hl (k := 4) rfl rfl (by decide) rfl (fun ls hl => ?_)
          refine lv_goto (tgt := 22) hx hb dX6_join_130 (by decide) ?_
          have hinc := i32_inc (x := x4) h0_22 (by omega)
          have e9 : (Z) 22 0 = Zo 22 0 := by first | exact hkinv.2.2.2.1 | rw [eZo]
          exact ih22 Z x3 (x4 + 1) _ _ _ hI ⟨by omega, by omega, by omega, by rw [e9]; omega, ⟨by first | exact hkinv.1 | exact hex_22.1, by first | exact hkinv.2.1 | exact hex_22.2.1, by first | exact hkinv.2.2.1 | exact hex_22.2.2.1, by rw [hinc]; first | exact hkinv.2.2.2.2 | exact Int.le_trans hex_22.2.2.2 (Int.add_le_add_left (Int.ofNat_le.mpr (cn_up (S 10) x4.toInt 120)) _)⟩⟩ (by first | (rw [← he22, l_M_join_22, if_neg c_4, if_pos c_6]; done) | (rw [← he22, l_M_join_22]; simp only [if_neg c_4, if_pos c_6])) hP hD hS (lv_sub hl [1, 2, 3, 4, 0] rfl)
        · skip
          have z_0 : ((0) : Int32).toInt = (0) := by decide
          have t_6 := mt Int32.toInt_inj.mp c_6
          refine lv_aload_n hx hb dX6_join_41 rfl (lv_at hl 0 rfl) ?_
          refine va_get (D := D) (ci := 6) (v := .ref (h 6)) (C := RX6) (T := TX6) (N := 25) hx hb hB inX6 hown hK hP 0 rfl rfl 9 (by decide) (hB _ k3_6) (fun _ h9 => h9) rfl dX6_join_42 ?_
          refine lv_iload hx hb dX6_join_45 (lv_at hl 4 rfl) ?_
          refine va_iald (f := Z 5) hx hb hK hP 6 0 rfl rfl (vp_in_iff.mpr (by omega)) dX6_join_47 ?_
          have b_7 : (0) ≤ (Z 5 x4.toNatClampNeg).toInt ∧ (Z 5 x4.toNatClampNeg).toInt ≤ 31 := ivM_5 (S := Z) hI x4.toNatClampNeg
          refine lv_iload_n hx hb dX6_join_48 rfl (lv_at hl 1 rfl) ?_
          refine lv_icmp_ne (tgt := 127) hx hb dX6_join_49 (by decide) (fun c_8 => ?_) (fun c_8 => ?_)
          · skip
            refine lv_iinc (v := x4 + 1) (lv' := [(4, .int (x4 + 1)), (0, .ref (h 0)), (1, .int a1), (2, .int a2), (3, .int x3)]) hx hb dX6_join_127 hl (k := 4) rfl rfl (by decide) rfl (fun ls hl => ?_)
            refine lv_goto (tgt := 22) hx hb dX6_join_130 (by decide) ?_
            have hinc := i32_inc (x := x4) h0_22 (by omega)
            have e9 : (Z) 22 0 = Zo 22 0 := by first | exact hkinv.2.2.2.1 | rw [eZo]
            exact ih22 Z x3 (x4 + 1) _ _ _ hI ⟨by omega, by omega, by omega, by rw [e9]; omega, ⟨by first | exact hkinv.1 | exact hex_22.1, by first | exact hkinv.2.1 | exact hex_22.2.1, by first | exact hkinv.2.2.1 | exact hex_22.2.2.1, by rw [hinc]; first | exact hkinv.2.2.2.2 | exact Int.le_trans hex_22.2.2.2 (Int.add_le_add_left (Int.ofNat_le.mpr (cn_up (S 10) x4.toInt 120)) _)⟩⟩ (by first | (rw [← he22, l_M_join_22, if_neg c_4, if_neg c_6, if_neg c_8]; done) | (rw [← he22, l_M_join_22]; simp only [if_neg c_4, if_neg c_6, if_neg c_8])) hP hD hS (lv_sub hl [1, 2, 3, 4, 0] rfl)
          · skip
            refine lv_aload_n hx hb dX6_join_52 rfl (lv_at hl 0 rfl) ?_
            refine va_get (D := D) (ci := 6) (v := .ref (h 6)) (C := RX6) (T := TX6) (N := 25) hx hb hB inX6 hown hK hP 0 rfl rfl 9 (by decide) (hB _ k3_6) (fun _ h9 => h9) rfl dX6_join_53 ?_
            refine lv_iload hx hb dX6_join_56 (lv_at hl 4 rfl) ?_
            refine lv_iload_n hx hb dX6_join_58 rfl (lv_at hl 2 rfl) ?_
            refine wstM_5 (S := Z) hx hb hK hP hD hS (vp_in_iff.mpr (by omega)) dX6_join_59 (fun H locs hP hD hS => ?_)
            have hI_9 : IVM (upS 5 x4.toNatClampNeg a2 Z) := iv_upM (S := Z) hI 5 x4.toNatClampNeg a2 (iv_oneM 5 (0) 31 rfl (by omega))
            refine lv_iconst (v := 0) hx hb dX6_join_60 (by decide) ?_
            refine lv_istore (lv' := [(5, .int 0), (0, .ref (h 0)), (1, .int a1), (2, .int a2), (3, .int x3), (4, .int x4)]) hx hb dX6_join_61 hl (by decide) rfl (fun ls hl => ?_)
            have kont63 : ∀ (Z : BS) (x3 x5 : Int32) (H : Heap) (locs : List Loc) (ls : Array Slot), IVM Z → (ASM Z ∧ Z 10 = S 10 ∧ Z 23 = S 23 ∧ Z 22 0 = Zo 22 0 ∧ (Z 24 0).toInt ≤ (S 24 0).toInt + ((cn (S 10) (fun x => decide (x.toInt < x4.toInt + 1)) 120 : Nat) : Int)) → (l_M_join_22 a1 a2 n22 Z x3 (x4 + 1)) = F_M_join S a1 a2 → va_P D vwCl (wBM h cI cZ Z) H → va_D (bAM h) (wBM h cI cZ Z) → va_S (bAM h) s.heap H locs → lv_has ls 7 [(0, .ref (h 0)), (1, .int a1), (2, .int a2), (3, .int x3), (4, .int x4), (5, .int x5)] → W p l e (headSpec wsX6_join { frames := 2, cells := 0, slots := 0, locals := 45 }).room s m ([.ref (h 0), .int a1, .int a2]).toArray below meth c H locs 0 0 (MQ below (WQM D cI cZ h (F_M_join S a1 a2)) ([.ref (h 0), .int a1, .int a2]).toArray s 0 0 (bAM h)) (F0 m 127 ls []) := by
              intro Z x3 x5 H locs ls hI hkinv hk63 hP hD hS hl
              refine lv_iinc (v := x4 + 1) (lv' := [(4, .int (x4 + 1)), (0, .ref (h 0)), (1, .int a1), (2, .int a2), (3, .int x3), (5, .int x5)]) hx hb dX6_join_127 hl (k := 4) rfl rfl (by decide) rfl (fun ls hl => ?_)
              refine lv_goto (tgt := 22) hx hb dX6_join_130 (by decide) ?_
              have hinc := i32_inc (x := x4) h0_22 (by omega)
              have e9 : (Z) 22 0 = Zo 22 0 := by first | exact hkinv.2.2.2.1 | rw [eZo]
              exact ih22 Z x3 (x4 + 1) _ _ _ hI ⟨by omega, by omega, by omega, by rw [e9]; omega, ⟨by first | exact hkinv.1 | exact hex_22.1, by first | exact hkinv.2.1 | exact hex_22.2.1, by first | exact hkinv.2.2.1 | exact hex_22.2.2.1, by rw [hinc]; first | exact hkinv.2.2.2.2 | exact Int.le_trans hex_22.2.2.2 (Int.add_le_add_left (Int.ofNat_le.mpr (cn_up (S 10) x4.toInt 120)) _)⟩⟩ (by rw [← hk63]) hP hD hS (lv_sub hl [1, 2, 3, 4, 0] rfl)
            have loop63 : ∀ (n63 : Nat) (Z : BS) (x3 x5 : Int32) (H : Heap) (locs : List Loc) (ls : Array Slot), IVM Z → (0 ≤ x5.toInt ∧ x5.toInt ≤ 6000 ∧ 1 ≤ (n63 : Int) ∧ (Z 23 0 : Int32).toInt - x5.toInt < (n63 : Int) ∧ (ASM Z ∧ Z 10 = S 10 ∧ Z 23 = S 23 ∧ Z 22 0 = Zo 22 0 ∧ x5.toInt ≤ 120 ∧ (Z 24 0).toInt ≤ (S 24 0).toInt + ((cn (S 10) (fun x => decide (x.toInt < x4.toInt)) 120 : Nat) : Int) + ((cn (S 10) (fun x => decide (x.toInt = x4.toInt)) x5.toNatClampNeg : Nat) : Int))) → l_M_join_63 a1 a2 x4 (fun Z x3 x5 => (l_M_join_22 a1 a2 n22 Z x3 (x4 + 1))) n63 Z x3 x5 = F_M_join S a1 a2 → va_P D vwCl (wBM h cI cZ Z) H → va_D (bAM h) (wBM h cI cZ Z) → va_S (bAM h) s.heap H locs → lv_has ls 7 [(0, .ref (h 0)), (1, .int a1), (2, .int a2), (3, .int x3), (4, .int x4), (5, .int x5)] → W p l e (headSpec wsX6_join { frames := 2, cells := 0, slots := 0, locals := 45 }).room s m ([.ref (h 0), .int a1, .int a2]).toArray below meth c H locs 0 0 (MQ below (WQM D cI cZ h (F_M_join S a1 a2)) ([.ref (h 0), .int a1, .int a2]).toArray s 0 0 (bAM h)) (F0 m 63 ls []) := by
              intro n63
              induction n63 with
              | zero =>
                intro Z x3 x5 H locs ls hI hinv he63 hP hD hS hl
                exact absurd hinv.2.2.1 (by omega)
              | succ n63 ih63 =>
                intro Z x3 x5 H locs ls hI hinv he63 hP hD hS hl
                obtain ⟨h0_63, hc_63, h1_63, hm_63, hex_63⟩ := hinv
                have hBd_63 := ivM_23 hI
                refine lv_iload hx hb dX6_join_63 (lv_at hl 5 rfl) ?_
                refine lv_aload_n hx hb dX6_join_65 rfl (lv_at hl 0 rfl) ?_
                refine va_get (D := D) (ci := 6) (v := .int (Z 23 0)) (C := RX6) (T := TX6) (N := 25) hx hb hB inX6 hown hK hP 0 rfl rfl 14 (by decide) (hB _ k3_11) (fun _ h9 => h9) rfl dX6_join_66 ?_
                have b_10 : (0) ≤ (Z 23 0).toInt ∧ (Z 23 0).toInt ≤ 120 := ivM_23 (S := Z) hI
                refine lv_icmp_ge (tgt := 127) hx hb dX6_join_69 (by decide) (fun c_11 => ?_) (fun c_11 => ?_)
                · skip
                  have t_11 := Int32.le_iff_toInt_le.mp c_11
                  exact kont63 Z x3 x5 _ _ _ hI ⟨hex_63.1, hex_63.2.1, hex_63.2.2.1, hex_63.2.2.2.1, by have := hex_63.2.2.2.2.2; have := cn_next (S 10) x4.toInt x5.toNatClampNeg (by have := cl_int h0_63; have := hex_63.2.2.2.2.1; omega); omega⟩ (by first | (rw [← he63, l_M_join_63, if_pos c_11]; done) | (rw [← he63, l_M_join_63]; simp only [if_pos c_11])) hP hD hS (lv_sub hl [0, 1, 2, 3, 4, 5] rfl)
                · skip
                  have t_11 := mt Int32.le_iff_toInt_le.mpr c_11
                  refine lv_aload_n hx hb dX6_join_72 rfl (lv_at hl 0 rfl) ?_
                  refine va_get (D := D) (ci := 6) (v := .ref (h 13)) (C := RX6) (T := TX6) (N := 25) hx hb hB inX6 hown hK hP 0 rfl rfl 17 (by decide) (hB _ k3_14) (fun _ h9 => h9) rfl dX6_join_73 ?_
                  refine lv_iload hx hb dX6_join_76 (lv_at hl 5 rfl) ?_
                  refine va_zald (f := Z 12) hx hb hK hP 13 1 rfl rfl (vp_in_iff.mpr (by omega)) dX6_join_78 ?_
                  have b_12 : (0) ≤ (Z 12 x5.toNatClampNeg).toInt ∧ (Z 12 x5.toNatClampNeg).toInt ≤ 1 := ivM_12 (S := Z) hI x5.toNatClampNeg
                  refine lv_if_eq (tgt := 121) hx hb dX6_join_79 (by decide) (fun c_13 => ?_) (fun c_13 => ?_)
                  · skip
                    have z_0 : ((0) : Int32).toInt = (0) := by decide
                    have t_13 := Int32.toInt_inj.symm.mp c_13
                    refine lv_iinc (v := x5 + 1) (lv' := [(5, .int (x5 + 1)), (0, .ref (h 0)), (1, .int a1), (2, .int a2), (3, .int x3), (4, .int x4)]) hx hb dX6_join_121 hl (k := 5) rfl rfl (by decide) rfl (fun ls hl => ?_)
                    refine lv_goto (tgt := 63) hx hb dX6_join_124 (by decide) ?_
                    have hinc := i32_inc (x := x5) h0_63 (by omega)
                    have e9 : (Z) 23 0 = Z 23 0 := rfl
                    have ecl := cl_inc (x := x5) h0_63 (by omega)
                    have hcm := cn_le (S 10) (fun x => decide (x.toInt = x4.toInt)) x5.toNatClampNeg
                    exact ih63 Z x3 (x5 + 1) _ _ _ hI ⟨by omega, by omega, by omega, by rw [e9]; omega, ⟨hex_63.1, hex_63.2.1, hex_63.2.2.1, hex_63.2.2.2.1, by omega, by rw [ecl]; have := hex_63.2.2.2.2.2; omega⟩⟩ (by first | (rw [← he63, l_M_join_63, if_neg c_11, if_pos c_13]; done) | (rw [← he63, l_M_join_63]; simp only [if_neg c_11, if_pos c_13])) hP hD hS (lv_sub hl [1, 2, 3, 4, 5, 0] rfl)
                  · skip
                    have z_0 : ((0) : Int32).toInt = (0) := by decide
                    have t_13 := mt Int32.toInt_inj.mp c_13
                    refine lv_aload_n hx hb dX6_join_82 rfl (lv_at hl 0 rfl) ?_
                    refine va_get (D := D) (ci := 6) (v := .ref (h 11)) (C := RX6) (T := TX6) (N := 25) hx hb hB inX6 hown hK hP 0 rfl rfl 15 (by decide) (hB _ k3_12) (fun _ h9 => h9) rfl dX6_join_83 ?_
                    refine lv_iload hx hb dX6_join_86 (lv_at hl 5 rfl) ?_
                    refine va_iald (f := Z 10) hx hb hK hP 11 0 rfl rfl (vp_in_iff.mpr (by omega)) dX6_join_88 ?_
                    have b_14 : (0) ≤ (Z 10 x5.toNatClampNeg).toInt ∧ (Z 10 x5.toNatClampNeg).toInt ≤ 79 := ivM_10 (S := Z) hI x5.toNatClampNeg
                    refine lv_iload hx hb dX6_join_89 (lv_at hl 4 rfl) ?_
                    refine lv_icmp_ne (tgt := 121) hx hb dX6_join_91 (by decide) (fun c_15 => ?_) (fun c_15 => ?_)
                    · skip
                      refine lv_iinc (v := x5 + 1) (lv' := [(5, .int (x5 + 1)), (0, .ref (h 0)), (1, .int a1), (2, .int a2), (3, .int x3), (4, .int x4)]) hx hb dX6_join_121 hl (k := 5) rfl rfl (by decide) rfl (fun ls hl => ?_)
                      refine lv_goto (tgt := 63) hx hb dX6_join_124 (by decide) ?_
                      have hinc := i32_inc (x := x5) h0_63 (by omega)
                      have e9 : (Z) 23 0 = Z 23 0 := rfl
                      have ecl := cl_inc (x := x5) h0_63 (by omega)
                      have hcm := cn_le (S 10) (fun x => decide (x.toInt = x4.toInt)) x5.toNatClampNeg
                      exact ih63 Z x3 (x5 + 1) _ _ _ hI ⟨by omega, by omega, by omega, by rw [e9]; omega, ⟨hex_63.1, hex_63.2.1, hex_63.2.2.1, hex_63.2.2.2.1, by omega, by rw [ecl]; have := hex_63.2.2.2.2.2; omega⟩⟩ (by first | (rw [← he63, l_M_join_63, if_neg c_11, if_neg c_13, if_neg c_15]; done) | (rw [← he63, l_M_join_63]; simp only [if_neg c_11, if_neg c_13, if_neg c_15])) hP hD hS (lv_sub hl [1, 2, 3, 4, 5, 0] rfl)
                    · skip
                      refine lv_aload_n hx hb dX6_join_94 rfl (lv_at hl 0 rfl) ?_
                      refine lv_iload hx hb dX6_join_95 (lv_at hl 5 rfl) ?_
                      refine pu_callM (va_runV (As := [.int x5]) (rest := []) ⟨hx, hb, hml, hown, hB⟩ (m_M_houseOf l D h cI cZ Z hI x5 (((show ASM (Z) from hex_63.1)) x5 (by omega) (show (x5).toInt < (Z 23 0).toInt by omega))) (cwV 1 hB (gV k3_137 k3_139 ks_354 k1_7 k3_140) rfl rfl rfl (by decide +kernel) ⟨Nat.le_of_ble_eq_true rfl, Nat.le_of_ble_eq_true rfl⟩) ⟨pu_blindM, va_recv hK hP (ci := 6) (q0 := 0) rfl rfl, pu_preM hP hK hN⟩ rfl rfl hl.1 rfl (lv_room (Nat.le_of_ble_eq_true rfl)) dX6_join_97 ⟨Nat.le_of_ble_eq_true rfl, Nat.le_of_ble_eq_true rfl⟩) hP hS (fun H locs hP hS => ?_)
                      have k_16 := fc_M_houseOf (S := Z) hI x5
                      have hcr := cn_room (S 10) x4 x5.toNatClampNeg (by have := cl_int h0_63; omega) (by rw [← hex_63.2.1]; exact c_15)
                      have hcb := hex_63.2.2.2.2.2
                      refine lv_istore (lv' := [(6, .int (f_M_houseOf Z x5)), (0, .ref (h 0)), (1, .int a1), (2, .int a2), (3, .int x3), (4, .int x4), (5, .int x5)]) hx hb dX6_join_100 hl (by decide) rfl (fun ls hl => ?_)
                      refine lv_aload_n hx hb dX6_join_102 rfl (lv_at hl 1 rfl) ?_
                      refine lv_iload hx hb dX6_join_103 (lv_at hl 6 rfl) ?_
                      refine lv_iconst (v := 0) hx hb dX6_join_105 (by decide) ?_
                      refine wv_callM (va_runV (As := [.int x5, .int 0]) (rest := []) ⟨hx, hb, hml, hown, hB⟩ (m_M_endStay l D h cI cZ Z hI x5 0 (((show ASM (Z) from hex_63.1)) x5 (by omega) (show (x5).toInt < (Z 23 0).toInt by omega)) (by decide)) (cwV 2 hB (gV k3_170 k3_172 ks_370 k1_7 k3_173) rfl rfl rfl (by decide +kernel) ⟨Nat.le_of_ble_eq_true rfl, Nat.le_of_ble_eq_true rfl⟩) ⟨wr_blindM, va_recv hK hP (ci := 6) (q0 := 0) rfl rfl, wr_preM hP hK hN hD⟩ rfl rfl hl.1 rfl (lv_room (Nat.le_of_ble_eq_true rfl)) dX6_join_106 ⟨Nat.le_of_ble_eq_true rfl, Nat.le_of_ble_eq_true rfl⟩) hS (fun H locs hP hI_17 hS => ?_)
                      have hD := wDM (S2 := (F_M_endStay Z x5 0)) hD
                      refine lv_aload_n hx hb dX6_join_109 rfl (lv_at hl 1 rfl) ?_
                      refine lv_iload hx hb dX6_join_110 (lv_at hl 6 rfl) ?_
                      refine lv_iload_n hx hb dX6_join_112 rfl (lv_at hl 3 rfl) ?_
                      refine lv_iload hx hb dX6_join_113 (lv_at hl 0 rfl) ?_
                      refine wv_callM (va_runV (As := [.int x5, .int a2, .int (f_M_houseOf Z x5)]) (rest := []) ⟨hx, hb, hml, hown, hB⟩ (m_M_stay l D h cI cZ (F_M_endStay Z x5 0) hI_17 x5 a2 (f_M_houseOf Z x5) (show (Z 24 0).toInt ≤ 4999 by omega) (by omega) (by omega) (by omega)) (cwV 3 hB (gV k3_145 k3_147 ks_366 k1_7 k3_148) rfl rfl rfl (by decide +kernel) ⟨Nat.le_of_ble_eq_true rfl, Nat.le_of_ble_eq_true rfl⟩) ⟨wr_blindM, va_recv hK hP (ci := 6) (q0 := 0) rfl rfl, wr_preM hP hK hN hD⟩ rfl rfl hl.1 rfl (lv_room (Nat.le_of_ble_eq_true rfl)) dX6_join_115 ⟨Nat.le_of_ble_eq_true rfl, Nat.le_of_ble_eq_true rfl⟩) hS (fun H locs hP hI_19 hS => ?_)
                      have hD := wDM (S2 := (F_M_stay (F_M_endStay Z x5 0) x5 a2 (f_M_houseOf Z x5))) hD
                      have b_20 : 0 ≤ (Z 24 0).toInt ∧ (Z 24 0).toInt ≤ 5000 := ivM_24 (S := (F_M_endStay Z x5 0)) hI_17
                      have j_20 : ((F_M_stay (F_M_endStay Z x5 0) x5 a2 (f_M_houseOf Z x5)) 24 0).toInt = (Z 24 0).toInt + 1 := i32_inc (x := Z 24 0) (by omega) (by omega)
                      refine lv_iinc (v := x3 + 1) (lv' := [(3, .int (x3 + 1)), (6, .int (f_M_houseOf Z x5)), (0, .ref (h 0)), (1, .int a1), (2, .int a2), (4, .int x4), (5, .int x5)]) hx hb dX6_join_118 hl (k := 4) rfl rfl (by decide) rfl (fun ls hl => ?_)
                      refine lv_iinc (v := x5 + 1) (lv' := [(5, .int (x5 + 1)), (3, .int (x3 + 1)), (6, .int (f_M_houseOf Z x5)), (0, .ref (h 0)), (1, .int a1), (2, .int a2), (4, .int x4)]) hx hb dX6_join_121 hl (k := 6) rfl rfl (by decide) rfl (fun ls hl => ?_)
                      refine lv_goto (tgt := 63) hx hb dX6_join_124 (by decide) ?_
                      have hinc := i32_inc (x := x5) h0_63 (by omega)
                      have e9 : ((F_M_stay (F_M_endStay Z x5 0) x5 a2 (f_M_houseOf Z x5))) 23 0 = Z 23 0 := rfl
                      have ecl := cl_inc (x := x5) h0_63 (by omega)
                      exact ih63 (F_M_stay (F_M_endStay Z x5 0) x5 a2 (f_M_houseOf Z x5)) (x3 + 1) (x5 + 1) _ _ _ hI_19 ⟨by omega, by omega, by omega, by rw [e9]; omega, ⟨as_stay (S := F_M_endStay Z x5 0) (by show 0 ≤ (Z 24 0).toInt; omega) (by show (Z 24 0).toInt ≤ 4999; omega) hex_63.1, hex_63.2.1, hex_63.2.2.1, hex_63.2.2.2.1, by omega, by rw [ecl]; have := hex_63.2.2.2.2.2; omega⟩⟩ (by first | (rw [← he63, l_M_join_63, if_neg c_11, if_neg c_13, if_pos c_15]; done) | (rw [← he63, l_M_join_63]; simp only [if_neg c_11, if_neg c_13, if_pos c_15])) hP hD hS (lv_sub hl [3, 4, 5, 1, 6, 0] rfl)
            have hB9_63 := ivM_23 (S := upS 5 x4.toNatClampNeg a2 Z) hI_9
            exact loop63 600 (upS 5 x4.toNatClampNeg a2 Z) x3 0 _ _ _ hI_9 ⟨by omega, by omega, by omega, by omega, ⟨hex_22.1, hex_22.2.1, hex_22.2.2.1, by rw [eZo]; rfl, by decide, Int.le_trans hex_22.2.2.2 (Int.le_add_of_nonneg_right (Int.natCast_nonneg _))⟩⟩ (by first | (rw [← he22, l_M_join_22, if_neg c_4, if_neg c_6, if_pos c_8]; done) | (rw [← he22, l_M_join_22]; simp only [if_neg c_4, if_neg c_6, if_pos c_8])) hP hD hS (lv_sub hl [1, 2, 3, 4, 5, 0] rfl)
  have z_0 : ((0) : Int32).toInt = (0) := by decide
  have hB9_22 := ivM_22 (S := upS 4 a1.toNatClampNeg (S 19 0) (upS 3 a1.toNatClampNeg a2 S)) hI_2
  exact loop22 600 (upS 4 a1.toNatClampNeg (S 19 0) (upS 3 a1.toNatClampNeg a2 S)) 0 0 _ _ _ hI_2 ⟨by omega, by omega, by omega, by omega, ⟨hAS, rfl, rfl, by show (S 24 0).toInt ≤ _; omega⟩⟩ (by rw [F_M_join]) hP hD hS (lv_sub hl [2, 3, 4, 1, 0] rfl)
set_option maxHeartbeats 4000000 in
set_option maxRecDepth 100000 in
theorem m_M_clash (l : Launch) (D : va_G) (h : Nat → Nat) (cI cZ : ClassId) (S : BS) (hI : IVM S) (a1 a2 : Int32) : PMM l yX6_clash wsX6_clash { frames := 3, cells := 0, slots := 0, locals := 68 } D cI cZ h S [.ref (h 0), .int a1, .int a2] (f_M_clash S a1 a2) := by
  refine Met.ofW (cc := cX6_clash) (maxL := 6) (ret := (some .int)) (by decide) rfl ?_
  intro p e s m args below meth c s₁ B hml hv
  obtain ⟨rfl, hP, hK, hN⟩ := hv
  have hx := B.exec
  have hb := B.bytes
  have hr := B.returns
  have hts := atoms_spec (ws := wsX6_clash) B.pre
  have hB : ∀ w ∈ BW, w.before _ s = true := fun w h => hts w (List.mem_cons_of_mem _ h)
  have hown : s.vm.findClass RX6 = some m.cls := findClass_of_methodNamed B.named
  have hlocks := B.notSynchronized
  have hS : va_S (fun _ => False) s.heap s.heap [] := va_S.rf
  have hl := lv_entry ([.ref (h 0), .int a1, .int a2]) (n := 6) (Nat.le_of_ble_eq_true rfl)
  rw [lg_entry_eq]
  generalize (lg_sl ([.ref (h 0), .int a1, .int a2]) ++ List.replicate (6 - (lg_sl ([.ref (h 0), .int a1, .int a2])).length) Slot.unset).toArray = ls at hl ⊢
  have hl : lv_has ls 6 [(0, .ref (h 0)), (1, .int a1), (2, .int a2)] := hl
  refine lv_iconst (v := 0) hx hb dX6_clash_0 (by decide) ?_
  refine lv_istore_n (lv' := [(3, .int 0), (0, .ref (h 0)), (1, .int a1), (2, .int a2)]) hx hb dX6_clash_1 rfl hl (by decide) rfl (fun ls hl => ?_)
  have loop2 : ∀ (n2 : Nat) (x3 : Int32) (H : Heap) (locs : List Loc) (ls : Array Slot), (0 ≤ x3.toInt ∧ x3.toInt ≤ 6000 ∧ 1 ≤ (n2 : Int) ∧ (S 22 0 : Int32).toInt - x3.toInt < (n2 : Int) ∧ (True)) → l_M_clash_2 S a1 a2 n2 x3 = f_M_clash S a1 a2 → va_P D vwCl (wBM h cI cZ S) H → va_S (fun _ => False) s.heap H locs → lv_has ls 6 [(0, .ref (h 0)), (1, .int a1), (2, .int a2), (3, .int x3)] → W p l e (headSpec wsX6_clash { frames := 3, cells := 0, slots := 0, locals := 68 }).room s m ([.ref (h 0), .int a1, .int a2]).toArray below meth c H locs 0 0 (MQ below (PQ (f_M_clash S a1 a2)) ([.ref (h 0), .int a1, .int a2]).toArray s 0 0 (fun _ => False)) (F0 m 2 ls []) := by
    intro n2
    induction n2 with
    | zero =>
      intro x3 H locs ls hinv he2 hP hS hl
      exact absurd hinv.2.2.1 (by omega)
    | succ n2 ih2 =>
      intro x3 H locs ls hinv he2 hP hS hl
      obtain ⟨h0_2, hc_2, h1_2, hm_2, hex_2⟩ := hinv
      have hBd_2 := ivM_22 hI
      refine lv_iload_n hx hb dX6_clash_2 rfl (lv_at hl 3 rfl) ?_
      refine lv_aload_n hx hb dX6_clash_3 rfl (lv_at hl 0 rfl) ?_
      refine va_get (D := D) (ci := 6) (v := .int (S 22 0)) (C := RX6) (T := TX6) (N := 25) hx hb hB inX6 hown hK hP 0 rfl rfl 8 (by decide) (hB _ k3_5) (fun _ h9 => h9) rfl dX6_clash_4 ?_
      have b_1 : (0) ≤ (S 22 0).toInt ∧ (S 22 0).toInt ≤ 80 := ivM_22 (S := S) hI
      refine lv_icmp_ge (tgt := 117) hx hb dX6_clash_7 (by decide) (fun c_2 => ?_) (fun c_2 => ?_)
      · skip
        have t_2 := Int32.le_iff_toInt_le.mp c_2
        refine lv_iconst (v := (-1)) hx hb dX6_clash_117 (by decide) ?_
        exact W.iret (v := (-1)) hx hb hr (fun t ht hW => ⟨⟨(-1), (), rfl, (by rw [← he2, l_M_clash_2, if_pos c_2]), trivial⟩, hS.F ht⟩) hS.2.2 dX6_clash_118
      · skip
        have t_2 := mt Int32.le_iff_toInt_le.mpr c_2
        refine lv_iconst (v := 0) hx hb dX6_clash_10 (by decide) ?_
        refine lv_istore (lv' := [(4, .int 0), (0, .ref (h 0)), (1, .int a1), (2, .int a2), (3, .int x3)]) hx hb dX6_clash_11 hl (by decide) rfl (fun ls hl => ?_)
        have kont13 : ∀ (x4 : Int32) (H : Heap) (locs : List Loc) (ls : Array Slot), (True) → (l_M_clash_2 S a1 a2 n2 (x3 + 1)) = f_M_clash S a1 a2 → va_P D vwCl (wBM h cI cZ S) H → va_S (fun _ => False) s.heap H locs → lv_has ls 6 [(0, .ref (h 0)), (1, .int a1), (2, .int a2), (3, .int x3), (4, .int x4)] → W p l e (headSpec wsX6_clash { frames := 3, cells := 0, slots := 0, locals := 68 }).room s m ([.ref (h 0), .int a1, .int a2]).toArray below meth c H locs 0 0 (MQ below (PQ (f_M_clash S a1 a2)) ([.ref (h 0), .int a1, .int a2]).toArray s 0 0 (fun _ => False)) (F0 m 111 ls []) := by
          intro x4 H locs ls hkinv hk13 hP hS hl
          refine lv_iinc (v := x3 + 1) (lv' := [(3, .int (x3 + 1)), (0, .ref (h 0)), (1, .int a1), (2, .int a2), (4, .int x4)]) hx hb dX6_clash_111 hl (k := 3) rfl rfl (by decide) rfl (fun ls hl => ?_)
          refine lv_goto (tgt := 2) hx hb dX6_clash_114 (by decide) ?_
          have hinc := i32_inc (x := x3) h0_2 (by omega)
          exact ih2 (x3 + 1) _ _ _ ⟨by omega, by omega, by omega, by omega, trivial⟩ (by rw [← hk13]) hP hS (lv_sub hl [1, 2, 3, 0] rfl)
        have loop13 : ∀ (n13 : Nat) (x4 : Int32) (H : Heap) (locs : List Loc) (ls : Array Slot), (0 ≤ x4.toInt ∧ x4.toInt ≤ 6000 ∧ 1 ≤ (n13 : Int) ∧ (S 22 0 : Int32).toInt - x4.toInt < (n13 : Int) ∧ (True)) → l_M_clash_13 S a1 a2 x3 (fun x4 => (l_M_clash_2 S a1 a2 n2 (x3 + 1))) n13 x4 = f_M_clash S a1 a2 → va_P D vwCl (wBM h cI cZ S) H → va_S (fun _ => False) s.heap H locs → lv_has ls 6 [(0, .ref (h 0)), (1, .int a1), (2, .int a2), (3, .int x3), (4, .int x4)] → W p l e (headSpec wsX6_clash { frames := 3, cells := 0, slots := 0, locals := 68 }).room s m ([.ref (h 0), .int a1, .int a2]).toArray below meth c H locs 0 0 (MQ below (PQ (f_M_clash S a1 a2)) ([.ref (h 0), .int a1, .int a2]).toArray s 0 0 (fun _ => False)) (F0 m 13 ls []) := by
          intro n13
          induction n13 with
          | zero =>
            intro x4 H locs ls hinv he13 hP hS hl
            exact absurd hinv.2.2.1 (by omega)
          | succ n13 ih13 =>
            intro x4 H locs ls hinv he13 hP hS hl
            obtain ⟨h0_13, hc_13, h1_13, hm_13, hex_13⟩ := hinv
            have hBd_13 := ivM_22 hI
            refine lv_iload hx hb dX6_clash_13 (lv_at hl 4 rfl) ?_
            refine lv_aload_n hx hb dX6_clash_15 rfl (lv_at hl 0 rfl) ?_
            refine va_get (D := D) (ci := 6) (v := .int (S 22 0)) (C := RX6) (T := TX6) (N := 25) hx hb hB inX6 hown hK hP 0 rfl rfl 8 (by decide) (hB _ k3_5) (fun _ h9 => h9) rfl dX6_clash_16 ?_
            have b_3 : (0) ≤ (S 22 0).toInt ∧ (S 22 0).toInt ≤ 80 := ivM_22 (S := S) hI
            refine lv_icmp_ge (tgt := 111) hx hb dX6_clash_19 (by decide) (fun c_4 => ?_) (fun c_4 => ?_)
            · skip
              have t_4 := Int32.le_iff_toInt_le.mp c_4
              exact kont13 x4 _ _ _ trivial (by first | (rw [← he13, l_M_clash_13, if_pos c_4]; done) | (rw [← he13, l_M_clash_13]; simp only [if_pos c_4])) hP hS (lv_sub hl [0, 1, 2, 3, 4] rfl)
            · skip
              have t_4 := mt Int32.le_iff_toInt_le.mpr c_4
              refine lv_aload_n hx hb dX6_clash_22 rfl (lv_at hl 0 rfl) ?_
              refine va_get (D := D) (ci := 6) (v := .ref (h 10)) (C := RX6) (T := TX6) (N := 25) hx hb hB inX6 hown hK hP 0 rfl rfl 13 (by decide) (hB _ k3_10) (fun _ h9 => h9) rfl dX6_clash_23 ?_
              refine lv_iload_n hx hb dX6_clash_26 rfl (lv_at hl 3 rfl) ?_
              refine va_zald (f := S 9) hx hb hK hP 10 1 rfl rfl (vp_in_iff.mpr (by omega)) dX6_clash_27 ?_
              have b_5 : (0) ≤ (S 9 x3.toNatClampNeg).toInt ∧ (S 9 x3.toNatClampNeg).toInt ≤ 1 := ivM_9 (S := S) hI x3.toNatClampNeg
              refine lv_if_eq (tgt := 66) hx hb dX6_clash_28 (by decide) (fun c_6 => ?_) (fun c_6 => ?_)
              · skip
                have z_0 : ((0) : Int32).toInt = (0) := by decide
                have t_6 := Int32.toInt_inj.symm.mp c_6
                refine lv_iconst (v := 0) hx hb dX6_clash_66 (by decide) ?_
                refine lv_istore (lv' := [(5, .int 0), (0, .ref (h 0)), (1, .int a1), (2, .int a2), (3, .int x3), (4, .int x4)]) hx hb dX6_clash_67 hl (by decide) rfl (fun ls hl => ?_)
                refine lv_iload hx hb dX6_clash_69 (lv_at hl 0 rfl) ?_
                refine lv_if_eq (tgt := 105) hx hb dX6_clash_71 (by decide) (fun c_7 => ?_) (fun c_7 => ?_)
                rotate_left
                · exact absurd c_7 (by decide)
                refine lv_iinc (v := x4 + 1) (lv' := [(4, .int (x4 + 1)), (5, .int 0), (0, .ref (h 0)), (1, .int a1), (2, .int a2), (3, .int x3)]) hx hb dX6_clash_105 hl (k := 5) rfl rfl (by decide) rfl (fun ls hl => ?_)
                refine lv_goto (tgt := 13) hx hb dX6_clash_108 (by decide) ?_
                have hinc := i32_inc (x := x4) h0_13 (by omega)
                exact ih13 (x4 + 1) _ _ _ ⟨by omega, by omega, by omega, by omega, trivial⟩ (by first | (rw [← he13, l_M_clash_13, if_neg c_4, if_pos c_6]; done) | (rw [← he13, l_M_clash_13]; simp only [if_neg c_4, if_pos c_6])) hP hS (lv_sub hl [2, 3, 4, 5, 0] rfl)
              · skip
                have z_0 : ((0) : Int32).toInt = (0) := by decide
                have t_6 := mt Int32.toInt_inj.mp c_6
                refine lv_aload_n hx hb dX6_clash_31 rfl (lv_at hl 0 rfl) ?_
                refine va_get (D := D) (ci := 6) (v := .ref (h 10)) (C := RX6) (T := TX6) (N := 25) hx hb hB inX6 hown hK hP 0 rfl rfl 13 (by decide) (hB _ k3_10) (fun _ h9 => h9) rfl dX6_clash_32 ?_
                refine lv_iload hx hb dX6_clash_35 (lv_at hl 4 rfl) ?_
                refine va_zald (f := S 9) hx hb hK hP 10 1 rfl rfl (vp_in_iff.mpr (by omega)) dX6_clash_37 ?_
                have b_8 : (0) ≤ (S 9 x4.toNatClampNeg).toInt ∧ (S 9 x4.toNatClampNeg).toInt ≤ 1 := ivM_9 (S := S) hI x4.toNatClampNeg
                refine lv_if_eq (tgt := 66) hx hb dX6_clash_38 (by decide) (fun c_9 => ?_) (fun c_9 => ?_)
                · skip
                  have t_9 := Int32.toInt_inj.symm.mp c_9
                  refine lv_iconst (v := 0) hx hb dX6_clash_66 (by decide) ?_
                  refine lv_istore (lv' := [(5, .int 0), (0, .ref (h 0)), (1, .int a1), (2, .int a2), (3, .int x3), (4, .int x4)]) hx hb dX6_clash_67 hl (by decide) rfl (fun ls hl => ?_)
                  refine lv_iload hx hb dX6_clash_69 (lv_at hl 0 rfl) ?_
                  refine lv_if_eq (tgt := 105) hx hb dX6_clash_71 (by decide) (fun c_10 => ?_) (fun c_10 => ?_)
                  rotate_left
                  · exact absurd c_10 (by decide)
                  refine lv_iinc (v := x4 + 1) (lv' := [(4, .int (x4 + 1)), (5, .int 0), (0, .ref (h 0)), (1, .int a1), (2, .int a2), (3, .int x3)]) hx hb dX6_clash_105 hl (k := 5) rfl rfl (by decide) rfl (fun ls hl => ?_)
                  refine lv_goto (tgt := 13) hx hb dX6_clash_108 (by decide) ?_
                  have hinc := i32_inc (x := x4) h0_13 (by omega)
                  exact ih13 (x4 + 1) _ _ _ ⟨by omega, by omega, by omega, by omega, trivial⟩ (by first | (rw [← he13, l_M_clash_13, if_neg c_4, if_neg c_6, if_pos c_9]; done) | (rw [← he13, l_M_clash_13]; simp only [if_neg c_4, if_neg c_6, if_pos c_9])) hP hS (lv_sub hl [2, 3, 4, 5, 0] rfl)
                · skip
                  have t_9 := mt Int32.toInt_inj.mp c_9
                  refine lv_aload_n hx hb dX6_clash_41 rfl (lv_at hl 0 rfl) ?_
                  refine va_get (D := D) (ci := 6) (v := .ref (h 6)) (C := RX6) (T := TX6) (N := 25) hx hb hB inX6 hown hK hP 0 rfl rfl 9 (by decide) (hB _ k3_6) (fun _ h9 => h9) rfl dX6_clash_42 ?_
                  refine lv_iload_n hx hb dX6_clash_45 rfl (lv_at hl 3 rfl) ?_
                  refine va_iald (f := S 5) hx hb hK hP 6 0 rfl rfl (vp_in_iff.mpr (by omega)) dX6_clash_46 ?_
                  have b_11 : (0) ≤ (S 5 x3.toNatClampNeg).toInt ∧ (S 5 x3.toNatClampNeg).toInt ≤ 31 := ivM_5 (S := S) hI x3.toNatClampNeg
                  refine lv_iload_n hx hb dX6_clash_47 rfl (lv_at hl 2 rfl) ?_
                  refine lv_icmp_ne (tgt := 66) hx hb dX6_clash_48 (by decide) (fun c_12 => ?_) (fun c_12 => ?_)
                  · skip
                    refine lv_iconst (v := 0) hx hb dX6_clash_66 (by decide) ?_
                    refine lv_istore (lv' := [(5, .int 0), (0, .ref (h 0)), (1, .int a1), (2, .int a2), (3, .int x3), (4, .int x4)]) hx hb dX6_clash_67 hl (by decide) rfl (fun ls hl => ?_)
                    refine lv_iload hx hb dX6_clash_69 (lv_at hl 0 rfl) ?_
                    refine lv_if_eq (tgt := 105) hx hb dX6_clash_71 (by decide) (fun c_13 => ?_) (fun c_13 => ?_)
                    rotate_left
                    · exact absurd c_13 (by decide)
                    refine lv_iinc (v := x4 + 1) (lv' := [(4, .int (x4 + 1)), (5, .int 0), (0, .ref (h 0)), (1, .int a1), (2, .int a2), (3, .int x3)]) hx hb dX6_clash_105 hl (k := 5) rfl rfl (by decide) rfl (fun ls hl => ?_)
                    refine lv_goto (tgt := 13) hx hb dX6_clash_108 (by decide) ?_
                    have hinc := i32_inc (x := x4) h0_13 (by omega)
                    exact ih13 (x4 + 1) _ _ _ ⟨by omega, by omega, by omega, by omega, trivial⟩ (by first | (rw [← he13, l_M_clash_13, if_neg c_4, if_neg c_6, if_neg c_9, if_neg c_12]; done) | (rw [← he13, l_M_clash_13]; simp only [if_neg c_4, if_neg c_6, if_neg c_9, if_neg c_12])) hP hS (lv_sub hl [2, 3, 4, 5, 0] rfl)
                  · skip
                    refine lv_aload_n hx hb dX6_clash_51 rfl (lv_at hl 0 rfl) ?_
                    refine va_get (D := D) (ci := 6) (v := .ref (h 6)) (C := RX6) (T := TX6) (N := 25) hx hb hB inX6 hown hK hP 0 rfl rfl 9 (by decide) (hB _ k3_6) (fun _ h9 => h9) rfl dX6_clash_52 ?_
                    refine lv_iload hx hb dX6_clash_55 (lv_at hl 4 rfl) ?_
                    refine va_iald (f := S 5) hx hb hK hP 6 0 rfl rfl (vp_in_iff.mpr (by omega)) dX6_clash_57 ?_
                    have b_14 : (0) ≤ (S 5 x4.toNatClampNeg).toInt ∧ (S 5 x4.toNatClampNeg).toInt ≤ 31 := ivM_5 (S := S) hI x4.toNatClampNeg
                    refine lv_iload_n hx hb dX6_clash_58 rfl (lv_at hl 1 rfl) ?_
                    refine lv_icmp_ne (tgt := 66) hx hb dX6_clash_59 (by decide) (fun c_15 => ?_) (fun c_15 => ?_)
                    · skip
                      refine lv_iconst (v := 0) hx hb dX6_clash_66 (by decide) ?_
                      refine lv_istore (lv' := [(5, .int 0), (0, .ref (h 0)), (1, .int a1), (2, .int a2), (3, .int x3), (4, .int x4)]) hx hb dX6_clash_67 hl (by decide) rfl (fun ls hl => ?_)
                      refine lv_iload hx hb dX6_clash_69 (lv_at hl 0 rfl) ?_
                      refine lv_if_eq (tgt := 105) hx hb dX6_clash_71 (by decide) (fun c_16 => ?_) (fun c_16 => ?_)
                      rotate_left
                      · exact absurd c_16 (by decide)
                      refine lv_iinc (v := x4 + 1) (lv' := [(4, .int (x4 + 1)), (5, .int 0), (0, .ref (h 0)), (1, .int a1), (2, .int a2), (3, .int x3)]) hx hb dX6_clash_105 hl (k := 5) rfl rfl (by decide) rfl (fun ls hl => ?_)
                      refine lv_goto (tgt := 13) hx hb dX6_clash_108 (by decide) ?_
                      have hinc := i32_inc (x := x4) h0_13 (by omega)
                      exact ih13 (x4 + 1) _ _ _ ⟨by omega, by omega, by omega, by omega, trivial⟩ (by first | (rw [← he13, l_M_clash_13, if_neg c_4, if_neg c_6, if_neg c_9, if_pos c_12, if_neg c_15]; done) | (rw [← he13, l_M_clash_13]; simp only [if_neg c_4, if_neg c_6, if_neg c_9, if_pos c_12, if_neg c_15])) hP hS (lv_sub hl [2, 3, 4, 5, 0] rfl)
                    · skip
                      refine lv_iconst (v := 1) hx hb dX6_clash_62 (by decide) ?_
                      refine lv_goto (tgt := 67) hx hb dX6_clash_63 (by decide) ?_
                      refine lv_istore (lv' := [(5, .int 1), (0, .ref (h 0)), (1, .int a1), (2, .int a2), (3, .int x3), (4, .int x4)]) hx hb dX6_clash_67 hl (by decide) rfl (fun ls hl => ?_)
                      refine lv_iload hx hb dX6_clash_69 (lv_at hl 0 rfl) ?_
                      refine lv_if_eq (tgt := 105) hx hb dX6_clash_71 (by decide) (fun c_17 => ?_) (fun c_17 => ?_)
                      · exact absurd c_17 (by decide)
                      refine lv_aload_n hx hb dX6_clash_74 rfl (lv_at hl 1 rfl) ?_
                      refine lv_iload_n hx hb dX6_clash_75 rfl (lv_at hl 4 rfl) ?_
                      refine lv_aload_n hx hb dX6_clash_76 rfl (lv_at hl 1 rfl) ?_
                      refine va_get (D := D) (ci := 6) (v := .ref (h 7)) (C := RX6) (T := TX6) (N := 25) hx hb hB inX6 hown hK hP 0 rfl rfl 10 (by decide) (hB _ k3_7) (fun _ h9 => h9) rfl dX6_clash_77 ?_
                      refine lv_iload hx hb dX6_clash_80 (lv_at hl 5 rfl) ?_
                      refine va_iald (f := S 6) hx hb hK hP 7 0 rfl rfl (vp_in_iff.mpr (by omega)) dX6_clash_82 ?_
                      refine lv_aload_n hx hb dX6_clash_83 rfl (lv_at hl 1 rfl) ?_
                      refine va_get (D := D) (ci := 6) (v := .ref (h 8)) (C := RX6) (T := TX6) (N := 25) hx hb hB inX6 hown hK hP 0 rfl rfl 11 (by decide) (hB _ k3_8) (fun _ h9 => h9) rfl dX6_clash_84 ?_
                      refine lv_iload hx hb dX6_clash_87 (lv_at hl 5 rfl) ?_
                      refine va_iald (f := S 7) hx hb hK hP 8 0 rfl rfl (vp_in_iff.mpr (by omega)) dX6_clash_89 ?_
                      have b_18 : (0) ≤ (S 7 x4.toNatClampNeg).toInt ∧ (S 7 x4.toNatClampNeg).toInt ≤ 999 := ivM_7 (S := S) hI x4.toNatClampNeg
                      refine lv_aload_n hx hb dX6_clash_90 rfl (lv_at hl 1 rfl) ?_
                      refine va_get (D := D) (ci := 6) (v := .ref (h 9)) (C := RX6) (T := TX6) (N := 25) hx hb hB inX6 hown hK hP 0 rfl rfl 12 (by decide) (hB _ k3_9) (fun _ h9 => h9) rfl dX6_clash_91 ?_
                      refine lv_iload hx hb dX6_clash_94 (lv_at hl 5 rfl) ?_
                      refine va_iald (f := S 8) hx hb hK hP 9 0 rfl rfl (vp_in_iff.mpr (by omega)) dX6_clash_96 ?_
                      have b_19 : (0) ≤ (S 8 x4.toNatClampNeg).toInt ∧ (S 8 x4.toNatClampNeg).toInt ≤ 999 := ivM_8 (S := S) hI x4.toNatClampNeg
                      refine pu_callM (va_runV (As := [.int x3, .int (S 6 x4.toNatClampNeg), .int (S 7 x4.toNatClampNeg), .int (S 8 x4.toNatClampNeg)]) (rest := []) ⟨hx, hb, hml, hown, hB⟩ (m_M_isOver l D h cI cZ S hI x3 (S 6 x4.toNatClampNeg) (S 7 x4.toNatClampNeg) (S 8 x4.toNatClampNeg) (by omega) (by omega) (by omega)) (cwV 4 hB (gV k3_113 k3_115 ks_334 k1_7 k3_116) rfl rfl rfl (by decide +kernel) ⟨Nat.le_of_ble_eq_true rfl, Nat.le_of_ble_eq_true rfl⟩) ⟨pu_blindM, va_recv hK hP (ci := 6) (q0 := 0) rfl rfl, pu_preM hP hK hN⟩ rfl rfl hl.1 rfl (lv_room (Nat.le_of_ble_eq_true rfl)) dX6_clash_97 ⟨Nat.le_of_ble_eq_true rfl, Nat.le_of_ble_eq_true rfl⟩) hP hS (fun H locs hP hS => ?_)
                      refine lv_if_eq (tgt := 105) hx hb dX6_clash_100 (by decide) (fun c_21 => ?_) (fun c_21 => ?_)
                      · skip
                        refine lv_iinc (v := x4 + 1) (lv' := [(4, .int (x4 + 1)), (5, .int 1), (0, .ref (h 0)), (1, .int a1), (2, .int a2), (3, .int x3)]) hx hb dX6_clash_105 hl (k := 5) rfl rfl (by decide) rfl (fun ls hl => ?_)
                        refine lv_goto (tgt := 13) hx hb dX6_clash_108 (by decide) ?_
                        have hinc := i32_inc (x := x4) h0_13 (by omega)
                        exact ih13 (x4 + 1) _ _ _ ⟨by omega, by omega, by omega, by omega, trivial⟩ (by first | (rw [← he13, l_M_clash_13, if_neg c_4, if_neg c_6, if_neg c_9, if_pos c_12, if_pos c_15, if_pos c_21]; done) | (rw [← he13, l_M_clash_13]; simp only [if_neg c_4, if_neg c_6, if_neg c_9, if_pos c_12, if_pos c_15, if_pos c_21])) hP hS (lv_sub hl [2, 3, 4, 5, 0] rfl)
                      · skip
                        refine lv_iload_n hx hb dX6_clash_103 rfl (lv_at hl 4 rfl) ?_
                        exact W.iret (v := x3) hx hb hr (fun t ht hW => ⟨⟨x3, (), rfl, (by rw [← he13, l_M_clash_13, if_neg c_4, if_neg c_6, if_neg c_9, if_pos c_12, if_pos c_15, if_neg c_21]), trivial⟩, hS.F ht⟩) hS.2.2 dX6_clash_104
        have z_0 : ((0) : Int32).toInt = (0) := by decide
        have hB9_13 := ivM_22 (S := S) hI
        exact loop13 600 0 _ _ _ ⟨by omega, by omega, by omega, by omega, trivial⟩ (by first | (rw [← he2, l_M_clash_2, if_neg c_2]; done) | (rw [← he2, l_M_clash_2]; simp only [if_neg c_2])) hP hS (lv_sub hl [1, 2, 3, 4, 0] rfl)
  have z_0 : ((0) : Int32).toInt = (0) := by decide
  have hB9_2 := ivM_22 (S := S) hI
  exact loop2 600 0 _ _ _ ⟨by omega, by omega, by omega, by omega, trivial⟩ (by rw [f_M_clash]) hP hS (lv_sub hl [1, 2, 3, 0] rfl)
