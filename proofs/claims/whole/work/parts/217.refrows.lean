set_option maxHeartbeats 4000000 in
set_option maxRecDepth 100000 in
theorem m_M_where (l : Launch) (D : va_G) (h : Nat → Nat) (cI cZ : ClassId) (S : BS) (hI : IVM S) (a1 a2 a3 : Int32) : PMM l yX6_where wsX6_where { frames := 2, cells := 0, slots := 0, locals := 43 } D cI cZ h S [.ref (h 0), .int a1, .int a2, .int a3] (f_M_where S a1 a2 a3) := by
  refine Met.ofW (cc := cX6_where) (maxL := 5) (ret := (some .int)) (by decide) rfl ?_
  intro p e s m args below meth c s₁ B hml hv
  obtain ⟨rfl, hP, hK, hN⟩ := hv
  have hx := B.exec
  have hb := B.bytes
  have hr := B.returns
  have hts := atoms_spec (ws := wsX6_where) B.pre
  have hB : ∀ w ∈ BW, w.before _ s = true := fun w h => hts w (List.mem_cons_of_mem _ h)
  have hown : s.vm.findClass RX6 = some m.cls := findClass_of_methodNamed B.named
  have hlocks := B.notSynchronized
  have hS : va_S (fun _ => False) s.heap s.heap [] := va_S.rf
  have hl := lv_entry ([.ref (h 0), .int a1, .int a2, .int a3]) (n := 5) (Nat.le_of_ble_eq_true rfl)
  rw [lg_entry_eq]
  generalize (lg_sl ([.ref (h 0), .int a1, .int a2, .int a3]) ++ List.replicate (5 - (lg_sl ([.ref (h 0), .int a1, .int a2, .int a3])).length) Slot.unset).toArray = ls at hl ⊢
  have hl : lv_has ls 5 [(0, .ref (h 0)), (1, .int a1), (2, .int a2), (3, .int a3)] := hl
  refine lv_aload_n hx hb dX6_where_0 rfl (lv_at hl 0 rfl) ?_
  refine lv_iload_n hx hb dX6_where_1 rfl (lv_at hl 1 rfl) ?_
  refine pu_callM (va_runV (As := [.int a1]) (rest := []) ⟨hx, hb, hml, hown, hB⟩ (m_M_isPoint l D h cI cZ S hI a1 ) (cwV 1 hB (gV k3_194 k3_196 ks_398 k1_7 k3_197) rfl rfl rfl (by decide +kernel) ⟨Nat.le_of_ble_eq_true rfl, Nat.le_of_ble_eq_true rfl⟩) ⟨pu_blindM, va_recv hK hP (ci := 6) (q0 := 0) rfl rfl, pu_preM hP hK hN⟩ rfl rfl hl.1 rfl (lv_room (Nat.le_of_ble_eq_true rfl)) dX6_where_2 ⟨Nat.le_of_ble_eq_true rfl, Nat.le_of_ble_eq_true rfl⟩) hP hS (fun H locs hP hS => ?_)
  refine lv_if_ne (tgt := 11) hx hb dX6_where_5 (by decide) (fun c_2 => ?_) (fun c_2 => ?_)
  · skip
    have t_2 := fb_M_isPoint hI c_2
    refine lv_iload_n hx hb dX6_where_11 rfl (lv_at hl 2 rfl) ?_
    refine lv_iconst (v := 0) hx hb dX6_where_12 (by decide) ?_
    refine lv_iconst (v := 3) hx hb dX6_where_13 (by decide) ?_
    refine pu_callM (va_runS (As := [.int a2, .int 0, .int 3]) (rest := []) ⟨hx, hb, hml, hown, hB⟩ (m_M_in l D h cI cZ S hI a2 0 3 ) (cwS 3 hB (gS k3_78 k3_79 k1_7 k3_80) rfl rfl rfl (by decide +kernel) ⟨Nat.le_of_ble_eq_true rfl, Nat.le_of_ble_eq_true rfl⟩) ⟨pu_blindM, pu_preM hP hK hN⟩ rfl rfl hl.1 rfl (lv_room (Nat.le_of_ble_eq_true rfl)) dX6_where_14 ⟨Nat.le_of_ble_eq_true rfl, Nat.le_of_ble_eq_true rfl⟩) hP hS (fun H locs hP hS => ?_)
    refine lv_if_eq (tgt := 30) hx hb dX6_where_17 (by decide) (fun c_4 => ?_) (fun c_4 => ?_)
    · skip
      refine lv_bipush (v := (-12)) hx hb dX6_where_30 (by decide) ?_
      exact W.iret (v := (-12)) hx hb hr (fun t ht hW => ⟨⟨(-12), (), rfl, (by rw [f_M_where, if_neg c_2, if_pos c_4]), trivial⟩, hS.F ht⟩) hS.2.2 dX6_where_32
    · skip
      have z_0 : ((0) : Int32).toInt = (0) := by decide
      have z_3 : ((3) : Int32).toInt = (3) := by decide
      have t_4 := fb_M_in c_4
      refine lv_iload_n hx hb dX6_where_20 rfl (lv_at hl 3 rfl) ?_
      refine lv_iconst (v := 0) hx hb dX6_where_21 (by decide) ?_
      refine lv_ldc (v := 1000000) hx hb hown (hB _ k3_109) dX6_where_22 ?_
      refine pu_callM (va_runS (As := [.int a3, .int 0, .int 1000000]) (rest := []) ⟨hx, hb, hml, hown, hB⟩ (m_M_in l D h cI cZ S hI a3 0 1000000 ) (cwS 3 hB (gS k3_78 k3_79 k1_7 k3_80) rfl rfl rfl (by decide +kernel) ⟨Nat.le_of_ble_eq_true rfl, Nat.le_of_ble_eq_true rfl⟩) ⟨pu_blindM, pu_preM hP hK hN⟩ rfl rfl hl.1 rfl (lv_room (Nat.le_of_ble_eq_true rfl)) dX6_where_24 ⟨Nat.le_of_ble_eq_true rfl, Nat.le_of_ble_eq_true rfl⟩) hP hS (fun H locs hP hS => ?_)
      refine lv_if_ne (tgt := 33) hx hb dX6_where_27 (by decide) (fun c_6 => ?_) (fun c_6 => ?_)
      · skip
        have z_1000000 : ((1000000) : Int32).toInt = (1000000) := by decide
        have t_6 := fb_M_in c_6
        refine lv_iload_n hx hb dX6_where_33 rfl (lv_at hl 2 rfl) ?_
        refine lv_iconst (v := 1) hx hb dX6_where_34 (by decide) ?_
        refine lv_icmp_le (tgt := 59) hx hb dX6_where_35 (by decide) (fun c_7 => ?_) (fun c_7 => ?_)
        · skip
          have z_1 : ((1) : Int32).toInt = (1) := by decide
          have t_7 := Int32.le_iff_toInt_le.mp c_7
          refine lv_iconst (v := 0) hx hb dX6_where_59 (by decide) ?_
          refine lv_istore (lv' := [(4, .int 0), (0, .ref (h 0)), (1, .int a1), (2, .int a2), (3, .int a3)]) hx hb dX6_where_60 hl (by decide) rfl (fun ls hl => ?_)
          have loop62 : ∀ (n62 : Nat) (x4 : Int32) (H : Heap) (locs : List Loc) (ls : Array Slot), (0 ≤ x4.toInt ∧ x4.toInt ≤ 6000 ∧ 1 ≤ (n62 : Int) ∧ (S 24 0 : Int32).toInt - x4.toInt < (n62 : Int) ∧ (True)) → l_M_where_62 S a1 a2 a3 n62 x4 = f_M_where S a1 a2 a3 → va_P D vwCl (wBM h cI cZ S) H → va_S (fun _ => False) s.heap H locs → lv_has ls 5 [(0, .ref (h 0)), (1, .int a1), (2, .int a2), (3, .int a3), (4, .int x4)] → W p l e (headSpec wsX6_where { frames := 2, cells := 0, slots := 0, locals := 43 }).room s m ([.ref (h 0), .int a1, .int a2, .int a3]).toArray below meth c H locs 0 0 (MQ below (PQ (f_M_where S a1 a2 a3)) ([.ref (h 0), .int a1, .int a2, .int a3]).toArray s 0 0 (fun _ => False)) (F0 m 62 ls []) := by
            intro n62
            induction n62 with
            | zero =>
              intro x4 H locs ls hinv he62 hP hS hl
              exact absurd hinv.2.2.1 (by omega)
            | succ n62 ih62 =>
              intro x4 H locs ls hinv he62 hP hS hl
              obtain ⟨h0_62, hc_62, h1_62, hm_62, hex_62⟩ := hinv
              have hBd_62 := ivM_24 hI
              refine lv_iload hx hb dX6_where_62 (lv_at hl 4 rfl) ?_
              refine lv_aload_n hx hb dX6_where_64 rfl (lv_at hl 0 rfl) ?_
              refine va_get (D := D) (ci := 6) (v := .int (S 24 0)) (C := RX6) (T := TX6) (N := 25) hx hb hB inX6 hown hK hP 0 rfl rfl 18 (by decide) (hB _ k3_15) (fun _ h9 => h9) rfl dX6_where_65 ?_
              have b_8 : (0) ≤ (S 24 0).toInt ∧ (S 24 0).toInt ≤ 5000 := ivM_24 (S := S) hI
              refine lv_icmp_ge (tgt := 132) hx hb dX6_where_68 (by decide) (fun c_9 => ?_) (fun c_9 => ?_)
              · skip
                have t_9 := Int32.le_iff_toInt_le.mp c_9
                refine lv_iconst (v := (-1)) hx hb dX6_where_132 (by decide) ?_
                exact W.iret (v := (-1)) hx hb hr (fun t ht hW => ⟨⟨(-1), (), rfl, (by rw [← he62, l_M_where_62, if_pos c_9]), trivial⟩, hS.F ht⟩) hS.2.2 dX6_where_133
              · skip
                have t_9 := mt Int32.le_iff_toInt_le.mpr c_9
                refine lv_aload_n hx hb dX6_where_71 rfl (lv_at hl 0 rfl) ?_
                refine va_get (D := D) (ci := 6) (v := .ref (h 14)) (C := RX6) (T := TX6) (N := 25) hx hb hB inX6 hown hK hP 0 rfl rfl 19 (by decide) (hB _ k3_16) (fun _ h9 => h9) rfl dX6_where_72 ?_
                refine lv_iload hx hb dX6_where_75 (lv_at hl 4 rfl) ?_
                refine va_iald (f := S 13) hx hb hK hP 14 0 rfl rfl (vp_in_iff.mpr (by omega)) dX6_where_77 ?_
                have b_10 : (0) ≤ (S 13 x4.toNatClampNeg).toInt ∧ (S 13 x4.toNatClampNeg).toInt ≤ 119 := ivM_13 (S := S) hI x4.toNatClampNeg
                refine lv_iload_n hx hb dX6_where_78 rfl (lv_at hl 1 rfl) ?_
                refine lv_icmp_ne (tgt := 126) hx hb dX6_where_79 (by decide) (fun c_11 => ?_) (fun c_11 => ?_)
                · skip
                  refine lv_iinc (v := x4 + 1) (lv' := [(4, .int (x4 + 1)), (0, .ref (h 0)), (1, .int a1), (2, .int a2), (3, .int a3)]) hx hb dX6_where_126 hl (k := 4) rfl rfl (by decide) rfl (fun ls hl => ?_)
                  refine lv_goto (tgt := 62) hx hb dX6_where_129 (by decide) ?_
                  have hinc := i32_inc (x := x4) h0_62 (by omega)
                  exact ih62 (x4 + 1) _ _ _ ⟨by omega, by omega, by omega, by omega, trivial⟩ (by first | (rw [← he62, l_M_where_62, if_neg c_9, if_neg c_11]; done) | (rw [← he62, l_M_where_62]; simp only [if_neg c_9, if_neg c_11])) hP hS (lv_sub hl [1, 2, 3, 4, 0] rfl)
                · skip
                  refine lv_aload_n hx hb dX6_where_82 rfl (lv_at hl 0 rfl) ?_
                  refine va_get (D := D) (ci := 6) (v := .ref (h 17)) (C := RX6) (T := TX6) (N := 25) hx hb hB inX6 hown hK hP 0 rfl rfl 22 (by decide) (hB _ k3_19) (fun _ h9 => h9) rfl dX6_where_83 ?_
                  refine lv_iload hx hb dX6_where_86 (lv_at hl 4 rfl) ?_
                  refine va_iald (f := S 16) hx hb hK hP 17 0 rfl rfl (vp_in_iff.mpr (by omega)) dX6_where_88 ?_
                  refine lv_iload_n hx hb dX6_where_89 rfl (lv_at hl 3 rfl) ?_
                  refine lv_icmp_gt (tgt := 126) hx hb dX6_where_90 (by decide) (fun c_12 => ?_) (fun c_12 => ?_)
                  · skip
                    have t_12 := Int32.lt_iff_toInt_lt.mp c_12
                    refine lv_iinc (v := x4 + 1) (lv' := [(4, .int (x4 + 1)), (0, .ref (h 0)), (1, .int a1), (2, .int a2), (3, .int a3)]) hx hb dX6_where_126 hl (k := 4) rfl rfl (by decide) rfl (fun ls hl => ?_)
                    refine lv_goto (tgt := 62) hx hb dX6_where_129 (by decide) ?_
                    have hinc := i32_inc (x := x4) h0_62 (by omega)
                    exact ih62 (x4 + 1) _ _ _ ⟨by omega, by omega, by omega, by omega, trivial⟩ (by first | (rw [← he62, l_M_where_62, if_neg c_9, if_pos c_11, if_pos c_12]; done) | (rw [← he62, l_M_where_62]; simp only [if_neg c_9, if_pos c_11, if_pos c_12])) hP hS (lv_sub hl [1, 2, 3, 4, 0] rfl)
                  · skip
                    have t_12 := mt Int32.lt_iff_toInt_lt.mpr c_12
                    refine lv_iload_n hx hb dX6_where_93 rfl (lv_at hl 3 rfl) ?_
                    refine lv_aload_n hx hb dX6_where_94 rfl (lv_at hl 0 rfl) ?_
                    refine va_get (D := D) (ci := 6) (v := .ref (h 18)) (C := RX6) (T := TX6) (N := 25) hx hb hB inX6 hown hK hP 0 rfl rfl 23 (by decide) (hB _ k3_20) (fun _ h9 => h9) rfl dX6_where_95 ?_
                    refine lv_iload hx hb dX6_where_98 (lv_at hl 4 rfl) ?_
                    refine va_iald (f := S 17) hx hb hK hP 18 0 rfl rfl (vp_in_iff.mpr (by omega)) dX6_where_100 ?_
                    refine lv_icmp_ge (tgt := 126) hx hb dX6_where_101 (by decide) (fun c_13 => ?_) (fun c_13 => ?_)
                    · skip
                      have t_13 := Int32.le_iff_toInt_le.mp c_13
                      refine lv_iinc (v := x4 + 1) (lv' := [(4, .int (x4 + 1)), (0, .ref (h 0)), (1, .int a1), (2, .int a2), (3, .int a3)]) hx hb dX6_where_126 hl (k := 4) rfl rfl (by decide) rfl (fun ls hl => ?_)
                      refine lv_goto (tgt := 62) hx hb dX6_where_129 (by decide) ?_
                      have hinc := i32_inc (x := x4) h0_62 (by omega)
                      exact ih62 (x4 + 1) _ _ _ ⟨by omega, by omega, by omega, by omega, trivial⟩ (by first | (rw [← he62, l_M_where_62, if_neg c_9, if_pos c_11, if_neg c_12, if_pos c_13]; done) | (rw [← he62, l_M_where_62]; simp only [if_neg c_9, if_pos c_11, if_neg c_12, if_pos c_13])) hP hS (lv_sub hl [1, 2, 3, 4, 0] rfl)
                    · skip
                      have t_13 := mt Int32.le_iff_toInt_le.mpr c_13
                      refine lv_iload_n hx hb dX6_where_104 rfl (lv_at hl 2 rfl) ?_
                      refine lv_if_ne (tgt := 118) hx hb dX6_where_105 (by decide) (fun c_14 => ?_) (fun c_14 => ?_)
                      · skip
                        have z_0 : ((0) : Int32).toInt = (0) := by decide
                        have t_14 := mt Int32.toInt_inj.mp c_14
                        refine lv_aload_n hx hb dX6_where_118 rfl (lv_at hl 0 rfl) ?_
                        refine va_get (D := D) (ci := 6) (v := .ref (h 16)) (C := RX6) (T := TX6) (N := 25) hx hb hB inX6 hown hK hP 0 rfl rfl 21 (by decide) (hB _ k3_18) (fun _ h9 => h9) rfl dX6_where_119 ?_
                        refine lv_iload hx hb dX6_where_122 (lv_at hl 4 rfl) ?_
                        refine va_iald (f := S 15) hx hb hK hP 16 0 rfl rfl (vp_in_iff.mpr (by omega)) dX6_where_124 ?_
                        have b_15 : (0) ≤ (S 15 x4.toNatClampNeg).toInt ∧ (S 15 x4.toNatClampNeg).toInt ≤ 999 := ivM_15 (S := S) hI x4.toNatClampNeg
                        exact W.iret (v := S 15 x4.toNatClampNeg) hx hb hr (fun t ht hW => ⟨⟨S 15 x4.toNatClampNeg, (), rfl, (by rw [← he62, l_M_where_62, if_neg c_9, if_pos c_11, if_neg c_12, if_neg c_13, if_neg c_14]), trivial⟩, hS.F ht⟩) hS.2.2 dX6_where_125
                      · skip
                        have z_0 : ((0) : Int32).toInt = (0) := by decide
                        have t_14 := Int32.toInt_inj.symm.mp c_14
                        refine lv_aload_n hx hb dX6_where_108 rfl (lv_at hl 0 rfl) ?_
                        refine va_get (D := D) (ci := 6) (v := .ref (h 15)) (C := RX6) (T := TX6) (N := 25) hx hb hB inX6 hown hK hP 0 rfl rfl 20 (by decide) (hB _ k3_17) (fun _ h9 => h9) rfl dX6_where_109 ?_
                        refine lv_iload hx hb dX6_where_112 (lv_at hl 4 rfl) ?_
                        refine va_iald (f := S 14) hx hb hK hP 15 0 rfl rfl (vp_in_iff.mpr (by omega)) dX6_where_114 ?_
                        have b_16 : (0) ≤ (S 14 x4.toNatClampNeg).toInt ∧ (S 14 x4.toNatClampNeg).toInt ≤ 31 := ivM_14 (S := S) hI x4.toNatClampNeg
                        refine lv_goto (tgt := 125) hx hb dX6_where_115 (by decide) ?_
                        exact W.iret (v := S 14 x4.toNatClampNeg) hx hb hr (fun t ht hW => ⟨⟨S 14 x4.toNatClampNeg, (), rfl, (by rw [← he62, l_M_where_62, if_neg c_9, if_pos c_11, if_neg c_12, if_neg c_13, if_pos c_14]), trivial⟩, hS.F ht⟩) hS.2.2 dX6_where_125
          have hB9_62 := ivM_24 (S := S) hI
          exact loop62 6000 0 _ _ _ ⟨by omega, by omega, by omega, by omega, trivial⟩ (by rw [f_M_where, if_neg c_2, if_neg c_4, if_neg c_6, if_pos c_7]) hP hS (lv_sub hl [1, 2, 3, 4, 0] rfl)
        · skip
          have z_1 : ((1) : Int32).toInt = (1) := by decide
          have t_7 := mt Int32.le_iff_toInt_le.mpr c_7
          refine lv_iload_n hx hb dX6_where_38 rfl (lv_at hl 2 rfl) ?_
          refine lv_iconst (v := 2) hx hb dX6_where_39 (by decide) ?_
          refine lv_icmp_ne (tgt := 52) hx hb dX6_where_40 (by decide) (fun c_17 => ?_) (fun c_17 => ?_)
          · skip
            have z_2 : ((2) : Int32).toInt = (2) := by decide
            have t_17 := mt Int32.toInt_inj.mp c_17
            refine lv_aload_n hx hb dX6_where_52 rfl (lv_at hl 0 rfl) ?_
            refine va_get (D := D) (ci := 6) (v := .ref (h 11)) (C := RX6) (T := TX6) (N := 25) hx hb hB inX6 hown hK hP 0 rfl rfl 15 (by decide) (hB _ k3_12) (fun _ h9 => h9) rfl dX6_where_53 ?_
            refine lv_iload_n hx hb dX6_where_56 rfl (lv_at hl 1 rfl) ?_
            refine va_iald (f := S 10) hx hb hK hP 11 0 rfl rfl (vp_in_iff.mpr (by omega)) dX6_where_57 ?_
            have b_18 : (0) ≤ (S 10 a1.toNatClampNeg).toInt ∧ (S 10 a1.toNatClampNeg).toInt ≤ 79 := ivM_10 (S := S) hI a1.toNatClampNeg
            exact W.iret (v := S 10 a1.toNatClampNeg) hx hb hr (fun t ht hW => ⟨⟨S 10 a1.toNatClampNeg, (), rfl, (by rw [f_M_where, if_neg c_2, if_neg c_4, if_neg c_6, if_neg c_7, if_neg c_17]), trivial⟩, hS.F ht⟩) hS.2.2 dX6_where_58
          · skip
            have z_2 : ((2) : Int32).toInt = (2) := by decide
            have t_17 := Int32.toInt_inj.symm.mp c_17
            refine lv_aload_n hx hb dX6_where_43 rfl (lv_at hl 0 rfl) ?_
            refine va_get (D := D) (ci := 6) (v := .ref (h 12)) (C := RX6) (T := TX6) (N := 25) hx hb hB inX6 hown hK hP 0 rfl rfl 16 (by decide) (hB _ k3_13) (fun _ h9 => h9) rfl dX6_where_44 ?_
            refine lv_iload_n hx hb dX6_where_47 rfl (lv_at hl 1 rfl) ?_
            refine va_iald (f := S 11) hx hb hK hP 12 0 rfl rfl (vp_in_iff.mpr (by omega)) dX6_where_48 ?_
            refine lv_goto (tgt := 58) hx hb dX6_where_49 (by decide) ?_
            exact W.iret (v := S 11 a1.toNatClampNeg) hx hb hr (fun t ht hW => ⟨⟨S 11 a1.toNatClampNeg, (), rfl, (by rw [f_M_where, if_neg c_2, if_neg c_4, if_neg c_6, if_neg c_7, if_pos c_17]), trivial⟩, hS.F ht⟩) hS.2.2 dX6_where_58
      · skip
        refine lv_bipush (v := (-12)) hx hb dX6_where_30 (by decide) ?_
        exact W.iret (v := (-12)) hx hb hr (fun t ht hW => ⟨⟨(-12), (), rfl, (by rw [f_M_where, if_neg c_2, if_neg c_4, if_pos c_6]), trivial⟩, hS.F ht⟩) hS.2.2 dX6_where_32
  · skip
    refine lv_bipush (v := (-11)) hx hb dX6_where_8 (by decide) ?_
    exact W.iret (v := (-11)) hx hb hr (fun t ht hW => ⟨⟨(-11), (), rfl, (by rw [f_M_where, if_pos c_2]), trivial⟩, hS.F ht⟩) hS.2.2 dX6_where_10
set_option maxHeartbeats 4000000 in
set_option maxRecDepth 100000 in
theorem m_M_count (l : Launch) (D : va_G) (h : Nat → Nat) (cI cZ : ClassId) (S : BS) (hI : IVM S) (a1 : Int32) : PMM l yX6_count wsX6_count { frames := 0, cells := 0, slots := 0, locals := 0 } D cI cZ h S [.ref (h 0), .int a1] (f_M_count S a1) := by
  refine Met.ofW (cc := cX6_count) (maxL := 4) (ret := (some .int)) (by decide) rfl ?_
  intro p e s m args below meth c s₁ B hml hv
  obtain ⟨rfl, hP, hK, hN⟩ := hv
  have hx := B.exec
  have hb := B.bytes
  have hr := B.returns
  have hts := atoms_spec (ws := wsX6_count) B.pre
  have hB : ∀ w ∈ BW, w.before _ s = true := fun w h => hts w (List.mem_cons_of_mem _ h)
  have hown : s.vm.findClass RX6 = some m.cls := findClass_of_methodNamed B.named
  have hlocks := B.notSynchronized
  have hS : va_S (fun _ => False) s.heap s.heap [] := va_S.rf
  have hl := lv_entry ([.ref (h 0), .int a1]) (n := 4) (Nat.le_of_ble_eq_true rfl)
  rw [lg_entry_eq]
  generalize (lg_sl ([.ref (h 0), .int a1]) ++ List.replicate (4 - (lg_sl ([.ref (h 0), .int a1])).length) Slot.unset).toArray = ls at hl ⊢
  have hl : lv_has ls 4 [(0, .ref (h 0)), (1, .int a1)] := hl
  refine lv_iconst (v := 0) hx hb dX6_count_0 (by decide) ?_
  refine lv_istore_n (lv' := [(2, .int 0), (0, .ref (h 0)), (1, .int a1)]) hx hb dX6_count_1 rfl hl (by decide) rfl (fun ls hl => ?_)
  refine lv_iload_n hx hb dX6_count_2 rfl (lv_at hl 2 rfl) ?_
  by_cases c_1 : a1 = 0
  · skip
    have z_0 : ((0) : Int32).toInt = (0) := by decide
    have t_1 := Int32.toInt_inj.symm.mp c_1
    refine lv_tableIn (tgt := 36) (off := 33) hx hb dX6_count_3 (by rw [c_1]; decide) (by rw [c_1]; decide) (by rw [c_1]; rfl) (by decide) ?_
    refine lv_aload_n hx hb dX6_count_36 rfl (lv_at hl 1 rfl) ?_
    refine va_get (D := D) (ci := 6) (v := .int (S 20 0)) (C := RX6) (T := TX6) (N := 25) hx hb hB inX6 hown hK hP 0 rfl rfl 1 (by decide) (hB _ k2_238) (fun _ h9 => h9) rfl dX6_count_37 ?_
    have b_2 : (0) ≤ (S 20 0).toInt ∧ (S 20 0).toInt ≤ 16 := ivM_20 (S := S) hI
    exact W.iret (v := S 20 0) hx hb hr (fun t ht hW => ⟨⟨S 20 0, (), rfl, (by rw [f_M_count, if_pos c_1]), trivial⟩, hS.F ht⟩) hS.2.2 dX6_count_40
  by_cases c_3 : a1 = 1
  · skip
    have z_1 : ((1) : Int32).toInt = (1) := by decide
    have t_3 := Int32.toInt_inj.symm.mp c_3
    refine lv_tableIn (tgt := 41) (off := 38) hx hb dX6_count_3 (by rw [c_3]; decide) (by rw [c_3]; decide) (by rw [c_3]; rfl) (by decide) ?_
    refine lv_aload_n hx hb dX6_count_41 rfl (lv_at hl 1 rfl) ?_
    refine va_get (D := D) (ci := 6) (v := .int (S 21 0)) (C := RX6) (T := TX6) (N := 25) hx hb hB inX6 hown hK hP 0 rfl rfl 3 (by decide) (hB _ k3_0) (fun _ h9 => h9) rfl dX6_count_42 ?_
    have b_4 : (0) ≤ (S 21 0).toInt ∧ (S 21 0).toInt ≤ 32 := ivM_21 (S := S) hI
    exact W.iret (v := S 21 0) hx hb hr (fun t ht hW => ⟨⟨S 21 0, (), rfl, (by rw [f_M_count, if_neg c_1, if_pos c_3]), trivial⟩, hS.F ht⟩) hS.2.2 dX6_count_45
  by_cases c_5 : a1 = 2
  · skip
    have z_2 : ((2) : Int32).toInt = (2) := by decide
    have t_5 := Int32.toInt_inj.symm.mp c_5
    refine lv_tableIn (tgt := 46) (off := 43) hx hb dX6_count_3 (by rw [c_5]; decide) (by rw [c_5]; decide) (by rw [c_5]; rfl) (by decide) ?_
    refine lv_iconst (v := 0) hx hb dX6_count_46 (by decide) ?_
    refine lv_istore_n (lv' := [(3, .int 0), (2, .int 0), (0, .ref (h 0)), (1, .int a1)]) hx hb dX6_count_47 rfl hl (by decide) rfl (fun ls hl => ?_)
    have loop48 : ∀ (n48 : Nat) (x2 x3 : Int32) (H : Heap) (locs : List Loc) (ls : Array Slot), (0 ≤ x3.toInt ∧ x3.toInt ≤ 6000 ∧ 1 ≤ (n48 : Int) ∧ (S 22 0 : Int32).toInt - x3.toInt < (n48 : Int) ∧ (True)) → l_M_count_48 S a1 n48 x2 x3 = f_M_count S a1 → va_P D vwCl (wBM h cI cZ S) H → va_S (fun _ => False) s.heap H locs → lv_has ls 4 [(0, .ref (h 0)), (1, .int a1), (2, .int x2), (3, .int x3)] → W p l e (headSpec wsX6_count { frames := 0, cells := 0, slots := 0, locals := 0 }).room s m ([.ref (h 0), .int a1]).toArray below meth c H locs 0 0 (MQ below (PQ (f_M_count S a1)) ([.ref (h 0), .int a1]).toArray s 0 0 (fun _ => False)) (F0 m 48 ls []) := by
      intro n48
      induction n48 with
      | zero =>
        intro x2 x3 H locs ls hinv he48 hP hS hl
        exact absurd hinv.2.2.1 (by omega)
      | succ n48 ih48 =>
        intro x2 x3 H locs ls hinv he48 hP hS hl
        obtain ⟨h0_48, hc_48, h1_48, hm_48, hex_48⟩ := hinv
        have hBd_48 := ivM_22 hI
        refine lv_iload_n hx hb dX6_count_48 rfl (lv_at hl 3 rfl) ?_
        refine lv_aload_n hx hb dX6_count_49 rfl (lv_at hl 0 rfl) ?_
        refine va_get (D := D) (ci := 6) (v := .int (S 22 0)) (C := RX6) (T := TX6) (N := 25) hx hb hB inX6 hown hK hP 0 rfl rfl 8 (by decide) (hB _ k3_5) (fun _ h9 => h9) rfl dX6_count_50 ?_
        have b_6 : (0) ≤ (S 22 0).toInt ∧ (S 22 0).toInt ≤ 80 := ivM_22 (S := S) hI
        refine lv_icmp_ge (tgt := 79) hx hb dX6_count_53 (by decide) (fun c_7 => ?_) (fun c_7 => ?_)
        · skip
          have t_7 := Int32.le_iff_toInt_le.mp c_7
          refine lv_iload_n hx hb dX6_count_79 rfl (lv_at hl 2 rfl) ?_
          exact W.iret (v := x2) hx hb hr (fun t ht hW => ⟨⟨x2, (), rfl, (by rw [← he48, l_M_count_48, if_pos c_7]), trivial⟩, hS.F ht⟩) hS.2.2 dX6_count_80
        · skip
          have t_7 := mt Int32.le_iff_toInt_le.mpr c_7
          refine lv_iload_n hx hb dX6_count_56 rfl (lv_at hl 2 rfl) ?_
          refine lv_aload_n hx hb dX6_count_57 rfl (lv_at hl 0 rfl) ?_
          refine va_get (D := D) (ci := 6) (v := .ref (h 10)) (C := RX6) (T := TX6) (N := 25) hx hb hB inX6 hown hK hP 0 rfl rfl 13 (by decide) (hB _ k3_10) (fun _ h9 => h9) rfl dX6_count_58 ?_
          refine lv_iload_n hx hb dX6_count_61 rfl (lv_at hl 3 rfl) ?_
          refine va_zald (f := S 9) hx hb hK hP 10 1 rfl rfl (vp_in_iff.mpr (by omega)) dX6_count_62 ?_
          have b_8 : (0) ≤ (S 9 x3.toNatClampNeg).toInt ∧ (S 9 x3.toNatClampNeg).toInt ≤ 1 := ivM_9 (S := S) hI x3.toNatClampNeg
          refine lv_if_eq (tgt := 70) hx hb dX6_count_63 (by decide) (fun c_9 => ?_) (fun c_9 => ?_)
          · skip
            have z_0 : ((0) : Int32).toInt = (0) := by decide
            have t_9 := Int32.toInt_inj.symm.mp c_9
            refine lv_iconst (v := 0) hx hb dX6_count_70 (by decide) ?_
            refine lv_iadd hx hb dX6_count_71 ?_
            refine lv_istore_n (lv' := [(2, .int (x2 + 0)), (0, .ref (h 0)), (1, .int a1), (3, .int x3)]) hx hb dX6_count_72 rfl hl (by decide) rfl (fun ls hl => ?_)
            refine lv_iinc (v := x3 + 1) (lv' := [(3, .int (x3 + 1)), (2, .int (x2 + 0)), (0, .ref (h 0)), (1, .int a1)]) hx hb dX6_count_73 hl (k := 3) rfl rfl (by decide) rfl (fun ls hl => ?_)
            refine lv_goto (tgt := 48) hx hb dX6_count_76 (by decide) ?_
            have hinc := i32_inc (x := x3) h0_48 (by omega)
            exact ih48 (x2 + 0) (x3 + 1) _ _ _ ⟨by omega, by omega, by omega, by omega, trivial⟩ (by first | (rw [← he48, l_M_count_48, if_neg c_7, if_pos c_9]; done) | (rw [← he48, l_M_count_48]; simp only [if_neg c_7, if_pos c_9])) hP hS (lv_sub hl [2, 3, 1, 0] rfl)
          · skip
            have z_0 : ((0) : Int32).toInt = (0) := by decide
            have t_9 := mt Int32.toInt_inj.mp c_9
            refine lv_iconst (v := 1) hx hb dX6_count_66 (by decide) ?_
            refine lv_goto (tgt := 71) hx hb dX6_count_67 (by decide) ?_
            refine lv_iadd hx hb dX6_count_71 ?_
            refine lv_istore_n (lv' := [(2, .int (x2 + 1)), (0, .ref (h 0)), (1, .int a1), (3, .int x3)]) hx hb dX6_count_72 rfl hl (by decide) rfl (fun ls hl => ?_)
            refine lv_iinc (v := x3 + 1) (lv' := [(3, .int (x3 + 1)), (2, .int (x2 + 1)), (0, .ref (h 0)), (1, .int a1)]) hx hb dX6_count_73 hl (k := 3) rfl rfl (by decide) rfl (fun ls hl => ?_)
            refine lv_goto (tgt := 48) hx hb dX6_count_76 (by decide) ?_
            have hinc := i32_inc (x := x3) h0_48 (by omega)
            exact ih48 (x2 + 1) (x3 + 1) _ _ _ ⟨by omega, by omega, by omega, by omega, trivial⟩ (by first | (rw [← he48, l_M_count_48, if_neg c_7, if_neg c_9]; done) | (rw [← he48, l_M_count_48]; simp only [if_neg c_7, if_neg c_9])) hP hS (lv_sub hl [2, 3, 1, 0] rfl)
    have z_0 : ((0) : Int32).toInt = (0) := by decide
    have hB9_48 := ivM_22 (S := S) hI
    exact loop48 600 0 0 _ _ _ ⟨by omega, by omega, by omega, by omega, trivial⟩ (by rw [f_M_count, if_neg c_1, if_neg c_3, if_pos c_5]) hP hS (lv_sub hl [2, 3, 1, 0] rfl)
  by_cases c_10 : a1 = 3
  · skip
    have z_3 : ((3) : Int32).toInt = (3) := by decide
    have t_10 := Int32.toInt_inj.symm.mp c_10
    refine lv_tableIn (tgt := 81) (off := 78) hx hb dX6_count_3 (by rw [c_10]; decide) (by rw [c_10]; decide) (by rw [c_10]; rfl) (by decide) ?_
    refine lv_iconst (v := 0) hx hb dX6_count_81 (by decide) ?_
    refine lv_istore_n (lv' := [(3, .int 0), (2, .int 0), (0, .ref (h 0)), (1, .int a1)]) hx hb dX6_count_82 rfl hl (by decide) rfl (fun ls hl => ?_)
    have loop83 : ∀ (n83 : Nat) (x2 x3 : Int32) (H : Heap) (locs : List Loc) (ls : Array Slot), (0 ≤ x3.toInt ∧ x3.toInt ≤ 6000 ∧ 1 ≤ (n83 : Int) ∧ (S 23 0 : Int32).toInt - x3.toInt < (n83 : Int) ∧ (True)) → l_M_count_83 S a1 n83 x2 x3 = f_M_count S a1 → va_P D vwCl (wBM h cI cZ S) H → va_S (fun _ => False) s.heap H locs → lv_has ls 4 [(0, .ref (h 0)), (1, .int a1), (2, .int x2), (3, .int x3)] → W p l e (headSpec wsX6_count { frames := 0, cells := 0, slots := 0, locals := 0 }).room s m ([.ref (h 0), .int a1]).toArray below meth c H locs 0 0 (MQ below (PQ (f_M_count S a1)) ([.ref (h 0), .int a1]).toArray s 0 0 (fun _ => False)) (F0 m 83 ls []) := by
      intro n83
      induction n83 with
      | zero =>
        intro x2 x3 H locs ls hinv he83 hP hS hl
        exact absurd hinv.2.2.1 (by omega)
      | succ n83 ih83 =>
        intro x2 x3 H locs ls hinv he83 hP hS hl
        obtain ⟨h0_83, hc_83, h1_83, hm_83, hex_83⟩ := hinv
        have hBd_83 := ivM_23 hI
        refine lv_iload_n hx hb dX6_count_83 rfl (lv_at hl 3 rfl) ?_
        refine lv_aload_n hx hb dX6_count_84 rfl (lv_at hl 0 rfl) ?_
        refine va_get (D := D) (ci := 6) (v := .int (S 23 0)) (C := RX6) (T := TX6) (N := 25) hx hb hB inX6 hown hK hP 0 rfl rfl 14 (by decide) (hB _ k3_11) (fun _ h9 => h9) rfl dX6_count_85 ?_
        have b_11 : (0) ≤ (S 23 0).toInt ∧ (S 23 0).toInt ≤ 120 := ivM_23 (S := S) hI
        refine lv_icmp_ge (tgt := 114) hx hb dX6_count_88 (by decide) (fun c_12 => ?_) (fun c_12 => ?_)
        · skip
          have t_12 := Int32.le_iff_toInt_le.mp c_12
          refine lv_iload_n hx hb dX6_count_114 rfl (lv_at hl 2 rfl) ?_
          exact W.iret (v := x2) hx hb hr (fun t ht hW => ⟨⟨x2, (), rfl, (by rw [← he83, l_M_count_83, if_pos c_12]), trivial⟩, hS.F ht⟩) hS.2.2 dX6_count_115
        · skip
          have t_12 := mt Int32.le_iff_toInt_le.mpr c_12
          refine lv_iload_n hx hb dX6_count_91 rfl (lv_at hl 2 rfl) ?_
          refine lv_aload_n hx hb dX6_count_92 rfl (lv_at hl 0 rfl) ?_
          refine va_get (D := D) (ci := 6) (v := .ref (h 13)) (C := RX6) (T := TX6) (N := 25) hx hb hB inX6 hown hK hP 0 rfl rfl 17 (by decide) (hB _ k3_14) (fun _ h9 => h9) rfl dX6_count_93 ?_
          refine lv_iload_n hx hb dX6_count_96 rfl (lv_at hl 3 rfl) ?_
          refine va_zald (f := S 12) hx hb hK hP 13 1 rfl rfl (vp_in_iff.mpr (by omega)) dX6_count_97 ?_
          have b_13 : (0) ≤ (S 12 x3.toNatClampNeg).toInt ∧ (S 12 x3.toNatClampNeg).toInt ≤ 1 := ivM_12 (S := S) hI x3.toNatClampNeg
          refine lv_if_eq (tgt := 105) hx hb dX6_count_98 (by decide) (fun c_14 => ?_) (fun c_14 => ?_)
          · skip
            have z_0 : ((0) : Int32).toInt = (0) := by decide
            have t_14 := Int32.toInt_inj.symm.mp c_14
            refine lv_iconst (v := 0) hx hb dX6_count_105 (by decide) ?_
            refine lv_iadd hx hb dX6_count_106 ?_
            refine lv_istore_n (lv' := [(2, .int (x2 + 0)), (0, .ref (h 0)), (1, .int a1), (3, .int x3)]) hx hb dX6_count_107 rfl hl (by decide) rfl (fun ls hl => ?_)
            refine lv_iinc (v := x3 + 1) (lv' := [(3, .int (x3 + 1)), (2, .int (x2 + 0)), (0, .ref (h 0)), (1, .int a1)]) hx hb dX6_count_108 hl (k := 3) rfl rfl (by decide) rfl (fun ls hl => ?_)
            refine lv_goto (tgt := 83) hx hb dX6_count_111 (by decide) ?_
            have hinc := i32_inc (x := x3) h0_83 (by omega)
            exact ih83 (x2 + 0) (x3 + 1) _ _ _ ⟨by omega, by omega, by omega, by omega, trivial⟩ (by first | (rw [← he83, l_M_count_83, if_neg c_12, if_pos c_14]; done) | (rw [← he83, l_M_count_83]; simp only [if_neg c_12, if_pos c_14])) hP hS (lv_sub hl [2, 3, 1, 0] rfl)
          · skip
            have z_0 : ((0) : Int32).toInt = (0) := by decide
            have t_14 := mt Int32.toInt_inj.mp c_14
            refine lv_iconst (v := 1) hx hb dX6_count_101 (by decide) ?_
            refine lv_goto (tgt := 106) hx hb dX6_count_102 (by decide) ?_
            refine lv_iadd hx hb dX6_count_106 ?_
            refine lv_istore_n (lv' := [(2, .int (x2 + 1)), (0, .ref (h 0)), (1, .int a1), (3, .int x3)]) hx hb dX6_count_107 rfl hl (by decide) rfl (fun ls hl => ?_)
            refine lv_iinc (v := x3 + 1) (lv' := [(3, .int (x3 + 1)), (2, .int (x2 + 1)), (0, .ref (h 0)), (1, .int a1)]) hx hb dX6_count_108 hl (k := 3) rfl rfl (by decide) rfl (fun ls hl => ?_)
            refine lv_goto (tgt := 83) hx hb dX6_count_111 (by decide) ?_
            have hinc := i32_inc (x := x3) h0_83 (by omega)
            exact ih83 (x2 + 1) (x3 + 1) _ _ _ ⟨by omega, by omega, by omega, by omega, trivial⟩ (by first | (rw [← he83, l_M_count_83, if_neg c_12, if_neg c_14]; done) | (rw [← he83, l_M_count_83]; simp only [if_neg c_12, if_neg c_14])) hP hS (lv_sub hl [2, 3, 1, 0] rfl)
    have z_0 : ((0) : Int32).toInt = (0) := by decide
    have hB9_83 := ivM_23 (S := S) hI
    exact loop83 600 0 0 _ _ _ ⟨by omega, by omega, by omega, by omega, trivial⟩ (by rw [f_M_count, if_neg c_1, if_neg c_3, if_neg c_5, if_pos c_10]) hP hS (lv_sub hl [2, 3, 1, 0] rfl)
  by_cases c_15 : a1 = 4
  · skip
    have z_4 : ((4) : Int32).toInt = (4) := by decide
    have t_15 := Int32.toInt_inj.symm.mp c_15
    refine lv_tableIn (tgt := 116) (off := 113) hx hb dX6_count_3 (by rw [c_15]; decide) (by rw [c_15]; decide) (by rw [c_15]; rfl) (by decide) ?_
    refine lv_aload_n hx hb dX6_count_116 rfl (lv_at hl 1 rfl) ?_
    refine va_get (D := D) (ci := 6) (v := .int (S 19 0)) (C := RX6) (T := TX6) (N := 25) hx hb hB inX6 hown hK hP 0 rfl rfl 0 (by decide) (hB _ k2_237) (fun _ h9 => h9) rfl dX6_count_117 ?_
    exact W.iret (v := S 19 0) hx hb hr (fun t ht hW => ⟨⟨S 19 0, (), rfl, (by rw [f_M_count, if_neg c_1, if_neg c_3, if_neg c_5, if_neg c_10, if_pos c_15]), trivial⟩, hS.F ht⟩) hS.2.2 dX6_count_120
  refine lv_tableOut (tgt := 121) hx hb dX6_count_3 (by have n0 := lv_neT c_1 (show ((0) : Int32).toInt = 0 by decide); have n1 := lv_neT c_3 (show ((1) : Int32).toInt = 1 by decide); have n2 := lv_neT c_5 (show ((2) : Int32).toInt = 2 by decide); have n3 := lv_neT c_10 (show ((3) : Int32).toInt = 3 by decide); have n4 := lv_neT c_15 (show ((4) : Int32).toInt = 4 by decide); omega) (by decide) ?_
  refine lv_bipush (v := (-12)) hx hb dX6_count_121 (by decide) ?_
  exact W.iret (v := (-12)) hx hb hr (fun t ht hW => ⟨⟨(-12), (), rfl, (by rw [f_M_count, if_neg c_1, if_neg c_3, if_neg c_5, if_neg c_10, if_neg c_15]), trivial⟩, hS.F ht⟩) hS.2.2 dX6_count_123
