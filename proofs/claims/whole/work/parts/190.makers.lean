theorem cA_i {D : va_G} {cl : List vw_C} {s : State} {cI cZ cA : ClassId} (h : va_K D cl (bT cI cZ ++ [(cA, .int)]) s) (h2 : va_K D cl (bT cI cZ) s) : cA = cI := Option.some.inj ((va_nm_int (h.2 2 _ rfl).2).symm.trans (va_nm_int (h2.2 0 _ rfl).2))
theorem cA_z {D : va_G} {cl : List vw_C} {s : State} {cI cZ cA : ClassId} (h : va_K D cl (bT cI cZ ++ [(cA, .boolean)]) s) (h2 : va_K D cl (bT cI cZ) s) : cA = cZ := Option.some.inj ((va_nm_boolean (h.2 2 _ rfl).2).symm.trans (va_nm_boolean (h2.2 1 _ rfl).2))
set_option maxHeartbeats 4000000 in
set_option maxRecDepth 100000 in
theorem m_P_init (l : Launch) (D : va_G) (cI cZ : ClassId) (h0 sz : Nat) : Met l yX1_init wsX1_init { frames := 1, cells := 1, slots := 16, locals := 12 } (va_Pc [.ref h0] (fun U => U.heap.size = sz ∧ va_P D vwCl [(h0, .inr (1, [.null, .int 0]))] U.heap ∧ va_K D vwCl (bT cI cZ) U ∧ NW U ∧ va_D (fun _ => True) [(h0, .inr (1, [.null, .int 0]))])) (va_Qv (fun _ : Unit => True) (fun _ t => ∃ (q0 : Nat), va_P D vwCl [(h0, .inr (1, [.ref q0, .int 0])), (q0, .inl (cI, 16, .inl (fun _ => 0)))] t.heap ∧ va_D (va_A [(h0, .inr (1, [.null, .int 0]))] sz) [(h0, .inr (1, [.ref q0, .int 0])), (q0, .inl (cI, 16, .inl (fun _ => 0)))]) (va_A [(h0, .inr (1, [.null, .int 0]))] sz)) 1 16 (va_A [(h0, .inr (1, [.null, .int 0]))] sz) := by
  refine Met.ofW (cc := cX1_init) (maxL := 1) (ret := none) (by decide) rfl ?_
  intro p e s m args below meth c s₁ B hml hv
  obtain ⟨rfl, hsz, hP, hK, hN, hD0⟩ := hv
  have hx := B.exec
  have hb := B.bytes
  have hr := B.returns
  have hts := atoms_spec (ws := wsX1_init) B.pre
  have hB : ∀ w ∈ BW, w.before _ s = true := fun w h => hts w (List.mem_cons_of_mem _ h)
  have hown : s.vm.findClass RX1 = some m.cls := findClass_of_methodNamed B.named
  have hlocks := B.notSynchronized
  have hin : meth.name = "<init>" := (name_of_methodNamed B.named B.method).1
  subst hsz
  have hD := hD0.self (sz := s.heap.size)
  generalize hAe : va_A [(h0, .inr (1, [.null, .int 0]))] s.heap.size = A at hD ⊢
  have hA : ∀ q : Nat, s.heap.size ≤ q → A q := fun q h => by rw [← hAe]; exact Or.inr h
  have hS : va_S A s.heap s.heap [] := va_S.rf
  have hl := lv_entry ([.ref h0]) (n := 1) (Nat.le_of_ble_eq_true rfl)
  rw [lg_entry_eq]
  generalize (lg_sl ([.ref h0]) ++ List.replicate (1 - (lg_sl ([.ref h0])).length) Slot.unset).toArray = ls at hl ⊢
  have hl : lv_has ls 1 [(0, .ref h0)] := hl
  refine lv_aload_n hx hb dX1_init_0 rfl (lv_at hl 0 rfl) ?_
  refine W.objInit hx hb hown (hB _ k1_22) (hB _ k1_15) (hB _ km_obj) rfl (by rw [hml]; exact hl.1) rfl dX1_init_1 (Nat.le_of_ble_eq_true rfl) (Nat.le_of_ble_eq_true rfl) ?_
  refine W.eq (g2 := F0 m 4 ls []) rfl ?_
  refine lv_aload_n hx hb dX1_init_4 rfl (lv_at hl 0 rfl) ?_
  refine lv_bipush (v := 16) hx hb dX1_init_5 (by decide) ?_
  refine va_newa (a0 := (16, .inl (fun _ => 0))) (N' := 16) (atype := .int) (ty := .int) hx hb (hB _ k1_31) rfl hK hP hD hS hA (fun _ => rfl) (by decide) (by decide) (by decide) (Nat.le_of_ble_eq_true rfl) (Nat.le_of_ble_eq_true rfl) dX1_init_7 (fun q0 cA9 H hK9 hP hD hS => ?_)
  obtain rfl : cI = cA9 := (cA_i hK9 hK).symm
  have hP : va_P D vwCl [(h0, .inr (1, [.null, .int 0])), (q0, .inl (cI, 16, .inl (fun _ => 0)))] H := hP
  have hD : va_D A [(h0, .inr (1, [.null, .int 0])), (q0, .inl (cI, 16, .inl (fun _ => 0)))] := hD
  refine W.widen (k := 1) (n := 16) (Nat.le_of_ble_eq_true rfl) (Nat.le_of_ble_eq_true rfl) ?_
  refine va_putF (D := D) (ci := 1) (v := .ref q0) (ty := tyX1 0) (C := RX1) (T := TX1) (N := 2) hx hb hB inX1 tyX1 tyX1_ok nmX1 hown hK hP hD hS 0 rfl rfl 0 (by decide) (hB _ k1_23) (fun _ h9 => h9) rfl hin rfl (by decide +kernel) rfl rfl (Nat.le_of_ble_eq_true rfl) dX1_init_9 (fun H locs hP hD hS => ?_)
  have hP : va_P D vwCl [(h0, .inr (1, [.ref q0, .int 0])), (q0, .inl (cI, 16, .inl (fun _ => 0)))] H := hP
  have hD : va_D A [(h0, .inr (1, [.ref q0, .int 0])), (q0, .inl (cI, 16, .inl (fun _ => 0)))] := hD
  refine lv_aload_n hx hb dX1_init_12 rfl (lv_at hl 0 rfl) ?_
  refine lv_iconst (v := 0) hx hb dX1_init_13 (by decide) ?_
  refine va_put (D := D) (ci := 1) (v := .int 0) (ty := .int) (C := RX1) (T := TX1) (N := 2) hx hb hB inX1 tyX1 tyX1_ok nmX1 hown hK hP hD hS 0 rfl rfl 1 (by decide) (hB _ k1_24) (fun _ h9 => h9) rfl (by decide +kernel) rfl rfl (Nat.le_of_ble_eq_true rfl) dX1_init_14 (fun H locs hP hD hS => ?_)
  have hP : va_P D vwCl [(h0, .inr (1, [.ref q0, .int 0])), (q0, .inl (cI, 16, .inl (fun _ => 0)))] H := hP
  have hD : va_D A [(h0, .inr (1, [.ref q0, .int 0])), (q0, .inl (cI, 16, .inl (fun _ => 0)))] := hD
  exact W.vret hx hb hr (fun t ht hW => ⟨⟨(), rfl, trivial, q0, by rw [ht]; exact hP, hD⟩, hS.F ht⟩) hS.2.2 dX1_init_17
set_option maxHeartbeats 4000000 in
set_option maxRecDepth 100000 in
theorem m_T_init (l : Launch) (D : va_G) (cI cZ : ClassId) (h0 sz : Nat) : Met l yX2_init wsX2_init { frames := 1, cells := 5, slots := 160, locals := 12 } (va_Pc [.ref h0] (fun U => U.heap.size = sz ∧ va_P D vwCl [(h0, .inr (2, [.null, .null, .null, .null, .null, .int 0]))] U.heap ∧ va_K D vwCl (bT cI cZ) U ∧ NW U ∧ va_D (fun _ => True) [(h0, .inr (2, [.null, .null, .null, .null, .null, .int 0]))])) (va_Qv (fun _ : Unit => True) (fun _ t => ∃ (q0 : Nat) (q1 : Nat) (q2 : Nat) (q3 : Nat) (q4 : Nat), va_P D vwCl [(h0, .inr (2, [.ref q0, .ref q1, .ref q2, .ref q3, .ref q4, .int 0])), (q0, .inl (cI, 32, .inl (fun _ => 0))), (q1, .inl (cI, 32, .inl (fun _ => 0))), (q2, .inl (cZ, 32, .inl (fun _ => 0))), (q3, .inl (cI, 32, .inl (fun _ => 0))), (q4, .inl (cI, 32, .inl (fun _ => 0)))] t.heap ∧ va_D (va_A [(h0, .inr (2, [.null, .null, .null, .null, .null, .int 0]))] sz) [(h0, .inr (2, [.ref q0, .ref q1, .ref q2, .ref q3, .ref q4, .int 0])), (q0, .inl (cI, 32, .inl (fun _ => 0))), (q1, .inl (cI, 32, .inl (fun _ => 0))), (q2, .inl (cZ, 32, .inl (fun _ => 0))), (q3, .inl (cI, 32, .inl (fun _ => 0))), (q4, .inl (cI, 32, .inl (fun _ => 0)))]) (va_A [(h0, .inr (2, [.null, .null, .null, .null, .null, .int 0]))] sz)) 5 160 (va_A [(h0, .inr (2, [.null, .null, .null, .null, .null, .int 0]))] sz) := by
  refine Met.ofW (cc := cX2_init) (maxL := 1) (ret := none) (by decide) rfl ?_
  intro p e s m args below meth c s₁ B hml hv
  obtain ⟨rfl, hsz, hP, hK, hN, hD0⟩ := hv
  have hx := B.exec
  have hb := B.bytes
  have hr := B.returns
  have hts := atoms_spec (ws := wsX2_init) B.pre
  have hB : ∀ w ∈ BW, w.before _ s = true := fun w h => hts w (List.mem_cons_of_mem _ h)
  have hown : s.vm.findClass RX2 = some m.cls := findClass_of_methodNamed B.named
  have hlocks := B.notSynchronized
  have hin : meth.name = "<init>" := (name_of_methodNamed B.named B.method).1
  subst hsz
  have hD := hD0.self (sz := s.heap.size)
  generalize hAe : va_A [(h0, .inr (2, [.null, .null, .null, .null, .null, .int 0]))] s.heap.size = A at hD ⊢
  have hA : ∀ q : Nat, s.heap.size ≤ q → A q := fun q h => by rw [← hAe]; exact Or.inr h
  have hS : va_S A s.heap s.heap [] := va_S.rf
  have hl := lv_entry ([.ref h0]) (n := 1) (Nat.le_of_ble_eq_true rfl)
  rw [lg_entry_eq]
  generalize (lg_sl ([.ref h0]) ++ List.replicate (1 - (lg_sl ([.ref h0])).length) Slot.unset).toArray = ls at hl ⊢
  have hl : lv_has ls 1 [(0, .ref h0)] := hl
  refine lv_aload_n hx hb dX2_init_0 rfl (lv_at hl 0 rfl) ?_
  refine W.objInit hx hb hown (hB _ k1_37) (hB _ k1_15) (hB _ km_obj) rfl (by rw [hml]; exact hl.1) rfl dX2_init_1 (Nat.le_of_ble_eq_true rfl) (Nat.le_of_ble_eq_true rfl) ?_
  refine W.eq (g2 := F0 m 4 ls []) rfl ?_
  refine lv_aload_n hx hb dX2_init_4 rfl (lv_at hl 0 rfl) ?_
  refine lv_bipush (v := 32) hx hb dX2_init_5 (by decide) ?_
  refine va_newa (a0 := (32, .inl (fun _ => 0))) (N' := 32) (atype := .int) (ty := .int) hx hb (hB _ k1_31) rfl hK hP hD hS hA (fun _ => rfl) (by decide) (by decide) (by decide) (Nat.le_of_ble_eq_true rfl) (Nat.le_of_ble_eq_true rfl) dX2_init_7 (fun q0 cA9 H hK9 hP hD hS => ?_)
  obtain rfl : cI = cA9 := (cA_i hK9 hK).symm
  have hP : va_P D vwCl [(h0, .inr (2, [.null, .null, .null, .null, .null, .int 0])), (q0, .inl (cI, 32, .inl (fun _ => 0)))] H := hP
  have hD : va_D A [(h0, .inr (2, [.null, .null, .null, .null, .null, .int 0])), (q0, .inl (cI, 32, .inl (fun _ => 0)))] := hD
  refine W.widen (k := 1) (n := 32) (Nat.le_of_ble_eq_true rfl) (Nat.le_of_ble_eq_true rfl) ?_
  refine va_putF (D := D) (ci := 2) (v := .ref q0) (ty := tyX2 0) (C := RX2) (T := TX2) (N := 6) hx hb hB inX2 tyX2 tyX2_ok nmX2 hown hK hP hD hS 0 rfl rfl 0 (by decide) (hB _ k1_38) (fun _ h9 => h9) rfl hin rfl (by decide +kernel) rfl rfl (Nat.le_of_ble_eq_true rfl) dX2_init_9 (fun H locs hP hD hS => ?_)
  have hP : va_P D vwCl [(h0, .inr (2, [.ref q0, .null, .null, .null, .null, .int 0])), (q0, .inl (cI, 32, .inl (fun _ => 0)))] H := hP
  have hD : va_D A [(h0, .inr (2, [.ref q0, .null, .null, .null, .null, .int 0])), (q0, .inl (cI, 32, .inl (fun _ => 0)))] := hD
  refine lv_aload_n hx hb dX2_init_12 rfl (lv_at hl 0 rfl) ?_
  refine lv_bipush (v := 32) hx hb dX2_init_13 (by decide) ?_
  refine va_newa (a0 := (32, .inl (fun _ => 0))) (N' := 32) (atype := .int) (ty := .int) hx hb (hB _ k1_31) rfl hK hP hD hS hA (fun _ => rfl) (by decide) (by decide) (by decide) (Nat.le_of_ble_eq_true rfl) (Nat.le_of_ble_eq_true rfl) dX2_init_15 (fun q1 cA9 H hK9 hP hD hS => ?_)
  obtain rfl : cI = cA9 := (cA_i hK9 hK).symm
  have hP : va_P D vwCl [(h0, .inr (2, [.ref q0, .null, .null, .null, .null, .int 0])), (q0, .inl (cI, 32, .inl (fun _ => 0))), (q1, .inl (cI, 32, .inl (fun _ => 0)))] H := hP
  have hD : va_D A [(h0, .inr (2, [.ref q0, .null, .null, .null, .null, .int 0])), (q0, .inl (cI, 32, .inl (fun _ => 0))), (q1, .inl (cI, 32, .inl (fun _ => 0)))] := hD
  refine W.widen (k := 2) (n := 64) (Nat.le_of_ble_eq_true rfl) (Nat.le_of_ble_eq_true rfl) ?_
  refine va_putF (D := D) (ci := 2) (v := .ref q1) (ty := tyX2 1) (C := RX2) (T := TX2) (N := 6) hx hb hB inX2 tyX2 tyX2_ok nmX2 hown hK hP hD hS 0 rfl rfl 1 (by decide) (hB _ k1_39) (fun _ h9 => h9) rfl hin rfl (by decide +kernel) rfl rfl (Nat.le_of_ble_eq_true rfl) dX2_init_17 (fun H locs hP hD hS => ?_)
  have hP : va_P D vwCl [(h0, .inr (2, [.ref q0, .ref q1, .null, .null, .null, .int 0])), (q0, .inl (cI, 32, .inl (fun _ => 0))), (q1, .inl (cI, 32, .inl (fun _ => 0)))] H := hP
  have hD : va_D A [(h0, .inr (2, [.ref q0, .ref q1, .null, .null, .null, .int 0])), (q0, .inl (cI, 32, .inl (fun _ => 0))), (q1, .inl (cI, 32, .inl (fun _ => 0)))] := hD
  refine lv_aload_n hx hb dX2_init_20 rfl (lv_at hl 0 rfl) ?_
  refine lv_bipush (v := 32) hx hb dX2_init_21 (by decide) ?_
  refine va_newa (a0 := (32, .inl (fun _ => 0))) (N' := 32) (atype := .boolean) (ty := .boolean) hx hb (hB _ k1_58) rfl hK hP hD hS hA (fun _ => rfl) (by decide) (by decide) (by decide) (Nat.le_of_ble_eq_true rfl) (Nat.le_of_ble_eq_true rfl) dX2_init_23 (fun q2 cA9 H hK9 hP hD hS => ?_)
  obtain rfl : cZ = cA9 := (cA_z hK9 hK).symm
  have hP : va_P D vwCl [(h0, .inr (2, [.ref q0, .ref q1, .null, .null, .null, .int 0])), (q0, .inl (cI, 32, .inl (fun _ => 0))), (q1, .inl (cI, 32, .inl (fun _ => 0))), (q2, .inl (cZ, 32, .inl (fun _ => 0)))] H := hP
  have hD : va_D A [(h0, .inr (2, [.ref q0, .ref q1, .null, .null, .null, .int 0])), (q0, .inl (cI, 32, .inl (fun _ => 0))), (q1, .inl (cI, 32, .inl (fun _ => 0))), (q2, .inl (cZ, 32, .inl (fun _ => 0)))] := hD
  refine W.widen (k := 3) (n := 96) (Nat.le_of_ble_eq_true rfl) (Nat.le_of_ble_eq_true rfl) ?_
  refine va_putF (D := D) (ci := 2) (v := .ref q2) (ty := tyX2 2) (C := RX2) (T := TX2) (N := 6) hx hb hB inX2 tyX2 tyX2_ok nmX2 hown hK hP hD hS 0 rfl rfl 2 (by decide) (hB _ k1_40) (fun _ h9 => h9) rfl hin rfl (by decide +kernel) rfl rfl (Nat.le_of_ble_eq_true rfl) dX2_init_25 (fun H locs hP hD hS => ?_)
  have hP : va_P D vwCl [(h0, .inr (2, [.ref q0, .ref q1, .ref q2, .null, .null, .int 0])), (q0, .inl (cI, 32, .inl (fun _ => 0))), (q1, .inl (cI, 32, .inl (fun _ => 0))), (q2, .inl (cZ, 32, .inl (fun _ => 0)))] H := hP
  have hD : va_D A [(h0, .inr (2, [.ref q0, .ref q1, .ref q2, .null, .null, .int 0])), (q0, .inl (cI, 32, .inl (fun _ => 0))), (q1, .inl (cI, 32, .inl (fun _ => 0))), (q2, .inl (cZ, 32, .inl (fun _ => 0)))] := hD
  refine lv_aload_n hx hb dX2_init_28 rfl (lv_at hl 0 rfl) ?_
  refine lv_bipush (v := 32) hx hb dX2_init_29 (by decide) ?_
  refine va_newa (a0 := (32, .inl (fun _ => 0))) (N' := 32) (atype := .int) (ty := .int) hx hb (hB _ k1_31) rfl hK hP hD hS hA (fun _ => rfl) (by decide) (by decide) (by decide) (Nat.le_of_ble_eq_true rfl) (Nat.le_of_ble_eq_true rfl) dX2_init_31 (fun q3 cA9 H hK9 hP hD hS => ?_)
  obtain rfl : cI = cA9 := (cA_i hK9 hK).symm
  have hP : va_P D vwCl [(h0, .inr (2, [.ref q0, .ref q1, .ref q2, .null, .null, .int 0])), (q0, .inl (cI, 32, .inl (fun _ => 0))), (q1, .inl (cI, 32, .inl (fun _ => 0))), (q2, .inl (cZ, 32, .inl (fun _ => 0))), (q3, .inl (cI, 32, .inl (fun _ => 0)))] H := hP
  have hD : va_D A [(h0, .inr (2, [.ref q0, .ref q1, .ref q2, .null, .null, .int 0])), (q0, .inl (cI, 32, .inl (fun _ => 0))), (q1, .inl (cI, 32, .inl (fun _ => 0))), (q2, .inl (cZ, 32, .inl (fun _ => 0))), (q3, .inl (cI, 32, .inl (fun _ => 0)))] := hD
  refine W.widen (k := 4) (n := 128) (Nat.le_of_ble_eq_true rfl) (Nat.le_of_ble_eq_true rfl) ?_
  refine va_putF (D := D) (ci := 2) (v := .ref q3) (ty := tyX2 3) (C := RX2) (T := TX2) (N := 6) hx hb hB inX2 tyX2 tyX2_ok nmX2 hown hK hP hD hS 0 rfl rfl 3 (by decide) (hB _ k1_41) (fun _ h9 => h9) rfl hin rfl (by decide +kernel) rfl rfl (Nat.le_of_ble_eq_true rfl) dX2_init_33 (fun H locs hP hD hS => ?_)
  have hP : va_P D vwCl [(h0, .inr (2, [.ref q0, .ref q1, .ref q2, .ref q3, .null, .int 0])), (q0, .inl (cI, 32, .inl (fun _ => 0))), (q1, .inl (cI, 32, .inl (fun _ => 0))), (q2, .inl (cZ, 32, .inl (fun _ => 0))), (q3, .inl (cI, 32, .inl (fun _ => 0)))] H := hP
  have hD : va_D A [(h0, .inr (2, [.ref q0, .ref q1, .ref q2, .ref q3, .null, .int 0])), (q0, .inl (cI, 32, .inl (fun _ => 0))), (q1, .inl (cI, 32, .inl (fun _ => 0))), (q2, .inl (cZ, 32, .inl (fun _ => 0))), (q3, .inl (cI, 32, .inl (fun _ => 0)))] := hD
  refine lv_aload_n hx hb dX2_init_36 rfl (lv_at hl 0 rfl) ?_
  refine lv_bipush (v := 32) hx hb dX2_init_37 (by decide) ?_
  refine va_newa (a0 := (32, .inl (fun _ => 0))) (N' := 32) (atype := .int) (ty := .int) hx hb (hB _ k1_31) rfl hK hP hD hS hA (fun _ => rfl) (by decide) (by decide) (by decide) (Nat.le_of_ble_eq_true rfl) (Nat.le_of_ble_eq_true rfl) dX2_init_39 (fun q4 cA9 H hK9 hP hD hS => ?_)
  obtain rfl : cI = cA9 := (cA_i hK9 hK).symm
  have hP : va_P D vwCl [(h0, .inr (2, [.ref q0, .ref q1, .ref q2, .ref q3, .null, .int 0])), (q0, .inl (cI, 32, .inl (fun _ => 0))), (q1, .inl (cI, 32, .inl (fun _ => 0))), (q2, .inl (cZ, 32, .inl (fun _ => 0))), (q3, .inl (cI, 32, .inl (fun _ => 0))), (q4, .inl (cI, 32, .inl (fun _ => 0)))] H := hP
  have hD : va_D A [(h0, .inr (2, [.ref q0, .ref q1, .ref q2, .ref q3, .null, .int 0])), (q0, .inl (cI, 32, .inl (fun _ => 0))), (q1, .inl (cI, 32, .inl (fun _ => 0))), (q2, .inl (cZ, 32, .inl (fun _ => 0))), (q3, .inl (cI, 32, .inl (fun _ => 0))), (q4, .inl (cI, 32, .inl (fun _ => 0)))] := hD
  refine W.widen (k := 5) (n := 160) (Nat.le_of_ble_eq_true rfl) (Nat.le_of_ble_eq_true rfl) ?_
  refine va_putF (D := D) (ci := 2) (v := .ref q4) (ty := tyX2 4) (C := RX2) (T := TX2) (N := 6) hx hb hB inX2 tyX2 tyX2_ok nmX2 hown hK hP hD hS 0 rfl rfl 4 (by decide) (hB _ k1_42) (fun _ h9 => h9) rfl hin rfl (by decide +kernel) rfl rfl (Nat.le_of_ble_eq_true rfl) dX2_init_41 (fun H locs hP hD hS => ?_)
  have hP : va_P D vwCl [(h0, .inr (2, [.ref q0, .ref q1, .ref q2, .ref q3, .ref q4, .int 0])), (q0, .inl (cI, 32, .inl (fun _ => 0))), (q1, .inl (cI, 32, .inl (fun _ => 0))), (q2, .inl (cZ, 32, .inl (fun _ => 0))), (q3, .inl (cI, 32, .inl (fun _ => 0))), (q4, .inl (cI, 32, .inl (fun _ => 0)))] H := hP
  have hD : va_D A [(h0, .inr (2, [.ref q0, .ref q1, .ref q2, .ref q3, .ref q4, .int 0])), (q0, .inl (cI, 32, .inl (fun _ => 0))), (q1, .inl (cI, 32, .inl (fun _ => 0))), (q2, .inl (cZ, 32, .inl (fun _ => 0))), (q3, .inl (cI, 32, .inl (fun _ => 0))), (q4, .inl (cI, 32, .inl (fun _ => 0)))] := hD
  refine lv_aload_n hx hb dX2_init_44 rfl (lv_at hl 0 rfl) ?_
  refine lv_iconst (v := 0) hx hb dX2_init_45 (by decide) ?_
  refine va_put (D := D) (ci := 2) (v := .int 0) (ty := .int) (C := RX2) (T := TX2) (N := 6) hx hb hB inX2 tyX2 tyX2_ok nmX2 hown hK hP hD hS 0 rfl rfl 5 (by decide) (hB _ k1_43) (fun _ h9 => h9) rfl (by decide +kernel) rfl rfl (Nat.le_of_ble_eq_true rfl) dX2_init_46 (fun H locs hP hD hS => ?_)
  have hP : va_P D vwCl [(h0, .inr (2, [.ref q0, .ref q1, .ref q2, .ref q3, .ref q4, .int 0])), (q0, .inl (cI, 32, .inl (fun _ => 0))), (q1, .inl (cI, 32, .inl (fun _ => 0))), (q2, .inl (cZ, 32, .inl (fun _ => 0))), (q3, .inl (cI, 32, .inl (fun _ => 0))), (q4, .inl (cI, 32, .inl (fun _ => 0)))] H := hP
  have hD : va_D A [(h0, .inr (2, [.ref q0, .ref q1, .ref q2, .ref q3, .ref q4, .int 0])), (q0, .inl (cI, 32, .inl (fun _ => 0))), (q1, .inl (cI, 32, .inl (fun _ => 0))), (q2, .inl (cZ, 32, .inl (fun _ => 0))), (q3, .inl (cI, 32, .inl (fun _ => 0))), (q4, .inl (cI, 32, .inl (fun _ => 0)))] := hD
  exact W.vret hx hb hr (fun t ht hW => ⟨⟨(), rfl, trivial, q0, q1, q2, q3, q4, by rw [ht]; exact hP, hD⟩, hS.F ht⟩) hS.2.2 dX2_init_49
set_option maxHeartbeats 4000000 in
set_option maxRecDepth 100000 in
theorem m_R_init (l : Launch) (D : va_G) (cI cZ : ClassId) (h0 sz : Nat) : Met l yX3_init wsX3_init { frames := 1, cells := 5, slots := 400, locals := 12 } (va_Pc [.ref h0] (fun U => U.heap.size = sz ∧ va_P D vwCl [(h0, .inr (3, [.null, .null, .null, .null, .null, .int 0]))] U.heap ∧ va_K D vwCl (bT cI cZ) U ∧ NW U ∧ va_D (fun _ => True) [(h0, .inr (3, [.null, .null, .null, .null, .null, .int 0]))])) (va_Qv (fun _ : Unit => True) (fun _ t => ∃ (q0 : Nat) (q1 : Nat) (q2 : Nat) (q3 : Nat) (q4 : Nat), va_P D vwCl [(h0, .inr (3, [.ref q0, .ref q1, .ref q2, .ref q3, .ref q4, .int 0])), (q0, .inl (cI, 80, .inl (fun _ => 0))), (q1, .inl (cI, 80, .inl (fun _ => 0))), (q2, .inl (cI, 80, .inl (fun _ => 0))), (q3, .inl (cI, 80, .inl (fun _ => 0))), (q4, .inl (cZ, 80, .inl (fun _ => 0)))] t.heap ∧ va_D (va_A [(h0, .inr (3, [.null, .null, .null, .null, .null, .int 0]))] sz) [(h0, .inr (3, [.ref q0, .ref q1, .ref q2, .ref q3, .ref q4, .int 0])), (q0, .inl (cI, 80, .inl (fun _ => 0))), (q1, .inl (cI, 80, .inl (fun _ => 0))), (q2, .inl (cI, 80, .inl (fun _ => 0))), (q3, .inl (cI, 80, .inl (fun _ => 0))), (q4, .inl (cZ, 80, .inl (fun _ => 0)))]) (va_A [(h0, .inr (3, [.null, .null, .null, .null, .null, .int 0]))] sz)) 5 400 (va_A [(h0, .inr (3, [.null, .null, .null, .null, .null, .int 0]))] sz) := by
  refine Met.ofW (cc := cX3_init) (maxL := 1) (ret := none) (by decide) rfl ?_
  intro p e s m args below meth c s₁ B hml hv
  obtain ⟨rfl, hsz, hP, hK, hN, hD0⟩ := hv
  have hx := B.exec
  have hb := B.bytes
  have hr := B.returns
  have hts := atoms_spec (ws := wsX3_init) B.pre
  have hB : ∀ w ∈ BW, w.before _ s = true := fun w h => hts w (List.mem_cons_of_mem _ h)
  have hown : s.vm.findClass RX3 = some m.cls := findClass_of_methodNamed B.named
  have hlocks := B.notSynchronized
  have hin : meth.name = "<init>" := (name_of_methodNamed B.named B.method).1
  subst hsz
  have hD := hD0.self (sz := s.heap.size)
  generalize hAe : va_A [(h0, .inr (3, [.null, .null, .null, .null, .null, .int 0]))] s.heap.size = A at hD ⊢
  have hA : ∀ q : Nat, s.heap.size ≤ q → A q := fun q h => by rw [← hAe]; exact Or.inr h
  have hS : va_S A s.heap s.heap [] := va_S.rf
  have hl := lv_entry ([.ref h0]) (n := 1) (Nat.le_of_ble_eq_true rfl)
  rw [lg_entry_eq]
  generalize (lg_sl ([.ref h0]) ++ List.replicate (1 - (lg_sl ([.ref h0])).length) Slot.unset).toArray = ls at hl ⊢
  have hl : lv_has ls 1 [(0, .ref h0)] := hl
  refine lv_aload_n hx hb dX3_init_0 rfl (lv_at hl 0 rfl) ?_
  refine W.objInit hx hb hown (hB _ k1_64) (hB _ k1_15) (hB _ km_obj) rfl (by rw [hml]; exact hl.1) rfl dX3_init_1 (Nat.le_of_ble_eq_true rfl) (Nat.le_of_ble_eq_true rfl) ?_
  refine W.eq (g2 := F0 m 4 ls []) rfl ?_
  refine lv_aload_n hx hb dX3_init_4 rfl (lv_at hl 0 rfl) ?_
  refine lv_bipush (v := 80) hx hb dX3_init_5 (by decide) ?_
  refine va_newa (a0 := (80, .inl (fun _ => 0))) (N' := 80) (atype := .int) (ty := .int) hx hb (hB _ k1_31) rfl hK hP hD hS hA (fun _ => rfl) (by decide) (by decide) (by decide) (Nat.le_of_ble_eq_true rfl) (Nat.le_of_ble_eq_true rfl) dX3_init_7 (fun q0 cA9 H hK9 hP hD hS => ?_)
  obtain rfl : cI = cA9 := (cA_i hK9 hK).symm
  have hP : va_P D vwCl [(h0, .inr (3, [.null, .null, .null, .null, .null, .int 0])), (q0, .inl (cI, 80, .inl (fun _ => 0)))] H := hP
  have hD : va_D A [(h0, .inr (3, [.null, .null, .null, .null, .null, .int 0])), (q0, .inl (cI, 80, .inl (fun _ => 0)))] := hD
  refine W.widen (k := 1) (n := 80) (Nat.le_of_ble_eq_true rfl) (Nat.le_of_ble_eq_true rfl) ?_
  refine va_putF (D := D) (ci := 3) (v := .ref q0) (ty := tyX3 0) (C := RX3) (T := TX3) (N := 6) hx hb hB inX3 tyX3 tyX3_ok nmX3 hown hK hP hD hS 0 rfl rfl 0 (by decide) (hB _ k1_65) (fun _ h9 => h9) rfl hin rfl (by decide +kernel) rfl rfl (Nat.le_of_ble_eq_true rfl) dX3_init_9 (fun H locs hP hD hS => ?_)
  have hP : va_P D vwCl [(h0, .inr (3, [.ref q0, .null, .null, .null, .null, .int 0])), (q0, .inl (cI, 80, .inl (fun _ => 0)))] H := hP
  have hD : va_D A [(h0, .inr (3, [.ref q0, .null, .null, .null, .null, .int 0])), (q0, .inl (cI, 80, .inl (fun _ => 0)))] := hD
  refine lv_aload_n hx hb dX3_init_12 rfl (lv_at hl 0 rfl) ?_
  refine lv_bipush (v := 80) hx hb dX3_init_13 (by decide) ?_
  refine va_newa (a0 := (80, .inl (fun _ => 0))) (N' := 80) (atype := .int) (ty := .int) hx hb (hB _ k1_31) rfl hK hP hD hS hA (fun _ => rfl) (by decide) (by decide) (by decide) (Nat.le_of_ble_eq_true rfl) (Nat.le_of_ble_eq_true rfl) dX3_init_15 (fun q1 cA9 H hK9 hP hD hS => ?_)
  obtain rfl : cI = cA9 := (cA_i hK9 hK).symm
  have hP : va_P D vwCl [(h0, .inr (3, [.ref q0, .null, .null, .null, .null, .int 0])), (q0, .inl (cI, 80, .inl (fun _ => 0))), (q1, .inl (cI, 80, .inl (fun _ => 0)))] H := hP
  have hD : va_D A [(h0, .inr (3, [.ref q0, .null, .null, .null, .null, .int 0])), (q0, .inl (cI, 80, .inl (fun _ => 0))), (q1, .inl (cI, 80, .inl (fun _ => 0)))] := hD
  refine W.widen (k := 2) (n := 160) (Nat.le_of_ble_eq_true rfl) (Nat.le_of_ble_eq_true rfl) ?_
  refine va_putF (D := D) (ci := 3) (v := .ref q1) (ty := tyX3 1) (C := RX3) (T := TX3) (N := 6) hx hb hB inX3 tyX3 tyX3_ok nmX3 hown hK hP hD hS 0 rfl rfl 1 (by decide) (hB _ k1_67) (fun _ h9 => h9) rfl hin rfl (by decide +kernel) rfl rfl (Nat.le_of_ble_eq_true rfl) dX3_init_17 (fun H locs hP hD hS => ?_)
  have hP : va_P D vwCl [(h0, .inr (3, [.ref q0, .ref q1, .null, .null, .null, .int 0])), (q0, .inl (cI, 80, .inl (fun _ => 0))), (q1, .inl (cI, 80, .inl (fun _ => 0)))] H := hP
  have hD : va_D A [(h0, .inr (3, [.ref q0, .ref q1, .null, .null, .null, .int 0])), (q0, .inl (cI, 80, .inl (fun _ => 0))), (q1, .inl (cI, 80, .inl (fun _ => 0)))] := hD
  refine lv_aload_n hx hb dX3_init_20 rfl (lv_at hl 0 rfl) ?_
  refine lv_bipush (v := 80) hx hb dX3_init_21 (by decide) ?_
  refine va_newa (a0 := (80, .inl (fun _ => 0))) (N' := 80) (atype := .int) (ty := .int) hx hb (hB _ k1_31) rfl hK hP hD hS hA (fun _ => rfl) (by decide) (by decide) (by decide) (Nat.le_of_ble_eq_true rfl) (Nat.le_of_ble_eq_true rfl) dX3_init_23 (fun q2 cA9 H hK9 hP hD hS => ?_)
  obtain rfl : cI = cA9 := (cA_i hK9 hK).symm
  have hP : va_P D vwCl [(h0, .inr (3, [.ref q0, .ref q1, .null, .null, .null, .int 0])), (q0, .inl (cI, 80, .inl (fun _ => 0))), (q1, .inl (cI, 80, .inl (fun _ => 0))), (q2, .inl (cI, 80, .inl (fun _ => 0)))] H := hP
  have hD : va_D A [(h0, .inr (3, [.ref q0, .ref q1, .null, .null, .null, .int 0])), (q0, .inl (cI, 80, .inl (fun _ => 0))), (q1, .inl (cI, 80, .inl (fun _ => 0))), (q2, .inl (cI, 80, .inl (fun _ => 0)))] := hD
  refine W.widen (k := 3) (n := 240) (Nat.le_of_ble_eq_true rfl) (Nat.le_of_ble_eq_true rfl) ?_
  refine va_putF (D := D) (ci := 3) (v := .ref q2) (ty := tyX3 2) (C := RX3) (T := TX3) (N := 6) hx hb hB inX3 tyX3 tyX3_ok nmX3 hown hK hP hD hS 0 rfl rfl 2 (by decide) (hB _ k1_69) (fun _ h9 => h9) rfl hin rfl (by decide +kernel) rfl rfl (Nat.le_of_ble_eq_true rfl) dX3_init_25 (fun H locs hP hD hS => ?_)
  have hP : va_P D vwCl [(h0, .inr (3, [.ref q0, .ref q1, .ref q2, .null, .null, .int 0])), (q0, .inl (cI, 80, .inl (fun _ => 0))), (q1, .inl (cI, 80, .inl (fun _ => 0))), (q2, .inl (cI, 80, .inl (fun _ => 0)))] H := hP
  have hD : va_D A [(h0, .inr (3, [.ref q0, .ref q1, .ref q2, .null, .null, .int 0])), (q0, .inl (cI, 80, .inl (fun _ => 0))), (q1, .inl (cI, 80, .inl (fun _ => 0))), (q2, .inl (cI, 80, .inl (fun _ => 0)))] := hD
  refine lv_aload_n hx hb dX3_init_28 rfl (lv_at hl 0 rfl) ?_
  refine lv_bipush (v := 80) hx hb dX3_init_29 (by decide) ?_
  refine va_newa (a0 := (80, .inl (fun _ => 0))) (N' := 80) (atype := .int) (ty := .int) hx hb (hB _ k1_31) rfl hK hP hD hS hA (fun _ => rfl) (by decide) (by decide) (by decide) (Nat.le_of_ble_eq_true rfl) (Nat.le_of_ble_eq_true rfl) dX3_init_31 (fun q3 cA9 H hK9 hP hD hS => ?_)
  obtain rfl : cI = cA9 := (cA_i hK9 hK).symm
  have hP : va_P D vwCl [(h0, .inr (3, [.ref q0, .ref q1, .ref q2, .null, .null, .int 0])), (q0, .inl (cI, 80, .inl (fun _ => 0))), (q1, .inl (cI, 80, .inl (fun _ => 0))), (q2, .inl (cI, 80, .inl (fun _ => 0))), (q3, .inl (cI, 80, .inl (fun _ => 0)))] H := hP
  have hD : va_D A [(h0, .inr (3, [.ref q0, .ref q1, .ref q2, .null, .null, .int 0])), (q0, .inl (cI, 80, .inl (fun _ => 0))), (q1, .inl (cI, 80, .inl (fun _ => 0))), (q2, .inl (cI, 80, .inl (fun _ => 0))), (q3, .inl (cI, 80, .inl (fun _ => 0)))] := hD
  refine W.widen (k := 4) (n := 320) (Nat.le_of_ble_eq_true rfl) (Nat.le_of_ble_eq_true rfl) ?_
  refine va_putF (D := D) (ci := 3) (v := .ref q3) (ty := tyX3 3) (C := RX3) (T := TX3) (N := 6) hx hb hB inX3 tyX3 tyX3_ok nmX3 hown hK hP hD hS 0 rfl rfl 3 (by decide) (hB _ k1_71) (fun _ h9 => h9) rfl hin rfl (by decide +kernel) rfl rfl (Nat.le_of_ble_eq_true rfl) dX3_init_33 (fun H locs hP hD hS => ?_)
  have hP : va_P D vwCl [(h0, .inr (3, [.ref q0, .ref q1, .ref q2, .ref q3, .null, .int 0])), (q0, .inl (cI, 80, .inl (fun _ => 0))), (q1, .inl (cI, 80, .inl (fun _ => 0))), (q2, .inl (cI, 80, .inl (fun _ => 0))), (q3, .inl (cI, 80, .inl (fun _ => 0)))] H := hP
  have hD : va_D A [(h0, .inr (3, [.ref q0, .ref q1, .ref q2, .ref q3, .null, .int 0])), (q0, .inl (cI, 80, .inl (fun _ => 0))), (q1, .inl (cI, 80, .inl (fun _ => 0))), (q2, .inl (cI, 80, .inl (fun _ => 0))), (q3, .inl (cI, 80, .inl (fun _ => 0)))] := hD
  refine lv_aload_n hx hb dX3_init_36 rfl (lv_at hl 0 rfl) ?_
  refine lv_bipush (v := 80) hx hb dX3_init_37 (by decide) ?_
  refine va_newa (a0 := (80, .inl (fun _ => 0))) (N' := 80) (atype := .boolean) (ty := .boolean) hx hb (hB _ k1_58) rfl hK hP hD hS hA (fun _ => rfl) (by decide) (by decide) (by decide) (Nat.le_of_ble_eq_true rfl) (Nat.le_of_ble_eq_true rfl) dX3_init_39 (fun q4 cA9 H hK9 hP hD hS => ?_)
  obtain rfl : cZ = cA9 := (cA_z hK9 hK).symm
  have hP : va_P D vwCl [(h0, .inr (3, [.ref q0, .ref q1, .ref q2, .ref q3, .null, .int 0])), (q0, .inl (cI, 80, .inl (fun _ => 0))), (q1, .inl (cI, 80, .inl (fun _ => 0))), (q2, .inl (cI, 80, .inl (fun _ => 0))), (q3, .inl (cI, 80, .inl (fun _ => 0))), (q4, .inl (cZ, 80, .inl (fun _ => 0)))] H := hP
  have hD : va_D A [(h0, .inr (3, [.ref q0, .ref q1, .ref q2, .ref q3, .null, .int 0])), (q0, .inl (cI, 80, .inl (fun _ => 0))), (q1, .inl (cI, 80, .inl (fun _ => 0))), (q2, .inl (cI, 80, .inl (fun _ => 0))), (q3, .inl (cI, 80, .inl (fun _ => 0))), (q4, .inl (cZ, 80, .inl (fun _ => 0)))] := hD
  refine W.widen (k := 5) (n := 400) (Nat.le_of_ble_eq_true rfl) (Nat.le_of_ble_eq_true rfl) ?_
  refine va_putF (D := D) (ci := 3) (v := .ref q4) (ty := tyX3 4) (C := RX3) (T := TX3) (N := 6) hx hb hB inX3 tyX3 tyX3_ok nmX3 hown hK hP hD hS 0 rfl rfl 4 (by decide) (hB _ k1_73) (fun _ h9 => h9) rfl hin rfl (by decide +kernel) rfl rfl (Nat.le_of_ble_eq_true rfl) dX3_init_41 (fun H locs hP hD hS => ?_)
  have hP : va_P D vwCl [(h0, .inr (3, [.ref q0, .ref q1, .ref q2, .ref q3, .ref q4, .int 0])), (q0, .inl (cI, 80, .inl (fun _ => 0))), (q1, .inl (cI, 80, .inl (fun _ => 0))), (q2, .inl (cI, 80, .inl (fun _ => 0))), (q3, .inl (cI, 80, .inl (fun _ => 0))), (q4, .inl (cZ, 80, .inl (fun _ => 0)))] H := hP
  have hD : va_D A [(h0, .inr (3, [.ref q0, .ref q1, .ref q2, .ref q3, .ref q4, .int 0])), (q0, .inl (cI, 80, .inl (fun _ => 0))), (q1, .inl (cI, 80, .inl (fun _ => 0))), (q2, .inl (cI, 80, .inl (fun _ => 0))), (q3, .inl (cI, 80, .inl (fun _ => 0))), (q4, .inl (cZ, 80, .inl (fun _ => 0)))] := hD
  refine lv_aload_n hx hb dX3_init_44 rfl (lv_at hl 0 rfl) ?_
  refine lv_iconst (v := 0) hx hb dX3_init_45 (by decide) ?_
  refine va_put (D := D) (ci := 3) (v := .int 0) (ty := .int) (C := RX3) (T := TX3) (N := 6) hx hb hB inX3 tyX3 tyX3_ok nmX3 hown hK hP hD hS 0 rfl rfl 5 (by decide) (hB _ k1_75) (fun _ h9 => h9) rfl (by decide +kernel) rfl rfl (Nat.le_of_ble_eq_true rfl) dX3_init_46 (fun H locs hP hD hS => ?_)
  have hP : va_P D vwCl [(h0, .inr (3, [.ref q0, .ref q1, .ref q2, .ref q3, .ref q4, .int 0])), (q0, .inl (cI, 80, .inl (fun _ => 0))), (q1, .inl (cI, 80, .inl (fun _ => 0))), (q2, .inl (cI, 80, .inl (fun _ => 0))), (q3, .inl (cI, 80, .inl (fun _ => 0))), (q4, .inl (cZ, 80, .inl (fun _ => 0)))] H := hP
  have hD : va_D A [(h0, .inr (3, [.ref q0, .ref q1, .ref q2, .ref q3, .ref q4, .int 0])), (q0, .inl (cI, 80, .inl (fun _ => 0))), (q1, .inl (cI, 80, .inl (fun _ => 0))), (q2, .inl (cI, 80, .inl (fun _ => 0))), (q3, .inl (cI, 80, .inl (fun _ => 0))), (q4, .inl (cZ, 80, .inl (fun _ => 0)))] := hD
  exact W.vret hx hb hr (fun t ht hW => ⟨⟨(), rfl, trivial, q0, q1, q2, q3, q4, by rw [ht]; exact hP, hD⟩, hS.F ht⟩) hS.2.2 dX3_init_49
set_option maxHeartbeats 4000000 in
set_option maxRecDepth 100000 in
theorem m_Q_init (l : Launch) (D : va_G) (cI cZ : ClassId) (h0 sz : Nat) : Met l yX4_init wsX4_init { frames := 1, cells := 5, slots := 600, locals := 12 } (va_Pc [.ref h0] (fun U => U.heap.size = sz ∧ va_P D vwCl [(h0, .inr (4, [.null, .null, .null, .null, .null, .int 0]))] U.heap ∧ va_K D vwCl (bT cI cZ) U ∧ NW U ∧ va_D (fun _ => True) [(h0, .inr (4, [.null, .null, .null, .null, .null, .int 0]))])) (va_Qv (fun _ : Unit => True) (fun _ t => ∃ (q0 : Nat) (q1 : Nat) (q2 : Nat) (q3 : Nat) (q4 : Nat), va_P D vwCl [(h0, .inr (4, [.ref q0, .ref q1, .ref q2, .ref q3, .ref q4, .int 0])), (q0, .inl (cI, 120, .inl (fun _ => 0))), (q1, .inl (cI, 120, .inl (fun _ => 0))), (q2, .inl (cI, 120, .inl (fun _ => 0))), (q3, .inl (cI, 120, .inl (fun _ => 0))), (q4, .inl (cZ, 120, .inl (fun _ => 0)))] t.heap ∧ va_D (va_A [(h0, .inr (4, [.null, .null, .null, .null, .null, .int 0]))] sz) [(h0, .inr (4, [.ref q0, .ref q1, .ref q2, .ref q3, .ref q4, .int 0])), (q0, .inl (cI, 120, .inl (fun _ => 0))), (q1, .inl (cI, 120, .inl (fun _ => 0))), (q2, .inl (cI, 120, .inl (fun _ => 0))), (q3, .inl (cI, 120, .inl (fun _ => 0))), (q4, .inl (cZ, 120, .inl (fun _ => 0)))]) (va_A [(h0, .inr (4, [.null, .null, .null, .null, .null, .int 0]))] sz)) 5 600 (va_A [(h0, .inr (4, [.null, .null, .null, .null, .null, .int 0]))] sz) := by
  refine Met.ofW (cc := cX4_init) (maxL := 1) (ret := none) (by decide) rfl ?_
  intro p e s m args below meth c s₁ B hml hv
  obtain ⟨rfl, hsz, hP, hK, hN, hD0⟩ := hv
  have hx := B.exec
  have hb := B.bytes
  have hr := B.returns
  have hts := atoms_spec (ws := wsX4_init) B.pre
  have hB : ∀ w ∈ BW, w.before _ s = true := fun w h => hts w (List.mem_cons_of_mem _ h)
  have hown : s.vm.findClass RX4 = some m.cls := findClass_of_methodNamed B.named
  have hlocks := B.notSynchronized
  have hin : meth.name = "<init>" := (name_of_methodNamed B.named B.method).1
  subst hsz
  have hD := hD0.self (sz := s.heap.size)
  generalize hAe : va_A [(h0, .inr (4, [.null, .null, .null, .null, .null, .int 0]))] s.heap.size = A at hD ⊢
  have hA : ∀ q : Nat, s.heap.size ≤ q → A q := fun q h => by rw [← hAe]; exact Or.inr h
  have hS : va_S A s.heap s.heap [] := va_S.rf
  have hl := lv_entry ([.ref h0]) (n := 1) (Nat.le_of_ble_eq_true rfl)
  rw [lg_entry_eq]
  generalize (lg_sl ([.ref h0]) ++ List.replicate (1 - (lg_sl ([.ref h0])).length) Slot.unset).toArray = ls at hl ⊢
  have hl : lv_has ls 1 [(0, .ref h0)] := hl
  refine lv_aload_n hx hb dX4_init_0 rfl (lv_at hl 0 rfl) ?_
  refine W.objInit hx hb hown (hB _ k1_94) (hB _ k1_15) (hB _ km_obj) rfl (by rw [hml]; exact hl.1) rfl dX4_init_1 (Nat.le_of_ble_eq_true rfl) (Nat.le_of_ble_eq_true rfl) ?_
  refine W.eq (g2 := F0 m 4 ls []) rfl ?_
  refine lv_aload_n hx hb dX4_init_4 rfl (lv_at hl 0 rfl) ?_
  refine lv_bipush (v := 120) hx hb dX4_init_5 (by decide) ?_
  refine va_newa (a0 := (120, .inl (fun _ => 0))) (N' := 120) (atype := .int) (ty := .int) hx hb (hB _ k1_31) rfl hK hP hD hS hA (fun _ => rfl) (by decide) (by decide) (by decide) (Nat.le_of_ble_eq_true rfl) (Nat.le_of_ble_eq_true rfl) dX4_init_7 (fun q0 cA9 H hK9 hP hD hS => ?_)
  obtain rfl : cI = cA9 := (cA_i hK9 hK).symm
  have hP : va_P D vwCl [(h0, .inr (4, [.null, .null, .null, .null, .null, .int 0])), (q0, .inl (cI, 120, .inl (fun _ => 0)))] H := hP
  have hD : va_D A [(h0, .inr (4, [.null, .null, .null, .null, .null, .int 0])), (q0, .inl (cI, 120, .inl (fun _ => 0)))] := hD
  refine W.widen (k := 1) (n := 120) (Nat.le_of_ble_eq_true rfl) (Nat.le_of_ble_eq_true rfl) ?_
  refine va_putF (D := D) (ci := 4) (v := .ref q0) (ty := tyX4 0) (C := RX4) (T := TX4) (N := 6) hx hb hB inX4 tyX4 tyX4_ok nmX4 hown hK hP hD hS 0 rfl rfl 0 (by decide) (hB _ k1_95) (fun _ h9 => h9) rfl hin rfl (by decide +kernel) rfl rfl (Nat.le_of_ble_eq_true rfl) dX4_init_9 (fun H locs hP hD hS => ?_)
  have hP : va_P D vwCl [(h0, .inr (4, [.ref q0, .null, .null, .null, .null, .int 0])), (q0, .inl (cI, 120, .inl (fun _ => 0)))] H := hP
  have hD : va_D A [(h0, .inr (4, [.ref q0, .null, .null, .null, .null, .int 0])), (q0, .inl (cI, 120, .inl (fun _ => 0)))] := hD
  refine lv_aload_n hx hb dX4_init_12 rfl (lv_at hl 0 rfl) ?_
  refine lv_bipush (v := 120) hx hb dX4_init_13 (by decide) ?_
  refine va_newa (a0 := (120, .inl (fun _ => 0))) (N' := 120) (atype := .int) (ty := .int) hx hb (hB _ k1_31) rfl hK hP hD hS hA (fun _ => rfl) (by decide) (by decide) (by decide) (Nat.le_of_ble_eq_true rfl) (Nat.le_of_ble_eq_true rfl) dX4_init_15 (fun q1 cA9 H hK9 hP hD hS => ?_)
  obtain rfl : cI = cA9 := (cA_i hK9 hK).symm
  have hP : va_P D vwCl [(h0, .inr (4, [.ref q0, .null, .null, .null, .null, .int 0])), (q0, .inl (cI, 120, .inl (fun _ => 0))), (q1, .inl (cI, 120, .inl (fun _ => 0)))] H := hP
  have hD : va_D A [(h0, .inr (4, [.ref q0, .null, .null, .null, .null, .int 0])), (q0, .inl (cI, 120, .inl (fun _ => 0))), (q1, .inl (cI, 120, .inl (fun _ => 0)))] := hD
  refine W.widen (k := 2) (n := 240) (Nat.le_of_ble_eq_true rfl) (Nat.le_of_ble_eq_true rfl) ?_
  refine va_putF (D := D) (ci := 4) (v := .ref q1) (ty := tyX4 1) (C := RX4) (T := TX4) (N := 6) hx hb hB inX4 tyX4 tyX4_ok nmX4 hown hK hP hD hS 0 rfl rfl 1 (by decide) (hB _ k1_97) (fun _ h9 => h9) rfl hin rfl (by decide +kernel) rfl rfl (Nat.le_of_ble_eq_true rfl) dX4_init_17 (fun H locs hP hD hS => ?_)
  have hP : va_P D vwCl [(h0, .inr (4, [.ref q0, .ref q1, .null, .null, .null, .int 0])), (q0, .inl (cI, 120, .inl (fun _ => 0))), (q1, .inl (cI, 120, .inl (fun _ => 0)))] H := hP
  have hD : va_D A [(h0, .inr (4, [.ref q0, .ref q1, .null, .null, .null, .int 0])), (q0, .inl (cI, 120, .inl (fun _ => 0))), (q1, .inl (cI, 120, .inl (fun _ => 0)))] := hD
  refine lv_aload_n hx hb dX4_init_20 rfl (lv_at hl 0 rfl) ?_
  refine lv_bipush (v := 120) hx hb dX4_init_21 (by decide) ?_
  refine va_newa (a0 := (120, .inl (fun _ => 0))) (N' := 120) (atype := .int) (ty := .int) hx hb (hB _ k1_31) rfl hK hP hD hS hA (fun _ => rfl) (by decide) (by decide) (by decide) (Nat.le_of_ble_eq_true rfl) (Nat.le_of_ble_eq_true rfl) dX4_init_23 (fun q2 cA9 H hK9 hP hD hS => ?_)
  obtain rfl : cI = cA9 := (cA_i hK9 hK).symm
  have hP : va_P D vwCl [(h0, .inr (4, [.ref q0, .ref q1, .null, .null, .null, .int 0])), (q0, .inl (cI, 120, .inl (fun _ => 0))), (q1, .inl (cI, 120, .inl (fun _ => 0))), (q2, .inl (cI, 120, .inl (fun _ => 0)))] H := hP
  have hD : va_D A [(h0, .inr (4, [.ref q0, .ref q1, .null, .null, .null, .int 0])), (q0, .inl (cI, 120, .inl (fun _ => 0))), (q1, .inl (cI, 120, .inl (fun _ => 0))), (q2, .inl (cI, 120, .inl (fun _ => 0)))] := hD
  refine W.widen (k := 3) (n := 360) (Nat.le_of_ble_eq_true rfl) (Nat.le_of_ble_eq_true rfl) ?_
  refine va_putF (D := D) (ci := 4) (v := .ref q2) (ty := tyX4 2) (C := RX4) (T := TX4) (N := 6) hx hb hB inX4 tyX4 tyX4_ok nmX4 hown hK hP hD hS 0 rfl rfl 2 (by decide) (hB _ k1_99) (fun _ h9 => h9) rfl hin rfl (by decide +kernel) rfl rfl (Nat.le_of_ble_eq_true rfl) dX4_init_25 (fun H locs hP hD hS => ?_)
  have hP : va_P D vwCl [(h0, .inr (4, [.ref q0, .ref q1, .ref q2, .null, .null, .int 0])), (q0, .inl (cI, 120, .inl (fun _ => 0))), (q1, .inl (cI, 120, .inl (fun _ => 0))), (q2, .inl (cI, 120, .inl (fun _ => 0)))] H := hP
  have hD : va_D A [(h0, .inr (4, [.ref q0, .ref q1, .ref q2, .null, .null, .int 0])), (q0, .inl (cI, 120, .inl (fun _ => 0))), (q1, .inl (cI, 120, .inl (fun _ => 0))), (q2, .inl (cI, 120, .inl (fun _ => 0)))] := hD
  refine lv_aload_n hx hb dX4_init_28 rfl (lv_at hl 0 rfl) ?_
  refine lv_bipush (v := 120) hx hb dX4_init_29 (by decide) ?_
  refine va_newa (a0 := (120, .inl (fun _ => 0))) (N' := 120) (atype := .int) (ty := .int) hx hb (hB _ k1_31) rfl hK hP hD hS hA (fun _ => rfl) (by decide) (by decide) (by decide) (Nat.le_of_ble_eq_true rfl) (Nat.le_of_ble_eq_true rfl) dX4_init_31 (fun q3 cA9 H hK9 hP hD hS => ?_)
  obtain rfl : cI = cA9 := (cA_i hK9 hK).symm
  have hP : va_P D vwCl [(h0, .inr (4, [.ref q0, .ref q1, .ref q2, .null, .null, .int 0])), (q0, .inl (cI, 120, .inl (fun _ => 0))), (q1, .inl (cI, 120, .inl (fun _ => 0))), (q2, .inl (cI, 120, .inl (fun _ => 0))), (q3, .inl (cI, 120, .inl (fun _ => 0)))] H := hP
  have hD : va_D A [(h0, .inr (4, [.ref q0, .ref q1, .ref q2, .null, .null, .int 0])), (q0, .inl (cI, 120, .inl (fun _ => 0))), (q1, .inl (cI, 120, .inl (fun _ => 0))), (q2, .inl (cI, 120, .inl (fun _ => 0))), (q3, .inl (cI, 120, .inl (fun _ => 0)))] := hD
  refine W.widen (k := 4) (n := 480) (Nat.le_of_ble_eq_true rfl) (Nat.le_of_ble_eq_true rfl) ?_
  refine va_putF (D := D) (ci := 4) (v := .ref q3) (ty := tyX4 3) (C := RX4) (T := TX4) (N := 6) hx hb hB inX4 tyX4 tyX4_ok nmX4 hown hK hP hD hS 0 rfl rfl 3 (by decide) (hB _ k1_101) (fun _ h9 => h9) rfl hin rfl (by decide +kernel) rfl rfl (Nat.le_of_ble_eq_true rfl) dX4_init_33 (fun H locs hP hD hS => ?_)
  have hP : va_P D vwCl [(h0, .inr (4, [.ref q0, .ref q1, .ref q2, .ref q3, .null, .int 0])), (q0, .inl (cI, 120, .inl (fun _ => 0))), (q1, .inl (cI, 120, .inl (fun _ => 0))), (q2, .inl (cI, 120, .inl (fun _ => 0))), (q3, .inl (cI, 120, .inl (fun _ => 0)))] H := hP
  have hD : va_D A [(h0, .inr (4, [.ref q0, .ref q1, .ref q2, .ref q3, .null, .int 0])), (q0, .inl (cI, 120, .inl (fun _ => 0))), (q1, .inl (cI, 120, .inl (fun _ => 0))), (q2, .inl (cI, 120, .inl (fun _ => 0))), (q3, .inl (cI, 120, .inl (fun _ => 0)))] := hD
  refine lv_aload_n hx hb dX4_init_36 rfl (lv_at hl 0 rfl) ?_
  refine lv_bipush (v := 120) hx hb dX4_init_37 (by decide) ?_
  refine va_newa (a0 := (120, .inl (fun _ => 0))) (N' := 120) (atype := .boolean) (ty := .boolean) hx hb (hB _ k1_58) rfl hK hP hD hS hA (fun _ => rfl) (by decide) (by decide) (by decide) (Nat.le_of_ble_eq_true rfl) (Nat.le_of_ble_eq_true rfl) dX4_init_39 (fun q4 cA9 H hK9 hP hD hS => ?_)
  obtain rfl : cZ = cA9 := (cA_z hK9 hK).symm
  have hP : va_P D vwCl [(h0, .inr (4, [.ref q0, .ref q1, .ref q2, .ref q3, .null, .int 0])), (q0, .inl (cI, 120, .inl (fun _ => 0))), (q1, .inl (cI, 120, .inl (fun _ => 0))), (q2, .inl (cI, 120, .inl (fun _ => 0))), (q3, .inl (cI, 120, .inl (fun _ => 0))), (q4, .inl (cZ, 120, .inl (fun _ => 0)))] H := hP
  have hD : va_D A [(h0, .inr (4, [.ref q0, .ref q1, .ref q2, .ref q3, .null, .int 0])), (q0, .inl (cI, 120, .inl (fun _ => 0))), (q1, .inl (cI, 120, .inl (fun _ => 0))), (q2, .inl (cI, 120, .inl (fun _ => 0))), (q3, .inl (cI, 120, .inl (fun _ => 0))), (q4, .inl (cZ, 120, .inl (fun _ => 0)))] := hD
  refine W.widen (k := 5) (n := 600) (Nat.le_of_ble_eq_true rfl) (Nat.le_of_ble_eq_true rfl) ?_
  refine va_putF (D := D) (ci := 4) (v := .ref q4) (ty := tyX4 4) (C := RX4) (T := TX4) (N := 6) hx hb hB inX4 tyX4 tyX4_ok nmX4 hown hK hP hD hS 0 rfl rfl 4 (by decide) (hB _ k1_103) (fun _ h9 => h9) rfl hin rfl (by decide +kernel) rfl rfl (Nat.le_of_ble_eq_true rfl) dX4_init_41 (fun H locs hP hD hS => ?_)
  have hP : va_P D vwCl [(h0, .inr (4, [.ref q0, .ref q1, .ref q2, .ref q3, .ref q4, .int 0])), (q0, .inl (cI, 120, .inl (fun _ => 0))), (q1, .inl (cI, 120, .inl (fun _ => 0))), (q2, .inl (cI, 120, .inl (fun _ => 0))), (q3, .inl (cI, 120, .inl (fun _ => 0))), (q4, .inl (cZ, 120, .inl (fun _ => 0)))] H := hP
  have hD : va_D A [(h0, .inr (4, [.ref q0, .ref q1, .ref q2, .ref q3, .ref q4, .int 0])), (q0, .inl (cI, 120, .inl (fun _ => 0))), (q1, .inl (cI, 120, .inl (fun _ => 0))), (q2, .inl (cI, 120, .inl (fun _ => 0))), (q3, .inl (cI, 120, .inl (fun _ => 0))), (q4, .inl (cZ, 120, .inl (fun _ => 0)))] := hD
  refine lv_aload_n hx hb dX4_init_44 rfl (lv_at hl 0 rfl) ?_
  refine lv_iconst (v := 0) hx hb dX4_init_45 (by decide) ?_
  refine va_put (D := D) (ci := 4) (v := .int 0) (ty := .int) (C := RX4) (T := TX4) (N := 6) hx hb hB inX4 tyX4 tyX4_ok nmX4 hown hK hP hD hS 0 rfl rfl 5 (by decide) (hB _ k1_105) (fun _ h9 => h9) rfl (by decide +kernel) rfl rfl (Nat.le_of_ble_eq_true rfl) dX4_init_46 (fun H locs hP hD hS => ?_)
  have hP : va_P D vwCl [(h0, .inr (4, [.ref q0, .ref q1, .ref q2, .ref q3, .ref q4, .int 0])), (q0, .inl (cI, 120, .inl (fun _ => 0))), (q1, .inl (cI, 120, .inl (fun _ => 0))), (q2, .inl (cI, 120, .inl (fun _ => 0))), (q3, .inl (cI, 120, .inl (fun _ => 0))), (q4, .inl (cZ, 120, .inl (fun _ => 0)))] H := hP
  have hD : va_D A [(h0, .inr (4, [.ref q0, .ref q1, .ref q2, .ref q3, .ref q4, .int 0])), (q0, .inl (cI, 120, .inl (fun _ => 0))), (q1, .inl (cI, 120, .inl (fun _ => 0))), (q2, .inl (cI, 120, .inl (fun _ => 0))), (q3, .inl (cI, 120, .inl (fun _ => 0))), (q4, .inl (cZ, 120, .inl (fun _ => 0)))] := hD
  exact W.vret hx hb hr (fun t ht hW => ⟨⟨(), rfl, trivial, q0, q1, q2, q3, q4, by rw [ht]; exact hP, hD⟩, hS.F ht⟩) hS.2.2 dX4_init_49
set_option maxHeartbeats 4000000 in
set_option maxRecDepth 100000 in
theorem m_Y_init (l : Launch) (D : va_G) (cI cZ : ClassId) (h0 sz : Nat) : Met l yX5_init wsX5_init { frames := 1, cells := 5, slots := 2560, locals := 12 } (va_Pc [.ref h0] (fun U => U.heap.size = sz ∧ va_P D vwCl [(h0, .inr (5, [.null, .null, .null, .null, .null, .int 0]))] U.heap ∧ va_K D vwCl (bT cI cZ) U ∧ NW U ∧ va_D (fun _ => True) [(h0, .inr (5, [.null, .null, .null, .null, .null, .int 0]))])) (va_Qv (fun _ : Unit => True) (fun _ t => ∃ (q0 : Nat) (q1 : Nat) (q2 : Nat) (q3 : Nat) (q4 : Nat), va_P D vwCl [(h0, .inr (5, [.ref q0, .ref q1, .ref q2, .ref q3, .ref q4, .int 0])), (q0, .inl (cI, 512, .inl (fun _ => 0))), (q1, .inl (cI, 512, .inl (fun _ => 0))), (q2, .inl (cI, 512, .inl (fun _ => 0))), (q3, .inl (cI, 512, .inl (fun _ => 0))), (q4, .inl (cZ, 512, .inl (fun _ => 0)))] t.heap ∧ va_D (va_A [(h0, .inr (5, [.null, .null, .null, .null, .null, .int 0]))] sz) [(h0, .inr (5, [.ref q0, .ref q1, .ref q2, .ref q3, .ref q4, .int 0])), (q0, .inl (cI, 512, .inl (fun _ => 0))), (q1, .inl (cI, 512, .inl (fun _ => 0))), (q2, .inl (cI, 512, .inl (fun _ => 0))), (q3, .inl (cI, 512, .inl (fun _ => 0))), (q4, .inl (cZ, 512, .inl (fun _ => 0)))]) (va_A [(h0, .inr (5, [.null, .null, .null, .null, .null, .int 0]))] sz)) 5 2560 (va_A [(h0, .inr (5, [.null, .null, .null, .null, .null, .int 0]))] sz) := by
  refine Met.ofW (cc := cX5_init) (maxL := 1) (ret := none) (by decide) rfl ?_
  intro p e s m args below meth c s₁ B hml hv
  obtain ⟨rfl, hsz, hP, hK, hN, hD0⟩ := hv
  have hx := B.exec
  have hb := B.bytes
  have hr := B.returns
  have hts := atoms_spec (ws := wsX5_init) B.pre
  have hB : ∀ w ∈ BW, w.before _ s = true := fun w h => hts w (List.mem_cons_of_mem _ h)
  have hown : s.vm.findClass RX5 = some m.cls := findClass_of_methodNamed B.named
  have hlocks := B.notSynchronized
  have hin : meth.name = "<init>" := (name_of_methodNamed B.named B.method).1
  subst hsz
  have hD := hD0.self (sz := s.heap.size)
  generalize hAe : va_A [(h0, .inr (5, [.null, .null, .null, .null, .null, .int 0]))] s.heap.size = A at hD ⊢
  have hA : ∀ q : Nat, s.heap.size ≤ q → A q := fun q h => by rw [← hAe]; exact Or.inr h
  have hS : va_S A s.heap s.heap [] := va_S.rf
  have hl := lv_entry ([.ref h0]) (n := 1) (Nat.le_of_ble_eq_true rfl)
  rw [lg_entry_eq]
  generalize (lg_sl ([.ref h0]) ++ List.replicate (1 - (lg_sl ([.ref h0])).length) Slot.unset).toArray = ls at hl ⊢
  have hl : lv_has ls 1 [(0, .ref h0)] := hl
  refine lv_aload_n hx hb dX5_init_0 rfl (lv_at hl 0 rfl) ?_
  refine W.objInit hx hb hown (hB _ k1_125) (hB _ k1_15) (hB _ km_obj) rfl (by rw [hml]; exact hl.1) rfl dX5_init_1 (Nat.le_of_ble_eq_true rfl) (Nat.le_of_ble_eq_true rfl) ?_
  refine W.eq (g2 := F0 m 4 ls []) rfl ?_
  refine lv_aload_n hx hb dX5_init_4 rfl (lv_at hl 0 rfl) ?_
  refine lv_sipush (v := 512) hx hb dX5_init_5 (by decide) ?_
  refine va_newa (a0 := (512, .inl (fun _ => 0))) (N' := 512) (atype := .int) (ty := .int) hx hb (hB _ k1_31) rfl hK hP hD hS hA (fun _ => rfl) (by decide) (by decide) (by decide) (Nat.le_of_ble_eq_true rfl) (Nat.le_of_ble_eq_true rfl) dX5_init_8 (fun q0 cA9 H hK9 hP hD hS => ?_)
  obtain rfl : cI = cA9 := (cA_i hK9 hK).symm
  have hP : va_P D vwCl [(h0, .inr (5, [.null, .null, .null, .null, .null, .int 0])), (q0, .inl (cI, 512, .inl (fun _ => 0)))] H := hP
  have hD : va_D A [(h0, .inr (5, [.null, .null, .null, .null, .null, .int 0])), (q0, .inl (cI, 512, .inl (fun _ => 0)))] := hD
  refine W.widen (k := 1) (n := 512) (Nat.le_of_ble_eq_true rfl) (Nat.le_of_ble_eq_true rfl) ?_
  refine va_putF (D := D) (ci := 5) (v := .ref q0) (ty := tyX5 0) (C := RX5) (T := TX5) (N := 6) hx hb hB inX5 tyX5 tyX5_ok nmX5 hown hK hP hD hS 0 rfl rfl 0 (by decide) (hB _ k1_126) (fun _ h9 => h9) rfl hin rfl (by decide +kernel) rfl rfl (Nat.le_of_ble_eq_true rfl) dX5_init_10 (fun H locs hP hD hS => ?_)
  have hP : va_P D vwCl [(h0, .inr (5, [.ref q0, .null, .null, .null, .null, .int 0])), (q0, .inl (cI, 512, .inl (fun _ => 0)))] H := hP
  have hD : va_D A [(h0, .inr (5, [.ref q0, .null, .null, .null, .null, .int 0])), (q0, .inl (cI, 512, .inl (fun _ => 0)))] := hD
  refine lv_aload_n hx hb dX5_init_13 rfl (lv_at hl 0 rfl) ?_
  refine lv_sipush (v := 512) hx hb dX5_init_14 (by decide) ?_
  refine va_newa (a0 := (512, .inl (fun _ => 0))) (N' := 512) (atype := .int) (ty := .int) hx hb (hB _ k1_31) rfl hK hP hD hS hA (fun _ => rfl) (by decide) (by decide) (by decide) (Nat.le_of_ble_eq_true rfl) (Nat.le_of_ble_eq_true rfl) dX5_init_17 (fun q1 cA9 H hK9 hP hD hS => ?_)
  obtain rfl : cI = cA9 := (cA_i hK9 hK).symm
  have hP : va_P D vwCl [(h0, .inr (5, [.ref q0, .null, .null, .null, .null, .int 0])), (q0, .inl (cI, 512, .inl (fun _ => 0))), (q1, .inl (cI, 512, .inl (fun _ => 0)))] H := hP
  have hD : va_D A [(h0, .inr (5, [.ref q0, .null, .null, .null, .null, .int 0])), (q0, .inl (cI, 512, .inl (fun _ => 0))), (q1, .inl (cI, 512, .inl (fun _ => 0)))] := hD
  refine W.widen (k := 2) (n := 1024) (Nat.le_of_ble_eq_true rfl) (Nat.le_of_ble_eq_true rfl) ?_
  refine va_putF (D := D) (ci := 5) (v := .ref q1) (ty := tyX5 1) (C := RX5) (T := TX5) (N := 6) hx hb hB inX5 tyX5 tyX5_ok nmX5 hown hK hP hD hS 0 rfl rfl 1 (by decide) (hB _ k1_128) (fun _ h9 => h9) rfl hin rfl (by decide +kernel) rfl rfl (Nat.le_of_ble_eq_true rfl) dX5_init_19 (fun H locs hP hD hS => ?_)
  have hP : va_P D vwCl [(h0, .inr (5, [.ref q0, .ref q1, .null, .null, .null, .int 0])), (q0, .inl (cI, 512, .inl (fun _ => 0))), (q1, .inl (cI, 512, .inl (fun _ => 0)))] H := hP
  have hD : va_D A [(h0, .inr (5, [.ref q0, .ref q1, .null, .null, .null, .int 0])), (q0, .inl (cI, 512, .inl (fun _ => 0))), (q1, .inl (cI, 512, .inl (fun _ => 0)))] := hD
  refine lv_aload_n hx hb dX5_init_22 rfl (lv_at hl 0 rfl) ?_
  refine lv_sipush (v := 512) hx hb dX5_init_23 (by decide) ?_
  refine va_newa (a0 := (512, .inl (fun _ => 0))) (N' := 512) (atype := .int) (ty := .int) hx hb (hB _ k1_31) rfl hK hP hD hS hA (fun _ => rfl) (by decide) (by decide) (by decide) (Nat.le_of_ble_eq_true rfl) (Nat.le_of_ble_eq_true rfl) dX5_init_26 (fun q2 cA9 H hK9 hP hD hS => ?_)
  obtain rfl : cI = cA9 := (cA_i hK9 hK).symm
  have hP : va_P D vwCl [(h0, .inr (5, [.ref q0, .ref q1, .null, .null, .null, .int 0])), (q0, .inl (cI, 512, .inl (fun _ => 0))), (q1, .inl (cI, 512, .inl (fun _ => 0))), (q2, .inl (cI, 512, .inl (fun _ => 0)))] H := hP
  have hD : va_D A [(h0, .inr (5, [.ref q0, .ref q1, .null, .null, .null, .int 0])), (q0, .inl (cI, 512, .inl (fun _ => 0))), (q1, .inl (cI, 512, .inl (fun _ => 0))), (q2, .inl (cI, 512, .inl (fun _ => 0)))] := hD
  refine W.widen (k := 3) (n := 1536) (Nat.le_of_ble_eq_true rfl) (Nat.le_of_ble_eq_true rfl) ?_
  refine va_putF (D := D) (ci := 5) (v := .ref q2) (ty := tyX5 2) (C := RX5) (T := TX5) (N := 6) hx hb hB inX5 tyX5 tyX5_ok nmX5 hown hK hP hD hS 0 rfl rfl 2 (by decide) (hB _ k1_130) (fun _ h9 => h9) rfl hin rfl (by decide +kernel) rfl rfl (Nat.le_of_ble_eq_true rfl) dX5_init_28 (fun H locs hP hD hS => ?_)
  have hP : va_P D vwCl [(h0, .inr (5, [.ref q0, .ref q1, .ref q2, .null, .null, .int 0])), (q0, .inl (cI, 512, .inl (fun _ => 0))), (q1, .inl (cI, 512, .inl (fun _ => 0))), (q2, .inl (cI, 512, .inl (fun _ => 0)))] H := hP
  have hD : va_D A [(h0, .inr (5, [.ref q0, .ref q1, .ref q2, .null, .null, .int 0])), (q0, .inl (cI, 512, .inl (fun _ => 0))), (q1, .inl (cI, 512, .inl (fun _ => 0))), (q2, .inl (cI, 512, .inl (fun _ => 0)))] := hD
  refine lv_aload_n hx hb dX5_init_31 rfl (lv_at hl 0 rfl) ?_
  refine lv_sipush (v := 512) hx hb dX5_init_32 (by decide) ?_
  refine va_newa (a0 := (512, .inl (fun _ => 0))) (N' := 512) (atype := .int) (ty := .int) hx hb (hB _ k1_31) rfl hK hP hD hS hA (fun _ => rfl) (by decide) (by decide) (by decide) (Nat.le_of_ble_eq_true rfl) (Nat.le_of_ble_eq_true rfl) dX5_init_35 (fun q3 cA9 H hK9 hP hD hS => ?_)
  obtain rfl : cI = cA9 := (cA_i hK9 hK).symm
  have hP : va_P D vwCl [(h0, .inr (5, [.ref q0, .ref q1, .ref q2, .null, .null, .int 0])), (q0, .inl (cI, 512, .inl (fun _ => 0))), (q1, .inl (cI, 512, .inl (fun _ => 0))), (q2, .inl (cI, 512, .inl (fun _ => 0))), (q3, .inl (cI, 512, .inl (fun _ => 0)))] H := hP
  have hD : va_D A [(h0, .inr (5, [.ref q0, .ref q1, .ref q2, .null, .null, .int 0])), (q0, .inl (cI, 512, .inl (fun _ => 0))), (q1, .inl (cI, 512, .inl (fun _ => 0))), (q2, .inl (cI, 512, .inl (fun _ => 0))), (q3, .inl (cI, 512, .inl (fun _ => 0)))] := hD
  refine W.widen (k := 4) (n := 2048) (Nat.le_of_ble_eq_true rfl) (Nat.le_of_ble_eq_true rfl) ?_
  refine va_putF (D := D) (ci := 5) (v := .ref q3) (ty := tyX5 3) (C := RX5) (T := TX5) (N := 6) hx hb hB inX5 tyX5 tyX5_ok nmX5 hown hK hP hD hS 0 rfl rfl 3 (by decide) (hB _ k1_131) (fun _ h9 => h9) rfl hin rfl (by decide +kernel) rfl rfl (Nat.le_of_ble_eq_true rfl) dX5_init_37 (fun H locs hP hD hS => ?_)
  have hP : va_P D vwCl [(h0, .inr (5, [.ref q0, .ref q1, .ref q2, .ref q3, .null, .int 0])), (q0, .inl (cI, 512, .inl (fun _ => 0))), (q1, .inl (cI, 512, .inl (fun _ => 0))), (q2, .inl (cI, 512, .inl (fun _ => 0))), (q3, .inl (cI, 512, .inl (fun _ => 0)))] H := hP
  have hD : va_D A [(h0, .inr (5, [.ref q0, .ref q1, .ref q2, .ref q3, .null, .int 0])), (q0, .inl (cI, 512, .inl (fun _ => 0))), (q1, .inl (cI, 512, .inl (fun _ => 0))), (q2, .inl (cI, 512, .inl (fun _ => 0))), (q3, .inl (cI, 512, .inl (fun _ => 0)))] := hD
  refine lv_aload_n hx hb dX5_init_40 rfl (lv_at hl 0 rfl) ?_
  refine lv_sipush (v := 512) hx hb dX5_init_41 (by decide) ?_
  refine va_newa (a0 := (512, .inl (fun _ => 0))) (N' := 512) (atype := .boolean) (ty := .boolean) hx hb (hB _ k1_58) rfl hK hP hD hS hA (fun _ => rfl) (by decide) (by decide) (by decide) (Nat.le_of_ble_eq_true rfl) (Nat.le_of_ble_eq_true rfl) dX5_init_44 (fun q4 cA9 H hK9 hP hD hS => ?_)
  obtain rfl : cZ = cA9 := (cA_z hK9 hK).symm
  have hP : va_P D vwCl [(h0, .inr (5, [.ref q0, .ref q1, .ref q2, .ref q3, .null, .int 0])), (q0, .inl (cI, 512, .inl (fun _ => 0))), (q1, .inl (cI, 512, .inl (fun _ => 0))), (q2, .inl (cI, 512, .inl (fun _ => 0))), (q3, .inl (cI, 512, .inl (fun _ => 0))), (q4, .inl (cZ, 512, .inl (fun _ => 0)))] H := hP
  have hD : va_D A [(h0, .inr (5, [.ref q0, .ref q1, .ref q2, .ref q3, .null, .int 0])), (q0, .inl (cI, 512, .inl (fun _ => 0))), (q1, .inl (cI, 512, .inl (fun _ => 0))), (q2, .inl (cI, 512, .inl (fun _ => 0))), (q3, .inl (cI, 512, .inl (fun _ => 0))), (q4, .inl (cZ, 512, .inl (fun _ => 0)))] := hD
  refine W.widen (k := 5) (n := 2560) (Nat.le_of_ble_eq_true rfl) (Nat.le_of_ble_eq_true rfl) ?_
  refine va_putF (D := D) (ci := 5) (v := .ref q4) (ty := tyX5 4) (C := RX5) (T := TX5) (N := 6) hx hb hB inX5 tyX5 tyX5_ok nmX5 hown hK hP hD hS 0 rfl rfl 4 (by decide) (hB _ k1_132) (fun _ h9 => h9) rfl hin rfl (by decide +kernel) rfl rfl (Nat.le_of_ble_eq_true rfl) dX5_init_46 (fun H locs hP hD hS => ?_)
  have hP : va_P D vwCl [(h0, .inr (5, [.ref q0, .ref q1, .ref q2, .ref q3, .ref q4, .int 0])), (q0, .inl (cI, 512, .inl (fun _ => 0))), (q1, .inl (cI, 512, .inl (fun _ => 0))), (q2, .inl (cI, 512, .inl (fun _ => 0))), (q3, .inl (cI, 512, .inl (fun _ => 0))), (q4, .inl (cZ, 512, .inl (fun _ => 0)))] H := hP
  have hD : va_D A [(h0, .inr (5, [.ref q0, .ref q1, .ref q2, .ref q3, .ref q4, .int 0])), (q0, .inl (cI, 512, .inl (fun _ => 0))), (q1, .inl (cI, 512, .inl (fun _ => 0))), (q2, .inl (cI, 512, .inl (fun _ => 0))), (q3, .inl (cI, 512, .inl (fun _ => 0))), (q4, .inl (cZ, 512, .inl (fun _ => 0)))] := hD
  refine lv_aload_n hx hb dX5_init_49 rfl (lv_at hl 0 rfl) ?_
  refine lv_iconst (v := 0) hx hb dX5_init_50 (by decide) ?_
  refine va_put (D := D) (ci := 5) (v := .int 0) (ty := .int) (C := RX5) (T := TX5) (N := 6) hx hb hB inX5 tyX5 tyX5_ok nmX5 hown hK hP hD hS 0 rfl rfl 5 (by decide) (hB _ k1_134) (fun _ h9 => h9) rfl (by decide +kernel) rfl rfl (Nat.le_of_ble_eq_true rfl) dX5_init_51 (fun H locs hP hD hS => ?_)
  have hP : va_P D vwCl [(h0, .inr (5, [.ref q0, .ref q1, .ref q2, .ref q3, .ref q4, .int 0])), (q0, .inl (cI, 512, .inl (fun _ => 0))), (q1, .inl (cI, 512, .inl (fun _ => 0))), (q2, .inl (cI, 512, .inl (fun _ => 0))), (q3, .inl (cI, 512, .inl (fun _ => 0))), (q4, .inl (cZ, 512, .inl (fun _ => 0)))] H := hP
  have hD : va_D A [(h0, .inr (5, [.ref q0, .ref q1, .ref q2, .ref q3, .ref q4, .int 0])), (q0, .inl (cI, 512, .inl (fun _ => 0))), (q1, .inl (cI, 512, .inl (fun _ => 0))), (q2, .inl (cI, 512, .inl (fun _ => 0))), (q3, .inl (cI, 512, .inl (fun _ => 0))), (q4, .inl (cZ, 512, .inl (fun _ => 0)))] := hD
  exact W.vret hx hb hr (fun t ht hW => ⟨⟨(), rfl, trivial, q0, q1, q2, q3, q4, by rw [ht]; exact hP, hD⟩, hS.F ht⟩) hS.2.2 dX5_init_54
set_option maxHeartbeats 8000000 in
set_option maxRecDepth 100000 in
theorem m_A_init (l : Launch) (D : va_G) (cI cZ : ClassId) (h0 sz : Nat) : Met l yX0_init wsX0_init { frames := 2, cells := 27, slots := 4762, locals := 32 } (va_Pc [.ref h0] (fun U => U.heap.size = sz ∧ va_P D vwCl [(h0, .inr (0, [.null, .null, .null, .null, .null, .null, .int 0]))] U.heap ∧ va_K D vwCl (bT cI cZ) U ∧ NW U ∧ va_D (fun _ => True) [(h0, .inr (0, [.null, .null, .null, .null, .null, .null, .int 0]))])) (va_Qv (fun h : Nat → Nat => h 0 = h0) (fun h t => va_P D vwCl (wB h cI cZ (fun _ _ => 0)) t.heap ∧ va_D (va_A [(h0, .inr (0, [.null, .null, .null, .null, .null, .null, .int 0]))] sz) (wB h cI cZ (fun _ _ => 0))) (va_A [(h0, .inr (0, [.null, .null, .null, .null, .null, .null, .int 0]))] sz)) 27 4762 (va_A [(h0, .inr (0, [.null, .null, .null, .null, .null, .null, .int 0]))] sz) := by
  refine Met.ofW (cc := cX0_init) (maxL := 1) (ret := none) (by decide) rfl ?_
  intro p e s m args below meth c s₁ B hml hv
  obtain ⟨rfl, hsz, hP, hK, hN, hD0⟩ := hv
  have hx := B.exec
  have hb := B.bytes
  have hr := B.returns
  have hts := atoms_spec (ws := wsX0_init) B.pre
  have hB : ∀ w ∈ BW, w.before _ s = true := fun w h => hts w (List.mem_cons_of_mem _ h)
  have hown : s.vm.findClass RX0 = some m.cls := findClass_of_methodNamed B.named
  have hlocks := B.notSynchronized
  have hin : meth.name = "<init>" := (name_of_methodNamed B.named B.method).1
  subst hsz
  have hD := hD0.self (sz := s.heap.size)
  generalize hAe : va_A [(h0, .inr (0, [.null, .null, .null, .null, .null, .null, .int 0]))] s.heap.size = A at hD ⊢
  have hA : ∀ q : Nat, s.heap.size ≤ q → A q := fun q h => by rw [← hAe]; exact Or.inr h
  have hS : va_S A s.heap s.heap [] := va_S.rf
  have hl := lv_entry ([.ref h0]) (n := 1) (Nat.le_of_ble_eq_true rfl)
  rw [lg_entry_eq]
  generalize (lg_sl ([.ref h0]) ++ List.replicate (1 - (lg_sl ([.ref h0])).length) Slot.unset).toArray = ls at hl ⊢
  have hl : lv_has ls 1 [(0, .ref h0)] := hl
  refine lv_aload_n hx hb dX0_init_0 rfl (lv_at hl 0 rfl) ?_
  refine W.objInit hx hb hown (hB _ k1_14) (hB _ k1_15) (hB _ km_obj) rfl (by rw [hml]; exact hl.1) rfl dX0_init_1 (Nat.le_of_ble_eq_true rfl) (Nat.le_of_ble_eq_true rfl) ?_
  refine W.eq (g2 := F0 m 4 ls []) rfl ?_
  refine lv_aload_n hx hb dX0_init_4 rfl (lv_at hl 0 rfl) ?_
  refine va_new (ci := 1) (fs := [.null, .int 0]) (C := RX1) (T := TX1) (N := 2) hx hb hB inX1 tyX1 tyX1_ok hown (hB _ k1_17) (hB _ k1_18) (hB _ k1_2) hK hP hD hS hA rfl (fun j hj => by rcases (show j = 0 ∨ j = 1 by omega) with rfl | rfl <;> rfl) (Nat.le_of_ble_eq_true rfl) (Nat.le_of_ble_eq_true rfl) dX0_init_5 (fun o1 H hP hD hS => ?_)
  have hP : va_P D vwCl [(h0, .inr (0, [.null, .null, .null, .null, .null, .null, .int 0])), (o1, .inr (1, [.null, .int 0]))] H := hP
  have hD : va_D A [(h0, .inr (0, [.null, .null, .null, .null, .null, .null, .int 0])), (o1, .inr (1, [.null, .int 0]))] := hD
  refine W.widen (k := 1) (n := 2) (Nat.le_of_ble_eq_true rfl) (Nat.le_of_ble_eq_true rfl) ?_
  refine lv_dup hx hb dX0_init_8 rfl ?_
  have hPc := hP.sub (ws' := [(o1, .inr (1, [.null, .int 0]))]) [1] rfl
  have hDc := hD.sub (ws' := [(o1, .inr (1, [.null, .int 0]))]) [1] (by decide) rfl
  have hFc := va_free (wc := [(o1, .inr (1, [.null, .int 0]))]) hD hS hA [1] rfl
  refine va_callv (va_runIN (As := []) (rest := [.ref o1, .ref h0]) ⟨hx, hb, hml, hown, hB⟩ (m_P_init l D cI cZ o1 H.size) ⟨va_cnB 0 hB (gB k1_21) rfl rfl rfl (hN _ kn_51) (hB _ k1_2) (by decide +kernel) ⟨Nat.le_of_ble_eq_true rfl, Nat.le_of_ble_eq_true rfl⟩, rfl, hB _ k1_20⟩ ⟨fun a U g mk q => by obtain ⟨q0, q1, qP, qK, qN, qD⟩ := q; exact ⟨q0, q1, qP, va_K.moved (u := U) (U := U.calling g mk a) (Vm.Alike.refl U.vm) qK, NW.same (u := U) (U := U.calling g mk a) rfl qN, qD⟩, fun U hU hW => ⟨rfl, by rw [hU], by rw [hU]; exact hPc, va_K.moved hW.alike hK, NW.warm hW hN, hDc.weaken (fun _ _ _ _ => trivial)⟩⟩ rfl rfl hl.1 rfl (lv_room (Nat.le_of_ble_eq_true rfl)) dX0_init_9 ⟨Nat.le_of_ble_eq_true rfl, Nat.le_of_ble_eq_true rfl⟩) hS (fun q _ h => hFc q h) hFc (fun u t H1 locs ht hvm hw hB hz1 hk1 hS => ?_)
  obtain ⟨p6, hP1, hD1⟩ := hB
  rw [ht] at hP1
  obtain ⟨hP, hD⟩ := va_join (wr := [(h0, .inr (0, [.null, .null, .null, .null, .null, .null, .int 0]))]) (w1 := [(o1, .inr (1, [.ref p6, .int 0])), (p6, .inl (cI, 16, .inl (fun _ => 0)))]) hP hD [1] [0] rfl rfl (by decide) (by decide) hk1 hFc hP1 hD1
  generalize H1 = H at hP hS ⊢
  have hP : va_P D vwCl [(h0, .inr (0, [.null, .null, .null, .null, .null, .null, .int 0])), (o1, .inr (1, [.ref p6, .int 0])), (p6, .inl (cI, 16, .inl (fun _ => 0)))] H := hP
  have hD : va_D A [(h0, .inr (0, [.null, .null, .null, .null, .null, .null, .int 0])), (o1, .inr (1, [.ref p6, .int 0])), (p6, .inl (cI, 16, .inl (fun _ => 0)))] := hD
  refine W.widen (k := 2) (n := 18) (Nat.le_of_ble_eq_true rfl) (Nat.le_of_ble_eq_true rfl) ?_
  refine va_putF (D := D) (ci := 0) (v := .ref o1) (ty := tyX0 0) (C := RX0) (T := TX0) (N := 7) hx hb hB inX0 tyX0 tyX0_ok nmX0 hown hK hP hD hS 0 rfl rfl 0 (by decide) (hB _ k1_149) (fun _ h9 => h9) rfl hin rfl (by decide +kernel) rfl rfl (Nat.le_of_ble_eq_true rfl) dX0_init_12 (fun H locs hP hD hS => ?_)
  have hP : va_P D vwCl [(h0, .inr (0, [.ref o1, .null, .null, .null, .null, .null, .int 0])), (o1, .inr (1, [.ref p6, .int 0])), (p6, .inl (cI, 16, .inl (fun _ => 0)))] H := hP
  have hD : va_D A [(h0, .inr (0, [.ref o1, .null, .null, .null, .null, .null, .int 0])), (o1, .inr (1, [.ref p6, .int 0])), (p6, .inl (cI, 16, .inl (fun _ => 0)))] := hD
  refine lv_aload_n hx hb dX0_init_15 rfl (lv_at hl 0 rfl) ?_
  refine va_new (ci := 2) (fs := [.null, .null, .null, .null, .null, .int 0]) (C := RX2) (T := TX2) (N := 6) hx hb hB inX2 tyX2 tyX2_ok hown (hB _ k1_32) (hB _ k1_33) (hB _ k1_3) hK hP hD hS hA rfl (fun j hj => by rcases (show j = 0 ∨ j = 1 ∨ j = 2 ∨ j = 3 ∨ j = 4 ∨ j = 5 by omega) with rfl | rfl | rfl | rfl | rfl | rfl <;> rfl) (Nat.le_of_ble_eq_true rfl) (Nat.le_of_ble_eq_true rfl) dX0_init_16 (fun o2 H hP hD hS => ?_)
  have hP : va_P D vwCl [(h0, .inr (0, [.ref o1, .null, .null, .null, .null, .null, .int 0])), (o1, .inr (1, [.ref p6, .int 0])), (p6, .inl (cI, 16, .inl (fun _ => 0))), (o2, .inr (2, [.null, .null, .null, .null, .null, .int 0]))] H := hP
  have hD : va_D A [(h0, .inr (0, [.ref o1, .null, .null, .null, .null, .null, .int 0])), (o1, .inr (1, [.ref p6, .int 0])), (p6, .inl (cI, 16, .inl (fun _ => 0))), (o2, .inr (2, [.null, .null, .null, .null, .null, .int 0]))] := hD
  refine W.widen (k := 3) (n := 24) (Nat.le_of_ble_eq_true rfl) (Nat.le_of_ble_eq_true rfl) ?_
  refine lv_dup hx hb dX0_init_19 rfl ?_
  have hPc := hP.sub (ws' := [(o2, .inr (2, [.null, .null, .null, .null, .null, .int 0]))]) [3] rfl
  have hDc := hD.sub (ws' := [(o2, .inr (2, [.null, .null, .null, .null, .null, .int 0]))]) [3] (by decide) rfl
  have hFc := va_free (wc := [(o2, .inr (2, [.null, .null, .null, .null, .null, .int 0]))]) hD hS hA [3] rfl
  refine va_callv (va_runIN (As := []) (rest := [.ref o2, .ref h0]) ⟨hx, hb, hml, hown, hB⟩ (m_T_init l D cI cZ o2 H.size) ⟨va_cnB 0 hB (gB k1_36) rfl rfl rfl (hN _ kn_52) (hB _ k1_3) (by decide +kernel) ⟨Nat.le_of_ble_eq_true rfl, Nat.le_of_ble_eq_true rfl⟩, rfl, hB _ k1_35⟩ ⟨fun a U g mk q => by obtain ⟨q0, q1, qP, qK, qN, qD⟩ := q; exact ⟨q0, q1, qP, va_K.moved (u := U) (U := U.calling g mk a) (Vm.Alike.refl U.vm) qK, NW.same (u := U) (U := U.calling g mk a) rfl qN, qD⟩, fun U hU hW => ⟨rfl, by rw [hU], by rw [hU]; exact hPc, va_K.moved hW.alike hK, NW.warm hW hN, hDc.weaken (fun _ _ _ _ => trivial)⟩⟩ rfl rfl hl.1 rfl (lv_room (Nat.le_of_ble_eq_true rfl)) dX0_init_20 ⟨Nat.le_of_ble_eq_true rfl, Nat.le_of_ble_eq_true rfl⟩) hS (fun q _ h => hFc q h) hFc (fun u t H1 locs ht hvm hw hB hz1 hk1 hS => ?_)
  obtain ⟨p7, p8, p9, p10, p11, hP1, hD1⟩ := hB
  rw [ht] at hP1
  obtain ⟨hP, hD⟩ := va_join (wr := [(h0, .inr (0, [.ref o1, .null, .null, .null, .null, .null, .int 0])), (o1, .inr (1, [.ref p6, .int 0])), (p6, .inl (cI, 16, .inl (fun _ => 0)))]) (w1 := [(o2, .inr (2, [.ref p7, .ref p8, .ref p9, .ref p10, .ref p11, .int 0])), (p7, .inl (cI, 32, .inl (fun _ => 0))), (p8, .inl (cI, 32, .inl (fun _ => 0))), (p9, .inl (cZ, 32, .inl (fun _ => 0))), (p10, .inl (cI, 32, .inl (fun _ => 0))), (p11, .inl (cI, 32, .inl (fun _ => 0)))]) hP hD [3] [0, 1, 2] rfl rfl (by decide) (by decide) hk1 hFc hP1 hD1
  generalize H1 = H at hP hS ⊢
  have hP : va_P D vwCl [(h0, .inr (0, [.ref o1, .null, .null, .null, .null, .null, .int 0])), (o1, .inr (1, [.ref p6, .int 0])), (p6, .inl (cI, 16, .inl (fun _ => 0))), (o2, .inr (2, [.ref p7, .ref p8, .ref p9, .ref p10, .ref p11, .int 0])), (p7, .inl (cI, 32, .inl (fun _ => 0))), (p8, .inl (cI, 32, .inl (fun _ => 0))), (p9, .inl (cZ, 32, .inl (fun _ => 0))), (p10, .inl (cI, 32, .inl (fun _ => 0))), (p11, .inl (cI, 32, .inl (fun _ => 0)))] H := hP
  have hD : va_D A [(h0, .inr (0, [.ref o1, .null, .null, .null, .null, .null, .int 0])), (o1, .inr (1, [.ref p6, .int 0])), (p6, .inl (cI, 16, .inl (fun _ => 0))), (o2, .inr (2, [.ref p7, .ref p8, .ref p9, .ref p10, .ref p11, .int 0])), (p7, .inl (cI, 32, .inl (fun _ => 0))), (p8, .inl (cI, 32, .inl (fun _ => 0))), (p9, .inl (cZ, 32, .inl (fun _ => 0))), (p10, .inl (cI, 32, .inl (fun _ => 0))), (p11, .inl (cI, 32, .inl (fun _ => 0)))] := hD
  refine W.widen (k := 8) (n := 184) (Nat.le_of_ble_eq_true rfl) (Nat.le_of_ble_eq_true rfl) ?_
  refine va_putF (D := D) (ci := 0) (v := .ref o2) (ty := tyX0 1) (C := RX0) (T := TX0) (N := 7) hx hb hB inX0 tyX0 tyX0_ok nmX0 hown hK hP hD hS 0 rfl rfl 1 (by decide) (hB _ k1_150) (fun _ h9 => h9) rfl hin rfl (by decide +kernel) rfl rfl (Nat.le_of_ble_eq_true rfl) dX0_init_23 (fun H locs hP hD hS => ?_)
  have hP : va_P D vwCl [(h0, .inr (0, [.ref o1, .ref o2, .null, .null, .null, .null, .int 0])), (o1, .inr (1, [.ref p6, .int 0])), (p6, .inl (cI, 16, .inl (fun _ => 0))), (o2, .inr (2, [.ref p7, .ref p8, .ref p9, .ref p10, .ref p11, .int 0])), (p7, .inl (cI, 32, .inl (fun _ => 0))), (p8, .inl (cI, 32, .inl (fun _ => 0))), (p9, .inl (cZ, 32, .inl (fun _ => 0))), (p10, .inl (cI, 32, .inl (fun _ => 0))), (p11, .inl (cI, 32, .inl (fun _ => 0)))] H := hP
  have hD : va_D A [(h0, .inr (0, [.ref o1, .ref o2, .null, .null, .null, .null, .int 0])), (o1, .inr (1, [.ref p6, .int 0])), (p6, .inl (cI, 16, .inl (fun _ => 0))), (o2, .inr (2, [.ref p7, .ref p8, .ref p9, .ref p10, .ref p11, .int 0])), (p7, .inl (cI, 32, .inl (fun _ => 0))), (p8, .inl (cI, 32, .inl (fun _ => 0))), (p9, .inl (cZ, 32, .inl (fun _ => 0))), (p10, .inl (cI, 32, .inl (fun _ => 0))), (p11, .inl (cI, 32, .inl (fun _ => 0)))] := hD
  refine lv_aload_n hx hb dX0_init_26 rfl (lv_at hl 0 rfl) ?_
  refine va_new (ci := 3) (fs := [.null, .null, .null, .null, .null, .int 0]) (C := RX3) (T := TX3) (N := 6) hx hb hB inX3 tyX3 tyX3_ok hown (hB _ k1_59) (hB _ k1_60) (hB _ k1_4) hK hP hD hS hA rfl (fun j hj => by rcases (show j = 0 ∨ j = 1 ∨ j = 2 ∨ j = 3 ∨ j = 4 ∨ j = 5 by omega) with rfl | rfl | rfl | rfl | rfl | rfl <;> rfl) (Nat.le_of_ble_eq_true rfl) (Nat.le_of_ble_eq_true rfl) dX0_init_27 (fun o3 H hP hD hS => ?_)
  have hP : va_P D vwCl [(h0, .inr (0, [.ref o1, .ref o2, .null, .null, .null, .null, .int 0])), (o1, .inr (1, [.ref p6, .int 0])), (p6, .inl (cI, 16, .inl (fun _ => 0))), (o2, .inr (2, [.ref p7, .ref p8, .ref p9, .ref p10, .ref p11, .int 0])), (p7, .inl (cI, 32, .inl (fun _ => 0))), (p8, .inl (cI, 32, .inl (fun _ => 0))), (p9, .inl (cZ, 32, .inl (fun _ => 0))), (p10, .inl (cI, 32, .inl (fun _ => 0))), (p11, .inl (cI, 32, .inl (fun _ => 0))), (o3, .inr (3, [.null, .null, .null, .null, .null, .int 0]))] H := hP
  have hD : va_D A [(h0, .inr (0, [.ref o1, .ref o2, .null, .null, .null, .null, .int 0])), (o1, .inr (1, [.ref p6, .int 0])), (p6, .inl (cI, 16, .inl (fun _ => 0))), (o2, .inr (2, [.ref p7, .ref p8, .ref p9, .ref p10, .ref p11, .int 0])), (p7, .inl (cI, 32, .inl (fun _ => 0))), (p8, .inl (cI, 32, .inl (fun _ => 0))), (p9, .inl (cZ, 32, .inl (fun _ => 0))), (p10, .inl (cI, 32, .inl (fun _ => 0))), (p11, .inl (cI, 32, .inl (fun _ => 0))), (o3, .inr (3, [.null, .null, .null, .null, .null, .int 0]))] := hD
  refine W.widen (k := 9) (n := 190) (Nat.le_of_ble_eq_true rfl) (Nat.le_of_ble_eq_true rfl) ?_
  refine lv_dup hx hb dX0_init_30 rfl ?_
  have hPc := hP.sub (ws' := [(o3, .inr (3, [.null, .null, .null, .null, .null, .int 0]))]) [9] rfl
  have hDc := hD.sub (ws' := [(o3, .inr (3, [.null, .null, .null, .null, .null, .int 0]))]) [9] (by decide) rfl
  have hFc := va_free (wc := [(o3, .inr (3, [.null, .null, .null, .null, .null, .int 0]))]) hD hS hA [9] rfl
  refine va_callv (va_runIN (As := []) (rest := [.ref o3, .ref h0]) ⟨hx, hb, hml, hown, hB⟩ (m_R_init l D cI cZ o3 H.size) ⟨va_cnB 0 hB (gB k1_63) rfl rfl rfl (hN _ kn_53) (hB _ k1_4) (by decide +kernel) ⟨Nat.le_of_ble_eq_true rfl, Nat.le_of_ble_eq_true rfl⟩, rfl, hB _ k1_62⟩ ⟨fun a U g mk q => by obtain ⟨q0, q1, qP, qK, qN, qD⟩ := q; exact ⟨q0, q1, qP, va_K.moved (u := U) (U := U.calling g mk a) (Vm.Alike.refl U.vm) qK, NW.same (u := U) (U := U.calling g mk a) rfl qN, qD⟩, fun U hU hW => ⟨rfl, by rw [hU], by rw [hU]; exact hPc, va_K.moved hW.alike hK, NW.warm hW hN, hDc.weaken (fun _ _ _ _ => trivial)⟩⟩ rfl rfl hl.1 rfl (lv_room (Nat.le_of_ble_eq_true rfl)) dX0_init_31 ⟨Nat.le_of_ble_eq_true rfl, Nat.le_of_ble_eq_true rfl⟩) hS (fun q _ h => hFc q h) hFc (fun u t H1 locs ht hvm hw hB hz1 hk1 hS => ?_)
  obtain ⟨p12, p13, p14, p15, p16, hP1, hD1⟩ := hB
  rw [ht] at hP1
  obtain ⟨hP, hD⟩ := va_join (wr := [(h0, .inr (0, [.ref o1, .ref o2, .null, .null, .null, .null, .int 0])), (o1, .inr (1, [.ref p6, .int 0])), (p6, .inl (cI, 16, .inl (fun _ => 0))), (o2, .inr (2, [.ref p7, .ref p8, .ref p9, .ref p10, .ref p11, .int 0])), (p7, .inl (cI, 32, .inl (fun _ => 0))), (p8, .inl (cI, 32, .inl (fun _ => 0))), (p9, .inl (cZ, 32, .inl (fun _ => 0))), (p10, .inl (cI, 32, .inl (fun _ => 0))), (p11, .inl (cI, 32, .inl (fun _ => 0)))]) (w1 := [(o3, .inr (3, [.ref p12, .ref p13, .ref p14, .ref p15, .ref p16, .int 0])), (p12, .inl (cI, 80, .inl (fun _ => 0))), (p13, .inl (cI, 80, .inl (fun _ => 0))), (p14, .inl (cI, 80, .inl (fun _ => 0))), (p15, .inl (cI, 80, .inl (fun _ => 0))), (p16, .inl (cZ, 80, .inl (fun _ => 0)))]) hP hD [9] [0, 1, 2, 3, 4, 5, 6, 7, 8] rfl rfl (by decide) (by decide) hk1 hFc hP1 hD1
  generalize H1 = H at hP hS ⊢
  have hP : va_P D vwCl [(h0, .inr (0, [.ref o1, .ref o2, .null, .null, .null, .null, .int 0])), (o1, .inr (1, [.ref p6, .int 0])), (p6, .inl (cI, 16, .inl (fun _ => 0))), (o2, .inr (2, [.ref p7, .ref p8, .ref p9, .ref p10, .ref p11, .int 0])), (p7, .inl (cI, 32, .inl (fun _ => 0))), (p8, .inl (cI, 32, .inl (fun _ => 0))), (p9, .inl (cZ, 32, .inl (fun _ => 0))), (p10, .inl (cI, 32, .inl (fun _ => 0))), (p11, .inl (cI, 32, .inl (fun _ => 0))), (o3, .inr (3, [.ref p12, .ref p13, .ref p14, .ref p15, .ref p16, .int 0])), (p12, .inl (cI, 80, .inl (fun _ => 0))), (p13, .inl (cI, 80, .inl (fun _ => 0))), (p14, .inl (cI, 80, .inl (fun _ => 0))), (p15, .inl (cI, 80, .inl (fun _ => 0))), (p16, .inl (cZ, 80, .inl (fun _ => 0)))] H := hP
  have hD : va_D A [(h0, .inr (0, [.ref o1, .ref o2, .null, .null, .null, .null, .int 0])), (o1, .inr (1, [.ref p6, .int 0])), (p6, .inl (cI, 16, .inl (fun _ => 0))), (o2, .inr (2, [.ref p7, .ref p8, .ref p9, .ref p10, .ref p11, .int 0])), (p7, .inl (cI, 32, .inl (fun _ => 0))), (p8, .inl (cI, 32, .inl (fun _ => 0))), (p9, .inl (cZ, 32, .inl (fun _ => 0))), (p10, .inl (cI, 32, .inl (fun _ => 0))), (p11, .inl (cI, 32, .inl (fun _ => 0))), (o3, .inr (3, [.ref p12, .ref p13, .ref p14, .ref p15, .ref p16, .int 0])), (p12, .inl (cI, 80, .inl (fun _ => 0))), (p13, .inl (cI, 80, .inl (fun _ => 0))), (p14, .inl (cI, 80, .inl (fun _ => 0))), (p15, .inl (cI, 80, .inl (fun _ => 0))), (p16, .inl (cZ, 80, .inl (fun _ => 0)))] := hD
  refine W.widen (k := 14) (n := 590) (Nat.le_of_ble_eq_true rfl) (Nat.le_of_ble_eq_true rfl) ?_
  refine va_putF (D := D) (ci := 0) (v := .ref o3) (ty := tyX0 2) (C := RX0) (T := TX0) (N := 7) hx hb hB inX0 tyX0 tyX0_ok nmX0 hown hK hP hD hS 0 rfl rfl 2 (by decide) (hB _ k1_151) (fun _ h9 => h9) rfl hin rfl (by decide +kernel) rfl rfl (Nat.le_of_ble_eq_true rfl) dX0_init_34 (fun H locs hP hD hS => ?_)
  have hP : va_P D vwCl [(h0, .inr (0, [.ref o1, .ref o2, .ref o3, .null, .null, .null, .int 0])), (o1, .inr (1, [.ref p6, .int 0])), (p6, .inl (cI, 16, .inl (fun _ => 0))), (o2, .inr (2, [.ref p7, .ref p8, .ref p9, .ref p10, .ref p11, .int 0])), (p7, .inl (cI, 32, .inl (fun _ => 0))), (p8, .inl (cI, 32, .inl (fun _ => 0))), (p9, .inl (cZ, 32, .inl (fun _ => 0))), (p10, .inl (cI, 32, .inl (fun _ => 0))), (p11, .inl (cI, 32, .inl (fun _ => 0))), (o3, .inr (3, [.ref p12, .ref p13, .ref p14, .ref p15, .ref p16, .int 0])), (p12, .inl (cI, 80, .inl (fun _ => 0))), (p13, .inl (cI, 80, .inl (fun _ => 0))), (p14, .inl (cI, 80, .inl (fun _ => 0))), (p15, .inl (cI, 80, .inl (fun _ => 0))), (p16, .inl (cZ, 80, .inl (fun _ => 0)))] H := hP
  have hD : va_D A [(h0, .inr (0, [.ref o1, .ref o2, .ref o3, .null, .null, .null, .int 0])), (o1, .inr (1, [.ref p6, .int 0])), (p6, .inl (cI, 16, .inl (fun _ => 0))), (o2, .inr (2, [.ref p7, .ref p8, .ref p9, .ref p10, .ref p11, .int 0])), (p7, .inl (cI, 32, .inl (fun _ => 0))), (p8, .inl (cI, 32, .inl (fun _ => 0))), (p9, .inl (cZ, 32, .inl (fun _ => 0))), (p10, .inl (cI, 32, .inl (fun _ => 0))), (p11, .inl (cI, 32, .inl (fun _ => 0))), (o3, .inr (3, [.ref p12, .ref p13, .ref p14, .ref p15, .ref p16, .int 0])), (p12, .inl (cI, 80, .inl (fun _ => 0))), (p13, .inl (cI, 80, .inl (fun _ => 0))), (p14, .inl (cI, 80, .inl (fun _ => 0))), (p15, .inl (cI, 80, .inl (fun _ => 0))), (p16, .inl (cZ, 80, .inl (fun _ => 0)))] := hD
  refine lv_aload_n hx hb dX0_init_37 rfl (lv_at hl 0 rfl) ?_
  refine va_new (ci := 4) (fs := [.null, .null, .null, .null, .null, .int 0]) (C := RX4) (T := TX4) (N := 6) hx hb hB inX4 tyX4 tyX4_ok hown (hB _ k1_89) (hB _ k1_90) (hB _ k1_5) hK hP hD hS hA rfl (fun j hj => by rcases (show j = 0 ∨ j = 1 ∨ j = 2 ∨ j = 3 ∨ j = 4 ∨ j = 5 by omega) with rfl | rfl | rfl | rfl | rfl | rfl <;> rfl) (Nat.le_of_ble_eq_true rfl) (Nat.le_of_ble_eq_true rfl) dX0_init_38 (fun o4 H hP hD hS => ?_)
  have hP : va_P D vwCl [(h0, .inr (0, [.ref o1, .ref o2, .ref o3, .null, .null, .null, .int 0])), (o1, .inr (1, [.ref p6, .int 0])), (p6, .inl (cI, 16, .inl (fun _ => 0))), (o2, .inr (2, [.ref p7, .ref p8, .ref p9, .ref p10, .ref p11, .int 0])), (p7, .inl (cI, 32, .inl (fun _ => 0))), (p8, .inl (cI, 32, .inl (fun _ => 0))), (p9, .inl (cZ, 32, .inl (fun _ => 0))), (p10, .inl (cI, 32, .inl (fun _ => 0))), (p11, .inl (cI, 32, .inl (fun _ => 0))), (o3, .inr (3, [.ref p12, .ref p13, .ref p14, .ref p15, .ref p16, .int 0])), (p12, .inl (cI, 80, .inl (fun _ => 0))), (p13, .inl (cI, 80, .inl (fun _ => 0))), (p14, .inl (cI, 80, .inl (fun _ => 0))), (p15, .inl (cI, 80, .inl (fun _ => 0))), (p16, .inl (cZ, 80, .inl (fun _ => 0))), (o4, .inr (4, [.null, .null, .null, .null, .null, .int 0]))] H := hP
  have hD : va_D A [(h0, .inr (0, [.ref o1, .ref o2, .ref o3, .null, .null, .null, .int 0])), (o1, .inr (1, [.ref p6, .int 0])), (p6, .inl (cI, 16, .inl (fun _ => 0))), (o2, .inr (2, [.ref p7, .ref p8, .ref p9, .ref p10, .ref p11, .int 0])), (p7, .inl (cI, 32, .inl (fun _ => 0))), (p8, .inl (cI, 32, .inl (fun _ => 0))), (p9, .inl (cZ, 32, .inl (fun _ => 0))), (p10, .inl (cI, 32, .inl (fun _ => 0))), (p11, .inl (cI, 32, .inl (fun _ => 0))), (o3, .inr (3, [.ref p12, .ref p13, .ref p14, .ref p15, .ref p16, .int 0])), (p12, .inl (cI, 80, .inl (fun _ => 0))), (p13, .inl (cI, 80, .inl (fun _ => 0))), (p14, .inl (cI, 80, .inl (fun _ => 0))), (p15, .inl (cI, 80, .inl (fun _ => 0))), (p16, .inl (cZ, 80, .inl (fun _ => 0))), (o4, .inr (4, [.null, .null, .null, .null, .null, .int 0]))] := hD
  refine W.widen (k := 15) (n := 596) (Nat.le_of_ble_eq_true rfl) (Nat.le_of_ble_eq_true rfl) ?_
  refine lv_dup hx hb dX0_init_41 rfl ?_
  have hPc := hP.sub (ws' := [(o4, .inr (4, [.null, .null, .null, .null, .null, .int 0]))]) [15] rfl
  have hDc := hD.sub (ws' := [(o4, .inr (4, [.null, .null, .null, .null, .null, .int 0]))]) [15] (by decide) rfl
  have hFc := va_free (wc := [(o4, .inr (4, [.null, .null, .null, .null, .null, .int 0]))]) hD hS hA [15] rfl
  refine va_callv (va_runIN (As := []) (rest := [.ref o4, .ref h0]) ⟨hx, hb, hml, hown, hB⟩ (m_Q_init l D cI cZ o4 H.size) ⟨va_cnB 0 hB (gB k1_93) rfl rfl rfl (hN _ kn_54) (hB _ k1_5) (by decide +kernel) ⟨Nat.le_of_ble_eq_true rfl, Nat.le_of_ble_eq_true rfl⟩, rfl, hB _ k1_92⟩ ⟨fun a U g mk q => by obtain ⟨q0, q1, qP, qK, qN, qD⟩ := q; exact ⟨q0, q1, qP, va_K.moved (u := U) (U := U.calling g mk a) (Vm.Alike.refl U.vm) qK, NW.same (u := U) (U := U.calling g mk a) rfl qN, qD⟩, fun U hU hW => ⟨rfl, by rw [hU], by rw [hU]; exact hPc, va_K.moved hW.alike hK, NW.warm hW hN, hDc.weaken (fun _ _ _ _ => trivial)⟩⟩ rfl rfl hl.1 rfl (lv_room (Nat.le_of_ble_eq_true rfl)) dX0_init_42 ⟨Nat.le_of_ble_eq_true rfl, Nat.le_of_ble_eq_true rfl⟩) hS (fun q _ h => hFc q h) hFc (fun u t H1 locs ht hvm hw hB hz1 hk1 hS => ?_)
  obtain ⟨p17, p18, p19, p20, p21, hP1, hD1⟩ := hB
  rw [ht] at hP1
  obtain ⟨hP, hD⟩ := va_join (wr := [(h0, .inr (0, [.ref o1, .ref o2, .ref o3, .null, .null, .null, .int 0])), (o1, .inr (1, [.ref p6, .int 0])), (p6, .inl (cI, 16, .inl (fun _ => 0))), (o2, .inr (2, [.ref p7, .ref p8, .ref p9, .ref p10, .ref p11, .int 0])), (p7, .inl (cI, 32, .inl (fun _ => 0))), (p8, .inl (cI, 32, .inl (fun _ => 0))), (p9, .inl (cZ, 32, .inl (fun _ => 0))), (p10, .inl (cI, 32, .inl (fun _ => 0))), (p11, .inl (cI, 32, .inl (fun _ => 0))), (o3, .inr (3, [.ref p12, .ref p13, .ref p14, .ref p15, .ref p16, .int 0])), (p12, .inl (cI, 80, .inl (fun _ => 0))), (p13, .inl (cI, 80, .inl (fun _ => 0))), (p14, .inl (cI, 80, .inl (fun _ => 0))), (p15, .inl (cI, 80, .inl (fun _ => 0))), (p16, .inl (cZ, 80, .inl (fun _ => 0)))]) (w1 := [(o4, .inr (4, [.ref p17, .ref p18, .ref p19, .ref p20, .ref p21, .int 0])), (p17, .inl (cI, 120, .inl (fun _ => 0))), (p18, .inl (cI, 120, .inl (fun _ => 0))), (p19, .inl (cI, 120, .inl (fun _ => 0))), (p20, .inl (cI, 120, .inl (fun _ => 0))), (p21, .inl (cZ, 120, .inl (fun _ => 0)))]) hP hD [15] [0, 1, 2, 3, 4, 5, 6, 7, 8, 9, 10, 11, 12, 13, 14] rfl rfl (by decide) (by decide) hk1 hFc hP1 hD1
  generalize H1 = H at hP hS ⊢
  have hP : va_P D vwCl [(h0, .inr (0, [.ref o1, .ref o2, .ref o3, .null, .null, .null, .int 0])), (o1, .inr (1, [.ref p6, .int 0])), (p6, .inl (cI, 16, .inl (fun _ => 0))), (o2, .inr (2, [.ref p7, .ref p8, .ref p9, .ref p10, .ref p11, .int 0])), (p7, .inl (cI, 32, .inl (fun _ => 0))), (p8, .inl (cI, 32, .inl (fun _ => 0))), (p9, .inl (cZ, 32, .inl (fun _ => 0))), (p10, .inl (cI, 32, .inl (fun _ => 0))), (p11, .inl (cI, 32, .inl (fun _ => 0))), (o3, .inr (3, [.ref p12, .ref p13, .ref p14, .ref p15, .ref p16, .int 0])), (p12, .inl (cI, 80, .inl (fun _ => 0))), (p13, .inl (cI, 80, .inl (fun _ => 0))), (p14, .inl (cI, 80, .inl (fun _ => 0))), (p15, .inl (cI, 80, .inl (fun _ => 0))), (p16, .inl (cZ, 80, .inl (fun _ => 0))), (o4, .inr (4, [.ref p17, .ref p18, .ref p19, .ref p20, .ref p21, .int 0])), (p17, .inl (cI, 120, .inl (fun _ => 0))), (p18, .inl (cI, 120, .inl (fun _ => 0))), (p19, .inl (cI, 120, .inl (fun _ => 0))), (p20, .inl (cI, 120, .inl (fun _ => 0))), (p21, .inl (cZ, 120, .inl (fun _ => 0)))] H := hP
  have hD : va_D A [(h0, .inr (0, [.ref o1, .ref o2, .ref o3, .null, .null, .null, .int 0])), (o1, .inr (1, [.ref p6, .int 0])), (p6, .inl (cI, 16, .inl (fun _ => 0))), (o2, .inr (2, [.ref p7, .ref p8, .ref p9, .ref p10, .ref p11, .int 0])), (p7, .inl (cI, 32, .inl (fun _ => 0))), (p8, .inl (cI, 32, .inl (fun _ => 0))), (p9, .inl (cZ, 32, .inl (fun _ => 0))), (p10, .inl (cI, 32, .inl (fun _ => 0))), (p11, .inl (cI, 32, .inl (fun _ => 0))), (o3, .inr (3, [.ref p12, .ref p13, .ref p14, .ref p15, .ref p16, .int 0])), (p12, .inl (cI, 80, .inl (fun _ => 0))), (p13, .inl (cI, 80, .inl (fun _ => 0))), (p14, .inl (cI, 80, .inl (fun _ => 0))), (p15, .inl (cI, 80, .inl (fun _ => 0))), (p16, .inl (cZ, 80, .inl (fun _ => 0))), (o4, .inr (4, [.ref p17, .ref p18, .ref p19, .ref p20, .ref p21, .int 0])), (p17, .inl (cI, 120, .inl (fun _ => 0))), (p18, .inl (cI, 120, .inl (fun _ => 0))), (p19, .inl (cI, 120, .inl (fun _ => 0))), (p20, .inl (cI, 120, .inl (fun _ => 0))), (p21, .inl (cZ, 120, .inl (fun _ => 0)))] := hD
  refine W.widen (k := 20) (n := 1196) (Nat.le_of_ble_eq_true rfl) (Nat.le_of_ble_eq_true rfl) ?_
  refine va_putF (D := D) (ci := 0) (v := .ref o4) (ty := tyX0 3) (C := RX0) (T := TX0) (N := 7) hx hb hB inX0 tyX0 tyX0_ok nmX0 hown hK hP hD hS 0 rfl rfl 3 (by decide) (hB _ k1_152) (fun _ h9 => h9) rfl hin rfl (by decide +kernel) rfl rfl (Nat.le_of_ble_eq_true rfl) dX0_init_45 (fun H locs hP hD hS => ?_)
  have hP : va_P D vwCl [(h0, .inr (0, [.ref o1, .ref o2, .ref o3, .ref o4, .null, .null, .int 0])), (o1, .inr (1, [.ref p6, .int 0])), (p6, .inl (cI, 16, .inl (fun _ => 0))), (o2, .inr (2, [.ref p7, .ref p8, .ref p9, .ref p10, .ref p11, .int 0])), (p7, .inl (cI, 32, .inl (fun _ => 0))), (p8, .inl (cI, 32, .inl (fun _ => 0))), (p9, .inl (cZ, 32, .inl (fun _ => 0))), (p10, .inl (cI, 32, .inl (fun _ => 0))), (p11, .inl (cI, 32, .inl (fun _ => 0))), (o3, .inr (3, [.ref p12, .ref p13, .ref p14, .ref p15, .ref p16, .int 0])), (p12, .inl (cI, 80, .inl (fun _ => 0))), (p13, .inl (cI, 80, .inl (fun _ => 0))), (p14, .inl (cI, 80, .inl (fun _ => 0))), (p15, .inl (cI, 80, .inl (fun _ => 0))), (p16, .inl (cZ, 80, .inl (fun _ => 0))), (o4, .inr (4, [.ref p17, .ref p18, .ref p19, .ref p20, .ref p21, .int 0])), (p17, .inl (cI, 120, .inl (fun _ => 0))), (p18, .inl (cI, 120, .inl (fun _ => 0))), (p19, .inl (cI, 120, .inl (fun _ => 0))), (p20, .inl (cI, 120, .inl (fun _ => 0))), (p21, .inl (cZ, 120, .inl (fun _ => 0)))] H := hP
  have hD : va_D A [(h0, .inr (0, [.ref o1, .ref o2, .ref o3, .ref o4, .null, .null, .int 0])), (o1, .inr (1, [.ref p6, .int 0])), (p6, .inl (cI, 16, .inl (fun _ => 0))), (o2, .inr (2, [.ref p7, .ref p8, .ref p9, .ref p10, .ref p11, .int 0])), (p7, .inl (cI, 32, .inl (fun _ => 0))), (p8, .inl (cI, 32, .inl (fun _ => 0))), (p9, .inl (cZ, 32, .inl (fun _ => 0))), (p10, .inl (cI, 32, .inl (fun _ => 0))), (p11, .inl (cI, 32, .inl (fun _ => 0))), (o3, .inr (3, [.ref p12, .ref p13, .ref p14, .ref p15, .ref p16, .int 0])), (p12, .inl (cI, 80, .inl (fun _ => 0))), (p13, .inl (cI, 80, .inl (fun _ => 0))), (p14, .inl (cI, 80, .inl (fun _ => 0))), (p15, .inl (cI, 80, .inl (fun _ => 0))), (p16, .inl (cZ, 80, .inl (fun _ => 0))), (o4, .inr (4, [.ref p17, .ref p18, .ref p19, .ref p20, .ref p21, .int 0])), (p17, .inl (cI, 120, .inl (fun _ => 0))), (p18, .inl (cI, 120, .inl (fun _ => 0))), (p19, .inl (cI, 120, .inl (fun _ => 0))), (p20, .inl (cI, 120, .inl (fun _ => 0))), (p21, .inl (cZ, 120, .inl (fun _ => 0)))] := hD
  refine lv_aload_n hx hb dX0_init_48 rfl (lv_at hl 0 rfl) ?_
  refine va_new (ci := 5) (fs := [.null, .null, .null, .null, .null, .int 0]) (C := RX5) (T := TX5) (N := 6) hx hb hB inX5 tyX5 tyX5_ok hown (hB _ k1_120) (hB _ k1_121) (hB _ k1_6) hK hP hD hS hA rfl (fun j hj => by rcases (show j = 0 ∨ j = 1 ∨ j = 2 ∨ j = 3 ∨ j = 4 ∨ j = 5 by omega) with rfl | rfl | rfl | rfl | rfl | rfl <;> rfl) (Nat.le_of_ble_eq_true rfl) (Nat.le_of_ble_eq_true rfl) dX0_init_49 (fun o5 H hP hD hS => ?_)
  have hP : va_P D vwCl [(h0, .inr (0, [.ref o1, .ref o2, .ref o3, .ref o4, .null, .null, .int 0])), (o1, .inr (1, [.ref p6, .int 0])), (p6, .inl (cI, 16, .inl (fun _ => 0))), (o2, .inr (2, [.ref p7, .ref p8, .ref p9, .ref p10, .ref p11, .int 0])), (p7, .inl (cI, 32, .inl (fun _ => 0))), (p8, .inl (cI, 32, .inl (fun _ => 0))), (p9, .inl (cZ, 32, .inl (fun _ => 0))), (p10, .inl (cI, 32, .inl (fun _ => 0))), (p11, .inl (cI, 32, .inl (fun _ => 0))), (o3, .inr (3, [.ref p12, .ref p13, .ref p14, .ref p15, .ref p16, .int 0])), (p12, .inl (cI, 80, .inl (fun _ => 0))), (p13, .inl (cI, 80, .inl (fun _ => 0))), (p14, .inl (cI, 80, .inl (fun _ => 0))), (p15, .inl (cI, 80, .inl (fun _ => 0))), (p16, .inl (cZ, 80, .inl (fun _ => 0))), (o4, .inr (4, [.ref p17, .ref p18, .ref p19, .ref p20, .ref p21, .int 0])), (p17, .inl (cI, 120, .inl (fun _ => 0))), (p18, .inl (cI, 120, .inl (fun _ => 0))), (p19, .inl (cI, 120, .inl (fun _ => 0))), (p20, .inl (cI, 120, .inl (fun _ => 0))), (p21, .inl (cZ, 120, .inl (fun _ => 0))), (o5, .inr (5, [.null, .null, .null, .null, .null, .int 0]))] H := hP
  have hD : va_D A [(h0, .inr (0, [.ref o1, .ref o2, .ref o3, .ref o4, .null, .null, .int 0])), (o1, .inr (1, [.ref p6, .int 0])), (p6, .inl (cI, 16, .inl (fun _ => 0))), (o2, .inr (2, [.ref p7, .ref p8, .ref p9, .ref p10, .ref p11, .int 0])), (p7, .inl (cI, 32, .inl (fun _ => 0))), (p8, .inl (cI, 32, .inl (fun _ => 0))), (p9, .inl (cZ, 32, .inl (fun _ => 0))), (p10, .inl (cI, 32, .inl (fun _ => 0))), (p11, .inl (cI, 32, .inl (fun _ => 0))), (o3, .inr (3, [.ref p12, .ref p13, .ref p14, .ref p15, .ref p16, .int 0])), (p12, .inl (cI, 80, .inl (fun _ => 0))), (p13, .inl (cI, 80, .inl (fun _ => 0))), (p14, .inl (cI, 80, .inl (fun _ => 0))), (p15, .inl (cI, 80, .inl (fun _ => 0))), (p16, .inl (cZ, 80, .inl (fun _ => 0))), (o4, .inr (4, [.ref p17, .ref p18, .ref p19, .ref p20, .ref p21, .int 0])), (p17, .inl (cI, 120, .inl (fun _ => 0))), (p18, .inl (cI, 120, .inl (fun _ => 0))), (p19, .inl (cI, 120, .inl (fun _ => 0))), (p20, .inl (cI, 120, .inl (fun _ => 0))), (p21, .inl (cZ, 120, .inl (fun _ => 0))), (o5, .inr (5, [.null, .null, .null, .null, .null, .int 0]))] := hD
  refine W.widen (k := 21) (n := 1202) (Nat.le_of_ble_eq_true rfl) (Nat.le_of_ble_eq_true rfl) ?_
  refine lv_dup hx hb dX0_init_52 rfl ?_
  have hPc := hP.sub (ws' := [(o5, .inr (5, [.null, .null, .null, .null, .null, .int 0]))]) [21] rfl
  have hDc := hD.sub (ws' := [(o5, .inr (5, [.null, .null, .null, .null, .null, .int 0]))]) [21] (by decide) rfl
  have hFc := va_free (wc := [(o5, .inr (5, [.null, .null, .null, .null, .null, .int 0]))]) hD hS hA [21] rfl
  refine va_callv (va_runIN (As := []) (rest := [.ref o5, .ref h0]) ⟨hx, hb, hml, hown, hB⟩ (m_Y_init l D cI cZ o5 H.size) ⟨va_cnB 0 hB (gB k1_124) rfl rfl rfl (hN _ kn_55) (hB _ k1_6) (by decide +kernel) ⟨Nat.le_of_ble_eq_true rfl, Nat.le_of_ble_eq_true rfl⟩, rfl, hB _ k1_123⟩ ⟨fun a U g mk q => by obtain ⟨q0, q1, qP, qK, qN, qD⟩ := q; exact ⟨q0, q1, qP, va_K.moved (u := U) (U := U.calling g mk a) (Vm.Alike.refl U.vm) qK, NW.same (u := U) (U := U.calling g mk a) rfl qN, qD⟩, fun U hU hW => ⟨rfl, by rw [hU], by rw [hU]; exact hPc, va_K.moved hW.alike hK, NW.warm hW hN, hDc.weaken (fun _ _ _ _ => trivial)⟩⟩ rfl rfl hl.1 rfl (lv_room (Nat.le_of_ble_eq_true rfl)) dX0_init_53 ⟨Nat.le_of_ble_eq_true rfl, Nat.le_of_ble_eq_true rfl⟩) hS (fun q _ h => hFc q h) hFc (fun u t H1 locs ht hvm hw hB hz1 hk1 hS => ?_)
  obtain ⟨p22, p23, p24, p25, p26, hP1, hD1⟩ := hB
  rw [ht] at hP1
  obtain ⟨hP, hD⟩ := va_join (wr := [(h0, .inr (0, [.ref o1, .ref o2, .ref o3, .ref o4, .null, .null, .int 0])), (o1, .inr (1, [.ref p6, .int 0])), (p6, .inl (cI, 16, .inl (fun _ => 0))), (o2, .inr (2, [.ref p7, .ref p8, .ref p9, .ref p10, .ref p11, .int 0])), (p7, .inl (cI, 32, .inl (fun _ => 0))), (p8, .inl (cI, 32, .inl (fun _ => 0))), (p9, .inl (cZ, 32, .inl (fun _ => 0))), (p10, .inl (cI, 32, .inl (fun _ => 0))), (p11, .inl (cI, 32, .inl (fun _ => 0))), (o3, .inr (3, [.ref p12, .ref p13, .ref p14, .ref p15, .ref p16, .int 0])), (p12, .inl (cI, 80, .inl (fun _ => 0))), (p13, .inl (cI, 80, .inl (fun _ => 0))), (p14, .inl (cI, 80, .inl (fun _ => 0))), (p15, .inl (cI, 80, .inl (fun _ => 0))), (p16, .inl (cZ, 80, .inl (fun _ => 0))), (o4, .inr (4, [.ref p17, .ref p18, .ref p19, .ref p20, .ref p21, .int 0])), (p17, .inl (cI, 120, .inl (fun _ => 0))), (p18, .inl (cI, 120, .inl (fun _ => 0))), (p19, .inl (cI, 120, .inl (fun _ => 0))), (p20, .inl (cI, 120, .inl (fun _ => 0))), (p21, .inl (cZ, 120, .inl (fun _ => 0)))]) (w1 := [(o5, .inr (5, [.ref p22, .ref p23, .ref p24, .ref p25, .ref p26, .int 0])), (p22, .inl (cI, 512, .inl (fun _ => 0))), (p23, .inl (cI, 512, .inl (fun _ => 0))), (p24, .inl (cI, 512, .inl (fun _ => 0))), (p25, .inl (cI, 512, .inl (fun _ => 0))), (p26, .inl (cZ, 512, .inl (fun _ => 0)))]) hP hD [21] [0, 1, 2, 3, 4, 5, 6, 7, 8, 9, 10, 11, 12, 13, 14, 15, 16, 17, 18, 19, 20] rfl rfl (by decide) (by decide) hk1 hFc hP1 hD1
  generalize H1 = H at hP hS ⊢
  have hP : va_P D vwCl [(h0, .inr (0, [.ref o1, .ref o2, .ref o3, .ref o4, .null, .null, .int 0])), (o1, .inr (1, [.ref p6, .int 0])), (p6, .inl (cI, 16, .inl (fun _ => 0))), (o2, .inr (2, [.ref p7, .ref p8, .ref p9, .ref p10, .ref p11, .int 0])), (p7, .inl (cI, 32, .inl (fun _ => 0))), (p8, .inl (cI, 32, .inl (fun _ => 0))), (p9, .inl (cZ, 32, .inl (fun _ => 0))), (p10, .inl (cI, 32, .inl (fun _ => 0))), (p11, .inl (cI, 32, .inl (fun _ => 0))), (o3, .inr (3, [.ref p12, .ref p13, .ref p14, .ref p15, .ref p16, .int 0])), (p12, .inl (cI, 80, .inl (fun _ => 0))), (p13, .inl (cI, 80, .inl (fun _ => 0))), (p14, .inl (cI, 80, .inl (fun _ => 0))), (p15, .inl (cI, 80, .inl (fun _ => 0))), (p16, .inl (cZ, 80, .inl (fun _ => 0))), (o4, .inr (4, [.ref p17, .ref p18, .ref p19, .ref p20, .ref p21, .int 0])), (p17, .inl (cI, 120, .inl (fun _ => 0))), (p18, .inl (cI, 120, .inl (fun _ => 0))), (p19, .inl (cI, 120, .inl (fun _ => 0))), (p20, .inl (cI, 120, .inl (fun _ => 0))), (p21, .inl (cZ, 120, .inl (fun _ => 0))), (o5, .inr (5, [.ref p22, .ref p23, .ref p24, .ref p25, .ref p26, .int 0])), (p22, .inl (cI, 512, .inl (fun _ => 0))), (p23, .inl (cI, 512, .inl (fun _ => 0))), (p24, .inl (cI, 512, .inl (fun _ => 0))), (p25, .inl (cI, 512, .inl (fun _ => 0))), (p26, .inl (cZ, 512, .inl (fun _ => 0)))] H := hP
  have hD : va_D A [(h0, .inr (0, [.ref o1, .ref o2, .ref o3, .ref o4, .null, .null, .int 0])), (o1, .inr (1, [.ref p6, .int 0])), (p6, .inl (cI, 16, .inl (fun _ => 0))), (o2, .inr (2, [.ref p7, .ref p8, .ref p9, .ref p10, .ref p11, .int 0])), (p7, .inl (cI, 32, .inl (fun _ => 0))), (p8, .inl (cI, 32, .inl (fun _ => 0))), (p9, .inl (cZ, 32, .inl (fun _ => 0))), (p10, .inl (cI, 32, .inl (fun _ => 0))), (p11, .inl (cI, 32, .inl (fun _ => 0))), (o3, .inr (3, [.ref p12, .ref p13, .ref p14, .ref p15, .ref p16, .int 0])), (p12, .inl (cI, 80, .inl (fun _ => 0))), (p13, .inl (cI, 80, .inl (fun _ => 0))), (p14, .inl (cI, 80, .inl (fun _ => 0))), (p15, .inl (cI, 80, .inl (fun _ => 0))), (p16, .inl (cZ, 80, .inl (fun _ => 0))), (o4, .inr (4, [.ref p17, .ref p18, .ref p19, .ref p20, .ref p21, .int 0])), (p17, .inl (cI, 120, .inl (fun _ => 0))), (p18, .inl (cI, 120, .inl (fun _ => 0))), (p19, .inl (cI, 120, .inl (fun _ => 0))), (p20, .inl (cI, 120, .inl (fun _ => 0))), (p21, .inl (cZ, 120, .inl (fun _ => 0))), (o5, .inr (5, [.ref p22, .ref p23, .ref p24, .ref p25, .ref p26, .int 0])), (p22, .inl (cI, 512, .inl (fun _ => 0))), (p23, .inl (cI, 512, .inl (fun _ => 0))), (p24, .inl (cI, 512, .inl (fun _ => 0))), (p25, .inl (cI, 512, .inl (fun _ => 0))), (p26, .inl (cZ, 512, .inl (fun _ => 0)))] := hD
  refine W.widen (k := 26) (n := 3762) (Nat.le_of_ble_eq_true rfl) (Nat.le_of_ble_eq_true rfl) ?_
  refine va_putF (D := D) (ci := 0) (v := .ref o5) (ty := tyX0 4) (C := RX0) (T := TX0) (N := 7) hx hb hB inX0 tyX0 tyX0_ok nmX0 hown hK hP hD hS 0 rfl rfl 4 (by decide) (hB _ k1_153) (fun _ h9 => h9) rfl hin rfl (by decide +kernel) rfl rfl (Nat.le_of_ble_eq_true rfl) dX0_init_56 (fun H locs hP hD hS => ?_)
  have hP : va_P D vwCl [(h0, .inr (0, [.ref o1, .ref o2, .ref o3, .ref o4, .ref o5, .null, .int 0])), (o1, .inr (1, [.ref p6, .int 0])), (p6, .inl (cI, 16, .inl (fun _ => 0))), (o2, .inr (2, [.ref p7, .ref p8, .ref p9, .ref p10, .ref p11, .int 0])), (p7, .inl (cI, 32, .inl (fun _ => 0))), (p8, .inl (cI, 32, .inl (fun _ => 0))), (p9, .inl (cZ, 32, .inl (fun _ => 0))), (p10, .inl (cI, 32, .inl (fun _ => 0))), (p11, .inl (cI, 32, .inl (fun _ => 0))), (o3, .inr (3, [.ref p12, .ref p13, .ref p14, .ref p15, .ref p16, .int 0])), (p12, .inl (cI, 80, .inl (fun _ => 0))), (p13, .inl (cI, 80, .inl (fun _ => 0))), (p14, .inl (cI, 80, .inl (fun _ => 0))), (p15, .inl (cI, 80, .inl (fun _ => 0))), (p16, .inl (cZ, 80, .inl (fun _ => 0))), (o4, .inr (4, [.ref p17, .ref p18, .ref p19, .ref p20, .ref p21, .int 0])), (p17, .inl (cI, 120, .inl (fun _ => 0))), (p18, .inl (cI, 120, .inl (fun _ => 0))), (p19, .inl (cI, 120, .inl (fun _ => 0))), (p20, .inl (cI, 120, .inl (fun _ => 0))), (p21, .inl (cZ, 120, .inl (fun _ => 0))), (o5, .inr (5, [.ref p22, .ref p23, .ref p24, .ref p25, .ref p26, .int 0])), (p22, .inl (cI, 512, .inl (fun _ => 0))), (p23, .inl (cI, 512, .inl (fun _ => 0))), (p24, .inl (cI, 512, .inl (fun _ => 0))), (p25, .inl (cI, 512, .inl (fun _ => 0))), (p26, .inl (cZ, 512, .inl (fun _ => 0)))] H := hP
  have hD : va_D A [(h0, .inr (0, [.ref o1, .ref o2, .ref o3, .ref o4, .ref o5, .null, .int 0])), (o1, .inr (1, [.ref p6, .int 0])), (p6, .inl (cI, 16, .inl (fun _ => 0))), (o2, .inr (2, [.ref p7, .ref p8, .ref p9, .ref p10, .ref p11, .int 0])), (p7, .inl (cI, 32, .inl (fun _ => 0))), (p8, .inl (cI, 32, .inl (fun _ => 0))), (p9, .inl (cZ, 32, .inl (fun _ => 0))), (p10, .inl (cI, 32, .inl (fun _ => 0))), (p11, .inl (cI, 32, .inl (fun _ => 0))), (o3, .inr (3, [.ref p12, .ref p13, .ref p14, .ref p15, .ref p16, .int 0])), (p12, .inl (cI, 80, .inl (fun _ => 0))), (p13, .inl (cI, 80, .inl (fun _ => 0))), (p14, .inl (cI, 80, .inl (fun _ => 0))), (p15, .inl (cI, 80, .inl (fun _ => 0))), (p16, .inl (cZ, 80, .inl (fun _ => 0))), (o4, .inr (4, [.ref p17, .ref p18, .ref p19, .ref p20, .ref p21, .int 0])), (p17, .inl (cI, 120, .inl (fun _ => 0))), (p18, .inl (cI, 120, .inl (fun _ => 0))), (p19, .inl (cI, 120, .inl (fun _ => 0))), (p20, .inl (cI, 120, .inl (fun _ => 0))), (p21, .inl (cZ, 120, .inl (fun _ => 0))), (o5, .inr (5, [.ref p22, .ref p23, .ref p24, .ref p25, .ref p26, .int 0])), (p22, .inl (cI, 512, .inl (fun _ => 0))), (p23, .inl (cI, 512, .inl (fun _ => 0))), (p24, .inl (cI, 512, .inl (fun _ => 0))), (p25, .inl (cI, 512, .inl (fun _ => 0))), (p26, .inl (cZ, 512, .inl (fun _ => 0)))] := hD
  refine lv_aload_n hx hb dX0_init_59 rfl (lv_at hl 0 rfl) ?_
  refine lv_sipush (v := 1000) hx hb dX0_init_60 (by decide) ?_
  refine va_newa (a0 := (1000, .inl (fun _ => 0))) (N' := 1000) (atype := .boolean) (ty := .boolean) hx hb (hB _ k1_58) rfl hK hP hD hS hA (fun _ => rfl) (by decide) (by decide) (by decide) (Nat.le_of_ble_eq_true rfl) (Nat.le_of_ble_eq_true rfl) dX0_init_63 (fun p27 cA9 H hK9 hP hD hS => ?_)
  obtain rfl : cZ = cA9 := (cA_z hK9 hK).symm
  have hP : va_P D vwCl [(h0, .inr (0, [.ref o1, .ref o2, .ref o3, .ref o4, .ref o5, .null, .int 0])), (o1, .inr (1, [.ref p6, .int 0])), (p6, .inl (cI, 16, .inl (fun _ => 0))), (o2, .inr (2, [.ref p7, .ref p8, .ref p9, .ref p10, .ref p11, .int 0])), (p7, .inl (cI, 32, .inl (fun _ => 0))), (p8, .inl (cI, 32, .inl (fun _ => 0))), (p9, .inl (cZ, 32, .inl (fun _ => 0))), (p10, .inl (cI, 32, .inl (fun _ => 0))), (p11, .inl (cI, 32, .inl (fun _ => 0))), (o3, .inr (3, [.ref p12, .ref p13, .ref p14, .ref p15, .ref p16, .int 0])), (p12, .inl (cI, 80, .inl (fun _ => 0))), (p13, .inl (cI, 80, .inl (fun _ => 0))), (p14, .inl (cI, 80, .inl (fun _ => 0))), (p15, .inl (cI, 80, .inl (fun _ => 0))), (p16, .inl (cZ, 80, .inl (fun _ => 0))), (o4, .inr (4, [.ref p17, .ref p18, .ref p19, .ref p20, .ref p21, .int 0])), (p17, .inl (cI, 120, .inl (fun _ => 0))), (p18, .inl (cI, 120, .inl (fun _ => 0))), (p19, .inl (cI, 120, .inl (fun _ => 0))), (p20, .inl (cI, 120, .inl (fun _ => 0))), (p21, .inl (cZ, 120, .inl (fun _ => 0))), (o5, .inr (5, [.ref p22, .ref p23, .ref p24, .ref p25, .ref p26, .int 0])), (p22, .inl (cI, 512, .inl (fun _ => 0))), (p23, .inl (cI, 512, .inl (fun _ => 0))), (p24, .inl (cI, 512, .inl (fun _ => 0))), (p25, .inl (cI, 512, .inl (fun _ => 0))), (p26, .inl (cZ, 512, .inl (fun _ => 0))), (p27, .inl (cZ, 1000, .inl (fun _ => 0)))] H := hP
  have hD : va_D A [(h0, .inr (0, [.ref o1, .ref o2, .ref o3, .ref o4, .ref o5, .null, .int 0])), (o1, .inr (1, [.ref p6, .int 0])), (p6, .inl (cI, 16, .inl (fun _ => 0))), (o2, .inr (2, [.ref p7, .ref p8, .ref p9, .ref p10, .ref p11, .int 0])), (p7, .inl (cI, 32, .inl (fun _ => 0))), (p8, .inl (cI, 32, .inl (fun _ => 0))), (p9, .inl (cZ, 32, .inl (fun _ => 0))), (p10, .inl (cI, 32, .inl (fun _ => 0))), (p11, .inl (cI, 32, .inl (fun _ => 0))), (o3, .inr (3, [.ref p12, .ref p13, .ref p14, .ref p15, .ref p16, .int 0])), (p12, .inl (cI, 80, .inl (fun _ => 0))), (p13, .inl (cI, 80, .inl (fun _ => 0))), (p14, .inl (cI, 80, .inl (fun _ => 0))), (p15, .inl (cI, 80, .inl (fun _ => 0))), (p16, .inl (cZ, 80, .inl (fun _ => 0))), (o4, .inr (4, [.ref p17, .ref p18, .ref p19, .ref p20, .ref p21, .int 0])), (p17, .inl (cI, 120, .inl (fun _ => 0))), (p18, .inl (cI, 120, .inl (fun _ => 0))), (p19, .inl (cI, 120, .inl (fun _ => 0))), (p20, .inl (cI, 120, .inl (fun _ => 0))), (p21, .inl (cZ, 120, .inl (fun _ => 0))), (o5, .inr (5, [.ref p22, .ref p23, .ref p24, .ref p25, .ref p26, .int 0])), (p22, .inl (cI, 512, .inl (fun _ => 0))), (p23, .inl (cI, 512, .inl (fun _ => 0))), (p24, .inl (cI, 512, .inl (fun _ => 0))), (p25, .inl (cI, 512, .inl (fun _ => 0))), (p26, .inl (cZ, 512, .inl (fun _ => 0))), (p27, .inl (cZ, 1000, .inl (fun _ => 0)))] := hD
  refine W.widen (k := 27) (n := 4762) (Nat.le_of_ble_eq_true rfl) (Nat.le_of_ble_eq_true rfl) ?_
  refine va_putF (D := D) (ci := 0) (v := .ref p27) (ty := tyX0 5) (C := RX0) (T := TX0) (N := 7) hx hb hB inX0 tyX0 tyX0_ok nmX0 hown hK hP hD hS 0 rfl rfl 5 (by decide) (hB _ k1_154) (fun _ h9 => h9) rfl hin rfl (by decide +kernel) rfl rfl (Nat.le_of_ble_eq_true rfl) dX0_init_65 (fun H locs hP hD hS => ?_)
  have hP : va_P D vwCl [(h0, .inr (0, [.ref o1, .ref o2, .ref o3, .ref o4, .ref o5, .ref p27, .int 0])), (o1, .inr (1, [.ref p6, .int 0])), (p6, .inl (cI, 16, .inl (fun _ => 0))), (o2, .inr (2, [.ref p7, .ref p8, .ref p9, .ref p10, .ref p11, .int 0])), (p7, .inl (cI, 32, .inl (fun _ => 0))), (p8, .inl (cI, 32, .inl (fun _ => 0))), (p9, .inl (cZ, 32, .inl (fun _ => 0))), (p10, .inl (cI, 32, .inl (fun _ => 0))), (p11, .inl (cI, 32, .inl (fun _ => 0))), (o3, .inr (3, [.ref p12, .ref p13, .ref p14, .ref p15, .ref p16, .int 0])), (p12, .inl (cI, 80, .inl (fun _ => 0))), (p13, .inl (cI, 80, .inl (fun _ => 0))), (p14, .inl (cI, 80, .inl (fun _ => 0))), (p15, .inl (cI, 80, .inl (fun _ => 0))), (p16, .inl (cZ, 80, .inl (fun _ => 0))), (o4, .inr (4, [.ref p17, .ref p18, .ref p19, .ref p20, .ref p21, .int 0])), (p17, .inl (cI, 120, .inl (fun _ => 0))), (p18, .inl (cI, 120, .inl (fun _ => 0))), (p19, .inl (cI, 120, .inl (fun _ => 0))), (p20, .inl (cI, 120, .inl (fun _ => 0))), (p21, .inl (cZ, 120, .inl (fun _ => 0))), (o5, .inr (5, [.ref p22, .ref p23, .ref p24, .ref p25, .ref p26, .int 0])), (p22, .inl (cI, 512, .inl (fun _ => 0))), (p23, .inl (cI, 512, .inl (fun _ => 0))), (p24, .inl (cI, 512, .inl (fun _ => 0))), (p25, .inl (cI, 512, .inl (fun _ => 0))), (p26, .inl (cZ, 512, .inl (fun _ => 0))), (p27, .inl (cZ, 1000, .inl (fun _ => 0)))] H := hP
  have hD : va_D A [(h0, .inr (0, [.ref o1, .ref o2, .ref o3, .ref o4, .ref o5, .ref p27, .int 0])), (o1, .inr (1, [.ref p6, .int 0])), (p6, .inl (cI, 16, .inl (fun _ => 0))), (o2, .inr (2, [.ref p7, .ref p8, .ref p9, .ref p10, .ref p11, .int 0])), (p7, .inl (cI, 32, .inl (fun _ => 0))), (p8, .inl (cI, 32, .inl (fun _ => 0))), (p9, .inl (cZ, 32, .inl (fun _ => 0))), (p10, .inl (cI, 32, .inl (fun _ => 0))), (p11, .inl (cI, 32, .inl (fun _ => 0))), (o3, .inr (3, [.ref p12, .ref p13, .ref p14, .ref p15, .ref p16, .int 0])), (p12, .inl (cI, 80, .inl (fun _ => 0))), (p13, .inl (cI, 80, .inl (fun _ => 0))), (p14, .inl (cI, 80, .inl (fun _ => 0))), (p15, .inl (cI, 80, .inl (fun _ => 0))), (p16, .inl (cZ, 80, .inl (fun _ => 0))), (o4, .inr (4, [.ref p17, .ref p18, .ref p19, .ref p20, .ref p21, .int 0])), (p17, .inl (cI, 120, .inl (fun _ => 0))), (p18, .inl (cI, 120, .inl (fun _ => 0))), (p19, .inl (cI, 120, .inl (fun _ => 0))), (p20, .inl (cI, 120, .inl (fun _ => 0))), (p21, .inl (cZ, 120, .inl (fun _ => 0))), (o5, .inr (5, [.ref p22, .ref p23, .ref p24, .ref p25, .ref p26, .int 0])), (p22, .inl (cI, 512, .inl (fun _ => 0))), (p23, .inl (cI, 512, .inl (fun _ => 0))), (p24, .inl (cI, 512, .inl (fun _ => 0))), (p25, .inl (cI, 512, .inl (fun _ => 0))), (p26, .inl (cZ, 512, .inl (fun _ => 0))), (p27, .inl (cZ, 1000, .inl (fun _ => 0)))] := hD
  refine lv_aload_n hx hb dX0_init_68 rfl (lv_at hl 0 rfl) ?_
  refine lv_iconst (v := 0) hx hb dX0_init_69 (by decide) ?_
  refine va_put (D := D) (ci := 0) (v := .int 0) (ty := .int) (C := RX0) (T := TX0) (N := 7) hx hb hB inX0 tyX0 tyX0_ok nmX0 hown hK hP hD hS 0 rfl rfl 6 (by decide) (hB _ k1_155) (fun _ h9 => h9) rfl (by decide +kernel) rfl rfl (Nat.le_of_ble_eq_true rfl) dX0_init_70 (fun H locs hP hD hS => ?_)
  have hP : va_P D vwCl [(h0, .inr (0, [.ref o1, .ref o2, .ref o3, .ref o4, .ref o5, .ref p27, .int 0])), (o1, .inr (1, [.ref p6, .int 0])), (p6, .inl (cI, 16, .inl (fun _ => 0))), (o2, .inr (2, [.ref p7, .ref p8, .ref p9, .ref p10, .ref p11, .int 0])), (p7, .inl (cI, 32, .inl (fun _ => 0))), (p8, .inl (cI, 32, .inl (fun _ => 0))), (p9, .inl (cZ, 32, .inl (fun _ => 0))), (p10, .inl (cI, 32, .inl (fun _ => 0))), (p11, .inl (cI, 32, .inl (fun _ => 0))), (o3, .inr (3, [.ref p12, .ref p13, .ref p14, .ref p15, .ref p16, .int 0])), (p12, .inl (cI, 80, .inl (fun _ => 0))), (p13, .inl (cI, 80, .inl (fun _ => 0))), (p14, .inl (cI, 80, .inl (fun _ => 0))), (p15, .inl (cI, 80, .inl (fun _ => 0))), (p16, .inl (cZ, 80, .inl (fun _ => 0))), (o4, .inr (4, [.ref p17, .ref p18, .ref p19, .ref p20, .ref p21, .int 0])), (p17, .inl (cI, 120, .inl (fun _ => 0))), (p18, .inl (cI, 120, .inl (fun _ => 0))), (p19, .inl (cI, 120, .inl (fun _ => 0))), (p20, .inl (cI, 120, .inl (fun _ => 0))), (p21, .inl (cZ, 120, .inl (fun _ => 0))), (o5, .inr (5, [.ref p22, .ref p23, .ref p24, .ref p25, .ref p26, .int 0])), (p22, .inl (cI, 512, .inl (fun _ => 0))), (p23, .inl (cI, 512, .inl (fun _ => 0))), (p24, .inl (cI, 512, .inl (fun _ => 0))), (p25, .inl (cI, 512, .inl (fun _ => 0))), (p26, .inl (cZ, 512, .inl (fun _ => 0))), (p27, .inl (cZ, 1000, .inl (fun _ => 0)))] H := hP
  have hD : va_D A [(h0, .inr (0, [.ref o1, .ref o2, .ref o3, .ref o4, .ref o5, .ref p27, .int 0])), (o1, .inr (1, [.ref p6, .int 0])), (p6, .inl (cI, 16, .inl (fun _ => 0))), (o2, .inr (2, [.ref p7, .ref p8, .ref p9, .ref p10, .ref p11, .int 0])), (p7, .inl (cI, 32, .inl (fun _ => 0))), (p8, .inl (cI, 32, .inl (fun _ => 0))), (p9, .inl (cZ, 32, .inl (fun _ => 0))), (p10, .inl (cI, 32, .inl (fun _ => 0))), (p11, .inl (cI, 32, .inl (fun _ => 0))), (o3, .inr (3, [.ref p12, .ref p13, .ref p14, .ref p15, .ref p16, .int 0])), (p12, .inl (cI, 80, .inl (fun _ => 0))), (p13, .inl (cI, 80, .inl (fun _ => 0))), (p14, .inl (cI, 80, .inl (fun _ => 0))), (p15, .inl (cI, 80, .inl (fun _ => 0))), (p16, .inl (cZ, 80, .inl (fun _ => 0))), (o4, .inr (4, [.ref p17, .ref p18, .ref p19, .ref p20, .ref p21, .int 0])), (p17, .inl (cI, 120, .inl (fun _ => 0))), (p18, .inl (cI, 120, .inl (fun _ => 0))), (p19, .inl (cI, 120, .inl (fun _ => 0))), (p20, .inl (cI, 120, .inl (fun _ => 0))), (p21, .inl (cZ, 120, .inl (fun _ => 0))), (o5, .inr (5, [.ref p22, .ref p23, .ref p24, .ref p25, .ref p26, .int 0])), (p22, .inl (cI, 512, .inl (fun _ => 0))), (p23, .inl (cI, 512, .inl (fun _ => 0))), (p24, .inl (cI, 512, .inl (fun _ => 0))), (p25, .inl (cI, 512, .inl (fun _ => 0))), (p26, .inl (cZ, 512, .inl (fun _ => 0))), (p27, .inl (cZ, 1000, .inl (fun _ => 0)))] := hD
  obtain ⟨h9, eh⟩ : ∃ f : Nat → Nat, f = (fun k => ([h0, o1, o2, o3, o4, o5, p6, p7, p8, p9, p10, p11, p12, p13, p14, p15, p16, p17, p18, p19, p20, p21, p22, p23, p24, p25, p26, p27] : List Nat).getD k 0) := ⟨_, rfl⟩
  have hP9 : va_P D vwCl (wB h9 cI cZ (fun _ _ => 0)) H := by rw [eh]; exact hP.sub [0, 1, 3, 9, 15, 21, 2, 4, 5, 6, 7, 8, 10, 11, 12, 13, 14, 16, 17, 18, 19, 20, 22, 23, 24, 25, 26, 27] rfl
  have hD9 : va_D A (wB h9 cI cZ (fun _ _ => 0)) := by rw [eh]; exact hD.sub [0, 1, 3, 9, 15, 21, 2, 4, 5, 6, 7, 8, 10, 11, 12, 13, 14, 16, 17, 18, 19, 20, 22, 23, 24, 25, 26, 27] (by decide) rfl
  exact W.vret hx hb hr (fun t ht hW => ⟨⟨h9, rfl, by rw [eh]; rfl, by rw [ht]; exact hP9, hD9⟩, hS.F ht⟩) hS.2.2 dX0_init_73
