set_option maxHeartbeats 8000000 in
set_option maxRecDepth 100000 in
theorem law_loop {p : Program} {l : Launch} {e : Env} {s : State} {m : MethodId} {below : List Frame} {meth : Method} {c : Code} {D : va_G} {cI cZ : ClassId} {b L : Nat} {xs : Nat → Int32} {h g : Nat → Nat} (RI : Nat → BS → BS → Prop) (hops : OpsOK RI) (hL : L ≤ 3072) (C0 : lw_At p s m meth c b L xs) (hK : va_K D vwCl (bT cI cZ) s) (hN : NW s) (hLX : LX s h g cI cZ) :
    ∀ (n i k : Nat), i = 6 * k → i ≤ L → L + 6 ≤ i + 6 * n → ∀ (S M : BS), RI k S M → ∀ (H : Heap) (locs : List Loc), va_P D vwCl (wB h cI cZ S) H → va_P D vwCl (wBM g cI cZ M) H → va_S (fun q : Nat => s.heap.size ≤ q) s.heap H locs → ∀ (ls : Array Slot), lv_has ls 4 [(0, .ref b), (1, .ref (h 0)), (2, .ref (g 0)), (3, .int (nI i))] → W p l e room_1 s m #[Value.ref b] below meth c H locs 48 35698 (lw_Z below #[Value.ref b] s) (F0 m 18 ls []) := by
  obtain ⟨hx, hb, hr, hml, hown, hts, hX, hbl, hlocks, hgv⟩ := C0
  have hown : s.vm.findClass RL = some m.cls := hown
  have hB : ∀ w ∈ BW, w.before #[Value.ref b] s = true := fun w h => hts w (List.mem_filter.mp h).1
  have hbA : ¬ (fun q : Nat => s.heap.size ≤ q) b := Nat.not_le.mpr hbl
  have z6 : ((6) : Int32).toInt = 6 := by decide
  intro n
  induction n with
  | zero =>
    intro i k hik hiL hin
    exact absurd hin (by omega)
  | succ n ih =>
    intro i k hik hiL hin S M hRI H locs hP hP2 hS ls hl
    refine lv_iload_n hx hb dL_18 rfl (lv_at hl 3 rfl) ?_
    refine lv_aload_n hx hb dL_19 rfl (lv_at hl 0 rfl) ?_
    refine va_slen hx hb hX hbl hbA hS dL_20 ?_
    refine lv_bipush (v := 6) hx hb dL_21 (by decide) ?_
    refine lv_isub hx hb dL_23 ?_
    have eL : (nI L).toInt = L := nI_toInt (by omega)
    have eLs := i32_sub (x := nI L) (y := 6) (by omega) (by omega)
    refine lv_icmp_gt (tgt := 605) hx hb dL_24 (by decide) (fun c_1 => ?_) (fun c_1 => ?_)
    · refine lv_iconst (v := 1) hx hb dL_605 (by decide) ?_
      refine va_forget (fun q hq => hS.2.2 q hq) ?_
      exact lw_ret hx hb hr hlocks dL_606
    · skip
      have ei : (nI i).toInt = i := nI_toInt (by omega)
      have t_1 := mt Int32.lt_iff_toInt_lt.mpr c_1
      have hi6 : i + 6 ≤ L := by
        have e9 : (nI L - 6).toInt = (L : Int) - 6 := by rw [eLs, eL, z6]
        have t_2 : ¬ (nI L - 6).toInt < (nI i).toInt := t_1
        rw [e9, ei] at t_2
        omega
      obtain ⟨⟨hI, hIM, hAS, hWF, hSS, hroom⟩, hdef, o_place, o_street, o_find, o_range, o_point, o_change, o_alias, o_at, o_near, o_order, o_holes, o_where, o_count⟩ := hops k S M (by omega) hRI
      refine lv_aload_n hx hb dL_27 rfl (lv_at hl 0 rfl) ?_
      refine lv_iload_n hx hb dL_28 rfl (lv_at hl 3 rfl) ?_
      refine va_sld hx hb hX hbl hbA hS (vp_in_nI (by omega) (by omega)) dL_29 ?_
      refine lv_bipush (v := 15) hx hb dL_30 (by decide) ?_
      refine lv_iand hx hb dL_32 ?_
      refine lv_topi (fun y ey => ?_)
      have knext : ∀ (S M : BS), RI (k + 1) S M → ∀ (H : Heap) (locs : List Loc), va_P D vwCl (wB h cI cZ S) H → va_P D vwCl (wBM g cI cZ M) H → va_S (fun q : Nat => s.heap.size ≤ q) s.heap H locs → ∀ (ls : Array Slot), lv_has ls 4 [(0, .ref b), (1, .ref (h 0)), (2, .ref (g 0)), (3, .int (nI i))] → W p l e room_1 s m #[Value.ref b] below meth c H locs 48 35698 (lw_Z below #[Value.ref b] s) (F0 m 599 ls []) := by
        intro S M hRI H locs hP hP2 hS ls hl
        refine lv_iinc (v := nI (i + 6)) (lv' := [(3, .int (nI (i + 6))), (0, .ref b), (1, .ref (h 0)), (2, .ref (g 0))]) hx hb dL_599 hl (k := 3) rfl (by rw [← nI_add]; rfl) (by decide) rfl (fun ls hl => ?_)
        refine lv_goto (tgt := 18) hx hb dL_602 (by decide) ?_
        exact ih (i + 6) (k + 1) (by omega) (by omega) (by omega) S M hRI H locs hP hP2 hS ls (lv_sub hl [1, 2, 3, 0] rfl)
      have v_1 : vp_in (nI i + 1) L := by rw [show nI i + 1 = nI (i + 1) from by rw [← nI_add]; rfl]; exact vp_in_nI (by omega) (by omega)
      have v_2 : vp_in (nI i + 2) L := by rw [show nI i + 2 = nI (i + 2) from by rw [← nI_add]; rfl]; exact vp_in_nI (by omega) (by omega)
      have v_3 : vp_in (nI i + 3) L := by rw [show nI i + 3 = nI (i + 3) from by rw [← nI_add]; rfl]; exact vp_in_nI (by omega) (by omega)
      have v_4 : vp_in (nI i + 4) L := by rw [show nI i + 4 = nI (i + 4) from by rw [← nI_add]; rfl]; exact vp_in_nI (by omega) (by omega)
      have v_5 : vp_in (nI i + 5) L := by rw [show nI i + 5 = nI (i + 5) from by rw [← nI_add]; rfl]; exact vp_in_nI (by omega) (by omega)
      by_cases q_0 : y = 0
      · skip
        refine lv_tableIn (tgt := 100) (off := 67) hx hb dL_33 (by rw [q_0]; decide) (by rw [q_0]; decide) (by rw [q_0]; rfl) (by decide) ?_
        refine lv_aload_n hx hb dL_100 rfl (lv_at hl 1 rfl) ?_
        refine lv_aload_n hx hb dL_101 rfl (lv_at hl 0 rfl) ?_
        refine lv_iload_n hx hb dL_102 rfl (lv_at hl 3 rfl) ?_
        refine lv_iconst (v := 1) hx hb dL_103 (by decide) ?_
        refine lv_iadd hx hb dL_104 ?_
        refine va_sld hx hb hX hbl hbA hS v_1 dL_105 ?_
        refine lv_aload_n hx hb dL_106 rfl (lv_at hl 0 rfl) ?_
        refine lv_iload_n hx hb dL_107 rfl (lv_at hl 3 rfl) ?_
        refine lv_iconst (v := 2) hx hb dL_108 (by decide) ?_
        refine lv_iadd hx hb dL_109 ?_
        refine va_sld hx hb hX hbl hbA hS v_2 dL_110 ?_
        refine lw_wb (va_runV (As := [.int (xs (nI i + 1).toNatClampNeg), .int (xs (nI i + 2).toNatClampNeg)]) (rest := []) ⟨hx, hb, hml, hown, hB⟩ (m_A_place l D h cI cZ S hI (xs (nI i + 1).toNatClampNeg) (xs (nI i + 2).toNatClampNeg)) (cwV 2 hB (gV k1_171 k1_172 k1_173 k1_1 k1_174) rfl rfl rfl (by decide +kernel) ⟨Nat.le_of_ble_eq_true rfl, Nat.le_of_ble_eq_true rfl⟩) ⟨wr_blind, va_recv hK hP (ci := 0) (q0 := 0) rfl rfl, wr_pre hP hK hN (wD hLX.2.2.2.1)⟩ rfl rfl hl.1 rfl (lv_room (Nat.le_of_ble_eq_true rfl)) dL_111 ⟨Nat.le_of_ble_eq_true rfl, Nat.le_of_ble_eq_true rfl⟩) hLX hP2 hS (fun H locs hP hP2 jI hS => ?_)
        refine lv_aload_n hx hb dL_114 rfl (lv_at hl 2 rfl) ?_
        refine lv_aload_n hx hb dL_115 rfl (lv_at hl 0 rfl) ?_
        refine lv_iload_n hx hb dL_116 rfl (lv_at hl 3 rfl) ?_
        refine lv_iconst (v := 1) hx hb dL_117 (by decide) ?_
        refine lv_iadd hx hb dL_118 ?_
        refine va_sld hx hb hX hbl hbA hS v_1 dL_119 ?_
        refine lv_aload_n hx hb dL_120 rfl (lv_at hl 0 rfl) ?_
        refine lv_iload_n hx hb dL_121 rfl (lv_at hl 3 rfl) ?_
        refine lv_iconst (v := 2) hx hb dL_122 (by decide) ?_
        refine lv_iadd hx hb dL_123 ?_
        refine va_sld hx hb hX hbl hbA hS v_2 dL_124 ?_
        refine lw_wm (va_runV (As := [.int (xs (nI i + 1).toNatClampNeg), .int (xs (nI i + 2).toNatClampNeg)]) (rest := [.int ((F_A_place S (xs (nI i + 1).toNatClampNeg) (xs (nI i + 2).toNatClampNeg)).1)]) ⟨hx, hb, hml, hown, hB⟩ (m_M_place l D g cI cZ M hIM (xs (nI i + 1).toNatClampNeg) (xs (nI i + 2).toNatClampNeg) ) (cwV 2 hB (gV k3_73 k3_74 k3_75 k1_7 k3_76) rfl rfl rfl (by decide +kernel) ⟨Nat.le_of_ble_eq_true rfl, Nat.le_of_ble_eq_true rfl⟩) ⟨wr_blindM, va_recv hK hP2 (ci := 6) (q0 := 0) rfl rfl, wr_preM hP2 hK hN (wDM hLX.2.2.2.2)⟩ rfl rfl hl.1 rfl (lv_room (Nat.le_of_ble_eq_true rfl)) dL_125 ⟨Nat.le_of_ble_eq_true rfl, Nat.le_of_ble_eq_true rfl⟩) hLX hP hS (fun H locs hP hP2 jM hS => ?_)
        refine lv_icmp_eq (tgt := 599) hx hb dL_128 (by decide) (fun e_1 => ?_) (fun e_1 => ?_)
        · exact knext _ _ ((o_place (xs (nI i + 1).toNatClampNeg) (xs (nI i + 2).toNatClampNeg)).2 jI jM) _ _ hP hP2 hS ls hl
        · exact absurd (o_place (xs (nI i + 1).toNatClampNeg) (xs (nI i + 2).toNatClampNeg)).1 e_1
      by_cases q_1 : y = 1
      · skip
        refine lv_tableIn (tgt := 133) (off := 100) hx hb dL_33 (by rw [q_1]; decide) (by rw [q_1]; decide) (by rw [q_1]; rfl) (by decide) ?_
        refine lv_aload_n hx hb dL_133 rfl (lv_at hl 1 rfl) ?_
        refine lv_aload_n hx hb dL_134 rfl (lv_at hl 0 rfl) ?_
        refine lv_iload_n hx hb dL_135 rfl (lv_at hl 3 rfl) ?_
        refine lv_iconst (v := 1) hx hb dL_136 (by decide) ?_
        refine lv_iadd hx hb dL_137 ?_
        refine va_sld hx hb hX hbl hbA hS v_1 dL_138 ?_
        refine lv_aload_n hx hb dL_139 rfl (lv_at hl 0 rfl) ?_
        refine lv_iload_n hx hb dL_140 rfl (lv_at hl 3 rfl) ?_
        refine lv_iconst (v := 2) hx hb dL_141 (by decide) ?_
        refine lv_iadd hx hb dL_142 ?_
        refine va_sld hx hb hX hbl hbA hS v_2 dL_143 ?_
        refine lw_wb (va_runV (As := [.int (xs (nI i + 1).toNatClampNeg), .int (xs (nI i + 2).toNatClampNeg)]) (rest := []) ⟨hx, hb, hml, hown, hB⟩ (m_A_street l D h cI cZ S hI (xs (nI i + 1).toNatClampNeg) (xs (nI i + 2).toNatClampNeg)) (cwV 2 hB (gV k1_194 k1_195 k1_196 k1_1 k1_197) rfl rfl rfl (by decide +kernel) ⟨Nat.le_of_ble_eq_true rfl, Nat.le_of_ble_eq_true rfl⟩) ⟨wr_blind, va_recv hK hP (ci := 0) (q0 := 0) rfl rfl, wr_pre hP hK hN (wD hLX.2.2.2.1)⟩ rfl rfl hl.1 rfl (lv_room (Nat.le_of_ble_eq_true rfl)) dL_144 ⟨Nat.le_of_ble_eq_true rfl, Nat.le_of_ble_eq_true rfl⟩) hLX hP2 hS (fun H locs hP hP2 jI hS => ?_)
        refine lv_aload_n hx hb dL_147 rfl (lv_at hl 2 rfl) ?_
        refine lv_aload_n hx hb dL_148 rfl (lv_at hl 0 rfl) ?_
        refine lv_iload_n hx hb dL_149 rfl (lv_at hl 3 rfl) ?_
        refine lv_iconst (v := 1) hx hb dL_150 (by decide) ?_
        refine lv_iadd hx hb dL_151 ?_
        refine va_sld hx hb hX hbl hbA hS v_1 dL_152 ?_
        refine lv_aload_n hx hb dL_153 rfl (lv_at hl 0 rfl) ?_
        refine lv_iload_n hx hb dL_154 rfl (lv_at hl 3 rfl) ?_
        refine lv_iconst (v := 2) hx hb dL_155 (by decide) ?_
        refine lv_iadd hx hb dL_156 ?_
        refine va_sld hx hb hX hbl hbA hS v_2 dL_157 ?_
        refine lw_wm (va_runV (As := [.int (xs (nI i + 1).toNatClampNeg), .int (xs (nI i + 2).toNatClampNeg)]) (rest := [.int ((F_A_street S (xs (nI i + 1).toNatClampNeg) (xs (nI i + 2).toNatClampNeg)).1)]) ⟨hx, hb, hml, hown, hB⟩ (m_M_street l D g cI cZ M hIM (xs (nI i + 1).toNatClampNeg) (xs (nI i + 2).toNatClampNeg) ) (cwV 2 hB (gV k3_85 k3_86 k3_87 k1_7 k3_88) rfl rfl rfl (by decide +kernel) ⟨Nat.le_of_ble_eq_true rfl, Nat.le_of_ble_eq_true rfl⟩) ⟨wr_blindM, va_recv hK hP2 (ci := 6) (q0 := 0) rfl rfl, wr_preM hP2 hK hN (wDM hLX.2.2.2.2)⟩ rfl rfl hl.1 rfl (lv_room (Nat.le_of_ble_eq_true rfl)) dL_158 ⟨Nat.le_of_ble_eq_true rfl, Nat.le_of_ble_eq_true rfl⟩) hLX hP hS (fun H locs hP hP2 jM hS => ?_)
        refine lv_icmp_eq (tgt := 599) hx hb dL_161 (by decide) (fun e_1 => ?_) (fun e_1 => ?_)
        · exact knext _ _ ((o_street (xs (nI i + 1).toNatClampNeg) (xs (nI i + 2).toNatClampNeg)).2 jI jM) _ _ hP hP2 hS ls hl
        · exact absurd (o_street (xs (nI i + 1).toNatClampNeg) (xs (nI i + 2).toNatClampNeg)).1 e_1
      by_cases q_2 : y = 2
      · skip
        refine lv_tableIn (tgt := 166) (off := 133) hx hb dL_33 (by rw [q_2]; decide) (by rw [q_2]; decide) (by rw [q_2]; rfl) (by decide) ?_
        refine lv_aload_n hx hb dL_166 rfl (lv_at hl 1 rfl) ?_
        refine lv_aload_n hx hb dL_167 rfl (lv_at hl 0 rfl) ?_
        refine lv_iload_n hx hb dL_168 rfl (lv_at hl 3 rfl) ?_
        refine lv_iconst (v := 1) hx hb dL_169 (by decide) ?_
        refine lv_iadd hx hb dL_170 ?_
        refine va_sld hx hb hX hbl hbA hS v_1 dL_171 ?_
        refine lv_aload_n hx hb dL_172 rfl (lv_at hl 0 rfl) ?_
        refine lv_iload_n hx hb dL_173 rfl (lv_at hl 3 rfl) ?_
        refine lv_iconst (v := 2) hx hb dL_174 (by decide) ?_
        refine lv_iadd hx hb dL_175 ?_
        refine va_sld hx hb hX hbl hbA hS v_2 dL_176 ?_
        refine lw_pu (va_runV (As := [.int (xs (nI i + 1).toNatClampNeg), .int (xs (nI i + 2).toNatClampNeg)]) (rest := []) ⟨hx, hb, hml, hown, hB⟩ (m_A_find l D h cI cZ S hI (xs (nI i + 1).toNatClampNeg) (xs (nI i + 2).toNatClampNeg)) (cwV 2 hB (gV k1_214 k1_215 k1_216 k1_1 k1_217) rfl rfl rfl (by decide +kernel) ⟨Nat.le_of_ble_eq_true rfl, Nat.le_of_ble_eq_true rfl⟩) ⟨pu_blind, va_recv hK hP (ci := 0) (q0 := 0) rfl rfl, pu_pre hP hK hN⟩ rfl rfl hl.1 rfl (lv_room (Nat.le_of_ble_eq_true rfl)) dL_177 ⟨Nat.le_of_ble_eq_true rfl, Nat.le_of_ble_eq_true rfl⟩) hP hP2 hS (fun H locs hP hP2 hS => ?_)
        refine lv_aload_n hx hb dL_180 rfl (lv_at hl 2 rfl) ?_
        refine lv_aload_n hx hb dL_181 rfl (lv_at hl 0 rfl) ?_
        refine lv_iload_n hx hb dL_182 rfl (lv_at hl 3 rfl) ?_
        refine lv_iconst (v := 1) hx hb dL_183 (by decide) ?_
        refine lv_iadd hx hb dL_184 ?_
        refine va_sld hx hb hX hbl hbA hS v_1 dL_185 ?_
        refine lv_aload_n hx hb dL_186 rfl (lv_at hl 0 rfl) ?_
        refine lv_iload_n hx hb dL_187 rfl (lv_at hl 3 rfl) ?_
        refine lv_iconst (v := 2) hx hb dL_188 (by decide) ?_
        refine lv_iadd hx hb dL_189 ?_
        refine va_sld hx hb hX hbl hbA hS v_2 dL_190 ?_
        refine lw_pu (va_runV (As := [.int (xs (nI i + 1).toNatClampNeg), .int (xs (nI i + 2).toNatClampNeg)]) (rest := [.int (f_A_find S (xs (nI i + 1).toNatClampNeg) (xs (nI i + 2).toNatClampNeg))]) ⟨hx, hb, hml, hown, hB⟩ (m_M_find l D g cI cZ M hIM (xs (nI i + 1).toNatClampNeg) (xs (nI i + 2).toNatClampNeg) ) (cwV 2 hB (gV k3_93 k3_94 k3_95 k1_7 k3_96) rfl rfl rfl (by decide +kernel) ⟨Nat.le_of_ble_eq_true rfl, Nat.le_of_ble_eq_true rfl⟩) ⟨pu_blindM, va_recv hK hP2 (ci := 6) (q0 := 0) rfl rfl, pu_preM hP2 hK hN⟩ rfl rfl hl.1 rfl (lv_room (Nat.le_of_ble_eq_true rfl)) dL_191 ⟨Nat.le_of_ble_eq_true rfl, Nat.le_of_ble_eq_true rfl⟩) hP hP2 hS (fun H locs hP hP2 hS => ?_)
        refine lv_icmp_eq (tgt := 599) hx hb dL_194 (by decide) (fun e_1 => ?_) (fun e_1 => ?_)
        · exact knext _ _ ((o_find (xs (nI i + 1).toNatClampNeg) (xs (nI i + 2).toNatClampNeg)).2 hI hIM) _ _ hP hP2 hS ls hl
        · exact absurd (o_find (xs (nI i + 1).toNatClampNeg) (xs (nI i + 2).toNatClampNeg)).1 e_1
      by_cases q_3 : y = 3
      · skip
        refine lv_tableIn (tgt := 199) (off := 166) hx hb dL_33 (by rw [q_3]; decide) (by rw [q_3]; decide) (by rw [q_3]; rfl) (by decide) ?_
        refine lv_aload_n hx hb dL_199 rfl (lv_at hl 1 rfl) ?_
        refine lv_aload_n hx hb dL_200 rfl (lv_at hl 0 rfl) ?_
        refine lv_iload_n hx hb dL_201 rfl (lv_at hl 3 rfl) ?_
        refine lv_iconst (v := 1) hx hb dL_202 (by decide) ?_
        refine lv_iadd hx hb dL_203 ?_
        refine va_sld hx hb hX hbl hbA hS v_1 dL_204 ?_
        refine lv_aload_n hx hb dL_205 rfl (lv_at hl 0 rfl) ?_
        refine lv_iload_n hx hb dL_206 rfl (lv_at hl 3 rfl) ?_
        refine lv_iconst (v := 2) hx hb dL_207 (by decide) ?_
        refine lv_iadd hx hb dL_208 ?_
        refine va_sld hx hb hX hbl hbA hS v_2 dL_209 ?_
        refine lv_aload_n hx hb dL_210 rfl (lv_at hl 0 rfl) ?_
        refine lv_iload_n hx hb dL_211 rfl (lv_at hl 3 rfl) ?_
        refine lv_iconst (v := 3) hx hb dL_212 (by decide) ?_
        refine lv_iadd hx hb dL_213 ?_
        refine va_sld hx hb hX hbl hbA hS v_3 dL_214 ?_
        refine lv_aload_n hx hb dL_215 rfl (lv_at hl 0 rfl) ?_
        refine lv_iload_n hx hb dL_216 rfl (lv_at hl 3 rfl) ?_
        refine lv_iconst (v := 4) hx hb dL_217 (by decide) ?_
        refine lv_iadd hx hb dL_218 ?_
        refine va_sld hx hb hX hbl hbA hS v_4 dL_219 ?_
        refine lv_aload_n hx hb dL_220 rfl (lv_at hl 0 rfl) ?_
        refine lv_iload_n hx hb dL_221 rfl (lv_at hl 3 rfl) ?_
        refine lv_iconst (v := 5) hx hb dL_222 (by decide) ?_
        refine lv_iadd hx hb dL_223 ?_
        refine va_sld hx hb hX hbl hbA hS v_5 dL_224 ?_
        refine lw_wb (va_runV (As := [.int (xs (nI i + 1).toNatClampNeg), .int (xs (nI i + 2).toNatClampNeg), .int (xs (nI i + 3).toNatClampNeg), .int (xs (nI i + 4).toNatClampNeg), .int (xs (nI i + 5).toNatClampNeg)]) (rest := []) ⟨hx, hb, hml, hown, hB⟩ (m_A_range l D h cI cZ S hI (xs (nI i + 1).toNatClampNeg) (xs (nI i + 2).toNatClampNeg) (xs (nI i + 3).toNatClampNeg) (xs (nI i + 4).toNatClampNeg) (xs (nI i + 5).toNatClampNeg)) (cwV 5 hB (gV k1_218 k1_219 k1_220 k1_1 k1_221) rfl rfl rfl (by decide +kernel) ⟨Nat.le_of_ble_eq_true rfl, Nat.le_of_ble_eq_true rfl⟩) ⟨wr_blind, va_recv hK hP (ci := 0) (q0 := 0) rfl rfl, wr_pre hP hK hN (wD hLX.2.2.2.1)⟩ rfl rfl hl.1 rfl (lv_room (Nat.le_of_ble_eq_true rfl)) dL_225 ⟨Nat.le_of_ble_eq_true rfl, Nat.le_of_ble_eq_true rfl⟩) hLX hP2 hS (fun H locs hP hP2 jI hS => ?_)
        refine lv_aload_n hx hb dL_228 rfl (lv_at hl 2 rfl) ?_
        refine lv_aload_n hx hb dL_229 rfl (lv_at hl 0 rfl) ?_
        refine lv_iload_n hx hb dL_230 rfl (lv_at hl 3 rfl) ?_
        refine lv_iconst (v := 1) hx hb dL_231 (by decide) ?_
        refine lv_iadd hx hb dL_232 ?_
        refine va_sld hx hb hX hbl hbA hS v_1 dL_233 ?_
        refine lv_aload_n hx hb dL_234 rfl (lv_at hl 0 rfl) ?_
        refine lv_iload_n hx hb dL_235 rfl (lv_at hl 3 rfl) ?_
        refine lv_iconst (v := 2) hx hb dL_236 (by decide) ?_
        refine lv_iadd hx hb dL_237 ?_
        refine va_sld hx hb hX hbl hbA hS v_2 dL_238 ?_
        refine lv_aload_n hx hb dL_239 rfl (lv_at hl 0 rfl) ?_
        refine lv_iload_n hx hb dL_240 rfl (lv_at hl 3 rfl) ?_
        refine lv_iconst (v := 3) hx hb dL_241 (by decide) ?_
        refine lv_iadd hx hb dL_242 ?_
        refine va_sld hx hb hX hbl hbA hS v_3 dL_243 ?_
        refine lv_aload_n hx hb dL_244 rfl (lv_at hl 0 rfl) ?_
        refine lv_iload_n hx hb dL_245 rfl (lv_at hl 3 rfl) ?_
        refine lv_iconst (v := 4) hx hb dL_246 (by decide) ?_
        refine lv_iadd hx hb dL_247 ?_
        refine va_sld hx hb hX hbl hbA hS v_4 dL_248 ?_
        refine lv_aload_n hx hb dL_249 rfl (lv_at hl 0 rfl) ?_
        refine lv_iload_n hx hb dL_250 rfl (lv_at hl 3 rfl) ?_
        refine lv_iconst (v := 5) hx hb dL_251 (by decide) ?_
        refine lv_iadd hx hb dL_252 ?_
        refine va_sld hx hb hX hbl hbA hS v_5 dL_253 ?_
        refine lw_wm (va_runV (As := [.int (xs (nI i + 1).toNatClampNeg), .int (xs (nI i + 2).toNatClampNeg), .int (xs (nI i + 3).toNatClampNeg), .int (xs (nI i + 4).toNatClampNeg), .int (xs (nI i + 5).toNatClampNeg)]) (rest := [.int ((F_A_range S (xs (nI i + 1).toNatClampNeg) (xs (nI i + 2).toNatClampNeg) (xs (nI i + 3).toNatClampNeg) (xs (nI i + 4).toNatClampNeg) (xs (nI i + 5).toNatClampNeg)).1)]) ⟨hx, hb, hml, hown, hB⟩ (m_M_range l D g cI cZ M hIM (xs (nI i + 1).toNatClampNeg) (xs (nI i + 2).toNatClampNeg) (xs (nI i + 3).toNatClampNeg) (xs (nI i + 4).toNatClampNeg) (xs (nI i + 5).toNatClampNeg) ) (cwV 5 hB (gV k3_97 k3_98 k3_99 k1_7 k3_100) rfl rfl rfl (by decide +kernel) ⟨Nat.le_of_ble_eq_true rfl, Nat.le_of_ble_eq_true rfl⟩) ⟨wr_blindM, va_recv hK hP2 (ci := 6) (q0 := 0) rfl rfl, wr_preM hP2 hK hN (wDM hLX.2.2.2.2)⟩ rfl rfl hl.1 rfl (lv_room (Nat.le_of_ble_eq_true rfl)) dL_254 ⟨Nat.le_of_ble_eq_true rfl, Nat.le_of_ble_eq_true rfl⟩) hLX hP hS (fun H locs hP hP2 jM hS => ?_)
        refine lv_icmp_eq (tgt := 599) hx hb dL_257 (by decide) (fun e_1 => ?_) (fun e_1 => ?_)
        · exact knext _ _ ((o_range (xs (nI i + 1).toNatClampNeg) (xs (nI i + 2).toNatClampNeg) (xs (nI i + 3).toNatClampNeg) (xs (nI i + 4).toNatClampNeg) (xs (nI i + 5).toNatClampNeg)).2 jI jM) _ _ hP hP2 hS ls hl
        · exact absurd (o_range (xs (nI i + 1).toNatClampNeg) (xs (nI i + 2).toNatClampNeg) (xs (nI i + 3).toNatClampNeg) (xs (nI i + 4).toNatClampNeg) (xs (nI i + 5).toNatClampNeg)).1 e_1
      by_cases q_4 : y = 4
      · skip
        refine lv_tableIn (tgt := 262) (off := 229) hx hb dL_33 (by rw [q_4]; decide) (by rw [q_4]; decide) (by rw [q_4]; rfl) (by decide) ?_
        refine lv_aload_n hx hb dL_262 rfl (lv_at hl 1 rfl) ?_
        refine lv_aload_n hx hb dL_263 rfl (lv_at hl 0 rfl) ?_
        refine lv_iload_n hx hb dL_264 rfl (lv_at hl 3 rfl) ?_
        refine lv_iconst (v := 1) hx hb dL_265 (by decide) ?_
        refine lv_iadd hx hb dL_266 ?_
        refine va_sld hx hb hX hbl hbA hS v_1 dL_267 ?_
        refine lv_aload_n hx hb dL_268 rfl (lv_at hl 0 rfl) ?_
        refine lv_iload_n hx hb dL_269 rfl (lv_at hl 3 rfl) ?_
        refine lv_iconst (v := 2) hx hb dL_270 (by decide) ?_
        refine lv_iadd hx hb dL_271 ?_
        refine va_sld hx hb hX hbl hbA hS v_2 dL_272 ?_
        refine lv_aload_n hx hb dL_273 rfl (lv_at hl 0 rfl) ?_
        refine lv_iload_n hx hb dL_274 rfl (lv_at hl 3 rfl) ?_
        refine lv_iconst (v := 3) hx hb dL_275 (by decide) ?_
        refine lv_iadd hx hb dL_276 ?_
        refine va_sld hx hb hX hbl hbA hS v_3 dL_277 ?_
        refine lw_wb (va_runV (As := [.int (xs (nI i + 1).toNatClampNeg), .int (xs (nI i + 2).toNatClampNeg), .int (xs (nI i + 3).toNatClampNeg)]) (rest := []) ⟨hx, hb, hml, hown, hB⟩ (m_A_point l D h cI cZ S hI (xs (nI i + 1).toNatClampNeg) (xs (nI i + 2).toNatClampNeg) (xs (nI i + 3).toNatClampNeg)) (cwV 3 hB (gV k2_38 k2_39 k2_40 k1_1 k2_41) rfl rfl rfl (by decide +kernel) ⟨Nat.le_of_ble_eq_true rfl, Nat.le_of_ble_eq_true rfl⟩) ⟨wr_blind, va_recv hK hP (ci := 0) (q0 := 0) rfl rfl, wr_pre hP hK hN (wD hLX.2.2.2.1)⟩ rfl rfl hl.1 rfl (lv_room (Nat.le_of_ble_eq_true rfl)) dL_278 ⟨Nat.le_of_ble_eq_true rfl, Nat.le_of_ble_eq_true rfl⟩) hLX hP2 hS (fun H locs hP hP2 jI hS => ?_)
        refine lv_aload_n hx hb dL_281 rfl (lv_at hl 2 rfl) ?_
        refine lv_aload_n hx hb dL_282 rfl (lv_at hl 0 rfl) ?_
        refine lv_iload_n hx hb dL_283 rfl (lv_at hl 3 rfl) ?_
        refine lv_iconst (v := 1) hx hb dL_284 (by decide) ?_
        refine lv_iadd hx hb dL_285 ?_
        refine va_sld hx hb hX hbl hbA hS v_1 dL_286 ?_
        refine lv_aload_n hx hb dL_287 rfl (lv_at hl 0 rfl) ?_
        refine lv_iload_n hx hb dL_288 rfl (lv_at hl 3 rfl) ?_
        refine lv_iconst (v := 2) hx hb dL_289 (by decide) ?_
        refine lv_iadd hx hb dL_290 ?_
        refine va_sld hx hb hX hbl hbA hS v_2 dL_291 ?_
        refine lv_aload_n hx hb dL_292 rfl (lv_at hl 0 rfl) ?_
        refine lv_iload_n hx hb dL_293 rfl (lv_at hl 3 rfl) ?_
        refine lv_iconst (v := 3) hx hb dL_294 (by decide) ?_
        refine lv_iadd hx hb dL_295 ?_
        refine va_sld hx hb hX hbl hbA hS v_3 dL_296 ?_
        refine lw_wm (va_runV (As := [.int (xs (nI i + 1).toNatClampNeg), .int (xs (nI i + 2).toNatClampNeg), .int (xs (nI i + 3).toNatClampNeg)]) (rest := [.int ((F_A_point S (xs (nI i + 1).toNatClampNeg) (xs (nI i + 2).toNatClampNeg) (xs (nI i + 3).toNatClampNeg)).1)]) ⟨hx, hb, hml, hown, hB⟩ (m_M_point l D g cI cZ M hIM (xs (nI i + 1).toNatClampNeg) (xs (nI i + 2).toNatClampNeg) (xs (nI i + 3).toNatClampNeg) hAS (by omega)) (cwV 3 hB (gV k3_125 k3_126 k3_127 k1_7 k3_128) rfl rfl rfl (by decide +kernel) ⟨Nat.le_of_ble_eq_true rfl, Nat.le_of_ble_eq_true rfl⟩) ⟨wr_blindM, va_recv hK hP2 (ci := 6) (q0 := 0) rfl rfl, wr_preM hP2 hK hN (wDM hLX.2.2.2.2)⟩ rfl rfl hl.1 rfl (lv_room (Nat.le_of_ble_eq_true rfl)) dL_297 ⟨Nat.le_of_ble_eq_true rfl, Nat.le_of_ble_eq_true rfl⟩) hLX hP hS (fun H locs hP hP2 jM hS => ?_)
        refine lv_icmp_eq (tgt := 599) hx hb dL_300 (by decide) (fun e_1 => ?_) (fun e_1 => ?_)
        · exact knext _ _ ((o_point (xs (nI i + 1).toNatClampNeg) (xs (nI i + 2).toNatClampNeg) (xs (nI i + 3).toNatClampNeg)).2 jI jM) _ _ hP hP2 hS ls hl
        · exact absurd (o_point (xs (nI i + 1).toNatClampNeg) (xs (nI i + 2).toNatClampNeg) (xs (nI i + 3).toNatClampNeg)).1 e_1
      by_cases q_5 : y = 5
      · skip
        refine lv_tableIn (tgt := 305) (off := 272) hx hb dL_33 (by rw [q_5]; decide) (by rw [q_5]; decide) (by rw [q_5]; rfl) (by decide) ?_
        refine lv_aload_n hx hb dL_305 rfl (lv_at hl 1 rfl) ?_
        refine lv_aload_n hx hb dL_306 rfl (lv_at hl 0 rfl) ?_
        refine lv_iload_n hx hb dL_307 rfl (lv_at hl 3 rfl) ?_
        refine lv_iconst (v := 1) hx hb dL_308 (by decide) ?_
        refine lv_iadd hx hb dL_309 ?_
        refine va_sld hx hb hX hbl hbA hS v_1 dL_310 ?_
        refine lv_aload_n hx hb dL_311 rfl (lv_at hl 0 rfl) ?_
        refine lv_iload_n hx hb dL_312 rfl (lv_at hl 3 rfl) ?_
        refine lv_iconst (v := 2) hx hb dL_313 (by decide) ?_
        refine lv_iadd hx hb dL_314 ?_
        refine va_sld hx hb hX hbl hbA hS v_2 dL_315 ?_
        refine lv_aload_n hx hb dL_316 rfl (lv_at hl 0 rfl) ?_
        refine lv_iload_n hx hb dL_317 rfl (lv_at hl 3 rfl) ?_
        refine lv_iconst (v := 3) hx hb dL_318 (by decide) ?_
        refine lv_iadd hx hb dL_319 ?_
        refine va_sld hx hb hX hbl hbA hS v_3 dL_320 ?_
        refine lv_aload_n hx hb dL_321 rfl (lv_at hl 0 rfl) ?_
        refine lv_iload_n hx hb dL_322 rfl (lv_at hl 3 rfl) ?_
        refine lv_iconst (v := 4) hx hb dL_323 (by decide) ?_
        refine lv_iadd hx hb dL_324 ?_
        refine va_sld hx hb hX hbl hbA hS v_4 dL_325 ?_
        refine lw_wb (va_runV (As := [.int (xs (nI i + 1).toNatClampNeg), .int (xs (nI i + 2).toNatClampNeg), .int (xs (nI i + 3).toNatClampNeg), .int (xs (nI i + 4).toNatClampNeg)]) (rest := []) ⟨hx, hb, hml, hown, hB⟩ (m_A_change l D h cI cZ S hI (xs (nI i + 1).toNatClampNeg) (xs (nI i + 2).toNatClampNeg) (xs (nI i + 3).toNatClampNeg) (xs (nI i + 4).toNatClampNeg)) (cwV 4 hB (gV k2_80 k2_81 k2_82 k1_1 k2_83) rfl rfl rfl (by decide +kernel) ⟨Nat.le_of_ble_eq_true rfl, Nat.le_of_ble_eq_true rfl⟩) ⟨wr_blind, va_recv hK hP (ci := 0) (q0 := 0) rfl rfl, wr_pre hP hK hN (wD hLX.2.2.2.1)⟩ rfl rfl hl.1 rfl (lv_room (Nat.le_of_ble_eq_true rfl)) dL_326 ⟨Nat.le_of_ble_eq_true rfl, Nat.le_of_ble_eq_true rfl⟩) hLX hP2 hS (fun H locs hP hP2 jI hS => ?_)
        refine lv_aload_n hx hb dL_329 rfl (lv_at hl 2 rfl) ?_
        refine lv_aload_n hx hb dL_330 rfl (lv_at hl 0 rfl) ?_
        refine lv_iload_n hx hb dL_331 rfl (lv_at hl 3 rfl) ?_
        refine lv_iconst (v := 1) hx hb dL_332 (by decide) ?_
        refine lv_iadd hx hb dL_333 ?_
        refine va_sld hx hb hX hbl hbA hS v_1 dL_334 ?_
        refine lv_aload_n hx hb dL_335 rfl (lv_at hl 0 rfl) ?_
        refine lv_iload_n hx hb dL_336 rfl (lv_at hl 3 rfl) ?_
        refine lv_iconst (v := 2) hx hb dL_337 (by decide) ?_
        refine lv_iadd hx hb dL_338 ?_
        refine va_sld hx hb hX hbl hbA hS v_2 dL_339 ?_
        refine lv_aload_n hx hb dL_340 rfl (lv_at hl 0 rfl) ?_
        refine lv_iload_n hx hb dL_341 rfl (lv_at hl 3 rfl) ?_
        refine lv_iconst (v := 3) hx hb dL_342 (by decide) ?_
        refine lv_iadd hx hb dL_343 ?_
        refine va_sld hx hb hX hbl hbA hS v_3 dL_344 ?_
        refine lv_aload_n hx hb dL_345 rfl (lv_at hl 0 rfl) ?_
        refine lv_iload_n hx hb dL_346 rfl (lv_at hl 3 rfl) ?_
        refine lv_iconst (v := 4) hx hb dL_347 (by decide) ?_
        refine lv_iadd hx hb dL_348 ?_
        refine va_sld hx hb hX hbl hbA hS v_4 dL_349 ?_
        refine lw_wm (va_runV (As := [.int (xs (nI i + 1).toNatClampNeg), .int (xs (nI i + 2).toNatClampNeg), .int (xs (nI i + 3).toNatClampNeg), .int (xs (nI i + 4).toNatClampNeg)]) (rest := [.int ((F_A_change S (xs (nI i + 1).toNatClampNeg) (xs (nI i + 2).toNatClampNeg) (xs (nI i + 3).toNatClampNeg) (xs (nI i + 4).toNatClampNeg)).1)]) ⟨hx, hb, hml, hown, hB⟩ (m_M_change l D g cI cZ M hIM (xs (nI i + 1).toNatClampNeg) (xs (nI i + 2).toNatClampNeg) (xs (nI i + 3).toNatClampNeg) (xs (nI i + 4).toNatClampNeg) hAS (by omega)) (cwV 4 hB (gV k3_150 k3_151 k3_152 k1_7 k3_153) rfl rfl rfl (by decide +kernel) ⟨Nat.le_of_ble_eq_true rfl, Nat.le_of_ble_eq_true rfl⟩) ⟨wr_blindM, va_recv hK hP2 (ci := 6) (q0 := 0) rfl rfl, wr_preM hP2 hK hN (wDM hLX.2.2.2.2)⟩ rfl rfl hl.1 rfl (lv_room (Nat.le_of_ble_eq_true rfl)) dL_350 ⟨Nat.le_of_ble_eq_true rfl, Nat.le_of_ble_eq_true rfl⟩) hLX hP hS (fun H locs hP hP2 jM hS => ?_)
        refine lv_icmp_eq (tgt := 599) hx hb dL_353 (by decide) (fun e_1 => ?_) (fun e_1 => ?_)
        · exact knext _ _ ((o_change (xs (nI i + 1).toNatClampNeg) (xs (nI i + 2).toNatClampNeg) (xs (nI i + 3).toNatClampNeg) (xs (nI i + 4).toNatClampNeg)).2 jI jM) _ _ hP hP2 hS ls hl
        · exact absurd (o_change (xs (nI i + 1).toNatClampNeg) (xs (nI i + 2).toNatClampNeg) (xs (nI i + 3).toNatClampNeg) (xs (nI i + 4).toNatClampNeg)).1 e_1
      by_cases q_6 : y = 6
      · skip
        refine lv_tableIn (tgt := 358) (off := 325) hx hb dL_33 (by rw [q_6]; decide) (by rw [q_6]; decide) (by rw [q_6]; rfl) (by decide) ?_
        refine lv_aload_n hx hb dL_358 rfl (lv_at hl 1 rfl) ?_
        refine lv_aload_n hx hb dL_359 rfl (lv_at hl 0 rfl) ?_
        refine lv_iload_n hx hb dL_360 rfl (lv_at hl 3 rfl) ?_
        refine lv_iconst (v := 1) hx hb dL_361 (by decide) ?_
        refine lv_iadd hx hb dL_362 ?_
        refine va_sld hx hb hX hbl hbA hS v_1 dL_363 ?_
        refine lv_aload_n hx hb dL_364 rfl (lv_at hl 0 rfl) ?_
        refine lv_iload_n hx hb dL_365 rfl (lv_at hl 3 rfl) ?_
        refine lv_iconst (v := 2) hx hb dL_366 (by decide) ?_
        refine lv_iadd hx hb dL_367 ?_
        refine va_sld hx hb hX hbl hbA hS v_2 dL_368 ?_
        refine lv_aload_n hx hb dL_369 rfl (lv_at hl 0 rfl) ?_
        refine lv_iload_n hx hb dL_370 rfl (lv_at hl 3 rfl) ?_
        refine lv_iconst (v := 3) hx hb dL_371 (by decide) ?_
        refine lv_iadd hx hb dL_372 ?_
        refine va_sld hx hb hX hbl hbA hS v_3 dL_373 ?_
        refine lw_wb (va_runV (As := [.int (xs (nI i + 1).toNatClampNeg), .int (xs (nI i + 2).toNatClampNeg), .int (xs (nI i + 3).toNatClampNeg)]) (rest := []) ⟨hx, hb, hml, hown, hB⟩ (m_A_alias l D h cI cZ S hI (xs (nI i + 1).toNatClampNeg) (xs (nI i + 2).toNatClampNeg) (xs (nI i + 3).toNatClampNeg)) (cwV 3 hB (gV k2_141 k2_142 k2_143 k1_1 k2_144) rfl rfl rfl (by decide +kernel) ⟨Nat.le_of_ble_eq_true rfl, Nat.le_of_ble_eq_true rfl⟩) ⟨wr_blind, va_recv hK hP (ci := 0) (q0 := 0) rfl rfl, wr_pre hP hK hN (wD hLX.2.2.2.1)⟩ rfl rfl hl.1 rfl (lv_room (Nat.le_of_ble_eq_true rfl)) dL_374 ⟨Nat.le_of_ble_eq_true rfl, Nat.le_of_ble_eq_true rfl⟩) hLX hP2 hS (fun H locs hP hP2 jI hS => ?_)
        refine lv_aload_n hx hb dL_377 rfl (lv_at hl 2 rfl) ?_
        refine lv_aload_n hx hb dL_378 rfl (lv_at hl 0 rfl) ?_
        refine lv_iload_n hx hb dL_379 rfl (lv_at hl 3 rfl) ?_
        refine lv_iconst (v := 1) hx hb dL_380 (by decide) ?_
        refine lv_iadd hx hb dL_381 ?_
        refine va_sld hx hb hX hbl hbA hS v_1 dL_382 ?_
        refine lv_aload_n hx hb dL_383 rfl (lv_at hl 0 rfl) ?_
        refine lv_iload_n hx hb dL_384 rfl (lv_at hl 3 rfl) ?_
        refine lv_iconst (v := 2) hx hb dL_385 (by decide) ?_
        refine lv_iadd hx hb dL_386 ?_
        refine va_sld hx hb hX hbl hbA hS v_2 dL_387 ?_
        refine lv_aload_n hx hb dL_388 rfl (lv_at hl 0 rfl) ?_
        refine lv_iload_n hx hb dL_389 rfl (lv_at hl 3 rfl) ?_
        refine lv_iconst (v := 3) hx hb dL_390 (by decide) ?_
        refine lv_iadd hx hb dL_391 ?_
        refine va_sld hx hb hX hbl hbA hS v_3 dL_392 ?_
        refine lw_wm (va_runV (As := [.int (xs (nI i + 1).toNatClampNeg), .int (xs (nI i + 2).toNatClampNeg), .int (xs (nI i + 3).toNatClampNeg)]) (rest := [.int ((F_A_alias S (xs (nI i + 1).toNatClampNeg) (xs (nI i + 2).toNatClampNeg) (xs (nI i + 3).toNatClampNeg)).1)]) ⟨hx, hb, hml, hown, hB⟩ (m_M_alias l D g cI cZ M hIM (xs (nI i + 1).toNatClampNeg) (xs (nI i + 2).toNatClampNeg) (xs (nI i + 3).toNatClampNeg) hWF) (cwV 3 hB (gV k3_198 k3_199 k3_200 k1_7 k3_201) rfl rfl rfl (by decide +kernel) ⟨Nat.le_of_ble_eq_true rfl, Nat.le_of_ble_eq_true rfl⟩) ⟨wr_blindM, va_recv hK hP2 (ci := 6) (q0 := 0) rfl rfl, wr_preM hP2 hK hN (wDM hLX.2.2.2.2)⟩ rfl rfl hl.1 rfl (lv_room (Nat.le_of_ble_eq_true rfl)) dL_393 ⟨Nat.le_of_ble_eq_true rfl, Nat.le_of_ble_eq_true rfl⟩) hLX hP hS (fun H locs hP hP2 jM hS => ?_)
        refine lv_icmp_eq (tgt := 599) hx hb dL_396 (by decide) (fun e_1 => ?_) (fun e_1 => ?_)
        · exact knext _ _ ((o_alias (xs (nI i + 1).toNatClampNeg) (xs (nI i + 2).toNatClampNeg) (xs (nI i + 3).toNatClampNeg)).2 jI jM) _ _ hP hP2 hS ls hl
        · exact absurd (o_alias (xs (nI i + 1).toNatClampNeg) (xs (nI i + 2).toNatClampNeg) (xs (nI i + 3).toNatClampNeg)).1 e_1
      by_cases q_7 : y = 7
      · skip
        refine lv_tableIn (tgt := 401) (off := 368) hx hb dL_33 (by rw [q_7]; decide) (by rw [q_7]; decide) (by rw [q_7]; rfl) (by decide) ?_
        refine lv_aload_n hx hb dL_401 rfl (lv_at hl 1 rfl) ?_
        refine lv_aload_n hx hb dL_402 rfl (lv_at hl 0 rfl) ?_
        refine lv_iload_n hx hb dL_403 rfl (lv_at hl 3 rfl) ?_
        refine lv_iconst (v := 1) hx hb dL_404 (by decide) ?_
        refine lv_iadd hx hb dL_405 ?_
        refine va_sld hx hb hX hbl hbA hS v_1 dL_406 ?_
        refine lv_aload_n hx hb dL_407 rfl (lv_at hl 0 rfl) ?_
        refine lv_iload_n hx hb dL_408 rfl (lv_at hl 3 rfl) ?_
        refine lv_iconst (v := 2) hx hb dL_409 (by decide) ?_
        refine lv_iadd hx hb dL_410 ?_
        refine va_sld hx hb hX hbl hbA hS v_2 dL_411 ?_
        refine lv_aload_n hx hb dL_412 rfl (lv_at hl 0 rfl) ?_
        refine lv_iload_n hx hb dL_413 rfl (lv_at hl 3 rfl) ?_
        refine lv_iconst (v := 3) hx hb dL_414 (by decide) ?_
        refine lv_iadd hx hb dL_415 ?_
        refine va_sld hx hb hX hbl hbA hS v_3 dL_416 ?_
        refine lv_aload_n hx hb dL_417 rfl (lv_at hl 0 rfl) ?_
        refine lv_iload_n hx hb dL_418 rfl (lv_at hl 3 rfl) ?_
        refine lv_iconst (v := 4) hx hb dL_419 (by decide) ?_
        refine lv_iadd hx hb dL_420 ?_
        refine va_sld hx hb hX hbl hbA hS v_4 dL_421 ?_
        refine lw_pu (va_runV (As := [.int (xs (nI i + 1).toNatClampNeg), .int (xs (nI i + 2).toNatClampNeg), .int (xs (nI i + 3).toNatClampNeg), .int (xs (nI i + 4).toNatClampNeg)]) (rest := []) ⟨hx, hb, hml, hown, hB⟩ (m_A_at l D h cI cZ S hI (xs (nI i + 1).toNatClampNeg) (xs (nI i + 2).toNatClampNeg) (xs (nI i + 3).toNatClampNeg) (xs (nI i + 4).toNatClampNeg)) (cwV 4 hB (gV k2_153 k2_154 k2_155 k1_1 k2_156) rfl rfl rfl (by decide +kernel) ⟨Nat.le_of_ble_eq_true rfl, Nat.le_of_ble_eq_true rfl⟩) ⟨pu_blind, va_recv hK hP (ci := 0) (q0 := 0) rfl rfl, pu_pre hP hK hN⟩ rfl rfl hl.1 rfl (lv_room (Nat.le_of_ble_eq_true rfl)) dL_422 ⟨Nat.le_of_ble_eq_true rfl, Nat.le_of_ble_eq_true rfl⟩) hP hP2 hS (fun H locs hP hP2 hS => ?_)
        refine lv_aload_n hx hb dL_425 rfl (lv_at hl 2 rfl) ?_
        refine lv_aload_n hx hb dL_426 rfl (lv_at hl 0 rfl) ?_
        refine lv_iload_n hx hb dL_427 rfl (lv_at hl 3 rfl) ?_
        refine lv_iconst (v := 1) hx hb dL_428 (by decide) ?_
        refine lv_iadd hx hb dL_429 ?_
        refine va_sld hx hb hX hbl hbA hS v_1 dL_430 ?_
        refine lv_aload_n hx hb dL_431 rfl (lv_at hl 0 rfl) ?_
        refine lv_iload_n hx hb dL_432 rfl (lv_at hl 3 rfl) ?_
        refine lv_iconst (v := 2) hx hb dL_433 (by decide) ?_
        refine lv_iadd hx hb dL_434 ?_
        refine va_sld hx hb hX hbl hbA hS v_2 dL_435 ?_
        refine lv_aload_n hx hb dL_436 rfl (lv_at hl 0 rfl) ?_
        refine lv_iload_n hx hb dL_437 rfl (lv_at hl 3 rfl) ?_
        refine lv_iconst (v := 3) hx hb dL_438 (by decide) ?_
        refine lv_iadd hx hb dL_439 ?_
        refine va_sld hx hb hX hbl hbA hS v_3 dL_440 ?_
        refine lv_aload_n hx hb dL_441 rfl (lv_at hl 0 rfl) ?_
        refine lv_iload_n hx hb dL_442 rfl (lv_at hl 3 rfl) ?_
        refine lv_iconst (v := 4) hx hb dL_443 (by decide) ?_
        refine lv_iadd hx hb dL_444 ?_
        refine va_sld hx hb hX hbl hbA hS v_4 dL_445 ?_
        refine lw_pu (va_runV (As := [.int (xs (nI i + 1).toNatClampNeg), .int (xs (nI i + 2).toNatClampNeg), .int (xs (nI i + 3).toNatClampNeg), .int (xs (nI i + 4).toNatClampNeg)]) (rest := [.int (f_A_at S (xs (nI i + 1).toNatClampNeg) (xs (nI i + 2).toNatClampNeg) (xs (nI i + 3).toNatClampNeg) (xs (nI i + 4).toNatClampNeg))]) ⟨hx, hb, hml, hown, hB⟩ (m_M_at l D g cI cZ M hIM (xs (nI i + 1).toNatClampNeg) (xs (nI i + 2).toNatClampNeg) (xs (nI i + 3).toNatClampNeg) (xs (nI i + 4).toNatClampNeg) hWF hSS) (cwV 4 hB (gV k3_206 k3_207 k3_208 k1_7 k3_209) rfl rfl rfl (by decide +kernel) ⟨Nat.le_of_ble_eq_true rfl, Nat.le_of_ble_eq_true rfl⟩) ⟨pu_blindM, va_recv hK hP2 (ci := 6) (q0 := 0) rfl rfl, pu_preM hP2 hK hN⟩ rfl rfl hl.1 rfl (lv_room (Nat.le_of_ble_eq_true rfl)) dL_446 ⟨Nat.le_of_ble_eq_true rfl, Nat.le_of_ble_eq_true rfl⟩) hP hP2 hS (fun H locs hP hP2 hS => ?_)
        refine lv_icmp_eq (tgt := 599) hx hb dL_449 (by decide) (fun e_1 => ?_) (fun e_1 => ?_)
        · exact knext _ _ ((o_at (xs (nI i + 1).toNatClampNeg) (xs (nI i + 2).toNatClampNeg) (xs (nI i + 3).toNatClampNeg) (xs (nI i + 4).toNatClampNeg)).2 hI hIM) _ _ hP hP2 hS ls hl
        · exact absurd (o_at (xs (nI i + 1).toNatClampNeg) (xs (nI i + 2).toNatClampNeg) (xs (nI i + 3).toNatClampNeg) (xs (nI i + 4).toNatClampNeg)).1 e_1
      by_cases q_8 : y = 8
      · skip
        refine lv_tableIn (tgt := 454) (off := 421) hx hb dL_33 (by rw [q_8]; decide) (by rw [q_8]; decide) (by rw [q_8]; rfl) (by decide) ?_
        refine lv_aload_n hx hb dL_454 rfl (lv_at hl 1 rfl) ?_
        refine lv_aload_n hx hb dL_455 rfl (lv_at hl 0 rfl) ?_
        refine lv_iload_n hx hb dL_456 rfl (lv_at hl 3 rfl) ?_
        refine lv_iconst (v := 1) hx hb dL_457 (by decide) ?_
        refine lv_iadd hx hb dL_458 ?_
        refine va_sld hx hb hX hbl hbA hS v_1 dL_459 ?_
        refine lv_aload_n hx hb dL_460 rfl (lv_at hl 0 rfl) ?_
        refine lv_iload_n hx hb dL_461 rfl (lv_at hl 3 rfl) ?_
        refine lv_iconst (v := 2) hx hb dL_462 (by decide) ?_
        refine lv_iadd hx hb dL_463 ?_
        refine va_sld hx hb hX hbl hbA hS v_2 dL_464 ?_
        refine lw_pu (va_runV (As := [.int (xs (nI i + 1).toNatClampNeg), .int (xs (nI i + 2).toNatClampNeg)]) (rest := []) ⟨hx, hb, hml, hown, hB⟩ (m_A_near l D h cI cZ S hI (xs (nI i + 1).toNatClampNeg) (xs (nI i + 2).toNatClampNeg)) (cwV 2 hB (gV k2_184 k2_185 k2_186 k1_1 k2_187) rfl rfl rfl (by decide +kernel) ⟨Nat.le_of_ble_eq_true rfl, Nat.le_of_ble_eq_true rfl⟩) ⟨pu_blind, va_recv hK hP (ci := 0) (q0 := 0) rfl rfl, pu_pre hP hK hN⟩ rfl rfl hl.1 rfl (lv_room (Nat.le_of_ble_eq_true rfl)) dL_465 ⟨Nat.le_of_ble_eq_true rfl, Nat.le_of_ble_eq_true rfl⟩) hP hP2 hS (fun H locs hP hP2 hS => ?_)
        refine lv_aload_n hx hb dL_468 rfl (lv_at hl 2 rfl) ?_
        refine lv_aload_n hx hb dL_469 rfl (lv_at hl 0 rfl) ?_
        refine lv_iload_n hx hb dL_470 rfl (lv_at hl 3 rfl) ?_
        refine lv_iconst (v := 1) hx hb dL_471 (by decide) ?_
        refine lv_iadd hx hb dL_472 ?_
        refine va_sld hx hb hX hbl hbA hS v_1 dL_473 ?_
        refine lv_aload_n hx hb dL_474 rfl (lv_at hl 0 rfl) ?_
        refine lv_iload_n hx hb dL_475 rfl (lv_at hl 3 rfl) ?_
        refine lv_iconst (v := 2) hx hb dL_476 (by decide) ?_
        refine lv_iadd hx hb dL_477 ?_
        refine va_sld hx hb hX hbl hbA hS v_2 dL_478 ?_
        refine lw_pu (va_runV (As := [.int (xs (nI i + 1).toNatClampNeg), .int (xs (nI i + 2).toNatClampNeg)]) (rest := [.int (f_A_near S (xs (nI i + 1).toNatClampNeg) (xs (nI i + 2).toNatClampNeg))]) ⟨hx, hb, hml, hown, hB⟩ (m_M_near l D g cI cZ M hIM (xs (nI i + 1).toNatClampNeg) (xs (nI i + 2).toNatClampNeg) hAS hWF) (cwV 2 hB (gV k3_210 k3_211 k3_212 k1_7 k3_213) rfl rfl rfl (by decide +kernel) ⟨Nat.le_of_ble_eq_true rfl, Nat.le_of_ble_eq_true rfl⟩) ⟨pu_blindM, va_recv hK hP2 (ci := 6) (q0 := 0) rfl rfl, pu_preM hP2 hK hN⟩ rfl rfl hl.1 rfl (lv_room (Nat.le_of_ble_eq_true rfl)) dL_479 ⟨Nat.le_of_ble_eq_true rfl, Nat.le_of_ble_eq_true rfl⟩) hP hP2 hS (fun H locs hP hP2 hS => ?_)
        refine lv_icmp_eq (tgt := 599) hx hb dL_482 (by decide) (fun e_1 => ?_) (fun e_1 => ?_)
        · exact knext _ _ ((o_near (xs (nI i + 1).toNatClampNeg) (xs (nI i + 2).toNatClampNeg)).2 hI hIM) _ _ hP hP2 hS ls hl
        · exact absurd (o_near (xs (nI i + 1).toNatClampNeg) (xs (nI i + 2).toNatClampNeg)).1 e_1
      by_cases q_9 : y = 9
      · skip
        refine lv_tableIn (tgt := 487) (off := 454) hx hb dL_33 (by rw [q_9]; decide) (by rw [q_9]; decide) (by rw [q_9]; rfl) (by decide) ?_
        refine lv_aload_n hx hb dL_487 rfl (lv_at hl 1 rfl) ?_
        refine lv_aload_n hx hb dL_488 rfl (lv_at hl 0 rfl) ?_
        refine lv_iload_n hx hb dL_489 rfl (lv_at hl 3 rfl) ?_
        refine lv_iconst (v := 1) hx hb dL_490 (by decide) ?_
        refine lv_iadd hx hb dL_491 ?_
        refine va_sld hx hb hX hbl hbA hS v_1 dL_492 ?_
        refine lw_pu (va_runV (As := [.int (xs (nI i + 1).toNatClampNeg)]) (rest := []) ⟨hx, hb, hml, hown, hB⟩ (m_A_order l D h cI cZ S hI (xs (nI i + 1).toNatClampNeg)) (cwV 1 hB (gV k2_195 k2_196 k2_197 k1_1 k2_198) rfl rfl rfl (by decide +kernel) ⟨Nat.le_of_ble_eq_true rfl, Nat.le_of_ble_eq_true rfl⟩) ⟨pu_blind, va_recv hK hP (ci := 0) (q0 := 0) rfl rfl, pu_pre hP hK hN⟩ rfl rfl hl.1 rfl (lv_room (Nat.le_of_ble_eq_true rfl)) dL_493 ⟨Nat.le_of_ble_eq_true rfl, Nat.le_of_ble_eq_true rfl⟩) hP hP2 hS (fun H locs hP hP2 hS => ?_)
        refine lv_aload_n hx hb dL_496 rfl (lv_at hl 2 rfl) ?_
        refine lv_aload_n hx hb dL_497 rfl (lv_at hl 0 rfl) ?_
        refine lv_iload_n hx hb dL_498 rfl (lv_at hl 3 rfl) ?_
        refine lv_iconst (v := 1) hx hb dL_499 (by decide) ?_
        refine lv_iadd hx hb dL_500 ?_
        refine va_sld hx hb hX hbl hbA hS v_1 dL_501 ?_
        refine lw_pu (va_runV (As := [.int (xs (nI i + 1).toNatClampNeg)]) (rest := [.int (f_A_order S (xs (nI i + 1).toNatClampNeg))]) ⟨hx, hb, hml, hown, hB⟩ (m_M_order l D g cI cZ M hIM (xs (nI i + 1).toNatClampNeg) hAS) (cwV 1 hB (gV k3_214 k3_215 k3_216 k1_7 k3_217) rfl rfl rfl (by decide +kernel) ⟨Nat.le_of_ble_eq_true rfl, Nat.le_of_ble_eq_true rfl⟩) ⟨pu_blindM, va_recv hK hP2 (ci := 6) (q0 := 0) rfl rfl, pu_preM hP2 hK hN⟩ rfl rfl hl.1 rfl (lv_room (Nat.le_of_ble_eq_true rfl)) dL_502 ⟨Nat.le_of_ble_eq_true rfl, Nat.le_of_ble_eq_true rfl⟩) hP hP2 hS (fun H locs hP hP2 hS => ?_)
        refine lv_icmp_eq (tgt := 599) hx hb dL_505 (by decide) (fun e_1 => ?_) (fun e_1 => ?_)
        · exact knext _ _ ((o_order (xs (nI i + 1).toNatClampNeg)).2 hI hIM) _ _ hP hP2 hS ls hl
        · exact absurd (o_order (xs (nI i + 1).toNatClampNeg)).1 e_1
      by_cases q_10 : y = 10
      · skip
        refine lv_tableIn (tgt := 510) (off := 477) hx hb dL_33 (by rw [q_10]; decide) (by rw [q_10]; decide) (by rw [q_10]; rfl) (by decide) ?_
        refine lv_aload_n hx hb dL_510 rfl (lv_at hl 1 rfl) ?_
        refine lv_aload_n hx hb dL_511 rfl (lv_at hl 0 rfl) ?_
        refine lv_iload_n hx hb dL_512 rfl (lv_at hl 3 rfl) ?_
        refine lv_iconst (v := 1) hx hb dL_513 (by decide) ?_
        refine lv_iadd hx hb dL_514 ?_
        refine va_sld hx hb hX hbl hbA hS v_1 dL_515 ?_
        refine lw_wb (va_runV (As := [.int (xs (nI i + 1).toNatClampNeg)]) (rest := []) ⟨hx, hb, hml, hown, hB⟩ (m_A_holes l D h cI cZ S hI (xs (nI i + 1).toNatClampNeg)) (cwV 1 hB (gV k2_203 k2_204 k2_205 k1_1 k2_206) rfl rfl rfl (by decide +kernel) ⟨Nat.le_of_ble_eq_true rfl, Nat.le_of_ble_eq_true rfl⟩) ⟨wr_blind, va_recv hK hP (ci := 0) (q0 := 0) rfl rfl, wr_pre hP hK hN (wD hLX.2.2.2.1)⟩ rfl rfl hl.1 rfl (lv_room (Nat.le_of_ble_eq_true rfl)) dL_516 ⟨Nat.le_of_ble_eq_true rfl, Nat.le_of_ble_eq_true rfl⟩) hLX hP2 hS (fun H locs hP hP2 jI hS => ?_)
        refine lv_aload_n hx hb dL_519 rfl (lv_at hl 2 rfl) ?_
        refine lv_aload_n hx hb dL_520 rfl (lv_at hl 0 rfl) ?_
        refine lv_iload_n hx hb dL_521 rfl (lv_at hl 3 rfl) ?_
        refine lv_iconst (v := 1) hx hb dL_522 (by decide) ?_
        refine lv_iadd hx hb dL_523 ?_
        refine va_sld hx hb hX hbl hbA hS v_1 dL_524 ?_
        refine lw_pu (va_runV (As := [.int (xs (nI i + 1).toNatClampNeg)]) (rest := [.int ((F_A_holes S (xs (nI i + 1).toNatClampNeg)).1)]) ⟨hx, hb, hml, hown, hB⟩ (m_M_holes l D g cI cZ M hIM (xs (nI i + 1).toNatClampNeg) hAS hWF) (cwV 1 hB (gV k3_222 k3_223 k3_224 k1_7 k3_225) rfl rfl rfl (by decide +kernel) ⟨Nat.le_of_ble_eq_true rfl, Nat.le_of_ble_eq_true rfl⟩) ⟨pu_blindM, va_recv hK hP2 (ci := 6) (q0 := 0) rfl rfl, pu_preM hP2 hK hN⟩ rfl rfl hl.1 rfl (lv_room (Nat.le_of_ble_eq_true rfl)) dL_525 ⟨Nat.le_of_ble_eq_true rfl, Nat.le_of_ble_eq_true rfl⟩) hP hP2 hS (fun H locs hP hP2 hS => ?_)
        refine lv_icmp_eq (tgt := 599) hx hb dL_528 (by decide) (fun e_1 => ?_) (fun e_1 => ?_)
        · exact knext _ _ ((o_holes (xs (nI i + 1).toNatClampNeg)).2 jI hIM) _ _ hP hP2 hS ls hl
        · exact absurd (o_holes (xs (nI i + 1).toNatClampNeg)).1 e_1
      by_cases q_11 : y = 11
      · skip
        refine lv_tableIn (tgt := 533) (off := 500) hx hb dL_33 (by rw [q_11]; decide) (by rw [q_11]; decide) (by rw [q_11]; rfl) (by decide) ?_
        refine lv_aload_n hx hb dL_533 rfl (lv_at hl 1 rfl) ?_
        refine lv_aload_n hx hb dL_534 rfl (lv_at hl 0 rfl) ?_
        refine lv_iload_n hx hb dL_535 rfl (lv_at hl 3 rfl) ?_
        refine lv_iconst (v := 1) hx hb dL_536 (by decide) ?_
        refine lv_iadd hx hb dL_537 ?_
        refine va_sld hx hb hX hbl hbA hS v_1 dL_538 ?_
        refine lv_aload_n hx hb dL_539 rfl (lv_at hl 0 rfl) ?_
        refine lv_iload_n hx hb dL_540 rfl (lv_at hl 3 rfl) ?_
        refine lv_iconst (v := 2) hx hb dL_541 (by decide) ?_
        refine lv_iadd hx hb dL_542 ?_
        refine va_sld hx hb hX hbl hbA hS v_2 dL_543 ?_
        refine lv_aload_n hx hb dL_544 rfl (lv_at hl 0 rfl) ?_
        refine lv_iload_n hx hb dL_545 rfl (lv_at hl 3 rfl) ?_
        refine lv_iconst (v := 3) hx hb dL_546 (by decide) ?_
        refine lv_iadd hx hb dL_547 ?_
        refine va_sld hx hb hX hbl hbA hS v_3 dL_548 ?_
        refine lw_pu (va_runV (As := [.int (xs (nI i + 1).toNatClampNeg), .int (xs (nI i + 2).toNatClampNeg), .int (xs (nI i + 3).toNatClampNeg)]) (rest := []) ⟨hx, hb, hml, hown, hB⟩ (m_A_where l D h cI cZ S hI (xs (nI i + 1).toNatClampNeg) (xs (nI i + 2).toNatClampNeg) (xs (nI i + 3).toNatClampNeg)) (cwV 3 hB (gV k2_215 k2_216 k2_217 k1_1 k2_218) rfl rfl rfl (by decide +kernel) ⟨Nat.le_of_ble_eq_true rfl, Nat.le_of_ble_eq_true rfl⟩) ⟨pu_blind, va_recv hK hP (ci := 0) (q0 := 0) rfl rfl, pu_pre hP hK hN⟩ rfl rfl hl.1 rfl (lv_room (Nat.le_of_ble_eq_true rfl)) dL_549 ⟨Nat.le_of_ble_eq_true rfl, Nat.le_of_ble_eq_true rfl⟩) hP hP2 hS (fun H locs hP hP2 hS => ?_)
        refine lv_aload_n hx hb dL_552 rfl (lv_at hl 2 rfl) ?_
        refine lv_aload_n hx hb dL_553 rfl (lv_at hl 0 rfl) ?_
        refine lv_iload_n hx hb dL_554 rfl (lv_at hl 3 rfl) ?_
        refine lv_iconst (v := 1) hx hb dL_555 (by decide) ?_
        refine lv_iadd hx hb dL_556 ?_
        refine va_sld hx hb hX hbl hbA hS v_1 dL_557 ?_
        refine lv_aload_n hx hb dL_558 rfl (lv_at hl 0 rfl) ?_
        refine lv_iload_n hx hb dL_559 rfl (lv_at hl 3 rfl) ?_
        refine lv_iconst (v := 2) hx hb dL_560 (by decide) ?_
        refine lv_iadd hx hb dL_561 ?_
        refine va_sld hx hb hX hbl hbA hS v_2 dL_562 ?_
        refine lv_aload_n hx hb dL_563 rfl (lv_at hl 0 rfl) ?_
        refine lv_iload_n hx hb dL_564 rfl (lv_at hl 3 rfl) ?_
        refine lv_iconst (v := 3) hx hb dL_565 (by decide) ?_
        refine lv_iadd hx hb dL_566 ?_
        refine va_sld hx hb hX hbl hbA hS v_3 dL_567 ?_
        refine lw_pu (va_runV (As := [.int (xs (nI i + 1).toNatClampNeg), .int (xs (nI i + 2).toNatClampNeg), .int (xs (nI i + 3).toNatClampNeg)]) (rest := [.int (f_A_where S (xs (nI i + 1).toNatClampNeg) (xs (nI i + 2).toNatClampNeg) (xs (nI i + 3).toNatClampNeg))]) ⟨hx, hb, hml, hown, hB⟩ (m_M_where l D g cI cZ M hIM (xs (nI i + 1).toNatClampNeg) (xs (nI i + 2).toNatClampNeg) (xs (nI i + 3).toNatClampNeg) ) (cwV 3 hB (gV k3_226 k3_227 k3_228 k1_7 k3_229) rfl rfl rfl (by decide +kernel) ⟨Nat.le_of_ble_eq_true rfl, Nat.le_of_ble_eq_true rfl⟩) ⟨pu_blindM, va_recv hK hP2 (ci := 6) (q0 := 0) rfl rfl, pu_preM hP2 hK hN⟩ rfl rfl hl.1 rfl (lv_room (Nat.le_of_ble_eq_true rfl)) dL_568 ⟨Nat.le_of_ble_eq_true rfl, Nat.le_of_ble_eq_true rfl⟩) hP hP2 hS (fun H locs hP hP2 hS => ?_)
        refine lv_icmp_eq (tgt := 599) hx hb dL_571 (by decide) (fun e_1 => ?_) (fun e_1 => ?_)
        · exact knext _ _ ((o_where (xs (nI i + 1).toNatClampNeg) (xs (nI i + 2).toNatClampNeg) (xs (nI i + 3).toNatClampNeg)).2 hI hIM) _ _ hP hP2 hS ls hl
        · exact absurd (o_where (xs (nI i + 1).toNatClampNeg) (xs (nI i + 2).toNatClampNeg) (xs (nI i + 3).toNatClampNeg)).1 e_1
      by_cases q_12 : y = 12
      · skip
        refine lv_tableIn (tgt := 576) (off := 543) hx hb dL_33 (by rw [q_12]; decide) (by rw [q_12]; decide) (by rw [q_12]; rfl) (by decide) ?_
        refine lv_aload_n hx hb dL_576 rfl (lv_at hl 1 rfl) ?_
        refine lv_aload_n hx hb dL_577 rfl (lv_at hl 0 rfl) ?_
        refine lv_iload_n hx hb dL_578 rfl (lv_at hl 3 rfl) ?_
        refine lv_iconst (v := 1) hx hb dL_579 (by decide) ?_
        refine lv_iadd hx hb dL_580 ?_
        refine va_sld hx hb hX hbl hbA hS v_1 dL_581 ?_
        refine lw_pu (va_runV (As := [.int (xs (nI i + 1).toNatClampNeg)]) (rest := []) ⟨hx, hb, hml, hown, hB⟩ (m_A_count l D h cI cZ S hI (xs (nI i + 1).toNatClampNeg)) (cwV 1 hB (gV k2_224 k2_225 k2_226 k1_1 k2_227) rfl rfl rfl (by decide +kernel) ⟨Nat.le_of_ble_eq_true rfl, Nat.le_of_ble_eq_true rfl⟩) ⟨pu_blind, va_recv hK hP (ci := 0) (q0 := 0) rfl rfl, pu_pre hP hK hN⟩ rfl rfl hl.1 rfl (lv_room (Nat.le_of_ble_eq_true rfl)) dL_582 ⟨Nat.le_of_ble_eq_true rfl, Nat.le_of_ble_eq_true rfl⟩) hP hP2 hS (fun H locs hP hP2 hS => ?_)
        refine lv_aload_n hx hb dL_585 rfl (lv_at hl 2 rfl) ?_
        refine lv_aload_n hx hb dL_586 rfl (lv_at hl 0 rfl) ?_
        refine lv_iload_n hx hb dL_587 rfl (lv_at hl 3 rfl) ?_
        refine lv_iconst (v := 1) hx hb dL_588 (by decide) ?_
        refine lv_iadd hx hb dL_589 ?_
        refine va_sld hx hb hX hbl hbA hS v_1 dL_590 ?_
        refine lw_pu (va_runV (As := [.int (xs (nI i + 1).toNatClampNeg)]) (rest := [.int (f_A_count S (xs (nI i + 1).toNatClampNeg))]) ⟨hx, hb, hml, hown, hB⟩ (m_M_count l D g cI cZ M hIM (xs (nI i + 1).toNatClampNeg) ) (cwV 1 hB (gV k3_230 k3_231 k3_232 k1_7 k3_233) rfl rfl rfl (by decide +kernel) ⟨Nat.le_of_ble_eq_true rfl, Nat.le_of_ble_eq_true rfl⟩) ⟨pu_blindM, va_recv hK hP2 (ci := 6) (q0 := 0) rfl rfl, pu_preM hP2 hK hN⟩ rfl rfl hl.1 rfl (lv_room (Nat.le_of_ble_eq_true rfl)) dL_591 ⟨Nat.le_of_ble_eq_true rfl, Nat.le_of_ble_eq_true rfl⟩) hP hP2 hS (fun H locs hP hP2 hS => ?_)
        refine lv_icmp_eq (tgt := 599) hx hb dL_594 (by decide) (fun e_1 => ?_) (fun e_1 => ?_)
        · exact knext _ _ ((o_count (xs (nI i + 1).toNatClampNeg)).2 hI hIM) _ _ hP hP2 hS ls hl
        · exact absurd (o_count (xs (nI i + 1).toNatClampNeg)).1 e_1
      refine lv_tableOut (tgt := 599) hx hb dL_33 (by have n0 := lv_neT q_0 (show ((0) : Int32).toInt = 0 by decide); have n1 := lv_neT q_1 (show ((1) : Int32).toInt = 1 by decide); have n2 := lv_neT q_2 (show ((2) : Int32).toInt = 2 by decide); have n3 := lv_neT q_3 (show ((3) : Int32).toInt = 3 by decide); have n4 := lv_neT q_4 (show ((4) : Int32).toInt = 4 by decide); have n5 := lv_neT q_5 (show ((5) : Int32).toInt = 5 by decide); have n6 := lv_neT q_6 (show ((6) : Int32).toInt = 6 by decide); have n7 := lv_neT q_7 (show ((7) : Int32).toInt = 7 by decide); have n8 := lv_neT q_8 (show ((8) : Int32).toInt = 8 by decide); have n9 := lv_neT q_9 (show ((9) : Int32).toInt = 9 by decide); have n10 := lv_neT q_10 (show ((10) : Int32).toInt = 10 by decide); have n11 := lv_neT q_11 (show ((11) : Int32).toInt = 11 by decide); have n12 := lv_neT q_12 (show ((12) : Int32).toInt = 12 by decide); omega) (by decide) ?_
      exact knext S M hdef _ _ hP hP2 hS ls hl
